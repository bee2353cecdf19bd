section
-- ===== PART A: goes FIRST, ahead of the names: the tables' words, and 'selects' of the private methods out of them =====
/-- a private method of a class that the tables say can be made, by its rows of tables_1 -/
def lw_okq (q : MethodName × Nat) : Prop := (q.1.cls ≠ "java/lang/invoke/MethodHandle" ∧ q.1.cls ≠ "java/lang/invoke/VarHandle") ∧ Cond.instantiable q.1.cls q.2 ∈ tables_1 ∧ Cond.privateMethod q.1 ∈ tables_1 ∧ Cond.instanceMethod q.1 ∈ tables_1
theorem lw_p0 : lw_okq (⟨"LighthouseLiedTo$Reader", "advance", "()V"⟩, 7) := ⟨⟨by decide +kernel, by decide +kernel⟩, List.mem_of_getElem? (i := 28) (by decide +kernel), List.mem_of_getElem? (i := 207) (by decide +kernel), List.mem_of_getElem? (i := 208) (by decide +kernel)⟩
theorem lw_p1 : lw_okq (⟨"LighthouseLiedTo$Reader", "word", "()I"⟩, 7) := ⟨⟨by decide +kernel, by decide +kernel⟩, List.mem_of_getElem? (i := 28) (by decide +kernel), List.mem_of_getElem? (i := 214) (by decide +kernel), List.mem_of_getElem? (i := 215) (by decide +kernel)⟩
theorem lw_p2 : lw_okq (⟨"LighthouseLiedTo$Reader", "spells", "(Ljava/lang/String;)Z"⟩, 7) := ⟨⟨by decide +kernel, by decide +kernel⟩, List.mem_of_getElem? (i := 28) (by decide +kernel), List.mem_of_getElem? (i := 219) (by decide +kernel), List.mem_of_getElem? (i := 220) (by decide +kernel)⟩
theorem lw_p3 : lw_okq (⟨"LighthouseLiedTo$Reader", "number", "()I"⟩, 7) := ⟨⟨by decide +kernel, by decide +kernel⟩, List.mem_of_getElem? (i := 28) (by decide +kernel), List.mem_of_getElem? (i := 239) (by decide +kernel), List.mem_of_getElem? (i := 240) (by decide +kernel)⟩
theorem lw_p4 : lw_okq (⟨"LighthouseLiedTo$Reader", "expect", "(I)V"⟩, 7) := ⟨⟨by decide +kernel, by decide +kernel⟩, List.mem_of_getElem? (i := 28) (by decide +kernel), List.mem_of_getElem? (i := 246) (by decide +kernel), List.mem_of_getElem? (i := 247) (by decide +kernel)⟩
theorem lw_p5 : lw_okq (⟨"LighthouseLiedTo$Reader", "fail", "()V"⟩, 7) := ⟨⟨by decide +kernel, by decide +kernel⟩, List.mem_of_getElem? (i := 28) (by decide +kernel), List.mem_of_getElem? (i := 250) (by decide +kernel), List.mem_of_getElem? (i := 251) (by decide +kernel)⟩
theorem lw_p6 : lw_okq (⟨"LighthouseLiedTo$Reader", "joined", "(II)V"⟩, 7) := ⟨⟨by decide +kernel, by decide +kernel⟩, List.mem_of_getElem? (i := 28) (by decide +kernel), List.mem_of_getElem? (i := 254) (by decide +kernel), List.mem_of_getElem? (i := 255) (by decide +kernel)⟩
theorem lw_p7 : lw_okq (⟨"LighthouseLiedTo$Reader", "one", "(I)V"⟩, 7) := ⟨⟨by decide +kernel, by decide +kernel⟩, List.mem_of_getElem? (i := 28) (by decide +kernel), List.mem_of_getElem? (i := 258) (by decide +kernel), List.mem_of_getElem? (i := 259) (by decide +kernel)⟩
theorem lw_p8 : lw_okq (⟨"LighthouseLiedTo$Reader", "mayOpen", "(I)Z"⟩, 7) := ⟨⟨by decide +kernel, by decide +kernel⟩, List.mem_of_getElem? (i := 28) (by decide +kernel), List.mem_of_getElem? (i := 266) (by decide +kernel), List.mem_of_getElem? (i := 267) (by decide +kernel)⟩
theorem lw_p9 : lw_okq (⟨"LighthouseLiedTo", "isShip", "(I)Z"⟩, 10) := ⟨⟨by decide +kernel, by decide +kernel⟩, List.mem_of_getElem? (i := 16) (by decide +kernel), List.mem_of_getElem? (i := 385) (by decide +kernel), List.mem_of_getElem? (i := 386) (by decide +kernel)⟩
theorem lw_p10 : lw_okq (⟨"LighthouseLiedTo$Sea", "lose", "(I)V"⟩, 12) := ⟨⟨by decide +kernel, by decide +kernel⟩, List.mem_of_getElem? (i := 93) (by decide +kernel), List.mem_of_getElem? (i := 457) (by decide +kernel), List.mem_of_getElem? (i := 458) (by decide +kernel)⟩
theorem lw_p11 : lw_okq (⟨"LighthouseLiedTo", "think", "()V"⟩, 10) := ⟨⟨by decide +kernel, by decide +kernel⟩, List.mem_of_getElem? (i := 16) (by decide +kernel), List.mem_of_getElem? (i := 469) (by decide +kernel), List.mem_of_getElem? (i := 470) (by decide +kernel)⟩
theorem lw_p12 : lw_okq (⟨"LighthouseLiedTo", "refusalToJudge", "(II)I"⟩, 10) := ⟨⟨by decide +kernel, by decide +kernel⟩, List.mem_of_getElem? (i := 16) (by decide +kernel), List.mem_of_getElem? (i := 545) (by decide +kernel), List.mem_of_getElem? (i := 546) (by decide +kernel)⟩
theorem lw_p13 : lw_okq (⟨"LighthouseLiedTo", "refusalOfTold", "(I)I"⟩, 10) := ⟨⟨by decide +kernel, by decide +kernel⟩, List.mem_of_getElem? (i := 16) (by decide +kernel), List.mem_of_getElem? (i := 549) (by decide +kernel), List.mem_of_getElem? (i := 550) (by decide +kernel)⟩
theorem lw_p14 : lw_okq (⟨"LighthouseLiedTo", "firstOtherwise", "(II)I"⟩, 10) := ⟨⟨by decide +kernel, by decide +kernel⟩, List.mem_of_getElem? (i := 16) (by decide +kernel), List.mem_of_getElem? (i := 556) (by decide +kernel), List.mem_of_getElem? (i := 557) (by decide +kernel)⟩
theorem lw_p15 : lw_okq (⟨"LighthouseLiedTo", "lossesByTale", "(II)I"⟩, 10) := ⟨⟨by decide +kernel, by decide +kernel⟩, List.mem_of_getElem? (i := 16) (by decide +kernel), List.mem_of_getElem? (i := 601) (by decide +kernel), List.mem_of_getElem? (i := 602) (by decide +kernel)⟩
def lw_privs_1 : List (MethodName × Nat) := [(⟨"LighthouseLiedTo$Reader", "advance", "()V"⟩, 7), (⟨"LighthouseLiedTo$Reader", "word", "()I"⟩, 7), (⟨"LighthouseLiedTo$Reader", "spells", "(Ljava/lang/String;)Z"⟩, 7), (⟨"LighthouseLiedTo$Reader", "number", "()I"⟩, 7), (⟨"LighthouseLiedTo$Reader", "expect", "(I)V"⟩, 7), (⟨"LighthouseLiedTo$Reader", "fail", "()V"⟩, 7), (⟨"LighthouseLiedTo$Reader", "joined", "(II)V"⟩, 7), (⟨"LighthouseLiedTo$Reader", "one", "(I)V"⟩, 7), (⟨"LighthouseLiedTo$Reader", "mayOpen", "(I)Z"⟩, 7), (⟨"LighthouseLiedTo", "isShip", "(I)Z"⟩, 10), (⟨"LighthouseLiedTo$Sea", "lose", "(I)V"⟩, 12), (⟨"LighthouseLiedTo", "think", "()V"⟩, 10), (⟨"LighthouseLiedTo", "refusalToJudge", "(II)I"⟩, 10), (⟨"LighthouseLiedTo", "refusalOfTold", "(I)I"⟩, 10), (⟨"LighthouseLiedTo", "firstOtherwise", "(II)I"⟩, 10), (⟨"LighthouseLiedTo", "lossesByTale", "(II)I"⟩, 10)]
theorem lw_r1 : ∀ q ∈ lw_privs_1, lw_okq q := List.forall_mem_cons.mpr ⟨lw_p0, List.forall_mem_cons.mpr ⟨lw_p1, List.forall_mem_cons.mpr ⟨lw_p2, List.forall_mem_cons.mpr ⟨lw_p3, List.forall_mem_cons.mpr ⟨lw_p4, List.forall_mem_cons.mpr ⟨lw_p5, List.forall_mem_cons.mpr ⟨lw_p6, List.forall_mem_cons.mpr ⟨lw_p7, List.forall_mem_cons.mpr ⟨lw_p8, List.forall_mem_cons.mpr ⟨lw_p9, List.forall_mem_cons.mpr ⟨lw_p10, List.forall_mem_cons.mpr ⟨lw_p11, List.forall_mem_cons.mpr ⟨lw_p12, List.forall_mem_cons.mpr ⟨lw_p13, List.forall_mem_cons.mpr ⟨lw_p14, List.forall_mem_cons.mpr ⟨lw_p15, fun _ h => absurd h List.not_mem_nil⟩⟩⟩⟩⟩⟩⟩⟩⟩⟩⟩⟩⟩⟩⟩⟩
theorem lw_p16 : lw_okq (⟨"LighthouseLiedToModel", "next", "()V"⟩, 37) := ⟨⟨by decide +kernel, by decide +kernel⟩, List.mem_of_getElem? (i := 653) (by decide +kernel), List.mem_of_getElem? (i := 663) (by decide +kernel), List.mem_of_getElem? (i := 664) (by decide +kernel)⟩
theorem lw_p17 : lw_okq (⟨"LighthouseLiedToModel", "wordFrom", "(II)I"⟩, 37) := ⟨⟨by decide +kernel, by decide +kernel⟩, List.mem_of_getElem? (i := 653) (by decide +kernel), List.mem_of_getElem? (i := 670) (by decide +kernel), List.mem_of_getElem? (i := 671) (by decide +kernel)⟩
theorem lw_p18 : lw_okq (⟨"LighthouseLiedToModel", "eRead", "()Z"⟩, 37) := ⟨⟨by decide +kernel, by decide +kernel⟩, List.mem_of_getElem? (i := 653) (by decide +kernel), List.mem_of_getElem? (i := 674) (by decide +kernel), List.mem_of_getElem? (i := 675) (by decide +kernel)⟩
theorem lw_p19 : lw_okq (⟨"LighthouseLiedToModel", "puts", "(I)V"⟩, 37) := ⟨⟨by decide +kernel, by decide +kernel⟩, List.mem_of_getElem? (i := 653) (by decide +kernel), List.mem_of_getElem? (i := 679) (by decide +kernel), List.mem_of_getElem? (i := 680) (by decide +kernel)⟩
theorem lw_p20 : lw_okq (⟨"LighthouseLiedToModel", "unwinds", "(I)V"⟩, 37) := ⟨⟨by decide +kernel, by decide +kernel⟩, List.mem_of_getElem? (i := 653) (by decide +kernel), List.mem_of_getElem? (i := 683) (by decide +kernel), List.mem_of_getElem? (i := 684) (by decide +kernel)⟩
theorem lw_p21 : lw_okq (⟨"LighthouseLiedToModel", "opensOne", "(I)Z"⟩, 37) := ⟨⟨by decide +kernel, by decide +kernel⟩, List.mem_of_getElem? (i := 653) (by decide +kernel), List.mem_of_getElem? (i := 690) (by decide +kernel), List.mem_of_getElem? (i := 691) (by decide +kernel)⟩
theorem lw_p22 : lw_okq (⟨"LighthouseLiedToModel", "holds", "(I)V"⟩, 37) := ⟨⟨by decide +kernel, by decide +kernel⟩, List.mem_of_getElem? (i := 653) (by decide +kernel), List.mem_of_getElem? (i := 694) (by decide +kernel), List.mem_of_getElem? (i := 695) (by decide +kernel)⟩
theorem lw_p23 : lw_okq (⟨"LighthouseLiedToModel", "signOf", "()I"⟩, 37) := ⟨⟨by decide +kernel, by decide +kernel⟩, List.mem_of_getElem? (i := 653) (by decide +kernel), List.mem_of_getElem? (i := 698) (by decide +kernel), List.mem_of_getElem? (i := 699) (by decide +kernel)⟩
theorem lw_p24 : lw_okq (⟨"LighthouseLiedToModel", "between", "(I)Z"⟩, 37) := ⟨⟨by decide +kernel, by decide +kernel⟩, List.mem_of_getElem? (i := 653) (by decide +kernel), List.mem_of_getElem? (i := 702) (by decide +kernel), List.mem_of_getElem? (i := 703) (by decide +kernel)⟩
theorem lw_p25 : lw_okq (⟨"LighthouseLiedToModel", "afloat", "()I"⟩, 37) := ⟨⟨by decide +kernel, by decide +kernel⟩, List.mem_of_getElem? (i := 653) (by decide +kernel), List.mem_of_getElem? (i := 822) (by decide +kernel), List.mem_of_getElem? (i := 823) (by decide +kernel)⟩
theorem lw_p26 : lw_okq (⟨"LighthouseLiedToModel", "rockMany", "()I"⟩, 37) := ⟨⟨by decide +kernel, by decide +kernel⟩, List.mem_of_getElem? (i := 653) (by decide +kernel), List.mem_of_getElem? (i := 829) (by decide +kernel), List.mem_of_getElem? (i := 830) (by decide +kernel)⟩
theorem lw_p27 : lw_okq (⟨"LighthouseLiedToModel", "hasRock", "(I)Z"⟩, 37) := ⟨⟨by decide +kernel, by decide +kernel⟩, List.mem_of_getElem? (i := 653) (by decide +kernel), List.mem_of_getElem? (i := 833) (by decide +kernel), List.mem_of_getElem? (i := 834) (by decide +kernel)⟩
theorem lw_p28 : lw_okq (⟨"LighthouseLiedToModel", "isToldOf", "(II)V"⟩, 37) := ⟨⟨by decide +kernel, by decide +kernel⟩, List.mem_of_getElem? (i := 653) (by decide +kernel), List.mem_of_getElem? (i := 849) (by decide +kernel), List.mem_of_getElem? (i := 850) (by decide +kernel)⟩
theorem lw_p29 : lw_okq (⟨"LighthouseLiedToModel", "isShip", "(I)Z"⟩, 37) := ⟨⟨by decide +kernel, by decide +kernel⟩, List.mem_of_getElem? (i := 653) (by decide +kernel), List.mem_of_getElem? (i := 880) (by decide +kernel), List.mem_of_getElem? (i := 881) (by decide +kernel)⟩
theorem lw_p30 : lw_okq (⟨"LighthouseLiedToModel", "asksOf", "(III)I"⟩, 37) := ⟨⟨by decide +kernel, by decide +kernel⟩, List.mem_of_getElem? (i := 653) (by decide +kernel), List.mem_of_getElem? (i := 884) (by decide +kernel), List.mem_of_getElem? (i := 885) (by decide +kernel)⟩
theorem lw_p31 : lw_okq (⟨"LighthouseLiedToModel", "says", "(I)I"⟩, 37) := ⟨⟨by decide +kernel, by decide +kernel⟩, List.mem_of_getElem? (i := 653) (by decide +kernel), List.mem_of_getElem? (i := 888) (by decide +kernel), List.mem_of_getElem? (i := 889) (by decide +kernel)⟩
def lw_privs_2 : List (MethodName × Nat) := [(⟨"LighthouseLiedToModel", "next", "()V"⟩, 37), (⟨"LighthouseLiedToModel", "wordFrom", "(II)I"⟩, 37), (⟨"LighthouseLiedToModel", "eRead", "()Z"⟩, 37), (⟨"LighthouseLiedToModel", "puts", "(I)V"⟩, 37), (⟨"LighthouseLiedToModel", "unwinds", "(I)V"⟩, 37), (⟨"LighthouseLiedToModel", "opensOne", "(I)Z"⟩, 37), (⟨"LighthouseLiedToModel", "holds", "(I)V"⟩, 37), (⟨"LighthouseLiedToModel", "signOf", "()I"⟩, 37), (⟨"LighthouseLiedToModel", "between", "(I)Z"⟩, 37), (⟨"LighthouseLiedToModel", "afloat", "()I"⟩, 37), (⟨"LighthouseLiedToModel", "rockMany", "()I"⟩, 37), (⟨"LighthouseLiedToModel", "hasRock", "(I)Z"⟩, 37), (⟨"LighthouseLiedToModel", "isToldOf", "(II)V"⟩, 37), (⟨"LighthouseLiedToModel", "isShip", "(I)Z"⟩, 37), (⟨"LighthouseLiedToModel", "asksOf", "(III)I"⟩, 37), (⟨"LighthouseLiedToModel", "says", "(I)I"⟩, 37)]
theorem lw_r2 : ∀ q ∈ lw_privs_2, lw_okq q := List.forall_mem_cons.mpr ⟨lw_p16, List.forall_mem_cons.mpr ⟨lw_p17, List.forall_mem_cons.mpr ⟨lw_p18, List.forall_mem_cons.mpr ⟨lw_p19, List.forall_mem_cons.mpr ⟨lw_p20, List.forall_mem_cons.mpr ⟨lw_p21, List.forall_mem_cons.mpr ⟨lw_p22, List.forall_mem_cons.mpr ⟨lw_p23, List.forall_mem_cons.mpr ⟨lw_p24, List.forall_mem_cons.mpr ⟨lw_p25, List.forall_mem_cons.mpr ⟨lw_p26, List.forall_mem_cons.mpr ⟨lw_p27, List.forall_mem_cons.mpr ⟨lw_p28, List.forall_mem_cons.mpr ⟨lw_p29, List.forall_mem_cons.mpr ⟨lw_p30, List.forall_mem_cons.mpr ⟨lw_p31, fun _ h => absurd h List.not_mem_nil⟩⟩⟩⟩⟩⟩⟩⟩⟩⟩⟩⟩⟩⟩⟩⟩
theorem lw_p32 : lw_okq (⟨"LighthouseLiedToModel", "goesTo", "(I)I"⟩, 37) := ⟨⟨by decide +kernel, by decide +kernel⟩, List.mem_of_getElem? (i := 653) (by decide +kernel), List.mem_of_getElem? (i := 907) (by decide +kernel), List.mem_of_getElem? (i := 908) (by decide +kernel)⟩
theorem lw_p33 : lw_okq (⟨"LighthouseLiedToModel", "likesOf", "(II)I"⟩, 37) := ⟨⟨by decide +kernel, by decide +kernel⟩, List.mem_of_getElem? (i := 653) (by decide +kernel), List.mem_of_getElem? (i := 911) (by decide +kernel), List.mem_of_getElem? (i := 912) (by decide +kernel)⟩
theorem lw_p34 : lw_okq (⟨"LighthouseLiedToModel", "doesSink", "(I)Z"⟩, 37) := ⟨⟨by decide +kernel, by decide +kernel⟩, List.mem_of_getElem? (i := 653) (by decide +kernel), List.mem_of_getElem? (i := 918) (by decide +kernel), List.mem_of_getElem? (i := 919) (by decide +kernel)⟩
theorem lw_p35 : lw_okq (⟨"LighthouseLiedToModel", "nightOf", "()I"⟩, 37) := ⟨⟨by decide +kernel, by decide +kernel⟩, List.mem_of_getElem? (i := 653) (by decide +kernel), List.mem_of_getElem? (i := 931) (by decide +kernel), List.mem_of_getElem? (i := 932) (by decide +kernel)⟩
theorem lw_p36 : lw_okq (⟨"LighthouseLiedToModel", "sails", "(I)V"⟩, 37) := ⟨⟨by decide +kernel, by decide +kernel⟩, List.mem_of_getElem? (i := 653) (by decide +kernel), List.mem_of_getElem? (i := 935) (by decide +kernel), List.mem_of_getElem? (i := 936) (by decide +kernel)⟩
theorem lw_p37 : lw_okq (⟨"LighthouseLiedToModel", "teachesOf", "(I)I"⟩, 37) := ⟨⟨by decide +kernel, by decide +kernel⟩, List.mem_of_getElem? (i := 653) (by decide +kernel), List.mem_of_getElem? (i := 939) (by decide +kernel), List.mem_of_getElem? (i := 940) (by decide +kernel)⟩
theorem lw_p38 : lw_okq (⟨"LighthouseLiedToModel", "keeps", "()V"⟩, 37) := ⟨⟨by decide +kernel, by decide +kernel⟩, List.mem_of_getElem? (i := 653) (by decide +kernel), List.mem_of_getElem? (i := 947) (by decide +kernel), List.mem_of_getElem? (i := 948) (by decide +kernel)⟩
theorem lw_p39 : lw_okq (⟨"LighthouseLiedToModel", "goes", "(I)I"⟩, 37) := ⟨⟨by decide +kernel, by decide +kernel⟩, List.mem_of_getElem? (i := 653) (by decide +kernel), List.mem_of_getElem? (i := 951) (by decide +kernel), List.mem_of_getElem? (i := 952) (by decide +kernel)⟩
theorem lw_p40 : lw_okq (⟨"LighthouseLiedToModel", "toldBehind", "(I)I"⟩, 37) := ⟨⟨by decide +kernel, by decide +kernel⟩, List.mem_of_getElem? (i := 653) (by decide +kernel), List.mem_of_getElem? (i := 955) (by decide +kernel), List.mem_of_getElem? (i := 956) (by decide +kernel)⟩
theorem lw_p41 : lw_okq (⟨"LighthouseLiedToModel", "beliefAll", "()I"⟩, 37) := ⟨⟨by decide +kernel, by decide +kernel⟩, List.mem_of_getElem? (i := 653) (by decide +kernel), List.mem_of_getElem? (i := 959) (by decide +kernel), List.mem_of_getElem? (i := 960) (by decide +kernel)⟩
theorem lw_p42 : lw_okq (⟨"LighthouseLiedToModel", "lays", "()V"⟩, 37) := ⟨⟨by decide +kernel, by decide +kernel⟩, List.mem_of_getElem? (i := 653) (by decide +kernel), List.mem_of_getElem? (i := 963) (by decide +kernel), List.mem_of_getElem? (i := 964) (by decide +kernel)⟩
theorem lw_p43 : lw_okq (⟨"LighthouseLiedToModel", "brightest", "()J"⟩, 37) := ⟨⟨by decide +kernel, by decide +kernel⟩, List.mem_of_getElem? (i := 653) (by decide +kernel), List.mem_of_getElem? (i := 980) (by decide +kernel), List.mem_of_getElem? (i := 981) (by decide +kernel)⟩
theorem lw_p44 : lw_okq (⟨"LighthouseLiedToModel", "lostNow", "(I)I"⟩, 37) := ⟨⟨by decide +kernel, by decide +kernel⟩, List.mem_of_getElem? (i := 653) (by decide +kernel), List.mem_of_getElem? (i := 988) (by decide +kernel), List.mem_of_getElem? (i := 989) (by decide +kernel)⟩
theorem lw_p45 : lw_okq (⟨"LighthouseLiedToModel", "toldWrong", "(II)I"⟩, 37) := ⟨⟨by decide +kernel, by decide +kernel⟩, List.mem_of_getElem? (i := 653) (by decide +kernel), List.mem_of_getElem? (i := 1015) (by decide +kernel), List.mem_of_getElem? (i := 1016) (by decide +kernel)⟩
theorem lw_p46 : lw_okq (⟨"LighthouseLiedToModel", "sheetWrong", "(I)I"⟩, 37) := ⟨⟨by decide +kernel, by decide +kernel⟩, List.mem_of_getElem? (i := 653) (by decide +kernel), List.mem_of_getElem? (i := 1019) (by decide +kernel), List.mem_of_getElem? (i := 1020) (by decide +kernel)⟩
theorem lw_p47 : lw_okq (⟨"LighthouseLiedToModel", "unlike", "(II)I"⟩, 37) := ⟨⟨by decide +kernel, by decide +kernel⟩, List.mem_of_getElem? (i := 653) (by decide +kernel), List.mem_of_getElem? (i := 1023) (by decide +kernel), List.mem_of_getElem? (i := 1024) (by decide +kernel)⟩
def lw_privs_3 : List (MethodName × Nat) := [(⟨"LighthouseLiedToModel", "goesTo", "(I)I"⟩, 37), (⟨"LighthouseLiedToModel", "likesOf", "(II)I"⟩, 37), (⟨"LighthouseLiedToModel", "doesSink", "(I)Z"⟩, 37), (⟨"LighthouseLiedToModel", "nightOf", "()I"⟩, 37), (⟨"LighthouseLiedToModel", "sails", "(I)V"⟩, 37), (⟨"LighthouseLiedToModel", "teachesOf", "(I)I"⟩, 37), (⟨"LighthouseLiedToModel", "keeps", "()V"⟩, 37), (⟨"LighthouseLiedToModel", "goes", "(I)I"⟩, 37), (⟨"LighthouseLiedToModel", "toldBehind", "(I)I"⟩, 37), (⟨"LighthouseLiedToModel", "beliefAll", "()I"⟩, 37), (⟨"LighthouseLiedToModel", "lays", "()V"⟩, 37), (⟨"LighthouseLiedToModel", "brightest", "()J"⟩, 37), (⟨"LighthouseLiedToModel", "lostNow", "(I)I"⟩, 37), (⟨"LighthouseLiedToModel", "toldWrong", "(II)I"⟩, 37), (⟨"LighthouseLiedToModel", "sheetWrong", "(I)I"⟩, 37), (⟨"LighthouseLiedToModel", "unlike", "(II)I"⟩, 37)]
theorem lw_r3 : ∀ q ∈ lw_privs_3, lw_okq q := List.forall_mem_cons.mpr ⟨lw_p32, List.forall_mem_cons.mpr ⟨lw_p33, List.forall_mem_cons.mpr ⟨lw_p34, List.forall_mem_cons.mpr ⟨lw_p35, List.forall_mem_cons.mpr ⟨lw_p36, List.forall_mem_cons.mpr ⟨lw_p37, List.forall_mem_cons.mpr ⟨lw_p38, List.forall_mem_cons.mpr ⟨lw_p39, List.forall_mem_cons.mpr ⟨lw_p40, List.forall_mem_cons.mpr ⟨lw_p41, List.forall_mem_cons.mpr ⟨lw_p42, List.forall_mem_cons.mpr ⟨lw_p43, List.forall_mem_cons.mpr ⟨lw_p44, List.forall_mem_cons.mpr ⟨lw_p45, List.forall_mem_cons.mpr ⟨lw_p46, List.forall_mem_cons.mpr ⟨lw_p47, fun _ h => absurd h List.not_mem_nil⟩⟩⟩⟩⟩⟩⟩⟩⟩⟩⟩⟩⟩⟩⟩⟩
theorem lw_p48 : lw_okq (⟨"LighthouseLiedToModel", "tales", "(II)I"⟩, 37) := ⟨⟨by decide +kernel, by decide +kernel⟩, List.mem_of_getElem? (i := 653) (by decide +kernel), List.mem_of_getElem? (i := 1056) (by decide +kernel), List.mem_of_getElem? (i := 1057) (by decide +kernel)⟩
def lw_privs_4 : List (MethodName × Nat) := [(⟨"LighthouseLiedToModel", "tales", "(II)I"⟩, 37)]
theorem lw_r4 : ∀ q ∈ lw_privs_4, lw_okq q := List.forall_mem_cons.mpr ⟨lw_p48, fun _ h => absurd h List.not_mem_nil⟩
def lw_privs : List (MethodName × Nat) := lw_privs_1 ++ (lw_privs_2 ++ (lw_privs_3 ++ (lw_privs_4)))
def lw_tbl : List Cond := k2_sels lw_privs ++ tables_1
theorem lw_privs_ok : ∀ q ∈ lw_privs, lw_okq q := by
  show ∀ q ∈ lw_privs_1 ++ (lw_privs_2 ++ (lw_privs_3 ++ (lw_privs_4))), lw_okq q
  exact List.forall_mem_append.mpr ⟨lw_r1, List.forall_mem_append.mpr ⟨lw_r2, List.forall_mem_append.mpr ⟨lw_r3, lw_r4⟩⟩⟩
end
section
def RX0 : String := "LighthouseLiedTo$Law"
def TX0 : u_T := fun k => match k with
  | 0 => ("LighthouseLiedTo$Law", "steps", "[I", true)
  | 1 => ("LighthouseLiedTo$Law", "stack", "[I", true)
  | 2 => ("LighthouseLiedTo$Law", "ends", "[I", true)
  | _ => ("LighthouseLiedTo$Law", "size", "I", false)
def tyX0 : Nat → FieldType := fun k => match k with
  | 0 => .array .int
  | 1 => .array .int
  | 2 => .array .int
  | _ => .int
theorem nmX0 : ∀ a, a < 4 → ∀ b, b < 4 → a ≠ b → (TX0 a).2.1 ≠ (TX0 b).2.1 := by decide +kernel
theorem tyX0_ok : ∀ k, k < 4 → parseFieldDescriptor (TX0 k).2.2.1 = some (tyX0 k) := by decide +kernel
abbrev cX0_init : ByteArray := prog_2_method_1_code
def yX0_init : MethodName := ⟨RX0, "<init>", "()V"⟩
abbrev cX0_clear : ByteArray := prog_2_method_2_code
def yX0_clear : MethodName := ⟨RX0, "clear", "()V"⟩
abbrev cX0_add : ByteArray := prog_2_method_3_code
def yX0_add : MethodName := ⟨RX0, "add", "(I)V"⟩
abbrev cX0_endPart : ByteArray := prog_2_method_4_code
def yX0_endPart : MethodName := ⟨RX0, "endPart", "(I)V"⟩
abbrev cX0_worth : ByteArray := prog_2_method_5_code
def yX0_worth : MethodName := ⟨RX0, "worth", "(ILLighthouseLiedTo$Sea;II)I"⟩
abbrev cX0_named : ByteArray := prog_2_method_6_code
def yX0_named : MethodName := ⟨RX0, "named", "(ILLighthouseLiedTo$Sea;II)I"⟩
abbrev cX0_joined : ByteArray := prog_2_method_7_code
def yX0_joined : MethodName := ⟨RX0, "joined", "(III)I"⟩
def RX1 : String := "LighthouseLiedTo$Reader"
def TX1 : u_T := fun k => match k with
  | 0 => ("LighthouseLiedTo$Reader", "tape", "[I", false)
  | 1 => ("LighthouseLiedTo$Reader", "size", "I", false)
  | 2 => ("LighthouseLiedTo$Reader", "at", "I", false)
  | 3 => ("LighthouseLiedTo$Reader", "token", "I", false)
  | 4 => ("LighthouseLiedTo$Reader", "place", "I", false)
  | 5 => ("LighthouseLiedTo$Reader", "fault", "I", false)
  | _ => ("LighthouseLiedTo$Reader", "law", "LLighthouseLiedTo$Law;", false)
def tyX1 : Nat → FieldType := fun k => match k with
  | 0 => .array .int
  | 1 => .int
  | 2 => .int
  | 3 => .int
  | 4 => .int
  | 5 => .int
  | _ => .object "LighthouseLiedTo$Law"
theorem nmX1 : ∀ a, a < 7 → ∀ b, b < 7 → a ≠ b → (TX1 a).2.1 ≠ (TX1 b).2.1 := by decide +kernel
theorem tyX1_ok : ∀ k, k < 7 → parseFieldDescriptor (TX1 k).2.2.1 = some (tyX1 k) := by decide +kernel
abbrev cX1_init : ByteArray := prog_3_method_1_code
def yX1_init : MethodName := ⟨RX1, "<init>", "()V"⟩
abbrev cX1_read : ByteArray := prog_3_method_2_code
def yX1_read : MethodName := ⟨RX1, "read", "([IILLighthouseLiedTo$Law;)I"⟩
abbrev cX1_fail : ByteArray := prog_3_method_3_code
def yX1_fail : MethodName := ⟨RX1, "fail", "()V"⟩
abbrev cX1_expect : ByteArray := prog_3_method_4_code
def yX1_expect : MethodName := ⟨RX1, "expect", "(I)V"⟩
abbrev cX1_joined : ByteArray := prog_3_method_5_code
def yX1_joined : MethodName := ⟨RX1, "joined", "(II)V"⟩
abbrev cX1_one : ByteArray := prog_3_method_6_code
def yX1_one : MethodName := ⟨RX1, "one", "(I)V"⟩
abbrev cX1_mayOpen : ByteArray := prog_3_method_7_code
def yX1_mayOpen : MethodName := ⟨RX1, "mayOpen", "(I)Z"⟩
abbrev cX1_rankOf : ByteArray := prog_3_method_8_code
def yX1_rankOf : MethodName := ⟨RX1, "rankOf", "(I)I"⟩
abbrev cX1_advance : ByteArray := prog_3_method_9_code
def yX1_advance : MethodName := ⟨RX1, "advance", "()V"⟩
abbrev cX1_isLetter : ByteArray := prog_3_method_10_code
def yX1_isLetter : MethodName := ⟨RX1, "isLetter", "(I)Z"⟩
abbrev cX1_isDigit : ByteArray := prog_3_method_11_code
def yX1_isDigit : MethodName := ⟨RX1, "isDigit", "(I)Z"⟩
abbrev cX1_number : ByteArray := prog_3_method_12_code
def yX1_number : MethodName := ⟨RX1, "number", "()I"⟩
abbrev cX1_word : ByteArray := prog_3_method_13_code
def yX1_word : MethodName := ⟨RX1, "word", "()I"⟩
abbrev cX1_spells : ByteArray := prog_3_method_14_code
def yX1_spells : MethodName := ⟨RX1, "spells", "(Ljava/lang/String;)Z"⟩
abbrev cX1_signOf : ByteArray := prog_3_method_15_code
def yX1_signOf : MethodName := ⟨RX1, "signOf", "(I)I"⟩
def RX2 : String := "LighthouseLiedTo$Sea"
def TX2 : u_T := fun k => match k with
  | 0 => ("LighthouseLiedTo$Sea", "texts", "[LLighthouseLiedTo$Law;", true)
  | 1 => ("LighthouseLiedTo$Sea", "belief", "[I", true)
  | 2 => ("LighthouseLiedTo$Sea", "kind", "[I", true)
  | 3 => ("LighthouseLiedTo$Sea", "more", "[I", true)
  | 4 => ("LighthouseLiedTo$Sea", "cell", "[I", true)
  | 5 => ("LighthouseLiedTo$Sea", "draught", "[I", true)
  | 6 => ("LighthouseLiedTo$Sea", "rocks", "J", false)
  | 7 => ("LighthouseLiedTo$Sea", "lost", "I", false)
  | 8 => ("LighthouseLiedTo$Sea", "ships", "I", false)
  | 9 => ("LighthouseLiedTo$Sea", "doubt", "I", false)
  | 10 => ("LighthouseLiedTo$Sea", "night", "I", false)
  | _ => ("LighthouseLiedTo$Sea", "law", "I", false)
def tyX2 : Nat → FieldType := fun k => match k with
  | 0 => .array (.object "LighthouseLiedTo$Law")
  | 1 => .array .int
  | 2 => .array .int
  | 3 => .array .int
  | 4 => .array .int
  | 5 => .array .int
  | 6 => .long
  | 7 => .int
  | 8 => .int
  | 9 => .int
  | 10 => .int
  | _ => .int
theorem nmX2 : ∀ a, a < 12 → ∀ b, b < 12 → a ≠ b → (TX2 a).2.1 ≠ (TX2 b).2.1 := by decide +kernel
theorem tyX2_ok : ∀ k, k < 12 → parseFieldDescriptor (TX2 k).2.2.1 = some (tyX2 k) := by decide +kernel
abbrev cX2_init : ByteArray := prog_4_method_1_code
def yX2_init : MethodName := ⟨RX2, "<init>", "([LLighthouseLiedTo$Law;)V"⟩
abbrev cX2_become : ByteArray := prog_4_method_2_code
def yX2_become : MethodName := ⟨RX2, "become", "(LLighthouseLiedTo$Sea;)V"⟩
abbrev cX2_hasRock : ByteArray := prog_4_method_3_code
def yX2_hasRock : MethodName := ⟨RX2, "hasRock", "(I)Z"⟩
abbrev cX2_isLost : ByteArray := prog_4_method_4_code
def yX2_isLost : MethodName := ⟨RX2, "isLost", "(I)Z"⟩
abbrev cX2_afloat : ByteArray := prog_4_method_5_code
def yX2_afloat : MethodName := ⟨RX2, "afloat", "()I"⟩
abbrev cX2_allBelief : ByteArray := prog_4_method_6_code
def yX2_allBelief : MethodName := ⟨RX2, "allBelief", "()I"⟩
abbrev cX2_trueBelief : ByteArray := prog_4_method_7_code
def yX2_trueBelief : MethodName := ⟨RX2, "trueBelief", "()I"⟩
abbrev cX2_surelyRocks : ByteArray := prog_4_method_8_code
def yX2_surelyRocks : MethodName := ⟨RX2, "surelyRocks", "()J"⟩
abbrev cX2_brightest : ByteArray := prog_4_method_9_code
def yX2_brightest : MethodName := ⟨RX2, "brightest", "()J"⟩
abbrev cX2_launch : ByteArray := prog_4_method_10_code
def yX2_launch : MethodName := ⟨RX2, "launch", "(II)I"⟩
abbrev cX2_isOne : ByteArray := prog_4_method_11_code
def yX2_isOne : MethodName := ⟨RX2, "isOne", "(II)Z"⟩
abbrev cX2_hear : ByteArray := prog_4_method_12_code
def yX2_hear : MethodName := ⟨RX2, "hear", "(II)V"⟩
abbrev cX2_says : ByteArray := prog_4_method_13_code
def yX2_says : MethodName := ⟨RX2, "says", "(III)I"⟩
abbrev cX2_liking : ByteArray := prog_4_method_14_code
def yX2_liking : MethodName := ⟨RX2, "liking", "(II)I"⟩
abbrev cX2_sinking : ByteArray := prog_4_method_15_code
def yX2_sinking : MethodName := ⟨RX2, "sinking", "(I)Z"⟩
abbrev cX2_teaching : ByteArray := prog_4_method_16_code
def yX2_teaching : MethodName := ⟨RX2, "teaching", "(I)I"⟩
abbrev cX2_beside : ByteArray := prog_4_method_17_code
def yX2_beside : MethodName := ⟨RX2, "beside", "(II)I"⟩
abbrev cX2_goal : ByteArray := prog_4_method_18_code
def yX2_goal : MethodName := ⟨RX2, "goal", "(I)I"⟩
abbrev cX2_passNight : ByteArray := prog_4_method_19_code
def yX2_passNight : MethodName := ⟨RX2, "passNight", "()V"⟩
abbrev cX2_lose : ByteArray := prog_4_method_20_code
def yX2_lose : MethodName := ⟨RX2, "lose", "(I)V"⟩
abbrev cX2_lossesIn : ByteArray := prog_4_method_21_code
def yX2_lossesIn : MethodName := ⟨RX2, "lossesIn", "(I)I"⟩
def RX3 : String := "LighthouseLiedTo$Sheet"
def TX3 : u_T := fun k => match k with
  | 0 => ("LighthouseLiedTo$Sheet", "numbers", "[I", true)
  | 1 => ("LighthouseLiedTo$Sheet", "sort", "I", false)
  | _ => ("LighthouseLiedTo$Sheet", "size", "I", false)
def tyX3 : Nat → FieldType := fun k => match k with
  | 0 => .array .int
  | 1 => .int
  | _ => .int
theorem nmX3 : ∀ a, a < 3 → ∀ b, b < 3 → a ≠ b → (TX3 a).2.1 ≠ (TX3 b).2.1 := by decide +kernel
theorem tyX3_ok : ∀ k, k < 3 → parseFieldDescriptor (TX3 k).2.2.1 = some (tyX3 k) := by decide +kernel
abbrev cX3_init : ByteArray := prog_5_method_1_code
def yX3_init : MethodName := ⟨RX3, "<init>", "()V"⟩
abbrev cX3_become : ByteArray := prog_5_method_2_code
def yX3_become : MethodName := ⟨RX3, "become", "(II)V"⟩
abbrev cX3_has : ByteArray := prog_5_method_3_code
def yX3_has : MethodName := ⟨RX3, "has", "(I)Z"⟩
abbrev cX3_holds : ByteArray := prog_5_method_4_code
def yX3_holds : MethodName := ⟨RX3, "holds", "(II)Z"⟩
abbrev cX3_set : ByteArray := prog_5_method_5_code
def yX3_set : MethodName := ⟨RX3, "set", "(II)V"⟩
def RX4 : String := "LighthouseLiedTo"
def TX4 : u_T := fun k => match k with
  | 0 => ("LighthouseLiedTo", "texts", "[LLighthouseLiedTo$Law;", true)
  | 1 => ("LighthouseLiedTo", "now", "LLighthouseLiedTo$Sea;", true)
  | 2 => ("LighthouseLiedTo", "thought", "LLighthouseLiedTo$Sea;", true)
  | 3 => ("LighthouseLiedTo", "kept", "LLighthouseLiedTo$Sea;", true)
  | 4 => ("LighthouseLiedTo", "sheets", "[LLighthouseLiedTo$Sheet;", true)
  | 5 => ("LighthouseLiedTo", "tape", "[I", true)
  | 6 => ("LighthouseLiedTo", "reader", "LLighthouseLiedTo$Reader;", true)
  | 7 => ("LighthouseLiedTo", "textCount", "I", false)
  | 8 => ("LighthouseLiedTo", "tapeSize", "I", false)
  | _ => ("LighthouseLiedTo", "hasImage", "Z", false)
def tyX4 : Nat → FieldType := fun k => match k with
  | 0 => .array (.object "LighthouseLiedTo$Law")
  | 1 => .object "LighthouseLiedTo$Sea"
  | 2 => .object "LighthouseLiedTo$Sea"
  | 3 => .object "LighthouseLiedTo$Sea"
  | 4 => .array (.object "LighthouseLiedTo$Sheet")
  | 5 => .array .int
  | 6 => .object "LighthouseLiedTo$Reader"
  | 7 => .int
  | 8 => .int
  | _ => .boolean
theorem nmX4 : ∀ a, a < 10 → ∀ b, b < 10 → a ≠ b → (TX4 a).2.1 ≠ (TX4 b).2.1 := by decide +kernel
theorem tyX4_ok : ∀ k, k < 10 → parseFieldDescriptor (TX4 k).2.2.1 = some (tyX4 k) := by decide +kernel
abbrev cX4_init : ByteArray := prog_1_method_1_code
def yX4_init : MethodName := ⟨RX4, "<init>", "()V"⟩
abbrev cX4_count : ByteArray := prog_1_method_2_code
def yX4_count : MethodName := ⟨RX4, "count", "(I)I"⟩
abbrev cX4_rock : ByteArray := prog_1_method_3_code
def yX4_rock : MethodName := ⟨RX4, "rock", "(II)I"⟩
abbrev cX4_tell : ByteArray := prog_1_method_4_code
def yX4_tell : MethodName := ⟨RX4, "tell", "(II)I"⟩
abbrev cX4_believes : ByteArray := prog_1_method_5_code
def yX4_believes : MethodName := ⟨RX4, "believes", "(I)I"⟩
abbrev cX4_doubts : ByteArray := prog_1_method_6_code
def yX4_doubts : MethodName := ⟨RX4, "doubts", "(I)I"⟩
abbrev cX4_feed : ByteArray := prog_1_method_7_code
def yX4_feed : MethodName := ⟨RX4, "feed", "(IIIIII)I"⟩
abbrev cX4_text : ByteArray := prog_1_method_8_code
def yX4_text : MethodName := ⟨RX4, "text", "()I"⟩
abbrev cX4_force : ByteArray := prog_1_method_9_code
def yX4_force : MethodName := ⟨RX4, "force", "(I)I"⟩
abbrev cX4_asks : ByteArray := prog_1_method_10_code
def yX4_asks : MethodName := ⟨RX4, "asks", "(III)I"⟩
abbrev cX4_ship : ByteArray := prog_1_method_11_code
def yX4_ship : MethodName := ⟨RX4, "ship", "(II)I"⟩
abbrev cX4_put : ByteArray := prog_1_method_12_code
def yX4_put : MethodName := ⟨RX4, "put", "(III)I"⟩
abbrev cX4_told : ByteArray := prog_1_method_13_code
def yX4_told : MethodName := ⟨RX4, "told", "(II)I"⟩
abbrev cX4_likes : ByteArray := prog_1_method_14_code
def yX4_likes : MethodName := ⟨RX4, "likes", "(II)I"⟩
abbrev cX4_night : ByteArray := prog_1_method_15_code
def yX4_night : MethodName := ⟨RX4, "night", "()I"⟩
abbrev cX4_run : ByteArray := prog_1_method_16_code
def yX4_run : MethodName := ⟨RX4, "run", "(II)I"⟩
abbrev cX4_lostBy : ByteArray := prog_1_method_17_code
def yX4_lostBy : MethodName := ⟨RX4, "lostBy", "(II)I"⟩
abbrev cX4_track : ByteArray := prog_1_method_18_code
def yX4_track : MethodName := ⟨RX4, "track", "(II)J"⟩
abbrev cX4_sea : ByteArray := prog_1_method_19_code
def yX4_sea : MethodName := ⟨RX4, "sea", "(I)J"⟩
abbrev cX4_lie : ByteArray := prog_1_method_20_code
def yX4_lie : MethodName := ⟨RX4, "lie", "(III)I"⟩
abbrev cX4_blow : ByteArray := prog_1_method_21_code
def yX4_blow : MethodName := ⟨RX4, "blow", "(II)I"⟩
abbrev cX4_safe : ByteArray := prog_1_method_22_code
def yX4_safe : MethodName := ⟨RX4, "safe", "(II)J"⟩
abbrev cX4_trust : ByteArray := prog_1_method_23_code
def yX4_trust : MethodName := ⟨RX4, "trust", "(III)I"⟩
abbrev cX4_truth : ByteArray := prog_1_method_24_code
def yX4_truth : MethodName := ⟨RX4, "truth", "(I)J"⟩
abbrev cX4_judge : ByteArray := prog_1_method_25_code
def yX4_judge : MethodName := ⟨RX4, "judge", "(II)I"⟩
abbrev cX4_kinds : ByteArray := prog_1_method_26_code
def yX4_kinds : MethodName := ⟨RX4, "kinds", "(III)I"⟩
abbrev cX4_places : ByteArray := prog_1_method_27_code
def yX4_places : MethodName := ⟨RX4, "places", "(II)J"⟩
abbrev cX4_draughts : ByteArray := prog_1_method_28_code
def yX4_draughts : MethodName := ⟨RX4, "draughts", "(III)I"⟩
abbrev cX4_whose : ByteArray := prog_1_method_29_code
def yX4_whose : MethodName := ⟨RX4, "whose", "(I)I"⟩
abbrev cX4_laws : ByteArray := prog_1_method_30_code
def yX4_laws : MethodName := ⟨RX4, "laws", "(II)I"⟩
abbrev cX4_film : ByteArray := prog_1_method_31_code
def yX4_film : MethodName := ⟨RX4, "film", "(III)I"⟩
abbrev cX4_drawn : ByteArray := prog_1_method_32_code
def yX4_drawn : MethodName := ⟨RX4, "drawn", "(III)I"⟩
abbrev cX4_odds : ByteArray := prog_1_method_33_code
def yX4_odds : MethodName := ⟨RX4, "odds", "(IIIII)J"⟩
abbrev cX4_image : ByteArray := prog_1_method_34_code
def yX4_image : MethodName := ⟨RX4, "image", "()I"⟩
abbrev cX4_back : ByteArray := prog_1_method_35_code
def yX4_back : MethodName := ⟨RX4, "back", "()I"⟩
abbrev cX4_sheet : ByteArray := prog_1_method_36_code
def yX4_sheet : MethodName := ⟨RX4, "sheet", "(III)I"⟩
abbrev cX4_cell : ByteArray := prog_1_method_37_code
def yX4_cell : MethodName := ⟨RX4, "cell", "(III)I"⟩
abbrev cX4_copy : ByteArray := prog_1_method_38_code
def yX4_copy : MethodName := ⟨RX4, "copy", "(IIIII)I"⟩
abbrev cX4_shipsBy : ByteArray := prog_1_method_39_code
def yX4_shipsBy : MethodName := ⟨RX4, "shipsBy", "(IIII)I"⟩
abbrev cX4_taken : ByteArray := prog_1_method_40_code
def yX4_taken : MethodName := ⟨RX4, "taken", "(II)I"⟩
abbrev cX4_within : ByteArray := prog_1_method_41_code
def yX4_within : MethodName := ⟨RX4, "within", "(III)Z"⟩
abbrev cX4_isByte : ByteArray := prog_1_method_42_code
def yX4_isByte : MethodName := ⟨RX4, "isByte", "(I)Z"⟩
abbrev cX4_isCell : ByteArray := prog_1_method_43_code
def yX4_isCell : MethodName := ⟨RX4, "isCell", "(I)Z"⟩
abbrev cX4_isSheet : ByteArray := prog_1_method_44_code
def yX4_isSheet : MethodName := ⟨RX4, "isSheet", "(I)Z"⟩
abbrev cX4_isShip : ByteArray := prog_1_method_45_code
def yX4_isShip : MethodName := ⟨RX4, "isShip", "(I)Z"⟩
abbrev cX4_think : ByteArray := prog_1_method_46_code
def yX4_think : MethodName := ⟨RX4, "think", "()V"⟩
abbrev cX4_refusalOfTold : ByteArray := prog_1_method_47_code
def yX4_refusalOfTold : MethodName := ⟨RX4, "refusalOfTold", "(I)I"⟩
abbrev cX4_refusalToJudge : ByteArray := prog_1_method_48_code
def yX4_refusalToJudge : MethodName := ⟨RX4, "refusalToJudge", "(II)I"⟩
abbrev cX4_firstOtherwise : ByteArray := prog_1_method_49_code
def yX4_firstOtherwise : MethodName := ⟨RX4, "firstOtherwise", "(II)I"⟩
abbrev cX4_lossesByTale : ByteArray := prog_1_method_50_code
def yX4_lossesByTale : MethodName := ⟨RX4, "lossesByTale", "(II)I"⟩
abbrev cX4_inLowestTerms : ByteArray := prog_1_method_51_code
def yX4_inLowestTerms : MethodName := ⟨RX4, "inLowestTerms", "(III)J"⟩
abbrev cX4_commonDivisor : ByteArray := prog_1_method_52_code
def yX4_commonDivisor : MethodName := ⟨RX4, "commonDivisor", "(II)I"⟩
def RX5 : String := "LighthouseLiedToModel"
def TX5 : u_T := fun k => match k with
  | 0 => ("LighthouseLiedToModel", "ships", "I", false)
  | 1 => ("LighthouseLiedToModel", "kind", "[I", true)
  | 2 => ("LighthouseLiedToModel", "moreOf", "[I", true)
  | 3 => ("LighthouseLiedToModel", "onOf", "[I", true)
  | 4 => ("LighthouseLiedToModel", "draughtOf", "[I", true)
  | 5 => ("LighthouseLiedToModel", "lost", "[I", true)
  | 6 => ("LighthouseLiedToModel", "beliefs", "[I", true)
  | 7 => ("LighthouseLiedToModel", "rocks", "J", false)
  | 8 => ("LighthouseLiedToModel", "nights", "I", false)
  | 9 => ("LighthouseLiedToModel", "doubt", "I", false)
  | 10 => ("LighthouseLiedToModel", "tape", "[I", true)
  | 11 => ("LighthouseLiedToModel", "taped", "I", false)
  | 12 => ("LighthouseLiedToModel", "codes", "[I", true)
  | 13 => ("LighthouseLiedToModel", "starts", "[I", true)
  | 14 => ("LighthouseLiedToModel", "texts", "I", false)
  | 15 => ("LighthouseLiedToModel", "rule", "I", false)
  | 16 => ("LighthouseLiedToModel", "hasImage", "Z", false)
  | 17 => ("LighthouseLiedToModel", "imageRows", "[I", true)
  | 18 => ("LighthouseLiedToModel", "imageHeld", "[I", true)
  | 19 => ("LighthouseLiedToModel", "imageRocks", "J", false)
  | 20 => ("LighthouseLiedToModel", "sheetSort", "[I", true)
  | 21 => ("LighthouseLiedToModel", "sheetSize", "[I", true)
  | 22 => ("LighthouseLiedToModel", "cells", "[I", true)
  | 23 => ("LighthouseLiedToModel", "law", "[I", true)
  | 24 => ("LighthouseLiedToModel", "at", "I", false)
  | 25 => ("LighthouseLiedToModel", "begun", "I", false)
  | 26 => ("LighthouseLiedToModel", "token", "I", false)
  | 27 => ("LighthouseLiedToModel", "value", "I", false)
  | 28 => ("LighthouseLiedToModel", "words", "[I", true)
  | 29 => ("LighthouseLiedToModel", "held", "[I", true)
  | 30 => ("LighthouseLiedToModel", "heldMany", "I", false)
  | 31 => ("LighthouseLiedToModel", "opens", "I", false)
  | 32 => ("LighthouseLiedToModel", "out", "I", false)
  | 33 => ("LighthouseLiedToModel", "stack", "[I", true)
  | 34 => ("LighthouseLiedToModel", "named", "[I", true)
  | 35 => ("LighthouseLiedToModel", "kept", "[I", true)
  | _ => ("LighthouseLiedToModel", "afloatThen", "I", false)
def tyX5 : Nat → FieldType := fun k => match k with
  | 0 => .int
  | 1 => .array .int
  | 2 => .array .int
  | 3 => .array .int
  | 4 => .array .int
  | 5 => .array .int
  | 6 => .array .int
  | 7 => .long
  | 8 => .int
  | 9 => .int
  | 10 => .array .int
  | 11 => .int
  | 12 => .array .int
  | 13 => .array .int
  | 14 => .int
  | 15 => .int
  | 16 => .boolean
  | 17 => .array .int
  | 18 => .array .int
  | 19 => .long
  | 20 => .array .int
  | 21 => .array .int
  | 22 => .array .int
  | 23 => .array .int
  | 24 => .int
  | 25 => .int
  | 26 => .int
  | 27 => .int
  | 28 => .array .int
  | 29 => .array .int
  | 30 => .int
  | 31 => .int
  | 32 => .int
  | 33 => .array .int
  | 34 => .array .int
  | 35 => .array .int
  | _ => .int
theorem nmX5 : ∀ a, a < 37 → ∀ b, b < 37 → a ≠ b → (TX5 a).2.1 ≠ (TX5 b).2.1 := by decide +kernel
theorem tyX5_ok : ∀ k, k < 37 → parseFieldDescriptor (TX5 k).2.2.1 = some (tyX5 k) := by decide +kernel
abbrev cX5_init : ByteArray := prog_7_method_1_code
def yX5_init : MethodName := ⟨RX5, "<init>", "()V"⟩
abbrev cX5_in : ByteArray := prog_7_method_3_code
def yX5_in : MethodName := ⟨RX5, "in", "(III)Z"⟩
abbrev cX5_within : ByteArray := prog_7_method_4_code
def yX5_within : MethodName := ⟨RX5, "within", "(III)I"⟩
abbrev cX5_isCell : ByteArray := prog_7_method_5_code
def yX5_isCell : MethodName := ⟨RX5, "isCell", "(I)Z"⟩
abbrev cX5_isShip : ByteArray := prog_7_method_6_code
def yX5_isShip : MethodName := ⟨RX5, "isShip", "(I)Z"⟩
abbrev cX5_hasRock : ByteArray := prog_7_method_7_code
def yX5_hasRock : MethodName := ⟨RX5, "hasRock", "(I)Z"⟩
abbrev cX5_rockMany : ByteArray := prog_7_method_8_code
def yX5_rockMany : MethodName := ⟨RX5, "rockMany", "()I"⟩
abbrev cX5_afloat : ByteArray := prog_7_method_9_code
def yX5_afloat : MethodName := ⟨RX5, "afloat", "()I"⟩
abbrev cX5_ones : ByteArray := prog_7_method_10_code
def yX5_ones : MethodName := ⟨RX5, "ones", "(I)I"⟩
abbrev cX5_count : ByteArray := prog_7_method_11_code
def yX5_count : MethodName := ⟨RX5, "count", "(I)I"⟩
abbrev cX5_rock : ByteArray := prog_7_method_12_code
def yX5_rock : MethodName := ⟨RX5, "rock", "(II)I"⟩
abbrev cX5_isToldOf : ByteArray := prog_7_method_13_code
def yX5_isToldOf : MethodName := ⟨RX5, "isToldOf", "(II)V"⟩
abbrev cX5_tell : ByteArray := prog_7_method_14_code
def yX5_tell : MethodName := ⟨RX5, "tell", "(II)I"⟩
abbrev cX5_believes : ByteArray := prog_7_method_15_code
def yX5_believes : MethodName := ⟨RX5, "believes", "(I)I"⟩
abbrev cX5_doubts : ByteArray := prog_7_method_16_code
def yX5_doubts : MethodName := ⟨RX5, "doubts", "(I)I"⟩
abbrev cX5_isByte : ByteArray := prog_7_method_17_code
def yX5_isByte : MethodName := ⟨RX5, "isByte", "(I)Z"⟩
abbrev cX5_feed : ByteArray := prog_7_method_18_code
def yX5_feed : MethodName := ⟨RX5, "feed", "(IIIIII)I"⟩
abbrev cX5_wordFrom : ByteArray := prog_7_method_19_code
def yX5_wordFrom : MethodName := ⟨RX5, "wordFrom", "(II)I"⟩
abbrev cX5_next : ByteArray := prog_7_method_20_code
def yX5_next : MethodName := ⟨RX5, "next", "()V"⟩
abbrev cX5_rank : ByteArray := prog_7_method_21_code
def yX5_rank : MethodName := ⟨RX5, "rank", "(I)I"⟩
abbrev cX5_puts : ByteArray := prog_7_method_22_code
def yX5_puts : MethodName := ⟨RX5, "puts", "(I)V"⟩
abbrev cX5_unwinds : ByteArray := prog_7_method_23_code
def yX5_unwinds : MethodName := ⟨RX5, "unwinds", "(I)V"⟩
abbrev cX5_holds : ByteArray := prog_7_method_24_code
def yX5_holds : MethodName := ⟨RX5, "holds", "(I)V"⟩
abbrev cX5_opensOne : ByteArray := prog_7_method_25_code
def yX5_opensOne : MethodName := ⟨RX5, "opensOne", "(I)Z"⟩
abbrev cX5_between : ByteArray := prog_7_method_26_code
def yX5_between : MethodName := ⟨RX5, "between", "(I)Z"⟩
abbrev cX5_signOf : ByteArray := prog_7_method_27_code
def yX5_signOf : MethodName := ⟨RX5, "signOf", "()I"⟩
abbrev cX5_eRead : ByteArray := prog_7_method_28_code
def yX5_eRead : MethodName := ⟨RX5, "eRead", "()Z"⟩
abbrev cX5_text : ByteArray := prog_7_method_29_code
def yX5_text : MethodName := ⟨RX5, "text", "()I"⟩
abbrev cX5_two : ByteArray := prog_7_method_30_code
def yX5_two : MethodName := ⟨RX5, "two", "(III)I"⟩
abbrev cX5_says : ByteArray := prog_7_method_31_code
def yX5_says : MethodName := ⟨RX5, "says", "(I)I"⟩
abbrev cX5_force : ByteArray := prog_7_method_32_code
def yX5_force : MethodName := ⟨RX5, "force", "(I)I"⟩
abbrev cX5_asksOf : ByteArray := prog_7_method_33_code
def yX5_asksOf : MethodName := ⟨RX5, "asksOf", "(III)I"⟩
abbrev cX5_asks : ByteArray := prog_7_method_34_code
def yX5_asks : MethodName := ⟨RX5, "asks", "(III)I"⟩
abbrev cX5_ship : ByteArray := prog_7_method_35_code
def yX5_ship : MethodName := ⟨RX5, "ship", "(II)I"⟩
abbrev cX5_put : ByteArray := prog_7_method_36_code
def yX5_put : MethodName := ⟨RX5, "put", "(III)I"⟩
abbrev cX5_likesOf : ByteArray := prog_7_method_37_code
def yX5_likesOf : MethodName := ⟨RX5, "likesOf", "(II)I"⟩
abbrev cX5_doesSink : ByteArray := prog_7_method_38_code
def yX5_doesSink : MethodName := ⟨RX5, "doesSink", "(I)Z"⟩
abbrev cX5_teachesOf : ByteArray := prog_7_method_39_code
def yX5_teachesOf : MethodName := ⟨RX5, "teachesOf", "(I)I"⟩
abbrev cX5_besideOf : ByteArray := prog_7_method_40_code
def yX5_besideOf : MethodName := ⟨RX5, "besideOf", "(II)I"⟩
abbrev cX5_goesTo : ByteArray := prog_7_method_41_code
def yX5_goesTo : MethodName := ⟨RX5, "goesTo", "(I)I"⟩
abbrev cX5_told : ByteArray := prog_7_method_42_code
def yX5_told : MethodName := ⟨RX5, "told", "(II)I"⟩
abbrev cX5_likes : ByteArray := prog_7_method_43_code
def yX5_likes : MethodName := ⟨RX5, "likes", "(II)I"⟩
abbrev cX5_sails : ByteArray := prog_7_method_44_code
def yX5_sails : MethodName := ⟨RX5, "sails", "(I)V"⟩
abbrev cX5_nightOf : ByteArray := prog_7_method_45_code
def yX5_nightOf : MethodName := ⟨RX5, "nightOf", "()I"⟩
abbrev cX5_night : ByteArray := prog_7_method_46_code
def yX5_night : MethodName := ⟨RX5, "night", "()I"⟩
abbrev cX5_keeps : ByteArray := prog_7_method_47_code
def yX5_keeps : MethodName := ⟨RX5, "keeps", "()V"⟩
abbrev cX5_lays : ByteArray := prog_7_method_48_code
def yX5_lays : MethodName := ⟨RX5, "lays", "()V"⟩
abbrev cX5_goes : ByteArray := prog_7_method_49_code
def yX5_goes : MethodName := ⟨RX5, "goes", "(I)I"⟩
abbrev cX5_beliefAll : ByteArray := prog_7_method_50_code
def yX5_beliefAll : MethodName := ⟨RX5, "beliefAll", "()I"⟩
abbrev cX5_toldBehind : ByteArray := prog_7_method_51_code
def yX5_toldBehind : MethodName := ⟨RX5, "toldBehind", "(I)I"⟩
abbrev cX5_run : ByteArray := prog_7_method_52_code
def yX5_run : MethodName := ⟨RX5, "run", "(II)I"⟩
abbrev cX5_lostBy : ByteArray := prog_7_method_53_code
def yX5_lostBy : MethodName := ⟨RX5, "lostBy", "(II)I"⟩
abbrev cX5_track : ByteArray := prog_7_method_54_code
def yX5_track : MethodName := ⟨RX5, "track", "(II)J"⟩
abbrev cX5_brightest : ByteArray := prog_7_method_55_code
def yX5_brightest : MethodName := ⟨RX5, "brightest", "()J"⟩
abbrev cX5_sea : ByteArray := prog_7_method_56_code
def yX5_sea : MethodName := ⟨RX5, "sea", "(I)J"⟩
abbrev cX5_lostNow : ByteArray := prog_7_method_57_code
def yX5_lostNow : MethodName := ⟨RX5, "lostNow", "(I)I"⟩
abbrev cX5_lie : ByteArray := prog_7_method_58_code
def yX5_lie : MethodName := ⟨RX5, "lie", "(III)I"⟩
abbrev cX5_blow : ByteArray := prog_7_method_59_code
def yX5_blow : MethodName := ⟨RX5, "blow", "(II)I"⟩
abbrev cX5_safe : ByteArray := prog_7_method_60_code
def yX5_safe : MethodName := ⟨RX5, "safe", "(II)J"⟩
abbrev cX5_trust : ByteArray := prog_7_method_61_code
def yX5_trust : MethodName := ⟨RX5, "trust", "(III)I"⟩
abbrev cX5_lowest : ByteArray := prog_7_method_62_code
def yX5_lowest : MethodName := ⟨RX5, "lowest", "(JJI)J"⟩
abbrev cX5_truth : ByteArray := prog_7_method_63_code
def yX5_truth : MethodName := ⟨RX5, "truth", "(I)J"⟩
abbrev cX5_sheetWrong : ByteArray := prog_7_method_64_code
def yX5_sheetWrong : MethodName := ⟨RX5, "sheetWrong", "(I)I"⟩
abbrev cX5_toldWrong : ByteArray := prog_7_method_65_code
def yX5_toldWrong : MethodName := ⟨RX5, "toldWrong", "(II)I"⟩
abbrev cX5_unlike : ByteArray := prog_7_method_66_code
def yX5_unlike : MethodName := ⟨RX5, "unlike", "(II)I"⟩
abbrev cX5_judge : ByteArray := prog_7_method_67_code
def yX5_judge : MethodName := ⟨RX5, "judge", "(II)I"⟩
abbrev cX5_kinds : ByteArray := prog_7_method_68_code
def yX5_kinds : MethodName := ⟨RX5, "kinds", "(III)I"⟩
abbrev cX5_places : ByteArray := prog_7_method_69_code
def yX5_places : MethodName := ⟨RX5, "places", "(II)J"⟩
abbrev cX5_draughts : ByteArray := prog_7_method_70_code
def yX5_draughts : MethodName := ⟨RX5, "draughts", "(III)I"⟩
abbrev cX5_whose : ByteArray := prog_7_method_71_code
def yX5_whose : MethodName := ⟨RX5, "whose", "(I)I"⟩
abbrev cX5_laws : ByteArray := prog_7_method_72_code
def yX5_laws : MethodName := ⟨RX5, "laws", "(II)I"⟩
abbrev cX5_film : ByteArray := prog_7_method_73_code
def yX5_film : MethodName := ⟨RX5, "film", "(III)I"⟩
abbrev cX5_tales : ByteArray := prog_7_method_74_code
def yX5_tales : MethodName := ⟨RX5, "tales", "(II)I"⟩
abbrev cX5_drawn : ByteArray := prog_7_method_75_code
def yX5_drawn : MethodName := ⟨RX5, "drawn", "(III)I"⟩
abbrev cX5_odds : ByteArray := prog_7_method_76_code
def yX5_odds : MethodName := ⟨RX5, "odds", "(IIIII)J"⟩
abbrev cX5_image : ByteArray := prog_7_method_77_code
def yX5_image : MethodName := ⟨RX5, "image", "()I"⟩
abbrev cX5_back : ByteArray := prog_7_method_78_code
def yX5_back : MethodName := ⟨RX5, "back", "()I"⟩
abbrev cX5_sheet : ByteArray := prog_7_method_79_code
def yX5_sheet : MethodName := ⟨RX5, "sheet", "(III)I"⟩
abbrev cX5_cell : ByteArray := prog_7_method_80_code
def yX5_cell : MethodName := ⟨RX5, "cell", "(III)I"⟩
abbrev cX5_copy : ByteArray := prog_7_method_81_code
def yX5_copy : MethodName := ⟨RX5, "copy", "(IIIII)I"⟩
abbrev cX5_shipsBy : ByteArray := prog_7_method_82_code
def yX5_shipsBy : MethodName := ⟨RX5, "shipsBy", "(IIII)I"⟩
abbrev cX5_isUnder : ByteArray := prog_7_method_83_code
def yX5_isUnder : MethodName := ⟨RX5, "isUnder", "(II)Z"⟩
abbrev cX5_taken : ByteArray := prog_7_method_84_code
def yX5_taken : MethodName := ⟨RX5, "taken", "(II)I"⟩
def RJ6 : String := "java/lang/Integer"
abbrev cJ6_bitCount_0f7a4 : ByteArray := prog_8_method_49_code
def yJ6_bitCount_0f7a4 : MethodName := ⟨RJ6, "bitCount", "(I)I"⟩
def RJ13 : String := "java/lang/Long"
abbrev cJ13_bitCount_95d88 : ByteArray := prog_9_method_50_code
def yJ13_bitCount_95d88 : MethodName := ⟨RJ13, "bitCount", "(J)I"⟩
def RJ9 : String := "java/lang/Math"
abbrev cJ9_max_7cf53 : ByteArray := prog_10_method_65_code
def yJ9_max_7cf53 : MethodName := ⟨RJ9, "max", "(II)I"⟩
abbrev cJ9_min_7cf53 : ByteArray := prog_10_method_69_code
def yJ9_min_7cf53 : MethodName := ⟨RJ9, "min", "(II)I"⟩
def RJ0 : String := "java/lang/String"
abbrev cJ0_length_8abf5 : ByteArray := prog_11_method_54_code
def yJ0_length_8abf5 : MethodName := ⟨RJ0, "length", "()I"⟩
abbrev cJ0_charAt_5068e : ByteArray := prog_11_method_56_code
def yJ0_charAt_5068e : MethodName := ⟨RJ0, "charAt", "(I)C"⟩
abbrev cJ0_coder_7d493 : ByteArray := prog_11_method_152_code
def yJ0_coder_7d493 : MethodName := ⟨RJ0, "coder", "()B"⟩
abbrev cJ0_isLatin1_aae02 : ByteArray := prog_11_method_154_code
def yJ0_isLatin1_aae02 : MethodName := ⟨RJ0, "isLatin1", "()Z"⟩
abbrev cJ0_checkIndex_df160 : ByteArray := prog_11_method_155_code
def yJ0_checkIndex_df160 : MethodName := ⟨RJ0, "checkIndex", "(II)V"⟩
def RJ1 : String := "java/lang/StringLatin1"
abbrev cJ1_charAt_3b067 : ByteArray := prog_12_method_2_code
def yJ1_charAt_3b067 : MethodName := ⟨RJ1, "charAt", "([BI)C"⟩
def RJ2 : String := "java/lang/StringUTF16"
abbrev cJ2_getChar_3b067 : ByteArray := prog_13_method_5_code
def yJ2_getChar_3b067 : MethodName := ⟨RJ2, "getChar", "([BI)C"⟩
abbrev cJ2_length_9d52b : ByteArray := prog_13_method_6_code
def yJ2_length_9d52b : MethodName := ⟨RJ2, "length", "([B)I"⟩
abbrev cJ2_charAt_3b067 : ByteArray := prog_13_method_83_code
def yJ2_charAt_3b067 : MethodName := ⟨RJ2, "charAt", "([BI)C"⟩
abbrev cJ2_checkIndex_2214a : ByteArray := prog_13_method_91_code
def yJ2_checkIndex_2214a : MethodName := ⟨RJ2, "checkIndex", "(I[B)V"⟩
def RJ10 : String := "java/lang/System"
def RJ3 : String := "jdk/internal/util/Preconditions"
abbrev cJ3_checkIndex_8e157 : ByteArray := prog_15_method_11_code
def yJ3_checkIndex_8e157 : MethodName := ⟨RJ3, "checkIndex", "(IILjava/util/function/BiFunction;)I"⟩
def RL : String := "LighthouseLiedToLaw"
abbrev cL_law : ByteArray := code
def yL_law : MethodName := ⟨RL, "law", "([I)Z"⟩
end
section

/-- the words of the tables that stay through a call -/
def tb : List Cond := lw_tbl.filter goodWord
theorem tb_mem {w : Cond} (i : Nat) (h : lw_tbl[i]? = some w) (hg : goodWord w = true) : w ∈ tb := List.mem_filter.mpr ⟨List.mem_of_getElem? h, hg⟩
/-! ===== the judgement V: from an abstract state (world of σ, pc, locals, stack) the method ends with what 'res' says, if it says anything ===== -/
abbrev Zt : Type := Program × Launch × Env × Room × State × MethodId × Array Value × List Frame × Method × Code
abbrev Gt : Type := va_G × ClassId × ClassId × ClassId × Nat × Option Nat × (Nat → Nat) × (Nat → Nat)
abbrev classes : List vw_C := [(RX0, TX0, 4), (RX1, TX1, 7), (RX2, TX2, 12), (RX3, TX3, 3), (RX4, TX4, 10), (RX5, TX5, 37)]
abbrev tysG (g : Gt) : List (ClassId × FieldType) := [(g.2.1, .int), (g.2.2.1, .object "LighthouseLiedTo$Law"), (g.2.2.2.1, .object "LighthouseLiedTo$Sheet")]
def KG (g : Gt) (U : State) : Prop := va_K g.1 classes (tysG g) U
def kabF (j : Nat) : Int32 := [-1, 0, 0, 1, 2, 0].getD j 0
def txtJS : List String := ["shines 50 + column + row - belief ; fades 3 ; fears belief ;", "belief", "column", "row", "night", "doubt", "draught", "or", "and", "not", "shines", "fades", "fears"]
def lenJS : List Nat := txtJS.map String.length
def bytJS : List (List Int32) := txtJS.map (fun t => t.toList.map (fun c => Int32.ofNat c.toNat))
def ownJS : List (String × Nat) := [(RX4, 49), (RX1, 87), (RX1, 93), (RX1, 95), (RX1, 97), (RX1, 99), (RX1, 101), (RX1, 103), (RX1, 105), (RX1, 107), (RX1, 109), (RX1, 111), (RX1, 113)]
def Ex (g : Gt) (A : Nat → Prop) (U : State) (H : Heap) : Prop :=
  va_Z RX2 "KIND_ABOVE" "[I" (.ref g.2.2.2.2.1) A U H ∧ va_T .int g.2.2.2.2.1 6 (fun j => .int (kabF j)) A U H ∧
  va_Z RJ0 "COMPACT_STRINGS" "Z" (.int 1) A U H ∧ va_Z RJ3 "SIOOBE_FORMATTER" "Ljava/util/function/BiFunction;" (va_rf g.2.2.2.2.2.1) A U H ∧
  vk_S 13 lenJS bytJS g.2.2.2.2.2.2.1 g.2.2.2.2.2.2.2 A U H ∧ ∀ i : Nat, i < 13 → vk_R (ownJS.getD i ("", 0)).1 (ownJS.getD i ("", 0)).2 (txtJS.getD i "") (g.2.2.2.2.2.2.1 i) U
theorem Ex.kept {g : Gt} {A : Nat → Prop} {U : State} {H H1 : Heap} (h : Ex g A U H) (hq : ∀ a : Nat, a < H.size → ¬ A a → H1[a]? = H[a]?) : Ex g A U H1 :=
  ⟨h.1.kept hq, h.2.1.kept hq, h.2.2.1.kept hq, h.2.2.2.1.kept hq, h.2.2.2.2.1.kept hq, h.2.2.2.2.2⟩
theorem Ex.narrow {g : Gt} {A B : Nat → Prop} {U : State} {H : Heap} (h : Ex g A U H) (hAB : ∀ q, B q → A q) : Ex g B U H :=
  ⟨h.1.narrow hAB, h.2.1.narrow hAB, h.2.2.1.narrow hAB, h.2.2.2.1.narrow hAB, h.2.2.2.2.1.narrow hAB, h.2.2.2.2.2⟩
theorem Ex.warm {g : Gt} {A : Nat → Prop} {s U : State} {H : Heap} (hW : s.WarmedH U.vm) (h : Ex g A s H) : Ex g A U H :=
  ⟨va_Z.moved hW.alike h.1, va_T.moved hW.alike h.2.1, va_Z.moved hW.alike h.2.2.1, va_Z.moved hW.alike h.2.2.2.1, vk_S.moved hW.alike h.2.2.2.2.1, fun i hi => vk_R.warm hW (h.2.2.2.2.2 i hi)⟩
theorem Ex.same {g : Gt} {A : Nat → Prop} {u U : State} {H : Heap} (hv : U.vm = u.vm) (h : Ex g A u H) : Ex g A U H := by
  have ha : u.vm.Alike U.vm := by rw [hv]; exact Vm.Alike.refl u.vm
  exact ⟨va_Z.moved ha h.1, va_T.moved ha h.2.1, va_Z.moved ha h.2.2.1, va_Z.moved ha h.2.2.2.1, vk_S.moved ha h.2.2.2.2.1, fun i hi => vk_R.same hv (h.2.2.2.2.2 i hi)⟩
def AA (L : List Nat) (sz : Nat) : Nat → Prop := fun q => q ∈ L ∨ sz ≤ q
theorem AA.mono {L : List Nat} {a b : Nat} (h : a ≤ b) : ∀ q, AA L b q → AA L a q := fun q hq => hq.elim Or.inl (fun x => Or.inr (Nat.le_trans h x))
def rmk (k : Nat) : Room := { frames := k, cells := 0, slots := 0, locals := 100 * k }
def Fx (g : Gt) (L : List Nat) (K : Nat) (own : String) (cc : ByteArray) (nL : Nat) (ret : Option FieldType) (z : Zt) : Prop :=
  match z with
  | (p, _, _, R, s, m, args, _, meth, c) => p.tables.exec = Jvm.exec ∧ c.code = cc ∧ c.maxLocals = nL ∧ meth.sig.returnType = ret ∧ meth.locks = false ∧ s.vm.findClass own = some m.cls ∧ (∀ w ∈ tb, w.before args s = true) ∧ KG g s ∧ Ex g (AA L s.heap.size) s s.heap ∧ L.Nodup ∧ R = rmk K
def CQ {τ ρ : Type} (g : Gt) (wl : τ → va_W) (inj : ρ → Option Value) (L : List Nat) (r : ρ) (σ : τ) : Array Value → State → Outcome → State → Prop := fun _ st oc t =>
  oc = .returned (inj r) ∧ va_P g.1 classes (wl σ) t.heap ∧ va_F (AA L st.heap.size) st t
def V {τ ρ : Type} (g : Gt) (L : List Nat) (K : Nat) (own : String) (cc : ByteArray) (nL : Nat) (ret : Option FieldType) (wl : τ → va_W) (inj : ρ → Option Value) (z : Zt) (res : Option (ρ × τ)) (σ : τ) (pc : Nat) (lv : List (Nat × Value)) (st : List Value) : Prop :=
  match z with
  | (p, l, e, R, s, m, args, below, meth, c) => Fx g L K own cc nL ret (p, l, e, R, s, m, args, below, meth, c) → (∀ σ : τ, (wl σ).map Prod.fst = L) → ∀ (r : ρ) (σ' : τ), res = some (r, σ') → ∀ (H : Heap) (locs : List Loc) (ls : Array Slot), va_P g.1 classes (wl σ) H → va_S (AA L s.heap.size) s.heap H locs → lv_has ls nL lv →
    W p l e R s m args below meth c H locs 0 0 (MQ below (CQ g wl inj L r σ') args s 0 0 (AA L s.heap.size)) (F0 m pc ls st)
def PRE {τ : Type} (g : Gt) (L : List Nat) (wl : τ → va_W) (σ : τ) (sz : Nat) : State → Prop := fun U => U.heap.size = sz ∧ va_P g.1 classes (wl σ) U.heap ∧ KG g U ∧ Ex g (AA L sz) U U.heap
/-- a method's contract: it does what f says, where f says anything -/
def CT {τ ρ : Type} (g : Gt) (L : List Nat) (y : MethodName) (cc : ByteArray) (nL : Nat) (ret : Option FieldType) (k : Nat) (av : List Value) (inj : ρ → Option Value) (wl : τ → va_W) (f : τ → Option (ρ × τ)) : Prop :=
  L.Nodup → (∀ σ : τ, (wl σ).map Prod.fst = L) → ∀ (l : Launch) (σ : τ) (sz : Nat) (r : ρ) (σ' : τ), f σ = some (r, σ') →
    Met l y (Cond.code y cc nL ret :: tb) (rmk k) (va_Pc av (PRE g L wl σ sz)) (CQ g wl inj L r σ') 0 0 (AA L sz)
def bnd {α β : Type} (o : Option α) (k : α → Option β) : Option β := match o with
  | none => none
  | some q => k q
theorem bnd_some {α β : Type} (a : α) (k : α → Option β) : bnd (some a) k = k a := rfl
theorem bnd_none {α β : Type} (k : α → Option β) : bnd (none : Option α) k = none := rfl
def iI : Int32 → Option Value := fun x => some (.int x)
def iL : Int64 → Option Value := fun x => some (.long x)
def iU : Unit → Option Value := fun _ => none
/-- the locals' list: lookup and store -/
def lk : List (Nat × Value) → Nat → Option Value
  | [], _ => none
  | q :: l, i => bif Nat.beq q.1 i then some q.2 else lk l i
theorem lk_mem {i : Nat} {v : Value} : ∀ {lv : List (Nat × Value)}, lk lv i = some v → (i, v) ∈ lv
  | [], h => by cases h
  | q :: l, h => by
    unfold lk at h
    cases hq : Nat.beq q.1 i with
    | true =>
      rw [hq] at h
      have e : q.1 = i := Nat.eq_of_beq_eq_true hq
      have e2 : q.2 = v := Option.some.inj h
      have : q = (i, v) := Prod.ext e e2
      rw [this]; exact List.mem_cons_self
    | false => rw [hq] at h; exact List.mem_cons_of_mem _ (lk_mem h)
def ls1 (i : Nat) (v : Value) (lv : List (Nat × Value)) : List (Nat × Value) := (i, v) :: lv.filter (fun q => !(q.1 == i) && !(q.1 + 1 == i && q.2.category == 2))
def ls2 (i : Nat) (v : Value) (lv : List (Nat × Value)) : List (Nat × Value) := (i, v) :: lv.filter (fun q => !(q.1 == i) && (!(q.1 == i + 1) && !(q.1 + 1 == i && q.2.category == 2)))
/-- an index guard -/
def grd {α : Type} (i : Int32) (n : Nat) (r : Option α) : Option α := if ¬ (i < 0 ∨ n ≤ i.toNatClampNeg) then r else none
def rI (x y : Int32) : Int32 := x - x / y * y
def rL (x y : Int64) : Int64 := x - x / y * y
def usI (x y : Int32) : Int32 := (x.toUInt32 >>> (y.toUInt32 &&& Int32.toUInt32 31)).toInt32
def slI (x y : Int32) : Int32 := x <<< (y &&& 31)
def srI (x y : Int32) : Int32 := x >>> (y &&& 31)
def slL (x : Int64) (y : Int32) : Int64 := x <<< (y.toInt64 &&& 63)
def srL (x : Int64) (y : Int32) : Int64 := x >>> (y.toInt64 &&& 63)
def usL (x : Int64) (y : Int32) : Int64 := (x.toUInt64 >>> (y.toInt64.toUInt64 &&& Int64.toUInt64 63)).toInt64
def mxI (x y : Int32) : Int32 := if x < y then y else x
def mnI (x y : Int32) : Int32 := if y < x then y else x
section VROWS
variable {τ ρ : Type} {g : Gt} {L : List Nat} {K : Nat} {own : String} {cc : ByteArray} {nL : Nat} {ret : Option FieldType} {wl : τ → va_W} {inj : ρ → Option Value} {z : Zt} {res r1 r2 : Option (ρ × τ)} {σ : τ} {pc : Nat} {lv lv' : List (Nat × Value)} {st : List Value}

theorem v_iload_n {k0 : Fin 4} {i : Nat} {x : Int32} (hd : decode cc pc = .ok (.iload_n k0, 1)) (hi : (k0 : Nat) = i) (h : lk lv i = some (.int x)) (k : V g L K own cc nL ret wl inj z res σ (pc + 1) lv (.int x :: st)) : V g L K own cc nL ret wl inj z res σ pc lv st := by
  obtain ⟨p, l, e, R, s, m, args, below, meth, c⟩ := z
  intro hF hW r σ' hr H locs ls hP hS hl
  exact lv_iload_n hF.1 hF.2.1 hd hi (hl.2.2 _ (lk_mem h)) (k hF hW r σ' hr H locs ls hP hS hl)
theorem v_iload {i : Nat} {x : Int32} (hd : decode cc pc = .ok (.iload i, 2)) (h : lk lv i = some (.int x)) (k : V g L K own cc nL ret wl inj z res σ (pc + 2) lv (.int x :: st)) : V g L K own cc nL ret wl inj z res σ pc lv st := by
  obtain ⟨p, l, e, R, s, m, args, below, meth, c⟩ := z
  intro hF hW r σ' hr H locs ls hP hS hl
  exact lv_iload hF.1 hF.2.1 hd (hl.2.2 _ (lk_mem h)) (k hF hW r σ' hr H locs ls hP hS hl)
theorem v_lload_n {k0 : Fin 4} {i : Nat} {x : Int64} (hd : decode cc pc = .ok (.lload_n k0, 1)) (hi : (k0 : Nat) = i) (h : lk lv i = some (.long x)) (k : V g L K own cc nL ret wl inj z res σ (pc + 1) lv (.long x :: st)) : V g L K own cc nL ret wl inj z res σ pc lv st := by
  obtain ⟨p, l, e, R, s, m, args, below, meth, c⟩ := z
  intro hF hW r σ' hr H locs ls hP hS hl
  exact lv_lload_n hF.1 hF.2.1 hd hi (hl.2.2 _ (lk_mem h)) (k hF hW r σ' hr H locs ls hP hS hl)
theorem v_lload {i : Nat} {x : Int64} (hd : decode cc pc = .ok (.lload i, 2)) (h : lk lv i = some (.long x)) (k : V g L K own cc nL ret wl inj z res σ (pc + 2) lv (.long x :: st)) : V g L K own cc nL ret wl inj z res σ pc lv st := by
  obtain ⟨p, l, e, R, s, m, args, below, meth, c⟩ := z
  intro hF hW r σ' hr H locs ls hP hS hl
  exact lv_lload hF.1 hF.2.1 hd (hl.2.2 _ (lk_mem h)) (k hF hW r σ' hr H locs ls hP hS hl)
theorem v_aload_n {k0 : Fin 4} {i : Nat} {x : Nat} (hd : decode cc pc = .ok (.aload_n k0, 1)) (hi : (k0 : Nat) = i) (h : lk lv i = some (.ref x)) (k : V g L K own cc nL ret wl inj z res σ (pc + 1) lv (.ref x :: st)) : V g L K own cc nL ret wl inj z res σ pc lv st := by
  obtain ⟨p, l, e, R, s, m, args, below, meth, c⟩ := z
  intro hF hW r σ' hr H locs ls hP hS hl
  exact lv_aload_n hF.1 hF.2.1 hd hi (hl.2.2 _ (lk_mem h)) (k hF hW r σ' hr H locs ls hP hS hl)
theorem v_aload {i : Nat} {x : Nat} (hd : decode cc pc = .ok (.aload i, 2)) (h : lk lv i = some (.ref x)) (k : V g L K own cc nL ret wl inj z res σ (pc + 2) lv (.ref x :: st)) : V g L K own cc nL ret wl inj z res σ pc lv st := by
  obtain ⟨p, l, e, R, s, m, args, below, meth, c⟩ := z
  intro hF hW r σ' hr H locs ls hP hS hl
  exact lv_aload hF.1 hF.2.1 hd (hl.2.2 _ (lk_mem h)) (k hF hW r σ' hr H locs ls hP hS hl)
theorem v_aload_nN {k0 : Fin 4} {i : Nat} (hd : decode cc pc = .ok (.aload_n k0, 1)) (hi : (k0 : Nat) = i) (h : lk lv i = some .null) (k : V g L K own cc nL ret wl inj z res σ (pc + 1) lv (.null :: st)) : V g L K own cc nL ret wl inj z res σ pc lv st := by
  obtain ⟨p, l, e, R, s, m, args, below, meth, c⟩ := z
  intro hF hW r σ' hr H locs ls hP hS hl
  exact lv_aload_nN hF.1 hF.2.1 hd hi (hl.2.2 _ (lk_mem h)) (k hF hW r σ' hr H locs ls hP hS hl)
theorem v_iconst {n : Int} {v : Int32} (hd : decode cc pc = .ok (.iconst n, 1)) (hv : Int32.ofInt n = v) (k : V g L K own cc nL ret wl inj z res σ (pc + 1) lv (.int v :: st)) : V g L K own cc nL ret wl inj z res σ pc lv st := by
  obtain ⟨p, l, e, R, s, m, args, below, meth, c⟩ := z
  intro hF hW r σ' hr H locs ls hP hS hl
  exact lv_iconst hF.1 hF.2.1 hd hv (k hF hW r σ' hr H locs ls hP hS hl)
theorem v_bipush {n : Int} {v : Int32} (hd : decode cc pc = .ok (.bipush n, 2)) (hv : (Int8.ofInt n).toInt32 = v) (k : V g L K own cc nL ret wl inj z res σ (pc + 2) lv (.int v :: st)) : V g L K own cc nL ret wl inj z res σ pc lv st := by
  obtain ⟨p, l, e, R, s, m, args, below, meth, c⟩ := z
  intro hF hW r σ' hr H locs ls hP hS hl
  exact lv_bipush hF.1 hF.2.1 hd hv (k hF hW r σ' hr H locs ls hP hS hl)
theorem v_sipush {n : Int} {v : Int32} (hd : decode cc pc = .ok (.sipush n, 3)) (hv : (Int16.ofInt n).toInt32 = v) (k : V g L K own cc nL ret wl inj z res σ (pc + 3) lv (.int v :: st)) : V g L K own cc nL ret wl inj z res σ pc lv st := by
  obtain ⟨p, l, e, R, s, m, args, below, meth, c⟩ := z
  intro hF hW r σ' hr H locs ls hP hS hl
  exact lv_sipush hF.1 hF.2.1 hd hv (k hF hW r σ' hr H locs ls hP hS hl)
theorem v_lconst {n : Fin 2} {v : Int64} (hd : decode cc pc = .ok (.lconst n, 1)) (hv : Int64.ofNat (n : Nat) = v) (k : V g L K own cc nL ret wl inj z res σ (pc + 1) lv (.long v :: st)) : V g L K own cc nL ret wl inj z res σ pc lv st := by
  obtain ⟨p, l, e, R, s, m, args, below, meth, c⟩ := z
  intro hF hW r σ' hr H locs ls hP hS hl
  exact lv_lconst hF.1 hF.2.1 hd hv (k hF hW r σ' hr H locs ls hP hS hl)
theorem v_ldc {ix : Nat} {v : Int32} (hd : decode cc pc = .ok (.ldc ix, 2)) (hc : Cond.constant own ix v ∈ tb) (k : V g L K own cc nL ret wl inj z res σ (pc + 2) lv (.int v :: st)) : V g L K own cc nL ret wl inj z res σ pc lv st := by
  obtain ⟨p, l, e, R, s, m, args, below, meth, c⟩ := z
  intro hF hW r σ' hr H locs ls hP hS hl
  exact lv_ldc hF.1 hF.2.1 hF.2.2.2.2.2.1 (hF.2.2.2.2.2.2.1 _ hc) hd (k hF hW r σ' hr H locs ls hP hS hl)
theorem v_ldcw {ix : Nat} {v : Int32} (hd : decode cc pc = .ok (.ldc_w ix, 3)) (hc : Cond.constant own ix v ∈ tb) (k : V g L K own cc nL ret wl inj z res σ (pc + 3) lv (.int v :: st)) : V g L K own cc nL ret wl inj z res σ pc lv st := by
  obtain ⟨p, l, e, R, s, m, args, below, meth, c⟩ := z
  intro hF hW r σ' hr H locs ls hP hS hl
  exact lv_ldcw hF.1 hF.2.1 hF.2.2.2.2.2.1 (hF.2.2.2.2.2.2.1 _ hc) hd (k hF hW r σ' hr H locs ls hP hS hl)
theorem v_ldc2 {ix : Nat} {v : Int64} (hd : decode cc pc = .ok (.ldc2_w ix, 3)) (hc : Cond.constantLong own ix v ∈ tb) (k : V g L K own cc nL ret wl inj z res σ (pc + 3) lv (.long v :: st)) : V g L K own cc nL ret wl inj z res σ pc lv st := by
  obtain ⟨p, l, e, R, s, m, args, below, meth, c⟩ := z
  intro hF hW r σ' hr H locs ls hP hS hl
  exact lv_ldc2 hF.1 hF.2.1 hF.2.2.2.2.2.1 (hF.2.2.2.2.2.2.1 _ hc) hd (k hF hW r σ' hr H locs ls hP hS hl)
theorem v_istore_n {k0 : Fin 4} {i : Nat} {x : Int32} (hd : decode cc pc = .ok (.istore_n k0, 1)) (hi : (k0 : Nat) = i) (hn : i < nL) (h : ls1 i (.int x) lv = lv') (k : V g L K own cc nL ret wl inj z res σ (pc + 1) lv' st) : V g L K own cc nL ret wl inj z res σ pc lv (.int x :: st) := by
  obtain ⟨p, l, e, R, s, m, args, below, meth, c⟩ := z
  intro hF hW r σ' hr H locs ls hP hS hl
  exact lv_istore_n hF.1 hF.2.1 hd hi hl hn h (fun ls hl => k hF hW r σ' hr H locs ls hP hS hl)
theorem v_istore {i : Nat} {x : Int32} (hd : decode cc pc = .ok (.istore i, 2)) (hn : i < nL) (h : ls1 i (.int x) lv = lv') (k : V g L K own cc nL ret wl inj z res σ (pc + 2) lv' st) : V g L K own cc nL ret wl inj z res σ pc lv (.int x :: st) := by
  obtain ⟨p, l, e, R, s, m, args, below, meth, c⟩ := z
  intro hF hW r σ' hr H locs ls hP hS hl
  exact lv_istore hF.1 hF.2.1 hd hl hn h (fun ls hl => k hF hW r σ' hr H locs ls hP hS hl)
theorem v_lstore_n {k0 : Fin 4} {i : Nat} {x : Int64} (hd : decode cc pc = .ok (.lstore_n k0, 1)) (hi : (k0 : Nat) = i) (hn : i + 1 < nL) (h : ls2 i (.long x) lv = lv') (k : V g L K own cc nL ret wl inj z res σ (pc + 1) lv' st) : V g L K own cc nL ret wl inj z res σ pc lv (.long x :: st) := by
  obtain ⟨p, l, e, R, s, m, args, below, meth, c⟩ := z
  intro hF hW r σ' hr H locs ls hP hS hl
  exact lv_lstore_n hF.1 hF.2.1 hd hi hl hn h (fun ls hl => k hF hW r σ' hr H locs ls hP hS hl)
theorem v_lstore {i : Nat} {x : Int64} (hd : decode cc pc = .ok (.lstore i, 2)) (hn : i + 1 < nL) (h : ls2 i (.long x) lv = lv') (k : V g L K own cc nL ret wl inj z res σ (pc + 2) lv' st) : V g L K own cc nL ret wl inj z res σ pc lv (.long x :: st) := by
  obtain ⟨p, l, e, R, s, m, args, below, meth, c⟩ := z
  intro hF hW r σ' hr H locs ls hP hS hl
  exact lv_lstore hF.1 hF.2.1 hd hl hn h (fun ls hl => k hF hW r σ' hr H locs ls hP hS hl)
theorem v_astore_n {k0 : Fin 4} {i : Nat} {x : Nat} (hd : decode cc pc = .ok (.astore_n k0, 1)) (hi : (k0 : Nat) = i) (hn : i < nL) (h : ls1 i (.ref x) lv = lv') (k : V g L K own cc nL ret wl inj z res σ (pc + 1) lv' st) : V g L K own cc nL ret wl inj z res σ pc lv (.ref x :: st) := by
  obtain ⟨p, l, e, R, s, m, args, below, meth, c⟩ := z
  intro hF hW r σ' hr H locs ls hP hS hl
  exact lv_astore_n hF.1 hF.2.1 hd hi hl hn h (fun ls hl => k hF hW r σ' hr H locs ls hP hS hl)
theorem v_astore {i : Nat} {x : Nat} (hd : decode cc pc = .ok (.astore i, 2)) (hn : i < nL) (h : ls1 i (.ref x) lv = lv') (k : V g L K own cc nL ret wl inj z res σ (pc + 2) lv' st) : V g L K own cc nL ret wl inj z res σ pc lv (.ref x :: st) := by
  obtain ⟨p, l, e, R, s, m, args, below, meth, c⟩ := z
  intro hF hW r σ' hr H locs ls hP hS hl
  exact lv_astore hF.1 hF.2.1 hd hl hn h (fun ls hl => k hF hW r σ' hr H locs ls hP hS hl)
theorem v_iinc {i : Nat} {n : Int} {x w : Int32} (hd : decode cc pc = .ok (.iinc i n, 3)) (hx : lk lv i = some (.int x)) (hv : Int32.ofInt n = w) (hn : i < nL) (h : ls1 i (.int (x + w)) lv = lv') (k : V g L K own cc nL ret wl inj z res σ (pc + 3) lv' st) : V g L K own cc nL ret wl inj z res σ pc lv st := by
  obtain ⟨p, l, e, R, s, m, args, below, meth, c⟩ := z
  intro hF hW r σ' hr H locs ls hP hS hl
  obtain ⟨k0, hk0⟩ := List.getElem?_of_mem (lk_mem hx)
  exact lv_iinc hF.1 hF.2.1 hd hl hk0 (by rw [hv]) hn h (fun ls hl => k hF hW r σ' hr H locs ls hP hS hl)
theorem v_iadd {x y : Int32} (hd : decode cc pc = .ok (.iadd, 1)) (k : V g L K own cc nL ret wl inj z res σ (pc + 1) lv (.int (x + y) :: st)) : V g L K own cc nL ret wl inj z res σ pc lv (.int y :: .int x :: st) := by
  obtain ⟨p, l, e, R, s, m, args, below, meth, c⟩ := z
  intro hF hW r σ' hr H locs ls hP hS hl
  exact lv_iadd hF.1 hF.2.1 hd (k hF hW r σ' hr H locs ls hP hS hl)
theorem v_isub {x y : Int32} (hd : decode cc pc = .ok (.isub, 1)) (k : V g L K own cc nL ret wl inj z res σ (pc + 1) lv (.int (x - y) :: st)) : V g L K own cc nL ret wl inj z res σ pc lv (.int y :: .int x :: st) := by
  obtain ⟨p, l, e, R, s, m, args, below, meth, c⟩ := z
  intro hF hW r σ' hr H locs ls hP hS hl
  exact lv_isub hF.1 hF.2.1 hd (k hF hW r σ' hr H locs ls hP hS hl)
theorem v_imul {x y : Int32} (hd : decode cc pc = .ok (.imul, 1)) (k : V g L K own cc nL ret wl inj z res σ (pc + 1) lv (.int (x * y) :: st)) : V g L K own cc nL ret wl inj z res σ pc lv (.int y :: .int x :: st) := by
  obtain ⟨p, l, e, R, s, m, args, below, meth, c⟩ := z
  intro hF hW r σ' hr H locs ls hP hS hl
  exact lv_imul hF.1 hF.2.1 hd (k hF hW r σ' hr H locs ls hP hS hl)
theorem v_iand {x y : Int32} (hd : decode cc pc = .ok (.iand, 1)) (k : V g L K own cc nL ret wl inj z res σ (pc + 1) lv (.int (x &&& y) :: st)) : V g L K own cc nL ret wl inj z res σ pc lv (.int y :: .int x :: st) := by
  obtain ⟨p, l, e, R, s, m, args, below, meth, c⟩ := z
  intro hF hW r σ' hr H locs ls hP hS hl
  exact lv_iand hF.1 hF.2.1 hd (k hF hW r σ' hr H locs ls hP hS hl)
theorem v_ior {x y : Int32} (hd : decode cc pc = .ok (.ior, 1)) (k : V g L K own cc nL ret wl inj z res σ (pc + 1) lv (.int (x ||| y) :: st)) : V g L K own cc nL ret wl inj z res σ pc lv (.int y :: .int x :: st) := by
  obtain ⟨p, l, e, R, s, m, args, below, meth, c⟩ := z
  intro hF hW r σ' hr H locs ls hP hS hl
  exact lv_ior hF.1 hF.2.1 hd (k hF hW r σ' hr H locs ls hP hS hl)
theorem v_ixor {x y : Int32} (hd : decode cc pc = .ok (.ixor, 1)) (k : V g L K own cc nL ret wl inj z res σ (pc + 1) lv (.int (x ^^^ y) :: st)) : V g L K own cc nL ret wl inj z res σ pc lv (.int y :: .int x :: st) := by
  obtain ⟨p, l, e, R, s, m, args, below, meth, c⟩ := z
  intro hF hW r σ' hr H locs ls hP hS hl
  exact lv_ixor hF.1 hF.2.1 hd (k hF hW r σ' hr H locs ls hP hS hl)
theorem v_ishl {x y : Int32} (hd : decode cc pc = .ok (.ishl, 1)) (k : V g L K own cc nL ret wl inj z res σ (pc + 1) lv (.int (slI x y) :: st)) : V g L K own cc nL ret wl inj z res σ pc lv (.int y :: .int x :: st) := by
  obtain ⟨p, l, e, R, s, m, args, below, meth, c⟩ := z
  intro hF hW r σ' hr H locs ls hP hS hl
  exact lv_ishl hF.1 hF.2.1 hd (k hF hW r σ' hr H locs ls hP hS hl)
theorem v_ishr {x y : Int32} (hd : decode cc pc = .ok (.ishr, 1)) (k : V g L K own cc nL ret wl inj z res σ (pc + 1) lv (.int (srI x y) :: st)) : V g L K own cc nL ret wl inj z res σ pc lv (.int y :: .int x :: st) := by
  obtain ⟨p, l, e, R, s, m, args, below, meth, c⟩ := z
  intro hF hW r σ' hr H locs ls hP hS hl
  exact lv_ishr hF.1 hF.2.1 hd (k hF hW r σ' hr H locs ls hP hS hl)
theorem v_iushr {x y : Int32} (hd : decode cc pc = .ok (.iushr, 1)) (k : V g L K own cc nL ret wl inj z res σ (pc + 1) lv (.int (usI x y) :: st)) : V g L K own cc nL ret wl inj z res σ pc lv (.int y :: .int x :: st) := by
  obtain ⟨p, l, e, R, s, m, args, below, meth, c⟩ := z
  intro hF hW r σ' hr H locs ls hP hS hl
  exact lv_iushr hF.1 hF.2.1 hd rfl (k hF hW r σ' hr H locs ls hP hS hl)
theorem v_idiv {x y : Int32} (hd : decode cc pc = .ok (.idiv, 1)) (hne : ¬ y = 0) (k : V g L K own cc nL ret wl inj z res σ (pc + 1) lv (.int (x / y) :: st)) : V g L K own cc nL ret wl inj z res σ pc lv (.int y :: .int x :: st) := by
  obtain ⟨p, l, e, R, s, m, args, below, meth, c⟩ := z
  intro hF hW r σ' hr H locs ls hP hS hl
  exact lv_idiv hF.1 hF.2.1 hd hne (k hF hW r σ' hr H locs ls hP hS hl)
theorem v_idivG {x y : Int32} (hd : decode cc pc = .ok (.idiv, 1)) (k : V g L K own cc nL ret wl inj z res σ (pc + 1) lv (.int (x / y) :: st)) : V g L K own cc nL ret wl inj z (if ¬ y = 0 then res else none) σ pc lv (.int y :: .int x :: st) := by
  obtain ⟨p, l, e, R, s, m, args, below, meth, c⟩ := z
  intro hF hW r σ' hr H locs ls hP hS hl
  by_cases hne : ¬ y = 0
  · rw [if_pos hne] at hr
    exact lv_idiv hF.1 hF.2.1 hd hne (k hF hW r σ' hr H locs ls hP hS hl)
  · rw [if_neg hne] at hr; cases hr
theorem v_irem {x y : Int32} (hd : decode cc pc = .ok (.irem, 1)) (hne : ¬ y = 0) (k : V g L K own cc nL ret wl inj z res σ (pc + 1) lv (.int (rI x y) :: st)) : V g L K own cc nL ret wl inj z res σ pc lv (.int y :: .int x :: st) := by
  obtain ⟨p, l, e, R, s, m, args, below, meth, c⟩ := z
  intro hF hW r σ' hr H locs ls hP hS hl
  exact lv_irem hF.1 hF.2.1 hd hne (k hF hW r σ' hr H locs ls hP hS hl)
theorem v_iremG {x y : Int32} (hd : decode cc pc = .ok (.irem, 1)) (k : V g L K own cc nL ret wl inj z res σ (pc + 1) lv (.int (rI x y) :: st)) : V g L K own cc nL ret wl inj z (if ¬ y = 0 then res else none) σ pc lv (.int y :: .int x :: st) := by
  obtain ⟨p, l, e, R, s, m, args, below, meth, c⟩ := z
  intro hF hW r σ' hr H locs ls hP hS hl
  by_cases hne : ¬ y = 0
  · rw [if_pos hne] at hr
    exact lv_irem hF.1 hF.2.1 hd hne (k hF hW r σ' hr H locs ls hP hS hl)
  · rw [if_neg hne] at hr; cases hr
theorem v_ineg {x : Int32} (hd : decode cc pc = .ok (.ineg, 1)) (k : V g L K own cc nL ret wl inj z res σ (pc + 1) lv (.int (-x) :: st)) : V g L K own cc nL ret wl inj z res σ pc lv (.int x :: st) := by
  obtain ⟨p, l, e, R, s, m, args, below, meth, c⟩ := z
  intro hF hW r σ' hr H locs ls hP hS hl
  exact lv_ineg hF.1 hF.2.1 hd (k hF hW r σ' hr H locs ls hP hS hl)
theorem v_ladd {x y : Int64} (hd : decode cc pc = .ok (.ladd, 1)) (k : V g L K own cc nL ret wl inj z res σ (pc + 1) lv (.long (x + y) :: st)) : V g L K own cc nL ret wl inj z res σ pc lv (.long y :: .long x :: st) := by
  obtain ⟨p, l, e, R, s, m, args, below, meth, c⟩ := z
  intro hF hW r σ' hr H locs ls hP hS hl
  exact lv_ladd hF.1 hF.2.1 hd (k hF hW r σ' hr H locs ls hP hS hl)
theorem v_lsub {x y : Int64} (hd : decode cc pc = .ok (.lsub, 1)) (k : V g L K own cc nL ret wl inj z res σ (pc + 1) lv (.long (x - y) :: st)) : V g L K own cc nL ret wl inj z res σ pc lv (.long y :: .long x :: st) := by
  obtain ⟨p, l, e, R, s, m, args, below, meth, c⟩ := z
  intro hF hW r σ' hr H locs ls hP hS hl
  exact lv_lsub hF.1 hF.2.1 hd (k hF hW r σ' hr H locs ls hP hS hl)
theorem v_lmul {x y : Int64} (hd : decode cc pc = .ok (.lmul, 1)) (k : V g L K own cc nL ret wl inj z res σ (pc + 1) lv (.long (x * y) :: st)) : V g L K own cc nL ret wl inj z res σ pc lv (.long y :: .long x :: st) := by
  obtain ⟨p, l, e, R, s, m, args, below, meth, c⟩ := z
  intro hF hW r σ' hr H locs ls hP hS hl
  exact lv_lmul hF.1 hF.2.1 hd (k hF hW r σ' hr H locs ls hP hS hl)
theorem v_land {x y : Int64} (hd : decode cc pc = .ok (.land, 1)) (k : V g L K own cc nL ret wl inj z res σ (pc + 1) lv (.long (x &&& y) :: st)) : V g L K own cc nL ret wl inj z res σ pc lv (.long y :: .long x :: st) := by
  obtain ⟨p, l, e, R, s, m, args, below, meth, c⟩ := z
  intro hF hW r σ' hr H locs ls hP hS hl
  exact lv_land hF.1 hF.2.1 hd (k hF hW r σ' hr H locs ls hP hS hl)
theorem v_lor {x y : Int64} (hd : decode cc pc = .ok (.lor, 1)) (k : V g L K own cc nL ret wl inj z res σ (pc + 1) lv (.long (x ||| y) :: st)) : V g L K own cc nL ret wl inj z res σ pc lv (.long y :: .long x :: st) := by
  obtain ⟨p, l, e, R, s, m, args, below, meth, c⟩ := z
  intro hF hW r σ' hr H locs ls hP hS hl
  exact lv_lor hF.1 hF.2.1 hd (k hF hW r σ' hr H locs ls hP hS hl)
theorem v_lxor {x y : Int64} (hd : decode cc pc = .ok (.lxor, 1)) (k : V g L K own cc nL ret wl inj z res σ (pc + 1) lv (.long (x ^^^ y) :: st)) : V g L K own cc nL ret wl inj z res σ pc lv (.long y :: .long x :: st) := by
  obtain ⟨p, l, e, R, s, m, args, below, meth, c⟩ := z
  intro hF hW r σ' hr H locs ls hP hS hl
  exact lv_lxor hF.1 hF.2.1 hd (k hF hW r σ' hr H locs ls hP hS hl)
theorem v_lshl {x : Int64} {y : Int32} (hd : decode cc pc = .ok (.lshl, 1)) (k : V g L K own cc nL ret wl inj z res σ (pc + 1) lv (.long (slL x y) :: st)) : V g L K own cc nL ret wl inj z res σ pc lv (.int y :: .long x :: st) := by
  obtain ⟨p, l, e, R, s, m, args, below, meth, c⟩ := z
  intro hF hW r σ' hr H locs ls hP hS hl
  exact lv_lshl hF.1 hF.2.1 hd rfl (k hF hW r σ' hr H locs ls hP hS hl)
theorem v_lshr {x : Int64} {y : Int32} (hd : decode cc pc = .ok (.lshr, 1)) (k : V g L K own cc nL ret wl inj z res σ (pc + 1) lv (.long (srL x y) :: st)) : V g L K own cc nL ret wl inj z res σ pc lv (.int y :: .long x :: st) := by
  obtain ⟨p, l, e, R, s, m, args, below, meth, c⟩ := z
  intro hF hW r σ' hr H locs ls hP hS hl
  exact lv_lshr hF.1 hF.2.1 hd rfl (k hF hW r σ' hr H locs ls hP hS hl)
theorem v_lushr {x : Int64} {y : Int32} (hd : decode cc pc = .ok (.lushr, 1)) (k : V g L K own cc nL ret wl inj z res σ (pc + 1) lv (.long (usL x y) :: st)) : V g L K own cc nL ret wl inj z res σ pc lv (.int y :: .long x :: st) := by
  obtain ⟨p, l, e, R, s, m, args, below, meth, c⟩ := z
  intro hF hW r σ' hr H locs ls hP hS hl
  exact lv_lushr hF.1 hF.2.1 hd rfl (k hF hW r σ' hr H locs ls hP hS hl)
theorem v_ldiv {x y : Int64} (hd : decode cc pc = .ok (.ldiv, 1)) (hne : ¬ y = 0) (k : V g L K own cc nL ret wl inj z res σ (pc + 1) lv (.long (x / y) :: st)) : V g L K own cc nL ret wl inj z res σ pc lv (.long y :: .long x :: st) := by
  obtain ⟨p, l, e, R, s, m, args, below, meth, c⟩ := z
  intro hF hW r σ' hr H locs ls hP hS hl
  exact lv_ldiv hF.1 hF.2.1 hd hne (k hF hW r σ' hr H locs ls hP hS hl)
theorem v_ldivG {x y : Int64} (hd : decode cc pc = .ok (.ldiv, 1)) (k : V g L K own cc nL ret wl inj z res σ (pc + 1) lv (.long (x / y) :: st)) : V g L K own cc nL ret wl inj z (if ¬ y = 0 then res else none) σ pc lv (.long y :: .long x :: st) := by
  obtain ⟨p, l, e, R, s, m, args, below, meth, c⟩ := z
  intro hF hW r σ' hr H locs ls hP hS hl
  by_cases hne : ¬ y = 0
  · rw [if_pos hne] at hr
    exact lv_ldiv hF.1 hF.2.1 hd hne (k hF hW r σ' hr H locs ls hP hS hl)
  · rw [if_neg hne] at hr; cases hr
theorem v_lrem {x y : Int64} (hd : decode cc pc = .ok (.lrem, 1)) (hne : ¬ y = 0) (k : V g L K own cc nL ret wl inj z res σ (pc + 1) lv (.long (rL x y) :: st)) : V g L K own cc nL ret wl inj z res σ pc lv (.long y :: .long x :: st) := by
  obtain ⟨p, l, e, R, s, m, args, below, meth, c⟩ := z
  intro hF hW r σ' hr H locs ls hP hS hl
  exact lv_lrem hF.1 hF.2.1 hd hne (k hF hW r σ' hr H locs ls hP hS hl)
theorem v_lremG {x y : Int64} (hd : decode cc pc = .ok (.lrem, 1)) (k : V g L K own cc nL ret wl inj z res σ (pc + 1) lv (.long (rL x y) :: st)) : V g L K own cc nL ret wl inj z (if ¬ y = 0 then res else none) σ pc lv (.long y :: .long x :: st) := by
  obtain ⟨p, l, e, R, s, m, args, below, meth, c⟩ := z
  intro hF hW r σ' hr H locs ls hP hS hl
  by_cases hne : ¬ y = 0
  · rw [if_pos hne] at hr
    exact lv_lrem hF.1 hF.2.1 hd hne (k hF hW r σ' hr H locs ls hP hS hl)
  · rw [if_neg hne] at hr; cases hr
theorem v_i2l {x : Int32} (hd : decode cc pc = .ok (.i2l, 1)) (k : V g L K own cc nL ret wl inj z res σ (pc + 1) lv (.long x.toInt64 :: st)) : V g L K own cc nL ret wl inj z res σ pc lv (.int x :: st) := by
  obtain ⟨p, l, e, R, s, m, args, below, meth, c⟩ := z
  intro hF hW r σ' hr H locs ls hP hS hl
  exact lv_i2l hF.1 hF.2.1 hd rfl (k hF hW r σ' hr H locs ls hP hS hl)
theorem v_l2i {x : Int64} (hd : decode cc pc = .ok (.l2i, 1)) (k : V g L K own cc nL ret wl inj z res σ (pc + 1) lv (.int x.toInt32 :: st)) : V g L K own cc nL ret wl inj z res σ pc lv (.long x :: st) := by
  obtain ⟨p, l, e, R, s, m, args, below, meth, c⟩ := z
  intro hF hW r σ' hr H locs ls hP hS hl
  exact lv_l2i hF.1 hF.2.1 hd rfl (k hF hW r σ' hr H locs ls hP hS hl)
theorem v_i2b {x : Int32} (hd : decode cc pc = .ok (.i2b, 1)) (k : V g L K own cc nL ret wl inj z res σ (pc + 1) lv (.int x.toInt8.toInt32 :: st)) : V g L K own cc nL ret wl inj z res σ pc lv (.int x :: st) := by
  obtain ⟨p, l, e, R, s, m, args, below, meth, c⟩ := z
  intro hF hW r σ' hr H locs ls hP hS hl
  exact lv_i2b hF.1 hF.2.1 hd rfl (k hF hW r σ' hr H locs ls hP hS hl)
theorem v_i2s {x : Int32} (hd : decode cc pc = .ok (.i2s, 1)) (k : V g L K own cc nL ret wl inj z res σ (pc + 1) lv (.int x.toInt16.toInt32 :: st)) : V g L K own cc nL ret wl inj z res σ pc lv (.int x :: st) := by
  obtain ⟨p, l, e, R, s, m, args, below, meth, c⟩ := z
  intro hF hW r σ' hr H locs ls hP hS hl
  exact lv_i2s hF.1 hF.2.1 hd rfl (k hF hW r σ' hr H locs ls hP hS hl)
theorem v_i2c {x : Int32} (hd : decode cc pc = .ok (.i2c, 1)) (k : V g L K own cc nL ret wl inj z res σ (pc + 1) lv (.int (x.toUInt32 % 65536).toInt32 :: st)) : V g L K own cc nL ret wl inj z res σ pc lv (.int x :: st) := by
  obtain ⟨p, l, e, R, s, m, args, below, meth, c⟩ := z
  intro hF hW r σ' hr H locs ls hP hS hl
  exact lv_i2c hF.1 hF.2.1 hd rfl (k hF hW r σ' hr H locs ls hP hS hl)
theorem v_lcmp {x y : Int64} (hd : decode cc pc = .ok (.lcmp, 1)) (k : V g L K own cc nL ret wl inj z res σ (pc + 1) lv (.int (lg_cmp x y) :: st)) : V g L K own cc nL ret wl inj z res σ pc lv (.long y :: .long x :: st) := by
  obtain ⟨p, l, e, R, s, m, args, below, meth, c⟩ := z
  intro hF hW r σ' hr H locs ls hP hS hl
  exact W.lcmp hF.1 hF.2.1 hd (k hF hW r σ' hr H locs ls hP hS hl)
theorem v_dup {va : Value} (hd : decode cc pc = .ok (.dup, 1)) (hva : va.category = 1) (k : V g L K own cc nL ret wl inj z res σ (pc + 1) lv (va :: va :: st)) : V g L K own cc nL ret wl inj z res σ pc lv (va :: st) := by
  obtain ⟨p, l, e, R, s, m, args, below, meth, c⟩ := z
  intro hF hW r σ' hr H locs ls hP hS hl
  exact lv_dup hF.1 hF.2.1 hd hva (k hF hW r σ' hr H locs ls hP hS hl)
theorem v_pop {va : Value} (hd : decode cc pc = .ok (.pop, 1)) (hva : va.category = 1) (k : V g L K own cc nL ret wl inj z res σ (pc + 1) lv st) : V g L K own cc nL ret wl inj z res σ pc lv (va :: st) := by
  obtain ⟨p, l, e, R, s, m, args, below, meth, c⟩ := z
  intro hF hW r σ' hr H locs ls hP hS hl
  exact lv_pop hF.1 hF.2.1 hd hva (k hF hW r σ' hr H locs ls hP hS hl)
theorem v_if_eq {x : Int32} {off : Int} {tgt : Nat} (hd : decode cc pc = .ok (.ifCond .eq off, 3)) (ht : (pc : Int) + off = (tgt : Int)) (k1 : V g L K own cc nL ret wl inj z r1 σ tgt lv st) (k2 : V g L K own cc nL ret wl inj z r2 σ (pc + 3) lv st) : V g L K own cc nL ret wl inj z (if x = 0 then r1 else r2) σ pc lv (.int x :: st) := by
  obtain ⟨p, l, e, R, s, m, args, below, meth, c⟩ := z
  intro hF hW r σ' hr H locs ls hP hS hl
  refine lv_if_eq hF.1 hF.2.1 hd ht (fun hc => ?_) (fun hc => ?_)
  · exact k1 hF hW r σ' (by rw [← hr]; first | exact (if_pos hc).symm | simp_all) H locs ls hP hS hl
  · exact k2 hF hW r σ' (by rw [← hr]; first | exact (if_neg hc).symm | simp_all) H locs ls hP hS hl
theorem v_if_ne {x : Int32} {off : Int} {tgt : Nat} (hd : decode cc pc = .ok (.ifCond .ne off, 3)) (ht : (pc : Int) + off = (tgt : Int)) (k1 : V g L K own cc nL ret wl inj z r1 σ tgt lv st) (k2 : V g L K own cc nL ret wl inj z r2 σ (pc + 3) lv st) : V g L K own cc nL ret wl inj z (if x ≠ 0 then r1 else r2) σ pc lv (.int x :: st) := by
  obtain ⟨p, l, e, R, s, m, args, below, meth, c⟩ := z
  intro hF hW r σ' hr H locs ls hP hS hl
  refine lv_if_ne hF.1 hF.2.1 hd ht (fun hc => ?_) (fun hc => ?_)
  · exact k1 hF hW r σ' (by rw [← hr]; first | exact (if_pos hc).symm | simp_all) H locs ls hP hS hl
  · exact k2 hF hW r σ' (by rw [← hr]; first | exact (if_neg hc).symm | simp_all) H locs ls hP hS hl
theorem v_if_lt {x : Int32} {off : Int} {tgt : Nat} (hd : decode cc pc = .ok (.ifCond .lt off, 3)) (ht : (pc : Int) + off = (tgt : Int)) (k1 : V g L K own cc nL ret wl inj z r1 σ tgt lv st) (k2 : V g L K own cc nL ret wl inj z r2 σ (pc + 3) lv st) : V g L K own cc nL ret wl inj z (if x < 0 then r1 else r2) σ pc lv (.int x :: st) := by
  obtain ⟨p, l, e, R, s, m, args, below, meth, c⟩ := z
  intro hF hW r σ' hr H locs ls hP hS hl
  refine lv_if_lt hF.1 hF.2.1 hd ht (fun hc => ?_) (fun hc => ?_)
  · exact k1 hF hW r σ' (by rw [← hr]; first | exact (if_pos hc).symm | simp_all) H locs ls hP hS hl
  · exact k2 hF hW r σ' (by rw [← hr]; first | exact (if_neg hc).symm | simp_all) H locs ls hP hS hl
theorem v_if_ge {x : Int32} {off : Int} {tgt : Nat} (hd : decode cc pc = .ok (.ifCond .ge off, 3)) (ht : (pc : Int) + off = (tgt : Int)) (k1 : V g L K own cc nL ret wl inj z r1 σ tgt lv st) (k2 : V g L K own cc nL ret wl inj z r2 σ (pc + 3) lv st) : V g L K own cc nL ret wl inj z (if 0 ≤ x then r1 else r2) σ pc lv (.int x :: st) := by
  obtain ⟨p, l, e, R, s, m, args, below, meth, c⟩ := z
  intro hF hW r σ' hr H locs ls hP hS hl
  refine lv_if_ge hF.1 hF.2.1 hd ht (fun hc => ?_) (fun hc => ?_)
  · exact k1 hF hW r σ' (by rw [← hr]; first | exact (if_pos hc).symm | simp_all) H locs ls hP hS hl
  · exact k2 hF hW r σ' (by rw [← hr]; first | exact (if_neg hc).symm | simp_all) H locs ls hP hS hl
theorem v_if_gt {x : Int32} {off : Int} {tgt : Nat} (hd : decode cc pc = .ok (.ifCond .gt off, 3)) (ht : (pc : Int) + off = (tgt : Int)) (k1 : V g L K own cc nL ret wl inj z r1 σ tgt lv st) (k2 : V g L K own cc nL ret wl inj z r2 σ (pc + 3) lv st) : V g L K own cc nL ret wl inj z (if 0 < x then r1 else r2) σ pc lv (.int x :: st) := by
  obtain ⟨p, l, e, R, s, m, args, below, meth, c⟩ := z
  intro hF hW r σ' hr H locs ls hP hS hl
  refine lv_if_gt hF.1 hF.2.1 hd ht (fun hc => ?_) (fun hc => ?_)
  · exact k1 hF hW r σ' (by rw [← hr]; first | exact (if_pos hc).symm | simp_all) H locs ls hP hS hl
  · exact k2 hF hW r σ' (by rw [← hr]; first | exact (if_neg hc).symm | simp_all) H locs ls hP hS hl
theorem v_if_le {x : Int32} {off : Int} {tgt : Nat} (hd : decode cc pc = .ok (.ifCond .le off, 3)) (ht : (pc : Int) + off = (tgt : Int)) (k1 : V g L K own cc nL ret wl inj z r1 σ tgt lv st) (k2 : V g L K own cc nL ret wl inj z r2 σ (pc + 3) lv st) : V g L K own cc nL ret wl inj z (if x ≤ 0 then r1 else r2) σ pc lv (.int x :: st) := by
  obtain ⟨p, l, e, R, s, m, args, below, meth, c⟩ := z
  intro hF hW r σ' hr H locs ls hP hS hl
  refine lv_if_le hF.1 hF.2.1 hd ht (fun hc => ?_) (fun hc => ?_)
  · exact k1 hF hW r σ' (by rw [← hr]; first | exact (if_pos hc).symm | simp_all) H locs ls hP hS hl
  · exact k2 hF hW r σ' (by rw [← hr]; first | exact (if_neg hc).symm | simp_all) H locs ls hP hS hl
theorem v_icmp_eq {x y : Int32} {off : Int} {tgt : Nat} (hd : decode cc pc = .ok (.if_icmp .eq off, 3)) (ht : (pc : Int) + off = (tgt : Int)) (k1 : V g L K own cc nL ret wl inj z r1 σ tgt lv st) (k2 : V g L K own cc nL ret wl inj z r2 σ (pc + 3) lv st) : V g L K own cc nL ret wl inj z (if x = y then r1 else r2) σ pc lv (.int y :: .int x :: st) := by
  obtain ⟨p, l, e, R, s, m, args, below, meth, c⟩ := z
  intro hF hW r σ' hr H locs ls hP hS hl
  refine lv_icmp_eq hF.1 hF.2.1 hd ht (fun hc => ?_) (fun hc => ?_)
  · exact k1 hF hW r σ' (by rw [← hr]; first | exact (if_pos hc).symm | simp_all) H locs ls hP hS hl
  · exact k2 hF hW r σ' (by rw [← hr]; first | exact (if_neg hc).symm | simp_all) H locs ls hP hS hl
theorem v_icmp_ne {x y : Int32} {off : Int} {tgt : Nat} (hd : decode cc pc = .ok (.if_icmp .ne off, 3)) (ht : (pc : Int) + off = (tgt : Int)) (k1 : V g L K own cc nL ret wl inj z r1 σ tgt lv st) (k2 : V g L K own cc nL ret wl inj z r2 σ (pc + 3) lv st) : V g L K own cc nL ret wl inj z (if x ≠ y then r1 else r2) σ pc lv (.int y :: .int x :: st) := by
  obtain ⟨p, l, e, R, s, m, args, below, meth, c⟩ := z
  intro hF hW r σ' hr H locs ls hP hS hl
  refine lv_icmp_ne hF.1 hF.2.1 hd ht (fun hc => ?_) (fun hc => ?_)
  · exact k1 hF hW r σ' (by rw [← hr]; first | exact (if_pos hc).symm | simp_all) H locs ls hP hS hl
  · exact k2 hF hW r σ' (by rw [← hr]; first | exact (if_neg hc).symm | simp_all) H locs ls hP hS hl
theorem v_icmp_lt {x y : Int32} {off : Int} {tgt : Nat} (hd : decode cc pc = .ok (.if_icmp .lt off, 3)) (ht : (pc : Int) + off = (tgt : Int)) (k1 : V g L K own cc nL ret wl inj z r1 σ tgt lv st) (k2 : V g L K own cc nL ret wl inj z r2 σ (pc + 3) lv st) : V g L K own cc nL ret wl inj z (if x < y then r1 else r2) σ pc lv (.int y :: .int x :: st) := by
  obtain ⟨p, l, e, R, s, m, args, below, meth, c⟩ := z
  intro hF hW r σ' hr H locs ls hP hS hl
  refine lv_icmp_lt hF.1 hF.2.1 hd ht (fun hc => ?_) (fun hc => ?_)
  · exact k1 hF hW r σ' (by rw [← hr]; first | exact (if_pos hc).symm | simp_all) H locs ls hP hS hl
  · exact k2 hF hW r σ' (by rw [← hr]; first | exact (if_neg hc).symm | simp_all) H locs ls hP hS hl
theorem v_icmp_ge {x y : Int32} {off : Int} {tgt : Nat} (hd : decode cc pc = .ok (.if_icmp .ge off, 3)) (ht : (pc : Int) + off = (tgt : Int)) (k1 : V g L K own cc nL ret wl inj z r1 σ tgt lv st) (k2 : V g L K own cc nL ret wl inj z r2 σ (pc + 3) lv st) : V g L K own cc nL ret wl inj z (if y ≤ x then r1 else r2) σ pc lv (.int y :: .int x :: st) := by
  obtain ⟨p, l, e, R, s, m, args, below, meth, c⟩ := z
  intro hF hW r σ' hr H locs ls hP hS hl
  refine lv_icmp_ge hF.1 hF.2.1 hd ht (fun hc => ?_) (fun hc => ?_)
  · exact k1 hF hW r σ' (by rw [← hr]; first | exact (if_pos hc).symm | simp_all) H locs ls hP hS hl
  · exact k2 hF hW r σ' (by rw [← hr]; first | exact (if_neg hc).symm | simp_all) H locs ls hP hS hl
theorem v_icmp_gt {x y : Int32} {off : Int} {tgt : Nat} (hd : decode cc pc = .ok (.if_icmp .gt off, 3)) (ht : (pc : Int) + off = (tgt : Int)) (k1 : V g L K own cc nL ret wl inj z r1 σ tgt lv st) (k2 : V g L K own cc nL ret wl inj z r2 σ (pc + 3) lv st) : V g L K own cc nL ret wl inj z (if y < x then r1 else r2) σ pc lv (.int y :: .int x :: st) := by
  obtain ⟨p, l, e, R, s, m, args, below, meth, c⟩ := z
  intro hF hW r σ' hr H locs ls hP hS hl
  refine lv_icmp_gt hF.1 hF.2.1 hd ht (fun hc => ?_) (fun hc => ?_)
  · exact k1 hF hW r σ' (by rw [← hr]; first | exact (if_pos hc).symm | simp_all) H locs ls hP hS hl
  · exact k2 hF hW r σ' (by rw [← hr]; first | exact (if_neg hc).symm | simp_all) H locs ls hP hS hl
theorem v_icmp_le {x y : Int32} {off : Int} {tgt : Nat} (hd : decode cc pc = .ok (.if_icmp .le off, 3)) (ht : (pc : Int) + off = (tgt : Int)) (k1 : V g L K own cc nL ret wl inj z r1 σ tgt lv st) (k2 : V g L K own cc nL ret wl inj z r2 σ (pc + 3) lv st) : V g L K own cc nL ret wl inj z (if x ≤ y then r1 else r2) σ pc lv (.int y :: .int x :: st) := by
  obtain ⟨p, l, e, R, s, m, args, below, meth, c⟩ := z
  intro hF hW r σ' hr H locs ls hP hS hl
  refine lv_icmp_le hF.1 hF.2.1 hd ht (fun hc => ?_) (fun hc => ?_)
  · exact k1 hF hW r σ' (by rw [← hr]; first | exact (if_pos hc).symm | simp_all) H locs ls hP hS hl
  · exact k2 hF hW r σ' (by rw [← hr]; first | exact (if_neg hc).symm | simp_all) H locs ls hP hS hl
theorem v_goto {off : Int} {tgt : Nat} (hd : decode cc pc = .ok (.goto off, 3)) (ht : (pc : Int) + off = (tgt : Int)) (k : V g L K own cc nL ret wl inj z res σ tgt lv st) : V g L K own cc nL ret wl inj z res σ pc lv st := by
  obtain ⟨p, l, e, R, s, m, args, below, meth, c⟩ := z
  intro hF hW r σ' hr H locs ls hP hS hl
  exact lv_goto hF.1 hF.2.1 hd ht (k hF hW r σ' hr H locs ls hP hS hl)
theorem v_ifnull {x : Nat} {off : Int} (hd : decode cc pc = .ok (.ifnull off, 3)) (k : V g L K own cc nL ret wl inj z res σ (pc + 3) lv st) : V g L K own cc nL ret wl inj z res σ pc lv (.ref x :: st) := by
  obtain ⟨p, l, e, R, s, m, args, below, meth, c⟩ := z
  intro hF hW r σ' hr H locs ls hP hS hl
  exact lv_ifnull hF.1 hF.2.1 hd (k hF hW r σ' hr H locs ls hP hS hl)
theorem v_ifnullN {off : Int} {tgt : Nat} (hd : decode cc pc = .ok (.ifnull off, 3)) (ht : (pc : Int) + off = (tgt : Int)) (k : V g L K own cc nL ret wl inj z res σ tgt lv st) : V g L K own cc nL ret wl inj z res σ pc lv (.null :: st) := by
  obtain ⟨p, l, e, R, s, m, args, below, meth, c⟩ := z
  intro hF hW r σ' hr H locs ls hP hS hl
  exact lv_ifnullN hF.1 hF.2.1 hd ht (k hF hW r σ' hr H locs ls hP hS hl)
theorem v_ifnonnull {x : Nat} {off : Int} {tgt : Nat} (hd : decode cc pc = .ok (.ifnonnull off, 3)) (ht : (pc : Int) + off = (tgt : Int)) (k : V g L K own cc nL ret wl inj z res σ tgt lv st) : V g L K own cc nL ret wl inj z res σ pc lv (.ref x :: st) := by
  obtain ⟨p, l, e, R, s, m, args, below, meth, c⟩ := z
  intro hF hW r σ' hr H locs ls hP hS hl
  exact lv_ifnonnull hF.1 hF.2.1 hd ht (k hF hW r σ' hr H locs ls hP hS hl)
theorem v_ifnonnullN {off : Int} (hd : decode cc pc = .ok (.ifnonnull off, 3)) (k : V g L K own cc nL ret wl inj z res σ (pc + 3) lv st) : V g L K own cc nL ret wl inj z res σ pc lv (.null :: st) := by
  obtain ⟨p, l, e, R, s, m, args, below, meth, c⟩ := z
  intro hF hW r σ' hr H locs ls hP hS hl
  exact lv_ifnonnullN hF.1 hF.2.1 hd (k hF hW r σ' hr H locs ls hP hS hl)
theorem v_aconst_null  (hd : decode cc pc = .ok (.aconst_null, 1)) (k : V g L K own cc nL ret wl inj z res σ (pc + 1) lv (.null :: st)) : V g L K own cc nL ret wl inj z res σ pc lv st := by
  obtain ⟨p, l, e, R, s, m, args, below, meth, c⟩ := z
  intro hF hW r σ' hr H locs ls hP hS hl
  exact lv_null hF.1 hF.2.1 hd (k hF hW r σ' hr H locs ls hP hS hl)
theorem v_case {c : Prop} [Decidable c] (k1 : c → V g L K own cc nL ret wl inj z r1 σ pc lv st) (k2 : ¬ c → V g L K own cc nL ret wl inj z r2 σ pc lv st) : V g L K own cc nL ret wl inj z (if c then r1 else r2) σ pc lv st := by
  by_cases h : c
  · rw [if_pos h]; exact k1 h
  · rw [if_neg h]; exact k2 h
theorem v_tin {d lo hi : Int} {offs : Array Int} {len : Nat} {x : Int32} {off : Int} {tgt : Nat} {n : Int32} (hx : x = n) (hd : decode cc pc = .ok (.tableswitch d lo hi offs, len)) (h1 : ¬ n.toInt < lo) (h2 : ¬ hi < n.toInt) (ho : offs[(n.toInt - lo).toNat]? = some off) (ht : (pc : Int) + off = (tgt : Int)) (k : V g L K own cc nL ret wl inj z res σ tgt lv st) : V g L K own cc nL ret wl inj z res σ pc lv (.int x :: st) := by
  subst hx
  obtain ⟨p, l, e, R, s, m, args, below, meth, c⟩ := z
  intro hF hW r σ' hr H locs ls hP hS hl
  exact lv_tableIn hF.1 hF.2.1 hd h1 h2 ho ht (k hF hW r σ' hr H locs ls hP hS hl)
theorem v_tout {d lo hi : Int} {offs : Array Int} {len : Nat} {x : Int32} {tgt : Nat} (hd : decode cc pc = .ok (.tableswitch d lo hi offs, len)) (h : x.toInt < lo ∨ hi < x.toInt) (ht : (pc : Int) + d = (tgt : Int)) (k : V g L K own cc nL ret wl inj z res σ tgt lv st) : V g L K own cc nL ret wl inj z res σ pc lv (.int x :: st) := by
  obtain ⟨p, l, e, R, s, m, args, below, meth, c⟩ := z
  intro hF hW r σ' hr H locs ls hP hS hl
  exact lv_tableOut hF.1 hF.2.1 hd h ht (k hF hW r σ' hr H locs ls hP hS hl)

theorem tsw_out {x : Int32} (lo : Int) (n : Nat) (h : ∀ k : Nat, k < n → ¬ x.toInt = lo + (k : Int)) : x.toInt < lo ∨ lo + (n : Int) - 1 < x.toInt := by
  by_cases h1 : x.toInt < lo
  · exact Or.inl h1
  · refine Or.inr ?_
    by_cases h2 : lo + (n : Int) - 1 < x.toInt
    · exact h2
    · have h3 := h (x.toInt - lo).toNat (by omega)
      omega
theorem tsw_ne {x n : Int32} {a : Int} (h : ¬ x = n) (e : n.toInt = a) : ¬ x.toInt = a := fun q => h (Int32.toInt_inj.mp (q.trans e.symm))
theorem v_none : V g L K own cc nL ret wl inj z none σ pc lv st := by
  obtain ⟨p, l, e, R, s, m, args, below, meth, c⟩ := z
  intro hF hW r σ' hr H locs ls hP hS hl
  cases hr
theorem v_eq (h : res = r1) (k : V g L K own cc nL ret wl inj z r1 σ pc lv st) : V g L K own cc nL ret wl inj z res σ pc lv st := by rw [h]; exact k
theorem v_sub (ks : List Nat) (h : lv_pick lv ks = lv') (k : V g L K own cc nL ret wl inj z res σ pc lv' st) : V g L K own cc nL ret wl inj z res σ pc lv st := by
  obtain ⟨p, l, e, R, s, m, args, below, meth, c⟩ := z
  intro hF hW r σ' hr H locs ls hP hS hl
  exact k hF hW r σ' hr H locs ls hP hS (lv_sub hl ks h)
theorem v_get {a ci N ix q0 : Nat} {C ref : String} {T : u_T} {fs : List Value} {v : Value} (k0 : Nat) (he : (wl σ)[q0]? = some (a, .inr (ci, fs))) (hc : classes[ci]? = some (C, T, N)) (hin : ∀ w ∈ u_ws C T N, w ∈ tb) (hk : k0 < N) (hv : fs[k0]? = some v) (href : (T k0).1 = ref) (hl0 : Cond.fieldLink own ix ref (T k0).2.1 (T k0).2.2.1 ∈ tb) (hd : decode cc pc = .ok (.getfield ix, 3)) (k : V g L K own cc nL ret wl inj z res σ (pc + 3) lv (v :: st)) : V g L K own cc nL ret wl inj z res σ pc lv (.ref a :: st) := by
  obtain ⟨p, l, e, R, s, m, args, below, meth, c⟩ := z
  intro hF hW r σ' hr H locs ls hP hS hl
  subst href
  exact va_get (C := C) (T := T) (N := N) hF.1 hF.2.1 hF.2.2.2.2.2.2.1 hin hF.2.2.2.2.2.1 hF.2.2.2.2.2.2.2.1 hP q0 he hc k0 hk (hF.2.2.2.2.2.2.1 _ hl0) (fun _ h9 => h9) hv hd (k hF hW r σ' hr H locs ls hP hS hl)
theorem va_D_of {A : Nat → Prop} {ws : va_W} (hn : (ws.map Prod.fst).Nodup) (hA : ∀ a ∈ ws.map Prod.fst, A a) : va_D A ws := by
  refine ⟨fun i j p q hi hj hpq => ?_, fun k q hk => hA _ (List.mem_map.mpr ⟨q, List.mem_of_getElem? hk, rfl⟩)⟩
  have h1 : (ws.map Prod.fst)[i]? = some p.1 := by rw [List.getElem?_map, hi]; rfl
  have h2 : (ws.map Prod.fst)[j]? = some p.1 := by rw [List.getElem?_map, hj, hpq]; rfl
  obtain ⟨l1, e1⟩ := List.getElem?_eq_some_iff.mp h1
  obtain ⟨l2, e2⟩ := List.getElem?_eq_some_iff.mp h2
  exact (List.getElem_inj hn).mp (e1.trans e2.symm)
theorem va_D_wl {L : List Nat} {wl : τ → va_W} (hn : L.Nodup) (hW : ∀ σ : τ, (wl σ).map Prod.fst = L) (sz : Nat) (σ : τ) : va_D (AA L sz) (wl σ) := va_D_of (by rw [hW]; exact hn) (fun a h => Or.inl (by rw [hW] at h; exact h))
theorem v_put {a ci N ix q0 : Nat} {C ref : String} {T : u_T} {fs : List Value} {v : Value} {σ1 : τ} {ty : FieldType} {ty0 : Nat → FieldType} (k0 : Nat) (he : (wl σ)[q0]? = some (a, .inr (ci, fs))) (hc : classes[ci]? = some (C, T, N)) (hin : ∀ w ∈ u_ws C T N, w ∈ tb) (hty : ∀ k, k < N → parseFieldDescriptor (T k).2.2.1 = some (ty0 k)) (hnm : ∀ a, a < N → ∀ b, b < N → a ≠ b → (T a).2.1 ≠ (T b).2.1) (hk : k0 < N) (href : (T k0).1 = ref) (hfin : (T k0).2.2.2 = false) (hpd : parseFieldDescriptor (T k0).2.2.1 = some ty) (hn : narrow ty v = v) (hfit : fits ty v = true) (hlen : k0 < fs.length) (hset : (wl σ).set q0 (a, .inr (ci, fs.set k0 v)) = wl σ1) (hl0 : Cond.fieldLink own ix ref (T k0).2.1 (T k0).2.2.1 ∈ tb) (hd : decode cc pc = .ok (.putfield ix, 3)) (k : V g L K own cc nL ret wl inj z res σ1 (pc + 3) lv st) : V g L K own cc nL ret wl inj z res σ pc lv (v :: .ref a :: st) := by
  obtain ⟨p, l, e, R, s, m, args, below, meth, c⟩ := z
  intro hF hW r σ' hr H locs ls hP hS hl
  subst href
  exact va_put (C := C) (T := T) (N := N) hF.1 hF.2.1 hF.2.2.2.2.2.2.1 hin ty0 hty hnm hF.2.2.2.2.2.1 hF.2.2.2.2.2.2.2.1 hP (va_D_wl hF.2.2.2.2.2.2.2.2.2.1 hW _ σ) hS q0 he hc k0 hk (hF.2.2.2.2.2.2.1 _ hl0) (fun _ h9 => h9) hfin hpd hn hfit hlen hd (fun H1 locs1 hP1 _ hS1 => k hF hW r σ' hr H1 locs1 ls (by rw [← hset]; exact hP1) hS1 hl)
theorem v_ialdI {a q0 n : Nat} {f : Nat → Int32} {i : Int32} (he : (wl σ)[q0]? = some (a, .inl (g.2.1, n, .inl f))) (hin : vp_in i n) (hd : decode cc pc = .ok (.iaload, 1)) (k : V g L K own cc nL ret wl inj z res σ (pc + 1) lv (.int (f i.toNatClampNeg) :: st)) : V g L K own cc nL ret wl inj z res σ pc lv (.int i :: .ref a :: st) := by
  obtain ⟨p, l, e, R, s, m, args, below, meth, c⟩ := z
  intro hF hW r σ' hr H locs ls hP hS hl
  exact va_iald hF.1 hF.2.1 hF.2.2.2.2.2.2.2.1 hP q0 0 he rfl hin hd (k hF hW r σ' hr H locs ls hP hS hl)
theorem v_iald {a q0 n : Nat} {f : Nat → Int32} {i : Int32} (he : (wl σ)[q0]? = some (a, .inl (g.2.1, n, .inl f))) (hd : decode cc pc = .ok (.iaload, 1)) (k : V g L K own cc nL ret wl inj z res σ (pc + 1) lv (.int (f i.toNatClampNeg) :: st)) : V g L K own cc nL ret wl inj z (grd i n res) σ pc lv (.int i :: .ref a :: st) := by
  unfold grd
  exact v_case (fun h => v_ialdI he h hd k) (fun _ => v_none)
theorem v_iastI {a q0 n : Nat} {f : Nat → Int32} {i x : Int32} {σ1 : τ} (he : (wl σ)[q0]? = some (a, .inl (g.2.1, n, .inl f))) (hin : vp_in i n) (hset : (wl σ).set q0 (a, .inl (g.2.1, n, .inl (upd f i.toNatClampNeg x))) = wl σ1) (hd : decode cc pc = .ok (.iastore, 1)) (k : V g L K own cc nL ret wl inj z res σ1 (pc + 1) lv st) : V g L K own cc nL ret wl inj z res σ pc lv (.int x :: .int i :: .ref a :: st) := by
  obtain ⟨p, l, e, R, s, m, args, below, meth, c⟩ := z
  intro hF hW r σ' hr H locs ls hP hS hl
  exact va_iast hF.1 hF.2.1 hF.2.2.2.2.2.2.2.1 hP (va_D_wl hF.2.2.2.2.2.2.2.2.2.1 hW _ σ) hS q0 0 he rfl hin hd (fun H1 locs1 hP1 _ hS1 => k hF hW r σ' hr H1 locs1 ls (by rw [← hset]; exact hP1) hS1 hl)
theorem v_iast {a q0 n : Nat} {f : Nat → Int32} {i x : Int32} {σ1 : τ} (he : (wl σ)[q0]? = some (a, .inl (g.2.1, n, .inl f))) (hset : (wl σ).set q0 (a, .inl (g.2.1, n, .inl (upd f i.toNatClampNeg x))) = wl σ1) (hd : decode cc pc = .ok (.iastore, 1)) (k : V g L K own cc nL ret wl inj z res σ1 (pc + 1) lv st) : V g L K own cc nL ret wl inj z (grd i n res) σ pc lv (.int x :: .int i :: .ref a :: st) := by
  unfold grd
  exact v_case (fun h => v_iastI he h hset hd k) (fun _ => v_none)
theorem v_alen {a q0 : Nat} {x : vp_A} {cA : ClassId} {ty : FieldType} {t0 : Nat} {v : Int32} (he : (wl σ)[q0]? = some (a, .inl (cA, x))) (ht : (tysG g)[t0]? = some (cA, ty)) (hv : Int32.ofNat x.1 = v) (hd : decode cc pc = .ok (.arraylength, 1)) (k : V g L K own cc nL ret wl inj z res σ (pc + 1) lv (.int v :: st)) : V g L K own cc nL ret wl inj z res σ pc lv (.ref a :: st) := by
  obtain ⟨p, l, e, R, s, m, args, below, meth, c⟩ := z
  intro hF hW r σ' hr H locs ls hP hS hl
  exact va_alen hF.1 hF.2.1 hF.2.2.2.2.2.2.2.1 hP q0 t0 he ht hv hd (k hF hW r σ' hr H locs ls hP hS hl)
theorem v_aald {a q0 n : Nat} {cA : ClassId} {C : String} {t0 : Nat} {f : Nat → Option Nat} {i : Int32} (he : (wl σ)[q0]? = some (a, .inl (cA, n, .inr (.inr (.inr (.inr f)))))) (ht : (tysG g)[t0]? = some (cA, .object C)) (hd : decode cc pc = .ok (.aaload, 1)) (k : i.toNatClampNeg < n → V g L K own cc nL ret wl inj z res σ (pc + 1) lv (va_rf (f i.toNatClampNeg) :: st)) : V g L K own cc nL ret wl inj z (grd i n res) σ pc lv (.int i :: .ref a :: st) := by
  unfold grd
  refine v_case (fun h => ?_) (fun _ => v_none)
  have hn : i.toNatClampNeg < n := by
    rcases Nat.lt_or_ge i.toNatClampNeg n with q | q
    · exact q
    · exact absurd (Or.inr q) h
  replace k := k hn
  obtain ⟨p, l, e, R, s, m, args, below, meth, c⟩ := z
  intro hF hW r σ' hr H locs ls hP hS hl
  exact va_aldq hF.1 hF.2.1 hF.2.2.2.2.2.2.2.1 hP q0 t0 he ht h hd (k hF hW r σ' hr H locs ls hP hS hl)
theorem v_iret {x : Int32} (hd : decode cc pc = .ok (.ireturn, 1)) : V g L K own cc nL (some .int) wl iI z (some (x, σ)) σ pc lv [.int x] := by
  obtain ⟨p, l, e, R, s, m, args, below, meth, c⟩ := z
  intro hF hW r σ' hr H locs ls hP hS hl
  cases hr
  exact W.iret hF.1 hF.2.1 hF.2.2.2.1 (fun t ht hW => ⟨rfl, by rw [ht]; exact hP, hS.F ht⟩) hS.2.2 hd hF.2.2.2.2.1
theorem v_nret {x : Int32} {ty : FieldType} (hn : narrow ty (.int x) = .int x) (hd : decode cc pc = .ok (.ireturn, 1)) : V g L K own cc nL (some ty) wl iI z (some (x, σ)) σ pc lv [.int x] := by
  obtain ⟨p, l, e, R, s, m, args, below, meth, c⟩ := z
  intro hF hW r σ' hr H locs ls hP hS hl
  cases hr
  exact W.zret hF.1 hF.2.1 hF.2.2.2.1 hn (fun t ht hW => ⟨rfl, by rw [ht]; exact hP, hS.F ht⟩) hS.2.2 hd hF.2.2.2.2.1
theorem v_zret {x : Int32} (hd : decode cc pc = .ok (.ireturn, 1)) : V g L K own cc nL (some .boolean) wl iI z (if x = 0 ∨ x = 1 then some (x, σ) else none) σ pc lv [.int x] := by
  refine v_case (fun h => v_nret (by rcases h with h | h <;> (subst h; rfl)) hd) (fun _ => v_none)
theorem v_lret {x : Int64} (hd : decode cc pc = .ok (.lreturn, 1)) : V g L K own cc nL (some .long) wl iL z (some (x, σ)) σ pc lv [.long x] := by
  obtain ⟨p, l, e, R, s, m, args, below, meth, c⟩ := z
  intro hF hW r σ' hr H locs ls hP hS hl
  cases hr
  exact W.lret hF.1 hF.2.1 hF.2.2.2.1 (fun t ht hW => ⟨rfl, by rw [ht]; exact hP, hS.F ht⟩) hS.2.2 hd hF.2.2.2.2.1
theorem v_ret {u : Unit} (hd : decode cc pc = .ok (.return_, 1)) : V g L K own cc nL none wl iU z (some (u, σ)) σ pc lv [] := by
  obtain ⟨p, l, e, R, s, m, args, below, meth, c⟩ := z
  intro hF hW r σ' hr H locs ls hP hS hl
  cases hr
  exact W.vret hF.1 hF.2.1 hF.2.2.2.1 (fun t ht hW => ⟨rfl, by rw [ht]; exact hP, hS.F ht⟩) hS.2.2 hd hF.2.2.2.2.1
theorem ct_of_V {y : MethodName} {av : List Value} {lv0 : List (Nat × Value)} {f : τ → Option (ρ × τ)} (hy : plainName y.cls = true) (hown : y.cls = own) (hls : (lg_sl av).length ≤ nL) (hlv : lv_args 0 av = lv0) (h : ∀ (z : Zt) (σ : τ), V g L K own cc nL ret wl inj z (f σ) σ 0 lv0 []) : CT g L y cc nL ret K av inj wl f := by
  intro hnd hwl l σ sz r σ' hr
  refine Met.ofW (cc := cc) (maxL := nL) (ret := ret) hy rfl ?_
  intro p e s m args below meth c s₁ B hml hv
  obtain ⟨rfl, hsz, hP, hK, hE⟩ := hv
  subst hsz
  have hts := atoms_spec (ws := Cond.code y cc nL ret :: tb) B.pre
  have ho : s.vm.findClass own = some m.cls := hown ▸ findClass_of_methodNamed B.named
  have hl := lv_entry av (n := nL) hls
  rw [hlv] at hl
  rw [lg_entry_eq]
  exact h (p, l, e, _, s, m, _, below, meth, c) σ ⟨B.exec, B.bytes, hml, B.returns, B.notSynchronized, ho, fun w hw => hts w (List.mem_cons_of_mem _ hw), hK, hE, hnd, rfl⟩ hwl r σ' hr s.heap [] _ hP va_S.rf hl
end VROWS

theorem tbl_in : GoodIn tb tb := fun w hw => ⟨hw, good_of_word (List.mem_filter.mp hw).2⟩
theorem tbl_inC {w : Cond} (h : w ∈ tb) : GoodIn tb (w :: tb) := fun v hv => by
  rcases List.mem_cons.mp hv with rfl | hv
  · exact tbl_in _ h
  · exact tbl_in _ hv
/-- what a call needs of a method -/
def MS (y : MethodName) (cc : ByteArray) (nL : Nat) (ret : Option FieldType) (n : Nat) : Prop := Cond.code y cc nL ret ∈ tb ∧ Cond.initialized y.cls ∈ tb ∧ Cond.static y ∈ tb ∧ (y.cls ≠ "java/lang/invoke/MethodHandle" ∧ y.cls ≠ "java/lang/invoke/VarHandle" ∧ (parseMethodDescriptor y.desc).map (fun d => d.parameters.length) = some n) ∧ nL ≤ 80
def MV (y : MethodName) (cc : ByteArray) (nL : Nat) (ret : Option FieldType) (n : Nat) : Prop := Cond.code y cc nL ret ∈ tb ∧ Cond.initialized y.cls ∈ tb ∧ (Cond.instanceMethod y ∈ tb ∧ Cond.selects y.cls y y ∈ tb) ∧ (y.cls ≠ "java/lang/invoke/MethodHandle" ∧ y.cls ≠ "java/lang/invoke/VarHandle" ∧ (parseMethodDescriptor y.desc).map (fun d => d.parameters.length) = some n) ∧ nL ≤ 80
theorem pre_blind {τ : Type} {g : Gt} {L : List Nat} {wl : τ → va_W} {σ : τ} {sz : Nat} (av : List Value) : FrameBlind (va_Pc av (PRE g L wl σ sz)) := by
  intro a U g0 mk q
  obtain ⟨h1, h2, h3, h4, h5⟩ := q
  exact ⟨h1, h2, h3, va_K.moved (u := U) (U := U.calling g0 mk a) (Vm.Alike.refl U.vm) h4, Ex.same rfl h5⟩
theorem pre_of {τ : Type} {g : Gt} {L : List Nat} {wl : τ → va_W} {σ : τ} {s : State} {H : Heap} {locs : List Loc} (hK : KG g s) (hE : Ex g (AA L s.heap.size) s s.heap) (hP : va_P g.1 classes (wl σ) H) (hS : va_S (AA L s.heap.size) s.heap H locs) : ∀ U : State, U.heap = H → s.WarmedH U.vm → PRE g L wl σ H.size U := by
  intro U hU hW
  refine ⟨by rw [hU], by rw [hU]; exact hP, va_K.moved hW.alike hK, ?_⟩
  rw [hU]
  exact Ex.warm hW ((hE.kept hS.2.1).narrow (AA.mono hS.1))
section VCALL
variable {p : Program} {l : Launch} {e : Env} {R : Room} {s : State} {m : MethodId} {args : Array Value} {below : List Frame} {meth : Method} {c : Code} {H : Heap} {locs : List Loc} {Q : State → Prop} {τ ρ : Type} {g : Gt} {L : List Nat} {wl : τ → va_W} {inj : ρ → Option Value} {pc : Nat} {ls : Array Slot} {st0 rest : List Value} {r1 : ρ} {σ1 : τ} {aa : Array Value}
theorem w_call (hr : va_Run p l e R s m args below meth c H locs 0 0 0 0 (F0 m pc ls st0) rest (CQ g wl inj L r1 σ1 aa) (AA L H.size)) (hS : va_S (AA L s.heap.size) s.heap H locs)
    (kk : ∀ (H1 : Heap) (locs1 : List Loc), va_P g.1 classes (wl σ1) H1 → va_S (AA L s.heap.size) s.heap H1 locs1 → W p l e R s m args below meth c H1 locs1 0 0 Q (F0 m (pc + 3) ls ((inj r1).toList ++ rest))) : W p l e R s m args below meth c H locs 0 0 Q (F0 m pc ls st0) := by
  intro T hT X
  obtain ⟨v, st₀, t, T', Ls, h0, X', hL, e1, e2, ⟨hv, hp, hz, hk⟩, stp⟩ := hr T hT X
  have hv : v = inj r1 := by injection hv
  subst hv
  rw [h0] at hz hk
  have hA := AA.mono (L := L) hS.1
  obtain ⟨t2, a1, b1⟩ := kk T'.heap (locs ++ Ls) (by rw [e1]; exact hp)
    ⟨Nat.le_trans hS.1 (by rw [e1]; exact hz), fun q h1 h2 => by rw [e1, hk q (Nat.lt_of_lt_of_le h1 hS.1) (fun z => h2 (hA q z))]; exact hS.2.1 q h1 h2, fun q hq => by
      rcases List.mem_append.mp hq with h | h
      · exact hS.2.2 q h
      · exact hA _ (hL q h)⟩ T' rfl X'
  exact ⟨t2, stp t2 a1, b1⟩
end VCALL
/-- a receiver's class -/
def RC {τ : Type} (wl : τ → va_W) (σ : τ) (b : Nat) (C : String) : Prop := ∃ (q0 ci : Nat) (fs : List Value) (q : vw_C), (wl σ)[q0]? = some (b, .inr (ci, fs)) ∧ classes[ci]? = some q ∧ q.1 = C
section VROWS2
variable {τ ρ ρ2 : Type} {g : Gt} {L : List Nat} {K : Nat} {own : String} {cc : ByteArray} {nL : Nat} {ret : Option FieldType} {wl : τ → va_W} {inj : ρ → Option Value} {z : Zt} {res r1 r2 : Option (ρ × τ)} {σ : τ} {pc : Nat} {lv lv' : List (Nat × Value)} {st rest : List Value}
  {y : MethodName} {bytes : ByteArray} {maxL k n ix b : Nat} {ret2 : Option FieldType} {av As : List Value} {inj2 : ρ2 → Option Value} {f : τ → Option (ρ2 × τ)} {kf : ρ2 × τ → Option (ρ × τ)}
theorem v_callS (hc : CT g L y bytes maxL ret2 k av inj2 wl f) (mi : MS y bytes maxL ret2 n) (hlink : Cond.methodLink own ix y ∈ tb) (hk : k + 1 ≤ K) (hn : av.length = n) (hst : st = av.reverse ++ rest) (hrest : (rest.map fun v => v.category).sum ≤ 8) (hd : decode cc pc = .ok (.invokestatic ix, 3))
    (kk : ∀ (q : ρ2 × τ), V g L K own cc nL ret wl inj z (kf q) q.2 (pc + 3) lv ((inj2 q.1).toList ++ rest)) : V g L K own cc nL ret wl inj z (bnd (f σ) kf) σ pc lv st := by
  obtain ⟨p, l, e, R, s, m, args, below, meth, c⟩ := z
  intro hF hW r σ' hr H locs ls hP hS hl
  cases hf : f σ with
  | none => rw [hf] at hr; cases hr
  | some q =>
    obtain ⟨q1, q2⟩ := q
    rw [hf, bnd_some] at hr
    obtain ⟨hx, hb, hml, hret, hlk, ho, hts, hK, hE, hnd, hR⟩ := hF
    subst hR
    have hM := hc hnd hW l σ H.size q1 q2 hf
    have hcw := va_cwS (own := own) (index := ix) (R := rmk K) (bytes := bytes) (maxL := maxL) (ret := ret2) (mc := 0) (ms := 0) (Ts := tb) (ws := Cond.code y bytes maxL ret2 :: tb) (ws' := tb) (rm := rmk k) n hts (fun w hw => by
      rcases List.mem_append.mp (show w ∈ ([.methodLink own ix y, .static y, .initialized y.cls] : List Cond) ++ (Cond.code y bytes maxL ret2 :: tb) from hw) with h | h
      · rcases List.mem_cons.mp h with rfl | h
        · exact tbl_in _ hlink
        · rcases List.mem_cons.mp h with rfl | h
          · exact tbl_in _ mi.2.2.1
          · rcases List.mem_cons.mp h with rfl | h
            · exact tbl_in _ mi.2.1
            · cases h
      · exact tbl_inC mi.1 _ h) rfl rfl rfl mi.2.2.2.1 ⟨hk, by have := mi.2.2.2.2; show 8 + (maxL + 11) + 100 * k ≤ 100 * K; omega⟩
    refine w_call (va_runS (As := av) (rest := rest) ⟨hx, hb, hml, ho, hts⟩ hM hcw ⟨pre_blind av, fun U hU hWm => ⟨rfl, pre_of hK hE hP hS U hU hWm⟩⟩ rfl hn hl.1 hst (lv_room hrest) hd ⟨Nat.zero_le _, Nat.zero_le _⟩) hS (fun H1 locs1 hP1 hS1 => ?_)
    exact kk (q1, q2) ⟨hx, hb, hml, hret, hlk, ho, hts, hK, hE, hnd, rfl⟩ hW r σ' hr H1 locs1 ls hP1 hS1 hl
theorem v_callVr (hrecv : ∀ (H : Heap), va_P g.1 classes (wl σ) H → ∀ s : State, KG g s → ∀ locs, Ex g (AA L s.heap.size) s s.heap → va_S (AA L s.heap.size) s.heap H locs → ∃ cellB : Cell, H[b]? = some cellB ∧ cellB.vm.isStatics = false ∧ s.vm.findClass y.cls = some cellB.cls) (hc : CT g L y bytes maxL ret2 k (.ref b :: As) inj2 wl f) (mi : MV y bytes maxL ret2 n) (hlink : Cond.methodLink own ix y ∈ tb) (hk : k + 1 ≤ K) (hn : As.length = n) (hst : st = As.reverse ++ .ref b :: rest) (hrest : (rest.map fun v => v.category).sum ≤ 8) (hd : decode cc pc = .ok (.invokevirtual ix, 3))
    (kk : ∀ (q : ρ2 × τ), V g L K own cc nL ret wl inj z (kf q) q.2 (pc + 3) lv ((inj2 q.1).toList ++ rest)) : V g L K own cc nL ret wl inj z (bnd (f σ) kf) σ pc lv st := by
  obtain ⟨p, l, e, R, s, m, args, below, meth, c⟩ := z
  intro hF hW r σ' hr H locs ls hP hS hl
  cases hf : f σ with
  | none => rw [hf] at hr; cases hr
  | some q =>
    obtain ⟨q1, q2⟩ := q
    rw [hf, bnd_some] at hr
    obtain ⟨hx, hb, hml, hret, hlk, ho, hts, hK, hE, hnd, hR⟩ := hF
    subst hR
    have hM := hc hnd hW l σ H.size q1 q2 hf
    have hcw := cwV (own := own) (index := ix) (C := y.cls) (R := rmk K) (bytes := bytes) (maxL := maxL) (ret := ret2) (mc := 0) (ms := 0) (Ts := tb) (ws := Cond.code y bytes maxL ret2 :: tb) (ws' := tb) (rm := rmk k) n hts (fun w hw => by
      rcases List.mem_append.mp (show w ∈ ([.methodLink own ix y, .instanceMethod y, .selects y.cls y y, .initialized y.cls] : List Cond) ++ (Cond.code y bytes maxL ret2 :: tb) from hw) with h | h
      · rcases List.mem_cons.mp h with rfl | h
        · exact tbl_in _ hlink
        · rcases List.mem_cons.mp h with rfl | h
          · exact tbl_in _ mi.2.2.1.1
          · rcases List.mem_cons.mp h with rfl | h
            · exact tbl_in _ mi.2.2.1.2
            · rcases List.mem_cons.mp h with rfl | h
              · exact tbl_in _ mi.2.1
              · cases h
      · exact tbl_inC mi.1 _ h) rfl rfl rfl ⟨rfl, mi.2.2.2.1⟩ ⟨hk, by have := mi.2.2.2.2; show 8 + (maxL + 11) + 100 * k ≤ 100 * K; omega⟩
    refine w_call (va_runV (b := b) (As := As) (rest := rest) ⟨hx, hb, hml, ho, hts⟩ hM hcw ⟨pre_blind _, hrecv H hP s hK locs hE hS, fun U hU hWm => ⟨rfl, pre_of hK hE hP hS U hU hWm⟩⟩ rfl hn hl.1 hst (lv_room hrest) hd ⟨Nat.zero_le _, Nat.zero_le _⟩) hS (fun H1 locs1 hP1 hS1 => ?_)
    exact kk (q1, q2) ⟨hx, hb, hml, hret, hlk, ho, hts, hK, hE, hnd, rfl⟩ hW r σ' hr H1 locs1 ls hP1 hS1 hl
theorem v_callV (hrc : RC wl σ b y.cls) (hc : CT g L y bytes maxL ret2 k (.ref b :: As) inj2 wl f) (mi : MV y bytes maxL ret2 n) (hlink : Cond.methodLink own ix y ∈ tb) (hk : k + 1 ≤ K) (hn : As.length = n) (hst : st = As.reverse ++ .ref b :: rest) (hrest : (rest.map fun v => v.category).sum ≤ 8) (hd : decode cc pc = .ok (.invokevirtual ix, 3))
    (kk : ∀ (q : ρ2 × τ), V g L K own cc nL ret wl inj z (kf q) q.2 (pc + 3) lv ((inj2 q.1).toList ++ rest)) : V g L K own cc nL ret wl inj z (bnd (f σ) kf) σ pc lv st := by
  refine v_callVr (fun H hP s hK _ _ _ => ?_) hc mi hlink hk hn hst hrest hd kk
  obtain ⟨q0, ci, fs, q, h1, h2, h3⟩ := hrc
  have h4 := va_recv hK hP h2 h1
  rw [h3] at h4
  exact h4
theorem v_mmax {x y0 : Int32} (hlink : Cond.methodLink own ix yJ9_max_7cf53 ∈ tb) (hs : Cond.static yJ9_max_7cf53 ∈ tb) (hi : Cond.initialized "java/lang/Math" ∈ tb) (hco : Cond.code yJ9_max_7cf53 cJ9_max_7cf53 2 (some .int) ∈ tb) (hK1 : 1 ≤ K) (hrest : (rest.map fun v => v.category).sum ≤ 8) (hd : decode cc pc = .ok (.invokestatic ix, 3)) (kk : V g L K own cc nL ret wl inj z res σ (pc + 3) lv (.int (mxI x y0) :: rest)) : V g L K own cc nL ret wl inj z res σ pc lv (.int y0 :: .int x :: rest) := by
  obtain ⟨p, l, e, R, s, m, args, below, meth, c⟩ := z
  intro hF hW r σ' hr H locs ls hP hS hl
  obtain ⟨hx, hb, hml, hret, hlk, ho, hts, hK, hE, hnd, hR⟩ := id hF
  subst hR
  exact va_mmax hx hb (hml.trans hl.1.symm) ho (hts _ hlink) (hts _ hs) (hts _ hi) (hts _ hco) hK1 (by show _ ≤ 100 * K; omega) (Nat.zero_le _) (Nat.zero_le _) hd (kk hF hW r σ' hr H locs ls hP hS hl)
theorem v_mmin {x y0 : Int32} (hlink : Cond.methodLink own ix yJ9_min_7cf53 ∈ tb) (hs : Cond.static yJ9_min_7cf53 ∈ tb) (hi : Cond.initialized "java/lang/Math" ∈ tb) (hco : Cond.code yJ9_min_7cf53 cJ9_min_7cf53 2 (some .int) ∈ tb) (hK1 : 1 ≤ K) (hrest : (rest.map fun v => v.category).sum ≤ 8) (hd : decode cc pc = .ok (.invokestatic ix, 3)) (kk : V g L K own cc nL ret wl inj z res σ (pc + 3) lv (.int (mnI x y0) :: rest)) : V g L K own cc nL ret wl inj z res σ pc lv (.int y0 :: .int x :: rest) := by
  obtain ⟨p, l, e, R, s, m, args, below, meth, c⟩ := z
  intro hF hW r σ' hr H locs ls hP hS hl
  obtain ⟨hx, hb, hml, hret, hlk, ho, hts, hK, hE, hnd, hR⟩ := id hF
  subst hR
  exact va_mmin hx hb (hml.trans hl.1.symm) ho (hts _ hlink) (hts _ hs) (hts _ hi) (hts _ hco) hK1 (by show _ ≤ 100 * K; omega) (Nat.zero_le _) (Nat.zero_le _) hd (kk hF hW r σ' hr H locs ls hP hS hl)
end VROWS2
end
section

/-! ===== the two worlds ===== -/
def up {α : Type} (f : Nat → α) (k : Nat) (v : α) : Nat → α := fun j => bif Nat.beq j k then v else f j
theorem up_s {α : Type} (f : Nat → α) (k : Nat) (v : α) : up f k v k = v := by unfold up; rw [Nat.beq_refl]; rfl
theorem up_n {α : Type} (f : Nat → α) {k j : Nat} (v : α) (h : j ≠ k) : up f k v j = f j := by
  unfold up
  cases hq : Nat.beq j k with
  | true => exact absurd (Nat.eq_of_beq_eq_true hq) h
  | false => rfl
abbrev GX : Type := (Nat → Int32) × (Nat → Nat → Int32) × (Nat → Int64) × (Nat → Nat → Nat → Int32) × (Nat → Int32) × (Nat → Nat → Nat → Int32) × (Nat → Nat → Int32) × (Nat → Nat → Int32) × (Nat → Int32) × Option Nat × Option Unit
def xI (σ : GX) : Nat → Int32 := σ.1
def xS (σ : GX) : Nat → Nat → Int32 := σ.2.1
def xR (σ : GX) : Nat → Int64 := σ.2.2.1
def xB (σ : GX) : Nat → Nat → Nat → Int32 := σ.2.2.2.1
def xT (σ : GX) : Nat → Int32 := σ.2.2.2.2.1
def xU (σ : GX) : Nat → Nat → Nat → Int32 := σ.2.2.2.2.2.1
def xH (σ : GX) : Nat → Nat → Int32 := σ.2.2.2.2.2.2.1
def xN (σ : GX) : Nat → Nat → Int32 := σ.2.2.2.2.2.2.2.1
def xP (σ : GX) : Nat → Int32 := σ.2.2.2.2.2.2.2.2.1
def xV (σ : GX) : Option Nat := σ.2.2.2.2.2.2.2.2.2.1
def xY (σ : GX) : Option Unit := σ.2.2.2.2.2.2.2.2.2.2
def sI (σ : GX) (k : Nat) (v : Int32) : GX := (up (xI σ) k v, xS σ, xR σ, xB σ, xT σ, xU σ, xH σ, xN σ, xP σ, xV σ, xY σ)
def sS (σ : GX) (z j : Nat) (v : Int32) : GX := (xI σ, up (xS σ) z (up (xS σ z) j v), xR σ, xB σ, xT σ, xU σ, xH σ, xN σ, xP σ, xV σ, xY σ)
def sR (σ : GX) (z : Nat) (v : Int64) : GX := (xI σ, xS σ, up (xR σ) z v, xB σ, xT σ, xU σ, xH σ, xN σ, xP σ, xV σ, xY σ)
def sB (σ : GX) (z j i : Nat) (v : Int32) : GX := (xI σ, xS σ, xR σ, up (xB σ) z (up (xB σ z) j (upd (xB σ z j) i v)), xT σ, xU σ, xH σ, xN σ, xP σ, xV σ, xY σ)
def sT (σ : GX) (t : Nat) (v : Int32) : GX := (xI σ, xS σ, xR σ, xB σ, up (xT σ) t v, xU σ, xH σ, xN σ, xP σ, xV σ, xY σ)
def sU (σ : GX) (t j i : Nat) (v : Int32) : GX := (xI σ, xS σ, xR σ, xB σ, xT σ, up (xU σ) t (up (xU σ t) j (upd (xU σ t j) i v)), xH σ, xN σ, xP σ, xV σ, xY σ)
def sH (σ : GX) (q j : Nat) (v : Int32) : GX := (xI σ, xS σ, xR σ, xB σ, xT σ, xU σ, up (xH σ) q (up (xH σ q) j v), xN σ, xP σ, xV σ, xY σ)
def sN (σ : GX) (q i : Nat) (v : Int32) : GX := (xI σ, xS σ, xR σ, xB σ, xT σ, xU σ, xH σ, up (xN σ) q (upd (xN σ q) i v), xP σ, xV σ, xY σ)
def sP (σ : GX) (i : Nat) (v : Int32) : GX := (xI σ, xS σ, xR σ, xB σ, xT σ, xU σ, xH σ, xN σ, upd (xP σ) i v, xV σ, xY σ)
def sV (σ : GX) (v : Option Nat) : GX := (xI σ, xS σ, xR σ, xB σ, xT σ, xU σ, xH σ, xN σ, xP σ, v, xY σ)
def sY (σ : GX) (v : Option Unit) : GX := (xI σ, xS σ, xR σ, xB σ, xT σ, xU σ, xH σ, xN σ, xP σ, xV σ, v)
def cB (σ : GX) (z1 j1 z j : Nat) (sp dp n : Nat) : GX := (xI σ, xS σ, xR σ, up (xB σ) z (up (xB σ z) j (va_cpy (xB σ z1 j1) (xB σ z j) sp dp n)), xT σ, xU σ, xH σ, xN σ, xP σ, xV σ, xY σ)
def cN (σ : GX) (q1 q : Nat) (sp dp n : Nat) : GX := (xI σ, xS σ, xR σ, xB σ, xT σ, xU σ, xH σ, up (xN σ) q (va_cpy (xN σ q1) (xN σ q) sp dp n), xP σ, xV σ, xY σ)

def aMain (ad : Nat → Nat) : Nat := ad 0
def aTexts (ad : Nat → Nat) : Nat := ad 1
def aSheets (ad : Nat → Nat) : Nat := ad 2
def aTape (ad : Nat → Nat) : Nat := ad 3
def aReader (ad : Nat → Nat) : Nat := ad 4
def aLaw (ad : Nat → Nat) (t : Nat) : Nat := ad (5 + 4 * t)
def aLawA (ad : Nat → Nat) (t j : Nat) : Nat := ad (6 + 4 * t + j)
def aSea (ad : Nat → Nat) (z : Nat) : Nat := ad (29 + 6 * z)
def aSeaA (ad : Nat → Nat) (z j : Nat) : Nat := ad (30 + 6 * z + j)
def aSheet (ad : Nat → Nat) (q : Nat) : Nat := ad (47 + 2 * q)
def aNums (ad : Nat → Nat) (q : Nat) : Nat := ad (48 + 2 * q)
def wX (g : Gt) (ad : Nat → Nat) (σ : GX) : va_W := [
  (aMain ad, .inr (4, [.ref (aTexts ad), .ref (aSea ad 0), .ref (aSea ad 1), .ref (aSea ad 2), .ref (aSheets ad), .ref (aTape ad), .ref (aReader ad), .int (xI σ 0), .int (xI σ 1), .int (xI σ 2)])),
  (aTexts ad, .inl (g.2.2.1, 6, .inr (.inr (.inr (.inr (fun t => some (aLaw ad t))))))),
  (aSheets ad, .inl (g.2.2.2.1, 4, .inr (.inr (.inr (.inr (fun q => some (aSheet ad q))))))),
  (aTape ad, .inl (g.2.1, 160, .inl (xP σ))),
  (aReader ad, .inr (1, [va_rf ((xY σ).map (fun _ => aTape ad)), .int (xI σ 3), .int (xI σ 4), .int (xI σ 5), .int (xI σ 6), .int (xI σ 7), va_rf ((xV σ).map (aLaw ad))])),
  (aLaw ad 0, .inr (0, [.ref (aLawA ad 0 0), .ref (aLawA ad 0 1), .ref (aLawA ad 0 2), .int (xT σ 0)])),
  (aLawA ad 0 0, .inl (g.2.1, 160, .inl (xU σ 0 0))),
  (aLawA ad 0 1, .inl (g.2.1, 160, .inl (xU σ 0 1))),
  (aLawA ad 0 2, .inl (g.2.1, 3, .inl (xU σ 0 2))),
  (aLaw ad 1, .inr (0, [.ref (aLawA ad 1 0), .ref (aLawA ad 1 1), .ref (aLawA ad 1 2), .int (xT σ 1)])),
  (aLawA ad 1 0, .inl (g.2.1, 160, .inl (xU σ 1 0))),
  (aLawA ad 1 1, .inl (g.2.1, 160, .inl (xU σ 1 1))),
  (aLawA ad 1 2, .inl (g.2.1, 3, .inl (xU σ 1 2))),
  (aLaw ad 2, .inr (0, [.ref (aLawA ad 2 0), .ref (aLawA ad 2 1), .ref (aLawA ad 2 2), .int (xT σ 2)])),
  (aLawA ad 2 0, .inl (g.2.1, 160, .inl (xU σ 2 0))),
  (aLawA ad 2 1, .inl (g.2.1, 160, .inl (xU σ 2 1))),
  (aLawA ad 2 2, .inl (g.2.1, 3, .inl (xU σ 2 2))),
  (aLaw ad 3, .inr (0, [.ref (aLawA ad 3 0), .ref (aLawA ad 3 1), .ref (aLawA ad 3 2), .int (xT σ 3)])),
  (aLawA ad 3 0, .inl (g.2.1, 160, .inl (xU σ 3 0))),
  (aLawA ad 3 1, .inl (g.2.1, 160, .inl (xU σ 3 1))),
  (aLawA ad 3 2, .inl (g.2.1, 3, .inl (xU σ 3 2))),
  (aLaw ad 4, .inr (0, [.ref (aLawA ad 4 0), .ref (aLawA ad 4 1), .ref (aLawA ad 4 2), .int (xT σ 4)])),
  (aLawA ad 4 0, .inl (g.2.1, 160, .inl (xU σ 4 0))),
  (aLawA ad 4 1, .inl (g.2.1, 160, .inl (xU σ 4 1))),
  (aLawA ad 4 2, .inl (g.2.1, 3, .inl (xU σ 4 2))),
  (aLaw ad 5, .inr (0, [.ref (aLawA ad 5 0), .ref (aLawA ad 5 1), .ref (aLawA ad 5 2), .int (xT σ 5)])),
  (aLawA ad 5 0, .inl (g.2.1, 160, .inl (xU σ 5 0))),
  (aLawA ad 5 1, .inl (g.2.1, 160, .inl (xU σ 5 1))),
  (aLawA ad 5 2, .inl (g.2.1, 3, .inl (xU σ 5 2))),
  (aSea ad 0, .inr (2, [.ref (aTexts ad), .ref (aSeaA ad 0 0), .ref (aSeaA ad 0 1), .ref (aSeaA ad 0 2), .ref (aSeaA ad 0 3), .ref (aSeaA ad 0 4), .long (xR σ 0), .int (xS σ 0 0), .int (xS σ 0 1), .int (xS σ 0 2), .int (xS σ 0 3), .int (xS σ 0 4)])),
  (aSeaA ad 0 0, .inl (g.2.1, 36, .inl (xB σ 0 0))),
  (aSeaA ad 0 1, .inl (g.2.1, 6, .inl (xB σ 0 1))),
  (aSeaA ad 0 2, .inl (g.2.1, 6, .inl (xB σ 0 2))),
  (aSeaA ad 0 3, .inl (g.2.1, 6, .inl (xB σ 0 3))),
  (aSeaA ad 0 4, .inl (g.2.1, 6, .inl (xB σ 0 4))),
  (aSea ad 1, .inr (2, [.ref (aTexts ad), .ref (aSeaA ad 1 0), .ref (aSeaA ad 1 1), .ref (aSeaA ad 1 2), .ref (aSeaA ad 1 3), .ref (aSeaA ad 1 4), .long (xR σ 1), .int (xS σ 1 0), .int (xS σ 1 1), .int (xS σ 1 2), .int (xS σ 1 3), .int (xS σ 1 4)])),
  (aSeaA ad 1 0, .inl (g.2.1, 36, .inl (xB σ 1 0))),
  (aSeaA ad 1 1, .inl (g.2.1, 6, .inl (xB σ 1 1))),
  (aSeaA ad 1 2, .inl (g.2.1, 6, .inl (xB σ 1 2))),
  (aSeaA ad 1 3, .inl (g.2.1, 6, .inl (xB σ 1 3))),
  (aSeaA ad 1 4, .inl (g.2.1, 6, .inl (xB σ 1 4))),
  (aSea ad 2, .inr (2, [.ref (aTexts ad), .ref (aSeaA ad 2 0), .ref (aSeaA ad 2 1), .ref (aSeaA ad 2 2), .ref (aSeaA ad 2 3), .ref (aSeaA ad 2 4), .long (xR σ 2), .int (xS σ 2 0), .int (xS σ 2 1), .int (xS σ 2 2), .int (xS σ 2 3), .int (xS σ 2 4)])),
  (aSeaA ad 2 0, .inl (g.2.1, 36, .inl (xB σ 2 0))),
  (aSeaA ad 2 1, .inl (g.2.1, 6, .inl (xB σ 2 1))),
  (aSeaA ad 2 2, .inl (g.2.1, 6, .inl (xB σ 2 2))),
  (aSeaA ad 2 3, .inl (g.2.1, 6, .inl (xB σ 2 3))),
  (aSeaA ad 2 4, .inl (g.2.1, 6, .inl (xB σ 2 4))),
  (aSheet ad 0, .inr (3, [.ref (aNums ad 0), .int (xH σ 0 0), .int (xH σ 0 1)])),
  (aNums ad 0, .inl (g.2.1, 40, .inl (xN σ 0))),
  (aSheet ad 1, .inr (3, [.ref (aNums ad 1), .int (xH σ 1 0), .int (xH σ 1 1)])),
  (aNums ad 1, .inl (g.2.1, 40, .inl (xN σ 1))),
  (aSheet ad 2, .inr (3, [.ref (aNums ad 2), .int (xH σ 2 0), .int (xH σ 2 1)])),
  (aNums ad 2, .inl (g.2.1, 40, .inl (xN σ 2))),
  (aSheet ad 3, .inr (3, [.ref (aNums ad 3), .int (xH σ 3 0), .int (xH σ 3 1)])),
  (aNums ad 3, .inl (g.2.1, 40, .inl (xN σ 3)))]
def LX (ad : Nat → Nat) : List Nat := (List.range 55).map ad
theorem wX_L (g : Gt) (ad : Nat → Nat) (σ : GX) : (wX g ad σ).map Prod.fst = LX ad := rfl

abbrev GM : Type := (Nat → Int32) × (Nat → Int64) × (Nat → Nat → Int32)
def mI (σ : GM) : Nat → Int32 := σ.1
def mL (σ : GM) : Nat → Int64 := σ.2.1
def mA (σ : GM) : Nat → Nat → Int32 := σ.2.2
def tI (σ : GM) (k : Nat) (v : Int32) : GM := (up (mI σ) k v, mL σ, mA σ)
def tL (σ : GM) (k : Nat) (v : Int64) : GM := (mI σ, up (mL σ) k v, mA σ)
def tA (σ : GM) (a i : Nat) (v : Int32) : GM := (mI σ, mL σ, up (mA σ) a (upd (mA σ a) i v))
def aMo (ad : Nat → Nat) : Nat := ad 0
def aMoA (ad : Nat → Nat) (a : Nat) : Nat := ad (1 + a)
def wM (g : Gt) (ad : Nat → Nat) (σ : GM) : va_W := [
  (aMo ad, .inr (5, [.int (mI σ 0), .ref (aMoA ad 0), .ref (aMoA ad 1), .ref (aMoA ad 2), .ref (aMoA ad 3), .ref (aMoA ad 4), .ref (aMoA ad 5), .long (mL σ 0), .int (mI σ 1), .int (mI σ 2), .ref (aMoA ad 6), .int (mI σ 3), .ref (aMoA ad 7), .ref (aMoA ad 8), .int (mI σ 4), .int (mI σ 5), .int (mI σ 6), .ref (aMoA ad 9), .ref (aMoA ad 10), .long (mL σ 1), .ref (aMoA ad 11), .ref (aMoA ad 12), .ref (aMoA ad 13), .ref (aMoA ad 14), .int (mI σ 7), .int (mI σ 8), .int (mI σ 9), .int (mI σ 10), .ref (aMoA ad 15), .ref (aMoA ad 16), .int (mI σ 11), .int (mI σ 12), .int (mI σ 13), .ref (aMoA ad 17), .ref (aMoA ad 18), .ref (aMoA ad 19), .int (mI σ 14)])),
  (aMoA ad 0, .inl (g.2.1, 6, .inl (mA σ 0))),
  (aMoA ad 1, .inl (g.2.1, 6, .inl (mA σ 1))),
  (aMoA ad 2, .inl (g.2.1, 6, .inl (mA σ 2))),
  (aMoA ad 3, .inl (g.2.1, 6, .inl (mA σ 3))),
  (aMoA ad 4, .inl (g.2.1, 6, .inl (mA σ 4))),
  (aMoA ad 5, .inl (g.2.1, 36, .inl (mA σ 5))),
  (aMoA ad 6, .inl (g.2.1, 160, .inl (mA σ 6))),
  (aMoA ad 7, .inl (g.2.1, 1200, .inl (mA σ 7))),
  (aMoA ad 8, .inl (g.2.1, 24, .inl (mA σ 8))),
  (aMoA ad 9, .inl (g.2.1, 54, .inl (mA σ 9))),
  (aMoA ad 10, .inl (g.2.1, 4, .inl (mA σ 10))),
  (aMoA ad 11, .inl (g.2.1, 4, .inl (mA σ 11))),
  (aMoA ad 12, .inl (g.2.1, 4, .inl (mA σ 12))),
  (aMoA ad 13, .inl (g.2.1, 160, .inl (mA σ 13))),
  (aMoA ad 14, .inl (g.2.1, 60, .inl (mA σ 14))),
  (aMoA ad 15, .inl (g.2.1, 96, .inl (mA σ 15))),
  (aMoA ad 16, .inl (g.2.1, 200, .inl (mA σ 16))),
  (aMoA ad 17, .inl (g.2.1, 200, .inl (mA σ 17))),
  (aMoA ad 18, .inl (g.2.1, 6, .inl (mA σ 18))),
  (aMoA ad 19, .inl (g.2.1, 50, .inl (mA σ 19)))]
def LM (ad : Nat → Nat) : List Nat := (List.range 21).map ad
theorem wM_L (g : Gt) (ad : Nat → Nat) (σ : GM) : (wM g ad σ).map Prod.fst = LM ad := rfl
section WROWS
variable {ρ : Type} {g : Gt} {ad : Nat → Nat} {L : List Nat} {K : Nat} {own : String} {cc : ByteArray} {nL : Nat} {ret : Option FieldType} {inj : ρ → Option Value} {z : Zt} {res : Option (ρ × GX)} {σ : GX} {pc ix : Nat} {lv : List (Nat × Value)} {st : List Value}
theorem inX0 : ∀ w ∈ u_ws RX0 TX0 4, w ∈ tb := by
  intro w hw
  obtain ⟨k, hk, rfl⟩ := List.mem_map.mp hw
  have hk := List.mem_range.mp hk
  match k, hk with
  | 0, _ => exact tb_mem 114 (by decide +kernel) (by decide +kernel)
  | 1, _ => exact tb_mem 116 (by decide +kernel) (by decide +kernel)
  | 2, _ => exact tb_mem 118 (by decide +kernel) (by decide +kernel)
  | 3, _ => exact tb_mem 120 (by decide +kernel) (by decide +kernel)
theorem gX0_steps {t : Nat} (h0 : t < 6) (hl0 : Cond.fieldLink own ix RX0 "steps" "[I" ∈ tb) (hd : decode cc pc = .ok (.getfield ix, 3)) (k : V g L K own cc nL ret (wX g ad) inj z res σ (pc + 3) lv (.ref (aLawA ad t 0) :: st)) : V g L K own cc nL ret (wX g ad) inj z res σ pc lv (.ref (aLaw ad t) :: st) := by
  match t, h0 with
  | 0, _ => exact v_get (q0 := 5) (C := RX0) (T := TX0) (N := 4) 0 rfl rfl inX0 (by decide) rfl rfl hl0 hd k
  | 1, _ => exact v_get (q0 := 9) (C := RX0) (T := TX0) (N := 4) 0 rfl rfl inX0 (by decide) rfl rfl hl0 hd k
  | 2, _ => exact v_get (q0 := 13) (C := RX0) (T := TX0) (N := 4) 0 rfl rfl inX0 (by decide) rfl rfl hl0 hd k
  | 3, _ => exact v_get (q0 := 17) (C := RX0) (T := TX0) (N := 4) 0 rfl rfl inX0 (by decide) rfl rfl hl0 hd k
  | 4, _ => exact v_get (q0 := 21) (C := RX0) (T := TX0) (N := 4) 0 rfl rfl inX0 (by decide) rfl rfl hl0 hd k
  | 5, _ => exact v_get (q0 := 25) (C := RX0) (T := TX0) (N := 4) 0 rfl rfl inX0 (by decide) rfl rfl hl0 hd k
theorem gX0_stack {t : Nat} (h0 : t < 6) (hl0 : Cond.fieldLink own ix RX0 "stack" "[I" ∈ tb) (hd : decode cc pc = .ok (.getfield ix, 3)) (k : V g L K own cc nL ret (wX g ad) inj z res σ (pc + 3) lv (.ref (aLawA ad t 1) :: st)) : V g L K own cc nL ret (wX g ad) inj z res σ pc lv (.ref (aLaw ad t) :: st) := by
  match t, h0 with
  | 0, _ => exact v_get (q0 := 5) (C := RX0) (T := TX0) (N := 4) 1 rfl rfl inX0 (by decide) rfl rfl hl0 hd k
  | 1, _ => exact v_get (q0 := 9) (C := RX0) (T := TX0) (N := 4) 1 rfl rfl inX0 (by decide) rfl rfl hl0 hd k
  | 2, _ => exact v_get (q0 := 13) (C := RX0) (T := TX0) (N := 4) 1 rfl rfl inX0 (by decide) rfl rfl hl0 hd k
  | 3, _ => exact v_get (q0 := 17) (C := RX0) (T := TX0) (N := 4) 1 rfl rfl inX0 (by decide) rfl rfl hl0 hd k
  | 4, _ => exact v_get (q0 := 21) (C := RX0) (T := TX0) (N := 4) 1 rfl rfl inX0 (by decide) rfl rfl hl0 hd k
  | 5, _ => exact v_get (q0 := 25) (C := RX0) (T := TX0) (N := 4) 1 rfl rfl inX0 (by decide) rfl rfl hl0 hd k
theorem gX0_ends {t : Nat} (h0 : t < 6) (hl0 : Cond.fieldLink own ix RX0 "ends" "[I" ∈ tb) (hd : decode cc pc = .ok (.getfield ix, 3)) (k : V g L K own cc nL ret (wX g ad) inj z res σ (pc + 3) lv (.ref (aLawA ad t 2) :: st)) : V g L K own cc nL ret (wX g ad) inj z res σ pc lv (.ref (aLaw ad t) :: st) := by
  match t, h0 with
  | 0, _ => exact v_get (q0 := 5) (C := RX0) (T := TX0) (N := 4) 2 rfl rfl inX0 (by decide) rfl rfl hl0 hd k
  | 1, _ => exact v_get (q0 := 9) (C := RX0) (T := TX0) (N := 4) 2 rfl rfl inX0 (by decide) rfl rfl hl0 hd k
  | 2, _ => exact v_get (q0 := 13) (C := RX0) (T := TX0) (N := 4) 2 rfl rfl inX0 (by decide) rfl rfl hl0 hd k
  | 3, _ => exact v_get (q0 := 17) (C := RX0) (T := TX0) (N := 4) 2 rfl rfl inX0 (by decide) rfl rfl hl0 hd k
  | 4, _ => exact v_get (q0 := 21) (C := RX0) (T := TX0) (N := 4) 2 rfl rfl inX0 (by decide) rfl rfl hl0 hd k
  | 5, _ => exact v_get (q0 := 25) (C := RX0) (T := TX0) (N := 4) 2 rfl rfl inX0 (by decide) rfl rfl hl0 hd k
theorem gX0_size {t : Nat} (h0 : t < 6) (hl0 : Cond.fieldLink own ix RX0 "size" "I" ∈ tb) (hd : decode cc pc = .ok (.getfield ix, 3)) (k : V g L K own cc nL ret (wX g ad) inj z res σ (pc + 3) lv (.int (xT σ t) :: st)) : V g L K own cc nL ret (wX g ad) inj z res σ pc lv (.ref (aLaw ad t) :: st) := by
  match t, h0 with
  | 0, _ => exact v_get (q0 := 5) (C := RX0) (T := TX0) (N := 4) 3 rfl rfl inX0 (by decide) rfl rfl hl0 hd k
  | 1, _ => exact v_get (q0 := 9) (C := RX0) (T := TX0) (N := 4) 3 rfl rfl inX0 (by decide) rfl rfl hl0 hd k
  | 2, _ => exact v_get (q0 := 13) (C := RX0) (T := TX0) (N := 4) 3 rfl rfl inX0 (by decide) rfl rfl hl0 hd k
  | 3, _ => exact v_get (q0 := 17) (C := RX0) (T := TX0) (N := 4) 3 rfl rfl inX0 (by decide) rfl rfl hl0 hd k
  | 4, _ => exact v_get (q0 := 21) (C := RX0) (T := TX0) (N := 4) 3 rfl rfl inX0 (by decide) rfl rfl hl0 hd k
  | 5, _ => exact v_get (q0 := 25) (C := RX0) (T := TX0) (N := 4) 3 rfl rfl inX0 (by decide) rfl rfl hl0 hd k
theorem pX0_size {t : Nat} (h0 : t < 6) {x : Int32} (hl0 : Cond.fieldLink own ix RX0 "size" "I" ∈ tb) (hd : decode cc pc = .ok (.putfield ix, 3)) (k : V g L K own cc nL ret (wX g ad) inj z res (sT σ t x) (pc + 3) lv st) : V g L K own cc nL ret (wX g ad) inj z res σ pc lv (.int x :: .ref (aLaw ad t) :: st) := by
  match t, h0 with
  | 0, _ => exact v_put (q0 := 5) (C := RX0) (T := TX0) (N := 4) (ty := .int) 3 rfl rfl inX0 tyX0_ok nmX0 (by decide) rfl rfl (by decide +kernel) rfl rfl (Nat.le_of_ble_eq_true rfl) rfl hl0 hd k
  | 1, _ => exact v_put (q0 := 9) (C := RX0) (T := TX0) (N := 4) (ty := .int) 3 rfl rfl inX0 tyX0_ok nmX0 (by decide) rfl rfl (by decide +kernel) rfl rfl (Nat.le_of_ble_eq_true rfl) rfl hl0 hd k
  | 2, _ => exact v_put (q0 := 13) (C := RX0) (T := TX0) (N := 4) (ty := .int) 3 rfl rfl inX0 tyX0_ok nmX0 (by decide) rfl rfl (by decide +kernel) rfl rfl (Nat.le_of_ble_eq_true rfl) rfl hl0 hd k
  | 3, _ => exact v_put (q0 := 17) (C := RX0) (T := TX0) (N := 4) (ty := .int) 3 rfl rfl inX0 tyX0_ok nmX0 (by decide) rfl rfl (by decide +kernel) rfl rfl (Nat.le_of_ble_eq_true rfl) rfl hl0 hd k
  | 4, _ => exact v_put (q0 := 21) (C := RX0) (T := TX0) (N := 4) (ty := .int) 3 rfl rfl inX0 tyX0_ok nmX0 (by decide) rfl rfl (by decide +kernel) rfl rfl (Nat.le_of_ble_eq_true rfl) rfl hl0 hd k
  | 5, _ => exact v_put (q0 := 25) (C := RX0) (T := TX0) (N := 4) (ty := .int) 3 rfl rfl inX0 tyX0_ok nmX0 (by decide) rfl rfl (by decide +kernel) rfl rfl (Nat.le_of_ble_eq_true rfl) rfl hl0 hd k
theorem inX1 : ∀ w ∈ u_ws RX1 TX1 7, w ∈ tb := by
  intro w hw
  obtain ⟨k, hk, rfl⟩ := List.mem_map.mp hw
  have hk := List.mem_range.mp hk
  match k, hk with
  | 0, _ => exact tb_mem 89 (by decide +kernel) (by decide +kernel)
  | 1, _ => exact tb_mem 91 (by decide +kernel) (by decide +kernel)
  | 2, _ => exact tb_mem 93 (by decide +kernel) (by decide +kernel)
  | 3, _ => exact tb_mem 95 (by decide +kernel) (by decide +kernel)
  | 4, _ => exact tb_mem 97 (by decide +kernel) (by decide +kernel)
  | 5, _ => exact tb_mem 99 (by decide +kernel) (by decide +kernel)
  | 6, _ => exact tb_mem 101 (by decide +kernel) (by decide +kernel)
def tpB {α : Type} (o : Option Unit) (r : Option α) : Option α := match o with
  | none => none
  | some _ => r
theorem gX1_tape (hl0 : Cond.fieldLink own ix RX1 "tape" "[I" ∈ tb) (hd : decode cc pc = .ok (.getfield ix, 3)) (k : V g L K own cc nL ret (wX g ad) inj z res σ (pc + 3) lv (.ref (aTape ad) :: st)) : V g L K own cc nL ret (wX g ad) inj z (tpB (xY σ) res) σ pc lv (.ref (aReader ad) :: st) := by
  cases h : xY σ with
  | none => exact v_none
  | some u => exact v_get (q0 := 4) (C := RX1) (T := TX1) (N := 7) (v := .ref (aTape ad)) 0 rfl rfl inX1 (by decide) (by show some (va_rf ((xY σ).map (fun _ => aTape ad))) = _; rw [h]; rfl) rfl hl0 hd k
theorem gX1_size (hl0 : Cond.fieldLink own ix RX1 "size" "I" ∈ tb) (hd : decode cc pc = .ok (.getfield ix, 3)) (k : V g L K own cc nL ret (wX g ad) inj z res σ (pc + 3) lv (.int (xI σ 3) :: st)) : V g L K own cc nL ret (wX g ad) inj z res σ pc lv (.ref (aReader ad) :: st) := v_get (q0 := 4) (C := RX1) (T := TX1) (N := 7) 1 rfl rfl inX1 (by decide) rfl rfl hl0 hd k
theorem pX1_size {x : Int32} (hl0 : Cond.fieldLink own ix RX1 "size" "I" ∈ tb) (hd : decode cc pc = .ok (.putfield ix, 3)) (k : V g L K own cc nL ret (wX g ad) inj z res (sI σ 3 x) (pc + 3) lv st) : V g L K own cc nL ret (wX g ad) inj z res σ pc lv (.int x :: .ref (aReader ad) :: st) := v_put (q0 := 4) (C := RX1) (T := TX1) (N := 7) (ty := .int) 1 rfl rfl inX1 tyX1_ok nmX1 (by decide) rfl rfl (by decide +kernel) rfl rfl (Nat.le_of_ble_eq_true rfl) rfl hl0 hd k
theorem gX1_at (hl0 : Cond.fieldLink own ix RX1 "at" "I" ∈ tb) (hd : decode cc pc = .ok (.getfield ix, 3)) (k : V g L K own cc nL ret (wX g ad) inj z res σ (pc + 3) lv (.int (xI σ 4) :: st)) : V g L K own cc nL ret (wX g ad) inj z res σ pc lv (.ref (aReader ad) :: st) := v_get (q0 := 4) (C := RX1) (T := TX1) (N := 7) 2 rfl rfl inX1 (by decide) rfl rfl hl0 hd k
theorem pX1_at {x : Int32} (hl0 : Cond.fieldLink own ix RX1 "at" "I" ∈ tb) (hd : decode cc pc = .ok (.putfield ix, 3)) (k : V g L K own cc nL ret (wX g ad) inj z res (sI σ 4 x) (pc + 3) lv st) : V g L K own cc nL ret (wX g ad) inj z res σ pc lv (.int x :: .ref (aReader ad) :: st) := v_put (q0 := 4) (C := RX1) (T := TX1) (N := 7) (ty := .int) 2 rfl rfl inX1 tyX1_ok nmX1 (by decide) rfl rfl (by decide +kernel) rfl rfl (Nat.le_of_ble_eq_true rfl) rfl hl0 hd k
theorem gX1_token (hl0 : Cond.fieldLink own ix RX1 "token" "I" ∈ tb) (hd : decode cc pc = .ok (.getfield ix, 3)) (k : V g L K own cc nL ret (wX g ad) inj z res σ (pc + 3) lv (.int (xI σ 5) :: st)) : V g L K own cc nL ret (wX g ad) inj z res σ pc lv (.ref (aReader ad) :: st) := v_get (q0 := 4) (C := RX1) (T := TX1) (N := 7) 3 rfl rfl inX1 (by decide) rfl rfl hl0 hd k
theorem pX1_token {x : Int32} (hl0 : Cond.fieldLink own ix RX1 "token" "I" ∈ tb) (hd : decode cc pc = .ok (.putfield ix, 3)) (k : V g L K own cc nL ret (wX g ad) inj z res (sI σ 5 x) (pc + 3) lv st) : V g L K own cc nL ret (wX g ad) inj z res σ pc lv (.int x :: .ref (aReader ad) :: st) := v_put (q0 := 4) (C := RX1) (T := TX1) (N := 7) (ty := .int) 3 rfl rfl inX1 tyX1_ok nmX1 (by decide) rfl rfl (by decide +kernel) rfl rfl (Nat.le_of_ble_eq_true rfl) rfl hl0 hd k
theorem gX1_place (hl0 : Cond.fieldLink own ix RX1 "place" "I" ∈ tb) (hd : decode cc pc = .ok (.getfield ix, 3)) (k : V g L K own cc nL ret (wX g ad) inj z res σ (pc + 3) lv (.int (xI σ 6) :: st)) : V g L K own cc nL ret (wX g ad) inj z res σ pc lv (.ref (aReader ad) :: st) := v_get (q0 := 4) (C := RX1) (T := TX1) (N := 7) 4 rfl rfl inX1 (by decide) rfl rfl hl0 hd k
theorem pX1_place {x : Int32} (hl0 : Cond.fieldLink own ix RX1 "place" "I" ∈ tb) (hd : decode cc pc = .ok (.putfield ix, 3)) (k : V g L K own cc nL ret (wX g ad) inj z res (sI σ 6 x) (pc + 3) lv st) : V g L K own cc nL ret (wX g ad) inj z res σ pc lv (.int x :: .ref (aReader ad) :: st) := v_put (q0 := 4) (C := RX1) (T := TX1) (N := 7) (ty := .int) 4 rfl rfl inX1 tyX1_ok nmX1 (by decide) rfl rfl (by decide +kernel) rfl rfl (Nat.le_of_ble_eq_true rfl) rfl hl0 hd k
theorem gX1_fault (hl0 : Cond.fieldLink own ix RX1 "fault" "I" ∈ tb) (hd : decode cc pc = .ok (.getfield ix, 3)) (k : V g L K own cc nL ret (wX g ad) inj z res σ (pc + 3) lv (.int (xI σ 7) :: st)) : V g L K own cc nL ret (wX g ad) inj z res σ pc lv (.ref (aReader ad) :: st) := v_get (q0 := 4) (C := RX1) (T := TX1) (N := 7) 5 rfl rfl inX1 (by decide) rfl rfl hl0 hd k
theorem pX1_fault {x : Int32} (hl0 : Cond.fieldLink own ix RX1 "fault" "I" ∈ tb) (hd : decode cc pc = .ok (.putfield ix, 3)) (k : V g L K own cc nL ret (wX g ad) inj z res (sI σ 7 x) (pc + 3) lv st) : V g L K own cc nL ret (wX g ad) inj z res σ pc lv (.int x :: .ref (aReader ad) :: st) := v_put (q0 := 4) (C := RX1) (T := TX1) (N := 7) (ty := .int) 5 rfl rfl inX1 tyX1_ok nmX1 (by decide) rfl rfl (by decide +kernel) rfl rfl (Nat.le_of_ble_eq_true rfl) rfl hl0 hd k
def lawB {α : Type} (o : Option Nat) (kf : Nat → Option α) : Option α := match o with
  | none => none
  | some t => if t < 6 then kf t else none
theorem gX1_law {kf : Nat → Option (ρ × GX)} (hl0 : Cond.fieldLink own ix RX1 "law" "LLighthouseLiedTo$Law;" ∈ tb) (hd : decode cc pc = .ok (.getfield ix, 3)) (k : ∀ t : Nat, t < 6 → V g L K own cc nL ret (wX g ad) inj z (kf t) σ (pc + 3) lv (.ref (aLaw ad t) :: st)) : V g L K own cc nL ret (wX g ad) inj z (lawB (xV σ) kf) σ pc lv (.ref (aReader ad) :: st) := by
  cases h : xV σ with
  | none => exact v_none
  | some t => exact v_case (fun h0 => v_get (q0 := 4) (C := RX1) (T := TX1) (N := 7) (v := .ref (aLaw ad t)) 6 rfl rfl inX1 (by decide) (by show some (va_rf ((xV σ).map (aLaw ad))) = _; rw [h]; rfl) rfl hl0 hd (k t h0)) (fun _ => v_none)
theorem pX1_law {t : Nat} (hl0 : Cond.fieldLink own ix RX1 "law" "LLighthouseLiedTo$Law;" ∈ tb) (hd : decode cc pc = .ok (.putfield ix, 3)) (k : V g L K own cc nL ret (wX g ad) inj z res (sV σ (some t)) (pc + 3) lv st) : V g L K own cc nL ret (wX g ad) inj z res σ pc lv (.ref (aLaw ad t) :: .ref (aReader ad) :: st) := v_put (q0 := 4) (C := RX1) (T := TX1) (N := 7) (ty := .object "LighthouseLiedTo$Law") 6 rfl rfl inX1 tyX1_ok nmX1 (by decide) rfl rfl (by decide +kernel) rfl rfl (Nat.le_of_ble_eq_true rfl) rfl hl0 hd k
theorem inX2 : ∀ w ∈ u_ws RX2 TX2 12, w ∈ tb := by
  intro w hw
  obtain ⟨k, hk, rfl⟩ := List.mem_map.mp hw
  have hk := List.mem_range.mp hk
  match k, hk with
  | 0, _ => exact tb_mem 173 (by decide +kernel) (by decide +kernel)
  | 1, _ => exact tb_mem 175 (by decide +kernel) (by decide +kernel)
  | 2, _ => exact tb_mem 177 (by decide +kernel) (by decide +kernel)
  | 3, _ => exact tb_mem 179 (by decide +kernel) (by decide +kernel)
  | 4, _ => exact tb_mem 181 (by decide +kernel) (by decide +kernel)
  | 5, _ => exact tb_mem 183 (by decide +kernel) (by decide +kernel)
  | 6, _ => exact tb_mem 185 (by decide +kernel) (by decide +kernel)
  | 7, _ => exact tb_mem 187 (by decide +kernel) (by decide +kernel)
  | 8, _ => exact tb_mem 189 (by decide +kernel) (by decide +kernel)
  | 9, _ => exact tb_mem 191 (by decide +kernel) (by decide +kernel)
  | 10, _ => exact tb_mem 193 (by decide +kernel) (by decide +kernel)
  | 11, _ => exact tb_mem 195 (by decide +kernel) (by decide +kernel)
theorem gX2_texts {y : Nat} (h0 : y < 3) (hl0 : Cond.fieldLink own ix RX2 "texts" "[LLighthouseLiedTo$Law;" ∈ tb) (hd : decode cc pc = .ok (.getfield ix, 3)) (k : V g L K own cc nL ret (wX g ad) inj z res σ (pc + 3) lv (.ref (aTexts ad) :: st)) : V g L K own cc nL ret (wX g ad) inj z res σ pc lv (.ref (aSea ad y) :: st) := by
  match y, h0 with
  | 0, _ => exact v_get (q0 := 29) (C := RX2) (T := TX2) (N := 12) 0 rfl rfl inX2 (by decide) rfl rfl hl0 hd k
  | 1, _ => exact v_get (q0 := 35) (C := RX2) (T := TX2) (N := 12) 0 rfl rfl inX2 (by decide) rfl rfl hl0 hd k
  | 2, _ => exact v_get (q0 := 41) (C := RX2) (T := TX2) (N := 12) 0 rfl rfl inX2 (by decide) rfl rfl hl0 hd k
theorem gX2_belief {y : Nat} (h0 : y < 3) (hl0 : Cond.fieldLink own ix RX2 "belief" "[I" ∈ tb) (hd : decode cc pc = .ok (.getfield ix, 3)) (k : V g L K own cc nL ret (wX g ad) inj z res σ (pc + 3) lv (.ref (aSeaA ad y 0) :: st)) : V g L K own cc nL ret (wX g ad) inj z res σ pc lv (.ref (aSea ad y) :: st) := by
  match y, h0 with
  | 0, _ => exact v_get (q0 := 29) (C := RX2) (T := TX2) (N := 12) 1 rfl rfl inX2 (by decide) rfl rfl hl0 hd k
  | 1, _ => exact v_get (q0 := 35) (C := RX2) (T := TX2) (N := 12) 1 rfl rfl inX2 (by decide) rfl rfl hl0 hd k
  | 2, _ => exact v_get (q0 := 41) (C := RX2) (T := TX2) (N := 12) 1 rfl rfl inX2 (by decide) rfl rfl hl0 hd k
theorem gX2_kind {y : Nat} (h0 : y < 3) (hl0 : Cond.fieldLink own ix RX2 "kind" "[I" ∈ tb) (hd : decode cc pc = .ok (.getfield ix, 3)) (k : V g L K own cc nL ret (wX g ad) inj z res σ (pc + 3) lv (.ref (aSeaA ad y 1) :: st)) : V g L K own cc nL ret (wX g ad) inj z res σ pc lv (.ref (aSea ad y) :: st) := by
  match y, h0 with
  | 0, _ => exact v_get (q0 := 29) (C := RX2) (T := TX2) (N := 12) 2 rfl rfl inX2 (by decide) rfl rfl hl0 hd k
  | 1, _ => exact v_get (q0 := 35) (C := RX2) (T := TX2) (N := 12) 2 rfl rfl inX2 (by decide) rfl rfl hl0 hd k
  | 2, _ => exact v_get (q0 := 41) (C := RX2) (T := TX2) (N := 12) 2 rfl rfl inX2 (by decide) rfl rfl hl0 hd k
theorem gX2_more {y : Nat} (h0 : y < 3) (hl0 : Cond.fieldLink own ix RX2 "more" "[I" ∈ tb) (hd : decode cc pc = .ok (.getfield ix, 3)) (k : V g L K own cc nL ret (wX g ad) inj z res σ (pc + 3) lv (.ref (aSeaA ad y 2) :: st)) : V g L K own cc nL ret (wX g ad) inj z res σ pc lv (.ref (aSea ad y) :: st) := by
  match y, h0 with
  | 0, _ => exact v_get (q0 := 29) (C := RX2) (T := TX2) (N := 12) 3 rfl rfl inX2 (by decide) rfl rfl hl0 hd k
  | 1, _ => exact v_get (q0 := 35) (C := RX2) (T := TX2) (N := 12) 3 rfl rfl inX2 (by decide) rfl rfl hl0 hd k
  | 2, _ => exact v_get (q0 := 41) (C := RX2) (T := TX2) (N := 12) 3 rfl rfl inX2 (by decide) rfl rfl hl0 hd k
theorem gX2_cell {y : Nat} (h0 : y < 3) (hl0 : Cond.fieldLink own ix RX2 "cell" "[I" ∈ tb) (hd : decode cc pc = .ok (.getfield ix, 3)) (k : V g L K own cc nL ret (wX g ad) inj z res σ (pc + 3) lv (.ref (aSeaA ad y 3) :: st)) : V g L K own cc nL ret (wX g ad) inj z res σ pc lv (.ref (aSea ad y) :: st) := by
  match y, h0 with
  | 0, _ => exact v_get (q0 := 29) (C := RX2) (T := TX2) (N := 12) 4 rfl rfl inX2 (by decide) rfl rfl hl0 hd k
  | 1, _ => exact v_get (q0 := 35) (C := RX2) (T := TX2) (N := 12) 4 rfl rfl inX2 (by decide) rfl rfl hl0 hd k
  | 2, _ => exact v_get (q0 := 41) (C := RX2) (T := TX2) (N := 12) 4 rfl rfl inX2 (by decide) rfl rfl hl0 hd k
theorem gX2_draught {y : Nat} (h0 : y < 3) (hl0 : Cond.fieldLink own ix RX2 "draught" "[I" ∈ tb) (hd : decode cc pc = .ok (.getfield ix, 3)) (k : V g L K own cc nL ret (wX g ad) inj z res σ (pc + 3) lv (.ref (aSeaA ad y 4) :: st)) : V g L K own cc nL ret (wX g ad) inj z res σ pc lv (.ref (aSea ad y) :: st) := by
  match y, h0 with
  | 0, _ => exact v_get (q0 := 29) (C := RX2) (T := TX2) (N := 12) 5 rfl rfl inX2 (by decide) rfl rfl hl0 hd k
  | 1, _ => exact v_get (q0 := 35) (C := RX2) (T := TX2) (N := 12) 5 rfl rfl inX2 (by decide) rfl rfl hl0 hd k
  | 2, _ => exact v_get (q0 := 41) (C := RX2) (T := TX2) (N := 12) 5 rfl rfl inX2 (by decide) rfl rfl hl0 hd k
theorem gX2_rocks {y : Nat} (h0 : y < 3) (hl0 : Cond.fieldLink own ix RX2 "rocks" "J" ∈ tb) (hd : decode cc pc = .ok (.getfield ix, 3)) (k : V g L K own cc nL ret (wX g ad) inj z res σ (pc + 3) lv (.long (xR σ y) :: st)) : V g L K own cc nL ret (wX g ad) inj z res σ pc lv (.ref (aSea ad y) :: st) := by
  match y, h0 with
  | 0, _ => exact v_get (q0 := 29) (C := RX2) (T := TX2) (N := 12) 6 rfl rfl inX2 (by decide) rfl rfl hl0 hd k
  | 1, _ => exact v_get (q0 := 35) (C := RX2) (T := TX2) (N := 12) 6 rfl rfl inX2 (by decide) rfl rfl hl0 hd k
  | 2, _ => exact v_get (q0 := 41) (C := RX2) (T := TX2) (N := 12) 6 rfl rfl inX2 (by decide) rfl rfl hl0 hd k
theorem pX2_rocks {y : Nat} (h0 : y < 3) {x : Int64} (hl0 : Cond.fieldLink own ix RX2 "rocks" "J" ∈ tb) (hd : decode cc pc = .ok (.putfield ix, 3)) (k : V g L K own cc nL ret (wX g ad) inj z res (sR σ y x) (pc + 3) lv st) : V g L K own cc nL ret (wX g ad) inj z res σ pc lv (.long x :: .ref (aSea ad y) :: st) := by
  match y, h0 with
  | 0, _ => exact v_put (q0 := 29) (C := RX2) (T := TX2) (N := 12) (ty := .long) 6 rfl rfl inX2 tyX2_ok nmX2 (by decide) rfl rfl (by decide +kernel) rfl rfl (Nat.le_of_ble_eq_true rfl) rfl hl0 hd k
  | 1, _ => exact v_put (q0 := 35) (C := RX2) (T := TX2) (N := 12) (ty := .long) 6 rfl rfl inX2 tyX2_ok nmX2 (by decide) rfl rfl (by decide +kernel) rfl rfl (Nat.le_of_ble_eq_true rfl) rfl hl0 hd k
  | 2, _ => exact v_put (q0 := 41) (C := RX2) (T := TX2) (N := 12) (ty := .long) 6 rfl rfl inX2 tyX2_ok nmX2 (by decide) rfl rfl (by decide +kernel) rfl rfl (Nat.le_of_ble_eq_true rfl) rfl hl0 hd k
theorem gX2_lost {y : Nat} (h0 : y < 3) (hl0 : Cond.fieldLink own ix RX2 "lost" "I" ∈ tb) (hd : decode cc pc = .ok (.getfield ix, 3)) (k : V g L K own cc nL ret (wX g ad) inj z res σ (pc + 3) lv (.int (xS σ y 0) :: st)) : V g L K own cc nL ret (wX g ad) inj z res σ pc lv (.ref (aSea ad y) :: st) := by
  match y, h0 with
  | 0, _ => exact v_get (q0 := 29) (C := RX2) (T := TX2) (N := 12) 7 rfl rfl inX2 (by decide) rfl rfl hl0 hd k
  | 1, _ => exact v_get (q0 := 35) (C := RX2) (T := TX2) (N := 12) 7 rfl rfl inX2 (by decide) rfl rfl hl0 hd k
  | 2, _ => exact v_get (q0 := 41) (C := RX2) (T := TX2) (N := 12) 7 rfl rfl inX2 (by decide) rfl rfl hl0 hd k
theorem pX2_lost {y : Nat} (h0 : y < 3) {x : Int32} (hl0 : Cond.fieldLink own ix RX2 "lost" "I" ∈ tb) (hd : decode cc pc = .ok (.putfield ix, 3)) (k : V g L K own cc nL ret (wX g ad) inj z res (sS σ y 0 x) (pc + 3) lv st) : V g L K own cc nL ret (wX g ad) inj z res σ pc lv (.int x :: .ref (aSea ad y) :: st) := by
  match y, h0 with
  | 0, _ => exact v_put (q0 := 29) (C := RX2) (T := TX2) (N := 12) (ty := .int) 7 rfl rfl inX2 tyX2_ok nmX2 (by decide) rfl rfl (by decide +kernel) rfl rfl (Nat.le_of_ble_eq_true rfl) rfl hl0 hd k
  | 1, _ => exact v_put (q0 := 35) (C := RX2) (T := TX2) (N := 12) (ty := .int) 7 rfl rfl inX2 tyX2_ok nmX2 (by decide) rfl rfl (by decide +kernel) rfl rfl (Nat.le_of_ble_eq_true rfl) rfl hl0 hd k
  | 2, _ => exact v_put (q0 := 41) (C := RX2) (T := TX2) (N := 12) (ty := .int) 7 rfl rfl inX2 tyX2_ok nmX2 (by decide) rfl rfl (by decide +kernel) rfl rfl (Nat.le_of_ble_eq_true rfl) rfl hl0 hd k
theorem gX2_ships {y : Nat} (h0 : y < 3) (hl0 : Cond.fieldLink own ix RX2 "ships" "I" ∈ tb) (hd : decode cc pc = .ok (.getfield ix, 3)) (k : V g L K own cc nL ret (wX g ad) inj z res σ (pc + 3) lv (.int (xS σ y 1) :: st)) : V g L K own cc nL ret (wX g ad) inj z res σ pc lv (.ref (aSea ad y) :: st) := by
  match y, h0 with
  | 0, _ => exact v_get (q0 := 29) (C := RX2) (T := TX2) (N := 12) 8 rfl rfl inX2 (by decide) rfl rfl hl0 hd k
  | 1, _ => exact v_get (q0 := 35) (C := RX2) (T := TX2) (N := 12) 8 rfl rfl inX2 (by decide) rfl rfl hl0 hd k
  | 2, _ => exact v_get (q0 := 41) (C := RX2) (T := TX2) (N := 12) 8 rfl rfl inX2 (by decide) rfl rfl hl0 hd k
theorem pX2_ships {y : Nat} (h0 : y < 3) {x : Int32} (hl0 : Cond.fieldLink own ix RX2 "ships" "I" ∈ tb) (hd : decode cc pc = .ok (.putfield ix, 3)) (k : V g L K own cc nL ret (wX g ad) inj z res (sS σ y 1 x) (pc + 3) lv st) : V g L K own cc nL ret (wX g ad) inj z res σ pc lv (.int x :: .ref (aSea ad y) :: st) := by
  match y, h0 with
  | 0, _ => exact v_put (q0 := 29) (C := RX2) (T := TX2) (N := 12) (ty := .int) 8 rfl rfl inX2 tyX2_ok nmX2 (by decide) rfl rfl (by decide +kernel) rfl rfl (Nat.le_of_ble_eq_true rfl) rfl hl0 hd k
  | 1, _ => exact v_put (q0 := 35) (C := RX2) (T := TX2) (N := 12) (ty := .int) 8 rfl rfl inX2 tyX2_ok nmX2 (by decide) rfl rfl (by decide +kernel) rfl rfl (Nat.le_of_ble_eq_true rfl) rfl hl0 hd k
  | 2, _ => exact v_put (q0 := 41) (C := RX2) (T := TX2) (N := 12) (ty := .int) 8 rfl rfl inX2 tyX2_ok nmX2 (by decide) rfl rfl (by decide +kernel) rfl rfl (Nat.le_of_ble_eq_true rfl) rfl hl0 hd k
theorem gX2_doubt {y : Nat} (h0 : y < 3) (hl0 : Cond.fieldLink own ix RX2 "doubt" "I" ∈ tb) (hd : decode cc pc = .ok (.getfield ix, 3)) (k : V g L K own cc nL ret (wX g ad) inj z res σ (pc + 3) lv (.int (xS σ y 2) :: st)) : V g L K own cc nL ret (wX g ad) inj z res σ pc lv (.ref (aSea ad y) :: st) := by
  match y, h0 with
  | 0, _ => exact v_get (q0 := 29) (C := RX2) (T := TX2) (N := 12) 9 rfl rfl inX2 (by decide) rfl rfl hl0 hd k
  | 1, _ => exact v_get (q0 := 35) (C := RX2) (T := TX2) (N := 12) 9 rfl rfl inX2 (by decide) rfl rfl hl0 hd k
  | 2, _ => exact v_get (q0 := 41) (C := RX2) (T := TX2) (N := 12) 9 rfl rfl inX2 (by decide) rfl rfl hl0 hd k
theorem pX2_doubt {y : Nat} (h0 : y < 3) {x : Int32} (hl0 : Cond.fieldLink own ix RX2 "doubt" "I" ∈ tb) (hd : decode cc pc = .ok (.putfield ix, 3)) (k : V g L K own cc nL ret (wX g ad) inj z res (sS σ y 2 x) (pc + 3) lv st) : V g L K own cc nL ret (wX g ad) inj z res σ pc lv (.int x :: .ref (aSea ad y) :: st) := by
  match y, h0 with
  | 0, _ => exact v_put (q0 := 29) (C := RX2) (T := TX2) (N := 12) (ty := .int) 9 rfl rfl inX2 tyX2_ok nmX2 (by decide) rfl rfl (by decide +kernel) rfl rfl (Nat.le_of_ble_eq_true rfl) rfl hl0 hd k
  | 1, _ => exact v_put (q0 := 35) (C := RX2) (T := TX2) (N := 12) (ty := .int) 9 rfl rfl inX2 tyX2_ok nmX2 (by decide) rfl rfl (by decide +kernel) rfl rfl (Nat.le_of_ble_eq_true rfl) rfl hl0 hd k
  | 2, _ => exact v_put (q0 := 41) (C := RX2) (T := TX2) (N := 12) (ty := .int) 9 rfl rfl inX2 tyX2_ok nmX2 (by decide) rfl rfl (by decide +kernel) rfl rfl (Nat.le_of_ble_eq_true rfl) rfl hl0 hd k
theorem gX2_night {y : Nat} (h0 : y < 3) (hl0 : Cond.fieldLink own ix RX2 "night" "I" ∈ tb) (hd : decode cc pc = .ok (.getfield ix, 3)) (k : V g L K own cc nL ret (wX g ad) inj z res σ (pc + 3) lv (.int (xS σ y 3) :: st)) : V g L K own cc nL ret (wX g ad) inj z res σ pc lv (.ref (aSea ad y) :: st) := by
  match y, h0 with
  | 0, _ => exact v_get (q0 := 29) (C := RX2) (T := TX2) (N := 12) 10 rfl rfl inX2 (by decide) rfl rfl hl0 hd k
  | 1, _ => exact v_get (q0 := 35) (C := RX2) (T := TX2) (N := 12) 10 rfl rfl inX2 (by decide) rfl rfl hl0 hd k
  | 2, _ => exact v_get (q0 := 41) (C := RX2) (T := TX2) (N := 12) 10 rfl rfl inX2 (by decide) rfl rfl hl0 hd k
theorem pX2_night {y : Nat} (h0 : y < 3) {x : Int32} (hl0 : Cond.fieldLink own ix RX2 "night" "I" ∈ tb) (hd : decode cc pc = .ok (.putfield ix, 3)) (k : V g L K own cc nL ret (wX g ad) inj z res (sS σ y 3 x) (pc + 3) lv st) : V g L K own cc nL ret (wX g ad) inj z res σ pc lv (.int x :: .ref (aSea ad y) :: st) := by
  match y, h0 with
  | 0, _ => exact v_put (q0 := 29) (C := RX2) (T := TX2) (N := 12) (ty := .int) 10 rfl rfl inX2 tyX2_ok nmX2 (by decide) rfl rfl (by decide +kernel) rfl rfl (Nat.le_of_ble_eq_true rfl) rfl hl0 hd k
  | 1, _ => exact v_put (q0 := 35) (C := RX2) (T := TX2) (N := 12) (ty := .int) 10 rfl rfl inX2 tyX2_ok nmX2 (by decide) rfl rfl (by decide +kernel) rfl rfl (Nat.le_of_ble_eq_true rfl) rfl hl0 hd k
  | 2, _ => exact v_put (q0 := 41) (C := RX2) (T := TX2) (N := 12) (ty := .int) 10 rfl rfl inX2 tyX2_ok nmX2 (by decide) rfl rfl (by decide +kernel) rfl rfl (Nat.le_of_ble_eq_true rfl) rfl hl0 hd k
theorem gX2_law {y : Nat} (h0 : y < 3) (hl0 : Cond.fieldLink own ix RX2 "law" "I" ∈ tb) (hd : decode cc pc = .ok (.getfield ix, 3)) (k : V g L K own cc nL ret (wX g ad) inj z res σ (pc + 3) lv (.int (xS σ y 4) :: st)) : V g L K own cc nL ret (wX g ad) inj z res σ pc lv (.ref (aSea ad y) :: st) := by
  match y, h0 with
  | 0, _ => exact v_get (q0 := 29) (C := RX2) (T := TX2) (N := 12) 11 rfl rfl inX2 (by decide) rfl rfl hl0 hd k
  | 1, _ => exact v_get (q0 := 35) (C := RX2) (T := TX2) (N := 12) 11 rfl rfl inX2 (by decide) rfl rfl hl0 hd k
  | 2, _ => exact v_get (q0 := 41) (C := RX2) (T := TX2) (N := 12) 11 rfl rfl inX2 (by decide) rfl rfl hl0 hd k
theorem pX2_law {y : Nat} (h0 : y < 3) {x : Int32} (hl0 : Cond.fieldLink own ix RX2 "law" "I" ∈ tb) (hd : decode cc pc = .ok (.putfield ix, 3)) (k : V g L K own cc nL ret (wX g ad) inj z res (sS σ y 4 x) (pc + 3) lv st) : V g L K own cc nL ret (wX g ad) inj z res σ pc lv (.int x :: .ref (aSea ad y) :: st) := by
  match y, h0 with
  | 0, _ => exact v_put (q0 := 29) (C := RX2) (T := TX2) (N := 12) (ty := .int) 11 rfl rfl inX2 tyX2_ok nmX2 (by decide) rfl rfl (by decide +kernel) rfl rfl (Nat.le_of_ble_eq_true rfl) rfl hl0 hd k
  | 1, _ => exact v_put (q0 := 35) (C := RX2) (T := TX2) (N := 12) (ty := .int) 11 rfl rfl inX2 tyX2_ok nmX2 (by decide) rfl rfl (by decide +kernel) rfl rfl (Nat.le_of_ble_eq_true rfl) rfl hl0 hd k
  | 2, _ => exact v_put (q0 := 41) (C := RX2) (T := TX2) (N := 12) (ty := .int) 11 rfl rfl inX2 tyX2_ok nmX2 (by decide) rfl rfl (by decide +kernel) rfl rfl (Nat.le_of_ble_eq_true rfl) rfl hl0 hd k
theorem inX3 : ∀ w ∈ u_ws RX3 TX3 3, w ∈ tb := by
  intro w hw
  obtain ⟨k, hk, rfl⟩ := List.mem_map.mp hw
  have hk := List.mem_range.mp hk
  match k, hk with
  | 0, _ => exact tb_mem 134 (by decide +kernel) (by decide +kernel)
  | 1, _ => exact tb_mem 136 (by decide +kernel) (by decide +kernel)
  | 2, _ => exact tb_mem 138 (by decide +kernel) (by decide +kernel)
theorem gX3_numbers {q : Nat} (h0 : q < 4) (hl0 : Cond.fieldLink own ix RX3 "numbers" "[I" ∈ tb) (hd : decode cc pc = .ok (.getfield ix, 3)) (k : V g L K own cc nL ret (wX g ad) inj z res σ (pc + 3) lv (.ref (aNums ad q) :: st)) : V g L K own cc nL ret (wX g ad) inj z res σ pc lv (.ref (aSheet ad q) :: st) := by
  match q, h0 with
  | 0, _ => exact v_get (q0 := 47) (C := RX3) (T := TX3) (N := 3) 0 rfl rfl inX3 (by decide) rfl rfl hl0 hd k
  | 1, _ => exact v_get (q0 := 49) (C := RX3) (T := TX3) (N := 3) 0 rfl rfl inX3 (by decide) rfl rfl hl0 hd k
  | 2, _ => exact v_get (q0 := 51) (C := RX3) (T := TX3) (N := 3) 0 rfl rfl inX3 (by decide) rfl rfl hl0 hd k
  | 3, _ => exact v_get (q0 := 53) (C := RX3) (T := TX3) (N := 3) 0 rfl rfl inX3 (by decide) rfl rfl hl0 hd k
theorem gX3_sort {q : Nat} (h0 : q < 4) (hl0 : Cond.fieldLink own ix RX3 "sort" "I" ∈ tb) (hd : decode cc pc = .ok (.getfield ix, 3)) (k : V g L K own cc nL ret (wX g ad) inj z res σ (pc + 3) lv (.int (xH σ q 0) :: st)) : V g L K own cc nL ret (wX g ad) inj z res σ pc lv (.ref (aSheet ad q) :: st) := by
  match q, h0 with
  | 0, _ => exact v_get (q0 := 47) (C := RX3) (T := TX3) (N := 3) 1 rfl rfl inX3 (by decide) rfl rfl hl0 hd k
  | 1, _ => exact v_get (q0 := 49) (C := RX3) (T := TX3) (N := 3) 1 rfl rfl inX3 (by decide) rfl rfl hl0 hd k
  | 2, _ => exact v_get (q0 := 51) (C := RX3) (T := TX3) (N := 3) 1 rfl rfl inX3 (by decide) rfl rfl hl0 hd k
  | 3, _ => exact v_get (q0 := 53) (C := RX3) (T := TX3) (N := 3) 1 rfl rfl inX3 (by decide) rfl rfl hl0 hd k
theorem pX3_sort {q : Nat} (h0 : q < 4) {x : Int32} (hl0 : Cond.fieldLink own ix RX3 "sort" "I" ∈ tb) (hd : decode cc pc = .ok (.putfield ix, 3)) (k : V g L K own cc nL ret (wX g ad) inj z res (sH σ q 0 x) (pc + 3) lv st) : V g L K own cc nL ret (wX g ad) inj z res σ pc lv (.int x :: .ref (aSheet ad q) :: st) := by
  match q, h0 with
  | 0, _ => exact v_put (q0 := 47) (C := RX3) (T := TX3) (N := 3) (ty := .int) 1 rfl rfl inX3 tyX3_ok nmX3 (by decide) rfl rfl (by decide +kernel) rfl rfl (Nat.le_of_ble_eq_true rfl) rfl hl0 hd k
  | 1, _ => exact v_put (q0 := 49) (C := RX3) (T := TX3) (N := 3) (ty := .int) 1 rfl rfl inX3 tyX3_ok nmX3 (by decide) rfl rfl (by decide +kernel) rfl rfl (Nat.le_of_ble_eq_true rfl) rfl hl0 hd k
  | 2, _ => exact v_put (q0 := 51) (C := RX3) (T := TX3) (N := 3) (ty := .int) 1 rfl rfl inX3 tyX3_ok nmX3 (by decide) rfl rfl (by decide +kernel) rfl rfl (Nat.le_of_ble_eq_true rfl) rfl hl0 hd k
  | 3, _ => exact v_put (q0 := 53) (C := RX3) (T := TX3) (N := 3) (ty := .int) 1 rfl rfl inX3 tyX3_ok nmX3 (by decide) rfl rfl (by decide +kernel) rfl rfl (Nat.le_of_ble_eq_true rfl) rfl hl0 hd k
theorem gX3_size {q : Nat} (h0 : q < 4) (hl0 : Cond.fieldLink own ix RX3 "size" "I" ∈ tb) (hd : decode cc pc = .ok (.getfield ix, 3)) (k : V g L K own cc nL ret (wX g ad) inj z res σ (pc + 3) lv (.int (xH σ q 1) :: st)) : V g L K own cc nL ret (wX g ad) inj z res σ pc lv (.ref (aSheet ad q) :: st) := by
  match q, h0 with
  | 0, _ => exact v_get (q0 := 47) (C := RX3) (T := TX3) (N := 3) 2 rfl rfl inX3 (by decide) rfl rfl hl0 hd k
  | 1, _ => exact v_get (q0 := 49) (C := RX3) (T := TX3) (N := 3) 2 rfl rfl inX3 (by decide) rfl rfl hl0 hd k
  | 2, _ => exact v_get (q0 := 51) (C := RX3) (T := TX3) (N := 3) 2 rfl rfl inX3 (by decide) rfl rfl hl0 hd k
  | 3, _ => exact v_get (q0 := 53) (C := RX3) (T := TX3) (N := 3) 2 rfl rfl inX3 (by decide) rfl rfl hl0 hd k
theorem pX3_size {q : Nat} (h0 : q < 4) {x : Int32} (hl0 : Cond.fieldLink own ix RX3 "size" "I" ∈ tb) (hd : decode cc pc = .ok (.putfield ix, 3)) (k : V g L K own cc nL ret (wX g ad) inj z res (sH σ q 1 x) (pc + 3) lv st) : V g L K own cc nL ret (wX g ad) inj z res σ pc lv (.int x :: .ref (aSheet ad q) :: st) := by
  match q, h0 with
  | 0, _ => exact v_put (q0 := 47) (C := RX3) (T := TX3) (N := 3) (ty := .int) 2 rfl rfl inX3 tyX3_ok nmX3 (by decide) rfl rfl (by decide +kernel) rfl rfl (Nat.le_of_ble_eq_true rfl) rfl hl0 hd k
  | 1, _ => exact v_put (q0 := 49) (C := RX3) (T := TX3) (N := 3) (ty := .int) 2 rfl rfl inX3 tyX3_ok nmX3 (by decide) rfl rfl (by decide +kernel) rfl rfl (Nat.le_of_ble_eq_true rfl) rfl hl0 hd k
  | 2, _ => exact v_put (q0 := 51) (C := RX3) (T := TX3) (N := 3) (ty := .int) 2 rfl rfl inX3 tyX3_ok nmX3 (by decide) rfl rfl (by decide +kernel) rfl rfl (Nat.le_of_ble_eq_true rfl) rfl hl0 hd k
  | 3, _ => exact v_put (q0 := 53) (C := RX3) (T := TX3) (N := 3) (ty := .int) 2 rfl rfl inX3 tyX3_ok nmX3 (by decide) rfl rfl (by decide +kernel) rfl rfl (Nat.le_of_ble_eq_true rfl) rfl hl0 hd k
theorem inX4 : ∀ w ∈ u_ws RX4 TX4 10, w ∈ tb := by
  intro w hw
  obtain ⟨k, hk, rfl⟩ := List.mem_map.mp hw
  have hk := List.mem_range.mp hk
  match k, hk with
  | 0, _ => exact tb_mem 335 (by decide +kernel) (by decide +kernel)
  | 1, _ => exact tb_mem 337 (by decide +kernel) (by decide +kernel)
  | 2, _ => exact tb_mem 339 (by decide +kernel) (by decide +kernel)
  | 3, _ => exact tb_mem 341 (by decide +kernel) (by decide +kernel)
  | 4, _ => exact tb_mem 343 (by decide +kernel) (by decide +kernel)
  | 5, _ => exact tb_mem 345 (by decide +kernel) (by decide +kernel)
  | 6, _ => exact tb_mem 347 (by decide +kernel) (by decide +kernel)
  | 7, _ => exact tb_mem 349 (by decide +kernel) (by decide +kernel)
  | 8, _ => exact tb_mem 351 (by decide +kernel) (by decide +kernel)
  | 9, _ => exact tb_mem 353 (by decide +kernel) (by decide +kernel)
theorem gX4_texts (hl0 : Cond.fieldLink own ix RX4 "texts" "[LLighthouseLiedTo$Law;" ∈ tb) (hd : decode cc pc = .ok (.getfield ix, 3)) (k : V g L K own cc nL ret (wX g ad) inj z res σ (pc + 3) lv (.ref (aTexts ad) :: st)) : V g L K own cc nL ret (wX g ad) inj z res σ pc lv (.ref (aMain ad) :: st) := v_get (q0 := 0) (C := RX4) (T := TX4) (N := 10) 0 rfl rfl inX4 (by decide) rfl rfl hl0 hd k
theorem gX4_now (hl0 : Cond.fieldLink own ix RX4 "now" "LLighthouseLiedTo$Sea;" ∈ tb) (hd : decode cc pc = .ok (.getfield ix, 3)) (k : V g L K own cc nL ret (wX g ad) inj z res σ (pc + 3) lv (.ref (aSea ad 0) :: st)) : V g L K own cc nL ret (wX g ad) inj z res σ pc lv (.ref (aMain ad) :: st) := v_get (q0 := 0) (C := RX4) (T := TX4) (N := 10) 1 rfl rfl inX4 (by decide) rfl rfl hl0 hd k
theorem gX4_thought (hl0 : Cond.fieldLink own ix RX4 "thought" "LLighthouseLiedTo$Sea;" ∈ tb) (hd : decode cc pc = .ok (.getfield ix, 3)) (k : V g L K own cc nL ret (wX g ad) inj z res σ (pc + 3) lv (.ref (aSea ad 1) :: st)) : V g L K own cc nL ret (wX g ad) inj z res σ pc lv (.ref (aMain ad) :: st) := v_get (q0 := 0) (C := RX4) (T := TX4) (N := 10) 2 rfl rfl inX4 (by decide) rfl rfl hl0 hd k
theorem gX4_kept (hl0 : Cond.fieldLink own ix RX4 "kept" "LLighthouseLiedTo$Sea;" ∈ tb) (hd : decode cc pc = .ok (.getfield ix, 3)) (k : V g L K own cc nL ret (wX g ad) inj z res σ (pc + 3) lv (.ref (aSea ad 2) :: st)) : V g L K own cc nL ret (wX g ad) inj z res σ pc lv (.ref (aMain ad) :: st) := v_get (q0 := 0) (C := RX4) (T := TX4) (N := 10) 3 rfl rfl inX4 (by decide) rfl rfl hl0 hd k
theorem gX4_sheets (hl0 : Cond.fieldLink own ix RX4 "sheets" "[LLighthouseLiedTo$Sheet;" ∈ tb) (hd : decode cc pc = .ok (.getfield ix, 3)) (k : V g L K own cc nL ret (wX g ad) inj z res σ (pc + 3) lv (.ref (aSheets ad) :: st)) : V g L K own cc nL ret (wX g ad) inj z res σ pc lv (.ref (aMain ad) :: st) := v_get (q0 := 0) (C := RX4) (T := TX4) (N := 10) 4 rfl rfl inX4 (by decide) rfl rfl hl0 hd k
theorem gX4_tape (hl0 : Cond.fieldLink own ix RX4 "tape" "[I" ∈ tb) (hd : decode cc pc = .ok (.getfield ix, 3)) (k : V g L K own cc nL ret (wX g ad) inj z res σ (pc + 3) lv (.ref (aTape ad) :: st)) : V g L K own cc nL ret (wX g ad) inj z res σ pc lv (.ref (aMain ad) :: st) := v_get (q0 := 0) (C := RX4) (T := TX4) (N := 10) 5 rfl rfl inX4 (by decide) rfl rfl hl0 hd k
theorem gX4_reader (hl0 : Cond.fieldLink own ix RX4 "reader" "LLighthouseLiedTo$Reader;" ∈ tb) (hd : decode cc pc = .ok (.getfield ix, 3)) (k : V g L K own cc nL ret (wX g ad) inj z res σ (pc + 3) lv (.ref (aReader ad) :: st)) : V g L K own cc nL ret (wX g ad) inj z res σ pc lv (.ref (aMain ad) :: st) := v_get (q0 := 0) (C := RX4) (T := TX4) (N := 10) 6 rfl rfl inX4 (by decide) rfl rfl hl0 hd k
theorem gX4_textCount (hl0 : Cond.fieldLink own ix RX4 "textCount" "I" ∈ tb) (hd : decode cc pc = .ok (.getfield ix, 3)) (k : V g L K own cc nL ret (wX g ad) inj z res σ (pc + 3) lv (.int (xI σ 0) :: st)) : V g L K own cc nL ret (wX g ad) inj z res σ pc lv (.ref (aMain ad) :: st) := v_get (q0 := 0) (C := RX4) (T := TX4) (N := 10) 7 rfl rfl inX4 (by decide) rfl rfl hl0 hd k
theorem pX4_textCount {x : Int32} (hl0 : Cond.fieldLink own ix RX4 "textCount" "I" ∈ tb) (hd : decode cc pc = .ok (.putfield ix, 3)) (k : V g L K own cc nL ret (wX g ad) inj z res (sI σ 0 x) (pc + 3) lv st) : V g L K own cc nL ret (wX g ad) inj z res σ pc lv (.int x :: .ref (aMain ad) :: st) := v_put (q0 := 0) (C := RX4) (T := TX4) (N := 10) (ty := .int) 7 rfl rfl inX4 tyX4_ok nmX4 (by decide) rfl rfl (by decide +kernel) rfl rfl (Nat.le_of_ble_eq_true rfl) rfl hl0 hd k
theorem gX4_tapeSize (hl0 : Cond.fieldLink own ix RX4 "tapeSize" "I" ∈ tb) (hd : decode cc pc = .ok (.getfield ix, 3)) (k : V g L K own cc nL ret (wX g ad) inj z res σ (pc + 3) lv (.int (xI σ 1) :: st)) : V g L K own cc nL ret (wX g ad) inj z res σ pc lv (.ref (aMain ad) :: st) := v_get (q0 := 0) (C := RX4) (T := TX4) (N := 10) 8 rfl rfl inX4 (by decide) rfl rfl hl0 hd k
theorem pX4_tapeSize {x : Int32} (hl0 : Cond.fieldLink own ix RX4 "tapeSize" "I" ∈ tb) (hd : decode cc pc = .ok (.putfield ix, 3)) (k : V g L K own cc nL ret (wX g ad) inj z res (sI σ 1 x) (pc + 3) lv st) : V g L K own cc nL ret (wX g ad) inj z res σ pc lv (.int x :: .ref (aMain ad) :: st) := v_put (q0 := 0) (C := RX4) (T := TX4) (N := 10) (ty := .int) 8 rfl rfl inX4 tyX4_ok nmX4 (by decide) rfl rfl (by decide +kernel) rfl rfl (Nat.le_of_ble_eq_true rfl) rfl hl0 hd k
theorem gX4_hasImage (hl0 : Cond.fieldLink own ix RX4 "hasImage" "Z" ∈ tb) (hd : decode cc pc = .ok (.getfield ix, 3)) (k : V g L K own cc nL ret (wX g ad) inj z res σ (pc + 3) lv (.int (xI σ 2) :: st)) : V g L K own cc nL ret (wX g ad) inj z res σ pc lv (.ref (aMain ad) :: st) := v_get (q0 := 0) (C := RX4) (T := TX4) (N := 10) 9 rfl rfl inX4 (by decide) rfl rfl hl0 hd k
theorem pX4_hasImage {x : Int32} (hb : narrow .boolean (.int x) = .int x) (hf : fits .boolean (.int x) = true) (hl0 : Cond.fieldLink own ix RX4 "hasImage" "Z" ∈ tb) (hd : decode cc pc = .ok (.putfield ix, 3)) (k : V g L K own cc nL ret (wX g ad) inj z res (sI σ 2 x) (pc + 3) lv st) : V g L K own cc nL ret (wX g ad) inj z res σ pc lv (.int x :: .ref (aMain ad) :: st) := v_put (q0 := 0) (C := RX4) (T := TX4) (N := 10) (ty := .boolean) 9 rfl rfl inX4 tyX4_ok nmX4 (by decide) rfl rfl (by decide +kernel) hb hf (Nat.le_of_ble_eq_true rfl) rfl hl0 hd k
theorem pX1_tape (hl0 : Cond.fieldLink own ix RX1 "tape" "[I" ∈ tb) (hd : decode cc pc = .ok (.putfield ix, 3)) (k : V g L K own cc nL ret (wX g ad) inj z res (sY σ (some ())) (pc + 3) lv st) : V g L K own cc nL ret (wX g ad) inj z res σ pc lv (.ref (aTape ad) :: .ref (aReader ad) :: st) := v_put (q0 := 4) (C := RX1) (T := TX1) (N := 7) (ty := .array .int) 0 rfl rfl inX1 tyX1_ok nmX1 (by decide) rfl rfl (by decide +kernel) rfl rfl (Nat.le_of_ble_eq_true rfl) rfl hl0 hd k
theorem lX_tape {i : Int32} (hd : decode cc pc = .ok (.iaload, 1)) (k : V g L K own cc nL ret (wX g ad) inj z res σ (pc + 1) lv (.int (xP σ i.toNatClampNeg) :: st)) : V g L K own cc nL ret (wX g ad) inj z (grd i 160 res) σ pc lv (.int i :: .ref (aTape ad) :: st) := v_iald (q0 := 3) rfl hd k
theorem sX_tape {i x : Int32} (hd : decode cc pc = .ok (.iastore, 1)) (k : V g L K own cc nL ret (wX g ad) inj z res (sP σ i.toNatClampNeg x) (pc + 1) lv st) : V g L K own cc nL ret (wX g ad) inj z (grd i 160 res) σ pc lv (.int x :: .int i :: .ref (aTape ad) :: st) := v_iast (q0 := 3) rfl rfl hd k
theorem nX_tape {v : Int32} (hv : Int32.ofNat 160 = v) (hd : decode cc pc = .ok (.arraylength, 1)) (k : V g L K own cc nL ret (wX g ad) inj z res σ (pc + 1) lv (.int v :: st)) : V g L K own cc nL ret (wX g ad) inj z res σ pc lv (.ref (aTape ad) :: st) := v_alen (q0 := 3) (t0 := 0) rfl rfl hv hd k
theorem lX_law0 {t : Nat} (h0 : t < 6) {i : Int32} (hd : decode cc pc = .ok (.iaload, 1)) (k : V g L K own cc nL ret (wX g ad) inj z res σ (pc + 1) lv (.int (xU σ t 0 i.toNatClampNeg) :: st)) : V g L K own cc nL ret (wX g ad) inj z (grd i 160 res) σ pc lv (.int i :: .ref (aLawA ad t 0) :: st) := by
  match t, h0 with
  | 0, _ => exact v_iald (q0 := 6) rfl hd k
  | 1, _ => exact v_iald (q0 := 10) rfl hd k
  | 2, _ => exact v_iald (q0 := 14) rfl hd k
  | 3, _ => exact v_iald (q0 := 18) rfl hd k
  | 4, _ => exact v_iald (q0 := 22) rfl hd k
  | 5, _ => exact v_iald (q0 := 26) rfl hd k
theorem sX_law0 {t : Nat} (h0 : t < 6) {i x : Int32} (hd : decode cc pc = .ok (.iastore, 1)) (k : V g L K own cc nL ret (wX g ad) inj z res (sU σ t 0 i.toNatClampNeg x) (pc + 1) lv st) : V g L K own cc nL ret (wX g ad) inj z (grd i 160 res) σ pc lv (.int x :: .int i :: .ref (aLawA ad t 0) :: st) := by
  match t, h0 with
  | 0, _ => exact v_iast (q0 := 6) rfl rfl hd k
  | 1, _ => exact v_iast (q0 := 10) rfl rfl hd k
  | 2, _ => exact v_iast (q0 := 14) rfl rfl hd k
  | 3, _ => exact v_iast (q0 := 18) rfl rfl hd k
  | 4, _ => exact v_iast (q0 := 22) rfl rfl hd k
  | 5, _ => exact v_iast (q0 := 26) rfl rfl hd k
theorem nX_law0 {t : Nat} (h0 : t < 6) {v : Int32} (hv : Int32.ofNat 160 = v) (hd : decode cc pc = .ok (.arraylength, 1)) (k : V g L K own cc nL ret (wX g ad) inj z res σ (pc + 1) lv (.int v :: st)) : V g L K own cc nL ret (wX g ad) inj z res σ pc lv (.ref (aLawA ad t 0) :: st) := by
  match t, h0 with
  | 0, _ => exact v_alen (q0 := 6) (t0 := 0) rfl rfl hv hd k
  | 1, _ => exact v_alen (q0 := 10) (t0 := 0) rfl rfl hv hd k
  | 2, _ => exact v_alen (q0 := 14) (t0 := 0) rfl rfl hv hd k
  | 3, _ => exact v_alen (q0 := 18) (t0 := 0) rfl rfl hv hd k
  | 4, _ => exact v_alen (q0 := 22) (t0 := 0) rfl rfl hv hd k
  | 5, _ => exact v_alen (q0 := 26) (t0 := 0) rfl rfl hv hd k
theorem lX_law1 {t : Nat} (h0 : t < 6) {i : Int32} (hd : decode cc pc = .ok (.iaload, 1)) (k : V g L K own cc nL ret (wX g ad) inj z res σ (pc + 1) lv (.int (xU σ t 1 i.toNatClampNeg) :: st)) : V g L K own cc nL ret (wX g ad) inj z (grd i 160 res) σ pc lv (.int i :: .ref (aLawA ad t 1) :: st) := by
  match t, h0 with
  | 0, _ => exact v_iald (q0 := 7) rfl hd k
  | 1, _ => exact v_iald (q0 := 11) rfl hd k
  | 2, _ => exact v_iald (q0 := 15) rfl hd k
  | 3, _ => exact v_iald (q0 := 19) rfl hd k
  | 4, _ => exact v_iald (q0 := 23) rfl hd k
  | 5, _ => exact v_iald (q0 := 27) rfl hd k
theorem sX_law1 {t : Nat} (h0 : t < 6) {i x : Int32} (hd : decode cc pc = .ok (.iastore, 1)) (k : V g L K own cc nL ret (wX g ad) inj z res (sU σ t 1 i.toNatClampNeg x) (pc + 1) lv st) : V g L K own cc nL ret (wX g ad) inj z (grd i 160 res) σ pc lv (.int x :: .int i :: .ref (aLawA ad t 1) :: st) := by
  match t, h0 with
  | 0, _ => exact v_iast (q0 := 7) rfl rfl hd k
  | 1, _ => exact v_iast (q0 := 11) rfl rfl hd k
  | 2, _ => exact v_iast (q0 := 15) rfl rfl hd k
  | 3, _ => exact v_iast (q0 := 19) rfl rfl hd k
  | 4, _ => exact v_iast (q0 := 23) rfl rfl hd k
  | 5, _ => exact v_iast (q0 := 27) rfl rfl hd k
theorem nX_law1 {t : Nat} (h0 : t < 6) {v : Int32} (hv : Int32.ofNat 160 = v) (hd : decode cc pc = .ok (.arraylength, 1)) (k : V g L K own cc nL ret (wX g ad) inj z res σ (pc + 1) lv (.int v :: st)) : V g L K own cc nL ret (wX g ad) inj z res σ pc lv (.ref (aLawA ad t 1) :: st) := by
  match t, h0 with
  | 0, _ => exact v_alen (q0 := 7) (t0 := 0) rfl rfl hv hd k
  | 1, _ => exact v_alen (q0 := 11) (t0 := 0) rfl rfl hv hd k
  | 2, _ => exact v_alen (q0 := 15) (t0 := 0) rfl rfl hv hd k
  | 3, _ => exact v_alen (q0 := 19) (t0 := 0) rfl rfl hv hd k
  | 4, _ => exact v_alen (q0 := 23) (t0 := 0) rfl rfl hv hd k
  | 5, _ => exact v_alen (q0 := 27) (t0 := 0) rfl rfl hv hd k
theorem lX_law2 {t : Nat} (h0 : t < 6) {i : Int32} (hd : decode cc pc = .ok (.iaload, 1)) (k : V g L K own cc nL ret (wX g ad) inj z res σ (pc + 1) lv (.int (xU σ t 2 i.toNatClampNeg) :: st)) : V g L K own cc nL ret (wX g ad) inj z (grd i 3 res) σ pc lv (.int i :: .ref (aLawA ad t 2) :: st) := by
  match t, h0 with
  | 0, _ => exact v_iald (q0 := 8) rfl hd k
  | 1, _ => exact v_iald (q0 := 12) rfl hd k
  | 2, _ => exact v_iald (q0 := 16) rfl hd k
  | 3, _ => exact v_iald (q0 := 20) rfl hd k
  | 4, _ => exact v_iald (q0 := 24) rfl hd k
  | 5, _ => exact v_iald (q0 := 28) rfl hd k
theorem sX_law2 {t : Nat} (h0 : t < 6) {i x : Int32} (hd : decode cc pc = .ok (.iastore, 1)) (k : V g L K own cc nL ret (wX g ad) inj z res (sU σ t 2 i.toNatClampNeg x) (pc + 1) lv st) : V g L K own cc nL ret (wX g ad) inj z (grd i 3 res) σ pc lv (.int x :: .int i :: .ref (aLawA ad t 2) :: st) := by
  match t, h0 with
  | 0, _ => exact v_iast (q0 := 8) rfl rfl hd k
  | 1, _ => exact v_iast (q0 := 12) rfl rfl hd k
  | 2, _ => exact v_iast (q0 := 16) rfl rfl hd k
  | 3, _ => exact v_iast (q0 := 20) rfl rfl hd k
  | 4, _ => exact v_iast (q0 := 24) rfl rfl hd k
  | 5, _ => exact v_iast (q0 := 28) rfl rfl hd k
theorem nX_law2 {t : Nat} (h0 : t < 6) {v : Int32} (hv : Int32.ofNat 3 = v) (hd : decode cc pc = .ok (.arraylength, 1)) (k : V g L K own cc nL ret (wX g ad) inj z res σ (pc + 1) lv (.int v :: st)) : V g L K own cc nL ret (wX g ad) inj z res σ pc lv (.ref (aLawA ad t 2) :: st) := by
  match t, h0 with
  | 0, _ => exact v_alen (q0 := 8) (t0 := 0) rfl rfl hv hd k
  | 1, _ => exact v_alen (q0 := 12) (t0 := 0) rfl rfl hv hd k
  | 2, _ => exact v_alen (q0 := 16) (t0 := 0) rfl rfl hv hd k
  | 3, _ => exact v_alen (q0 := 20) (t0 := 0) rfl rfl hv hd k
  | 4, _ => exact v_alen (q0 := 24) (t0 := 0) rfl rfl hv hd k
  | 5, _ => exact v_alen (q0 := 28) (t0 := 0) rfl rfl hv hd k
theorem lX_sea0 {y : Nat} (h0 : y < 3) {i : Int32} (hd : decode cc pc = .ok (.iaload, 1)) (k : V g L K own cc nL ret (wX g ad) inj z res σ (pc + 1) lv (.int (xB σ y 0 i.toNatClampNeg) :: st)) : V g L K own cc nL ret (wX g ad) inj z (grd i 36 res) σ pc lv (.int i :: .ref (aSeaA ad y 0) :: st) := by
  match y, h0 with
  | 0, _ => exact v_iald (q0 := 30) rfl hd k
  | 1, _ => exact v_iald (q0 := 36) rfl hd k
  | 2, _ => exact v_iald (q0 := 42) rfl hd k
theorem sX_sea0 {y : Nat} (h0 : y < 3) {i x : Int32} (hd : decode cc pc = .ok (.iastore, 1)) (k : V g L K own cc nL ret (wX g ad) inj z res (sB σ y 0 i.toNatClampNeg x) (pc + 1) lv st) : V g L K own cc nL ret (wX g ad) inj z (grd i 36 res) σ pc lv (.int x :: .int i :: .ref (aSeaA ad y 0) :: st) := by
  match y, h0 with
  | 0, _ => exact v_iast (q0 := 30) rfl rfl hd k
  | 1, _ => exact v_iast (q0 := 36) rfl rfl hd k
  | 2, _ => exact v_iast (q0 := 42) rfl rfl hd k
theorem nX_sea0 {y : Nat} (h0 : y < 3) {v : Int32} (hv : Int32.ofNat 36 = v) (hd : decode cc pc = .ok (.arraylength, 1)) (k : V g L K own cc nL ret (wX g ad) inj z res σ (pc + 1) lv (.int v :: st)) : V g L K own cc nL ret (wX g ad) inj z res σ pc lv (.ref (aSeaA ad y 0) :: st) := by
  match y, h0 with
  | 0, _ => exact v_alen (q0 := 30) (t0 := 0) rfl rfl hv hd k
  | 1, _ => exact v_alen (q0 := 36) (t0 := 0) rfl rfl hv hd k
  | 2, _ => exact v_alen (q0 := 42) (t0 := 0) rfl rfl hv hd k
theorem lX_sea1 {y : Nat} (h0 : y < 3) {i : Int32} (hd : decode cc pc = .ok (.iaload, 1)) (k : V g L K own cc nL ret (wX g ad) inj z res σ (pc + 1) lv (.int (xB σ y 1 i.toNatClampNeg) :: st)) : V g L K own cc nL ret (wX g ad) inj z (grd i 6 res) σ pc lv (.int i :: .ref (aSeaA ad y 1) :: st) := by
  match y, h0 with
  | 0, _ => exact v_iald (q0 := 31) rfl hd k
  | 1, _ => exact v_iald (q0 := 37) rfl hd k
  | 2, _ => exact v_iald (q0 := 43) rfl hd k
theorem sX_sea1 {y : Nat} (h0 : y < 3) {i x : Int32} (hd : decode cc pc = .ok (.iastore, 1)) (k : V g L K own cc nL ret (wX g ad) inj z res (sB σ y 1 i.toNatClampNeg x) (pc + 1) lv st) : V g L K own cc nL ret (wX g ad) inj z (grd i 6 res) σ pc lv (.int x :: .int i :: .ref (aSeaA ad y 1) :: st) := by
  match y, h0 with
  | 0, _ => exact v_iast (q0 := 31) rfl rfl hd k
  | 1, _ => exact v_iast (q0 := 37) rfl rfl hd k
  | 2, _ => exact v_iast (q0 := 43) rfl rfl hd k
theorem nX_sea1 {y : Nat} (h0 : y < 3) {v : Int32} (hv : Int32.ofNat 6 = v) (hd : decode cc pc = .ok (.arraylength, 1)) (k : V g L K own cc nL ret (wX g ad) inj z res σ (pc + 1) lv (.int v :: st)) : V g L K own cc nL ret (wX g ad) inj z res σ pc lv (.ref (aSeaA ad y 1) :: st) := by
  match y, h0 with
  | 0, _ => exact v_alen (q0 := 31) (t0 := 0) rfl rfl hv hd k
  | 1, _ => exact v_alen (q0 := 37) (t0 := 0) rfl rfl hv hd k
  | 2, _ => exact v_alen (q0 := 43) (t0 := 0) rfl rfl hv hd k
theorem lX_sea2 {y : Nat} (h0 : y < 3) {i : Int32} (hd : decode cc pc = .ok (.iaload, 1)) (k : V g L K own cc nL ret (wX g ad) inj z res σ (pc + 1) lv (.int (xB σ y 2 i.toNatClampNeg) :: st)) : V g L K own cc nL ret (wX g ad) inj z (grd i 6 res) σ pc lv (.int i :: .ref (aSeaA ad y 2) :: st) := by
  match y, h0 with
  | 0, _ => exact v_iald (q0 := 32) rfl hd k
  | 1, _ => exact v_iald (q0 := 38) rfl hd k
  | 2, _ => exact v_iald (q0 := 44) rfl hd k
theorem sX_sea2 {y : Nat} (h0 : y < 3) {i x : Int32} (hd : decode cc pc = .ok (.iastore, 1)) (k : V g L K own cc nL ret (wX g ad) inj z res (sB σ y 2 i.toNatClampNeg x) (pc + 1) lv st) : V g L K own cc nL ret (wX g ad) inj z (grd i 6 res) σ pc lv (.int x :: .int i :: .ref (aSeaA ad y 2) :: st) := by
  match y, h0 with
  | 0, _ => exact v_iast (q0 := 32) rfl rfl hd k
  | 1, _ => exact v_iast (q0 := 38) rfl rfl hd k
  | 2, _ => exact v_iast (q0 := 44) rfl rfl hd k
theorem nX_sea2 {y : Nat} (h0 : y < 3) {v : Int32} (hv : Int32.ofNat 6 = v) (hd : decode cc pc = .ok (.arraylength, 1)) (k : V g L K own cc nL ret (wX g ad) inj z res σ (pc + 1) lv (.int v :: st)) : V g L K own cc nL ret (wX g ad) inj z res σ pc lv (.ref (aSeaA ad y 2) :: st) := by
  match y, h0 with
  | 0, _ => exact v_alen (q0 := 32) (t0 := 0) rfl rfl hv hd k
  | 1, _ => exact v_alen (q0 := 38) (t0 := 0) rfl rfl hv hd k
  | 2, _ => exact v_alen (q0 := 44) (t0 := 0) rfl rfl hv hd k
theorem lX_sea3 {y : Nat} (h0 : y < 3) {i : Int32} (hd : decode cc pc = .ok (.iaload, 1)) (k : V g L K own cc nL ret (wX g ad) inj z res σ (pc + 1) lv (.int (xB σ y 3 i.toNatClampNeg) :: st)) : V g L K own cc nL ret (wX g ad) inj z (grd i 6 res) σ pc lv (.int i :: .ref (aSeaA ad y 3) :: st) := by
  match y, h0 with
  | 0, _ => exact v_iald (q0 := 33) rfl hd k
  | 1, _ => exact v_iald (q0 := 39) rfl hd k
  | 2, _ => exact v_iald (q0 := 45) rfl hd k
theorem sX_sea3 {y : Nat} (h0 : y < 3) {i x : Int32} (hd : decode cc pc = .ok (.iastore, 1)) (k : V g L K own cc nL ret (wX g ad) inj z res (sB σ y 3 i.toNatClampNeg x) (pc + 1) lv st) : V g L K own cc nL ret (wX g ad) inj z (grd i 6 res) σ pc lv (.int x :: .int i :: .ref (aSeaA ad y 3) :: st) := by
  match y, h0 with
  | 0, _ => exact v_iast (q0 := 33) rfl rfl hd k
  | 1, _ => exact v_iast (q0 := 39) rfl rfl hd k
  | 2, _ => exact v_iast (q0 := 45) rfl rfl hd k
theorem nX_sea3 {y : Nat} (h0 : y < 3) {v : Int32} (hv : Int32.ofNat 6 = v) (hd : decode cc pc = .ok (.arraylength, 1)) (k : V g L K own cc nL ret (wX g ad) inj z res σ (pc + 1) lv (.int v :: st)) : V g L K own cc nL ret (wX g ad) inj z res σ pc lv (.ref (aSeaA ad y 3) :: st) := by
  match y, h0 with
  | 0, _ => exact v_alen (q0 := 33) (t0 := 0) rfl rfl hv hd k
  | 1, _ => exact v_alen (q0 := 39) (t0 := 0) rfl rfl hv hd k
  | 2, _ => exact v_alen (q0 := 45) (t0 := 0) rfl rfl hv hd k
theorem lX_sea4 {y : Nat} (h0 : y < 3) {i : Int32} (hd : decode cc pc = .ok (.iaload, 1)) (k : V g L K own cc nL ret (wX g ad) inj z res σ (pc + 1) lv (.int (xB σ y 4 i.toNatClampNeg) :: st)) : V g L K own cc nL ret (wX g ad) inj z (grd i 6 res) σ pc lv (.int i :: .ref (aSeaA ad y 4) :: st) := by
  match y, h0 with
  | 0, _ => exact v_iald (q0 := 34) rfl hd k
  | 1, _ => exact v_iald (q0 := 40) rfl hd k
  | 2, _ => exact v_iald (q0 := 46) rfl hd k
theorem sX_sea4 {y : Nat} (h0 : y < 3) {i x : Int32} (hd : decode cc pc = .ok (.iastore, 1)) (k : V g L K own cc nL ret (wX g ad) inj z res (sB σ y 4 i.toNatClampNeg x) (pc + 1) lv st) : V g L K own cc nL ret (wX g ad) inj z (grd i 6 res) σ pc lv (.int x :: .int i :: .ref (aSeaA ad y 4) :: st) := by
  match y, h0 with
  | 0, _ => exact v_iast (q0 := 34) rfl rfl hd k
  | 1, _ => exact v_iast (q0 := 40) rfl rfl hd k
  | 2, _ => exact v_iast (q0 := 46) rfl rfl hd k
theorem nX_sea4 {y : Nat} (h0 : y < 3) {v : Int32} (hv : Int32.ofNat 6 = v) (hd : decode cc pc = .ok (.arraylength, 1)) (k : V g L K own cc nL ret (wX g ad) inj z res σ (pc + 1) lv (.int v :: st)) : V g L K own cc nL ret (wX g ad) inj z res σ pc lv (.ref (aSeaA ad y 4) :: st) := by
  match y, h0 with
  | 0, _ => exact v_alen (q0 := 34) (t0 := 0) rfl rfl hv hd k
  | 1, _ => exact v_alen (q0 := 40) (t0 := 0) rfl rfl hv hd k
  | 2, _ => exact v_alen (q0 := 46) (t0 := 0) rfl rfl hv hd k
theorem lX_nums {q : Nat} (h0 : q < 4) {i : Int32} (hd : decode cc pc = .ok (.iaload, 1)) (k : V g L K own cc nL ret (wX g ad) inj z res σ (pc + 1) lv (.int (xN σ q i.toNatClampNeg) :: st)) : V g L K own cc nL ret (wX g ad) inj z (grd i 40 res) σ pc lv (.int i :: .ref (aNums ad q) :: st) := by
  match q, h0 with
  | 0, _ => exact v_iald (q0 := 48) rfl hd k
  | 1, _ => exact v_iald (q0 := 50) rfl hd k
  | 2, _ => exact v_iald (q0 := 52) rfl hd k
  | 3, _ => exact v_iald (q0 := 54) rfl hd k
theorem sX_nums {q : Nat} (h0 : q < 4) {i x : Int32} (hd : decode cc pc = .ok (.iastore, 1)) (k : V g L K own cc nL ret (wX g ad) inj z res (sN σ q i.toNatClampNeg x) (pc + 1) lv st) : V g L K own cc nL ret (wX g ad) inj z (grd i 40 res) σ pc lv (.int x :: .int i :: .ref (aNums ad q) :: st) := by
  match q, h0 with
  | 0, _ => exact v_iast (q0 := 48) rfl rfl hd k
  | 1, _ => exact v_iast (q0 := 50) rfl rfl hd k
  | 2, _ => exact v_iast (q0 := 52) rfl rfl hd k
  | 3, _ => exact v_iast (q0 := 54) rfl rfl hd k
theorem nX_nums {q : Nat} (h0 : q < 4) {v : Int32} (hv : Int32.ofNat 40 = v) (hd : decode cc pc = .ok (.arraylength, 1)) (k : V g L K own cc nL ret (wX g ad) inj z res σ (pc + 1) lv (.int v :: st)) : V g L K own cc nL ret (wX g ad) inj z res σ pc lv (.ref (aNums ad q) :: st) := by
  match q, h0 with
  | 0, _ => exact v_alen (q0 := 48) (t0 := 0) rfl rfl hv hd k
  | 1, _ => exact v_alen (q0 := 50) (t0 := 0) rfl rfl hv hd k
  | 2, _ => exact v_alen (q0 := 52) (t0 := 0) rfl rfl hv hd k
  | 3, _ => exact v_alen (q0 := 54) (t0 := 0) rfl rfl hv hd k
theorem nX_texts {v : Int32} (hv : Int32.ofNat 6 = v) (hd : decode cc pc = .ok (.arraylength, 1)) (k : V g L K own cc nL ret (wX g ad) inj z res σ (pc + 1) lv (.int v :: st)) : V g L K own cc nL ret (wX g ad) inj z res σ pc lv (.ref (aTexts ad) :: st) := v_alen (q0 := 1) (t0 := 1) rfl rfl hv hd k
theorem aX_texts {i : Int32} (hd : decode cc pc = .ok (.aaload, 1)) (k : i.toNatClampNeg < 6 → V g L K own cc nL ret (wX g ad) inj z res σ (pc + 1) lv (.ref (aLaw ad i.toNatClampNeg) :: st)) : V g L K own cc nL ret (wX g ad) inj z (grd i 6 res) σ pc lv (.int i :: .ref (aTexts ad) :: st) := v_aald (q0 := 1) (t0 := 1) rfl rfl hd k
theorem aX_sheets {i : Int32} (hd : decode cc pc = .ok (.aaload, 1)) (k : i.toNatClampNeg < 4 → V g L K own cc nL ret (wX g ad) inj z res σ (pc + 1) lv (.ref (aSheet ad i.toNatClampNeg) :: st)) : V g L K own cc nL ret (wX g ad) inj z (grd i 4 res) σ pc lv (.int i :: .ref (aSheets ad) :: st) := v_aald (q0 := 2) (t0 := 2) rfl rfl hd k
theorem rcX0 {t : Nat} (h0 : t < 6) : RC (wX g ad) σ (aLaw ad t) RX0 := by
  match t, h0 with
  | 0, _ => exact ⟨5, 0, _, _, rfl, rfl, rfl⟩
  | 1, _ => exact ⟨9, 0, _, _, rfl, rfl, rfl⟩
  | 2, _ => exact ⟨13, 0, _, _, rfl, rfl, rfl⟩
  | 3, _ => exact ⟨17, 0, _, _, rfl, rfl, rfl⟩
  | 4, _ => exact ⟨21, 0, _, _, rfl, rfl, rfl⟩
  | 5, _ => exact ⟨25, 0, _, _, rfl, rfl, rfl⟩
theorem rcX1 : RC (wX g ad) σ (aReader ad) RX1 := ⟨4, 1, _, _, rfl, rfl, rfl⟩
theorem rcX2 {y : Nat} (h0 : y < 3) : RC (wX g ad) σ (aSea ad y) RX2 := by
  match y, h0 with
  | 0, _ => exact ⟨29, 2, _, _, rfl, rfl, rfl⟩
  | 1, _ => exact ⟨35, 2, _, _, rfl, rfl, rfl⟩
  | 2, _ => exact ⟨41, 2, _, _, rfl, rfl, rfl⟩
theorem rcX3 {q : Nat} (h0 : q < 4) : RC (wX g ad) σ (aSheet ad q) RX3 := by
  match q, h0 with
  | 0, _ => exact ⟨47, 3, _, _, rfl, rfl, rfl⟩
  | 1, _ => exact ⟨49, 3, _, _, rfl, rfl, rfl⟩
  | 2, _ => exact ⟨51, 3, _, _, rfl, rfl, rfl⟩
  | 3, _ => exact ⟨53, 3, _, _, rfl, rfl, rfl⟩
theorem rcX4 : RC (wX g ad) σ (aMain ad) RX4 := ⟨0, 4, _, _, rfl, rfl, rfl⟩
end WROWS
section WROWSM
variable {ρ : Type} {g : Gt} {ad : Nat → Nat} {L : List Nat} {K : Nat} {own : String} {cc : ByteArray} {nL : Nat} {ret : Option FieldType} {inj : ρ → Option Value} {z : Zt} {res : Option (ρ × GM)} {σ : GM} {pc ix : Nat} {lv : List (Nat × Value)} {st : List Value}
theorem in_r {ws : List Cond} (ps : List Nat) (hp : ws = ps.filterMap (fun i => lw_tbl[i]?)) (hg : ws.all goodWord = true) : ∀ w ∈ ws, w ∈ tb := by
  intro w hw
  have h1 := List.all_eq_true.mp hg w hw
  rw [hp] at hw
  obtain ⟨i, -, hi⟩ := List.mem_filterMap.mp hw
  exact tb_mem i hi h1
theorem inX5 : ∀ w ∈ u_ws RX5 TX5 37, w ∈ tb := in_r [791, 793, 795, 797, 799, 801, 803, 805, 807, 809, 811, 813, 815, 817, 819, 821, 823, 825, 827, 829, 831, 833, 835, 837, 839, 841, 843, 845, 847, 849, 851, 853, 855, 857, 859, 861, 863] (by decide +kernel) (by decide +kernel)
theorem gX5_ships (hl0 : Cond.fieldLink own ix RX5 "ships" "I" ∈ tb) (hd : decode cc pc = .ok (.getfield ix, 3)) (k : V g L K own cc nL ret (wM g ad) inj z res σ (pc + 3) lv (.int (mI σ 0) :: st)) : V g L K own cc nL ret (wM g ad) inj z res σ pc lv (.ref (aMo ad) :: st) := v_get (q0 := 0) (C := RX5) (T := TX5) (N := 37) 0 rfl rfl inX5 (by decide) rfl rfl hl0 hd k
theorem pX5_ships {x : Int32} (hl0 : Cond.fieldLink own ix RX5 "ships" "I" ∈ tb) (hd : decode cc pc = .ok (.putfield ix, 3)) (k : V g L K own cc nL ret (wM g ad) inj z res (tI σ 0 x) (pc + 3) lv st) : V g L K own cc nL ret (wM g ad) inj z res σ pc lv (.int x :: .ref (aMo ad) :: st) := v_put (q0 := 0) (C := RX5) (T := TX5) (N := 37) (ty := .int) 0 rfl rfl inX5 tyX5_ok nmX5 (by decide) rfl rfl (by decide +kernel) rfl rfl (Nat.le_of_ble_eq_true rfl) rfl hl0 hd k
theorem gX5_kind (hl0 : Cond.fieldLink own ix RX5 "kind" "[I" ∈ tb) (hd : decode cc pc = .ok (.getfield ix, 3)) (k : V g L K own cc nL ret (wM g ad) inj z res σ (pc + 3) lv (.ref (aMoA ad 0) :: st)) : V g L K own cc nL ret (wM g ad) inj z res σ pc lv (.ref (aMo ad) :: st) := v_get (q0 := 0) (C := RX5) (T := TX5) (N := 37) 1 rfl rfl inX5 (by decide) rfl rfl hl0 hd k
theorem gX5_moreOf (hl0 : Cond.fieldLink own ix RX5 "moreOf" "[I" ∈ tb) (hd : decode cc pc = .ok (.getfield ix, 3)) (k : V g L K own cc nL ret (wM g ad) inj z res σ (pc + 3) lv (.ref (aMoA ad 1) :: st)) : V g L K own cc nL ret (wM g ad) inj z res σ pc lv (.ref (aMo ad) :: st) := v_get (q0 := 0) (C := RX5) (T := TX5) (N := 37) 2 rfl rfl inX5 (by decide) rfl rfl hl0 hd k
theorem gX5_onOf (hl0 : Cond.fieldLink own ix RX5 "onOf" "[I" ∈ tb) (hd : decode cc pc = .ok (.getfield ix, 3)) (k : V g L K own cc nL ret (wM g ad) inj z res σ (pc + 3) lv (.ref (aMoA ad 2) :: st)) : V g L K own cc nL ret (wM g ad) inj z res σ pc lv (.ref (aMo ad) :: st) := v_get (q0 := 0) (C := RX5) (T := TX5) (N := 37) 3 rfl rfl inX5 (by decide) rfl rfl hl0 hd k
theorem gX5_draughtOf (hl0 : Cond.fieldLink own ix RX5 "draughtOf" "[I" ∈ tb) (hd : decode cc pc = .ok (.getfield ix, 3)) (k : V g L K own cc nL ret (wM g ad) inj z res σ (pc + 3) lv (.ref (aMoA ad 3) :: st)) : V g L K own cc nL ret (wM g ad) inj z res σ pc lv (.ref (aMo ad) :: st) := v_get (q0 := 0) (C := RX5) (T := TX5) (N := 37) 4 rfl rfl inX5 (by decide) rfl rfl hl0 hd k
theorem gX5_lost (hl0 : Cond.fieldLink own ix RX5 "lost" "[I" ∈ tb) (hd : decode cc pc = .ok (.getfield ix, 3)) (k : V g L K own cc nL ret (wM g ad) inj z res σ (pc + 3) lv (.ref (aMoA ad 4) :: st)) : V g L K own cc nL ret (wM g ad) inj z res σ pc lv (.ref (aMo ad) :: st) := v_get (q0 := 0) (C := RX5) (T := TX5) (N := 37) 5 rfl rfl inX5 (by decide) rfl rfl hl0 hd k
theorem gX5_beliefs (hl0 : Cond.fieldLink own ix RX5 "beliefs" "[I" ∈ tb) (hd : decode cc pc = .ok (.getfield ix, 3)) (k : V g L K own cc nL ret (wM g ad) inj z res σ (pc + 3) lv (.ref (aMoA ad 5) :: st)) : V g L K own cc nL ret (wM g ad) inj z res σ pc lv (.ref (aMo ad) :: st) := v_get (q0 := 0) (C := RX5) (T := TX5) (N := 37) 6 rfl rfl inX5 (by decide) rfl rfl hl0 hd k
theorem gX5_rocks (hl0 : Cond.fieldLink own ix RX5 "rocks" "J" ∈ tb) (hd : decode cc pc = .ok (.getfield ix, 3)) (k : V g L K own cc nL ret (wM g ad) inj z res σ (pc + 3) lv (.long (mL σ 0) :: st)) : V g L K own cc nL ret (wM g ad) inj z res σ pc lv (.ref (aMo ad) :: st) := v_get (q0 := 0) (C := RX5) (T := TX5) (N := 37) 7 rfl rfl inX5 (by decide) rfl rfl hl0 hd k
theorem pX5_rocks {x : Int64} (hl0 : Cond.fieldLink own ix RX5 "rocks" "J" ∈ tb) (hd : decode cc pc = .ok (.putfield ix, 3)) (k : V g L K own cc nL ret (wM g ad) inj z res (tL σ 0 x) (pc + 3) lv st) : V g L K own cc nL ret (wM g ad) inj z res σ pc lv (.long x :: .ref (aMo ad) :: st) := v_put (q0 := 0) (C := RX5) (T := TX5) (N := 37) (ty := .long) 7 rfl rfl inX5 tyX5_ok nmX5 (by decide) rfl rfl (by decide +kernel) rfl rfl (Nat.le_of_ble_eq_true rfl) rfl hl0 hd k
theorem gX5_nights (hl0 : Cond.fieldLink own ix RX5 "nights" "I" ∈ tb) (hd : decode cc pc = .ok (.getfield ix, 3)) (k : V g L K own cc nL ret (wM g ad) inj z res σ (pc + 3) lv (.int (mI σ 1) :: st)) : V g L K own cc nL ret (wM g ad) inj z res σ pc lv (.ref (aMo ad) :: st) := v_get (q0 := 0) (C := RX5) (T := TX5) (N := 37) 8 rfl rfl inX5 (by decide) rfl rfl hl0 hd k
theorem pX5_nights {x : Int32} (hl0 : Cond.fieldLink own ix RX5 "nights" "I" ∈ tb) (hd : decode cc pc = .ok (.putfield ix, 3)) (k : V g L K own cc nL ret (wM g ad) inj z res (tI σ 1 x) (pc + 3) lv st) : V g L K own cc nL ret (wM g ad) inj z res σ pc lv (.int x :: .ref (aMo ad) :: st) := v_put (q0 := 0) (C := RX5) (T := TX5) (N := 37) (ty := .int) 8 rfl rfl inX5 tyX5_ok nmX5 (by decide) rfl rfl (by decide +kernel) rfl rfl (Nat.le_of_ble_eq_true rfl) rfl hl0 hd k
theorem gX5_doubt (hl0 : Cond.fieldLink own ix RX5 "doubt" "I" ∈ tb) (hd : decode cc pc = .ok (.getfield ix, 3)) (k : V g L K own cc nL ret (wM g ad) inj z res σ (pc + 3) lv (.int (mI σ 2) :: st)) : V g L K own cc nL ret (wM g ad) inj z res σ pc lv (.ref (aMo ad) :: st) := v_get (q0 := 0) (C := RX5) (T := TX5) (N := 37) 9 rfl rfl inX5 (by decide) rfl rfl hl0 hd k
theorem pX5_doubt {x : Int32} (hl0 : Cond.fieldLink own ix RX5 "doubt" "I" ∈ tb) (hd : decode cc pc = .ok (.putfield ix, 3)) (k : V g L K own cc nL ret (wM g ad) inj z res (tI σ 2 x) (pc + 3) lv st) : V g L K own cc nL ret (wM g ad) inj z res σ pc lv (.int x :: .ref (aMo ad) :: st) := v_put (q0 := 0) (C := RX5) (T := TX5) (N := 37) (ty := .int) 9 rfl rfl inX5 tyX5_ok nmX5 (by decide) rfl rfl (by decide +kernel) rfl rfl (Nat.le_of_ble_eq_true rfl) rfl hl0 hd k
theorem gX5_tape (hl0 : Cond.fieldLink own ix RX5 "tape" "[I" ∈ tb) (hd : decode cc pc = .ok (.getfield ix, 3)) (k : V g L K own cc nL ret (wM g ad) inj z res σ (pc + 3) lv (.ref (aMoA ad 6) :: st)) : V g L K own cc nL ret (wM g ad) inj z res σ pc lv (.ref (aMo ad) :: st) := v_get (q0 := 0) (C := RX5) (T := TX5) (N := 37) 10 rfl rfl inX5 (by decide) rfl rfl hl0 hd k
theorem gX5_taped (hl0 : Cond.fieldLink own ix RX5 "taped" "I" ∈ tb) (hd : decode cc pc = .ok (.getfield ix, 3)) (k : V g L K own cc nL ret (wM g ad) inj z res σ (pc + 3) lv (.int (mI σ 3) :: st)) : V g L K own cc nL ret (wM g ad) inj z res σ pc lv (.ref (aMo ad) :: st) := v_get (q0 := 0) (C := RX5) (T := TX5) (N := 37) 11 rfl rfl inX5 (by decide) rfl rfl hl0 hd k
theorem pX5_taped {x : Int32} (hl0 : Cond.fieldLink own ix RX5 "taped" "I" ∈ tb) (hd : decode cc pc = .ok (.putfield ix, 3)) (k : V g L K own cc nL ret (wM g ad) inj z res (tI σ 3 x) (pc + 3) lv st) : V g L K own cc nL ret (wM g ad) inj z res σ pc lv (.int x :: .ref (aMo ad) :: st) := v_put (q0 := 0) (C := RX5) (T := TX5) (N := 37) (ty := .int) 11 rfl rfl inX5 tyX5_ok nmX5 (by decide) rfl rfl (by decide +kernel) rfl rfl (Nat.le_of_ble_eq_true rfl) rfl hl0 hd k
theorem gX5_codes (hl0 : Cond.fieldLink own ix RX5 "codes" "[I" ∈ tb) (hd : decode cc pc = .ok (.getfield ix, 3)) (k : V g L K own cc nL ret (wM g ad) inj z res σ (pc + 3) lv (.ref (aMoA ad 7) :: st)) : V g L K own cc nL ret (wM g ad) inj z res σ pc lv (.ref (aMo ad) :: st) := v_get (q0 := 0) (C := RX5) (T := TX5) (N := 37) 12 rfl rfl inX5 (by decide) rfl rfl hl0 hd k
theorem gX5_starts (hl0 : Cond.fieldLink own ix RX5 "starts" "[I" ∈ tb) (hd : decode cc pc = .ok (.getfield ix, 3)) (k : V g L K own cc nL ret (wM g ad) inj z res σ (pc + 3) lv (.ref (aMoA ad 8) :: st)) : V g L K own cc nL ret (wM g ad) inj z res σ pc lv (.ref (aMo ad) :: st) := v_get (q0 := 0) (C := RX5) (T := TX5) (N := 37) 13 rfl rfl inX5 (by decide) rfl rfl hl0 hd k
theorem gX5_texts (hl0 : Cond.fieldLink own ix RX5 "texts" "I" ∈ tb) (hd : decode cc pc = .ok (.getfield ix, 3)) (k : V g L K own cc nL ret (wM g ad) inj z res σ (pc + 3) lv (.int (mI σ 4) :: st)) : V g L K own cc nL ret (wM g ad) inj z res σ pc lv (.ref (aMo ad) :: st) := v_get (q0 := 0) (C := RX5) (T := TX5) (N := 37) 14 rfl rfl inX5 (by decide) rfl rfl hl0 hd k
theorem pX5_texts {x : Int32} (hl0 : Cond.fieldLink own ix RX5 "texts" "I" ∈ tb) (hd : decode cc pc = .ok (.putfield ix, 3)) (k : V g L K own cc nL ret (wM g ad) inj z res (tI σ 4 x) (pc + 3) lv st) : V g L K own cc nL ret (wM g ad) inj z res σ pc lv (.int x :: .ref (aMo ad) :: st) := v_put (q0 := 0) (C := RX5) (T := TX5) (N := 37) (ty := .int) 14 rfl rfl inX5 tyX5_ok nmX5 (by decide) rfl rfl (by decide +kernel) rfl rfl (Nat.le_of_ble_eq_true rfl) rfl hl0 hd k
theorem gX5_rule (hl0 : Cond.fieldLink own ix RX5 "rule" "I" ∈ tb) (hd : decode cc pc = .ok (.getfield ix, 3)) (k : V g L K own cc nL ret (wM g ad) inj z res σ (pc + 3) lv (.int (mI σ 5) :: st)) : V g L K own cc nL ret (wM g ad) inj z res σ pc lv (.ref (aMo ad) :: st) := v_get (q0 := 0) (C := RX5) (T := TX5) (N := 37) 15 rfl rfl inX5 (by decide) rfl rfl hl0 hd k
theorem pX5_rule {x : Int32} (hl0 : Cond.fieldLink own ix RX5 "rule" "I" ∈ tb) (hd : decode cc pc = .ok (.putfield ix, 3)) (k : V g L K own cc nL ret (wM g ad) inj z res (tI σ 5 x) (pc + 3) lv st) : V g L K own cc nL ret (wM g ad) inj z res σ pc lv (.int x :: .ref (aMo ad) :: st) := v_put (q0 := 0) (C := RX5) (T := TX5) (N := 37) (ty := .int) 15 rfl rfl inX5 tyX5_ok nmX5 (by decide) rfl rfl (by decide +kernel) rfl rfl (Nat.le_of_ble_eq_true rfl) rfl hl0 hd k
theorem gX5_hasImage (hl0 : Cond.fieldLink own ix RX5 "hasImage" "Z" ∈ tb) (hd : decode cc pc = .ok (.getfield ix, 3)) (k : V g L K own cc nL ret (wM g ad) inj z res σ (pc + 3) lv (.int (mI σ 6) :: st)) : V g L K own cc nL ret (wM g ad) inj z res σ pc lv (.ref (aMo ad) :: st) := v_get (q0 := 0) (C := RX5) (T := TX5) (N := 37) 16 rfl rfl inX5 (by decide) rfl rfl hl0 hd k
theorem pX5_hasImage {x : Int32} (hb : narrow .boolean (.int x) = .int x) (hf : fits .boolean (.int x) = true) (hl0 : Cond.fieldLink own ix RX5 "hasImage" "Z" ∈ tb) (hd : decode cc pc = .ok (.putfield ix, 3)) (k : V g L K own cc nL ret (wM g ad) inj z res (tI σ 6 x) (pc + 3) lv st) : V g L K own cc nL ret (wM g ad) inj z res σ pc lv (.int x :: .ref (aMo ad) :: st) := v_put (q0 := 0) (C := RX5) (T := TX5) (N := 37) (ty := .boolean) 16 rfl rfl inX5 tyX5_ok nmX5 (by decide) rfl rfl (by decide +kernel) hb hf (Nat.le_of_ble_eq_true rfl) rfl hl0 hd k
theorem gX5_imageRows (hl0 : Cond.fieldLink own ix RX5 "imageRows" "[I" ∈ tb) (hd : decode cc pc = .ok (.getfield ix, 3)) (k : V g L K own cc nL ret (wM g ad) inj z res σ (pc + 3) lv (.ref (aMoA ad 9) :: st)) : V g L K own cc nL ret (wM g ad) inj z res σ pc lv (.ref (aMo ad) :: st) := v_get (q0 := 0) (C := RX5) (T := TX5) (N := 37) 17 rfl rfl inX5 (by decide) rfl rfl hl0 hd k
theorem gX5_imageHeld (hl0 : Cond.fieldLink own ix RX5 "imageHeld" "[I" ∈ tb) (hd : decode cc pc = .ok (.getfield ix, 3)) (k : V g L K own cc nL ret (wM g ad) inj z res σ (pc + 3) lv (.ref (aMoA ad 10) :: st)) : V g L K own cc nL ret (wM g ad) inj z res σ pc lv (.ref (aMo ad) :: st) := v_get (q0 := 0) (C := RX5) (T := TX5) (N := 37) 18 rfl rfl inX5 (by decide) rfl rfl hl0 hd k
theorem gX5_imageRocks (hl0 : Cond.fieldLink own ix RX5 "imageRocks" "J" ∈ tb) (hd : decode cc pc = .ok (.getfield ix, 3)) (k : V g L K own cc nL ret (wM g ad) inj z res σ (pc + 3) lv (.long (mL σ 1) :: st)) : V g L K own cc nL ret (wM g ad) inj z res σ pc lv (.ref (aMo ad) :: st) := v_get (q0 := 0) (C := RX5) (T := TX5) (N := 37) 19 rfl rfl inX5 (by decide) rfl rfl hl0 hd k
theorem pX5_imageRocks {x : Int64} (hl0 : Cond.fieldLink own ix RX5 "imageRocks" "J" ∈ tb) (hd : decode cc pc = .ok (.putfield ix, 3)) (k : V g L K own cc nL ret (wM g ad) inj z res (tL σ 1 x) (pc + 3) lv st) : V g L K own cc nL ret (wM g ad) inj z res σ pc lv (.long x :: .ref (aMo ad) :: st) := v_put (q0 := 0) (C := RX5) (T := TX5) (N := 37) (ty := .long) 19 rfl rfl inX5 tyX5_ok nmX5 (by decide) rfl rfl (by decide +kernel) rfl rfl (Nat.le_of_ble_eq_true rfl) rfl hl0 hd k
theorem gX5_sheetSort (hl0 : Cond.fieldLink own ix RX5 "sheetSort" "[I" ∈ tb) (hd : decode cc pc = .ok (.getfield ix, 3)) (k : V g L K own cc nL ret (wM g ad) inj z res σ (pc + 3) lv (.ref (aMoA ad 11) :: st)) : V g L K own cc nL ret (wM g ad) inj z res σ pc lv (.ref (aMo ad) :: st) := v_get (q0 := 0) (C := RX5) (T := TX5) (N := 37) 20 rfl rfl inX5 (by decide) rfl rfl hl0 hd k
theorem gX5_sheetSize (hl0 : Cond.fieldLink own ix RX5 "sheetSize" "[I" ∈ tb) (hd : decode cc pc = .ok (.getfield ix, 3)) (k : V g L K own cc nL ret (wM g ad) inj z res σ (pc + 3) lv (.ref (aMoA ad 12) :: st)) : V g L K own cc nL ret (wM g ad) inj z res σ pc lv (.ref (aMo ad) :: st) := v_get (q0 := 0) (C := RX5) (T := TX5) (N := 37) 21 rfl rfl inX5 (by decide) rfl rfl hl0 hd k
theorem gX5_cells (hl0 : Cond.fieldLink own ix RX5 "cells" "[I" ∈ tb) (hd : decode cc pc = .ok (.getfield ix, 3)) (k : V g L K own cc nL ret (wM g ad) inj z res σ (pc + 3) lv (.ref (aMoA ad 13) :: st)) : V g L K own cc nL ret (wM g ad) inj z res σ pc lv (.ref (aMo ad) :: st) := v_get (q0 := 0) (C := RX5) (T := TX5) (N := 37) 22 rfl rfl inX5 (by decide) rfl rfl hl0 hd k
theorem gX5_law (hl0 : Cond.fieldLink own ix RX5 "law" "[I" ∈ tb) (hd : decode cc pc = .ok (.getfield ix, 3)) (k : V g L K own cc nL ret (wM g ad) inj z res σ (pc + 3) lv (.ref (aMoA ad 14) :: st)) : V g L K own cc nL ret (wM g ad) inj z res σ pc lv (.ref (aMo ad) :: st) := v_get (q0 := 0) (C := RX5) (T := TX5) (N := 37) 23 rfl rfl inX5 (by decide) rfl rfl hl0 hd k
theorem gX5_at (hl0 : Cond.fieldLink own ix RX5 "at" "I" ∈ tb) (hd : decode cc pc = .ok (.getfield ix, 3)) (k : V g L K own cc nL ret (wM g ad) inj z res σ (pc + 3) lv (.int (mI σ 7) :: st)) : V g L K own cc nL ret (wM g ad) inj z res σ pc lv (.ref (aMo ad) :: st) := v_get (q0 := 0) (C := RX5) (T := TX5) (N := 37) 24 rfl rfl inX5 (by decide) rfl rfl hl0 hd k
theorem pX5_at {x : Int32} (hl0 : Cond.fieldLink own ix RX5 "at" "I" ∈ tb) (hd : decode cc pc = .ok (.putfield ix, 3)) (k : V g L K own cc nL ret (wM g ad) inj z res (tI σ 7 x) (pc + 3) lv st) : V g L K own cc nL ret (wM g ad) inj z res σ pc lv (.int x :: .ref (aMo ad) :: st) := v_put (q0 := 0) (C := RX5) (T := TX5) (N := 37) (ty := .int) 24 rfl rfl inX5 tyX5_ok nmX5 (by decide) rfl rfl (by decide +kernel) rfl rfl (Nat.le_of_ble_eq_true rfl) rfl hl0 hd k
theorem gX5_begun (hl0 : Cond.fieldLink own ix RX5 "begun" "I" ∈ tb) (hd : decode cc pc = .ok (.getfield ix, 3)) (k : V g L K own cc nL ret (wM g ad) inj z res σ (pc + 3) lv (.int (mI σ 8) :: st)) : V g L K own cc nL ret (wM g ad) inj z res σ pc lv (.ref (aMo ad) :: st) := v_get (q0 := 0) (C := RX5) (T := TX5) (N := 37) 25 rfl rfl inX5 (by decide) rfl rfl hl0 hd k
theorem pX5_begun {x : Int32} (hl0 : Cond.fieldLink own ix RX5 "begun" "I" ∈ tb) (hd : decode cc pc = .ok (.putfield ix, 3)) (k : V g L K own cc nL ret (wM g ad) inj z res (tI σ 8 x) (pc + 3) lv st) : V g L K own cc nL ret (wM g ad) inj z res σ pc lv (.int x :: .ref (aMo ad) :: st) := v_put (q0 := 0) (C := RX5) (T := TX5) (N := 37) (ty := .int) 25 rfl rfl inX5 tyX5_ok nmX5 (by decide) rfl rfl (by decide +kernel) rfl rfl (Nat.le_of_ble_eq_true rfl) rfl hl0 hd k
theorem gX5_token (hl0 : Cond.fieldLink own ix RX5 "token" "I" ∈ tb) (hd : decode cc pc = .ok (.getfield ix, 3)) (k : V g L K own cc nL ret (wM g ad) inj z res σ (pc + 3) lv (.int (mI σ 9) :: st)) : V g L K own cc nL ret (wM g ad) inj z res σ pc lv (.ref (aMo ad) :: st) := v_get (q0 := 0) (C := RX5) (T := TX5) (N := 37) 26 rfl rfl inX5 (by decide) rfl rfl hl0 hd k
theorem pX5_token {x : Int32} (hl0 : Cond.fieldLink own ix RX5 "token" "I" ∈ tb) (hd : decode cc pc = .ok (.putfield ix, 3)) (k : V g L K own cc nL ret (wM g ad) inj z res (tI σ 9 x) (pc + 3) lv st) : V g L K own cc nL ret (wM g ad) inj z res σ pc lv (.int x :: .ref (aMo ad) :: st) := v_put (q0 := 0) (C := RX5) (T := TX5) (N := 37) (ty := .int) 26 rfl rfl inX5 tyX5_ok nmX5 (by decide) rfl rfl (by decide +kernel) rfl rfl (Nat.le_of_ble_eq_true rfl) rfl hl0 hd k
theorem gX5_value (hl0 : Cond.fieldLink own ix RX5 "value" "I" ∈ tb) (hd : decode cc pc = .ok (.getfield ix, 3)) (k : V g L K own cc nL ret (wM g ad) inj z res σ (pc + 3) lv (.int (mI σ 10) :: st)) : V g L K own cc nL ret (wM g ad) inj z res σ pc lv (.ref (aMo ad) :: st) := v_get (q0 := 0) (C := RX5) (T := TX5) (N := 37) 27 rfl rfl inX5 (by decide) rfl rfl hl0 hd k
theorem pX5_value {x : Int32} (hl0 : Cond.fieldLink own ix RX5 "value" "I" ∈ tb) (hd : decode cc pc = .ok (.putfield ix, 3)) (k : V g L K own cc nL ret (wM g ad) inj z res (tI σ 10 x) (pc + 3) lv st) : V g L K own cc nL ret (wM g ad) inj z res σ pc lv (.int x :: .ref (aMo ad) :: st) := v_put (q0 := 0) (C := RX5) (T := TX5) (N := 37) (ty := .int) 27 rfl rfl inX5 tyX5_ok nmX5 (by decide) rfl rfl (by decide +kernel) rfl rfl (Nat.le_of_ble_eq_true rfl) rfl hl0 hd k
theorem gX5_words (hl0 : Cond.fieldLink own ix RX5 "words" "[I" ∈ tb) (hd : decode cc pc = .ok (.getfield ix, 3)) (k : V g L K own cc nL ret (wM g ad) inj z res σ (pc + 3) lv (.ref (aMoA ad 15) :: st)) : V g L K own cc nL ret (wM g ad) inj z res σ pc lv (.ref (aMo ad) :: st) := v_get (q0 := 0) (C := RX5) (T := TX5) (N := 37) 28 rfl rfl inX5 (by decide) rfl rfl hl0 hd k
theorem gX5_held (hl0 : Cond.fieldLink own ix RX5 "held" "[I" ∈ tb) (hd : decode cc pc = .ok (.getfield ix, 3)) (k : V g L K own cc nL ret (wM g ad) inj z res σ (pc + 3) lv (.ref (aMoA ad 16) :: st)) : V g L K own cc nL ret (wM g ad) inj z res σ pc lv (.ref (aMo ad) :: st) := v_get (q0 := 0) (C := RX5) (T := TX5) (N := 37) 29 rfl rfl inX5 (by decide) rfl rfl hl0 hd k
theorem gX5_heldMany (hl0 : Cond.fieldLink own ix RX5 "heldMany" "I" ∈ tb) (hd : decode cc pc = .ok (.getfield ix, 3)) (k : V g L K own cc nL ret (wM g ad) inj z res σ (pc + 3) lv (.int (mI σ 11) :: st)) : V g L K own cc nL ret (wM g ad) inj z res σ pc lv (.ref (aMo ad) :: st) := v_get (q0 := 0) (C := RX5) (T := TX5) (N := 37) 30 rfl rfl inX5 (by decide) rfl rfl hl0 hd k
theorem pX5_heldMany {x : Int32} (hl0 : Cond.fieldLink own ix RX5 "heldMany" "I" ∈ tb) (hd : decode cc pc = .ok (.putfield ix, 3)) (k : V g L K own cc nL ret (wM g ad) inj z res (tI σ 11 x) (pc + 3) lv st) : V g L K own cc nL ret (wM g ad) inj z res σ pc lv (.int x :: .ref (aMo ad) :: st) := v_put (q0 := 0) (C := RX5) (T := TX5) (N := 37) (ty := .int) 30 rfl rfl inX5 tyX5_ok nmX5 (by decide) rfl rfl (by decide +kernel) rfl rfl (Nat.le_of_ble_eq_true rfl) rfl hl0 hd k
theorem gX5_opens (hl0 : Cond.fieldLink own ix RX5 "opens" "I" ∈ tb) (hd : decode cc pc = .ok (.getfield ix, 3)) (k : V g L K own cc nL ret (wM g ad) inj z res σ (pc + 3) lv (.int (mI σ 12) :: st)) : V g L K own cc nL ret (wM g ad) inj z res σ pc lv (.ref (aMo ad) :: st) := v_get (q0 := 0) (C := RX5) (T := TX5) (N := 37) 31 rfl rfl inX5 (by decide) rfl rfl hl0 hd k
theorem pX5_opens {x : Int32} (hl0 : Cond.fieldLink own ix RX5 "opens" "I" ∈ tb) (hd : decode cc pc = .ok (.putfield ix, 3)) (k : V g L K own cc nL ret (wM g ad) inj z res (tI σ 12 x) (pc + 3) lv st) : V g L K own cc nL ret (wM g ad) inj z res σ pc lv (.int x :: .ref (aMo ad) :: st) := v_put (q0 := 0) (C := RX5) (T := TX5) (N := 37) (ty := .int) 31 rfl rfl inX5 tyX5_ok nmX5 (by decide) rfl rfl (by decide +kernel) rfl rfl (Nat.le_of_ble_eq_true rfl) rfl hl0 hd k
theorem gX5_out (hl0 : Cond.fieldLink own ix RX5 "out" "I" ∈ tb) (hd : decode cc pc = .ok (.getfield ix, 3)) (k : V g L K own cc nL ret (wM g ad) inj z res σ (pc + 3) lv (.int (mI σ 13) :: st)) : V g L K own cc nL ret (wM g ad) inj z res σ pc lv (.ref (aMo ad) :: st) := v_get (q0 := 0) (C := RX5) (T := TX5) (N := 37) 32 rfl rfl inX5 (by decide) rfl rfl hl0 hd k
theorem pX5_out {x : Int32} (hl0 : Cond.fieldLink own ix RX5 "out" "I" ∈ tb) (hd : decode cc pc = .ok (.putfield ix, 3)) (k : V g L K own cc nL ret (wM g ad) inj z res (tI σ 13 x) (pc + 3) lv st) : V g L K own cc nL ret (wM g ad) inj z res σ pc lv (.int x :: .ref (aMo ad) :: st) := v_put (q0 := 0) (C := RX5) (T := TX5) (N := 37) (ty := .int) 32 rfl rfl inX5 tyX5_ok nmX5 (by decide) rfl rfl (by decide +kernel) rfl rfl (Nat.le_of_ble_eq_true rfl) rfl hl0 hd k
theorem gX5_stack (hl0 : Cond.fieldLink own ix RX5 "stack" "[I" ∈ tb) (hd : decode cc pc = .ok (.getfield ix, 3)) (k : V g L K own cc nL ret (wM g ad) inj z res σ (pc + 3) lv (.ref (aMoA ad 17) :: st)) : V g L K own cc nL ret (wM g ad) inj z res σ pc lv (.ref (aMo ad) :: st) := v_get (q0 := 0) (C := RX5) (T := TX5) (N := 37) 33 rfl rfl inX5 (by decide) rfl rfl hl0 hd k
theorem gX5_named (hl0 : Cond.fieldLink own ix RX5 "named" "[I" ∈ tb) (hd : decode cc pc = .ok (.getfield ix, 3)) (k : V g L K own cc nL ret (wM g ad) inj z res σ (pc + 3) lv (.ref (aMoA ad 18) :: st)) : V g L K own cc nL ret (wM g ad) inj z res σ pc lv (.ref (aMo ad) :: st) := v_get (q0 := 0) (C := RX5) (T := TX5) (N := 37) 34 rfl rfl inX5 (by decide) rfl rfl hl0 hd k
theorem gX5_kept (hl0 : Cond.fieldLink own ix RX5 "kept" "[I" ∈ tb) (hd : decode cc pc = .ok (.getfield ix, 3)) (k : V g L K own cc nL ret (wM g ad) inj z res σ (pc + 3) lv (.ref (aMoA ad 19) :: st)) : V g L K own cc nL ret (wM g ad) inj z res σ pc lv (.ref (aMo ad) :: st) := v_get (q0 := 0) (C := RX5) (T := TX5) (N := 37) 35 rfl rfl inX5 (by decide) rfl rfl hl0 hd k
theorem gX5_afloatThen (hl0 : Cond.fieldLink own ix RX5 "afloatThen" "I" ∈ tb) (hd : decode cc pc = .ok (.getfield ix, 3)) (k : V g L K own cc nL ret (wM g ad) inj z res σ (pc + 3) lv (.int (mI σ 14) :: st)) : V g L K own cc nL ret (wM g ad) inj z res σ pc lv (.ref (aMo ad) :: st) := v_get (q0 := 0) (C := RX5) (T := TX5) (N := 37) 36 rfl rfl inX5 (by decide) rfl rfl hl0 hd k
theorem pX5_afloatThen {x : Int32} (hl0 : Cond.fieldLink own ix RX5 "afloatThen" "I" ∈ tb) (hd : decode cc pc = .ok (.putfield ix, 3)) (k : V g L K own cc nL ret (wM g ad) inj z res (tI σ 14 x) (pc + 3) lv st) : V g L K own cc nL ret (wM g ad) inj z res σ pc lv (.int x :: .ref (aMo ad) :: st) := v_put (q0 := 0) (C := RX5) (T := TX5) (N := 37) (ty := .int) 36 rfl rfl inX5 tyX5_ok nmX5 (by decide) rfl rfl (by decide +kernel) rfl rfl (Nat.le_of_ble_eq_true rfl) rfl hl0 hd k
theorem lM_kind {i : Int32} (hd : decode cc pc = .ok (.iaload, 1)) (k : V g L K own cc nL ret (wM g ad) inj z res σ (pc + 1) lv (.int (mA σ 0 i.toNatClampNeg) :: st)) : V g L K own cc nL ret (wM g ad) inj z (grd i 6 res) σ pc lv (.int i :: .ref (aMoA ad 0) :: st) := v_iald (q0 := 1) rfl hd k
theorem sM_kind {i x : Int32} (hd : decode cc pc = .ok (.iastore, 1)) (k : V g L K own cc nL ret (wM g ad) inj z res (tA σ 0 i.toNatClampNeg x) (pc + 1) lv st) : V g L K own cc nL ret (wM g ad) inj z (grd i 6 res) σ pc lv (.int x :: .int i :: .ref (aMoA ad 0) :: st) := v_iast (q0 := 1) rfl rfl hd k
theorem nM_kind {v : Int32} (hv : Int32.ofNat 6 = v) (hd : decode cc pc = .ok (.arraylength, 1)) (k : V g L K own cc nL ret (wM g ad) inj z res σ (pc + 1) lv (.int v :: st)) : V g L K own cc nL ret (wM g ad) inj z res σ pc lv (.ref (aMoA ad 0) :: st) := v_alen (q0 := 1) (t0 := 0) rfl rfl hv hd k
theorem lM_moreOf {i : Int32} (hd : decode cc pc = .ok (.iaload, 1)) (k : V g L K own cc nL ret (wM g ad) inj z res σ (pc + 1) lv (.int (mA σ 1 i.toNatClampNeg) :: st)) : V g L K own cc nL ret (wM g ad) inj z (grd i 6 res) σ pc lv (.int i :: .ref (aMoA ad 1) :: st) := v_iald (q0 := 2) rfl hd k
theorem sM_moreOf {i x : Int32} (hd : decode cc pc = .ok (.iastore, 1)) (k : V g L K own cc nL ret (wM g ad) inj z res (tA σ 1 i.toNatClampNeg x) (pc + 1) lv st) : V g L K own cc nL ret (wM g ad) inj z (grd i 6 res) σ pc lv (.int x :: .int i :: .ref (aMoA ad 1) :: st) := v_iast (q0 := 2) rfl rfl hd k
theorem nM_moreOf {v : Int32} (hv : Int32.ofNat 6 = v) (hd : decode cc pc = .ok (.arraylength, 1)) (k : V g L K own cc nL ret (wM g ad) inj z res σ (pc + 1) lv (.int v :: st)) : V g L K own cc nL ret (wM g ad) inj z res σ pc lv (.ref (aMoA ad 1) :: st) := v_alen (q0 := 2) (t0 := 0) rfl rfl hv hd k
theorem lM_onOf {i : Int32} (hd : decode cc pc = .ok (.iaload, 1)) (k : V g L K own cc nL ret (wM g ad) inj z res σ (pc + 1) lv (.int (mA σ 2 i.toNatClampNeg) :: st)) : V g L K own cc nL ret (wM g ad) inj z (grd i 6 res) σ pc lv (.int i :: .ref (aMoA ad 2) :: st) := v_iald (q0 := 3) rfl hd k
theorem sM_onOf {i x : Int32} (hd : decode cc pc = .ok (.iastore, 1)) (k : V g L K own cc nL ret (wM g ad) inj z res (tA σ 2 i.toNatClampNeg x) (pc + 1) lv st) : V g L K own cc nL ret (wM g ad) inj z (grd i 6 res) σ pc lv (.int x :: .int i :: .ref (aMoA ad 2) :: st) := v_iast (q0 := 3) rfl rfl hd k
theorem nM_onOf {v : Int32} (hv : Int32.ofNat 6 = v) (hd : decode cc pc = .ok (.arraylength, 1)) (k : V g L K own cc nL ret (wM g ad) inj z res σ (pc + 1) lv (.int v :: st)) : V g L K own cc nL ret (wM g ad) inj z res σ pc lv (.ref (aMoA ad 2) :: st) := v_alen (q0 := 3) (t0 := 0) rfl rfl hv hd k
theorem lM_draughtOf {i : Int32} (hd : decode cc pc = .ok (.iaload, 1)) (k : V g L K own cc nL ret (wM g ad) inj z res σ (pc + 1) lv (.int (mA σ 3 i.toNatClampNeg) :: st)) : V g L K own cc nL ret (wM g ad) inj z (grd i 6 res) σ pc lv (.int i :: .ref (aMoA ad 3) :: st) := v_iald (q0 := 4) rfl hd k
theorem sM_draughtOf {i x : Int32} (hd : decode cc pc = .ok (.iastore, 1)) (k : V g L K own cc nL ret (wM g ad) inj z res (tA σ 3 i.toNatClampNeg x) (pc + 1) lv st) : V g L K own cc nL ret (wM g ad) inj z (grd i 6 res) σ pc lv (.int x :: .int i :: .ref (aMoA ad 3) :: st) := v_iast (q0 := 4) rfl rfl hd k
theorem nM_draughtOf {v : Int32} (hv : Int32.ofNat 6 = v) (hd : decode cc pc = .ok (.arraylength, 1)) (k : V g L K own cc nL ret (wM g ad) inj z res σ (pc + 1) lv (.int v :: st)) : V g L K own cc nL ret (wM g ad) inj z res σ pc lv (.ref (aMoA ad 3) :: st) := v_alen (q0 := 4) (t0 := 0) rfl rfl hv hd k
theorem lM_lost {i : Int32} (hd : decode cc pc = .ok (.iaload, 1)) (k : V g L K own cc nL ret (wM g ad) inj z res σ (pc + 1) lv (.int (mA σ 4 i.toNatClampNeg) :: st)) : V g L K own cc nL ret (wM g ad) inj z (grd i 6 res) σ pc lv (.int i :: .ref (aMoA ad 4) :: st) := v_iald (q0 := 5) rfl hd k
theorem sM_lost {i x : Int32} (hd : decode cc pc = .ok (.iastore, 1)) (k : V g L K own cc nL ret (wM g ad) inj z res (tA σ 4 i.toNatClampNeg x) (pc + 1) lv st) : V g L K own cc nL ret (wM g ad) inj z (grd i 6 res) σ pc lv (.int x :: .int i :: .ref (aMoA ad 4) :: st) := v_iast (q0 := 5) rfl rfl hd k
theorem nM_lost {v : Int32} (hv : Int32.ofNat 6 = v) (hd : decode cc pc = .ok (.arraylength, 1)) (k : V g L K own cc nL ret (wM g ad) inj z res σ (pc + 1) lv (.int v :: st)) : V g L K own cc nL ret (wM g ad) inj z res σ pc lv (.ref (aMoA ad 4) :: st) := v_alen (q0 := 5) (t0 := 0) rfl rfl hv hd k
theorem lM_beliefs {i : Int32} (hd : decode cc pc = .ok (.iaload, 1)) (k : V g L K own cc nL ret (wM g ad) inj z res σ (pc + 1) lv (.int (mA σ 5 i.toNatClampNeg) :: st)) : V g L K own cc nL ret (wM g ad) inj z (grd i 36 res) σ pc lv (.int i :: .ref (aMoA ad 5) :: st) := v_iald (q0 := 6) rfl hd k
theorem sM_beliefs {i x : Int32} (hd : decode cc pc = .ok (.iastore, 1)) (k : V g L K own cc nL ret (wM g ad) inj z res (tA σ 5 i.toNatClampNeg x) (pc + 1) lv st) : V g L K own cc nL ret (wM g ad) inj z (grd i 36 res) σ pc lv (.int x :: .int i :: .ref (aMoA ad 5) :: st) := v_iast (q0 := 6) rfl rfl hd k
theorem nM_beliefs {v : Int32} (hv : Int32.ofNat 36 = v) (hd : decode cc pc = .ok (.arraylength, 1)) (k : V g L K own cc nL ret (wM g ad) inj z res σ (pc + 1) lv (.int v :: st)) : V g L K own cc nL ret (wM g ad) inj z res σ pc lv (.ref (aMoA ad 5) :: st) := v_alen (q0 := 6) (t0 := 0) rfl rfl hv hd k
theorem lM_tape {i : Int32} (hd : decode cc pc = .ok (.iaload, 1)) (k : V g L K own cc nL ret (wM g ad) inj z res σ (pc + 1) lv (.int (mA σ 6 i.toNatClampNeg) :: st)) : V g L K own cc nL ret (wM g ad) inj z (grd i 160 res) σ pc lv (.int i :: .ref (aMoA ad 6) :: st) := v_iald (q0 := 7) rfl hd k
theorem sM_tape {i x : Int32} (hd : decode cc pc = .ok (.iastore, 1)) (k : V g L K own cc nL ret (wM g ad) inj z res (tA σ 6 i.toNatClampNeg x) (pc + 1) lv st) : V g L K own cc nL ret (wM g ad) inj z (grd i 160 res) σ pc lv (.int x :: .int i :: .ref (aMoA ad 6) :: st) := v_iast (q0 := 7) rfl rfl hd k
theorem nM_tape {v : Int32} (hv : Int32.ofNat 160 = v) (hd : decode cc pc = .ok (.arraylength, 1)) (k : V g L K own cc nL ret (wM g ad) inj z res σ (pc + 1) lv (.int v :: st)) : V g L K own cc nL ret (wM g ad) inj z res σ pc lv (.ref (aMoA ad 6) :: st) := v_alen (q0 := 7) (t0 := 0) rfl rfl hv hd k
theorem lM_codes {i : Int32} (hd : decode cc pc = .ok (.iaload, 1)) (k : V g L K own cc nL ret (wM g ad) inj z res σ (pc + 1) lv (.int (mA σ 7 i.toNatClampNeg) :: st)) : V g L K own cc nL ret (wM g ad) inj z (grd i 1200 res) σ pc lv (.int i :: .ref (aMoA ad 7) :: st) := v_iald (q0 := 8) rfl hd k
theorem sM_codes {i x : Int32} (hd : decode cc pc = .ok (.iastore, 1)) (k : V g L K own cc nL ret (wM g ad) inj z res (tA σ 7 i.toNatClampNeg x) (pc + 1) lv st) : V g L K own cc nL ret (wM g ad) inj z (grd i 1200 res) σ pc lv (.int x :: .int i :: .ref (aMoA ad 7) :: st) := v_iast (q0 := 8) rfl rfl hd k
theorem nM_codes {v : Int32} (hv : Int32.ofNat 1200 = v) (hd : decode cc pc = .ok (.arraylength, 1)) (k : V g L K own cc nL ret (wM g ad) inj z res σ (pc + 1) lv (.int v :: st)) : V g L K own cc nL ret (wM g ad) inj z res σ pc lv (.ref (aMoA ad 7) :: st) := v_alen (q0 := 8) (t0 := 0) rfl rfl hv hd k
theorem lM_starts {i : Int32} (hd : decode cc pc = .ok (.iaload, 1)) (k : V g L K own cc nL ret (wM g ad) inj z res σ (pc + 1) lv (.int (mA σ 8 i.toNatClampNeg) :: st)) : V g L K own cc nL ret (wM g ad) inj z (grd i 24 res) σ pc lv (.int i :: .ref (aMoA ad 8) :: st) := v_iald (q0 := 9) rfl hd k
theorem sM_starts {i x : Int32} (hd : decode cc pc = .ok (.iastore, 1)) (k : V g L K own cc nL ret (wM g ad) inj z res (tA σ 8 i.toNatClampNeg x) (pc + 1) lv st) : V g L K own cc nL ret (wM g ad) inj z (grd i 24 res) σ pc lv (.int x :: .int i :: .ref (aMoA ad 8) :: st) := v_iast (q0 := 9) rfl rfl hd k
theorem nM_starts {v : Int32} (hv : Int32.ofNat 24 = v) (hd : decode cc pc = .ok (.arraylength, 1)) (k : V g L K own cc nL ret (wM g ad) inj z res σ (pc + 1) lv (.int v :: st)) : V g L K own cc nL ret (wM g ad) inj z res σ pc lv (.ref (aMoA ad 8) :: st) := v_alen (q0 := 9) (t0 := 0) rfl rfl hv hd k
theorem lM_imageRows {i : Int32} (hd : decode cc pc = .ok (.iaload, 1)) (k : V g L K own cc nL ret (wM g ad) inj z res σ (pc + 1) lv (.int (mA σ 9 i.toNatClampNeg) :: st)) : V g L K own cc nL ret (wM g ad) inj z (grd i 54 res) σ pc lv (.int i :: .ref (aMoA ad 9) :: st) := v_iald (q0 := 10) rfl hd k
theorem sM_imageRows {i x : Int32} (hd : decode cc pc = .ok (.iastore, 1)) (k : V g L K own cc nL ret (wM g ad) inj z res (tA σ 9 i.toNatClampNeg x) (pc + 1) lv st) : V g L K own cc nL ret (wM g ad) inj z (grd i 54 res) σ pc lv (.int x :: .int i :: .ref (aMoA ad 9) :: st) := v_iast (q0 := 10) rfl rfl hd k
theorem nM_imageRows {v : Int32} (hv : Int32.ofNat 54 = v) (hd : decode cc pc = .ok (.arraylength, 1)) (k : V g L K own cc nL ret (wM g ad) inj z res σ (pc + 1) lv (.int v :: st)) : V g L K own cc nL ret (wM g ad) inj z res σ pc lv (.ref (aMoA ad 9) :: st) := v_alen (q0 := 10) (t0 := 0) rfl rfl hv hd k
theorem lM_imageHeld {i : Int32} (hd : decode cc pc = .ok (.iaload, 1)) (k : V g L K own cc nL ret (wM g ad) inj z res σ (pc + 1) lv (.int (mA σ 10 i.toNatClampNeg) :: st)) : V g L K own cc nL ret (wM g ad) inj z (grd i 4 res) σ pc lv (.int i :: .ref (aMoA ad 10) :: st) := v_iald (q0 := 11) rfl hd k
theorem sM_imageHeld {i x : Int32} (hd : decode cc pc = .ok (.iastore, 1)) (k : V g L K own cc nL ret (wM g ad) inj z res (tA σ 10 i.toNatClampNeg x) (pc + 1) lv st) : V g L K own cc nL ret (wM g ad) inj z (grd i 4 res) σ pc lv (.int x :: .int i :: .ref (aMoA ad 10) :: st) := v_iast (q0 := 11) rfl rfl hd k
theorem nM_imageHeld {v : Int32} (hv : Int32.ofNat 4 = v) (hd : decode cc pc = .ok (.arraylength, 1)) (k : V g L K own cc nL ret (wM g ad) inj z res σ (pc + 1) lv (.int v :: st)) : V g L K own cc nL ret (wM g ad) inj z res σ pc lv (.ref (aMoA ad 10) :: st) := v_alen (q0 := 11) (t0 := 0) rfl rfl hv hd k
theorem lM_sheetSort {i : Int32} (hd : decode cc pc = .ok (.iaload, 1)) (k : V g L K own cc nL ret (wM g ad) inj z res σ (pc + 1) lv (.int (mA σ 11 i.toNatClampNeg) :: st)) : V g L K own cc nL ret (wM g ad) inj z (grd i 4 res) σ pc lv (.int i :: .ref (aMoA ad 11) :: st) := v_iald (q0 := 12) rfl hd k
theorem sM_sheetSort {i x : Int32} (hd : decode cc pc = .ok (.iastore, 1)) (k : V g L K own cc nL ret (wM g ad) inj z res (tA σ 11 i.toNatClampNeg x) (pc + 1) lv st) : V g L K own cc nL ret (wM g ad) inj z (grd i 4 res) σ pc lv (.int x :: .int i :: .ref (aMoA ad 11) :: st) := v_iast (q0 := 12) rfl rfl hd k
theorem nM_sheetSort {v : Int32} (hv : Int32.ofNat 4 = v) (hd : decode cc pc = .ok (.arraylength, 1)) (k : V g L K own cc nL ret (wM g ad) inj z res σ (pc + 1) lv (.int v :: st)) : V g L K own cc nL ret (wM g ad) inj z res σ pc lv (.ref (aMoA ad 11) :: st) := v_alen (q0 := 12) (t0 := 0) rfl rfl hv hd k
theorem lM_sheetSize {i : Int32} (hd : decode cc pc = .ok (.iaload, 1)) (k : V g L K own cc nL ret (wM g ad) inj z res σ (pc + 1) lv (.int (mA σ 12 i.toNatClampNeg) :: st)) : V g L K own cc nL ret (wM g ad) inj z (grd i 4 res) σ pc lv (.int i :: .ref (aMoA ad 12) :: st) := v_iald (q0 := 13) rfl hd k
theorem sM_sheetSize {i x : Int32} (hd : decode cc pc = .ok (.iastore, 1)) (k : V g L K own cc nL ret (wM g ad) inj z res (tA σ 12 i.toNatClampNeg x) (pc + 1) lv st) : V g L K own cc nL ret (wM g ad) inj z (grd i 4 res) σ pc lv (.int x :: .int i :: .ref (aMoA ad 12) :: st) := v_iast (q0 := 13) rfl rfl hd k
theorem nM_sheetSize {v : Int32} (hv : Int32.ofNat 4 = v) (hd : decode cc pc = .ok (.arraylength, 1)) (k : V g L K own cc nL ret (wM g ad) inj z res σ (pc + 1) lv (.int v :: st)) : V g L K own cc nL ret (wM g ad) inj z res σ pc lv (.ref (aMoA ad 12) :: st) := v_alen (q0 := 13) (t0 := 0) rfl rfl hv hd k
theorem lM_cells {i : Int32} (hd : decode cc pc = .ok (.iaload, 1)) (k : V g L K own cc nL ret (wM g ad) inj z res σ (pc + 1) lv (.int (mA σ 13 i.toNatClampNeg) :: st)) : V g L K own cc nL ret (wM g ad) inj z (grd i 160 res) σ pc lv (.int i :: .ref (aMoA ad 13) :: st) := v_iald (q0 := 14) rfl hd k
theorem sM_cells {i x : Int32} (hd : decode cc pc = .ok (.iastore, 1)) (k : V g L K own cc nL ret (wM g ad) inj z res (tA σ 13 i.toNatClampNeg x) (pc + 1) lv st) : V g L K own cc nL ret (wM g ad) inj z (grd i 160 res) σ pc lv (.int x :: .int i :: .ref (aMoA ad 13) :: st) := v_iast (q0 := 14) rfl rfl hd k
theorem nM_cells {v : Int32} (hv : Int32.ofNat 160 = v) (hd : decode cc pc = .ok (.arraylength, 1)) (k : V g L K own cc nL ret (wM g ad) inj z res σ (pc + 1) lv (.int v :: st)) : V g L K own cc nL ret (wM g ad) inj z res σ pc lv (.ref (aMoA ad 13) :: st) := v_alen (q0 := 14) (t0 := 0) rfl rfl hv hd k
theorem lM_law {i : Int32} (hd : decode cc pc = .ok (.iaload, 1)) (k : V g L K own cc nL ret (wM g ad) inj z res σ (pc + 1) lv (.int (mA σ 14 i.toNatClampNeg) :: st)) : V g L K own cc nL ret (wM g ad) inj z (grd i 60 res) σ pc lv (.int i :: .ref (aMoA ad 14) :: st) := v_iald (q0 := 15) rfl hd k
theorem sM_law {i x : Int32} (hd : decode cc pc = .ok (.iastore, 1)) (k : V g L K own cc nL ret (wM g ad) inj z res (tA σ 14 i.toNatClampNeg x) (pc + 1) lv st) : V g L K own cc nL ret (wM g ad) inj z (grd i 60 res) σ pc lv (.int x :: .int i :: .ref (aMoA ad 14) :: st) := v_iast (q0 := 15) rfl rfl hd k
theorem nM_law {v : Int32} (hv : Int32.ofNat 60 = v) (hd : decode cc pc = .ok (.arraylength, 1)) (k : V g L K own cc nL ret (wM g ad) inj z res σ (pc + 1) lv (.int v :: st)) : V g L K own cc nL ret (wM g ad) inj z res σ pc lv (.ref (aMoA ad 14) :: st) := v_alen (q0 := 15) (t0 := 0) rfl rfl hv hd k
theorem lM_words {i : Int32} (hd : decode cc pc = .ok (.iaload, 1)) (k : V g L K own cc nL ret (wM g ad) inj z res σ (pc + 1) lv (.int (mA σ 15 i.toNatClampNeg) :: st)) : V g L K own cc nL ret (wM g ad) inj z (grd i 96 res) σ pc lv (.int i :: .ref (aMoA ad 15) :: st) := v_iald (q0 := 16) rfl hd k
theorem sM_words {i x : Int32} (hd : decode cc pc = .ok (.iastore, 1)) (k : V g L K own cc nL ret (wM g ad) inj z res (tA σ 15 i.toNatClampNeg x) (pc + 1) lv st) : V g L K own cc nL ret (wM g ad) inj z (grd i 96 res) σ pc lv (.int x :: .int i :: .ref (aMoA ad 15) :: st) := v_iast (q0 := 16) rfl rfl hd k
theorem nM_words {v : Int32} (hv : Int32.ofNat 96 = v) (hd : decode cc pc = .ok (.arraylength, 1)) (k : V g L K own cc nL ret (wM g ad) inj z res σ (pc + 1) lv (.int v :: st)) : V g L K own cc nL ret (wM g ad) inj z res σ pc lv (.ref (aMoA ad 15) :: st) := v_alen (q0 := 16) (t0 := 0) rfl rfl hv hd k
theorem lM_held {i : Int32} (hd : decode cc pc = .ok (.iaload, 1)) (k : V g L K own cc nL ret (wM g ad) inj z res σ (pc + 1) lv (.int (mA σ 16 i.toNatClampNeg) :: st)) : V g L K own cc nL ret (wM g ad) inj z (grd i 200 res) σ pc lv (.int i :: .ref (aMoA ad 16) :: st) := v_iald (q0 := 17) rfl hd k
theorem sM_held {i x : Int32} (hd : decode cc pc = .ok (.iastore, 1)) (k : V g L K own cc nL ret (wM g ad) inj z res (tA σ 16 i.toNatClampNeg x) (pc + 1) lv st) : V g L K own cc nL ret (wM g ad) inj z (grd i 200 res) σ pc lv (.int x :: .int i :: .ref (aMoA ad 16) :: st) := v_iast (q0 := 17) rfl rfl hd k
theorem nM_held {v : Int32} (hv : Int32.ofNat 200 = v) (hd : decode cc pc = .ok (.arraylength, 1)) (k : V g L K own cc nL ret (wM g ad) inj z res σ (pc + 1) lv (.int v :: st)) : V g L K own cc nL ret (wM g ad) inj z res σ pc lv (.ref (aMoA ad 16) :: st) := v_alen (q0 := 17) (t0 := 0) rfl rfl hv hd k
theorem lM_stack {i : Int32} (hd : decode cc pc = .ok (.iaload, 1)) (k : V g L K own cc nL ret (wM g ad) inj z res σ (pc + 1) lv (.int (mA σ 17 i.toNatClampNeg) :: st)) : V g L K own cc nL ret (wM g ad) inj z (grd i 200 res) σ pc lv (.int i :: .ref (aMoA ad 17) :: st) := v_iald (q0 := 18) rfl hd k
theorem sM_stack {i x : Int32} (hd : decode cc pc = .ok (.iastore, 1)) (k : V g L K own cc nL ret (wM g ad) inj z res (tA σ 17 i.toNatClampNeg x) (pc + 1) lv st) : V g L K own cc nL ret (wM g ad) inj z (grd i 200 res) σ pc lv (.int x :: .int i :: .ref (aMoA ad 17) :: st) := v_iast (q0 := 18) rfl rfl hd k
theorem nM_stack {v : Int32} (hv : Int32.ofNat 200 = v) (hd : decode cc pc = .ok (.arraylength, 1)) (k : V g L K own cc nL ret (wM g ad) inj z res σ (pc + 1) lv (.int v :: st)) : V g L K own cc nL ret (wM g ad) inj z res σ pc lv (.ref (aMoA ad 17) :: st) := v_alen (q0 := 18) (t0 := 0) rfl rfl hv hd k
theorem lM_named {i : Int32} (hd : decode cc pc = .ok (.iaload, 1)) (k : V g L K own cc nL ret (wM g ad) inj z res σ (pc + 1) lv (.int (mA σ 18 i.toNatClampNeg) :: st)) : V g L K own cc nL ret (wM g ad) inj z (grd i 6 res) σ pc lv (.int i :: .ref (aMoA ad 18) :: st) := v_iald (q0 := 19) rfl hd k
theorem sM_named {i x : Int32} (hd : decode cc pc = .ok (.iastore, 1)) (k : V g L K own cc nL ret (wM g ad) inj z res (tA σ 18 i.toNatClampNeg x) (pc + 1) lv st) : V g L K own cc nL ret (wM g ad) inj z (grd i 6 res) σ pc lv (.int x :: .int i :: .ref (aMoA ad 18) :: st) := v_iast (q0 := 19) rfl rfl hd k
theorem nM_named {v : Int32} (hv : Int32.ofNat 6 = v) (hd : decode cc pc = .ok (.arraylength, 1)) (k : V g L K own cc nL ret (wM g ad) inj z res σ (pc + 1) lv (.int v :: st)) : V g L K own cc nL ret (wM g ad) inj z res σ pc lv (.ref (aMoA ad 18) :: st) := v_alen (q0 := 19) (t0 := 0) rfl rfl hv hd k
theorem lM_kept {i : Int32} (hd : decode cc pc = .ok (.iaload, 1)) (k : V g L K own cc nL ret (wM g ad) inj z res σ (pc + 1) lv (.int (mA σ 19 i.toNatClampNeg) :: st)) : V g L K own cc nL ret (wM g ad) inj z (grd i 50 res) σ pc lv (.int i :: .ref (aMoA ad 19) :: st) := v_iald (q0 := 20) rfl hd k
theorem sM_kept {i x : Int32} (hd : decode cc pc = .ok (.iastore, 1)) (k : V g L K own cc nL ret (wM g ad) inj z res (tA σ 19 i.toNatClampNeg x) (pc + 1) lv st) : V g L K own cc nL ret (wM g ad) inj z (grd i 50 res) σ pc lv (.int x :: .int i :: .ref (aMoA ad 19) :: st) := v_iast (q0 := 20) rfl rfl hd k
theorem nM_kept {v : Int32} (hv : Int32.ofNat 50 = v) (hd : decode cc pc = .ok (.arraylength, 1)) (k : V g L K own cc nL ret (wM g ad) inj z res σ (pc + 1) lv (.int v :: st)) : V g L K own cc nL ret (wM g ad) inj z res σ pc lv (.ref (aMoA ad 19) :: st) := v_alen (q0 := 20) (t0 := 0) rfl rfl hv hd k
theorem rcX5 : RC (wM g ad) σ (aMo ad) RX5 := ⟨0, 5, _, _, rfl, rfl, rfl⟩
end WROWSM
end
section
def FU : Nat := 1000
def JD : Nat := 60
theorem va_rf_cat (o : Option Nat) : (va_rf o).category = 1 := by cases o <;> rfl
def cpG {α : Type} (sp dp n : Int32) (n0 n1 : Nat) (r : Option α) : Option α := if (¬ sp < 0 ∧ ¬ dp < 0 ∧ ¬ n < 0) ∧ (sp.toNatClampNeg + n.toNatClampNeg ≤ n0 ∧ dp.toNatClampNeg + n.toNatClampNeg ≤ n1) then r else none
theorem cp_nat : Cond.native arraycopyName ∈ tb := tb_mem 527 (by decide +kernel) (by decide +kernel)
theorem cp_st : Cond.static arraycopyName ∈ tb := tb_mem 526 (by decide +kernel) (by decide +kernel)
theorem cp_ini : Cond.initialized "java/lang/System" ∈ tb := tb_mem 63 (by decide +kernel) (by decide +kernel)
theorem cp_words : nativeFrameWords "java/lang/System" "arraycopy" 5 + 11 ≤ 80 := by decide +kernel
section VMORE
variable {τ ρ α : Type} {g : Gt} {L : List Nat} {K : Nat} {own : String} {cc : ByteArray} {nL : Nat} {ret : Option FieldType} {wl : τ → va_W} {inj : ρ → Option Value} {z : Zt} {res r1 r2 : Option (ρ × τ)} {σ : τ} {pc ix : Nat} {lv lv' : List (Nat × Value)} {st rest : List Value}
theorem v_nmi {e : Int32} {kf : Int32 → Option (ρ × τ)} (h : ∀ x : Int32, V g L K own cc nL ret wl inj z (kf x) σ pc lv (.int x :: st)) : V g L K own cc nL ret wl inj z (bnd (some e) kf) σ pc lv (.int e :: st) := h e
theorem v_nml {e : Int64} {kf : Int64 → Option (ρ × τ)} (h : ∀ x : Int64, V g L K own cc nL ret wl inj z (kf x) σ pc lv (.long x :: st)) : V g L K own cc nL ret wl inj z (bnd (some e) kf) σ pc lv (.long e :: st) := h e
theorem v_nms {e : τ} {kf : τ → Option (ρ × τ)} (h : ∀ s : τ, V g L K own cc nL ret wl inj z (kf s) s pc lv st) : V g L K own cc nL ret wl inj z (bnd (some e) kf) e pc lv st := h e
theorem v_cret {x : Int32} (hd : decode cc pc = .ok (.ireturn, 1)) : V g L K own cc nL (some .char) wl iI z (if (x.toUInt32 % 65536).toInt32 = x then some (x, σ) else none) σ pc lv [.int x] := by
  refine v_case (fun h => v_nret (by show Value.int ((x.toUInt32 % 65536).toInt32) = .int x; rw [h]) hd) (fun _ => v_none)
theorem v_cpy {a0 a1 q0 q1 n0 n1 : Nat} {f1 f2 : Nat → Int32} {σ1 : τ} {sp dp n : Int32} (he0 : (wl σ)[q0]? = some (a0, .inl (g.2.1, n0, .inl f1))) (he1 : (wl σ)[q1]? = some (a1, .inl (g.2.1, n1, .inl f2))) (hset : (wl σ).set q1 (a1, .inl (g.2.1, n1, .inl (va_cpy f1 f2 sp.toNatClampNeg dp.toNatClampNeg n.toNatClampNeg))) = wl σ1) (hlink : Cond.methodLink own ix arraycopyName ∈ tb) (hK1 : 1 ≤ K) (hrest : (rest.map fun v => v.category).sum ≤ 8) (hd : decode cc pc = .ok (.invokestatic ix, 3)) (kk : V g L K own cc nL ret wl inj z res σ1 (pc + 3) lv rest) : V g L K own cc nL ret wl inj z (cpG sp dp n n0 n1 res) σ pc lv (.int n :: .int dp :: .ref a1 :: .int sp :: .ref a0 :: rest) := by
  unfold cpG
  refine v_case (fun h => ?_) (fun _ => v_none)
  obtain ⟨p, l, e, R, s, m, args, below, meth, c⟩ := z
  intro hF hW r σ' hr H locs ls hP hS hl
  obtain ⟨hx, hb, hml, hret, hlk, ho, hts, hK, hE, hnd, hR⟩ := id hF
  subst hR
  exact va_copyi hx hb (hml.trans hl.1.symm) ho (hts _ hlink) (hts _ cp_nat) (hts _ cp_st) (hts _ cp_ini) hK hP (va_D_wl hnd hW _ σ) hS q0 q1 0 0 he0 he1 rfl rfl rfl h.1.1 h.1.2.1 h.1.2.2 h.2.1 h.2.2 (fun _ _ => rfl) hK1 (by have := cp_words; show _ ≤ 100 * K; omega) hd (fun H1 locs1 hP1 _ hS1 => kk hF hW r σ' hr H1 locs1 ls (by rw [← hset]; exact hP1) hS1 hl)
theorem v_astore_nN {k0 : Fin 4} {i : Nat} (hd : decode cc pc = .ok (.astore_n k0, 1)) (hi : (k0 : Nat) = i) (hn : i < nL) (h : ls1 i .null lv = lv') (k : V g L K own cc nL ret wl inj z res σ (pc + 1) lv' st) : V g L K own cc nL ret wl inj z res σ pc lv (.null :: st) := by
  obtain ⟨p, l, e, R, s, m, args, below, meth, c⟩ := z
  intro hF hW r σ' hr H locs ls hP hS hl
  exact lv_astore_nN hF.1 hF.2.1 hd hi hl hn h (fun ls hl => k hF hW r σ' hr H locs ls hP hS hl)
theorem v_astoreN {i : Nat} (hd : decode cc pc = .ok (.astore i, 2)) (hn : i < nL) (h : ls1 i .null lv = lv') (k : V g L K own cc nL ret wl inj z res σ (pc + 2) lv' st) : V g L K own cc nL ret wl inj z res σ pc lv (.null :: st) := by
  obtain ⟨p, l, e, R, s, m, args, below, meth, c⟩ := z
  intro hF hW r σ' hr H locs ls hP hS hl
  exact lv_astoreN hF.1 hF.2.1 hd hl hn h (fun ls hl => k hF hW r σ' hr H locs ls hP hS hl)
theorem v_aloadN {i : Nat} (hd : decode cc pc = .ok (.aload i, 2)) (h : lk lv i = some .null) (k : V g L K own cc nL ret wl inj z res σ (pc + 2) lv (.null :: st)) : V g L K own cc nL ret wl inj z res σ pc lv st := by
  obtain ⟨p, l, e, R, s, m, args, below, meth, c⟩ := z
  intro hF hW r σ' hr H locs ls hP hS hl
  exact lv_aloadN hF.1 hF.2.1 hd (hl.2.2 _ (lk_mem h)) (k hF hW r σ' hr H locs ls hP hS hl)
variable {ρ2 : Type} {y : MethodName} {bytes : ByteArray} {maxL k n b : Nat} {ret2 : Option FieldType} {av As : List Value}
theorem v_callSi {f : τ → Option (Int32 × τ)} {kf : Int32 × τ → Option (ρ × τ)} (hc : CT g L y bytes maxL ret2 k av iI wl f) (mi : MS y bytes maxL ret2 n) (hlink : Cond.methodLink own ix y ∈ tb) (hk : k + 1 ≤ K) (hn : av.length = n) (hst : st = av.reverse ++ rest) (hrest : (rest.map fun v => v.category).sum ≤ 8) (hd : decode cc pc = .ok (.invokestatic ix, 3)) (kk : ∀ (q : Int32 × τ), V g L K own cc nL ret wl inj z (kf q) q.2 (pc + 3) lv (.int q.1 :: rest)) : V g L K own cc nL ret wl inj z (bnd (f σ) kf) σ pc lv st := v_callS hc mi hlink hk hn hst hrest hd kk
theorem v_callVi {f : τ → Option (Int32 × τ)} {kf : Int32 × τ → Option (ρ × τ)} (hrc : RC wl σ b y.cls) (hc : CT g L y bytes maxL ret2 k (.ref b :: As) iI wl f) (mi : MV y bytes maxL ret2 n) (hlink : Cond.methodLink own ix y ∈ tb) (hk : k + 1 ≤ K) (hn : As.length = n) (hst : st = As.reverse ++ .ref b :: rest) (hrest : (rest.map fun v => v.category).sum ≤ 8) (hd : decode cc pc = .ok (.invokevirtual ix, 3)) (kk : ∀ (q : Int32 × τ), V g L K own cc nL ret wl inj z (kf q) q.2 (pc + 3) lv (.int q.1 :: rest)) : V g L K own cc nL ret wl inj z (bnd (f σ) kf) σ pc lv st := v_callV hrc hc mi hlink hk hn hst hrest hd kk
theorem v_callTi {i : Nat} {f : τ → Option (Int32 × τ)} {kf : Int32 × τ → Option (ρ × τ)} (hi : i < 13) (hy : y.cls = RJ0) (hc : CT g L y bytes maxL ret2 k (.ref (g.2.2.2.2.2.2.1 i) :: As) iI wl f) (mi : MV y bytes maxL ret2 n) (hlink : Cond.methodLink own ix y ∈ tb) (hk : k + 1 ≤ K) (hn : As.length = n) (hst : st = As.reverse ++ .ref (g.2.2.2.2.2.2.1 i) :: rest) (hrest : (rest.map fun v => v.category).sum ≤ 8) (hd : decode cc pc = .ok (.invokevirtual ix, 3)) (kk : ∀ (q : Int32 × τ), V g L K own cc nL ret wl inj z (kf q) q.2 (pc + 3) lv (.int q.1 :: rest)) : V g L K own cc nL ret wl inj z (bnd (f σ) kf) σ pc lv st := v_callVr (fun H hP s hK locs hE hS => by rw [hy]; exact vk_recv hE.2.2.2.2.1 hi hS) hc mi hlink hk hn hst hrest hd kk
theorem v_callSl {f : τ → Option (Int64 × τ)} {kf : Int64 × τ → Option (ρ × τ)} (hc : CT g L y bytes maxL ret2 k av iL wl f) (mi : MS y bytes maxL ret2 n) (hlink : Cond.methodLink own ix y ∈ tb) (hk : k + 1 ≤ K) (hn : av.length = n) (hst : st = av.reverse ++ rest) (hrest : (rest.map fun v => v.category).sum ≤ 8) (hd : decode cc pc = .ok (.invokestatic ix, 3)) (kk : ∀ (q : Int64 × τ), V g L K own cc nL ret wl inj z (kf q) q.2 (pc + 3) lv (.long q.1 :: rest)) : V g L K own cc nL ret wl inj z (bnd (f σ) kf) σ pc lv st := v_callS hc mi hlink hk hn hst hrest hd kk
theorem v_callVl {f : τ → Option (Int64 × τ)} {kf : Int64 × τ → Option (ρ × τ)} (hrc : RC wl σ b y.cls) (hc : CT g L y bytes maxL ret2 k (.ref b :: As) iL wl f) (mi : MV y bytes maxL ret2 n) (hlink : Cond.methodLink own ix y ∈ tb) (hk : k + 1 ≤ K) (hn : As.length = n) (hst : st = As.reverse ++ .ref b :: rest) (hrest : (rest.map fun v => v.category).sum ≤ 8) (hd : decode cc pc = .ok (.invokevirtual ix, 3)) (kk : ∀ (q : Int64 × τ), V g L K own cc nL ret wl inj z (kf q) q.2 (pc + 3) lv (.long q.1 :: rest)) : V g L K own cc nL ret wl inj z (bnd (f σ) kf) σ pc lv st := v_callV hrc hc mi hlink hk hn hst hrest hd kk
theorem v_callTl {i : Nat} {f : τ → Option (Int64 × τ)} {kf : Int64 × τ → Option (ρ × τ)} (hi : i < 13) (hy : y.cls = RJ0) (hc : CT g L y bytes maxL ret2 k (.ref (g.2.2.2.2.2.2.1 i) :: As) iL wl f) (mi : MV y bytes maxL ret2 n) (hlink : Cond.methodLink own ix y ∈ tb) (hk : k + 1 ≤ K) (hn : As.length = n) (hst : st = As.reverse ++ .ref (g.2.2.2.2.2.2.1 i) :: rest) (hrest : (rest.map fun v => v.category).sum ≤ 8) (hd : decode cc pc = .ok (.invokevirtual ix, 3)) (kk : ∀ (q : Int64 × τ), V g L K own cc nL ret wl inj z (kf q) q.2 (pc + 3) lv (.long q.1 :: rest)) : V g L K own cc nL ret wl inj z (bnd (f σ) kf) σ pc lv st := v_callVr (fun H hP s hK locs hE hS => by rw [hy]; exact vk_recv hE.2.2.2.2.1 hi hS) hc mi hlink hk hn hst hrest hd kk
theorem v_callSv {f : τ → Option (Unit × τ)} {kf : Unit × τ → Option (ρ × τ)} (hc : CT g L y bytes maxL ret2 k av iU wl f) (mi : MS y bytes maxL ret2 n) (hlink : Cond.methodLink own ix y ∈ tb) (hk : k + 1 ≤ K) (hn : av.length = n) (hst : st = av.reverse ++ rest) (hrest : (rest.map fun v => v.category).sum ≤ 8) (hd : decode cc pc = .ok (.invokestatic ix, 3)) (kk : ∀ (q : Unit × τ), V g L K own cc nL ret wl inj z (kf q) q.2 (pc + 3) lv rest) : V g L K own cc nL ret wl inj z (bnd (f σ) kf) σ pc lv st := v_callS hc mi hlink hk hn hst hrest hd kk
theorem v_callVv {f : τ → Option (Unit × τ)} {kf : Unit × τ → Option (ρ × τ)} (hrc : RC wl σ b y.cls) (hc : CT g L y bytes maxL ret2 k (.ref b :: As) iU wl f) (mi : MV y bytes maxL ret2 n) (hlink : Cond.methodLink own ix y ∈ tb) (hk : k + 1 ≤ K) (hn : As.length = n) (hst : st = As.reverse ++ .ref b :: rest) (hrest : (rest.map fun v => v.category).sum ≤ 8) (hd : decode cc pc = .ok (.invokevirtual ix, 3)) (kk : ∀ (q : Unit × τ), V g L K own cc nL ret wl inj z (kf q) q.2 (pc + 3) lv rest) : V g L K own cc nL ret wl inj z (bnd (f σ) kf) σ pc lv st := v_callV hrc hc mi hlink hk hn hst hrest hd kk
theorem v_callTv {i : Nat} {f : τ → Option (Unit × τ)} {kf : Unit × τ → Option (ρ × τ)} (hi : i < 13) (hy : y.cls = RJ0) (hc : CT g L y bytes maxL ret2 k (.ref (g.2.2.2.2.2.2.1 i) :: As) iU wl f) (mi : MV y bytes maxL ret2 n) (hlink : Cond.methodLink own ix y ∈ tb) (hk : k + 1 ≤ K) (hn : As.length = n) (hst : st = As.reverse ++ .ref (g.2.2.2.2.2.2.1 i) :: rest) (hrest : (rest.map fun v => v.category).sum ≤ 8) (hd : decode cc pc = .ok (.invokevirtual ix, 3)) (kk : ∀ (q : Unit × τ), V g L K own cc nL ret wl inj z (kf q) q.2 (pc + 3) lv rest) : V g L K own cc nL ret wl inj z (bnd (f σ) kf) σ pc lv st := v_callVr (fun H hP s hK locs hE hS => by rw [hy]; exact vk_recv hE.2.2.2.2.1 hi hS) hc mi hlink hk hn hst hrest hd kk
theorem v_kab (hl0 : Cond.fieldLink own ix RX2 "KIND_ABOVE" "[I" ∈ tb) (hd : decode cc pc = .ok (.getstatic ix, 3)) (k : V g L K own cc nL ret wl inj z res σ (pc + 3) lv (.ref g.2.2.2.2.1 :: st)) : V g L K own cc nL ret wl inj z res σ pc lv st := by
  obtain ⟨p, l, e, R, s, m, args, below, meth, c⟩ := z
  intro hF hW r σ' hr H locs ls hP hS hl
  exact va_gets hF.1 hF.2.1 hF.2.2.2.2.2.2.2.2.1.1 hS hF.2.2.2.2.2.1 (hF.2.2.2.2.2.2.1 _ hl0) (fun _ h => h) hd (k hF hW r σ' hr H locs ls hP hS hl)
theorem v_cstr (hl0 : Cond.fieldLink own ix RJ0 "COMPACT_STRINGS" "Z" ∈ tb) (hd : decode cc pc = .ok (.getstatic ix, 3)) (k : V g L K own cc nL ret wl inj z res σ (pc + 3) lv (.int 1 :: st)) : V g L K own cc nL ret wl inj z res σ pc lv st := by
  obtain ⟨p, l, e, R, s, m, args, below, meth, c⟩ := z
  intro hF hW r σ' hr H locs ls hP hS hl
  exact va_gets hF.1 hF.2.1 hF.2.2.2.2.2.2.2.2.1.2.2.1 hS hF.2.2.2.2.2.1 (hF.2.2.2.2.2.2.1 _ hl0) (fun _ h => h) hd (k hF hW r σ' hr H locs ls hP hS hl)
theorem v_fmt (hl0 : Cond.fieldLink own ix RJ3 "SIOOBE_FORMATTER" "Ljava/util/function/BiFunction;" ∈ tb) (hd : decode cc pc = .ok (.getstatic ix, 3)) (k : V g L K own cc nL ret wl inj z res σ (pc + 3) lv (va_rf g.2.2.2.2.2.1 :: st)) : V g L K own cc nL ret wl inj z res σ pc lv st := by
  obtain ⟨p, l, e, R, s, m, args, below, meth, c⟩ := z
  intro hF hW r σ' hr H locs ls hP hS hl
  exact va_gets hF.1 hF.2.1 hF.2.2.2.2.2.2.2.2.1.2.2.2.1 hS hF.2.2.2.2.2.1 (hF.2.2.2.2.2.2.1 _ hl0) (fun _ h => h) hd (k hF hW r σ' hr H locs ls hP hS hl)
theorem v_kabn (hd : decode cc pc = .ok (.arraylength, 1)) (k : V g L K own cc nL ret wl inj z res σ (pc + 1) lv (.int 6 :: st)) : V g L K own cc nL ret wl inj z res σ pc lv (.ref g.2.2.2.2.1 :: st) := by
  obtain ⟨p, l, e, R, s, m, args, below, meth, c⟩ := z
  intro hF hW r σ' hr H locs ls hP hS hl
  exact va_tlen hF.1 hF.2.1 hF.2.2.2.2.2.2.2.2.1.2.1 hS rfl hd (k hF hW r σ' hr H locs ls hP hS hl)
theorem v_kabl {i : Int32} (hd : decode cc pc = .ok (.iaload, 1)) (k : V g L K own cc nL ret wl inj z res σ (pc + 1) lv (.int (kabF i.toNatClampNeg) :: st)) : V g L K own cc nL ret wl inj z (grd i 6 res) σ pc lv (.int i :: .ref g.2.2.2.2.1 :: st) := by
  unfold grd
  refine v_case (fun h => ?_) (fun _ => v_none)
  obtain ⟨p, l, e, R, s, m, args, below, meth, c⟩ := z
  intro hF hW r σ' hr H locs ls hP hS hl
  exact va_ti hF.1 hF.2.1 hF.2.2.2.2.2.2.2.2.1.2.1 hS h rfl hd (k hF hW r σ' hr H locs ls hP hS hl)
theorem v_ldcS {i : Nat} (hi : i < 13) (ho : ownJS.getD i ("", 0) = (own, ix)) (hd : decode cc pc = .ok (.ldc ix, 2)) (k : V g L K own cc nL ret wl inj z res σ (pc + 2) lv (.ref (g.2.2.2.2.2.2.1 i) :: st)) : V g L K own cc nL ret wl inj z res σ pc lv st := by
  obtain ⟨p, l, e, R, s, m, args, below, meth, c⟩ := z
  intro hF hW r σ' hr H locs ls hP hS hl
  have h := hF.2.2.2.2.2.2.2.2.1.2.2.2.2.2 i hi
  rw [ho] at h
  exact va_ldcS hF.1 hF.2.1 hF.2.2.2.2.2.1 h hd (k hF hW r σ' hr H locs ls hP hS hl)
theorem v_sval {i : Nat} (hi : i < 13) (hl0 : Cond.fieldLink own ix RJ0 "value" "[B" ∈ tb) (hd : decode cc pc = .ok (.getfield ix, 3)) (k : V g L K own cc nL ret wl inj z res σ (pc + 3) lv (.ref (g.2.2.2.2.2.2.2 i) :: st)) : V g L K own cc nL ret wl inj z res σ pc lv (.ref (g.2.2.2.2.2.2.1 i) :: st) := by
  obtain ⟨p, l, e, R, s, m, args, below, meth, c⟩ := z
  intro hF hW r σ' hr H locs ls hP hS hl
  exact vk_getf hF.1 hF.2.1 (hF.2.2.2.2.2.2.2.2.1.2.2.2.2.1.1 i hi).2.2.1 hS hF.2.2.2.2.2.1 (hF.2.2.2.2.2.2.1 _ hl0) (fun _ h => h) hd (k hF hW r σ' hr H locs ls hP hS hl)
theorem v_scod {i : Nat} (hi : i < 13) (hl0 : Cond.fieldLink own ix RJ0 "coder" "B" ∈ tb) (hd : decode cc pc = .ok (.getfield ix, 3)) (k : V g L K own cc nL ret wl inj z res σ (pc + 3) lv (.int 0 :: st)) : V g L K own cc nL ret wl inj z res σ pc lv (.ref (g.2.2.2.2.2.2.1 i) :: st) := by
  obtain ⟨p, l, e, R, s, m, args, below, meth, c⟩ := z
  intro hF hW r σ' hr H locs ls hP hS hl
  exact vk_getf hF.1 hF.2.1 (hF.2.2.2.2.2.2.2.2.1.2.2.2.2.1.1 i hi).2.1 hS hF.2.2.2.2.2.1 (hF.2.2.2.2.2.2.1 _ hl0) (fun _ h => h) hd (k hF hW r σ' hr H locs ls hP hS hl)
theorem v_svn {i : Nat} (hi : i < 13) (hd : decode cc pc = .ok (.arraylength, 1)) (k : V g L K own cc nL ret wl inj z res σ (pc + 1) lv (.int (nI (lenJS.getD i 0)) :: st)) : V g L K own cc nL ret wl inj z res σ pc lv (.ref (g.2.2.2.2.2.2.2 i) :: st) := by
  obtain ⟨p, l, e, R, s, m, args, below, meth, c⟩ := z
  intro hF hW r σ' hr H locs ls hP hS hl
  exact va_tlen hF.1 hF.2.1 (hF.2.2.2.2.2.2.2.2.1.2.2.2.2.1.1 i hi).2.2.2 hS rfl hd (k hF hW r σ' hr H locs ls hP hS hl)
theorem v_svl {i : Nat} {x : Int32} (hi : i < 13) (hd : decode cc pc = .ok (.baload, 1)) (k : V g L K own cc nL ret wl inj z res σ (pc + 1) lv (.int ((bytJS.getD i []).getD x.toNatClampNeg 0) :: st)) : V g L K own cc nL ret wl inj z (grd x (lenJS.getD i 0) res) σ pc lv (.int x :: .ref (g.2.2.2.2.2.2.2 i) :: st) := by
  unfold grd
  refine v_case (fun h => ?_) (fun _ => v_none)
  obtain ⟨p, l, e, R, s, m, args, below, meth, c⟩ := z
  intro hF hW r σ' hr H locs ls hP hS hl
  exact va_tb hF.1 hF.2.1 (hF.2.2.2.2.2.2.2.2.1.2.2.2.2.1.1 i hi).2.2.2 hS h rfl hd (k hF hW r σ' hr H locs ls hP hS hl)
end VMORE
section VCPX
variable {ρ : Type} {g : Gt} {ad : Nat → Nat} {L : List Nat} {K : Nat} {own : String} {cc : ByteArray} {nL : Nat} {ret : Option FieldType} {inj : ρ → Option Value} {z : Zt} {res : Option (ρ × GX)} {σ : GX} {pc ix : Nat} {lv : List (Nat × Value)} {rest : List Value}
theorem v_cpy_sea0 {y1 y : Nat} (h1 : y1 < 3) (h0 : y < 3) {sp dp n : Int32} (hlink : Cond.methodLink own ix arraycopyName ∈ tb) (hK1 : 1 ≤ K) (hrest : (rest.map fun v => v.category).sum ≤ 8) (hd : decode cc pc = .ok (.invokestatic ix, 3)) (kk : V g L K own cc nL ret (wX g ad) inj z res (cB σ y1 0 y 0 sp.toNatClampNeg dp.toNatClampNeg n.toNatClampNeg) (pc + 3) lv rest) : V g L K own cc nL ret (wX g ad) inj z (cpG sp dp n 36 36 res) σ pc lv (.int n :: .int dp :: .ref (aSeaA ad y 0) :: .int sp :: .ref (aSeaA ad y1 0) :: rest) := by
  match y1, y, h1, h0 with
  | 0, 0, _, _ => exact v_cpy (q0 := 30) (q1 := 30) rfl rfl rfl hlink hK1 hrest hd kk
  | 0, 1, _, _ => exact v_cpy (q0 := 30) (q1 := 36) rfl rfl rfl hlink hK1 hrest hd kk
  | 0, 2, _, _ => exact v_cpy (q0 := 30) (q1 := 42) rfl rfl rfl hlink hK1 hrest hd kk
  | 1, 0, _, _ => exact v_cpy (q0 := 36) (q1 := 30) rfl rfl rfl hlink hK1 hrest hd kk
  | 1, 1, _, _ => exact v_cpy (q0 := 36) (q1 := 36) rfl rfl rfl hlink hK1 hrest hd kk
  | 1, 2, _, _ => exact v_cpy (q0 := 36) (q1 := 42) rfl rfl rfl hlink hK1 hrest hd kk
  | 2, 0, _, _ => exact v_cpy (q0 := 42) (q1 := 30) rfl rfl rfl hlink hK1 hrest hd kk
  | 2, 1, _, _ => exact v_cpy (q0 := 42) (q1 := 36) rfl rfl rfl hlink hK1 hrest hd kk
  | 2, 2, _, _ => exact v_cpy (q0 := 42) (q1 := 42) rfl rfl rfl hlink hK1 hrest hd kk
theorem v_cpy_sea1 {y1 y : Nat} (h1 : y1 < 3) (h0 : y < 3) {sp dp n : Int32} (hlink : Cond.methodLink own ix arraycopyName ∈ tb) (hK1 : 1 ≤ K) (hrest : (rest.map fun v => v.category).sum ≤ 8) (hd : decode cc pc = .ok (.invokestatic ix, 3)) (kk : V g L K own cc nL ret (wX g ad) inj z res (cB σ y1 1 y 1 sp.toNatClampNeg dp.toNatClampNeg n.toNatClampNeg) (pc + 3) lv rest) : V g L K own cc nL ret (wX g ad) inj z (cpG sp dp n 6 6 res) σ pc lv (.int n :: .int dp :: .ref (aSeaA ad y 1) :: .int sp :: .ref (aSeaA ad y1 1) :: rest) := by
  match y1, y, h1, h0 with
  | 0, 0, _, _ => exact v_cpy (q0 := 31) (q1 := 31) rfl rfl rfl hlink hK1 hrest hd kk
  | 0, 1, _, _ => exact v_cpy (q0 := 31) (q1 := 37) rfl rfl rfl hlink hK1 hrest hd kk
  | 0, 2, _, _ => exact v_cpy (q0 := 31) (q1 := 43) rfl rfl rfl hlink hK1 hrest hd kk
  | 1, 0, _, _ => exact v_cpy (q0 := 37) (q1 := 31) rfl rfl rfl hlink hK1 hrest hd kk
  | 1, 1, _, _ => exact v_cpy (q0 := 37) (q1 := 37) rfl rfl rfl hlink hK1 hrest hd kk
  | 1, 2, _, _ => exact v_cpy (q0 := 37) (q1 := 43) rfl rfl rfl hlink hK1 hrest hd kk
  | 2, 0, _, _ => exact v_cpy (q0 := 43) (q1 := 31) rfl rfl rfl hlink hK1 hrest hd kk
  | 2, 1, _, _ => exact v_cpy (q0 := 43) (q1 := 37) rfl rfl rfl hlink hK1 hrest hd kk
  | 2, 2, _, _ => exact v_cpy (q0 := 43) (q1 := 43) rfl rfl rfl hlink hK1 hrest hd kk
theorem v_cpy_sea2 {y1 y : Nat} (h1 : y1 < 3) (h0 : y < 3) {sp dp n : Int32} (hlink : Cond.methodLink own ix arraycopyName ∈ tb) (hK1 : 1 ≤ K) (hrest : (rest.map fun v => v.category).sum ≤ 8) (hd : decode cc pc = .ok (.invokestatic ix, 3)) (kk : V g L K own cc nL ret (wX g ad) inj z res (cB σ y1 2 y 2 sp.toNatClampNeg dp.toNatClampNeg n.toNatClampNeg) (pc + 3) lv rest) : V g L K own cc nL ret (wX g ad) inj z (cpG sp dp n 6 6 res) σ pc lv (.int n :: .int dp :: .ref (aSeaA ad y 2) :: .int sp :: .ref (aSeaA ad y1 2) :: rest) := by
  match y1, y, h1, h0 with
  | 0, 0, _, _ => exact v_cpy (q0 := 32) (q1 := 32) rfl rfl rfl hlink hK1 hrest hd kk
  | 0, 1, _, _ => exact v_cpy (q0 := 32) (q1 := 38) rfl rfl rfl hlink hK1 hrest hd kk
  | 0, 2, _, _ => exact v_cpy (q0 := 32) (q1 := 44) rfl rfl rfl hlink hK1 hrest hd kk
  | 1, 0, _, _ => exact v_cpy (q0 := 38) (q1 := 32) rfl rfl rfl hlink hK1 hrest hd kk
  | 1, 1, _, _ => exact v_cpy (q0 := 38) (q1 := 38) rfl rfl rfl hlink hK1 hrest hd kk
  | 1, 2, _, _ => exact v_cpy (q0 := 38) (q1 := 44) rfl rfl rfl hlink hK1 hrest hd kk
  | 2, 0, _, _ => exact v_cpy (q0 := 44) (q1 := 32) rfl rfl rfl hlink hK1 hrest hd kk
  | 2, 1, _, _ => exact v_cpy (q0 := 44) (q1 := 38) rfl rfl rfl hlink hK1 hrest hd kk
  | 2, 2, _, _ => exact v_cpy (q0 := 44) (q1 := 44) rfl rfl rfl hlink hK1 hrest hd kk
theorem v_cpy_sea3 {y1 y : Nat} (h1 : y1 < 3) (h0 : y < 3) {sp dp n : Int32} (hlink : Cond.methodLink own ix arraycopyName ∈ tb) (hK1 : 1 ≤ K) (hrest : (rest.map fun v => v.category).sum ≤ 8) (hd : decode cc pc = .ok (.invokestatic ix, 3)) (kk : V g L K own cc nL ret (wX g ad) inj z res (cB σ y1 3 y 3 sp.toNatClampNeg dp.toNatClampNeg n.toNatClampNeg) (pc + 3) lv rest) : V g L K own cc nL ret (wX g ad) inj z (cpG sp dp n 6 6 res) σ pc lv (.int n :: .int dp :: .ref (aSeaA ad y 3) :: .int sp :: .ref (aSeaA ad y1 3) :: rest) := by
  match y1, y, h1, h0 with
  | 0, 0, _, _ => exact v_cpy (q0 := 33) (q1 := 33) rfl rfl rfl hlink hK1 hrest hd kk
  | 0, 1, _, _ => exact v_cpy (q0 := 33) (q1 := 39) rfl rfl rfl hlink hK1 hrest hd kk
  | 0, 2, _, _ => exact v_cpy (q0 := 33) (q1 := 45) rfl rfl rfl hlink hK1 hrest hd kk
  | 1, 0, _, _ => exact v_cpy (q0 := 39) (q1 := 33) rfl rfl rfl hlink hK1 hrest hd kk
  | 1, 1, _, _ => exact v_cpy (q0 := 39) (q1 := 39) rfl rfl rfl hlink hK1 hrest hd kk
  | 1, 2, _, _ => exact v_cpy (q0 := 39) (q1 := 45) rfl rfl rfl hlink hK1 hrest hd kk
  | 2, 0, _, _ => exact v_cpy (q0 := 45) (q1 := 33) rfl rfl rfl hlink hK1 hrest hd kk
  | 2, 1, _, _ => exact v_cpy (q0 := 45) (q1 := 39) rfl rfl rfl hlink hK1 hrest hd kk
  | 2, 2, _, _ => exact v_cpy (q0 := 45) (q1 := 45) rfl rfl rfl hlink hK1 hrest hd kk
theorem v_cpy_sea4 {y1 y : Nat} (h1 : y1 < 3) (h0 : y < 3) {sp dp n : Int32} (hlink : Cond.methodLink own ix arraycopyName ∈ tb) (hK1 : 1 ≤ K) (hrest : (rest.map fun v => v.category).sum ≤ 8) (hd : decode cc pc = .ok (.invokestatic ix, 3)) (kk : V g L K own cc nL ret (wX g ad) inj z res (cB σ y1 4 y 4 sp.toNatClampNeg dp.toNatClampNeg n.toNatClampNeg) (pc + 3) lv rest) : V g L K own cc nL ret (wX g ad) inj z (cpG sp dp n 6 6 res) σ pc lv (.int n :: .int dp :: .ref (aSeaA ad y 4) :: .int sp :: .ref (aSeaA ad y1 4) :: rest) := by
  match y1, y, h1, h0 with
  | 0, 0, _, _ => exact v_cpy (q0 := 34) (q1 := 34) rfl rfl rfl hlink hK1 hrest hd kk
  | 0, 1, _, _ => exact v_cpy (q0 := 34) (q1 := 40) rfl rfl rfl hlink hK1 hrest hd kk
  | 0, 2, _, _ => exact v_cpy (q0 := 34) (q1 := 46) rfl rfl rfl hlink hK1 hrest hd kk
  | 1, 0, _, _ => exact v_cpy (q0 := 40) (q1 := 34) rfl rfl rfl hlink hK1 hrest hd kk
  | 1, 1, _, _ => exact v_cpy (q0 := 40) (q1 := 40) rfl rfl rfl hlink hK1 hrest hd kk
  | 1, 2, _, _ => exact v_cpy (q0 := 40) (q1 := 46) rfl rfl rfl hlink hK1 hrest hd kk
  | 2, 0, _, _ => exact v_cpy (q0 := 46) (q1 := 34) rfl rfl rfl hlink hK1 hrest hd kk
  | 2, 1, _, _ => exact v_cpy (q0 := 46) (q1 := 40) rfl rfl rfl hlink hK1 hrest hd kk
  | 2, 2, _, _ => exact v_cpy (q0 := 46) (q1 := 46) rfl rfl rfl hlink hK1 hrest hd kk
theorem v_cpy_nums {q1 q : Nat} (h1 : q1 < 4) (h0 : q < 4) {sp dp n : Int32} (hlink : Cond.methodLink own ix arraycopyName ∈ tb) (hK1 : 1 ≤ K) (hrest : (rest.map fun v => v.category).sum ≤ 8) (hd : decode cc pc = .ok (.invokestatic ix, 3)) (kk : V g L K own cc nL ret (wX g ad) inj z res (cN σ q1 q sp.toNatClampNeg dp.toNatClampNeg n.toNatClampNeg) (pc + 3) lv rest) : V g L K own cc nL ret (wX g ad) inj z (cpG sp dp n 40 40 res) σ pc lv (.int n :: .int dp :: .ref (aNums ad q) :: .int sp :: .ref (aNums ad q1) :: rest) := by
  match q1, q, h1, h0 with
  | 0, 0, _, _ => exact v_cpy (q0 := 48) (q1 := 48) rfl rfl rfl hlink hK1 hrest hd kk
  | 0, 1, _, _ => exact v_cpy (q0 := 48) (q1 := 50) rfl rfl rfl hlink hK1 hrest hd kk
  | 0, 2, _, _ => exact v_cpy (q0 := 48) (q1 := 52) rfl rfl rfl hlink hK1 hrest hd kk
  | 0, 3, _, _ => exact v_cpy (q0 := 48) (q1 := 54) rfl rfl rfl hlink hK1 hrest hd kk
  | 1, 0, _, _ => exact v_cpy (q0 := 50) (q1 := 48) rfl rfl rfl hlink hK1 hrest hd kk
  | 1, 1, _, _ => exact v_cpy (q0 := 50) (q1 := 50) rfl rfl rfl hlink hK1 hrest hd kk
  | 1, 2, _, _ => exact v_cpy (q0 := 50) (q1 := 52) rfl rfl rfl hlink hK1 hrest hd kk
  | 1, 3, _, _ => exact v_cpy (q0 := 50) (q1 := 54) rfl rfl rfl hlink hK1 hrest hd kk
  | 2, 0, _, _ => exact v_cpy (q0 := 52) (q1 := 48) rfl rfl rfl hlink hK1 hrest hd kk
  | 2, 1, _, _ => exact v_cpy (q0 := 52) (q1 := 50) rfl rfl rfl hlink hK1 hrest hd kk
  | 2, 2, _, _ => exact v_cpy (q0 := 52) (q1 := 52) rfl rfl rfl hlink hK1 hrest hd kk
  | 2, 3, _, _ => exact v_cpy (q0 := 52) (q1 := 54) rfl rfl rfl hlink hK1 hrest hd kk
  | 3, 0, _, _ => exact v_cpy (q0 := 54) (q1 := 48) rfl rfl rfl hlink hK1 hrest hd kk
  | 3, 1, _, _ => exact v_cpy (q0 := 54) (q1 := 50) rfl rfl rfl hlink hK1 hrest hd kk
  | 3, 2, _, _ => exact v_cpy (q0 := 54) (q1 := 52) rfl rfl rfl hlink hK1 hrest hd kk
  | 3, 3, _, _ => exact v_cpy (q0 := 54) (q1 := 54) rfl rfl rfl hlink hK1 hrest hd kk
end VCPX
end
section
theorem q_0 : Cond.selects RX1 yX1_advance yX1_advance ∈ tb := tb_mem 0 (by decide +kernel) (by decide +kernel)
theorem q_1 : Cond.selects RX1 yX1_word yX1_word ∈ tb := tb_mem 1 (by decide +kernel) (by decide +kernel)
theorem q_2 : Cond.selects RX1 yX1_spells yX1_spells ∈ tb := tb_mem 2 (by decide +kernel) (by decide +kernel)
theorem q_3 : Cond.selects RX1 yX1_number yX1_number ∈ tb := tb_mem 3 (by decide +kernel) (by decide +kernel)
theorem q_4 : Cond.selects RX1 yX1_expect yX1_expect ∈ tb := tb_mem 4 (by decide +kernel) (by decide +kernel)
theorem q_5 : Cond.selects RX1 yX1_fail yX1_fail ∈ tb := tb_mem 5 (by decide +kernel) (by decide +kernel)
theorem q_6 : Cond.selects RX1 yX1_joined yX1_joined ∈ tb := tb_mem 6 (by decide +kernel) (by decide +kernel)
theorem q_7 : Cond.selects RX1 yX1_one yX1_one ∈ tb := tb_mem 7 (by decide +kernel) (by decide +kernel)
theorem q_8 : Cond.selects RX1 yX1_mayOpen yX1_mayOpen ∈ tb := tb_mem 8 (by decide +kernel) (by decide +kernel)
theorem q_9 : Cond.selects RX4 yX4_isShip yX4_isShip ∈ tb := tb_mem 9 (by decide +kernel) (by decide +kernel)
theorem q_10 : Cond.selects RX2 yX2_lose yX2_lose ∈ tb := tb_mem 10 (by decide +kernel) (by decide +kernel)
theorem q_11 : Cond.selects RX4 yX4_think yX4_think ∈ tb := tb_mem 11 (by decide +kernel) (by decide +kernel)
theorem q_12 : Cond.selects RX4 yX4_refusalToJudge yX4_refusalToJudge ∈ tb := tb_mem 12 (by decide +kernel) (by decide +kernel)
theorem q_13 : Cond.selects RX4 yX4_refusalOfTold yX4_refusalOfTold ∈ tb := tb_mem 13 (by decide +kernel) (by decide +kernel)
theorem q_14 : Cond.selects RX4 yX4_firstOtherwise yX4_firstOtherwise ∈ tb := tb_mem 14 (by decide +kernel) (by decide +kernel)
theorem q_15 : Cond.selects RX4 yX4_lossesByTale yX4_lossesByTale ∈ tb := tb_mem 15 (by decide +kernel) (by decide +kernel)
theorem q_16 : Cond.selects RX5 yX5_next yX5_next ∈ tb := tb_mem 16 (by decide +kernel) (by decide +kernel)
theorem q_17 : Cond.selects RX5 yX5_wordFrom yX5_wordFrom ∈ tb := tb_mem 17 (by decide +kernel) (by decide +kernel)
theorem q_18 : Cond.selects RX5 yX5_eRead yX5_eRead ∈ tb := tb_mem 18 (by decide +kernel) (by decide +kernel)
theorem q_19 : Cond.selects RX5 yX5_puts yX5_puts ∈ tb := tb_mem 19 (by decide +kernel) (by decide +kernel)
theorem q_20 : Cond.selects RX5 yX5_unwinds yX5_unwinds ∈ tb := tb_mem 20 (by decide +kernel) (by decide +kernel)
theorem q_21 : Cond.selects RX5 yX5_opensOne yX5_opensOne ∈ tb := tb_mem 21 (by decide +kernel) (by decide +kernel)
theorem q_22 : Cond.selects RX5 yX5_holds yX5_holds ∈ tb := tb_mem 22 (by decide +kernel) (by decide +kernel)
theorem q_23 : Cond.selects RX5 yX5_signOf yX5_signOf ∈ tb := tb_mem 23 (by decide +kernel) (by decide +kernel)
theorem q_24 : Cond.selects RX5 yX5_between yX5_between ∈ tb := tb_mem 24 (by decide +kernel) (by decide +kernel)
theorem q_25 : Cond.selects RX5 yX5_afloat yX5_afloat ∈ tb := tb_mem 25 (by decide +kernel) (by decide +kernel)
theorem q_26 : Cond.selects RX5 yX5_rockMany yX5_rockMany ∈ tb := tb_mem 26 (by decide +kernel) (by decide +kernel)
theorem q_27 : Cond.selects RX5 yX5_hasRock yX5_hasRock ∈ tb := tb_mem 27 (by decide +kernel) (by decide +kernel)
theorem q_28 : Cond.selects RX5 yX5_isToldOf yX5_isToldOf ∈ tb := tb_mem 28 (by decide +kernel) (by decide +kernel)
theorem q_29 : Cond.selects RX5 yX5_isShip yX5_isShip ∈ tb := tb_mem 29 (by decide +kernel) (by decide +kernel)
theorem q_30 : Cond.selects RX5 yX5_asksOf yX5_asksOf ∈ tb := tb_mem 30 (by decide +kernel) (by decide +kernel)
theorem q_31 : Cond.selects RX5 yX5_says yX5_says ∈ tb := tb_mem 31 (by decide +kernel) (by decide +kernel)
theorem q_32 : Cond.selects RX5 yX5_goesTo yX5_goesTo ∈ tb := tb_mem 32 (by decide +kernel) (by decide +kernel)
theorem q_33 : Cond.selects RX5 yX5_likesOf yX5_likesOf ∈ tb := tb_mem 33 (by decide +kernel) (by decide +kernel)
theorem q_34 : Cond.selects RX5 yX5_doesSink yX5_doesSink ∈ tb := tb_mem 34 (by decide +kernel) (by decide +kernel)
theorem q_35 : Cond.selects RX5 yX5_nightOf yX5_nightOf ∈ tb := tb_mem 35 (by decide +kernel) (by decide +kernel)
theorem q_36 : Cond.selects RX5 yX5_sails yX5_sails ∈ tb := tb_mem 36 (by decide +kernel) (by decide +kernel)
theorem q_37 : Cond.selects RX5 yX5_teachesOf yX5_teachesOf ∈ tb := tb_mem 37 (by decide +kernel) (by decide +kernel)
theorem q_38 : Cond.selects RX5 yX5_keeps yX5_keeps ∈ tb := tb_mem 38 (by decide +kernel) (by decide +kernel)
theorem q_39 : Cond.selects RX5 yX5_goes yX5_goes ∈ tb := tb_mem 39 (by decide +kernel) (by decide +kernel)
theorem q_40 : Cond.selects RX5 yX5_toldBehind yX5_toldBehind ∈ tb := tb_mem 40 (by decide +kernel) (by decide +kernel)
theorem q_41 : Cond.selects RX5 yX5_beliefAll yX5_beliefAll ∈ tb := tb_mem 41 (by decide +kernel) (by decide +kernel)
theorem q_42 : Cond.selects RX5 yX5_lays yX5_lays ∈ tb := tb_mem 42 (by decide +kernel) (by decide +kernel)
theorem q_43 : Cond.selects RX5 yX5_brightest yX5_brightest ∈ tb := tb_mem 43 (by decide +kernel) (by decide +kernel)
theorem q_44 : Cond.selects RX5 yX5_lostNow yX5_lostNow ∈ tb := tb_mem 44 (by decide +kernel) (by decide +kernel)
theorem q_45 : Cond.selects RX5 yX5_toldWrong yX5_toldWrong ∈ tb := tb_mem 45 (by decide +kernel) (by decide +kernel)
theorem q_46 : Cond.selects RX5 yX5_sheetWrong yX5_sheetWrong ∈ tb := tb_mem 46 (by decide +kernel) (by decide +kernel)
theorem q_47 : Cond.selects RX5 yX5_unlike yX5_unlike ∈ tb := tb_mem 47 (by decide +kernel) (by decide +kernel)
theorem q_48 : Cond.selects RX5 yX5_tales yX5_tales ∈ tb := tb_mem 48 (by decide +kernel) (by decide +kernel)
theorem q_50 : Cond.initialized RX4 ∈ tb := tb_mem 50 (by decide +kernel) (by decide +kernel)
theorem q_51 : Cond.initialized RX1 ∈ tb := tb_mem 51 (by decide +kernel) (by decide +kernel)
theorem q_52 : Cond.initialized RX0 ∈ tb := tb_mem 52 (by decide +kernel) (by decide +kernel)
theorem q_53 : Cond.initialized RX3 ∈ tb := tb_mem 53 (by decide +kernel) (by decide +kernel)
theorem q_54 : Cond.initialized RX2 ∈ tb := tb_mem 54 (by decide +kernel) (by decide +kernel)
theorem q_55 : Cond.initialized RJ0 ∈ tb := tb_mem 55 (by decide +kernel) (by decide +kernel)
theorem q_56 : Cond.initialized RJ1 ∈ tb := tb_mem 56 (by decide +kernel) (by decide +kernel)
theorem q_57 : Cond.initialized RJ3 ∈ tb := tb_mem 57 (by decide +kernel) (by decide +kernel)
theorem q_59 : Cond.initialized RX5 ∈ tb := tb_mem 59 (by decide +kernel) (by decide +kernel)
theorem q_60 : Cond.initialized RJ6 ∈ tb := tb_mem 60 (by decide +kernel) (by decide +kernel)
theorem q_61 : Cond.initialized RJ13 ∈ tb := tb_mem 61 (by decide +kernel) (by decide +kernel)
theorem q_62 : Cond.initialized "java/lang/Math" ∈ tb := tb_mem 62 (by decide +kernel) (by decide +kernel)
theorem q_82 : Cond.fieldLink RX1 9 RX1 "tape" "[I" ∈ tb := tb_mem 82 (by decide +kernel) (by decide +kernel)
theorem q_83 : Cond.fieldLink RX1 15 RX1 "size" "I" ∈ tb := tb_mem 83 (by decide +kernel) (by decide +kernel)
theorem q_84 : Cond.fieldLink RX1 23 RX1 "at" "I" ∈ tb := tb_mem 84 (by decide +kernel) (by decide +kernel)
theorem q_85 : Cond.fieldLink RX1 51 RX1 "token" "I" ∈ tb := tb_mem 85 (by decide +kernel) (by decide +kernel)
theorem q_86 : Cond.fieldLink RX1 48 RX1 "place" "I" ∈ tb := tb_mem 86 (by decide +kernel) (by decide +kernel)
theorem q_87 : Cond.fieldLink RX1 26 RX1 "fault" "I" ∈ tb := tb_mem 87 (by decide +kernel) (by decide +kernel)
theorem q_88 : Cond.fieldLink RX1 19 RX1 "law" "LLighthouseLiedTo$Law;" ∈ tb := tb_mem 88 (by decide +kernel) (by decide +kernel)
theorem q_110 : Cond.fieldLink RX0 9 RX0 "steps" "[I" ∈ tb := tb_mem 110 (by decide +kernel) (by decide +kernel)
theorem q_111 : Cond.fieldLink RX0 15 RX0 "stack" "[I" ∈ tb := tb_mem 111 (by decide +kernel) (by decide +kernel)
theorem q_112 : Cond.fieldLink RX0 18 RX0 "ends" "[I" ∈ tb := tb_mem 112 (by decide +kernel) (by decide +kernel)
theorem q_113 : Cond.fieldLink RX0 21 RX0 "size" "I" ∈ tb := tb_mem 113 (by decide +kernel) (by decide +kernel)
theorem q_128 : Cond.fieldLink RX3 9 RX3 "numbers" "[I" ∈ tb := tb_mem 128 (by decide +kernel) (by decide +kernel)
theorem q_129 : Cond.fieldLink RX4 231 RX3 "numbers" "[I" ∈ tb := tb_mem 129 (by decide +kernel) (by decide +kernel)
theorem q_130 : Cond.fieldLink RX3 15 RX3 "sort" "I" ∈ tb := tb_mem 130 (by decide +kernel) (by decide +kernel)
theorem q_131 : Cond.fieldLink RX4 221 RX3 "sort" "I" ∈ tb := tb_mem 131 (by decide +kernel) (by decide +kernel)
theorem q_132 : Cond.fieldLink RX3 19 RX3 "size" "I" ∈ tb := tb_mem 132 (by decide +kernel) (by decide +kernel)
theorem q_133 : Cond.fieldLink RX4 246 RX3 "size" "I" ∈ tb := tb_mem 133 (by decide +kernel) (by decide +kernel)
theorem q_147 : Cond.fieldLink RX2 27 RX2 "texts" "[LLighthouseLiedTo$Law;" ∈ tb := tb_mem 147 (by decide +kernel) (by decide +kernel)
theorem q_148 : Cond.fieldLink RX2 9 RX2 "belief" "[I" ∈ tb := tb_mem 148 (by decide +kernel) (by decide +kernel)
theorem q_149 : Cond.fieldLink RX4 119 RX2 "belief" "[I" ∈ tb := tb_mem 149 (by decide +kernel) (by decide +kernel)
theorem q_150 : Cond.fieldLink RX0 33 RX2 "belief" "[I" ∈ tb := tb_mem 150 (by decide +kernel) (by decide +kernel)
theorem q_151 : Cond.fieldLink RX2 15 RX2 "kind" "[I" ∈ tb := tb_mem 151 (by decide +kernel) (by decide +kernel)
theorem q_152 : Cond.fieldLink RX4 142 RX2 "kind" "[I" ∈ tb := tb_mem 152 (by decide +kernel) (by decide +kernel)
theorem q_153 : Cond.fieldLink RX2 18 RX2 "more" "[I" ∈ tb := tb_mem 153 (by decide +kernel) (by decide +kernel)
theorem q_154 : Cond.fieldLink RX4 145 RX2 "more" "[I" ∈ tb := tb_mem 154 (by decide +kernel) (by decide +kernel)
theorem q_155 : Cond.fieldLink RX2 21 RX2 "cell" "[I" ∈ tb := tb_mem 155 (by decide +kernel) (by decide +kernel)
theorem q_156 : Cond.fieldLink RX4 139 RX2 "cell" "[I" ∈ tb := tb_mem 156 (by decide +kernel) (by decide +kernel)
theorem q_157 : Cond.fieldLink RX2 24 RX2 "draught" "[I" ∈ tb := tb_mem 157 (by decide +kernel) (by decide +kernel)
theorem q_158 : Cond.fieldLink RX4 128 RX2 "draught" "[I" ∈ tb := tb_mem 158 (by decide +kernel) (by decide +kernel)
theorem q_159 : Cond.fieldLink RX2 37 RX2 "rocks" "J" ∈ tb := tb_mem 159 (by decide +kernel) (by decide +kernel)
theorem q_160 : Cond.fieldLink RX4 87 RX2 "rocks" "J" ∈ tb := tb_mem 160 (by decide +kernel) (by decide +kernel)
theorem q_161 : Cond.fieldLink RX2 41 RX2 "lost" "I" ∈ tb := tb_mem 161 (by decide +kernel) (by decide +kernel)
theorem q_162 : Cond.fieldLink RX4 161 RX2 "lost" "I" ∈ tb := tb_mem 162 (by decide +kernel) (by decide +kernel)
theorem q_163 : Cond.fieldLink RX4 69 RX2 "ships" "I" ∈ tb := tb_mem 163 (by decide +kernel) (by decide +kernel)
theorem q_164 : Cond.fieldLink RX2 45 RX2 "ships" "I" ∈ tb := tb_mem 164 (by decide +kernel) (by decide +kernel)
theorem q_165 : Cond.fieldLink RX4 84 RX2 "doubt" "I" ∈ tb := tb_mem 165 (by decide +kernel) (by decide +kernel)
theorem q_166 : Cond.fieldLink RX2 48 RX2 "doubt" "I" ∈ tb := tb_mem 166 (by decide +kernel) (by decide +kernel)
theorem q_167 : Cond.fieldLink RX0 41 RX2 "doubt" "I" ∈ tb := tb_mem 167 (by decide +kernel) (by decide +kernel)
theorem q_168 : Cond.fieldLink RX4 81 RX2 "night" "I" ∈ tb := tb_mem 168 (by decide +kernel) (by decide +kernel)
theorem q_169 : Cond.fieldLink RX2 51 RX2 "night" "I" ∈ tb := tb_mem 169 (by decide +kernel) (by decide +kernel)
theorem q_170 : Cond.fieldLink RX0 38 RX2 "night" "I" ∈ tb := tb_mem 170 (by decide +kernel) (by decide +kernel)
theorem q_171 : Cond.fieldLink RX4 96 RX2 "law" "I" ∈ tb := tb_mem 171 (by decide +kernel) (by decide +kernel)
theorem q_172 : Cond.fieldLink RX2 54 RX2 "law" "I" ∈ tb := tb_mem 172 (by decide +kernel) (by decide +kernel)
theorem q_200 : Cond.instanceMethod yJ0_length_8abf5 ∈ tb := tb_mem 200 (by decide +kernel) (by decide +kernel)
theorem q_201 : Cond.selects RJ0 yJ0_length_8abf5 yJ0_length_8abf5 ∈ tb := tb_mem 201 (by decide +kernel) (by decide +kernel)
theorem q_202 : Cond.code yJ0_length_8abf5 cJ0_length_8abf5 1 (some .int) ∈ tb := tb_mem 202 (by decide +kernel) (by decide +kernel)
theorem q_203 : Cond.methodLink RJ0 335 yJ0_coder_7d493 ∈ tb := tb_mem 203 (by decide +kernel) (by decide +kernel)
theorem q_204 : Cond.instanceMethod yJ0_coder_7d493 ∈ tb := tb_mem 204 (by decide +kernel) (by decide +kernel)
theorem q_205 : Cond.selects RJ0 yJ0_coder_7d493 yJ0_coder_7d493 ∈ tb := tb_mem 205 (by decide +kernel) (by decide +kernel)
theorem q_206 : Cond.code yJ0_coder_7d493 cJ0_coder_7d493 1 (some .byte) ∈ tb := tb_mem 206 (by decide +kernel) (by decide +kernel)
theorem q_207 : Cond.fieldLink RJ0 38 RJ0 "COMPACT_STRINGS" "Z" ∈ tb := tb_mem 207 (by decide +kernel) (by decide +kernel)
theorem q_210 : Cond.instanceMethod yJ0_charAt_5068e ∈ tb := tb_mem 210 (by decide +kernel) (by decide +kernel)
theorem q_211 : Cond.selects RJ0 yJ0_charAt_5068e yJ0_charAt_5068e ∈ tb := tb_mem 211 (by decide +kernel) (by decide +kernel)
theorem q_212 : Cond.code yJ0_charAt_5068e cJ0_charAt_5068e 2 (some .char) ∈ tb := tb_mem 212 (by decide +kernel) (by decide +kernel)
theorem q_213 : Cond.methodLink RJ0 492 yJ0_isLatin1_aae02 ∈ tb := tb_mem 213 (by decide +kernel) (by decide +kernel)
theorem q_214 : Cond.instanceMethod yJ0_isLatin1_aae02 ∈ tb := tb_mem 214 (by decide +kernel) (by decide +kernel)
theorem q_215 : Cond.selects RJ0 yJ0_isLatin1_aae02 yJ0_isLatin1_aae02 ∈ tb := tb_mem 215 (by decide +kernel) (by decide +kernel)
theorem q_216 : Cond.code yJ0_isLatin1_aae02 cJ0_isLatin1_aae02 1 (some .boolean) ∈ tb := tb_mem 216 (by decide +kernel) (by decide +kernel)
theorem q_217 : Cond.methodLink RJ0 495 yJ1_charAt_3b067 ∈ tb := tb_mem 217 (by decide +kernel) (by decide +kernel)
theorem q_218 : Cond.static yJ1_charAt_3b067 ∈ tb := tb_mem 218 (by decide +kernel) (by decide +kernel)
theorem q_219 : Cond.code yJ1_charAt_3b067 cJ1_charAt_3b067 2 (some .char) ∈ tb := tb_mem 219 (by decide +kernel) (by decide +kernel)
theorem q_220 : Cond.methodLink RJ1 9 yJ0_checkIndex_df160 ∈ tb := tb_mem 220 (by decide +kernel) (by decide +kernel)
theorem q_221 : Cond.static yJ0_checkIndex_df160 ∈ tb := tb_mem 221 (by decide +kernel) (by decide +kernel)
theorem q_222 : Cond.code yJ0_checkIndex_df160 cJ0_checkIndex_df160 2 none ∈ tb := tb_mem 222 (by decide +kernel) (by decide +kernel)
theorem q_223 : Cond.fieldLink RJ0 1053 RJ3 "SIOOBE_FORMATTER" "Ljava/util/function/BiFunction;" ∈ tb := tb_mem 223 (by decide +kernel) (by decide +kernel)
theorem q_225 : Cond.methodLink RJ0 1059 yJ3_checkIndex_8e157 ∈ tb := tb_mem 225 (by decide +kernel) (by decide +kernel)
theorem q_226 : Cond.static yJ3_checkIndex_8e157 ∈ tb := tb_mem 226 (by decide +kernel) (by decide +kernel)
theorem q_227 : Cond.code yJ3_checkIndex_8e157 cJ3_checkIndex_8e157 3 (some .int) ∈ tb := tb_mem 227 (by decide +kernel) (by decide +kernel)
theorem q_247 : Cond.methodLink RX4 61 yX1_read ∈ tb := tb_mem 247 (by decide +kernel) (by decide +kernel)
theorem q_248 : Cond.instanceMethod yX1_read ∈ tb := tb_mem 248 (by decide +kernel) (by decide +kernel)
theorem q_249 : Cond.selects RX1 yX1_read yX1_read ∈ tb := tb_mem 249 (by decide +kernel) (by decide +kernel)
theorem q_250 : Cond.code yX1_read cX1_read 5 (some .int) ∈ tb := tb_mem 250 (by decide +kernel) (by decide +kernel)
theorem q_251 : Cond.methodLink RX1 29 yX0_clear ∈ tb := tb_mem 251 (by decide +kernel) (by decide +kernel)
theorem q_252 : Cond.instanceMethod yX0_clear ∈ tb := tb_mem 252 (by decide +kernel) (by decide +kernel)
theorem q_253 : Cond.selects RX0 yX0_clear yX0_clear ∈ tb := tb_mem 253 (by decide +kernel) (by decide +kernel)
theorem q_254 : Cond.code yX0_clear cX0_clear 1 none ∈ tb := tb_mem 254 (by decide +kernel) (by decide +kernel)
theorem q_255 : Cond.methodLink RX1 34 yX1_advance ∈ tb := tb_mem 255 (by decide +kernel) (by decide +kernel)
theorem q_257 : Cond.instanceMethod yX1_advance ∈ tb := tb_mem 257 (by decide +kernel) (by decide +kernel)
theorem q_258 : Cond.code yX1_advance cX1_advance 1 none ∈ tb := tb_mem 258 (by decide +kernel) (by decide +kernel)
theorem q_259 : Cond.methodLink RX1 71 yX1_isLetter ∈ tb := tb_mem 259 (by decide +kernel) (by decide +kernel)
theorem q_260 : Cond.static yX1_isLetter ∈ tb := tb_mem 260 (by decide +kernel) (by decide +kernel)
theorem q_261 : Cond.code yX1_isLetter cX1_isLetter 1 (some .boolean) ∈ tb := tb_mem 261 (by decide +kernel) (by decide +kernel)
theorem q_262 : Cond.methodLink RX1 74 yX1_word ∈ tb := tb_mem 262 (by decide +kernel) (by decide +kernel)
theorem q_264 : Cond.instanceMethod yX1_word ∈ tb := tb_mem 264 (by decide +kernel) (by decide +kernel)
theorem q_265 : Cond.code yX1_word cX1_word 1 (some .int) ∈ tb := tb_mem 265 (by decide +kernel) (by decide +kernel)
theorem q_267 : Cond.methodLink RX1 89 yX1_spells ∈ tb := tb_mem 267 (by decide +kernel) (by decide +kernel)
theorem q_269 : Cond.instanceMethod yX1_spells ∈ tb := tb_mem 269 (by decide +kernel) (by decide +kernel)
theorem q_270 : Cond.code yX1_spells cX1_spells 3 (some .boolean) ∈ tb := tb_mem 270 (by decide +kernel) (by decide +kernel)
theorem q_271 : Cond.methodLink RX1 115 yJ0_length_8abf5 ∈ tb := tb_mem 271 (by decide +kernel) (by decide +kernel)
theorem q_272 : Cond.methodLink RX1 120 yJ0_charAt_5068e ∈ tb := tb_mem 272 (by decide +kernel) (by decide +kernel)
theorem q_284 : Cond.methodLink RX1 78 yX1_isDigit ∈ tb := tb_mem 284 (by decide +kernel) (by decide +kernel)
theorem q_285 : Cond.static yX1_isDigit ∈ tb := tb_mem 285 (by decide +kernel) (by decide +kernel)
theorem q_286 : Cond.code yX1_isDigit cX1_isDigit 1 (some .boolean) ∈ tb := tb_mem 286 (by decide +kernel) (by decide +kernel)
theorem q_287 : Cond.methodLink RX1 81 yX1_number ∈ tb := tb_mem 287 (by decide +kernel) (by decide +kernel)
theorem q_289 : Cond.instanceMethod yX1_number ∈ tb := tb_mem 289 (by decide +kernel) (by decide +kernel)
theorem q_290 : Cond.code yX1_number cX1_number 2 (some .int) ∈ tb := tb_mem 290 (by decide +kernel) (by decide +kernel)
theorem q_291 : Cond.methodLink RX1 84 yX1_signOf ∈ tb := tb_mem 291 (by decide +kernel) (by decide +kernel)
theorem q_292 : Cond.static yX1_signOf ∈ tb := tb_mem 292 (by decide +kernel) (by decide +kernel)
theorem q_293 : Cond.code yX1_signOf cX1_signOf 1 (some .int) ∈ tb := tb_mem 293 (by decide +kernel) (by decide +kernel)
theorem q_294 : Cond.methodLink RX1 37 yX1_expect ∈ tb := tb_mem 294 (by decide +kernel) (by decide +kernel)
theorem q_296 : Cond.instanceMethod yX1_expect ∈ tb := tb_mem 296 (by decide +kernel) (by decide +kernel)
theorem q_297 : Cond.code yX1_expect cX1_expect 2 none ∈ tb := tb_mem 297 (by decide +kernel) (by decide +kernel)
theorem q_298 : Cond.methodLink RX1 54 yX1_fail ∈ tb := tb_mem 298 (by decide +kernel) (by decide +kernel)
theorem q_300 : Cond.instanceMethod yX1_fail ∈ tb := tb_mem 300 (by decide +kernel) (by decide +kernel)
theorem q_301 : Cond.code yX1_fail cX1_fail 1 none ∈ tb := tb_mem 301 (by decide +kernel) (by decide +kernel)
theorem q_302 : Cond.methodLink RX1 41 yX1_joined ∈ tb := tb_mem 302 (by decide +kernel) (by decide +kernel)
theorem q_304 : Cond.instanceMethod yX1_joined ∈ tb := tb_mem 304 (by decide +kernel) (by decide +kernel)
theorem q_305 : Cond.code yX1_joined cX1_joined 6 none ∈ tb := tb_mem 305 (by decide +kernel) (by decide +kernel)
theorem q_306 : Cond.methodLink RX1 57 yX1_one ∈ tb := tb_mem 306 (by decide +kernel) (by decide +kernel)
theorem q_308 : Cond.instanceMethod yX1_one ∈ tb := tb_mem 308 (by decide +kernel) (by decide +kernel)
theorem q_309 : Cond.code yX1_one cX1_one 2 none ∈ tb := tb_mem 309 (by decide +kernel) (by decide +kernel)
theorem q_310 : Cond.methodLink RX1 64 yX0_add ∈ tb := tb_mem 310 (by decide +kernel) (by decide +kernel)
theorem q_311 : Cond.instanceMethod yX0_add ∈ tb := tb_mem 311 (by decide +kernel) (by decide +kernel)
theorem q_312 : Cond.selects RX0 yX0_add yX0_add ∈ tb := tb_mem 312 (by decide +kernel) (by decide +kernel)
theorem q_313 : Cond.code yX0_add cX0_add 2 none ∈ tb := tb_mem 313 (by decide +kernel) (by decide +kernel)
theorem q_314 : Cond.methodLink RX1 60 yX1_mayOpen ∈ tb := tb_mem 314 (by decide +kernel) (by decide +kernel)
theorem q_316 : Cond.instanceMethod yX1_mayOpen ∈ tb := tb_mem 316 (by decide +kernel) (by decide +kernel)
theorem q_317 : Cond.code yX1_mayOpen cX1_mayOpen 2 (some .boolean) ∈ tb := tb_mem 317 (by decide +kernel) (by decide +kernel)
theorem q_318 : Cond.methodLink RX1 67 yX1_rankOf ∈ tb := tb_mem 318 (by decide +kernel) (by decide +kernel)
theorem q_319 : Cond.static yX1_rankOf ∈ tb := tb_mem 319 (by decide +kernel) (by decide +kernel)
theorem q_320 : Cond.code yX1_rankOf cX1_rankOf 1 (some .int) ∈ tb := tb_mem 320 (by decide +kernel) (by decide +kernel)
theorem q_321 : Cond.methodLink RX1 45 yX0_endPart ∈ tb := tb_mem 321 (by decide +kernel) (by decide +kernel)
theorem q_322 : Cond.instanceMethod yX0_endPart ∈ tb := tb_mem 322 (by decide +kernel) (by decide +kernel)
theorem q_323 : Cond.selects RX0 yX0_endPart yX0_endPart ∈ tb := tb_mem 323 (by decide +kernel) (by decide +kernel)
theorem q_324 : Cond.code yX0_endPart cX0_endPart 2 none ∈ tb := tb_mem 324 (by decide +kernel) (by decide +kernel)
theorem q_325 : Cond.fieldLink RX4 11 RX4 "texts" "[LLighthouseLiedTo$Law;" ∈ tb := tb_mem 325 (by decide +kernel) (by decide +kernel)
theorem q_326 : Cond.fieldLink RX4 39 RX4 "now" "LLighthouseLiedTo$Sea;" ∈ tb := tb_mem 326 (by decide +kernel) (by decide +kernel)
theorem q_327 : Cond.fieldLink RX4 43 RX4 "thought" "LLighthouseLiedTo$Sea;" ∈ tb := tb_mem 327 (by decide +kernel) (by decide +kernel)
theorem q_328 : Cond.fieldLink RX4 46 RX4 "kept" "LLighthouseLiedTo$Sea;" ∈ tb := tb_mem 328 (by decide +kernel) (by decide +kernel)
theorem q_329 : Cond.fieldLink RX4 17 RX4 "sheets" "[LLighthouseLiedTo$Sheet;" ∈ tb := tb_mem 329 (by decide +kernel) (by decide +kernel)
theorem q_330 : Cond.fieldLink RX4 21 RX4 "tape" "[I" ∈ tb := tb_mem 330 (by decide +kernel) (by decide +kernel)
theorem q_331 : Cond.fieldLink RX4 28 RX4 "reader" "LLighthouseLiedTo$Reader;" ∈ tb := tb_mem 331 (by decide +kernel) (by decide +kernel)
theorem q_332 : Cond.fieldLink RX4 65 RX4 "textCount" "I" ∈ tb := tb_mem 332 (by decide +kernel) (by decide +kernel)
theorem q_333 : Cond.fieldLink RX4 99 RX4 "tapeSize" "I" ∈ tb := tb_mem 333 (by decide +kernel) (by decide +kernel)
theorem q_334 : Cond.fieldLink RX4 217 RX4 "hasImage" "Z" ∈ tb := tb_mem 334 (by decide +kernel) (by decide +kernel)
theorem q_361 : Cond.methodLink RX4 72 yX2_afloat ∈ tb := tb_mem 361 (by decide +kernel) (by decide +kernel)
theorem q_362 : Cond.instanceMethod yX2_afloat ∈ tb := tb_mem 362 (by decide +kernel) (by decide +kernel)
theorem q_363 : Cond.selects RX2 yX2_afloat yX2_afloat ∈ tb := tb_mem 363 (by decide +kernel) (by decide +kernel)
theorem q_364 : Cond.code yX2_afloat cX2_afloat 1 (some .int) ∈ tb := tb_mem 364 (by decide +kernel) (by decide +kernel)
theorem q_365 : Cond.methodLink RX4 75 yJ6_bitCount_0f7a4 ∈ tb := tb_mem 365 (by decide +kernel) (by decide +kernel)
theorem q_366 : Cond.static yJ6_bitCount_0f7a4 ∈ tb := tb_mem 366 (by decide +kernel) (by decide +kernel)
theorem q_367 : Cond.code yJ6_bitCount_0f7a4 cJ6_bitCount_0f7a4 1 (some .int) ∈ tb := tb_mem 367 (by decide +kernel) (by decide +kernel)
theorem q_368 : Cond.constant RJ6 265 (1431655765 : Int32) ∈ tb := tb_mem 368 (by decide +kernel) (by decide +kernel)
theorem q_369 : Cond.constant RJ6 266 (858993459 : Int32) ∈ tb := tb_mem 369 (by decide +kernel) (by decide +kernel)
theorem q_370 : Cond.constant RJ6 267 (252645135 : Int32) ∈ tb := tb_mem 370 (by decide +kernel) (by decide +kernel)
theorem q_371 : Cond.methodLink RX4 91 yJ13_bitCount_95d88 ∈ tb := tb_mem 371 (by decide +kernel) (by decide +kernel)
theorem q_372 : Cond.static yJ13_bitCount_95d88 ∈ tb := tb_mem 372 (by decide +kernel) (by decide +kernel)
theorem q_373 : Cond.code yJ13_bitCount_95d88 cJ13_bitCount_95d88 2 (some .int) ∈ tb := tb_mem 373 (by decide +kernel) (by decide +kernel)
theorem q_374 : Cond.constantLong RJ13 314 (6148914691236517205 : Int64) ∈ tb := tb_mem 374 (by decide +kernel) (by decide +kernel)
theorem q_375 : Cond.constantLong RJ13 316 (3689348814741910323 : Int64) ∈ tb := tb_mem 375 (by decide +kernel) (by decide +kernel)
theorem q_376 : Cond.constantLong RJ13 318 (1085102592571150095 : Int64) ∈ tb := tb_mem 376 (by decide +kernel) (by decide +kernel)
theorem q_381 : Cond.methodLink RX4 102 yX4_isCell ∈ tb := tb_mem 381 (by decide +kernel) (by decide +kernel)
theorem q_382 : Cond.static yX4_isCell ∈ tb := tb_mem 382 (by decide +kernel) (by decide +kernel)
theorem q_383 : Cond.code yX4_isCell cX4_isCell 1 (some .boolean) ∈ tb := tb_mem 383 (by decide +kernel) (by decide +kernel)
theorem q_384 : Cond.methodLink RX4 106 yX4_within ∈ tb := tb_mem 384 (by decide +kernel) (by decide +kernel)
theorem q_385 : Cond.static yX4_within ∈ tb := tb_mem 385 (by decide +kernel) (by decide +kernel)
theorem q_386 : Cond.code yX4_within cX4_within 3 (some .boolean) ∈ tb := tb_mem 386 (by decide +kernel) (by decide +kernel)
theorem q_387 : Cond.methodLink RX4 110 yX2_hasRock ∈ tb := tb_mem 387 (by decide +kernel) (by decide +kernel)
theorem q_388 : Cond.instanceMethod yX2_hasRock ∈ tb := tb_mem 388 (by decide +kernel) (by decide +kernel)
theorem q_389 : Cond.selects RX2 yX2_hasRock yX2_hasRock ∈ tb := tb_mem 389 (by decide +kernel) (by decide +kernel)
theorem q_390 : Cond.code yX2_hasRock cX2_hasRock 2 (some .boolean) ∈ tb := tb_mem 390 (by decide +kernel) (by decide +kernel)
theorem q_391 : Cond.constantLong RX4 113 (-1 : Int64) ∈ tb := tb_mem 391 (by decide +kernel) (by decide +kernel)
theorem q_396 : Cond.methodLink RX4 115 yX2_hear ∈ tb := tb_mem 396 (by decide +kernel) (by decide +kernel)
theorem q_397 : Cond.instanceMethod yX2_hear ∈ tb := tb_mem 397 (by decide +kernel) (by decide +kernel)
theorem q_398 : Cond.selects RX2 yX2_hear yX2_hear ∈ tb := tb_mem 398 (by decide +kernel) (by decide +kernel)
theorem q_399 : Cond.code yX2_hear cX2_hear 5 none ∈ tb := tb_mem 399 (by decide +kernel) (by decide +kernel)
theorem q_400 : Cond.methodLink RX2 68 yJ9_min_7cf53 ∈ tb := tb_mem 400 (by decide +kernel) (by decide +kernel)
theorem q_401 : Cond.static yJ9_min_7cf53 ∈ tb := tb_mem 401 (by decide +kernel) (by decide +kernel)
theorem q_402 : Cond.code yJ9_min_7cf53 cJ9_min_7cf53 2 (some .int) ∈ tb := tb_mem 402 (by decide +kernel) (by decide +kernel)
theorem q_403 : Cond.methodLink RX2 74 yJ9_max_7cf53 ∈ tb := tb_mem 403 (by decide +kernel) (by decide +kernel)
theorem q_404 : Cond.static yJ9_max_7cf53 ∈ tb := tb_mem 404 (by decide +kernel) (by decide +kernel)
theorem q_405 : Cond.code yJ9_max_7cf53 cJ9_max_7cf53 2 (some .int) ∈ tb := tb_mem 405 (by decide +kernel) (by decide +kernel)
theorem q_418 : Cond.methodLink RX4 122 yX4_isByte ∈ tb := tb_mem 418 (by decide +kernel) (by decide +kernel)
theorem q_419 : Cond.static yX4_isByte ∈ tb := tb_mem 419 (by decide +kernel) (by decide +kernel)
theorem q_420 : Cond.code yX4_isByte cX4_isByte 1 (some .boolean) ∈ tb := tb_mem 420 (by decide +kernel) (by decide +kernel)
theorem q_433 : Cond.methodLink RX4 125 yX4_isShip ∈ tb := tb_mem 433 (by decide +kernel) (by decide +kernel)
theorem q_435 : Cond.instanceMethod yX4_isShip ∈ tb := tb_mem 435 (by decide +kernel) (by decide +kernel)
theorem q_436 : Cond.code yX4_isShip cX4_isShip 2 (some .boolean) ∈ tb := tb_mem 436 (by decide +kernel) (by decide +kernel)
theorem q_437 : Cond.methodLink RX4 131 yX2_says ∈ tb := tb_mem 437 (by decide +kernel) (by decide +kernel)
theorem q_438 : Cond.instanceMethod yX2_says ∈ tb := tb_mem 438 (by decide +kernel) (by decide +kernel)
theorem q_439 : Cond.selects RX2 yX2_says yX2_says ∈ tb := tb_mem 439 (by decide +kernel) (by decide +kernel)
theorem q_440 : Cond.code yX2_says cX2_says 6 (some .int) ∈ tb := tb_mem 440 (by decide +kernel) (by decide +kernel)
theorem q_441 : Cond.methodLink RX2 77 yX0_worth ∈ tb := tb_mem 441 (by decide +kernel) (by decide +kernel)
theorem q_442 : Cond.instanceMethod yX0_worth ∈ tb := tb_mem 442 (by decide +kernel) (by decide +kernel)
theorem q_443 : Cond.selects RX0 yX0_worth yX0_worth ∈ tb := tb_mem 443 (by decide +kernel) (by decide +kernel)
theorem q_444 : Cond.code yX0_worth cX0_worth 9 (some .int) ∈ tb := tb_mem 444 (by decide +kernel) (by decide +kernel)
theorem q_445 : Cond.methodLink RX0 25 yX0_named ∈ tb := tb_mem 445 (by decide +kernel) (by decide +kernel)
theorem q_446 : Cond.static yX0_named ∈ tb := tb_mem 446 (by decide +kernel) (by decide +kernel)
theorem q_447 : Cond.code yX0_named cX0_named 4 (some .int) ∈ tb := tb_mem 447 (by decide +kernel) (by decide +kernel)
theorem q_448 : Cond.methodLink RX0 29 yX0_joined ∈ tb := tb_mem 448 (by decide +kernel) (by decide +kernel)
theorem q_449 : Cond.static yX0_joined ∈ tb := tb_mem 449 (by decide +kernel) (by decide +kernel)
theorem q_450 : Cond.code yX0_joined cX0_joined 3 (some .int) ∈ tb := tb_mem 450 (by decide +kernel) (by decide +kernel)
theorem q_452 : Cond.instanceMethod yX4_ship ∈ tb := tb_mem 452 (by decide +kernel) (by decide +kernel)
theorem q_453 : Cond.selects RX4 yX4_ship yX4_ship ∈ tb := tb_mem 453 (by decide +kernel) (by decide +kernel)
theorem q_454 : Cond.code yX4_ship cX4_ship 3 (some .int) ∈ tb := tb_mem 454 (by decide +kernel) (by decide +kernel)
theorem q_455 : Cond.methodLink RX4 135 yX2_launch ∈ tb := tb_mem 455 (by decide +kernel) (by decide +kernel)
theorem q_456 : Cond.instanceMethod yX2_launch ∈ tb := tb_mem 456 (by decide +kernel) (by decide +kernel)
theorem q_457 : Cond.selects RX2 yX2_launch yX2_launch ∈ tb := tb_mem 457 (by decide +kernel) (by decide +kernel)
theorem q_458 : Cond.code yX2_launch cX2_launch 4 (some .int) ∈ tb := tb_mem 458 (by decide +kernel) (by decide +kernel)
theorem q_467 : Cond.methodLink RX4 148 yX2_isLost ∈ tb := tb_mem 467 (by decide +kernel) (by decide +kernel)
theorem q_468 : Cond.instanceMethod yX2_isLost ∈ tb := tb_mem 468 (by decide +kernel) (by decide +kernel)
theorem q_469 : Cond.selects RX2 yX2_isLost yX2_isLost ∈ tb := tb_mem 469 (by decide +kernel) (by decide +kernel)
theorem q_470 : Cond.code yX2_isLost cX2_isLost 2 (some .boolean) ∈ tb := tb_mem 470 (by decide +kernel) (by decide +kernel)
theorem q_471 : Cond.methodLink RX4 151 yX2_goal ∈ tb := tb_mem 471 (by decide +kernel) (by decide +kernel)
theorem q_472 : Cond.instanceMethod yX2_goal ∈ tb := tb_mem 472 (by decide +kernel) (by decide +kernel)
theorem q_473 : Cond.selects RX2 yX2_goal yX2_goal ∈ tb := tb_mem 473 (by decide +kernel) (by decide +kernel)
theorem q_474 : Cond.code yX2_goal cX2_goal 7 (some .int) ∈ tb := tb_mem 474 (by decide +kernel) (by decide +kernel)
theorem q_475 : Cond.methodLink RX2 83 yX2_liking ∈ tb := tb_mem 475 (by decide +kernel) (by decide +kernel)
theorem q_476 : Cond.instanceMethod yX2_liking ∈ tb := tb_mem 476 (by decide +kernel) (by decide +kernel)
theorem q_477 : Cond.selects RX2 yX2_liking yX2_liking ∈ tb := tb_mem 477 (by decide +kernel) (by decide +kernel)
theorem q_478 : Cond.code yX2_liking cX2_liking 4 (some .int) ∈ tb := tb_mem 478 (by decide +kernel) (by decide +kernel)
theorem q_479 : Cond.methodLink RX2 61 yX2_says ∈ tb := tb_mem 479 (by decide +kernel) (by decide +kernel)
theorem q_480 : Cond.methodLink RX2 86 yX2_beside ∈ tb := tb_mem 480 (by decide +kernel) (by decide +kernel)
theorem q_481 : Cond.static yX2_beside ∈ tb := tb_mem 481 (by decide +kernel) (by decide +kernel)
theorem q_482 : Cond.code yX2_beside cX2_beside 2 (some .int) ∈ tb := tb_mem 482 (by decide +kernel) (by decide +kernel)
theorem q_483 : Cond.methodLink RX4 154 yX2_sinking ∈ tb := tb_mem 483 (by decide +kernel) (by decide +kernel)
theorem q_484 : Cond.instanceMethod yX2_sinking ∈ tb := tb_mem 484 (by decide +kernel) (by decide +kernel)
theorem q_485 : Cond.selects RX2 yX2_sinking yX2_sinking ∈ tb := tb_mem 485 (by decide +kernel) (by decide +kernel)
theorem q_486 : Cond.code yX2_sinking cX2_sinking 2 (some .boolean) ∈ tb := tb_mem 486 (by decide +kernel) (by decide +kernel)
theorem q_491 : Cond.methodLink RX4 157 yX2_liking ∈ tb := tb_mem 491 (by decide +kernel) (by decide +kernel)
theorem q_492 : Cond.constant RX4 160 (-100000 : Int32) ∈ tb := tb_mem 492 (by decide +kernel) (by decide +kernel)
theorem q_497 : Cond.methodLink RX4 164 yX2_passNight ∈ tb := tb_mem 497 (by decide +kernel) (by decide +kernel)
theorem q_498 : Cond.instanceMethod yX2_passNight ∈ tb := tb_mem 498 (by decide +kernel) (by decide +kernel)
theorem q_499 : Cond.selects RX2 yX2_passNight yX2_passNight ∈ tb := tb_mem 499 (by decide +kernel) (by decide +kernel)
theorem q_500 : Cond.code yX2_passNight cX2_passNight 2 none ∈ tb := tb_mem 500 (by decide +kernel) (by decide +kernel)
theorem q_501 : Cond.methodLink RX2 89 yX2_isLost ∈ tb := tb_mem 501 (by decide +kernel) (by decide +kernel)
theorem q_502 : Cond.methodLink RX2 92 yX2_goal ∈ tb := tb_mem 502 (by decide +kernel) (by decide +kernel)
theorem q_503 : Cond.methodLink RX2 57 yX2_hasRock ∈ tb := tb_mem 503 (by decide +kernel) (by decide +kernel)
theorem q_504 : Cond.methodLink RX2 96 yX2_sinking ∈ tb := tb_mem 504 (by decide +kernel) (by decide +kernel)
theorem q_505 : Cond.methodLink RX2 99 yX2_lose ∈ tb := tb_mem 505 (by decide +kernel) (by decide +kernel)
theorem q_507 : Cond.instanceMethod yX2_lose ∈ tb := tb_mem 507 (by decide +kernel) (by decide +kernel)
theorem q_508 : Cond.code yX2_lose cX2_lose 3 none ∈ tb := tb_mem 508 (by decide +kernel) (by decide +kernel)
theorem q_509 : Cond.methodLink RX2 103 yX2_teaching ∈ tb := tb_mem 509 (by decide +kernel) (by decide +kernel)
theorem q_510 : Cond.instanceMethod yX2_teaching ∈ tb := tb_mem 510 (by decide +kernel) (by decide +kernel)
theorem q_511 : Cond.selects RX2 yX2_teaching yX2_teaching ∈ tb := tb_mem 511 (by decide +kernel) (by decide +kernel)
theorem q_512 : Cond.code yX2_teaching cX2_teaching 2 (some .int) ∈ tb := tb_mem 512 (by decide +kernel) (by decide +kernel)
theorem q_517 : Cond.methodLink RX4 167 yX4_think ∈ tb := tb_mem 517 (by decide +kernel) (by decide +kernel)
theorem q_519 : Cond.instanceMethod yX4_think ∈ tb := tb_mem 519 (by decide +kernel) (by decide +kernel)
theorem q_520 : Cond.code yX4_think cX4_think 1 none ∈ tb := tb_mem 520 (by decide +kernel) (by decide +kernel)
theorem q_521 : Cond.methodLink RX4 214 yX2_become ∈ tb := tb_mem 521 (by decide +kernel) (by decide +kernel)
theorem q_522 : Cond.instanceMethod yX2_become ∈ tb := tb_mem 522 (by decide +kernel) (by decide +kernel)
theorem q_523 : Cond.selects RX2 yX2_become yX2_become ∈ tb := tb_mem 523 (by decide +kernel) (by decide +kernel)
theorem q_524 : Cond.code yX2_become cX2_become 2 none ∈ tb := tb_mem 524 (by decide +kernel) (by decide +kernel)
theorem q_525 : Cond.methodLink RX2 31 arraycopyName ∈ tb := tb_mem 525 (by decide +kernel) (by decide +kernel)
theorem q_528 : Cond.methodLink RX4 170 yX2_lossesIn ∈ tb := tb_mem 528 (by decide +kernel) (by decide +kernel)
theorem q_529 : Cond.instanceMethod yX2_lossesIn ∈ tb := tb_mem 529 (by decide +kernel) (by decide +kernel)
theorem q_530 : Cond.selects RX2 yX2_lossesIn yX2_lossesIn ∈ tb := tb_mem 530 (by decide +kernel) (by decide +kernel)
theorem q_531 : Cond.code yX2_lossesIn cX2_lossesIn 4 (some .int) ∈ tb := tb_mem 531 (by decide +kernel) (by decide +kernel)
theorem q_532 : Cond.methodLink RX2 106 yX2_passNight ∈ tb := tb_mem 532 (by decide +kernel) (by decide +kernel)
theorem q_533 : Cond.methodLink RX2 109 yJ6_bitCount_0f7a4 ∈ tb := tb_mem 533 (by decide +kernel) (by decide +kernel)
theorem q_534 : Cond.methodLink RX4 173 yX2_allBelief ∈ tb := tb_mem 534 (by decide +kernel) (by decide +kernel)
theorem q_535 : Cond.instanceMethod yX2_allBelief ∈ tb := tb_mem 535 (by decide +kernel) (by decide +kernel)
theorem q_536 : Cond.selects RX2 yX2_allBelief yX2_allBelief ∈ tb := tb_mem 536 (by decide +kernel) (by decide +kernel)
theorem q_537 : Cond.code yX2_allBelief cX2_allBelief 3 (some .int) ∈ tb := tb_mem 537 (by decide +kernel) (by decide +kernel)
theorem q_546 : Cond.constantLong RX4 176 (-4611686018427387904 : Int64) ∈ tb := tb_mem 546 (by decide +kernel) (by decide +kernel)
theorem q_551 : Cond.methodLink RX4 178 yX2_brightest ∈ tb := tb_mem 551 (by decide +kernel) (by decide +kernel)
theorem q_552 : Cond.instanceMethod yX2_brightest ∈ tb := tb_mem 552 (by decide +kernel) (by decide +kernel)
theorem q_553 : Cond.selects RX2 yX2_brightest yX2_brightest ∈ tb := tb_mem 553 (by decide +kernel) (by decide +kernel)
theorem q_554 : Cond.code yX2_brightest cX2_brightest 6 (some .long) ∈ tb := tb_mem 554 (by decide +kernel) (by decide +kernel)
theorem q_555 : Cond.methodLink RX4 182 yX2_surelyRocks ∈ tb := tb_mem 555 (by decide +kernel) (by decide +kernel)
theorem q_556 : Cond.instanceMethod yX2_surelyRocks ∈ tb := tb_mem 556 (by decide +kernel) (by decide +kernel)
theorem q_557 : Cond.selects RX2 yX2_surelyRocks yX2_surelyRocks ∈ tb := tb_mem 557 (by decide +kernel) (by decide +kernel)
theorem q_558 : Cond.code yX2_surelyRocks cX2_surelyRocks 4 (some .long) ∈ tb := tb_mem 558 (by decide +kernel) (by decide +kernel)
theorem q_579 : Cond.methodLink RX4 185 yX2_trueBelief ∈ tb := tb_mem 579 (by decide +kernel) (by decide +kernel)
theorem q_580 : Cond.instanceMethod yX2_trueBelief ∈ tb := tb_mem 580 (by decide +kernel) (by decide +kernel)
theorem q_581 : Cond.selects RX2 yX2_trueBelief yX2_trueBelief ∈ tb := tb_mem 581 (by decide +kernel) (by decide +kernel)
theorem q_582 : Cond.code yX2_trueBelief cX2_trueBelief 3 (some .int) ∈ tb := tb_mem 582 (by decide +kernel) (by decide +kernel)
theorem q_583 : Cond.methodLink RX4 188 yX4_inLowestTerms ∈ tb := tb_mem 583 (by decide +kernel) (by decide +kernel)
theorem q_584 : Cond.static yX4_inLowestTerms ∈ tb := tb_mem 584 (by decide +kernel) (by decide +kernel)
theorem q_585 : Cond.code yX4_inLowestTerms cX4_inLowestTerms 4 (some .long) ∈ tb := tb_mem 585 (by decide +kernel) (by decide +kernel)
theorem q_586 : Cond.methodLink RX4 255 yX4_commonDivisor ∈ tb := tb_mem 586 (by decide +kernel) (by decide +kernel)
theorem q_587 : Cond.static yX4_commonDivisor ∈ tb := tb_mem 587 (by decide +kernel) (by decide +kernel)
theorem q_588 : Cond.code yX4_commonDivisor cX4_commonDivisor 6 (some .int) ∈ tb := tb_mem 588 (by decide +kernel) (by decide +kernel)
theorem q_593 : Cond.methodLink RX4 192 yX4_refusalToJudge ∈ tb := tb_mem 593 (by decide +kernel) (by decide +kernel)
theorem q_595 : Cond.instanceMethod yX4_refusalToJudge ∈ tb := tb_mem 595 (by decide +kernel) (by decide +kernel)
theorem q_596 : Cond.code yX4_refusalToJudge cX4_refusalToJudge 4 (some .int) ∈ tb := tb_mem 596 (by decide +kernel) (by decide +kernel)
theorem q_597 : Cond.methodLink RX4 198 yX4_refusalOfTold ∈ tb := tb_mem 597 (by decide +kernel) (by decide +kernel)
theorem q_599 : Cond.instanceMethod yX4_refusalOfTold ∈ tb := tb_mem 599 (by decide +kernel) (by decide +kernel)
theorem q_600 : Cond.code yX4_refusalOfTold cX4_refusalOfTold 2 (some .int) ∈ tb := tb_mem 600 (by decide +kernel) (by decide +kernel)
theorem q_601 : Cond.methodLink RX4 201 yX4_isSheet ∈ tb := tb_mem 601 (by decide +kernel) (by decide +kernel)
theorem q_602 : Cond.static yX4_isSheet ∈ tb := tb_mem 602 (by decide +kernel) (by decide +kernel)
theorem q_603 : Cond.code yX4_isSheet cX4_isSheet 1 (some .boolean) ∈ tb := tb_mem 603 (by decide +kernel) (by decide +kernel)
theorem q_604 : Cond.methodLink RX4 195 yX4_firstOtherwise ∈ tb := tb_mem 604 (by decide +kernel) (by decide +kernel)
theorem q_606 : Cond.instanceMethod yX4_firstOtherwise ∈ tb := tb_mem 606 (by decide +kernel) (by decide +kernel)
theorem q_607 : Cond.code yX4_firstOtherwise cX4_firstOtherwise 5 (some .int) ∈ tb := tb_mem 607 (by decide +kernel) (by decide +kernel)
theorem q_632 : Cond.methodLink RX4 204 yX3_become ∈ tb := tb_mem 632 (by decide +kernel) (by decide +kernel)
theorem q_633 : Cond.instanceMethod yX3_become ∈ tb := tb_mem 633 (by decide +kernel) (by decide +kernel)
theorem q_634 : Cond.selects RX3 yX3_become yX3_become ∈ tb := tb_mem 634 (by decide +kernel) (by decide +kernel)
theorem q_635 : Cond.code yX3_become cX3_become 4 none ∈ tb := tb_mem 635 (by decide +kernel) (by decide +kernel)
theorem q_636 : Cond.methodLink RX4 207 yX3_set ∈ tb := tb_mem 636 (by decide +kernel) (by decide +kernel)
theorem q_637 : Cond.instanceMethod yX3_set ∈ tb := tb_mem 637 (by decide +kernel) (by decide +kernel)
theorem q_638 : Cond.selects RX3 yX3_set yX3_set ∈ tb := tb_mem 638 (by decide +kernel) (by decide +kernel)
theorem q_639 : Cond.code yX3_set cX3_set 3 none ∈ tb := tb_mem 639 (by decide +kernel) (by decide +kernel)
theorem q_640 : Cond.methodLink RX3 22 yX3_has ∈ tb := tb_mem 640 (by decide +kernel) (by decide +kernel)
theorem q_641 : Cond.instanceMethod yX3_has ∈ tb := tb_mem 641 (by decide +kernel) (by decide +kernel)
theorem q_642 : Cond.selects RX3 yX3_has yX3_has ∈ tb := tb_mem 642 (by decide +kernel) (by decide +kernel)
theorem q_643 : Cond.code yX3_has cX3_has 2 (some .boolean) ∈ tb := tb_mem 643 (by decide +kernel) (by decide +kernel)
theorem q_648 : Cond.constant RX4 210 (99999 : Int32) ∈ tb := tb_mem 648 (by decide +kernel) (by decide +kernel)
theorem q_649 : Cond.methodLink RX4 211 yX4_lossesByTale ∈ tb := tb_mem 649 (by decide +kernel) (by decide +kernel)
theorem q_651 : Cond.instanceMethod yX4_lossesByTale ∈ tb := tb_mem 651 (by decide +kernel) (by decide +kernel)
theorem q_652 : Cond.code yX4_lossesByTale cX4_lossesByTale 6 (some .int) ∈ tb := tb_mem 652 (by decide +kernel) (by decide +kernel)
theorem q_653 : Cond.constantLong RX4 249 (48271 : Int64) ∈ tb := tb_mem 653 (by decide +kernel) (by decide +kernel)
theorem q_654 : Cond.constantLong RX4 251 (2147483647 : Int64) ∈ tb := tb_mem 654 (by decide +kernel) (by decide +kernel)
theorem q_655 : Cond.constantLong RX4 253 (36 : Int64) ∈ tb := tb_mem 655 (by decide +kernel) (by decide +kernel)
theorem q_676 : Cond.methodLink RX4 224 yX3_has ∈ tb := tb_mem 676 (by decide +kernel) (by decide +kernel)
theorem q_681 : Cond.methodLink RX4 227 yX3_holds ∈ tb := tb_mem 681 (by decide +kernel) (by decide +kernel)
theorem q_682 : Cond.instanceMethod yX3_holds ∈ tb := tb_mem 682 (by decide +kernel) (by decide +kernel)
theorem q_683 : Cond.selects RX3 yX3_holds yX3_holds ∈ tb := tb_mem 683 (by decide +kernel) (by decide +kernel)
theorem q_684 : Cond.code yX3_holds cX3_holds 3 (some .boolean) ∈ tb := tb_mem 684 (by decide +kernel) (by decide +kernel)
theorem q_685 : Cond.methodLink RX4 234 arraycopyName ∈ tb := tb_mem 685 (by decide +kernel) (by decide +kernel)
theorem q_690 : Cond.methodLink RX4 240 yX4_ship ∈ tb := tb_mem 690 (by decide +kernel) (by decide +kernel)
theorem q_695 : Cond.methodLink RX4 243 yX2_isOne ∈ tb := tb_mem 695 (by decide +kernel) (by decide +kernel)
theorem q_696 : Cond.instanceMethod yX2_isOne ∈ tb := tb_mem 696 (by decide +kernel) (by decide +kernel)
theorem q_697 : Cond.selects RX2 yX2_isOne yX2_isOne ∈ tb := tb_mem 697 (by decide +kernel) (by decide +kernel)
theorem q_698 : Cond.code yX2_isOne cX2_isOne 5 (some .boolean) ∈ tb := tb_mem 698 (by decide +kernel) (by decide +kernel)
theorem q_699 : Cond.fieldLink RX2 65 RX2 "KIND_ABOVE" "[I" ∈ tb := tb_mem 699 (by decide +kernel) (by decide +kernel)
theorem q_711 : Cond.methodLink RX5 169 yX5_next ∈ tb := tb_mem 711 (by decide +kernel) (by decide +kernel)
theorem q_713 : Cond.instanceMethod yX5_next ∈ tb := tb_mem 713 (by decide +kernel) (by decide +kernel)
theorem q_714 : Cond.code yX5_next cX5_next 3 none ∈ tb := tb_mem 714 (by decide +kernel) (by decide +kernel)
theorem q_715 : Cond.methodLink RX5 78 yX5_in ∈ tb := tb_mem 715 (by decide +kernel) (by decide +kernel)
theorem q_716 : Cond.static yX5_in ∈ tb := tb_mem 716 (by decide +kernel) (by decide +kernel)
theorem q_717 : Cond.code yX5_in cX5_in 3 (some .boolean) ∈ tb := tb_mem 717 (by decide +kernel) (by decide +kernel)
theorem q_718 : Cond.methodLink RX5 143 yX5_wordFrom ∈ tb := tb_mem 718 (by decide +kernel) (by decide +kernel)
theorem q_720 : Cond.instanceMethod yX5_wordFrom ∈ tb := tb_mem 720 (by decide +kernel) (by decide +kernel)
theorem q_721 : Cond.code yX5_wordFrom cX5_wordFrom 6 (some .int) ∈ tb := tb_mem 721 (by decide +kernel) (by decide +kernel)
theorem q_722 : Cond.methodLink RX5 182 yX5_eRead ∈ tb := tb_mem 722 (by decide +kernel) (by decide +kernel)
theorem q_724 : Cond.instanceMethod yX5_eRead ∈ tb := tb_mem 724 (by decide +kernel) (by decide +kernel)
theorem q_725 : Cond.code yX5_eRead cX5_eRead 4 (some .boolean) ∈ tb := tb_mem 725 (by decide +kernel) (by decide +kernel)
theorem q_726 : Cond.constant RX5 172 (100000 : Int32) ∈ tb := tb_mem 726 (by decide +kernel) (by decide +kernel)
theorem q_727 : Cond.methodLink RX5 159 yX5_puts ∈ tb := tb_mem 727 (by decide +kernel) (by decide +kernel)
theorem q_729 : Cond.instanceMethod yX5_puts ∈ tb := tb_mem 729 (by decide +kernel) (by decide +kernel)
theorem q_730 : Cond.code yX5_puts cX5_puts 2 none ∈ tb := tb_mem 730 (by decide +kernel) (by decide +kernel)
theorem q_731 : Cond.methodLink RX5 166 yX5_unwinds ∈ tb := tb_mem 731 (by decide +kernel) (by decide +kernel)
theorem q_733 : Cond.instanceMethod yX5_unwinds ∈ tb := tb_mem 733 (by decide +kernel) (by decide +kernel)
theorem q_734 : Cond.code yX5_unwinds cX5_unwinds 3 none ∈ tb := tb_mem 734 (by decide +kernel) (by decide +kernel)
theorem q_735 : Cond.methodLink RX5 153 yX5_rank ∈ tb := tb_mem 735 (by decide +kernel) (by decide +kernel)
theorem q_736 : Cond.static yX5_rank ∈ tb := tb_mem 736 (by decide +kernel) (by decide +kernel)
theorem q_737 : Cond.code yX5_rank cX5_rank 1 (some .int) ∈ tb := tb_mem 737 (by decide +kernel) (by decide +kernel)
theorem q_738 : Cond.methodLink RX5 173 yX5_opensOne ∈ tb := tb_mem 738 (by decide +kernel) (by decide +kernel)
theorem q_740 : Cond.instanceMethod yX5_opensOne ∈ tb := tb_mem 740 (by decide +kernel) (by decide +kernel)
theorem q_741 : Cond.code yX5_opensOne cX5_opensOne 2 (some .boolean) ∈ tb := tb_mem 741 (by decide +kernel) (by decide +kernel)
theorem q_742 : Cond.methodLink RX5 163 yX5_holds ∈ tb := tb_mem 742 (by decide +kernel) (by decide +kernel)
theorem q_744 : Cond.instanceMethod yX5_holds ∈ tb := tb_mem 744 (by decide +kernel) (by decide +kernel)
theorem q_745 : Cond.code yX5_holds cX5_holds 2 none ∈ tb := tb_mem 745 (by decide +kernel) (by decide +kernel)
theorem q_746 : Cond.methodLink RX5 176 yX5_signOf ∈ tb := tb_mem 746 (by decide +kernel) (by decide +kernel)
theorem q_748 : Cond.instanceMethod yX5_signOf ∈ tb := tb_mem 748 (by decide +kernel) (by decide +kernel)
theorem q_749 : Cond.code yX5_signOf cX5_signOf 1 (some .int) ∈ tb := tb_mem 749 (by decide +kernel) (by decide +kernel)
theorem q_750 : Cond.methodLink RX5 179 yX5_between ∈ tb := tb_mem 750 (by decide +kernel) (by decide +kernel)
theorem q_752 : Cond.instanceMethod yX5_between ∈ tb := tb_mem 752 (by decide +kernel) (by decide +kernel)
theorem q_753 : Cond.code yX5_between cX5_between 2 (some .boolean) ∈ tb := tb_mem 753 (by decide +kernel) (by decide +kernel)
theorem q_754 : Cond.fieldLink RX5 82 RX5 "ships" "I" ∈ tb := tb_mem 754 (by decide +kernel) (by decide +kernel)
theorem q_755 : Cond.fieldLink RX5 7 RX5 "kind" "[I" ∈ tb := tb_mem 755 (by decide +kernel) (by decide +kernel)
theorem q_756 : Cond.fieldLink RX5 13 RX5 "moreOf" "[I" ∈ tb := tb_mem 756 (by decide +kernel) (by decide +kernel)
theorem q_757 : Cond.fieldLink RX5 16 RX5 "onOf" "[I" ∈ tb := tb_mem 757 (by decide +kernel) (by decide +kernel)
theorem q_758 : Cond.fieldLink RX5 19 RX5 "draughtOf" "[I" ∈ tb := tb_mem 758 (by decide +kernel) (by decide +kernel)
theorem q_759 : Cond.fieldLink RX5 22 RX5 "lost" "[I" ∈ tb := tb_mem 759 (by decide +kernel) (by decide +kernel)
theorem q_760 : Cond.fieldLink RX5 25 RX5 "beliefs" "[I" ∈ tb := tb_mem 760 (by decide +kernel) (by decide +kernel)
theorem q_761 : Cond.fieldLink RX5 85 RX5 "rocks" "J" ∈ tb := tb_mem 761 (by decide +kernel) (by decide +kernel)
theorem q_762 : Cond.fieldLink RX5 100 RX5 "nights" "I" ∈ tb := tb_mem 762 (by decide +kernel) (by decide +kernel)
theorem q_763 : Cond.fieldLink RX5 103 RX5 "doubt" "I" ∈ tb := tb_mem 763 (by decide +kernel) (by decide +kernel)
theorem q_764 : Cond.fieldLink RX5 28 RX5 "tape" "[I" ∈ tb := tb_mem 764 (by decide +kernel) (by decide +kernel)
theorem q_765 : Cond.fieldLink RX5 70 RX5 "taped" "I" ∈ tb := tb_mem 765 (by decide +kernel) (by decide +kernel)
theorem q_766 : Cond.fieldLink RX5 31 RX5 "codes" "[I" ∈ tb := tb_mem 766 (by decide +kernel) (by decide +kernel)
theorem q_767 : Cond.fieldLink RX5 34 RX5 "starts" "[I" ∈ tb := tb_mem 767 (by decide +kernel) (by decide +kernel)
theorem q_768 : Cond.fieldLink RX5 109 RX5 "texts" "I" ∈ tb := tb_mem 768 (by decide +kernel) (by decide +kernel)
theorem q_769 : Cond.fieldLink RX5 112 RX5 "rule" "I" ∈ tb := tb_mem 769 (by decide +kernel) (by decide +kernel)
theorem q_770 : Cond.fieldLink RX5 270 RX5 "hasImage" "Z" ∈ tb := tb_mem 770 (by decide +kernel) (by decide +kernel)
theorem q_771 : Cond.fieldLink RX5 37 RX5 "imageRows" "[I" ∈ tb := tb_mem 771 (by decide +kernel) (by decide +kernel)
theorem q_772 : Cond.fieldLink RX5 40 RX5 "imageHeld" "[I" ∈ tb := tb_mem 772 (by decide +kernel) (by decide +kernel)
theorem q_773 : Cond.fieldLink RX5 274 RX5 "imageRocks" "J" ∈ tb := tb_mem 773 (by decide +kernel) (by decide +kernel)
theorem q_774 : Cond.fieldLink RX5 43 RX5 "sheetSort" "[I" ∈ tb := tb_mem 774 (by decide +kernel) (by decide +kernel)
theorem q_775 : Cond.fieldLink RX5 46 RX5 "sheetSize" "[I" ∈ tb := tb_mem 775 (by decide +kernel) (by decide +kernel)
theorem q_776 : Cond.fieldLink RX5 49 RX5 "cells" "[I" ∈ tb := tb_mem 776 (by decide +kernel) (by decide +kernel)
theorem q_778 : Cond.fieldLink RX5 131 RX5 "at" "I" ∈ tb := tb_mem 778 (by decide +kernel) (by decide +kernel)
theorem q_779 : Cond.fieldLink RX5 134 RX5 "begun" "I" ∈ tb := tb_mem 779 (by decide +kernel) (by decide +kernel)
theorem q_780 : Cond.fieldLink RX5 137 RX5 "token" "I" ∈ tb := tb_mem 780 (by decide +kernel) (by decide +kernel)
theorem q_781 : Cond.fieldLink RX5 140 RX5 "value" "I" ∈ tb := tb_mem 781 (by decide +kernel) (by decide +kernel)
theorem q_782 : Cond.fieldLink RX5 55 RX5 "words" "[I" ∈ tb := tb_mem 782 (by decide +kernel) (by decide +kernel)
theorem q_783 : Cond.fieldLink RX5 58 RX5 "held" "[I" ∈ tb := tb_mem 783 (by decide +kernel) (by decide +kernel)
theorem q_784 : Cond.fieldLink RX5 150 RX5 "heldMany" "I" ∈ tb := tb_mem 784 (by decide +kernel) (by decide +kernel)
theorem q_785 : Cond.fieldLink RX5 156 RX5 "opens" "I" ∈ tb := tb_mem 785 (by decide +kernel) (by decide +kernel)
theorem q_786 : Cond.fieldLink RX5 147 RX5 "out" "I" ∈ tb := tb_mem 786 (by decide +kernel) (by decide +kernel)
theorem q_787 : Cond.fieldLink RX5 61 RX5 "stack" "[I" ∈ tb := tb_mem 787 (by decide +kernel) (by decide +kernel)
theorem q_788 : Cond.fieldLink RX5 64 RX5 "named" "[I" ∈ tb := tb_mem 788 (by decide +kernel) (by decide +kernel)
theorem q_789 : Cond.fieldLink RX5 67 RX5 "kept" "[I" ∈ tb := tb_mem 789 (by decide +kernel) (by decide +kernel)
theorem q_790 : Cond.fieldLink RX5 263 RX5 "afloatThen" "I" ∈ tb := tb_mem 790 (by decide +kernel) (by decide +kernel)
theorem q_870 : Cond.methodLink RX5 93 yX5_afloat ∈ tb := tb_mem 870 (by decide +kernel) (by decide +kernel)
theorem q_872 : Cond.instanceMethod yX5_afloat ∈ tb := tb_mem 872 (by decide +kernel) (by decide +kernel)
theorem q_873 : Cond.code yX5_afloat cX5_afloat 3 (some .int) ∈ tb := tb_mem 873 (by decide +kernel) (by decide +kernel)
theorem q_874 : Cond.methodLink RX5 96 yX5_ones ∈ tb := tb_mem 874 (by decide +kernel) (by decide +kernel)
theorem q_875 : Cond.static yX5_ones ∈ tb := tb_mem 875 (by decide +kernel) (by decide +kernel)
theorem q_876 : Cond.code yX5_ones cX5_ones 3 (some .int) ∈ tb := tb_mem 876 (by decide +kernel) (by decide +kernel)
theorem q_877 : Cond.methodLink RX5 106 yX5_rockMany ∈ tb := tb_mem 877 (by decide +kernel) (by decide +kernel)
theorem q_879 : Cond.instanceMethod yX5_rockMany ∈ tb := tb_mem 879 (by decide +kernel) (by decide +kernel)
theorem q_880 : Cond.code yX5_rockMany cX5_rockMany 3 (some .int) ∈ tb := tb_mem 880 (by decide +kernel) (by decide +kernel)
theorem q_881 : Cond.methodLink RX5 89 yX5_hasRock ∈ tb := tb_mem 881 (by decide +kernel) (by decide +kernel)
theorem q_883 : Cond.instanceMethod yX5_hasRock ∈ tb := tb_mem 883 (by decide +kernel) (by decide +kernel)
theorem q_884 : Cond.code yX5_hasRock cX5_hasRock 2 (some .boolean) ∈ tb := tb_mem 884 (by decide +kernel) (by decide +kernel)
theorem q_889 : Cond.methodLink RX5 115 yX5_isCell ∈ tb := tb_mem 889 (by decide +kernel) (by decide +kernel)
theorem q_890 : Cond.static yX5_isCell ∈ tb := tb_mem 890 (by decide +kernel) (by decide +kernel)
theorem q_891 : Cond.code yX5_isCell cX5_isCell 1 (some .boolean) ∈ tb := tb_mem 891 (by decide +kernel) (by decide +kernel)
theorem q_892 : Cond.constantLong RX5 118 (-1 : Int64) ∈ tb := tb_mem 892 (by decide +kernel) (by decide +kernel)
theorem q_897 : Cond.methodLink RX5 124 yX5_isToldOf ∈ tb := tb_mem 897 (by decide +kernel) (by decide +kernel)
theorem q_899 : Cond.instanceMethod yX5_isToldOf ∈ tb := tb_mem 899 (by decide +kernel) (by decide +kernel)
theorem q_900 : Cond.code yX5_isToldOf cX5_isToldOf 3 none ∈ tb := tb_mem 900 (by decide +kernel) (by decide +kernel)
theorem q_901 : Cond.methodLink RX5 120 yX5_within ∈ tb := tb_mem 901 (by decide +kernel) (by decide +kernel)
theorem q_902 : Cond.static yX5_within ∈ tb := tb_mem 902 (by decide +kernel) (by decide +kernel)
theorem q_903 : Cond.code yX5_within cX5_within 3 (some .int) ∈ tb := tb_mem 903 (by decide +kernel) (by decide +kernel)
theorem q_916 : Cond.methodLink RX5 128 yX5_isByte ∈ tb := tb_mem 916 (by decide +kernel) (by decide +kernel)
theorem q_917 : Cond.static yX5_isByte ∈ tb := tb_mem 917 (by decide +kernel) (by decide +kernel)
theorem q_918 : Cond.code yX5_isByte cX5_isByte 1 (some .boolean) ∈ tb := tb_mem 918 (by decide +kernel) (by decide +kernel)
theorem q_928 : Cond.methodLink RX5 192 yX5_isShip ∈ tb := tb_mem 928 (by decide +kernel) (by decide +kernel)
theorem q_930 : Cond.instanceMethod yX5_isShip ∈ tb := tb_mem 930 (by decide +kernel) (by decide +kernel)
theorem q_931 : Cond.code yX5_isShip cX5_isShip 2 (some .boolean) ∈ tb := tb_mem 931 (by decide +kernel) (by decide +kernel)
theorem q_932 : Cond.methodLink RX5 195 yX5_asksOf ∈ tb := tb_mem 932 (by decide +kernel) (by decide +kernel)
theorem q_934 : Cond.instanceMethod yX5_asksOf ∈ tb := tb_mem 934 (by decide +kernel) (by decide +kernel)
theorem q_935 : Cond.code yX5_asksOf cX5_asksOf 4 (some .int) ∈ tb := tb_mem 935 (by decide +kernel) (by decide +kernel)
theorem q_936 : Cond.methodLink RX5 189 yX5_says ∈ tb := tb_mem 936 (by decide +kernel) (by decide +kernel)
theorem q_938 : Cond.instanceMethod yX5_says ∈ tb := tb_mem 938 (by decide +kernel) (by decide +kernel)
theorem q_939 : Cond.code yX5_says cX5_says 5 (some .int) ∈ tb := tb_mem 939 (by decide +kernel) (by decide +kernel)
theorem q_940 : Cond.methodLink RX5 186 yX5_two ∈ tb := tb_mem 940 (by decide +kernel) (by decide +kernel)
theorem q_941 : Cond.static yX5_two ∈ tb := tb_mem 941 (by decide +kernel) (by decide +kernel)
theorem q_942 : Cond.code yX5_two cX5_two 3 (some .int) ∈ tb := tb_mem 942 (by decide +kernel) (by decide +kernel)
theorem q_944 : Cond.instanceMethod yX5_ship ∈ tb := tb_mem 944 (by decide +kernel) (by decide +kernel)
theorem q_945 : Cond.selects RX5 yX5_ship yX5_ship ∈ tb := tb_mem 945 (by decide +kernel) (by decide +kernel)
theorem q_946 : Cond.code yX5_ship cX5_ship 3 (some .int) ∈ tb := tb_mem 946 (by decide +kernel) (by decide +kernel)
theorem q_955 : Cond.methodLink RX5 204 yX5_goesTo ∈ tb := tb_mem 955 (by decide +kernel) (by decide +kernel)
theorem q_957 : Cond.instanceMethod yX5_goesTo ∈ tb := tb_mem 957 (by decide +kernel) (by decide +kernel)
theorem q_958 : Cond.code yX5_goesTo cX5_goesTo 7 (some .int) ∈ tb := tb_mem 958 (by decide +kernel) (by decide +kernel)
theorem q_959 : Cond.methodLink RX5 198 yX5_likesOf ∈ tb := tb_mem 959 (by decide +kernel) (by decide +kernel)
theorem q_961 : Cond.instanceMethod yX5_likesOf ∈ tb := tb_mem 961 (by decide +kernel) (by decide +kernel)
theorem q_962 : Cond.code yX5_likesOf cX5_likesOf 5 (some .int) ∈ tb := tb_mem 962 (by decide +kernel) (by decide +kernel)
theorem q_963 : Cond.methodLink RX5 201 yX5_besideOf ∈ tb := tb_mem 963 (by decide +kernel) (by decide +kernel)
theorem q_964 : Cond.static yX5_besideOf ∈ tb := tb_mem 964 (by decide +kernel) (by decide +kernel)
theorem q_965 : Cond.code yX5_besideOf cX5_besideOf 2 (some .int) ∈ tb := tb_mem 965 (by decide +kernel) (by decide +kernel)
theorem q_966 : Cond.methodLink RX5 207 yX5_doesSink ∈ tb := tb_mem 966 (by decide +kernel) (by decide +kernel)
theorem q_968 : Cond.instanceMethod yX5_doesSink ∈ tb := tb_mem 968 (by decide +kernel) (by decide +kernel)
theorem q_969 : Cond.code yX5_doesSink cX5_doesSink 3 (some .boolean) ∈ tb := tb_mem 969 (by decide +kernel) (by decide +kernel)
theorem q_974 : Cond.constant RX5 210 (-100000 : Int32) ∈ tb := tb_mem 974 (by decide +kernel) (by decide +kernel)
theorem q_979 : Cond.methodLink RX5 217 yX5_nightOf ∈ tb := tb_mem 979 (by decide +kernel) (by decide +kernel)
theorem q_981 : Cond.instanceMethod yX5_nightOf ∈ tb := tb_mem 981 (by decide +kernel) (by decide +kernel)
theorem q_982 : Cond.code yX5_nightOf cX5_nightOf 4 (some .int) ∈ tb := tb_mem 982 (by decide +kernel) (by decide +kernel)
theorem q_983 : Cond.methodLink RX5 214 yX5_sails ∈ tb := tb_mem 983 (by decide +kernel) (by decide +kernel)
theorem q_985 : Cond.instanceMethod yX5_sails ∈ tb := tb_mem 985 (by decide +kernel) (by decide +kernel)
theorem q_986 : Cond.code yX5_sails cX5_sails 4 none ∈ tb := tb_mem 986 (by decide +kernel) (by decide +kernel)
theorem q_987 : Cond.methodLink RX5 211 yX5_teachesOf ∈ tb := tb_mem 987 (by decide +kernel) (by decide +kernel)
theorem q_989 : Cond.instanceMethod yX5_teachesOf ∈ tb := tb_mem 989 (by decide +kernel) (by decide +kernel)
theorem q_990 : Cond.code yX5_teachesOf cX5_teachesOf 2 (some .int) ∈ tb := tb_mem 990 (by decide +kernel) (by decide +kernel)
theorem q_995 : Cond.methodLink RX5 223 yX5_keeps ∈ tb := tb_mem 995 (by decide +kernel) (by decide +kernel)
theorem q_997 : Cond.instanceMethod yX5_keeps ∈ tb := tb_mem 997 (by decide +kernel) (by decide +kernel)
theorem q_998 : Cond.code yX5_keeps cX5_keeps 2 none ∈ tb := tb_mem 998 (by decide +kernel) (by decide +kernel)
theorem q_999 : Cond.methodLink RX5 226 yX5_goes ∈ tb := tb_mem 999 (by decide +kernel) (by decide +kernel)
theorem q_1001 : Cond.instanceMethod yX5_goes ∈ tb := tb_mem 1001 (by decide +kernel) (by decide +kernel)
theorem q_1002 : Cond.code yX5_goes cX5_goes 4 (some .int) ∈ tb := tb_mem 1002 (by decide +kernel) (by decide +kernel)
theorem q_1003 : Cond.methodLink RX5 229 yX5_toldBehind ∈ tb := tb_mem 1003 (by decide +kernel) (by decide +kernel)
theorem q_1005 : Cond.instanceMethod yX5_toldBehind ∈ tb := tb_mem 1005 (by decide +kernel) (by decide +kernel)
theorem q_1006 : Cond.code yX5_toldBehind cX5_toldBehind 2 (some .int) ∈ tb := tb_mem 1006 (by decide +kernel) (by decide +kernel)
theorem q_1007 : Cond.methodLink RX5 220 yX5_beliefAll ∈ tb := tb_mem 1007 (by decide +kernel) (by decide +kernel)
theorem q_1009 : Cond.instanceMethod yX5_beliefAll ∈ tb := tb_mem 1009 (by decide +kernel) (by decide +kernel)
theorem q_1010 : Cond.code yX5_beliefAll cX5_beliefAll 3 (some .int) ∈ tb := tb_mem 1010 (by decide +kernel) (by decide +kernel)
theorem q_1011 : Cond.methodLink RX5 232 yX5_lays ∈ tb := tb_mem 1011 (by decide +kernel) (by decide +kernel)
theorem q_1013 : Cond.instanceMethod yX5_lays ∈ tb := tb_mem 1013 (by decide +kernel) (by decide +kernel)
theorem q_1014 : Cond.code yX5_lays cX5_lays 2 none ∈ tb := tb_mem 1014 (by decide +kernel) (by decide +kernel)
theorem q_1023 : Cond.constantLong RX5 235 (-4611686018427387904 : Int64) ∈ tb := tb_mem 1023 (by decide +kernel) (by decide +kernel)
theorem q_1028 : Cond.methodLink RX5 237 yX5_brightest ∈ tb := tb_mem 1028 (by decide +kernel) (by decide +kernel)
theorem q_1030 : Cond.instanceMethod yX5_brightest ∈ tb := tb_mem 1030 (by decide +kernel) (by decide +kernel)
theorem q_1031 : Cond.code yX5_brightest cX5_brightest 6 (some .long) ∈ tb := tb_mem 1031 (by decide +kernel) (by decide +kernel)
theorem q_1036 : Cond.methodLink RX5 241 yX5_lostNow ∈ tb := tb_mem 1036 (by decide +kernel) (by decide +kernel)
theorem q_1038 : Cond.instanceMethod yX5_lostNow ∈ tb := tb_mem 1038 (by decide +kernel) (by decide +kernel)
theorem q_1039 : Cond.code yX5_lostNow cX5_lostNow 3 (some .int) ∈ tb := tb_mem 1039 (by decide +kernel) (by decide +kernel)
theorem q_1056 : Cond.methodLink RX5 244 yX5_lowest ∈ tb := tb_mem 1056 (by decide +kernel) (by decide +kernel)
theorem q_1057 : Cond.static yX5_lowest ∈ tb := tb_mem 1057 (by decide +kernel) (by decide +kernel)
theorem q_1058 : Cond.code yX5_lowest cX5_lowest 11 (some .long) ∈ tb := tb_mem 1058 (by decide +kernel) (by decide +kernel)
theorem q_1063 : Cond.methodLink RX5 251 yX5_toldWrong ∈ tb := tb_mem 1063 (by decide +kernel) (by decide +kernel)
theorem q_1065 : Cond.instanceMethod yX5_toldWrong ∈ tb := tb_mem 1065 (by decide +kernel) (by decide +kernel)
theorem q_1066 : Cond.code yX5_toldWrong cX5_toldWrong 4 (some .int) ∈ tb := tb_mem 1066 (by decide +kernel) (by decide +kernel)
theorem q_1067 : Cond.methodLink RX5 248 yX5_sheetWrong ∈ tb := tb_mem 1067 (by decide +kernel) (by decide +kernel)
theorem q_1069 : Cond.instanceMethod yX5_sheetWrong ∈ tb := tb_mem 1069 (by decide +kernel) (by decide +kernel)
theorem q_1070 : Cond.code yX5_sheetWrong cX5_sheetWrong 2 (some .int) ∈ tb := tb_mem 1070 (by decide +kernel) (by decide +kernel)
theorem q_1071 : Cond.methodLink RX5 254 yX5_unlike ∈ tb := tb_mem 1071 (by decide +kernel) (by decide +kernel)
theorem q_1073 : Cond.instanceMethod yX5_unlike ∈ tb := tb_mem 1073 (by decide +kernel) (by decide +kernel)
theorem q_1074 : Cond.code yX5_unlike cX5_unlike 5 (some .int) ∈ tb := tb_mem 1074 (by decide +kernel) (by decide +kernel)
theorem q_1103 : Cond.constant RX5 266 (99999 : Int32) ∈ tb := tb_mem 1103 (by decide +kernel) (by decide +kernel)
theorem q_1104 : Cond.methodLink RX5 267 yX5_tales ∈ tb := tb_mem 1104 (by decide +kernel) (by decide +kernel)
theorem q_1106 : Cond.instanceMethod yX5_tales ∈ tb := tb_mem 1106 (by decide +kernel) (by decide +kernel)
theorem q_1107 : Cond.code yX5_tales cX5_tales 7 (some .int) ∈ tb := tb_mem 1107 (by decide +kernel) (by decide +kernel)
theorem q_1108 : Cond.constantLong RX5 257 (48271 : Int64) ∈ tb := tb_mem 1108 (by decide +kernel) (by decide +kernel)
theorem q_1109 : Cond.constantLong RX5 259 (2147483647 : Int64) ∈ tb := tb_mem 1109 (by decide +kernel) (by decide +kernel)
theorem q_1110 : Cond.constantLong RX5 261 (36 : Int64) ∈ tb := tb_mem 1110 (by decide +kernel) (by decide +kernel)
theorem q_1139 : Cond.methodLink RX5 277 yX5_ship ∈ tb := tb_mem 1139 (by decide +kernel) (by decide +kernel)
theorem q_1144 : Cond.methodLink RX5 280 yX5_isUnder ∈ tb := tb_mem 1144 (by decide +kernel) (by decide +kernel)
theorem q_1145 : Cond.static yX5_isUnder ∈ tb := tb_mem 1145 (by decide +kernel) (by decide +kernel)
theorem q_1146 : Cond.code yX5_isUnder cX5_isUnder 2 (some .boolean) ∈ tb := tb_mem 1146 (by decide +kernel) (by decide +kernel)
theorem q_1147 : Cond.fieldLink RJ0 9 RJ0 "value" "[B" ∈ tb := tb_mem 1147 (by decide +kernel) (by decide +kernel)
theorem q_1148 : Cond.fieldLink RJ0 15 RJ0 "coder" "B" ∈ tb := tb_mem 1148 (by decide +kernel) (by decide +kernel)
theorem bp_m100 : (Int8.ofInt (-100)).toInt32 = (-100 : Int32) := by decide +kernel
theorem bp_m99 : (Int8.ofInt (-99)).toInt32 = (-99 : Int32) := by decide +kernel
theorem bp_m23 : (Int8.ofInt (-23)).toInt32 = (-23 : Int32) := by decide +kernel
theorem bp_m22 : (Int8.ofInt (-22)).toInt32 = (-22 : Int32) := by decide +kernel
theorem bp_m21 : (Int8.ofInt (-21)).toInt32 = (-21 : Int32) := by decide +kernel
theorem bp_m20 : (Int8.ofInt (-20)).toInt32 = (-20 : Int32) := by decide +kernel
theorem bp_m19 : (Int8.ofInt (-19)).toInt32 = (-19 : Int32) := by decide +kernel
theorem bp_m18 : (Int8.ofInt (-18)).toInt32 = (-18 : Int32) := by decide +kernel
theorem bp_m17 : (Int8.ofInt (-17)).toInt32 = (-17 : Int32) := by decide +kernel
theorem bp_m16 : (Int8.ofInt (-16)).toInt32 = (-16 : Int32) := by decide +kernel
theorem bp_m15 : (Int8.ofInt (-15)).toInt32 = (-15 : Int32) := by decide +kernel
theorem bp_m14 : (Int8.ofInt (-14)).toInt32 = (-14 : Int32) := by decide +kernel
theorem bp_m13 : (Int8.ofInt (-13)).toInt32 = (-13 : Int32) := by decide +kernel
theorem bp_m12 : (Int8.ofInt (-12)).toInt32 = (-12 : Int32) := by decide +kernel
theorem bp_m11 : (Int8.ofInt (-11)).toInt32 = (-11 : Int32) := by decide +kernel
theorem bp_m10 : (Int8.ofInt (-10)).toInt32 = (-10 : Int32) := by decide +kernel
theorem bp_m9 : (Int8.ofInt (-9)).toInt32 = (-9 : Int32) := by decide +kernel
theorem bp_m8 : (Int8.ofInt (-8)).toInt32 = (-8 : Int32) := by decide +kernel
theorem bp_m7 : (Int8.ofInt (-7)).toInt32 = (-7 : Int32) := by decide +kernel
theorem bp_m6 : (Int8.ofInt (-6)).toInt32 = (-6 : Int32) := by decide +kernel
theorem bp_m5 : (Int8.ofInt (-5)).toInt32 = (-5 : Int32) := by decide +kernel
theorem bp_m4 : (Int8.ofInt (-4)).toInt32 = (-4 : Int32) := by decide +kernel
theorem bp_m3 : (Int8.ofInt (-3)).toInt32 = (-3 : Int32) := by decide +kernel
theorem bp_m2 : (Int8.ofInt (-2)).toInt32 = (-2 : Int32) := by decide +kernel
theorem bp_6 : (Int8.ofInt (6)).toInt32 = (6 : Int32) := by decide +kernel
theorem bp_7 : (Int8.ofInt (7)).toInt32 = (7 : Int32) := by decide +kernel
theorem bp_8 : (Int8.ofInt (8)).toInt32 = (8 : Int32) := by decide +kernel
theorem bp_9 : (Int8.ofInt (9)).toInt32 = (9 : Int32) := by decide +kernel
theorem bp_10 : (Int8.ofInt (10)).toInt32 = (10 : Int32) := by decide +kernel
theorem bp_11 : (Int8.ofInt (11)).toInt32 = (11 : Int32) := by decide +kernel
theorem bp_12 : (Int8.ofInt (12)).toInt32 = (12 : Int32) := by decide +kernel
theorem bp_13 : (Int8.ofInt (13)).toInt32 = (13 : Int32) := by decide +kernel
theorem bp_14 : (Int8.ofInt (14)).toInt32 = (14 : Int32) := by decide +kernel
theorem bp_15 : (Int8.ofInt (15)).toInt32 = (15 : Int32) := by decide +kernel
theorem bp_16 : (Int8.ofInt (16)).toInt32 = (16 : Int32) := by decide +kernel
theorem bp_17 : (Int8.ofInt (17)).toInt32 = (17 : Int32) := by decide +kernel
theorem bp_18 : (Int8.ofInt (18)).toInt32 = (18 : Int32) := by decide +kernel
theorem bp_19 : (Int8.ofInt (19)).toInt32 = (19 : Int32) := by decide +kernel
theorem bp_20 : (Int8.ofInt (20)).toInt32 = (20 : Int32) := by decide +kernel
theorem bp_30 : (Int8.ofInt (30)).toInt32 = (30 : Int32) := by decide +kernel
theorem bp_32 : (Int8.ofInt (32)).toInt32 = (32 : Int32) := by decide +kernel
theorem bp_35 : (Int8.ofInt (35)).toInt32 = (35 : Int32) := by decide +kernel
theorem bp_36 : (Int8.ofInt (36)).toInt32 = (36 : Int32) := by decide +kernel
theorem bp_40 : (Int8.ofInt (40)).toInt32 = (40 : Int32) := by decide +kernel
theorem bp_41 : (Int8.ofInt (41)).toInt32 = (41 : Int32) := by decide +kernel
theorem bp_42 : (Int8.ofInt (42)).toInt32 = (42 : Int32) := by decide +kernel
theorem bp_43 : (Int8.ofInt (43)).toInt32 = (43 : Int32) := by decide +kernel
theorem bp_45 : (Int8.ofInt (45)).toInt32 = (45 : Int32) := by decide +kernel
theorem bp_48 : (Int8.ofInt (48)).toInt32 = (48 : Int32) := by decide +kernel
theorem bp_49 : (Int8.ofInt (49)).toInt32 = (49 : Int32) := by decide +kernel
theorem bp_50 : (Int8.ofInt (50)).toInt32 = (50 : Int32) := by decide +kernel
theorem bp_55 : (Int8.ofInt (55)).toInt32 = (55 : Int32) := by decide +kernel
theorem bp_57 : (Int8.ofInt (57)).toInt32 = (57 : Int32) := by decide +kernel
theorem bp_59 : (Int8.ofInt (59)).toInt32 = (59 : Int32) := by decide +kernel
theorem bp_60 : (Int8.ofInt (60)).toInt32 = (60 : Int32) := by decide +kernel
theorem bp_61 : (Int8.ofInt (61)).toInt32 = (61 : Int32) := by decide +kernel
theorem bp_63 : (Int8.ofInt (63)).toInt32 = (63 : Int32) := by decide +kernel
theorem bp_90 : (Int8.ofInt (90)).toInt32 = (90 : Int32) := by decide +kernel
theorem bp_97 : (Int8.ofInt (97)).toInt32 = (97 : Int32) := by decide +kernel
theorem bp_99 : (Int8.ofInt (99)).toInt32 = (99 : Int32) := by decide +kernel
theorem bp_100 : (Int8.ofInt (100)).toInt32 = (100 : Int32) := by decide +kernel
theorem bp_122 : (Int8.ofInt (122)).toInt32 = (122 : Int32) := by decide +kernel
theorem bp_127 : (Int8.ofInt (127)).toInt32 = (127 : Int32) := by decide +kernel
theorem ic_m1 : Int32.ofInt (-1) = (-1 : Int32) := by decide +kernel
theorem ic_0 : Int32.ofInt (0) = (0 : Int32) := by decide +kernel
theorem ic_1 : Int32.ofInt (1) = (1 : Int32) := by decide +kernel
theorem ic_2 : Int32.ofInt (2) = (2 : Int32) := by decide +kernel
theorem ic_3 : Int32.ofInt (3) = (3 : Int32) := by decide +kernel
theorem ic_4 : Int32.ofInt (4) = (4 : Int32) := by decide +kernel
theorem ic_5 : Int32.ofInt (5) = (5 : Int32) := by decide +kernel
theorem ic_10 : Int32.ofInt (10) = (10 : Int32) := by decide +kernel
theorem lc_0 : Int64.ofNat (((0 : Fin 2) : Nat)) = (0 : Int64) := by decide +kernel
theorem lc_1 : Int64.ofNat (((1 : Fin 2) : Nat)) = (1 : Int64) := by decide +kernel
theorem sp_m1000 : (Int16.ofInt (-1000)).toInt32 = (-1000 : Int32) := by decide +kernel
theorem sp_160 : (Int16.ofInt (160)).toInt32 = (160 : Int32) := by decide +kernel
theorem sp_200 : (Int16.ofInt (200)).toInt32 = (200 : Int32) := by decide +kernel
theorem sp_255 : (Int16.ofInt (255)).toInt32 = (255 : Int32) := by decide +kernel
theorem sp_999 : (Int16.ofInt (999)).toInt32 = (999 : Int32) := by decide +kernel
theorem sp_3599 : (Int16.ofInt (3599)).toInt32 = (3599 : Int32) := by decide +kernel
theorem mi_X2_afloat : MV yX2_afloat cX2_afloat 1 (some .int) 0 := ⟨q_364, q_54, ⟨q_362, q_363⟩, by decide +kernel, by decide⟩
theorem mi_J6_bitCount_0f7a4 : MS yJ6_bitCount_0f7a4 cJ6_bitCount_0f7a4 1 (some .int) 1 := ⟨q_367, q_60, q_366, by decide +kernel, by decide⟩
theorem mi_J13_bitCount_95d88 : MS yJ13_bitCount_95d88 cJ13_bitCount_95d88 2 (some .int) 1 := ⟨q_373, q_61, q_372, by decide +kernel, by decide⟩
theorem mi_X4_within : MS yX4_within cX4_within 3 (some .boolean) 3 := ⟨q_386, q_50, q_385, by decide +kernel, by decide⟩
theorem mi_X4_isCell : MS yX4_isCell cX4_isCell 1 (some .boolean) 1 := ⟨q_383, q_50, q_382, by decide +kernel, by decide⟩
theorem mi_X2_hasRock : MV yX2_hasRock cX2_hasRock 2 (some .boolean) 1 := ⟨q_390, q_54, ⟨q_388, q_389⟩, by decide +kernel, by decide⟩
theorem mi_X2_hear : MV yX2_hear cX2_hear 5 none 2 := ⟨q_399, q_54, ⟨q_397, q_398⟩, by decide +kernel, by decide⟩
theorem mi_X4_isByte : MS yX4_isByte cX4_isByte 1 (some .boolean) 1 := ⟨q_420, q_50, q_419, by decide +kernel, by decide⟩
theorem mi_J0_coder_7d493 : MV yJ0_coder_7d493 cJ0_coder_7d493 1 (some .byte) 0 := ⟨q_206, q_55, ⟨q_204, q_205⟩, by decide +kernel, by decide⟩
theorem mi_J3_checkIndex_8e157 : MS yJ3_checkIndex_8e157 cJ3_checkIndex_8e157 3 (some .int) 3 := ⟨q_227, q_57, q_226, by decide +kernel, by decide⟩
theorem mi_J0_checkIndex_df160 : MS yJ0_checkIndex_df160 cJ0_checkIndex_df160 2 none 2 := ⟨q_222, q_55, q_221, by decide +kernel, by decide⟩
theorem mi_J0_isLatin1_aae02 : MV yJ0_isLatin1_aae02 cJ0_isLatin1_aae02 1 (some .boolean) 0 := ⟨q_216, q_55, ⟨q_214, q_215⟩, by decide +kernel, by decide⟩
theorem mi_J1_charAt_3b067 : MS yJ1_charAt_3b067 cJ1_charAt_3b067 2 (some .char) 2 := ⟨q_219, q_56, q_218, by decide +kernel, by decide⟩
theorem mi_J0_length_8abf5 : MV yJ0_length_8abf5 cJ0_length_8abf5 1 (some .int) 0 := ⟨q_202, q_55, ⟨q_200, q_201⟩, by decide +kernel, by decide⟩
theorem mi_J0_charAt_5068e : MV yJ0_charAt_5068e cJ0_charAt_5068e 2 (some .char) 1 := ⟨q_212, q_55, ⟨q_210, q_211⟩, by decide +kernel, by decide⟩
theorem mi_X1_spells : MV yX1_spells cX1_spells 3 (some .boolean) 1 := ⟨q_270, q_51, ⟨q_269, q_2⟩, by decide +kernel, by decide⟩
theorem mi_X1_isLetter : MS yX1_isLetter cX1_isLetter 1 (some .boolean) 1 := ⟨q_261, q_51, q_260, by decide +kernel, by decide⟩
theorem mi_X1_isDigit : MS yX1_isDigit cX1_isDigit 1 (some .boolean) 1 := ⟨q_286, q_51, q_285, by decide +kernel, by decide⟩
theorem mi_X1_signOf : MS yX1_signOf cX1_signOf 1 (some .int) 1 := ⟨q_293, q_51, q_292, by decide +kernel, by decide⟩
theorem mi_X1_number : MV yX1_number cX1_number 2 (some .int) 0 := ⟨q_290, q_51, ⟨q_289, q_3⟩, by decide +kernel, by decide⟩
theorem mi_X1_word : MV yX1_word cX1_word 1 (some .int) 0 := ⟨q_265, q_51, ⟨q_264, q_1⟩, by decide +kernel, by decide⟩
theorem mi_X1_advance : MV yX1_advance cX1_advance 1 none 0 := ⟨q_258, q_51, ⟨q_257, q_0⟩, by decide +kernel, by decide⟩
theorem mi_X1_fail : MV yX1_fail cX1_fail 1 none 0 := ⟨q_301, q_51, ⟨q_300, q_5⟩, by decide +kernel, by decide⟩
theorem mi_X1_mayOpen : MV yX1_mayOpen cX1_mayOpen 2 (some .boolean) 1 := ⟨q_317, q_51, ⟨q_316, q_8⟩, by decide +kernel, by decide⟩
theorem mi_X1_joined : MV yX1_joined cX1_joined 6 none 2 := ⟨q_305, q_51, ⟨q_304, q_6⟩, by decide +kernel, by decide⟩
theorem mi_X1_one : MV yX1_one cX1_one 2 none 1 := ⟨q_309, q_51, ⟨q_308, q_7⟩, by decide +kernel, by decide⟩
theorem mi_X0_add : MV yX0_add cX0_add 2 none 1 := ⟨q_313, q_52, ⟨q_311, q_312⟩, by decide +kernel, by decide⟩
theorem mi_X1_rankOf : MS yX1_rankOf cX1_rankOf 1 (some .int) 1 := ⟨q_320, q_51, q_319, by decide +kernel, by decide⟩
theorem mi_X0_clear : MV yX0_clear cX0_clear 1 none 0 := ⟨q_254, q_52, ⟨q_252, q_253⟩, by decide +kernel, by decide⟩
theorem mi_X1_expect : MV yX1_expect cX1_expect 2 none 1 := ⟨q_297, q_51, ⟨q_296, q_4⟩, by decide +kernel, by decide⟩
theorem mi_X0_endPart : MV yX0_endPart cX0_endPart 2 none 1 := ⟨q_324, q_52, ⟨q_322, q_323⟩, by decide +kernel, by decide⟩
theorem mi_X1_read : MV yX1_read cX1_read 5 (some .int) 3 := ⟨q_250, q_51, ⟨q_248, q_249⟩, by decide +kernel, by decide⟩
theorem mi_X0_joined : MS yX0_joined cX0_joined 3 (some .int) 3 := ⟨q_450, q_52, q_449, by decide +kernel, by decide⟩
theorem mi_X0_named : MS yX0_named cX0_named 4 (some .int) 4 := ⟨q_447, q_52, q_446, by decide +kernel, by decide⟩
theorem mi_X0_worth : MV yX0_worth cX0_worth 9 (some .int) 4 := ⟨q_444, q_52, ⟨q_442, q_443⟩, by decide +kernel, by decide⟩
theorem mi_X2_says : MV yX2_says cX2_says 6 (some .int) 3 := ⟨q_440, q_54, ⟨q_438, q_439⟩, by decide +kernel, by decide⟩
theorem mi_X4_isShip : MV yX4_isShip cX4_isShip 2 (some .boolean) 1 := ⟨q_436, q_50, ⟨q_435, q_9⟩, by decide +kernel, by decide⟩
theorem mi_X2_launch : MV yX2_launch cX2_launch 4 (some .int) 2 := ⟨q_458, q_54, ⟨q_456, q_457⟩, by decide +kernel, by decide⟩
theorem mi_X2_liking : MV yX2_liking cX2_liking 4 (some .int) 2 := ⟨q_478, q_54, ⟨q_476, q_477⟩, by decide +kernel, by decide⟩
theorem mi_X2_beside : MS yX2_beside cX2_beside 2 (some .int) 2 := ⟨q_482, q_54, q_481, by decide +kernel, by decide⟩
theorem mi_X2_isLost : MV yX2_isLost cX2_isLost 2 (some .boolean) 1 := ⟨q_470, q_54, ⟨q_468, q_469⟩, by decide +kernel, by decide⟩
theorem mi_X2_goal : MV yX2_goal cX2_goal 7 (some .int) 1 := ⟨q_474, q_54, ⟨q_472, q_473⟩, by decide +kernel, by decide⟩
theorem mi_X2_sinking : MV yX2_sinking cX2_sinking 2 (some .boolean) 1 := ⟨q_486, q_54, ⟨q_484, q_485⟩, by decide +kernel, by decide⟩
theorem mi_X2_teaching : MV yX2_teaching cX2_teaching 2 (some .int) 1 := ⟨q_512, q_54, ⟨q_510, q_511⟩, by decide +kernel, by decide⟩
theorem mi_X2_lose : MV yX2_lose cX2_lose 3 none 1 := ⟨q_508, q_54, ⟨q_507, q_10⟩, by decide +kernel, by decide⟩
theorem mi_X2_passNight : MV yX2_passNight cX2_passNight 2 none 0 := ⟨q_500, q_54, ⟨q_498, q_499⟩, by decide +kernel, by decide⟩
theorem mi_X2_become : MV yX2_become cX2_become 2 none 1 := ⟨q_524, q_54, ⟨q_522, q_523⟩, by decide +kernel, by decide⟩
theorem mi_X4_think : MV yX4_think cX4_think 1 none 0 := ⟨q_520, q_50, ⟨q_519, q_11⟩, by decide +kernel, by decide⟩
theorem mi_X2_lossesIn : MV yX2_lossesIn cX2_lossesIn 4 (some .int) 1 := ⟨q_531, q_54, ⟨q_529, q_530⟩, by decide +kernel, by decide⟩
theorem mi_X2_allBelief : MV yX2_allBelief cX2_allBelief 3 (some .int) 0 := ⟨q_537, q_54, ⟨q_535, q_536⟩, by decide +kernel, by decide⟩
theorem mi_X2_brightest : MV yX2_brightest cX2_brightest 6 (some .long) 0 := ⟨q_554, q_54, ⟨q_552, q_553⟩, by decide +kernel, by decide⟩
theorem mi_X2_surelyRocks : MV yX2_surelyRocks cX2_surelyRocks 4 (some .long) 0 := ⟨q_558, q_54, ⟨q_556, q_557⟩, by decide +kernel, by decide⟩
theorem mi_X4_commonDivisor : MS yX4_commonDivisor cX4_commonDivisor 6 (some .int) 2 := ⟨q_588, q_50, q_587, by decide +kernel, by decide⟩
theorem mi_X2_trueBelief : MV yX2_trueBelief cX2_trueBelief 3 (some .int) 0 := ⟨q_582, q_54, ⟨q_580, q_581⟩, by decide +kernel, by decide⟩
theorem mi_X4_inLowestTerms : MS yX4_inLowestTerms cX4_inLowestTerms 4 (some .long) 3 := ⟨q_585, q_50, q_584, by decide +kernel, by decide⟩
theorem mi_X4_isSheet : MS yX4_isSheet cX4_isSheet 1 (some .boolean) 1 := ⟨q_603, q_50, q_602, by decide +kernel, by decide⟩
theorem mi_X4_refusalOfTold : MV yX4_refusalOfTold cX4_refusalOfTold 2 (some .int) 1 := ⟨q_600, q_50, ⟨q_599, q_13⟩, by decide +kernel, by decide⟩
theorem mi_X4_refusalToJudge : MV yX4_refusalToJudge cX4_refusalToJudge 4 (some .int) 2 := ⟨q_596, q_50, ⟨q_595, q_12⟩, by decide +kernel, by decide⟩
theorem mi_X4_firstOtherwise : MV yX4_firstOtherwise cX4_firstOtherwise 5 (some .int) 2 := ⟨q_607, q_50, ⟨q_606, q_14⟩, by decide +kernel, by decide⟩
theorem mi_X3_has : MV yX3_has cX3_has 2 (some .boolean) 1 := ⟨q_643, q_53, ⟨q_641, q_642⟩, by decide +kernel, by decide⟩
theorem mi_X3_become : MV yX3_become cX3_become 4 none 2 := ⟨q_635, q_53, ⟨q_633, q_634⟩, by decide +kernel, by decide⟩
theorem mi_X3_set : MV yX3_set cX3_set 3 none 2 := ⟨q_639, q_53, ⟨q_637, q_638⟩, by decide +kernel, by decide⟩
theorem mi_X4_lossesByTale : MV yX4_lossesByTale cX4_lossesByTale 6 (some .int) 2 := ⟨q_652, q_50, ⟨q_651, q_15⟩, by decide +kernel, by decide⟩
theorem mi_X3_holds : MV yX3_holds cX3_holds 3 (some .boolean) 2 := ⟨q_684, q_53, ⟨q_682, q_683⟩, by decide +kernel, by decide⟩
theorem mi_X4_ship : MV yX4_ship cX4_ship 3 (some .int) 2 := ⟨q_454, q_50, ⟨q_452, q_453⟩, by decide +kernel, by decide⟩
theorem mi_X2_isOne : MV yX2_isOne cX2_isOne 5 (some .boolean) 2 := ⟨q_698, q_54, ⟨q_696, q_697⟩, by decide +kernel, by decide⟩
theorem mi_X5_hasRock : MV yX5_hasRock cX5_hasRock 2 (some .boolean) 1 := ⟨q_884, q_59, ⟨q_883, q_27⟩, by decide +kernel, by decide⟩
theorem mi_X5_afloat : MV yX5_afloat cX5_afloat 3 (some .int) 0 := ⟨q_873, q_59, ⟨q_872, q_25⟩, by decide +kernel, by decide⟩
theorem mi_X5_ones : MS yX5_ones cX5_ones 3 (some .int) 1 := ⟨q_876, q_59, q_875, by decide +kernel, by decide⟩
theorem mi_X5_rockMany : MV yX5_rockMany cX5_rockMany 3 (some .int) 0 := ⟨q_880, q_59, ⟨q_879, q_26⟩, by decide +kernel, by decide⟩
theorem mi_X5_in : MS yX5_in cX5_in 3 (some .boolean) 3 := ⟨q_717, q_59, q_716, by decide +kernel, by decide⟩
theorem mi_X5_isCell : MS yX5_isCell cX5_isCell 1 (some .boolean) 1 := ⟨q_891, q_59, q_890, by decide +kernel, by decide⟩
theorem mi_X5_within : MS yX5_within cX5_within 3 (some .int) 3 := ⟨q_903, q_59, q_902, by decide +kernel, by decide⟩
theorem mi_X5_isToldOf : MV yX5_isToldOf cX5_isToldOf 3 none 2 := ⟨q_900, q_59, ⟨q_899, q_28⟩, by decide +kernel, by decide⟩
theorem mi_X5_isByte : MS yX5_isByte cX5_isByte 1 (some .boolean) 1 := ⟨q_918, q_59, q_917, by decide +kernel, by decide⟩
theorem mi_X5_wordFrom : MV yX5_wordFrom cX5_wordFrom 6 (some .int) 2 := ⟨q_721, q_59, ⟨q_720, q_17⟩, by decide +kernel, by decide⟩
theorem mi_X5_rank : MS yX5_rank cX5_rank 1 (some .int) 1 := ⟨q_737, q_59, q_736, by decide +kernel, by decide⟩
theorem mi_X5_puts : MV yX5_puts cX5_puts 2 none 1 := ⟨q_730, q_59, ⟨q_729, q_19⟩, by decide +kernel, by decide⟩
theorem mi_X5_holds : MV yX5_holds cX5_holds 2 none 1 := ⟨q_745, q_59, ⟨q_744, q_22⟩, by decide +kernel, by decide⟩
theorem mi_X5_unwinds : MV yX5_unwinds cX5_unwinds 3 none 1 := ⟨q_734, q_59, ⟨q_733, q_20⟩, by decide +kernel, by decide⟩
theorem mi_X5_next : MV yX5_next cX5_next 3 none 0 := ⟨q_714, q_59, ⟨q_713, q_16⟩, by decide +kernel, by decide⟩
theorem mi_X5_signOf : MV yX5_signOf cX5_signOf 1 (some .int) 0 := ⟨q_749, q_59, ⟨q_748, q_23⟩, by decide +kernel, by decide⟩
theorem mi_X5_between : MV yX5_between cX5_between 2 (some .boolean) 1 := ⟨q_753, q_59, ⟨q_752, q_24⟩, by decide +kernel, by decide⟩
theorem mi_X5_opensOne : MV yX5_opensOne cX5_opensOne 2 (some .boolean) 1 := ⟨q_741, q_59, ⟨q_740, q_21⟩, by decide +kernel, by decide⟩
theorem mi_X5_eRead : MV yX5_eRead cX5_eRead 4 (some .boolean) 0 := ⟨q_725, q_59, ⟨q_724, q_18⟩, by decide +kernel, by decide⟩
theorem mi_X5_two : MS yX5_two cX5_two 3 (some .int) 3 := ⟨q_942, q_59, q_941, by decide +kernel, by decide⟩
theorem mi_X5_says : MV yX5_says cX5_says 5 (some .int) 1 := ⟨q_939, q_59, ⟨q_938, q_31⟩, by decide +kernel, by decide⟩
theorem mi_X5_asksOf : MV yX5_asksOf cX5_asksOf 4 (some .int) 3 := ⟨q_935, q_59, ⟨q_934, q_30⟩, by decide +kernel, by decide⟩
theorem mi_X5_isShip : MV yX5_isShip cX5_isShip 2 (some .boolean) 1 := ⟨q_931, q_59, ⟨q_930, q_29⟩, by decide +kernel, by decide⟩
theorem mi_X5_likesOf : MV yX5_likesOf cX5_likesOf 5 (some .int) 2 := ⟨q_962, q_59, ⟨q_961, q_33⟩, by decide +kernel, by decide⟩
theorem mi_X5_besideOf : MS yX5_besideOf cX5_besideOf 2 (some .int) 2 := ⟨q_965, q_59, q_964, by decide +kernel, by decide⟩
theorem mi_X5_goesTo : MV yX5_goesTo cX5_goesTo 7 (some .int) 1 := ⟨q_958, q_59, ⟨q_957, q_32⟩, by decide +kernel, by decide⟩
theorem mi_X5_doesSink : MV yX5_doesSink cX5_doesSink 3 (some .boolean) 1 := ⟨q_969, q_59, ⟨q_968, q_34⟩, by decide +kernel, by decide⟩
theorem mi_X5_teachesOf : MV yX5_teachesOf cX5_teachesOf 2 (some .int) 1 := ⟨q_990, q_59, ⟨q_989, q_37⟩, by decide +kernel, by decide⟩
theorem mi_X5_sails : MV yX5_sails cX5_sails 4 none 1 := ⟨q_986, q_59, ⟨q_985, q_36⟩, by decide +kernel, by decide⟩
theorem mi_X5_nightOf : MV yX5_nightOf cX5_nightOf 4 (some .int) 0 := ⟨q_982, q_59, ⟨q_981, q_35⟩, by decide +kernel, by decide⟩
theorem mi_X5_beliefAll : MV yX5_beliefAll cX5_beliefAll 3 (some .int) 0 := ⟨q_1010, q_59, ⟨q_1009, q_41⟩, by decide +kernel, by decide⟩
theorem mi_X5_keeps : MV yX5_keeps cX5_keeps 2 none 0 := ⟨q_998, q_59, ⟨q_997, q_38⟩, by decide +kernel, by decide⟩
theorem mi_X5_goes : MV yX5_goes cX5_goes 4 (some .int) 1 := ⟨q_1002, q_59, ⟨q_1001, q_39⟩, by decide +kernel, by decide⟩
theorem mi_X5_toldBehind : MV yX5_toldBehind cX5_toldBehind 2 (some .int) 1 := ⟨q_1006, q_59, ⟨q_1005, q_40⟩, by decide +kernel, by decide⟩
theorem mi_X5_lays : MV yX5_lays cX5_lays 2 none 0 := ⟨q_1014, q_59, ⟨q_1013, q_42⟩, by decide +kernel, by decide⟩
theorem mi_X5_brightest : MV yX5_brightest cX5_brightest 6 (some .long) 0 := ⟨q_1031, q_59, ⟨q_1030, q_43⟩, by decide +kernel, by decide⟩
theorem mi_X5_lostNow : MV yX5_lostNow cX5_lostNow 3 (some .int) 1 := ⟨q_1039, q_59, ⟨q_1038, q_44⟩, by decide +kernel, by decide⟩
theorem mi_X5_lowest : MS yX5_lowest cX5_lowest 11 (some .long) 3 := ⟨q_1058, q_59, q_1057, by decide +kernel, by decide⟩
theorem mi_X5_sheetWrong : MV yX5_sheetWrong cX5_sheetWrong 2 (some .int) 1 := ⟨q_1070, q_59, ⟨q_1069, q_46⟩, by decide +kernel, by decide⟩
theorem mi_X5_toldWrong : MV yX5_toldWrong cX5_toldWrong 4 (some .int) 2 := ⟨q_1066, q_59, ⟨q_1065, q_45⟩, by decide +kernel, by decide⟩
theorem mi_X5_unlike : MV yX5_unlike cX5_unlike 5 (some .int) 2 := ⟨q_1074, q_59, ⟨q_1073, q_47⟩, by decide +kernel, by decide⟩
theorem mi_X5_tales : MV yX5_tales cX5_tales 7 (some .int) 2 := ⟨q_1107, q_59, ⟨q_1106, q_48⟩, by decide +kernel, by decide⟩
theorem mi_X5_ship : MV yX5_ship cX5_ship 3 (some .int) 2 := ⟨q_946, q_59, ⟨q_944, q_945⟩, by decide +kernel, by decide⟩
theorem mi_X5_isUnder : MS yX5_isUnder cX5_isUnder 2 (some .boolean) 2 := ⟨q_1146, q_59, q_1145, by decide +kernel, by decide⟩
end
section
-- java/lang/Integer.bitCount
theorem dJ6_bitCount_0f7a4_0 : decode cJ6_bitCount_0f7a4 0 = .ok (.iload_n 0, 1) := by decide +kernel
theorem dJ6_bitCount_0f7a4_1 : decode cJ6_bitCount_0f7a4 1 = .ok (.iload_n 0, 1) := by decide +kernel
theorem dJ6_bitCount_0f7a4_2 : decode cJ6_bitCount_0f7a4 2 = .ok (.iconst 1, 1) := by decide +kernel
theorem dJ6_bitCount_0f7a4_3 : decode cJ6_bitCount_0f7a4 3 = .ok (.iushr, 1) := by decide +kernel
theorem dJ6_bitCount_0f7a4_4 : decode cJ6_bitCount_0f7a4 4 = .ok (.ldc_w 265, 3) := by decide +kernel
theorem dJ6_bitCount_0f7a4_7 : decode cJ6_bitCount_0f7a4 7 = .ok (.iand, 1) := by decide +kernel
theorem dJ6_bitCount_0f7a4_8 : decode cJ6_bitCount_0f7a4 8 = .ok (.isub, 1) := by decide +kernel
theorem dJ6_bitCount_0f7a4_9 : decode cJ6_bitCount_0f7a4 9 = .ok (.istore_n 0, 1) := by decide +kernel
theorem dJ6_bitCount_0f7a4_10 : decode cJ6_bitCount_0f7a4 10 = .ok (.iload_n 0, 1) := by decide +kernel
theorem dJ6_bitCount_0f7a4_11 : decode cJ6_bitCount_0f7a4 11 = .ok (.ldc_w 266, 3) := by decide +kernel
theorem dJ6_bitCount_0f7a4_14 : decode cJ6_bitCount_0f7a4 14 = .ok (.iand, 1) := by decide +kernel
theorem dJ6_bitCount_0f7a4_15 : decode cJ6_bitCount_0f7a4 15 = .ok (.iload_n 0, 1) := by decide +kernel
theorem dJ6_bitCount_0f7a4_16 : decode cJ6_bitCount_0f7a4 16 = .ok (.iconst 2, 1) := by decide +kernel
theorem dJ6_bitCount_0f7a4_17 : decode cJ6_bitCount_0f7a4 17 = .ok (.iushr, 1) := by decide +kernel
theorem dJ6_bitCount_0f7a4_18 : decode cJ6_bitCount_0f7a4 18 = .ok (.ldc_w 266, 3) := by decide +kernel
theorem dJ6_bitCount_0f7a4_21 : decode cJ6_bitCount_0f7a4 21 = .ok (.iand, 1) := by decide +kernel
theorem dJ6_bitCount_0f7a4_22 : decode cJ6_bitCount_0f7a4 22 = .ok (.iadd, 1) := by decide +kernel
theorem dJ6_bitCount_0f7a4_23 : decode cJ6_bitCount_0f7a4 23 = .ok (.istore_n 0, 1) := by decide +kernel
theorem dJ6_bitCount_0f7a4_24 : decode cJ6_bitCount_0f7a4 24 = .ok (.iload_n 0, 1) := by decide +kernel
theorem dJ6_bitCount_0f7a4_25 : decode cJ6_bitCount_0f7a4 25 = .ok (.iload_n 0, 1) := by decide +kernel
theorem dJ6_bitCount_0f7a4_26 : decode cJ6_bitCount_0f7a4 26 = .ok (.iconst 4, 1) := by decide +kernel
theorem dJ6_bitCount_0f7a4_27 : decode cJ6_bitCount_0f7a4 27 = .ok (.iushr, 1) := by decide +kernel
theorem dJ6_bitCount_0f7a4_28 : decode cJ6_bitCount_0f7a4 28 = .ok (.iadd, 1) := by decide +kernel
theorem dJ6_bitCount_0f7a4_29 : decode cJ6_bitCount_0f7a4 29 = .ok (.ldc_w 267, 3) := by decide +kernel
theorem dJ6_bitCount_0f7a4_32 : decode cJ6_bitCount_0f7a4 32 = .ok (.iand, 1) := by decide +kernel
theorem dJ6_bitCount_0f7a4_33 : decode cJ6_bitCount_0f7a4 33 = .ok (.istore_n 0, 1) := by decide +kernel
theorem dJ6_bitCount_0f7a4_34 : decode cJ6_bitCount_0f7a4 34 = .ok (.iload_n 0, 1) := by decide +kernel
theorem dJ6_bitCount_0f7a4_35 : decode cJ6_bitCount_0f7a4 35 = .ok (.iload_n 0, 1) := by decide +kernel
theorem dJ6_bitCount_0f7a4_36 : decode cJ6_bitCount_0f7a4 36 = .ok (.bipush 8, 2) := by decide +kernel
theorem dJ6_bitCount_0f7a4_38 : decode cJ6_bitCount_0f7a4 38 = .ok (.iushr, 1) := by decide +kernel
theorem dJ6_bitCount_0f7a4_39 : decode cJ6_bitCount_0f7a4 39 = .ok (.iadd, 1) := by decide +kernel
theorem dJ6_bitCount_0f7a4_40 : decode cJ6_bitCount_0f7a4 40 = .ok (.istore_n 0, 1) := by decide +kernel
theorem dJ6_bitCount_0f7a4_41 : decode cJ6_bitCount_0f7a4 41 = .ok (.iload_n 0, 1) := by decide +kernel
theorem dJ6_bitCount_0f7a4_42 : decode cJ6_bitCount_0f7a4 42 = .ok (.iload_n 0, 1) := by decide +kernel
theorem dJ6_bitCount_0f7a4_43 : decode cJ6_bitCount_0f7a4 43 = .ok (.bipush 16, 2) := by decide +kernel
theorem dJ6_bitCount_0f7a4_45 : decode cJ6_bitCount_0f7a4 45 = .ok (.iushr, 1) := by decide +kernel
theorem dJ6_bitCount_0f7a4_46 : decode cJ6_bitCount_0f7a4 46 = .ok (.iadd, 1) := by decide +kernel
theorem dJ6_bitCount_0f7a4_47 : decode cJ6_bitCount_0f7a4 47 = .ok (.istore_n 0, 1) := by decide +kernel
theorem dJ6_bitCount_0f7a4_48 : decode cJ6_bitCount_0f7a4 48 = .ok (.iload_n 0, 1) := by decide +kernel
theorem dJ6_bitCount_0f7a4_49 : decode cJ6_bitCount_0f7a4 49 = .ok (.bipush 63, 2) := by decide +kernel
theorem dJ6_bitCount_0f7a4_51 : decode cJ6_bitCount_0f7a4 51 = .ok (.iand, 1) := by decide +kernel
theorem dJ6_bitCount_0f7a4_52 : decode cJ6_bitCount_0f7a4 52 = .ok (.ireturn, 1) := by decide +kernel
def f_J6_bitCount_0f7a4 (x0 : Int32) (σ : GX) : Option (Int32 × GX) :=
  bnd (some (x0 - ((usI x0 (1 : Int32)) &&& (1431655765 : Int32)))) fun w1 => bnd (some ((w1 &&& (858993459 : Int32)) + ((usI w1 (2 : Int32)) &&& (858993459 : Int32)))) fun w2 => bnd (some ((w2 + (usI w2 (4 : Int32))) &&& (252645135 : Int32))) fun w3 => bnd (some (w3 + (usI w3 (8 : Int32)))) fun w4 => bnd (some (w4 + (usI w4 (16 : Int32)))) fun w5 => some ((w5 &&& (63 : Int32)), σ)
theorem vf_J6_bitCount_0f7a4 {g : Gt} {ad : Nat → Nat} (z : Zt) (x0 : Int32) (σ : GX) : V g (LX ad) 1 RJ6 cJ6_bitCount_0f7a4 1 (some .int) (wX g ad) iI z (f_J6_bitCount_0f7a4 x0 σ) σ 0 [(0, .int x0)] [] := by
  unfold f_J6_bitCount_0f7a4
  refine v_iload_n (pc := 0) (i := 0) dJ6_bitCount_0f7a4_0 rfl rfl ?_
  refine v_iload_n (pc := 1) (i := 0) dJ6_bitCount_0f7a4_1 rfl rfl ?_
  refine v_iconst (pc := 2) dJ6_bitCount_0f7a4_2 ic_1 ?_
  refine v_iushr (pc := 3) dJ6_bitCount_0f7a4_3 ?_
  refine v_ldcw (pc := 4) dJ6_bitCount_0f7a4_4 q_368 ?_
  refine v_iand (pc := 7) dJ6_bitCount_0f7a4_7 ?_
  refine v_isub (pc := 8) dJ6_bitCount_0f7a4_8 ?_
  refine v_nmi (fun w1 => ?_)
  refine v_istore_n (pc := 9) (lv' := [(0, .int w1)]) (i := 0) dJ6_bitCount_0f7a4_9 rfl (by decide) rfl ?_
  refine v_iload_n (pc := 10) (i := 0) dJ6_bitCount_0f7a4_10 rfl rfl ?_
  refine v_ldcw (pc := 11) dJ6_bitCount_0f7a4_11 q_369 ?_
  refine v_iand (pc := 14) dJ6_bitCount_0f7a4_14 ?_
  refine v_iload_n (pc := 15) (i := 0) dJ6_bitCount_0f7a4_15 rfl rfl ?_
  refine v_iconst (pc := 16) dJ6_bitCount_0f7a4_16 ic_2 ?_
  refine v_iushr (pc := 17) dJ6_bitCount_0f7a4_17 ?_
  refine v_ldcw (pc := 18) dJ6_bitCount_0f7a4_18 q_369 ?_
  refine v_iand (pc := 21) dJ6_bitCount_0f7a4_21 ?_
  refine v_iadd (pc := 22) dJ6_bitCount_0f7a4_22 ?_
  refine v_nmi (fun w2 => ?_)
  refine v_istore_n (pc := 23) (lv' := [(0, .int w2)]) (i := 0) dJ6_bitCount_0f7a4_23 rfl (by decide) rfl ?_
  refine v_iload_n (pc := 24) (i := 0) dJ6_bitCount_0f7a4_24 rfl rfl ?_
  refine v_iload_n (pc := 25) (i := 0) dJ6_bitCount_0f7a4_25 rfl rfl ?_
  refine v_iconst (pc := 26) dJ6_bitCount_0f7a4_26 ic_4 ?_
  refine v_iushr (pc := 27) dJ6_bitCount_0f7a4_27 ?_
  refine v_iadd (pc := 28) dJ6_bitCount_0f7a4_28 ?_
  refine v_ldcw (pc := 29) dJ6_bitCount_0f7a4_29 q_370 ?_
  refine v_iand (pc := 32) dJ6_bitCount_0f7a4_32 ?_
  refine v_nmi (fun w3 => ?_)
  refine v_istore_n (pc := 33) (lv' := [(0, .int w3)]) (i := 0) dJ6_bitCount_0f7a4_33 rfl (by decide) rfl ?_
  refine v_iload_n (pc := 34) (i := 0) dJ6_bitCount_0f7a4_34 rfl rfl ?_
  refine v_iload_n (pc := 35) (i := 0) dJ6_bitCount_0f7a4_35 rfl rfl ?_
  refine v_bipush (pc := 36) dJ6_bitCount_0f7a4_36 bp_8 ?_
  refine v_iushr (pc := 38) dJ6_bitCount_0f7a4_38 ?_
  refine v_iadd (pc := 39) dJ6_bitCount_0f7a4_39 ?_
  refine v_nmi (fun w4 => ?_)
  refine v_istore_n (pc := 40) (lv' := [(0, .int w4)]) (i := 0) dJ6_bitCount_0f7a4_40 rfl (by decide) rfl ?_
  refine v_iload_n (pc := 41) (i := 0) dJ6_bitCount_0f7a4_41 rfl rfl ?_
  refine v_iload_n (pc := 42) (i := 0) dJ6_bitCount_0f7a4_42 rfl rfl ?_
  refine v_bipush (pc := 43) dJ6_bitCount_0f7a4_43 bp_16 ?_
  refine v_iushr (pc := 45) dJ6_bitCount_0f7a4_45 ?_
  refine v_iadd (pc := 46) dJ6_bitCount_0f7a4_46 ?_
  refine v_nmi (fun w5 => ?_)
  refine v_istore_n (pc := 47) (lv' := [(0, .int w5)]) (i := 0) dJ6_bitCount_0f7a4_47 rfl (by decide) rfl ?_
  refine v_iload_n (pc := 48) (i := 0) dJ6_bitCount_0f7a4_48 rfl rfl ?_
  refine v_bipush (pc := 49) dJ6_bitCount_0f7a4_49 bp_63 ?_
  refine v_iand (pc := 51) dJ6_bitCount_0f7a4_51 ?_
  exact v_iret (pc := 52) dJ6_bitCount_0f7a4_52
theorem ct_J6_bitCount_0f7a4 {g : Gt} {ad : Nat → Nat} (x0 : Int32) : CT g (LX ad) yJ6_bitCount_0f7a4 cJ6_bitCount_0f7a4 1 (some .int) 1 [.int x0] iI (wX g ad) (f_J6_bitCount_0f7a4 x0) :=
  ct_of_V (own := RJ6) (lv0 := [(0, .int x0)]) (by decide +kernel) rfl (Nat.le_of_ble_eq_true rfl) rfl (fun z σ => vf_J6_bitCount_0f7a4 z x0 σ)
-- java/lang/Long.bitCount
theorem dJ13_bitCount_95d88_0 : decode cJ13_bitCount_95d88 0 = .ok (.lload_n 0, 1) := by decide +kernel
theorem dJ13_bitCount_95d88_1 : decode cJ13_bitCount_95d88 1 = .ok (.lload_n 0, 1) := by decide +kernel
theorem dJ13_bitCount_95d88_2 : decode cJ13_bitCount_95d88 2 = .ok (.iconst 1, 1) := by decide +kernel
theorem dJ13_bitCount_95d88_3 : decode cJ13_bitCount_95d88 3 = .ok (.lushr, 1) := by decide +kernel
theorem dJ13_bitCount_95d88_4 : decode cJ13_bitCount_95d88 4 = .ok (.ldc2_w 314, 3) := by decide +kernel
theorem dJ13_bitCount_95d88_7 : decode cJ13_bitCount_95d88 7 = .ok (.land, 1) := by decide +kernel
theorem dJ13_bitCount_95d88_8 : decode cJ13_bitCount_95d88 8 = .ok (.lsub, 1) := by decide +kernel
theorem dJ13_bitCount_95d88_9 : decode cJ13_bitCount_95d88 9 = .ok (.lstore_n 0, 1) := by decide +kernel
theorem dJ13_bitCount_95d88_10 : decode cJ13_bitCount_95d88 10 = .ok (.lload_n 0, 1) := by decide +kernel
theorem dJ13_bitCount_95d88_11 : decode cJ13_bitCount_95d88 11 = .ok (.ldc2_w 316, 3) := by decide +kernel
theorem dJ13_bitCount_95d88_14 : decode cJ13_bitCount_95d88 14 = .ok (.land, 1) := by decide +kernel
theorem dJ13_bitCount_95d88_15 : decode cJ13_bitCount_95d88 15 = .ok (.lload_n 0, 1) := by decide +kernel
theorem dJ13_bitCount_95d88_16 : decode cJ13_bitCount_95d88 16 = .ok (.iconst 2, 1) := by decide +kernel
theorem dJ13_bitCount_95d88_17 : decode cJ13_bitCount_95d88 17 = .ok (.lushr, 1) := by decide +kernel
theorem dJ13_bitCount_95d88_18 : decode cJ13_bitCount_95d88 18 = .ok (.ldc2_w 316, 3) := by decide +kernel
theorem dJ13_bitCount_95d88_21 : decode cJ13_bitCount_95d88 21 = .ok (.land, 1) := by decide +kernel
theorem dJ13_bitCount_95d88_22 : decode cJ13_bitCount_95d88 22 = .ok (.ladd, 1) := by decide +kernel
theorem dJ13_bitCount_95d88_23 : decode cJ13_bitCount_95d88 23 = .ok (.lstore_n 0, 1) := by decide +kernel
theorem dJ13_bitCount_95d88_24 : decode cJ13_bitCount_95d88 24 = .ok (.lload_n 0, 1) := by decide +kernel
theorem dJ13_bitCount_95d88_25 : decode cJ13_bitCount_95d88 25 = .ok (.lload_n 0, 1) := by decide +kernel
theorem dJ13_bitCount_95d88_26 : decode cJ13_bitCount_95d88 26 = .ok (.iconst 4, 1) := by decide +kernel
theorem dJ13_bitCount_95d88_27 : decode cJ13_bitCount_95d88 27 = .ok (.lushr, 1) := by decide +kernel
theorem dJ13_bitCount_95d88_28 : decode cJ13_bitCount_95d88 28 = .ok (.ladd, 1) := by decide +kernel
theorem dJ13_bitCount_95d88_29 : decode cJ13_bitCount_95d88 29 = .ok (.ldc2_w 318, 3) := by decide +kernel
theorem dJ13_bitCount_95d88_32 : decode cJ13_bitCount_95d88 32 = .ok (.land, 1) := by decide +kernel
theorem dJ13_bitCount_95d88_33 : decode cJ13_bitCount_95d88 33 = .ok (.lstore_n 0, 1) := by decide +kernel
theorem dJ13_bitCount_95d88_34 : decode cJ13_bitCount_95d88 34 = .ok (.lload_n 0, 1) := by decide +kernel
theorem dJ13_bitCount_95d88_35 : decode cJ13_bitCount_95d88 35 = .ok (.lload_n 0, 1) := by decide +kernel
theorem dJ13_bitCount_95d88_36 : decode cJ13_bitCount_95d88 36 = .ok (.bipush 8, 2) := by decide +kernel
theorem dJ13_bitCount_95d88_38 : decode cJ13_bitCount_95d88 38 = .ok (.lushr, 1) := by decide +kernel
theorem dJ13_bitCount_95d88_39 : decode cJ13_bitCount_95d88 39 = .ok (.ladd, 1) := by decide +kernel
theorem dJ13_bitCount_95d88_40 : decode cJ13_bitCount_95d88 40 = .ok (.lstore_n 0, 1) := by decide +kernel
theorem dJ13_bitCount_95d88_41 : decode cJ13_bitCount_95d88 41 = .ok (.lload_n 0, 1) := by decide +kernel
theorem dJ13_bitCount_95d88_42 : decode cJ13_bitCount_95d88 42 = .ok (.lload_n 0, 1) := by decide +kernel
theorem dJ13_bitCount_95d88_43 : decode cJ13_bitCount_95d88 43 = .ok (.bipush 16, 2) := by decide +kernel
theorem dJ13_bitCount_95d88_45 : decode cJ13_bitCount_95d88 45 = .ok (.lushr, 1) := by decide +kernel
theorem dJ13_bitCount_95d88_46 : decode cJ13_bitCount_95d88 46 = .ok (.ladd, 1) := by decide +kernel
theorem dJ13_bitCount_95d88_47 : decode cJ13_bitCount_95d88 47 = .ok (.lstore_n 0, 1) := by decide +kernel
theorem dJ13_bitCount_95d88_48 : decode cJ13_bitCount_95d88 48 = .ok (.lload_n 0, 1) := by decide +kernel
theorem dJ13_bitCount_95d88_49 : decode cJ13_bitCount_95d88 49 = .ok (.lload_n 0, 1) := by decide +kernel
theorem dJ13_bitCount_95d88_50 : decode cJ13_bitCount_95d88 50 = .ok (.bipush 32, 2) := by decide +kernel
theorem dJ13_bitCount_95d88_52 : decode cJ13_bitCount_95d88 52 = .ok (.lushr, 1) := by decide +kernel
theorem dJ13_bitCount_95d88_53 : decode cJ13_bitCount_95d88 53 = .ok (.ladd, 1) := by decide +kernel
theorem dJ13_bitCount_95d88_54 : decode cJ13_bitCount_95d88 54 = .ok (.lstore_n 0, 1) := by decide +kernel
theorem dJ13_bitCount_95d88_55 : decode cJ13_bitCount_95d88 55 = .ok (.lload_n 0, 1) := by decide +kernel
theorem dJ13_bitCount_95d88_56 : decode cJ13_bitCount_95d88 56 = .ok (.l2i, 1) := by decide +kernel
theorem dJ13_bitCount_95d88_57 : decode cJ13_bitCount_95d88 57 = .ok (.bipush 127, 2) := by decide +kernel
theorem dJ13_bitCount_95d88_59 : decode cJ13_bitCount_95d88 59 = .ok (.iand, 1) := by decide +kernel
theorem dJ13_bitCount_95d88_60 : decode cJ13_bitCount_95d88 60 = .ok (.ireturn, 1) := by decide +kernel
def f_J13_bitCount_95d88 (x0 : Int64) (σ : GX) : Option (Int32 × GX) :=
  bnd (some (x0 - ((usL x0 (1 : Int32)) &&& (6148914691236517205 : Int64)))) fun w1 => bnd (some ((w1 &&& (3689348814741910323 : Int64)) + ((usL w1 (2 : Int32)) &&& (3689348814741910323 : Int64)))) fun w2 => bnd (some ((w2 + (usL w2 (4 : Int32))) &&& (1085102592571150095 : Int64))) fun w3 => bnd (some (w3 + (usL w3 (8 : Int32)))) fun w4 => bnd (some (w4 + (usL w4 (16 : Int32)))) fun w5 => bnd (some (w5 + (usL w5 (32 : Int32)))) fun w6 => some ((w6.toInt32 &&& (127 : Int32)), σ)
theorem vf_J13_bitCount_95d88 {g : Gt} {ad : Nat → Nat} (z : Zt) (x0 : Int64) (σ : GX) : V g (LX ad) 1 RJ13 cJ13_bitCount_95d88 2 (some .int) (wX g ad) iI z (f_J13_bitCount_95d88 x0 σ) σ 0 [(0, .long x0)] [] := by
  unfold f_J13_bitCount_95d88
  refine v_lload_n (pc := 0) (i := 0) dJ13_bitCount_95d88_0 rfl rfl ?_
  refine v_lload_n (pc := 1) (i := 0) dJ13_bitCount_95d88_1 rfl rfl ?_
  refine v_iconst (pc := 2) dJ13_bitCount_95d88_2 ic_1 ?_
  refine v_lushr (pc := 3) dJ13_bitCount_95d88_3 ?_
  refine v_ldc2 (pc := 4) dJ13_bitCount_95d88_4 q_374 ?_
  refine v_land (pc := 7) dJ13_bitCount_95d88_7 ?_
  refine v_lsub (pc := 8) dJ13_bitCount_95d88_8 ?_
  refine v_nml (fun w1 => ?_)
  refine v_lstore_n (pc := 9) (lv' := [(0, .long w1)]) (i := 0) dJ13_bitCount_95d88_9 rfl (by decide) rfl ?_
  refine v_lload_n (pc := 10) (i := 0) dJ13_bitCount_95d88_10 rfl rfl ?_
  refine v_ldc2 (pc := 11) dJ13_bitCount_95d88_11 q_375 ?_
  refine v_land (pc := 14) dJ13_bitCount_95d88_14 ?_
  refine v_lload_n (pc := 15) (i := 0) dJ13_bitCount_95d88_15 rfl rfl ?_
  refine v_iconst (pc := 16) dJ13_bitCount_95d88_16 ic_2 ?_
  refine v_lushr (pc := 17) dJ13_bitCount_95d88_17 ?_
  refine v_ldc2 (pc := 18) dJ13_bitCount_95d88_18 q_375 ?_
  refine v_land (pc := 21) dJ13_bitCount_95d88_21 ?_
  refine v_ladd (pc := 22) dJ13_bitCount_95d88_22 ?_
  refine v_nml (fun w2 => ?_)
  refine v_lstore_n (pc := 23) (lv' := [(0, .long w2)]) (i := 0) dJ13_bitCount_95d88_23 rfl (by decide) rfl ?_
  refine v_lload_n (pc := 24) (i := 0) dJ13_bitCount_95d88_24 rfl rfl ?_
  refine v_lload_n (pc := 25) (i := 0) dJ13_bitCount_95d88_25 rfl rfl ?_
  refine v_iconst (pc := 26) dJ13_bitCount_95d88_26 ic_4 ?_
  refine v_lushr (pc := 27) dJ13_bitCount_95d88_27 ?_
  refine v_ladd (pc := 28) dJ13_bitCount_95d88_28 ?_
  refine v_ldc2 (pc := 29) dJ13_bitCount_95d88_29 q_376 ?_
  refine v_land (pc := 32) dJ13_bitCount_95d88_32 ?_
  refine v_nml (fun w3 => ?_)
  refine v_lstore_n (pc := 33) (lv' := [(0, .long w3)]) (i := 0) dJ13_bitCount_95d88_33 rfl (by decide) rfl ?_
  refine v_lload_n (pc := 34) (i := 0) dJ13_bitCount_95d88_34 rfl rfl ?_
  refine v_lload_n (pc := 35) (i := 0) dJ13_bitCount_95d88_35 rfl rfl ?_
  refine v_bipush (pc := 36) dJ13_bitCount_95d88_36 bp_8 ?_
  refine v_lushr (pc := 38) dJ13_bitCount_95d88_38 ?_
  refine v_ladd (pc := 39) dJ13_bitCount_95d88_39 ?_
  refine v_nml (fun w4 => ?_)
  refine v_lstore_n (pc := 40) (lv' := [(0, .long w4)]) (i := 0) dJ13_bitCount_95d88_40 rfl (by decide) rfl ?_
  refine v_lload_n (pc := 41) (i := 0) dJ13_bitCount_95d88_41 rfl rfl ?_
  refine v_lload_n (pc := 42) (i := 0) dJ13_bitCount_95d88_42 rfl rfl ?_
  refine v_bipush (pc := 43) dJ13_bitCount_95d88_43 bp_16 ?_
  refine v_lushr (pc := 45) dJ13_bitCount_95d88_45 ?_
  refine v_ladd (pc := 46) dJ13_bitCount_95d88_46 ?_
  refine v_nml (fun w5 => ?_)
  refine v_lstore_n (pc := 47) (lv' := [(0, .long w5)]) (i := 0) dJ13_bitCount_95d88_47 rfl (by decide) rfl ?_
  refine v_lload_n (pc := 48) (i := 0) dJ13_bitCount_95d88_48 rfl rfl ?_
  refine v_lload_n (pc := 49) (i := 0) dJ13_bitCount_95d88_49 rfl rfl ?_
  refine v_bipush (pc := 50) dJ13_bitCount_95d88_50 bp_32 ?_
  refine v_lushr (pc := 52) dJ13_bitCount_95d88_52 ?_
  refine v_ladd (pc := 53) dJ13_bitCount_95d88_53 ?_
  refine v_nml (fun w6 => ?_)
  refine v_lstore_n (pc := 54) (lv' := [(0, .long w6)]) (i := 0) dJ13_bitCount_95d88_54 rfl (by decide) rfl ?_
  refine v_lload_n (pc := 55) (i := 0) dJ13_bitCount_95d88_55 rfl rfl ?_
  refine v_l2i (pc := 56) dJ13_bitCount_95d88_56 ?_
  refine v_bipush (pc := 57) dJ13_bitCount_95d88_57 bp_127 ?_
  refine v_iand (pc := 59) dJ13_bitCount_95d88_59 ?_
  exact v_iret (pc := 60) dJ13_bitCount_95d88_60
theorem ct_J13_bitCount_95d88 {g : Gt} {ad : Nat → Nat} (x0 : Int64) : CT g (LX ad) yJ13_bitCount_95d88 cJ13_bitCount_95d88 2 (some .int) 1 [.long x0] iI (wX g ad) (f_J13_bitCount_95d88 x0) :=
  ct_of_V (own := RJ13) (lv0 := [(0, .long x0)]) (by decide +kernel) rfl (Nat.le_of_ble_eq_true rfl) rfl (fun z σ => vf_J13_bitCount_95d88 z x0 σ)
-- java/lang/String.coder
theorem dJ0_coder_7d493_0 : decode cJ0_coder_7d493 0 = .ok (.getstatic 38, 3) := by decide +kernel
theorem dJ0_coder_7d493_3 : decode cJ0_coder_7d493 3 = .ok (.ifCond .eq 10, 3) := by decide +kernel
theorem dJ0_coder_7d493_6 : decode cJ0_coder_7d493 6 = .ok (.aload_n 0, 1) := by decide +kernel
theorem dJ0_coder_7d493_7 : decode cJ0_coder_7d493 7 = .ok (.getfield 15, 3) := by decide +kernel
theorem dJ0_coder_7d493_10 : decode cJ0_coder_7d493 10 = .ok (.goto 4, 3) := by decide +kernel
theorem dJ0_coder_7d493_13 : decode cJ0_coder_7d493 13 = .ok (.iconst 1, 1) := by decide +kernel
theorem dJ0_coder_7d493_14 : decode cJ0_coder_7d493 14 = .ok (.ireturn, 1) := by decide +kernel
def f_J0_coder_7d493 (w : Nat) (σ : GX) : Option (Int32 × GX) :=
  if (1 : Int32) = 0 then (some ((1 : Int32), σ)) else (some ((0 : Int32), σ))
theorem vf_J0_coder_7d493 {g : Gt} {ad : Nat → Nat} (z : Zt) (w : Nat) (hw : w < 13) (σ : GX) : V g (LX ad) 1 RJ0 cJ0_coder_7d493 1 (some .byte) (wX g ad) iI z (f_J0_coder_7d493 w σ) σ 0 [(0, .ref (g.2.2.2.2.2.2.1 w))] [] := by
  unfold f_J0_coder_7d493
  refine v_cstr (pc := 0) q_207 dJ0_coder_7d493_0 ?_
  refine v_if_eq (pc := 3) (tgt := 13) dJ0_coder_7d493_3 rfl ?_ ?_
  · refine v_iconst (pc := 13) dJ0_coder_7d493_13 ic_1 ?_
    exact v_nret (pc := 14) rfl dJ0_coder_7d493_14
  · refine v_aload_n (pc := 6) (i := 0) dJ0_coder_7d493_6 rfl rfl ?_
    refine v_scod (pc := 7) (i := w) hw q_1148 dJ0_coder_7d493_7 ?_
    refine v_goto (pc := 10) (tgt := 14) dJ0_coder_7d493_10 rfl ?_
    exact v_nret (pc := 14) rfl dJ0_coder_7d493_14
theorem ct_J0_coder_7d493 {g : Gt} {ad : Nat → Nat} {w : Nat} (hw : w < 13) : CT g (LX ad) yJ0_coder_7d493 cJ0_coder_7d493 1 (some .byte) 1 [.ref (g.2.2.2.2.2.2.1 w)] iI (wX g ad) (f_J0_coder_7d493 w) :=
  ct_of_V (own := RJ0) (lv0 := [(0, .ref (g.2.2.2.2.2.2.1 w))]) (by decide +kernel) rfl (Nat.le_of_ble_eq_true rfl) rfl (fun z σ => vf_J0_coder_7d493 z w hw σ)
-- java/lang/String.length
theorem dJ0_length_8abf5_0 : decode cJ0_length_8abf5 0 = .ok (.aload_n 0, 1) := by decide +kernel
theorem dJ0_length_8abf5_1 : decode cJ0_length_8abf5 1 = .ok (.getfield 9, 3) := by decide +kernel
theorem dJ0_length_8abf5_4 : decode cJ0_length_8abf5 4 = .ok (.arraylength, 1) := by decide +kernel
theorem dJ0_length_8abf5_5 : decode cJ0_length_8abf5 5 = .ok (.aload_n 0, 1) := by decide +kernel
theorem dJ0_length_8abf5_6 : decode cJ0_length_8abf5 6 = .ok (.invokevirtual 335, 3) := by decide +kernel
theorem dJ0_length_8abf5_9 : decode cJ0_length_8abf5 9 = .ok (.ishr, 1) := by decide +kernel
theorem dJ0_length_8abf5_10 : decode cJ0_length_8abf5 10 = .ok (.ireturn, 1) := by decide +kernel
def f_J0_length_8abf5 (w : Nat) (σ : GX) : Option (Int32 × GX) :=
  bnd (f_J0_coder_7d493 w σ) fun q1 => some ((srI (nI (lenJS.getD w 0)) q1.1), q1.2)
theorem vf_J0_length_8abf5 {g : Gt} {ad : Nat → Nat} (z : Zt) (w : Nat) (hw : w < 13) (σ : GX) : V g (LX ad) 2 RJ0 cJ0_length_8abf5 1 (some .int) (wX g ad) iI z (f_J0_length_8abf5 w σ) σ 0 [(0, .ref (g.2.2.2.2.2.2.1 w))] [] := by
  unfold f_J0_length_8abf5
  refine v_aload_n (pc := 0) (i := 0) dJ0_length_8abf5_0 rfl rfl ?_
  refine v_sval (pc := 1) (i := w) hw q_1147 dJ0_length_8abf5_1 ?_
  refine v_svn (pc := 4) (i := w) hw dJ0_length_8abf5_4 ?_
  refine v_aload_n (pc := 5) (i := 0) dJ0_length_8abf5_5 rfl rfl ?_
  refine v_callTi (pc := 6) (i := w) hw rfl (As := []) (rest := [.int (nI (lenJS.getD w 0))]) (ct_J0_coder_7d493 hw) mi_J0_coder_7d493 q_203 (by decide) rfl rfl (Nat.le_of_ble_eq_true rfl) dJ0_length_8abf5_6 (fun q1 => ?_)
  refine v_ishr (pc := 9) dJ0_length_8abf5_9 ?_
  exact v_iret (pc := 10) dJ0_length_8abf5_10
theorem ct_J0_length_8abf5 {g : Gt} {ad : Nat → Nat} {w : Nat} (hw : w < 13) : CT g (LX ad) yJ0_length_8abf5 cJ0_length_8abf5 1 (some .int) 2 [.ref (g.2.2.2.2.2.2.1 w)] iI (wX g ad) (f_J0_length_8abf5 w) :=
  ct_of_V (own := RJ0) (lv0 := [(0, .ref (g.2.2.2.2.2.2.1 w))]) (by decide +kernel) rfl (Nat.le_of_ble_eq_true rfl) rfl (fun z σ => vf_J0_length_8abf5 z w hw σ)
-- java/lang/String.isLatin1
theorem dJ0_isLatin1_aae02_0 : decode cJ0_isLatin1_aae02 0 = .ok (.getstatic 38, 3) := by decide +kernel
theorem dJ0_isLatin1_aae02_3 : decode cJ0_isLatin1_aae02 3 = .ok (.ifCond .eq 14, 3) := by decide +kernel
theorem dJ0_isLatin1_aae02_6 : decode cJ0_isLatin1_aae02 6 = .ok (.aload_n 0, 1) := by decide +kernel
theorem dJ0_isLatin1_aae02_7 : decode cJ0_isLatin1_aae02 7 = .ok (.getfield 15, 3) := by decide +kernel
theorem dJ0_isLatin1_aae02_10 : decode cJ0_isLatin1_aae02 10 = .ok (.ifCond .ne 7, 3) := by decide +kernel
theorem dJ0_isLatin1_aae02_13 : decode cJ0_isLatin1_aae02 13 = .ok (.iconst 1, 1) := by decide +kernel
theorem dJ0_isLatin1_aae02_14 : decode cJ0_isLatin1_aae02 14 = .ok (.goto 4, 3) := by decide +kernel
theorem dJ0_isLatin1_aae02_17 : decode cJ0_isLatin1_aae02 17 = .ok (.iconst 0, 1) := by decide +kernel
theorem dJ0_isLatin1_aae02_18 : decode cJ0_isLatin1_aae02 18 = .ok (.ireturn, 1) := by decide +kernel
def f_J0_isLatin1_aae02 (w : Nat) (σ : GX) : Option (Int32 × GX) :=
  if (1 : Int32) = 0 then (some ((0 : Int32), σ)) else (if (0 : Int32) ≠ 0 then (some ((0 : Int32), σ)) else (some ((1 : Int32), σ)))
theorem vf_J0_isLatin1_aae02 {g : Gt} {ad : Nat → Nat} (z : Zt) (w : Nat) (hw : w < 13) (σ : GX) : V g (LX ad) 1 RJ0 cJ0_isLatin1_aae02 1 (some .boolean) (wX g ad) iI z (f_J0_isLatin1_aae02 w σ) σ 0 [(0, .ref (g.2.2.2.2.2.2.1 w))] [] := by
  unfold f_J0_isLatin1_aae02
  refine v_cstr (pc := 0) q_207 dJ0_isLatin1_aae02_0 ?_
  refine v_if_eq (pc := 3) (tgt := 17) dJ0_isLatin1_aae02_3 rfl ?_ ?_
  · refine v_iconst (pc := 17) dJ0_isLatin1_aae02_17 ic_0 ?_
    exact v_nret (pc := 18) rfl dJ0_isLatin1_aae02_18
  · refine v_aload_n (pc := 6) (i := 0) dJ0_isLatin1_aae02_6 rfl rfl ?_
    refine v_scod (pc := 7) (i := w) hw q_1148 dJ0_isLatin1_aae02_7 ?_
    refine v_if_ne (pc := 10) (tgt := 17) dJ0_isLatin1_aae02_10 rfl ?_ ?_
    · refine v_iconst (pc := 17) dJ0_isLatin1_aae02_17 ic_0 ?_
      exact v_nret (pc := 18) rfl dJ0_isLatin1_aae02_18
    · refine v_iconst (pc := 13) dJ0_isLatin1_aae02_13 ic_1 ?_
      refine v_goto (pc := 14) (tgt := 18) dJ0_isLatin1_aae02_14 rfl ?_
      exact v_nret (pc := 18) rfl dJ0_isLatin1_aae02_18
theorem ct_J0_isLatin1_aae02 {g : Gt} {ad : Nat → Nat} {w : Nat} (hw : w < 13) : CT g (LX ad) yJ0_isLatin1_aae02 cJ0_isLatin1_aae02 1 (some .boolean) 1 [.ref (g.2.2.2.2.2.2.1 w)] iI (wX g ad) (f_J0_isLatin1_aae02 w) :=
  ct_of_V (own := RJ0) (lv0 := [(0, .ref (g.2.2.2.2.2.2.1 w))]) (by decide +kernel) rfl (Nat.le_of_ble_eq_true rfl) rfl (fun z σ => vf_J0_isLatin1_aae02 z w hw σ)
-- jdk/internal/util/Preconditions.checkIndex
theorem dJ3_checkIndex_8e157_0 : decode cJ3_checkIndex_8e157 0 = .ok (.iload_n 0, 1) := by decide +kernel
theorem dJ3_checkIndex_8e157_1 : decode cJ3_checkIndex_8e157 1 = .ok (.ifCond .lt 8, 3) := by decide +kernel
theorem dJ3_checkIndex_8e157_4 : decode cJ3_checkIndex_8e157 4 = .ok (.iload_n 0, 1) := by decide +kernel
theorem dJ3_checkIndex_8e157_5 : decode cJ3_checkIndex_8e157 5 = .ok (.iload_n 1, 1) := by decide +kernel
theorem dJ3_checkIndex_8e157_6 : decode cJ3_checkIndex_8e157 6 = .ok (.if_icmp .lt 10, 3) := by decide +kernel
theorem dJ3_checkIndex_8e157_9 : decode cJ3_checkIndex_8e157 9 = .ok (.aload_n 2, 1) := by decide +kernel
theorem dJ3_checkIndex_8e157_10 : decode cJ3_checkIndex_8e157 10 = .ok (.iload_n 0, 1) := by decide +kernel
theorem dJ3_checkIndex_8e157_11 : decode cJ3_checkIndex_8e157 11 = .ok (.iload_n 1, 1) := by decide +kernel
theorem dJ3_checkIndex_8e157_12 : decode cJ3_checkIndex_8e157 12 = .ok (.invokestatic 95, 3) := by decide +kernel
theorem dJ3_checkIndex_8e157_15 : decode cJ3_checkIndex_8e157 15 = .ok (.athrow, 1) := by decide +kernel
theorem dJ3_checkIndex_8e157_16 : decode cJ3_checkIndex_8e157 16 = .ok (.iload_n 0, 1) := by decide +kernel
theorem dJ3_checkIndex_8e157_17 : decode cJ3_checkIndex_8e157 17 = .ok (.ireturn, 1) := by decide +kernel
def b_J3_checkIndex_8e157_9 (x0 : Int32) (x1 : Int32) (σ : GX) : Option (Int32 × GX) :=
  none
theorem vb_J3_checkIndex_8e157_9 {g : Gt} {ad : Nat → Nat} (z : Zt) (fo : Option Nat) (x0 : Int32) (x1 : Int32) (σ : GX) : V g (LX ad) 1 RJ3 cJ3_checkIndex_8e157 3 (some .int) (wX g ad) iI z (b_J3_checkIndex_8e157_9 x0 x1 σ) σ 9 [(0, .int x0), (1, .int x1), (2, (va_rf fo))] [] := by
  unfold b_J3_checkIndex_8e157_9
  exact v_none
def f_J3_checkIndex_8e157 (x0 : Int32) (x1 : Int32) (σ : GX) : Option (Int32 × GX) :=
  if x0 < 0 then (b_J3_checkIndex_8e157_9 x0 x1 σ) else (if x0 < x1 then (some (x0, σ)) else (b_J3_checkIndex_8e157_9 x0 x1 σ))
theorem vf_J3_checkIndex_8e157 {g : Gt} {ad : Nat → Nat} (z : Zt) (fo : Option Nat) (x0 : Int32) (x1 : Int32) (σ : GX) : V g (LX ad) 1 RJ3 cJ3_checkIndex_8e157 3 (some .int) (wX g ad) iI z (f_J3_checkIndex_8e157 x0 x1 σ) σ 0 [(0, .int x0), (1, .int x1), (2, (va_rf fo))] [] := by
  unfold f_J3_checkIndex_8e157
  refine v_iload_n (pc := 0) (i := 0) dJ3_checkIndex_8e157_0 rfl rfl ?_
  refine v_if_lt (pc := 1) (tgt := 9) dJ3_checkIndex_8e157_1 rfl ?_ ?_
  · exact v_sub [0, 1, 2] rfl (vb_J3_checkIndex_8e157_9 z fo x0 x1 σ)
  · refine v_iload_n (pc := 4) (i := 0) dJ3_checkIndex_8e157_4 rfl rfl ?_
    refine v_iload_n (pc := 5) (i := 1) dJ3_checkIndex_8e157_5 rfl rfl ?_
    refine v_icmp_lt (pc := 6) (tgt := 16) dJ3_checkIndex_8e157_6 rfl ?_ ?_
    · refine v_iload_n (pc := 16) (i := 0) dJ3_checkIndex_8e157_16 rfl rfl ?_
      exact v_iret (pc := 17) dJ3_checkIndex_8e157_17
    · exact v_sub [0, 1, 2] rfl (vb_J3_checkIndex_8e157_9 z fo x0 x1 σ)
theorem ct_J3_checkIndex_8e157 {g : Gt} {ad : Nat → Nat} (fo : Option Nat) (x0 : Int32) (x1 : Int32) : CT g (LX ad) yJ3_checkIndex_8e157 cJ3_checkIndex_8e157 3 (some .int) 1 [.int x0, .int x1, (va_rf fo)] iI (wX g ad) (f_J3_checkIndex_8e157 x0 x1) :=
  match fo with
  | none =>   ct_of_V (own := RJ3) (lv0 := [(0, .int x0), (1, .int x1), (2, .null)]) (by decide +kernel) rfl (Nat.le_of_ble_eq_true rfl) rfl (fun z σ => vf_J3_checkIndex_8e157 z none x0 x1 σ)
  | some fa =>   ct_of_V (own := RJ3) (lv0 := [(0, .int x0), (1, .int x1), (2, .ref fa)]) (by decide +kernel) rfl (Nat.le_of_ble_eq_true rfl) rfl (fun z σ => vf_J3_checkIndex_8e157 z (some fa) x0 x1 σ)
-- java/lang/String.checkIndex
theorem dJ0_checkIndex_df160_0 : decode cJ0_checkIndex_df160 0 = .ok (.iload_n 0, 1) := by decide +kernel
theorem dJ0_checkIndex_df160_1 : decode cJ0_checkIndex_df160 1 = .ok (.iload_n 1, 1) := by decide +kernel
theorem dJ0_checkIndex_df160_2 : decode cJ0_checkIndex_df160 2 = .ok (.getstatic 1053, 3) := by decide +kernel
theorem dJ0_checkIndex_df160_5 : decode cJ0_checkIndex_df160 5 = .ok (.invokestatic 1059, 3) := by decide +kernel
theorem dJ0_checkIndex_df160_8 : decode cJ0_checkIndex_df160 8 = .ok (.pop, 1) := by decide +kernel
theorem dJ0_checkIndex_df160_9 : decode cJ0_checkIndex_df160 9 = .ok (.return_, 1) := by decide +kernel
def f_J0_checkIndex_df160 (x0 : Int32) (x1 : Int32) (σ : GX) : Option (Unit × GX) :=
  bnd (f_J3_checkIndex_8e157 x0 x1 σ) fun q1 => some ((), q1.2)
theorem vf_J0_checkIndex_df160 {g : Gt} {ad : Nat → Nat} (z : Zt) (x0 : Int32) (x1 : Int32) (σ : GX) : V g (LX ad) 2 RJ0 cJ0_checkIndex_df160 2 none (wX g ad) iU z (f_J0_checkIndex_df160 x0 x1 σ) σ 0 [(0, .int x0), (1, .int x1)] [] := by
  unfold f_J0_checkIndex_df160
  refine v_iload_n (pc := 0) (i := 0) dJ0_checkIndex_df160_0 rfl rfl ?_
  refine v_iload_n (pc := 1) (i := 1) dJ0_checkIndex_df160_1 rfl rfl ?_
  refine v_fmt (pc := 2) q_223 dJ0_checkIndex_df160_2 ?_
  refine v_callSi (pc := 5) (av := [.int x0, .int x1, (va_rf g.2.2.2.2.2.1)]) (rest := []) (ct_J3_checkIndex_8e157 g.2.2.2.2.2.1 x0 x1) mi_J3_checkIndex_8e157 q_225 (by decide) rfl rfl (Nat.le_of_ble_eq_true rfl) dJ0_checkIndex_df160_5 (fun q1 => ?_)
  refine v_pop (pc := 8) dJ0_checkIndex_df160_8 rfl ?_
  exact v_ret (pc := 9) dJ0_checkIndex_df160_9
theorem ct_J0_checkIndex_df160 {g : Gt} {ad : Nat → Nat} (x0 : Int32) (x1 : Int32) : CT g (LX ad) yJ0_checkIndex_df160 cJ0_checkIndex_df160 2 none 2 [.int x0, .int x1] iU (wX g ad) (f_J0_checkIndex_df160 x0 x1) :=
  ct_of_V (own := RJ0) (lv0 := [(0, .int x0), (1, .int x1)]) (by decide +kernel) rfl (Nat.le_of_ble_eq_true rfl) rfl (fun z σ => vf_J0_checkIndex_df160 z x0 x1 σ)
-- java/lang/StringLatin1.charAt
theorem dJ1_charAt_3b067_0 : decode cJ1_charAt_3b067 0 = .ok (.iload_n 1, 1) := by decide +kernel
theorem dJ1_charAt_3b067_1 : decode cJ1_charAt_3b067 1 = .ok (.aload_n 0, 1) := by decide +kernel
theorem dJ1_charAt_3b067_2 : decode cJ1_charAt_3b067 2 = .ok (.arraylength, 1) := by decide +kernel
theorem dJ1_charAt_3b067_3 : decode cJ1_charAt_3b067 3 = .ok (.invokestatic 9, 3) := by decide +kernel
theorem dJ1_charAt_3b067_6 : decode cJ1_charAt_3b067 6 = .ok (.aload_n 0, 1) := by decide +kernel
theorem dJ1_charAt_3b067_7 : decode cJ1_charAt_3b067 7 = .ok (.iload_n 1, 1) := by decide +kernel
theorem dJ1_charAt_3b067_8 : decode cJ1_charAt_3b067 8 = .ok (.baload, 1) := by decide +kernel
theorem dJ1_charAt_3b067_9 : decode cJ1_charAt_3b067 9 = .ok (.sipush 255, 3) := by decide +kernel
theorem dJ1_charAt_3b067_12 : decode cJ1_charAt_3b067 12 = .ok (.iand, 1) := by decide +kernel
theorem dJ1_charAt_3b067_13 : decode cJ1_charAt_3b067 13 = .ok (.i2c, 1) := by decide +kernel
theorem dJ1_charAt_3b067_14 : decode cJ1_charAt_3b067 14 = .ok (.ireturn, 1) := by decide +kernel
def f_J1_charAt_3b067 (w : Nat) (x1 : Int32) (σ : GX) : Option (Int32 × GX) :=
  bnd (f_J0_checkIndex_df160 x1 (nI (lenJS.getD w 0)) σ) fun q1 => grd x1 (lenJS.getD w 0) (if ((((((bytJS.getD w []).getD x1.toNatClampNeg 0) &&& (255 : Int32)).toUInt32 % 65536).toInt32).toUInt32 % 65536).toInt32 = (((((bytJS.getD w []).getD x1.toNatClampNeg 0) &&& (255 : Int32)).toUInt32 % 65536).toInt32) then some ((((((bytJS.getD w []).getD x1.toNatClampNeg 0) &&& (255 : Int32)).toUInt32 % 65536).toInt32), q1.2) else none)
theorem vf_J1_charAt_3b067 {g : Gt} {ad : Nat → Nat} (z : Zt) (w : Nat) (hw : w < 13) (x1 : Int32) (σ : GX) : V g (LX ad) 3 RJ1 cJ1_charAt_3b067 2 (some .char) (wX g ad) iI z (f_J1_charAt_3b067 w x1 σ) σ 0 [(0, .ref (g.2.2.2.2.2.2.2 w)), (1, .int x1)] [] := by
  unfold f_J1_charAt_3b067
  refine v_iload_n (pc := 0) (i := 1) dJ1_charAt_3b067_0 rfl rfl ?_
  refine v_aload_n (pc := 1) (i := 0) dJ1_charAt_3b067_1 rfl rfl ?_
  refine v_svn (pc := 2) (i := w) hw dJ1_charAt_3b067_2 ?_
  refine v_callSv (pc := 3) (av := [.int x1, .int (nI (lenJS.getD w 0))]) (rest := []) (ct_J0_checkIndex_df160 x1 (nI (lenJS.getD w 0))) mi_J0_checkIndex_df160 q_220 (by decide) rfl rfl (Nat.le_of_ble_eq_true rfl) dJ1_charAt_3b067_3 (fun q1 => ?_)
  refine v_aload_n (pc := 6) (i := 0) dJ1_charAt_3b067_6 rfl rfl ?_
  refine v_iload_n (pc := 7) (i := 1) dJ1_charAt_3b067_7 rfl rfl ?_
  refine v_svl (pc := 8) (i := w) hw dJ1_charAt_3b067_8 ?_
  refine v_sipush (pc := 9) dJ1_charAt_3b067_9 sp_255 ?_
  refine v_iand (pc := 12) dJ1_charAt_3b067_12 ?_
  refine v_i2c (pc := 13) dJ1_charAt_3b067_13 ?_
  exact v_cret (pc := 14) dJ1_charAt_3b067_14
theorem ct_J1_charAt_3b067 {g : Gt} {ad : Nat → Nat} {w : Nat} (hw : w < 13) (x1 : Int32) : CT g (LX ad) yJ1_charAt_3b067 cJ1_charAt_3b067 2 (some .char) 3 [.ref (g.2.2.2.2.2.2.2 w), .int x1] iI (wX g ad) (f_J1_charAt_3b067 w x1) :=
  ct_of_V (own := RJ1) (lv0 := [(0, .ref (g.2.2.2.2.2.2.2 w)), (1, .int x1)]) (by decide +kernel) rfl (Nat.le_of_ble_eq_true rfl) rfl (fun z σ => vf_J1_charAt_3b067 z w hw x1 σ)
-- java/lang/String.charAt
theorem dJ0_charAt_5068e_0 : decode cJ0_charAt_5068e 0 = .ok (.aload_n 0, 1) := by decide +kernel
theorem dJ0_charAt_5068e_1 : decode cJ0_charAt_5068e 1 = .ok (.invokevirtual 492, 3) := by decide +kernel
theorem dJ0_charAt_5068e_4 : decode cJ0_charAt_5068e 4 = .ok (.ifCond .eq 12, 3) := by decide +kernel
theorem dJ0_charAt_5068e_7 : decode cJ0_charAt_5068e 7 = .ok (.aload_n 0, 1) := by decide +kernel
theorem dJ0_charAt_5068e_8 : decode cJ0_charAt_5068e 8 = .ok (.getfield 9, 3) := by decide +kernel
theorem dJ0_charAt_5068e_11 : decode cJ0_charAt_5068e 11 = .ok (.iload_n 1, 1) := by decide +kernel
theorem dJ0_charAt_5068e_12 : decode cJ0_charAt_5068e 12 = .ok (.invokestatic 495, 3) := by decide +kernel
theorem dJ0_charAt_5068e_15 : decode cJ0_charAt_5068e 15 = .ok (.ireturn, 1) := by decide +kernel
theorem dJ0_charAt_5068e_16 : decode cJ0_charAt_5068e 16 = .ok (.aload_n 0, 1) := by decide +kernel
theorem dJ0_charAt_5068e_17 : decode cJ0_charAt_5068e 17 = .ok (.getfield 9, 3) := by decide +kernel
theorem dJ0_charAt_5068e_20 : decode cJ0_charAt_5068e 20 = .ok (.iload_n 1, 1) := by decide +kernel
theorem dJ0_charAt_5068e_21 : decode cJ0_charAt_5068e 21 = .ok (.invokestatic 498, 3) := by decide +kernel
theorem dJ0_charAt_5068e_24 : decode cJ0_charAt_5068e 24 = .ok (.ireturn, 1) := by decide +kernel
def f_J0_charAt_5068e (w : Nat) (x1 : Int32) (σ : GX) : Option (Int32 × GX) :=
  bnd (f_J0_isLatin1_aae02 w σ) fun q1 => if q1.1 = 0 then (none) else (bnd (f_J1_charAt_3b067 w x1 q1.2) fun q2 => if (q2.1.toUInt32 % 65536).toInt32 = q2.1 then some (q2.1, q2.2) else none)
theorem vf_J0_charAt_5068e {g : Gt} {ad : Nat → Nat} (z : Zt) (w : Nat) (hw : w < 13) (x1 : Int32) (σ : GX) : V g (LX ad) 4 RJ0 cJ0_charAt_5068e 2 (some .char) (wX g ad) iI z (f_J0_charAt_5068e w x1 σ) σ 0 [(0, .ref (g.2.2.2.2.2.2.1 w)), (1, .int x1)] [] := by
  unfold f_J0_charAt_5068e
  refine v_aload_n (pc := 0) (i := 0) dJ0_charAt_5068e_0 rfl rfl ?_
  refine v_callTi (pc := 1) (i := w) hw rfl (As := []) (rest := []) (ct_J0_isLatin1_aae02 hw) mi_J0_isLatin1_aae02 q_213 (by decide) rfl rfl (Nat.le_of_ble_eq_true rfl) dJ0_charAt_5068e_1 (fun q1 => ?_)
  refine v_if_eq (pc := 4) (tgt := 16) dJ0_charAt_5068e_4 rfl ?_ ?_
  · exact v_none
  · refine v_aload_n (pc := 7) (i := 0) dJ0_charAt_5068e_7 rfl rfl ?_
    refine v_sval (pc := 8) (i := w) hw q_1147 dJ0_charAt_5068e_8 ?_
    refine v_iload_n (pc := 11) (i := 1) dJ0_charAt_5068e_11 rfl rfl ?_
    refine v_callSi (pc := 12) (av := [.ref (g.2.2.2.2.2.2.2 w), .int x1]) (rest := []) (ct_J1_charAt_3b067 hw x1) mi_J1_charAt_3b067 q_217 (by decide) rfl rfl (Nat.le_of_ble_eq_true rfl) dJ0_charAt_5068e_12 (fun q2 => ?_)
    exact v_cret (pc := 15) dJ0_charAt_5068e_15
theorem ct_J0_charAt_5068e {g : Gt} {ad : Nat → Nat} {w : Nat} (hw : w < 13) (x1 : Int32) : CT g (LX ad) yJ0_charAt_5068e cJ0_charAt_5068e 2 (some .char) 4 [.ref (g.2.2.2.2.2.2.1 w), .int x1] iI (wX g ad) (f_J0_charAt_5068e w x1) :=
  ct_of_V (own := RJ0) (lv0 := [(0, .ref (g.2.2.2.2.2.2.1 w)), (1, .int x1)]) (by decide +kernel) rfl (Nat.le_of_ble_eq_true rfl) rfl (fun z σ => vf_J0_charAt_5068e z w hw x1 σ)
end
section
-- LighthouseLiedTo$Law.clear
theorem dX0_clear_0 : decode cX0_clear 0 = .ok (.aload_n 0, 1) := by decide +kernel
theorem dX0_clear_1 : decode cX0_clear 1 = .ok (.iconst 0, 1) := by decide +kernel
theorem dX0_clear_2 : decode cX0_clear 2 = .ok (.putfield 21, 3) := by decide +kernel
theorem dX0_clear_5 : decode cX0_clear 5 = .ok (.return_, 1) := by decide +kernel
def f_X0_clear (t : Nat) (σ : GX) : Option (Unit × GX) :=
  bnd (some (sT σ t (0 : Int32))) fun σ1 => some ((), σ1)
theorem vf_X0_clear {g : Gt} {ad : Nat → Nat} (z : Zt) (t : Nat) (ht : t < 6) (σ : GX) : V g (LX ad) 1 RX0 cX0_clear 1 none (wX g ad) iU z (f_X0_clear t σ) σ 0 [(0, .ref (aLaw ad t))] [] := by
  unfold f_X0_clear
  refine v_aload_n (pc := 0) (i := 0) dX0_clear_0 rfl rfl ?_
  refine v_iconst (pc := 1) dX0_clear_1 ic_0 ?_
  refine pX0_size (pc := 2) (t := t) ht q_113 dX0_clear_2 ?_
  refine v_nms (fun σ1 => ?_)
  exact v_ret (pc := 5) dX0_clear_5
theorem ct_X0_clear {g : Gt} {ad : Nat → Nat} {t : Nat} (ht : t < 6) : CT g (LX ad) yX0_clear cX0_clear 1 none 1 [.ref (aLaw ad t)] iU (wX g ad) (f_X0_clear t) :=
  ct_of_V (own := RX0) (lv0 := [(0, .ref (aLaw ad t))]) (by decide +kernel) rfl (Nat.le_of_ble_eq_true rfl) rfl (fun z σ => vf_X0_clear z t ht σ)
-- LighthouseLiedTo$Law.add
theorem dX0_add_0 : decode cX0_add 0 = .ok (.aload_n 0, 1) := by decide +kernel
theorem dX0_add_1 : decode cX0_add 1 = .ok (.getfield 21, 3) := by decide +kernel
theorem dX0_add_4 : decode cX0_add 4 = .ok (.aload_n 0, 1) := by decide +kernel
theorem dX0_add_5 : decode cX0_add 5 = .ok (.getfield 9, 3) := by decide +kernel
theorem dX0_add_8 : decode cX0_add 8 = .ok (.arraylength, 1) := by decide +kernel
theorem dX0_add_9 : decode cX0_add 9 = .ok (.if_icmp .ge 23, 3) := by decide +kernel
theorem dX0_add_12 : decode cX0_add 12 = .ok (.aload_n 0, 1) := by decide +kernel
theorem dX0_add_13 : decode cX0_add 13 = .ok (.getfield 9, 3) := by decide +kernel
theorem dX0_add_16 : decode cX0_add 16 = .ok (.aload_n 0, 1) := by decide +kernel
theorem dX0_add_17 : decode cX0_add 17 = .ok (.getfield 21, 3) := by decide +kernel
theorem dX0_add_20 : decode cX0_add 20 = .ok (.iload_n 1, 1) := by decide +kernel
theorem dX0_add_21 : decode cX0_add 21 = .ok (.iastore, 1) := by decide +kernel
theorem dX0_add_22 : decode cX0_add 22 = .ok (.aload_n 0, 1) := by decide +kernel
theorem dX0_add_23 : decode cX0_add 23 = .ok (.dup, 1) := by decide +kernel
theorem dX0_add_24 : decode cX0_add 24 = .ok (.getfield 21, 3) := by decide +kernel
theorem dX0_add_27 : decode cX0_add 27 = .ok (.iconst 1, 1) := by decide +kernel
theorem dX0_add_28 : decode cX0_add 28 = .ok (.iadd, 1) := by decide +kernel
theorem dX0_add_29 : decode cX0_add 29 = .ok (.putfield 21, 3) := by decide +kernel
theorem dX0_add_32 : decode cX0_add 32 = .ok (.return_, 1) := by decide +kernel
def f_X0_add (t : Nat) (x1 : Int32) (σ : GX) : Option (Unit × GX) :=
  if (160 : Int32) ≤ (xT σ t) then (some ((), σ)) else (grd (xT σ t) 160 (bnd (some (sU σ t 0 (xT σ t).toNatClampNeg x1)) fun σ1 => bnd (some (sT σ1 t ((xT σ1 t) + (1 : Int32)))) fun σ2 => some ((), σ2)))
theorem vf_X0_add {g : Gt} {ad : Nat → Nat} (z : Zt) (t : Nat) (ht : t < 6) (x1 : Int32) (σ : GX) : V g (LX ad) 1 RX0 cX0_add 2 none (wX g ad) iU z (f_X0_add t x1 σ) σ 0 [(0, .ref (aLaw ad t)), (1, .int x1)] [] := by
  unfold f_X0_add
  refine v_aload_n (pc := 0) (i := 0) dX0_add_0 rfl rfl ?_
  refine gX0_size (pc := 1) (t := t) ht q_113 dX0_add_1 ?_
  refine v_aload_n (pc := 4) (i := 0) dX0_add_4 rfl rfl ?_
  refine gX0_steps (pc := 5) (t := t) ht q_110 dX0_add_5 ?_
  refine nX_law0 (pc := 8) (t := t) ht (v := (160 : Int32)) rfl dX0_add_8 ?_
  refine v_icmp_ge (pc := 9) (tgt := 32) dX0_add_9 rfl ?_ ?_
  · exact v_ret (pc := 32) dX0_add_32
  · refine v_aload_n (pc := 12) (i := 0) dX0_add_12 rfl rfl ?_
    refine gX0_steps (pc := 13) (t := t) ht q_110 dX0_add_13 ?_
    refine v_aload_n (pc := 16) (i := 0) dX0_add_16 rfl rfl ?_
    refine gX0_size (pc := 17) (t := t) ht q_113 dX0_add_17 ?_
    refine v_iload_n (pc := 20) (i := 1) dX0_add_20 rfl rfl ?_
    refine sX_law0 (pc := 21) (t := t) ht dX0_add_21 ?_
    refine v_nms (fun σ1 => ?_)
    refine v_aload_n (pc := 22) (i := 0) dX0_add_22 rfl rfl ?_
    refine v_dup (pc := 23) dX0_add_23 rfl ?_
    refine gX0_size (pc := 24) (t := t) ht q_113 dX0_add_24 ?_
    refine v_iconst (pc := 27) dX0_add_27 ic_1 ?_
    refine v_iadd (pc := 28) dX0_add_28 ?_
    refine pX0_size (pc := 29) (t := t) ht q_113 dX0_add_29 ?_
    refine v_nms (fun σ2 => ?_)
    exact v_ret (pc := 32) dX0_add_32
theorem ct_X0_add {g : Gt} {ad : Nat → Nat} {t : Nat} (ht : t < 6) (x1 : Int32) : CT g (LX ad) yX0_add cX0_add 2 none 1 [.ref (aLaw ad t), .int x1] iU (wX g ad) (f_X0_add t x1) :=
  ct_of_V (own := RX0) (lv0 := [(0, .ref (aLaw ad t)), (1, .int x1)]) (by decide +kernel) rfl (Nat.le_of_ble_eq_true rfl) rfl (fun z σ => vf_X0_add z t ht x1 σ)
-- LighthouseLiedTo$Law.endPart
theorem dX0_endPart_0 : decode cX0_endPart 0 = .ok (.iload_n 1, 1) := by decide +kernel
theorem dX0_endPart_1 : decode cX0_endPart 1 = .ok (.ifCond .lt 18, 3) := by decide +kernel
theorem dX0_endPart_4 : decode cX0_endPart 4 = .ok (.iload_n 1, 1) := by decide +kernel
theorem dX0_endPart_5 : decode cX0_endPart 5 = .ok (.iconst 3, 1) := by decide +kernel
theorem dX0_endPart_6 : decode cX0_endPart 6 = .ok (.if_icmp .ge 13, 3) := by decide +kernel
theorem dX0_endPart_9 : decode cX0_endPart 9 = .ok (.aload_n 0, 1) := by decide +kernel
theorem dX0_endPart_10 : decode cX0_endPart 10 = .ok (.getfield 18, 3) := by decide +kernel
theorem dX0_endPart_13 : decode cX0_endPart 13 = .ok (.iload_n 1, 1) := by decide +kernel
theorem dX0_endPart_14 : decode cX0_endPart 14 = .ok (.aload_n 0, 1) := by decide +kernel
theorem dX0_endPart_15 : decode cX0_endPart 15 = .ok (.getfield 21, 3) := by decide +kernel
theorem dX0_endPart_18 : decode cX0_endPart 18 = .ok (.iastore, 1) := by decide +kernel
theorem dX0_endPart_19 : decode cX0_endPart 19 = .ok (.return_, 1) := by decide +kernel
def f_X0_endPart (t : Nat) (x1 : Int32) (σ : GX) : Option (Unit × GX) :=
  if x1 < 0 then (some ((), σ)) else (if (3 : Int32) ≤ x1 then (some ((), σ)) else (grd x1 3 (bnd (some (sU σ t 2 x1.toNatClampNeg (xT σ t))) fun σ1 => some ((), σ1))))
theorem vf_X0_endPart {g : Gt} {ad : Nat → Nat} (z : Zt) (t : Nat) (ht : t < 6) (x1 : Int32) (σ : GX) : V g (LX ad) 1 RX0 cX0_endPart 2 none (wX g ad) iU z (f_X0_endPart t x1 σ) σ 0 [(0, .ref (aLaw ad t)), (1, .int x1)] [] := by
  unfold f_X0_endPart
  refine v_iload_n (pc := 0) (i := 1) dX0_endPart_0 rfl rfl ?_
  refine v_if_lt (pc := 1) (tgt := 19) dX0_endPart_1 rfl ?_ ?_
  · exact v_ret (pc := 19) dX0_endPart_19
  · refine v_iload_n (pc := 4) (i := 1) dX0_endPart_4 rfl rfl ?_
    refine v_iconst (pc := 5) dX0_endPart_5 ic_3 ?_
    refine v_icmp_ge (pc := 6) (tgt := 19) dX0_endPart_6 rfl ?_ ?_
    · exact v_ret (pc := 19) dX0_endPart_19
    · refine v_aload_n (pc := 9) (i := 0) dX0_endPart_9 rfl rfl ?_
      refine gX0_ends (pc := 10) (t := t) ht q_112 dX0_endPart_10 ?_
      refine v_iload_n (pc := 13) (i := 1) dX0_endPart_13 rfl rfl ?_
      refine v_aload_n (pc := 14) (i := 0) dX0_endPart_14 rfl rfl ?_
      refine gX0_size (pc := 15) (t := t) ht q_113 dX0_endPart_15 ?_
      refine sX_law2 (pc := 18) (t := t) ht dX0_endPart_18 ?_
      refine v_nms (fun σ1 => ?_)
      exact v_ret (pc := 19) dX0_endPart_19
theorem ct_X0_endPart {g : Gt} {ad : Nat → Nat} {t : Nat} (ht : t < 6) (x1 : Int32) : CT g (LX ad) yX0_endPart cX0_endPart 2 none 1 [.ref (aLaw ad t), .int x1] iU (wX g ad) (f_X0_endPart t x1) :=
  ct_of_V (own := RX0) (lv0 := [(0, .ref (aLaw ad t)), (1, .int x1)]) (by decide +kernel) rfl (Nat.le_of_ble_eq_true rfl) rfl (fun z σ => vf_X0_endPart z t ht x1 σ)
-- LighthouseLiedTo$Law.named
theorem dX0_named_0 : decode cX0_named 0 = .ok (.iload_n 0, 1) := by decide +kernel
theorem dX0_named_1 : decode cX0_named 1 = .ok (.tableswitch 62 (-5) (-1) #[57, 52, 47, 42, 35], 35) := by decide +kernel
theorem dX0_named_36 : decode cX0_named 36 = .ok (.aload_n 1, 1) := by decide +kernel
theorem dX0_named_37 : decode cX0_named 37 = .ok (.getfield 33, 3) := by decide +kernel
theorem dX0_named_40 : decode cX0_named 40 = .ok (.iload_n 2, 1) := by decide +kernel
theorem dX0_named_41 : decode cX0_named 41 = .ok (.iaload, 1) := by decide +kernel
theorem dX0_named_42 : decode cX0_named 42 = .ok (.ireturn, 1) := by decide +kernel
theorem dX0_named_43 : decode cX0_named 43 = .ok (.iload_n 2, 1) := by decide +kernel
theorem dX0_named_44 : decode cX0_named 44 = .ok (.bipush 6, 2) := by decide +kernel
theorem dX0_named_46 : decode cX0_named 46 = .ok (.irem, 1) := by decide +kernel
theorem dX0_named_47 : decode cX0_named 47 = .ok (.ireturn, 1) := by decide +kernel
theorem dX0_named_48 : decode cX0_named 48 = .ok (.iload_n 2, 1) := by decide +kernel
theorem dX0_named_49 : decode cX0_named 49 = .ok (.bipush 6, 2) := by decide +kernel
theorem dX0_named_51 : decode cX0_named 51 = .ok (.idiv, 1) := by decide +kernel
theorem dX0_named_52 : decode cX0_named 52 = .ok (.ireturn, 1) := by decide +kernel
theorem dX0_named_53 : decode cX0_named 53 = .ok (.aload_n 1, 1) := by decide +kernel
theorem dX0_named_54 : decode cX0_named 54 = .ok (.getfield 38, 3) := by decide +kernel
theorem dX0_named_57 : decode cX0_named 57 = .ok (.ireturn, 1) := by decide +kernel
theorem dX0_named_58 : decode cX0_named 58 = .ok (.aload_n 1, 1) := by decide +kernel
theorem dX0_named_59 : decode cX0_named 59 = .ok (.getfield 41, 3) := by decide +kernel
theorem dX0_named_62 : decode cX0_named 62 = .ok (.ireturn, 1) := by decide +kernel
theorem dX0_named_63 : decode cX0_named 63 = .ok (.iload_n 3, 1) := by decide +kernel
theorem dX0_named_64 : decode cX0_named 64 = .ok (.ireturn, 1) := by decide +kernel
def f_X0_named (y : Nat) (x0 : Int32) (x2 : Int32) (x3 : Int32) (σ : GX) : Option (Int32 × GX) :=
  if x0 = (-5 : Int32) then (some ((xS σ y 2), σ)) else (if x0 = (-4 : Int32) then (some ((xS σ y 3), σ)) else (if x0 = (-3 : Int32) then (some ((x2 / (6 : Int32)), σ)) else (if x0 = (-2 : Int32) then (some ((rI x2 (6 : Int32)), σ)) else (if x0 = (-1 : Int32) then (grd x2 36 (some ((xB σ y 0 x2.toNatClampNeg), σ))) else (some (x3, σ))))))
theorem vf_X0_named {g : Gt} {ad : Nat → Nat} (z : Zt) (y : Nat) (hy : y < 3) (x0 : Int32) (x2 : Int32) (x3 : Int32) (σ : GX) : V g (LX ad) 1 RX0 cX0_named 4 (some .int) (wX g ad) iI z (f_X0_named y x0 x2 x3 σ) σ 0 [(0, .int x0), (1, .ref (aSea ad y)), (2, .int x2), (3, .int x3)] [] := by
  unfold f_X0_named
  refine v_iload_n (pc := 0) (i := 0) dX0_named_0 rfl rfl ?_
  refine v_case (c := x0 = (-5 : Int32)) (fun hx => ?_) (fun hc1_0 => ?_)
  · refine v_tin (pc := 1) (tgt := 58) (off := 57) hx dX0_named_1 (by decide) (by decide) rfl rfl ?_
    refine v_aload_n (pc := 58) (i := 1) dX0_named_58 rfl rfl ?_
    refine gX2_doubt (pc := 59) (y := y) hy q_167 dX0_named_59 ?_
    exact v_iret (pc := 62) dX0_named_62
  refine v_case (c := x0 = (-4 : Int32)) (fun hx => ?_) (fun hc1_1 => ?_)
  · refine v_tin (pc := 1) (tgt := 53) (off := 52) hx dX0_named_1 (by decide) (by decide) rfl rfl ?_
    refine v_aload_n (pc := 53) (i := 1) dX0_named_53 rfl rfl ?_
    refine gX2_night (pc := 54) (y := y) hy q_170 dX0_named_54 ?_
    exact v_iret (pc := 57) dX0_named_57
  refine v_case (c := x0 = (-3 : Int32)) (fun hx => ?_) (fun hc1_2 => ?_)
  · refine v_tin (pc := 1) (tgt := 48) (off := 47) hx dX0_named_1 (by decide) (by decide) rfl rfl ?_
    refine v_iload_n (pc := 48) (i := 2) dX0_named_48 rfl rfl ?_
    refine v_bipush (pc := 49) dX0_named_49 bp_6 ?_
    refine v_idiv (pc := 51) dX0_named_51 (by decide) ?_
    exact v_iret (pc := 52) dX0_named_52
  refine v_case (c := x0 = (-2 : Int32)) (fun hx => ?_) (fun hc1_3 => ?_)
  · refine v_tin (pc := 1) (tgt := 43) (off := 42) hx dX0_named_1 (by decide) (by decide) rfl rfl ?_
    refine v_iload_n (pc := 43) (i := 2) dX0_named_43 rfl rfl ?_
    refine v_bipush (pc := 44) dX0_named_44 bp_6 ?_
    refine v_irem (pc := 46) dX0_named_46 (by decide) ?_
    exact v_iret (pc := 47) dX0_named_47
  refine v_case (c := x0 = (-1 : Int32)) (fun hx => ?_) (fun hc1_4 => ?_)
  · refine v_tin (pc := 1) (tgt := 36) (off := 35) hx dX0_named_1 (by decide) (by decide) rfl rfl ?_
    refine v_aload_n (pc := 36) (i := 1) dX0_named_36 rfl rfl ?_
    refine gX2_belief (pc := 37) (y := y) hy q_150 dX0_named_37 ?_
    refine v_iload_n (pc := 40) (i := 2) dX0_named_40 rfl rfl ?_
    refine lX_sea0 (pc := 41) (y := y) hy dX0_named_41 ?_
    exact v_iret (pc := 42) dX0_named_42
  refine v_tout (pc := 1) (tgt := 63) dX0_named_1 (by have e0 := tsw_ne (a := -5) hc1_0 rfl; have e1 := tsw_ne (a := -4) hc1_1 rfl; have e2 := tsw_ne (a := -3) hc1_2 rfl; have e3 := tsw_ne (a := -2) hc1_3 rfl; have e4 := tsw_ne (a := -1) hc1_4 rfl; omega) rfl ?_
  refine v_iload_n (pc := 63) (i := 3) dX0_named_63 rfl rfl ?_
  exact v_iret (pc := 64) dX0_named_64
theorem ct_X0_named {g : Gt} {ad : Nat → Nat} {y : Nat} (hy : y < 3) (x0 : Int32) (x2 : Int32) (x3 : Int32) : CT g (LX ad) yX0_named cX0_named 4 (some .int) 1 [.int x0, .ref (aSea ad y), .int x2, .int x3] iI (wX g ad) (f_X0_named y x0 x2 x3) :=
  ct_of_V (own := RX0) (lv0 := [(0, .int x0), (1, .ref (aSea ad y)), (2, .int x2), (3, .int x3)]) (by decide +kernel) rfl (Nat.le_of_ble_eq_true rfl) rfl (fun z σ => vf_X0_named z y hy x0 x2 x3 σ)
-- LighthouseLiedTo$Law.joined
theorem dX0_joined_0 : decode cX0_joined 0 = .ok (.iload_n 0, 1) := by decide +kernel
theorem dX0_joined_1 : decode cX0_joined 1 = .ok (.tableswitch 97 (-12) (-7) #[93, 89, 78, 67, 53, 39], 39) := by decide +kernel
theorem dX0_joined_40 : decode cX0_joined 40 = .ok (.iload_n 1, 1) := by decide +kernel
theorem dX0_joined_41 : decode cX0_joined 41 = .ok (.ifCond .ne 7, 3) := by decide +kernel
theorem dX0_joined_44 : decode cX0_joined 44 = .ok (.iload_n 2, 1) := by decide +kernel
theorem dX0_joined_45 : decode cX0_joined 45 = .ok (.ifCond .eq 7, 3) := by decide +kernel
theorem dX0_joined_48 : decode cX0_joined 48 = .ok (.iconst 1, 1) := by decide +kernel
theorem dX0_joined_49 : decode cX0_joined 49 = .ok (.goto 4, 3) := by decide +kernel
theorem dX0_joined_52 : decode cX0_joined 52 = .ok (.iconst 0, 1) := by decide +kernel
theorem dX0_joined_53 : decode cX0_joined 53 = .ok (.ireturn, 1) := by decide +kernel
theorem dX0_joined_54 : decode cX0_joined 54 = .ok (.iload_n 1, 1) := by decide +kernel
theorem dX0_joined_55 : decode cX0_joined 55 = .ok (.ifCond .eq 11, 3) := by decide +kernel
theorem dX0_joined_58 : decode cX0_joined 58 = .ok (.iload_n 2, 1) := by decide +kernel
theorem dX0_joined_59 : decode cX0_joined 59 = .ok (.ifCond .eq 7, 3) := by decide +kernel
theorem dX0_joined_62 : decode cX0_joined 62 = .ok (.iconst 1, 1) := by decide +kernel
theorem dX0_joined_63 : decode cX0_joined 63 = .ok (.goto 4, 3) := by decide +kernel
theorem dX0_joined_66 : decode cX0_joined 66 = .ok (.iconst 0, 1) := by decide +kernel
theorem dX0_joined_67 : decode cX0_joined 67 = .ok (.ireturn, 1) := by decide +kernel
theorem dX0_joined_68 : decode cX0_joined 68 = .ok (.iload_n 1, 1) := by decide +kernel
theorem dX0_joined_69 : decode cX0_joined 69 = .ok (.iload_n 2, 1) := by decide +kernel
theorem dX0_joined_70 : decode cX0_joined 70 = .ok (.if_icmp .ge 7, 3) := by decide +kernel
theorem dX0_joined_73 : decode cX0_joined 73 = .ok (.iconst 1, 1) := by decide +kernel
theorem dX0_joined_74 : decode cX0_joined 74 = .ok (.goto 4, 3) := by decide +kernel
theorem dX0_joined_77 : decode cX0_joined 77 = .ok (.iconst 0, 1) := by decide +kernel
theorem dX0_joined_78 : decode cX0_joined 78 = .ok (.ireturn, 1) := by decide +kernel
theorem dX0_joined_79 : decode cX0_joined 79 = .ok (.iload_n 1, 1) := by decide +kernel
theorem dX0_joined_80 : decode cX0_joined 80 = .ok (.iload_n 2, 1) := by decide +kernel
theorem dX0_joined_81 : decode cX0_joined 81 = .ok (.if_icmp .ne 7, 3) := by decide +kernel
theorem dX0_joined_84 : decode cX0_joined 84 = .ok (.iconst 1, 1) := by decide +kernel
theorem dX0_joined_85 : decode cX0_joined 85 = .ok (.goto 4, 3) := by decide +kernel
theorem dX0_joined_88 : decode cX0_joined 88 = .ok (.iconst 0, 1) := by decide +kernel
theorem dX0_joined_89 : decode cX0_joined 89 = .ok (.ireturn, 1) := by decide +kernel
theorem dX0_joined_90 : decode cX0_joined 90 = .ok (.iload_n 1, 1) := by decide +kernel
theorem dX0_joined_91 : decode cX0_joined 91 = .ok (.iload_n 2, 1) := by decide +kernel
theorem dX0_joined_92 : decode cX0_joined 92 = .ok (.iadd, 1) := by decide +kernel
theorem dX0_joined_93 : decode cX0_joined 93 = .ok (.ireturn, 1) := by decide +kernel
theorem dX0_joined_94 : decode cX0_joined 94 = .ok (.iload_n 1, 1) := by decide +kernel
theorem dX0_joined_95 : decode cX0_joined 95 = .ok (.iload_n 2, 1) := by decide +kernel
theorem dX0_joined_96 : decode cX0_joined 96 = .ok (.isub, 1) := by decide +kernel
theorem dX0_joined_97 : decode cX0_joined 97 = .ok (.ireturn, 1) := by decide +kernel
theorem dX0_joined_98 : decode cX0_joined 98 = .ok (.iload_n 1, 1) := by decide +kernel
theorem dX0_joined_99 : decode cX0_joined 99 = .ok (.iload_n 2, 1) := by decide +kernel
theorem dX0_joined_100 : decode cX0_joined 100 = .ok (.imul, 1) := by decide +kernel
theorem dX0_joined_101 : decode cX0_joined 101 = .ok (.ireturn, 1) := by decide +kernel
def f_X0_joined (x0 : Int32) (x1 : Int32) (x2 : Int32) (σ : GX) : Option (Int32 × GX) :=
  if x0 = (-12 : Int32) then (some ((x1 - x2), σ)) else (if x0 = (-11 : Int32) then (some ((x1 + x2), σ)) else (if x0 = (-10 : Int32) then (if x1 ≠ x2 then (some ((0 : Int32), σ)) else (some ((1 : Int32), σ))) else (if x0 = (-9 : Int32) then (if x2 ≤ x1 then (some ((0 : Int32), σ)) else (some ((1 : Int32), σ))) else (if x0 = (-8 : Int32) then (if x1 = 0 then (some ((0 : Int32), σ)) else (if x2 = 0 then (some ((0 : Int32), σ)) else (some ((1 : Int32), σ)))) else (if x0 = (-7 : Int32) then (if x1 ≠ 0 then (some ((1 : Int32), σ)) else (if x2 = 0 then (some ((0 : Int32), σ)) else (some ((1 : Int32), σ)))) else (some ((x1 * x2), σ)))))))
theorem vf_X0_joined {g : Gt} {ad : Nat → Nat} (z : Zt) (x0 : Int32) (x1 : Int32) (x2 : Int32) (σ : GX) : V g (LX ad) 1 RX0 cX0_joined 3 (some .int) (wX g ad) iI z (f_X0_joined x0 x1 x2 σ) σ 0 [(0, .int x0), (1, .int x1), (2, .int x2)] [] := by
  unfold f_X0_joined
  refine v_iload_n (pc := 0) (i := 0) dX0_joined_0 rfl rfl ?_
  refine v_case (c := x0 = (-12 : Int32)) (fun hx => ?_) (fun hc1_0 => ?_)
  · refine v_tin (pc := 1) (tgt := 94) (off := 93) hx dX0_joined_1 (by decide) (by decide) rfl rfl ?_
    refine v_iload_n (pc := 94) (i := 1) dX0_joined_94 rfl rfl ?_
    refine v_iload_n (pc := 95) (i := 2) dX0_joined_95 rfl rfl ?_
    refine v_isub (pc := 96) dX0_joined_96 ?_
    exact v_iret (pc := 97) dX0_joined_97
  refine v_case (c := x0 = (-11 : Int32)) (fun hx => ?_) (fun hc1_1 => ?_)
  · refine v_tin (pc := 1) (tgt := 90) (off := 89) hx dX0_joined_1 (by decide) (by decide) rfl rfl ?_
    refine v_iload_n (pc := 90) (i := 1) dX0_joined_90 rfl rfl ?_
    refine v_iload_n (pc := 91) (i := 2) dX0_joined_91 rfl rfl ?_
    refine v_iadd (pc := 92) dX0_joined_92 ?_
    exact v_iret (pc := 93) dX0_joined_93
  refine v_case (c := x0 = (-10 : Int32)) (fun hx => ?_) (fun hc1_2 => ?_)
  · refine v_tin (pc := 1) (tgt := 79) (off := 78) hx dX0_joined_1 (by decide) (by decide) rfl rfl ?_
    refine v_iload_n (pc := 79) (i := 1) dX0_joined_79 rfl rfl ?_
    refine v_iload_n (pc := 80) (i := 2) dX0_joined_80 rfl rfl ?_
    refine v_icmp_ne (pc := 81) (tgt := 88) dX0_joined_81 rfl ?_ ?_
    · refine v_iconst (pc := 88) dX0_joined_88 ic_0 ?_
      exact v_iret (pc := 89) dX0_joined_89
    · refine v_iconst (pc := 84) dX0_joined_84 ic_1 ?_
      refine v_goto (pc := 85) (tgt := 89) dX0_joined_85 rfl ?_
      exact v_iret (pc := 89) dX0_joined_89
  refine v_case (c := x0 = (-9 : Int32)) (fun hx => ?_) (fun hc1_3 => ?_)
  · refine v_tin (pc := 1) (tgt := 68) (off := 67) hx dX0_joined_1 (by decide) (by decide) rfl rfl ?_
    refine v_iload_n (pc := 68) (i := 1) dX0_joined_68 rfl rfl ?_
    refine v_iload_n (pc := 69) (i := 2) dX0_joined_69 rfl rfl ?_
    refine v_icmp_ge (pc := 70) (tgt := 77) dX0_joined_70 rfl ?_ ?_
    · refine v_iconst (pc := 77) dX0_joined_77 ic_0 ?_
      exact v_iret (pc := 78) dX0_joined_78
    · refine v_iconst (pc := 73) dX0_joined_73 ic_1 ?_
      refine v_goto (pc := 74) (tgt := 78) dX0_joined_74 rfl ?_
      exact v_iret (pc := 78) dX0_joined_78
  refine v_case (c := x0 = (-8 : Int32)) (fun hx => ?_) (fun hc1_4 => ?_)
  · refine v_tin (pc := 1) (tgt := 54) (off := 53) hx dX0_joined_1 (by decide) (by decide) rfl rfl ?_
    refine v_iload_n (pc := 54) (i := 1) dX0_joined_54 rfl rfl ?_
    refine v_if_eq (pc := 55) (tgt := 66) dX0_joined_55 rfl ?_ ?_
    · refine v_iconst (pc := 66) dX0_joined_66 ic_0 ?_
      exact v_iret (pc := 67) dX0_joined_67
    · refine v_iload_n (pc := 58) (i := 2) dX0_joined_58 rfl rfl ?_
      refine v_if_eq (pc := 59) (tgt := 66) dX0_joined_59 rfl ?_ ?_
      · refine v_iconst (pc := 66) dX0_joined_66 ic_0 ?_
        exact v_iret (pc := 67) dX0_joined_67
      · refine v_iconst (pc := 62) dX0_joined_62 ic_1 ?_
        refine v_goto (pc := 63) (tgt := 67) dX0_joined_63 rfl ?_
        exact v_iret (pc := 67) dX0_joined_67
  refine v_case (c := x0 = (-7 : Int32)) (fun hx => ?_) (fun hc1_5 => ?_)
  · refine v_tin (pc := 1) (tgt := 40) (off := 39) hx dX0_joined_1 (by decide) (by decide) rfl rfl ?_
    refine v_iload_n (pc := 40) (i := 1) dX0_joined_40 rfl rfl ?_
    refine v_if_ne (pc := 41) (tgt := 48) dX0_joined_41 rfl ?_ ?_
    · refine v_iconst (pc := 48) dX0_joined_48 ic_1 ?_
      refine v_goto (pc := 49) (tgt := 53) dX0_joined_49 rfl ?_
      exact v_iret (pc := 53) dX0_joined_53
    · refine v_iload_n (pc := 44) (i := 2) dX0_joined_44 rfl rfl ?_
      refine v_if_eq (pc := 45) (tgt := 52) dX0_joined_45 rfl ?_ ?_
      · refine v_iconst (pc := 52) dX0_joined_52 ic_0 ?_
        exact v_iret (pc := 53) dX0_joined_53
      · refine v_iconst (pc := 48) dX0_joined_48 ic_1 ?_
        refine v_goto (pc := 49) (tgt := 53) dX0_joined_49 rfl ?_
        exact v_iret (pc := 53) dX0_joined_53
  refine v_tout (pc := 1) (tgt := 98) dX0_joined_1 (by have e0 := tsw_ne (a := -12) hc1_0 rfl; have e1 := tsw_ne (a := -11) hc1_1 rfl; have e2 := tsw_ne (a := -10) hc1_2 rfl; have e3 := tsw_ne (a := -9) hc1_3 rfl; have e4 := tsw_ne (a := -8) hc1_4 rfl; have e5 := tsw_ne (a := -7) hc1_5 rfl; omega) rfl ?_
  refine v_iload_n (pc := 98) (i := 1) dX0_joined_98 rfl rfl ?_
  refine v_iload_n (pc := 99) (i := 2) dX0_joined_99 rfl rfl ?_
  refine v_imul (pc := 100) dX0_joined_100 ?_
  exact v_iret (pc := 101) dX0_joined_101
theorem ct_X0_joined {g : Gt} {ad : Nat → Nat} (x0 : Int32) (x1 : Int32) (x2 : Int32) : CT g (LX ad) yX0_joined cX0_joined 3 (some .int) 1 [.int x0, .int x1, .int x2] iI (wX g ad) (f_X0_joined x0 x1 x2) :=
  ct_of_V (own := RX0) (lv0 := [(0, .int x0), (1, .int x1), (2, .int x2)]) (by decide +kernel) rfl (Nat.le_of_ble_eq_true rfl) rfl (fun z σ => vf_X0_joined z x0 x1 x2 σ)
-- LighthouseLiedTo$Law.worth
theorem dX0_worth_0 : decode cX0_worth 0 = .ok (.iload_n 1, 1) := by decide +kernel
theorem dX0_worth_1 : decode cX0_worth 1 = .ok (.ifCond .lt 8, 3) := by decide +kernel
theorem dX0_worth_4 : decode cX0_worth 4 = .ok (.iload_n 1, 1) := by decide +kernel
theorem dX0_worth_5 : decode cX0_worth 5 = .ok (.iconst 3, 1) := by decide +kernel
theorem dX0_worth_6 : decode cX0_worth 6 = .ok (.if_icmp .lt 5, 3) := by decide +kernel
theorem dX0_worth_9 : decode cX0_worth 9 = .ok (.iconst 0, 1) := by decide +kernel
theorem dX0_worth_10 : decode cX0_worth 10 = .ok (.ireturn, 1) := by decide +kernel
theorem dX0_worth_11 : decode cX0_worth 11 = .ok (.iconst 0, 1) := by decide +kernel
theorem dX0_worth_12 : decode cX0_worth 12 = .ok (.istore 5, 2) := by decide +kernel
theorem dX0_worth_14 : decode cX0_worth 14 = .ok (.iload_n 1, 1) := by decide +kernel
theorem dX0_worth_15 : decode cX0_worth 15 = .ok (.ifCond .ne 7, 3) := by decide +kernel
theorem dX0_worth_18 : decode cX0_worth 18 = .ok (.iconst 0, 1) := by decide +kernel
theorem dX0_worth_19 : decode cX0_worth 19 = .ok (.goto 11, 3) := by decide +kernel
theorem dX0_worth_22 : decode cX0_worth 22 = .ok (.aload_n 0, 1) := by decide +kernel
theorem dX0_worth_23 : decode cX0_worth 23 = .ok (.getfield 18, 3) := by decide +kernel
theorem dX0_worth_26 : decode cX0_worth 26 = .ok (.iload_n 1, 1) := by decide +kernel
theorem dX0_worth_27 : decode cX0_worth 27 = .ok (.iconst 1, 1) := by decide +kernel
theorem dX0_worth_28 : decode cX0_worth 28 = .ok (.isub, 1) := by decide +kernel
theorem dX0_worth_29 : decode cX0_worth 29 = .ok (.iaload, 1) := by decide +kernel
theorem dX0_worth_30 : decode cX0_worth 30 = .ok (.istore 6, 2) := by decide +kernel
theorem dX0_worth_32 : decode cX0_worth 32 = .ok (.iload 6, 2) := by decide +kernel
theorem dX0_worth_34 : decode cX0_worth 34 = .ok (.aload_n 0, 1) := by decide +kernel
theorem dX0_worth_35 : decode cX0_worth 35 = .ok (.getfield 18, 3) := by decide +kernel
theorem dX0_worth_38 : decode cX0_worth 38 = .ok (.iload_n 1, 1) := by decide +kernel
theorem dX0_worth_39 : decode cX0_worth 39 = .ok (.iaload, 1) := by decide +kernel
theorem dX0_worth_40 : decode cX0_worth 40 = .ok (.if_icmp .ge 181, 3) := by decide +kernel
theorem dX0_worth_43 : decode cX0_worth 43 = .ok (.iload 6, 2) := by decide +kernel
theorem dX0_worth_45 : decode cX0_worth 45 = .ok (.aload_n 0, 1) := by decide +kernel
theorem dX0_worth_46 : decode cX0_worth 46 = .ok (.getfield 9, 3) := by decide +kernel
theorem dX0_worth_49 : decode cX0_worth 49 = .ok (.arraylength, 1) := by decide +kernel
theorem dX0_worth_50 : decode cX0_worth 50 = .ok (.if_icmp .ge 171, 3) := by decide +kernel
theorem dX0_worth_53 : decode cX0_worth 53 = .ok (.aload_n 0, 1) := by decide +kernel
theorem dX0_worth_54 : decode cX0_worth 54 = .ok (.getfield 9, 3) := by decide +kernel
theorem dX0_worth_57 : decode cX0_worth 57 = .ok (.iload 6, 2) := by decide +kernel
theorem dX0_worth_59 : decode cX0_worth 59 = .ok (.iaload, 1) := by decide +kernel
theorem dX0_worth_60 : decode cX0_worth 60 = .ok (.istore 7, 2) := by decide +kernel
theorem dX0_worth_62 : decode cX0_worth 62 = .ok (.iload 7, 2) := by decide +kernel
theorem dX0_worth_64 : decode cX0_worth 64 = .ok (.bipush (-6), 2) := by decide +kernel
theorem dX0_worth_66 : decode cX0_worth 66 = .ok (.if_icmp .lt 47, 3) := by decide +kernel
theorem dX0_worth_69 : decode cX0_worth 69 = .ok (.iload 5, 2) := by decide +kernel
theorem dX0_worth_71 : decode cX0_worth 71 = .ok (.aload_n 0, 1) := by decide +kernel
theorem dX0_worth_72 : decode cX0_worth 72 = .ok (.getfield 15, 3) := by decide +kernel
theorem dX0_worth_75 : decode cX0_worth 75 = .ok (.arraylength, 1) := by decide +kernel
theorem dX0_worth_76 : decode cX0_worth 76 = .ok (.if_icmp .lt 5, 3) := by decide +kernel
theorem dX0_worth_79 : decode cX0_worth 79 = .ok (.iconst 0, 1) := by decide +kernel
theorem dX0_worth_80 : decode cX0_worth 80 = .ok (.ireturn, 1) := by decide +kernel
theorem dX0_worth_81 : decode cX0_worth 81 = .ok (.aload_n 0, 1) := by decide +kernel
theorem dX0_worth_82 : decode cX0_worth 82 = .ok (.getfield 15, 3) := by decide +kernel
theorem dX0_worth_85 : decode cX0_worth 85 = .ok (.iload 5, 2) := by decide +kernel
theorem dX0_worth_87 : decode cX0_worth 87 = .ok (.iload 7, 2) := by decide +kernel
theorem dX0_worth_89 : decode cX0_worth 89 = .ok (.ifCond .lt 8, 3) := by decide +kernel
theorem dX0_worth_92 : decode cX0_worth 92 = .ok (.iload 7, 2) := by decide +kernel
theorem dX0_worth_94 : decode cX0_worth 94 = .ok (.goto 12, 3) := by decide +kernel
theorem dX0_worth_97 : decode cX0_worth 97 = .ok (.iload 7, 2) := by decide +kernel
theorem dX0_worth_99 : decode cX0_worth 99 = .ok (.aload_n 2, 1) := by decide +kernel
theorem dX0_worth_100 : decode cX0_worth 100 = .ok (.iload_n 3, 1) := by decide +kernel
theorem dX0_worth_101 : decode cX0_worth 101 = .ok (.iload 4, 2) := by decide +kernel
theorem dX0_worth_103 : decode cX0_worth 103 = .ok (.invokestatic 25, 3) := by decide +kernel
theorem dX0_worth_106 : decode cX0_worth 106 = .ok (.iastore, 1) := by decide +kernel
theorem dX0_worth_107 : decode cX0_worth 107 = .ok (.iinc 5 1, 3) := by decide +kernel
theorem dX0_worth_110 : decode cX0_worth 110 = .ok (.goto 105, 3) := by decide +kernel
theorem dX0_worth_113 : decode cX0_worth 113 = .ok (.iload 7, 2) := by decide +kernel
theorem dX0_worth_115 : decode cX0_worth 115 = .ok (.bipush (-14), 2) := by decide +kernel
theorem dX0_worth_117 : decode cX0_worth 117 = .ok (.if_icmp .gt 57, 3) := by decide +kernel
theorem dX0_worth_120 : decode cX0_worth 120 = .ok (.iload 5, 2) := by decide +kernel
theorem dX0_worth_122 : decode cX0_worth 122 = .ok (.iconst 1, 1) := by decide +kernel
theorem dX0_worth_123 : decode cX0_worth 123 = .ok (.if_icmp .ge 5, 3) := by decide +kernel
theorem dX0_worth_126 : decode cX0_worth 126 = .ok (.iconst 0, 1) := by decide +kernel
theorem dX0_worth_127 : decode cX0_worth 127 = .ok (.ireturn, 1) := by decide +kernel
theorem dX0_worth_128 : decode cX0_worth 128 = .ok (.aload_n 0, 1) := by decide +kernel
theorem dX0_worth_129 : decode cX0_worth 129 = .ok (.getfield 15, 3) := by decide +kernel
theorem dX0_worth_132 : decode cX0_worth 132 = .ok (.iload 5, 2) := by decide +kernel
theorem dX0_worth_134 : decode cX0_worth 134 = .ok (.iconst 1, 1) := by decide +kernel
theorem dX0_worth_135 : decode cX0_worth 135 = .ok (.isub, 1) := by decide +kernel
theorem dX0_worth_136 : decode cX0_worth 136 = .ok (.iaload, 1) := by decide +kernel
theorem dX0_worth_137 : decode cX0_worth 137 = .ok (.istore 8, 2) := by decide +kernel
theorem dX0_worth_139 : decode cX0_worth 139 = .ok (.aload_n 0, 1) := by decide +kernel
theorem dX0_worth_140 : decode cX0_worth 140 = .ok (.getfield 15, 3) := by decide +kernel
theorem dX0_worth_143 : decode cX0_worth 143 = .ok (.iload 5, 2) := by decide +kernel
theorem dX0_worth_145 : decode cX0_worth 145 = .ok (.iconst 1, 1) := by decide +kernel
theorem dX0_worth_146 : decode cX0_worth 146 = .ok (.isub, 1) := by decide +kernel
theorem dX0_worth_147 : decode cX0_worth 147 = .ok (.iload 7, 2) := by decide +kernel
theorem dX0_worth_149 : decode cX0_worth 149 = .ok (.bipush (-15), 2) := by decide +kernel
theorem dX0_worth_151 : decode cX0_worth 151 = .ok (.if_icmp .ne 9, 3) := by decide +kernel
theorem dX0_worth_154 : decode cX0_worth 154 = .ok (.iload 8, 2) := by decide +kernel
theorem dX0_worth_156 : decode cX0_worth 156 = .ok (.ineg, 1) := by decide +kernel
theorem dX0_worth_157 : decode cX0_worth 157 = .ok (.goto 13, 3) := by decide +kernel
theorem dX0_worth_160 : decode cX0_worth 160 = .ok (.iload 8, 2) := by decide +kernel
theorem dX0_worth_162 : decode cX0_worth 162 = .ok (.ifCond .ne 7, 3) := by decide +kernel
theorem dX0_worth_165 : decode cX0_worth 165 = .ok (.iconst 1, 1) := by decide +kernel
theorem dX0_worth_166 : decode cX0_worth 166 = .ok (.goto 4, 3) := by decide +kernel
theorem dX0_worth_169 : decode cX0_worth 169 = .ok (.iconst 0, 1) := by decide +kernel
theorem dX0_worth_170 : decode cX0_worth 170 = .ok (.iastore, 1) := by decide +kernel
theorem dX0_worth_171 : decode cX0_worth 171 = .ok (.goto 44, 3) := by decide +kernel
theorem dX0_worth_174 : decode cX0_worth 174 = .ok (.iload 5, 2) := by decide +kernel
theorem dX0_worth_176 : decode cX0_worth 176 = .ok (.iconst 2, 1) := by decide +kernel
theorem dX0_worth_177 : decode cX0_worth 177 = .ok (.if_icmp .ge 5, 3) := by decide +kernel
theorem dX0_worth_180 : decode cX0_worth 180 = .ok (.iconst 0, 1) := by decide +kernel
theorem dX0_worth_181 : decode cX0_worth 181 = .ok (.ireturn, 1) := by decide +kernel
theorem dX0_worth_182 : decode cX0_worth 182 = .ok (.iinc 5 (-1), 3) := by decide +kernel
theorem dX0_worth_185 : decode cX0_worth 185 = .ok (.aload_n 0, 1) := by decide +kernel
theorem dX0_worth_186 : decode cX0_worth 186 = .ok (.getfield 15, 3) := by decide +kernel
theorem dX0_worth_189 : decode cX0_worth 189 = .ok (.iload 5, 2) := by decide +kernel
theorem dX0_worth_191 : decode cX0_worth 191 = .ok (.iconst 1, 1) := by decide +kernel
theorem dX0_worth_192 : decode cX0_worth 192 = .ok (.isub, 1) := by decide +kernel
theorem dX0_worth_193 : decode cX0_worth 193 = .ok (.iload 7, 2) := by decide +kernel
theorem dX0_worth_195 : decode cX0_worth 195 = .ok (.aload_n 0, 1) := by decide +kernel
theorem dX0_worth_196 : decode cX0_worth 196 = .ok (.getfield 15, 3) := by decide +kernel
theorem dX0_worth_199 : decode cX0_worth 199 = .ok (.iload 5, 2) := by decide +kernel
theorem dX0_worth_201 : decode cX0_worth 201 = .ok (.iconst 1, 1) := by decide +kernel
theorem dX0_worth_202 : decode cX0_worth 202 = .ok (.isub, 1) := by decide +kernel
theorem dX0_worth_203 : decode cX0_worth 203 = .ok (.iaload, 1) := by decide +kernel
theorem dX0_worth_204 : decode cX0_worth 204 = .ok (.aload_n 0, 1) := by decide +kernel
theorem dX0_worth_205 : decode cX0_worth 205 = .ok (.getfield 15, 3) := by decide +kernel
theorem dX0_worth_208 : decode cX0_worth 208 = .ok (.iload 5, 2) := by decide +kernel
theorem dX0_worth_210 : decode cX0_worth 210 = .ok (.iaload, 1) := by decide +kernel
theorem dX0_worth_211 : decode cX0_worth 211 = .ok (.invokestatic 29, 3) := by decide +kernel
theorem dX0_worth_214 : decode cX0_worth 214 = .ok (.iastore, 1) := by decide +kernel
theorem dX0_worth_215 : decode cX0_worth 215 = .ok (.iinc 6 1, 3) := by decide +kernel
theorem dX0_worth_218 : decode cX0_worth 218 = .ok (.goto (-186), 3) := by decide +kernel
theorem dX0_worth_221 : decode cX0_worth 221 = .ok (.iload 5, 2) := by decide +kernel
theorem dX0_worth_223 : decode cX0_worth 223 = .ok (.ifCond .le 12, 3) := by decide +kernel
theorem dX0_worth_226 : decode cX0_worth 226 = .ok (.aload_n 0, 1) := by decide +kernel
theorem dX0_worth_227 : decode cX0_worth 227 = .ok (.getfield 15, 3) := by decide +kernel
theorem dX0_worth_230 : decode cX0_worth 230 = .ok (.iconst 0, 1) := by decide +kernel
theorem dX0_worth_231 : decode cX0_worth 231 = .ok (.iaload, 1) := by decide +kernel
theorem dX0_worth_232 : decode cX0_worth 232 = .ok (.goto 4, 3) := by decide +kernel
theorem dX0_worth_235 : decode cX0_worth 235 = .ok (.iconst 0, 1) := by decide +kernel
theorem dX0_worth_236 : decode cX0_worth 236 = .ok (.ireturn, 1) := by decide +kernel
def b_X0_worth_221 (t : Nat) (y : Nat) (x5 : Int32) (σ : GX) : Option (Int32 × GX) :=
  if x5 ≤ 0 then (some ((0 : Int32), σ)) else (grd (0 : Int32) 160 (some ((xU σ t 1 (0 : Int32).toNatClampNeg), σ)))
theorem vb_X0_worth_221 {g : Gt} {ad : Nat → Nat} (z : Zt) (t : Nat) (y : Nat) (ht : t < 6) (hy : y < 3) (x5 : Int32) (σ : GX) : V g (LX ad) 2 RX0 cX0_worth 9 (some .int) (wX g ad) iI z (b_X0_worth_221 t y x5 σ) σ 221 [(0, .ref (aLaw ad t)), (5, .int x5)] [] := by
  unfold b_X0_worth_221
  refine v_iload (pc := 221) (i := 5) dX0_worth_221 rfl ?_
  refine v_if_le (pc := 223) (tgt := 235) dX0_worth_223 rfl ?_ ?_
  · refine v_iconst (pc := 235) dX0_worth_235 ic_0 ?_
    exact v_iret (pc := 236) dX0_worth_236
  · refine v_aload_n (pc := 226) (i := 0) dX0_worth_226 rfl rfl ?_
    refine gX0_stack (pc := 227) (t := t) ht q_111 dX0_worth_227 ?_
    refine v_iconst (pc := 230) dX0_worth_230 ic_0 ?_
    refine lX_law1 (pc := 231) (t := t) ht dX0_worth_231 ?_
    refine v_goto (pc := 232) (tgt := 236) dX0_worth_232 rfl ?_
    exact v_iret (pc := 236) dX0_worth_236
def b_X0_worth_32 (t : Nat) (y : Nat) (kc32 : Int32 → Int32 → Int32 → Int32 → Int32 → GX → Option (Int32 × GX)) (x1 : Int32) (x3 : Int32) (x4 : Int32) (x5 : Int32) (x6 : Int32) (σ : GX) : Option (Int32 × GX) :=
  grd x1 3 (if (xU σ t 2 x1.toNatClampNeg) ≤ x6 then (b_X0_worth_221 t y x5 σ) else (if (160 : Int32) ≤ x6 then (b_X0_worth_221 t y x5 σ) else (grd x6 160 (bnd (some (xU σ t 0 x6.toNatClampNeg)) fun w2 => if w2 < (-6 : Int32) then (if (-14 : Int32) < w2 then (if (2 : Int32) ≤ x5 then (grd ((x5 + (-1 : Int32)) - (1 : Int32)) 160 (grd (x5 + (-1 : Int32)) 160 (bnd (f_X0_joined w2 (xU σ t 1 ((x5 + (-1 : Int32)) - (1 : Int32)).toNatClampNeg) (xU σ t 1 (x5 + (-1 : Int32)).toNatClampNeg) σ) fun q3 => grd ((x5 + (-1 : Int32)) - (1 : Int32)) 160 (bnd (some (sU q3.2 t 1 ((x5 + (-1 : Int32)) - (1 : Int32)).toNatClampNeg q3.1)) fun σ4 => kc32 x1 x3 x4 (x5 + (-1 : Int32)) (x6 + (1 : Int32)) σ4)))) else (some ((0 : Int32), σ))) else (if (1 : Int32) ≤ x5 then (grd (x5 - (1 : Int32)) 160 (bnd (some (xU σ t 1 (x5 - (1 : Int32)).toNatClampNeg)) fun w5 => if w2 ≠ (-15 : Int32) then (if w5 ≠ 0 then (grd (x5 - (1 : Int32)) 160 (bnd (some (sU σ t 1 (x5 - (1 : Int32)).toNatClampNeg (0 : Int32))) fun σ6 => kc32 x1 x3 x4 x5 (x6 + (1 : Int32)) σ6)) else (grd (x5 - (1 : Int32)) 160 (bnd (some (sU σ t 1 (x5 - (1 : Int32)).toNatClampNeg (1 : Int32))) fun σ7 => kc32 x1 x3 x4 x5 (x6 + (1 : Int32)) σ7))) else (grd (x5 - (1 : Int32)) 160 (bnd (some (sU σ t 1 (x5 - (1 : Int32)).toNatClampNeg (-w5))) fun σ8 => kc32 x1 x3 x4 x5 (x6 + (1 : Int32)) σ8)))) else (some ((0 : Int32), σ)))) else (if x5 < (160 : Int32) then (if w2 < 0 then (bnd (f_X0_named y w2 x3 x4 σ) fun q9 => grd x5 160 (bnd (some (sU q9.2 t 1 x5.toNatClampNeg q9.1)) fun σ10 => kc32 x1 x3 x4 (x5 + (1 : Int32)) (x6 + (1 : Int32)) σ10)) else (grd x5 160 (bnd (some (sU σ t 1 x5.toNatClampNeg w2)) fun σ11 => kc32 x1 x3 x4 (x5 + (1 : Int32)) (x6 + (1 : Int32)) σ11))) else (some ((0 : Int32), σ)))))))
theorem vb_X0_worth_32 {g : Gt} {ad : Nat → Nat} (z : Zt) (t : Nat) (y : Nat) (ht : t < 6) (hy : y < 3) (kc32 : Int32 → Int32 → Int32 → Int32 → Int32 → GX → Option (Int32 × GX)) (hkc32 : ∀ (x1 : Int32) (x3 : Int32) (x4 : Int32) (x5 : Int32) (x6 : Int32) (σ : GX), V g (LX ad) 2 RX0 cX0_worth 9 (some .int) (wX g ad) iI z (kc32 x1 x3 x4 x5 x6 σ) σ 32 [(0, .ref (aLaw ad t)), (1, .int x1), (2, .ref (aSea ad y)), (3, .int x3), (4, .int x4), (5, .int x5), (6, .int x6)] []) (x1 : Int32) (x3 : Int32) (x4 : Int32) (x5 : Int32) (x6 : Int32) (σ : GX) : V g (LX ad) 2 RX0 cX0_worth 9 (some .int) (wX g ad) iI z (b_X0_worth_32 t y kc32 x1 x3 x4 x5 x6 σ) σ 32 [(0, .ref (aLaw ad t)), (1, .int x1), (2, .ref (aSea ad y)), (3, .int x3), (4, .int x4), (5, .int x5), (6, .int x6)] [] := by
  unfold b_X0_worth_32
  refine v_iload (pc := 32) (i := 6) dX0_worth_32 rfl ?_
  refine v_aload_n (pc := 34) (i := 0) dX0_worth_34 rfl rfl ?_
  refine gX0_ends (pc := 35) (t := t) ht q_112 dX0_worth_35 ?_
  refine v_iload_n (pc := 38) (i := 1) dX0_worth_38 rfl rfl ?_
  refine lX_law2 (pc := 39) (t := t) ht dX0_worth_39 ?_
  refine v_icmp_ge (pc := 40) (tgt := 221) dX0_worth_40 rfl ?_ ?_
  · exact v_sub [0, 5] rfl (vb_X0_worth_221 z t y ht hy x5 σ)
  · refine v_iload (pc := 43) (i := 6) dX0_worth_43 rfl ?_
    refine v_aload_n (pc := 45) (i := 0) dX0_worth_45 rfl rfl ?_
    refine gX0_steps (pc := 46) (t := t) ht q_110 dX0_worth_46 ?_
    refine nX_law0 (pc := 49) (t := t) ht (v := (160 : Int32)) rfl dX0_worth_49 ?_
    refine v_icmp_ge (pc := 50) (tgt := 221) dX0_worth_50 rfl ?_ ?_
    · exact v_sub [0, 5] rfl (vb_X0_worth_221 z t y ht hy x5 σ)
    · refine v_aload_n (pc := 53) (i := 0) dX0_worth_53 rfl rfl ?_
      refine gX0_steps (pc := 54) (t := t) ht q_110 dX0_worth_54 ?_
      refine v_iload (pc := 57) (i := 6) dX0_worth_57 rfl ?_
      refine lX_law0 (pc := 59) (t := t) ht dX0_worth_59 ?_
      refine v_nmi (fun w2 => ?_)
      refine v_istore (pc := 60) (lv' := [(7, .int w2), (0, .ref (aLaw ad t)), (1, .int x1), (2, .ref (aSea ad y)), (3, .int x3), (4, .int x4), (5, .int x5), (6, .int x6)]) (i := 7) dX0_worth_60 (by decide) rfl ?_
      refine v_iload (pc := 62) (i := 7) dX0_worth_62 rfl ?_
      refine v_bipush (pc := 64) dX0_worth_64 bp_m6 ?_
      refine v_icmp_lt (pc := 66) (tgt := 113) dX0_worth_66 rfl ?_ ?_
      · refine v_iload (pc := 113) (i := 7) dX0_worth_113 rfl ?_
        refine v_bipush (pc := 115) dX0_worth_115 bp_m14 ?_
        refine v_icmp_gt (pc := 117) (tgt := 174) dX0_worth_117 rfl ?_ ?_
        · refine v_iload (pc := 174) (i := 5) dX0_worth_174 rfl ?_
          refine v_iconst (pc := 176) dX0_worth_176 ic_2 ?_
          refine v_icmp_ge (pc := 177) (tgt := 182) dX0_worth_177 rfl ?_ ?_
          · refine v_iinc (pc := 182) (lv' := [(5, .int (x5 + (-1 : Int32))), (7, .int w2), (0, .ref (aLaw ad t)), (1, .int x1), (2, .ref (aSea ad y)), (3, .int x3), (4, .int x4), (6, .int x6)]) (i := 5) dX0_worth_182 rfl ic_m1 (by decide) rfl ?_
            refine v_aload_n (pc := 185) (i := 0) dX0_worth_185 rfl rfl ?_
            refine gX0_stack (pc := 186) (t := t) ht q_111 dX0_worth_186 ?_
            refine v_iload (pc := 189) (i := 5) dX0_worth_189 rfl ?_
            refine v_iconst (pc := 191) dX0_worth_191 ic_1 ?_
            refine v_isub (pc := 192) dX0_worth_192 ?_
            refine v_iload (pc := 193) (i := 7) dX0_worth_193 rfl ?_
            refine v_aload_n (pc := 195) (i := 0) dX0_worth_195 rfl rfl ?_
            refine gX0_stack (pc := 196) (t := t) ht q_111 dX0_worth_196 ?_
            refine v_iload (pc := 199) (i := 5) dX0_worth_199 rfl ?_
            refine v_iconst (pc := 201) dX0_worth_201 ic_1 ?_
            refine v_isub (pc := 202) dX0_worth_202 ?_
            refine lX_law1 (pc := 203) (t := t) ht dX0_worth_203 ?_
            refine v_aload_n (pc := 204) (i := 0) dX0_worth_204 rfl rfl ?_
            refine gX0_stack (pc := 205) (t := t) ht q_111 dX0_worth_205 ?_
            refine v_iload (pc := 208) (i := 5) dX0_worth_208 rfl ?_
            refine lX_law1 (pc := 210) (t := t) ht dX0_worth_210 ?_
            refine v_callSi (pc := 211) (av := [.int w2, .int (xU σ t 1 ((x5 + (-1 : Int32)) - (1 : Int32)).toNatClampNeg), .int (xU σ t 1 (x5 + (-1 : Int32)).toNatClampNeg)]) (rest := [.int ((x5 + (-1 : Int32)) - (1 : Int32)), .ref (aLawA ad t 1)]) (ct_X0_joined w2 (xU σ t 1 ((x5 + (-1 : Int32)) - (1 : Int32)).toNatClampNeg) (xU σ t 1 (x5 + (-1 : Int32)).toNatClampNeg)) mi_X0_joined q_448 (by decide) rfl rfl (Nat.le_of_ble_eq_true rfl) dX0_worth_211 (fun q3 => ?_)
            refine sX_law1 (pc := 214) (t := t) ht dX0_worth_214 ?_
            refine v_nms (fun σ4 => ?_)
            refine v_iinc (pc := 215) (lv' := [(6, .int (x6 + (1 : Int32))), (5, .int (x5 + (-1 : Int32))), (7, .int w2), (0, .ref (aLaw ad t)), (1, .int x1), (2, .ref (aSea ad y)), (3, .int x3), (4, .int x4)]) (i := 6) dX0_worth_215 rfl ic_1 (by decide) rfl ?_
            refine v_goto (pc := 218) (tgt := 32) dX0_worth_218 rfl ?_
            exact v_sub [3, 4, 5, 6, 7, 1, 0] rfl (hkc32 x1 x3 x4 (x5 + (-1 : Int32)) (x6 + (1 : Int32)) σ4)
          · refine v_iconst (pc := 180) dX0_worth_180 ic_0 ?_
            exact v_iret (pc := 181) dX0_worth_181
        · refine v_iload (pc := 120) (i := 5) dX0_worth_120 rfl ?_
          refine v_iconst (pc := 122) dX0_worth_122 ic_1 ?_
          refine v_icmp_ge (pc := 123) (tgt := 128) dX0_worth_123 rfl ?_ ?_
          · refine v_aload_n (pc := 128) (i := 0) dX0_worth_128 rfl rfl ?_
            refine gX0_stack (pc := 129) (t := t) ht q_111 dX0_worth_129 ?_
            refine v_iload (pc := 132) (i := 5) dX0_worth_132 rfl ?_
            refine v_iconst (pc := 134) dX0_worth_134 ic_1 ?_
            refine v_isub (pc := 135) dX0_worth_135 ?_
            refine lX_law1 (pc := 136) (t := t) ht dX0_worth_136 ?_
            refine v_nmi (fun w5 => ?_)
            refine v_istore (pc := 137) (lv' := [(8, .int w5), (7, .int w2), (0, .ref (aLaw ad t)), (1, .int x1), (2, .ref (aSea ad y)), (3, .int x3), (4, .int x4), (5, .int x5), (6, .int x6)]) (i := 8) dX0_worth_137 (by decide) rfl ?_
            refine v_aload_n (pc := 139) (i := 0) dX0_worth_139 rfl rfl ?_
            refine gX0_stack (pc := 140) (t := t) ht q_111 dX0_worth_140 ?_
            refine v_iload (pc := 143) (i := 5) dX0_worth_143 rfl ?_
            refine v_iconst (pc := 145) dX0_worth_145 ic_1 ?_
            refine v_isub (pc := 146) dX0_worth_146 ?_
            refine v_iload (pc := 147) (i := 7) dX0_worth_147 rfl ?_
            refine v_bipush (pc := 149) dX0_worth_149 bp_m15 ?_
            refine v_icmp_ne (pc := 151) (tgt := 160) dX0_worth_151 rfl ?_ ?_
            · refine v_iload (pc := 160) (i := 8) dX0_worth_160 rfl ?_
              refine v_if_ne (pc := 162) (tgt := 169) dX0_worth_162 rfl ?_ ?_
              · refine v_iconst (pc := 169) dX0_worth_169 ic_0 ?_
                refine sX_law1 (pc := 170) (t := t) ht dX0_worth_170 ?_
                refine v_nms (fun σ6 => ?_)
                refine v_goto (pc := 171) (tgt := 215) dX0_worth_171 rfl ?_
                refine v_iinc (pc := 215) (lv' := [(6, .int (x6 + (1 : Int32))), (8, .int w5), (7, .int w2), (0, .ref (aLaw ad t)), (1, .int x1), (2, .ref (aSea ad y)), (3, .int x3), (4, .int x4), (5, .int x5)]) (i := 6) dX0_worth_215 rfl ic_1 (by decide) rfl ?_
                refine v_goto (pc := 218) (tgt := 32) dX0_worth_218 rfl ?_
                exact v_sub [3, 4, 5, 6, 7, 8, 0] rfl (hkc32 x1 x3 x4 x5 (x6 + (1 : Int32)) σ6)
              · refine v_iconst (pc := 165) dX0_worth_165 ic_1 ?_
                refine v_goto (pc := 166) (tgt := 170) dX0_worth_166 rfl ?_
                refine sX_law1 (pc := 170) (t := t) ht dX0_worth_170 ?_
                refine v_nms (fun σ7 => ?_)
                refine v_goto (pc := 171) (tgt := 215) dX0_worth_171 rfl ?_
                refine v_iinc (pc := 215) (lv' := [(6, .int (x6 + (1 : Int32))), (8, .int w5), (7, .int w2), (0, .ref (aLaw ad t)), (1, .int x1), (2, .ref (aSea ad y)), (3, .int x3), (4, .int x4), (5, .int x5)]) (i := 6) dX0_worth_215 rfl ic_1 (by decide) rfl ?_
                refine v_goto (pc := 218) (tgt := 32) dX0_worth_218 rfl ?_
                exact v_sub [3, 4, 5, 6, 7, 8, 0] rfl (hkc32 x1 x3 x4 x5 (x6 + (1 : Int32)) σ7)
            · refine v_iload (pc := 154) (i := 8) dX0_worth_154 rfl ?_
              refine v_ineg (pc := 156) dX0_worth_156 ?_
              refine v_goto (pc := 157) (tgt := 170) dX0_worth_157 rfl ?_
              refine sX_law1 (pc := 170) (t := t) ht dX0_worth_170 ?_
              refine v_nms (fun σ8 => ?_)
              refine v_goto (pc := 171) (tgt := 215) dX0_worth_171 rfl ?_
              refine v_iinc (pc := 215) (lv' := [(6, .int (x6 + (1 : Int32))), (8, .int w5), (7, .int w2), (0, .ref (aLaw ad t)), (1, .int x1), (2, .ref (aSea ad y)), (3, .int x3), (4, .int x4), (5, .int x5)]) (i := 6) dX0_worth_215 rfl ic_1 (by decide) rfl ?_
              refine v_goto (pc := 218) (tgt := 32) dX0_worth_218 rfl ?_
              exact v_sub [3, 4, 5, 6, 7, 8, 0] rfl (hkc32 x1 x3 x4 x5 (x6 + (1 : Int32)) σ8)
          · refine v_iconst (pc := 126) dX0_worth_126 ic_0 ?_
            exact v_iret (pc := 127) dX0_worth_127
      · refine v_iload (pc := 69) (i := 5) dX0_worth_69 rfl ?_
        refine v_aload_n (pc := 71) (i := 0) dX0_worth_71 rfl rfl ?_
        refine gX0_stack (pc := 72) (t := t) ht q_111 dX0_worth_72 ?_
        refine nX_law1 (pc := 75) (t := t) ht (v := (160 : Int32)) rfl dX0_worth_75 ?_
        refine v_icmp_lt (pc := 76) (tgt := 81) dX0_worth_76 rfl ?_ ?_
        · refine v_aload_n (pc := 81) (i := 0) dX0_worth_81 rfl rfl ?_
          refine gX0_stack (pc := 82) (t := t) ht q_111 dX0_worth_82 ?_
          refine v_iload (pc := 85) (i := 5) dX0_worth_85 rfl ?_
          refine v_iload (pc := 87) (i := 7) dX0_worth_87 rfl ?_
          refine v_if_lt (pc := 89) (tgt := 97) dX0_worth_89 rfl ?_ ?_
          · refine v_iload (pc := 97) (i := 7) dX0_worth_97 rfl ?_
            refine v_aload_n (pc := 99) (i := 2) dX0_worth_99 rfl rfl ?_
            refine v_iload_n (pc := 100) (i := 3) dX0_worth_100 rfl rfl ?_
            refine v_iload (pc := 101) (i := 4) dX0_worth_101 rfl ?_
            refine v_callSi (pc := 103) (av := [.int w2, .ref (aSea ad y), .int x3, .int x4]) (rest := [.int x5, .ref (aLawA ad t 1)]) (ct_X0_named hy w2 x3 x4) mi_X0_named q_445 (by decide) rfl rfl (Nat.le_of_ble_eq_true rfl) dX0_worth_103 (fun q9 => ?_)
            refine sX_law1 (pc := 106) (t := t) ht dX0_worth_106 ?_
            refine v_nms (fun σ10 => ?_)
            refine v_iinc (pc := 107) (lv' := [(5, .int (x5 + (1 : Int32))), (7, .int w2), (0, .ref (aLaw ad t)), (1, .int x1), (2, .ref (aSea ad y)), (3, .int x3), (4, .int x4), (6, .int x6)]) (i := 5) dX0_worth_107 rfl ic_1 (by decide) rfl ?_
            refine v_goto (pc := 110) (tgt := 215) dX0_worth_110 rfl ?_
            refine v_iinc (pc := 215) (lv' := [(6, .int (x6 + (1 : Int32))), (5, .int (x5 + (1 : Int32))), (7, .int w2), (0, .ref (aLaw ad t)), (1, .int x1), (2, .ref (aSea ad y)), (3, .int x3), (4, .int x4)]) (i := 6) dX0_worth_215 rfl ic_1 (by decide) rfl ?_
            refine v_goto (pc := 218) (tgt := 32) dX0_worth_218 rfl ?_
            exact v_sub [3, 4, 5, 6, 7, 1, 0] rfl (hkc32 x1 x3 x4 (x5 + (1 : Int32)) (x6 + (1 : Int32)) σ10)
          · refine v_iload (pc := 92) (i := 7) dX0_worth_92 rfl ?_
            refine v_goto (pc := 94) (tgt := 106) dX0_worth_94 rfl ?_
            refine sX_law1 (pc := 106) (t := t) ht dX0_worth_106 ?_
            refine v_nms (fun σ11 => ?_)
            refine v_iinc (pc := 107) (lv' := [(5, .int (x5 + (1 : Int32))), (7, .int w2), (0, .ref (aLaw ad t)), (1, .int x1), (2, .ref (aSea ad y)), (3, .int x3), (4, .int x4), (6, .int x6)]) (i := 5) dX0_worth_107 rfl ic_1 (by decide) rfl ?_
            refine v_goto (pc := 110) (tgt := 215) dX0_worth_110 rfl ?_
            refine v_iinc (pc := 215) (lv' := [(6, .int (x6 + (1 : Int32))), (5, .int (x5 + (1 : Int32))), (7, .int w2), (0, .ref (aLaw ad t)), (1, .int x1), (2, .ref (aSea ad y)), (3, .int x3), (4, .int x4)]) (i := 6) dX0_worth_215 rfl ic_1 (by decide) rfl ?_
            refine v_goto (pc := 218) (tgt := 32) dX0_worth_218 rfl ?_
            exact v_sub [3, 4, 5, 6, 7, 1, 0] rfl (hkc32 x1 x3 x4 (x5 + (1 : Int32)) (x6 + (1 : Int32)) σ11)
        · refine v_iconst (pc := 79) dX0_worth_79 ic_0 ?_
          exact v_iret (pc := 80) dX0_worth_80
def k_X0_worth_32 (t : Nat) (y : Nat) : Nat → Int32 → Int32 → Int32 → Int32 → Int32 → GX → Option (Int32 × GX)
  | 0 => fun _ _ _ _ _ _ => none
  | n + 1 => b_X0_worth_32 t y (k_X0_worth_32 t y n)
theorem vk_X0_worth_32 {g : Gt} {ad : Nat → Nat} (z : Zt) (t : Nat) (y : Nat) (ht : t < 6) (hy : y < 3) : ∀ (n : Nat) (x1 : Int32) (x3 : Int32) (x4 : Int32) (x5 : Int32) (x6 : Int32) (σ : GX), V g (LX ad) 2 RX0 cX0_worth 9 (some .int) (wX g ad) iI z (k_X0_worth_32 t y n x1 x3 x4 x5 x6 σ) σ 32 [(0, .ref (aLaw ad t)), (1, .int x1), (2, .ref (aSea ad y)), (3, .int x3), (4, .int x4), (5, .int x5), (6, .int x6)] [] := by
  intro n
  induction n with
  | zero => intros; exact v_eq rfl v_none
  | succ n ih =>
    intro x1 x3 x4 x5 x6 σ
    exact v_eq rfl (vb_X0_worth_32 z t y ht hy _ ih x1 x3 x4 x5 x6 σ)
def f_X0_worth (t : Nat) (y : Nat) (x1 : Int32) (x3 : Int32) (x4 : Int32) (σ : GX) : Option (Int32 × GX) :=
  if x1 < 0 then (some ((0 : Int32), σ)) else (if x1 < (3 : Int32) then (if x1 ≠ 0 then (grd (x1 - (1 : Int32)) 3 (bnd (some (xU σ t 2 (x1 - (1 : Int32)).toNatClampNeg)) fun w1 => k_X0_worth_32 t y FU x1 x3 x4 (0 : Int32) w1 σ)) else (k_X0_worth_32 t y FU x1 x3 x4 (0 : Int32) (0 : Int32) σ)) else (some ((0 : Int32), σ)))
theorem vf_X0_worth {g : Gt} {ad : Nat → Nat} (z : Zt) (t : Nat) (y : Nat) (ht : t < 6) (hy : y < 3) (x1 : Int32) (x3 : Int32) (x4 : Int32) (σ : GX) : V g (LX ad) 2 RX0 cX0_worth 9 (some .int) (wX g ad) iI z (f_X0_worth t y x1 x3 x4 σ) σ 0 [(0, .ref (aLaw ad t)), (1, .int x1), (2, .ref (aSea ad y)), (3, .int x3), (4, .int x4)] [] := by
  unfold f_X0_worth
  refine v_iload_n (pc := 0) (i := 1) dX0_worth_0 rfl rfl ?_
  refine v_if_lt (pc := 1) (tgt := 9) dX0_worth_1 rfl ?_ ?_
  · refine v_iconst (pc := 9) dX0_worth_9 ic_0 ?_
    exact v_iret (pc := 10) dX0_worth_10
  · refine v_iload_n (pc := 4) (i := 1) dX0_worth_4 rfl rfl ?_
    refine v_iconst (pc := 5) dX0_worth_5 ic_3 ?_
    refine v_icmp_lt (pc := 6) (tgt := 11) dX0_worth_6 rfl ?_ ?_
    · refine v_iconst (pc := 11) dX0_worth_11 ic_0 ?_
      refine v_istore (pc := 12) (lv' := [(5, .int (0 : Int32)), (0, .ref (aLaw ad t)), (1, .int x1), (2, .ref (aSea ad y)), (3, .int x3), (4, .int x4)]) (i := 5) dX0_worth_12 (by decide) rfl ?_
      refine v_iload_n (pc := 14) (i := 1) dX0_worth_14 rfl rfl ?_
      refine v_if_ne (pc := 15) (tgt := 22) dX0_worth_15 rfl ?_ ?_
      · refine v_aload_n (pc := 22) (i := 0) dX0_worth_22 rfl rfl ?_
        refine gX0_ends (pc := 23) (t := t) ht q_112 dX0_worth_23 ?_
        refine v_iload_n (pc := 26) (i := 1) dX0_worth_26 rfl rfl ?_
        refine v_iconst (pc := 27) dX0_worth_27 ic_1 ?_
        refine v_isub (pc := 28) dX0_worth_28 ?_
        refine lX_law2 (pc := 29) (t := t) ht dX0_worth_29 ?_
        refine v_nmi (fun w1 => ?_)
        refine v_istore (pc := 30) (lv' := [(6, .int w1), (5, .int (0 : Int32)), (0, .ref (aLaw ad t)), (1, .int x1), (2, .ref (aSea ad y)), (3, .int x3), (4, .int x4)]) (i := 6) dX0_worth_30 (by decide) rfl ?_
        exact v_sub [2, 3, 4, 5, 6, 1, 0] rfl (vk_X0_worth_32 z t y ht hy FU x1 x3 x4 (0 : Int32) w1 σ)
      · refine v_iconst (pc := 18) dX0_worth_18 ic_0 ?_
        refine v_goto (pc := 19) (tgt := 30) dX0_worth_19 rfl ?_
        refine v_istore (pc := 30) (lv' := [(6, .int (0 : Int32)), (5, .int (0 : Int32)), (0, .ref (aLaw ad t)), (1, .int x1), (2, .ref (aSea ad y)), (3, .int x3), (4, .int x4)]) (i := 6) dX0_worth_30 (by decide) rfl ?_
        exact v_sub [2, 3, 4, 5, 6, 1, 0] rfl (vk_X0_worth_32 z t y ht hy FU x1 x3 x4 (0 : Int32) (0 : Int32) σ)
    · refine v_iconst (pc := 9) dX0_worth_9 ic_0 ?_
      exact v_iret (pc := 10) dX0_worth_10
theorem ct_X0_worth {g : Gt} {ad : Nat → Nat} {t : Nat} {y : Nat} (ht : t < 6) (hy : y < 3) (x1 : Int32) (x3 : Int32) (x4 : Int32) : CT g (LX ad) yX0_worth cX0_worth 9 (some .int) 2 [.ref (aLaw ad t), .int x1, .ref (aSea ad y), .int x3, .int x4] iI (wX g ad) (f_X0_worth t y x1 x3 x4) :=
  ct_of_V (own := RX0) (lv0 := [(0, .ref (aLaw ad t)), (1, .int x1), (2, .ref (aSea ad y)), (3, .int x3), (4, .int x4)]) (by decide +kernel) rfl (Nat.le_of_ble_eq_true rfl) rfl (fun z σ => vf_X0_worth z t y ht hy x1 x3 x4 σ)
-- LighthouseLiedTo$Sheet.become
theorem dX3_become_0 : decode cX3_become 0 = .ok (.aload_n 0, 1) := by decide +kernel
theorem dX3_become_1 : decode cX3_become 1 = .ok (.iload_n 1, 1) := by decide +kernel
theorem dX3_become_2 : decode cX3_become 2 = .ok (.putfield 15, 3) := by decide +kernel
theorem dX3_become_5 : decode cX3_become 5 = .ok (.aload_n 0, 1) := by decide +kernel
theorem dX3_become_6 : decode cX3_become 6 = .ok (.iload_n 2, 1) := by decide +kernel
theorem dX3_become_7 : decode cX3_become 7 = .ok (.putfield 19, 3) := by decide +kernel
theorem dX3_become_10 : decode cX3_become 10 = .ok (.iconst 0, 1) := by decide +kernel
theorem dX3_become_11 : decode cX3_become 11 = .ok (.istore_n 3, 1) := by decide +kernel
theorem dX3_become_12 : decode cX3_become 12 = .ok (.iload_n 3, 1) := by decide +kernel
theorem dX3_become_13 : decode cX3_become 13 = .ok (.bipush 40, 2) := by decide +kernel
theorem dX3_become_15 : decode cX3_become 15 = .ok (.if_icmp .ge 16, 3) := by decide +kernel
theorem dX3_become_18 : decode cX3_become 18 = .ok (.aload_n 0, 1) := by decide +kernel
theorem dX3_become_19 : decode cX3_become 19 = .ok (.getfield 9, 3) := by decide +kernel
theorem dX3_become_22 : decode cX3_become 22 = .ok (.iload_n 3, 1) := by decide +kernel
theorem dX3_become_23 : decode cX3_become 23 = .ok (.iconst 0, 1) := by decide +kernel
theorem dX3_become_24 : decode cX3_become 24 = .ok (.iastore, 1) := by decide +kernel
theorem dX3_become_25 : decode cX3_become 25 = .ok (.iinc 3 1, 3) := by decide +kernel
theorem dX3_become_28 : decode cX3_become 28 = .ok (.goto (-16), 3) := by decide +kernel
theorem dX3_become_31 : decode cX3_become 31 = .ok (.return_, 1) := by decide +kernel
def b_X3_become_12 (q : Nat) (kc12 : Int32 → GX → Option (Unit × GX)) (x3 : Int32) (σ : GX) : Option (Unit × GX) :=
  if (40 : Int32) ≤ x3 then (some ((), σ)) else (grd x3 40 (bnd (some (sN σ q x3.toNatClampNeg (0 : Int32))) fun σ3 => kc12 (x3 + (1 : Int32)) σ3))
theorem vb_X3_become_12 {g : Gt} {ad : Nat → Nat} (z : Zt) (q : Nat) (hq : q < 4) (kc12 : Int32 → GX → Option (Unit × GX)) (hkc12 : ∀ (x3 : Int32) (σ : GX), V g (LX ad) 1 RX3 cX3_become 4 none (wX g ad) iU z (kc12 x3 σ) σ 12 [(0, .ref (aSheet ad q)), (3, .int x3)] []) (x3 : Int32) (σ : GX) : V g (LX ad) 1 RX3 cX3_become 4 none (wX g ad) iU z (b_X3_become_12 q kc12 x3 σ) σ 12 [(0, .ref (aSheet ad q)), (3, .int x3)] [] := by
  unfold b_X3_become_12
  refine v_iload_n (pc := 12) (i := 3) dX3_become_12 rfl rfl ?_
  refine v_bipush (pc := 13) dX3_become_13 bp_40 ?_
  refine v_icmp_ge (pc := 15) (tgt := 31) dX3_become_15 rfl ?_ ?_
  · exact v_ret (pc := 31) dX3_become_31
  · refine v_aload_n (pc := 18) (i := 0) dX3_become_18 rfl rfl ?_
    refine gX3_numbers (pc := 19) (q := q) hq q_128 dX3_become_19 ?_
    refine v_iload_n (pc := 22) (i := 3) dX3_become_22 rfl rfl ?_
    refine v_iconst (pc := 23) dX3_become_23 ic_0 ?_
    refine sX_nums (pc := 24) (q := q) hq dX3_become_24 ?_
    refine v_nms (fun σ3 => ?_)
    refine v_iinc (pc := 25) (lv' := [(3, .int (x3 + (1 : Int32))), (0, .ref (aSheet ad q))]) (i := 3) dX3_become_25 rfl ic_1 (by decide) rfl ?_
    refine v_goto (pc := 28) (tgt := 12) dX3_become_28 rfl ?_
    exact v_sub [1, 0] rfl (hkc12 (x3 + (1 : Int32)) σ3)
def k_X3_become_12 (q : Nat) : Nat → Int32 → GX → Option (Unit × GX)
  | 0 => fun _ _ => none
  | n + 1 => b_X3_become_12 q (k_X3_become_12 q n)
theorem vk_X3_become_12 {g : Gt} {ad : Nat → Nat} (z : Zt) (q : Nat) (hq : q < 4) : ∀ (n : Nat) (x3 : Int32) (σ : GX), V g (LX ad) 1 RX3 cX3_become 4 none (wX g ad) iU z (k_X3_become_12 q n x3 σ) σ 12 [(0, .ref (aSheet ad q)), (3, .int x3)] [] := by
  intro n
  induction n with
  | zero => intros; exact v_eq rfl v_none
  | succ n ih =>
    intro x3 σ
    exact v_eq rfl (vb_X3_become_12 z q hq _ ih x3 σ)
def f_X3_become (q : Nat) (x1 : Int32) (x2 : Int32) (σ : GX) : Option (Unit × GX) :=
  bnd (some (sH σ q 0 x1)) fun σ1 => bnd (some (sH σ1 q 1 x2)) fun σ2 => k_X3_become_12 q FU (0 : Int32) σ2
theorem vf_X3_become {g : Gt} {ad : Nat → Nat} (z : Zt) (q : Nat) (hq : q < 4) (x1 : Int32) (x2 : Int32) (σ : GX) : V g (LX ad) 1 RX3 cX3_become 4 none (wX g ad) iU z (f_X3_become q x1 x2 σ) σ 0 [(0, .ref (aSheet ad q)), (1, .int x1), (2, .int x2)] [] := by
  unfold f_X3_become
  refine v_aload_n (pc := 0) (i := 0) dX3_become_0 rfl rfl ?_
  refine v_iload_n (pc := 1) (i := 1) dX3_become_1 rfl rfl ?_
  refine pX3_sort (pc := 2) (q := q) hq q_130 dX3_become_2 ?_
  refine v_nms (fun σ1 => ?_)
  refine v_aload_n (pc := 5) (i := 0) dX3_become_5 rfl rfl ?_
  refine v_iload_n (pc := 6) (i := 2) dX3_become_6 rfl rfl ?_
  refine pX3_size (pc := 7) (q := q) hq q_132 dX3_become_7 ?_
  refine v_nms (fun σ2 => ?_)
  refine v_iconst (pc := 10) dX3_become_10 ic_0 ?_
  refine v_istore_n (pc := 11) (lv' := [(3, .int (0 : Int32)), (0, .ref (aSheet ad q)), (1, .int x1), (2, .int x2)]) (i := 3) dX3_become_11 rfl (by decide) rfl ?_
  exact v_sub [1, 0] rfl (vk_X3_become_12 z q hq FU (0 : Int32) σ2)
theorem ct_X3_become {g : Gt} {ad : Nat → Nat} {q : Nat} (hq : q < 4) (x1 : Int32) (x2 : Int32) : CT g (LX ad) yX3_become cX3_become 4 none 1 [.ref (aSheet ad q), .int x1, .int x2] iU (wX g ad) (f_X3_become q x1 x2) :=
  ct_of_V (own := RX3) (lv0 := [(0, .ref (aSheet ad q)), (1, .int x1), (2, .int x2)]) (by decide +kernel) rfl (Nat.le_of_ble_eq_true rfl) rfl (fun z σ => vf_X3_become z q hq x1 x2 σ)
-- LighthouseLiedTo$Sheet.has
theorem dX3_has_0 : decode cX3_has 0 = .ok (.iload_n 1, 1) := by decide +kernel
theorem dX3_has_1 : decode cX3_has 1 = .ok (.ifCond .lt 24, 3) := by decide +kernel
theorem dX3_has_4 : decode cX3_has 4 = .ok (.iload_n 1, 1) := by decide +kernel
theorem dX3_has_5 : decode cX3_has 5 = .ok (.aload_n 0, 1) := by decide +kernel
theorem dX3_has_6 : decode cX3_has 6 = .ok (.getfield 19, 3) := by decide +kernel
theorem dX3_has_9 : decode cX3_has 9 = .ok (.if_icmp .ge 16, 3) := by decide +kernel
theorem dX3_has_12 : decode cX3_has 12 = .ok (.iload_n 1, 1) := by decide +kernel
theorem dX3_has_13 : decode cX3_has 13 = .ok (.aload_n 0, 1) := by decide +kernel
theorem dX3_has_14 : decode cX3_has 14 = .ok (.getfield 9, 3) := by decide +kernel
theorem dX3_has_17 : decode cX3_has 17 = .ok (.arraylength, 1) := by decide +kernel
theorem dX3_has_18 : decode cX3_has 18 = .ok (.if_icmp .ge 7, 3) := by decide +kernel
theorem dX3_has_21 : decode cX3_has 21 = .ok (.iconst 1, 1) := by decide +kernel
theorem dX3_has_22 : decode cX3_has 22 = .ok (.goto 4, 3) := by decide +kernel
theorem dX3_has_25 : decode cX3_has 25 = .ok (.iconst 0, 1) := by decide +kernel
theorem dX3_has_26 : decode cX3_has 26 = .ok (.ireturn, 1) := by decide +kernel
def f_X3_has (q : Nat) (x1 : Int32) (σ : GX) : Option (Int32 × GX) :=
  if x1 < 0 then (some ((0 : Int32), σ)) else (if (xH σ q 1) ≤ x1 then (some ((0 : Int32), σ)) else (if (40 : Int32) ≤ x1 then (some ((0 : Int32), σ)) else (some ((1 : Int32), σ))))
theorem vf_X3_has {g : Gt} {ad : Nat → Nat} (z : Zt) (q : Nat) (hq : q < 4) (x1 : Int32) (σ : GX) : V g (LX ad) 1 RX3 cX3_has 2 (some .boolean) (wX g ad) iI z (f_X3_has q x1 σ) σ 0 [(0, .ref (aSheet ad q)), (1, .int x1)] [] := by
  unfold f_X3_has
  refine v_iload_n (pc := 0) (i := 1) dX3_has_0 rfl rfl ?_
  refine v_if_lt (pc := 1) (tgt := 25) dX3_has_1 rfl ?_ ?_
  · refine v_iconst (pc := 25) dX3_has_25 ic_0 ?_
    exact v_nret (pc := 26) rfl dX3_has_26
  · refine v_iload_n (pc := 4) (i := 1) dX3_has_4 rfl rfl ?_
    refine v_aload_n (pc := 5) (i := 0) dX3_has_5 rfl rfl ?_
    refine gX3_size (pc := 6) (q := q) hq q_132 dX3_has_6 ?_
    refine v_icmp_ge (pc := 9) (tgt := 25) dX3_has_9 rfl ?_ ?_
    · refine v_iconst (pc := 25) dX3_has_25 ic_0 ?_
      exact v_nret (pc := 26) rfl dX3_has_26
    · refine v_iload_n (pc := 12) (i := 1) dX3_has_12 rfl rfl ?_
      refine v_aload_n (pc := 13) (i := 0) dX3_has_13 rfl rfl ?_
      refine gX3_numbers (pc := 14) (q := q) hq q_128 dX3_has_14 ?_
      refine nX_nums (pc := 17) (q := q) hq (v := (40 : Int32)) rfl dX3_has_17 ?_
      refine v_icmp_ge (pc := 18) (tgt := 25) dX3_has_18 rfl ?_ ?_
      · refine v_iconst (pc := 25) dX3_has_25 ic_0 ?_
        exact v_nret (pc := 26) rfl dX3_has_26
      · refine v_iconst (pc := 21) dX3_has_21 ic_1 ?_
        refine v_goto (pc := 22) (tgt := 26) dX3_has_22 rfl ?_
        exact v_nret (pc := 26) rfl dX3_has_26
theorem ct_X3_has {g : Gt} {ad : Nat → Nat} {q : Nat} (hq : q < 4) (x1 : Int32) : CT g (LX ad) yX3_has cX3_has 2 (some .boolean) 1 [.ref (aSheet ad q), .int x1] iI (wX g ad) (f_X3_has q x1) :=
  ct_of_V (own := RX3) (lv0 := [(0, .ref (aSheet ad q)), (1, .int x1)]) (by decide +kernel) rfl (Nat.le_of_ble_eq_true rfl) rfl (fun z σ => vf_X3_has z q hq x1 σ)
-- LighthouseLiedTo$Sheet.set
theorem dX3_set_0 : decode cX3_set 0 = .ok (.aload_n 0, 1) := by decide +kernel
theorem dX3_set_1 : decode cX3_set 1 = .ok (.iload_n 1, 1) := by decide +kernel
theorem dX3_set_2 : decode cX3_set 2 = .ok (.invokevirtual 22, 3) := by decide +kernel
theorem dX3_set_5 : decode cX3_set 5 = .ok (.ifCond .eq 35, 3) := by decide +kernel
theorem dX3_set_8 : decode cX3_set 8 = .ok (.aload_n 0, 1) := by decide +kernel
theorem dX3_set_9 : decode cX3_set 9 = .ok (.getfield 9, 3) := by decide +kernel
theorem dX3_set_12 : decode cX3_set 12 = .ok (.iload_n 1, 1) := by decide +kernel
theorem dX3_set_13 : decode cX3_set 13 = .ok (.aload_n 0, 1) := by decide +kernel
theorem dX3_set_14 : decode cX3_set 14 = .ok (.getfield 15, 3) := by decide +kernel
theorem dX3_set_17 : decode cX3_set 17 = .ok (.ifCond .ne 8, 3) := by decide +kernel
theorem dX3_set_20 : decode cX3_set 20 = .ok (.iload_n 2, 1) := by decide +kernel
theorem dX3_set_21 : decode cX3_set 21 = .ok (.i2b, 1) := by decide +kernel
theorem dX3_set_22 : decode cX3_set 22 = .ok (.goto 17, 3) := by decide +kernel
theorem dX3_set_25 : decode cX3_set 25 = .ok (.aload_n 0, 1) := by decide +kernel
theorem dX3_set_26 : decode cX3_set 26 = .ok (.getfield 15, 3) := by decide +kernel
theorem dX3_set_29 : decode cX3_set 29 = .ok (.iconst 1, 1) := by decide +kernel
theorem dX3_set_30 : decode cX3_set 30 = .ok (.if_icmp .ne 8, 3) := by decide +kernel
theorem dX3_set_33 : decode cX3_set 33 = .ok (.iload_n 2, 1) := by decide +kernel
theorem dX3_set_34 : decode cX3_set 34 = .ok (.i2s, 1) := by decide +kernel
theorem dX3_set_35 : decode cX3_set 35 = .ok (.goto 4, 3) := by decide +kernel
theorem dX3_set_38 : decode cX3_set 38 = .ok (.iload_n 2, 1) := by decide +kernel
theorem dX3_set_39 : decode cX3_set 39 = .ok (.iastore, 1) := by decide +kernel
theorem dX3_set_40 : decode cX3_set 40 = .ok (.return_, 1) := by decide +kernel
def f_X3_set (q : Nat) (x1 : Int32) (x2 : Int32) (σ : GX) : Option (Unit × GX) :=
  bnd (f_X3_has q x1 σ) fun q1 => if q1.1 = 0 then (some ((), q1.2)) else (if (xH q1.2 q 0) ≠ 0 then (if (xH q1.2 q 0) ≠ (1 : Int32) then (grd x1 40 (bnd (some (sN q1.2 q x1.toNatClampNeg x2)) fun σ2 => some ((), σ2))) else (grd x1 40 (bnd (some (sN q1.2 q x1.toNatClampNeg x2.toInt16.toInt32)) fun σ3 => some ((), σ3)))) else (grd x1 40 (bnd (some (sN q1.2 q x1.toNatClampNeg x2.toInt8.toInt32)) fun σ4 => some ((), σ4))))
theorem vf_X3_set {g : Gt} {ad : Nat → Nat} (z : Zt) (q : Nat) (hq : q < 4) (x1 : Int32) (x2 : Int32) (σ : GX) : V g (LX ad) 2 RX3 cX3_set 3 none (wX g ad) iU z (f_X3_set q x1 x2 σ) σ 0 [(0, .ref (aSheet ad q)), (1, .int x1), (2, .int x2)] [] := by
  unfold f_X3_set
  refine v_aload_n (pc := 0) (i := 0) dX3_set_0 rfl rfl ?_
  refine v_iload_n (pc := 1) (i := 1) dX3_set_1 rfl rfl ?_
  refine v_callVi (pc := 2) (rcX3 hq) (As := [.int x1]) (rest := []) (ct_X3_has hq x1) mi_X3_has q_640 (by decide) rfl rfl (Nat.le_of_ble_eq_true rfl) dX3_set_2 (fun q1 => ?_)
  refine v_if_eq (pc := 5) (tgt := 40) dX3_set_5 rfl ?_ ?_
  · exact v_ret (pc := 40) dX3_set_40
  · refine v_aload_n (pc := 8) (i := 0) dX3_set_8 rfl rfl ?_
    refine gX3_numbers (pc := 9) (q := q) hq q_128 dX3_set_9 ?_
    refine v_iload_n (pc := 12) (i := 1) dX3_set_12 rfl rfl ?_
    refine v_aload_n (pc := 13) (i := 0) dX3_set_13 rfl rfl ?_
    refine gX3_sort (pc := 14) (q := q) hq q_130 dX3_set_14 ?_
    refine v_if_ne (pc := 17) (tgt := 25) dX3_set_17 rfl ?_ ?_
    · refine v_aload_n (pc := 25) (i := 0) dX3_set_25 rfl rfl ?_
      refine gX3_sort (pc := 26) (q := q) hq q_130 dX3_set_26 ?_
      refine v_iconst (pc := 29) dX3_set_29 ic_1 ?_
      refine v_icmp_ne (pc := 30) (tgt := 38) dX3_set_30 rfl ?_ ?_
      · refine v_iload_n (pc := 38) (i := 2) dX3_set_38 rfl rfl ?_
        refine sX_nums (pc := 39) (q := q) hq dX3_set_39 ?_
        refine v_nms (fun σ2 => ?_)
        exact v_ret (pc := 40) dX3_set_40
      · refine v_iload_n (pc := 33) (i := 2) dX3_set_33 rfl rfl ?_
        refine v_i2s (pc := 34) dX3_set_34 ?_
        refine v_goto (pc := 35) (tgt := 39) dX3_set_35 rfl ?_
        refine sX_nums (pc := 39) (q := q) hq dX3_set_39 ?_
        refine v_nms (fun σ3 => ?_)
        exact v_ret (pc := 40) dX3_set_40
    · refine v_iload_n (pc := 20) (i := 2) dX3_set_20 rfl rfl ?_
      refine v_i2b (pc := 21) dX3_set_21 ?_
      refine v_goto (pc := 22) (tgt := 39) dX3_set_22 rfl ?_
      refine sX_nums (pc := 39) (q := q) hq dX3_set_39 ?_
      refine v_nms (fun σ4 => ?_)
      exact v_ret (pc := 40) dX3_set_40
theorem ct_X3_set {g : Gt} {ad : Nat → Nat} {q : Nat} (hq : q < 4) (x1 : Int32) (x2 : Int32) : CT g (LX ad) yX3_set cX3_set 3 none 2 [.ref (aSheet ad q), .int x1, .int x2] iU (wX g ad) (f_X3_set q x1 x2) :=
  ct_of_V (own := RX3) (lv0 := [(0, .ref (aSheet ad q)), (1, .int x1), (2, .int x2)]) (by decide +kernel) rfl (Nat.le_of_ble_eq_true rfl) rfl (fun z σ => vf_X3_set z q hq x1 x2 σ)
-- LighthouseLiedTo$Sheet.holds
theorem dX3_holds_0 : decode cX3_holds 0 = .ok (.iload_n 2, 1) := by decide +kernel
theorem dX3_holds_1 : decode cX3_holds 1 = .ok (.ifCond .lt 29, 3) := by decide +kernel
theorem dX3_holds_4 : decode cX3_holds 4 = .ok (.iload_n 2, 1) := by decide +kernel
theorem dX3_holds_5 : decode cX3_holds 5 = .ok (.aload_n 0, 1) := by decide +kernel
theorem dX3_holds_6 : decode cX3_holds 6 = .ok (.getfield 19, 3) := by decide +kernel
theorem dX3_holds_9 : decode cX3_holds 9 = .ok (.if_icmp .gt 21, 3) := by decide +kernel
theorem dX3_holds_12 : decode cX3_holds 12 = .ok (.iload_n 1, 1) := by decide +kernel
theorem dX3_holds_13 : decode cX3_holds 13 = .ok (.ifCond .lt 17, 3) := by decide +kernel
theorem dX3_holds_16 : decode cX3_holds 16 = .ok (.iload_n 1, 1) := by decide +kernel
theorem dX3_holds_17 : decode cX3_holds 17 = .ok (.aload_n 0, 1) := by decide +kernel
theorem dX3_holds_18 : decode cX3_holds 18 = .ok (.getfield 19, 3) := by decide +kernel
theorem dX3_holds_21 : decode cX3_holds 21 = .ok (.iload_n 2, 1) := by decide +kernel
theorem dX3_holds_22 : decode cX3_holds 22 = .ok (.isub, 1) := by decide +kernel
theorem dX3_holds_23 : decode cX3_holds 23 = .ok (.if_icmp .gt 7, 3) := by decide +kernel
theorem dX3_holds_26 : decode cX3_holds 26 = .ok (.iconst 1, 1) := by decide +kernel
theorem dX3_holds_27 : decode cX3_holds 27 = .ok (.goto 4, 3) := by decide +kernel
theorem dX3_holds_30 : decode cX3_holds 30 = .ok (.iconst 0, 1) := by decide +kernel
theorem dX3_holds_31 : decode cX3_holds 31 = .ok (.ireturn, 1) := by decide +kernel
def f_X3_holds (q : Nat) (x1 : Int32) (x2 : Int32) (σ : GX) : Option (Int32 × GX) :=
  if x2 < 0 then (some ((0 : Int32), σ)) else (if (xH σ q 1) < x2 then (some ((0 : Int32), σ)) else (if x1 < 0 then (some ((0 : Int32), σ)) else (if ((xH σ q 1) - x2) < x1 then (some ((0 : Int32), σ)) else (some ((1 : Int32), σ)))))
theorem vf_X3_holds {g : Gt} {ad : Nat → Nat} (z : Zt) (q : Nat) (hq : q < 4) (x1 : Int32) (x2 : Int32) (σ : GX) : V g (LX ad) 1 RX3 cX3_holds 3 (some .boolean) (wX g ad) iI z (f_X3_holds q x1 x2 σ) σ 0 [(0, .ref (aSheet ad q)), (1, .int x1), (2, .int x2)] [] := by
  unfold f_X3_holds
  refine v_iload_n (pc := 0) (i := 2) dX3_holds_0 rfl rfl ?_
  refine v_if_lt (pc := 1) (tgt := 30) dX3_holds_1 rfl ?_ ?_
  · refine v_iconst (pc := 30) dX3_holds_30 ic_0 ?_
    exact v_nret (pc := 31) rfl dX3_holds_31
  · refine v_iload_n (pc := 4) (i := 2) dX3_holds_4 rfl rfl ?_
    refine v_aload_n (pc := 5) (i := 0) dX3_holds_5 rfl rfl ?_
    refine gX3_size (pc := 6) (q := q) hq q_132 dX3_holds_6 ?_
    refine v_icmp_gt (pc := 9) (tgt := 30) dX3_holds_9 rfl ?_ ?_
    · refine v_iconst (pc := 30) dX3_holds_30 ic_0 ?_
      exact v_nret (pc := 31) rfl dX3_holds_31
    · refine v_iload_n (pc := 12) (i := 1) dX3_holds_12 rfl rfl ?_
      refine v_if_lt (pc := 13) (tgt := 30) dX3_holds_13 rfl ?_ ?_
      · refine v_iconst (pc := 30) dX3_holds_30 ic_0 ?_
        exact v_nret (pc := 31) rfl dX3_holds_31
      · refine v_iload_n (pc := 16) (i := 1) dX3_holds_16 rfl rfl ?_
        refine v_aload_n (pc := 17) (i := 0) dX3_holds_17 rfl rfl ?_
        refine gX3_size (pc := 18) (q := q) hq q_132 dX3_holds_18 ?_
        refine v_iload_n (pc := 21) (i := 2) dX3_holds_21 rfl rfl ?_
        refine v_isub (pc := 22) dX3_holds_22 ?_
        refine v_icmp_gt (pc := 23) (tgt := 30) dX3_holds_23 rfl ?_ ?_
        · refine v_iconst (pc := 30) dX3_holds_30 ic_0 ?_
          exact v_nret (pc := 31) rfl dX3_holds_31
        · refine v_iconst (pc := 26) dX3_holds_26 ic_1 ?_
          refine v_goto (pc := 27) (tgt := 31) dX3_holds_27 rfl ?_
          exact v_nret (pc := 31) rfl dX3_holds_31
theorem ct_X3_holds {g : Gt} {ad : Nat → Nat} {q : Nat} (hq : q < 4) (x1 : Int32) (x2 : Int32) : CT g (LX ad) yX3_holds cX3_holds 3 (some .boolean) 1 [.ref (aSheet ad q), .int x1, .int x2] iI (wX g ad) (f_X3_holds q x1 x2) :=
  ct_of_V (own := RX3) (lv0 := [(0, .ref (aSheet ad q)), (1, .int x1), (2, .int x2)]) (by decide +kernel) rfl (Nat.le_of_ble_eq_true rfl) rfl (fun z σ => vf_X3_holds z q hq x1 x2 σ)
end
section
-- LighthouseLiedTo$Sea.afloat
theorem dX2_afloat_0 : decode cX2_afloat 0 = .ok (.iconst 1, 1) := by decide +kernel
theorem dX2_afloat_1 : decode cX2_afloat 1 = .ok (.aload_n 0, 1) := by decide +kernel
theorem dX2_afloat_2 : decode cX2_afloat 2 = .ok (.getfield 45, 3) := by decide +kernel
theorem dX2_afloat_5 : decode cX2_afloat 5 = .ok (.ishl, 1) := by decide +kernel
theorem dX2_afloat_6 : decode cX2_afloat 6 = .ok (.iconst 1, 1) := by decide +kernel
theorem dX2_afloat_7 : decode cX2_afloat 7 = .ok (.isub, 1) := by decide +kernel
theorem dX2_afloat_8 : decode cX2_afloat 8 = .ok (.aload_n 0, 1) := by decide +kernel
theorem dX2_afloat_9 : decode cX2_afloat 9 = .ok (.getfield 41, 3) := by decide +kernel
theorem dX2_afloat_12 : decode cX2_afloat 12 = .ok (.iconst (-1), 1) := by decide +kernel
theorem dX2_afloat_13 : decode cX2_afloat 13 = .ok (.ixor, 1) := by decide +kernel
theorem dX2_afloat_14 : decode cX2_afloat 14 = .ok (.iand, 1) := by decide +kernel
theorem dX2_afloat_15 : decode cX2_afloat 15 = .ok (.ireturn, 1) := by decide +kernel
def f_X2_afloat (y : Nat) (σ : GX) : Option (Int32 × GX) :=
  some ((((slI (1 : Int32) (xS σ y 1)) - (1 : Int32)) &&& ((xS σ y 0) ^^^ (-1 : Int32))), σ)
theorem vf_X2_afloat {g : Gt} {ad : Nat → Nat} (z : Zt) (y : Nat) (hy : y < 3) (σ : GX) : V g (LX ad) 1 RX2 cX2_afloat 1 (some .int) (wX g ad) iI z (f_X2_afloat y σ) σ 0 [(0, .ref (aSea ad y))] [] := by
  unfold f_X2_afloat
  refine v_iconst (pc := 0) dX2_afloat_0 ic_1 ?_
  refine v_aload_n (pc := 1) (i := 0) dX2_afloat_1 rfl rfl ?_
  refine gX2_ships (pc := 2) (y := y) hy q_164 dX2_afloat_2 ?_
  refine v_ishl (pc := 5) dX2_afloat_5 ?_
  refine v_iconst (pc := 6) dX2_afloat_6 ic_1 ?_
  refine v_isub (pc := 7) dX2_afloat_7 ?_
  refine v_aload_n (pc := 8) (i := 0) dX2_afloat_8 rfl rfl ?_
  refine gX2_lost (pc := 9) (y := y) hy q_161 dX2_afloat_9 ?_
  refine v_iconst (pc := 12) dX2_afloat_12 ic_m1 ?_
  refine v_ixor (pc := 13) dX2_afloat_13 ?_
  refine v_iand (pc := 14) dX2_afloat_14 ?_
  exact v_iret (pc := 15) dX2_afloat_15
theorem ct_X2_afloat {g : Gt} {ad : Nat → Nat} {y : Nat} (hy : y < 3) : CT g (LX ad) yX2_afloat cX2_afloat 1 (some .int) 1 [.ref (aSea ad y)] iI (wX g ad) (f_X2_afloat y) :=
  ct_of_V (own := RX2) (lv0 := [(0, .ref (aSea ad y))]) (by decide +kernel) rfl (Nat.le_of_ble_eq_true rfl) rfl (fun z σ => vf_X2_afloat z y hy σ)
-- LighthouseLiedTo$Sea.hasRock
theorem dX2_hasRock_0 : decode cX2_hasRock 0 = .ok (.aload_n 0, 1) := by decide +kernel
theorem dX2_hasRock_1 : decode cX2_hasRock 1 = .ok (.getfield 37, 3) := by decide +kernel
theorem dX2_hasRock_4 : decode cX2_hasRock 4 = .ok (.iload_n 1, 1) := by decide +kernel
theorem dX2_hasRock_5 : decode cX2_hasRock 5 = .ok (.lushr, 1) := by decide +kernel
theorem dX2_hasRock_6 : decode cX2_hasRock 6 = .ok (.lconst 1, 1) := by decide +kernel
theorem dX2_hasRock_7 : decode cX2_hasRock 7 = .ok (.land, 1) := by decide +kernel
theorem dX2_hasRock_8 : decode cX2_hasRock 8 = .ok (.lconst 0, 1) := by decide +kernel
theorem dX2_hasRock_9 : decode cX2_hasRock 9 = .ok (.lcmp, 1) := by decide +kernel
theorem dX2_hasRock_10 : decode cX2_hasRock 10 = .ok (.ifCond .eq 7, 3) := by decide +kernel
theorem dX2_hasRock_13 : decode cX2_hasRock 13 = .ok (.iconst 1, 1) := by decide +kernel
theorem dX2_hasRock_14 : decode cX2_hasRock 14 = .ok (.goto 4, 3) := by decide +kernel
theorem dX2_hasRock_17 : decode cX2_hasRock 17 = .ok (.iconst 0, 1) := by decide +kernel
theorem dX2_hasRock_18 : decode cX2_hasRock 18 = .ok (.ireturn, 1) := by decide +kernel
def f_X2_hasRock (y : Nat) (x1 : Int32) (σ : GX) : Option (Int32 × GX) :=
  if (lg_cmp ((usL (xR σ y) x1) &&& (1 : Int64)) (0 : Int64)) = 0 then (some ((0 : Int32), σ)) else (some ((1 : Int32), σ))
theorem vf_X2_hasRock {g : Gt} {ad : Nat → Nat} (z : Zt) (y : Nat) (hy : y < 3) (x1 : Int32) (σ : GX) : V g (LX ad) 1 RX2 cX2_hasRock 2 (some .boolean) (wX g ad) iI z (f_X2_hasRock y x1 σ) σ 0 [(0, .ref (aSea ad y)), (1, .int x1)] [] := by
  unfold f_X2_hasRock
  refine v_aload_n (pc := 0) (i := 0) dX2_hasRock_0 rfl rfl ?_
  refine gX2_rocks (pc := 1) (y := y) hy q_159 dX2_hasRock_1 ?_
  refine v_iload_n (pc := 4) (i := 1) dX2_hasRock_4 rfl rfl ?_
  refine v_lushr (pc := 5) dX2_hasRock_5 ?_
  refine v_lconst (pc := 6) dX2_hasRock_6 lc_1 ?_
  refine v_land (pc := 7) dX2_hasRock_7 ?_
  refine v_lconst (pc := 8) dX2_hasRock_8 lc_0 ?_
  refine v_lcmp (pc := 9) dX2_hasRock_9 ?_
  refine v_if_eq (pc := 10) (tgt := 17) dX2_hasRock_10 rfl ?_ ?_
  · refine v_iconst (pc := 17) dX2_hasRock_17 ic_0 ?_
    exact v_nret (pc := 18) rfl dX2_hasRock_18
  · refine v_iconst (pc := 13) dX2_hasRock_13 ic_1 ?_
    refine v_goto (pc := 14) (tgt := 18) dX2_hasRock_14 rfl ?_
    exact v_nret (pc := 18) rfl dX2_hasRock_18
theorem ct_X2_hasRock {g : Gt} {ad : Nat → Nat} {y : Nat} (hy : y < 3) (x1 : Int32) : CT g (LX ad) yX2_hasRock cX2_hasRock 2 (some .boolean) 1 [.ref (aSea ad y), .int x1] iI (wX g ad) (f_X2_hasRock y x1) :=
  ct_of_V (own := RX2) (lv0 := [(0, .ref (aSea ad y)), (1, .int x1)]) (by decide +kernel) rfl (Nat.le_of_ble_eq_true rfl) rfl (fun z σ => vf_X2_hasRock z y hy x1 σ)
-- LighthouseLiedTo$Sea.hear
theorem dX2_hear_0 : decode cX2_hear 0 = .ok (.iconst 1, 1) := by decide +kernel
theorem dX2_hear_1 : decode cX2_hear 1 = .ok (.aload_n 0, 1) := by decide +kernel
theorem dX2_hear_2 : decode cX2_hear 2 = .ok (.getfield 48, 3) := by decide +kernel
theorem dX2_hear_5 : decode cX2_hear 5 = .ok (.bipush 10, 2) := by decide +kernel
theorem dX2_hear_7 : decode cX2_hear 7 = .ok (.idiv, 1) := by decide +kernel
theorem dX2_hear_8 : decode cX2_hear 8 = .ok (.iadd, 1) := by decide +kernel
theorem dX2_hear_9 : decode cX2_hear 9 = .ok (.istore_n 3, 1) := by decide +kernel
theorem dX2_hear_10 : decode cX2_hear 10 = .ok (.iload_n 3, 1) := by decide +kernel
theorem dX2_hear_11 : decode cX2_hear 11 = .ok (.ifCond .le 9, 3) := by decide +kernel
theorem dX2_hear_14 : decode cX2_hear 14 = .ok (.iload_n 2, 1) := by decide +kernel
theorem dX2_hear_15 : decode cX2_hear 15 = .ok (.iload_n 3, 1) := by decide +kernel
theorem dX2_hear_16 : decode cX2_hear 16 = .ok (.idiv, 1) := by decide +kernel
theorem dX2_hear_17 : decode cX2_hear 17 = .ok (.goto 4, 3) := by decide +kernel
theorem dX2_hear_20 : decode cX2_hear 20 = .ok (.iload_n 2, 1) := by decide +kernel
theorem dX2_hear_21 : decode cX2_hear 21 = .ok (.istore 4, 2) := by decide +kernel
theorem dX2_hear_23 : decode cX2_hear 23 = .ok (.aload_n 0, 1) := by decide +kernel
theorem dX2_hear_24 : decode cX2_hear 24 = .ok (.getfield 9, 3) := by decide +kernel
theorem dX2_hear_27 : decode cX2_hear 27 = .ok (.iload_n 1, 1) := by decide +kernel
theorem dX2_hear_28 : decode cX2_hear 28 = .ok (.iconst 0, 1) := by decide +kernel
theorem dX2_hear_29 : decode cX2_hear 29 = .ok (.bipush 99, 2) := by decide +kernel
theorem dX2_hear_31 : decode cX2_hear 31 = .ok (.aload_n 0, 1) := by decide +kernel
theorem dX2_hear_32 : decode cX2_hear 32 = .ok (.getfield 9, 3) := by decide +kernel
theorem dX2_hear_35 : decode cX2_hear 35 = .ok (.iload_n 1, 1) := by decide +kernel
theorem dX2_hear_36 : decode cX2_hear 36 = .ok (.iaload, 1) := by decide +kernel
theorem dX2_hear_37 : decode cX2_hear 37 = .ok (.iload 4, 2) := by decide +kernel
theorem dX2_hear_39 : decode cX2_hear 39 = .ok (.iadd, 1) := by decide +kernel
theorem dX2_hear_40 : decode cX2_hear 40 = .ok (.invokestatic 68, 3) := by decide +kernel
theorem dX2_hear_43 : decode cX2_hear 43 = .ok (.invokestatic 74, 3) := by decide +kernel
theorem dX2_hear_46 : decode cX2_hear 46 = .ok (.iastore, 1) := by decide +kernel
theorem dX2_hear_47 : decode cX2_hear 47 = .ok (.return_, 1) := by decide +kernel
def b_X2_hear_21 (y : Nat) (x1 : Int32) (xs0 : Int32) (σ : GX) : Option (Unit × GX) :=
  grd x1 36 (grd x1 36 (bnd (some (sB σ y 0 x1.toNatClampNeg (mxI (0 : Int32) (mnI (99 : Int32) ((xB σ y 0 x1.toNatClampNeg) + xs0))))) fun σ2 => some ((), σ2)))
theorem vb_X2_hear_21 {g : Gt} {ad : Nat → Nat} (z : Zt) (y : Nat) (hy : y < 3) (x1 : Int32) (xs0 : Int32) (σ : GX) : V g (LX ad) 1 RX2 cX2_hear 5 none (wX g ad) iU z (b_X2_hear_21 y x1 xs0 σ) σ 21 [(0, .ref (aSea ad y)), (1, .int x1)] [.int xs0] := by
  unfold b_X2_hear_21
  refine v_istore (pc := 21) (lv' := [(4, .int xs0), (0, .ref (aSea ad y)), (1, .int x1)]) (i := 4) dX2_hear_21 (by decide) rfl ?_
  refine v_aload_n (pc := 23) (i := 0) dX2_hear_23 rfl rfl ?_
  refine gX2_belief (pc := 24) (y := y) hy q_148 dX2_hear_24 ?_
  refine v_iload_n (pc := 27) (i := 1) dX2_hear_27 rfl rfl ?_
  refine v_iconst (pc := 28) dX2_hear_28 ic_0 ?_
  refine v_bipush (pc := 29) dX2_hear_29 bp_99 ?_
  refine v_aload_n (pc := 31) (i := 0) dX2_hear_31 rfl rfl ?_
  refine gX2_belief (pc := 32) (y := y) hy q_148 dX2_hear_32 ?_
  refine v_iload_n (pc := 35) (i := 1) dX2_hear_35 rfl rfl ?_
  refine lX_sea0 (pc := 36) (y := y) hy dX2_hear_36 ?_
  refine v_iload (pc := 37) (i := 4) dX2_hear_37 rfl ?_
  refine v_iadd (pc := 39) dX2_hear_39 ?_
  refine v_mmin (pc := 40) q_400 q_401 q_62 q_402 (by decide) (Nat.le_of_ble_eq_true rfl) dX2_hear_40 ?_
  refine v_mmax (pc := 43) q_403 q_404 q_62 q_405 (by decide) (Nat.le_of_ble_eq_true rfl) dX2_hear_43 ?_
  refine sX_sea0 (pc := 46) (y := y) hy dX2_hear_46 ?_
  refine v_nms (fun σ2 => ?_)
  exact v_ret (pc := 47) dX2_hear_47
def f_X2_hear (y : Nat) (x1 : Int32) (x2 : Int32) (σ : GX) : Option (Unit × GX) :=
  bnd (some ((1 : Int32) + ((xS σ y 2) / (10 : Int32)))) fun w1 => if w1 ≤ 0 then (b_X2_hear_21 y x1 x2 σ) else (if ¬ w1 = 0 then (b_X2_hear_21 y x1 (x2 / w1) σ) else none)
theorem vf_X2_hear {g : Gt} {ad : Nat → Nat} (z : Zt) (y : Nat) (hy : y < 3) (x1 : Int32) (x2 : Int32) (σ : GX) : V g (LX ad) 1 RX2 cX2_hear 5 none (wX g ad) iU z (f_X2_hear y x1 x2 σ) σ 0 [(0, .ref (aSea ad y)), (1, .int x1), (2, .int x2)] [] := by
  unfold f_X2_hear
  refine v_iconst (pc := 0) dX2_hear_0 ic_1 ?_
  refine v_aload_n (pc := 1) (i := 0) dX2_hear_1 rfl rfl ?_
  refine gX2_doubt (pc := 2) (y := y) hy q_166 dX2_hear_2 ?_
  refine v_bipush (pc := 5) dX2_hear_5 bp_10 ?_
  refine v_idiv (pc := 7) dX2_hear_7 (by decide) ?_
  refine v_iadd (pc := 8) dX2_hear_8 ?_
  refine v_nmi (fun w1 => ?_)
  refine v_istore_n (pc := 9) (lv' := [(3, .int w1), (0, .ref (aSea ad y)), (1, .int x1), (2, .int x2)]) (i := 3) dX2_hear_9 rfl (by decide) rfl ?_
  refine v_iload_n (pc := 10) (i := 3) dX2_hear_10 rfl rfl ?_
  refine v_if_le (pc := 11) (tgt := 20) dX2_hear_11 rfl ?_ ?_
  · refine v_iload_n (pc := 20) (i := 2) dX2_hear_20 rfl rfl ?_
    exact v_sub [1, 2] rfl (vb_X2_hear_21 z y hy x1 x2 σ)
  · refine v_iload_n (pc := 14) (i := 2) dX2_hear_14 rfl rfl ?_
    refine v_iload_n (pc := 15) (i := 3) dX2_hear_15 rfl rfl ?_
    refine v_idivG (pc := 16) dX2_hear_16 ?_
    refine v_goto (pc := 17) (tgt := 21) dX2_hear_17 rfl ?_
    exact v_sub [1, 2] rfl (vb_X2_hear_21 z y hy x1 (x2 / w1) σ)
theorem ct_X2_hear {g : Gt} {ad : Nat → Nat} {y : Nat} (hy : y < 3) (x1 : Int32) (x2 : Int32) : CT g (LX ad) yX2_hear cX2_hear 5 none 1 [.ref (aSea ad y), .int x1, .int x2] iU (wX g ad) (f_X2_hear y x1 x2) :=
  ct_of_V (own := RX2) (lv0 := [(0, .ref (aSea ad y)), (1, .int x1), (2, .int x2)]) (by decide +kernel) rfl (Nat.le_of_ble_eq_true rfl) rfl (fun z σ => vf_X2_hear z y hy x1 x2 σ)
-- LighthouseLiedTo$Sea.says
theorem dX2_says_0 : decode cX2_says 0 = .ok (.aload_n 0, 1) := by decide +kernel
theorem dX2_says_1 : decode cX2_says 1 = .ok (.getfield 54, 3) := by decide +kernel
theorem dX2_says_4 : decode cX2_says 4 = .ok (.ifCond .lt 27, 3) := by decide +kernel
theorem dX2_says_7 : decode cX2_says 7 = .ok (.aload_n 0, 1) := by decide +kernel
theorem dX2_says_8 : decode cX2_says 8 = .ok (.getfield 54, 3) := by decide +kernel
theorem dX2_says_11 : decode cX2_says 11 = .ok (.aload_n 0, 1) := by decide +kernel
theorem dX2_says_12 : decode cX2_says 12 = .ok (.getfield 27, 3) := by decide +kernel
theorem dX2_says_15 : decode cX2_says 15 = .ok (.arraylength, 1) := by decide +kernel
theorem dX2_says_16 : decode cX2_says 16 = .ok (.if_icmp .ge 15, 3) := by decide +kernel
theorem dX2_says_19 : decode cX2_says 19 = .ok (.aload_n 0, 1) := by decide +kernel
theorem dX2_says_20 : decode cX2_says 20 = .ok (.getfield 27, 3) := by decide +kernel
theorem dX2_says_23 : decode cX2_says 23 = .ok (.aload_n 0, 1) := by decide +kernel
theorem dX2_says_24 : decode cX2_says 24 = .ok (.getfield 54, 3) := by decide +kernel
theorem dX2_says_27 : decode cX2_says 27 = .ok (.aaload, 1) := by decide +kernel
theorem dX2_says_28 : decode cX2_says 28 = .ok (.goto 4, 3) := by decide +kernel
theorem dX2_says_31 : decode cX2_says 31 = .ok (.aconst_null, 1) := by decide +kernel
theorem dX2_says_32 : decode cX2_says 32 = .ok (.astore 4, 2) := by decide +kernel
theorem dX2_says_34 : decode cX2_says 34 = .ok (.aload 4, 2) := by decide +kernel
theorem dX2_says_36 : decode cX2_says 36 = .ok (.ifnonnull 5, 3) := by decide +kernel
theorem dX2_says_39 : decode cX2_says 39 = .ok (.iconst 0, 1) := by decide +kernel
theorem dX2_says_40 : decode cX2_says 40 = .ok (.ireturn, 1) := by decide +kernel
theorem dX2_says_41 : decode cX2_says 41 = .ok (.aload 4, 2) := by decide +kernel
theorem dX2_says_43 : decode cX2_says 43 = .ok (.iload_n 1, 1) := by decide +kernel
theorem dX2_says_44 : decode cX2_says 44 = .ok (.aload_n 0, 1) := by decide +kernel
theorem dX2_says_45 : decode cX2_says 45 = .ok (.iload_n 2, 1) := by decide +kernel
theorem dX2_says_46 : decode cX2_says 46 = .ok (.iload_n 3, 1) := by decide +kernel
theorem dX2_says_47 : decode cX2_says 47 = .ok (.invokevirtual 77, 3) := by decide +kernel
theorem dX2_says_50 : decode cX2_says 50 = .ok (.istore 5, 2) := by decide +kernel
theorem dX2_says_52 : decode cX2_says 52 = .ok (.iload_n 1, 1) := by decide +kernel
theorem dX2_says_53 : decode cX2_says 53 = .ok (.iconst 1, 1) := by decide +kernel
theorem dX2_says_54 : decode cX2_says 54 = .ok (.if_icmp .ne 7, 3) := by decide +kernel
theorem dX2_says_57 : decode cX2_says 57 = .ok (.iconst 0, 1) := by decide +kernel
theorem dX2_says_58 : decode cX2_says 58 = .ok (.goto 5, 3) := by decide +kernel
theorem dX2_says_61 : decode cX2_says 61 = .ok (.bipush (-99), 2) := by decide +kernel
theorem dX2_says_63 : decode cX2_says 63 = .ok (.bipush 99, 2) := by decide +kernel
theorem dX2_says_65 : decode cX2_says 65 = .ok (.iload 5, 2) := by decide +kernel
theorem dX2_says_67 : decode cX2_says 67 = .ok (.invokestatic 68, 3) := by decide +kernel
theorem dX2_says_70 : decode cX2_says 70 = .ok (.invokestatic 74, 3) := by decide +kernel
theorem dX2_says_73 : decode cX2_says 73 = .ok (.ireturn, 1) := by decide +kernel
def b_X2_says_32 (y : Nat) (x1 : Int32) (x2 : Int32) (x3 : Int32) (σ : GX) : Option (Int32 × GX) :=
  some ((0 : Int32), σ)
theorem vb_X2_says_32 {g : Gt} {ad : Nat → Nat} (z : Zt) (y : Nat) (hy : y < 3) (x1 : Int32) (x2 : Int32) (x3 : Int32) (σ : GX) : V g (LX ad) 3 RX2 cX2_says 6 (some .int) (wX g ad) iI z (b_X2_says_32 y x1 x2 x3 σ) σ 32 [(0, .ref (aSea ad y)), (1, .int x1), (2, .int x2), (3, .int x3)] [.null] := by
  unfold b_X2_says_32
  refine v_astoreN (pc := 32) (lv' := [(4, .null), (0, .ref (aSea ad y)), (1, .int x1), (2, .int x2), (3, .int x3)]) (i := 4) dX2_says_32 (by decide) rfl ?_
  refine v_aloadN (pc := 34) (i := 4) dX2_says_34 rfl ?_
  refine v_ifnonnullN (pc := 36) dX2_says_36 ?_
  refine v_iconst (pc := 39) dX2_says_39 ic_0 ?_
  exact v_iret (pc := 40) dX2_says_40
def b_X2_says_63 (y : Nat) (x5 : Int32) (xs0 : Int32) (σ : GX) : Option (Int32 × GX) :=
  some ((mxI xs0 (mnI (99 : Int32) x5)), σ)
theorem vb_X2_says_63 {g : Gt} {ad : Nat → Nat} (z : Zt) (y : Nat) (hy : y < 3) (x5 : Int32) (xs0 : Int32) (σ : GX) : V g (LX ad) 3 RX2 cX2_says 6 (some .int) (wX g ad) iI z (b_X2_says_63 y x5 xs0 σ) σ 63 [(5, .int x5)] [.int xs0] := by
  unfold b_X2_says_63
  refine v_bipush (pc := 63) dX2_says_63 bp_99 ?_
  refine v_iload (pc := 65) (i := 5) dX2_says_65 rfl ?_
  refine v_mmin (pc := 67) q_400 q_401 q_62 q_402 (by decide) (Nat.le_of_ble_eq_true rfl) dX2_says_67 ?_
  refine v_mmax (pc := 70) q_403 q_404 q_62 q_405 (by decide) (Nat.le_of_ble_eq_true rfl) dX2_says_70 ?_
  exact v_iret (pc := 73) dX2_says_73
def b_X2_says_32b (y : Nat) (x1 : Int32) (x2 : Int32) (x3 : Int32) (ns0 : Nat) (σ : GX) : Option (Int32 × GX) :=
  bnd (f_X0_worth ns0 y x1 x2 x3 σ) fun q2 => if x1 ≠ (1 : Int32) then (b_X2_says_63 y q2.1 (-99 : Int32) q2.2) else (b_X2_says_63 y q2.1 (0 : Int32) q2.2)
theorem vb_X2_says_32b {g : Gt} {ad : Nat → Nat} (z : Zt) (y : Nat) (hy : y < 3) (x1 : Int32) (x2 : Int32) (x3 : Int32) (ns0 : Nat) (hns0 : ns0 < 6) (σ : GX) : V g (LX ad) 3 RX2 cX2_says 6 (some .int) (wX g ad) iI z (b_X2_says_32b y x1 x2 x3 ns0 σ) σ 32 [(0, .ref (aSea ad y)), (1, .int x1), (2, .int x2), (3, .int x3)] [.ref (aLaw ad ns0)] := by
  unfold b_X2_says_32b
  refine v_astore (pc := 32) (lv' := [(4, .ref (aLaw ad ns0)), (0, .ref (aSea ad y)), (1, .int x1), (2, .int x2), (3, .int x3)]) (i := 4) dX2_says_32 (by decide) rfl ?_
  refine v_aload (pc := 34) (i := 4) dX2_says_34 rfl ?_
  refine v_ifnonnull (pc := 36) (tgt := 41) dX2_says_36 rfl ?_
  refine v_aload (pc := 41) (i := 4) dX2_says_41 rfl ?_
  refine v_iload_n (pc := 43) (i := 1) dX2_says_43 rfl rfl ?_
  refine v_aload_n (pc := 44) (i := 0) dX2_says_44 rfl rfl ?_
  refine v_iload_n (pc := 45) (i := 2) dX2_says_45 rfl rfl ?_
  refine v_iload_n (pc := 46) (i := 3) dX2_says_46 rfl rfl ?_
  refine v_callVi (pc := 47) (rcX0 hns0) (As := [.int x1, .ref (aSea ad y), .int x2, .int x3]) (rest := []) (ct_X0_worth hns0 hy x1 x2 x3) mi_X0_worth q_441 (by decide) rfl rfl (Nat.le_of_ble_eq_true rfl) dX2_says_47 (fun q2 => ?_)
  refine v_istore (pc := 50) (lv' := [(5, .int q2.1), (4, .ref (aLaw ad ns0)), (0, .ref (aSea ad y)), (1, .int x1), (2, .int x2), (3, .int x3)]) (i := 5) dX2_says_50 (by decide) rfl ?_
  refine v_iload_n (pc := 52) (i := 1) dX2_says_52 rfl rfl ?_
  refine v_iconst (pc := 53) dX2_says_53 ic_1 ?_
  refine v_icmp_ne (pc := 54) (tgt := 61) dX2_says_54 rfl ?_ ?_
  · refine v_bipush (pc := 61) dX2_says_61 bp_m99 ?_
    exact v_sub [0] rfl (vb_X2_says_63 z y hy q2.1 (-99 : Int32) q2.2)
  · refine v_iconst (pc := 57) dX2_says_57 ic_0 ?_
    refine v_goto (pc := 58) (tgt := 63) dX2_says_58 rfl ?_
    exact v_sub [0] rfl (vb_X2_says_63 z y hy q2.1 (0 : Int32) q2.2)
def f_X2_says (y : Nat) (x1 : Int32) (x2 : Int32) (x3 : Int32) (σ : GX) : Option (Int32 × GX) :=
  if (xS σ y 4) < 0 then (b_X2_says_32 y x1 x2 x3 σ) else (if (6 : Int32) ≤ (xS σ y 4) then (b_X2_says_32 y x1 x2 x3 σ) else (grd (xS σ y 4) 6 (b_X2_says_32b y x1 x2 x3 (((xS σ y 4).toNatClampNeg)) σ)))
theorem vf_X2_says {g : Gt} {ad : Nat → Nat} (z : Zt) (y : Nat) (hy : y < 3) (x1 : Int32) (x2 : Int32) (x3 : Int32) (σ : GX) : V g (LX ad) 3 RX2 cX2_says 6 (some .int) (wX g ad) iI z (f_X2_says y x1 x2 x3 σ) σ 0 [(0, .ref (aSea ad y)), (1, .int x1), (2, .int x2), (3, .int x3)] [] := by
  unfold f_X2_says
  refine v_aload_n (pc := 0) (i := 0) dX2_says_0 rfl rfl ?_
  refine gX2_law (pc := 1) (y := y) hy q_172 dX2_says_1 ?_
  refine v_if_lt (pc := 4) (tgt := 31) dX2_says_4 rfl ?_ ?_
  · refine v_aconst_null (pc := 31) dX2_says_31 ?_
    exact v_sub [0, 1, 2, 3] rfl (vb_X2_says_32 z y hy x1 x2 x3 σ)
  · refine v_aload_n (pc := 7) (i := 0) dX2_says_7 rfl rfl ?_
    refine gX2_law (pc := 8) (y := y) hy q_172 dX2_says_8 ?_
    refine v_aload_n (pc := 11) (i := 0) dX2_says_11 rfl rfl ?_
    refine gX2_texts (pc := 12) (y := y) hy q_147 dX2_says_12 ?_
    refine nX_texts (pc := 15) (v := (6 : Int32)) rfl dX2_says_15 ?_
    refine v_icmp_ge (pc := 16) (tgt := 31) dX2_says_16 rfl ?_ ?_
    · refine v_aconst_null (pc := 31) dX2_says_31 ?_
      exact v_sub [0, 1, 2, 3] rfl (vb_X2_says_32 z y hy x1 x2 x3 σ)
    · refine v_aload_n (pc := 19) (i := 0) dX2_says_19 rfl rfl ?_
      refine gX2_texts (pc := 20) (y := y) hy q_147 dX2_says_20 ?_
      refine v_aload_n (pc := 23) (i := 0) dX2_says_23 rfl rfl ?_
      refine gX2_law (pc := 24) (y := y) hy q_172 dX2_says_24 ?_
      refine aX_texts (pc := 27) dX2_says_27 (fun ha1 => ?_)
      refine v_goto (pc := 28) (tgt := 32) dX2_says_28 rfl ?_
      exact v_sub [0, 1, 2, 3] rfl (vb_X2_says_32b z y hy x1 x2 x3 (((xS σ y 4).toNatClampNeg)) ha1 σ)
theorem ct_X2_says {g : Gt} {ad : Nat → Nat} {y : Nat} (hy : y < 3) (x1 : Int32) (x2 : Int32) (x3 : Int32) : CT g (LX ad) yX2_says cX2_says 6 (some .int) 3 [.ref (aSea ad y), .int x1, .int x2, .int x3] iI (wX g ad) (f_X2_says y x1 x2 x3) :=
  ct_of_V (own := RX2) (lv0 := [(0, .ref (aSea ad y)), (1, .int x1), (2, .int x2), (3, .int x3)]) (by decide +kernel) rfl (Nat.le_of_ble_eq_true rfl) rfl (fun z σ => vf_X2_says z y hy x1 x2 x3 σ)
-- LighthouseLiedTo$Sea.launch
theorem dX2_launch_0 : decode cX2_launch 0 = .ok (.aload_n 0, 1) := by decide +kernel
theorem dX2_launch_1 : decode cX2_launch 1 = .ok (.getfield 45, 3) := by decide +kernel
theorem dX2_launch_4 : decode cX2_launch 4 = .ok (.istore_n 3, 1) := by decide +kernel
theorem dX2_launch_5 : decode cX2_launch 5 = .ok (.iload_n 3, 1) := by decide +kernel
theorem dX2_launch_6 : decode cX2_launch 6 = .ok (.ifCond .lt 9, 3) := by decide +kernel
theorem dX2_launch_9 : decode cX2_launch 9 = .ok (.iload_n 3, 1) := by decide +kernel
theorem dX2_launch_10 : decode cX2_launch 10 = .ok (.bipush 6, 2) := by decide +kernel
theorem dX2_launch_12 : decode cX2_launch 12 = .ok (.if_icmp .lt 6, 3) := by decide +kernel
theorem dX2_launch_15 : decode cX2_launch 15 = .ok (.bipush (-4), 2) := by decide +kernel
theorem dX2_launch_17 : decode cX2_launch 17 = .ok (.ireturn, 1) := by decide +kernel
theorem dX2_launch_18 : decode cX2_launch 18 = .ok (.aload_n 0, 1) := by decide +kernel
theorem dX2_launch_19 : decode cX2_launch 19 = .ok (.getfield 15, 3) := by decide +kernel
theorem dX2_launch_22 : decode cX2_launch 22 = .ok (.iload_n 3, 1) := by decide +kernel
theorem dX2_launch_23 : decode cX2_launch 23 = .ok (.iload_n 1, 1) := by decide +kernel
theorem dX2_launch_24 : decode cX2_launch 24 = .ok (.bipush 10, 2) := by decide +kernel
theorem dX2_launch_26 : decode cX2_launch 26 = .ok (.idiv, 1) := by decide +kernel
theorem dX2_launch_27 : decode cX2_launch 27 = .ok (.iastore, 1) := by decide +kernel
theorem dX2_launch_28 : decode cX2_launch 28 = .ok (.aload_n 0, 1) := by decide +kernel
theorem dX2_launch_29 : decode cX2_launch 29 = .ok (.getfield 18, 3) := by decide +kernel
theorem dX2_launch_32 : decode cX2_launch 32 = .ok (.iload_n 3, 1) := by decide +kernel
theorem dX2_launch_33 : decode cX2_launch 33 = .ok (.iload_n 1, 1) := by decide +kernel
theorem dX2_launch_34 : decode cX2_launch 34 = .ok (.bipush 10, 2) := by decide +kernel
theorem dX2_launch_36 : decode cX2_launch 36 = .ok (.irem, 1) := by decide +kernel
theorem dX2_launch_37 : decode cX2_launch 37 = .ok (.iastore, 1) := by decide +kernel
theorem dX2_launch_38 : decode cX2_launch 38 = .ok (.aload_n 0, 1) := by decide +kernel
theorem dX2_launch_39 : decode cX2_launch 39 = .ok (.getfield 21, 3) := by decide +kernel
theorem dX2_launch_42 : decode cX2_launch 42 = .ok (.iload_n 3, 1) := by decide +kernel
theorem dX2_launch_43 : decode cX2_launch 43 = .ok (.iload_n 2, 1) := by decide +kernel
theorem dX2_launch_44 : decode cX2_launch 44 = .ok (.bipush 100, 2) := by decide +kernel
theorem dX2_launch_46 : decode cX2_launch 46 = .ok (.idiv, 1) := by decide +kernel
theorem dX2_launch_47 : decode cX2_launch 47 = .ok (.iastore, 1) := by decide +kernel
theorem dX2_launch_48 : decode cX2_launch 48 = .ok (.aload_n 0, 1) := by decide +kernel
theorem dX2_launch_49 : decode cX2_launch 49 = .ok (.getfield 24, 3) := by decide +kernel
theorem dX2_launch_52 : decode cX2_launch 52 = .ok (.iload_n 3, 1) := by decide +kernel
theorem dX2_launch_53 : decode cX2_launch 53 = .ok (.iload_n 2, 1) := by decide +kernel
theorem dX2_launch_54 : decode cX2_launch 54 = .ok (.bipush 100, 2) := by decide +kernel
theorem dX2_launch_56 : decode cX2_launch 56 = .ok (.irem, 1) := by decide +kernel
theorem dX2_launch_57 : decode cX2_launch 57 = .ok (.iastore, 1) := by decide +kernel
theorem dX2_launch_58 : decode cX2_launch 58 = .ok (.aload_n 0, 1) := by decide +kernel
theorem dX2_launch_59 : decode cX2_launch 59 = .ok (.dup, 1) := by decide +kernel
theorem dX2_launch_60 : decode cX2_launch 60 = .ok (.getfield 41, 3) := by decide +kernel
theorem dX2_launch_63 : decode cX2_launch 63 = .ok (.iconst 1, 1) := by decide +kernel
theorem dX2_launch_64 : decode cX2_launch 64 = .ok (.iload_n 3, 1) := by decide +kernel
theorem dX2_launch_65 : decode cX2_launch 65 = .ok (.ishl, 1) := by decide +kernel
theorem dX2_launch_66 : decode cX2_launch 66 = .ok (.iconst (-1), 1) := by decide +kernel
theorem dX2_launch_67 : decode cX2_launch 67 = .ok (.ixor, 1) := by decide +kernel
theorem dX2_launch_68 : decode cX2_launch 68 = .ok (.iand, 1) := by decide +kernel
theorem dX2_launch_69 : decode cX2_launch 69 = .ok (.putfield 41, 3) := by decide +kernel
theorem dX2_launch_72 : decode cX2_launch 72 = .ok (.aload_n 0, 1) := by decide +kernel
theorem dX2_launch_73 : decode cX2_launch 73 = .ok (.dup, 1) := by decide +kernel
theorem dX2_launch_74 : decode cX2_launch 74 = .ok (.getfield 45, 3) := by decide +kernel
theorem dX2_launch_77 : decode cX2_launch 77 = .ok (.iconst 1, 1) := by decide +kernel
theorem dX2_launch_78 : decode cX2_launch 78 = .ok (.iadd, 1) := by decide +kernel
theorem dX2_launch_79 : decode cX2_launch 79 = .ok (.putfield 45, 3) := by decide +kernel
theorem dX2_launch_82 : decode cX2_launch 82 = .ok (.iload_n 3, 1) := by decide +kernel
theorem dX2_launch_83 : decode cX2_launch 83 = .ok (.ireturn, 1) := by decide +kernel
def f_X2_launch (y : Nat) (x1 : Int32) (x2 : Int32) (σ : GX) : Option (Int32 × GX) :=
  bnd (some (xS σ y 1)) fun w1 => if w1 < 0 then (some ((-4 : Int32), σ)) else (if w1 < (6 : Int32) then (grd w1 6 (bnd (some (sB σ y 1 w1.toNatClampNeg (x1 / (10 : Int32)))) fun σ2 => grd w1 6 (bnd (some (sB σ2 y 2 w1.toNatClampNeg (rI x1 (10 : Int32)))) fun σ3 => grd w1 6 (bnd (some (sB σ3 y 3 w1.toNatClampNeg (x2 / (100 : Int32)))) fun σ4 => grd w1 6 (bnd (some (sB σ4 y 4 w1.toNatClampNeg (rI x2 (100 : Int32)))) fun σ5 => bnd (some (sS σ5 y 0 ((xS σ5 y 0) &&& ((slI (1 : Int32) w1) ^^^ (-1 : Int32))))) fun σ6 => bnd (some (sS σ6 y 1 ((xS σ6 y 1) + (1 : Int32)))) fun σ7 => some (w1, σ7)))))) else (some ((-4 : Int32), σ)))
theorem vf_X2_launch {g : Gt} {ad : Nat → Nat} (z : Zt) (y : Nat) (hy : y < 3) (x1 : Int32) (x2 : Int32) (σ : GX) : V g (LX ad) 1 RX2 cX2_launch 4 (some .int) (wX g ad) iI z (f_X2_launch y x1 x2 σ) σ 0 [(0, .ref (aSea ad y)), (1, .int x1), (2, .int x2)] [] := by
  unfold f_X2_launch
  refine v_aload_n (pc := 0) (i := 0) dX2_launch_0 rfl rfl ?_
  refine gX2_ships (pc := 1) (y := y) hy q_164 dX2_launch_1 ?_
  refine v_nmi (fun w1 => ?_)
  refine v_istore_n (pc := 4) (lv' := [(3, .int w1), (0, .ref (aSea ad y)), (1, .int x1), (2, .int x2)]) (i := 3) dX2_launch_4 rfl (by decide) rfl ?_
  refine v_iload_n (pc := 5) (i := 3) dX2_launch_5 rfl rfl ?_
  refine v_if_lt (pc := 6) (tgt := 15) dX2_launch_6 rfl ?_ ?_
  · refine v_bipush (pc := 15) dX2_launch_15 bp_m4 ?_
    exact v_iret (pc := 17) dX2_launch_17
  · refine v_iload_n (pc := 9) (i := 3) dX2_launch_9 rfl rfl ?_
    refine v_bipush (pc := 10) dX2_launch_10 bp_6 ?_
    refine v_icmp_lt (pc := 12) (tgt := 18) dX2_launch_12 rfl ?_ ?_
    · refine v_aload_n (pc := 18) (i := 0) dX2_launch_18 rfl rfl ?_
      refine gX2_kind (pc := 19) (y := y) hy q_151 dX2_launch_19 ?_
      refine v_iload_n (pc := 22) (i := 3) dX2_launch_22 rfl rfl ?_
      refine v_iload_n (pc := 23) (i := 1) dX2_launch_23 rfl rfl ?_
      refine v_bipush (pc := 24) dX2_launch_24 bp_10 ?_
      refine v_idiv (pc := 26) dX2_launch_26 (by decide) ?_
      refine sX_sea1 (pc := 27) (y := y) hy dX2_launch_27 ?_
      refine v_nms (fun σ2 => ?_)
      refine v_aload_n (pc := 28) (i := 0) dX2_launch_28 rfl rfl ?_
      refine gX2_more (pc := 29) (y := y) hy q_153 dX2_launch_29 ?_
      refine v_iload_n (pc := 32) (i := 3) dX2_launch_32 rfl rfl ?_
      refine v_iload_n (pc := 33) (i := 1) dX2_launch_33 rfl rfl ?_
      refine v_bipush (pc := 34) dX2_launch_34 bp_10 ?_
      refine v_irem (pc := 36) dX2_launch_36 (by decide) ?_
      refine sX_sea2 (pc := 37) (y := y) hy dX2_launch_37 ?_
      refine v_nms (fun σ3 => ?_)
      refine v_aload_n (pc := 38) (i := 0) dX2_launch_38 rfl rfl ?_
      refine gX2_cell (pc := 39) (y := y) hy q_155 dX2_launch_39 ?_
      refine v_iload_n (pc := 42) (i := 3) dX2_launch_42 rfl rfl ?_
      refine v_iload_n (pc := 43) (i := 2) dX2_launch_43 rfl rfl ?_
      refine v_bipush (pc := 44) dX2_launch_44 bp_100 ?_
      refine v_idiv (pc := 46) dX2_launch_46 (by decide) ?_
      refine sX_sea3 (pc := 47) (y := y) hy dX2_launch_47 ?_
      refine v_nms (fun σ4 => ?_)
      refine v_aload_n (pc := 48) (i := 0) dX2_launch_48 rfl rfl ?_
      refine gX2_draught (pc := 49) (y := y) hy q_157 dX2_launch_49 ?_
      refine v_iload_n (pc := 52) (i := 3) dX2_launch_52 rfl rfl ?_
      refine v_iload_n (pc := 53) (i := 2) dX2_launch_53 rfl rfl ?_
      refine v_bipush (pc := 54) dX2_launch_54 bp_100 ?_
      refine v_irem (pc := 56) dX2_launch_56 (by decide) ?_
      refine sX_sea4 (pc := 57) (y := y) hy dX2_launch_57 ?_
      refine v_nms (fun σ5 => ?_)
      refine v_aload_n (pc := 58) (i := 0) dX2_launch_58 rfl rfl ?_
      refine v_dup (pc := 59) dX2_launch_59 rfl ?_
      refine gX2_lost (pc := 60) (y := y) hy q_161 dX2_launch_60 ?_
      refine v_iconst (pc := 63) dX2_launch_63 ic_1 ?_
      refine v_iload_n (pc := 64) (i := 3) dX2_launch_64 rfl rfl ?_
      refine v_ishl (pc := 65) dX2_launch_65 ?_
      refine v_iconst (pc := 66) dX2_launch_66 ic_m1 ?_
      refine v_ixor (pc := 67) dX2_launch_67 ?_
      refine v_iand (pc := 68) dX2_launch_68 ?_
      refine pX2_lost (pc := 69) (y := y) hy q_161 dX2_launch_69 ?_
      refine v_nms (fun σ6 => ?_)
      refine v_aload_n (pc := 72) (i := 0) dX2_launch_72 rfl rfl ?_
      refine v_dup (pc := 73) dX2_launch_73 rfl ?_
      refine gX2_ships (pc := 74) (y := y) hy q_164 dX2_launch_74 ?_
      refine v_iconst (pc := 77) dX2_launch_77 ic_1 ?_
      refine v_iadd (pc := 78) dX2_launch_78 ?_
      refine pX2_ships (pc := 79) (y := y) hy q_164 dX2_launch_79 ?_
      refine v_nms (fun σ7 => ?_)
      refine v_iload_n (pc := 82) (i := 3) dX2_launch_82 rfl rfl ?_
      exact v_iret (pc := 83) dX2_launch_83
    · refine v_bipush (pc := 15) dX2_launch_15 bp_m4 ?_
      exact v_iret (pc := 17) dX2_launch_17
theorem ct_X2_launch {g : Gt} {ad : Nat → Nat} {y : Nat} (hy : y < 3) (x1 : Int32) (x2 : Int32) : CT g (LX ad) yX2_launch cX2_launch 4 (some .int) 1 [.ref (aSea ad y), .int x1, .int x2] iI (wX g ad) (f_X2_launch y x1 x2) :=
  ct_of_V (own := RX2) (lv0 := [(0, .ref (aSea ad y)), (1, .int x1), (2, .int x2)]) (by decide +kernel) rfl (Nat.le_of_ble_eq_true rfl) rfl (fun z σ => vf_X2_launch z y hy x1 x2 σ)
-- LighthouseLiedTo$Sea.isLost
theorem dX2_isLost_0 : decode cX2_isLost 0 = .ok (.aload_n 0, 1) := by decide +kernel
theorem dX2_isLost_1 : decode cX2_isLost 1 = .ok (.getfield 41, 3) := by decide +kernel
theorem dX2_isLost_4 : decode cX2_isLost 4 = .ok (.iload_n 1, 1) := by decide +kernel
theorem dX2_isLost_5 : decode cX2_isLost 5 = .ok (.iushr, 1) := by decide +kernel
theorem dX2_isLost_6 : decode cX2_isLost 6 = .ok (.iconst 1, 1) := by decide +kernel
theorem dX2_isLost_7 : decode cX2_isLost 7 = .ok (.iand, 1) := by decide +kernel
theorem dX2_isLost_8 : decode cX2_isLost 8 = .ok (.ifCond .eq 7, 3) := by decide +kernel
theorem dX2_isLost_11 : decode cX2_isLost 11 = .ok (.iconst 1, 1) := by decide +kernel
theorem dX2_isLost_12 : decode cX2_isLost 12 = .ok (.goto 4, 3) := by decide +kernel
theorem dX2_isLost_15 : decode cX2_isLost 15 = .ok (.iconst 0, 1) := by decide +kernel
theorem dX2_isLost_16 : decode cX2_isLost 16 = .ok (.ireturn, 1) := by decide +kernel
def f_X2_isLost (y : Nat) (x1 : Int32) (σ : GX) : Option (Int32 × GX) :=
  if ((usI (xS σ y 0) x1) &&& (1 : Int32)) = 0 then (some ((0 : Int32), σ)) else (some ((1 : Int32), σ))
theorem vf_X2_isLost {g : Gt} {ad : Nat → Nat} (z : Zt) (y : Nat) (hy : y < 3) (x1 : Int32) (σ : GX) : V g (LX ad) 1 RX2 cX2_isLost 2 (some .boolean) (wX g ad) iI z (f_X2_isLost y x1 σ) σ 0 [(0, .ref (aSea ad y)), (1, .int x1)] [] := by
  unfold f_X2_isLost
  refine v_aload_n (pc := 0) (i := 0) dX2_isLost_0 rfl rfl ?_
  refine gX2_lost (pc := 1) (y := y) hy q_161 dX2_isLost_1 ?_
  refine v_iload_n (pc := 4) (i := 1) dX2_isLost_4 rfl rfl ?_
  refine v_iushr (pc := 5) dX2_isLost_5 ?_
  refine v_iconst (pc := 6) dX2_isLost_6 ic_1 ?_
  refine v_iand (pc := 7) dX2_isLost_7 ?_
  refine v_if_eq (pc := 8) (tgt := 15) dX2_isLost_8 rfl ?_ ?_
  · refine v_iconst (pc := 15) dX2_isLost_15 ic_0 ?_
    exact v_nret (pc := 16) rfl dX2_isLost_16
  · refine v_iconst (pc := 11) dX2_isLost_11 ic_1 ?_
    refine v_goto (pc := 12) (tgt := 16) dX2_isLost_12 rfl ?_
    exact v_nret (pc := 16) rfl dX2_isLost_16
theorem ct_X2_isLost {g : Gt} {ad : Nat → Nat} {y : Nat} (hy : y < 3) (x1 : Int32) : CT g (LX ad) yX2_isLost cX2_isLost 2 (some .boolean) 1 [.ref (aSea ad y), .int x1] iI (wX g ad) (f_X2_isLost y x1) :=
  ct_of_V (own := RX2) (lv0 := [(0, .ref (aSea ad y)), (1, .int x1)]) (by decide +kernel) rfl (Nat.le_of_ble_eq_true rfl) rfl (fun z σ => vf_X2_isLost z y hy x1 σ)
-- LighthouseLiedTo$Sea.liking
theorem dX2_liking_0 : decode cX2_liking 0 = .ok (.iload_n 2, 1) := by decide +kernel
theorem dX2_liking_1 : decode cX2_liking 1 = .ok (.bipush 6, 2) := by decide +kernel
theorem dX2_liking_3 : decode cX2_liking 3 = .ok (.idiv, 1) := by decide +kernel
theorem dX2_liking_4 : decode cX2_liking 4 = .ok (.aload_n 0, 1) := by decide +kernel
theorem dX2_liking_5 : decode cX2_liking 5 = .ok (.getfield 18, 3) := by decide +kernel
theorem dX2_liking_8 : decode cX2_liking 8 = .ok (.iload_n 1, 1) := by decide +kernel
theorem dX2_liking_9 : decode cX2_liking 9 = .ok (.iaload, 1) := by decide +kernel
theorem dX2_liking_10 : decode cX2_liking 10 = .ok (.bipush 6, 2) := by decide +kernel
theorem dX2_liking_12 : decode cX2_liking 12 = .ok (.irem, 1) := by decide +kernel
theorem dX2_liking_13 : decode cX2_liking 13 = .ok (.if_icmp .ne 8, 3) := by decide +kernel
theorem dX2_liking_16 : decode cX2_liking 16 = .ok (.bipush 20, 2) := by decide +kernel
theorem dX2_liking_18 : decode cX2_liking 18 = .ok (.goto 4, 3) := by decide +kernel
theorem dX2_liking_21 : decode cX2_liking 21 = .ok (.iconst 0, 1) := by decide +kernel
theorem dX2_liking_22 : decode cX2_liking 22 = .ok (.istore_n 3, 1) := by decide +kernel
theorem dX2_liking_23 : decode cX2_liking 23 = .ok (.aload_n 0, 1) := by decide +kernel
theorem dX2_liking_24 : decode cX2_liking 24 = .ok (.getfield 15, 3) := by decide +kernel
theorem dX2_liking_27 : decode cX2_liking 27 = .ok (.iload_n 1, 1) := by decide +kernel
theorem dX2_liking_28 : decode cX2_liking 28 = .ok (.iaload, 1) := by decide +kernel
theorem dX2_liking_29 : decode cX2_liking 29 = .ok (.tableswitch 153 1 5 #[35, 61, 76, 102, 120], 35) := by decide +kernel
theorem dX2_liking_64 : decode cX2_liking 64 = .ok (.aload_n 0, 1) := by decide +kernel
theorem dX2_liking_65 : decode cX2_liking 65 = .ok (.iconst 0, 1) := by decide +kernel
theorem dX2_liking_66 : decode cX2_liking 66 = .ok (.iload_n 2, 1) := by decide +kernel
theorem dX2_liking_67 : decode cX2_liking 67 = .ok (.aload_n 0, 1) := by decide +kernel
theorem dX2_liking_68 : decode cX2_liking 68 = .ok (.getfield 24, 3) := by decide +kernel
theorem dX2_liking_71 : decode cX2_liking 71 = .ok (.iload_n 1, 1) := by decide +kernel
theorem dX2_liking_72 : decode cX2_liking 72 = .ok (.iaload, 1) := by decide +kernel
theorem dX2_liking_73 : decode cX2_liking 73 = .ok (.invokevirtual 61, 3) := by decide +kernel
theorem dX2_liking_76 : decode cX2_liking 76 = .ok (.aload_n 0, 1) := by decide +kernel
theorem dX2_liking_77 : decode cX2_liking 77 = .ok (.iconst 2, 1) := by decide +kernel
theorem dX2_liking_78 : decode cX2_liking 78 = .ok (.iload_n 2, 1) := by decide +kernel
theorem dX2_liking_79 : decode cX2_liking 79 = .ok (.aload_n 0, 1) := by decide +kernel
theorem dX2_liking_80 : decode cX2_liking 80 = .ok (.getfield 24, 3) := by decide +kernel
theorem dX2_liking_83 : decode cX2_liking 83 = .ok (.iload_n 1, 1) := by decide +kernel
theorem dX2_liking_84 : decode cX2_liking 84 = .ok (.iaload, 1) := by decide +kernel
theorem dX2_liking_85 : decode cX2_liking 85 = .ok (.invokevirtual 61, 3) := by decide +kernel
theorem dX2_liking_88 : decode cX2_liking 88 = .ok (.isub, 1) := by decide +kernel
theorem dX2_liking_89 : decode cX2_liking 89 = .ok (.ireturn, 1) := by decide +kernel
theorem dX2_liking_90 : decode cX2_liking 90 = .ok (.aload_n 0, 1) := by decide +kernel
theorem dX2_liking_91 : decode cX2_liking 91 = .ok (.iconst 0, 1) := by decide +kernel
theorem dX2_liking_92 : decode cX2_liking 92 = .ok (.iload_n 2, 1) := by decide +kernel
theorem dX2_liking_93 : decode cX2_liking 93 = .ok (.aload_n 0, 1) := by decide +kernel
theorem dX2_liking_94 : decode cX2_liking 94 = .ok (.getfield 24, 3) := by decide +kernel
theorem dX2_liking_97 : decode cX2_liking 97 = .ok (.iload_n 1, 1) := by decide +kernel
theorem dX2_liking_98 : decode cX2_liking 98 = .ok (.iaload, 1) := by decide +kernel
theorem dX2_liking_99 : decode cX2_liking 99 = .ok (.invokevirtual 61, 3) := by decide +kernel
theorem dX2_liking_102 : decode cX2_liking 102 = .ok (.iload_n 3, 1) := by decide +kernel
theorem dX2_liking_103 : decode cX2_liking 103 = .ok (.iadd, 1) := by decide +kernel
theorem dX2_liking_104 : decode cX2_liking 104 = .ok (.ireturn, 1) := by decide +kernel
theorem dX2_liking_105 : decode cX2_liking 105 = .ok (.aload_n 0, 1) := by decide +kernel
theorem dX2_liking_106 : decode cX2_liking 106 = .ok (.iconst 2, 1) := by decide +kernel
theorem dX2_liking_107 : decode cX2_liking 107 = .ok (.iload_n 2, 1) := by decide +kernel
theorem dX2_liking_108 : decode cX2_liking 108 = .ok (.aload_n 0, 1) := by decide +kernel
theorem dX2_liking_109 : decode cX2_liking 109 = .ok (.getfield 24, 3) := by decide +kernel
theorem dX2_liking_112 : decode cX2_liking 112 = .ok (.iload_n 1, 1) := by decide +kernel
theorem dX2_liking_113 : decode cX2_liking 113 = .ok (.iaload, 1) := by decide +kernel
theorem dX2_liking_114 : decode cX2_liking 114 = .ok (.invokevirtual 61, 3) := by decide +kernel
theorem dX2_liking_117 : decode cX2_liking 117 = .ok (.aload_n 0, 1) := by decide +kernel
theorem dX2_liking_118 : decode cX2_liking 118 = .ok (.iconst 0, 1) := by decide +kernel
theorem dX2_liking_119 : decode cX2_liking 119 = .ok (.iload_n 2, 1) := by decide +kernel
theorem dX2_liking_120 : decode cX2_liking 120 = .ok (.aload_n 0, 1) := by decide +kernel
theorem dX2_liking_121 : decode cX2_liking 121 = .ok (.getfield 24, 3) := by decide +kernel
theorem dX2_liking_124 : decode cX2_liking 124 = .ok (.iload_n 1, 1) := by decide +kernel
theorem dX2_liking_125 : decode cX2_liking 125 = .ok (.iaload, 1) := by decide +kernel
theorem dX2_liking_126 : decode cX2_liking 126 = .ok (.invokevirtual 61, 3) := by decide +kernel
theorem dX2_liking_129 : decode cX2_liking 129 = .ok (.isub, 1) := by decide +kernel
theorem dX2_liking_130 : decode cX2_liking 130 = .ok (.ireturn, 1) := by decide +kernel
theorem dX2_liking_131 : decode cX2_liking 131 = .ok (.aload_n 0, 1) := by decide +kernel
theorem dX2_liking_132 : decode cX2_liking 132 = .ok (.iconst 0, 1) := by decide +kernel
theorem dX2_liking_133 : decode cX2_liking 133 = .ok (.iload_n 2, 1) := by decide +kernel
theorem dX2_liking_134 : decode cX2_liking 134 = .ok (.aload_n 0, 1) := by decide +kernel
theorem dX2_liking_135 : decode cX2_liking 135 = .ok (.getfield 24, 3) := by decide +kernel
theorem dX2_liking_138 : decode cX2_liking 138 = .ok (.iload_n 1, 1) := by decide +kernel
theorem dX2_liking_139 : decode cX2_liking 139 = .ok (.iaload, 1) := by decide +kernel
theorem dX2_liking_140 : decode cX2_liking 140 = .ok (.invokevirtual 61, 3) := by decide +kernel
theorem dX2_liking_143 : decode cX2_liking 143 = .ok (.iload_n 3, 1) := by decide +kernel
theorem dX2_liking_144 : decode cX2_liking 144 = .ok (.iadd, 1) := by decide +kernel
theorem dX2_liking_145 : decode cX2_liking 145 = .ok (.bipush 10, 2) := by decide +kernel
theorem dX2_liking_147 : decode cX2_liking 147 = .ok (.idiv, 1) := by decide +kernel
theorem dX2_liking_148 : decode cX2_liking 148 = .ok (.ireturn, 1) := by decide +kernel
theorem dX2_liking_149 : decode cX2_liking 149 = .ok (.iload_n 2, 1) := by decide +kernel
theorem dX2_liking_150 : decode cX2_liking 150 = .ok (.iconst 4, 1) := by decide +kernel
theorem dX2_liking_151 : decode cX2_liking 151 = .ok (.aload_n 0, 1) := by decide +kernel
theorem dX2_liking_152 : decode cX2_liking 152 = .ok (.getfield 18, 3) := by decide +kernel
theorem dX2_liking_155 : decode cX2_liking 155 = .ok (.iload_n 1, 1) := by decide +kernel
theorem dX2_liking_156 : decode cX2_liking 156 = .ok (.iaload, 1) := by decide +kernel
theorem dX2_liking_157 : decode cX2_liking 157 = .ok (.imul, 1) := by decide +kernel
theorem dX2_liking_158 : decode cX2_liking 158 = .ok (.bipush 36, 2) := by decide +kernel
theorem dX2_liking_160 : decode cX2_liking 160 = .ok (.irem, 1) := by decide +kernel
theorem dX2_liking_161 : decode cX2_liking 161 = .ok (.if_icmp .ne 8, 3) := by decide +kernel
theorem dX2_liking_164 : decode cX2_liking 164 = .ok (.bipush 99, 2) := by decide +kernel
theorem dX2_liking_166 : decode cX2_liking 166 = .ok (.goto 15, 3) := by decide +kernel
theorem dX2_liking_169 : decode cX2_liking 169 = .ok (.aload_n 0, 1) := by decide +kernel
theorem dX2_liking_170 : decode cX2_liking 170 = .ok (.iconst 2, 1) := by decide +kernel
theorem dX2_liking_171 : decode cX2_liking 171 = .ok (.iload_n 2, 1) := by decide +kernel
theorem dX2_liking_172 : decode cX2_liking 172 = .ok (.aload_n 0, 1) := by decide +kernel
theorem dX2_liking_173 : decode cX2_liking 173 = .ok (.getfield 24, 3) := by decide +kernel
theorem dX2_liking_176 : decode cX2_liking 176 = .ok (.iload_n 1, 1) := by decide +kernel
theorem dX2_liking_177 : decode cX2_liking 177 = .ok (.iaload, 1) := by decide +kernel
theorem dX2_liking_178 : decode cX2_liking 178 = .ok (.invokevirtual 61, 3) := by decide +kernel
theorem dX2_liking_181 : decode cX2_liking 181 = .ok (.ireturn, 1) := by decide +kernel
theorem dX2_liking_182 : decode cX2_liking 182 = .ok (.aload_n 0, 1) := by decide +kernel
theorem dX2_liking_183 : decode cX2_liking 183 = .ok (.iconst 0, 1) := by decide +kernel
theorem dX2_liking_184 : decode cX2_liking 184 = .ok (.iload_n 2, 1) := by decide +kernel
theorem dX2_liking_185 : decode cX2_liking 185 = .ok (.aload_n 0, 1) := by decide +kernel
theorem dX2_liking_186 : decode cX2_liking 186 = .ok (.getfield 24, 3) := by decide +kernel
theorem dX2_liking_189 : decode cX2_liking 189 = .ok (.iload_n 1, 1) := by decide +kernel
theorem dX2_liking_190 : decode cX2_liking 190 = .ok (.iaload, 1) := by decide +kernel
theorem dX2_liking_191 : decode cX2_liking 191 = .ok (.invokevirtual 61, 3) := by decide +kernel
theorem dX2_liking_194 : decode cX2_liking 194 = .ok (.ireturn, 1) := by decide +kernel
def b_X2_liking_22 (y : Nat) (x1 : Int32) (x2 : Int32) (xs0 : Int32) (σ : GX) : Option (Int32 × GX) :=
  grd x1 6 (bnd (some (xB σ y 1 x1.toNatClampNeg)) fun w1 => if w1 = (1 : Int32) then (grd x1 6 (bnd (f_X2_says y (0 : Int32) x2 (xB σ y 4 x1.toNatClampNeg) σ) fun q2 => grd x1 6 (bnd (f_X2_says y (2 : Int32) x2 (xB q2.2 y 4 x1.toNatClampNeg) q2.2) fun q3 => some ((q2.1 - q3.1), q3.2)))) else (if w1 = (2 : Int32) then (grd x1 6 (bnd (f_X2_says y (0 : Int32) x2 (xB σ y 4 x1.toNatClampNeg) σ) fun q4 => some ((q4.1 + xs0), q4.2))) else (if w1 = (3 : Int32) then (grd x1 6 (bnd (f_X2_says y (2 : Int32) x2 (xB σ y 4 x1.toNatClampNeg) σ) fun q5 => grd x1 6 (bnd (f_X2_says y (0 : Int32) x2 (xB q5.2 y 4 x1.toNatClampNeg) q5.2) fun q6 => some ((q5.1 - q6.1), q6.2)))) else (if w1 = (4 : Int32) then (grd x1 6 (bnd (f_X2_says y (0 : Int32) x2 (xB σ y 4 x1.toNatClampNeg) σ) fun q7 => some (((q7.1 + xs0) / (10 : Int32)), q7.2))) else (if w1 = (5 : Int32) then (grd x1 6 (if x2 ≠ (rI ((4 : Int32) * (xB σ y 2 x1.toNatClampNeg)) (36 : Int32)) then (grd x1 6 (bnd (f_X2_says y (2 : Int32) x2 (xB σ y 4 x1.toNatClampNeg) σ) fun q8 => some (q8.1, q8.2))) else (some ((99 : Int32), σ)))) else (grd x1 6 (bnd (f_X2_says y (0 : Int32) x2 (xB σ y 4 x1.toNatClampNeg) σ) fun q9 => some (q9.1, q9.2))))))))
theorem vb_X2_liking_22 {g : Gt} {ad : Nat → Nat} (z : Zt) (y : Nat) (hy : y < 3) (x1 : Int32) (x2 : Int32) (xs0 : Int32) (σ : GX) : V g (LX ad) 4 RX2 cX2_liking 4 (some .int) (wX g ad) iI z (b_X2_liking_22 y x1 x2 xs0 σ) σ 22 [(0, .ref (aSea ad y)), (1, .int x1), (2, .int x2)] [.int xs0] := by
  unfold b_X2_liking_22
  refine v_istore_n (pc := 22) (lv' := [(3, .int xs0), (0, .ref (aSea ad y)), (1, .int x1), (2, .int x2)]) (i := 3) dX2_liking_22 rfl (by decide) rfl ?_
  refine v_aload_n (pc := 23) (i := 0) dX2_liking_23 rfl rfl ?_
  refine gX2_kind (pc := 24) (y := y) hy q_151 dX2_liking_24 ?_
  refine v_iload_n (pc := 27) (i := 1) dX2_liking_27 rfl rfl ?_
  refine lX_sea1 (pc := 28) (y := y) hy dX2_liking_28 ?_
  refine v_nmi (fun w1 => ?_)
  refine v_case (c := w1 = (1 : Int32)) (fun hx => ?_) (fun hc29_0 => ?_)
  · refine v_tin (pc := 29) (tgt := 64) (off := 35) hx dX2_liking_29 (by decide) (by decide) rfl rfl ?_
    refine v_aload_n (pc := 64) (i := 0) dX2_liking_64 rfl rfl ?_
    refine v_iconst (pc := 65) dX2_liking_65 ic_0 ?_
    refine v_iload_n (pc := 66) (i := 2) dX2_liking_66 rfl rfl ?_
    refine v_aload_n (pc := 67) (i := 0) dX2_liking_67 rfl rfl ?_
    refine gX2_draught (pc := 68) (y := y) hy q_157 dX2_liking_68 ?_
    refine v_iload_n (pc := 71) (i := 1) dX2_liking_71 rfl rfl ?_
    refine lX_sea4 (pc := 72) (y := y) hy dX2_liking_72 ?_
    refine v_callVi (pc := 73) (rcX2 hy) (As := [.int (0 : Int32), .int x2, .int (xB σ y 4 x1.toNatClampNeg)]) (rest := []) (ct_X2_says hy (0 : Int32) x2 (xB σ y 4 x1.toNatClampNeg)) mi_X2_says q_479 (by decide) rfl rfl (Nat.le_of_ble_eq_true rfl) dX2_liking_73 (fun q2 => ?_)
    refine v_aload_n (pc := 76) (i := 0) dX2_liking_76 rfl rfl ?_
    refine v_iconst (pc := 77) dX2_liking_77 ic_2 ?_
    refine v_iload_n (pc := 78) (i := 2) dX2_liking_78 rfl rfl ?_
    refine v_aload_n (pc := 79) (i := 0) dX2_liking_79 rfl rfl ?_
    refine gX2_draught (pc := 80) (y := y) hy q_157 dX2_liking_80 ?_
    refine v_iload_n (pc := 83) (i := 1) dX2_liking_83 rfl rfl ?_
    refine lX_sea4 (pc := 84) (y := y) hy dX2_liking_84 ?_
    refine v_callVi (pc := 85) (rcX2 hy) (As := [.int (2 : Int32), .int x2, .int (xB q2.2 y 4 x1.toNatClampNeg)]) (rest := [.int q2.1]) (ct_X2_says hy (2 : Int32) x2 (xB q2.2 y 4 x1.toNatClampNeg)) mi_X2_says q_479 (by decide) rfl rfl (Nat.le_of_ble_eq_true rfl) dX2_liking_85 (fun q3 => ?_)
    refine v_isub (pc := 88) dX2_liking_88 ?_
    exact v_iret (pc := 89) dX2_liking_89
  refine v_case (c := w1 = (2 : Int32)) (fun hx => ?_) (fun hc29_1 => ?_)
  · refine v_tin (pc := 29) (tgt := 90) (off := 61) hx dX2_liking_29 (by decide) (by decide) rfl rfl ?_
    refine v_aload_n (pc := 90) (i := 0) dX2_liking_90 rfl rfl ?_
    refine v_iconst (pc := 91) dX2_liking_91 ic_0 ?_
    refine v_iload_n (pc := 92) (i := 2) dX2_liking_92 rfl rfl ?_
    refine v_aload_n (pc := 93) (i := 0) dX2_liking_93 rfl rfl ?_
    refine gX2_draught (pc := 94) (y := y) hy q_157 dX2_liking_94 ?_
    refine v_iload_n (pc := 97) (i := 1) dX2_liking_97 rfl rfl ?_
    refine lX_sea4 (pc := 98) (y := y) hy dX2_liking_98 ?_
    refine v_callVi (pc := 99) (rcX2 hy) (As := [.int (0 : Int32), .int x2, .int (xB σ y 4 x1.toNatClampNeg)]) (rest := []) (ct_X2_says hy (0 : Int32) x2 (xB σ y 4 x1.toNatClampNeg)) mi_X2_says q_479 (by decide) rfl rfl (Nat.le_of_ble_eq_true rfl) dX2_liking_99 (fun q4 => ?_)
    refine v_iload_n (pc := 102) (i := 3) dX2_liking_102 rfl rfl ?_
    refine v_iadd (pc := 103) dX2_liking_103 ?_
    exact v_iret (pc := 104) dX2_liking_104
  refine v_case (c := w1 = (3 : Int32)) (fun hx => ?_) (fun hc29_2 => ?_)
  · refine v_tin (pc := 29) (tgt := 105) (off := 76) hx dX2_liking_29 (by decide) (by decide) rfl rfl ?_
    refine v_aload_n (pc := 105) (i := 0) dX2_liking_105 rfl rfl ?_
    refine v_iconst (pc := 106) dX2_liking_106 ic_2 ?_
    refine v_iload_n (pc := 107) (i := 2) dX2_liking_107 rfl rfl ?_
    refine v_aload_n (pc := 108) (i := 0) dX2_liking_108 rfl rfl ?_
    refine gX2_draught (pc := 109) (y := y) hy q_157 dX2_liking_109 ?_
    refine v_iload_n (pc := 112) (i := 1) dX2_liking_112 rfl rfl ?_
    refine lX_sea4 (pc := 113) (y := y) hy dX2_liking_113 ?_
    refine v_callVi (pc := 114) (rcX2 hy) (As := [.int (2 : Int32), .int x2, .int (xB σ y 4 x1.toNatClampNeg)]) (rest := []) (ct_X2_says hy (2 : Int32) x2 (xB σ y 4 x1.toNatClampNeg)) mi_X2_says q_479 (by decide) rfl rfl (Nat.le_of_ble_eq_true rfl) dX2_liking_114 (fun q5 => ?_)
    refine v_aload_n (pc := 117) (i := 0) dX2_liking_117 rfl rfl ?_
    refine v_iconst (pc := 118) dX2_liking_118 ic_0 ?_
    refine v_iload_n (pc := 119) (i := 2) dX2_liking_119 rfl rfl ?_
    refine v_aload_n (pc := 120) (i := 0) dX2_liking_120 rfl rfl ?_
    refine gX2_draught (pc := 121) (y := y) hy q_157 dX2_liking_121 ?_
    refine v_iload_n (pc := 124) (i := 1) dX2_liking_124 rfl rfl ?_
    refine lX_sea4 (pc := 125) (y := y) hy dX2_liking_125 ?_
    refine v_callVi (pc := 126) (rcX2 hy) (As := [.int (0 : Int32), .int x2, .int (xB q5.2 y 4 x1.toNatClampNeg)]) (rest := [.int q5.1]) (ct_X2_says hy (0 : Int32) x2 (xB q5.2 y 4 x1.toNatClampNeg)) mi_X2_says q_479 (by decide) rfl rfl (Nat.le_of_ble_eq_true rfl) dX2_liking_126 (fun q6 => ?_)
    refine v_isub (pc := 129) dX2_liking_129 ?_
    exact v_iret (pc := 130) dX2_liking_130
  refine v_case (c := w1 = (4 : Int32)) (fun hx => ?_) (fun hc29_3 => ?_)
  · refine v_tin (pc := 29) (tgt := 131) (off := 102) hx dX2_liking_29 (by decide) (by decide) rfl rfl ?_
    refine v_aload_n (pc := 131) (i := 0) dX2_liking_131 rfl rfl ?_
    refine v_iconst (pc := 132) dX2_liking_132 ic_0 ?_
    refine v_iload_n (pc := 133) (i := 2) dX2_liking_133 rfl rfl ?_
    refine v_aload_n (pc := 134) (i := 0) dX2_liking_134 rfl rfl ?_
    refine gX2_draught (pc := 135) (y := y) hy q_157 dX2_liking_135 ?_
    refine v_iload_n (pc := 138) (i := 1) dX2_liking_138 rfl rfl ?_
    refine lX_sea4 (pc := 139) (y := y) hy dX2_liking_139 ?_
    refine v_callVi (pc := 140) (rcX2 hy) (As := [.int (0 : Int32), .int x2, .int (xB σ y 4 x1.toNatClampNeg)]) (rest := []) (ct_X2_says hy (0 : Int32) x2 (xB σ y 4 x1.toNatClampNeg)) mi_X2_says q_479 (by decide) rfl rfl (Nat.le_of_ble_eq_true rfl) dX2_liking_140 (fun q7 => ?_)
    refine v_iload_n (pc := 143) (i := 3) dX2_liking_143 rfl rfl ?_
    refine v_iadd (pc := 144) dX2_liking_144 ?_
    refine v_bipush (pc := 145) dX2_liking_145 bp_10 ?_
    refine v_idiv (pc := 147) dX2_liking_147 (by decide) ?_
    exact v_iret (pc := 148) dX2_liking_148
  refine v_case (c := w1 = (5 : Int32)) (fun hx => ?_) (fun hc29_4 => ?_)
  · refine v_tin (pc := 29) (tgt := 149) (off := 120) hx dX2_liking_29 (by decide) (by decide) rfl rfl ?_
    refine v_iload_n (pc := 149) (i := 2) dX2_liking_149 rfl rfl ?_
    refine v_iconst (pc := 150) dX2_liking_150 ic_4 ?_
    refine v_aload_n (pc := 151) (i := 0) dX2_liking_151 rfl rfl ?_
    refine gX2_more (pc := 152) (y := y) hy q_153 dX2_liking_152 ?_
    refine v_iload_n (pc := 155) (i := 1) dX2_liking_155 rfl rfl ?_
    refine lX_sea2 (pc := 156) (y := y) hy dX2_liking_156 ?_
    refine v_imul (pc := 157) dX2_liking_157 ?_
    refine v_bipush (pc := 158) dX2_liking_158 bp_36 ?_
    refine v_irem (pc := 160) dX2_liking_160 (by decide) ?_
    refine v_icmp_ne (pc := 161) (tgt := 169) dX2_liking_161 rfl ?_ ?_
    · refine v_aload_n (pc := 169) (i := 0) dX2_liking_169 rfl rfl ?_
      refine v_iconst (pc := 170) dX2_liking_170 ic_2 ?_
      refine v_iload_n (pc := 171) (i := 2) dX2_liking_171 rfl rfl ?_
      refine v_aload_n (pc := 172) (i := 0) dX2_liking_172 rfl rfl ?_
      refine gX2_draught (pc := 173) (y := y) hy q_157 dX2_liking_173 ?_
      refine v_iload_n (pc := 176) (i := 1) dX2_liking_176 rfl rfl ?_
      refine lX_sea4 (pc := 177) (y := y) hy dX2_liking_177 ?_
      refine v_callVi (pc := 178) (rcX2 hy) (As := [.int (2 : Int32), .int x2, .int (xB σ y 4 x1.toNatClampNeg)]) (rest := []) (ct_X2_says hy (2 : Int32) x2 (xB σ y 4 x1.toNatClampNeg)) mi_X2_says q_479 (by decide) rfl rfl (Nat.le_of_ble_eq_true rfl) dX2_liking_178 (fun q8 => ?_)
      exact v_iret (pc := 181) dX2_liking_181
    · refine v_bipush (pc := 164) dX2_liking_164 bp_99 ?_
      refine v_goto (pc := 166) (tgt := 181) dX2_liking_166 rfl ?_
      exact v_iret (pc := 181) dX2_liking_181
  refine v_tout (pc := 29) (tgt := 182) dX2_liking_29 (by have e0 := tsw_ne (a := 1) hc29_0 rfl; have e1 := tsw_ne (a := 2) hc29_1 rfl; have e2 := tsw_ne (a := 3) hc29_2 rfl; have e3 := tsw_ne (a := 4) hc29_3 rfl; have e4 := tsw_ne (a := 5) hc29_4 rfl; omega) rfl ?_
  refine v_aload_n (pc := 182) (i := 0) dX2_liking_182 rfl rfl ?_
  refine v_iconst (pc := 183) dX2_liking_183 ic_0 ?_
  refine v_iload_n (pc := 184) (i := 2) dX2_liking_184 rfl rfl ?_
  refine v_aload_n (pc := 185) (i := 0) dX2_liking_185 rfl rfl ?_
  refine gX2_draught (pc := 186) (y := y) hy q_157 dX2_liking_186 ?_
  refine v_iload_n (pc := 189) (i := 1) dX2_liking_189 rfl rfl ?_
  refine lX_sea4 (pc := 190) (y := y) hy dX2_liking_190 ?_
  refine v_callVi (pc := 191) (rcX2 hy) (As := [.int (0 : Int32), .int x2, .int (xB σ y 4 x1.toNatClampNeg)]) (rest := []) (ct_X2_says hy (0 : Int32) x2 (xB σ y 4 x1.toNatClampNeg)) mi_X2_says q_479 (by decide) rfl rfl (Nat.le_of_ble_eq_true rfl) dX2_liking_191 (fun q9 => ?_)
  exact v_iret (pc := 194) dX2_liking_194
def f_X2_liking (y : Nat) (x1 : Int32) (x2 : Int32) (σ : GX) : Option (Int32 × GX) :=
  grd x1 6 (if (x2 / (6 : Int32)) ≠ (rI (xB σ y 2 x1.toNatClampNeg) (6 : Int32)) then (b_X2_liking_22 y x1 x2 (0 : Int32) σ) else (b_X2_liking_22 y x1 x2 (20 : Int32) σ))
theorem vf_X2_liking {g : Gt} {ad : Nat → Nat} (z : Zt) (y : Nat) (hy : y < 3) (x1 : Int32) (x2 : Int32) (σ : GX) : V g (LX ad) 4 RX2 cX2_liking 4 (some .int) (wX g ad) iI z (f_X2_liking y x1 x2 σ) σ 0 [(0, .ref (aSea ad y)), (1, .int x1), (2, .int x2)] [] := by
  unfold f_X2_liking
  refine v_iload_n (pc := 0) (i := 2) dX2_liking_0 rfl rfl ?_
  refine v_bipush (pc := 1) dX2_liking_1 bp_6 ?_
  refine v_idiv (pc := 3) dX2_liking_3 (by decide) ?_
  refine v_aload_n (pc := 4) (i := 0) dX2_liking_4 rfl rfl ?_
  refine gX2_more (pc := 5) (y := y) hy q_153 dX2_liking_5 ?_
  refine v_iload_n (pc := 8) (i := 1) dX2_liking_8 rfl rfl ?_
  refine lX_sea2 (pc := 9) (y := y) hy dX2_liking_9 ?_
  refine v_bipush (pc := 10) dX2_liking_10 bp_6 ?_
  refine v_irem (pc := 12) dX2_liking_12 (by decide) ?_
  refine v_icmp_ne (pc := 13) (tgt := 21) dX2_liking_13 rfl ?_ ?_
  · refine v_iconst (pc := 21) dX2_liking_21 ic_0 ?_
    exact v_sub [0, 1, 2] rfl (vb_X2_liking_22 z y hy x1 x2 (0 : Int32) σ)
  · refine v_bipush (pc := 16) dX2_liking_16 bp_20 ?_
    refine v_goto (pc := 18) (tgt := 22) dX2_liking_18 rfl ?_
    exact v_sub [0, 1, 2] rfl (vb_X2_liking_22 z y hy x1 x2 (20 : Int32) σ)
theorem ct_X2_liking {g : Gt} {ad : Nat → Nat} {y : Nat} (hy : y < 3) (x1 : Int32) (x2 : Int32) : CT g (LX ad) yX2_liking cX2_liking 4 (some .int) 4 [.ref (aSea ad y), .int x1, .int x2] iI (wX g ad) (f_X2_liking y x1 x2) :=
  ct_of_V (own := RX2) (lv0 := [(0, .ref (aSea ad y)), (1, .int x1), (2, .int x2)]) (by decide +kernel) rfl (Nat.le_of_ble_eq_true rfl) rfl (fun z σ => vf_X2_liking z y hy x1 x2 σ)
-- LighthouseLiedTo$Sea.beside
theorem dX2_beside_0 : decode cX2_beside 0 = .ok (.iload_n 1, 1) := by decide +kernel
theorem dX2_beside_1 : decode cX2_beside 1 = .ok (.tableswitch 76 0 2 #[27, 43, 58], 27) := by decide +kernel
theorem dX2_beside_28 : decode cX2_beside 28 = .ok (.iload_n 0, 1) := by decide +kernel
theorem dX2_beside_29 : decode cX2_beside 29 = .ok (.bipush 6, 2) := by decide +kernel
theorem dX2_beside_31 : decode cX2_beside 31 = .ok (.irem, 1) := by decide +kernel
theorem dX2_beside_32 : decode cX2_beside 32 = .ok (.iconst 5, 1) := by decide +kernel
theorem dX2_beside_33 : decode cX2_beside 33 = .ok (.if_icmp .ge 9, 3) := by decide +kernel
theorem dX2_beside_36 : decode cX2_beside 36 = .ok (.iload_n 0, 1) := by decide +kernel
theorem dX2_beside_37 : decode cX2_beside 37 = .ok (.iconst 1, 1) := by decide +kernel
theorem dX2_beside_38 : decode cX2_beside 38 = .ok (.iadd, 1) := by decide +kernel
theorem dX2_beside_39 : decode cX2_beside 39 = .ok (.goto 4, 3) := by decide +kernel
theorem dX2_beside_42 : decode cX2_beside 42 = .ok (.iconst (-1), 1) := by decide +kernel
theorem dX2_beside_43 : decode cX2_beside 43 = .ok (.ireturn, 1) := by decide +kernel
theorem dX2_beside_44 : decode cX2_beside 44 = .ok (.iload_n 0, 1) := by decide +kernel
theorem dX2_beside_45 : decode cX2_beside 45 = .ok (.bipush 6, 2) := by decide +kernel
theorem dX2_beside_47 : decode cX2_beside 47 = .ok (.irem, 1) := by decide +kernel
theorem dX2_beside_48 : decode cX2_beside 48 = .ok (.ifCond .le 9, 3) := by decide +kernel
theorem dX2_beside_51 : decode cX2_beside 51 = .ok (.iload_n 0, 1) := by decide +kernel
theorem dX2_beside_52 : decode cX2_beside 52 = .ok (.iconst 1, 1) := by decide +kernel
theorem dX2_beside_53 : decode cX2_beside 53 = .ok (.isub, 1) := by decide +kernel
theorem dX2_beside_54 : decode cX2_beside 54 = .ok (.goto 4, 3) := by decide +kernel
theorem dX2_beside_57 : decode cX2_beside 57 = .ok (.iconst (-1), 1) := by decide +kernel
theorem dX2_beside_58 : decode cX2_beside 58 = .ok (.ireturn, 1) := by decide +kernel
theorem dX2_beside_59 : decode cX2_beside 59 = .ok (.iload_n 0, 1) := by decide +kernel
theorem dX2_beside_60 : decode cX2_beside 60 = .ok (.bipush 6, 2) := by decide +kernel
theorem dX2_beside_62 : decode cX2_beside 62 = .ok (.iadd, 1) := by decide +kernel
theorem dX2_beside_63 : decode cX2_beside 63 = .ok (.bipush 36, 2) := by decide +kernel
theorem dX2_beside_65 : decode cX2_beside 65 = .ok (.if_icmp .ge 10, 3) := by decide +kernel
theorem dX2_beside_68 : decode cX2_beside 68 = .ok (.iload_n 0, 1) := by decide +kernel
theorem dX2_beside_69 : decode cX2_beside 69 = .ok (.bipush 6, 2) := by decide +kernel
theorem dX2_beside_71 : decode cX2_beside 71 = .ok (.iadd, 1) := by decide +kernel
theorem dX2_beside_72 : decode cX2_beside 72 = .ok (.goto 4, 3) := by decide +kernel
theorem dX2_beside_75 : decode cX2_beside 75 = .ok (.iconst (-1), 1) := by decide +kernel
theorem dX2_beside_76 : decode cX2_beside 76 = .ok (.ireturn, 1) := by decide +kernel
theorem dX2_beside_77 : decode cX2_beside 77 = .ok (.iload_n 0, 1) := by decide +kernel
theorem dX2_beside_78 : decode cX2_beside 78 = .ok (.bipush 6, 2) := by decide +kernel
theorem dX2_beside_80 : decode cX2_beside 80 = .ok (.if_icmp .lt 10, 3) := by decide +kernel
theorem dX2_beside_83 : decode cX2_beside 83 = .ok (.iload_n 0, 1) := by decide +kernel
theorem dX2_beside_84 : decode cX2_beside 84 = .ok (.bipush 6, 2) := by decide +kernel
theorem dX2_beside_86 : decode cX2_beside 86 = .ok (.isub, 1) := by decide +kernel
theorem dX2_beside_87 : decode cX2_beside 87 = .ok (.goto 4, 3) := by decide +kernel
theorem dX2_beside_90 : decode cX2_beside 90 = .ok (.iconst (-1), 1) := by decide +kernel
theorem dX2_beside_91 : decode cX2_beside 91 = .ok (.ireturn, 1) := by decide +kernel
def f_X2_beside (x0 : Int32) (x1 : Int32) (σ : GX) : Option (Int32 × GX) :=
  if x1 = (0 : Int32) then (if (5 : Int32) ≤ (rI x0 (6 : Int32)) then (some ((-1 : Int32), σ)) else (some ((x0 + (1 : Int32)), σ))) else (if x1 = (1 : Int32) then (if (rI x0 (6 : Int32)) ≤ 0 then (some ((-1 : Int32), σ)) else (some ((x0 - (1 : Int32)), σ))) else (if x1 = (2 : Int32) then (if (36 : Int32) ≤ (x0 + (6 : Int32)) then (some ((-1 : Int32), σ)) else (some ((x0 + (6 : Int32)), σ))) else (if x0 < (6 : Int32) then (some ((-1 : Int32), σ)) else (some ((x0 - (6 : Int32)), σ)))))
theorem vf_X2_beside {g : Gt} {ad : Nat → Nat} (z : Zt) (x0 : Int32) (x1 : Int32) (σ : GX) : V g (LX ad) 1 RX2 cX2_beside 2 (some .int) (wX g ad) iI z (f_X2_beside x0 x1 σ) σ 0 [(0, .int x0), (1, .int x1)] [] := by
  unfold f_X2_beside
  refine v_iload_n (pc := 0) (i := 1) dX2_beside_0 rfl rfl ?_
  refine v_case (c := x1 = (0 : Int32)) (fun hx => ?_) (fun hc1_0 => ?_)
  · refine v_tin (pc := 1) (tgt := 28) (off := 27) hx dX2_beside_1 (by decide) (by decide) rfl rfl ?_
    refine v_iload_n (pc := 28) (i := 0) dX2_beside_28 rfl rfl ?_
    refine v_bipush (pc := 29) dX2_beside_29 bp_6 ?_
    refine v_irem (pc := 31) dX2_beside_31 (by decide) ?_
    refine v_iconst (pc := 32) dX2_beside_32 ic_5 ?_
    refine v_icmp_ge (pc := 33) (tgt := 42) dX2_beside_33 rfl ?_ ?_
    · refine v_iconst (pc := 42) dX2_beside_42 ic_m1 ?_
      exact v_iret (pc := 43) dX2_beside_43
    · refine v_iload_n (pc := 36) (i := 0) dX2_beside_36 rfl rfl ?_
      refine v_iconst (pc := 37) dX2_beside_37 ic_1 ?_
      refine v_iadd (pc := 38) dX2_beside_38 ?_
      refine v_goto (pc := 39) (tgt := 43) dX2_beside_39 rfl ?_
      exact v_iret (pc := 43) dX2_beside_43
  refine v_case (c := x1 = (1 : Int32)) (fun hx => ?_) (fun hc1_1 => ?_)
  · refine v_tin (pc := 1) (tgt := 44) (off := 43) hx dX2_beside_1 (by decide) (by decide) rfl rfl ?_
    refine v_iload_n (pc := 44) (i := 0) dX2_beside_44 rfl rfl ?_
    refine v_bipush (pc := 45) dX2_beside_45 bp_6 ?_
    refine v_irem (pc := 47) dX2_beside_47 (by decide) ?_
    refine v_if_le (pc := 48) (tgt := 57) dX2_beside_48 rfl ?_ ?_
    · refine v_iconst (pc := 57) dX2_beside_57 ic_m1 ?_
      exact v_iret (pc := 58) dX2_beside_58
    · refine v_iload_n (pc := 51) (i := 0) dX2_beside_51 rfl rfl ?_
      refine v_iconst (pc := 52) dX2_beside_52 ic_1 ?_
      refine v_isub (pc := 53) dX2_beside_53 ?_
      refine v_goto (pc := 54) (tgt := 58) dX2_beside_54 rfl ?_
      exact v_iret (pc := 58) dX2_beside_58
  refine v_case (c := x1 = (2 : Int32)) (fun hx => ?_) (fun hc1_2 => ?_)
  · refine v_tin (pc := 1) (tgt := 59) (off := 58) hx dX2_beside_1 (by decide) (by decide) rfl rfl ?_
    refine v_iload_n (pc := 59) (i := 0) dX2_beside_59 rfl rfl ?_
    refine v_bipush (pc := 60) dX2_beside_60 bp_6 ?_
    refine v_iadd (pc := 62) dX2_beside_62 ?_
    refine v_bipush (pc := 63) dX2_beside_63 bp_36 ?_
    refine v_icmp_ge (pc := 65) (tgt := 75) dX2_beside_65 rfl ?_ ?_
    · refine v_iconst (pc := 75) dX2_beside_75 ic_m1 ?_
      exact v_iret (pc := 76) dX2_beside_76
    · refine v_iload_n (pc := 68) (i := 0) dX2_beside_68 rfl rfl ?_
      refine v_bipush (pc := 69) dX2_beside_69 bp_6 ?_
      refine v_iadd (pc := 71) dX2_beside_71 ?_
      refine v_goto (pc := 72) (tgt := 76) dX2_beside_72 rfl ?_
      exact v_iret (pc := 76) dX2_beside_76
  refine v_tout (pc := 1) (tgt := 77) dX2_beside_1 (by have e0 := tsw_ne (a := 0) hc1_0 rfl; have e1 := tsw_ne (a := 1) hc1_1 rfl; have e2 := tsw_ne (a := 2) hc1_2 rfl; omega) rfl ?_
  refine v_iload_n (pc := 77) (i := 0) dX2_beside_77 rfl rfl ?_
  refine v_bipush (pc := 78) dX2_beside_78 bp_6 ?_
  refine v_icmp_lt (pc := 80) (tgt := 90) dX2_beside_80 rfl ?_ ?_
  · refine v_iconst (pc := 90) dX2_beside_90 ic_m1 ?_
    exact v_iret (pc := 91) dX2_beside_91
  · refine v_iload_n (pc := 83) (i := 0) dX2_beside_83 rfl rfl ?_
    refine v_bipush (pc := 84) dX2_beside_84 bp_6 ?_
    refine v_isub (pc := 86) dX2_beside_86 ?_
    refine v_goto (pc := 87) (tgt := 91) dX2_beside_87 rfl ?_
    exact v_iret (pc := 91) dX2_beside_91
theorem ct_X2_beside {g : Gt} {ad : Nat → Nat} (x0 : Int32) (x1 : Int32) : CT g (LX ad) yX2_beside cX2_beside 2 (some .int) 1 [.int x0, .int x1] iI (wX g ad) (f_X2_beside x0 x1) :=
  ct_of_V (own := RX2) (lv0 := [(0, .int x0), (1, .int x1)]) (by decide +kernel) rfl (Nat.le_of_ble_eq_true rfl) rfl (fun z σ => vf_X2_beside z x0 x1 σ)
-- LighthouseLiedTo$Sea.goal
theorem dX2_goal_0 : decode cX2_goal 0 = .ok (.aload_n 0, 1) := by decide +kernel
theorem dX2_goal_1 : decode cX2_goal 1 = .ok (.getfield 21, 3) := by decide +kernel
theorem dX2_goal_4 : decode cX2_goal 4 = .ok (.iload_n 1, 1) := by decide +kernel
theorem dX2_goal_5 : decode cX2_goal 5 = .ok (.iaload, 1) := by decide +kernel
theorem dX2_goal_6 : decode cX2_goal 6 = .ok (.istore_n 2, 1) := by decide +kernel
theorem dX2_goal_7 : decode cX2_goal 7 = .ok (.aload_n 0, 1) := by decide +kernel
theorem dX2_goal_8 : decode cX2_goal 8 = .ok (.iload_n 1, 1) := by decide +kernel
theorem dX2_goal_9 : decode cX2_goal 9 = .ok (.iload_n 2, 1) := by decide +kernel
theorem dX2_goal_10 : decode cX2_goal 10 = .ok (.invokevirtual 83, 3) := by decide +kernel
theorem dX2_goal_13 : decode cX2_goal 13 = .ok (.istore_n 3, 1) := by decide +kernel
theorem dX2_goal_14 : decode cX2_goal 14 = .ok (.iconst 0, 1) := by decide +kernel
theorem dX2_goal_15 : decode cX2_goal 15 = .ok (.istore 4, 2) := by decide +kernel
theorem dX2_goal_17 : decode cX2_goal 17 = .ok (.iload 4, 2) := by decide +kernel
theorem dX2_goal_19 : decode cX2_goal 19 = .ok (.iconst 4, 1) := by decide +kernel
theorem dX2_goal_20 : decode cX2_goal 20 = .ok (.if_icmp .ge 49, 3) := by decide +kernel
theorem dX2_goal_23 : decode cX2_goal 23 = .ok (.aload_n 0, 1) := by decide +kernel
theorem dX2_goal_24 : decode cX2_goal 24 = .ok (.getfield 21, 3) := by decide +kernel
theorem dX2_goal_27 : decode cX2_goal 27 = .ok (.iload_n 1, 1) := by decide +kernel
theorem dX2_goal_28 : decode cX2_goal 28 = .ok (.iaload, 1) := by decide +kernel
theorem dX2_goal_29 : decode cX2_goal 29 = .ok (.iload 4, 2) := by decide +kernel
theorem dX2_goal_31 : decode cX2_goal 31 = .ok (.invokestatic 86, 3) := by decide +kernel
theorem dX2_goal_34 : decode cX2_goal 34 = .ok (.istore 5, 2) := by decide +kernel
theorem dX2_goal_36 : decode cX2_goal 36 = .ok (.iload 5, 2) := by decide +kernel
theorem dX2_goal_38 : decode cX2_goal 38 = .ok (.iconst (-1), 1) := by decide +kernel
theorem dX2_goal_39 : decode cX2_goal 39 = .ok (.if_icmp .eq 24, 3) := by decide +kernel
theorem dX2_goal_42 : decode cX2_goal 42 = .ok (.aload_n 0, 1) := by decide +kernel
theorem dX2_goal_43 : decode cX2_goal 43 = .ok (.iload_n 1, 1) := by decide +kernel
theorem dX2_goal_44 : decode cX2_goal 44 = .ok (.iload 5, 2) := by decide +kernel
theorem dX2_goal_46 : decode cX2_goal 46 = .ok (.invokevirtual 83, 3) := by decide +kernel
theorem dX2_goal_49 : decode cX2_goal 49 = .ok (.istore 6, 2) := by decide +kernel
theorem dX2_goal_51 : decode cX2_goal 51 = .ok (.iload 6, 2) := by decide +kernel
theorem dX2_goal_53 : decode cX2_goal 53 = .ok (.iload_n 3, 1) := by decide +kernel
theorem dX2_goal_54 : decode cX2_goal 54 = .ok (.if_icmp .le 9, 3) := by decide +kernel
theorem dX2_goal_57 : decode cX2_goal 57 = .ok (.iload 6, 2) := by decide +kernel
theorem dX2_goal_59 : decode cX2_goal 59 = .ok (.istore_n 3, 1) := by decide +kernel
theorem dX2_goal_60 : decode cX2_goal 60 = .ok (.iload 5, 2) := by decide +kernel
theorem dX2_goal_62 : decode cX2_goal 62 = .ok (.istore_n 2, 1) := by decide +kernel
theorem dX2_goal_63 : decode cX2_goal 63 = .ok (.iinc 4 1, 3) := by decide +kernel
theorem dX2_goal_66 : decode cX2_goal 66 = .ok (.goto (-49), 3) := by decide +kernel
theorem dX2_goal_69 : decode cX2_goal 69 = .ok (.iload_n 2, 1) := by decide +kernel
theorem dX2_goal_70 : decode cX2_goal 70 = .ok (.ireturn, 1) := by decide +kernel
def b_X2_goal_17 (y : Nat) (kc17 : Int32 → Int32 → Int32 → Int32 → GX → Option (Int32 × GX)) (x1 : Int32) (x2 : Int32) (x3 : Int32) (x4 : Int32) (σ : GX) : Option (Int32 × GX) :=
  if (4 : Int32) ≤ x4 then (some (x2, σ)) else (grd x1 6 (bnd (f_X2_beside (xB σ y 3 x1.toNatClampNeg) x4 σ) fun q3 => if q3.1 = (-1 : Int32) then (kc17 x1 x2 x3 (x4 + (1 : Int32)) q3.2) else (bnd (f_X2_liking y x1 q3.1 q3.2) fun q4 => if q4.1 ≤ x3 then (kc17 x1 x2 x3 (x4 + (1 : Int32)) q4.2) else (kc17 x1 q3.1 q4.1 (x4 + (1 : Int32)) q4.2))))
theorem vb_X2_goal_17 {g : Gt} {ad : Nat → Nat} (z : Zt) (y : Nat) (hy : y < 3) (kc17 : Int32 → Int32 → Int32 → Int32 → GX → Option (Int32 × GX)) (hkc17 : ∀ (x1 : Int32) (x2 : Int32) (x3 : Int32) (x4 : Int32) (σ : GX), V g (LX ad) 5 RX2 cX2_goal 7 (some .int) (wX g ad) iI z (kc17 x1 x2 x3 x4 σ) σ 17 [(0, .ref (aSea ad y)), (1, .int x1), (2, .int x2), (3, .int x3), (4, .int x4)] []) (x1 : Int32) (x2 : Int32) (x3 : Int32) (x4 : Int32) (σ : GX) : V g (LX ad) 5 RX2 cX2_goal 7 (some .int) (wX g ad) iI z (b_X2_goal_17 y kc17 x1 x2 x3 x4 σ) σ 17 [(0, .ref (aSea ad y)), (1, .int x1), (2, .int x2), (3, .int x3), (4, .int x4)] [] := by
  unfold b_X2_goal_17
  refine v_iload (pc := 17) (i := 4) dX2_goal_17 rfl ?_
  refine v_iconst (pc := 19) dX2_goal_19 ic_4 ?_
  refine v_icmp_ge (pc := 20) (tgt := 69) dX2_goal_20 rfl ?_ ?_
  · refine v_iload_n (pc := 69) (i := 2) dX2_goal_69 rfl rfl ?_
    exact v_iret (pc := 70) dX2_goal_70
  · refine v_aload_n (pc := 23) (i := 0) dX2_goal_23 rfl rfl ?_
    refine gX2_cell (pc := 24) (y := y) hy q_155 dX2_goal_24 ?_
    refine v_iload_n (pc := 27) (i := 1) dX2_goal_27 rfl rfl ?_
    refine lX_sea3 (pc := 28) (y := y) hy dX2_goal_28 ?_
    refine v_iload (pc := 29) (i := 4) dX2_goal_29 rfl ?_
    refine v_callSi (pc := 31) (av := [.int (xB σ y 3 x1.toNatClampNeg), .int x4]) (rest := []) (ct_X2_beside (xB σ y 3 x1.toNatClampNeg) x4) mi_X2_beside q_480 (by decide) rfl rfl (Nat.le_of_ble_eq_true rfl) dX2_goal_31 (fun q3 => ?_)
    refine v_istore (pc := 34) (lv' := [(5, .int q3.1), (0, .ref (aSea ad y)), (1, .int x1), (2, .int x2), (3, .int x3), (4, .int x4)]) (i := 5) dX2_goal_34 (by decide) rfl ?_
    refine v_iload (pc := 36) (i := 5) dX2_goal_36 rfl ?_
    refine v_iconst (pc := 38) dX2_goal_38 ic_m1 ?_
    refine v_icmp_eq (pc := 39) (tgt := 63) dX2_goal_39 rfl ?_ ?_
    · refine v_iinc (pc := 63) (lv' := [(4, .int (x4 + (1 : Int32))), (5, .int q3.1), (0, .ref (aSea ad y)), (1, .int x1), (2, .int x2), (3, .int x3)]) (i := 4) dX2_goal_63 rfl ic_1 (by decide) rfl ?_
      refine v_goto (pc := 66) (tgt := 17) dX2_goal_66 rfl ?_
      exact v_sub [2, 3, 4, 5, 0] rfl (hkc17 x1 x2 x3 (x4 + (1 : Int32)) q3.2)
    · refine v_aload_n (pc := 42) (i := 0) dX2_goal_42 rfl rfl ?_
      refine v_iload_n (pc := 43) (i := 1) dX2_goal_43 rfl rfl ?_
      refine v_iload (pc := 44) (i := 5) dX2_goal_44 rfl ?_
      refine v_callVi (pc := 46) (rcX2 hy) (As := [.int x1, .int q3.1]) (rest := []) (ct_X2_liking hy x1 q3.1) mi_X2_liking q_475 (by decide) rfl rfl (Nat.le_of_ble_eq_true rfl) dX2_goal_46 (fun q4 => ?_)
      refine v_istore (pc := 49) (lv' := [(6, .int q4.1), (5, .int q3.1), (0, .ref (aSea ad y)), (1, .int x1), (2, .int x2), (3, .int x3), (4, .int x4)]) (i := 6) dX2_goal_49 (by decide) rfl ?_
      refine v_iload (pc := 51) (i := 6) dX2_goal_51 rfl ?_
      refine v_iload_n (pc := 53) (i := 3) dX2_goal_53 rfl rfl ?_
      refine v_icmp_le (pc := 54) (tgt := 63) dX2_goal_54 rfl ?_ ?_
      · refine v_iinc (pc := 63) (lv' := [(4, .int (x4 + (1 : Int32))), (6, .int q4.1), (5, .int q3.1), (0, .ref (aSea ad y)), (1, .int x1), (2, .int x2), (3, .int x3)]) (i := 4) dX2_goal_63 rfl ic_1 (by decide) rfl ?_
        refine v_goto (pc := 66) (tgt := 17) dX2_goal_66 rfl ?_
        exact v_sub [3, 4, 5, 6, 0] rfl (hkc17 x1 x2 x3 (x4 + (1 : Int32)) q4.2)
      · refine v_iload (pc := 57) (i := 6) dX2_goal_57 rfl ?_
        refine v_istore_n (pc := 59) (lv' := [(3, .int q4.1), (6, .int q4.1), (5, .int q3.1), (0, .ref (aSea ad y)), (1, .int x1), (2, .int x2), (4, .int x4)]) (i := 3) dX2_goal_59 rfl (by decide) rfl ?_
        refine v_iload (pc := 60) (i := 5) dX2_goal_60 rfl ?_
        refine v_istore_n (pc := 62) (lv' := [(2, .int q3.1), (3, .int q4.1), (6, .int q4.1), (5, .int q3.1), (0, .ref (aSea ad y)), (1, .int x1), (4, .int x4)]) (i := 2) dX2_goal_62 rfl (by decide) rfl ?_
        refine v_iinc (pc := 63) (lv' := [(4, .int (x4 + (1 : Int32))), (2, .int q3.1), (3, .int q4.1), (6, .int q4.1), (5, .int q3.1), (0, .ref (aSea ad y)), (1, .int x1)]) (i := 4) dX2_goal_63 rfl ic_1 (by decide) rfl ?_
        refine v_goto (pc := 66) (tgt := 17) dX2_goal_66 rfl ?_
        exact v_sub [5, 6, 1, 2, 0] rfl (hkc17 x1 q3.1 q4.1 (x4 + (1 : Int32)) q4.2)
def k_X2_goal_17 (y : Nat) : Nat → Int32 → Int32 → Int32 → Int32 → GX → Option (Int32 × GX)
  | 0 => fun _ _ _ _ _ => none
  | n + 1 => b_X2_goal_17 y (k_X2_goal_17 y n)
theorem vk_X2_goal_17 {g : Gt} {ad : Nat → Nat} (z : Zt) (y : Nat) (hy : y < 3) : ∀ (n : Nat) (x1 : Int32) (x2 : Int32) (x3 : Int32) (x4 : Int32) (σ : GX), V g (LX ad) 5 RX2 cX2_goal 7 (some .int) (wX g ad) iI z (k_X2_goal_17 y n x1 x2 x3 x4 σ) σ 17 [(0, .ref (aSea ad y)), (1, .int x1), (2, .int x2), (3, .int x3), (4, .int x4)] [] := by
  intro n
  induction n with
  | zero => intros; exact v_eq rfl v_none
  | succ n ih =>
    intro x1 x2 x3 x4 σ
    exact v_eq rfl (vb_X2_goal_17 z y hy _ ih x1 x2 x3 x4 σ)
def f_X2_goal (y : Nat) (x1 : Int32) (σ : GX) : Option (Int32 × GX) :=
  grd x1 6 (bnd (some (xB σ y 3 x1.toNatClampNeg)) fun w1 => bnd (f_X2_liking y x1 w1 σ) fun q2 => k_X2_goal_17 y FU x1 w1 q2.1 (0 : Int32) q2.2)
theorem vf_X2_goal {g : Gt} {ad : Nat → Nat} (z : Zt) (y : Nat) (hy : y < 3) (x1 : Int32) (σ : GX) : V g (LX ad) 5 RX2 cX2_goal 7 (some .int) (wX g ad) iI z (f_X2_goal y x1 σ) σ 0 [(0, .ref (aSea ad y)), (1, .int x1)] [] := by
  unfold f_X2_goal
  refine v_aload_n (pc := 0) (i := 0) dX2_goal_0 rfl rfl ?_
  refine gX2_cell (pc := 1) (y := y) hy q_155 dX2_goal_1 ?_
  refine v_iload_n (pc := 4) (i := 1) dX2_goal_4 rfl rfl ?_
  refine lX_sea3 (pc := 5) (y := y) hy dX2_goal_5 ?_
  refine v_nmi (fun w1 => ?_)
  refine v_istore_n (pc := 6) (lv' := [(2, .int w1), (0, .ref (aSea ad y)), (1, .int x1)]) (i := 2) dX2_goal_6 rfl (by decide) rfl ?_
  refine v_aload_n (pc := 7) (i := 0) dX2_goal_7 rfl rfl ?_
  refine v_iload_n (pc := 8) (i := 1) dX2_goal_8 rfl rfl ?_
  refine v_iload_n (pc := 9) (i := 2) dX2_goal_9 rfl rfl ?_
  refine v_callVi (pc := 10) (rcX2 hy) (As := [.int x1, .int w1]) (rest := []) (ct_X2_liking hy x1 w1) mi_X2_liking q_475 (by decide) rfl rfl (Nat.le_of_ble_eq_true rfl) dX2_goal_10 (fun q2 => ?_)
  refine v_istore_n (pc := 13) (lv' := [(3, .int q2.1), (2, .int w1), (0, .ref (aSea ad y)), (1, .int x1)]) (i := 3) dX2_goal_13 rfl (by decide) rfl ?_
  refine v_iconst (pc := 14) dX2_goal_14 ic_0 ?_
  refine v_istore (pc := 15) (lv' := [(4, .int (0 : Int32)), (3, .int q2.1), (2, .int w1), (0, .ref (aSea ad y)), (1, .int x1)]) (i := 4) dX2_goal_15 (by decide) rfl ?_
  exact v_sub [3, 4, 2, 1, 0] rfl (vk_X2_goal_17 z y hy FU x1 w1 q2.1 (0 : Int32) q2.2)
theorem ct_X2_goal {g : Gt} {ad : Nat → Nat} {y : Nat} (hy : y < 3) (x1 : Int32) : CT g (LX ad) yX2_goal cX2_goal 7 (some .int) 5 [.ref (aSea ad y), .int x1] iI (wX g ad) (f_X2_goal y x1) :=
  ct_of_V (own := RX2) (lv0 := [(0, .ref (aSea ad y)), (1, .int x1)]) (by decide +kernel) rfl (Nat.le_of_ble_eq_true rfl) rfl (fun z σ => vf_X2_goal z y hy x1 σ)
-- LighthouseLiedTo$Sea.sinking
theorem dX2_sinking_0 : decode cX2_sinking 0 = .ok (.aload_n 0, 1) := by decide +kernel
theorem dX2_sinking_1 : decode cX2_sinking 1 = .ok (.getfield 15, 3) := by decide +kernel
theorem dX2_sinking_4 : decode cX2_sinking 4 = .ok (.iload_n 1, 1) := by decide +kernel
theorem dX2_sinking_5 : decode cX2_sinking 5 = .ok (.iaload, 1) := by decide +kernel
theorem dX2_sinking_6 : decode cX2_sinking 6 = .ok (.tableswitch 83 2 5 #[30, 83, 51, 81], 30) := by decide +kernel
theorem dX2_sinking_36 : decode cX2_sinking 36 = .ok (.aload_n 0, 1) := by decide +kernel
theorem dX2_sinking_37 : decode cX2_sinking 37 = .ok (.getfield 24, 3) := by decide +kernel
theorem dX2_sinking_40 : decode cX2_sinking 40 = .ok (.iload_n 1, 1) := by decide +kernel
theorem dX2_sinking_41 : decode cX2_sinking 41 = .ok (.iaload, 1) := by decide +kernel
theorem dX2_sinking_42 : decode cX2_sinking 42 = .ok (.aload_n 0, 1) := by decide +kernel
theorem dX2_sinking_43 : decode cX2_sinking 43 = .ok (.getfield 18, 3) := by decide +kernel
theorem dX2_sinking_46 : decode cX2_sinking 46 = .ok (.iload_n 1, 1) := by decide +kernel
theorem dX2_sinking_47 : decode cX2_sinking 47 = .ok (.iaload, 1) := by decide +kernel
theorem dX2_sinking_48 : decode cX2_sinking 48 = .ok (.if_icmp .le 7, 3) := by decide +kernel
theorem dX2_sinking_51 : decode cX2_sinking 51 = .ok (.iconst 1, 1) := by decide +kernel
theorem dX2_sinking_52 : decode cX2_sinking 52 = .ok (.goto 4, 3) := by decide +kernel
theorem dX2_sinking_55 : decode cX2_sinking 55 = .ok (.iconst 0, 1) := by decide +kernel
theorem dX2_sinking_56 : decode cX2_sinking 56 = .ok (.ireturn, 1) := by decide +kernel
theorem dX2_sinking_57 : decode cX2_sinking 57 = .ok (.aload_n 0, 1) := by decide +kernel
theorem dX2_sinking_58 : decode cX2_sinking 58 = .ok (.getfield 51, 3) := by decide +kernel
theorem dX2_sinking_61 : decode cX2_sinking 61 = .ok (.iconst 5, 1) := by decide +kernel
theorem dX2_sinking_62 : decode cX2_sinking 62 = .ok (.irem, 1) := by decide +kernel
theorem dX2_sinking_63 : decode cX2_sinking 63 = .ok (.ifCond .ne 22, 3) := by decide +kernel
theorem dX2_sinking_66 : decode cX2_sinking 66 = .ok (.aload_n 0, 1) := by decide +kernel
theorem dX2_sinking_67 : decode cX2_sinking 67 = .ok (.getfield 24, 3) := by decide +kernel
theorem dX2_sinking_70 : decode cX2_sinking 70 = .ok (.iload_n 1, 1) := by decide +kernel
theorem dX2_sinking_71 : decode cX2_sinking 71 = .ok (.iaload, 1) := by decide +kernel
theorem dX2_sinking_72 : decode cX2_sinking 72 = .ok (.aload_n 0, 1) := by decide +kernel
theorem dX2_sinking_73 : decode cX2_sinking 73 = .ok (.getfield 18, 3) := by decide +kernel
theorem dX2_sinking_76 : decode cX2_sinking 76 = .ok (.iload_n 1, 1) := by decide +kernel
theorem dX2_sinking_77 : decode cX2_sinking 77 = .ok (.iaload, 1) := by decide +kernel
theorem dX2_sinking_78 : decode cX2_sinking 78 = .ok (.if_icmp .le 7, 3) := by decide +kernel
theorem dX2_sinking_81 : decode cX2_sinking 81 = .ok (.iconst 1, 1) := by decide +kernel
theorem dX2_sinking_82 : decode cX2_sinking 82 = .ok (.goto 4, 3) := by decide +kernel
theorem dX2_sinking_85 : decode cX2_sinking 85 = .ok (.iconst 0, 1) := by decide +kernel
theorem dX2_sinking_86 : decode cX2_sinking 86 = .ok (.ireturn, 1) := by decide +kernel
theorem dX2_sinking_87 : decode cX2_sinking 87 = .ok (.iconst 0, 1) := by decide +kernel
theorem dX2_sinking_88 : decode cX2_sinking 88 = .ok (.ireturn, 1) := by decide +kernel
theorem dX2_sinking_89 : decode cX2_sinking 89 = .ok (.iconst 1, 1) := by decide +kernel
theorem dX2_sinking_90 : decode cX2_sinking 90 = .ok (.ireturn, 1) := by decide +kernel
def f_X2_sinking (y : Nat) (x1 : Int32) (σ : GX) : Option (Int32 × GX) :=
  grd x1 6 (bnd (some (xB σ y 1 x1.toNatClampNeg)) fun w1 => if w1 = (2 : Int32) then (grd x1 6 (grd x1 6 (if (xB σ y 4 x1.toNatClampNeg) ≤ (xB σ y 2 x1.toNatClampNeg) then (some ((0 : Int32), σ)) else (some ((1 : Int32), σ))))) else (if w1 = (3 : Int32) then (some ((1 : Int32), σ)) else (if w1 = (4 : Int32) then (if (rI (xS σ y 3) (5 : Int32)) ≠ 0 then (some ((0 : Int32), σ)) else (grd x1 6 (grd x1 6 (if (xB σ y 4 x1.toNatClampNeg) ≤ (xB σ y 2 x1.toNatClampNeg) then (some ((0 : Int32), σ)) else (some ((1 : Int32), σ)))))) else (if w1 = (5 : Int32) then (some ((0 : Int32), σ)) else (some ((1 : Int32), σ))))))
theorem vf_X2_sinking {g : Gt} {ad : Nat → Nat} (z : Zt) (y : Nat) (hy : y < 3) (x1 : Int32) (σ : GX) : V g (LX ad) 1 RX2 cX2_sinking 2 (some .boolean) (wX g ad) iI z (f_X2_sinking y x1 σ) σ 0 [(0, .ref (aSea ad y)), (1, .int x1)] [] := by
  unfold f_X2_sinking
  refine v_aload_n (pc := 0) (i := 0) dX2_sinking_0 rfl rfl ?_
  refine gX2_kind (pc := 1) (y := y) hy q_151 dX2_sinking_1 ?_
  refine v_iload_n (pc := 4) (i := 1) dX2_sinking_4 rfl rfl ?_
  refine lX_sea1 (pc := 5) (y := y) hy dX2_sinking_5 ?_
  refine v_nmi (fun w1 => ?_)
  refine v_case (c := w1 = (2 : Int32)) (fun hx => ?_) (fun hc6_0 => ?_)
  · refine v_tin (pc := 6) (tgt := 36) (off := 30) hx dX2_sinking_6 (by decide) (by decide) rfl rfl ?_
    refine v_aload_n (pc := 36) (i := 0) dX2_sinking_36 rfl rfl ?_
    refine gX2_draught (pc := 37) (y := y) hy q_157 dX2_sinking_37 ?_
    refine v_iload_n (pc := 40) (i := 1) dX2_sinking_40 rfl rfl ?_
    refine lX_sea4 (pc := 41) (y := y) hy dX2_sinking_41 ?_
    refine v_aload_n (pc := 42) (i := 0) dX2_sinking_42 rfl rfl ?_
    refine gX2_more (pc := 43) (y := y) hy q_153 dX2_sinking_43 ?_
    refine v_iload_n (pc := 46) (i := 1) dX2_sinking_46 rfl rfl ?_
    refine lX_sea2 (pc := 47) (y := y) hy dX2_sinking_47 ?_
    refine v_icmp_le (pc := 48) (tgt := 55) dX2_sinking_48 rfl ?_ ?_
    · refine v_iconst (pc := 55) dX2_sinking_55 ic_0 ?_
      exact v_nret (pc := 56) rfl dX2_sinking_56
    · refine v_iconst (pc := 51) dX2_sinking_51 ic_1 ?_
      refine v_goto (pc := 52) (tgt := 56) dX2_sinking_52 rfl ?_
      exact v_nret (pc := 56) rfl dX2_sinking_56
  refine v_case (c := w1 = (3 : Int32)) (fun hx => ?_) (fun hc6_1 => ?_)
  · refine v_tin (pc := 6) (tgt := 89) (off := 83) hx dX2_sinking_6 (by decide) (by decide) rfl rfl ?_
    refine v_iconst (pc := 89) dX2_sinking_89 ic_1 ?_
    exact v_nret (pc := 90) rfl dX2_sinking_90
  refine v_case (c := w1 = (4 : Int32)) (fun hx => ?_) (fun hc6_2 => ?_)
  · refine v_tin (pc := 6) (tgt := 57) (off := 51) hx dX2_sinking_6 (by decide) (by decide) rfl rfl ?_
    refine v_aload_n (pc := 57) (i := 0) dX2_sinking_57 rfl rfl ?_
    refine gX2_night (pc := 58) (y := y) hy q_169 dX2_sinking_58 ?_
    refine v_iconst (pc := 61) dX2_sinking_61 ic_5 ?_
    refine v_irem (pc := 62) dX2_sinking_62 (by decide) ?_
    refine v_if_ne (pc := 63) (tgt := 85) dX2_sinking_63 rfl ?_ ?_
    · refine v_iconst (pc := 85) dX2_sinking_85 ic_0 ?_
      exact v_nret (pc := 86) rfl dX2_sinking_86
    · refine v_aload_n (pc := 66) (i := 0) dX2_sinking_66 rfl rfl ?_
      refine gX2_draught (pc := 67) (y := y) hy q_157 dX2_sinking_67 ?_
      refine v_iload_n (pc := 70) (i := 1) dX2_sinking_70 rfl rfl ?_
      refine lX_sea4 (pc := 71) (y := y) hy dX2_sinking_71 ?_
      refine v_aload_n (pc := 72) (i := 0) dX2_sinking_72 rfl rfl ?_
      refine gX2_more (pc := 73) (y := y) hy q_153 dX2_sinking_73 ?_
      refine v_iload_n (pc := 76) (i := 1) dX2_sinking_76 rfl rfl ?_
      refine lX_sea2 (pc := 77) (y := y) hy dX2_sinking_77 ?_
      refine v_icmp_le (pc := 78) (tgt := 85) dX2_sinking_78 rfl ?_ ?_
      · refine v_iconst (pc := 85) dX2_sinking_85 ic_0 ?_
        exact v_nret (pc := 86) rfl dX2_sinking_86
      · refine v_iconst (pc := 81) dX2_sinking_81 ic_1 ?_
        refine v_goto (pc := 82) (tgt := 86) dX2_sinking_82 rfl ?_
        exact v_nret (pc := 86) rfl dX2_sinking_86
  refine v_case (c := w1 = (5 : Int32)) (fun hx => ?_) (fun hc6_3 => ?_)
  · refine v_tin (pc := 6) (tgt := 87) (off := 81) hx dX2_sinking_6 (by decide) (by decide) rfl rfl ?_
    refine v_iconst (pc := 87) dX2_sinking_87 ic_0 ?_
    exact v_nret (pc := 88) rfl dX2_sinking_88
  refine v_tout (pc := 6) (tgt := 89) dX2_sinking_6 (by have e0 := tsw_ne (a := 2) hc6_0 rfl; have e1 := tsw_ne (a := 3) hc6_1 rfl; have e2 := tsw_ne (a := 4) hc6_2 rfl; have e3 := tsw_ne (a := 5) hc6_3 rfl; omega) rfl ?_
  refine v_iconst (pc := 89) dX2_sinking_89 ic_1 ?_
  exact v_nret (pc := 90) rfl dX2_sinking_90
theorem ct_X2_sinking {g : Gt} {ad : Nat → Nat} {y : Nat} (hy : y < 3) (x1 : Int32) : CT g (LX ad) yX2_sinking cX2_sinking 2 (some .boolean) 1 [.ref (aSea ad y), .int x1] iI (wX g ad) (f_X2_sinking y x1) :=
  ct_of_V (own := RX2) (lv0 := [(0, .ref (aSea ad y)), (1, .int x1)]) (by decide +kernel) rfl (Nat.le_of_ble_eq_true rfl) rfl (fun z σ => vf_X2_sinking z y hy x1 σ)
-- LighthouseLiedTo$Sea.teaching
theorem dX2_teaching_0 : decode cX2_teaching 0 = .ok (.aload_n 0, 1) := by decide +kernel
theorem dX2_teaching_1 : decode cX2_teaching 1 = .ok (.getfield 15, 3) := by decide +kernel
theorem dX2_teaching_4 : decode cX2_teaching 4 = .ok (.iload_n 1, 1) := by decide +kernel
theorem dX2_teaching_5 : decode cX2_teaching 5 = .ok (.iaload, 1) := by decide +kernel
theorem dX2_teaching_6 : decode cX2_teaching 6 = .ok (.iconst 1, 1) := by decide +kernel
theorem dX2_teaching_7 : decode cX2_teaching 7 = .ok (.if_icmp .ne 8, 3) := by decide +kernel
theorem dX2_teaching_10 : decode cX2_teaching 10 = .ok (.bipush 49, 2) := by decide +kernel
theorem dX2_teaching_12 : decode cX2_teaching 12 = .ok (.goto 19, 3) := by decide +kernel
theorem dX2_teaching_15 : decode cX2_teaching 15 = .ok (.aload_n 0, 1) := by decide +kernel
theorem dX2_teaching_16 : decode cX2_teaching 16 = .ok (.getfield 15, 3) := by decide +kernel
theorem dX2_teaching_19 : decode cX2_teaching 19 = .ok (.iload_n 1, 1) := by decide +kernel
theorem dX2_teaching_20 : decode cX2_teaching 20 = .ok (.iaload, 1) := by decide +kernel
theorem dX2_teaching_21 : decode cX2_teaching 21 = .ok (.iconst 3, 1) := by decide +kernel
theorem dX2_teaching_22 : decode cX2_teaching 22 = .ok (.if_icmp .ne 7, 3) := by decide +kernel
theorem dX2_teaching_25 : decode cX2_teaching 25 = .ok (.iconst 0, 1) := by decide +kernel
theorem dX2_teaching_26 : decode cX2_teaching 26 = .ok (.goto 5, 3) := by decide +kernel
theorem dX2_teaching_29 : decode cX2_teaching 29 = .ok (.bipush 99, 2) := by decide +kernel
theorem dX2_teaching_31 : decode cX2_teaching 31 = .ok (.ireturn, 1) := by decide +kernel
def f_X2_teaching (y : Nat) (x1 : Int32) (σ : GX) : Option (Int32 × GX) :=
  grd x1 6 (if (xB σ y 1 x1.toNatClampNeg) ≠ (1 : Int32) then (grd x1 6 (if (xB σ y 1 x1.toNatClampNeg) ≠ (3 : Int32) then (some ((99 : Int32), σ)) else (some ((0 : Int32), σ)))) else (some ((49 : Int32), σ)))
theorem vf_X2_teaching {g : Gt} {ad : Nat → Nat} (z : Zt) (y : Nat) (hy : y < 3) (x1 : Int32) (σ : GX) : V g (LX ad) 1 RX2 cX2_teaching 2 (some .int) (wX g ad) iI z (f_X2_teaching y x1 σ) σ 0 [(0, .ref (aSea ad y)), (1, .int x1)] [] := by
  unfold f_X2_teaching
  refine v_aload_n (pc := 0) (i := 0) dX2_teaching_0 rfl rfl ?_
  refine gX2_kind (pc := 1) (y := y) hy q_151 dX2_teaching_1 ?_
  refine v_iload_n (pc := 4) (i := 1) dX2_teaching_4 rfl rfl ?_
  refine lX_sea1 (pc := 5) (y := y) hy dX2_teaching_5 ?_
  refine v_iconst (pc := 6) dX2_teaching_6 ic_1 ?_
  refine v_icmp_ne (pc := 7) (tgt := 15) dX2_teaching_7 rfl ?_ ?_
  · refine v_aload_n (pc := 15) (i := 0) dX2_teaching_15 rfl rfl ?_
    refine gX2_kind (pc := 16) (y := y) hy q_151 dX2_teaching_16 ?_
    refine v_iload_n (pc := 19) (i := 1) dX2_teaching_19 rfl rfl ?_
    refine lX_sea1 (pc := 20) (y := y) hy dX2_teaching_20 ?_
    refine v_iconst (pc := 21) dX2_teaching_21 ic_3 ?_
    refine v_icmp_ne (pc := 22) (tgt := 29) dX2_teaching_22 rfl ?_ ?_
    · refine v_bipush (pc := 29) dX2_teaching_29 bp_99 ?_
      exact v_iret (pc := 31) dX2_teaching_31
    · refine v_iconst (pc := 25) dX2_teaching_25 ic_0 ?_
      refine v_goto (pc := 26) (tgt := 31) dX2_teaching_26 rfl ?_
      exact v_iret (pc := 31) dX2_teaching_31
  · refine v_bipush (pc := 10) dX2_teaching_10 bp_49 ?_
    refine v_goto (pc := 12) (tgt := 31) dX2_teaching_12 rfl ?_
    exact v_iret (pc := 31) dX2_teaching_31
theorem ct_X2_teaching {g : Gt} {ad : Nat → Nat} {y : Nat} (hy : y < 3) (x1 : Int32) : CT g (LX ad) yX2_teaching cX2_teaching 2 (some .int) 1 [.ref (aSea ad y), .int x1] iI (wX g ad) (f_X2_teaching y x1) :=
  ct_of_V (own := RX2) (lv0 := [(0, .ref (aSea ad y)), (1, .int x1)]) (by decide +kernel) rfl (Nat.le_of_ble_eq_true rfl) rfl (fun z σ => vf_X2_teaching z y hy x1 σ)
-- LighthouseLiedTo$Sea.lose
theorem dX2_lose_0 : decode cX2_lose 0 = .ok (.aload_n 0, 1) := by decide +kernel
theorem dX2_lose_1 : decode cX2_lose 1 = .ok (.getfield 21, 3) := by decide +kernel
theorem dX2_lose_4 : decode cX2_lose 4 = .ok (.iload_n 1, 1) := by decide +kernel
theorem dX2_lose_5 : decode cX2_lose 5 = .ok (.iaload, 1) := by decide +kernel
theorem dX2_lose_6 : decode cX2_lose 6 = .ok (.istore_n 2, 1) := by decide +kernel
theorem dX2_lose_7 : decode cX2_lose 7 = .ok (.aload_n 0, 1) := by decide +kernel
theorem dX2_lose_8 : decode cX2_lose 8 = .ok (.dup, 1) := by decide +kernel
theorem dX2_lose_9 : decode cX2_lose 9 = .ok (.getfield 41, 3) := by decide +kernel
theorem dX2_lose_12 : decode cX2_lose 12 = .ok (.iconst 1, 1) := by decide +kernel
theorem dX2_lose_13 : decode cX2_lose 13 = .ok (.iload_n 1, 1) := by decide +kernel
theorem dX2_lose_14 : decode cX2_lose 14 = .ok (.ishl, 1) := by decide +kernel
theorem dX2_lose_15 : decode cX2_lose 15 = .ok (.ior, 1) := by decide +kernel
theorem dX2_lose_16 : decode cX2_lose 16 = .ok (.putfield 41, 3) := by decide +kernel
theorem dX2_lose_19 : decode cX2_lose 19 = .ok (.aload_n 0, 1) := by decide +kernel
theorem dX2_lose_20 : decode cX2_lose 20 = .ok (.getfield 9, 3) := by decide +kernel
theorem dX2_lose_23 : decode cX2_lose 23 = .ok (.iload_n 2, 1) := by decide +kernel
theorem dX2_lose_24 : decode cX2_lose 24 = .ok (.iaload, 1) := by decide +kernel
theorem dX2_lose_25 : decode cX2_lose 25 = .ok (.bipush 50, 2) := by decide +kernel
theorem dX2_lose_27 : decode cX2_lose 27 = .ok (.if_icmp .ge 18, 3) := by decide +kernel
theorem dX2_lose_30 : decode cX2_lose 30 = .ok (.aload_n 0, 1) := by decide +kernel
theorem dX2_lose_31 : decode cX2_lose 31 = .ok (.bipush 99, 2) := by decide +kernel
theorem dX2_lose_33 : decode cX2_lose 33 = .ok (.aload_n 0, 1) := by decide +kernel
theorem dX2_lose_34 : decode cX2_lose 34 = .ok (.getfield 48, 3) := by decide +kernel
theorem dX2_lose_37 : decode cX2_lose 37 = .ok (.iconst 1, 1) := by decide +kernel
theorem dX2_lose_38 : decode cX2_lose 38 = .ok (.iadd, 1) := by decide +kernel
theorem dX2_lose_39 : decode cX2_lose 39 = .ok (.invokestatic 68, 3) := by decide +kernel
theorem dX2_lose_42 : decode cX2_lose 42 = .ok (.putfield 48, 3) := by decide +kernel
theorem dX2_lose_45 : decode cX2_lose 45 = .ok (.aload_n 0, 1) := by decide +kernel
theorem dX2_lose_46 : decode cX2_lose 46 = .ok (.getfield 9, 3) := by decide +kernel
theorem dX2_lose_49 : decode cX2_lose 49 = .ok (.iload_n 2, 1) := by decide +kernel
theorem dX2_lose_50 : decode cX2_lose 50 = .ok (.aload_n 0, 1) := by decide +kernel
theorem dX2_lose_51 : decode cX2_lose 51 = .ok (.getfield 9, 3) := by decide +kernel
theorem dX2_lose_54 : decode cX2_lose 54 = .ok (.iload_n 2, 1) := by decide +kernel
theorem dX2_lose_55 : decode cX2_lose 55 = .ok (.iaload, 1) := by decide +kernel
theorem dX2_lose_56 : decode cX2_lose 56 = .ok (.aload_n 0, 1) := by decide +kernel
theorem dX2_lose_57 : decode cX2_lose 57 = .ok (.iload_n 1, 1) := by decide +kernel
theorem dX2_lose_58 : decode cX2_lose 58 = .ok (.invokevirtual 103, 3) := by decide +kernel
theorem dX2_lose_61 : decode cX2_lose 61 = .ok (.invokestatic 74, 3) := by decide +kernel
theorem dX2_lose_64 : decode cX2_lose 64 = .ok (.iastore, 1) := by decide +kernel
theorem dX2_lose_65 : decode cX2_lose 65 = .ok (.return_, 1) := by decide +kernel
def b_X2_lose_45 (y : Nat) (x1 : Int32) (x2 : Int32) (σ : GX) : Option (Unit × GX) :=
  grd x2 36 (bnd (f_X2_teaching y x1 σ) fun q3 => grd x2 36 (bnd (some (sB q3.2 y 0 x2.toNatClampNeg (mxI (xB σ y 0 x2.toNatClampNeg) q3.1))) fun σ4 => some ((), σ4)))
theorem vb_X2_lose_45 {g : Gt} {ad : Nat → Nat} (z : Zt) (y : Nat) (hy : y < 3) (x1 : Int32) (x2 : Int32) (σ : GX) : V g (LX ad) 2 RX2 cX2_lose 3 none (wX g ad) iU z (b_X2_lose_45 y x1 x2 σ) σ 45 [(0, .ref (aSea ad y)), (1, .int x1), (2, .int x2)] [] := by
  unfold b_X2_lose_45
  refine v_aload_n (pc := 45) (i := 0) dX2_lose_45 rfl rfl ?_
  refine gX2_belief (pc := 46) (y := y) hy q_148 dX2_lose_46 ?_
  refine v_iload_n (pc := 49) (i := 2) dX2_lose_49 rfl rfl ?_
  refine v_aload_n (pc := 50) (i := 0) dX2_lose_50 rfl rfl ?_
  refine gX2_belief (pc := 51) (y := y) hy q_148 dX2_lose_51 ?_
  refine v_iload_n (pc := 54) (i := 2) dX2_lose_54 rfl rfl ?_
  refine lX_sea0 (pc := 55) (y := y) hy dX2_lose_55 ?_
  refine v_aload_n (pc := 56) (i := 0) dX2_lose_56 rfl rfl ?_
  refine v_iload_n (pc := 57) (i := 1) dX2_lose_57 rfl rfl ?_
  refine v_callVi (pc := 58) (rcX2 hy) (As := [.int x1]) (rest := [.int (xB σ y 0 x2.toNatClampNeg), .int x2, .ref (aSeaA ad y 0)]) (ct_X2_teaching hy x1) mi_X2_teaching q_509 (by decide) rfl rfl (Nat.le_of_ble_eq_true rfl) dX2_lose_58 (fun q3 => ?_)
  refine v_mmax (pc := 61) q_403 q_404 q_62 q_405 (by decide) (Nat.le_of_ble_eq_true rfl) dX2_lose_61 ?_
  refine sX_sea0 (pc := 64) (y := y) hy dX2_lose_64 ?_
  refine v_nms (fun σ4 => ?_)
  exact v_ret (pc := 65) dX2_lose_65
def f_X2_lose (y : Nat) (x1 : Int32) (σ : GX) : Option (Unit × GX) :=
  grd x1 6 (bnd (some (xB σ y 3 x1.toNatClampNeg)) fun w1 => bnd (some (sS σ y 0 ((xS σ y 0) ||| (slI (1 : Int32) x1)))) fun σ2 => grd w1 36 (if (50 : Int32) ≤ (xB σ2 y 0 w1.toNatClampNeg) then (b_X2_lose_45 y x1 w1 σ2) else (bnd (some (sS σ2 y 2 (mnI (99 : Int32) ((xS σ2 y 2) + (1 : Int32))))) fun σ5 => b_X2_lose_45 y x1 w1 σ5)))
theorem vf_X2_lose {g : Gt} {ad : Nat → Nat} (z : Zt) (y : Nat) (hy : y < 3) (x1 : Int32) (σ : GX) : V g (LX ad) 2 RX2 cX2_lose 3 none (wX g ad) iU z (f_X2_lose y x1 σ) σ 0 [(0, .ref (aSea ad y)), (1, .int x1)] [] := by
  unfold f_X2_lose
  refine v_aload_n (pc := 0) (i := 0) dX2_lose_0 rfl rfl ?_
  refine gX2_cell (pc := 1) (y := y) hy q_155 dX2_lose_1 ?_
  refine v_iload_n (pc := 4) (i := 1) dX2_lose_4 rfl rfl ?_
  refine lX_sea3 (pc := 5) (y := y) hy dX2_lose_5 ?_
  refine v_nmi (fun w1 => ?_)
  refine v_istore_n (pc := 6) (lv' := [(2, .int w1), (0, .ref (aSea ad y)), (1, .int x1)]) (i := 2) dX2_lose_6 rfl (by decide) rfl ?_
  refine v_aload_n (pc := 7) (i := 0) dX2_lose_7 rfl rfl ?_
  refine v_dup (pc := 8) dX2_lose_8 rfl ?_
  refine gX2_lost (pc := 9) (y := y) hy q_161 dX2_lose_9 ?_
  refine v_iconst (pc := 12) dX2_lose_12 ic_1 ?_
  refine v_iload_n (pc := 13) (i := 1) dX2_lose_13 rfl rfl ?_
  refine v_ishl (pc := 14) dX2_lose_14 ?_
  refine v_ior (pc := 15) dX2_lose_15 ?_
  refine pX2_lost (pc := 16) (y := y) hy q_161 dX2_lose_16 ?_
  refine v_nms (fun σ2 => ?_)
  refine v_aload_n (pc := 19) (i := 0) dX2_lose_19 rfl rfl ?_
  refine gX2_belief (pc := 20) (y := y) hy q_148 dX2_lose_20 ?_
  refine v_iload_n (pc := 23) (i := 2) dX2_lose_23 rfl rfl ?_
  refine lX_sea0 (pc := 24) (y := y) hy dX2_lose_24 ?_
  refine v_bipush (pc := 25) dX2_lose_25 bp_50 ?_
  refine v_icmp_ge (pc := 27) (tgt := 45) dX2_lose_27 rfl ?_ ?_
  · exact v_sub [1, 2, 0] rfl (vb_X2_lose_45 z y hy x1 w1 σ2)
  · refine v_aload_n (pc := 30) (i := 0) dX2_lose_30 rfl rfl ?_
    refine v_bipush (pc := 31) dX2_lose_31 bp_99 ?_
    refine v_aload_n (pc := 33) (i := 0) dX2_lose_33 rfl rfl ?_
    refine gX2_doubt (pc := 34) (y := y) hy q_166 dX2_lose_34 ?_
    refine v_iconst (pc := 37) dX2_lose_37 ic_1 ?_
    refine v_iadd (pc := 38) dX2_lose_38 ?_
    refine v_mmin (pc := 39) q_400 q_401 q_62 q_402 (by decide) (Nat.le_of_ble_eq_true rfl) dX2_lose_39 ?_
    refine pX2_doubt (pc := 42) (y := y) hy q_166 dX2_lose_42 ?_
    refine v_nms (fun σ5 => ?_)
    exact v_sub [1, 2, 0] rfl (vb_X2_lose_45 z y hy x1 w1 σ5)
theorem ct_X2_lose {g : Gt} {ad : Nat → Nat} {y : Nat} (hy : y < 3) (x1 : Int32) : CT g (LX ad) yX2_lose cX2_lose 3 none 2 [.ref (aSea ad y), .int x1] iU (wX g ad) (f_X2_lose y x1) :=
  ct_of_V (own := RX2) (lv0 := [(0, .ref (aSea ad y)), (1, .int x1)]) (by decide +kernel) rfl (Nat.le_of_ble_eq_true rfl) rfl (fun z σ => vf_X2_lose z y hy x1 σ)
-- LighthouseLiedTo$Sea.passNight
theorem dX2_passNight_0 : decode cX2_passNight 0 = .ok (.iconst 0, 1) := by decide +kernel
theorem dX2_passNight_1 : decode cX2_passNight 1 = .ok (.istore_n 1, 1) := by decide +kernel
theorem dX2_passNight_2 : decode cX2_passNight 2 = .ok (.iload_n 1, 1) := by decide +kernel
theorem dX2_passNight_3 : decode cX2_passNight 3 = .ok (.aload_n 0, 1) := by decide +kernel
theorem dX2_passNight_4 : decode cX2_passNight 4 = .ok (.getfield 45, 3) := by decide +kernel
theorem dX2_passNight_7 : decode cX2_passNight 7 = .ok (.if_icmp .ge 60, 3) := by decide +kernel
theorem dX2_passNight_10 : decode cX2_passNight 10 = .ok (.iload_n 1, 1) := by decide +kernel
theorem dX2_passNight_11 : decode cX2_passNight 11 = .ok (.bipush 6, 2) := by decide +kernel
theorem dX2_passNight_13 : decode cX2_passNight 13 = .ok (.if_icmp .ge 54, 3) := by decide +kernel
theorem dX2_passNight_16 : decode cX2_passNight 16 = .ok (.aload_n 0, 1) := by decide +kernel
theorem dX2_passNight_17 : decode cX2_passNight 17 = .ok (.iload_n 1, 1) := by decide +kernel
theorem dX2_passNight_18 : decode cX2_passNight 18 = .ok (.invokevirtual 89, 3) := by decide +kernel
theorem dX2_passNight_21 : decode cX2_passNight 21 = .ok (.ifCond .ne 40, 3) := by decide +kernel
theorem dX2_passNight_24 : decode cX2_passNight 24 = .ok (.aload_n 0, 1) := by decide +kernel
theorem dX2_passNight_25 : decode cX2_passNight 25 = .ok (.getfield 21, 3) := by decide +kernel
theorem dX2_passNight_28 : decode cX2_passNight 28 = .ok (.iload_n 1, 1) := by decide +kernel
theorem dX2_passNight_29 : decode cX2_passNight 29 = .ok (.aload_n 0, 1) := by decide +kernel
theorem dX2_passNight_30 : decode cX2_passNight 30 = .ok (.iload_n 1, 1) := by decide +kernel
theorem dX2_passNight_31 : decode cX2_passNight 31 = .ok (.invokevirtual 92, 3) := by decide +kernel
theorem dX2_passNight_34 : decode cX2_passNight 34 = .ok (.iastore, 1) := by decide +kernel
theorem dX2_passNight_35 : decode cX2_passNight 35 = .ok (.aload_n 0, 1) := by decide +kernel
theorem dX2_passNight_36 : decode cX2_passNight 36 = .ok (.aload_n 0, 1) := by decide +kernel
theorem dX2_passNight_37 : decode cX2_passNight 37 = .ok (.getfield 21, 3) := by decide +kernel
theorem dX2_passNight_40 : decode cX2_passNight 40 = .ok (.iload_n 1, 1) := by decide +kernel
theorem dX2_passNight_41 : decode cX2_passNight 41 = .ok (.iaload, 1) := by decide +kernel
theorem dX2_passNight_42 : decode cX2_passNight 42 = .ok (.invokevirtual 57, 3) := by decide +kernel
theorem dX2_passNight_45 : decode cX2_passNight 45 = .ok (.ifCond .eq 16, 3) := by decide +kernel
theorem dX2_passNight_48 : decode cX2_passNight 48 = .ok (.aload_n 0, 1) := by decide +kernel
theorem dX2_passNight_49 : decode cX2_passNight 49 = .ok (.iload_n 1, 1) := by decide +kernel
theorem dX2_passNight_50 : decode cX2_passNight 50 = .ok (.invokevirtual 96, 3) := by decide +kernel
theorem dX2_passNight_53 : decode cX2_passNight 53 = .ok (.ifCond .eq 8, 3) := by decide +kernel
theorem dX2_passNight_56 : decode cX2_passNight 56 = .ok (.aload_n 0, 1) := by decide +kernel
theorem dX2_passNight_57 : decode cX2_passNight 57 = .ok (.iload_n 1, 1) := by decide +kernel
theorem dX2_passNight_58 : decode cX2_passNight 58 = .ok (.invokevirtual 99, 3) := by decide +kernel
theorem dX2_passNight_61 : decode cX2_passNight 61 = .ok (.iinc 1 1, 3) := by decide +kernel
theorem dX2_passNight_64 : decode cX2_passNight 64 = .ok (.goto (-62), 3) := by decide +kernel
theorem dX2_passNight_67 : decode cX2_passNight 67 = .ok (.iconst 0, 1) := by decide +kernel
theorem dX2_passNight_68 : decode cX2_passNight 68 = .ok (.istore_n 1, 1) := by decide +kernel
theorem dX2_passNight_69 : decode cX2_passNight 69 = .ok (.iload_n 1, 1) := by decide +kernel
theorem dX2_passNight_70 : decode cX2_passNight 70 = .ok (.bipush 36, 2) := by decide +kernel
theorem dX2_passNight_72 : decode cX2_passNight 72 = .ok (.if_icmp .ge 42, 3) := by decide +kernel
theorem dX2_passNight_75 : decode cX2_passNight 75 = .ok (.aload_n 0, 1) := by decide +kernel
theorem dX2_passNight_76 : decode cX2_passNight 76 = .ok (.getfield 9, 3) := by decide +kernel
theorem dX2_passNight_79 : decode cX2_passNight 79 = .ok (.iload_n 1, 1) := by decide +kernel
theorem dX2_passNight_80 : decode cX2_passNight 80 = .ok (.iaload, 1) := by decide +kernel
theorem dX2_passNight_81 : decode cX2_passNight 81 = .ok (.ifCond .le 27, 3) := by decide +kernel
theorem dX2_passNight_84 : decode cX2_passNight 84 = .ok (.aload_n 0, 1) := by decide +kernel
theorem dX2_passNight_85 : decode cX2_passNight 85 = .ok (.getfield 9, 3) := by decide +kernel
theorem dX2_passNight_88 : decode cX2_passNight 88 = .ok (.iload_n 1, 1) := by decide +kernel
theorem dX2_passNight_89 : decode cX2_passNight 89 = .ok (.iconst 0, 1) := by decide +kernel
theorem dX2_passNight_90 : decode cX2_passNight 90 = .ok (.aload_n 0, 1) := by decide +kernel
theorem dX2_passNight_91 : decode cX2_passNight 91 = .ok (.getfield 9, 3) := by decide +kernel
theorem dX2_passNight_94 : decode cX2_passNight 94 = .ok (.iload_n 1, 1) := by decide +kernel
theorem dX2_passNight_95 : decode cX2_passNight 95 = .ok (.iaload, 1) := by decide +kernel
theorem dX2_passNight_96 : decode cX2_passNight 96 = .ok (.aload_n 0, 1) := by decide +kernel
theorem dX2_passNight_97 : decode cX2_passNight 97 = .ok (.iconst 1, 1) := by decide +kernel
theorem dX2_passNight_98 : decode cX2_passNight 98 = .ok (.iload_n 1, 1) := by decide +kernel
theorem dX2_passNight_99 : decode cX2_passNight 99 = .ok (.iconst 0, 1) := by decide +kernel
theorem dX2_passNight_100 : decode cX2_passNight 100 = .ok (.invokevirtual 61, 3) := by decide +kernel
theorem dX2_passNight_103 : decode cX2_passNight 103 = .ok (.isub, 1) := by decide +kernel
theorem dX2_passNight_104 : decode cX2_passNight 104 = .ok (.invokestatic 74, 3) := by decide +kernel
theorem dX2_passNight_107 : decode cX2_passNight 107 = .ok (.iastore, 1) := by decide +kernel
theorem dX2_passNight_108 : decode cX2_passNight 108 = .ok (.iinc 1 1, 3) := by decide +kernel
theorem dX2_passNight_111 : decode cX2_passNight 111 = .ok (.goto (-42), 3) := by decide +kernel
theorem dX2_passNight_114 : decode cX2_passNight 114 = .ok (.aload_n 0, 1) := by decide +kernel
theorem dX2_passNight_115 : decode cX2_passNight 115 = .ok (.dup, 1) := by decide +kernel
theorem dX2_passNight_116 : decode cX2_passNight 116 = .ok (.getfield 51, 3) := by decide +kernel
theorem dX2_passNight_119 : decode cX2_passNight 119 = .ok (.iconst 1, 1) := by decide +kernel
theorem dX2_passNight_120 : decode cX2_passNight 120 = .ok (.iadd, 1) := by decide +kernel
theorem dX2_passNight_121 : decode cX2_passNight 121 = .ok (.putfield 51, 3) := by decide +kernel
theorem dX2_passNight_124 : decode cX2_passNight 124 = .ok (.return_, 1) := by decide +kernel
def b_X2_passNight_69 (y : Nat) (kc69 : Int32 → GX → Option (Unit × GX)) (x1 : Int32) (σ : GX) : Option (Unit × GX) :=
  if (36 : Int32) ≤ x1 then (bnd (some (sS σ y 3 ((xS σ y 3) + (1 : Int32)))) fun σ1 => some ((), σ1)) else (grd x1 36 (if (xB σ y 0 x1.toNatClampNeg) ≤ 0 then (kc69 (x1 + (1 : Int32)) σ) else (grd x1 36 (bnd (f_X2_says y (1 : Int32) x1 (0 : Int32) σ) fun q2 => grd x1 36 (bnd (some (sB q2.2 y 0 x1.toNatClampNeg (mxI (0 : Int32) ((xB σ y 0 x1.toNatClampNeg) - q2.1)))) fun σ3 => kc69 (x1 + (1 : Int32)) σ3)))))
theorem vb_X2_passNight_69 {g : Gt} {ad : Nat → Nat} (z : Zt) (y : Nat) (hy : y < 3) (kc69 : Int32 → GX → Option (Unit × GX)) (hkc69 : ∀ (x1 : Int32) (σ : GX), V g (LX ad) 6 RX2 cX2_passNight 2 none (wX g ad) iU z (kc69 x1 σ) σ 69 [(0, .ref (aSea ad y)), (1, .int x1)] []) (x1 : Int32) (σ : GX) : V g (LX ad) 6 RX2 cX2_passNight 2 none (wX g ad) iU z (b_X2_passNight_69 y kc69 x1 σ) σ 69 [(0, .ref (aSea ad y)), (1, .int x1)] [] := by
  unfold b_X2_passNight_69
  refine v_iload_n (pc := 69) (i := 1) dX2_passNight_69 rfl rfl ?_
  refine v_bipush (pc := 70) dX2_passNight_70 bp_36 ?_
  refine v_icmp_ge (pc := 72) (tgt := 114) dX2_passNight_72 rfl ?_ ?_
  · refine v_aload_n (pc := 114) (i := 0) dX2_passNight_114 rfl rfl ?_
    refine v_dup (pc := 115) dX2_passNight_115 rfl ?_
    refine gX2_night (pc := 116) (y := y) hy q_169 dX2_passNight_116 ?_
    refine v_iconst (pc := 119) dX2_passNight_119 ic_1 ?_
    refine v_iadd (pc := 120) dX2_passNight_120 ?_
    refine pX2_night (pc := 121) (y := y) hy q_169 dX2_passNight_121 ?_
    refine v_nms (fun σ1 => ?_)
    exact v_ret (pc := 124) dX2_passNight_124
  · refine v_aload_n (pc := 75) (i := 0) dX2_passNight_75 rfl rfl ?_
    refine gX2_belief (pc := 76) (y := y) hy q_148 dX2_passNight_76 ?_
    refine v_iload_n (pc := 79) (i := 1) dX2_passNight_79 rfl rfl ?_
    refine lX_sea0 (pc := 80) (y := y) hy dX2_passNight_80 ?_
    refine v_if_le (pc := 81) (tgt := 108) dX2_passNight_81 rfl ?_ ?_
    · refine v_iinc (pc := 108) (lv' := [(1, .int (x1 + (1 : Int32))), (0, .ref (aSea ad y))]) (i := 1) dX2_passNight_108 rfl ic_1 (by decide) rfl ?_
      refine v_goto (pc := 111) (tgt := 69) dX2_passNight_111 rfl ?_
      exact v_sub [1, 0] rfl (hkc69 (x1 + (1 : Int32)) σ)
    · refine v_aload_n (pc := 84) (i := 0) dX2_passNight_84 rfl rfl ?_
      refine gX2_belief (pc := 85) (y := y) hy q_148 dX2_passNight_85 ?_
      refine v_iload_n (pc := 88) (i := 1) dX2_passNight_88 rfl rfl ?_
      refine v_iconst (pc := 89) dX2_passNight_89 ic_0 ?_
      refine v_aload_n (pc := 90) (i := 0) dX2_passNight_90 rfl rfl ?_
      refine gX2_belief (pc := 91) (y := y) hy q_148 dX2_passNight_91 ?_
      refine v_iload_n (pc := 94) (i := 1) dX2_passNight_94 rfl rfl ?_
      refine lX_sea0 (pc := 95) (y := y) hy dX2_passNight_95 ?_
      refine v_aload_n (pc := 96) (i := 0) dX2_passNight_96 rfl rfl ?_
      refine v_iconst (pc := 97) dX2_passNight_97 ic_1 ?_
      refine v_iload_n (pc := 98) (i := 1) dX2_passNight_98 rfl rfl ?_
      refine v_iconst (pc := 99) dX2_passNight_99 ic_0 ?_
      refine v_callVi (pc := 100) (rcX2 hy) (As := [.int (1 : Int32), .int x1, .int (0 : Int32)]) (rest := [.int (xB σ y 0 x1.toNatClampNeg), .int (0 : Int32), .int x1, .ref (aSeaA ad y 0)]) (ct_X2_says hy (1 : Int32) x1 (0 : Int32)) mi_X2_says q_479 (by decide) rfl rfl (Nat.le_of_ble_eq_true rfl) dX2_passNight_100 (fun q2 => ?_)
      refine v_isub (pc := 103) dX2_passNight_103 ?_
      refine v_mmax (pc := 104) q_403 q_404 q_62 q_405 (by decide) (Nat.le_of_ble_eq_true rfl) dX2_passNight_104 ?_
      refine sX_sea0 (pc := 107) (y := y) hy dX2_passNight_107 ?_
      refine v_nms (fun σ3 => ?_)
      refine v_iinc (pc := 108) (lv' := [(1, .int (x1 + (1 : Int32))), (0, .ref (aSea ad y))]) (i := 1) dX2_passNight_108 rfl ic_1 (by decide) rfl ?_
      refine v_goto (pc := 111) (tgt := 69) dX2_passNight_111 rfl ?_
      exact v_sub [1, 0] rfl (hkc69 (x1 + (1 : Int32)) σ3)
def k_X2_passNight_69 (y : Nat) : Nat → Int32 → GX → Option (Unit × GX)
  | 0 => fun _ _ => none
  | n + 1 => b_X2_passNight_69 y (k_X2_passNight_69 y n)
theorem vk_X2_passNight_69 {g : Gt} {ad : Nat → Nat} (z : Zt) (y : Nat) (hy : y < 3) : ∀ (n : Nat) (x1 : Int32) (σ : GX), V g (LX ad) 6 RX2 cX2_passNight 2 none (wX g ad) iU z (k_X2_passNight_69 y n x1 σ) σ 69 [(0, .ref (aSea ad y)), (1, .int x1)] [] := by
  intro n
  induction n with
  | zero => intros; exact v_eq rfl v_none
  | succ n ih =>
    intro x1 σ
    exact v_eq rfl (vb_X2_passNight_69 z y hy _ ih x1 σ)
def b_X2_passNight_2 (y : Nat) (kc2 : Int32 → GX → Option (Unit × GX)) (x1 : Int32) (σ : GX) : Option (Unit × GX) :=
  if (xS σ y 1) ≤ x1 then (k_X2_passNight_69 y FU (0 : Int32) σ) else (if (6 : Int32) ≤ x1 then (k_X2_passNight_69 y FU (0 : Int32) σ) else (bnd (f_X2_isLost y x1 σ) fun q4 => if q4.1 ≠ 0 then (kc2 (x1 + (1 : Int32)) q4.2) else (bnd (f_X2_goal y x1 q4.2) fun q5 => grd x1 6 (bnd (some (sB q5.2 y 3 x1.toNatClampNeg q5.1)) fun σ6 => grd x1 6 (bnd (f_X2_hasRock y (xB σ6 y 3 x1.toNatClampNeg) σ6) fun q7 => if q7.1 = 0 then (kc2 (x1 + (1 : Int32)) q7.2) else (bnd (f_X2_sinking y x1 q7.2) fun q8 => if q8.1 = 0 then (kc2 (x1 + (1 : Int32)) q8.2) else (bnd (f_X2_lose y x1 q8.2) fun q9 => kc2 (x1 + (1 : Int32)) q9.2)))))))
theorem vb_X2_passNight_2 {g : Gt} {ad : Nat → Nat} (z : Zt) (y : Nat) (hy : y < 3) (kc2 : Int32 → GX → Option (Unit × GX)) (hkc2 : ∀ (x1 : Int32) (σ : GX), V g (LX ad) 6 RX2 cX2_passNight 2 none (wX g ad) iU z (kc2 x1 σ) σ 2 [(0, .ref (aSea ad y)), (1, .int x1)] []) (x1 : Int32) (σ : GX) : V g (LX ad) 6 RX2 cX2_passNight 2 none (wX g ad) iU z (b_X2_passNight_2 y kc2 x1 σ) σ 2 [(0, .ref (aSea ad y)), (1, .int x1)] [] := by
  unfold b_X2_passNight_2
  refine v_iload_n (pc := 2) (i := 1) dX2_passNight_2 rfl rfl ?_
  refine v_aload_n (pc := 3) (i := 0) dX2_passNight_3 rfl rfl ?_
  refine gX2_ships (pc := 4) (y := y) hy q_164 dX2_passNight_4 ?_
  refine v_icmp_ge (pc := 7) (tgt := 67) dX2_passNight_7 rfl ?_ ?_
  · refine v_iconst (pc := 67) dX2_passNight_67 ic_0 ?_
    refine v_istore_n (pc := 68) (lv' := [(1, .int (0 : Int32)), (0, .ref (aSea ad y))]) (i := 1) dX2_passNight_68 rfl (by decide) rfl ?_
    exact v_sub [1, 0] rfl (vk_X2_passNight_69 z y hy FU (0 : Int32) σ)
  · refine v_iload_n (pc := 10) (i := 1) dX2_passNight_10 rfl rfl ?_
    refine v_bipush (pc := 11) dX2_passNight_11 bp_6 ?_
    refine v_icmp_ge (pc := 13) (tgt := 67) dX2_passNight_13 rfl ?_ ?_
    · refine v_iconst (pc := 67) dX2_passNight_67 ic_0 ?_
      refine v_istore_n (pc := 68) (lv' := [(1, .int (0 : Int32)), (0, .ref (aSea ad y))]) (i := 1) dX2_passNight_68 rfl (by decide) rfl ?_
      exact v_sub [1, 0] rfl (vk_X2_passNight_69 z y hy FU (0 : Int32) σ)
    · refine v_aload_n (pc := 16) (i := 0) dX2_passNight_16 rfl rfl ?_
      refine v_iload_n (pc := 17) (i := 1) dX2_passNight_17 rfl rfl ?_
      refine v_callVi (pc := 18) (rcX2 hy) (As := [.int x1]) (rest := []) (ct_X2_isLost hy x1) mi_X2_isLost q_501 (by decide) rfl rfl (Nat.le_of_ble_eq_true rfl) dX2_passNight_18 (fun q4 => ?_)
      refine v_if_ne (pc := 21) (tgt := 61) dX2_passNight_21 rfl ?_ ?_
      · refine v_iinc (pc := 61) (lv' := [(1, .int (x1 + (1 : Int32))), (0, .ref (aSea ad y))]) (i := 1) dX2_passNight_61 rfl ic_1 (by decide) rfl ?_
        refine v_goto (pc := 64) (tgt := 2) dX2_passNight_64 rfl ?_
        exact v_sub [1, 0] rfl (hkc2 (x1 + (1 : Int32)) q4.2)
      · refine v_aload_n (pc := 24) (i := 0) dX2_passNight_24 rfl rfl ?_
        refine gX2_cell (pc := 25) (y := y) hy q_155 dX2_passNight_25 ?_
        refine v_iload_n (pc := 28) (i := 1) dX2_passNight_28 rfl rfl ?_
        refine v_aload_n (pc := 29) (i := 0) dX2_passNight_29 rfl rfl ?_
        refine v_iload_n (pc := 30) (i := 1) dX2_passNight_30 rfl rfl ?_
        refine v_callVi (pc := 31) (rcX2 hy) (As := [.int x1]) (rest := [.int x1, .ref (aSeaA ad y 3)]) (ct_X2_goal hy x1) mi_X2_goal q_502 (by decide) rfl rfl (Nat.le_of_ble_eq_true rfl) dX2_passNight_31 (fun q5 => ?_)
        refine sX_sea3 (pc := 34) (y := y) hy dX2_passNight_34 ?_
        refine v_nms (fun σ6 => ?_)
        refine v_aload_n (pc := 35) (i := 0) dX2_passNight_35 rfl rfl ?_
        refine v_aload_n (pc := 36) (i := 0) dX2_passNight_36 rfl rfl ?_
        refine gX2_cell (pc := 37) (y := y) hy q_155 dX2_passNight_37 ?_
        refine v_iload_n (pc := 40) (i := 1) dX2_passNight_40 rfl rfl ?_
        refine lX_sea3 (pc := 41) (y := y) hy dX2_passNight_41 ?_
        refine v_callVi (pc := 42) (rcX2 hy) (As := [.int (xB σ6 y 3 x1.toNatClampNeg)]) (rest := []) (ct_X2_hasRock hy (xB σ6 y 3 x1.toNatClampNeg)) mi_X2_hasRock q_503 (by decide) rfl rfl (Nat.le_of_ble_eq_true rfl) dX2_passNight_42 (fun q7 => ?_)
        refine v_if_eq (pc := 45) (tgt := 61) dX2_passNight_45 rfl ?_ ?_
        · refine v_iinc (pc := 61) (lv' := [(1, .int (x1 + (1 : Int32))), (0, .ref (aSea ad y))]) (i := 1) dX2_passNight_61 rfl ic_1 (by decide) rfl ?_
          refine v_goto (pc := 64) (tgt := 2) dX2_passNight_64 rfl ?_
          exact v_sub [1, 0] rfl (hkc2 (x1 + (1 : Int32)) q7.2)
        · refine v_aload_n (pc := 48) (i := 0) dX2_passNight_48 rfl rfl ?_
          refine v_iload_n (pc := 49) (i := 1) dX2_passNight_49 rfl rfl ?_
          refine v_callVi (pc := 50) (rcX2 hy) (As := [.int x1]) (rest := []) (ct_X2_sinking hy x1) mi_X2_sinking q_504 (by decide) rfl rfl (Nat.le_of_ble_eq_true rfl) dX2_passNight_50 (fun q8 => ?_)
          refine v_if_eq (pc := 53) (tgt := 61) dX2_passNight_53 rfl ?_ ?_
          · refine v_iinc (pc := 61) (lv' := [(1, .int (x1 + (1 : Int32))), (0, .ref (aSea ad y))]) (i := 1) dX2_passNight_61 rfl ic_1 (by decide) rfl ?_
            refine v_goto (pc := 64) (tgt := 2) dX2_passNight_64 rfl ?_
            exact v_sub [1, 0] rfl (hkc2 (x1 + (1 : Int32)) q8.2)
          · refine v_aload_n (pc := 56) (i := 0) dX2_passNight_56 rfl rfl ?_
            refine v_iload_n (pc := 57) (i := 1) dX2_passNight_57 rfl rfl ?_
            refine v_callVv (pc := 58) (rcX2 hy) (As := [.int x1]) (rest := []) (ct_X2_lose hy x1) mi_X2_lose q_505 (by decide) rfl rfl (Nat.le_of_ble_eq_true rfl) dX2_passNight_58 (fun q9 => ?_)
            refine v_iinc (pc := 61) (lv' := [(1, .int (x1 + (1 : Int32))), (0, .ref (aSea ad y))]) (i := 1) dX2_passNight_61 rfl ic_1 (by decide) rfl ?_
            refine v_goto (pc := 64) (tgt := 2) dX2_passNight_64 rfl ?_
            exact v_sub [1, 0] rfl (hkc2 (x1 + (1 : Int32)) q9.2)
def k_X2_passNight_2 (y : Nat) : Nat → Int32 → GX → Option (Unit × GX)
  | 0 => fun _ _ => none
  | n + 1 => b_X2_passNight_2 y (k_X2_passNight_2 y n)
theorem vk_X2_passNight_2 {g : Gt} {ad : Nat → Nat} (z : Zt) (y : Nat) (hy : y < 3) : ∀ (n : Nat) (x1 : Int32) (σ : GX), V g (LX ad) 6 RX2 cX2_passNight 2 none (wX g ad) iU z (k_X2_passNight_2 y n x1 σ) σ 2 [(0, .ref (aSea ad y)), (1, .int x1)] [] := by
  intro n
  induction n with
  | zero => intros; exact v_eq rfl v_none
  | succ n ih =>
    intro x1 σ
    exact v_eq rfl (vb_X2_passNight_2 z y hy _ ih x1 σ)
def f_X2_passNight (y : Nat) (σ : GX) : Option (Unit × GX) :=
  k_X2_passNight_2 y FU (0 : Int32) σ
theorem vf_X2_passNight {g : Gt} {ad : Nat → Nat} (z : Zt) (y : Nat) (hy : y < 3) (σ : GX) : V g (LX ad) 6 RX2 cX2_passNight 2 none (wX g ad) iU z (f_X2_passNight y σ) σ 0 [(0, .ref (aSea ad y))] [] := by
  unfold f_X2_passNight
  refine v_iconst (pc := 0) dX2_passNight_0 ic_0 ?_
  refine v_istore_n (pc := 1) (lv' := [(1, .int (0 : Int32)), (0, .ref (aSea ad y))]) (i := 1) dX2_passNight_1 rfl (by decide) rfl ?_
  exact v_sub [1, 0] rfl (vk_X2_passNight_2 z y hy FU (0 : Int32) σ)
theorem ct_X2_passNight {g : Gt} {ad : Nat → Nat} {y : Nat} (hy : y < 3) : CT g (LX ad) yX2_passNight cX2_passNight 2 none 6 [.ref (aSea ad y)] iU (wX g ad) (f_X2_passNight y) :=
  ct_of_V (own := RX2) (lv0 := [(0, .ref (aSea ad y))]) (by decide +kernel) rfl (Nat.le_of_ble_eq_true rfl) rfl (fun z σ => vf_X2_passNight z y hy σ)
-- LighthouseLiedTo$Sea.become
theorem dX2_become_0 : decode cX2_become 0 = .ok (.aload_n 1, 1) := by decide +kernel
theorem dX2_become_1 : decode cX2_become 1 = .ok (.getfield 9, 3) := by decide +kernel
theorem dX2_become_4 : decode cX2_become 4 = .ok (.iconst 0, 1) := by decide +kernel
theorem dX2_become_5 : decode cX2_become 5 = .ok (.aload_n 0, 1) := by decide +kernel
theorem dX2_become_6 : decode cX2_become 6 = .ok (.getfield 9, 3) := by decide +kernel
theorem dX2_become_9 : decode cX2_become 9 = .ok (.iconst 0, 1) := by decide +kernel
theorem dX2_become_10 : decode cX2_become 10 = .ok (.bipush 36, 2) := by decide +kernel
theorem dX2_become_12 : decode cX2_become 12 = .ok (.invokestatic 31, 3) := by decide +kernel
theorem dX2_become_15 : decode cX2_become 15 = .ok (.aload_n 1, 1) := by decide +kernel
theorem dX2_become_16 : decode cX2_become 16 = .ok (.getfield 15, 3) := by decide +kernel
theorem dX2_become_19 : decode cX2_become 19 = .ok (.iconst 0, 1) := by decide +kernel
theorem dX2_become_20 : decode cX2_become 20 = .ok (.aload_n 0, 1) := by decide +kernel
theorem dX2_become_21 : decode cX2_become 21 = .ok (.getfield 15, 3) := by decide +kernel
theorem dX2_become_24 : decode cX2_become 24 = .ok (.iconst 0, 1) := by decide +kernel
theorem dX2_become_25 : decode cX2_become 25 = .ok (.bipush 6, 2) := by decide +kernel
theorem dX2_become_27 : decode cX2_become 27 = .ok (.invokestatic 31, 3) := by decide +kernel
theorem dX2_become_30 : decode cX2_become 30 = .ok (.aload_n 1, 1) := by decide +kernel
theorem dX2_become_31 : decode cX2_become 31 = .ok (.getfield 18, 3) := by decide +kernel
theorem dX2_become_34 : decode cX2_become 34 = .ok (.iconst 0, 1) := by decide +kernel
theorem dX2_become_35 : decode cX2_become 35 = .ok (.aload_n 0, 1) := by decide +kernel
theorem dX2_become_36 : decode cX2_become 36 = .ok (.getfield 18, 3) := by decide +kernel
theorem dX2_become_39 : decode cX2_become 39 = .ok (.iconst 0, 1) := by decide +kernel
theorem dX2_become_40 : decode cX2_become 40 = .ok (.bipush 6, 2) := by decide +kernel
theorem dX2_become_42 : decode cX2_become 42 = .ok (.invokestatic 31, 3) := by decide +kernel
theorem dX2_become_45 : decode cX2_become 45 = .ok (.aload_n 1, 1) := by decide +kernel
theorem dX2_become_46 : decode cX2_become 46 = .ok (.getfield 21, 3) := by decide +kernel
theorem dX2_become_49 : decode cX2_become 49 = .ok (.iconst 0, 1) := by decide +kernel
theorem dX2_become_50 : decode cX2_become 50 = .ok (.aload_n 0, 1) := by decide +kernel
theorem dX2_become_51 : decode cX2_become 51 = .ok (.getfield 21, 3) := by decide +kernel
theorem dX2_become_54 : decode cX2_become 54 = .ok (.iconst 0, 1) := by decide +kernel
theorem dX2_become_55 : decode cX2_become 55 = .ok (.bipush 6, 2) := by decide +kernel
theorem dX2_become_57 : decode cX2_become 57 = .ok (.invokestatic 31, 3) := by decide +kernel
theorem dX2_become_60 : decode cX2_become 60 = .ok (.aload_n 1, 1) := by decide +kernel
theorem dX2_become_61 : decode cX2_become 61 = .ok (.getfield 24, 3) := by decide +kernel
theorem dX2_become_64 : decode cX2_become 64 = .ok (.iconst 0, 1) := by decide +kernel
theorem dX2_become_65 : decode cX2_become 65 = .ok (.aload_n 0, 1) := by decide +kernel
theorem dX2_become_66 : decode cX2_become 66 = .ok (.getfield 24, 3) := by decide +kernel
theorem dX2_become_69 : decode cX2_become 69 = .ok (.iconst 0, 1) := by decide +kernel
theorem dX2_become_70 : decode cX2_become 70 = .ok (.bipush 6, 2) := by decide +kernel
theorem dX2_become_72 : decode cX2_become 72 = .ok (.invokestatic 31, 3) := by decide +kernel
theorem dX2_become_75 : decode cX2_become 75 = .ok (.aload_n 0, 1) := by decide +kernel
theorem dX2_become_76 : decode cX2_become 76 = .ok (.aload_n 1, 1) := by decide +kernel
theorem dX2_become_77 : decode cX2_become 77 = .ok (.getfield 37, 3) := by decide +kernel
theorem dX2_become_80 : decode cX2_become 80 = .ok (.putfield 37, 3) := by decide +kernel
theorem dX2_become_83 : decode cX2_become 83 = .ok (.aload_n 0, 1) := by decide +kernel
theorem dX2_become_84 : decode cX2_become 84 = .ok (.aload_n 1, 1) := by decide +kernel
theorem dX2_become_85 : decode cX2_become 85 = .ok (.getfield 41, 3) := by decide +kernel
theorem dX2_become_88 : decode cX2_become 88 = .ok (.putfield 41, 3) := by decide +kernel
theorem dX2_become_91 : decode cX2_become 91 = .ok (.aload_n 0, 1) := by decide +kernel
theorem dX2_become_92 : decode cX2_become 92 = .ok (.aload_n 1, 1) := by decide +kernel
theorem dX2_become_93 : decode cX2_become 93 = .ok (.getfield 45, 3) := by decide +kernel
theorem dX2_become_96 : decode cX2_become 96 = .ok (.putfield 45, 3) := by decide +kernel
theorem dX2_become_99 : decode cX2_become 99 = .ok (.aload_n 0, 1) := by decide +kernel
theorem dX2_become_100 : decode cX2_become 100 = .ok (.aload_n 1, 1) := by decide +kernel
theorem dX2_become_101 : decode cX2_become 101 = .ok (.getfield 48, 3) := by decide +kernel
theorem dX2_become_104 : decode cX2_become 104 = .ok (.putfield 48, 3) := by decide +kernel
theorem dX2_become_107 : decode cX2_become 107 = .ok (.aload_n 0, 1) := by decide +kernel
theorem dX2_become_108 : decode cX2_become 108 = .ok (.aload_n 1, 1) := by decide +kernel
theorem dX2_become_109 : decode cX2_become 109 = .ok (.getfield 51, 3) := by decide +kernel
theorem dX2_become_112 : decode cX2_become 112 = .ok (.putfield 51, 3) := by decide +kernel
theorem dX2_become_115 : decode cX2_become 115 = .ok (.aload_n 0, 1) := by decide +kernel
theorem dX2_become_116 : decode cX2_become 116 = .ok (.aload_n 1, 1) := by decide +kernel
theorem dX2_become_117 : decode cX2_become 117 = .ok (.getfield 54, 3) := by decide +kernel
theorem dX2_become_120 : decode cX2_become 120 = .ok (.putfield 54, 3) := by decide +kernel
theorem dX2_become_123 : decode cX2_become 123 = .ok (.return_, 1) := by decide +kernel
def f_X2_become (y : Nat) (σ : GX) : Option (Unit × GX) :=
  cpG (0 : Int32) (0 : Int32) (36 : Int32) 36 36 (bnd (some (cB σ y 0 y 0 (0 : Int32).toNatClampNeg (0 : Int32).toNatClampNeg (36 : Int32).toNatClampNeg)) fun σ1 => cpG (0 : Int32) (0 : Int32) (6 : Int32) 6 6 (bnd (some (cB σ1 y 1 y 1 (0 : Int32).toNatClampNeg (0 : Int32).toNatClampNeg (6 : Int32).toNatClampNeg)) fun σ2 => cpG (0 : Int32) (0 : Int32) (6 : Int32) 6 6 (bnd (some (cB σ2 y 2 y 2 (0 : Int32).toNatClampNeg (0 : Int32).toNatClampNeg (6 : Int32).toNatClampNeg)) fun σ3 => cpG (0 : Int32) (0 : Int32) (6 : Int32) 6 6 (bnd (some (cB σ3 y 3 y 3 (0 : Int32).toNatClampNeg (0 : Int32).toNatClampNeg (6 : Int32).toNatClampNeg)) fun σ4 => cpG (0 : Int32) (0 : Int32) (6 : Int32) 6 6 (bnd (some (cB σ4 y 4 y 4 (0 : Int32).toNatClampNeg (0 : Int32).toNatClampNeg (6 : Int32).toNatClampNeg)) fun σ5 => bnd (some (sR σ5 y (xR σ5 y))) fun σ6 => bnd (some (sS σ6 y 0 (xS σ6 y 0))) fun σ7 => bnd (some (sS σ7 y 1 (xS σ7 y 1))) fun σ8 => bnd (some (sS σ8 y 2 (xS σ8 y 2))) fun σ9 => bnd (some (sS σ9 y 3 (xS σ9 y 3))) fun σ10 => bnd (some (sS σ10 y 4 (xS σ10 y 4))) fun σ11 => some ((), σ11))))))
theorem vf_X2_become {g : Gt} {ad : Nat → Nat} (z : Zt) (y : Nat) (hy : y < 3) (σ : GX) : V g (LX ad) 1 RX2 cX2_become 2 none (wX g ad) iU z (f_X2_become y σ) σ 0 [(0, .ref (aSea ad y)), (1, .ref (aSea ad y))] [] := by
  unfold f_X2_become
  refine v_aload_n (pc := 0) (i := 1) dX2_become_0 rfl rfl ?_
  refine gX2_belief (pc := 1) (y := y) hy q_148 dX2_become_1 ?_
  refine v_iconst (pc := 4) dX2_become_4 ic_0 ?_
  refine v_aload_n (pc := 5) (i := 0) dX2_become_5 rfl rfl ?_
  refine gX2_belief (pc := 6) (y := y) hy q_148 dX2_become_6 ?_
  refine v_iconst (pc := 9) dX2_become_9 ic_0 ?_
  refine v_bipush (pc := 10) dX2_become_10 bp_36 ?_
  refine v_cpy_sea0 (pc := 12) (y1 := y) hy (y := y) hy q_525 (by decide) (Nat.le_of_ble_eq_true rfl) dX2_become_12 ?_
  refine v_nms (fun σ1 => ?_)
  refine v_aload_n (pc := 15) (i := 1) dX2_become_15 rfl rfl ?_
  refine gX2_kind (pc := 16) (y := y) hy q_151 dX2_become_16 ?_
  refine v_iconst (pc := 19) dX2_become_19 ic_0 ?_
  refine v_aload_n (pc := 20) (i := 0) dX2_become_20 rfl rfl ?_
  refine gX2_kind (pc := 21) (y := y) hy q_151 dX2_become_21 ?_
  refine v_iconst (pc := 24) dX2_become_24 ic_0 ?_
  refine v_bipush (pc := 25) dX2_become_25 bp_6 ?_
  refine v_cpy_sea1 (pc := 27) (y1 := y) hy (y := y) hy q_525 (by decide) (Nat.le_of_ble_eq_true rfl) dX2_become_27 ?_
  refine v_nms (fun σ2 => ?_)
  refine v_aload_n (pc := 30) (i := 1) dX2_become_30 rfl rfl ?_
  refine gX2_more (pc := 31) (y := y) hy q_153 dX2_become_31 ?_
  refine v_iconst (pc := 34) dX2_become_34 ic_0 ?_
  refine v_aload_n (pc := 35) (i := 0) dX2_become_35 rfl rfl ?_
  refine gX2_more (pc := 36) (y := y) hy q_153 dX2_become_36 ?_
  refine v_iconst (pc := 39) dX2_become_39 ic_0 ?_
  refine v_bipush (pc := 40) dX2_become_40 bp_6 ?_
  refine v_cpy_sea2 (pc := 42) (y1 := y) hy (y := y) hy q_525 (by decide) (Nat.le_of_ble_eq_true rfl) dX2_become_42 ?_
  refine v_nms (fun σ3 => ?_)
  refine v_aload_n (pc := 45) (i := 1) dX2_become_45 rfl rfl ?_
  refine gX2_cell (pc := 46) (y := y) hy q_155 dX2_become_46 ?_
  refine v_iconst (pc := 49) dX2_become_49 ic_0 ?_
  refine v_aload_n (pc := 50) (i := 0) dX2_become_50 rfl rfl ?_
  refine gX2_cell (pc := 51) (y := y) hy q_155 dX2_become_51 ?_
  refine v_iconst (pc := 54) dX2_become_54 ic_0 ?_
  refine v_bipush (pc := 55) dX2_become_55 bp_6 ?_
  refine v_cpy_sea3 (pc := 57) (y1 := y) hy (y := y) hy q_525 (by decide) (Nat.le_of_ble_eq_true rfl) dX2_become_57 ?_
  refine v_nms (fun σ4 => ?_)
  refine v_aload_n (pc := 60) (i := 1) dX2_become_60 rfl rfl ?_
  refine gX2_draught (pc := 61) (y := y) hy q_157 dX2_become_61 ?_
  refine v_iconst (pc := 64) dX2_become_64 ic_0 ?_
  refine v_aload_n (pc := 65) (i := 0) dX2_become_65 rfl rfl ?_
  refine gX2_draught (pc := 66) (y := y) hy q_157 dX2_become_66 ?_
  refine v_iconst (pc := 69) dX2_become_69 ic_0 ?_
  refine v_bipush (pc := 70) dX2_become_70 bp_6 ?_
  refine v_cpy_sea4 (pc := 72) (y1 := y) hy (y := y) hy q_525 (by decide) (Nat.le_of_ble_eq_true rfl) dX2_become_72 ?_
  refine v_nms (fun σ5 => ?_)
  refine v_aload_n (pc := 75) (i := 0) dX2_become_75 rfl rfl ?_
  refine v_aload_n (pc := 76) (i := 1) dX2_become_76 rfl rfl ?_
  refine gX2_rocks (pc := 77) (y := y) hy q_159 dX2_become_77 ?_
  refine pX2_rocks (pc := 80) (y := y) hy q_159 dX2_become_80 ?_
  refine v_nms (fun σ6 => ?_)
  refine v_aload_n (pc := 83) (i := 0) dX2_become_83 rfl rfl ?_
  refine v_aload_n (pc := 84) (i := 1) dX2_become_84 rfl rfl ?_
  refine gX2_lost (pc := 85) (y := y) hy q_161 dX2_become_85 ?_
  refine pX2_lost (pc := 88) (y := y) hy q_161 dX2_become_88 ?_
  refine v_nms (fun σ7 => ?_)
  refine v_aload_n (pc := 91) (i := 0) dX2_become_91 rfl rfl ?_
  refine v_aload_n (pc := 92) (i := 1) dX2_become_92 rfl rfl ?_
  refine gX2_ships (pc := 93) (y := y) hy q_164 dX2_become_93 ?_
  refine pX2_ships (pc := 96) (y := y) hy q_164 dX2_become_96 ?_
  refine v_nms (fun σ8 => ?_)
  refine v_aload_n (pc := 99) (i := 0) dX2_become_99 rfl rfl ?_
  refine v_aload_n (pc := 100) (i := 1) dX2_become_100 rfl rfl ?_
  refine gX2_doubt (pc := 101) (y := y) hy q_166 dX2_become_101 ?_
  refine pX2_doubt (pc := 104) (y := y) hy q_166 dX2_become_104 ?_
  refine v_nms (fun σ9 => ?_)
  refine v_aload_n (pc := 107) (i := 0) dX2_become_107 rfl rfl ?_
  refine v_aload_n (pc := 108) (i := 1) dX2_become_108 rfl rfl ?_
  refine gX2_night (pc := 109) (y := y) hy q_169 dX2_become_109 ?_
  refine pX2_night (pc := 112) (y := y) hy q_169 dX2_become_112 ?_
  refine v_nms (fun σ10 => ?_)
  refine v_aload_n (pc := 115) (i := 0) dX2_become_115 rfl rfl ?_
  refine v_aload_n (pc := 116) (i := 1) dX2_become_116 rfl rfl ?_
  refine gX2_law (pc := 117) (y := y) hy q_172 dX2_become_117 ?_
  refine pX2_law (pc := 120) (y := y) hy q_172 dX2_become_120 ?_
  refine v_nms (fun σ11 => ?_)
  exact v_ret (pc := 123) dX2_become_123
theorem ct_X2_become {g : Gt} {ad : Nat → Nat} {y : Nat} (hy : y < 3) : CT g (LX ad) yX2_become cX2_become 2 none 1 [.ref (aSea ad y), .ref (aSea ad y)] iU (wX g ad) (f_X2_become y) :=
  ct_of_V (own := RX2) (lv0 := [(0, .ref (aSea ad y)), (1, .ref (aSea ad y))]) (by decide +kernel) rfl (Nat.le_of_ble_eq_true rfl) rfl (fun z σ => vf_X2_become z y hy σ)
-- LighthouseLiedTo$Sea.lossesIn
theorem dX2_lossesIn_0 : decode cX2_lossesIn 0 = .ok (.aload_n 0, 1) := by decide +kernel
theorem dX2_lossesIn_1 : decode cX2_lossesIn 1 = .ok (.getfield 41, 3) := by decide +kernel
theorem dX2_lossesIn_4 : decode cX2_lossesIn 4 = .ok (.istore_n 2, 1) := by decide +kernel
theorem dX2_lossesIn_5 : decode cX2_lossesIn 5 = .ok (.iconst 0, 1) := by decide +kernel
theorem dX2_lossesIn_6 : decode cX2_lossesIn 6 = .ok (.istore_n 3, 1) := by decide +kernel
theorem dX2_lossesIn_7 : decode cX2_lossesIn 7 = .ok (.iload_n 3, 1) := by decide +kernel
theorem dX2_lossesIn_8 : decode cX2_lossesIn 8 = .ok (.iload_n 1, 1) := by decide +kernel
theorem dX2_lossesIn_9 : decode cX2_lossesIn 9 = .ok (.if_icmp .ge 13, 3) := by decide +kernel
theorem dX2_lossesIn_12 : decode cX2_lossesIn 12 = .ok (.aload_n 0, 1) := by decide +kernel
theorem dX2_lossesIn_13 : decode cX2_lossesIn 13 = .ok (.invokevirtual 106, 3) := by decide +kernel
theorem dX2_lossesIn_16 : decode cX2_lossesIn 16 = .ok (.iinc 3 1, 3) := by decide +kernel
theorem dX2_lossesIn_19 : decode cX2_lossesIn 19 = .ok (.goto (-12), 3) := by decide +kernel
theorem dX2_lossesIn_22 : decode cX2_lossesIn 22 = .ok (.aload_n 0, 1) := by decide +kernel
theorem dX2_lossesIn_23 : decode cX2_lossesIn 23 = .ok (.getfield 41, 3) := by decide +kernel
theorem dX2_lossesIn_26 : decode cX2_lossesIn 26 = .ok (.iload_n 2, 1) := by decide +kernel
theorem dX2_lossesIn_27 : decode cX2_lossesIn 27 = .ok (.iconst (-1), 1) := by decide +kernel
theorem dX2_lossesIn_28 : decode cX2_lossesIn 28 = .ok (.ixor, 1) := by decide +kernel
theorem dX2_lossesIn_29 : decode cX2_lossesIn 29 = .ok (.iand, 1) := by decide +kernel
theorem dX2_lossesIn_30 : decode cX2_lossesIn 30 = .ok (.invokestatic 109, 3) := by decide +kernel
theorem dX2_lossesIn_33 : decode cX2_lossesIn 33 = .ok (.ireturn, 1) := by decide +kernel
def b_X2_lossesIn_7 (y : Nat) (kc7 : Int32 → Int32 → Int32 → GX → Option (Int32 × GX)) (x1 : Int32) (x2 : Int32) (x3 : Int32) (σ : GX) : Option (Int32 × GX) :=
  if x1 ≤ x3 then (bnd (f_J6_bitCount_0f7a4 ((xS σ y 0) &&& (x2 ^^^ (-1 : Int32))) σ) fun q2 => some (q2.1, q2.2)) else (bnd (f_X2_passNight y σ) fun q3 => kc7 x1 x2 (x3 + (1 : Int32)) q3.2)
theorem vb_X2_lossesIn_7 {g : Gt} {ad : Nat → Nat} (z : Zt) (y : Nat) (hy : y < 3) (kc7 : Int32 → Int32 → Int32 → GX → Option (Int32 × GX)) (hkc7 : ∀ (x1 : Int32) (x2 : Int32) (x3 : Int32) (σ : GX), V g (LX ad) 7 RX2 cX2_lossesIn 4 (some .int) (wX g ad) iI z (kc7 x1 x2 x3 σ) σ 7 [(0, .ref (aSea ad y)), (1, .int x1), (2, .int x2), (3, .int x3)] []) (x1 : Int32) (x2 : Int32) (x3 : Int32) (σ : GX) : V g (LX ad) 7 RX2 cX2_lossesIn 4 (some .int) (wX g ad) iI z (b_X2_lossesIn_7 y kc7 x1 x2 x3 σ) σ 7 [(0, .ref (aSea ad y)), (1, .int x1), (2, .int x2), (3, .int x3)] [] := by
  unfold b_X2_lossesIn_7
  refine v_iload_n (pc := 7) (i := 3) dX2_lossesIn_7 rfl rfl ?_
  refine v_iload_n (pc := 8) (i := 1) dX2_lossesIn_8 rfl rfl ?_
  refine v_icmp_ge (pc := 9) (tgt := 22) dX2_lossesIn_9 rfl ?_ ?_
  · refine v_aload_n (pc := 22) (i := 0) dX2_lossesIn_22 rfl rfl ?_
    refine gX2_lost (pc := 23) (y := y) hy q_161 dX2_lossesIn_23 ?_
    refine v_iload_n (pc := 26) (i := 2) dX2_lossesIn_26 rfl rfl ?_
    refine v_iconst (pc := 27) dX2_lossesIn_27 ic_m1 ?_
    refine v_ixor (pc := 28) dX2_lossesIn_28 ?_
    refine v_iand (pc := 29) dX2_lossesIn_29 ?_
    refine v_callSi (pc := 30) (av := [.int ((xS σ y 0) &&& (x2 ^^^ (-1 : Int32)))]) (rest := []) (ct_J6_bitCount_0f7a4 ((xS σ y 0) &&& (x2 ^^^ (-1 : Int32)))) mi_J6_bitCount_0f7a4 q_533 (by decide) rfl rfl (Nat.le_of_ble_eq_true rfl) dX2_lossesIn_30 (fun q2 => ?_)
    exact v_iret (pc := 33) dX2_lossesIn_33
  · refine v_aload_n (pc := 12) (i := 0) dX2_lossesIn_12 rfl rfl ?_
    refine v_callVv (pc := 13) (rcX2 hy) (As := []) (rest := []) (ct_X2_passNight hy) mi_X2_passNight q_532 (by decide) rfl rfl (Nat.le_of_ble_eq_true rfl) dX2_lossesIn_13 (fun q3 => ?_)
    refine v_iinc (pc := 16) (lv' := [(3, .int (x3 + (1 : Int32))), (0, .ref (aSea ad y)), (1, .int x1), (2, .int x2)]) (i := 3) dX2_lossesIn_16 rfl ic_1 (by decide) rfl ?_
    refine v_goto (pc := 19) (tgt := 7) dX2_lossesIn_19 rfl ?_
    exact v_sub [1, 2, 3, 0] rfl (hkc7 x1 x2 (x3 + (1 : Int32)) q3.2)
def k_X2_lossesIn_7 (y : Nat) : Nat → Int32 → Int32 → Int32 → GX → Option (Int32 × GX)
  | 0 => fun _ _ _ _ => none
  | n + 1 => b_X2_lossesIn_7 y (k_X2_lossesIn_7 y n)
theorem vk_X2_lossesIn_7 {g : Gt} {ad : Nat → Nat} (z : Zt) (y : Nat) (hy : y < 3) : ∀ (n : Nat) (x1 : Int32) (x2 : Int32) (x3 : Int32) (σ : GX), V g (LX ad) 7 RX2 cX2_lossesIn 4 (some .int) (wX g ad) iI z (k_X2_lossesIn_7 y n x1 x2 x3 σ) σ 7 [(0, .ref (aSea ad y)), (1, .int x1), (2, .int x2), (3, .int x3)] [] := by
  intro n
  induction n with
  | zero => intros; exact v_eq rfl v_none
  | succ n ih =>
    intro x1 x2 x3 σ
    exact v_eq rfl (vb_X2_lossesIn_7 z y hy _ ih x1 x2 x3 σ)
def f_X2_lossesIn (y : Nat) (x1 : Int32) (σ : GX) : Option (Int32 × GX) :=
  bnd (some (xS σ y 0)) fun w1 => k_X2_lossesIn_7 y FU x1 w1 (0 : Int32) σ
theorem vf_X2_lossesIn {g : Gt} {ad : Nat → Nat} (z : Zt) (y : Nat) (hy : y < 3) (x1 : Int32) (σ : GX) : V g (LX ad) 7 RX2 cX2_lossesIn 4 (some .int) (wX g ad) iI z (f_X2_lossesIn y x1 σ) σ 0 [(0, .ref (aSea ad y)), (1, .int x1)] [] := by
  unfold f_X2_lossesIn
  refine v_aload_n (pc := 0) (i := 0) dX2_lossesIn_0 rfl rfl ?_
  refine gX2_lost (pc := 1) (y := y) hy q_161 dX2_lossesIn_1 ?_
  refine v_nmi (fun w1 => ?_)
  refine v_istore_n (pc := 4) (lv' := [(2, .int w1), (0, .ref (aSea ad y)), (1, .int x1)]) (i := 2) dX2_lossesIn_4 rfl (by decide) rfl ?_
  refine v_iconst (pc := 5) dX2_lossesIn_5 ic_0 ?_
  refine v_istore_n (pc := 6) (lv' := [(3, .int (0 : Int32)), (2, .int w1), (0, .ref (aSea ad y)), (1, .int x1)]) (i := 3) dX2_lossesIn_6 rfl (by decide) rfl ?_
  exact v_sub [2, 3, 1, 0] rfl (vk_X2_lossesIn_7 z y hy FU x1 w1 (0 : Int32) σ)
theorem ct_X2_lossesIn {g : Gt} {ad : Nat → Nat} {y : Nat} (hy : y < 3) (x1 : Int32) : CT g (LX ad) yX2_lossesIn cX2_lossesIn 4 (some .int) 7 [.ref (aSea ad y), .int x1] iI (wX g ad) (f_X2_lossesIn y x1) :=
  ct_of_V (own := RX2) (lv0 := [(0, .ref (aSea ad y)), (1, .int x1)]) (by decide +kernel) rfl (Nat.le_of_ble_eq_true rfl) rfl (fun z σ => vf_X2_lossesIn z y hy x1 σ)
-- LighthouseLiedTo$Sea.allBelief
theorem dX2_allBelief_0 : decode cX2_allBelief 0 = .ok (.iconst 0, 1) := by decide +kernel
theorem dX2_allBelief_1 : decode cX2_allBelief 1 = .ok (.istore_n 1, 1) := by decide +kernel
theorem dX2_allBelief_2 : decode cX2_allBelief 2 = .ok (.iconst 0, 1) := by decide +kernel
theorem dX2_allBelief_3 : decode cX2_allBelief 3 = .ok (.istore_n 2, 1) := by decide +kernel
theorem dX2_allBelief_4 : decode cX2_allBelief 4 = .ok (.iload_n 2, 1) := by decide +kernel
theorem dX2_allBelief_5 : decode cX2_allBelief 5 = .ok (.bipush 36, 2) := by decide +kernel
theorem dX2_allBelief_7 : decode cX2_allBelief 7 = .ok (.if_icmp .ge 18, 3) := by decide +kernel
theorem dX2_allBelief_10 : decode cX2_allBelief 10 = .ok (.iload_n 1, 1) := by decide +kernel
theorem dX2_allBelief_11 : decode cX2_allBelief 11 = .ok (.aload_n 0, 1) := by decide +kernel
theorem dX2_allBelief_12 : decode cX2_allBelief 12 = .ok (.getfield 9, 3) := by decide +kernel
theorem dX2_allBelief_15 : decode cX2_allBelief 15 = .ok (.iload_n 2, 1) := by decide +kernel
theorem dX2_allBelief_16 : decode cX2_allBelief 16 = .ok (.iaload, 1) := by decide +kernel
theorem dX2_allBelief_17 : decode cX2_allBelief 17 = .ok (.iadd, 1) := by decide +kernel
theorem dX2_allBelief_18 : decode cX2_allBelief 18 = .ok (.istore_n 1, 1) := by decide +kernel
theorem dX2_allBelief_19 : decode cX2_allBelief 19 = .ok (.iinc 2 1, 3) := by decide +kernel
theorem dX2_allBelief_22 : decode cX2_allBelief 22 = .ok (.goto (-18), 3) := by decide +kernel
theorem dX2_allBelief_25 : decode cX2_allBelief 25 = .ok (.iload_n 1, 1) := by decide +kernel
theorem dX2_allBelief_26 : decode cX2_allBelief 26 = .ok (.ireturn, 1) := by decide +kernel
def b_X2_allBelief_4 (y : Nat) (kc4 : Int32 → Int32 → GX → Option (Int32 × GX)) (x1 : Int32) (x2 : Int32) (σ : GX) : Option (Int32 × GX) :=
  if (36 : Int32) ≤ x2 then (some (x1, σ)) else (grd x2 36 (bnd (some (x1 + (xB σ y 0 x2.toNatClampNeg))) fun w1 => kc4 w1 (x2 + (1 : Int32)) σ))
theorem vb_X2_allBelief_4 {g : Gt} {ad : Nat → Nat} (z : Zt) (y : Nat) (hy : y < 3) (kc4 : Int32 → Int32 → GX → Option (Int32 × GX)) (hkc4 : ∀ (x1 : Int32) (x2 : Int32) (σ : GX), V g (LX ad) 1 RX2 cX2_allBelief 3 (some .int) (wX g ad) iI z (kc4 x1 x2 σ) σ 4 [(0, .ref (aSea ad y)), (1, .int x1), (2, .int x2)] []) (x1 : Int32) (x2 : Int32) (σ : GX) : V g (LX ad) 1 RX2 cX2_allBelief 3 (some .int) (wX g ad) iI z (b_X2_allBelief_4 y kc4 x1 x2 σ) σ 4 [(0, .ref (aSea ad y)), (1, .int x1), (2, .int x2)] [] := by
  unfold b_X2_allBelief_4
  refine v_iload_n (pc := 4) (i := 2) dX2_allBelief_4 rfl rfl ?_
  refine v_bipush (pc := 5) dX2_allBelief_5 bp_36 ?_
  refine v_icmp_ge (pc := 7) (tgt := 25) dX2_allBelief_7 rfl ?_ ?_
  · refine v_iload_n (pc := 25) (i := 1) dX2_allBelief_25 rfl rfl ?_
    exact v_iret (pc := 26) dX2_allBelief_26
  · refine v_iload_n (pc := 10) (i := 1) dX2_allBelief_10 rfl rfl ?_
    refine v_aload_n (pc := 11) (i := 0) dX2_allBelief_11 rfl rfl ?_
    refine gX2_belief (pc := 12) (y := y) hy q_148 dX2_allBelief_12 ?_
    refine v_iload_n (pc := 15) (i := 2) dX2_allBelief_15 rfl rfl ?_
    refine lX_sea0 (pc := 16) (y := y) hy dX2_allBelief_16 ?_
    refine v_iadd (pc := 17) dX2_allBelief_17 ?_
    refine v_nmi (fun w1 => ?_)
    refine v_istore_n (pc := 18) (lv' := [(1, .int w1), (0, .ref (aSea ad y)), (2, .int x2)]) (i := 1) dX2_allBelief_18 rfl (by decide) rfl ?_
    refine v_iinc (pc := 19) (lv' := [(2, .int (x2 + (1 : Int32))), (1, .int w1), (0, .ref (aSea ad y))]) (i := 2) dX2_allBelief_19 rfl ic_1 (by decide) rfl ?_
    refine v_goto (pc := 22) (tgt := 4) dX2_allBelief_22 rfl ?_
    exact v_sub [2, 1, 0] rfl (hkc4 w1 (x2 + (1 : Int32)) σ)
def k_X2_allBelief_4 (y : Nat) : Nat → Int32 → Int32 → GX → Option (Int32 × GX)
  | 0 => fun _ _ _ => none
  | n + 1 => b_X2_allBelief_4 y (k_X2_allBelief_4 y n)
theorem vk_X2_allBelief_4 {g : Gt} {ad : Nat → Nat} (z : Zt) (y : Nat) (hy : y < 3) : ∀ (n : Nat) (x1 : Int32) (x2 : Int32) (σ : GX), V g (LX ad) 1 RX2 cX2_allBelief 3 (some .int) (wX g ad) iI z (k_X2_allBelief_4 y n x1 x2 σ) σ 4 [(0, .ref (aSea ad y)), (1, .int x1), (2, .int x2)] [] := by
  intro n
  induction n with
  | zero => intros; exact v_eq rfl v_none
  | succ n ih =>
    intro x1 x2 σ
    exact v_eq rfl (vb_X2_allBelief_4 z y hy _ ih x1 x2 σ)
def f_X2_allBelief (y : Nat) (σ : GX) : Option (Int32 × GX) :=
  k_X2_allBelief_4 y FU (0 : Int32) (0 : Int32) σ
theorem vf_X2_allBelief {g : Gt} {ad : Nat → Nat} (z : Zt) (y : Nat) (hy : y < 3) (σ : GX) : V g (LX ad) 1 RX2 cX2_allBelief 3 (some .int) (wX g ad) iI z (f_X2_allBelief y σ) σ 0 [(0, .ref (aSea ad y))] [] := by
  unfold f_X2_allBelief
  refine v_iconst (pc := 0) dX2_allBelief_0 ic_0 ?_
  refine v_istore_n (pc := 1) (lv' := [(1, .int (0 : Int32)), (0, .ref (aSea ad y))]) (i := 1) dX2_allBelief_1 rfl (by decide) rfl ?_
  refine v_iconst (pc := 2) dX2_allBelief_2 ic_0 ?_
  refine v_istore_n (pc := 3) (lv' := [(2, .int (0 : Int32)), (1, .int (0 : Int32)), (0, .ref (aSea ad y))]) (i := 2) dX2_allBelief_3 rfl (by decide) rfl ?_
  exact v_sub [2, 1, 0] rfl (vk_X2_allBelief_4 z y hy FU (0 : Int32) (0 : Int32) σ)
theorem ct_X2_allBelief {g : Gt} {ad : Nat → Nat} {y : Nat} (hy : y < 3) : CT g (LX ad) yX2_allBelief cX2_allBelief 3 (some .int) 1 [.ref (aSea ad y)] iI (wX g ad) (f_X2_allBelief y) :=
  ct_of_V (own := RX2) (lv0 := [(0, .ref (aSea ad y))]) (by decide +kernel) rfl (Nat.le_of_ble_eq_true rfl) rfl (fun z σ => vf_X2_allBelief z y hy σ)
-- LighthouseLiedTo$Sea.brightest
theorem dX2_brightest_0 : decode cX2_brightest 0 = .ok (.lconst 0, 1) := by decide +kernel
theorem dX2_brightest_1 : decode cX2_brightest 1 = .ok (.lstore_n 1, 1) := by decide +kernel
theorem dX2_brightest_2 : decode cX2_brightest 2 = .ok (.bipush (-100), 2) := by decide +kernel
theorem dX2_brightest_4 : decode cX2_brightest 4 = .ok (.istore_n 3, 1) := by decide +kernel
theorem dX2_brightest_5 : decode cX2_brightest 5 = .ok (.iconst 0, 1) := by decide +kernel
theorem dX2_brightest_6 : decode cX2_brightest 6 = .ok (.istore 4, 2) := by decide +kernel
theorem dX2_brightest_8 : decode cX2_brightest 8 = .ok (.iload 4, 2) := by decide +kernel
theorem dX2_brightest_10 : decode cX2_brightest 10 = .ok (.bipush 36, 2) := by decide +kernel
theorem dX2_brightest_12 : decode cX2_brightest 12 = .ok (.if_icmp .ge 43, 3) := by decide +kernel
theorem dX2_brightest_15 : decode cX2_brightest 15 = .ok (.aload_n 0, 1) := by decide +kernel
theorem dX2_brightest_16 : decode cX2_brightest 16 = .ok (.iconst 0, 1) := by decide +kernel
theorem dX2_brightest_17 : decode cX2_brightest 17 = .ok (.iload 4, 2) := by decide +kernel
theorem dX2_brightest_19 : decode cX2_brightest 19 = .ok (.iconst 0, 1) := by decide +kernel
theorem dX2_brightest_20 : decode cX2_brightest 20 = .ok (.invokevirtual 61, 3) := by decide +kernel
theorem dX2_brightest_23 : decode cX2_brightest 23 = .ok (.istore 5, 2) := by decide +kernel
theorem dX2_brightest_25 : decode cX2_brightest 25 = .ok (.iload 5, 2) := by decide +kernel
theorem dX2_brightest_27 : decode cX2_brightest 27 = .ok (.iload_n 3, 1) := by decide +kernel
theorem dX2_brightest_28 : decode cX2_brightest 28 = .ok (.if_icmp .le 8, 3) := by decide +kernel
theorem dX2_brightest_31 : decode cX2_brightest 31 = .ok (.iload 5, 2) := by decide +kernel
theorem dX2_brightest_33 : decode cX2_brightest 33 = .ok (.istore_n 3, 1) := by decide +kernel
theorem dX2_brightest_34 : decode cX2_brightest 34 = .ok (.lconst 0, 1) := by decide +kernel
theorem dX2_brightest_35 : decode cX2_brightest 35 = .ok (.lstore_n 1, 1) := by decide +kernel
theorem dX2_brightest_36 : decode cX2_brightest 36 = .ok (.iload 5, 2) := by decide +kernel
theorem dX2_brightest_38 : decode cX2_brightest 38 = .ok (.iload_n 3, 1) := by decide +kernel
theorem dX2_brightest_39 : decode cX2_brightest 39 = .ok (.if_icmp .ne 10, 3) := by decide +kernel
theorem dX2_brightest_42 : decode cX2_brightest 42 = .ok (.lload_n 1, 1) := by decide +kernel
theorem dX2_brightest_43 : decode cX2_brightest 43 = .ok (.lconst 1, 1) := by decide +kernel
theorem dX2_brightest_44 : decode cX2_brightest 44 = .ok (.iload 4, 2) := by decide +kernel
theorem dX2_brightest_46 : decode cX2_brightest 46 = .ok (.lshl, 1) := by decide +kernel
theorem dX2_brightest_47 : decode cX2_brightest 47 = .ok (.lor, 1) := by decide +kernel
theorem dX2_brightest_48 : decode cX2_brightest 48 = .ok (.lstore_n 1, 1) := by decide +kernel
theorem dX2_brightest_49 : decode cX2_brightest 49 = .ok (.iinc 4 1, 3) := by decide +kernel
theorem dX2_brightest_52 : decode cX2_brightest 52 = .ok (.goto (-44), 3) := by decide +kernel
theorem dX2_brightest_55 : decode cX2_brightest 55 = .ok (.lload_n 1, 1) := by decide +kernel
theorem dX2_brightest_56 : decode cX2_brightest 56 = .ok (.lreturn, 1) := by decide +kernel
def b_X2_brightest_36 (y : Nat) (kc8 : Int64 → Int32 → Int32 → GX → Option (Int64 × GX)) (x1 : Int64) (x3 : Int32) (x4 : Int32) (x5 : Int32) (σ : GX) : Option (Int64 × GX) :=
  if x5 ≠ x3 then (kc8 x1 x3 (x4 + (1 : Int32)) σ) else (bnd (some (x1 ||| (slL (1 : Int64) x4))) fun w2 => kc8 w2 x3 (x4 + (1 : Int32)) σ)
theorem vb_X2_brightest_36 {g : Gt} {ad : Nat → Nat} (z : Zt) (y : Nat) (hy : y < 3) (kc8 : Int64 → Int32 → Int32 → GX → Option (Int64 × GX)) (hkc8 : ∀ (x1 : Int64) (x3 : Int32) (x4 : Int32) (σ : GX), V g (LX ad) 4 RX2 cX2_brightest 6 (some .long) (wX g ad) iL z (kc8 x1 x3 x4 σ) σ 8 [(0, .ref (aSea ad y)), (1, .long x1), (3, .int x3), (4, .int x4)] []) (x1 : Int64) (x3 : Int32) (x4 : Int32) (x5 : Int32) (σ : GX) : V g (LX ad) 4 RX2 cX2_brightest 6 (some .long) (wX g ad) iL z (b_X2_brightest_36 y kc8 x1 x3 x4 x5 σ) σ 36 [(0, .ref (aSea ad y)), (1, .long x1), (3, .int x3), (4, .int x4), (5, .int x5)] [] := by
  unfold b_X2_brightest_36
  refine v_iload (pc := 36) (i := 5) dX2_brightest_36 rfl ?_
  refine v_iload_n (pc := 38) (i := 3) dX2_brightest_38 rfl rfl ?_
  refine v_icmp_ne (pc := 39) (tgt := 49) dX2_brightest_39 rfl ?_ ?_
  · refine v_iinc (pc := 49) (lv' := [(4, .int (x4 + (1 : Int32))), (0, .ref (aSea ad y)), (1, .long x1), (3, .int x3), (5, .int x5)]) (i := 4) dX2_brightest_49 rfl ic_1 (by decide) rfl ?_
    refine v_goto (pc := 52) (tgt := 8) dX2_brightest_52 rfl ?_
    exact v_sub [1, 2, 3, 0] rfl (hkc8 x1 x3 (x4 + (1 : Int32)) σ)
  · refine v_lload_n (pc := 42) (i := 1) dX2_brightest_42 rfl rfl ?_
    refine v_lconst (pc := 43) dX2_brightest_43 lc_1 ?_
    refine v_iload (pc := 44) (i := 4) dX2_brightest_44 rfl ?_
    refine v_lshl (pc := 46) dX2_brightest_46 ?_
    refine v_lor (pc := 47) dX2_brightest_47 ?_
    refine v_nml (fun w2 => ?_)
    refine v_lstore_n (pc := 48) (lv' := [(1, .long w2), (0, .ref (aSea ad y)), (3, .int x3), (4, .int x4), (5, .int x5)]) (i := 1) dX2_brightest_48 rfl (by decide) rfl ?_
    refine v_iinc (pc := 49) (lv' := [(4, .int (x4 + (1 : Int32))), (1, .long w2), (0, .ref (aSea ad y)), (3, .int x3), (5, .int x5)]) (i := 4) dX2_brightest_49 rfl ic_1 (by decide) rfl ?_
    refine v_goto (pc := 52) (tgt := 8) dX2_brightest_52 rfl ?_
    exact v_sub [2, 1, 3, 0] rfl (hkc8 w2 x3 (x4 + (1 : Int32)) σ)
def b_X2_brightest_8 (y : Nat) (kc8 : Int64 → Int32 → Int32 → GX → Option (Int64 × GX)) (x1 : Int64) (x3 : Int32) (x4 : Int32) (σ : GX) : Option (Int64 × GX) :=
  if (36 : Int32) ≤ x4 then (some (x1, σ)) else (bnd (f_X2_says y (0 : Int32) x4 (0 : Int32) σ) fun q1 => if q1.1 ≤ x3 then (b_X2_brightest_36 y kc8 x1 x3 x4 q1.1 q1.2) else (b_X2_brightest_36 y kc8 (0 : Int64) q1.1 x4 q1.1 q1.2))
theorem vb_X2_brightest_8 {g : Gt} {ad : Nat → Nat} (z : Zt) (y : Nat) (hy : y < 3) (kc8 : Int64 → Int32 → Int32 → GX → Option (Int64 × GX)) (hkc8 : ∀ (x1 : Int64) (x3 : Int32) (x4 : Int32) (σ : GX), V g (LX ad) 4 RX2 cX2_brightest 6 (some .long) (wX g ad) iL z (kc8 x1 x3 x4 σ) σ 8 [(0, .ref (aSea ad y)), (1, .long x1), (3, .int x3), (4, .int x4)] []) (x1 : Int64) (x3 : Int32) (x4 : Int32) (σ : GX) : V g (LX ad) 4 RX2 cX2_brightest 6 (some .long) (wX g ad) iL z (b_X2_brightest_8 y kc8 x1 x3 x4 σ) σ 8 [(0, .ref (aSea ad y)), (1, .long x1), (3, .int x3), (4, .int x4)] [] := by
  unfold b_X2_brightest_8
  refine v_iload (pc := 8) (i := 4) dX2_brightest_8 rfl ?_
  refine v_bipush (pc := 10) dX2_brightest_10 bp_36 ?_
  refine v_icmp_ge (pc := 12) (tgt := 55) dX2_brightest_12 rfl ?_ ?_
  · refine v_lload_n (pc := 55) (i := 1) dX2_brightest_55 rfl rfl ?_
    exact v_lret (pc := 56) dX2_brightest_56
  · refine v_aload_n (pc := 15) (i := 0) dX2_brightest_15 rfl rfl ?_
    refine v_iconst (pc := 16) dX2_brightest_16 ic_0 ?_
    refine v_iload (pc := 17) (i := 4) dX2_brightest_17 rfl ?_
    refine v_iconst (pc := 19) dX2_brightest_19 ic_0 ?_
    refine v_callVi (pc := 20) (rcX2 hy) (As := [.int (0 : Int32), .int x4, .int (0 : Int32)]) (rest := []) (ct_X2_says hy (0 : Int32) x4 (0 : Int32)) mi_X2_says q_479 (by decide) rfl rfl (Nat.le_of_ble_eq_true rfl) dX2_brightest_20 (fun q1 => ?_)
    refine v_istore (pc := 23) (lv' := [(5, .int q1.1), (0, .ref (aSea ad y)), (1, .long x1), (3, .int x3), (4, .int x4)]) (i := 5) dX2_brightest_23 (by decide) rfl ?_
    refine v_iload (pc := 25) (i := 5) dX2_brightest_25 rfl ?_
    refine v_iload_n (pc := 27) (i := 3) dX2_brightest_27 rfl rfl ?_
    refine v_icmp_le (pc := 28) (tgt := 36) dX2_brightest_28 rfl ?_ ?_
    · exact v_sub [1, 2, 3, 4, 0] rfl (vb_X2_brightest_36 z y hy kc8 hkc8 x1 x3 x4 q1.1 q1.2)
    · refine v_iload (pc := 31) (i := 5) dX2_brightest_31 rfl ?_
      refine v_istore_n (pc := 33) (lv' := [(3, .int q1.1), (5, .int q1.1), (0, .ref (aSea ad y)), (1, .long x1), (4, .int x4)]) (i := 3) dX2_brightest_33 rfl (by decide) rfl ?_
      refine v_lconst (pc := 34) dX2_brightest_34 lc_0 ?_
      refine v_lstore_n (pc := 35) (lv' := [(1, .long (0 : Int64)), (3, .int q1.1), (5, .int q1.1), (0, .ref (aSea ad y)), (4, .int x4)]) (i := 1) dX2_brightest_35 rfl (by decide) rfl ?_
      exact v_sub [3, 0, 1, 4, 2] rfl (vb_X2_brightest_36 z y hy kc8 hkc8 (0 : Int64) q1.1 x4 q1.1 q1.2)
def k_X2_brightest_8 (y : Nat) : Nat → Int64 → Int32 → Int32 → GX → Option (Int64 × GX)
  | 0 => fun _ _ _ _ => none
  | n + 1 => b_X2_brightest_8 y (k_X2_brightest_8 y n)
theorem vk_X2_brightest_8 {g : Gt} {ad : Nat → Nat} (z : Zt) (y : Nat) (hy : y < 3) : ∀ (n : Nat) (x1 : Int64) (x3 : Int32) (x4 : Int32) (σ : GX), V g (LX ad) 4 RX2 cX2_brightest 6 (some .long) (wX g ad) iL z (k_X2_brightest_8 y n x1 x3 x4 σ) σ 8 [(0, .ref (aSea ad y)), (1, .long x1), (3, .int x3), (4, .int x4)] [] := by
  intro n
  induction n with
  | zero => intros; exact v_eq rfl v_none
  | succ n ih =>
    intro x1 x3 x4 σ
    exact v_eq rfl (vb_X2_brightest_8 z y hy _ ih x1 x3 x4 σ)
def f_X2_brightest (y : Nat) (σ : GX) : Option (Int64 × GX) :=
  k_X2_brightest_8 y FU (0 : Int64) (-100 : Int32) (0 : Int32) σ
theorem vf_X2_brightest {g : Gt} {ad : Nat → Nat} (z : Zt) (y : Nat) (hy : y < 3) (σ : GX) : V g (LX ad) 4 RX2 cX2_brightest 6 (some .long) (wX g ad) iL z (f_X2_brightest y σ) σ 0 [(0, .ref (aSea ad y))] [] := by
  unfold f_X2_brightest
  refine v_lconst (pc := 0) dX2_brightest_0 lc_0 ?_
  refine v_lstore_n (pc := 1) (lv' := [(1, .long (0 : Int64)), (0, .ref (aSea ad y))]) (i := 1) dX2_brightest_1 rfl (by decide) rfl ?_
  refine v_bipush (pc := 2) dX2_brightest_2 bp_m100 ?_
  refine v_istore_n (pc := 4) (lv' := [(3, .int (-100 : Int32)), (1, .long (0 : Int64)), (0, .ref (aSea ad y))]) (i := 3) dX2_brightest_4 rfl (by decide) rfl ?_
  refine v_iconst (pc := 5) dX2_brightest_5 ic_0 ?_
  refine v_istore (pc := 6) (lv' := [(4, .int (0 : Int32)), (3, .int (-100 : Int32)), (1, .long (0 : Int64)), (0, .ref (aSea ad y))]) (i := 4) dX2_brightest_6 (by decide) rfl ?_
  exact v_sub [3, 2, 1, 0] rfl (vk_X2_brightest_8 z y hy FU (0 : Int64) (-100 : Int32) (0 : Int32) σ)
theorem ct_X2_brightest {g : Gt} {ad : Nat → Nat} {y : Nat} (hy : y < 3) : CT g (LX ad) yX2_brightest cX2_brightest 6 (some .long) 4 [.ref (aSea ad y)] iL (wX g ad) (f_X2_brightest y) :=
  ct_of_V (own := RX2) (lv0 := [(0, .ref (aSea ad y))]) (by decide +kernel) rfl (Nat.le_of_ble_eq_true rfl) rfl (fun z σ => vf_X2_brightest z y hy σ)
-- LighthouseLiedTo$Sea.surelyRocks
theorem dX2_surelyRocks_0 : decode cX2_surelyRocks 0 = .ok (.lconst 0, 1) := by decide +kernel
theorem dX2_surelyRocks_1 : decode cX2_surelyRocks 1 = .ok (.lstore_n 1, 1) := by decide +kernel
theorem dX2_surelyRocks_2 : decode cX2_surelyRocks 2 = .ok (.iconst 0, 1) := by decide +kernel
theorem dX2_surelyRocks_3 : decode cX2_surelyRocks 3 = .ok (.istore_n 3, 1) := by decide +kernel
theorem dX2_surelyRocks_4 : decode cX2_surelyRocks 4 = .ok (.iload_n 3, 1) := by decide +kernel
theorem dX2_surelyRocks_5 : decode cX2_surelyRocks 5 = .ok (.bipush 36, 2) := by decide +kernel
theorem dX2_surelyRocks_7 : decode cX2_surelyRocks 7 = .ok (.if_icmp .ge 30, 3) := by decide +kernel
theorem dX2_surelyRocks_10 : decode cX2_surelyRocks 10 = .ok (.lload_n 1, 1) := by decide +kernel
theorem dX2_surelyRocks_11 : decode cX2_surelyRocks 11 = .ok (.aload_n 0, 1) := by decide +kernel
theorem dX2_surelyRocks_12 : decode cX2_surelyRocks 12 = .ok (.getfield 9, 3) := by decide +kernel
theorem dX2_surelyRocks_15 : decode cX2_surelyRocks 15 = .ok (.iload_n 3, 1) := by decide +kernel
theorem dX2_surelyRocks_16 : decode cX2_surelyRocks 16 = .ok (.iaload, 1) := by decide +kernel
theorem dX2_surelyRocks_17 : decode cX2_surelyRocks 17 = .ok (.bipush 50, 2) := by decide +kernel
theorem dX2_surelyRocks_19 : decode cX2_surelyRocks 19 = .ok (.if_icmp .lt 9, 3) := by decide +kernel
theorem dX2_surelyRocks_22 : decode cX2_surelyRocks 22 = .ok (.lconst 1, 1) := by decide +kernel
theorem dX2_surelyRocks_23 : decode cX2_surelyRocks 23 = .ok (.iload_n 3, 1) := by decide +kernel
theorem dX2_surelyRocks_24 : decode cX2_surelyRocks 24 = .ok (.lshl, 1) := by decide +kernel
theorem dX2_surelyRocks_25 : decode cX2_surelyRocks 25 = .ok (.goto 4, 3) := by decide +kernel
theorem dX2_surelyRocks_28 : decode cX2_surelyRocks 28 = .ok (.lconst 0, 1) := by decide +kernel
theorem dX2_surelyRocks_29 : decode cX2_surelyRocks 29 = .ok (.lor, 1) := by decide +kernel
theorem dX2_surelyRocks_30 : decode cX2_surelyRocks 30 = .ok (.lstore_n 1, 1) := by decide +kernel
theorem dX2_surelyRocks_31 : decode cX2_surelyRocks 31 = .ok (.iinc 3 1, 3) := by decide +kernel
theorem dX2_surelyRocks_34 : decode cX2_surelyRocks 34 = .ok (.goto (-30), 3) := by decide +kernel
theorem dX2_surelyRocks_37 : decode cX2_surelyRocks 37 = .ok (.lload_n 1, 1) := by decide +kernel
theorem dX2_surelyRocks_38 : decode cX2_surelyRocks 38 = .ok (.lreturn, 1) := by decide +kernel
def b_X2_surelyRocks_4 (y : Nat) (kc4 : Int64 → Int32 → GX → Option (Int64 × GX)) (x1 : Int64) (x3 : Int32) (σ : GX) : Option (Int64 × GX) :=
  if (36 : Int32) ≤ x3 then (some (x1, σ)) else (grd x3 36 (if (xB σ y 0 x3.toNatClampNeg) < (50 : Int32) then (bnd (some (x1 ||| (0 : Int64))) fun w1 => kc4 w1 (x3 + (1 : Int32)) σ) else (bnd (some (x1 ||| (slL (1 : Int64) x3))) fun w2 => kc4 w2 (x3 + (1 : Int32)) σ)))
theorem vb_X2_surelyRocks_4 {g : Gt} {ad : Nat → Nat} (z : Zt) (y : Nat) (hy : y < 3) (kc4 : Int64 → Int32 → GX → Option (Int64 × GX)) (hkc4 : ∀ (x1 : Int64) (x3 : Int32) (σ : GX), V g (LX ad) 1 RX2 cX2_surelyRocks 4 (some .long) (wX g ad) iL z (kc4 x1 x3 σ) σ 4 [(0, .ref (aSea ad y)), (1, .long x1), (3, .int x3)] []) (x1 : Int64) (x3 : Int32) (σ : GX) : V g (LX ad) 1 RX2 cX2_surelyRocks 4 (some .long) (wX g ad) iL z (b_X2_surelyRocks_4 y kc4 x1 x3 σ) σ 4 [(0, .ref (aSea ad y)), (1, .long x1), (3, .int x3)] [] := by
  unfold b_X2_surelyRocks_4
  refine v_iload_n (pc := 4) (i := 3) dX2_surelyRocks_4 rfl rfl ?_
  refine v_bipush (pc := 5) dX2_surelyRocks_5 bp_36 ?_
  refine v_icmp_ge (pc := 7) (tgt := 37) dX2_surelyRocks_7 rfl ?_ ?_
  · refine v_lload_n (pc := 37) (i := 1) dX2_surelyRocks_37 rfl rfl ?_
    exact v_lret (pc := 38) dX2_surelyRocks_38
  · refine v_lload_n (pc := 10) (i := 1) dX2_surelyRocks_10 rfl rfl ?_
    refine v_aload_n (pc := 11) (i := 0) dX2_surelyRocks_11 rfl rfl ?_
    refine gX2_belief (pc := 12) (y := y) hy q_148 dX2_surelyRocks_12 ?_
    refine v_iload_n (pc := 15) (i := 3) dX2_surelyRocks_15 rfl rfl ?_
    refine lX_sea0 (pc := 16) (y := y) hy dX2_surelyRocks_16 ?_
    refine v_bipush (pc := 17) dX2_surelyRocks_17 bp_50 ?_
    refine v_icmp_lt (pc := 19) (tgt := 28) dX2_surelyRocks_19 rfl ?_ ?_
    · refine v_lconst (pc := 28) dX2_surelyRocks_28 lc_0 ?_
      refine v_lor (pc := 29) dX2_surelyRocks_29 ?_
      refine v_nml (fun w1 => ?_)
      refine v_lstore_n (pc := 30) (lv' := [(1, .long w1), (0, .ref (aSea ad y)), (3, .int x3)]) (i := 1) dX2_surelyRocks_30 rfl (by decide) rfl ?_
      refine v_iinc (pc := 31) (lv' := [(3, .int (x3 + (1 : Int32))), (1, .long w1), (0, .ref (aSea ad y))]) (i := 3) dX2_surelyRocks_31 rfl ic_1 (by decide) rfl ?_
      refine v_goto (pc := 34) (tgt := 4) dX2_surelyRocks_34 rfl ?_
      exact v_sub [2, 1, 0] rfl (hkc4 w1 (x3 + (1 : Int32)) σ)
    · refine v_lconst (pc := 22) dX2_surelyRocks_22 lc_1 ?_
      refine v_iload_n (pc := 23) (i := 3) dX2_surelyRocks_23 rfl rfl ?_
      refine v_lshl (pc := 24) dX2_surelyRocks_24 ?_
      refine v_goto (pc := 25) (tgt := 29) dX2_surelyRocks_25 rfl ?_
      refine v_lor (pc := 29) dX2_surelyRocks_29 ?_
      refine v_nml (fun w2 => ?_)
      refine v_lstore_n (pc := 30) (lv' := [(1, .long w2), (0, .ref (aSea ad y)), (3, .int x3)]) (i := 1) dX2_surelyRocks_30 rfl (by decide) rfl ?_
      refine v_iinc (pc := 31) (lv' := [(3, .int (x3 + (1 : Int32))), (1, .long w2), (0, .ref (aSea ad y))]) (i := 3) dX2_surelyRocks_31 rfl ic_1 (by decide) rfl ?_
      refine v_goto (pc := 34) (tgt := 4) dX2_surelyRocks_34 rfl ?_
      exact v_sub [2, 1, 0] rfl (hkc4 w2 (x3 + (1 : Int32)) σ)
def k_X2_surelyRocks_4 (y : Nat) : Nat → Int64 → Int32 → GX → Option (Int64 × GX)
  | 0 => fun _ _ _ => none
  | n + 1 => b_X2_surelyRocks_4 y (k_X2_surelyRocks_4 y n)
theorem vk_X2_surelyRocks_4 {g : Gt} {ad : Nat → Nat} (z : Zt) (y : Nat) (hy : y < 3) : ∀ (n : Nat) (x1 : Int64) (x3 : Int32) (σ : GX), V g (LX ad) 1 RX2 cX2_surelyRocks 4 (some .long) (wX g ad) iL z (k_X2_surelyRocks_4 y n x1 x3 σ) σ 4 [(0, .ref (aSea ad y)), (1, .long x1), (3, .int x3)] [] := by
  intro n
  induction n with
  | zero => intros; exact v_eq rfl v_none
  | succ n ih =>
    intro x1 x3 σ
    exact v_eq rfl (vb_X2_surelyRocks_4 z y hy _ ih x1 x3 σ)
def f_X2_surelyRocks (y : Nat) (σ : GX) : Option (Int64 × GX) :=
  k_X2_surelyRocks_4 y FU (0 : Int64) (0 : Int32) σ
theorem vf_X2_surelyRocks {g : Gt} {ad : Nat → Nat} (z : Zt) (y : Nat) (hy : y < 3) (σ : GX) : V g (LX ad) 1 RX2 cX2_surelyRocks 4 (some .long) (wX g ad) iL z (f_X2_surelyRocks y σ) σ 0 [(0, .ref (aSea ad y))] [] := by
  unfold f_X2_surelyRocks
  refine v_lconst (pc := 0) dX2_surelyRocks_0 lc_0 ?_
  refine v_lstore_n (pc := 1) (lv' := [(1, .long (0 : Int64)), (0, .ref (aSea ad y))]) (i := 1) dX2_surelyRocks_1 rfl (by decide) rfl ?_
  refine v_iconst (pc := 2) dX2_surelyRocks_2 ic_0 ?_
  refine v_istore_n (pc := 3) (lv' := [(3, .int (0 : Int32)), (1, .long (0 : Int64)), (0, .ref (aSea ad y))]) (i := 3) dX2_surelyRocks_3 rfl (by decide) rfl ?_
  exact v_sub [2, 1, 0] rfl (vk_X2_surelyRocks_4 z y hy FU (0 : Int64) (0 : Int32) σ)
theorem ct_X2_surelyRocks {g : Gt} {ad : Nat → Nat} {y : Nat} (hy : y < 3) : CT g (LX ad) yX2_surelyRocks cX2_surelyRocks 4 (some .long) 1 [.ref (aSea ad y)] iL (wX g ad) (f_X2_surelyRocks y) :=
  ct_of_V (own := RX2) (lv0 := [(0, .ref (aSea ad y))]) (by decide +kernel) rfl (Nat.le_of_ble_eq_true rfl) rfl (fun z σ => vf_X2_surelyRocks z y hy σ)
-- LighthouseLiedTo$Sea.trueBelief
theorem dX2_trueBelief_0 : decode cX2_trueBelief 0 = .ok (.iconst 0, 1) := by decide +kernel
theorem dX2_trueBelief_1 : decode cX2_trueBelief 1 = .ok (.istore_n 1, 1) := by decide +kernel
theorem dX2_trueBelief_2 : decode cX2_trueBelief 2 = .ok (.iconst 0, 1) := by decide +kernel
theorem dX2_trueBelief_3 : decode cX2_trueBelief 3 = .ok (.istore_n 2, 1) := by decide +kernel
theorem dX2_trueBelief_4 : decode cX2_trueBelief 4 = .ok (.iload_n 2, 1) := by decide +kernel
theorem dX2_trueBelief_5 : decode cX2_trueBelief 5 = .ok (.bipush 36, 2) := by decide +kernel
theorem dX2_trueBelief_7 : decode cX2_trueBelief 7 = .ok (.if_icmp .ge 30, 3) := by decide +kernel
theorem dX2_trueBelief_10 : decode cX2_trueBelief 10 = .ok (.iload_n 1, 1) := by decide +kernel
theorem dX2_trueBelief_11 : decode cX2_trueBelief 11 = .ok (.aload_n 0, 1) := by decide +kernel
theorem dX2_trueBelief_12 : decode cX2_trueBelief 12 = .ok (.iload_n 2, 1) := by decide +kernel
theorem dX2_trueBelief_13 : decode cX2_trueBelief 13 = .ok (.invokevirtual 57, 3) := by decide +kernel
theorem dX2_trueBelief_16 : decode cX2_trueBelief 16 = .ok (.ifCond .eq 12, 3) := by decide +kernel
theorem dX2_trueBelief_19 : decode cX2_trueBelief 19 = .ok (.aload_n 0, 1) := by decide +kernel
theorem dX2_trueBelief_20 : decode cX2_trueBelief 20 = .ok (.getfield 9, 3) := by decide +kernel
theorem dX2_trueBelief_23 : decode cX2_trueBelief 23 = .ok (.iload_n 2, 1) := by decide +kernel
theorem dX2_trueBelief_24 : decode cX2_trueBelief 24 = .ok (.iaload, 1) := by decide +kernel
theorem dX2_trueBelief_25 : decode cX2_trueBelief 25 = .ok (.goto 4, 3) := by decide +kernel
theorem dX2_trueBelief_28 : decode cX2_trueBelief 28 = .ok (.iconst 0, 1) := by decide +kernel
theorem dX2_trueBelief_29 : decode cX2_trueBelief 29 = .ok (.iadd, 1) := by decide +kernel
theorem dX2_trueBelief_30 : decode cX2_trueBelief 30 = .ok (.istore_n 1, 1) := by decide +kernel
theorem dX2_trueBelief_31 : decode cX2_trueBelief 31 = .ok (.iinc 2 1, 3) := by decide +kernel
theorem dX2_trueBelief_34 : decode cX2_trueBelief 34 = .ok (.goto (-30), 3) := by decide +kernel
theorem dX2_trueBelief_37 : decode cX2_trueBelief 37 = .ok (.iload_n 1, 1) := by decide +kernel
theorem dX2_trueBelief_38 : decode cX2_trueBelief 38 = .ok (.ireturn, 1) := by decide +kernel
def b_X2_trueBelief_4 (y : Nat) (kc4 : Int32 → Int32 → GX → Option (Int32 × GX)) (x1 : Int32) (x2 : Int32) (σ : GX) : Option (Int32 × GX) :=
  if (36 : Int32) ≤ x2 then (some (x1, σ)) else (bnd (f_X2_hasRock y x2 σ) fun q1 => if q1.1 = 0 then (bnd (some (x1 + (0 : Int32))) fun w2 => kc4 w2 (x2 + (1 : Int32)) q1.2) else (grd x2 36 (bnd (some (x1 + (xB q1.2 y 0 x2.toNatClampNeg))) fun w3 => kc4 w3 (x2 + (1 : Int32)) q1.2)))
theorem vb_X2_trueBelief_4 {g : Gt} {ad : Nat → Nat} (z : Zt) (y : Nat) (hy : y < 3) (kc4 : Int32 → Int32 → GX → Option (Int32 × GX)) (hkc4 : ∀ (x1 : Int32) (x2 : Int32) (σ : GX), V g (LX ad) 2 RX2 cX2_trueBelief 3 (some .int) (wX g ad) iI z (kc4 x1 x2 σ) σ 4 [(0, .ref (aSea ad y)), (1, .int x1), (2, .int x2)] []) (x1 : Int32) (x2 : Int32) (σ : GX) : V g (LX ad) 2 RX2 cX2_trueBelief 3 (some .int) (wX g ad) iI z (b_X2_trueBelief_4 y kc4 x1 x2 σ) σ 4 [(0, .ref (aSea ad y)), (1, .int x1), (2, .int x2)] [] := by
  unfold b_X2_trueBelief_4
  refine v_iload_n (pc := 4) (i := 2) dX2_trueBelief_4 rfl rfl ?_
  refine v_bipush (pc := 5) dX2_trueBelief_5 bp_36 ?_
  refine v_icmp_ge (pc := 7) (tgt := 37) dX2_trueBelief_7 rfl ?_ ?_
  · refine v_iload_n (pc := 37) (i := 1) dX2_trueBelief_37 rfl rfl ?_
    exact v_iret (pc := 38) dX2_trueBelief_38
  · refine v_iload_n (pc := 10) (i := 1) dX2_trueBelief_10 rfl rfl ?_
    refine v_aload_n (pc := 11) (i := 0) dX2_trueBelief_11 rfl rfl ?_
    refine v_iload_n (pc := 12) (i := 2) dX2_trueBelief_12 rfl rfl ?_
    refine v_callVi (pc := 13) (rcX2 hy) (As := [.int x2]) (rest := [.int x1]) (ct_X2_hasRock hy x2) mi_X2_hasRock q_503 (by decide) rfl rfl (Nat.le_of_ble_eq_true rfl) dX2_trueBelief_13 (fun q1 => ?_)
    refine v_if_eq (pc := 16) (tgt := 28) dX2_trueBelief_16 rfl ?_ ?_
    · refine v_iconst (pc := 28) dX2_trueBelief_28 ic_0 ?_
      refine v_iadd (pc := 29) dX2_trueBelief_29 ?_
      refine v_nmi (fun w2 => ?_)
      refine v_istore_n (pc := 30) (lv' := [(1, .int w2), (0, .ref (aSea ad y)), (2, .int x2)]) (i := 1) dX2_trueBelief_30 rfl (by decide) rfl ?_
      refine v_iinc (pc := 31) (lv' := [(2, .int (x2 + (1 : Int32))), (1, .int w2), (0, .ref (aSea ad y))]) (i := 2) dX2_trueBelief_31 rfl ic_1 (by decide) rfl ?_
      refine v_goto (pc := 34) (tgt := 4) dX2_trueBelief_34 rfl ?_
      exact v_sub [2, 1, 0] rfl (hkc4 w2 (x2 + (1 : Int32)) q1.2)
    · refine v_aload_n (pc := 19) (i := 0) dX2_trueBelief_19 rfl rfl ?_
      refine gX2_belief (pc := 20) (y := y) hy q_148 dX2_trueBelief_20 ?_
      refine v_iload_n (pc := 23) (i := 2) dX2_trueBelief_23 rfl rfl ?_
      refine lX_sea0 (pc := 24) (y := y) hy dX2_trueBelief_24 ?_
      refine v_goto (pc := 25) (tgt := 29) dX2_trueBelief_25 rfl ?_
      refine v_iadd (pc := 29) dX2_trueBelief_29 ?_
      refine v_nmi (fun w3 => ?_)
      refine v_istore_n (pc := 30) (lv' := [(1, .int w3), (0, .ref (aSea ad y)), (2, .int x2)]) (i := 1) dX2_trueBelief_30 rfl (by decide) rfl ?_
      refine v_iinc (pc := 31) (lv' := [(2, .int (x2 + (1 : Int32))), (1, .int w3), (0, .ref (aSea ad y))]) (i := 2) dX2_trueBelief_31 rfl ic_1 (by decide) rfl ?_
      refine v_goto (pc := 34) (tgt := 4) dX2_trueBelief_34 rfl ?_
      exact v_sub [2, 1, 0] rfl (hkc4 w3 (x2 + (1 : Int32)) q1.2)
def k_X2_trueBelief_4 (y : Nat) : Nat → Int32 → Int32 → GX → Option (Int32 × GX)
  | 0 => fun _ _ _ => none
  | n + 1 => b_X2_trueBelief_4 y (k_X2_trueBelief_4 y n)
theorem vk_X2_trueBelief_4 {g : Gt} {ad : Nat → Nat} (z : Zt) (y : Nat) (hy : y < 3) : ∀ (n : Nat) (x1 : Int32) (x2 : Int32) (σ : GX), V g (LX ad) 2 RX2 cX2_trueBelief 3 (some .int) (wX g ad) iI z (k_X2_trueBelief_4 y n x1 x2 σ) σ 4 [(0, .ref (aSea ad y)), (1, .int x1), (2, .int x2)] [] := by
  intro n
  induction n with
  | zero => intros; exact v_eq rfl v_none
  | succ n ih =>
    intro x1 x2 σ
    exact v_eq rfl (vb_X2_trueBelief_4 z y hy _ ih x1 x2 σ)
def f_X2_trueBelief (y : Nat) (σ : GX) : Option (Int32 × GX) :=
  k_X2_trueBelief_4 y FU (0 : Int32) (0 : Int32) σ
theorem vf_X2_trueBelief {g : Gt} {ad : Nat → Nat} (z : Zt) (y : Nat) (hy : y < 3) (σ : GX) : V g (LX ad) 2 RX2 cX2_trueBelief 3 (some .int) (wX g ad) iI z (f_X2_trueBelief y σ) σ 0 [(0, .ref (aSea ad y))] [] := by
  unfold f_X2_trueBelief
  refine v_iconst (pc := 0) dX2_trueBelief_0 ic_0 ?_
  refine v_istore_n (pc := 1) (lv' := [(1, .int (0 : Int32)), (0, .ref (aSea ad y))]) (i := 1) dX2_trueBelief_1 rfl (by decide) rfl ?_
  refine v_iconst (pc := 2) dX2_trueBelief_2 ic_0 ?_
  refine v_istore_n (pc := 3) (lv' := [(2, .int (0 : Int32)), (1, .int (0 : Int32)), (0, .ref (aSea ad y))]) (i := 2) dX2_trueBelief_3 rfl (by decide) rfl ?_
  exact v_sub [2, 1, 0] rfl (vk_X2_trueBelief_4 z y hy FU (0 : Int32) (0 : Int32) σ)
theorem ct_X2_trueBelief {g : Gt} {ad : Nat → Nat} {y : Nat} (hy : y < 3) : CT g (LX ad) yX2_trueBelief cX2_trueBelief 3 (some .int) 2 [.ref (aSea ad y)] iI (wX g ad) (f_X2_trueBelief y) :=
  ct_of_V (own := RX2) (lv0 := [(0, .ref (aSea ad y))]) (by decide +kernel) rfl (Nat.le_of_ble_eq_true rfl) rfl (fun z σ => vf_X2_trueBelief z y hy σ)
-- LighthouseLiedTo$Sea.isOne
theorem dX2_isOne_0 : decode cX2_isOne 0 = .ok (.aload_n 0, 1) := by decide +kernel
theorem dX2_isOne_1 : decode cX2_isOne 1 = .ok (.getfield 15, 3) := by decide +kernel
theorem dX2_isOne_4 : decode cX2_isOne 4 = .ok (.iload_n 1, 1) := by decide +kernel
theorem dX2_isOne_5 : decode cX2_isOne 5 = .ok (.iaload, 1) := by decide +kernel
theorem dX2_isOne_6 : decode cX2_isOne 6 = .ok (.istore_n 3, 1) := by decide +kernel
theorem dX2_isOne_7 : decode cX2_isOne 7 = .ok (.iconst 0, 1) := by decide +kernel
theorem dX2_isOne_8 : decode cX2_isOne 8 = .ok (.istore 4, 2) := by decide +kernel
theorem dX2_isOne_10 : decode cX2_isOne 10 = .ok (.iload 4, 2) := by decide +kernel
theorem dX2_isOne_12 : decode cX2_isOne 12 = .ok (.bipush 6, 2) := by decide +kernel
theorem dX2_isOne_14 : decode cX2_isOne 14 = .ok (.if_icmp .ge 34, 3) := by decide +kernel
theorem dX2_isOne_17 : decode cX2_isOne 17 = .ok (.iload_n 3, 1) := by decide +kernel
theorem dX2_isOne_18 : decode cX2_isOne 18 = .ok (.ifCond .lt 30, 3) := by decide +kernel
theorem dX2_isOne_21 : decode cX2_isOne 21 = .ok (.iload_n 3, 1) := by decide +kernel
theorem dX2_isOne_22 : decode cX2_isOne 22 = .ok (.getstatic 65, 3) := by decide +kernel
theorem dX2_isOne_25 : decode cX2_isOne 25 = .ok (.arraylength, 1) := by decide +kernel
theorem dX2_isOne_26 : decode cX2_isOne 26 = .ok (.if_icmp .ge 22, 3) := by decide +kernel
theorem dX2_isOne_29 : decode cX2_isOne 29 = .ok (.iload_n 3, 1) := by decide +kernel
theorem dX2_isOne_30 : decode cX2_isOne 30 = .ok (.iload_n 2, 1) := by decide +kernel
theorem dX2_isOne_31 : decode cX2_isOne 31 = .ok (.if_icmp .ne 5, 3) := by decide +kernel
theorem dX2_isOne_34 : decode cX2_isOne 34 = .ok (.iconst 1, 1) := by decide +kernel
theorem dX2_isOne_35 : decode cX2_isOne 35 = .ok (.ireturn, 1) := by decide +kernel
theorem dX2_isOne_36 : decode cX2_isOne 36 = .ok (.getstatic 65, 3) := by decide +kernel
theorem dX2_isOne_39 : decode cX2_isOne 39 = .ok (.iload_n 3, 1) := by decide +kernel
theorem dX2_isOne_40 : decode cX2_isOne 40 = .ok (.iaload, 1) := by decide +kernel
theorem dX2_isOne_41 : decode cX2_isOne 41 = .ok (.istore_n 3, 1) := by decide +kernel
theorem dX2_isOne_42 : decode cX2_isOne 42 = .ok (.iinc 4 1, 3) := by decide +kernel
theorem dX2_isOne_45 : decode cX2_isOne 45 = .ok (.goto (-35), 3) := by decide +kernel
theorem dX2_isOne_48 : decode cX2_isOne 48 = .ok (.iconst 0, 1) := by decide +kernel
theorem dX2_isOne_49 : decode cX2_isOne 49 = .ok (.ireturn, 1) := by decide +kernel
def b_X2_isOne_10 (y : Nat) (kc10 : Int32 → Int32 → Int32 → GX → Option (Int32 × GX)) (x2 : Int32) (x3 : Int32) (x4 : Int32) (σ : GX) : Option (Int32 × GX) :=
  if (6 : Int32) ≤ x4 then (some ((0 : Int32), σ)) else (if x3 < 0 then (some ((0 : Int32), σ)) else (if (6 : Int32) ≤ x3 then (some ((0 : Int32), σ)) else (if x3 ≠ x2 then (grd x3 6 (bnd (some (kabF x3.toNatClampNeg)) fun w2 => kc10 x2 w2 (x4 + (1 : Int32)) σ)) else (some ((1 : Int32), σ)))))
theorem vb_X2_isOne_10 {g : Gt} {ad : Nat → Nat} (z : Zt) (y : Nat) (hy : y < 3) (kc10 : Int32 → Int32 → Int32 → GX → Option (Int32 × GX)) (hkc10 : ∀ (x2 : Int32) (x3 : Int32) (x4 : Int32) (σ : GX), V g (LX ad) 1 RX2 cX2_isOne 5 (some .boolean) (wX g ad) iI z (kc10 x2 x3 x4 σ) σ 10 [(2, .int x2), (3, .int x3), (4, .int x4)] []) (x2 : Int32) (x3 : Int32) (x4 : Int32) (σ : GX) : V g (LX ad) 1 RX2 cX2_isOne 5 (some .boolean) (wX g ad) iI z (b_X2_isOne_10 y kc10 x2 x3 x4 σ) σ 10 [(2, .int x2), (3, .int x3), (4, .int x4)] [] := by
  unfold b_X2_isOne_10
  refine v_iload (pc := 10) (i := 4) dX2_isOne_10 rfl ?_
  refine v_bipush (pc := 12) dX2_isOne_12 bp_6 ?_
  refine v_icmp_ge (pc := 14) (tgt := 48) dX2_isOne_14 rfl ?_ ?_
  · refine v_iconst (pc := 48) dX2_isOne_48 ic_0 ?_
    exact v_nret (pc := 49) rfl dX2_isOne_49
  · refine v_iload_n (pc := 17) (i := 3) dX2_isOne_17 rfl rfl ?_
    refine v_if_lt (pc := 18) (tgt := 48) dX2_isOne_18 rfl ?_ ?_
    · refine v_iconst (pc := 48) dX2_isOne_48 ic_0 ?_
      exact v_nret (pc := 49) rfl dX2_isOne_49
    · refine v_iload_n (pc := 21) (i := 3) dX2_isOne_21 rfl rfl ?_
      refine v_kab (pc := 22) q_699 dX2_isOne_22 ?_
      refine v_kabn (pc := 25) dX2_isOne_25 ?_
      refine v_icmp_ge (pc := 26) (tgt := 48) dX2_isOne_26 rfl ?_ ?_
      · refine v_iconst (pc := 48) dX2_isOne_48 ic_0 ?_
        exact v_nret (pc := 49) rfl dX2_isOne_49
      · refine v_iload_n (pc := 29) (i := 3) dX2_isOne_29 rfl rfl ?_
        refine v_iload_n (pc := 30) (i := 2) dX2_isOne_30 rfl rfl ?_
        refine v_icmp_ne (pc := 31) (tgt := 36) dX2_isOne_31 rfl ?_ ?_
        · refine v_kab (pc := 36) q_699 dX2_isOne_36 ?_
          refine v_iload_n (pc := 39) (i := 3) dX2_isOne_39 rfl rfl ?_
          refine v_kabl (pc := 40) dX2_isOne_40 ?_
          refine v_nmi (fun w2 => ?_)
          refine v_istore_n (pc := 41) (lv' := [(3, .int w2), (2, .int x2), (4, .int x4)]) (i := 3) dX2_isOne_41 rfl (by decide) rfl ?_
          refine v_iinc (pc := 42) (lv' := [(4, .int (x4 + (1 : Int32))), (3, .int w2), (2, .int x2)]) (i := 4) dX2_isOne_42 rfl ic_1 (by decide) rfl ?_
          refine v_goto (pc := 45) (tgt := 10) dX2_isOne_45 rfl ?_
          exact v_sub [2, 1, 0] rfl (hkc10 x2 w2 (x4 + (1 : Int32)) σ)
        · refine v_iconst (pc := 34) dX2_isOne_34 ic_1 ?_
          exact v_nret (pc := 35) rfl dX2_isOne_35
def k_X2_isOne_10 (y : Nat) : Nat → Int32 → Int32 → Int32 → GX → Option (Int32 × GX)
  | 0 => fun _ _ _ _ => none
  | n + 1 => b_X2_isOne_10 y (k_X2_isOne_10 y n)
theorem vk_X2_isOne_10 {g : Gt} {ad : Nat → Nat} (z : Zt) (y : Nat) (hy : y < 3) : ∀ (n : Nat) (x2 : Int32) (x3 : Int32) (x4 : Int32) (σ : GX), V g (LX ad) 1 RX2 cX2_isOne 5 (some .boolean) (wX g ad) iI z (k_X2_isOne_10 y n x2 x3 x4 σ) σ 10 [(2, .int x2), (3, .int x3), (4, .int x4)] [] := by
  intro n
  induction n with
  | zero => intros; exact v_eq rfl v_none
  | succ n ih =>
    intro x2 x3 x4 σ
    exact v_eq rfl (vb_X2_isOne_10 z y hy _ ih x2 x3 x4 σ)
def f_X2_isOne (y : Nat) (x1 : Int32) (x2 : Int32) (σ : GX) : Option (Int32 × GX) :=
  grd x1 6 (bnd (some (xB σ y 1 x1.toNatClampNeg)) fun w1 => k_X2_isOne_10 y FU x2 w1 (0 : Int32) σ)
theorem vf_X2_isOne {g : Gt} {ad : Nat → Nat} (z : Zt) (y : Nat) (hy : y < 3) (x1 : Int32) (x2 : Int32) (σ : GX) : V g (LX ad) 1 RX2 cX2_isOne 5 (some .boolean) (wX g ad) iI z (f_X2_isOne y x1 x2 σ) σ 0 [(0, .ref (aSea ad y)), (1, .int x1), (2, .int x2)] [] := by
  unfold f_X2_isOne
  refine v_aload_n (pc := 0) (i := 0) dX2_isOne_0 rfl rfl ?_
  refine gX2_kind (pc := 1) (y := y) hy q_151 dX2_isOne_1 ?_
  refine v_iload_n (pc := 4) (i := 1) dX2_isOne_4 rfl rfl ?_
  refine lX_sea1 (pc := 5) (y := y) hy dX2_isOne_5 ?_
  refine v_nmi (fun w1 => ?_)
  refine v_istore_n (pc := 6) (lv' := [(3, .int w1), (0, .ref (aSea ad y)), (1, .int x1), (2, .int x2)]) (i := 3) dX2_isOne_6 rfl (by decide) rfl ?_
  refine v_iconst (pc := 7) dX2_isOne_7 ic_0 ?_
  refine v_istore (pc := 8) (lv' := [(4, .int (0 : Int32)), (3, .int w1), (0, .ref (aSea ad y)), (1, .int x1), (2, .int x2)]) (i := 4) dX2_isOne_8 (by decide) rfl ?_
  exact v_sub [4, 1, 0] rfl (vk_X2_isOne_10 z y hy FU x2 w1 (0 : Int32) σ)
theorem ct_X2_isOne {g : Gt} {ad : Nat → Nat} {y : Nat} (hy : y < 3) (x1 : Int32) (x2 : Int32) : CT g (LX ad) yX2_isOne cX2_isOne 5 (some .boolean) 1 [.ref (aSea ad y), .int x1, .int x2] iI (wX g ad) (f_X2_isOne y x1 x2) :=
  ct_of_V (own := RX2) (lv0 := [(0, .ref (aSea ad y)), (1, .int x1), (2, .int x2)]) (by decide +kernel) rfl (Nat.le_of_ble_eq_true rfl) rfl (fun z σ => vf_X2_isOne z y hy x1 x2 σ)
end
section
-- LighthouseLiedTo$Reader.isLetter
theorem dX1_isLetter_0 : decode cX1_isLetter 0 = .ok (.iload_n 0, 1) := by decide +kernel
theorem dX1_isLetter_1 : decode cX1_isLetter 1 = .ok (.bipush 97, 2) := by decide +kernel
theorem dX1_isLetter_3 : decode cX1_isLetter 3 = .ok (.if_icmp .lt 13, 3) := by decide +kernel
theorem dX1_isLetter_6 : decode cX1_isLetter 6 = .ok (.iload_n 0, 1) := by decide +kernel
theorem dX1_isLetter_7 : decode cX1_isLetter 7 = .ok (.bipush 122, 2) := by decide +kernel
theorem dX1_isLetter_9 : decode cX1_isLetter 9 = .ok (.if_icmp .gt 7, 3) := by decide +kernel
theorem dX1_isLetter_12 : decode cX1_isLetter 12 = .ok (.iconst 1, 1) := by decide +kernel
theorem dX1_isLetter_13 : decode cX1_isLetter 13 = .ok (.goto 4, 3) := by decide +kernel
theorem dX1_isLetter_16 : decode cX1_isLetter 16 = .ok (.iconst 0, 1) := by decide +kernel
theorem dX1_isLetter_17 : decode cX1_isLetter 17 = .ok (.ireturn, 1) := by decide +kernel
def f_X1_isLetter (x0 : Int32) (σ : GX) : Option (Int32 × GX) :=
  if x0 < (97 : Int32) then (some ((0 : Int32), σ)) else (if (122 : Int32) < x0 then (some ((0 : Int32), σ)) else (some ((1 : Int32), σ)))
theorem vf_X1_isLetter {g : Gt} {ad : Nat → Nat} (z : Zt) (x0 : Int32) (σ : GX) : V g (LX ad) 1 RX1 cX1_isLetter 1 (some .boolean) (wX g ad) iI z (f_X1_isLetter x0 σ) σ 0 [(0, .int x0)] [] := by
  unfold f_X1_isLetter
  refine v_iload_n (pc := 0) (i := 0) dX1_isLetter_0 rfl rfl ?_
  refine v_bipush (pc := 1) dX1_isLetter_1 bp_97 ?_
  refine v_icmp_lt (pc := 3) (tgt := 16) dX1_isLetter_3 rfl ?_ ?_
  · refine v_iconst (pc := 16) dX1_isLetter_16 ic_0 ?_
    exact v_nret (pc := 17) rfl dX1_isLetter_17
  · refine v_iload_n (pc := 6) (i := 0) dX1_isLetter_6 rfl rfl ?_
    refine v_bipush (pc := 7) dX1_isLetter_7 bp_122 ?_
    refine v_icmp_gt (pc := 9) (tgt := 16) dX1_isLetter_9 rfl ?_ ?_
    · refine v_iconst (pc := 16) dX1_isLetter_16 ic_0 ?_
      exact v_nret (pc := 17) rfl dX1_isLetter_17
    · refine v_iconst (pc := 12) dX1_isLetter_12 ic_1 ?_
      refine v_goto (pc := 13) (tgt := 17) dX1_isLetter_13 rfl ?_
      exact v_nret (pc := 17) rfl dX1_isLetter_17
theorem ct_X1_isLetter {g : Gt} {ad : Nat → Nat} (x0 : Int32) : CT g (LX ad) yX1_isLetter cX1_isLetter 1 (some .boolean) 1 [.int x0] iI (wX g ad) (f_X1_isLetter x0) :=
  ct_of_V (own := RX1) (lv0 := [(0, .int x0)]) (by decide +kernel) rfl (Nat.le_of_ble_eq_true rfl) rfl (fun z σ => vf_X1_isLetter z x0 σ)
-- LighthouseLiedTo$Reader.spells
theorem dX1_spells_0 : decode cX1_spells 0 = .ok (.aload_n 1, 1) := by decide +kernel
theorem dX1_spells_1 : decode cX1_spells 1 = .ok (.invokevirtual 115, 3) := by decide +kernel
theorem dX1_spells_4 : decode cX1_spells 4 = .ok (.aload_n 0, 1) := by decide +kernel
theorem dX1_spells_5 : decode cX1_spells 5 = .ok (.getfield 23, 3) := by decide +kernel
theorem dX1_spells_8 : decode cX1_spells 8 = .ok (.aload_n 0, 1) := by decide +kernel
theorem dX1_spells_9 : decode cX1_spells 9 = .ok (.getfield 48, 3) := by decide +kernel
theorem dX1_spells_12 : decode cX1_spells 12 = .ok (.isub, 1) := by decide +kernel
theorem dX1_spells_13 : decode cX1_spells 13 = .ok (.if_icmp .eq 5, 3) := by decide +kernel
theorem dX1_spells_16 : decode cX1_spells 16 = .ok (.iconst 0, 1) := by decide +kernel
theorem dX1_spells_17 : decode cX1_spells 17 = .ok (.ireturn, 1) := by decide +kernel
theorem dX1_spells_18 : decode cX1_spells 18 = .ok (.iconst 0, 1) := by decide +kernel
theorem dX1_spells_19 : decode cX1_spells 19 = .ok (.istore_n 2, 1) := by decide +kernel
theorem dX1_spells_20 : decode cX1_spells 20 = .ok (.iload_n 2, 1) := by decide +kernel
theorem dX1_spells_21 : decode cX1_spells 21 = .ok (.aload_n 1, 1) := by decide +kernel
theorem dX1_spells_22 : decode cX1_spells 22 = .ok (.invokevirtual 115, 3) := by decide +kernel
theorem dX1_spells_25 : decode cX1_spells 25 = .ok (.if_icmp .ge 30, 3) := by decide +kernel
theorem dX1_spells_28 : decode cX1_spells 28 = .ok (.aload_n 0, 1) := by decide +kernel
theorem dX1_spells_29 : decode cX1_spells 29 = .ok (.getfield 9, 3) := by decide +kernel
theorem dX1_spells_32 : decode cX1_spells 32 = .ok (.aload_n 0, 1) := by decide +kernel
theorem dX1_spells_33 : decode cX1_spells 33 = .ok (.getfield 48, 3) := by decide +kernel
theorem dX1_spells_36 : decode cX1_spells 36 = .ok (.iload_n 2, 1) := by decide +kernel
theorem dX1_spells_37 : decode cX1_spells 37 = .ok (.iadd, 1) := by decide +kernel
theorem dX1_spells_38 : decode cX1_spells 38 = .ok (.iaload, 1) := by decide +kernel
theorem dX1_spells_39 : decode cX1_spells 39 = .ok (.aload_n 1, 1) := by decide +kernel
theorem dX1_spells_40 : decode cX1_spells 40 = .ok (.iload_n 2, 1) := by decide +kernel
theorem dX1_spells_41 : decode cX1_spells 41 = .ok (.invokevirtual 120, 3) := by decide +kernel
theorem dX1_spells_44 : decode cX1_spells 44 = .ok (.if_icmp .eq 5, 3) := by decide +kernel
theorem dX1_spells_47 : decode cX1_spells 47 = .ok (.iconst 0, 1) := by decide +kernel
theorem dX1_spells_48 : decode cX1_spells 48 = .ok (.ireturn, 1) := by decide +kernel
theorem dX1_spells_49 : decode cX1_spells 49 = .ok (.iinc 2 1, 3) := by decide +kernel
theorem dX1_spells_52 : decode cX1_spells 52 = .ok (.goto (-32), 3) := by decide +kernel
theorem dX1_spells_55 : decode cX1_spells 55 = .ok (.iconst 1, 1) := by decide +kernel
theorem dX1_spells_56 : decode cX1_spells 56 = .ok (.ireturn, 1) := by decide +kernel
def b_X1_spells_20 (w : Nat) (kc20 : Int32 → GX → Option (Int32 × GX)) (x2 : Int32) (σ : GX) : Option (Int32 × GX) :=
  bnd (f_J0_length_8abf5 w σ) fun q2 => if q2.1 ≤ x2 then (some ((1 : Int32), q2.2)) else (tpB (xY q2.2) (grd ((xI q2.2 6) + x2) 160 (bnd (f_J0_charAt_5068e w x2 q2.2) fun q3 => if (xP q2.2 ((xI q2.2 6) + x2).toNatClampNeg) = q3.1 then (kc20 (x2 + (1 : Int32)) q3.2) else (some ((0 : Int32), q3.2)))))
theorem vb_X1_spells_20 {g : Gt} {ad : Nat → Nat} (z : Zt) (w : Nat) (hw : w < 13) (kc20 : Int32 → GX → Option (Int32 × GX)) (hkc20 : ∀ (x2 : Int32) (σ : GX), V g (LX ad) 5 RX1 cX1_spells 3 (some .boolean) (wX g ad) iI z (kc20 x2 σ) σ 20 [(0, .ref (aReader ad)), (1, .ref (g.2.2.2.2.2.2.1 w)), (2, .int x2)] []) (x2 : Int32) (σ : GX) : V g (LX ad) 5 RX1 cX1_spells 3 (some .boolean) (wX g ad) iI z (b_X1_spells_20 w kc20 x2 σ) σ 20 [(0, .ref (aReader ad)), (1, .ref (g.2.2.2.2.2.2.1 w)), (2, .int x2)] [] := by
  unfold b_X1_spells_20
  refine v_iload_n (pc := 20) (i := 2) dX1_spells_20 rfl rfl ?_
  refine v_aload_n (pc := 21) (i := 1) dX1_spells_21 rfl rfl ?_
  refine v_callTi (pc := 22) (i := w) hw rfl (As := []) (rest := [.int x2]) (ct_J0_length_8abf5 hw) mi_J0_length_8abf5 q_271 (by decide) rfl rfl (Nat.le_of_ble_eq_true rfl) dX1_spells_22 (fun q2 => ?_)
  refine v_icmp_ge (pc := 25) (tgt := 55) dX1_spells_25 rfl ?_ ?_
  · refine v_iconst (pc := 55) dX1_spells_55 ic_1 ?_
    exact v_nret (pc := 56) rfl dX1_spells_56
  · refine v_aload_n (pc := 28) (i := 0) dX1_spells_28 rfl rfl ?_
    refine gX1_tape (pc := 29) q_82 dX1_spells_29 ?_
    refine v_aload_n (pc := 32) (i := 0) dX1_spells_32 rfl rfl ?_
    refine gX1_place (pc := 33) q_86 dX1_spells_33 ?_
    refine v_iload_n (pc := 36) (i := 2) dX1_spells_36 rfl rfl ?_
    refine v_iadd (pc := 37) dX1_spells_37 ?_
    refine lX_tape (pc := 38) dX1_spells_38 ?_
    refine v_aload_n (pc := 39) (i := 1) dX1_spells_39 rfl rfl ?_
    refine v_iload_n (pc := 40) (i := 2) dX1_spells_40 rfl rfl ?_
    refine v_callTi (pc := 41) (i := w) hw rfl (As := [.int x2]) (rest := [.int (xP q2.2 ((xI q2.2 6) + x2).toNatClampNeg)]) (ct_J0_charAt_5068e hw x2) mi_J0_charAt_5068e q_272 (by decide) rfl rfl (Nat.le_of_ble_eq_true rfl) dX1_spells_41 (fun q3 => ?_)
    refine v_icmp_eq (pc := 44) (tgt := 49) dX1_spells_44 rfl ?_ ?_
    · refine v_iinc (pc := 49) (lv' := [(2, .int (x2 + (1 : Int32))), (0, .ref (aReader ad)), (1, .ref (g.2.2.2.2.2.2.1 w))]) (i := 2) dX1_spells_49 rfl ic_1 (by decide) rfl ?_
      refine v_goto (pc := 52) (tgt := 20) dX1_spells_52 rfl ?_
      exact v_sub [1, 2, 0] rfl (hkc20 (x2 + (1 : Int32)) q3.2)
    · refine v_iconst (pc := 47) dX1_spells_47 ic_0 ?_
      exact v_nret (pc := 48) rfl dX1_spells_48
def k_X1_spells_20 (w : Nat) : Nat → Int32 → GX → Option (Int32 × GX)
  | 0 => fun _ _ => none
  | n + 1 => b_X1_spells_20 w (k_X1_spells_20 w n)
theorem vk_X1_spells_20 {g : Gt} {ad : Nat → Nat} (z : Zt) (w : Nat) (hw : w < 13) : ∀ (n : Nat) (x2 : Int32) (σ : GX), V g (LX ad) 5 RX1 cX1_spells 3 (some .boolean) (wX g ad) iI z (k_X1_spells_20 w n x2 σ) σ 20 [(0, .ref (aReader ad)), (1, .ref (g.2.2.2.2.2.2.1 w)), (2, .int x2)] [] := by
  intro n
  induction n with
  | zero => intros; exact v_eq rfl v_none
  | succ n ih =>
    intro x2 σ
    exact v_eq rfl (vb_X1_spells_20 z w hw _ ih x2 σ)
def f_X1_spells (w : Nat) (σ : GX) : Option (Int32 × GX) :=
  bnd (f_J0_length_8abf5 w σ) fun q1 => if q1.1 = ((xI q1.2 4) - (xI q1.2 6)) then (k_X1_spells_20 w FU (0 : Int32) q1.2) else (some ((0 : Int32), q1.2))
theorem vf_X1_spells {g : Gt} {ad : Nat → Nat} (z : Zt) (w : Nat) (hw : w < 13) (σ : GX) : V g (LX ad) 5 RX1 cX1_spells 3 (some .boolean) (wX g ad) iI z (f_X1_spells w σ) σ 0 [(0, .ref (aReader ad)), (1, .ref (g.2.2.2.2.2.2.1 w))] [] := by
  unfold f_X1_spells
  refine v_aload_n (pc := 0) (i := 1) dX1_spells_0 rfl rfl ?_
  refine v_callTi (pc := 1) (i := w) hw rfl (As := []) (rest := []) (ct_J0_length_8abf5 hw) mi_J0_length_8abf5 q_271 (by decide) rfl rfl (Nat.le_of_ble_eq_true rfl) dX1_spells_1 (fun q1 => ?_)
  refine v_aload_n (pc := 4) (i := 0) dX1_spells_4 rfl rfl ?_
  refine gX1_at (pc := 5) q_84 dX1_spells_5 ?_
  refine v_aload_n (pc := 8) (i := 0) dX1_spells_8 rfl rfl ?_
  refine gX1_place (pc := 9) q_86 dX1_spells_9 ?_
  refine v_isub (pc := 12) dX1_spells_12 ?_
  refine v_icmp_eq (pc := 13) (tgt := 18) dX1_spells_13 rfl ?_ ?_
  · refine v_iconst (pc := 18) dX1_spells_18 ic_0 ?_
    refine v_istore_n (pc := 19) (lv' := [(2, .int (0 : Int32)), (0, .ref (aReader ad)), (1, .ref (g.2.2.2.2.2.2.1 w))]) (i := 2) dX1_spells_19 rfl (by decide) rfl ?_
    exact v_sub [1, 2, 0] rfl (vk_X1_spells_20 z w hw FU (0 : Int32) q1.2)
  · refine v_iconst (pc := 16) dX1_spells_16 ic_0 ?_
    exact v_nret (pc := 17) rfl dX1_spells_17
theorem ct_X1_spells {g : Gt} {ad : Nat → Nat} {w : Nat} (hw : w < 13) : CT g (LX ad) yX1_spells cX1_spells 3 (some .boolean) 5 [.ref (aReader ad), .ref (g.2.2.2.2.2.2.1 w)] iI (wX g ad) (f_X1_spells w) :=
  ct_of_V (own := RX1) (lv0 := [(0, .ref (aReader ad)), (1, .ref (g.2.2.2.2.2.2.1 w))]) (by decide +kernel) rfl (Nat.le_of_ble_eq_true rfl) rfl (fun z σ => vf_X1_spells z w hw σ)
-- LighthouseLiedTo$Reader.word
theorem dX1_word_0 : decode cX1_word 0 = .ok (.aload_n 0, 1) := by decide +kernel
theorem dX1_word_1 : decode cX1_word 1 = .ok (.getfield 23, 3) := by decide +kernel
theorem dX1_word_4 : decode cX1_word 4 = .ok (.aload_n 0, 1) := by decide +kernel
theorem dX1_word_5 : decode cX1_word 5 = .ok (.getfield 15, 3) := by decide +kernel
theorem dX1_word_8 : decode cX1_word 8 = .ok (.if_icmp .ge 31, 3) := by decide +kernel
theorem dX1_word_11 : decode cX1_word 11 = .ok (.aload_n 0, 1) := by decide +kernel
theorem dX1_word_12 : decode cX1_word 12 = .ok (.getfield 9, 3) := by decide +kernel
theorem dX1_word_15 : decode cX1_word 15 = .ok (.aload_n 0, 1) := by decide +kernel
theorem dX1_word_16 : decode cX1_word 16 = .ok (.getfield 23, 3) := by decide +kernel
theorem dX1_word_19 : decode cX1_word 19 = .ok (.iaload, 1) := by decide +kernel
theorem dX1_word_20 : decode cX1_word 20 = .ok (.invokestatic 71, 3) := by decide +kernel
theorem dX1_word_23 : decode cX1_word 23 = .ok (.ifCond .eq 16, 3) := by decide +kernel
theorem dX1_word_26 : decode cX1_word 26 = .ok (.aload_n 0, 1) := by decide +kernel
theorem dX1_word_27 : decode cX1_word 27 = .ok (.dup, 1) := by decide +kernel
theorem dX1_word_28 : decode cX1_word 28 = .ok (.getfield 23, 3) := by decide +kernel
theorem dX1_word_31 : decode cX1_word 31 = .ok (.iconst 1, 1) := by decide +kernel
theorem dX1_word_32 : decode cX1_word 32 = .ok (.iadd, 1) := by decide +kernel
theorem dX1_word_33 : decode cX1_word 33 = .ok (.putfield 23, 3) := by decide +kernel
theorem dX1_word_36 : decode cX1_word 36 = .ok (.goto (-36), 3) := by decide +kernel
theorem dX1_word_39 : decode cX1_word 39 = .ok (.aload_n 0, 1) := by decide +kernel
theorem dX1_word_40 : decode cX1_word 40 = .ok (.ldc 87, 2) := by decide +kernel
theorem dX1_word_42 : decode cX1_word 42 = .ok (.invokevirtual 89, 3) := by decide +kernel
theorem dX1_word_45 : decode cX1_word 45 = .ok (.ifCond .eq 5, 3) := by decide +kernel
theorem dX1_word_48 : decode cX1_word 48 = .ok (.iconst (-1), 1) := by decide +kernel
theorem dX1_word_49 : decode cX1_word 49 = .ok (.ireturn, 1) := by decide +kernel
theorem dX1_word_50 : decode cX1_word 50 = .ok (.aload_n 0, 1) := by decide +kernel
theorem dX1_word_51 : decode cX1_word 51 = .ok (.ldc 93, 2) := by decide +kernel
theorem dX1_word_53 : decode cX1_word 53 = .ok (.invokevirtual 89, 3) := by decide +kernel
theorem dX1_word_56 : decode cX1_word 56 = .ok (.ifCond .eq 6, 3) := by decide +kernel
theorem dX1_word_59 : decode cX1_word 59 = .ok (.bipush (-2), 2) := by decide +kernel
theorem dX1_word_61 : decode cX1_word 61 = .ok (.ireturn, 1) := by decide +kernel
theorem dX1_word_62 : decode cX1_word 62 = .ok (.aload_n 0, 1) := by decide +kernel
theorem dX1_word_63 : decode cX1_word 63 = .ok (.ldc 95, 2) := by decide +kernel
theorem dX1_word_65 : decode cX1_word 65 = .ok (.invokevirtual 89, 3) := by decide +kernel
theorem dX1_word_68 : decode cX1_word 68 = .ok (.ifCond .eq 6, 3) := by decide +kernel
theorem dX1_word_71 : decode cX1_word 71 = .ok (.bipush (-3), 2) := by decide +kernel
theorem dX1_word_73 : decode cX1_word 73 = .ok (.ireturn, 1) := by decide +kernel
theorem dX1_word_74 : decode cX1_word 74 = .ok (.aload_n 0, 1) := by decide +kernel
theorem dX1_word_75 : decode cX1_word 75 = .ok (.ldc 97, 2) := by decide +kernel
theorem dX1_word_77 : decode cX1_word 77 = .ok (.invokevirtual 89, 3) := by decide +kernel
theorem dX1_word_80 : decode cX1_word 80 = .ok (.ifCond .eq 6, 3) := by decide +kernel
theorem dX1_word_83 : decode cX1_word 83 = .ok (.bipush (-4), 2) := by decide +kernel
theorem dX1_word_85 : decode cX1_word 85 = .ok (.ireturn, 1) := by decide +kernel
theorem dX1_word_86 : decode cX1_word 86 = .ok (.aload_n 0, 1) := by decide +kernel
theorem dX1_word_87 : decode cX1_word 87 = .ok (.ldc 99, 2) := by decide +kernel
theorem dX1_word_89 : decode cX1_word 89 = .ok (.invokevirtual 89, 3) := by decide +kernel
theorem dX1_word_92 : decode cX1_word 92 = .ok (.ifCond .eq 6, 3) := by decide +kernel
theorem dX1_word_95 : decode cX1_word 95 = .ok (.bipush (-5), 2) := by decide +kernel
theorem dX1_word_97 : decode cX1_word 97 = .ok (.ireturn, 1) := by decide +kernel
theorem dX1_word_98 : decode cX1_word 98 = .ok (.aload_n 0, 1) := by decide +kernel
theorem dX1_word_99 : decode cX1_word 99 = .ok (.ldc 101, 2) := by decide +kernel
theorem dX1_word_101 : decode cX1_word 101 = .ok (.invokevirtual 89, 3) := by decide +kernel
theorem dX1_word_104 : decode cX1_word 104 = .ok (.ifCond .eq 6, 3) := by decide +kernel
theorem dX1_word_107 : decode cX1_word 107 = .ok (.bipush (-6), 2) := by decide +kernel
theorem dX1_word_109 : decode cX1_word 109 = .ok (.ireturn, 1) := by decide +kernel
theorem dX1_word_110 : decode cX1_word 110 = .ok (.aload_n 0, 1) := by decide +kernel
theorem dX1_word_111 : decode cX1_word 111 = .ok (.ldc 103, 2) := by decide +kernel
theorem dX1_word_113 : decode cX1_word 113 = .ok (.invokevirtual 89, 3) := by decide +kernel
theorem dX1_word_116 : decode cX1_word 116 = .ok (.ifCond .eq 6, 3) := by decide +kernel
theorem dX1_word_119 : decode cX1_word 119 = .ok (.bipush (-7), 2) := by decide +kernel
theorem dX1_word_121 : decode cX1_word 121 = .ok (.ireturn, 1) := by decide +kernel
theorem dX1_word_122 : decode cX1_word 122 = .ok (.aload_n 0, 1) := by decide +kernel
theorem dX1_word_123 : decode cX1_word 123 = .ok (.ldc 105, 2) := by decide +kernel
theorem dX1_word_125 : decode cX1_word 125 = .ok (.invokevirtual 89, 3) := by decide +kernel
theorem dX1_word_128 : decode cX1_word 128 = .ok (.ifCond .eq 6, 3) := by decide +kernel
theorem dX1_word_131 : decode cX1_word 131 = .ok (.bipush (-8), 2) := by decide +kernel
theorem dX1_word_133 : decode cX1_word 133 = .ok (.ireturn, 1) := by decide +kernel
theorem dX1_word_134 : decode cX1_word 134 = .ok (.aload_n 0, 1) := by decide +kernel
theorem dX1_word_135 : decode cX1_word 135 = .ok (.ldc 107, 2) := by decide +kernel
theorem dX1_word_137 : decode cX1_word 137 = .ok (.invokevirtual 89, 3) := by decide +kernel
theorem dX1_word_140 : decode cX1_word 140 = .ok (.ifCond .eq 6, 3) := by decide +kernel
theorem dX1_word_143 : decode cX1_word 143 = .ok (.bipush (-14), 2) := by decide +kernel
theorem dX1_word_145 : decode cX1_word 145 = .ok (.ireturn, 1) := by decide +kernel
theorem dX1_word_146 : decode cX1_word 146 = .ok (.aload_n 0, 1) := by decide +kernel
theorem dX1_word_147 : decode cX1_word 147 = .ok (.ldc 109, 2) := by decide +kernel
theorem dX1_word_149 : decode cX1_word 149 = .ok (.invokevirtual 89, 3) := by decide +kernel
theorem dX1_word_152 : decode cX1_word 152 = .ok (.ifCond .eq 6, 3) := by decide +kernel
theorem dX1_word_155 : decode cX1_word 155 = .ok (.bipush (-19), 2) := by decide +kernel
theorem dX1_word_157 : decode cX1_word 157 = .ok (.ireturn, 1) := by decide +kernel
theorem dX1_word_158 : decode cX1_word 158 = .ok (.aload_n 0, 1) := by decide +kernel
theorem dX1_word_159 : decode cX1_word 159 = .ok (.ldc 111, 2) := by decide +kernel
theorem dX1_word_161 : decode cX1_word 161 = .ok (.invokevirtual 89, 3) := by decide +kernel
theorem dX1_word_164 : decode cX1_word 164 = .ok (.ifCond .eq 6, 3) := by decide +kernel
theorem dX1_word_167 : decode cX1_word 167 = .ok (.bipush (-20), 2) := by decide +kernel
theorem dX1_word_169 : decode cX1_word 169 = .ok (.ireturn, 1) := by decide +kernel
theorem dX1_word_170 : decode cX1_word 170 = .ok (.aload_n 0, 1) := by decide +kernel
theorem dX1_word_171 : decode cX1_word 171 = .ok (.ldc 113, 2) := by decide +kernel
theorem dX1_word_173 : decode cX1_word 173 = .ok (.invokevirtual 89, 3) := by decide +kernel
theorem dX1_word_176 : decode cX1_word 176 = .ok (.ifCond .eq 8, 3) := by decide +kernel
theorem dX1_word_179 : decode cX1_word 179 = .ok (.bipush (-21), 2) := by decide +kernel
theorem dX1_word_181 : decode cX1_word 181 = .ok (.goto 5, 3) := by decide +kernel
theorem dX1_word_184 : decode cX1_word 184 = .ok (.bipush (-23), 2) := by decide +kernel
theorem dX1_word_186 : decode cX1_word 186 = .ok (.ireturn, 1) := by decide +kernel
def b_X1_word_39 (σ : GX) : Option (Int32 × GX) :=
  bnd (f_X1_spells 1 σ) fun q1 => if q1.1 = 0 then (bnd (f_X1_spells 2 q1.2) fun q2 => if q2.1 = 0 then (bnd (f_X1_spells 3 q2.2) fun q3 => if q3.1 = 0 then (bnd (f_X1_spells 4 q3.2) fun q4 => if q4.1 = 0 then (bnd (f_X1_spells 5 q4.2) fun q5 => if q5.1 = 0 then (bnd (f_X1_spells 6 q5.2) fun q6 => if q6.1 = 0 then (bnd (f_X1_spells 7 q6.2) fun q7 => if q7.1 = 0 then (bnd (f_X1_spells 8 q7.2) fun q8 => if q8.1 = 0 then (bnd (f_X1_spells 9 q8.2) fun q9 => if q9.1 = 0 then (bnd (f_X1_spells 10 q9.2) fun q10 => if q10.1 = 0 then (bnd (f_X1_spells 11 q10.2) fun q11 => if q11.1 = 0 then (bnd (f_X1_spells 12 q11.2) fun q12 => if q12.1 = 0 then (some ((-23 : Int32), q12.2)) else (some ((-21 : Int32), q12.2))) else (some ((-20 : Int32), q11.2))) else (some ((-19 : Int32), q10.2))) else (some ((-14 : Int32), q9.2))) else (some ((-8 : Int32), q8.2))) else (some ((-7 : Int32), q7.2))) else (some ((-6 : Int32), q6.2))) else (some ((-5 : Int32), q5.2))) else (some ((-4 : Int32), q4.2))) else (some ((-3 : Int32), q3.2))) else (some ((-2 : Int32), q2.2))) else (some ((-1 : Int32), q1.2))
theorem vb_X1_word_39 {g : Gt} {ad : Nat → Nat} (z : Zt) (σ : GX) : V g (LX ad) 6 RX1 cX1_word 1 (some .int) (wX g ad) iI z (b_X1_word_39 σ) σ 39 [(0, .ref (aReader ad))] [] := by
  unfold b_X1_word_39
  refine v_aload_n (pc := 39) (i := 0) dX1_word_39 rfl rfl ?_
  refine v_ldcS (pc := 40) (i := 1) (by decide) rfl dX1_word_40 ?_
  refine v_callVi (pc := 42) rcX1 (As := [.ref (g.2.2.2.2.2.2.1 1)]) (rest := []) (ct_X1_spells (by decide)) mi_X1_spells q_267 (by decide) rfl rfl (Nat.le_of_ble_eq_true rfl) dX1_word_42 (fun q1 => ?_)
  refine v_if_eq (pc := 45) (tgt := 50) dX1_word_45 rfl ?_ ?_
  · refine v_aload_n (pc := 50) (i := 0) dX1_word_50 rfl rfl ?_
    refine v_ldcS (pc := 51) (i := 2) (by decide) rfl dX1_word_51 ?_
    refine v_callVi (pc := 53) rcX1 (As := [.ref (g.2.2.2.2.2.2.1 2)]) (rest := []) (ct_X1_spells (by decide)) mi_X1_spells q_267 (by decide) rfl rfl (Nat.le_of_ble_eq_true rfl) dX1_word_53 (fun q2 => ?_)
    refine v_if_eq (pc := 56) (tgt := 62) dX1_word_56 rfl ?_ ?_
    · refine v_aload_n (pc := 62) (i := 0) dX1_word_62 rfl rfl ?_
      refine v_ldcS (pc := 63) (i := 3) (by decide) rfl dX1_word_63 ?_
      refine v_callVi (pc := 65) rcX1 (As := [.ref (g.2.2.2.2.2.2.1 3)]) (rest := []) (ct_X1_spells (by decide)) mi_X1_spells q_267 (by decide) rfl rfl (Nat.le_of_ble_eq_true rfl) dX1_word_65 (fun q3 => ?_)
      refine v_if_eq (pc := 68) (tgt := 74) dX1_word_68 rfl ?_ ?_
      · refine v_aload_n (pc := 74) (i := 0) dX1_word_74 rfl rfl ?_
        refine v_ldcS (pc := 75) (i := 4) (by decide) rfl dX1_word_75 ?_
        refine v_callVi (pc := 77) rcX1 (As := [.ref (g.2.2.2.2.2.2.1 4)]) (rest := []) (ct_X1_spells (by decide)) mi_X1_spells q_267 (by decide) rfl rfl (Nat.le_of_ble_eq_true rfl) dX1_word_77 (fun q4 => ?_)
        refine v_if_eq (pc := 80) (tgt := 86) dX1_word_80 rfl ?_ ?_
        · refine v_aload_n (pc := 86) (i := 0) dX1_word_86 rfl rfl ?_
          refine v_ldcS (pc := 87) (i := 5) (by decide) rfl dX1_word_87 ?_
          refine v_callVi (pc := 89) rcX1 (As := [.ref (g.2.2.2.2.2.2.1 5)]) (rest := []) (ct_X1_spells (by decide)) mi_X1_spells q_267 (by decide) rfl rfl (Nat.le_of_ble_eq_true rfl) dX1_word_89 (fun q5 => ?_)
          refine v_if_eq (pc := 92) (tgt := 98) dX1_word_92 rfl ?_ ?_
          · refine v_aload_n (pc := 98) (i := 0) dX1_word_98 rfl rfl ?_
            refine v_ldcS (pc := 99) (i := 6) (by decide) rfl dX1_word_99 ?_
            refine v_callVi (pc := 101) rcX1 (As := [.ref (g.2.2.2.2.2.2.1 6)]) (rest := []) (ct_X1_spells (by decide)) mi_X1_spells q_267 (by decide) rfl rfl (Nat.le_of_ble_eq_true rfl) dX1_word_101 (fun q6 => ?_)
            refine v_if_eq (pc := 104) (tgt := 110) dX1_word_104 rfl ?_ ?_
            · refine v_aload_n (pc := 110) (i := 0) dX1_word_110 rfl rfl ?_
              refine v_ldcS (pc := 111) (i := 7) (by decide) rfl dX1_word_111 ?_
              refine v_callVi (pc := 113) rcX1 (As := [.ref (g.2.2.2.2.2.2.1 7)]) (rest := []) (ct_X1_spells (by decide)) mi_X1_spells q_267 (by decide) rfl rfl (Nat.le_of_ble_eq_true rfl) dX1_word_113 (fun q7 => ?_)
              refine v_if_eq (pc := 116) (tgt := 122) dX1_word_116 rfl ?_ ?_
              · refine v_aload_n (pc := 122) (i := 0) dX1_word_122 rfl rfl ?_
                refine v_ldcS (pc := 123) (i := 8) (by decide) rfl dX1_word_123 ?_
                refine v_callVi (pc := 125) rcX1 (As := [.ref (g.2.2.2.2.2.2.1 8)]) (rest := []) (ct_X1_spells (by decide)) mi_X1_spells q_267 (by decide) rfl rfl (Nat.le_of_ble_eq_true rfl) dX1_word_125 (fun q8 => ?_)
                refine v_if_eq (pc := 128) (tgt := 134) dX1_word_128 rfl ?_ ?_
                · refine v_aload_n (pc := 134) (i := 0) dX1_word_134 rfl rfl ?_
                  refine v_ldcS (pc := 135) (i := 9) (by decide) rfl dX1_word_135 ?_
                  refine v_callVi (pc := 137) rcX1 (As := [.ref (g.2.2.2.2.2.2.1 9)]) (rest := []) (ct_X1_spells (by decide)) mi_X1_spells q_267 (by decide) rfl rfl (Nat.le_of_ble_eq_true rfl) dX1_word_137 (fun q9 => ?_)
                  refine v_if_eq (pc := 140) (tgt := 146) dX1_word_140 rfl ?_ ?_
                  · refine v_aload_n (pc := 146) (i := 0) dX1_word_146 rfl rfl ?_
                    refine v_ldcS (pc := 147) (i := 10) (by decide) rfl dX1_word_147 ?_
                    refine v_callVi (pc := 149) rcX1 (As := [.ref (g.2.2.2.2.2.2.1 10)]) (rest := []) (ct_X1_spells (by decide)) mi_X1_spells q_267 (by decide) rfl rfl (Nat.le_of_ble_eq_true rfl) dX1_word_149 (fun q10 => ?_)
                    refine v_if_eq (pc := 152) (tgt := 158) dX1_word_152 rfl ?_ ?_
                    · refine v_aload_n (pc := 158) (i := 0) dX1_word_158 rfl rfl ?_
                      refine v_ldcS (pc := 159) (i := 11) (by decide) rfl dX1_word_159 ?_
                      refine v_callVi (pc := 161) rcX1 (As := [.ref (g.2.2.2.2.2.2.1 11)]) (rest := []) (ct_X1_spells (by decide)) mi_X1_spells q_267 (by decide) rfl rfl (Nat.le_of_ble_eq_true rfl) dX1_word_161 (fun q11 => ?_)
                      refine v_if_eq (pc := 164) (tgt := 170) dX1_word_164 rfl ?_ ?_
                      · refine v_aload_n (pc := 170) (i := 0) dX1_word_170 rfl rfl ?_
                        refine v_ldcS (pc := 171) (i := 12) (by decide) rfl dX1_word_171 ?_
                        refine v_callVi (pc := 173) rcX1 (As := [.ref (g.2.2.2.2.2.2.1 12)]) (rest := []) (ct_X1_spells (by decide)) mi_X1_spells q_267 (by decide) rfl rfl (Nat.le_of_ble_eq_true rfl) dX1_word_173 (fun q12 => ?_)
                        refine v_if_eq (pc := 176) (tgt := 184) dX1_word_176 rfl ?_ ?_
                        · refine v_bipush (pc := 184) dX1_word_184 bp_m23 ?_
                          exact v_iret (pc := 186) dX1_word_186
                        · refine v_bipush (pc := 179) dX1_word_179 bp_m21 ?_
                          refine v_goto (pc := 181) (tgt := 186) dX1_word_181 rfl ?_
                          exact v_iret (pc := 186) dX1_word_186
                      · refine v_bipush (pc := 167) dX1_word_167 bp_m20 ?_
                        exact v_iret (pc := 169) dX1_word_169
                    · refine v_bipush (pc := 155) dX1_word_155 bp_m19 ?_
                      exact v_iret (pc := 157) dX1_word_157
                  · refine v_bipush (pc := 143) dX1_word_143 bp_m14 ?_
                    exact v_iret (pc := 145) dX1_word_145
                · refine v_bipush (pc := 131) dX1_word_131 bp_m8 ?_
                  exact v_iret (pc := 133) dX1_word_133
              · refine v_bipush (pc := 119) dX1_word_119 bp_m7 ?_
                exact v_iret (pc := 121) dX1_word_121
            · refine v_bipush (pc := 107) dX1_word_107 bp_m6 ?_
              exact v_iret (pc := 109) dX1_word_109
          · refine v_bipush (pc := 95) dX1_word_95 bp_m5 ?_
            exact v_iret (pc := 97) dX1_word_97
        · refine v_bipush (pc := 83) dX1_word_83 bp_m4 ?_
          exact v_iret (pc := 85) dX1_word_85
      · refine v_bipush (pc := 71) dX1_word_71 bp_m3 ?_
        exact v_iret (pc := 73) dX1_word_73
    · refine v_bipush (pc := 59) dX1_word_59 bp_m2 ?_
      exact v_iret (pc := 61) dX1_word_61
  · refine v_iconst (pc := 48) dX1_word_48 ic_m1 ?_
    exact v_iret (pc := 49) dX1_word_49
def b_X1_word_0 (kc0 : GX → Option (Int32 × GX)) (σ : GX) : Option (Int32 × GX) :=
  if (xI σ 3) ≤ (xI σ 4) then (b_X1_word_39 σ) else (tpB (xY σ) (grd (xI σ 4) 160 (bnd (f_X1_isLetter (xP σ (xI σ 4).toNatClampNeg) σ) fun q13 => if q13.1 = 0 then (b_X1_word_39 q13.2) else (bnd (some (sI q13.2 4 ((xI q13.2 4) + (1 : Int32)))) fun σ14 => kc0 σ14))))
theorem vb_X1_word_0 {g : Gt} {ad : Nat → Nat} (z : Zt) (kc0 : GX → Option (Int32 × GX)) (hkc0 : ∀ (σ : GX), V g (LX ad) 6 RX1 cX1_word 1 (some .int) (wX g ad) iI z (kc0 σ) σ 0 [(0, .ref (aReader ad))] []) (σ : GX) : V g (LX ad) 6 RX1 cX1_word 1 (some .int) (wX g ad) iI z (b_X1_word_0 kc0 σ) σ 0 [(0, .ref (aReader ad))] [] := by
  unfold b_X1_word_0
  refine v_aload_n (pc := 0) (i := 0) dX1_word_0 rfl rfl ?_
  refine gX1_at (pc := 1) q_84 dX1_word_1 ?_
  refine v_aload_n (pc := 4) (i := 0) dX1_word_4 rfl rfl ?_
  refine gX1_size (pc := 5) q_83 dX1_word_5 ?_
  refine v_icmp_ge (pc := 8) (tgt := 39) dX1_word_8 rfl ?_ ?_
  · exact v_sub [0] rfl (vb_X1_word_39 z σ)
  · refine v_aload_n (pc := 11) (i := 0) dX1_word_11 rfl rfl ?_
    refine gX1_tape (pc := 12) q_82 dX1_word_12 ?_
    refine v_aload_n (pc := 15) (i := 0) dX1_word_15 rfl rfl ?_
    refine gX1_at (pc := 16) q_84 dX1_word_16 ?_
    refine lX_tape (pc := 19) dX1_word_19 ?_
    refine v_callSi (pc := 20) (av := [.int (xP σ (xI σ 4).toNatClampNeg)]) (rest := []) (ct_X1_isLetter (xP σ (xI σ 4).toNatClampNeg)) mi_X1_isLetter q_259 (by decide) rfl rfl (Nat.le_of_ble_eq_true rfl) dX1_word_20 (fun q13 => ?_)
    refine v_if_eq (pc := 23) (tgt := 39) dX1_word_23 rfl ?_ ?_
    · exact v_sub [0] rfl (vb_X1_word_39 z q13.2)
    · refine v_aload_n (pc := 26) (i := 0) dX1_word_26 rfl rfl ?_
      refine v_dup (pc := 27) dX1_word_27 rfl ?_
      refine gX1_at (pc := 28) q_84 dX1_word_28 ?_
      refine v_iconst (pc := 31) dX1_word_31 ic_1 ?_
      refine v_iadd (pc := 32) dX1_word_32 ?_
      refine pX1_at (pc := 33) q_84 dX1_word_33 ?_
      refine v_nms (fun σ14 => ?_)
      refine v_goto (pc := 36) (tgt := 0) dX1_word_36 rfl ?_
      exact v_sub [0] rfl (hkc0 σ14)
def k_X1_word_0 : Nat → GX → Option (Int32 × GX)
  | 0 => fun _ => none
  | n + 1 => b_X1_word_0 (k_X1_word_0 n)
theorem vk_X1_word_0 {g : Gt} {ad : Nat → Nat} (z : Zt) : ∀ (n : Nat) (σ : GX), V g (LX ad) 6 RX1 cX1_word 1 (some .int) (wX g ad) iI z (k_X1_word_0 n σ) σ 0 [(0, .ref (aReader ad))] [] := by
  intro n
  induction n with
  | zero => intros; exact v_eq rfl v_none
  | succ n ih =>
    intro σ
    exact v_eq rfl (vb_X1_word_0 z _ ih σ)
def f_X1_word (σ : GX) : Option (Int32 × GX) :=
  k_X1_word_0 FU σ
theorem vf_X1_word {g : Gt} {ad : Nat → Nat} (z : Zt) (σ : GX) : V g (LX ad) 6 RX1 cX1_word 1 (some .int) (wX g ad) iI z (f_X1_word σ) σ 0 [(0, .ref (aReader ad))] [] := by
  unfold f_X1_word
  exact v_sub [0] rfl (vk_X1_word_0 z FU σ)
theorem ct_X1_word {g : Gt} {ad : Nat → Nat} : CT g (LX ad) yX1_word cX1_word 1 (some .int) 6 [.ref (aReader ad)] iI (wX g ad) (f_X1_word) :=
  ct_of_V (own := RX1) (lv0 := [(0, .ref (aReader ad))]) (by decide +kernel) rfl (Nat.le_of_ble_eq_true rfl) rfl (fun z σ => vf_X1_word z σ)
-- LighthouseLiedTo$Reader.isDigit
theorem dX1_isDigit_0 : decode cX1_isDigit 0 = .ok (.iload_n 0, 1) := by decide +kernel
theorem dX1_isDigit_1 : decode cX1_isDigit 1 = .ok (.bipush 48, 2) := by decide +kernel
theorem dX1_isDigit_3 : decode cX1_isDigit 3 = .ok (.if_icmp .lt 13, 3) := by decide +kernel
theorem dX1_isDigit_6 : decode cX1_isDigit 6 = .ok (.iload_n 0, 1) := by decide +kernel
theorem dX1_isDigit_7 : decode cX1_isDigit 7 = .ok (.bipush 57, 2) := by decide +kernel
theorem dX1_isDigit_9 : decode cX1_isDigit 9 = .ok (.if_icmp .gt 7, 3) := by decide +kernel
theorem dX1_isDigit_12 : decode cX1_isDigit 12 = .ok (.iconst 1, 1) := by decide +kernel
theorem dX1_isDigit_13 : decode cX1_isDigit 13 = .ok (.goto 4, 3) := by decide +kernel
theorem dX1_isDigit_16 : decode cX1_isDigit 16 = .ok (.iconst 0, 1) := by decide +kernel
theorem dX1_isDigit_17 : decode cX1_isDigit 17 = .ok (.ireturn, 1) := by decide +kernel
def f_X1_isDigit (x0 : Int32) (σ : GX) : Option (Int32 × GX) :=
  if x0 < (48 : Int32) then (some ((0 : Int32), σ)) else (if (57 : Int32) < x0 then (some ((0 : Int32), σ)) else (some ((1 : Int32), σ)))
theorem vf_X1_isDigit {g : Gt} {ad : Nat → Nat} (z : Zt) (x0 : Int32) (σ : GX) : V g (LX ad) 1 RX1 cX1_isDigit 1 (some .boolean) (wX g ad) iI z (f_X1_isDigit x0 σ) σ 0 [(0, .int x0)] [] := by
  unfold f_X1_isDigit
  refine v_iload_n (pc := 0) (i := 0) dX1_isDigit_0 rfl rfl ?_
  refine v_bipush (pc := 1) dX1_isDigit_1 bp_48 ?_
  refine v_icmp_lt (pc := 3) (tgt := 16) dX1_isDigit_3 rfl ?_ ?_
  · refine v_iconst (pc := 16) dX1_isDigit_16 ic_0 ?_
    exact v_nret (pc := 17) rfl dX1_isDigit_17
  · refine v_iload_n (pc := 6) (i := 0) dX1_isDigit_6 rfl rfl ?_
    refine v_bipush (pc := 7) dX1_isDigit_7 bp_57 ?_
    refine v_icmp_gt (pc := 9) (tgt := 16) dX1_isDigit_9 rfl ?_ ?_
    · refine v_iconst (pc := 16) dX1_isDigit_16 ic_0 ?_
      exact v_nret (pc := 17) rfl dX1_isDigit_17
    · refine v_iconst (pc := 12) dX1_isDigit_12 ic_1 ?_
      refine v_goto (pc := 13) (tgt := 17) dX1_isDigit_13 rfl ?_
      exact v_nret (pc := 17) rfl dX1_isDigit_17
theorem ct_X1_isDigit {g : Gt} {ad : Nat → Nat} (x0 : Int32) : CT g (LX ad) yX1_isDigit cX1_isDigit 1 (some .boolean) 1 [.int x0] iI (wX g ad) (f_X1_isDigit x0) :=
  ct_of_V (own := RX1) (lv0 := [(0, .int x0)]) (by decide +kernel) rfl (Nat.le_of_ble_eq_true rfl) rfl (fun z σ => vf_X1_isDigit z x0 σ)
-- LighthouseLiedTo$Reader.number
theorem dX1_number_0 : decode cX1_number 0 = .ok (.iconst 0, 1) := by decide +kernel
theorem dX1_number_1 : decode cX1_number 1 = .ok (.istore_n 1, 1) := by decide +kernel
theorem dX1_number_2 : decode cX1_number 2 = .ok (.aload_n 0, 1) := by decide +kernel
theorem dX1_number_3 : decode cX1_number 3 = .ok (.getfield 23, 3) := by decide +kernel
theorem dX1_number_6 : decode cX1_number 6 = .ok (.aload_n 0, 1) := by decide +kernel
theorem dX1_number_7 : decode cX1_number 7 = .ok (.getfield 15, 3) := by decide +kernel
theorem dX1_number_10 : decode cX1_number 10 = .ok (.if_icmp .ge 49, 3) := by decide +kernel
theorem dX1_number_13 : decode cX1_number 13 = .ok (.aload_n 0, 1) := by decide +kernel
theorem dX1_number_14 : decode cX1_number 14 = .ok (.getfield 9, 3) := by decide +kernel
theorem dX1_number_17 : decode cX1_number 17 = .ok (.aload_n 0, 1) := by decide +kernel
theorem dX1_number_18 : decode cX1_number 18 = .ok (.getfield 23, 3) := by decide +kernel
theorem dX1_number_21 : decode cX1_number 21 = .ok (.iaload, 1) := by decide +kernel
theorem dX1_number_22 : decode cX1_number 22 = .ok (.invokestatic 78, 3) := by decide +kernel
theorem dX1_number_25 : decode cX1_number 25 = .ok (.ifCond .eq 34, 3) := by decide +kernel
theorem dX1_number_28 : decode cX1_number 28 = .ok (.iload_n 1, 1) := by decide +kernel
theorem dX1_number_29 : decode cX1_number 29 = .ok (.bipush 10, 2) := by decide +kernel
theorem dX1_number_31 : decode cX1_number 31 = .ok (.imul, 1) := by decide +kernel
theorem dX1_number_32 : decode cX1_number 32 = .ok (.aload_n 0, 1) := by decide +kernel
theorem dX1_number_33 : decode cX1_number 33 = .ok (.getfield 9, 3) := by decide +kernel
theorem dX1_number_36 : decode cX1_number 36 = .ok (.aload_n 0, 1) := by decide +kernel
theorem dX1_number_37 : decode cX1_number 37 = .ok (.getfield 23, 3) := by decide +kernel
theorem dX1_number_40 : decode cX1_number 40 = .ok (.iaload, 1) := by decide +kernel
theorem dX1_number_41 : decode cX1_number 41 = .ok (.bipush 48, 2) := by decide +kernel
theorem dX1_number_43 : decode cX1_number 43 = .ok (.isub, 1) := by decide +kernel
theorem dX1_number_44 : decode cX1_number 44 = .ok (.iadd, 1) := by decide +kernel
theorem dX1_number_45 : decode cX1_number 45 = .ok (.istore_n 1, 1) := by decide +kernel
theorem dX1_number_46 : decode cX1_number 46 = .ok (.aload_n 0, 1) := by decide +kernel
theorem dX1_number_47 : decode cX1_number 47 = .ok (.dup, 1) := by decide +kernel
theorem dX1_number_48 : decode cX1_number 48 = .ok (.getfield 23, 3) := by decide +kernel
theorem dX1_number_51 : decode cX1_number 51 = .ok (.iconst 1, 1) := by decide +kernel
theorem dX1_number_52 : decode cX1_number 52 = .ok (.iadd, 1) := by decide +kernel
theorem dX1_number_53 : decode cX1_number 53 = .ok (.putfield 23, 3) := by decide +kernel
theorem dX1_number_56 : decode cX1_number 56 = .ok (.goto (-54), 3) := by decide +kernel
theorem dX1_number_59 : decode cX1_number 59 = .ok (.aload_n 0, 1) := by decide +kernel
theorem dX1_number_60 : decode cX1_number 60 = .ok (.getfield 23, 3) := by decide +kernel
theorem dX1_number_63 : decode cX1_number 63 = .ok (.aload_n 0, 1) := by decide +kernel
theorem dX1_number_64 : decode cX1_number 64 = .ok (.getfield 48, 3) := by decide +kernel
theorem dX1_number_67 : decode cX1_number 67 = .ok (.isub, 1) := by decide +kernel
theorem dX1_number_68 : decode cX1_number 68 = .ok (.iconst 4, 1) := by decide +kernel
theorem dX1_number_69 : decode cX1_number 69 = .ok (.if_icmp .le 8, 3) := by decide +kernel
theorem dX1_number_72 : decode cX1_number 72 = .ok (.bipush (-23), 2) := by decide +kernel
theorem dX1_number_74 : decode cX1_number 74 = .ok (.goto 4, 3) := by decide +kernel
theorem dX1_number_77 : decode cX1_number 77 = .ok (.iload_n 1, 1) := by decide +kernel
theorem dX1_number_78 : decode cX1_number 78 = .ok (.ireturn, 1) := by decide +kernel
def b_X1_number_59 (x1 : Int32) (σ : GX) : Option (Int32 × GX) :=
  if ((xI σ 4) - (xI σ 6)) ≤ (4 : Int32) then (some (x1, σ)) else (some ((-23 : Int32), σ))
theorem vb_X1_number_59 {g : Gt} {ad : Nat → Nat} (z : Zt) (x1 : Int32) (σ : GX) : V g (LX ad) 2 RX1 cX1_number 2 (some .int) (wX g ad) iI z (b_X1_number_59 x1 σ) σ 59 [(0, .ref (aReader ad)), (1, .int x1)] [] := by
  unfold b_X1_number_59
  refine v_aload_n (pc := 59) (i := 0) dX1_number_59 rfl rfl ?_
  refine gX1_at (pc := 60) q_84 dX1_number_60 ?_
  refine v_aload_n (pc := 63) (i := 0) dX1_number_63 rfl rfl ?_
  refine gX1_place (pc := 64) q_86 dX1_number_64 ?_
  refine v_isub (pc := 67) dX1_number_67 ?_
  refine v_iconst (pc := 68) dX1_number_68 ic_4 ?_
  refine v_icmp_le (pc := 69) (tgt := 77) dX1_number_69 rfl ?_ ?_
  · refine v_iload_n (pc := 77) (i := 1) dX1_number_77 rfl rfl ?_
    exact v_iret (pc := 78) dX1_number_78
  · refine v_bipush (pc := 72) dX1_number_72 bp_m23 ?_
    refine v_goto (pc := 74) (tgt := 78) dX1_number_74 rfl ?_
    exact v_iret (pc := 78) dX1_number_78
def b_X1_number_2 (kc2 : Int32 → GX → Option (Int32 × GX)) (x1 : Int32) (σ : GX) : Option (Int32 × GX) :=
  if (xI σ 3) ≤ (xI σ 4) then (b_X1_number_59 x1 σ) else (tpB (xY σ) (grd (xI σ 4) 160 (bnd (f_X1_isDigit (xP σ (xI σ 4).toNatClampNeg) σ) fun q1 => if q1.1 = 0 then (b_X1_number_59 x1 q1.2) else (tpB (xY q1.2) (grd (xI q1.2 4) 160 (bnd (some ((x1 * (10 : Int32)) + ((xP q1.2 (xI q1.2 4).toNatClampNeg) - (48 : Int32)))) fun w2 => bnd (some (sI q1.2 4 ((xI q1.2 4) + (1 : Int32)))) fun σ3 => kc2 w2 σ3))))))
theorem vb_X1_number_2 {g : Gt} {ad : Nat → Nat} (z : Zt) (kc2 : Int32 → GX → Option (Int32 × GX)) (hkc2 : ∀ (x1 : Int32) (σ : GX), V g (LX ad) 2 RX1 cX1_number 2 (some .int) (wX g ad) iI z (kc2 x1 σ) σ 2 [(0, .ref (aReader ad)), (1, .int x1)] []) (x1 : Int32) (σ : GX) : V g (LX ad) 2 RX1 cX1_number 2 (some .int) (wX g ad) iI z (b_X1_number_2 kc2 x1 σ) σ 2 [(0, .ref (aReader ad)), (1, .int x1)] [] := by
  unfold b_X1_number_2
  refine v_aload_n (pc := 2) (i := 0) dX1_number_2 rfl rfl ?_
  refine gX1_at (pc := 3) q_84 dX1_number_3 ?_
  refine v_aload_n (pc := 6) (i := 0) dX1_number_6 rfl rfl ?_
  refine gX1_size (pc := 7) q_83 dX1_number_7 ?_
  refine v_icmp_ge (pc := 10) (tgt := 59) dX1_number_10 rfl ?_ ?_
  · exact v_sub [0, 1] rfl (vb_X1_number_59 z x1 σ)
  · refine v_aload_n (pc := 13) (i := 0) dX1_number_13 rfl rfl ?_
    refine gX1_tape (pc := 14) q_82 dX1_number_14 ?_
    refine v_aload_n (pc := 17) (i := 0) dX1_number_17 rfl rfl ?_
    refine gX1_at (pc := 18) q_84 dX1_number_18 ?_
    refine lX_tape (pc := 21) dX1_number_21 ?_
    refine v_callSi (pc := 22) (av := [.int (xP σ (xI σ 4).toNatClampNeg)]) (rest := []) (ct_X1_isDigit (xP σ (xI σ 4).toNatClampNeg)) mi_X1_isDigit q_284 (by decide) rfl rfl (Nat.le_of_ble_eq_true rfl) dX1_number_22 (fun q1 => ?_)
    refine v_if_eq (pc := 25) (tgt := 59) dX1_number_25 rfl ?_ ?_
    · exact v_sub [0, 1] rfl (vb_X1_number_59 z x1 q1.2)
    · refine v_iload_n (pc := 28) (i := 1) dX1_number_28 rfl rfl ?_
      refine v_bipush (pc := 29) dX1_number_29 bp_10 ?_
      refine v_imul (pc := 31) dX1_number_31 ?_
      refine v_aload_n (pc := 32) (i := 0) dX1_number_32 rfl rfl ?_
      refine gX1_tape (pc := 33) q_82 dX1_number_33 ?_
      refine v_aload_n (pc := 36) (i := 0) dX1_number_36 rfl rfl ?_
      refine gX1_at (pc := 37) q_84 dX1_number_37 ?_
      refine lX_tape (pc := 40) dX1_number_40 ?_
      refine v_bipush (pc := 41) dX1_number_41 bp_48 ?_
      refine v_isub (pc := 43) dX1_number_43 ?_
      refine v_iadd (pc := 44) dX1_number_44 ?_
      refine v_nmi (fun w2 => ?_)
      refine v_istore_n (pc := 45) (lv' := [(1, .int w2), (0, .ref (aReader ad))]) (i := 1) dX1_number_45 rfl (by decide) rfl ?_
      refine v_aload_n (pc := 46) (i := 0) dX1_number_46 rfl rfl ?_
      refine v_dup (pc := 47) dX1_number_47 rfl ?_
      refine gX1_at (pc := 48) q_84 dX1_number_48 ?_
      refine v_iconst (pc := 51) dX1_number_51 ic_1 ?_
      refine v_iadd (pc := 52) dX1_number_52 ?_
      refine pX1_at (pc := 53) q_84 dX1_number_53 ?_
      refine v_nms (fun σ3 => ?_)
      refine v_goto (pc := 56) (tgt := 2) dX1_number_56 rfl ?_
      exact v_sub [1, 0] rfl (hkc2 w2 σ3)
def k_X1_number_2 : Nat → Int32 → GX → Option (Int32 × GX)
  | 0 => fun _ _ => none
  | n + 1 => b_X1_number_2 (k_X1_number_2 n)
theorem vk_X1_number_2 {g : Gt} {ad : Nat → Nat} (z : Zt) : ∀ (n : Nat) (x1 : Int32) (σ : GX), V g (LX ad) 2 RX1 cX1_number 2 (some .int) (wX g ad) iI z (k_X1_number_2 n x1 σ) σ 2 [(0, .ref (aReader ad)), (1, .int x1)] [] := by
  intro n
  induction n with
  | zero => intros; exact v_eq rfl v_none
  | succ n ih =>
    intro x1 σ
    exact v_eq rfl (vb_X1_number_2 z _ ih x1 σ)
def f_X1_number (σ : GX) : Option (Int32 × GX) :=
  k_X1_number_2 FU (0 : Int32) σ
theorem vf_X1_number {g : Gt} {ad : Nat → Nat} (z : Zt) (σ : GX) : V g (LX ad) 2 RX1 cX1_number 2 (some .int) (wX g ad) iI z (f_X1_number σ) σ 0 [(0, .ref (aReader ad))] [] := by
  unfold f_X1_number
  refine v_iconst (pc := 0) dX1_number_0 ic_0 ?_
  refine v_istore_n (pc := 1) (lv' := [(1, .int (0 : Int32)), (0, .ref (aReader ad))]) (i := 1) dX1_number_1 rfl (by decide) rfl ?_
  exact v_sub [1, 0] rfl (vk_X1_number_2 z FU (0 : Int32) σ)
theorem ct_X1_number {g : Gt} {ad : Nat → Nat} : CT g (LX ad) yX1_number cX1_number 2 (some .int) 2 [.ref (aReader ad)] iI (wX g ad) (f_X1_number) :=
  ct_of_V (own := RX1) (lv0 := [(0, .ref (aReader ad))]) (by decide +kernel) rfl (Nat.le_of_ble_eq_true rfl) rfl (fun z σ => vf_X1_number z σ)
-- LighthouseLiedTo$Reader.signOf
theorem dX1_signOf_0 : decode cX1_signOf 0 = .ok (.iload_n 0, 1) := by decide +kernel
theorem dX1_signOf_1 : decode cX1_signOf 1 = .ok (.tableswitch 127 40 61 #[103, 106, 118, 112, 127, 115, 127, 127, 127, 127, 127, 127, 127, 127, 127, 127, 127, 127, 127, 109, 121, 124], 103) := by decide +kernel
theorem dX1_signOf_104 : decode cX1_signOf 104 = .ok (.bipush (-16), 2) := by decide +kernel
theorem dX1_signOf_106 : decode cX1_signOf 106 = .ok (.ireturn, 1) := by decide +kernel
theorem dX1_signOf_107 : decode cX1_signOf 107 = .ok (.bipush (-17), 2) := by decide +kernel
theorem dX1_signOf_109 : decode cX1_signOf 109 = .ok (.ireturn, 1) := by decide +kernel
theorem dX1_signOf_110 : decode cX1_signOf 110 = .ok (.bipush (-18), 2) := by decide +kernel
theorem dX1_signOf_112 : decode cX1_signOf 112 = .ok (.ireturn, 1) := by decide +kernel
theorem dX1_signOf_113 : decode cX1_signOf 113 = .ok (.bipush (-11), 2) := by decide +kernel
theorem dX1_signOf_115 : decode cX1_signOf 115 = .ok (.ireturn, 1) := by decide +kernel
theorem dX1_signOf_116 : decode cX1_signOf 116 = .ok (.bipush (-12), 2) := by decide +kernel
theorem dX1_signOf_118 : decode cX1_signOf 118 = .ok (.ireturn, 1) := by decide +kernel
theorem dX1_signOf_119 : decode cX1_signOf 119 = .ok (.bipush (-13), 2) := by decide +kernel
theorem dX1_signOf_121 : decode cX1_signOf 121 = .ok (.ireturn, 1) := by decide +kernel
theorem dX1_signOf_122 : decode cX1_signOf 122 = .ok (.bipush (-9), 2) := by decide +kernel
theorem dX1_signOf_124 : decode cX1_signOf 124 = .ok (.ireturn, 1) := by decide +kernel
theorem dX1_signOf_125 : decode cX1_signOf 125 = .ok (.bipush (-10), 2) := by decide +kernel
theorem dX1_signOf_127 : decode cX1_signOf 127 = .ok (.ireturn, 1) := by decide +kernel
theorem dX1_signOf_128 : decode cX1_signOf 128 = .ok (.bipush (-23), 2) := by decide +kernel
theorem dX1_signOf_130 : decode cX1_signOf 130 = .ok (.ireturn, 1) := by decide +kernel
def f_X1_signOf (x0 : Int32) (σ : GX) : Option (Int32 × GX) :=
  if x0 = (40 : Int32) then (some ((-16 : Int32), σ)) else (if x0 = (41 : Int32) then (some ((-17 : Int32), σ)) else (if x0 = (42 : Int32) then (some ((-13 : Int32), σ)) else (if x0 = (43 : Int32) then (some ((-11 : Int32), σ)) else (if x0 = (44 : Int32) then (some ((-23 : Int32), σ)) else (if x0 = (45 : Int32) then (some ((-12 : Int32), σ)) else (if x0 = (46 : Int32) then (some ((-23 : Int32), σ)) else (if x0 = (47 : Int32) then (some ((-23 : Int32), σ)) else (if x0 = (48 : Int32) then (some ((-23 : Int32), σ)) else (if x0 = (49 : Int32) then (some ((-23 : Int32), σ)) else (if x0 = (50 : Int32) then (some ((-23 : Int32), σ)) else (if x0 = (51 : Int32) then (some ((-23 : Int32), σ)) else (if x0 = (52 : Int32) then (some ((-23 : Int32), σ)) else (if x0 = (53 : Int32) then (some ((-23 : Int32), σ)) else (if x0 = (54 : Int32) then (some ((-23 : Int32), σ)) else (if x0 = (55 : Int32) then (some ((-23 : Int32), σ)) else (if x0 = (56 : Int32) then (some ((-23 : Int32), σ)) else (if x0 = (57 : Int32) then (some ((-23 : Int32), σ)) else (if x0 = (58 : Int32) then (some ((-23 : Int32), σ)) else (if x0 = (59 : Int32) then (some ((-18 : Int32), σ)) else (if x0 = (60 : Int32) then (some ((-9 : Int32), σ)) else (if x0 = (61 : Int32) then (some ((-10 : Int32), σ)) else (some ((-23 : Int32), σ)))))))))))))))))))))))
theorem vf_X1_signOf {g : Gt} {ad : Nat → Nat} (z : Zt) (x0 : Int32) (σ : GX) : V g (LX ad) 1 RX1 cX1_signOf 1 (some .int) (wX g ad) iI z (f_X1_signOf x0 σ) σ 0 [(0, .int x0)] [] := by
  unfold f_X1_signOf
  refine v_iload_n (pc := 0) (i := 0) dX1_signOf_0 rfl rfl ?_
  refine v_case (c := x0 = (40 : Int32)) (fun hx => ?_) (fun hc1_0 => ?_)
  · refine v_tin (pc := 1) (tgt := 104) (off := 103) hx dX1_signOf_1 (by decide) (by decide) rfl rfl ?_
    refine v_bipush (pc := 104) dX1_signOf_104 bp_m16 ?_
    exact v_iret (pc := 106) dX1_signOf_106
  refine v_case (c := x0 = (41 : Int32)) (fun hx => ?_) (fun hc1_1 => ?_)
  · refine v_tin (pc := 1) (tgt := 107) (off := 106) hx dX1_signOf_1 (by decide) (by decide) rfl rfl ?_
    refine v_bipush (pc := 107) dX1_signOf_107 bp_m17 ?_
    exact v_iret (pc := 109) dX1_signOf_109
  refine v_case (c := x0 = (42 : Int32)) (fun hx => ?_) (fun hc1_2 => ?_)
  · refine v_tin (pc := 1) (tgt := 119) (off := 118) hx dX1_signOf_1 (by decide) (by decide) rfl rfl ?_
    refine v_bipush (pc := 119) dX1_signOf_119 bp_m13 ?_
    exact v_iret (pc := 121) dX1_signOf_121
  refine v_case (c := x0 = (43 : Int32)) (fun hx => ?_) (fun hc1_3 => ?_)
  · refine v_tin (pc := 1) (tgt := 113) (off := 112) hx dX1_signOf_1 (by decide) (by decide) rfl rfl ?_
    refine v_bipush (pc := 113) dX1_signOf_113 bp_m11 ?_
    exact v_iret (pc := 115) dX1_signOf_115
  refine v_case (c := x0 = (44 : Int32)) (fun hx => ?_) (fun hc1_4 => ?_)
  · refine v_tin (pc := 1) (tgt := 128) (off := 127) hx dX1_signOf_1 (by decide) (by decide) rfl rfl ?_
    refine v_bipush (pc := 128) dX1_signOf_128 bp_m23 ?_
    exact v_iret (pc := 130) dX1_signOf_130
  refine v_case (c := x0 = (45 : Int32)) (fun hx => ?_) (fun hc1_5 => ?_)
  · refine v_tin (pc := 1) (tgt := 116) (off := 115) hx dX1_signOf_1 (by decide) (by decide) rfl rfl ?_
    refine v_bipush (pc := 116) dX1_signOf_116 bp_m12 ?_
    exact v_iret (pc := 118) dX1_signOf_118
  refine v_case (c := x0 = (46 : Int32)) (fun hx => ?_) (fun hc1_6 => ?_)
  · refine v_tin (pc := 1) (tgt := 128) (off := 127) hx dX1_signOf_1 (by decide) (by decide) rfl rfl ?_
    refine v_bipush (pc := 128) dX1_signOf_128 bp_m23 ?_
    exact v_iret (pc := 130) dX1_signOf_130
  refine v_case (c := x0 = (47 : Int32)) (fun hx => ?_) (fun hc1_7 => ?_)
  · refine v_tin (pc := 1) (tgt := 128) (off := 127) hx dX1_signOf_1 (by decide) (by decide) rfl rfl ?_
    refine v_bipush (pc := 128) dX1_signOf_128 bp_m23 ?_
    exact v_iret (pc := 130) dX1_signOf_130
  refine v_case (c := x0 = (48 : Int32)) (fun hx => ?_) (fun hc1_8 => ?_)
  · refine v_tin (pc := 1) (tgt := 128) (off := 127) hx dX1_signOf_1 (by decide) (by decide) rfl rfl ?_
    refine v_bipush (pc := 128) dX1_signOf_128 bp_m23 ?_
    exact v_iret (pc := 130) dX1_signOf_130
  refine v_case (c := x0 = (49 : Int32)) (fun hx => ?_) (fun hc1_9 => ?_)
  · refine v_tin (pc := 1) (tgt := 128) (off := 127) hx dX1_signOf_1 (by decide) (by decide) rfl rfl ?_
    refine v_bipush (pc := 128) dX1_signOf_128 bp_m23 ?_
    exact v_iret (pc := 130) dX1_signOf_130
  refine v_case (c := x0 = (50 : Int32)) (fun hx => ?_) (fun hc1_10 => ?_)
  · refine v_tin (pc := 1) (tgt := 128) (off := 127) hx dX1_signOf_1 (by decide) (by decide) rfl rfl ?_
    refine v_bipush (pc := 128) dX1_signOf_128 bp_m23 ?_
    exact v_iret (pc := 130) dX1_signOf_130
  refine v_case (c := x0 = (51 : Int32)) (fun hx => ?_) (fun hc1_11 => ?_)
  · refine v_tin (pc := 1) (tgt := 128) (off := 127) hx dX1_signOf_1 (by decide) (by decide) rfl rfl ?_
    refine v_bipush (pc := 128) dX1_signOf_128 bp_m23 ?_
    exact v_iret (pc := 130) dX1_signOf_130
  refine v_case (c := x0 = (52 : Int32)) (fun hx => ?_) (fun hc1_12 => ?_)
  · refine v_tin (pc := 1) (tgt := 128) (off := 127) hx dX1_signOf_1 (by decide) (by decide) rfl rfl ?_
    refine v_bipush (pc := 128) dX1_signOf_128 bp_m23 ?_
    exact v_iret (pc := 130) dX1_signOf_130
  refine v_case (c := x0 = (53 : Int32)) (fun hx => ?_) (fun hc1_13 => ?_)
  · refine v_tin (pc := 1) (tgt := 128) (off := 127) hx dX1_signOf_1 (by decide) (by decide) rfl rfl ?_
    refine v_bipush (pc := 128) dX1_signOf_128 bp_m23 ?_
    exact v_iret (pc := 130) dX1_signOf_130
  refine v_case (c := x0 = (54 : Int32)) (fun hx => ?_) (fun hc1_14 => ?_)
  · refine v_tin (pc := 1) (tgt := 128) (off := 127) hx dX1_signOf_1 (by decide) (by decide) rfl rfl ?_
    refine v_bipush (pc := 128) dX1_signOf_128 bp_m23 ?_
    exact v_iret (pc := 130) dX1_signOf_130
  refine v_case (c := x0 = (55 : Int32)) (fun hx => ?_) (fun hc1_15 => ?_)
  · refine v_tin (pc := 1) (tgt := 128) (off := 127) hx dX1_signOf_1 (by decide) (by decide) rfl rfl ?_
    refine v_bipush (pc := 128) dX1_signOf_128 bp_m23 ?_
    exact v_iret (pc := 130) dX1_signOf_130
  refine v_case (c := x0 = (56 : Int32)) (fun hx => ?_) (fun hc1_16 => ?_)
  · refine v_tin (pc := 1) (tgt := 128) (off := 127) hx dX1_signOf_1 (by decide) (by decide) rfl rfl ?_
    refine v_bipush (pc := 128) dX1_signOf_128 bp_m23 ?_
    exact v_iret (pc := 130) dX1_signOf_130
  refine v_case (c := x0 = (57 : Int32)) (fun hx => ?_) (fun hc1_17 => ?_)
  · refine v_tin (pc := 1) (tgt := 128) (off := 127) hx dX1_signOf_1 (by decide) (by decide) rfl rfl ?_
    refine v_bipush (pc := 128) dX1_signOf_128 bp_m23 ?_
    exact v_iret (pc := 130) dX1_signOf_130
  refine v_case (c := x0 = (58 : Int32)) (fun hx => ?_) (fun hc1_18 => ?_)
  · refine v_tin (pc := 1) (tgt := 128) (off := 127) hx dX1_signOf_1 (by decide) (by decide) rfl rfl ?_
    refine v_bipush (pc := 128) dX1_signOf_128 bp_m23 ?_
    exact v_iret (pc := 130) dX1_signOf_130
  refine v_case (c := x0 = (59 : Int32)) (fun hx => ?_) (fun hc1_19 => ?_)
  · refine v_tin (pc := 1) (tgt := 110) (off := 109) hx dX1_signOf_1 (by decide) (by decide) rfl rfl ?_
    refine v_bipush (pc := 110) dX1_signOf_110 bp_m18 ?_
    exact v_iret (pc := 112) dX1_signOf_112
  refine v_case (c := x0 = (60 : Int32)) (fun hx => ?_) (fun hc1_20 => ?_)
  · refine v_tin (pc := 1) (tgt := 122) (off := 121) hx dX1_signOf_1 (by decide) (by decide) rfl rfl ?_
    refine v_bipush (pc := 122) dX1_signOf_122 bp_m9 ?_
    exact v_iret (pc := 124) dX1_signOf_124
  refine v_case (c := x0 = (61 : Int32)) (fun hx => ?_) (fun hc1_21 => ?_)
  · refine v_tin (pc := 1) (tgt := 125) (off := 124) hx dX1_signOf_1 (by decide) (by decide) rfl rfl ?_
    refine v_bipush (pc := 125) dX1_signOf_125 bp_m10 ?_
    exact v_iret (pc := 127) dX1_signOf_127
  refine v_tout (pc := 1) (tgt := 128) dX1_signOf_1 (by have e0 := tsw_ne (a := 40) hc1_0 rfl; have e1 := tsw_ne (a := 41) hc1_1 rfl; have e2 := tsw_ne (a := 42) hc1_2 rfl; have e3 := tsw_ne (a := 43) hc1_3 rfl; have e4 := tsw_ne (a := 44) hc1_4 rfl; have e5 := tsw_ne (a := 45) hc1_5 rfl; have e6 := tsw_ne (a := 46) hc1_6 rfl; have e7 := tsw_ne (a := 47) hc1_7 rfl; have e8 := tsw_ne (a := 48) hc1_8 rfl; have e9 := tsw_ne (a := 49) hc1_9 rfl; have e10 := tsw_ne (a := 50) hc1_10 rfl; have e11 := tsw_ne (a := 51) hc1_11 rfl; have e12 := tsw_ne (a := 52) hc1_12 rfl; have e13 := tsw_ne (a := 53) hc1_13 rfl; have e14 := tsw_ne (a := 54) hc1_14 rfl; have e15 := tsw_ne (a := 55) hc1_15 rfl; have e16 := tsw_ne (a := 56) hc1_16 rfl; have e17 := tsw_ne (a := 57) hc1_17 rfl; have e18 := tsw_ne (a := 58) hc1_18 rfl; have e19 := tsw_ne (a := 59) hc1_19 rfl; have e20 := tsw_ne (a := 60) hc1_20 rfl; have e21 := tsw_ne (a := 61) hc1_21 rfl; omega) rfl ?_
  refine v_bipush (pc := 128) dX1_signOf_128 bp_m23 ?_
  exact v_iret (pc := 130) dX1_signOf_130
theorem ct_X1_signOf {g : Gt} {ad : Nat → Nat} (x0 : Int32) : CT g (LX ad) yX1_signOf cX1_signOf 1 (some .int) 1 [.int x0] iI (wX g ad) (f_X1_signOf x0) :=
  ct_of_V (own := RX1) (lv0 := [(0, .int x0)]) (by decide +kernel) rfl (Nat.le_of_ble_eq_true rfl) rfl (fun z σ => vf_X1_signOf z x0 σ)
-- LighthouseLiedTo$Reader.advance
theorem dX1_advance_0 : decode cX1_advance 0 = .ok (.aload_n 0, 1) := by decide +kernel
theorem dX1_advance_1 : decode cX1_advance 1 = .ok (.getfield 23, 3) := by decide +kernel
theorem dX1_advance_4 : decode cX1_advance 4 = .ok (.aload_n 0, 1) := by decide +kernel
theorem dX1_advance_5 : decode cX1_advance 5 = .ok (.getfield 15, 3) := by decide +kernel
theorem dX1_advance_8 : decode cX1_advance 8 = .ok (.if_icmp .ge 44, 3) := by decide +kernel
theorem dX1_advance_11 : decode cX1_advance 11 = .ok (.aload_n 0, 1) := by decide +kernel
theorem dX1_advance_12 : decode cX1_advance 12 = .ok (.getfield 9, 3) := by decide +kernel
theorem dX1_advance_15 : decode cX1_advance 15 = .ok (.aload_n 0, 1) := by decide +kernel
theorem dX1_advance_16 : decode cX1_advance 16 = .ok (.getfield 23, 3) := by decide +kernel
theorem dX1_advance_19 : decode cX1_advance 19 = .ok (.iaload, 1) := by decide +kernel
theorem dX1_advance_20 : decode cX1_advance 20 = .ok (.bipush 32, 2) := by decide +kernel
theorem dX1_advance_22 : decode cX1_advance 22 = .ok (.if_icmp .eq 17, 3) := by decide +kernel
theorem dX1_advance_25 : decode cX1_advance 25 = .ok (.aload_n 0, 1) := by decide +kernel
theorem dX1_advance_26 : decode cX1_advance 26 = .ok (.getfield 9, 3) := by decide +kernel
theorem dX1_advance_29 : decode cX1_advance 29 = .ok (.aload_n 0, 1) := by decide +kernel
theorem dX1_advance_30 : decode cX1_advance 30 = .ok (.getfield 23, 3) := by decide +kernel
theorem dX1_advance_33 : decode cX1_advance 33 = .ok (.iaload, 1) := by decide +kernel
theorem dX1_advance_34 : decode cX1_advance 34 = .ok (.bipush 10, 2) := by decide +kernel
theorem dX1_advance_36 : decode cX1_advance 36 = .ok (.if_icmp .ne 16, 3) := by decide +kernel
theorem dX1_advance_39 : decode cX1_advance 39 = .ok (.aload_n 0, 1) := by decide +kernel
theorem dX1_advance_40 : decode cX1_advance 40 = .ok (.dup, 1) := by decide +kernel
theorem dX1_advance_41 : decode cX1_advance 41 = .ok (.getfield 23, 3) := by decide +kernel
theorem dX1_advance_44 : decode cX1_advance 44 = .ok (.iconst 1, 1) := by decide +kernel
theorem dX1_advance_45 : decode cX1_advance 45 = .ok (.iadd, 1) := by decide +kernel
theorem dX1_advance_46 : decode cX1_advance 46 = .ok (.putfield 23, 3) := by decide +kernel
theorem dX1_advance_49 : decode cX1_advance 49 = .ok (.goto (-49), 3) := by decide +kernel
theorem dX1_advance_52 : decode cX1_advance 52 = .ok (.aload_n 0, 1) := by decide +kernel
theorem dX1_advance_53 : decode cX1_advance 53 = .ok (.aload_n 0, 1) := by decide +kernel
theorem dX1_advance_54 : decode cX1_advance 54 = .ok (.getfield 23, 3) := by decide +kernel
theorem dX1_advance_57 : decode cX1_advance 57 = .ok (.putfield 48, 3) := by decide +kernel
theorem dX1_advance_60 : decode cX1_advance 60 = .ok (.aload_n 0, 1) := by decide +kernel
theorem dX1_advance_61 : decode cX1_advance 61 = .ok (.getfield 23, 3) := by decide +kernel
theorem dX1_advance_64 : decode cX1_advance 64 = .ok (.aload_n 0, 1) := by decide +kernel
theorem dX1_advance_65 : decode cX1_advance 65 = .ok (.getfield 15, 3) := by decide +kernel
theorem dX1_advance_68 : decode cX1_advance 68 = .ok (.if_icmp .lt 12, 3) := by decide +kernel
theorem dX1_advance_71 : decode cX1_advance 71 = .ok (.aload_n 0, 1) := by decide +kernel
theorem dX1_advance_72 : decode cX1_advance 72 = .ok (.bipush (-22), 2) := by decide +kernel
theorem dX1_advance_74 : decode cX1_advance 74 = .ok (.putfield 51, 3) := by decide +kernel
theorem dX1_advance_77 : decode cX1_advance 77 = .ok (.goto 81, 3) := by decide +kernel
theorem dX1_advance_80 : decode cX1_advance 80 = .ok (.aload_n 0, 1) := by decide +kernel
theorem dX1_advance_81 : decode cX1_advance 81 = .ok (.getfield 9, 3) := by decide +kernel
theorem dX1_advance_84 : decode cX1_advance 84 = .ok (.aload_n 0, 1) := by decide +kernel
theorem dX1_advance_85 : decode cX1_advance 85 = .ok (.getfield 23, 3) := by decide +kernel
theorem dX1_advance_88 : decode cX1_advance 88 = .ok (.iaload, 1) := by decide +kernel
theorem dX1_advance_89 : decode cX1_advance 89 = .ok (.invokestatic 71, 3) := by decide +kernel
theorem dX1_advance_92 : decode cX1_advance 92 = .ok (.ifCond .eq 14, 3) := by decide +kernel
theorem dX1_advance_95 : decode cX1_advance 95 = .ok (.aload_n 0, 1) := by decide +kernel
theorem dX1_advance_96 : decode cX1_advance 96 = .ok (.aload_n 0, 1) := by decide +kernel
theorem dX1_advance_97 : decode cX1_advance 97 = .ok (.invokevirtual 74, 3) := by decide +kernel
theorem dX1_advance_100 : decode cX1_advance 100 = .ok (.putfield 51, 3) := by decide +kernel
theorem dX1_advance_103 : decode cX1_advance 103 = .ok (.goto 55, 3) := by decide +kernel
theorem dX1_advance_106 : decode cX1_advance 106 = .ok (.aload_n 0, 1) := by decide +kernel
theorem dX1_advance_107 : decode cX1_advance 107 = .ok (.getfield 9, 3) := by decide +kernel
theorem dX1_advance_110 : decode cX1_advance 110 = .ok (.aload_n 0, 1) := by decide +kernel
theorem dX1_advance_111 : decode cX1_advance 111 = .ok (.getfield 23, 3) := by decide +kernel
theorem dX1_advance_114 : decode cX1_advance 114 = .ok (.iaload, 1) := by decide +kernel
theorem dX1_advance_115 : decode cX1_advance 115 = .ok (.invokestatic 78, 3) := by decide +kernel
theorem dX1_advance_118 : decode cX1_advance 118 = .ok (.ifCond .eq 14, 3) := by decide +kernel
theorem dX1_advance_121 : decode cX1_advance 121 = .ok (.aload_n 0, 1) := by decide +kernel
theorem dX1_advance_122 : decode cX1_advance 122 = .ok (.aload_n 0, 1) := by decide +kernel
theorem dX1_advance_123 : decode cX1_advance 123 = .ok (.invokevirtual 81, 3) := by decide +kernel
theorem dX1_advance_126 : decode cX1_advance 126 = .ok (.putfield 51, 3) := by decide +kernel
theorem dX1_advance_129 : decode cX1_advance 129 = .ok (.goto 29, 3) := by decide +kernel
theorem dX1_advance_132 : decode cX1_advance 132 = .ok (.aload_n 0, 1) := by decide +kernel
theorem dX1_advance_133 : decode cX1_advance 133 = .ok (.aload_n 0, 1) := by decide +kernel
theorem dX1_advance_134 : decode cX1_advance 134 = .ok (.getfield 9, 3) := by decide +kernel
theorem dX1_advance_137 : decode cX1_advance 137 = .ok (.aload_n 0, 1) := by decide +kernel
theorem dX1_advance_138 : decode cX1_advance 138 = .ok (.getfield 23, 3) := by decide +kernel
theorem dX1_advance_141 : decode cX1_advance 141 = .ok (.iaload, 1) := by decide +kernel
theorem dX1_advance_142 : decode cX1_advance 142 = .ok (.invokestatic 84, 3) := by decide +kernel
theorem dX1_advance_145 : decode cX1_advance 145 = .ok (.putfield 51, 3) := by decide +kernel
theorem dX1_advance_148 : decode cX1_advance 148 = .ok (.aload_n 0, 1) := by decide +kernel
theorem dX1_advance_149 : decode cX1_advance 149 = .ok (.dup, 1) := by decide +kernel
theorem dX1_advance_150 : decode cX1_advance 150 = .ok (.getfield 23, 3) := by decide +kernel
theorem dX1_advance_153 : decode cX1_advance 153 = .ok (.iconst 1, 1) := by decide +kernel
theorem dX1_advance_154 : decode cX1_advance 154 = .ok (.iadd, 1) := by decide +kernel
theorem dX1_advance_155 : decode cX1_advance 155 = .ok (.putfield 23, 3) := by decide +kernel
theorem dX1_advance_158 : decode cX1_advance 158 = .ok (.return_, 1) := by decide +kernel
def b_X1_advance_52 (σ : GX) : Option (Unit × GX) :=
  bnd (some (sI σ 6 (xI σ 4))) fun σ1 => if (xI σ1 4) < (xI σ1 3) then (tpB (xY σ1) (grd (xI σ1 4) 160 (bnd (f_X1_isLetter (xP σ1 (xI σ1 4).toNatClampNeg) σ1) fun q2 => if q2.1 = 0 then (tpB (xY q2.2) (grd (xI q2.2 4) 160 (bnd (f_X1_isDigit (xP q2.2 (xI q2.2 4).toNatClampNeg) q2.2) fun q3 => if q3.1 = 0 then (tpB (xY q3.2) (grd (xI q3.2 4) 160 (bnd (f_X1_signOf (xP q3.2 (xI q3.2 4).toNatClampNeg) q3.2) fun q4 => bnd (some (sI q4.2 5 q4.1)) fun σ5 => bnd (some (sI σ5 4 ((xI σ5 4) + (1 : Int32)))) fun σ6 => some ((), σ6)))) else (bnd (f_X1_number q3.2) fun q7 => bnd (some (sI q7.2 5 q7.1)) fun σ8 => some ((), σ8))))) else (bnd (f_X1_word q2.2) fun q9 => bnd (some (sI q9.2 5 q9.1)) fun σ10 => some ((), σ10))))) else (bnd (some (sI σ1 5 (-22 : Int32))) fun σ11 => some ((), σ11))
theorem vb_X1_advance_52 {g : Gt} {ad : Nat → Nat} (z : Zt) (σ : GX) : V g (LX ad) 7 RX1 cX1_advance 1 none (wX g ad) iU z (b_X1_advance_52 σ) σ 52 [(0, .ref (aReader ad))] [] := by
  unfold b_X1_advance_52
  refine v_aload_n (pc := 52) (i := 0) dX1_advance_52 rfl rfl ?_
  refine v_aload_n (pc := 53) (i := 0) dX1_advance_53 rfl rfl ?_
  refine gX1_at (pc := 54) q_84 dX1_advance_54 ?_
  refine pX1_place (pc := 57) q_86 dX1_advance_57 ?_
  refine v_nms (fun σ1 => ?_)
  refine v_aload_n (pc := 60) (i := 0) dX1_advance_60 rfl rfl ?_
  refine gX1_at (pc := 61) q_84 dX1_advance_61 ?_
  refine v_aload_n (pc := 64) (i := 0) dX1_advance_64 rfl rfl ?_
  refine gX1_size (pc := 65) q_83 dX1_advance_65 ?_
  refine v_icmp_lt (pc := 68) (tgt := 80) dX1_advance_68 rfl ?_ ?_
  · refine v_aload_n (pc := 80) (i := 0) dX1_advance_80 rfl rfl ?_
    refine gX1_tape (pc := 81) q_82 dX1_advance_81 ?_
    refine v_aload_n (pc := 84) (i := 0) dX1_advance_84 rfl rfl ?_
    refine gX1_at (pc := 85) q_84 dX1_advance_85 ?_
    refine lX_tape (pc := 88) dX1_advance_88 ?_
    refine v_callSi (pc := 89) (av := [.int (xP σ1 (xI σ1 4).toNatClampNeg)]) (rest := []) (ct_X1_isLetter (xP σ1 (xI σ1 4).toNatClampNeg)) mi_X1_isLetter q_259 (by decide) rfl rfl (Nat.le_of_ble_eq_true rfl) dX1_advance_89 (fun q2 => ?_)
    refine v_if_eq (pc := 92) (tgt := 106) dX1_advance_92 rfl ?_ ?_
    · refine v_aload_n (pc := 106) (i := 0) dX1_advance_106 rfl rfl ?_
      refine gX1_tape (pc := 107) q_82 dX1_advance_107 ?_
      refine v_aload_n (pc := 110) (i := 0) dX1_advance_110 rfl rfl ?_
      refine gX1_at (pc := 111) q_84 dX1_advance_111 ?_
      refine lX_tape (pc := 114) dX1_advance_114 ?_
      refine v_callSi (pc := 115) (av := [.int (xP q2.2 (xI q2.2 4).toNatClampNeg)]) (rest := []) (ct_X1_isDigit (xP q2.2 (xI q2.2 4).toNatClampNeg)) mi_X1_isDigit q_284 (by decide) rfl rfl (Nat.le_of_ble_eq_true rfl) dX1_advance_115 (fun q3 => ?_)
      refine v_if_eq (pc := 118) (tgt := 132) dX1_advance_118 rfl ?_ ?_
      · refine v_aload_n (pc := 132) (i := 0) dX1_advance_132 rfl rfl ?_
        refine v_aload_n (pc := 133) (i := 0) dX1_advance_133 rfl rfl ?_
        refine gX1_tape (pc := 134) q_82 dX1_advance_134 ?_
        refine v_aload_n (pc := 137) (i := 0) dX1_advance_137 rfl rfl ?_
        refine gX1_at (pc := 138) q_84 dX1_advance_138 ?_
        refine lX_tape (pc := 141) dX1_advance_141 ?_
        refine v_callSi (pc := 142) (av := [.int (xP q3.2 (xI q3.2 4).toNatClampNeg)]) (rest := [.ref (aReader ad)]) (ct_X1_signOf (xP q3.2 (xI q3.2 4).toNatClampNeg)) mi_X1_signOf q_291 (by decide) rfl rfl (Nat.le_of_ble_eq_true rfl) dX1_advance_142 (fun q4 => ?_)
        refine pX1_token (pc := 145) q_85 dX1_advance_145 ?_
        refine v_nms (fun σ5 => ?_)
        refine v_aload_n (pc := 148) (i := 0) dX1_advance_148 rfl rfl ?_
        refine v_dup (pc := 149) dX1_advance_149 rfl ?_
        refine gX1_at (pc := 150) q_84 dX1_advance_150 ?_
        refine v_iconst (pc := 153) dX1_advance_153 ic_1 ?_
        refine v_iadd (pc := 154) dX1_advance_154 ?_
        refine pX1_at (pc := 155) q_84 dX1_advance_155 ?_
        refine v_nms (fun σ6 => ?_)
        exact v_ret (pc := 158) dX1_advance_158
      · refine v_aload_n (pc := 121) (i := 0) dX1_advance_121 rfl rfl ?_
        refine v_aload_n (pc := 122) (i := 0) dX1_advance_122 rfl rfl ?_
        refine v_callVi (pc := 123) rcX1 (As := []) (rest := [.ref (aReader ad)]) (ct_X1_number) mi_X1_number q_287 (by decide) rfl rfl (Nat.le_of_ble_eq_true rfl) dX1_advance_123 (fun q7 => ?_)
        refine pX1_token (pc := 126) q_85 dX1_advance_126 ?_
        refine v_nms (fun σ8 => ?_)
        refine v_goto (pc := 129) (tgt := 158) dX1_advance_129 rfl ?_
        exact v_ret (pc := 158) dX1_advance_158
    · refine v_aload_n (pc := 95) (i := 0) dX1_advance_95 rfl rfl ?_
      refine v_aload_n (pc := 96) (i := 0) dX1_advance_96 rfl rfl ?_
      refine v_callVi (pc := 97) rcX1 (As := []) (rest := [.ref (aReader ad)]) (ct_X1_word) mi_X1_word q_262 (by decide) rfl rfl (Nat.le_of_ble_eq_true rfl) dX1_advance_97 (fun q9 => ?_)
      refine pX1_token (pc := 100) q_85 dX1_advance_100 ?_
      refine v_nms (fun σ10 => ?_)
      refine v_goto (pc := 103) (tgt := 158) dX1_advance_103 rfl ?_
      exact v_ret (pc := 158) dX1_advance_158
  · refine v_aload_n (pc := 71) (i := 0) dX1_advance_71 rfl rfl ?_
    refine v_bipush (pc := 72) dX1_advance_72 bp_m22 ?_
    refine pX1_token (pc := 74) q_85 dX1_advance_74 ?_
    refine v_nms (fun σ11 => ?_)
    refine v_goto (pc := 77) (tgt := 158) dX1_advance_77 rfl ?_
    exact v_ret (pc := 158) dX1_advance_158
def b_X1_advance_0 (kc0 : GX → Option (Unit × GX)) (σ : GX) : Option (Unit × GX) :=
  if (xI σ 3) ≤ (xI σ 4) then (b_X1_advance_52 σ) else (tpB (xY σ) (grd (xI σ 4) 160 (if (xP σ (xI σ 4).toNatClampNeg) = (32 : Int32) then (bnd (some (sI σ 4 ((xI σ 4) + (1 : Int32)))) fun σ12 => kc0 σ12) else (tpB (xY σ) (grd (xI σ 4) 160 (if (xP σ (xI σ 4).toNatClampNeg) ≠ (10 : Int32) then (b_X1_advance_52 σ) else (bnd (some (sI σ 4 ((xI σ 4) + (1 : Int32)))) fun σ13 => kc0 σ13)))))))
theorem vb_X1_advance_0 {g : Gt} {ad : Nat → Nat} (z : Zt) (kc0 : GX → Option (Unit × GX)) (hkc0 : ∀ (σ : GX), V g (LX ad) 7 RX1 cX1_advance 1 none (wX g ad) iU z (kc0 σ) σ 0 [(0, .ref (aReader ad))] []) (σ : GX) : V g (LX ad) 7 RX1 cX1_advance 1 none (wX g ad) iU z (b_X1_advance_0 kc0 σ) σ 0 [(0, .ref (aReader ad))] [] := by
  unfold b_X1_advance_0
  refine v_aload_n (pc := 0) (i := 0) dX1_advance_0 rfl rfl ?_
  refine gX1_at (pc := 1) q_84 dX1_advance_1 ?_
  refine v_aload_n (pc := 4) (i := 0) dX1_advance_4 rfl rfl ?_
  refine gX1_size (pc := 5) q_83 dX1_advance_5 ?_
  refine v_icmp_ge (pc := 8) (tgt := 52) dX1_advance_8 rfl ?_ ?_
  · exact v_sub [0] rfl (vb_X1_advance_52 z σ)
  · refine v_aload_n (pc := 11) (i := 0) dX1_advance_11 rfl rfl ?_
    refine gX1_tape (pc := 12) q_82 dX1_advance_12 ?_
    refine v_aload_n (pc := 15) (i := 0) dX1_advance_15 rfl rfl ?_
    refine gX1_at (pc := 16) q_84 dX1_advance_16 ?_
    refine lX_tape (pc := 19) dX1_advance_19 ?_
    refine v_bipush (pc := 20) dX1_advance_20 bp_32 ?_
    refine v_icmp_eq (pc := 22) (tgt := 39) dX1_advance_22 rfl ?_ ?_
    · refine v_aload_n (pc := 39) (i := 0) dX1_advance_39 rfl rfl ?_
      refine v_dup (pc := 40) dX1_advance_40 rfl ?_
      refine gX1_at (pc := 41) q_84 dX1_advance_41 ?_
      refine v_iconst (pc := 44) dX1_advance_44 ic_1 ?_
      refine v_iadd (pc := 45) dX1_advance_45 ?_
      refine pX1_at (pc := 46) q_84 dX1_advance_46 ?_
      refine v_nms (fun σ12 => ?_)
      refine v_goto (pc := 49) (tgt := 0) dX1_advance_49 rfl ?_
      exact v_sub [0] rfl (hkc0 σ12)
    · refine v_aload_n (pc := 25) (i := 0) dX1_advance_25 rfl rfl ?_
      refine gX1_tape (pc := 26) q_82 dX1_advance_26 ?_
      refine v_aload_n (pc := 29) (i := 0) dX1_advance_29 rfl rfl ?_
      refine gX1_at (pc := 30) q_84 dX1_advance_30 ?_
      refine lX_tape (pc := 33) dX1_advance_33 ?_
      refine v_bipush (pc := 34) dX1_advance_34 bp_10 ?_
      refine v_icmp_ne (pc := 36) (tgt := 52) dX1_advance_36 rfl ?_ ?_
      · exact v_sub [0] rfl (vb_X1_advance_52 z σ)
      · refine v_aload_n (pc := 39) (i := 0) dX1_advance_39 rfl rfl ?_
        refine v_dup (pc := 40) dX1_advance_40 rfl ?_
        refine gX1_at (pc := 41) q_84 dX1_advance_41 ?_
        refine v_iconst (pc := 44) dX1_advance_44 ic_1 ?_
        refine v_iadd (pc := 45) dX1_advance_45 ?_
        refine pX1_at (pc := 46) q_84 dX1_advance_46 ?_
        refine v_nms (fun σ13 => ?_)
        refine v_goto (pc := 49) (tgt := 0) dX1_advance_49 rfl ?_
        exact v_sub [0] rfl (hkc0 σ13)
def k_X1_advance_0 : Nat → GX → Option (Unit × GX)
  | 0 => fun _ => none
  | n + 1 => b_X1_advance_0 (k_X1_advance_0 n)
theorem vk_X1_advance_0 {g : Gt} {ad : Nat → Nat} (z : Zt) : ∀ (n : Nat) (σ : GX), V g (LX ad) 7 RX1 cX1_advance 1 none (wX g ad) iU z (k_X1_advance_0 n σ) σ 0 [(0, .ref (aReader ad))] [] := by
  intro n
  induction n with
  | zero => intros; exact v_eq rfl v_none
  | succ n ih =>
    intro σ
    exact v_eq rfl (vb_X1_advance_0 z _ ih σ)
def f_X1_advance (σ : GX) : Option (Unit × GX) :=
  k_X1_advance_0 FU σ
theorem vf_X1_advance {g : Gt} {ad : Nat → Nat} (z : Zt) (σ : GX) : V g (LX ad) 7 RX1 cX1_advance 1 none (wX g ad) iU z (f_X1_advance σ) σ 0 [(0, .ref (aReader ad))] [] := by
  unfold f_X1_advance
  exact v_sub [0] rfl (vk_X1_advance_0 z FU σ)
theorem ct_X1_advance {g : Gt} {ad : Nat → Nat} : CT g (LX ad) yX1_advance cX1_advance 1 none 7 [.ref (aReader ad)] iU (wX g ad) (f_X1_advance) :=
  ct_of_V (own := RX1) (lv0 := [(0, .ref (aReader ad))]) (by decide +kernel) rfl (Nat.le_of_ble_eq_true rfl) rfl (fun z σ => vf_X1_advance z σ)
-- LighthouseLiedTo$Reader.fail
theorem dX1_fail_0 : decode cX1_fail 0 = .ok (.aload_n 0, 1) := by decide +kernel
theorem dX1_fail_1 : decode cX1_fail 1 = .ok (.getfield 26, 3) := by decide +kernel
theorem dX1_fail_4 : decode cX1_fail 4 = .ok (.iconst (-1), 1) := by decide +kernel
theorem dX1_fail_5 : decode cX1_fail 5 = .ok (.if_icmp .ne 11, 3) := by decide +kernel
theorem dX1_fail_8 : decode cX1_fail 8 = .ok (.aload_n 0, 1) := by decide +kernel
theorem dX1_fail_9 : decode cX1_fail 9 = .ok (.aload_n 0, 1) := by decide +kernel
theorem dX1_fail_10 : decode cX1_fail 10 = .ok (.getfield 48, 3) := by decide +kernel
theorem dX1_fail_13 : decode cX1_fail 13 = .ok (.putfield 26, 3) := by decide +kernel
theorem dX1_fail_16 : decode cX1_fail 16 = .ok (.return_, 1) := by decide +kernel
def f_X1_fail (σ : GX) : Option (Unit × GX) :=
  if (xI σ 7) ≠ (-1 : Int32) then (some ((), σ)) else (bnd (some (sI σ 7 (xI σ 6))) fun σ1 => some ((), σ1))
theorem vf_X1_fail {g : Gt} {ad : Nat → Nat} (z : Zt) (σ : GX) : V g (LX ad) 1 RX1 cX1_fail 1 none (wX g ad) iU z (f_X1_fail σ) σ 0 [(0, .ref (aReader ad))] [] := by
  unfold f_X1_fail
  refine v_aload_n (pc := 0) (i := 0) dX1_fail_0 rfl rfl ?_
  refine gX1_fault (pc := 1) q_87 dX1_fail_1 ?_
  refine v_iconst (pc := 4) dX1_fail_4 ic_m1 ?_
  refine v_icmp_ne (pc := 5) (tgt := 16) dX1_fail_5 rfl ?_ ?_
  · exact v_ret (pc := 16) dX1_fail_16
  · refine v_aload_n (pc := 8) (i := 0) dX1_fail_8 rfl rfl ?_
    refine v_aload_n (pc := 9) (i := 0) dX1_fail_9 rfl rfl ?_
    refine gX1_place (pc := 10) q_86 dX1_fail_10 ?_
    refine pX1_fault (pc := 13) q_87 dX1_fail_13 ?_
    refine v_nms (fun σ1 => ?_)
    exact v_ret (pc := 16) dX1_fail_16
theorem ct_X1_fail {g : Gt} {ad : Nat → Nat} : CT g (LX ad) yX1_fail cX1_fail 1 none 1 [.ref (aReader ad)] iU (wX g ad) (f_X1_fail) :=
  ct_of_V (own := RX1) (lv0 := [(0, .ref (aReader ad))]) (by decide +kernel) rfl (Nat.le_of_ble_eq_true rfl) rfl (fun z σ => vf_X1_fail z σ)
-- LighthouseLiedTo$Reader.expect
theorem dX1_expect_0 : decode cX1_expect 0 = .ok (.aload_n 0, 1) := by decide +kernel
theorem dX1_expect_1 : decode cX1_expect 1 = .ok (.getfield 51, 3) := by decide +kernel
theorem dX1_expect_4 : decode cX1_expect 4 = .ok (.iload_n 1, 1) := by decide +kernel
theorem dX1_expect_5 : decode cX1_expect 5 = .ok (.if_icmp .eq 7, 3) := by decide +kernel
theorem dX1_expect_8 : decode cX1_expect 8 = .ok (.aload_n 0, 1) := by decide +kernel
theorem dX1_expect_9 : decode cX1_expect 9 = .ok (.invokevirtual 54, 3) := by decide +kernel
theorem dX1_expect_12 : decode cX1_expect 12 = .ok (.aload_n 0, 1) := by decide +kernel
theorem dX1_expect_13 : decode cX1_expect 13 = .ok (.getfield 26, 3) := by decide +kernel
theorem dX1_expect_16 : decode cX1_expect 16 = .ok (.iconst (-1), 1) := by decide +kernel
theorem dX1_expect_17 : decode cX1_expect 17 = .ok (.if_icmp .ne 7, 3) := by decide +kernel
theorem dX1_expect_20 : decode cX1_expect 20 = .ok (.aload_n 0, 1) := by decide +kernel
theorem dX1_expect_21 : decode cX1_expect 21 = .ok (.invokevirtual 34, 3) := by decide +kernel
theorem dX1_expect_24 : decode cX1_expect 24 = .ok (.return_, 1) := by decide +kernel
def b_X1_expect_12 (σ : GX) : Option (Unit × GX) :=
  if (xI σ 7) ≠ (-1 : Int32) then (some ((), σ)) else (bnd (f_X1_advance σ) fun q1 => some ((), q1.2))
theorem vb_X1_expect_12 {g : Gt} {ad : Nat → Nat} (z : Zt) (σ : GX) : V g (LX ad) 8 RX1 cX1_expect 2 none (wX g ad) iU z (b_X1_expect_12 σ) σ 12 [(0, .ref (aReader ad))] [] := by
  unfold b_X1_expect_12
  refine v_aload_n (pc := 12) (i := 0) dX1_expect_12 rfl rfl ?_
  refine gX1_fault (pc := 13) q_87 dX1_expect_13 ?_
  refine v_iconst (pc := 16) dX1_expect_16 ic_m1 ?_
  refine v_icmp_ne (pc := 17) (tgt := 24) dX1_expect_17 rfl ?_ ?_
  · exact v_ret (pc := 24) dX1_expect_24
  · refine v_aload_n (pc := 20) (i := 0) dX1_expect_20 rfl rfl ?_
    refine v_callVv (pc := 21) rcX1 (As := []) (rest := []) (ct_X1_advance) mi_X1_advance q_255 (by decide) rfl rfl (Nat.le_of_ble_eq_true rfl) dX1_expect_21 (fun q1 => ?_)
    exact v_ret (pc := 24) dX1_expect_24
def f_X1_expect (x1 : Int32) (σ : GX) : Option (Unit × GX) :=
  if (xI σ 5) = x1 then (b_X1_expect_12 σ) else (bnd (f_X1_fail σ) fun q2 => b_X1_expect_12 q2.2)
theorem vf_X1_expect {g : Gt} {ad : Nat → Nat} (z : Zt) (x1 : Int32) (σ : GX) : V g (LX ad) 8 RX1 cX1_expect 2 none (wX g ad) iU z (f_X1_expect x1 σ) σ 0 [(0, .ref (aReader ad)), (1, .int x1)] [] := by
  unfold f_X1_expect
  refine v_aload_n (pc := 0) (i := 0) dX1_expect_0 rfl rfl ?_
  refine gX1_token (pc := 1) q_85 dX1_expect_1 ?_
  refine v_iload_n (pc := 4) (i := 1) dX1_expect_4 rfl rfl ?_
  refine v_icmp_eq (pc := 5) (tgt := 12) dX1_expect_5 rfl ?_ ?_
  · exact v_sub [0] rfl (vb_X1_expect_12 z σ)
  · refine v_aload_n (pc := 8) (i := 0) dX1_expect_8 rfl rfl ?_
    refine v_callVv (pc := 9) rcX1 (As := []) (rest := []) (ct_X1_fail) mi_X1_fail q_298 (by decide) rfl rfl (Nat.le_of_ble_eq_true rfl) dX1_expect_9 (fun q2 => ?_)
    exact v_sub [0] rfl (vb_X1_expect_12 z q2.2)
theorem ct_X1_expect {g : Gt} {ad : Nat → Nat} (x1 : Int32) : CT g (LX ad) yX1_expect cX1_expect 2 none 8 [.ref (aReader ad), .int x1] iU (wX g ad) (f_X1_expect x1) :=
  ct_of_V (own := RX1) (lv0 := [(0, .ref (aReader ad)), (1, .int x1)]) (by decide +kernel) rfl (Nat.le_of_ble_eq_true rfl) rfl (fun z σ => vf_X1_expect z x1 σ)
-- LighthouseLiedTo$Reader.mayOpen
theorem dX1_mayOpen_0 : decode cX1_mayOpen 0 = .ok (.iload_n 1, 1) := by decide +kernel
theorem dX1_mayOpen_1 : decode cX1_mayOpen 1 = .ok (.iconst 5, 1) := by decide +kernel
theorem dX1_mayOpen_2 : decode cX1_mayOpen 2 = .ok (.if_icmp .lt 7, 3) := by decide +kernel
theorem dX1_mayOpen_5 : decode cX1_mayOpen 5 = .ok (.aload_n 0, 1) := by decide +kernel
theorem dX1_mayOpen_6 : decode cX1_mayOpen 6 = .ok (.invokevirtual 54, 3) := by decide +kernel
theorem dX1_mayOpen_9 : decode cX1_mayOpen 9 = .ok (.aload_n 0, 1) := by decide +kernel
theorem dX1_mayOpen_10 : decode cX1_mayOpen 10 = .ok (.getfield 26, 3) := by decide +kernel
theorem dX1_mayOpen_13 : decode cX1_mayOpen 13 = .ok (.iconst (-1), 1) := by decide +kernel
theorem dX1_mayOpen_14 : decode cX1_mayOpen 14 = .ok (.if_icmp .ne 7, 3) := by decide +kernel
theorem dX1_mayOpen_17 : decode cX1_mayOpen 17 = .ok (.iconst 1, 1) := by decide +kernel
theorem dX1_mayOpen_18 : decode cX1_mayOpen 18 = .ok (.goto 4, 3) := by decide +kernel
theorem dX1_mayOpen_21 : decode cX1_mayOpen 21 = .ok (.iconst 0, 1) := by decide +kernel
theorem dX1_mayOpen_22 : decode cX1_mayOpen 22 = .ok (.ireturn, 1) := by decide +kernel
def b_X1_mayOpen_9 (σ : GX) : Option (Int32 × GX) :=
  if (xI σ 7) ≠ (-1 : Int32) then (some ((0 : Int32), σ)) else (some ((1 : Int32), σ))
theorem vb_X1_mayOpen_9 {g : Gt} {ad : Nat → Nat} (z : Zt) (σ : GX) : V g (LX ad) 2 RX1 cX1_mayOpen 2 (some .boolean) (wX g ad) iI z (b_X1_mayOpen_9 σ) σ 9 [(0, .ref (aReader ad))] [] := by
  unfold b_X1_mayOpen_9
  refine v_aload_n (pc := 9) (i := 0) dX1_mayOpen_9 rfl rfl ?_
  refine gX1_fault (pc := 10) q_87 dX1_mayOpen_10 ?_
  refine v_iconst (pc := 13) dX1_mayOpen_13 ic_m1 ?_
  refine v_icmp_ne (pc := 14) (tgt := 21) dX1_mayOpen_14 rfl ?_ ?_
  · refine v_iconst (pc := 21) dX1_mayOpen_21 ic_0 ?_
    exact v_nret (pc := 22) rfl dX1_mayOpen_22
  · refine v_iconst (pc := 17) dX1_mayOpen_17 ic_1 ?_
    refine v_goto (pc := 18) (tgt := 22) dX1_mayOpen_18 rfl ?_
    exact v_nret (pc := 22) rfl dX1_mayOpen_22
def f_X1_mayOpen (x1 : Int32) (σ : GX) : Option (Int32 × GX) :=
  if x1 < (5 : Int32) then (b_X1_mayOpen_9 σ) else (bnd (f_X1_fail σ) fun q1 => b_X1_mayOpen_9 q1.2)
theorem vf_X1_mayOpen {g : Gt} {ad : Nat → Nat} (z : Zt) (x1 : Int32) (σ : GX) : V g (LX ad) 2 RX1 cX1_mayOpen 2 (some .boolean) (wX g ad) iI z (f_X1_mayOpen x1 σ) σ 0 [(0, .ref (aReader ad)), (1, .int x1)] [] := by
  unfold f_X1_mayOpen
  refine v_iload_n (pc := 0) (i := 1) dX1_mayOpen_0 rfl rfl ?_
  refine v_iconst (pc := 1) dX1_mayOpen_1 ic_5 ?_
  refine v_icmp_lt (pc := 2) (tgt := 9) dX1_mayOpen_2 rfl ?_ ?_
  · exact v_sub [0] rfl (vb_X1_mayOpen_9 z σ)
  · refine v_aload_n (pc := 5) (i := 0) dX1_mayOpen_5 rfl rfl ?_
    refine v_callVv (pc := 6) rcX1 (As := []) (rest := []) (ct_X1_fail) mi_X1_fail q_298 (by decide) rfl rfl (Nat.le_of_ble_eq_true rfl) dX1_mayOpen_6 (fun q1 => ?_)
    exact v_sub [0] rfl (vb_X1_mayOpen_9 z q1.2)
theorem ct_X1_mayOpen {g : Gt} {ad : Nat → Nat} (x1 : Int32) : CT g (LX ad) yX1_mayOpen cX1_mayOpen 2 (some .boolean) 2 [.ref (aReader ad), .int x1] iI (wX g ad) (f_X1_mayOpen x1) :=
  ct_of_V (own := RX1) (lv0 := [(0, .ref (aReader ad)), (1, .int x1)]) (by decide +kernel) rfl (Nat.le_of_ble_eq_true rfl) rfl (fun z σ => vf_X1_mayOpen z x1 σ)
-- LighthouseLiedTo$Reader.rankOf
theorem dX1_rankOf_0 : decode cX1_rankOf 0 = .ok (.iload_n 0, 1) := by decide +kernel
theorem dX1_rankOf_1 : decode cX1_rankOf 1 = .ok (.tableswitch 53 (-13) (-7) #[51, 49, 49, 47, 47, 45, 43], 43) := by decide +kernel
theorem dX1_rankOf_44 : decode cX1_rankOf 44 = .ok (.iconst 0, 1) := by decide +kernel
theorem dX1_rankOf_45 : decode cX1_rankOf 45 = .ok (.ireturn, 1) := by decide +kernel
theorem dX1_rankOf_46 : decode cX1_rankOf 46 = .ok (.iconst 1, 1) := by decide +kernel
theorem dX1_rankOf_47 : decode cX1_rankOf 47 = .ok (.ireturn, 1) := by decide +kernel
theorem dX1_rankOf_48 : decode cX1_rankOf 48 = .ok (.iconst 2, 1) := by decide +kernel
theorem dX1_rankOf_49 : decode cX1_rankOf 49 = .ok (.ireturn, 1) := by decide +kernel
theorem dX1_rankOf_50 : decode cX1_rankOf 50 = .ok (.iconst 3, 1) := by decide +kernel
theorem dX1_rankOf_51 : decode cX1_rankOf 51 = .ok (.ireturn, 1) := by decide +kernel
theorem dX1_rankOf_52 : decode cX1_rankOf 52 = .ok (.iconst 4, 1) := by decide +kernel
theorem dX1_rankOf_53 : decode cX1_rankOf 53 = .ok (.ireturn, 1) := by decide +kernel
theorem dX1_rankOf_54 : decode cX1_rankOf 54 = .ok (.iconst (-1), 1) := by decide +kernel
theorem dX1_rankOf_55 : decode cX1_rankOf 55 = .ok (.ireturn, 1) := by decide +kernel
def f_X1_rankOf (x0 : Int32) (σ : GX) : Option (Int32 × GX) :=
  if x0 = (-13 : Int32) then (some ((4 : Int32), σ)) else (if x0 = (-12 : Int32) then (some ((3 : Int32), σ)) else (if x0 = (-11 : Int32) then (some ((3 : Int32), σ)) else (if x0 = (-10 : Int32) then (some ((2 : Int32), σ)) else (if x0 = (-9 : Int32) then (some ((2 : Int32), σ)) else (if x0 = (-8 : Int32) then (some ((1 : Int32), σ)) else (if x0 = (-7 : Int32) then (some ((0 : Int32), σ)) else (some ((-1 : Int32), σ))))))))
theorem vf_X1_rankOf {g : Gt} {ad : Nat → Nat} (z : Zt) (x0 : Int32) (σ : GX) : V g (LX ad) 1 RX1 cX1_rankOf 1 (some .int) (wX g ad) iI z (f_X1_rankOf x0 σ) σ 0 [(0, .int x0)] [] := by
  unfold f_X1_rankOf
  refine v_iload_n (pc := 0) (i := 0) dX1_rankOf_0 rfl rfl ?_
  refine v_case (c := x0 = (-13 : Int32)) (fun hx => ?_) (fun hc1_0 => ?_)
  · refine v_tin (pc := 1) (tgt := 52) (off := 51) hx dX1_rankOf_1 (by decide) (by decide) rfl rfl ?_
    refine v_iconst (pc := 52) dX1_rankOf_52 ic_4 ?_
    exact v_iret (pc := 53) dX1_rankOf_53
  refine v_case (c := x0 = (-12 : Int32)) (fun hx => ?_) (fun hc1_1 => ?_)
  · refine v_tin (pc := 1) (tgt := 50) (off := 49) hx dX1_rankOf_1 (by decide) (by decide) rfl rfl ?_
    refine v_iconst (pc := 50) dX1_rankOf_50 ic_3 ?_
    exact v_iret (pc := 51) dX1_rankOf_51
  refine v_case (c := x0 = (-11 : Int32)) (fun hx => ?_) (fun hc1_2 => ?_)
  · refine v_tin (pc := 1) (tgt := 50) (off := 49) hx dX1_rankOf_1 (by decide) (by decide) rfl rfl ?_
    refine v_iconst (pc := 50) dX1_rankOf_50 ic_3 ?_
    exact v_iret (pc := 51) dX1_rankOf_51
  refine v_case (c := x0 = (-10 : Int32)) (fun hx => ?_) (fun hc1_3 => ?_)
  · refine v_tin (pc := 1) (tgt := 48) (off := 47) hx dX1_rankOf_1 (by decide) (by decide) rfl rfl ?_
    refine v_iconst (pc := 48) dX1_rankOf_48 ic_2 ?_
    exact v_iret (pc := 49) dX1_rankOf_49
  refine v_case (c := x0 = (-9 : Int32)) (fun hx => ?_) (fun hc1_4 => ?_)
  · refine v_tin (pc := 1) (tgt := 48) (off := 47) hx dX1_rankOf_1 (by decide) (by decide) rfl rfl ?_
    refine v_iconst (pc := 48) dX1_rankOf_48 ic_2 ?_
    exact v_iret (pc := 49) dX1_rankOf_49
  refine v_case (c := x0 = (-8 : Int32)) (fun hx => ?_) (fun hc1_5 => ?_)
  · refine v_tin (pc := 1) (tgt := 46) (off := 45) hx dX1_rankOf_1 (by decide) (by decide) rfl rfl ?_
    refine v_iconst (pc := 46) dX1_rankOf_46 ic_1 ?_
    exact v_iret (pc := 47) dX1_rankOf_47
  refine v_case (c := x0 = (-7 : Int32)) (fun hx => ?_) (fun hc1_6 => ?_)
  · refine v_tin (pc := 1) (tgt := 44) (off := 43) hx dX1_rankOf_1 (by decide) (by decide) rfl rfl ?_
    refine v_iconst (pc := 44) dX1_rankOf_44 ic_0 ?_
    exact v_iret (pc := 45) dX1_rankOf_45
  refine v_tout (pc := 1) (tgt := 54) dX1_rankOf_1 (by have e0 := tsw_ne (a := -13) hc1_0 rfl; have e1 := tsw_ne (a := -12) hc1_1 rfl; have e2 := tsw_ne (a := -11) hc1_2 rfl; have e3 := tsw_ne (a := -10) hc1_3 rfl; have e4 := tsw_ne (a := -9) hc1_4 rfl; have e5 := tsw_ne (a := -8) hc1_5 rfl; have e6 := tsw_ne (a := -7) hc1_6 rfl; omega) rfl ?_
  refine v_iconst (pc := 54) dX1_rankOf_54 ic_m1 ?_
  exact v_iret (pc := 55) dX1_rankOf_55
theorem ct_X1_rankOf {g : Gt} {ad : Nat → Nat} (x0 : Int32) : CT g (LX ad) yX1_rankOf cX1_rankOf 1 (some .int) 1 [.int x0] iI (wX g ad) (f_X1_rankOf x0) :=
  ct_of_V (own := RX1) (lv0 := [(0, .int x0)]) (by decide +kernel) rfl (Nat.le_of_ble_eq_true rfl) rfl (fun z σ => vf_X1_rankOf z x0 σ)
-- LighthouseLiedTo$Reader.one
theorem dX1_one_0 : decode cX1_one 0 = .ok (.aload_n 0, 1) := by decide +kernel
theorem dX1_one_1 : decode cX1_one 1 = .ok (.getfield 26, 3) := by decide +kernel
theorem dX1_one_4 : decode cX1_one 4 = .ok (.iconst (-1), 1) := by decide +kernel
theorem dX1_one_5 : decode cX1_one 5 = .ok (.if_icmp .eq 4, 3) := by decide +kernel
theorem dX1_one_8 : decode cX1_one 8 = .ok (.return_, 1) := by decide +kernel
theorem dX1_one_9 : decode cX1_one 9 = .ok (.aload_n 0, 1) := by decide +kernel
theorem dX1_one_10 : decode cX1_one 10 = .ok (.getfield 51, 3) := by decide +kernel
theorem dX1_one_13 : decode cX1_one 13 = .ok (.bipush (-6), 2) := by decide +kernel
theorem dX1_one_15 : decode cX1_one 15 = .ok (.if_icmp .lt 21, 3) := by decide +kernel
theorem dX1_one_18 : decode cX1_one 18 = .ok (.aload_n 0, 1) := by decide +kernel
theorem dX1_one_19 : decode cX1_one 19 = .ok (.getfield 19, 3) := by decide +kernel
theorem dX1_one_22 : decode cX1_one 22 = .ok (.aload_n 0, 1) := by decide +kernel
theorem dX1_one_23 : decode cX1_one 23 = .ok (.getfield 51, 3) := by decide +kernel
theorem dX1_one_26 : decode cX1_one 26 = .ok (.invokevirtual 64, 3) := by decide +kernel
theorem dX1_one_29 : decode cX1_one 29 = .ok (.aload_n 0, 1) := by decide +kernel
theorem dX1_one_30 : decode cX1_one 30 = .ok (.invokevirtual 34, 3) := by decide +kernel
theorem dX1_one_33 : decode cX1_one 33 = .ok (.goto 104, 3) := by decide +kernel
theorem dX1_one_36 : decode cX1_one 36 = .ok (.aload_n 0, 1) := by decide +kernel
theorem dX1_one_37 : decode cX1_one 37 = .ok (.getfield 51, 3) := by decide +kernel
theorem dX1_one_40 : decode cX1_one 40 = .ok (.bipush (-12), 2) := by decide +kernel
theorem dX1_one_42 : decode cX1_one 42 = .ok (.if_icmp .ne 34, 3) := by decide +kernel
theorem dX1_one_45 : decode cX1_one 45 = .ok (.aload_n 0, 1) := by decide +kernel
theorem dX1_one_46 : decode cX1_one 46 = .ok (.iload_n 1, 1) := by decide +kernel
theorem dX1_one_47 : decode cX1_one 47 = .ok (.invokevirtual 60, 3) := by decide +kernel
theorem dX1_one_50 : decode cX1_one 50 = .ok (.ifCond .eq 87, 3) := by decide +kernel
theorem dX1_one_53 : decode cX1_one 53 = .ok (.aload_n 0, 1) := by decide +kernel
theorem dX1_one_54 : decode cX1_one 54 = .ok (.invokevirtual 34, 3) := by decide +kernel
theorem dX1_one_57 : decode cX1_one 57 = .ok (.aload_n 0, 1) := by decide +kernel
theorem dX1_one_58 : decode cX1_one 58 = .ok (.iload_n 1, 1) := by decide +kernel
theorem dX1_one_59 : decode cX1_one 59 = .ok (.iconst 1, 1) := by decide +kernel
theorem dX1_one_60 : decode cX1_one 60 = .ok (.iadd, 1) := by decide +kernel
theorem dX1_one_61 : decode cX1_one 61 = .ok (.invokevirtual 57, 3) := by decide +kernel
theorem dX1_one_64 : decode cX1_one 64 = .ok (.aload_n 0, 1) := by decide +kernel
theorem dX1_one_65 : decode cX1_one 65 = .ok (.getfield 19, 3) := by decide +kernel
theorem dX1_one_68 : decode cX1_one 68 = .ok (.bipush (-15), 2) := by decide +kernel
theorem dX1_one_70 : decode cX1_one 70 = .ok (.invokevirtual 64, 3) := by decide +kernel
theorem dX1_one_73 : decode cX1_one 73 = .ok (.goto 64, 3) := by decide +kernel
theorem dX1_one_76 : decode cX1_one 76 = .ok (.aload_n 0, 1) := by decide +kernel
theorem dX1_one_77 : decode cX1_one 77 = .ok (.getfield 51, 3) := by decide +kernel
theorem dX1_one_80 : decode cX1_one 80 = .ok (.bipush (-16), 2) := by decide +kernel
theorem dX1_one_82 : decode cX1_one 82 = .ok (.if_icmp .ne 51, 3) := by decide +kernel
theorem dX1_one_85 : decode cX1_one 85 = .ok (.aload_n 0, 1) := by decide +kernel
theorem dX1_one_86 : decode cX1_one 86 = .ok (.iload_n 1, 1) := by decide +kernel
theorem dX1_one_87 : decode cX1_one 87 = .ok (.invokevirtual 60, 3) := by decide +kernel
theorem dX1_one_90 : decode cX1_one 90 = .ok (.ifCond .eq 47, 3) := by decide +kernel
theorem dX1_one_93 : decode cX1_one 93 = .ok (.aload_n 0, 1) := by decide +kernel
theorem dX1_one_94 : decode cX1_one 94 = .ok (.invokevirtual 34, 3) := by decide +kernel
theorem dX1_one_97 : decode cX1_one 97 = .ok (.aload_n 0, 1) := by decide +kernel
theorem dX1_one_98 : decode cX1_one 98 = .ok (.iconst 0, 1) := by decide +kernel
theorem dX1_one_99 : decode cX1_one 99 = .ok (.iload_n 1, 1) := by decide +kernel
theorem dX1_one_100 : decode cX1_one 100 = .ok (.iconst 1, 1) := by decide +kernel
theorem dX1_one_101 : decode cX1_one 101 = .ok (.iadd, 1) := by decide +kernel
theorem dX1_one_102 : decode cX1_one 102 = .ok (.invokevirtual 41, 3) := by decide +kernel
theorem dX1_one_105 : decode cX1_one 105 = .ok (.aload_n 0, 1) := by decide +kernel
theorem dX1_one_106 : decode cX1_one 106 = .ok (.getfield 51, 3) := by decide +kernel
theorem dX1_one_109 : decode cX1_one 109 = .ok (.bipush (-17), 2) := by decide +kernel
theorem dX1_one_111 : decode cX1_one 111 = .ok (.if_icmp .eq 7, 3) := by decide +kernel
theorem dX1_one_114 : decode cX1_one 114 = .ok (.aload_n 0, 1) := by decide +kernel
theorem dX1_one_115 : decode cX1_one 115 = .ok (.invokevirtual 54, 3) := by decide +kernel
theorem dX1_one_118 : decode cX1_one 118 = .ok (.aload_n 0, 1) := by decide +kernel
theorem dX1_one_119 : decode cX1_one 119 = .ok (.getfield 26, 3) := by decide +kernel
theorem dX1_one_122 : decode cX1_one 122 = .ok (.iconst (-1), 1) := by decide +kernel
theorem dX1_one_123 : decode cX1_one 123 = .ok (.if_icmp .ne 14, 3) := by decide +kernel
theorem dX1_one_126 : decode cX1_one 126 = .ok (.aload_n 0, 1) := by decide +kernel
theorem dX1_one_127 : decode cX1_one 127 = .ok (.invokevirtual 34, 3) := by decide +kernel
theorem dX1_one_130 : decode cX1_one 130 = .ok (.goto 7, 3) := by decide +kernel
theorem dX1_one_133 : decode cX1_one 133 = .ok (.aload_n 0, 1) := by decide +kernel
theorem dX1_one_134 : decode cX1_one 134 = .ok (.invokevirtual 54, 3) := by decide +kernel
theorem dX1_one_137 : decode cX1_one 137 = .ok (.return_, 1) := by decide +kernel
def b_X1_one_118 (rc : Nat → Int32 → Int32 → GX → Option (Unit × GX)) (σ : GX) : Option (Unit × GX) :=
  if (xI σ 7) ≠ (-1 : Int32) then (some ((), σ)) else (bnd (f_X1_advance σ) fun q5 => some ((), q5.2))
theorem vb_X1_one_118 {g : Gt} {ad : Nat → Nat} (z : Zt) (rc : Nat → Int32 → Int32 → GX → Option (Unit × GX)) (B d : Nat) (hB : 10 ≤ B) (hrc0 : ∀ a b : Int32, CT g (LX ad) yX1_joined cX1_joined 6 none (B + d) [.ref (aReader ad), .int a, .int b] iU (wX g ad) (rc 0 a b)) (hrc1 : ∀ b : Int32, CT g (LX ad) yX1_one cX1_one 2 none (B + d) [.ref (aReader ad), .int b] iU (wX g ad) (rc 1 0 b)) (σ : GX) : V g (LX ad) (B + d + 1) RX1 cX1_one 2 none (wX g ad) iU z (b_X1_one_118 rc σ) σ 118 [(0, .ref (aReader ad))] [] := by
  unfold b_X1_one_118
  refine v_aload_n (pc := 118) (i := 0) dX1_one_118 rfl rfl ?_
  refine gX1_fault (pc := 119) q_87 dX1_one_119 ?_
  refine v_iconst (pc := 122) dX1_one_122 ic_m1 ?_
  refine v_icmp_ne (pc := 123) (tgt := 137) dX1_one_123 rfl ?_ ?_
  · exact v_ret (pc := 137) dX1_one_137
  · refine v_aload_n (pc := 126) (i := 0) dX1_one_126 rfl rfl ?_
    refine v_callVv (pc := 127) rcX1 (As := []) (rest := []) (ct_X1_advance) mi_X1_advance q_255 (by omega) rfl rfl (Nat.le_of_ble_eq_true rfl) dX1_one_127 (fun q5 => ?_)
    refine v_goto (pc := 130) (tgt := 137) dX1_one_130 rfl ?_
    exact v_ret (pc := 137) dX1_one_137
def f_X1_one (rc : Nat → Int32 → Int32 → GX → Option (Unit × GX)) (x1 : Int32) (σ : GX) : Option (Unit × GX) :=
  if (xI σ 7) = (-1 : Int32) then (if (xI σ 5) < (-6 : Int32) then (if (xI σ 5) ≠ (-12 : Int32) then (if (xI σ 5) ≠ (-16 : Int32) then (bnd (f_X1_fail σ) fun q1 => some ((), q1.2)) else (bnd (f_X1_mayOpen x1 σ) fun q2 => if q2.1 = 0 then (some ((), q2.2)) else (bnd (f_X1_advance q2.2) fun q3 => bnd (rc 0 (0 : Int32) (x1 + (1 : Int32)) q3.2) fun q4 => if (xI q4.2 5) = (-17 : Int32) then (b_X1_one_118 rc q4.2) else (bnd (f_X1_fail q4.2) fun q6 => b_X1_one_118 rc q6.2)))) else (bnd (f_X1_mayOpen x1 σ) fun q7 => if q7.1 = 0 then (some ((), q7.2)) else (bnd (f_X1_advance q7.2) fun q8 => bnd (rc 1 0 (x1 + (1 : Int32)) q8.2) fun q9 => lawB (xV q9.2) fun t10 => (bnd (f_X0_add t10 (-15 : Int32) q9.2) fun q11 => some ((), q11.2))))) else (lawB (xV σ) fun t12 => (bnd (f_X0_add t12 (xI σ 5) σ) fun q13 => bnd (f_X1_advance q13.2) fun q14 => some ((), q14.2)))) else (some ((), σ))
theorem vf_X1_one {g : Gt} {ad : Nat → Nat} (z : Zt) (rc : Nat → Int32 → Int32 → GX → Option (Unit × GX)) (B d : Nat) (hB : 10 ≤ B) (hrc0 : ∀ a b : Int32, CT g (LX ad) yX1_joined cX1_joined 6 none (B + d) [.ref (aReader ad), .int a, .int b] iU (wX g ad) (rc 0 a b)) (hrc1 : ∀ b : Int32, CT g (LX ad) yX1_one cX1_one 2 none (B + d) [.ref (aReader ad), .int b] iU (wX g ad) (rc 1 0 b)) (x1 : Int32) (σ : GX) : V g (LX ad) (B + d + 1) RX1 cX1_one 2 none (wX g ad) iU z (f_X1_one rc x1 σ) σ 0 [(0, .ref (aReader ad)), (1, .int x1)] [] := by
  unfold f_X1_one
  refine v_aload_n (pc := 0) (i := 0) dX1_one_0 rfl rfl ?_
  refine gX1_fault (pc := 1) q_87 dX1_one_1 ?_
  refine v_iconst (pc := 4) dX1_one_4 ic_m1 ?_
  refine v_icmp_eq (pc := 5) (tgt := 9) dX1_one_5 rfl ?_ ?_
  · refine v_aload_n (pc := 9) (i := 0) dX1_one_9 rfl rfl ?_
    refine gX1_token (pc := 10) q_85 dX1_one_10 ?_
    refine v_bipush (pc := 13) dX1_one_13 bp_m6 ?_
    refine v_icmp_lt (pc := 15) (tgt := 36) dX1_one_15 rfl ?_ ?_
    · refine v_aload_n (pc := 36) (i := 0) dX1_one_36 rfl rfl ?_
      refine gX1_token (pc := 37) q_85 dX1_one_37 ?_
      refine v_bipush (pc := 40) dX1_one_40 bp_m12 ?_
      refine v_icmp_ne (pc := 42) (tgt := 76) dX1_one_42 rfl ?_ ?_
      · refine v_aload_n (pc := 76) (i := 0) dX1_one_76 rfl rfl ?_
        refine gX1_token (pc := 77) q_85 dX1_one_77 ?_
        refine v_bipush (pc := 80) dX1_one_80 bp_m16 ?_
        refine v_icmp_ne (pc := 82) (tgt := 133) dX1_one_82 rfl ?_ ?_
        · refine v_aload_n (pc := 133) (i := 0) dX1_one_133 rfl rfl ?_
          refine v_callVv (pc := 134) rcX1 (As := []) (rest := []) (ct_X1_fail) mi_X1_fail q_298 (by omega) rfl rfl (Nat.le_of_ble_eq_true rfl) dX1_one_134 (fun q1 => ?_)
          exact v_ret (pc := 137) dX1_one_137
        · refine v_aload_n (pc := 85) (i := 0) dX1_one_85 rfl rfl ?_
          refine v_iload_n (pc := 86) (i := 1) dX1_one_86 rfl rfl ?_
          refine v_callVi (pc := 87) rcX1 (As := [.int x1]) (rest := []) (ct_X1_mayOpen x1) mi_X1_mayOpen q_314 (by omega) rfl rfl (Nat.le_of_ble_eq_true rfl) dX1_one_87 (fun q2 => ?_)
          refine v_if_eq (pc := 90) (tgt := 137) dX1_one_90 rfl ?_ ?_
          · exact v_ret (pc := 137) dX1_one_137
          · refine v_aload_n (pc := 93) (i := 0) dX1_one_93 rfl rfl ?_
            refine v_callVv (pc := 94) rcX1 (As := []) (rest := []) (ct_X1_advance) mi_X1_advance q_255 (by omega) rfl rfl (Nat.le_of_ble_eq_true rfl) dX1_one_94 (fun q3 => ?_)
            refine v_aload_n (pc := 97) (i := 0) dX1_one_97 rfl rfl ?_
            refine v_iconst (pc := 98) dX1_one_98 ic_0 ?_
            refine v_iload_n (pc := 99) (i := 1) dX1_one_99 rfl rfl ?_
            refine v_iconst (pc := 100) dX1_one_100 ic_1 ?_
            refine v_iadd (pc := 101) dX1_one_101 ?_
            refine v_callVv (pc := 102) rcX1 (As := [.int (0 : Int32), .int (x1 + (1 : Int32))]) (rest := []) (hrc0 (0 : Int32) (x1 + (1 : Int32))) mi_X1_joined q_302 (by omega) rfl rfl (Nat.le_of_ble_eq_true rfl) dX1_one_102 (fun q4 => ?_)
            refine v_aload_n (pc := 105) (i := 0) dX1_one_105 rfl rfl ?_
            refine gX1_token (pc := 106) q_85 dX1_one_106 ?_
            refine v_bipush (pc := 109) dX1_one_109 bp_m17 ?_
            refine v_icmp_eq (pc := 111) (tgt := 118) dX1_one_111 rfl ?_ ?_
            · exact v_sub [0] rfl (vb_X1_one_118 z rc B d hB hrc0 hrc1 q4.2)
            · refine v_aload_n (pc := 114) (i := 0) dX1_one_114 rfl rfl ?_
              refine v_callVv (pc := 115) rcX1 (As := []) (rest := []) (ct_X1_fail) mi_X1_fail q_298 (by omega) rfl rfl (Nat.le_of_ble_eq_true rfl) dX1_one_115 (fun q6 => ?_)
              exact v_sub [0] rfl (vb_X1_one_118 z rc B d hB hrc0 hrc1 q6.2)
      · refine v_aload_n (pc := 45) (i := 0) dX1_one_45 rfl rfl ?_
        refine v_iload_n (pc := 46) (i := 1) dX1_one_46 rfl rfl ?_
        refine v_callVi (pc := 47) rcX1 (As := [.int x1]) (rest := []) (ct_X1_mayOpen x1) mi_X1_mayOpen q_314 (by omega) rfl rfl (Nat.le_of_ble_eq_true rfl) dX1_one_47 (fun q7 => ?_)
        refine v_if_eq (pc := 50) (tgt := 137) dX1_one_50 rfl ?_ ?_
        · exact v_ret (pc := 137) dX1_one_137
        · refine v_aload_n (pc := 53) (i := 0) dX1_one_53 rfl rfl ?_
          refine v_callVv (pc := 54) rcX1 (As := []) (rest := []) (ct_X1_advance) mi_X1_advance q_255 (by omega) rfl rfl (Nat.le_of_ble_eq_true rfl) dX1_one_54 (fun q8 => ?_)
          refine v_aload_n (pc := 57) (i := 0) dX1_one_57 rfl rfl ?_
          refine v_iload_n (pc := 58) (i := 1) dX1_one_58 rfl rfl ?_
          refine v_iconst (pc := 59) dX1_one_59 ic_1 ?_
          refine v_iadd (pc := 60) dX1_one_60 ?_
          refine v_callVv (pc := 61) rcX1 (As := [.int (x1 + (1 : Int32))]) (rest := []) (hrc1 (x1 + (1 : Int32))) mi_X1_one q_306 (by omega) rfl rfl (Nat.le_of_ble_eq_true rfl) dX1_one_61 (fun q9 => ?_)
          refine v_aload_n (pc := 64) (i := 0) dX1_one_64 rfl rfl ?_
          refine gX1_law (pc := 65) q_88 dX1_one_65 (fun t10 ht10 => ?_)
          refine v_bipush (pc := 68) dX1_one_68 bp_m15 ?_
          refine v_callVv (pc := 70) (rcX0 ht10) (As := [.int (-15 : Int32)]) (rest := []) (ct_X0_add ht10 (-15 : Int32)) mi_X0_add q_310 (by omega) rfl rfl (Nat.le_of_ble_eq_true rfl) dX1_one_70 (fun q11 => ?_)
          refine v_goto (pc := 73) (tgt := 137) dX1_one_73 rfl ?_
          exact v_ret (pc := 137) dX1_one_137
    · refine v_aload_n (pc := 18) (i := 0) dX1_one_18 rfl rfl ?_
      refine gX1_law (pc := 19) q_88 dX1_one_19 (fun t12 ht12 => ?_)
      refine v_aload_n (pc := 22) (i := 0) dX1_one_22 rfl rfl ?_
      refine gX1_token (pc := 23) q_85 dX1_one_23 ?_
      refine v_callVv (pc := 26) (rcX0 ht12) (As := [.int (xI σ 5)]) (rest := []) (ct_X0_add ht12 (xI σ 5)) mi_X0_add q_310 (by omega) rfl rfl (Nat.le_of_ble_eq_true rfl) dX1_one_26 (fun q13 => ?_)
      refine v_aload_n (pc := 29) (i := 0) dX1_one_29 rfl rfl ?_
      refine v_callVv (pc := 30) rcX1 (As := []) (rest := []) (ct_X1_advance) mi_X1_advance q_255 (by omega) rfl rfl (Nat.le_of_ble_eq_true rfl) dX1_one_30 (fun q14 => ?_)
      refine v_goto (pc := 33) (tgt := 137) dX1_one_33 rfl ?_
      exact v_ret (pc := 137) dX1_one_137
  · exact v_ret (pc := 8) dX1_one_8
theorem ct_X1_one {g : Gt} {ad : Nat → Nat} (rc : Nat → Int32 → Int32 → GX → Option (Unit × GX)) (B d : Nat) (hB : 10 ≤ B) (hrc0 : ∀ a b : Int32, CT g (LX ad) yX1_joined cX1_joined 6 none (B + d) [.ref (aReader ad), .int a, .int b] iU (wX g ad) (rc 0 a b)) (hrc1 : ∀ b : Int32, CT g (LX ad) yX1_one cX1_one 2 none (B + d) [.ref (aReader ad), .int b] iU (wX g ad) (rc 1 0 b)) (x1 : Int32) : CT g (LX ad) yX1_one cX1_one 2 none (B + d + 1) [.ref (aReader ad), .int x1] iU (wX g ad) (f_X1_one rc x1) :=
  ct_of_V (own := RX1) (lv0 := [(0, .ref (aReader ad)), (1, .int x1)]) (by decide +kernel) rfl (Nat.le_of_ble_eq_true rfl) rfl (fun z σ => vf_X1_one z rc B d hB hrc0 hrc1 x1 σ)
-- LighthouseLiedTo$Reader.joined
theorem dX1_joined_0 : decode cX1_joined 0 = .ok (.iload_n 1, 1) := by decide +kernel
theorem dX1_joined_1 : decode cX1_joined 1 = .ok (.iconst 5, 1) := by decide +kernel
theorem dX1_joined_2 : decode cX1_joined 2 = .ok (.if_icmp .lt 9, 3) := by decide +kernel
theorem dX1_joined_5 : decode cX1_joined 5 = .ok (.aload_n 0, 1) := by decide +kernel
theorem dX1_joined_6 : decode cX1_joined 6 = .ok (.iload_n 2, 1) := by decide +kernel
theorem dX1_joined_7 : decode cX1_joined 7 = .ok (.invokevirtual 57, 3) := by decide +kernel
theorem dX1_joined_10 : decode cX1_joined 10 = .ok (.return_, 1) := by decide +kernel
theorem dX1_joined_11 : decode cX1_joined 11 = .ok (.iload_n 1, 1) := by decide +kernel
theorem dX1_joined_12 : decode cX1_joined 12 = .ok (.iconst 2, 1) := by decide +kernel
theorem dX1_joined_13 : decode cX1_joined 13 = .ok (.if_icmp .ne 42, 3) := by decide +kernel
theorem dX1_joined_16 : decode cX1_joined 16 = .ok (.aload_n 0, 1) := by decide +kernel
theorem dX1_joined_17 : decode cX1_joined 17 = .ok (.getfield 51, 3) := by decide +kernel
theorem dX1_joined_20 : decode cX1_joined 20 = .ok (.bipush (-14), 2) := by decide +kernel
theorem dX1_joined_22 : decode cX1_joined 22 = .ok (.if_icmp .ne 33, 3) := by decide +kernel
theorem dX1_joined_25 : decode cX1_joined 25 = .ok (.aload_n 0, 1) := by decide +kernel
theorem dX1_joined_26 : decode cX1_joined 26 = .ok (.iload_n 2, 1) := by decide +kernel
theorem dX1_joined_27 : decode cX1_joined 27 = .ok (.invokevirtual 60, 3) := by decide +kernel
theorem dX1_joined_30 : decode cX1_joined 30 = .ok (.ifCond .eq 24, 3) := by decide +kernel
theorem dX1_joined_33 : decode cX1_joined 33 = .ok (.aload_n 0, 1) := by decide +kernel
theorem dX1_joined_34 : decode cX1_joined 34 = .ok (.invokevirtual 34, 3) := by decide +kernel
theorem dX1_joined_37 : decode cX1_joined 37 = .ok (.aload_n 0, 1) := by decide +kernel
theorem dX1_joined_38 : decode cX1_joined 38 = .ok (.iconst 2, 1) := by decide +kernel
theorem dX1_joined_39 : decode cX1_joined 39 = .ok (.iload_n 2, 1) := by decide +kernel
theorem dX1_joined_40 : decode cX1_joined 40 = .ok (.iconst 1, 1) := by decide +kernel
theorem dX1_joined_41 : decode cX1_joined 41 = .ok (.iadd, 1) := by decide +kernel
theorem dX1_joined_42 : decode cX1_joined 42 = .ok (.invokevirtual 41, 3) := by decide +kernel
theorem dX1_joined_45 : decode cX1_joined 45 = .ok (.aload_n 0, 1) := by decide +kernel
theorem dX1_joined_46 : decode cX1_joined 46 = .ok (.getfield 19, 3) := by decide +kernel
theorem dX1_joined_49 : decode cX1_joined 49 = .ok (.bipush (-14), 2) := by decide +kernel
theorem dX1_joined_51 : decode cX1_joined 51 = .ok (.invokevirtual 64, 3) := by decide +kernel
theorem dX1_joined_54 : decode cX1_joined 54 = .ok (.return_, 1) := by decide +kernel
theorem dX1_joined_55 : decode cX1_joined 55 = .ok (.aload_n 0, 1) := by decide +kernel
theorem dX1_joined_56 : decode cX1_joined 56 = .ok (.iload_n 1, 1) := by decide +kernel
theorem dX1_joined_57 : decode cX1_joined 57 = .ok (.iconst 1, 1) := by decide +kernel
theorem dX1_joined_58 : decode cX1_joined 58 = .ok (.iadd, 1) := by decide +kernel
theorem dX1_joined_59 : decode cX1_joined 59 = .ok (.iload_n 2, 1) := by decide +kernel
theorem dX1_joined_60 : decode cX1_joined 60 = .ok (.invokevirtual 41, 3) := by decide +kernel
theorem dX1_joined_63 : decode cX1_joined 63 = .ok (.iload_n 1, 1) := by decide +kernel
theorem dX1_joined_64 : decode cX1_joined 64 = .ok (.iconst 2, 1) := by decide +kernel
theorem dX1_joined_65 : decode cX1_joined 65 = .ok (.if_icmp .ne 7, 3) := by decide +kernel
theorem dX1_joined_68 : decode cX1_joined 68 = .ok (.iconst 1, 1) := by decide +kernel
theorem dX1_joined_69 : decode cX1_joined 69 = .ok (.goto 6, 3) := by decide +kernel
theorem dX1_joined_72 : decode cX1_joined 72 = .ok (.sipush 160, 3) := by decide +kernel
theorem dX1_joined_75 : decode cX1_joined 75 = .ok (.istore_n 3, 1) := by decide +kernel
theorem dX1_joined_76 : decode cX1_joined 76 = .ok (.iconst 0, 1) := by decide +kernel
theorem dX1_joined_77 : decode cX1_joined 77 = .ok (.istore 4, 2) := by decide +kernel
theorem dX1_joined_79 : decode cX1_joined 79 = .ok (.iload 4, 2) := by decide +kernel
theorem dX1_joined_81 : decode cX1_joined 81 = .ok (.iload_n 3, 1) := by decide +kernel
theorem dX1_joined_82 : decode cX1_joined 82 = .ok (.if_icmp .ge 55, 3) := by decide +kernel
theorem dX1_joined_85 : decode cX1_joined 85 = .ok (.aload_n 0, 1) := by decide +kernel
theorem dX1_joined_86 : decode cX1_joined 86 = .ok (.getfield 26, 3) := by decide +kernel
theorem dX1_joined_89 : decode cX1_joined 89 = .ok (.iconst (-1), 1) := by decide +kernel
theorem dX1_joined_90 : decode cX1_joined 90 = .ok (.if_icmp .ne 47, 3) := by decide +kernel
theorem dX1_joined_93 : decode cX1_joined 93 = .ok (.aload_n 0, 1) := by decide +kernel
theorem dX1_joined_94 : decode cX1_joined 94 = .ok (.getfield 51, 3) := by decide +kernel
theorem dX1_joined_97 : decode cX1_joined 97 = .ok (.invokestatic 67, 3) := by decide +kernel
theorem dX1_joined_100 : decode cX1_joined 100 = .ok (.iload_n 1, 1) := by decide +kernel
theorem dX1_joined_101 : decode cX1_joined 101 = .ok (.if_icmp .ne 36, 3) := by decide +kernel
theorem dX1_joined_104 : decode cX1_joined 104 = .ok (.aload_n 0, 1) := by decide +kernel
theorem dX1_joined_105 : decode cX1_joined 105 = .ok (.getfield 51, 3) := by decide +kernel
theorem dX1_joined_108 : decode cX1_joined 108 = .ok (.istore 5, 2) := by decide +kernel
theorem dX1_joined_110 : decode cX1_joined 110 = .ok (.aload_n 0, 1) := by decide +kernel
theorem dX1_joined_111 : decode cX1_joined 111 = .ok (.invokevirtual 34, 3) := by decide +kernel
theorem dX1_joined_114 : decode cX1_joined 114 = .ok (.aload_n 0, 1) := by decide +kernel
theorem dX1_joined_115 : decode cX1_joined 115 = .ok (.iload_n 1, 1) := by decide +kernel
theorem dX1_joined_116 : decode cX1_joined 116 = .ok (.iconst 1, 1) := by decide +kernel
theorem dX1_joined_117 : decode cX1_joined 117 = .ok (.iadd, 1) := by decide +kernel
theorem dX1_joined_118 : decode cX1_joined 118 = .ok (.iload_n 2, 1) := by decide +kernel
theorem dX1_joined_119 : decode cX1_joined 119 = .ok (.invokevirtual 41, 3) := by decide +kernel
theorem dX1_joined_122 : decode cX1_joined 122 = .ok (.aload_n 0, 1) := by decide +kernel
theorem dX1_joined_123 : decode cX1_joined 123 = .ok (.getfield 19, 3) := by decide +kernel
theorem dX1_joined_126 : decode cX1_joined 126 = .ok (.iload 5, 2) := by decide +kernel
theorem dX1_joined_128 : decode cX1_joined 128 = .ok (.invokevirtual 64, 3) := by decide +kernel
theorem dX1_joined_131 : decode cX1_joined 131 = .ok (.iinc 4 1, 3) := by decide +kernel
theorem dX1_joined_134 : decode cX1_joined 134 = .ok (.goto (-55), 3) := by decide +kernel
theorem dX1_joined_137 : decode cX1_joined 137 = .ok (.return_, 1) := by decide +kernel
def b_X1_joined_79 (rc : Nat → Int32 → Int32 → GX → Option (Unit × GX)) (kc79 : Int32 → Int32 → Int32 → Int32 → GX → Option (Unit × GX)) (x1 : Int32) (x2 : Int32) (x3 : Int32) (x4 : Int32) (σ : GX) : Option (Unit × GX) :=
  if x3 ≤ x4 then (some ((), σ)) else (if (xI σ 7) ≠ (-1 : Int32) then (some ((), σ)) else (bnd (f_X1_rankOf (xI σ 5) σ) fun q2 => if q2.1 ≠ x1 then (some ((), q2.2)) else (bnd (some (xI q2.2 5)) fun w3 => bnd (f_X1_advance q2.2) fun q4 => bnd (rc 0 (x1 + (1 : Int32)) x2 q4.2) fun q5 => lawB (xV q5.2) fun t6 => (bnd (f_X0_add t6 w3 q5.2) fun q7 => kc79 x1 x2 x3 (x4 + (1 : Int32)) q7.2))))
theorem vb_X1_joined_79 {g : Gt} {ad : Nat → Nat} (z : Zt) (rc : Nat → Int32 → Int32 → GX → Option (Unit × GX)) (B d : Nat) (hB : 10 ≤ B) (hrc0 : ∀ a b : Int32, CT g (LX ad) yX1_joined cX1_joined 6 none (B + d) [.ref (aReader ad), .int a, .int b] iU (wX g ad) (rc 0 a b)) (hrc1 : ∀ b : Int32, CT g (LX ad) yX1_one cX1_one 2 none (B + d) [.ref (aReader ad), .int b] iU (wX g ad) (rc 1 0 b)) (kc79 : Int32 → Int32 → Int32 → Int32 → GX → Option (Unit × GX)) (hkc79 : ∀ (x1 : Int32) (x2 : Int32) (x3 : Int32) (x4 : Int32) (σ : GX), V g (LX ad) (B + d + 1) RX1 cX1_joined 6 none (wX g ad) iU z (kc79 x1 x2 x3 x4 σ) σ 79 [(0, .ref (aReader ad)), (1, .int x1), (2, .int x2), (3, .int x3), (4, .int x4)] []) (x1 : Int32) (x2 : Int32) (x3 : Int32) (x4 : Int32) (σ : GX) : V g (LX ad) (B + d + 1) RX1 cX1_joined 6 none (wX g ad) iU z (b_X1_joined_79 rc kc79 x1 x2 x3 x4 σ) σ 79 [(0, .ref (aReader ad)), (1, .int x1), (2, .int x2), (3, .int x3), (4, .int x4)] [] := by
  unfold b_X1_joined_79
  refine v_iload (pc := 79) (i := 4) dX1_joined_79 rfl ?_
  refine v_iload_n (pc := 81) (i := 3) dX1_joined_81 rfl rfl ?_
  refine v_icmp_ge (pc := 82) (tgt := 137) dX1_joined_82 rfl ?_ ?_
  · exact v_ret (pc := 137) dX1_joined_137
  · refine v_aload_n (pc := 85) (i := 0) dX1_joined_85 rfl rfl ?_
    refine gX1_fault (pc := 86) q_87 dX1_joined_86 ?_
    refine v_iconst (pc := 89) dX1_joined_89 ic_m1 ?_
    refine v_icmp_ne (pc := 90) (tgt := 137) dX1_joined_90 rfl ?_ ?_
    · exact v_ret (pc := 137) dX1_joined_137
    · refine v_aload_n (pc := 93) (i := 0) dX1_joined_93 rfl rfl ?_
      refine gX1_token (pc := 94) q_85 dX1_joined_94 ?_
      refine v_callSi (pc := 97) (av := [.int (xI σ 5)]) (rest := []) (ct_X1_rankOf (xI σ 5)) mi_X1_rankOf q_318 (by omega) rfl rfl (Nat.le_of_ble_eq_true rfl) dX1_joined_97 (fun q2 => ?_)
      refine v_iload_n (pc := 100) (i := 1) dX1_joined_100 rfl rfl ?_
      refine v_icmp_ne (pc := 101) (tgt := 137) dX1_joined_101 rfl ?_ ?_
      · exact v_ret (pc := 137) dX1_joined_137
      · refine v_aload_n (pc := 104) (i := 0) dX1_joined_104 rfl rfl ?_
        refine gX1_token (pc := 105) q_85 dX1_joined_105 ?_
        refine v_nmi (fun w3 => ?_)
        refine v_istore (pc := 108) (lv' := [(5, .int w3), (0, .ref (aReader ad)), (1, .int x1), (2, .int x2), (3, .int x3), (4, .int x4)]) (i := 5) dX1_joined_108 (by decide) rfl ?_
        refine v_aload_n (pc := 110) (i := 0) dX1_joined_110 rfl rfl ?_
        refine v_callVv (pc := 111) rcX1 (As := []) (rest := []) (ct_X1_advance) mi_X1_advance q_255 (by omega) rfl rfl (Nat.le_of_ble_eq_true rfl) dX1_joined_111 (fun q4 => ?_)
        refine v_aload_n (pc := 114) (i := 0) dX1_joined_114 rfl rfl ?_
        refine v_iload_n (pc := 115) (i := 1) dX1_joined_115 rfl rfl ?_
        refine v_iconst (pc := 116) dX1_joined_116 ic_1 ?_
        refine v_iadd (pc := 117) dX1_joined_117 ?_
        refine v_iload_n (pc := 118) (i := 2) dX1_joined_118 rfl rfl ?_
        refine v_callVv (pc := 119) rcX1 (As := [.int (x1 + (1 : Int32)), .int x2]) (rest := []) (hrc0 (x1 + (1 : Int32)) x2) mi_X1_joined q_302 (by omega) rfl rfl (Nat.le_of_ble_eq_true rfl) dX1_joined_119 (fun q5 => ?_)
        refine v_aload_n (pc := 122) (i := 0) dX1_joined_122 rfl rfl ?_
        refine gX1_law (pc := 123) q_88 dX1_joined_123 (fun t6 ht6 => ?_)
        refine v_iload (pc := 126) (i := 5) dX1_joined_126 rfl ?_
        refine v_callVv (pc := 128) (rcX0 ht6) (As := [.int w3]) (rest := []) (ct_X0_add ht6 w3) mi_X0_add q_310 (by omega) rfl rfl (Nat.le_of_ble_eq_true rfl) dX1_joined_128 (fun q7 => ?_)
        refine v_iinc (pc := 131) (lv' := [(4, .int (x4 + (1 : Int32))), (5, .int w3), (0, .ref (aReader ad)), (1, .int x1), (2, .int x2), (3, .int x3)]) (i := 4) dX1_joined_131 rfl ic_1 (by decide) rfl ?_
        refine v_goto (pc := 134) (tgt := 79) dX1_joined_134 rfl ?_
        exact v_sub [2, 3, 4, 5, 0] rfl (hkc79 x1 x2 x3 (x4 + (1 : Int32)) q7.2)
def k_X1_joined_79 (rc : Nat → Int32 → Int32 → GX → Option (Unit × GX)) : Nat → Int32 → Int32 → Int32 → Int32 → GX → Option (Unit × GX)
  | 0 => fun _ _ _ _ _ => none
  | n + 1 => b_X1_joined_79 rc (k_X1_joined_79 rc n)
theorem vk_X1_joined_79 {g : Gt} {ad : Nat → Nat} (z : Zt) (rc : Nat → Int32 → Int32 → GX → Option (Unit × GX)) (B d : Nat) (hB : 10 ≤ B) (hrc0 : ∀ a b : Int32, CT g (LX ad) yX1_joined cX1_joined 6 none (B + d) [.ref (aReader ad), .int a, .int b] iU (wX g ad) (rc 0 a b)) (hrc1 : ∀ b : Int32, CT g (LX ad) yX1_one cX1_one 2 none (B + d) [.ref (aReader ad), .int b] iU (wX g ad) (rc 1 0 b)) : ∀ (n : Nat) (x1 : Int32) (x2 : Int32) (x3 : Int32) (x4 : Int32) (σ : GX), V g (LX ad) (B + d + 1) RX1 cX1_joined 6 none (wX g ad) iU z (k_X1_joined_79 rc n x1 x2 x3 x4 σ) σ 79 [(0, .ref (aReader ad)), (1, .int x1), (2, .int x2), (3, .int x3), (4, .int x4)] [] := by
  intro n
  induction n with
  | zero => intros; exact v_eq rfl v_none
  | succ n ih =>
    intro x1 x2 x3 x4 σ
    exact v_eq rfl (vb_X1_joined_79 z rc B d hB hrc0 hrc1 _ ih x1 x2 x3 x4 σ)
def b_X1_joined_55 (rc : Nat → Int32 → Int32 → GX → Option (Unit × GX)) (x1 : Int32) (x2 : Int32) (σ : GX) : Option (Unit × GX) :=
  bnd (rc 0 (x1 + (1 : Int32)) x2 σ) fun q1 => if x1 ≠ (2 : Int32) then (k_X1_joined_79 rc FU x1 x2 (160 : Int32) (0 : Int32) q1.2) else (k_X1_joined_79 rc FU x1 x2 (1 : Int32) (0 : Int32) q1.2)
theorem vb_X1_joined_55 {g : Gt} {ad : Nat → Nat} (z : Zt) (rc : Nat → Int32 → Int32 → GX → Option (Unit × GX)) (B d : Nat) (hB : 10 ≤ B) (hrc0 : ∀ a b : Int32, CT g (LX ad) yX1_joined cX1_joined 6 none (B + d) [.ref (aReader ad), .int a, .int b] iU (wX g ad) (rc 0 a b)) (hrc1 : ∀ b : Int32, CT g (LX ad) yX1_one cX1_one 2 none (B + d) [.ref (aReader ad), .int b] iU (wX g ad) (rc 1 0 b)) (x1 : Int32) (x2 : Int32) (σ : GX) : V g (LX ad) (B + d + 1) RX1 cX1_joined 6 none (wX g ad) iU z (b_X1_joined_55 rc x1 x2 σ) σ 55 [(0, .ref (aReader ad)), (1, .int x1), (2, .int x2)] [] := by
  unfold b_X1_joined_55
  refine v_aload_n (pc := 55) (i := 0) dX1_joined_55 rfl rfl ?_
  refine v_iload_n (pc := 56) (i := 1) dX1_joined_56 rfl rfl ?_
  refine v_iconst (pc := 57) dX1_joined_57 ic_1 ?_
  refine v_iadd (pc := 58) dX1_joined_58 ?_
  refine v_iload_n (pc := 59) (i := 2) dX1_joined_59 rfl rfl ?_
  refine v_callVv (pc := 60) rcX1 (As := [.int (x1 + (1 : Int32)), .int x2]) (rest := []) (hrc0 (x1 + (1 : Int32)) x2) mi_X1_joined q_302 (by omega) rfl rfl (Nat.le_of_ble_eq_true rfl) dX1_joined_60 (fun q1 => ?_)
  refine v_iload_n (pc := 63) (i := 1) dX1_joined_63 rfl rfl ?_
  refine v_iconst (pc := 64) dX1_joined_64 ic_2 ?_
  refine v_icmp_ne (pc := 65) (tgt := 72) dX1_joined_65 rfl ?_ ?_
  · refine v_sipush (pc := 72) dX1_joined_72 sp_160 ?_
    refine v_istore_n (pc := 75) (lv' := [(3, .int (160 : Int32)), (0, .ref (aReader ad)), (1, .int x1), (2, .int x2)]) (i := 3) dX1_joined_75 rfl (by decide) rfl ?_
    refine v_iconst (pc := 76) dX1_joined_76 ic_0 ?_
    refine v_istore (pc := 77) (lv' := [(4, .int (0 : Int32)), (3, .int (160 : Int32)), (0, .ref (aReader ad)), (1, .int x1), (2, .int x2)]) (i := 4) dX1_joined_77 (by decide) rfl ?_
    exact v_sub [2, 3, 4, 1, 0] rfl (vk_X1_joined_79 z rc B d hB hrc0 hrc1 FU x1 x2 (160 : Int32) (0 : Int32) q1.2)
  · refine v_iconst (pc := 68) dX1_joined_68 ic_1 ?_
    refine v_goto (pc := 69) (tgt := 75) dX1_joined_69 rfl ?_
    refine v_istore_n (pc := 75) (lv' := [(3, .int (1 : Int32)), (0, .ref (aReader ad)), (1, .int x1), (2, .int x2)]) (i := 3) dX1_joined_75 rfl (by decide) rfl ?_
    refine v_iconst (pc := 76) dX1_joined_76 ic_0 ?_
    refine v_istore (pc := 77) (lv' := [(4, .int (0 : Int32)), (3, .int (1 : Int32)), (0, .ref (aReader ad)), (1, .int x1), (2, .int x2)]) (i := 4) dX1_joined_77 (by decide) rfl ?_
    exact v_sub [2, 3, 4, 1, 0] rfl (vk_X1_joined_79 z rc B d hB hrc0 hrc1 FU x1 x2 (1 : Int32) (0 : Int32) q1.2)
def f_X1_joined (rc : Nat → Int32 → Int32 → GX → Option (Unit × GX)) (x1 : Int32) (x2 : Int32) (σ : GX) : Option (Unit × GX) :=
  if x1 < (5 : Int32) then (if x1 ≠ (2 : Int32) then (b_X1_joined_55 rc x1 x2 σ) else (if (xI σ 5) ≠ (-14 : Int32) then (b_X1_joined_55 rc x1 x2 σ) else (bnd (f_X1_mayOpen x2 σ) fun q8 => if q8.1 = 0 then (some ((), q8.2)) else (bnd (f_X1_advance q8.2) fun q9 => bnd (rc 0 (2 : Int32) (x2 + (1 : Int32)) q9.2) fun q10 => lawB (xV q10.2) fun t11 => (bnd (f_X0_add t11 (-14 : Int32) q10.2) fun q12 => some ((), q12.2)))))) else (bnd (rc 1 0 x2 σ) fun q13 => some ((), q13.2))
theorem vf_X1_joined {g : Gt} {ad : Nat → Nat} (z : Zt) (rc : Nat → Int32 → Int32 → GX → Option (Unit × GX)) (B d : Nat) (hB : 10 ≤ B) (hrc0 : ∀ a b : Int32, CT g (LX ad) yX1_joined cX1_joined 6 none (B + d) [.ref (aReader ad), .int a, .int b] iU (wX g ad) (rc 0 a b)) (hrc1 : ∀ b : Int32, CT g (LX ad) yX1_one cX1_one 2 none (B + d) [.ref (aReader ad), .int b] iU (wX g ad) (rc 1 0 b)) (x1 : Int32) (x2 : Int32) (σ : GX) : V g (LX ad) (B + d + 1) RX1 cX1_joined 6 none (wX g ad) iU z (f_X1_joined rc x1 x2 σ) σ 0 [(0, .ref (aReader ad)), (1, .int x1), (2, .int x2)] [] := by
  unfold f_X1_joined
  refine v_iload_n (pc := 0) (i := 1) dX1_joined_0 rfl rfl ?_
  refine v_iconst (pc := 1) dX1_joined_1 ic_5 ?_
  refine v_icmp_lt (pc := 2) (tgt := 11) dX1_joined_2 rfl ?_ ?_
  · refine v_iload_n (pc := 11) (i := 1) dX1_joined_11 rfl rfl ?_
    refine v_iconst (pc := 12) dX1_joined_12 ic_2 ?_
    refine v_icmp_ne (pc := 13) (tgt := 55) dX1_joined_13 rfl ?_ ?_
    · exact v_sub [0, 1, 2] rfl (vb_X1_joined_55 z rc B d hB hrc0 hrc1 x1 x2 σ)
    · refine v_aload_n (pc := 16) (i := 0) dX1_joined_16 rfl rfl ?_
      refine gX1_token (pc := 17) q_85 dX1_joined_17 ?_
      refine v_bipush (pc := 20) dX1_joined_20 bp_m14 ?_
      refine v_icmp_ne (pc := 22) (tgt := 55) dX1_joined_22 rfl ?_ ?_
      · exact v_sub [0, 1, 2] rfl (vb_X1_joined_55 z rc B d hB hrc0 hrc1 x1 x2 σ)
      · refine v_aload_n (pc := 25) (i := 0) dX1_joined_25 rfl rfl ?_
        refine v_iload_n (pc := 26) (i := 2) dX1_joined_26 rfl rfl ?_
        refine v_callVi (pc := 27) rcX1 (As := [.int x2]) (rest := []) (ct_X1_mayOpen x2) mi_X1_mayOpen q_314 (by omega) rfl rfl (Nat.le_of_ble_eq_true rfl) dX1_joined_27 (fun q8 => ?_)
        refine v_if_eq (pc := 30) (tgt := 54) dX1_joined_30 rfl ?_ ?_
        · exact v_ret (pc := 54) dX1_joined_54
        · refine v_aload_n (pc := 33) (i := 0) dX1_joined_33 rfl rfl ?_
          refine v_callVv (pc := 34) rcX1 (As := []) (rest := []) (ct_X1_advance) mi_X1_advance q_255 (by omega) rfl rfl (Nat.le_of_ble_eq_true rfl) dX1_joined_34 (fun q9 => ?_)
          refine v_aload_n (pc := 37) (i := 0) dX1_joined_37 rfl rfl ?_
          refine v_iconst (pc := 38) dX1_joined_38 ic_2 ?_
          refine v_iload_n (pc := 39) (i := 2) dX1_joined_39 rfl rfl ?_
          refine v_iconst (pc := 40) dX1_joined_40 ic_1 ?_
          refine v_iadd (pc := 41) dX1_joined_41 ?_
          refine v_callVv (pc := 42) rcX1 (As := [.int (2 : Int32), .int (x2 + (1 : Int32))]) (rest := []) (hrc0 (2 : Int32) (x2 + (1 : Int32))) mi_X1_joined q_302 (by omega) rfl rfl (Nat.le_of_ble_eq_true rfl) dX1_joined_42 (fun q10 => ?_)
          refine v_aload_n (pc := 45) (i := 0) dX1_joined_45 rfl rfl ?_
          refine gX1_law (pc := 46) q_88 dX1_joined_46 (fun t11 ht11 => ?_)
          refine v_bipush (pc := 49) dX1_joined_49 bp_m14 ?_
          refine v_callVv (pc := 51) (rcX0 ht11) (As := [.int (-14 : Int32)]) (rest := []) (ct_X0_add ht11 (-14 : Int32)) mi_X0_add q_310 (by omega) rfl rfl (Nat.le_of_ble_eq_true rfl) dX1_joined_51 (fun q12 => ?_)
          exact v_ret (pc := 54) dX1_joined_54
  · refine v_aload_n (pc := 5) (i := 0) dX1_joined_5 rfl rfl ?_
    refine v_iload_n (pc := 6) (i := 2) dX1_joined_6 rfl rfl ?_
    refine v_callVv (pc := 7) rcX1 (As := [.int x2]) (rest := []) (hrc1 x2) mi_X1_one q_306 (by omega) rfl rfl (Nat.le_of_ble_eq_true rfl) dX1_joined_7 (fun q13 => ?_)
    exact v_ret (pc := 10) dX1_joined_10
theorem ct_X1_joined {g : Gt} {ad : Nat → Nat} (rc : Nat → Int32 → Int32 → GX → Option (Unit × GX)) (B d : Nat) (hB : 10 ≤ B) (hrc0 : ∀ a b : Int32, CT g (LX ad) yX1_joined cX1_joined 6 none (B + d) [.ref (aReader ad), .int a, .int b] iU (wX g ad) (rc 0 a b)) (hrc1 : ∀ b : Int32, CT g (LX ad) yX1_one cX1_one 2 none (B + d) [.ref (aReader ad), .int b] iU (wX g ad) (rc 1 0 b)) (x1 : Int32) (x2 : Int32) : CT g (LX ad) yX1_joined cX1_joined 6 none (B + d + 1) [.ref (aReader ad), .int x1, .int x2] iU (wX g ad) (f_X1_joined rc x1 x2) :=
  ct_of_V (own := RX1) (lv0 := [(0, .ref (aReader ad)), (1, .int x1), (2, .int x2)]) (by decide +kernel) rfl (Nat.le_of_ble_eq_true rfl) rfl (fun z σ => vf_X1_joined z rc B d hB hrc0 hrc1 x1 x2 σ)
def f_jo : Nat → Nat → Int32 → Int32 → GX → Option (Unit × GX)
  | 0 => fun _ _ _ _ => none
  | d + 1 => fun tag a b σ => match tag with
    | 0 => f_X1_joined (f_jo d) a b σ
    | _ => f_X1_one (f_jo d) b σ
theorem ct_jo {g : Gt} {ad : Nat → Nat} : ∀ d : Nat, (∀ a b : Int32, CT g (LX ad) yX1_joined cX1_joined 6 none (10 + d) [.ref (aReader ad), .int a, .int b] iU (wX g ad) (f_jo d 0 a b)) ∧ (∀ b : Int32, CT g (LX ad) yX1_one cX1_one 2 none (10 + d) [.ref (aReader ad), .int b] iU (wX g ad) (f_jo d 1 0 b)) := by
  intro d
  induction d with
  | zero => exact ⟨fun a b => (by intro _ _ _ _ _ _ _ h; cases h), fun b => (by intro _ _ _ _ _ _ _ h; cases h)⟩
  | succ d ih => exact ⟨fun a b => ct_X1_joined (f_jo d) 10 d (Nat.le_refl _) ih.1 ih.2 a b, fun b => ct_X1_one (f_jo d) 10 d (Nat.le_refl _) ih.1 ih.2 b⟩
-- LighthouseLiedTo$Reader.read
theorem dX1_read_0 : decode cX1_read 0 = .ok (.aload_n 1, 1) := by decide +kernel
theorem dX1_read_1 : decode cX1_read 1 = .ok (.ifnull 17, 3) := by decide +kernel
theorem dX1_read_4 : decode cX1_read 4 = .ok (.aload_n 3, 1) := by decide +kernel
theorem dX1_read_5 : decode cX1_read 5 = .ok (.ifnull 13, 3) := by decide +kernel
theorem dX1_read_8 : decode cX1_read 8 = .ok (.iload_n 2, 1) := by decide +kernel
theorem dX1_read_9 : decode cX1_read 9 = .ok (.ifCond .lt 9, 3) := by decide +kernel
theorem dX1_read_12 : decode cX1_read 12 = .ok (.iload_n 2, 1) := by decide +kernel
theorem dX1_read_13 : decode cX1_read 13 = .ok (.aload_n 1, 1) := by decide +kernel
theorem dX1_read_14 : decode cX1_read 14 = .ok (.arraylength, 1) := by decide +kernel
theorem dX1_read_15 : decode cX1_read 15 = .ok (.if_icmp .le 5, 3) := by decide +kernel
theorem dX1_read_18 : decode cX1_read 18 = .ok (.iconst 0, 1) := by decide +kernel
theorem dX1_read_19 : decode cX1_read 19 = .ok (.ireturn, 1) := by decide +kernel
theorem dX1_read_20 : decode cX1_read 20 = .ok (.aload_n 0, 1) := by decide +kernel
theorem dX1_read_21 : decode cX1_read 21 = .ok (.aload_n 1, 1) := by decide +kernel
theorem dX1_read_22 : decode cX1_read 22 = .ok (.putfield 9, 3) := by decide +kernel
theorem dX1_read_25 : decode cX1_read 25 = .ok (.aload_n 0, 1) := by decide +kernel
theorem dX1_read_26 : decode cX1_read 26 = .ok (.iload_n 2, 1) := by decide +kernel
theorem dX1_read_27 : decode cX1_read 27 = .ok (.putfield 15, 3) := by decide +kernel
theorem dX1_read_30 : decode cX1_read 30 = .ok (.aload_n 0, 1) := by decide +kernel
theorem dX1_read_31 : decode cX1_read 31 = .ok (.aload_n 3, 1) := by decide +kernel
theorem dX1_read_32 : decode cX1_read 32 = .ok (.putfield 19, 3) := by decide +kernel
theorem dX1_read_35 : decode cX1_read 35 = .ok (.aload_n 0, 1) := by decide +kernel
theorem dX1_read_36 : decode cX1_read 36 = .ok (.iconst 0, 1) := by decide +kernel
theorem dX1_read_37 : decode cX1_read 37 = .ok (.putfield 23, 3) := by decide +kernel
theorem dX1_read_40 : decode cX1_read 40 = .ok (.aload_n 0, 1) := by decide +kernel
theorem dX1_read_41 : decode cX1_read 41 = .ok (.iconst (-1), 1) := by decide +kernel
theorem dX1_read_42 : decode cX1_read 42 = .ok (.putfield 26, 3) := by decide +kernel
theorem dX1_read_45 : decode cX1_read 45 = .ok (.aload_n 3, 1) := by decide +kernel
theorem dX1_read_46 : decode cX1_read 46 = .ok (.invokevirtual 29, 3) := by decide +kernel
theorem dX1_read_49 : decode cX1_read 49 = .ok (.aload_n 0, 1) := by decide +kernel
theorem dX1_read_50 : decode cX1_read 50 = .ok (.invokevirtual 34, 3) := by decide +kernel
theorem dX1_read_53 : decode cX1_read 53 = .ok (.iconst 0, 1) := by decide +kernel
theorem dX1_read_54 : decode cX1_read 54 = .ok (.istore 4, 2) := by decide +kernel
theorem dX1_read_56 : decode cX1_read 56 = .ok (.iload 4, 2) := by decide +kernel
theorem dX1_read_58 : decode cX1_read 58 = .ok (.iconst 3, 1) := by decide +kernel
theorem dX1_read_59 : decode cX1_read 59 = .ok (.if_icmp .ge 54, 3) := by decide +kernel
theorem dX1_read_62 : decode cX1_read 62 = .ok (.aload_n 0, 1) := by decide +kernel
theorem dX1_read_63 : decode cX1_read 63 = .ok (.iload 4, 2) := by decide +kernel
theorem dX1_read_65 : decode cX1_read 65 = .ok (.ifCond .ne 8, 3) := by decide +kernel
theorem dX1_read_68 : decode cX1_read 68 = .ok (.bipush (-19), 2) := by decide +kernel
theorem dX1_read_70 : decode cX1_read 70 = .ok (.goto 16, 3) := by decide +kernel
theorem dX1_read_73 : decode cX1_read 73 = .ok (.iload 4, 2) := by decide +kernel
theorem dX1_read_75 : decode cX1_read 75 = .ok (.iconst 1, 1) := by decide +kernel
theorem dX1_read_76 : decode cX1_read 76 = .ok (.if_icmp .ne 8, 3) := by decide +kernel
theorem dX1_read_79 : decode cX1_read 79 = .ok (.bipush (-20), 2) := by decide +kernel
theorem dX1_read_81 : decode cX1_read 81 = .ok (.goto 5, 3) := by decide +kernel
theorem dX1_read_84 : decode cX1_read 84 = .ok (.bipush (-21), 2) := by decide +kernel
theorem dX1_read_86 : decode cX1_read 86 = .ok (.invokevirtual 37, 3) := by decide +kernel
theorem dX1_read_89 : decode cX1_read 89 = .ok (.aload_n 0, 1) := by decide +kernel
theorem dX1_read_90 : decode cX1_read 90 = .ok (.iconst 0, 1) := by decide +kernel
theorem dX1_read_91 : decode cX1_read 91 = .ok (.iconst 0, 1) := by decide +kernel
theorem dX1_read_92 : decode cX1_read 92 = .ok (.invokevirtual 41, 3) := by decide +kernel
theorem dX1_read_95 : decode cX1_read 95 = .ok (.aload_n 0, 1) := by decide +kernel
theorem dX1_read_96 : decode cX1_read 96 = .ok (.bipush (-18), 2) := by decide +kernel
theorem dX1_read_98 : decode cX1_read 98 = .ok (.invokevirtual 37, 3) := by decide +kernel
theorem dX1_read_101 : decode cX1_read 101 = .ok (.aload_n 3, 1) := by decide +kernel
theorem dX1_read_102 : decode cX1_read 102 = .ok (.iload 4, 2) := by decide +kernel
theorem dX1_read_104 : decode cX1_read 104 = .ok (.invokevirtual 45, 3) := by decide +kernel
theorem dX1_read_107 : decode cX1_read 107 = .ok (.iinc 4 1, 3) := by decide +kernel
theorem dX1_read_110 : decode cX1_read 110 = .ok (.goto (-54), 3) := by decide +kernel
theorem dX1_read_113 : decode cX1_read 113 = .ok (.aload_n 0, 1) := by decide +kernel
theorem dX1_read_114 : decode cX1_read 114 = .ok (.bipush (-22), 2) := by decide +kernel
theorem dX1_read_116 : decode cX1_read 116 = .ok (.invokevirtual 37, 3) := by decide +kernel
theorem dX1_read_119 : decode cX1_read 119 = .ok (.aload_n 0, 1) := by decide +kernel
theorem dX1_read_120 : decode cX1_read 120 = .ok (.getfield 26, 3) := by decide +kernel
theorem dX1_read_123 : decode cX1_read 123 = .ok (.ireturn, 1) := by decide +kernel
def b_X1_read_86 (t : Nat) (kc56 : Int32 → GX → Option (Int32 × GX)) (x4 : Int32) (xs0 : Int32) (σ : GX) : Option (Int32 × GX) :=
  bnd (f_X1_expect xs0 σ) fun q9 => bnd (f_jo JD 0 (0 : Int32) (0 : Int32) q9.2) fun q10 => bnd (f_X1_expect (-18 : Int32) q10.2) fun q11 => bnd (f_X0_endPart t x4 q11.2) fun q12 => kc56 (x4 + (1 : Int32)) q12.2
theorem vb_X1_read_86 {g : Gt} {ad : Nat → Nat} (z : Zt) (t : Nat) (ht : t < 6) (kc56 : Int32 → GX → Option (Int32 × GX)) (hkc56 : ∀ (x4 : Int32) (σ : GX), V g (LX ad) 71 RX1 cX1_read 5 (some .int) (wX g ad) iI z (kc56 x4 σ) σ 56 [(0, .ref (aReader ad)), (3, .ref (aLaw ad t)), (4, .int x4)] []) (x4 : Int32) (xs0 : Int32) (σ : GX) : V g (LX ad) 71 RX1 cX1_read 5 (some .int) (wX g ad) iI z (b_X1_read_86 t kc56 x4 xs0 σ) σ 86 [(0, .ref (aReader ad)), (3, .ref (aLaw ad t)), (4, .int x4)] [.int xs0, .ref (aReader ad)] := by
  unfold b_X1_read_86
  refine v_callVv (pc := 86) rcX1 (As := [.int xs0]) (rest := []) (ct_X1_expect xs0) mi_X1_expect q_294 (by decide) rfl rfl (Nat.le_of_ble_eq_true rfl) dX1_read_86 (fun q9 => ?_)
  refine v_aload_n (pc := 89) (i := 0) dX1_read_89 rfl rfl ?_
  refine v_iconst (pc := 90) dX1_read_90 ic_0 ?_
  refine v_iconst (pc := 91) dX1_read_91 ic_0 ?_
  refine v_callVv (pc := 92) rcX1 (As := [.int (0 : Int32), .int (0 : Int32)]) (rest := []) ((ct_jo JD).1 (0 : Int32) (0 : Int32)) mi_X1_joined q_302 (by decide) rfl rfl (Nat.le_of_ble_eq_true rfl) dX1_read_92 (fun q10 => ?_)
  refine v_aload_n (pc := 95) (i := 0) dX1_read_95 rfl rfl ?_
  refine v_bipush (pc := 96) dX1_read_96 bp_m18 ?_
  refine v_callVv (pc := 98) rcX1 (As := [.int (-18 : Int32)]) (rest := []) (ct_X1_expect (-18 : Int32)) mi_X1_expect q_294 (by decide) rfl rfl (Nat.le_of_ble_eq_true rfl) dX1_read_98 (fun q11 => ?_)
  refine v_aload_n (pc := 101) (i := 3) dX1_read_101 rfl rfl ?_
  refine v_iload (pc := 102) (i := 4) dX1_read_102 rfl ?_
  refine v_callVv (pc := 104) (rcX0 ht) (As := [.int x4]) (rest := []) (ct_X0_endPart ht x4) mi_X0_endPart q_321 (by decide) rfl rfl (Nat.le_of_ble_eq_true rfl) dX1_read_104 (fun q12 => ?_)
  refine v_iinc (pc := 107) (lv' := [(4, .int (x4 + (1 : Int32))), (0, .ref (aReader ad)), (3, .ref (aLaw ad t))]) (i := 4) dX1_read_107 rfl ic_1 (by decide) rfl ?_
  refine v_goto (pc := 110) (tgt := 56) dX1_read_110 rfl ?_
  exact v_sub [1, 2, 0] rfl (hkc56 (x4 + (1 : Int32)) q12.2)
def b_X1_read_56 (t : Nat) (kc56 : Int32 → GX → Option (Int32 × GX)) (x4 : Int32) (σ : GX) : Option (Int32 × GX) :=
  if (3 : Int32) ≤ x4 then (bnd (f_X1_expect (-22 : Int32) σ) fun q8 => some ((xI q8.2 7), q8.2)) else (if x4 ≠ 0 then (if x4 ≠ (1 : Int32) then (b_X1_read_86 t kc56 x4 (-21 : Int32) σ) else (b_X1_read_86 t kc56 x4 (-20 : Int32) σ)) else (b_X1_read_86 t kc56 x4 (-19 : Int32) σ))
theorem vb_X1_read_56 {g : Gt} {ad : Nat → Nat} (z : Zt) (t : Nat) (ht : t < 6) (kc56 : Int32 → GX → Option (Int32 × GX)) (hkc56 : ∀ (x4 : Int32) (σ : GX), V g (LX ad) 71 RX1 cX1_read 5 (some .int) (wX g ad) iI z (kc56 x4 σ) σ 56 [(0, .ref (aReader ad)), (3, .ref (aLaw ad t)), (4, .int x4)] []) (x4 : Int32) (σ : GX) : V g (LX ad) 71 RX1 cX1_read 5 (some .int) (wX g ad) iI z (b_X1_read_56 t kc56 x4 σ) σ 56 [(0, .ref (aReader ad)), (3, .ref (aLaw ad t)), (4, .int x4)] [] := by
  unfold b_X1_read_56
  refine v_iload (pc := 56) (i := 4) dX1_read_56 rfl ?_
  refine v_iconst (pc := 58) dX1_read_58 ic_3 ?_
  refine v_icmp_ge (pc := 59) (tgt := 113) dX1_read_59 rfl ?_ ?_
  · refine v_aload_n (pc := 113) (i := 0) dX1_read_113 rfl rfl ?_
    refine v_bipush (pc := 114) dX1_read_114 bp_m22 ?_
    refine v_callVv (pc := 116) rcX1 (As := [.int (-22 : Int32)]) (rest := []) (ct_X1_expect (-22 : Int32)) mi_X1_expect q_294 (by decide) rfl rfl (Nat.le_of_ble_eq_true rfl) dX1_read_116 (fun q8 => ?_)
    refine v_aload_n (pc := 119) (i := 0) dX1_read_119 rfl rfl ?_
    refine gX1_fault (pc := 120) q_87 dX1_read_120 ?_
    exact v_iret (pc := 123) dX1_read_123
  · refine v_aload_n (pc := 62) (i := 0) dX1_read_62 rfl rfl ?_
    refine v_iload (pc := 63) (i := 4) dX1_read_63 rfl ?_
    refine v_if_ne (pc := 65) (tgt := 73) dX1_read_65 rfl ?_ ?_
    · refine v_iload (pc := 73) (i := 4) dX1_read_73 rfl ?_
      refine v_iconst (pc := 75) dX1_read_75 ic_1 ?_
      refine v_icmp_ne (pc := 76) (tgt := 84) dX1_read_76 rfl ?_ ?_
      · refine v_bipush (pc := 84) dX1_read_84 bp_m21 ?_
        exact v_sub [0, 1, 2] rfl (vb_X1_read_86 z t ht kc56 hkc56 x4 (-21 : Int32) σ)
      · refine v_bipush (pc := 79) dX1_read_79 bp_m20 ?_
        refine v_goto (pc := 81) (tgt := 86) dX1_read_81 rfl ?_
        exact v_sub [0, 1, 2] rfl (vb_X1_read_86 z t ht kc56 hkc56 x4 (-20 : Int32) σ)
    · refine v_bipush (pc := 68) dX1_read_68 bp_m19 ?_
      refine v_goto (pc := 70) (tgt := 86) dX1_read_70 rfl ?_
      exact v_sub [0, 1, 2] rfl (vb_X1_read_86 z t ht kc56 hkc56 x4 (-19 : Int32) σ)
def k_X1_read_56 (t : Nat) : Nat → Int32 → GX → Option (Int32 × GX)
  | 0 => fun _ _ => none
  | n + 1 => b_X1_read_56 t (k_X1_read_56 t n)
theorem vk_X1_read_56 {g : Gt} {ad : Nat → Nat} (z : Zt) (t : Nat) (ht : t < 6) : ∀ (n : Nat) (x4 : Int32) (σ : GX), V g (LX ad) 71 RX1 cX1_read 5 (some .int) (wX g ad) iI z (k_X1_read_56 t n x4 σ) σ 56 [(0, .ref (aReader ad)), (3, .ref (aLaw ad t)), (4, .int x4)] [] := by
  intro n
  induction n with
  | zero => intros; exact v_eq rfl v_none
  | succ n ih =>
    intro x4 σ
    exact v_eq rfl (vb_X1_read_56 z t ht _ ih x4 σ)
def f_X1_read (t : Nat) (x2 : Int32) (σ : GX) : Option (Int32 × GX) :=
  if x2 < 0 then (some ((0 : Int32), σ)) else (if x2 ≤ (160 : Int32) then (bnd (some (sY σ (some ()))) fun σ1 => bnd (some (sI σ1 3 x2)) fun σ2 => bnd (some (sV σ2 (some t))) fun σ3 => bnd (some (sI σ3 4 (0 : Int32))) fun σ4 => bnd (some (sI σ4 7 (-1 : Int32))) fun σ5 => bnd (f_X0_clear t σ5) fun q6 => bnd (f_X1_advance q6.2) fun q7 => k_X1_read_56 t FU (0 : Int32) q7.2) else (some ((0 : Int32), σ)))
theorem vf_X1_read {g : Gt} {ad : Nat → Nat} (z : Zt) (t : Nat) (ht : t < 6) (x2 : Int32) (σ : GX) : V g (LX ad) 71 RX1 cX1_read 5 (some .int) (wX g ad) iI z (f_X1_read t x2 σ) σ 0 [(0, .ref (aReader ad)), (1, .ref (aTape ad)), (2, .int x2), (3, .ref (aLaw ad t))] [] := by
  unfold f_X1_read
  refine v_aload_n (pc := 0) (i := 1) dX1_read_0 rfl rfl ?_
  refine v_ifnull (pc := 1) dX1_read_1 ?_
  refine v_aload_n (pc := 4) (i := 3) dX1_read_4 rfl rfl ?_
  refine v_ifnull (pc := 5) dX1_read_5 ?_
  refine v_iload_n (pc := 8) (i := 2) dX1_read_8 rfl rfl ?_
  refine v_if_lt (pc := 9) (tgt := 18) dX1_read_9 rfl ?_ ?_
  · refine v_iconst (pc := 18) dX1_read_18 ic_0 ?_
    exact v_iret (pc := 19) dX1_read_19
  · refine v_iload_n (pc := 12) (i := 2) dX1_read_12 rfl rfl ?_
    refine v_aload_n (pc := 13) (i := 1) dX1_read_13 rfl rfl ?_
    refine nX_tape (pc := 14) (v := (160 : Int32)) rfl dX1_read_14 ?_
    refine v_icmp_le (pc := 15) (tgt := 20) dX1_read_15 rfl ?_ ?_
    · refine v_aload_n (pc := 20) (i := 0) dX1_read_20 rfl rfl ?_
      refine v_aload_n (pc := 21) (i := 1) dX1_read_21 rfl rfl ?_
      refine pX1_tape (pc := 22) q_82 dX1_read_22 ?_
      refine v_nms (fun σ1 => ?_)
      refine v_aload_n (pc := 25) (i := 0) dX1_read_25 rfl rfl ?_
      refine v_iload_n (pc := 26) (i := 2) dX1_read_26 rfl rfl ?_
      refine pX1_size (pc := 27) q_83 dX1_read_27 ?_
      refine v_nms (fun σ2 => ?_)
      refine v_aload_n (pc := 30) (i := 0) dX1_read_30 rfl rfl ?_
      refine v_aload_n (pc := 31) (i := 3) dX1_read_31 rfl rfl ?_
      refine pX1_law (pc := 32) (t := t) q_88 dX1_read_32 ?_
      refine v_nms (fun σ3 => ?_)
      refine v_aload_n (pc := 35) (i := 0) dX1_read_35 rfl rfl ?_
      refine v_iconst (pc := 36) dX1_read_36 ic_0 ?_
      refine pX1_at (pc := 37) q_84 dX1_read_37 ?_
      refine v_nms (fun σ4 => ?_)
      refine v_aload_n (pc := 40) (i := 0) dX1_read_40 rfl rfl ?_
      refine v_iconst (pc := 41) dX1_read_41 ic_m1 ?_
      refine pX1_fault (pc := 42) q_87 dX1_read_42 ?_
      refine v_nms (fun σ5 => ?_)
      refine v_aload_n (pc := 45) (i := 3) dX1_read_45 rfl rfl ?_
      refine v_callVv (pc := 46) (rcX0 ht) (As := []) (rest := []) (ct_X0_clear ht) mi_X0_clear q_251 (by decide) rfl rfl (Nat.le_of_ble_eq_true rfl) dX1_read_46 (fun q6 => ?_)
      refine v_aload_n (pc := 49) (i := 0) dX1_read_49 rfl rfl ?_
      refine v_callVv (pc := 50) rcX1 (As := []) (rest := []) (ct_X1_advance) mi_X1_advance q_255 (by decide) rfl rfl (Nat.le_of_ble_eq_true rfl) dX1_read_50 (fun q7 => ?_)
      refine v_iconst (pc := 53) dX1_read_53 ic_0 ?_
      refine v_istore (pc := 54) (lv' := [(4, .int (0 : Int32)), (0, .ref (aReader ad)), (1, .ref (aTape ad)), (2, .int x2), (3, .ref (aLaw ad t))]) (i := 4) dX1_read_54 (by decide) rfl ?_
      exact v_sub [1, 4, 0] rfl (vk_X1_read_56 z t ht FU (0 : Int32) q7.2)
    · refine v_iconst (pc := 18) dX1_read_18 ic_0 ?_
      exact v_iret (pc := 19) dX1_read_19
theorem ct_X1_read {g : Gt} {ad : Nat → Nat} {t : Nat} (ht : t < 6) (x2 : Int32) : CT g (LX ad) yX1_read cX1_read 5 (some .int) 71 [.ref (aReader ad), .ref (aTape ad), .int x2, .ref (aLaw ad t)] iI (wX g ad) (f_X1_read t x2) :=
  ct_of_V (own := RX1) (lv0 := [(0, .ref (aReader ad)), (1, .ref (aTape ad)), (2, .int x2), (3, .ref (aLaw ad t))]) (by decide +kernel) rfl (Nat.le_of_ble_eq_true rfl) rfl (fun z σ => vf_X1_read z t ht x2 σ)
end
