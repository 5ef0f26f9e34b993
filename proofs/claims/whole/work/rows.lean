section
-- ===== PART A: goes FIRST, ahead of the names: the tables' words, and 'selects' of the private methods out of them =====
/-- a private method of a class that the tables say can be made, by its rows of tables_1 -/
def lw_okq (q : MethodName × Nat) : Prop := (q.1.cls ≠ "java/lang/invoke/MethodHandle" ∧ q.1.cls ≠ "java/lang/invoke/VarHandle") ∧ Cond.instantiable q.1.cls q.2 ∈ tables_1 ∧ Cond.privateMethod q.1 ∈ tables_1 ∧ Cond.instanceMethod q.1 ∈ tables_1
theorem lw_p0 : lw_okq (⟨"ShadowTax$Reader", "advance", "()V"⟩, 7) := ⟨⟨by decide +kernel, by decide +kernel⟩, List.mem_of_getElem? (i := 155) (by decide +kernel), List.mem_of_getElem? (i := 317) (by decide +kernel), List.mem_of_getElem? (i := 318) (by decide +kernel)⟩
theorem lw_p1 : lw_okq (⟨"ShadowTax$Reader", "readWord", "()I"⟩, 7) := ⟨⟨by decide +kernel, by decide +kernel⟩, List.mem_of_getElem? (i := 155) (by decide +kernel), List.mem_of_getElem? (i := 324) (by decide +kernel), List.mem_of_getElem? (i := 325) (by decide +kernel)⟩
theorem lw_p2 : lw_okq (⟨"ShadowTax$Reader", "isWord", "(Ljava/lang/String;)Z"⟩, 7) := ⟨⟨by decide +kernel, by decide +kernel⟩, List.mem_of_getElem? (i := 155) (by decide +kernel), List.mem_of_getElem? (i := 329) (by decide +kernel), List.mem_of_getElem? (i := 330) (by decide +kernel)⟩
theorem lw_p3 : lw_okq (⟨"ShadowTax$Reader", "readNumber", "()I"⟩, 7) := ⟨⟨by decide +kernel, by decide +kernel⟩, List.mem_of_getElem? (i := 155) (by decide +kernel), List.mem_of_getElem? (i := 395) (by decide +kernel), List.mem_of_getElem? (i := 396) (by decide +kernel)⟩
theorem lw_p4 : lw_okq (⟨"ShadowTax$Reader", "expect", "(I)V"⟩, 7) := ⟨⟨by decide +kernel, by decide +kernel⟩, List.mem_of_getElem? (i := 155) (by decide +kernel), List.mem_of_getElem? (i := 402) (by decide +kernel), List.mem_of_getElem? (i := 403) (by decide +kernel)⟩
theorem lw_p5 : lw_okq (⟨"ShadowTax$Reader", "fail", "()V"⟩, 7) := ⟨⟨by decide +kernel, by decide +kernel⟩, List.mem_of_getElem? (i := 155) (by decide +kernel), List.mem_of_getElem? (i := 406) (by decide +kernel), List.mem_of_getElem? (i := 407) (by decide +kernel)⟩
theorem lw_p6 : lw_okq (⟨"ShadowTax$Reader", "readLevel", "(II)V"⟩, 7) := ⟨⟨by decide +kernel, by decide +kernel⟩, List.mem_of_getElem? (i := 155) (by decide +kernel), List.mem_of_getElem? (i := 410) (by decide +kernel), List.mem_of_getElem? (i := 411) (by decide +kernel)⟩
theorem lw_p7 : lw_okq (⟨"ShadowTax$Reader", "readOne", "(I)V"⟩, 7) := ⟨⟨by decide +kernel, by decide +kernel⟩, List.mem_of_getElem? (i := 155) (by decide +kernel), List.mem_of_getElem? (i := 414) (by decide +kernel), List.mem_of_getElem? (i := 415) (by decide +kernel)⟩
theorem lw_p8 : lw_okq (⟨"ShadowTax$Reader", "readBehind", "(III)V"⟩, 7) := ⟨⟨by decide +kernel, by decide +kernel⟩, List.mem_of_getElem? (i := 155) (by decide +kernel), List.mem_of_getElem? (i := 419) (by decide +kernel), List.mem_of_getElem? (i := 420) (by decide +kernel)⟩
theorem lw_p9 : lw_okq (⟨"ShadowTax$Square", "measure", "(II)V"⟩, 14) := ⟨⟨by decide +kernel, by decide +kernel⟩, List.mem_of_getElem? (i := 26) (by decide +kernel), List.mem_of_getElem? (i := 443) (by decide +kernel), List.mem_of_getElem? (i := 444) (by decide +kernel)⟩
theorem lw_p10 : lw_okq (⟨"ShadowTax$Square", "ruled", "(II)I"⟩, 14) := ⟨⟨by decide +kernel, by decide +kernel⟩, List.mem_of_getElem? (i := 26) (by decide +kernel), List.mem_of_getElem? (i := 447) (by decide +kernel), List.mem_of_getElem? (i := 448) (by decide +kernel)⟩
theorem lw_p11 : lw_okq (⟨"ShadowTax$Square", "cast", "(I)V"⟩, 14) := ⟨⟨by decide +kernel, by decide +kernel⟩, List.mem_of_getElem? (i := 26) (by decide +kernel), List.mem_of_getElem? (i := 481) (by decide +kernel), List.mem_of_getElem? (i := 482) (by decide +kernel)⟩
theorem lw_p12 : lw_okq (⟨"ShadowTax$Square", "occupied", "()I"⟩, 14) := ⟨⟨by decide +kernel, by decide +kernel⟩, List.mem_of_getElem? (i := 26) (by decide +kernel), List.mem_of_getElem? (i := 485) (by decide +kernel), List.mem_of_getElem? (i := 486) (by decide +kernel)⟩
theorem lw_p13 : lw_okq (⟨"ShadowTax$Square", "shadowOf", "(IZ)I"⟩, 14) := ⟨⟨by decide +kernel, by decide +kernel⟩, List.mem_of_getElem? (i := 26) (by decide +kernel), List.mem_of_getElem? (i := 489) (by decide +kernel), List.mem_of_getElem? (i := 490) (by decide +kernel)⟩
theorem lw_p14 : lw_okq (⟨"ShadowTax", "mostHour", "(Z)I"⟩, 5) := ⟨⟨by decide +kernel, by decide +kernel⟩, List.mem_of_getElem? (i := 18) (by decide +kernel), List.mem_of_getElem? (i := 525) (by decide +kernel), List.mem_of_getElem? (i := 526) (by decide +kernel)⟩
theorem lw_p15 : lw_okq (⟨"ShadowTax", "fairestHour", "(Z)I"⟩, 5) := ⟨⟨by decide +kernel, by decide +kernel⟩, List.mem_of_getElem? (i := 18) (by decide +kernel), List.mem_of_getElem? (i := 529) (by decide +kernel), List.mem_of_getElem? (i := 530) (by decide +kernel)⟩
def lw_privs_1 : List (MethodName × Nat) := [(⟨"ShadowTax$Reader", "advance", "()V"⟩, 7), (⟨"ShadowTax$Reader", "readWord", "()I"⟩, 7), (⟨"ShadowTax$Reader", "isWord", "(Ljava/lang/String;)Z"⟩, 7), (⟨"ShadowTax$Reader", "readNumber", "()I"⟩, 7), (⟨"ShadowTax$Reader", "expect", "(I)V"⟩, 7), (⟨"ShadowTax$Reader", "fail", "()V"⟩, 7), (⟨"ShadowTax$Reader", "readLevel", "(II)V"⟩, 7), (⟨"ShadowTax$Reader", "readOne", "(I)V"⟩, 7), (⟨"ShadowTax$Reader", "readBehind", "(III)V"⟩, 7), (⟨"ShadowTax$Square", "measure", "(II)V"⟩, 14), (⟨"ShadowTax$Square", "ruled", "(II)I"⟩, 14), (⟨"ShadowTax$Square", "cast", "(I)V"⟩, 14), (⟨"ShadowTax$Square", "occupied", "()I"⟩, 14), (⟨"ShadowTax$Square", "shadowOf", "(IZ)I"⟩, 14), (⟨"ShadowTax", "mostHour", "(Z)I"⟩, 5), (⟨"ShadowTax", "fairestHour", "(Z)I"⟩, 5)]
theorem lw_r1 : ∀ q ∈ lw_privs_1, lw_okq q := List.forall_mem_cons.mpr ⟨lw_p0, List.forall_mem_cons.mpr ⟨lw_p1, List.forall_mem_cons.mpr ⟨lw_p2, List.forall_mem_cons.mpr ⟨lw_p3, List.forall_mem_cons.mpr ⟨lw_p4, List.forall_mem_cons.mpr ⟨lw_p5, List.forall_mem_cons.mpr ⟨lw_p6, List.forall_mem_cons.mpr ⟨lw_p7, List.forall_mem_cons.mpr ⟨lw_p8, List.forall_mem_cons.mpr ⟨lw_p9, List.forall_mem_cons.mpr ⟨lw_p10, List.forall_mem_cons.mpr ⟨lw_p11, List.forall_mem_cons.mpr ⟨lw_p12, List.forall_mem_cons.mpr ⟨lw_p13, List.forall_mem_cons.mpr ⟨lw_p14, List.forall_mem_cons.mpr ⟨lw_p15, fun _ h => absurd h List.not_mem_nil⟩⟩⟩⟩⟩⟩⟩⟩⟩⟩⟩⟩⟩⟩⟩⟩
theorem lw_p16 : lw_okq (⟨"ShadowTax", "isSheet", "(I)Z"⟩, 5) := ⟨⟨by decide +kernel, by decide +kernel⟩, List.mem_of_getElem? (i := 18) (by decide +kernel), List.mem_of_getElem? (i := 565) (by decide +kernel), List.mem_of_getElem? (i := 566) (by decide +kernel)⟩
theorem lw_p17 : lw_okq (⟨"ShadowTax", "firstOtherwise", "(LShadowTax$Sheet;I)I"⟩, 5) := ⟨⟨by decide +kernel, by decide +kernel⟩, List.mem_of_getElem? (i := 18) (by decide +kernel), List.mem_of_getElem? (i := 573) (by decide +kernel), List.mem_of_getElem? (i := 574) (by decide +kernel)⟩
theorem lw_p18 : lw_okq (⟨"ShadowTax", "fittingClouds", "(LShadowTax$Sheet;I)I"⟩, 5) := ⟨⟨by decide +kernel, by decide +kernel⟩, List.mem_of_getElem? (i := 18) (by decide +kernel), List.mem_of_getElem? (i := 588) (by decide +kernel), List.mem_of_getElem? (i := 589) (by decide +kernel)⟩
theorem lw_p19 : lw_okq (⟨"ShadowTax", "lookWithoutClouds", "()V"⟩, 5) := ⟨⟨by decide +kernel, by decide +kernel⟩, List.mem_of_getElem? (i := 18) (by decide +kernel), List.mem_of_getElem? (i := 615) (by decide +kernel), List.mem_of_getElem? (i := 616) (by decide +kernel)⟩
theorem lw_p20 : lw_okq (⟨"ShadowTax", "dueBySeed", "(I)I"⟩, 5) := ⟨⟨by decide +kernel, by decide +kernel⟩, List.mem_of_getElem? (i := 18) (by decide +kernel), List.mem_of_getElem? (i := 619) (by decide +kernel), List.mem_of_getElem? (i := 620) (by decide +kernel)⟩
theorem lw_p21 : lw_okq (⟨"ShadowTaxModel", "spell", "(IIIIIIIII)V"⟩, 43) := ⟨⟨by decide +kernel, by decide +kernel⟩, List.mem_of_getElem? (i := 693) (by decide +kernel), List.mem_of_getElem? (i := 699) (by decide +kernel), List.mem_of_getElem? (i := 700) (by decide +kernel)⟩
theorem lw_p22 : lw_okq (⟨"ShadowTaxModel", "isThing", "(I)Z"⟩, 43) := ⟨⟨by decide +kernel, by decide +kernel⟩, List.mem_of_getElem? (i := 693) (by decide +kernel), List.mem_of_getElem? (i := 841) (by decide +kernel), List.mem_of_getElem? (i := 842) (by decide +kernel)⟩
theorem lw_p23 : lw_okq (⟨"ShadowTaxModel", "lays", "(III)V"⟩, 43) := ⟨⟨by decide +kernel, by decide +kernel⟩, List.mem_of_getElem? (i := 693) (by decide +kernel), List.mem_of_getElem? (i := 856) (by decide +kernel), List.mem_of_getElem? (i := 857) (by decide +kernel)⟩
theorem lw_p24 : lw_okq (⟨"ShadowTaxModel", "read", "(II)I"⟩, 43) := ⟨⟨by decide +kernel, by decide +kernel⟩, List.mem_of_getElem? (i := 693) (by decide +kernel), List.mem_of_getElem? (i := 877) (by decide +kernel), List.mem_of_getElem? (i := 878) (by decide +kernel)⟩
theorem lw_p25 : lw_okq (⟨"ShadowTaxModel", "next", "()V"⟩, 43) := ⟨⟨by decide +kernel, by decide +kernel⟩, List.mem_of_getElem? (i := 693) (by decide +kernel), List.mem_of_getElem? (i := 881) (by decide +kernel), List.mem_of_getElem? (i := 882) (by decide +kernel)⟩
theorem lw_p26 : lw_okq (⟨"ShadowTaxModel", "byteAt", "(I)I"⟩, 43) := ⟨⟨by decide +kernel, by decide +kernel⟩, List.mem_of_getElem? (i := 693) (by decide +kernel), List.mem_of_getElem? (i := 885) (by decide +kernel), List.mem_of_getElem? (i := 886) (by decide +kernel)⟩
theorem lw_p27 : lw_okq (⟨"ShadowTaxModel", "isWord", "(IIIIIIII)Z"⟩, 43) := ⟨⟨by decide +kernel, by decide +kernel⟩, List.mem_of_getElem? (i := 693) (by decide +kernel), List.mem_of_getElem? (i := 894) (by decide +kernel), List.mem_of_getElem? (i := 895) (by decide +kernel)⟩
theorem lw_p28 : lw_okq (⟨"ShadowTaxModel", "isLetter", "(II)Z"⟩, 43) := ⟨⟨by decide +kernel, by decide +kernel⟩, List.mem_of_getElem? (i := 693) (by decide +kernel), List.mem_of_getElem? (i := 898) (by decide +kernel), List.mem_of_getElem? (i := 899) (by decide +kernel)⟩
theorem lw_p29 : lw_okq (⟨"ShadowTaxModel", "part", "(Z)I"⟩, 43) := ⟨⟨by decide +kernel, by decide +kernel⟩, List.mem_of_getElem? (i := 693) (by decide +kernel), List.mem_of_getElem? (i := 902) (by decide +kernel), List.mem_of_getElem? (i := 903) (by decide +kernel)⟩
theorem lw_p30 : lw_okq (⟨"ShadowTaxModel", "fail", "()V"⟩, 43) := ⟨⟨by decide +kernel, by decide +kernel⟩, List.mem_of_getElem? (i := 693) (by decide +kernel), List.mem_of_getElem? (i := 906) (by decide +kernel), List.mem_of_getElem? (i := 907) (by decide +kernel)⟩
theorem lw_p31 : lw_okq (⟨"ShadowTaxModel", "either0", "()I"⟩, 43) := ⟨⟨by decide +kernel, by decide +kernel⟩, List.mem_of_getElem? (i := 693) (by decide +kernel), List.mem_of_getElem? (i := 910) (by decide +kernel), List.mem_of_getElem? (i := 911) (by decide +kernel)⟩
def lw_privs_2 : List (MethodName × Nat) := [(⟨"ShadowTax", "isSheet", "(I)Z"⟩, 5), (⟨"ShadowTax", "firstOtherwise", "(LShadowTax$Sheet;I)I"⟩, 5), (⟨"ShadowTax", "fittingClouds", "(LShadowTax$Sheet;I)I"⟩, 5), (⟨"ShadowTax", "lookWithoutClouds", "()V"⟩, 5), (⟨"ShadowTax", "dueBySeed", "(I)I"⟩, 5), (⟨"ShadowTaxModel", "spell", "(IIIIIIIII)V"⟩, 43), (⟨"ShadowTaxModel", "isThing", "(I)Z"⟩, 43), (⟨"ShadowTaxModel", "lays", "(III)V"⟩, 43), (⟨"ShadowTaxModel", "read", "(II)I"⟩, 43), (⟨"ShadowTaxModel", "next", "()V"⟩, 43), (⟨"ShadowTaxModel", "byteAt", "(I)I"⟩, 43), (⟨"ShadowTaxModel", "isWord", "(IIIIIIII)Z"⟩, 43), (⟨"ShadowTaxModel", "isLetter", "(II)Z"⟩, 43), (⟨"ShadowTaxModel", "part", "(Z)I"⟩, 43), (⟨"ShadowTaxModel", "fail", "()V"⟩, 43), (⟨"ShadowTaxModel", "either0", "()I"⟩, 43)]
theorem lw_r2 : ∀ q ∈ lw_privs_2, lw_okq q := List.forall_mem_cons.mpr ⟨lw_p16, List.forall_mem_cons.mpr ⟨lw_p17, List.forall_mem_cons.mpr ⟨lw_p18, List.forall_mem_cons.mpr ⟨lw_p19, List.forall_mem_cons.mpr ⟨lw_p20, List.forall_mem_cons.mpr ⟨lw_p21, List.forall_mem_cons.mpr ⟨lw_p22, List.forall_mem_cons.mpr ⟨lw_p23, List.forall_mem_cons.mpr ⟨lw_p24, List.forall_mem_cons.mpr ⟨lw_p25, List.forall_mem_cons.mpr ⟨lw_p26, List.forall_mem_cons.mpr ⟨lw_p27, List.forall_mem_cons.mpr ⟨lw_p28, List.forall_mem_cons.mpr ⟨lw_p29, List.forall_mem_cons.mpr ⟨lw_p30, List.forall_mem_cons.mpr ⟨lw_p31, fun _ h => absurd h List.not_mem_nil⟩⟩⟩⟩⟩⟩⟩⟩⟩⟩⟩⟩⟩⟩⟩⟩
theorem lw_p32 : lw_okq (⟨"ShadowTaxModel", "both0", "()I"⟩, 43) := ⟨⟨by decide +kernel, by decide +kernel⟩, List.mem_of_getElem? (i := 693) (by decide +kernel), List.mem_of_getElem? (i := 914) (by decide +kernel), List.mem_of_getElem? (i := 915) (by decide +kernel)⟩
theorem lw_p33 : lw_okq (⟨"ShadowTaxModel", "not0", "()I"⟩, 43) := ⟨⟨by decide +kernel, by decide +kernel⟩, List.mem_of_getElem? (i := 693) (by decide +kernel), List.mem_of_getElem? (i := 918) (by decide +kernel), List.mem_of_getElem? (i := 919) (by decide +kernel)⟩
theorem lw_p34 : lw_okq (⟨"ShadowTaxModel", "opens", "()Z"⟩, 43) := ⟨⟨by decide +kernel, by decide +kernel⟩, List.mem_of_getElem? (i := 693) (by decide +kernel), List.mem_of_getElem? (i := 922) (by decide +kernel), List.mem_of_getElem? (i := 923) (by decide +kernel)⟩
theorem lw_p35 : lw_okq (⟨"ShadowTaxModel", "not1", "()I"⟩, 43) := ⟨⟨by decide +kernel, by decide +kernel⟩, List.mem_of_getElem? (i := 693) (by decide +kernel), List.mem_of_getElem? (i := 926) (by decide +kernel), List.mem_of_getElem? (i := 927) (by decide +kernel)⟩
theorem lw_p36 : lw_okq (⟨"ShadowTaxModel", "not2", "()I"⟩, 43) := ⟨⟨by decide +kernel, by decide +kernel⟩, List.mem_of_getElem? (i := 693) (by decide +kernel), List.mem_of_getElem? (i := 930) (by decide +kernel), List.mem_of_getElem? (i := 931) (by decide +kernel)⟩
theorem lw_p37 : lw_okq (⟨"ShadowTaxModel", "not3", "()I"⟩, 43) := ⟨⟨by decide +kernel, by decide +kernel⟩, List.mem_of_getElem? (i := 693) (by decide +kernel), List.mem_of_getElem? (i := 934) (by decide +kernel), List.mem_of_getElem? (i := 935) (by decide +kernel)⟩
theorem lw_p38 : lw_okq (⟨"ShadowTaxModel", "not4", "()I"⟩, 43) := ⟨⟨by decide +kernel, by decide +kernel⟩, List.mem_of_getElem? (i := 693) (by decide +kernel), List.mem_of_getElem? (i := 938) (by decide +kernel), List.mem_of_getElem? (i := 939) (by decide +kernel)⟩
theorem lw_p39 : lw_okq (⟨"ShadowTaxModel", "not5", "()I"⟩, 43) := ⟨⟨by decide +kernel, by decide +kernel⟩, List.mem_of_getElem? (i := 693) (by decide +kernel), List.mem_of_getElem? (i := 942) (by decide +kernel), List.mem_of_getElem? (i := 943) (by decide +kernel)⟩
theorem lw_p40 : lw_okq (⟨"ShadowTaxModel", "added5", "()I"⟩, 43) := ⟨⟨by decide +kernel, by decide +kernel⟩, List.mem_of_getElem? (i := 693) (by decide +kernel), List.mem_of_getElem? (i := 946) (by decide +kernel), List.mem_of_getElem? (i := 947) (by decide +kernel)⟩
theorem lw_p41 : lw_okq (⟨"ShadowTaxModel", "term5", "()I"⟩, 43) := ⟨⟨by decide +kernel, by decide +kernel⟩, List.mem_of_getElem? (i := 693) (by decide +kernel), List.mem_of_getElem? (i := 950) (by decide +kernel), List.mem_of_getElem? (i := 951) (by decide +kernel)⟩
theorem lw_p42 : lw_okq (⟨"ShadowTaxModel", "atom5", "()I"⟩, 43) := ⟨⟨by decide +kernel, by decide +kernel⟩, List.mem_of_getElem? (i := 693) (by decide +kernel), List.mem_of_getElem? (i := 954) (by decide +kernel), List.mem_of_getElem? (i := 955) (by decide +kernel)⟩
theorem lw_p43 : lw_okq (⟨"ShadowTaxModel", "isSign", "(I)Z"⟩, 43) := ⟨⟨by decide +kernel, by decide +kernel⟩, List.mem_of_getElem? (i := 693) (by decide +kernel), List.mem_of_getElem? (i := 958) (by decide +kernel), List.mem_of_getElem? (i := 959) (by decide +kernel)⟩
theorem lw_p44 : lw_okq (⟨"ShadowTaxModel", "name", "()I"⟩, 43) := ⟨⟨by decide +kernel, by decide +kernel⟩, List.mem_of_getElem? (i := 693) (by decide +kernel), List.mem_of_getElem? (i := 962) (by decide +kernel), List.mem_of_getElem? (i := 963) (by decide +kernel)⟩
theorem lw_p45 : lw_okq (⟨"ShadowTaxModel", "added4", "()I"⟩, 43) := ⟨⟨by decide +kernel, by decide +kernel⟩, List.mem_of_getElem? (i := 693) (by decide +kernel), List.mem_of_getElem? (i := 968) (by decide +kernel), List.mem_of_getElem? (i := 969) (by decide +kernel)⟩
theorem lw_p46 : lw_okq (⟨"ShadowTaxModel", "term4", "()I"⟩, 43) := ⟨⟨by decide +kernel, by decide +kernel⟩, List.mem_of_getElem? (i := 693) (by decide +kernel), List.mem_of_getElem? (i := 972) (by decide +kernel), List.mem_of_getElem? (i := 973) (by decide +kernel)⟩
theorem lw_p47 : lw_okq (⟨"ShadowTaxModel", "atom4", "()I"⟩, 43) := ⟨⟨by decide +kernel, by decide +kernel⟩, List.mem_of_getElem? (i := 693) (by decide +kernel), List.mem_of_getElem? (i := 976) (by decide +kernel), List.mem_of_getElem? (i := 977) (by decide +kernel)⟩
def lw_privs_3 : List (MethodName × Nat) := [(⟨"ShadowTaxModel", "both0", "()I"⟩, 43), (⟨"ShadowTaxModel", "not0", "()I"⟩, 43), (⟨"ShadowTaxModel", "opens", "()Z"⟩, 43), (⟨"ShadowTaxModel", "not1", "()I"⟩, 43), (⟨"ShadowTaxModel", "not2", "()I"⟩, 43), (⟨"ShadowTaxModel", "not3", "()I"⟩, 43), (⟨"ShadowTaxModel", "not4", "()I"⟩, 43), (⟨"ShadowTaxModel", "not5", "()I"⟩, 43), (⟨"ShadowTaxModel", "added5", "()I"⟩, 43), (⟨"ShadowTaxModel", "term5", "()I"⟩, 43), (⟨"ShadowTaxModel", "atom5", "()I"⟩, 43), (⟨"ShadowTaxModel", "isSign", "(I)Z"⟩, 43), (⟨"ShadowTaxModel", "name", "()I"⟩, 43), (⟨"ShadowTaxModel", "added4", "()I"⟩, 43), (⟨"ShadowTaxModel", "term4", "()I"⟩, 43), (⟨"ShadowTaxModel", "atom4", "()I"⟩, 43)]
theorem lw_r3 : ∀ q ∈ lw_privs_3, lw_okq q := List.forall_mem_cons.mpr ⟨lw_p32, List.forall_mem_cons.mpr ⟨lw_p33, List.forall_mem_cons.mpr ⟨lw_p34, List.forall_mem_cons.mpr ⟨lw_p35, List.forall_mem_cons.mpr ⟨lw_p36, List.forall_mem_cons.mpr ⟨lw_p37, List.forall_mem_cons.mpr ⟨lw_p38, List.forall_mem_cons.mpr ⟨lw_p39, List.forall_mem_cons.mpr ⟨lw_p40, List.forall_mem_cons.mpr ⟨lw_p41, List.forall_mem_cons.mpr ⟨lw_p42, List.forall_mem_cons.mpr ⟨lw_p43, List.forall_mem_cons.mpr ⟨lw_p44, List.forall_mem_cons.mpr ⟨lw_p45, List.forall_mem_cons.mpr ⟨lw_p46, List.forall_mem_cons.mpr ⟨lw_p47, fun _ h => absurd h List.not_mem_nil⟩⟩⟩⟩⟩⟩⟩⟩⟩⟩⟩⟩⟩⟩⟩⟩
theorem lw_p48 : lw_okq (⟨"ShadowTaxModel", "either5", "()I"⟩, 43) := ⟨⟨by decide +kernel, by decide +kernel⟩, List.mem_of_getElem? (i := 693) (by decide +kernel), List.mem_of_getElem? (i := 980) (by decide +kernel), List.mem_of_getElem? (i := 981) (by decide +kernel)⟩
theorem lw_p49 : lw_okq (⟨"ShadowTaxModel", "both5", "()I"⟩, 43) := ⟨⟨by decide +kernel, by decide +kernel⟩, List.mem_of_getElem? (i := 693) (by decide +kernel), List.mem_of_getElem? (i := 984) (by decide +kernel), List.mem_of_getElem? (i := 985) (by decide +kernel)⟩
theorem lw_p50 : lw_okq (⟨"ShadowTaxModel", "added3", "()I"⟩, 43) := ⟨⟨by decide +kernel, by decide +kernel⟩, List.mem_of_getElem? (i := 693) (by decide +kernel), List.mem_of_getElem? (i := 988) (by decide +kernel), List.mem_of_getElem? (i := 989) (by decide +kernel)⟩
theorem lw_p51 : lw_okq (⟨"ShadowTaxModel", "term3", "()I"⟩, 43) := ⟨⟨by decide +kernel, by decide +kernel⟩, List.mem_of_getElem? (i := 693) (by decide +kernel), List.mem_of_getElem? (i := 992) (by decide +kernel), List.mem_of_getElem? (i := 993) (by decide +kernel)⟩
theorem lw_p52 : lw_okq (⟨"ShadowTaxModel", "atom3", "()I"⟩, 43) := ⟨⟨by decide +kernel, by decide +kernel⟩, List.mem_of_getElem? (i := 693) (by decide +kernel), List.mem_of_getElem? (i := 996) (by decide +kernel), List.mem_of_getElem? (i := 997) (by decide +kernel)⟩
theorem lw_p53 : lw_okq (⟨"ShadowTaxModel", "either4", "()I"⟩, 43) := ⟨⟨by decide +kernel, by decide +kernel⟩, List.mem_of_getElem? (i := 693) (by decide +kernel), List.mem_of_getElem? (i := 1000) (by decide +kernel), List.mem_of_getElem? (i := 1001) (by decide +kernel)⟩
theorem lw_p54 : lw_okq (⟨"ShadowTaxModel", "both4", "()I"⟩, 43) := ⟨⟨by decide +kernel, by decide +kernel⟩, List.mem_of_getElem? (i := 693) (by decide +kernel), List.mem_of_getElem? (i := 1004) (by decide +kernel), List.mem_of_getElem? (i := 1005) (by decide +kernel)⟩
theorem lw_p55 : lw_okq (⟨"ShadowTaxModel", "added2", "()I"⟩, 43) := ⟨⟨by decide +kernel, by decide +kernel⟩, List.mem_of_getElem? (i := 693) (by decide +kernel), List.mem_of_getElem? (i := 1008) (by decide +kernel), List.mem_of_getElem? (i := 1009) (by decide +kernel)⟩
theorem lw_p56 : lw_okq (⟨"ShadowTaxModel", "term2", "()I"⟩, 43) := ⟨⟨by decide +kernel, by decide +kernel⟩, List.mem_of_getElem? (i := 693) (by decide +kernel), List.mem_of_getElem? (i := 1012) (by decide +kernel), List.mem_of_getElem? (i := 1013) (by decide +kernel)⟩
theorem lw_p57 : lw_okq (⟨"ShadowTaxModel", "atom2", "()I"⟩, 43) := ⟨⟨by decide +kernel, by decide +kernel⟩, List.mem_of_getElem? (i := 693) (by decide +kernel), List.mem_of_getElem? (i := 1016) (by decide +kernel), List.mem_of_getElem? (i := 1017) (by decide +kernel)⟩
theorem lw_p58 : lw_okq (⟨"ShadowTaxModel", "either3", "()I"⟩, 43) := ⟨⟨by decide +kernel, by decide +kernel⟩, List.mem_of_getElem? (i := 693) (by decide +kernel), List.mem_of_getElem? (i := 1020) (by decide +kernel), List.mem_of_getElem? (i := 1021) (by decide +kernel)⟩
theorem lw_p59 : lw_okq (⟨"ShadowTaxModel", "both3", "()I"⟩, 43) := ⟨⟨by decide +kernel, by decide +kernel⟩, List.mem_of_getElem? (i := 693) (by decide +kernel), List.mem_of_getElem? (i := 1024) (by decide +kernel), List.mem_of_getElem? (i := 1025) (by decide +kernel)⟩
theorem lw_p60 : lw_okq (⟨"ShadowTaxModel", "added1", "()I"⟩, 43) := ⟨⟨by decide +kernel, by decide +kernel⟩, List.mem_of_getElem? (i := 693) (by decide +kernel), List.mem_of_getElem? (i := 1028) (by decide +kernel), List.mem_of_getElem? (i := 1029) (by decide +kernel)⟩
theorem lw_p61 : lw_okq (⟨"ShadowTaxModel", "term1", "()I"⟩, 43) := ⟨⟨by decide +kernel, by decide +kernel⟩, List.mem_of_getElem? (i := 693) (by decide +kernel), List.mem_of_getElem? (i := 1032) (by decide +kernel), List.mem_of_getElem? (i := 1033) (by decide +kernel)⟩
theorem lw_p62 : lw_okq (⟨"ShadowTaxModel", "atom1", "()I"⟩, 43) := ⟨⟨by decide +kernel, by decide +kernel⟩, List.mem_of_getElem? (i := 693) (by decide +kernel), List.mem_of_getElem? (i := 1036) (by decide +kernel), List.mem_of_getElem? (i := 1037) (by decide +kernel)⟩
theorem lw_p63 : lw_okq (⟨"ShadowTaxModel", "either2", "()I"⟩, 43) := ⟨⟨by decide +kernel, by decide +kernel⟩, List.mem_of_getElem? (i := 693) (by decide +kernel), List.mem_of_getElem? (i := 1040) (by decide +kernel), List.mem_of_getElem? (i := 1041) (by decide +kernel)⟩
def lw_privs_4 : List (MethodName × Nat) := [(⟨"ShadowTaxModel", "either5", "()I"⟩, 43), (⟨"ShadowTaxModel", "both5", "()I"⟩, 43), (⟨"ShadowTaxModel", "added3", "()I"⟩, 43), (⟨"ShadowTaxModel", "term3", "()I"⟩, 43), (⟨"ShadowTaxModel", "atom3", "()I"⟩, 43), (⟨"ShadowTaxModel", "either4", "()I"⟩, 43), (⟨"ShadowTaxModel", "both4", "()I"⟩, 43), (⟨"ShadowTaxModel", "added2", "()I"⟩, 43), (⟨"ShadowTaxModel", "term2", "()I"⟩, 43), (⟨"ShadowTaxModel", "atom2", "()I"⟩, 43), (⟨"ShadowTaxModel", "either3", "()I"⟩, 43), (⟨"ShadowTaxModel", "both3", "()I"⟩, 43), (⟨"ShadowTaxModel", "added1", "()I"⟩, 43), (⟨"ShadowTaxModel", "term1", "()I"⟩, 43), (⟨"ShadowTaxModel", "atom1", "()I"⟩, 43), (⟨"ShadowTaxModel", "either2", "()I"⟩, 43)]
theorem lw_r4 : ∀ q ∈ lw_privs_4, lw_okq q := List.forall_mem_cons.mpr ⟨lw_p48, List.forall_mem_cons.mpr ⟨lw_p49, List.forall_mem_cons.mpr ⟨lw_p50, List.forall_mem_cons.mpr ⟨lw_p51, List.forall_mem_cons.mpr ⟨lw_p52, List.forall_mem_cons.mpr ⟨lw_p53, List.forall_mem_cons.mpr ⟨lw_p54, List.forall_mem_cons.mpr ⟨lw_p55, List.forall_mem_cons.mpr ⟨lw_p56, List.forall_mem_cons.mpr ⟨lw_p57, List.forall_mem_cons.mpr ⟨lw_p58, List.forall_mem_cons.mpr ⟨lw_p59, List.forall_mem_cons.mpr ⟨lw_p60, List.forall_mem_cons.mpr ⟨lw_p61, List.forall_mem_cons.mpr ⟨lw_p62, List.forall_mem_cons.mpr ⟨lw_p63, fun _ h => absurd h List.not_mem_nil⟩⟩⟩⟩⟩⟩⟩⟩⟩⟩⟩⟩⟩⟩⟩⟩
theorem lw_p64 : lw_okq (⟨"ShadowTaxModel", "both2", "()I"⟩, 43) := ⟨⟨by decide +kernel, by decide +kernel⟩, List.mem_of_getElem? (i := 693) (by decide +kernel), List.mem_of_getElem? (i := 1044) (by decide +kernel), List.mem_of_getElem? (i := 1045) (by decide +kernel)⟩
theorem lw_p65 : lw_okq (⟨"ShadowTaxModel", "added0", "()I"⟩, 43) := ⟨⟨by decide +kernel, by decide +kernel⟩, List.mem_of_getElem? (i := 693) (by decide +kernel), List.mem_of_getElem? (i := 1048) (by decide +kernel), List.mem_of_getElem? (i := 1049) (by decide +kernel)⟩
theorem lw_p66 : lw_okq (⟨"ShadowTaxModel", "term0", "()I"⟩, 43) := ⟨⟨by decide +kernel, by decide +kernel⟩, List.mem_of_getElem? (i := 693) (by decide +kernel), List.mem_of_getElem? (i := 1052) (by decide +kernel), List.mem_of_getElem? (i := 1053) (by decide +kernel)⟩
theorem lw_p67 : lw_okq (⟨"ShadowTaxModel", "atom0", "()I"⟩, 43) := ⟨⟨by decide +kernel, by decide +kernel⟩, List.mem_of_getElem? (i := 693) (by decide +kernel), List.mem_of_getElem? (i := 1056) (by decide +kernel), List.mem_of_getElem? (i := 1057) (by decide +kernel)⟩
theorem lw_p68 : lw_okq (⟨"ShadowTaxModel", "either1", "()I"⟩, 43) := ⟨⟨by decide +kernel, by decide +kernel⟩, List.mem_of_getElem? (i := 693) (by decide +kernel), List.mem_of_getElem? (i := 1060) (by decide +kernel), List.mem_of_getElem? (i := 1061) (by decide +kernel)⟩
theorem lw_p69 : lw_okq (⟨"ShadowTaxModel", "both1", "()I"⟩, 43) := ⟨⟨by decide +kernel, by decide +kernel⟩, List.mem_of_getElem? (i := 693) (by decide +kernel), List.mem_of_getElem? (i := 1064) (by decide +kernel), List.mem_of_getElem? (i := 1065) (by decide +kernel)⟩
theorem lw_p70 : lw_okq (⟨"ShadowTaxModel", "gathers", "(I)V"⟩, 43) := ⟨⟨by decide +kernel, by decide +kernel⟩, List.mem_of_getElem? (i := 693) (by decide +kernel), List.mem_of_getElem? (i := 1081) (by decide +kernel), List.mem_of_getElem? (i := 1082) (by decide +kernel)⟩
theorem lw_p71 : lw_okq (⟨"ShadowTaxModel", "isDull", "(I)Z"⟩, 43) := ⟨⟨by decide +kernel, by decide +kernel⟩, List.mem_of_getElem? (i := 693) (by decide +kernel), List.mem_of_getElem? (i := 1085) (by decide +kernel), List.mem_of_getElem? (i := 1086) (by decide +kernel)⟩
theorem lw_p72 : lw_okq (⟨"ShadowTaxModel", "stands", "(III)V"⟩, 43) := ⟨⟨by decide +kernel, by decide +kernel⟩, List.mem_of_getElem? (i := 693) (by decide +kernel), List.mem_of_getElem? (i := 1089) (by decide +kernel), List.mem_of_getElem? (i := 1090) (by decide +kernel)⟩
theorem lw_p73 : lw_okq (⟨"ShadowTaxModel", "longOf", "(II)I"⟩, 43) := ⟨⟨by decide +kernel, by decide +kernel⟩, List.mem_of_getElem? (i := 693) (by decide +kernel), List.mem_of_getElem? (i := 1093) (by decide +kernel), List.mem_of_getElem? (i := 1094) (by decide +kernel)⟩
theorem lw_p74 : lw_okq (⟨"ShadowTaxModel", "says", "(IIII)I"⟩, 43) := ⟨⟨by decide +kernel, by decide +kernel⟩, List.mem_of_getElem? (i := 693) (by decide +kernel), List.mem_of_getElem? (i := 1097) (by decide +kernel), List.mem_of_getElem? (i := 1098) (by decide +kernel)⟩
theorem lw_p75 : lw_okq (⟨"ShadowTaxModel", "owesOf", "(III)I"⟩, 43) := ⟨⟨by decide +kernel, by decide +kernel⟩, List.mem_of_getElem? (i := 693) (by decide +kernel), List.mem_of_getElem? (i := 1104) (by decide +kernel), List.mem_of_getElem? (i := 1105) (by decide +kernel)⟩
theorem lw_p76 : lw_okq (⟨"ShadowTaxModel", "takesDay", "()I"⟩, 43) := ⟨⟨by decide +kernel, by decide +kernel⟩, List.mem_of_getElem? (i := 693) (by decide +kernel), List.mem_of_getElem? (i := 1115) (by decide +kernel), List.mem_of_getElem? (i := 1116) (by decide +kernel)⟩
theorem lw_p77 : lw_okq (⟨"ShadowTaxModel", "takesAll", "(I)I"⟩, 43) := ⟨⟨by decide +kernel, by decide +kernel⟩, List.mem_of_getElem? (i := 693) (by decide +kernel), List.mem_of_getElem? (i := 1119) (by decide +kernel), List.mem_of_getElem? (i := 1120) (by decide +kernel)⟩
theorem lw_p78 : lw_okq (⟨"ShadowTaxModel", "apart", "(I)I"⟩, 43) := ⟨⟨by decide +kernel, by decide +kernel⟩, List.mem_of_getElem? (i := 693) (by decide +kernel), List.mem_of_getElem? (i := 1132) (by decide +kernel), List.mem_of_getElem? (i := 1133) (by decide +kernel)⟩
theorem lw_p79 : lw_okq (⟨"ShadowTaxModel", "seeks", "(IIZ)V"⟩, 43) := ⟨⟨by decide +kernel, by decide +kernel⟩, List.mem_of_getElem? (i := 693) (by decide +kernel), List.mem_of_getElem? (i := 1140) (by decide +kernel), List.mem_of_getElem? (i := 1141) (by decide +kernel)⟩
def lw_privs_5 : List (MethodName × Nat) := [(⟨"ShadowTaxModel", "both2", "()I"⟩, 43), (⟨"ShadowTaxModel", "added0", "()I"⟩, 43), (⟨"ShadowTaxModel", "term0", "()I"⟩, 43), (⟨"ShadowTaxModel", "atom0", "()I"⟩, 43), (⟨"ShadowTaxModel", "either1", "()I"⟩, 43), (⟨"ShadowTaxModel", "both1", "()I"⟩, 43), (⟨"ShadowTaxModel", "gathers", "(I)V"⟩, 43), (⟨"ShadowTaxModel", "isDull", "(I)Z"⟩, 43), (⟨"ShadowTaxModel", "stands", "(III)V"⟩, 43), (⟨"ShadowTaxModel", "longOf", "(II)I"⟩, 43), (⟨"ShadowTaxModel", "says", "(IIII)I"⟩, 43), (⟨"ShadowTaxModel", "owesOf", "(III)I"⟩, 43), (⟨"ShadowTaxModel", "takesDay", "()I"⟩, 43), (⟨"ShadowTaxModel", "takesAll", "(I)I"⟩, 43), (⟨"ShadowTaxModel", "apart", "(I)I"⟩, 43), (⟨"ShadowTaxModel", "seeks", "(IIZ)V"⟩, 43)]
theorem lw_r5 : ∀ q ∈ lw_privs_5, lw_okq q := List.forall_mem_cons.mpr ⟨lw_p64, List.forall_mem_cons.mpr ⟨lw_p65, List.forall_mem_cons.mpr ⟨lw_p66, List.forall_mem_cons.mpr ⟨lw_p67, List.forall_mem_cons.mpr ⟨lw_p68, List.forall_mem_cons.mpr ⟨lw_p69, List.forall_mem_cons.mpr ⟨lw_p70, List.forall_mem_cons.mpr ⟨lw_p71, List.forall_mem_cons.mpr ⟨lw_p72, List.forall_mem_cons.mpr ⟨lw_p73, List.forall_mem_cons.mpr ⟨lw_p74, List.forall_mem_cons.mpr ⟨lw_p75, List.forall_mem_cons.mpr ⟨lw_p76, List.forall_mem_cons.mpr ⟨lw_p77, List.forall_mem_cons.mpr ⟨lw_p78, List.forall_mem_cons.mpr ⟨lw_p79, fun _ h => absurd h List.not_mem_nil⟩⟩⟩⟩⟩⟩⟩⟩⟩⟩⟩⟩⟩⟩⟩⟩
theorem lw_p80 : lw_okq (⟨"ShadowTaxModel", "dueOf", "(II)I"⟩, 43) := ⟨⟨by decide +kernel, by decide +kernel⟩, List.mem_of_getElem? (i := 693) (by decide +kernel), List.mem_of_getElem? (i := 1144) (by decide +kernel), List.mem_of_getElem? (i := 1145) (by decide +kernel)⟩
theorem lw_p81 : lw_okq (⟨"ShadowTaxModel", "firstOther", "(II)I"⟩, 43) := ⟨⟨by decide +kernel, by decide +kernel⟩, List.mem_of_getElem? (i := 693) (by decide +kernel), List.mem_of_getElem? (i := 1167) (by decide +kernel), List.mem_of_getElem? (i := 1168) (by decide +kernel)⟩
theorem lw_p82 : lw_okq (⟨"ShadowTaxModel", "cloudsBy", "(II)I"⟩, 43) := ⟨⟨by decide +kernel, by decide +kernel⟩, List.mem_of_getElem? (i := 693) (by decide +kernel), List.mem_of_getElem? (i := 1171) (by decide +kernel), List.mem_of_getElem? (i := 1172) (by decide +kernel)⟩
theorem lw_p83 : lw_okq (⟨"ShadowTaxModel", "takesBy", "(I)I"⟩, 43) := ⟨⟨by decide +kernel, by decide +kernel⟩, List.mem_of_getElem? (i := 693) (by decide +kernel), List.mem_of_getElem? (i := 1188) (by decide +kernel), List.mem_of_getElem? (i := 1189) (by decide +kernel)⟩
def lw_privs_6 : List (MethodName × Nat) := [(⟨"ShadowTaxModel", "dueOf", "(II)I"⟩, 43), (⟨"ShadowTaxModel", "firstOther", "(II)I"⟩, 43), (⟨"ShadowTaxModel", "cloudsBy", "(II)I"⟩, 43), (⟨"ShadowTaxModel", "takesBy", "(I)I"⟩, 43)]
theorem lw_r6 : ∀ q ∈ lw_privs_6, lw_okq q := List.forall_mem_cons.mpr ⟨lw_p80, List.forall_mem_cons.mpr ⟨lw_p81, List.forall_mem_cons.mpr ⟨lw_p82, List.forall_mem_cons.mpr ⟨lw_p83, fun _ h => absurd h List.not_mem_nil⟩⟩⟩⟩
def lw_privs : List (MethodName × Nat) := lw_privs_1 ++ (lw_privs_2 ++ (lw_privs_3 ++ (lw_privs_4 ++ (lw_privs_5 ++ (lw_privs_6)))))
def lw_tbl : List Cond := k2_sels lw_privs ++ tables_1
theorem lw_privs_ok : ∀ q ∈ lw_privs, lw_okq q := by
  show ∀ q ∈ lw_privs_1 ++ (lw_privs_2 ++ (lw_privs_3 ++ (lw_privs_4 ++ (lw_privs_5 ++ (lw_privs_6))))), lw_okq q
  exact List.forall_mem_append.mpr ⟨lw_r1, List.forall_mem_append.mpr ⟨lw_r2, List.forall_mem_append.mpr ⟨lw_r3, List.forall_mem_append.mpr ⟨lw_r4, List.forall_mem_append.mpr ⟨lw_r5, lw_r6⟩⟩⟩⟩⟩
end
section
def RX0 : String := "ShadowTax$Image"
def TX0 : u_T := fun k => match k with
  | 0 => ("ShadowTax$Image", "any", "Z", false)
  | 1 => ("ShadowTax$Image", "many", "I", false)
  | 2 => ("ShadowTax$Image", "ruling", "I", false)
  | 3 => ("ShadowTax$Image", "day", "I", false)
  | 4 => ("ShadowTax$Image", "clouds", "I", false)
  | 5 => ("ShadowTax$Image", "numbers", "[I", true)
  | 6 => ("ShadowTax$Image", "heights", "[I", true)
  | _ => ("ShadowTax$Image", "cells", "[I", true)
def tyX0 : Nat → FieldType := fun k => match k with
  | 0 => .boolean
  | 1 => .int
  | 2 => .int
  | 3 => .int
  | 4 => .int
  | 5 => .array .int
  | 6 => .array .int
  | _ => .array .int
theorem nmX0 : ∀ a, a < 8 → ∀ b, b < 8 → a ≠ b → (TX0 a).2.1 ≠ (TX0 b).2.1 := by decide +kernel
theorem tyX0_ok : ∀ k, k < 8 → parseFieldDescriptor (TX0 k).2.2.1 = some (tyX0 k) := by decide +kernel
def RX1 : String := "ShadowTax$Reader"
def TX1 : u_T := fun k => match k with
  | 0 => ("ShadowTax$Reader", "size", "I", false)
  | 1 => ("ShadowTax$Reader", "tape", "[I", true)
  | 2 => ("ShadowTax$Reader", "next", "I", false)
  | 3 => ("ShadowTax$Reader", "begin", "I", false)
  | 4 => ("ShadowTax$Reader", "token", "I", false)
  | 5 => ("ShadowTax$Reader", "fault", "I", false)
  | _ => ("ShadowTax$Reader", "rule", "LShadowTax$Rule;", false)
def tyX1 : Nat → FieldType := fun k => match k with
  | 0 => .int
  | 1 => .array .int
  | 2 => .int
  | 3 => .int
  | 4 => .int
  | 5 => .int
  | _ => .object "ShadowTax$Rule"
theorem nmX1 : ∀ a, a < 7 → ∀ b, b < 7 → a ≠ b → (TX1 a).2.1 ≠ (TX1 b).2.1 := by decide +kernel
theorem tyX1_ok : ∀ k, k < 7 → parseFieldDescriptor (TX1 k).2.2.1 = some (tyX1 k) := by decide +kernel
def RX2 : String := "ShadowTax$Rule"
def TX2 : u_T := fun k => match k with
  | 0 => ("ShadowTax$Rule", "steps", "[I", true)
  | 1 => ("ShadowTax$Rule", "ends", "[I", true)
  | 2 => ("ShadowTax$Rule", "size", "I", false)
  | _ => ("ShadowTax$Rule", "parts", "I", false)
def tyX2 : Nat → FieldType := fun k => match k with
  | 0 => .array .int
  | 1 => .array .int
  | 2 => .int
  | _ => .int
theorem nmX2 : ∀ a, a < 4 → ∀ b, b < 4 → a ≠ b → (TX2 a).2.1 ≠ (TX2 b).2.1 := by decide +kernel
theorem tyX2_ok : ∀ k, k < 4 → parseFieldDescriptor (TX2 k).2.2.1 = some (tyX2 k) := by decide +kernel
def RX3 : String := "ShadowTax$Sheet"
def TX3 : u_T := fun k => match k with
  | 0 => ("ShadowTax$Sheet", "numbers", "[I", true)
  | 1 => ("ShadowTax$Sheet", "sort", "I", false)
  | _ => ("ShadowTax$Sheet", "size", "I", false)
def tyX3 : Nat → FieldType := fun k => match k with
  | 0 => .array .int
  | 1 => .int
  | _ => .int
theorem nmX3 : ∀ a, a < 3 → ∀ b, b < 3 → a ≠ b → (TX3 a).2.1 ≠ (TX3 b).2.1 := by decide +kernel
theorem tyX3_ok : ∀ k, k < 3 → parseFieldDescriptor (TX3 k).2.2.1 = some (tyX3 k) := by decide +kernel
def RX4 : String := "ShadowTax$Square"
def TX4 : u_T := fun k => match k with
  | 0 => ("ShadowTax$Square", "things", "[LShadowTax$Thing;", true)
  | 1 => ("ShadowTax$Square", "texts", "[LShadowTax$Rule;", true)
  | 2 => ("ShadowTax$Square", "many", "I", false)
  | 3 => ("ShadowTax$Square", "made", "I", false)
  | 4 => ("ShadowTax$Square", "ruling", "I", false)
  | 5 => ("ShadowTax$Square", "day", "I", false)
  | 6 => ("ShadowTax$Square", "clouds", "I", false)
  | 7 => ("ShadowTax$Square", "longs", "[I", true)
  | 8 => ("ShadowTax$Square", "dues", "[I", true)
  | 9 => ("ShadowTax$Square", "hidden", "I", false)
  | 10 => ("ShadowTax$Square", "shadowed", "I", false)
  | 11 => ("ShadowTax$Square", "away", "I", false)
  | 12 => ("ShadowTax$Square", "values", "[I", true)
  | _ => ("ShadowTax$Square", "stack", "[I", true)
def tyX4 : Nat → FieldType := fun k => match k with
  | 0 => .array (.object "ShadowTax$Thing")
  | 1 => .array (.object "ShadowTax$Rule")
  | 2 => .int
  | 3 => .int
  | 4 => .int
  | 5 => .int
  | 6 => .int
  | 7 => .array .int
  | 8 => .array .int
  | 9 => .int
  | 10 => .int
  | 11 => .int
  | 12 => .array .int
  | _ => .array .int
theorem nmX4 : ∀ a, a < 14 → ∀ b, b < 14 → a ≠ b → (TX4 a).2.1 ≠ (TX4 b).2.1 := by decide +kernel
theorem tyX4_ok : ∀ k, k < 14 → parseFieldDescriptor (TX4 k).2.2.1 = some (tyX4 k) := by decide +kernel
def RX5 : String := "ShadowTax$Thing"
def TX5 : u_T := fun k => match k with
  | 0 => ("ShadowTax$Thing", "kind", "I", false)
  | 1 => ("ShadowTax$Thing", "number", "I", false)
  | 2 => ("ShadowTax$Thing", "height", "I", false)
  | _ => ("ShadowTax$Thing", "on", "I", false)
def tyX5 : Nat → FieldType := fun k => match k with
  | 0 => .int
  | 1 => .int
  | 2 => .int
  | _ => .int
theorem nmX5 : ∀ a, a < 4 → ∀ b, b < 4 → a ≠ b → (TX5 a).2.1 ≠ (TX5 b).2.1 := by decide +kernel
theorem tyX5_ok : ∀ k, k < 4 → parseFieldDescriptor (TX5 k).2.2.1 = some (tyX5 k) := by decide +kernel
def RX6 : String := "ShadowTax"
def TX6 : u_T := fun k => match k with
  | 0 => ("ShadowTax", "square", "LShadowTax$Square;", true)
  | 1 => ("ShadowTax", "reader", "LShadowTax$Reader;", true)
  | 2 => ("ShadowTax", "kept", "LShadowTax$Image;", true)
  | 3 => ("ShadowTax", "sheets", "[LShadowTax$Sheet;", true)
  | _ => ("ShadowTax", "clear", "[I", true)
def tyX6 : Nat → FieldType := fun k => match k with
  | 0 => .object "ShadowTax$Square"
  | 1 => .object "ShadowTax$Reader"
  | 2 => .object "ShadowTax$Image"
  | 3 => .array (.object "ShadowTax$Sheet")
  | _ => .array .int
theorem nmX6 : ∀ a, a < 5 → ∀ b, b < 5 → a ≠ b → (TX6 a).2.1 ≠ (TX6 b).2.1 := by decide +kernel
theorem tyX6_ok : ∀ k, k < 5 → parseFieldDescriptor (TX6 k).2.2.1 = some (tyX6 k) := by decide +kernel
def RX7 : String := "ShadowTaxModel"
def TX7 : u_T := fun k => match k with
  | 0 => ("ShadowTaxModel", "thrown", "I", false)
  | 1 => ("ShadowTaxModel", "texts", "[I", true)
  | 2 => ("ShadowTaxModel", "textSize", "[I", true)
  | 3 => ("ShadowTaxModel", "textCount", "I", false)
  | 4 => ("ShadowTaxModel", "rule", "I", false)
  | 5 => ("ShadowTaxModel", "tape", "[I", true)
  | 6 => ("ShadowTaxModel", "taped", "I", false)
  | 7 => ("ShadowTaxModel", "dayNow", "I", false)
  | 8 => ("ShadowTaxModel", "clouds", "I", false)
  | 9 => ("ShadowTaxModel", "kinds", "[I", true)
  | 10 => ("ShadowTaxModel", "rows", "[I", true)
  | 11 => ("ShadowTaxModel", "many", "I", false)
  | 12 => ("ShadowTaxModel", "ofHour", "I", false)
  | 13 => ("ShadowTaxModel", "ofHeight", "I", false)
  | 14 => ("ShadowTaxModel", "ofNumber", "I", false)
  | 15 => ("ShadowTaxModel", "ofLong", "I", false)
  | 16 => ("ShadowTaxModel", "ofDay", "I", false)
  | 17 => ("ShadowTaxModel", "ofCell", "I", false)
  | 18 => ("ShadowTaxModel", "from", "I", false)
  | 19 => ("ShadowTaxModel", "size", "I", false)
  | 20 => ("ShadowTaxModel", "here", "I", false)
  | 21 => ("ShadowTaxModel", "token", "I", false)
  | 22 => ("ShadowTaxModel", "tokenAt", "I", false)
  | 23 => ("ShadowTaxModel", "tokenWorth", "J", false)
  | 24 => ("ShadowTaxModel", "open", "I", false)
  | 25 => ("ShadowTaxModel", "bad", "Z", false)
  | 26 => ("ShadowTaxModel", "fault", "I", false)
  | 27 => ("ShadowTaxModel", "gone", "I", false)
  | 28 => ("ShadowTaxModel", "longs", "[I", true)
  | 29 => ("ShadowTaxModel", "hidden", "[I", true)
  | 30 => ("ShadowTaxModel", "due", "[I", true)
  | 31 => ("ShadowTaxModel", "darkSet", "I", false)
  | 32 => ("ShadowTaxModel", "found", "I", false)
  | 33 => ("ShadowTaxModel", "value", "I", false)
  | 34 => ("ShadowTaxModel", "rowsKept", "[I", true)
  | 35 => ("ShadowTaxModel", "manyKept", "I", false)
  | 36 => ("ShadowTaxModel", "dayKept", "I", false)
  | 37 => ("ShadowTaxModel", "cloudsKept", "I", false)
  | 38 => ("ShadowTaxModel", "ruleKept", "I", false)
  | 39 => ("ShadowTaxModel", "isThere", "[Z", true)
  | 40 => ("ShadowTaxModel", "sorts", "[I", true)
  | 41 => ("ShadowTaxModel", "sheetSize", "[I", true)
  | _ => ("ShadowTaxModel", "items", "[I", true)
def tyX7 : Nat → FieldType := fun k => match k with
  | 0 => .int
  | 1 => .array .int
  | 2 => .array .int
  | 3 => .int
  | 4 => .int
  | 5 => .array .int
  | 6 => .int
  | 7 => .int
  | 8 => .int
  | 9 => .array .int
  | 10 => .array .int
  | 11 => .int
  | 12 => .int
  | 13 => .int
  | 14 => .int
  | 15 => .int
  | 16 => .int
  | 17 => .int
  | 18 => .int
  | 19 => .int
  | 20 => .int
  | 21 => .int
  | 22 => .int
  | 23 => .long
  | 24 => .int
  | 25 => .boolean
  | 26 => .int
  | 27 => .int
  | 28 => .array .int
  | 29 => .array .int
  | 30 => .array .int
  | 31 => .int
  | 32 => .int
  | 33 => .int
  | 34 => .array .int
  | 35 => .int
  | 36 => .int
  | 37 => .int
  | 38 => .int
  | 39 => .array .boolean
  | 40 => .array .int
  | 41 => .array .int
  | _ => .array .int
theorem nmX7 : ∀ a, a < 43 → ∀ b, b < 43 → a ≠ b → (TX7 a).2.1 ≠ (TX7 b).2.1 := by decide +kernel
theorem tyX7_ok : ∀ k, k < 43 → parseFieldDescriptor (TX7 k).2.2.1 = some (tyX7 k) := by decide +kernel
/-! the classes whose objects the worlds hold, by number: 0 Image, 1 Reader, 2 Rule, 3 Sheet, 4 Square, 5 Thing, 6 ShadowTax, 7 ShadowTaxModel -/
def clT : List vw_C := [(RX0, TX0, 8), (RX1, TX1, 7), (RX2, TX2, 4), (RX3, TX3, 3), (RX4, TX4, 14), (RX5, TX5, 4), (RX6, TX6, 5), (RX7, TX7, 43)]
def ctT : List (Nat → FieldType) := [tyX0, tyX1, tyX2, tyX3, tyX4, tyX5, tyX6, tyX7]
/-- the words that are good at every state behind the start -/
def tbG : List Cond := lw_tbl.filter goodWord
theorem tbG_mem {w : Cond} (i : Nat) (h : lw_tbl[i]? = some w) (hg : goodWord w = true) : w ∈ tbG := List.mem_filter.mpr ⟨List.mem_of_getElem? h, hg⟩
theorem tbG_good {w : Cond} (h : w ∈ tbG) : (w.onTables && w.keeps) = true ∨ ∃ ty, w = .arrayClass ty := good_of_word (List.mem_filter.mp h).2
theorem tbG_sub {ws : List Cond} (ps : List Nat) (hp : ws = ps.filterMap (fun i => lw_tbl[i]?)) (h : ws.all goodWord = true) : ∀ w ∈ ws, w ∈ tbG := by
  intro w hw
  have h1 := List.all_eq_true.mp h w hw
  rw [hp] at hw
  obtain ⟨i, -, hi⟩ := List.mem_filterMap.mp hw
  exact List.mem_filter.mpr ⟨List.mem_of_getElem? hi, h1⟩
theorem u_X0 : ∀ w ∈ u_ws RX0 TX0 8, w ∈ tbG := tbG_sub [282, 284, 286, 288, 290, 292, 294, 296] (by decide +kernel) (by decide +kernel)
theorem u_X1 : ∀ w ∈ u_ws RX1 TX1 7, w ∈ tbG := tbG_sub [252, 254, 256, 258, 260, 262, 264] (by decide +kernel) (by decide +kernel)
theorem u_X2 : ∀ w ∈ u_ws RX2 TX2 4, w ∈ tbG := tbG_sub [155, 157, 159, 161] (by decide +kernel) (by decide +kernel)
theorem u_X3 : ∀ w ∈ u_ws RX3 TX3 3, w ∈ tbG := tbG_sub [312, 314, 316] (by decide +kernel) (by decide +kernel)
theorem u_X4 : ∀ w ∈ u_ws RX4 TX4 14, w ∈ tbG := tbG_sub [209, 211, 213, 215, 217, 219, 221, 223, 225, 227, 229, 231, 233, 235] (by decide +kernel) (by decide +kernel)
theorem u_X5 : ∀ w ∈ u_ws RX5 TX5 4, w ∈ tbG := tbG_sub [136, 138, 140, 142] (by decide +kernel) (by decide +kernel)
theorem u_X6 : ∀ w ∈ u_ws RX6 TX6 5, w ∈ tbG := tbG_sub [324, 326, 328, 330, 332] (by decide +kernel) (by decide +kernel)
theorem u_X7 : ∀ w ∈ u_ws RX7 TX7 43, w ∈ tbG := tbG_sub [828, 830, 832, 834, 836, 838, 840, 842, 844, 846, 848, 850, 852, 854, 856, 858, 860, 862, 864, 866, 868, 870, 872, 874, 876, 878, 880, 882, 884, 886, 888, 890, 892, 894, 896, 898, 900, 902, 904, 906, 908, 910, 912] (by decide +kernel) (by decide +kernel)
end
section
/-! THE JUDGEMENT: a method's walk over a pure memory. Cells are numbered from 0 on (the law's own heap size is the base); a cell's shape is (kind, size): a class's number, 10 int[], 11 boolean[], 20 + n an array of class n. -/
abbrev zMD : Type := MethodName × ByteArray × Nat × Option FieldType
abbrev zSh : Type := Nat × Nat
abbrev zMem : Type := (Nat → Nat → Int32) × (Nat → Nat → Int64) × (Nat → Nat → Option Nat)
abbrev zXs : Type := Nat × (Nat → Int32)
abbrev zLs : Type := List (Option Value)
abbrev zRQ : Type := Option Value → List zSh → zMem → Prop
def z_up {α : Type} (f : Nat → Nat → α) (a k : Nat) (v : α) : Nat → Nat → α := fun b j => if b = a ∧ j = k then v else f b j
theorem z_up_s {α : Type} (f : Nat → Nat → α) (a k : Nat) (v : α) : z_up f a k v a k = v := if_pos ⟨rfl, rfl⟩
theorem z_up_n {α : Type} (f : Nat → Nat → α) (a k b j : Nat) (v : α) (h : ¬ (b = a ∧ j = k)) : z_up f a k v b j = f b j := if_neg h
theorem z_up_o {α : Type} (f : Nat → Nat → α) (a k b : Nat) (v : α) (h : b ≠ a) : z_up f a k v b = f b := funext fun _ => if_neg fun q => h q.1
def z_sI (μ : zMem) (a k : Nat) (v : Int32) : zMem := (z_up μ.1 a k v, μ.2.1, μ.2.2)
def z_sL (μ : zMem) (a k : Nat) (v : Int64) : zMem := (μ.1, z_up μ.2.1 a k v, μ.2.2)
def z_sR (μ : zMem) (a k : Nat) (v : Option Nat) : zMem := (μ.1, μ.2.1, z_up μ.2.2 a k v)
def z_tk : FieldType → Nat
  | .int => 0
  | .boolean => 0
  | .long => 1
  | _ => 2
def z_ft (ci k : Nat) : FieldType := (ctT.getD ci tyX0) k
def z_fk (ci k : Nat) : Nat := z_tk (z_ft ci k)
def z_nf (ci : Nat) : Nat := match clT[ci]? with
  | some q => q.2.2
  | none => 0
def z_rv : Option Nat → Value
  | none => .null
  | some a => .ref a
def z_fv (μ : zMem) (a ci k : Nat) : Value := match z_fk ci k with
  | 0 => .int (μ.1 a k)
  | 1 => .long (μ.2.1 a k)
  | _ => z_rv (μ.2.2 a k)
def z_ta (b : Nat) (oa : Nat → Nat) (k : Nat) : Nat := if k < 1000000 then b + k else oa (k - 1000000)
def z_tr (b : Nat) (oa : Nat → Nat) : Value → Value
  | .ref k => .ref (z_ta b oa k)
  | v => v
theorem z_tr_rv (b : Nat) (oa : Nat → Nat) (o : Option Nat) : z_tr b oa (z_rv o) = va_rf (o.map (z_ta b oa)) := by cases o <;> rfl
theorem z_tr_cat (b : Nat) (oa : Nat → Nat) (v : Value) : (z_tr b oa v).category = v.category := by cases v <;> rfl
def z_ent (b : Nat) (oa : Nat → Nat) (ca : Nat → ClassId) (sh : zSh) (μ : zMem) (a : Nat) : va_E :=
  if sh.1 < 10 then .inr (sh.1, (List.range (z_nf sh.1)).map (fun k => z_tr b oa (z_fv μ a sh.1 k)))
  else if sh.1 < 20 then .inl (ca sh.1, sh.2, .inl (μ.1 a))
  else .inl (ca sh.1, sh.2, .inr (.inr (.inr (.inr (fun i => (μ.2.2 a i).map (z_ta b oa))))))
def z_ws (b : Nat) (oa : Nat → Nat) (ca : Nat → ClassId) (L : List zSh) (μ : zMem) : va_W := (List.range L.length).map (fun a => (b + a, z_ent b oa ca (L.getD a (0, 0)) μ a))
theorem z_ws_len {b : Nat} {oa : Nat → Nat} {ca : Nat → ClassId} {L : List zSh} {μ : zMem} : (z_ws b oa ca L μ).length = L.length := by simp [z_ws]
theorem z_ws_get {b : Nat} {oa : Nat → Nat} {ca : Nat → ClassId} {L : List zSh} {μ : zMem} {a : Nat} {sh : zSh} (h : L[a]? = some sh) : (z_ws b oa ca L μ)[a]? = some (b + a, z_ent b oa ca sh μ a) := by
  have hl : a < L.length := (List.getElem?_eq_some_iff.mp h).1
  have h2 : L.getD a (0, 0) = sh := by rw [List.getD_eq_getElem?_getD, h]; rfl
  unfold z_ws
  rw [List.getElem?_map, List.getElem?_range hl]
  show some (b + a, z_ent b oa ca (L.getD a (0, 0)) μ a) = _
  rw [h2]
theorem z_ws_inv {b : Nat} {oa : Nat → Nat} {ca : Nat → ClassId} {L : List zSh} {μ : zMem} {a : Nat} {q : Nat × va_E} (h : (z_ws b oa ca L μ)[a]? = some q) : a < L.length ∧ q = (b + a, z_ent b oa ca (L.getD a (0, 0)) μ a) := by
  have hl : a < L.length := by
    have := (List.getElem?_eq_some_iff.mp h).1
    rwa [z_ws_len] at this
  refine ⟨hl, ?_⟩
  unfold z_ws at h
  rw [List.getElem?_map, List.getElem?_range hl] at h
  exact (Option.some.inj h).symm
theorem z_ws_D {b : Nat} {oa : Nat → Nat} {ca : Nat → ClassId} {L : List zSh} {μ : zMem} : va_D (fun q => b ≤ q) (z_ws b oa ca L μ) := by
  refine ⟨fun i j p q hp hq h => ?_, fun k q hq => ?_⟩
  · obtain ⟨-, rfl⟩ := z_ws_inv hp
    obtain ⟨-, rfl⟩ := z_ws_inv hq
    have h : b + i = b + j := h
    omega
  · obtain ⟨-, rfl⟩ := z_ws_inv hq
    exact Nat.le_add_right _ _
theorem z_ws_set {b : Nat} {oa : Nat → Nat} {ca : Nat → ClassId} {L : List zSh} {μ μ' : zMem} {a : Nat} {sh : zSh} {e : va_E} (h : L[a]? = some sh) (he : e = z_ent b oa ca sh μ' a) (ho : ∀ x, x ≠ a → ∀ s, z_ent b oa ca s μ' x = z_ent b oa ca s μ x) : (z_ws b oa ca L μ).set a (b + a, e) = z_ws b oa ca L μ' := by
  have hl : a < L.length := (List.getElem?_eq_some_iff.mp h).1
  have h2 : L.getD a (0, 0) = sh := by rw [List.getD_eq_getElem?_getD, h]; rfl
  refine List.ext_getElem? fun i => ?_
  rw [List.getElem?_set]
  by_cases hi : a = i
  · subst hi
    rw [if_pos rfl, if_pos (by rw [z_ws_len]; exact hl), z_ws_get h, he]
  · rw [if_neg hi]
    unfold z_ws
    rw [List.getElem?_map, List.getElem?_map]
    cases hr : (List.range L.length)[i]? with
    | none => rfl
    | some j =>
      have hj : i = j := by
        obtain ⟨h3, h4⟩ := List.getElem?_eq_some_iff.mp hr
        simpa using h4
      subst hj
      show some (b + i, _) = some (b + i, _)
      rw [ho i (Ne.symm hi)]
theorem z_ent_I {b : Nat} {oa : Nat → Nat} {ca : Nat → ClassId} {μ : zMem} {a k : Nat} {v : Int32} (x : Nat) (hx : x ≠ a) (s : zSh) : z_ent b oa ca s (z_sI μ a k v) x = z_ent b oa ca s μ x := by
  unfold z_ent z_fv z_sI
  dsimp only
  rw [z_up_o _ _ _ _ _ hx]
theorem z_ent_L {b : Nat} {oa : Nat → Nat} {ca : Nat → ClassId} {μ : zMem} {a k : Nat} {v : Int64} (x : Nat) (hx : x ≠ a) (s : zSh) : z_ent b oa ca s (z_sL μ a k v) x = z_ent b oa ca s μ x := by
  unfold z_ent z_fv z_sL
  dsimp only
  rw [z_up_o _ _ _ _ _ hx]
theorem z_ent_R {b : Nat} {oa : Nat → Nat} {ca : Nat → ClassId} {μ : zMem} {a k : Nat} {v : Option Nat} (x : Nat) (hx : x ≠ a) (s : zSh) : z_ent b oa ca s (z_sR μ a k v) x = z_ent b oa ca s μ x := by
  unfold z_ent z_fv z_sR
  dsimp only
  rw [z_up_o _ _ _ _ _ hx]
/-- a field's put -/
theorem z_fs_set {b : Nat} {oa : Nat → Nat} {μ μ' : zMem} {a ci k : Nat} {v : Value} {N : Nat} (hk : z_fv μ' a ci k = v) (ho : ∀ j, j ≠ k → z_fv μ' a ci j = z_fv μ a ci j) : ((List.range N).map (fun j => z_tr b oa (z_fv μ a ci j))).set k (z_tr b oa v) = (List.range N).map (fun j => z_tr b oa (z_fv μ' a ci j)) := by
  refine List.ext_getElem? fun i => ?_
  rw [List.getElem?_set]
  by_cases hi : k = i
  · subst hi
    by_cases hl : k < N
    · rw [if_pos rfl, if_pos (by simpa using hl), List.getElem?_map, List.getElem?_range hl]
      show some (z_tr b oa v) = some (z_tr b oa (z_fv μ' a ci k))
      rw [hk]
    · rw [if_pos rfl, if_neg (by simpa using hl), List.getElem?_eq_none (by simpa using hl)]
  · rw [if_neg hi, List.getElem?_map, List.getElem?_map]
    cases hr : (List.range N)[i]? with
    | none => rfl
    | some j =>
      have hj : i = j := by
        obtain ⟨h3, h4⟩ := List.getElem?_eq_some_iff.mp hr
        simpa using h4
      subst hj
      show some (z_tr b oa (z_fv μ a ci i)) = some (z_tr b oa (z_fv μ' a ci i))
      rw [ho i (Ne.symm hi)]
end
section
/-! the context of a walk -/
abbrev zCx : Type := (Program × Launch × Env × Room × State) × (MethodId × Array Value × List Frame × Method × Code) × (Nat × (Nat → Nat) × va_G × (Nat → ClassId)) × ((State → Prop) × Nat × Nat)
def z_tys (ca : Nat → ClassId) : List (ClassId × FieldType) := [(ca 10, .int), (ca 11, .boolean), (ca 22, .object RX2), (ca 23, .object RX3), (ca 25, .object RX5)]
/-- nest mates' links -/
def z_ml : List (String × Nat × MethodName × String) := [("ShadowTax$Square", 40, ⟨"ShadowTax$Thing", "<init>", "()V"⟩, "ShadowTax"), ("ShadowTax$Square", 41, ⟨"ShadowTax$Rule", "<init>", "()V"⟩, "ShadowTax"), ("ShadowTax", 18, ⟨"ShadowTax$Reader", "<init>", "()V"⟩, "ShadowTax"), ("ShadowTax", 25, ⟨"ShadowTax$Image", "<init>", "()V"⟩, "ShadowTax"), ("ShadowTax", 40, ⟨"ShadowTax$Sheet", "<init>", "()V"⟩, "ShadowTax"), ("ShadowTax$Square", 110, ⟨"ShadowTax", "bounded", "(II)I"⟩, "ShadowTax"), ("ShadowTax$Thing", 28, ⟨"ShadowTax", "bounded", "(II)I"⟩, "ShadowTax"), ("ShadowTax$Square", 131, ⟨"ShadowTax", "bits", "(II)I"⟩, "ShadowTax")]
def z_fl : List (String × Nat × String × String × String × String) := [("ShadowTax$Square", 146, "ShadowTax", "LOWEST", "[I", "ShadowTax"), ("ShadowTax$Square", 149, "ShadowTax", "HIGHEST", "[I", "ShadowTax"), ("ShadowTax$Thing", 37, "ShadowTax", "ABOVE", "[I", "ShadowTax")]
/-- the String constants: place in the pool, text, bytes -/
def z_sk : List (Nat × String) := [(88, "hour"), (94, "height"), (96, "number"), (98, "long"), (100, "day"), (102, "cell"), (104, "slants"), (106, "dues"), (108, "sets"), (110, "or"), (112, "and"), (114, "not")]
def z_sb : List (List Int32) := [[104, 111, 117, 114], [104, 101, 105, 103, 104, 116], [110, 117, 109, 98, 101, 114], [108, 111, 110, 103], [100, 97, 121], [99, 101, 108, 108], [115, 108, 97, 110, 116, 115], [100, 117, 101, 115], [115, 101, 116, 115], [111, 114], [97, 110, 100], [110, 111, 116]]
def z_sl : List Nat := [4, 6, 6, 4, 3, 4, 6, 4, 4, 2, 3, 3]
def zNx (oa : Nat → Nat) (U : State) : Prop := (∀ q ∈ z_ml, va_Nw (.methodLinkNest q.1 q.2.1 q.2.2.1 q.2.2.2) U) ∧ (∀ q ∈ z_fl, va_Nw (.fieldLinkNest q.1 q.2.1 q.2.2.1 q.2.2.2.1 q.2.2.2.2.1 q.2.2.2.2.2) U) ∧ (∀ C ∈ [RX2, RX3, RX5], va_AO C U) ∧ ∀ (i : Nat) (q : Nat × String), z_sk[i]? = some q → vk_R "ShadowTax$Reader" q.1 q.2 (oa (10 + i)) U
/-- the outer arrays: 0 LOWEST, 1 HIGHEST, 2 ABOVE, 3 the script -/
def z_on (X : zXs) (j : Nat) : Nat := if j = 3 then X.1 else 6
def z_oc : List (List Int32) := [[0, 0, 0, 1, 0, 0], [364, 8191, 9, 20, 29, 5], [-1, 0, 0, 1, 2, 0]]
def z_of (X : zXs) (j : Nat) : Nat → Int32 := fun i => if j = 3 then X.2 i else (z_oc.getD j []).getD i 0
def zOut (b : Nat) (oa : Nat → Nat) (X : zXs) (U : State) (H : Heap) : Prop :=
  (∀ j, j < 4 → oa j < b ∧ va_X (oa j) (z_on X j) (z_of X j) U H) ∧ va_Z "ShadowTax" "LOWEST" "[I" (.ref (oa 0)) (fun q => b ≤ q) U H ∧ va_Z "ShadowTax" "HIGHEST" "[I" (.ref (oa 1)) (fun q => b ≤ q) U H ∧ va_Z "ShadowTax" "ABOVE" "[I" (.ref (oa 2)) (fun q => b ≤ q) U H ∧
  va_Z "java/lang/String" "COMPACT_STRINGS" "Z" (.int 1) (fun q => b ≤ q) U H ∧ (va_Z "jdk/internal/util/Preconditions" "SIOOBE_FORMATTER" "Ljava/util/function/BiFunction;" .null (fun q => b ≤ q) U H ∨ va_Z "jdk/internal/util/Preconditions" "SIOOBE_FORMATTER" "Ljava/util/function/BiFunction;" (.ref (oa 99)) (fun q => b ≤ q) U H) ∧ vk_S 12 z_sl z_sb (fun i => oa (10 + i)) (fun i => oa (30 + i)) (fun q => b ≤ q) U H
def zWd (b : Nat) (oa : Nat → Nat) (D : va_G) (ca : Nat → ClassId) (X : zXs) (U : State) (H : Heap) : Prop := va_K D clT (z_tys ca) U ∧ zNx oa U ∧ zOut b oa X U H ∧ b ≤ H.size
theorem zNx.warm {oa : Nat → Nat} {s U : State} (hW : s.WarmedH U.vm) (h : zNx oa s) : zNx oa U :=
  ⟨fun q hq => va_Nw.warmM hW (h.1 q hq), fun q hq => va_Nw.warmF hW (h.2.1 q hq), fun C hC => va_AO.moved hW.alike (h.2.2.1 C hC), fun i q hq => vk_R.warm hW (h.2.2.2 i q hq)⟩
theorem zNx.same {oa : Nat → Nat} {s U : State} (hv : U.vm = s.vm) (h : zNx oa s) : zNx oa U :=
  ⟨fun q hq => va_Nw.same rfl hv.symm (h.1 q hq), fun q hq => va_Nw.same rfl hv.symm (h.2.1 q hq), fun C hC => va_AO.moved (by rw [hv]; exact Vm.Alike.refl _) (h.2.2.1 C hC), fun i q hq => vk_R.same hv (h.2.2.2 i q hq)⟩
theorem zOut.moved {b : Nat} {oa : Nat → Nat} {X : zXs} {u U : State} {H : Heap} (hvm : u.vm.Alike U.vm) (h : zOut b oa X u H) : zOut b oa X U H := by
  obtain ⟨h1, h2, h3, h4, h5, h6, h7⟩ := h
  exact ⟨fun j hj => ⟨(h1 j hj).1, va_X.moved hvm (h1 j hj).2⟩, h2.moved hvm, h3.moved hvm, h4.moved hvm, h5.moved hvm, h6.imp (va_Z.moved hvm) (va_Z.moved hvm), h7.moved hvm⟩
theorem zOut.kept {b : Nat} {oa : Nat → Nat} {X : zXs} {U : State} {H H1 : Heap} (hb : b ≤ H.size) (hq : ∀ a : Nat, a < H.size → ¬ b ≤ a → H1[a]? = H[a]?) (h : zOut b oa X U H) : zOut b oa X U H1 := by
  obtain ⟨h1, h2, h3, h4, h5, h6, h7⟩ := h
  exact ⟨fun j hj => ⟨(h1 j hj).1, va_X.kept (h1 j hj).2 (hq _ (by have := (h1 j hj).1; omega) (by have := (h1 j hj).1; omega))⟩, h2.kept hq, h3.kept hq, h4.kept hq, h5.kept hq, h6.imp (fun z => va_Z.kept z hq) (fun z => va_Z.kept z hq), h7.kept hq⟩
theorem zWd.warm {b : Nat} {oa : Nat → Nat} {D : va_G} {ca : Nat → ClassId} {X : zXs} {s U : State} {H : Heap} (hW : s.WarmedH U.vm) (h : zWd b oa D ca X s H) : zWd b oa D ca X U H :=
  ⟨va_K.moved hW.alike h.1, h.2.1.warm hW, h.2.2.1.moved hW.alike, h.2.2.2⟩
theorem zWd.same {b : Nat} {oa : Nat → Nat} {D : va_G} {ca : Nat → ClassId} {X : zXs} {s U : State} {H : Heap} (hv : U.vm = s.vm) (h : zWd b oa D ca X s H) : zWd b oa D ca X U H :=
  ⟨va_K.moved (by rw [hv]; exact Vm.Alike.refl _) h.1, h.2.1.same hv, h.2.2.1.moved (by rw [hv]; exact Vm.Alike.refl _), h.2.2.2⟩
theorem zWd.kept {b : Nat} {oa : Nat → Nat} {D : va_G} {ca : Nat → ClassId} {X : zXs} {U : State} {H H1 : Heap} (hz : H.size ≤ H1.size) (hq : ∀ a : Nat, a < H.size → ¬ b ≤ a → H1[a]? = H[a]?) (h : zWd b oa D ca X U H) : zWd b oa D ca X U H1 :=
  ⟨h.1, h.2.1, h.2.2.1.kept h.2.2.2 hq, Nat.le_trans h.2.2.2 hz⟩
def zRel (b : Nat) (oa : Nat → Nat) (D : va_G) (ca : Nat → ClassId) (L : List zSh) (μ : zMem) (H : Heap) : Prop := va_P D clT (z_ws b oa ca L μ) H ∧ H.size = b + L.length
def zLR (M : zMD) (b : Nat) (oa : Nat → Nat) (ls : zLs) (lsM : Array Slot) : Prop := ls.length = M.2.2.1 ∧ lsM.size = M.2.2.1 ∧ lv_wf lsM ∧ ∀ (i : Nat) (v : Value), ls[i]? = some (some v) → lsM[i]? = some (.val (z_tr b oa v))
def zRet (M : zMD) (pc : Nat) (v : Option Value) : Prop := (decode M.2.1 pc = .ok (.return_, 1) ∧ v = none ∧ M.2.2.2 = none) ∨ (∃ (x : Int32) (ty : FieldType), decode M.2.1 pc = .ok (.ireturn, 1) ∧ v = some (.int x) ∧ M.2.2.2 = some ty ∧ narrow ty (.int x) = .int x) ∨ ∃ x : Int64, decode M.2.1 pc = .ok (.lreturn, 1) ∧ v = some (.long x) ∧ M.2.2.2 = some .long
def zGood (X : zXs) (d : Nat) (C : zCx) (M : zMD) (Q : zRQ) : Prop := match C with
  | ((p, l, e, R, s), (m, args, below, meth, c), (b, oa, D, ca), (Z, mc, ms)) =>
    (p.tables.exec = Jvm.exec ∧ c.code = M.2.1 ∧ meth.sig.returnType = M.2.2.2 ∧ c.maxLocals = M.2.2.1 ∧ s.vm.findClass M.1.cls = some m.cls ∧ (∀ w ∈ tbG, w.before args s = true) ∧ meth.locks = false ∧ (M.1.name = "<init>" → meth.name = "<init>")) ∧
    zWd b oa D ca X s s.heap ∧ (d ≤ R.frames ∧ 64 * d ≤ R.locals ∧ mc ≤ R.cells ∧ ms ≤ R.slots) ∧
    ∀ (v : Option Value) (L : List zSh) (μ : zMem) (H : Heap) (locs : List Loc) (cells slots pc : Nat) (lsM : Array Slot), Q v L μ → zRel b oa D ca L μ H → va_S (fun q => b ≤ q) s.heap H locs → cells ≤ mc → slots ≤ ms → zRet M pc v → W p l e R s m args below meth c H locs cells slots Z (F0 m pc lsM ((v.map (z_tr b oa)).toList))
def zT (X : zXs) (d : Nat) (M : zMD) (Q : zRQ) (k n pc : Nat) (ls : zLs) (st : List Value) (L : List zSh) (μ : zMem) : Prop :=
  ∀ (C : zCx), zGood X d C M Q → match C with
  | ((p, l, e, R, s), (m, args, below, meth, c), (b, oa, D, ca), (Z, mc, ms)) => ∀ (H : Heap) (locs : List Loc) (cells slots : Nat) (lsM : Array Slot), cells + k ≤ mc → slots + n ≤ ms → zRel b oa D ca L μ H → va_S (fun q => b ≤ q) s.heap H locs → zLR M b oa ls lsM → W p l e R s m args below meth c H locs cells slots Z (F0 m pc lsM (st.map (z_tr b oa)))
def z_w (M : zMD) : List Cond := .code M.1 M.2.1 M.2.2.1 M.2.2.2 :: tbG
def zQc (b : Nat) (oa : Nat → Nat) (D : va_G) (ca : Nat → ClassId) (Q : zRQ) : Array Value → State → Outcome → State → Prop := fun _ st o t => ∃ (v : Option Value) (L : List zSh) (μ : zMem), o = .returned (v.map (z_tr b oa)) ∧ Q v L μ ∧ zRel b oa D ca L μ t.heap ∧ va_F (fun q => b ≤ q) st t
/-- a contract: with d frames left, k cells and n slots to make -/
def zC (X : zXs) (d k n : Nat) (M : zMD) (as : List Value) (L : List zSh) (μ : zMem) (Q : zRQ) : Prop :=
  ∀ (l : Launch) (b : Nat) (oa : Nat → Nat) (D : va_G) (ca : Nat → ClassId), Met l M.1 (z_w M) ({ frames := d, cells := k, slots := n, locals := 64 * d }) (va_Pc (as.map (z_tr b oa)) (fun U => zWd b oa D ca X U U.heap ∧ zRel b oa D ca L μ U.heap)) (zQc b oa D ca Q) k n (fun q => b ≤ q)
abbrev zPK : Type := Nat → Nat → Nat → zLs → List Value → List zSh → zMem → Prop
/-- an instruction: what must hold ahead of it so that what it goes on to holds -/
abbrev zOp : Type := zXs → Nat → zPK → zRQ → zPK
def zOk (M : zMD) (pc : Nat) (o : zOp) : Prop := ∀ (X : zXs) (d : Nat) (Q : zRQ) (k n : Nat) (ls : zLs) (st : List Value) (L : List zSh) (μ : zMem), o X d (zT X d M Q) Q k n pc ls st L μ → zT X d M Q k n pc ls st L μ
theorem zT.step {M : zMD} {ct : Nat → zOp} (ok : ∀ pc, zOk M pc (ct pc)) {X : zXs} {d : Nat} {Q : zRQ} {k n pc : Nat} {ls : zLs} {st : List Value} {L : List zSh} {μ : zMem} (h : ct pc X d (zT X d M Q) Q k n pc ls st L μ) : zT X d M Q k n pc ls st L μ := ok pc X d Q k n ls st L μ h
def o_bad : zOp := fun _ _ _ _ _ _ _ _ _ _ _ => False
theorem ok_bad {M : zMD} {pc : Nat} : zOk M pc o_bad := fun _ _ _ _ _ _ _ _ _ h => h.elim
theorem ok_b {M : zMD} {pc : Nat} {c : Bool} {A B : zOp} (h1 : zOk M pc A) (h2 : zOk M pc B) : zOk M pc (bif c then A else B) := by cases c <;> assumption
theorem ok_l {M : zMD} {pc q : Nat} {A : zOp} (h1 : zOk M q A) : zOk M pc (bif Nat.beq pc q then A else o_bad) := by
  cases h : Nat.beq pc q with
  | false => exact ok_bad
  | true => rw [Nat.eq_of_beq_eq_true h]; exact h1
end
section
/-! INSTRUCTIONS over the pure memory, each with its row -/
theorem z_go {M : zMD} {X : zXs} {d : Nat} {Q : zRQ} {k n pc pc' : Nat} {ls : zLs} {st st' : List Value} {L : List zSh} {μ : zMem}
    (hw : ∀ (p : Program) (l : Launch) (e : Env) (R : Room) (s : State) (m : MethodId) (args : Array Value) (below : List Frame) (meth : Method) (c : Code) (b : Nat) (oa : Nat → Nat) (D : va_G) (ca : Nat → ClassId) (Z : State → Prop) (mc ms : Nat), zGood X d ((p, l, e, R, s), (m, args, below, meth, c), (b, oa, D, ca), (Z, mc, ms)) M Q → ∀ (H : Heap) (locs : List Loc) (cells slots : Nat) (lsM : Array Slot), cells ≤ mc → slots ≤ ms → zRel b oa D ca L μ H → va_S (fun q => b ≤ q) s.heap H locs → zLR M b oa ls lsM →
      W p l e R s m args below meth c H locs cells slots Z (F0 m pc' lsM (st'.map (z_tr b oa))) → W p l e R s m args below meth c H locs cells slots Z (F0 m pc lsM (st.map (z_tr b oa))))
    (h : zT X d M Q k n pc' ls st' L μ) : zT X d M Q k n pc ls st L μ := by
  intro ⟨⟨p, l, e, R, s⟩, ⟨m, args, below, meth, c⟩, ⟨b, oa, D, ca⟩, ⟨Z, mc, ms⟩⟩ G H locs cells slots lsM hk hn hR hS hL
  exact hw p l e R s m args below meth c b oa D ca Z mc ms G H locs cells slots lsM (Nat.le_trans (Nat.le_add_right _ _) hk) (Nat.le_trans (Nat.le_add_right _ _) hn) hR hS hL (h ((p, l, e, R, s), (m, args, below, meth, c), (b, oa, D, ca), (Z, mc, ms)) G H locs cells slots lsM hk hn hR hS hL)
/-- two roads -/
theorem z_go2 {M : zMD} {X : zXs} {d : Nat} {Q : zRQ} {k n pc pc1 pc2 : Nat} {ls : zLs} {st st' : List Value} {L : List zSh} {μ : zMem} {c1 : Prop}
    (hw : ∀ (p : Program) (l : Launch) (e : Env) (R : Room) (s : State) (m : MethodId) (args : Array Value) (below : List Frame) (meth : Method) (c : Code) (b : Nat) (oa : Nat → Nat) (D : va_G) (ca : Nat → ClassId) (Z : State → Prop) (mc ms : Nat), zGood X d ((p, l, e, R, s), (m, args, below, meth, c), (b, oa, D, ca), (Z, mc, ms)) M Q → ∀ (H : Heap) (locs : List Loc) (cells slots : Nat) (lsM : Array Slot),
      (c1 → W p l e R s m args below meth c H locs cells slots Z (F0 m pc1 lsM (st'.map (z_tr b oa)))) → (¬ c1 → W p l e R s m args below meth c H locs cells slots Z (F0 m pc2 lsM (st'.map (z_tr b oa)))) → W p l e R s m args below meth c H locs cells slots Z (F0 m pc lsM (st.map (z_tr b oa))))
    (h1 : c1 → zT X d M Q k n pc1 ls st' L μ) (h2 : ¬ c1 → zT X d M Q k n pc2 ls st' L μ) : zT X d M Q k n pc ls st L μ := by
  intro ⟨⟨p, l, e, R, s⟩, ⟨m, args, below, meth, c⟩, ⟨b, oa, D, ca⟩, ⟨Z, mc, ms⟩⟩ G H locs cells slots lsM hk hn hR hS hL
  exact hw p l e R s m args below meth c b oa D ca Z mc ms G H locs cells slots lsM (fun q => h1 q ((p, l, e, R, s), (m, args, below, meth, c), (b, oa, D, ca), (Z, mc, ms)) G H locs cells slots lsM hk hn hR hS hL) (fun q => h2 q ((p, l, e, R, s), (m, args, below, meth, c), (b, oa, D, ca), (Z, mc, ms)) G H locs cells slots lsM hk hn hR hS hL)
theorem z_cd {c : Bool} {A : Prop} (h : bif c then A else False) : c = true ∧ A := by cases c with
  | true => exact ⟨rfl, h⟩
  | false => exact h.elim
def o_con (v : Value) (w : Nat) : zOp := fun _ _ K _ k n pc ls st L μ => K k n (pc + w) ls (v :: st) L μ
theorem ok_iconst {M : zMD} {pc : Nat} {i : Int} {v : Int32} (hd : decode M.2.1 pc = .ok (.iconst i, 1)) (hv : Int32.ofInt i = v) : zOk M pc (o_con (.int v) 1) := fun _ _ _ _ _ _ _ _ _ h => z_go (fun _ _ _ _ _ _ _ _ _ _ _ _ _ _ _ _ _ G _ _ _ _ _ _ _ _ _ _ w => lv_iconst G.1.1 G.1.2.1 hd hv w) h
theorem ok_bipush {M : zMD} {pc : Nat} {i : Int} {v : Int32} (hd : decode M.2.1 pc = .ok (.bipush i, 2)) (hv : (Int8.ofInt i).toInt32 = v) : zOk M pc (o_con (.int v) 2) := fun _ _ _ _ _ _ _ _ _ h => z_go (fun _ _ _ _ _ _ _ _ _ _ _ _ _ _ _ _ _ G _ _ _ _ _ _ _ _ _ _ w => lv_bipush G.1.1 G.1.2.1 hd hv w) h
theorem ok_sipush {M : zMD} {pc : Nat} {i : Int} {v : Int32} (hd : decode M.2.1 pc = .ok (.sipush i, 3)) (hv : (Int16.ofInt i).toInt32 = v) : zOk M pc (o_con (.int v) 3) := fun _ _ _ _ _ _ _ _ _ h => z_go (fun _ _ _ _ _ _ _ _ _ _ _ _ _ _ _ _ _ G _ _ _ _ _ _ _ _ _ _ w => lv_sipush G.1.1 G.1.2.1 hd hv w) h
theorem ok_lconst {M : zMD} {pc : Nat} {i : Fin 2} {v : Int64} (hd : decode M.2.1 pc = .ok (.lconst i, 1)) (hv : Int64.ofNat (i : Nat) = v) : zOk M pc (o_con (.long v) 1) := fun _ _ _ _ _ _ _ _ _ h => z_go (fun _ _ _ _ _ _ _ _ _ _ _ _ _ _ _ _ _ G _ _ _ _ _ _ _ _ _ _ w => lv_lconst G.1.1 G.1.2.1 hd hv w) h
theorem ok_ldc {M : zMD} {pc idx : Nat} {v : Int32} (hd : decode M.2.1 pc = .ok (.ldc idx, 2)) (hc : Jvm.Cond.constant M.1.cls idx v ∈ tbG) : zOk M pc (o_con (.int v) 2) := fun _ _ _ _ _ _ _ _ _ h => z_go (fun _ _ _ _ _ _ _ _ _ _ _ _ _ _ _ _ _ G _ _ _ _ _ _ _ _ _ _ w => lv_ldc G.1.1 G.1.2.1 G.1.2.2.2.2.1 (G.1.2.2.2.2.2.1 _ hc) hd w) h
theorem ok_ldc2 {M : zMD} {pc idx : Nat} {v : Int64} (hd : decode M.2.1 pc = .ok (.ldc2_w idx, 3)) (hc : Jvm.Cond.constantLong M.1.cls idx v ∈ tbG) : zOk M pc (o_con (.long v) 3) := fun _ _ _ _ _ _ _ _ _ h => z_go (fun _ _ _ _ _ _ _ _ _ _ _ _ _ _ _ _ _ G _ _ _ _ _ _ _ _ _ _ w => lv_ldc2 G.1.1 G.1.2.1 G.1.2.2.2.2.1 (G.1.2.2.2.2.2.1 _ hc) hd w) h
def o_goto (t : Nat) : zOp := fun _ _ K _ k n _ ls st L μ => K k n t ls st L μ
theorem ok_goto {M : zMD} {pc t : Nat} {off : Int} (hd : decode M.2.1 pc = .ok (.goto off, 3)) (ht : (pc : Int) + off = (t : Int)) : zOk M pc (o_goto t) := fun _ _ _ _ _ _ _ _ _ h => z_go (fun _ _ _ _ _ _ _ _ _ _ _ _ _ _ _ _ _ G _ _ _ _ _ _ _ _ _ _ w => lv_goto G.1.1 G.1.2.1 hd ht w) h
/-- a local is read -/
def o_ldi (i w : Nat) : zOp := fun _ _ K _ k n pc ls st L μ => match ls[i]? with
  | some (some (.int v)) => K k n (pc + w) ls (.int v :: st) L μ
  | _ => False
def o_ldl (i w : Nat) : zOp := fun _ _ K _ k n pc ls st L μ => match ls[i]? with
  | some (some (.long v)) => K k n (pc + w) ls (.long v :: st) L μ
  | _ => False
def o_lda (i w : Nat) : zOp := fun _ _ K _ k n pc ls st L μ => match ls[i]? with
  | some (some (.ref v)) => K k n (pc + w) ls (.ref v :: st) L μ
  | _ => False
theorem ok_iload_n {M : zMD} {pc : Nat} {i : Fin 4} (hd : decode M.2.1 pc = .ok (.iload_n i, 1)) : zOk M pc (o_ldi i 1) := fun _ _ _ _ _ ls _ _ _ h => by
  unfold o_ldi at h
  split at h
  · rename_i hv
    exact z_go (fun _ _ _ _ _ _ _ _ _ _ _ _ _ _ _ _ _ G _ _ _ _ _ _ _ _ _ hL w => lv_iload_n G.1.1 G.1.2.1 hd rfl (hL.2.2.2 _ _ hv) w) h
  · exact h.elim
theorem ok_iload {M : zMD} {pc i : Nat} (hd : decode M.2.1 pc = .ok (.iload i, 2)) : zOk M pc (o_ldi i 2) := fun _ _ _ _ _ ls _ _ _ h => by
  unfold o_ldi at h
  split at h
  · rename_i hv
    exact z_go (fun _ _ _ _ _ _ _ _ _ _ _ _ _ _ _ _ _ G _ _ _ _ _ _ _ _ _ hL w => lv_iload G.1.1 G.1.2.1 hd (hL.2.2.2 _ _ hv) w) h
  · exact h.elim
theorem ok_lload_n {M : zMD} {pc : Nat} {i : Fin 4} (hd : decode M.2.1 pc = .ok (.lload_n i, 1)) : zOk M pc (o_ldl i 1) := fun _ _ _ _ _ ls _ _ _ h => by
  unfold o_ldl at h
  split at h
  · rename_i hv
    exact z_go (fun _ _ _ _ _ _ _ _ _ _ _ _ _ _ _ _ _ G _ _ _ _ _ _ _ _ _ hL w => lv_lload_n G.1.1 G.1.2.1 hd rfl (hL.2.2.2 _ _ hv) w) h
  · exact h.elim
theorem ok_lload {M : zMD} {pc i : Nat} (hd : decode M.2.1 pc = .ok (.lload i, 2)) : zOk M pc (o_ldl i 2) := fun _ _ _ _ _ ls _ _ _ h => by
  unfold o_ldl at h
  split at h
  · rename_i hv
    exact z_go (fun _ _ _ _ _ _ _ _ _ _ _ _ _ _ _ _ _ G _ _ _ _ _ _ _ _ _ hL w => lv_lload G.1.1 G.1.2.1 hd (hL.2.2.2 _ _ hv) w) h
  · exact h.elim
theorem ok_aload_n {M : zMD} {pc : Nat} {i : Fin 4} (hd : decode M.2.1 pc = .ok (.aload_n i, 1)) : zOk M pc (o_lda i 1) := fun _ _ _ _ _ ls _ _ _ h => by
  unfold o_lda at h
  split at h
  · rename_i hv
    exact z_go (fun _ _ _ _ _ _ _ _ _ _ _ _ _ _ _ _ _ G _ _ _ _ _ _ _ _ _ hL w => lv_aload_n G.1.1 G.1.2.1 hd rfl (hL.2.2.2 _ _ hv) w) h
  · exact h.elim
theorem ok_aload {M : zMD} {pc i : Nat} (hd : decode M.2.1 pc = .ok (.aload i, 2)) : zOk M pc (o_lda i 2) := fun _ _ _ _ _ ls _ _ _ h => by
  unfold o_lda at h
  split at h
  · rename_i hv
    exact z_go (fun _ _ _ _ _ _ _ _ _ _ _ _ _ _ _ _ _ G _ _ _ _ _ _ _ _ _ hL w => lv_aload G.1.1 G.1.2.1 hd (hL.2.2.2 _ _ hv) w) h
  · exact h.elim
/-- two ints, one int -/
def o_ii (f : Int32 → Int32 → Int32) : zOp := fun _ _ K _ k n pc ls st L μ => match st with
  | .int y :: .int x :: st' => K k n (pc + 1) ls (.int (f x y) :: st') L μ
  | _ => False
def o_ll (f : Int64 → Int64 → Int64) : zOp := fun _ _ K _ k n pc ls st L μ => match st with
  | .long y :: .long x :: st' => K k n (pc + 1) ls (.long (f x y) :: st') L μ
  | _ => False
def o_i1 (f : Int32 → Int32) : zOp := fun _ _ K _ k n pc ls st L μ => match st with
  | .int x :: st' => K k n (pc + 1) ls (.int (f x) :: st') L μ
  | _ => False
theorem ok_iadd {M : zMD} {pc : Nat} (hd : decode M.2.1 pc = .ok (.iadd, 1)) : zOk M pc (o_ii fun x y => x + y) := fun _ _ _ _ _ _ st _ _ h => match st, h with
  | .int _ :: .int _ :: _, h => z_go (fun _ _ _ _ _ _ _ _ _ _ _ _ _ _ _ _ _ G _ _ _ _ _ _ _ _ _ _ w => lv_iadd G.1.1 G.1.2.1 hd w) h
theorem ok_isub {M : zMD} {pc : Nat} (hd : decode M.2.1 pc = .ok (.isub, 1)) : zOk M pc (o_ii fun x y => x - y) := fun _ _ _ _ _ _ st _ _ h => match st, h with
  | .int _ :: .int _ :: _, h => z_go (fun _ _ _ _ _ _ _ _ _ _ _ _ _ _ _ _ _ G _ _ _ _ _ _ _ _ _ _ w => lv_isub G.1.1 G.1.2.1 hd w) h
theorem ok_imul {M : zMD} {pc : Nat} (hd : decode M.2.1 pc = .ok (.imul, 1)) : zOk M pc (o_ii fun x y => x * y) := fun _ _ _ _ _ _ st _ _ h => match st, h with
  | .int _ :: .int _ :: _, h => z_go (fun _ _ _ _ _ _ _ _ _ _ _ _ _ _ _ _ _ G _ _ _ _ _ _ _ _ _ _ w => lv_imul G.1.1 G.1.2.1 hd w) h
theorem ok_iand {M : zMD} {pc : Nat} (hd : decode M.2.1 pc = .ok (.iand, 1)) : zOk M pc (o_ii fun x y => x &&& y) := fun _ _ _ _ _ _ st _ _ h => match st, h with
  | .int _ :: .int _ :: _, h => z_go (fun _ _ _ _ _ _ _ _ _ _ _ _ _ _ _ _ _ G _ _ _ _ _ _ _ _ _ _ w => lv_iand G.1.1 G.1.2.1 hd w) h
theorem ok_ior {M : zMD} {pc : Nat} (hd : decode M.2.1 pc = .ok (.ior, 1)) : zOk M pc (o_ii fun x y => x ||| y) := fun _ _ _ _ _ _ st _ _ h => match st, h with
  | .int _ :: .int _ :: _, h => z_go (fun _ _ _ _ _ _ _ _ _ _ _ _ _ _ _ _ _ G _ _ _ _ _ _ _ _ _ _ w => lv_ior G.1.1 G.1.2.1 hd w) h
theorem ok_ixor {M : zMD} {pc : Nat} (hd : decode M.2.1 pc = .ok (.ixor, 1)) : zOk M pc (o_ii fun x y => x ^^^ y) := fun _ _ _ _ _ _ st _ _ h => match st, h with
  | .int _ :: .int _ :: _, h => z_go (fun _ _ _ _ _ _ _ _ _ _ _ _ _ _ _ _ _ G _ _ _ _ _ _ _ _ _ _ w => lv_ixor G.1.1 G.1.2.1 hd w) h
theorem ok_ishl {M : zMD} {pc : Nat} (hd : decode M.2.1 pc = .ok (.ishl, 1)) : zOk M pc (o_ii fun x y => x <<< (y &&& 31)) := fun _ _ _ _ _ _ st _ _ h => match st, h with
  | .int _ :: .int _ :: _, h => z_go (fun _ _ _ _ _ _ _ _ _ _ _ _ _ _ _ _ _ G _ _ _ _ _ _ _ _ _ _ w => lv_ishl G.1.1 G.1.2.1 hd w) h
theorem ok_ishr {M : zMD} {pc : Nat} (hd : decode M.2.1 pc = .ok (.ishr, 1)) : zOk M pc (o_ii fun x y => x >>> (y &&& 31)) := fun _ _ _ _ _ _ st _ _ h => match st, h with
  | .int _ :: .int _ :: _, h => z_go (fun _ _ _ _ _ _ _ _ _ _ _ _ _ _ _ _ _ G _ _ _ _ _ _ _ _ _ _ w => lv_ishr G.1.1 G.1.2.1 hd w) h
theorem ok_iushr {M : zMD} {pc : Nat} (hd : decode M.2.1 pc = .ok (.iushr, 1)) : zOk M pc (o_ii fun x y => (x.toUInt32 >>> (y.toUInt32 &&& Int32.toUInt32 31)).toInt32) := fun _ _ _ _ _ _ st _ _ h => match st, h with
  | .int _ :: .int _ :: _, h => z_go (fun _ _ _ _ _ _ _ _ _ _ _ _ _ _ _ _ _ G _ _ _ _ _ _ _ _ _ _ w => lv_iushr G.1.1 G.1.2.1 hd rfl w) h
theorem ok_ladd {M : zMD} {pc : Nat} (hd : decode M.2.1 pc = .ok (.ladd, 1)) : zOk M pc (o_ll fun x y => x + y) := fun _ _ _ _ _ _ st _ _ h => match st, h with
  | .long _ :: .long _ :: _, h => z_go (fun _ _ _ _ _ _ _ _ _ _ _ _ _ _ _ _ _ G _ _ _ _ _ _ _ _ _ _ w => lv_ladd G.1.1 G.1.2.1 hd w) h
theorem ok_lsub {M : zMD} {pc : Nat} (hd : decode M.2.1 pc = .ok (.lsub, 1)) : zOk M pc (o_ll fun x y => x - y) := fun _ _ _ _ _ _ st _ _ h => match st, h with
  | .long _ :: .long _ :: _, h => z_go (fun _ _ _ _ _ _ _ _ _ _ _ _ _ _ _ _ _ G _ _ _ _ _ _ _ _ _ _ w => lv_lsub G.1.1 G.1.2.1 hd w) h
theorem ok_lmul {M : zMD} {pc : Nat} (hd : decode M.2.1 pc = .ok (.lmul, 1)) : zOk M pc (o_ll fun x y => x * y) := fun _ _ _ _ _ _ st _ _ h => match st, h with
  | .long _ :: .long _ :: _, h => z_go (fun _ _ _ _ _ _ _ _ _ _ _ _ _ _ _ _ _ G _ _ _ _ _ _ _ _ _ _ w => lv_lmul G.1.1 G.1.2.1 hd w) h
theorem ok_ineg {M : zMD} {pc : Nat} (hd : decode M.2.1 pc = .ok (.ineg, 1)) : zOk M pc (o_i1 fun x => -x) := fun _ _ _ _ _ _ st _ _ h => match st, h with
  | .int _ :: _, h => z_go (fun _ _ _ _ _ _ _ _ _ _ _ _ _ _ _ _ _ G _ _ _ _ _ _ _ _ _ _ w => lv_ineg G.1.1 G.1.2.1 hd w) h
theorem ok_i2b {M : zMD} {pc : Nat} (hd : decode M.2.1 pc = .ok (.i2b, 1)) : zOk M pc (o_i1 fun x => x.toInt8.toInt32) := fun _ _ _ _ _ _ st _ _ h => match st, h with
  | .int _ :: _, h => z_go (fun _ _ _ _ _ _ _ _ _ _ _ _ _ _ _ _ _ G _ _ _ _ _ _ _ _ _ _ w => lv_i2b G.1.1 G.1.2.1 hd rfl w) h
theorem ok_i2s {M : zMD} {pc : Nat} (hd : decode M.2.1 pc = .ok (.i2s, 1)) : zOk M pc (o_i1 fun x => x.toInt16.toInt32) := fun _ _ _ _ _ _ st _ _ h => match st, h with
  | .int _ :: _, h => z_go (fun _ _ _ _ _ _ _ _ _ _ _ _ _ _ _ _ _ G _ _ _ _ _ _ _ _ _ _ w => lv_i2s G.1.1 G.1.2.1 hd rfl w) h
theorem ok_i2c {M : zMD} {pc : Nat} (hd : decode M.2.1 pc = .ok (.i2c, 1)) : zOk M pc (o_i1 fun x => (x.toUInt32 % 65536).toInt32) := fun _ _ _ _ _ _ st _ _ h => match st, h with
  | .int _ :: _, h => z_go (fun _ _ _ _ _ _ _ _ _ _ _ _ _ _ _ _ _ G _ _ _ _ _ _ _ _ _ _ w => lv_i2c G.1.1 G.1.2.1 hd rfl w) h
def o_iid (f : Int32 → Int32 → Int32) : zOp := fun _ _ K _ k n pc ls st L μ => match st with
  | .int y :: .int x :: st' => ¬ y = 0 ∧ K k n (pc + 1) ls (.int (f x y) :: st') L μ
  | _ => False
def o_lld (f : Int64 → Int64 → Int64) : zOp := fun _ _ K _ k n pc ls st L μ => match st with
  | .long y :: .long x :: st' => ¬ y = 0 ∧ K k n (pc + 1) ls (.long (f x y) :: st') L μ
  | _ => False
theorem ok_idiv {M : zMD} {pc : Nat} (hd : decode M.2.1 pc = .ok (.idiv, 1)) : zOk M pc (o_iid fun x y => x / y) := fun _ _ _ _ _ _ st _ _ h => match st, h with
  | .int _ :: .int _ :: _, h => z_go (fun _ _ _ _ _ _ _ _ _ _ _ _ _ _ _ _ _ G _ _ _ _ _ _ _ _ _ _ w => lv_idiv G.1.1 G.1.2.1 hd h.1 w) h.2
theorem ok_irem {M : zMD} {pc : Nat} (hd : decode M.2.1 pc = .ok (.irem, 1)) : zOk M pc (o_iid fun x y => x - x / y * y) := fun _ _ _ _ _ _ st _ _ h => match st, h with
  | .int _ :: .int _ :: _, h => z_go (fun _ _ _ _ _ _ _ _ _ _ _ _ _ _ _ _ _ G _ _ _ _ _ _ _ _ _ _ w => lv_irem G.1.1 G.1.2.1 hd h.1 w) h.2
theorem ok_ldiv {M : zMD} {pc : Nat} (hd : decode M.2.1 pc = .ok (.ldiv, 1)) : zOk M pc (o_lld fun x y => x / y) := fun _ _ _ _ _ _ st _ _ h => match st, h with
  | .long _ :: .long _ :: _, h => z_go (fun _ _ _ _ _ _ _ _ _ _ _ _ _ _ _ _ _ G _ _ _ _ _ _ _ _ _ _ w => lv_ldiv G.1.1 G.1.2.1 hd h.1 w) h.2
theorem ok_lrem {M : zMD} {pc : Nat} (hd : decode M.2.1 pc = .ok (.lrem, 1)) : zOk M pc (o_lld fun x y => x - x / y * y) := fun _ _ _ _ _ _ st _ _ h => match st, h with
  | .long _ :: .long _ :: _, h => z_go (fun _ _ _ _ _ _ _ _ _ _ _ _ _ _ _ _ _ G _ _ _ _ _ _ _ _ _ _ w => lv_lrem G.1.1 G.1.2.1 hd h.1 w) h.2
def o_i2l : zOp := fun _ _ K _ k n pc ls st L μ => match st with
  | .int x :: st' => K k n (pc + 1) ls (.long x.toInt64 :: st') L μ
  | _ => False
theorem ok_i2l {M : zMD} {pc : Nat} (hd : decode M.2.1 pc = .ok (.i2l, 1)) : zOk M pc o_i2l := fun _ _ _ _ _ _ st _ _ h => match st, h with
  | .int _ :: _, h => z_go (fun _ _ _ _ _ _ _ _ _ _ _ _ _ _ _ _ _ G _ _ _ _ _ _ _ _ _ _ w => lv_i2l G.1.1 G.1.2.1 hd rfl w) h
def o_l2i : zOp := fun _ _ K _ k n pc ls st L μ => match st with
  | .long x :: st' => K k n (pc + 1) ls (.int x.toInt32 :: st') L μ
  | _ => False
theorem ok_l2i {M : zMD} {pc : Nat} (hd : decode M.2.1 pc = .ok (.l2i, 1)) : zOk M pc o_l2i := fun _ _ _ _ _ _ st _ _ h => match st, h with
  | .long _ :: _, h => z_go (fun _ _ _ _ _ _ _ _ _ _ _ _ _ _ _ _ _ G _ _ _ _ _ _ _ _ _ _ w => lv_l2i G.1.1 G.1.2.1 hd rfl w) h
def o_lcmp : zOp := fun _ _ K _ k n pc ls st L μ => match st with
  | .long y :: .long x :: st' => K k n (pc + 1) ls (.int (lg_cmp x y) :: st') L μ
  | _ => False
theorem ok_lcmp {M : zMD} {pc : Nat} (hd : decode M.2.1 pc = .ok (.lcmp, 1)) : zOk M pc o_lcmp := fun _ _ _ _ _ _ st _ _ h => match st, h with
  | .long _ :: .long _ :: _, h => z_go (fun _ _ _ _ _ _ _ _ _ _ _ _ _ _ _ _ _ G _ _ _ _ _ _ _ _ _ _ w => W.lcmp G.1.1 G.1.2.1 hd w) h
/-- dup of a value of one word; pop -/
def z_c1 : Value → Bool
  | .long _ => false
  | .double _ => false
  | _ => true
theorem z_c1_cat {v : Value} (h : z_c1 v = true) : v.category = 1 := by cases v <;> first | rfl | cases h
def o_dup : zOp := fun _ _ K _ k n pc ls st L μ => match st with
  | v :: st' => bif z_c1 v then K k n (pc + 1) ls (v :: v :: st') L μ else False
  | _ => False
theorem ok_dup {M : zMD} {pc : Nat} (hd : decode M.2.1 pc = .ok (.dup, 1)) : zOk M pc o_dup := fun _ _ _ _ _ _ st _ _ h => match st, h with
  | v :: _, h => z_go (fun _ _ _ _ _ _ _ _ _ _ b oa _ _ _ _ _ G _ _ _ _ _ _ _ _ _ _ w => lv_dup G.1.1 G.1.2.1 hd ((z_tr_cat b oa v).trans (z_c1_cat (z_cd h).1)) w) (z_cd h).2
def o_pop : zOp := fun _ _ K _ k n pc ls st L μ => match st with
  | v :: st' => bif z_c1 v then K k n (pc + 1) ls st' L μ else False
  | _ => False
theorem ok_pop {M : zMD} {pc : Nat} (hd : decode M.2.1 pc = .ok (.pop, 1)) : zOk M pc o_pop := fun _ _ _ _ _ _ st _ _ h => match st, h with
  | v :: _, h => z_go (fun _ _ _ _ _ _ _ _ _ _ b oa _ _ _ _ _ G _ _ _ _ _ _ _ _ _ _ w => lv_pop G.1.1 G.1.2.1 hd ((z_tr_cat b oa v).trans (z_c1_cat (z_cd h).1)) w) (z_cd h).2
/-- branches: the condition, the target -/
def o_if (c : Int32 → Prop) (t : Nat) : zOp := fun _ _ K _ k n pc ls st L μ => match st with
  | .int x :: st' => (c x → K k n t ls st' L μ) ∧ (¬ c x → K k n (pc + 3) ls st' L μ)
  | _ => False
def o_ic (c : Int32 → Int32 → Prop) (t : Nat) : zOp := fun _ _ K _ k n pc ls st L μ => match st with
  | .int y :: .int x :: st' => (c x y → K k n t ls st' L μ) ∧ (¬ c x y → K k n (pc + 3) ls st' L μ)
  | _ => False
theorem ok_if_eq {M : zMD} {pc t : Nat} {off : Int} (hd : decode M.2.1 pc = .ok (.ifCond .eq off, 3)) (ht : (pc : Int) + off = (t : Int)) : zOk M pc (o_if (fun x => x = 0) t) := fun _ _ _ _ _ _ st _ _ h => match st, h with
  | .int _ :: _, h => z_go2 (fun _ _ _ _ _ _ _ _ _ _ _ _ _ _ _ _ _ G _ _ _ _ _ a c => lv_if_eq G.1.1 G.1.2.1 hd ht a c) h.1 h.2
theorem ok_ic_eq {M : zMD} {pc t : Nat} {off : Int} (hd : decode M.2.1 pc = .ok (.if_icmp .eq off, 3)) (ht : (pc : Int) + off = (t : Int)) : zOk M pc (o_ic (fun x y => x = y) t) := fun _ _ _ _ _ _ st _ _ h => match st, h with
  | .int _ :: .int _ :: _, h => z_go2 (fun _ _ _ _ _ _ _ _ _ _ _ _ _ _ _ _ _ G _ _ _ _ _ a c => lv_icmp_eq G.1.1 G.1.2.1 hd ht a c) h.1 h.2
theorem ok_if_lt {M : zMD} {pc t : Nat} {off : Int} (hd : decode M.2.1 pc = .ok (.ifCond .lt off, 3)) (ht : (pc : Int) + off = (t : Int)) : zOk M pc (o_if (fun x => x < 0) t) := fun _ _ _ _ _ _ st _ _ h => match st, h with
  | .int _ :: _, h => z_go2 (fun _ _ _ _ _ _ _ _ _ _ _ _ _ _ _ _ _ G _ _ _ _ _ a c => lv_if_lt G.1.1 G.1.2.1 hd ht a c) h.1 h.2
theorem ok_ic_lt {M : zMD} {pc t : Nat} {off : Int} (hd : decode M.2.1 pc = .ok (.if_icmp .lt off, 3)) (ht : (pc : Int) + off = (t : Int)) : zOk M pc (o_ic (fun x y => x < y) t) := fun _ _ _ _ _ _ st _ _ h => match st, h with
  | .int _ :: .int _ :: _, h => z_go2 (fun _ _ _ _ _ _ _ _ _ _ _ _ _ _ _ _ _ G _ _ _ _ _ a c => lv_icmp_lt G.1.1 G.1.2.1 hd ht a c) h.1 h.2
theorem ok_if_ge {M : zMD} {pc t : Nat} {off : Int} (hd : decode M.2.1 pc = .ok (.ifCond .ge off, 3)) (ht : (pc : Int) + off = (t : Int)) : zOk M pc (o_if (fun x => 0 ≤ x) t) := fun _ _ _ _ _ _ st _ _ h => match st, h with
  | .int _ :: _, h => z_go2 (fun _ _ _ _ _ _ _ _ _ _ _ _ _ _ _ _ _ G _ _ _ _ _ a c => lv_if_ge G.1.1 G.1.2.1 hd ht a c) h.1 h.2
theorem ok_ic_ge {M : zMD} {pc t : Nat} {off : Int} (hd : decode M.2.1 pc = .ok (.if_icmp .ge off, 3)) (ht : (pc : Int) + off = (t : Int)) : zOk M pc (o_ic (fun x y => y ≤ x) t) := fun _ _ _ _ _ _ st _ _ h => match st, h with
  | .int _ :: .int _ :: _, h => z_go2 (fun _ _ _ _ _ _ _ _ _ _ _ _ _ _ _ _ _ G _ _ _ _ _ a c => lv_icmp_ge G.1.1 G.1.2.1 hd ht a c) h.1 h.2
theorem ok_if_gt {M : zMD} {pc t : Nat} {off : Int} (hd : decode M.2.1 pc = .ok (.ifCond .gt off, 3)) (ht : (pc : Int) + off = (t : Int)) : zOk M pc (o_if (fun x => 0 < x) t) := fun _ _ _ _ _ _ st _ _ h => match st, h with
  | .int _ :: _, h => z_go2 (fun _ _ _ _ _ _ _ _ _ _ _ _ _ _ _ _ _ G _ _ _ _ _ a c => lv_if_gt G.1.1 G.1.2.1 hd ht a c) h.1 h.2
theorem ok_ic_gt {M : zMD} {pc t : Nat} {off : Int} (hd : decode M.2.1 pc = .ok (.if_icmp .gt off, 3)) (ht : (pc : Int) + off = (t : Int)) : zOk M pc (o_ic (fun x y => y < x) t) := fun _ _ _ _ _ _ st _ _ h => match st, h with
  | .int _ :: .int _ :: _, h => z_go2 (fun _ _ _ _ _ _ _ _ _ _ _ _ _ _ _ _ _ G _ _ _ _ _ a c => lv_icmp_gt G.1.1 G.1.2.1 hd ht a c) h.1 h.2
theorem ok_if_le {M : zMD} {pc t : Nat} {off : Int} (hd : decode M.2.1 pc = .ok (.ifCond .le off, 3)) (ht : (pc : Int) + off = (t : Int)) : zOk M pc (o_if (fun x => x ≤ 0) t) := fun _ _ _ _ _ _ st _ _ h => match st, h with
  | .int _ :: _, h => z_go2 (fun _ _ _ _ _ _ _ _ _ _ _ _ _ _ _ _ _ G _ _ _ _ _ a c => lv_if_le G.1.1 G.1.2.1 hd ht a c) h.1 h.2
theorem ok_ic_le {M : zMD} {pc t : Nat} {off : Int} (hd : decode M.2.1 pc = .ok (.if_icmp .le off, 3)) (ht : (pc : Int) + off = (t : Int)) : zOk M pc (o_ic (fun x y => x ≤ y) t) := fun _ _ _ _ _ _ st _ _ h => match st, h with
  | .int _ :: .int _ :: _, h => z_go2 (fun _ _ _ _ _ _ _ _ _ _ _ _ _ _ _ _ _ G _ _ _ _ _ a c => lv_icmp_le G.1.1 G.1.2.1 hd ht a c) h.1 h.2
def o_ifn (t : Nat) : zOp := fun _ _ K _ k n pc ls st L μ => match st with
  | .int x :: st' => (x = 0 → K k n (pc + 3) ls st' L μ) ∧ (¬ x = 0 → K k n t ls st' L μ)
  | _ => False
def o_icn (t : Nat) : zOp := fun _ _ K _ k n pc ls st L μ => match st with
  | .int y :: .int x :: st' => (x = y → K k n (pc + 3) ls st' L μ) ∧ (¬ x = y → K k n t ls st' L μ)
  | _ => False
theorem ok_if_ne {M : zMD} {pc t : Nat} {off : Int} (hd : decode M.2.1 pc = .ok (.ifCond .ne off, 3)) (ht : (pc : Int) + off = (t : Int)) : zOk M pc (o_ifn t) := fun _ _ _ _ _ _ st _ _ h => match st, h with
  | .int _ :: _, h => z_go2 (fun _ _ _ _ _ _ _ _ _ _ _ _ _ _ _ _ _ G _ _ _ _ _ a c => lv_if_ne G.1.1 G.1.2.1 hd ht c a) h.1 h.2
theorem ok_ic_ne {M : zMD} {pc t : Nat} {off : Int} (hd : decode M.2.1 pc = .ok (.if_icmp .ne off, 3)) (ht : (pc : Int) + off = (t : Int)) : zOk M pc (o_icn t) := fun _ _ _ _ _ _ st _ _ h => match st, h with
  | .int _ :: .int _ :: _, h => z_go2 (fun _ _ _ _ _ _ _ _ _ _ _ _ _ _ _ _ _ G _ _ _ _ _ a c => lv_icmp_ne G.1.1 G.1.2.1 hd ht c a) h.1 h.2
end
section
/-! stores into locals, switches, returns, fields, arrays -/
def z_k1 (ls : zLs) (j : Nat) : zLs := match ls[j]? with
  | some (some (.long _)) => ls.set j none
  | _ => ls
def z_kl (ls : zLs) : Nat → zLs
  | 0 => ls
  | j + 1 => z_k1 ls j
def z_st1 (ls : zLs) (i : Nat) (v : Value) : zLs := (z_kl ls i).set i (some v)
def z_st2 (ls : zLs) (i : Nat) (v : Value) : zLs := ((z_kl ls i).set (i + 1) none).set i (some v)
def z_al (b : Nat) (oa : Nat → Nat) (ls : zLs) : List (Nat × Value) := (List.range ls.length).filterMap (fun i => match ls[i]? with
  | some (some v) => some (i, z_tr b oa v)
  | _ => none)
theorem z_al_mem {b : Nat} {oa : Nat → Nat} {ls : zLs} {i : Nat} {v : Value} (h : ls[i]? = some (some v)) : (i, z_tr b oa v) ∈ z_al b oa ls := by
  refine List.mem_filterMap.mpr ⟨i, List.mem_range.mpr (List.getElem?_eq_some_iff.mp h).1, ?_⟩
  rw [h]
theorem z_al_inv {b : Nat} {oa : Nat → Nat} {ls : zLs} {q : Nat × Value} (h : q ∈ z_al b oa ls) : ∃ v, ls[q.1]? = some (some v) ∧ q.2 = z_tr b oa v := by
  obtain ⟨i, -, hi⟩ := List.mem_filterMap.mp h
  split at hi
  · rename_i v hv
    cases hi
    exact ⟨v, hv, rfl⟩
  · cases hi
theorem zLR.has {M : zMD} {b : Nat} {oa : Nat → Nat} {ls : zLs} {lsM : Array Slot} (h : zLR M b oa ls lsM) : lv_has lsM M.2.2.1 (z_al b oa ls) := by
  refine ⟨h.2.1, h.2.2.1, fun q hq => ?_⟩
  obtain ⟨v, h1, h2⟩ := z_al_inv hq
  rw [h2]
  exact h.2.2.2 _ _ h1
theorem z_kl_len (ls : zLs) (i : Nat) : (z_kl ls i).length = ls.length := by
  cases i with
  | zero => rfl
  | succ j =>
    show (z_k1 ls j).length = _
    unfold z_k1
    split
    · exact List.length_set
    · rfl
theorem z_kl_get {ls : zLs} {i j : Nat} {v : Value} (h : (z_kl ls i)[j]? = some (some v)) : ls[j]? = some (some v) ∧ ¬ (j + 1 = i ∧ v.category = 2 ∧ ∃ x, v = .long x) := by
  cases i with
  | zero => exact ⟨h, fun q => by omega⟩
  | succ i =>
    have h : (z_k1 ls i)[j]? = some (some v) := h
    unfold z_k1 at h
    split at h
    · rename_i x hx
      rw [List.getElem?_set] at h
      by_cases hj : i = j
      · subst hj
        rw [if_pos rfl] at h
        split at h <;> cases h
      · rw [if_neg hj] at h
        exact ⟨h, fun q => hj (by omega)⟩
    · rename_i hx
      refine ⟨h, fun ⟨q1, q2, x, q3⟩ => ?_⟩
      have : i = j := by omega
      subst this
      subst q3
      exact hx x h
theorem z_cat2 {b : Nat} {oa : Nat → Nat} {v : Value} : (z_tr b oa v).category = 2 → ¬ (∃ x, v = .double x) → ∃ x, v = .long x := by
  cases v with
  | long x => exact fun _ _ => ⟨x, rfl⟩
  | double x => exact fun _ h => absurd ⟨x, rfl⟩ h
  | _ => exact fun h => by cases h
/-- no local is a double -/
def z_nd (ls : zLs) : Prop := ∀ (i : Nat) (x : UInt64), ls[i]? ≠ some (some (.double x))
def z_ndb (ls : zLs) : Bool := ls.all (fun o => match o with
  | some (.double _) => false
  | _ => true)
theorem z_nd_of {ls : zLs} (h : z_ndb ls = true) : z_nd ls := by
  intro i x hx
  have := List.all_eq_true.mp h _ (List.mem_of_getElem? hx)
  cases this
theorem zLR.st1 {M : zMD} {b : Nat} {oa : Nat → Nat} {ls : zLs} {lsM lsN : Array Slot} {i : Nat} {v : Value} (h : zLR M b oa ls lsM) (hd : z_ndb ls = true) (hn : lv_has lsN M.2.2.1 ((i, z_tr b oa v) :: (z_al b oa ls).filter (fun q => !(q.1 == i) && !(q.1 + 1 == i && q.2.category == 2)))) : zLR M b oa (z_st1 ls i v) lsN := by
  refine ⟨by unfold z_st1; rw [List.length_set, z_kl_len]; exact h.1, hn.1, hn.2.1, fun j w hw => ?_⟩
  unfold z_st1 at hw
  rw [List.getElem?_set] at hw
  by_cases hj : i = j
  · subst hj
    rw [if_pos rfl] at hw
    split at hw
    · cases hw
      exact hn.2.2 _ List.mem_cons_self
    · cases hw
  · rw [if_neg hj] at hw
    obtain ⟨h1, h2⟩ := z_kl_get hw
    refine hn.2.2 (j, z_tr b oa w) (List.mem_cons_of_mem _ (List.mem_filter.mpr ⟨z_al_mem h1, ?_⟩))
    have e1 : (j == i) = false := by simpa using Ne.symm hj
    have e2 : (j + 1 == i && (z_tr b oa w).category == 2) = false := by
      by_cases hq : j + 1 = i
      · have : ¬ (z_tr b oa w).category = 2 := fun hc => h2 ⟨hq, by rw [z_tr_cat] at hc; exact hc, z_cat2 hc (fun ⟨x, hx⟩ => z_nd_of hd j x (by rw [h1, hx]))⟩
        simp [this]
      · simp [hq]
    simp only [e1, e2]
    rfl
theorem zLR.st2 {M : zMD} {b : Nat} {oa : Nat → Nat} {ls : zLs} {lsM lsN : Array Slot} {i : Nat} {v : Value} (h : zLR M b oa ls lsM) (hd : z_ndb ls = true) (hn : lv_has lsN M.2.2.1 ((i, z_tr b oa v) :: (z_al b oa ls).filter (fun q => !(q.1 == i) && (!(q.1 == i + 1) && !(q.1 + 1 == i && q.2.category == 2))))) : zLR M b oa (z_st2 ls i v) lsN := by
  refine ⟨by unfold z_st2; rw [List.length_set, List.length_set, z_kl_len]; exact h.1, hn.1, hn.2.1, fun j w hw => ?_⟩
  unfold z_st2 at hw
  rw [List.getElem?_set] at hw
  by_cases hj : i = j
  · subst hj
    rw [if_pos rfl] at hw
    split at hw
    · cases hw
      exact hn.2.2 _ List.mem_cons_self
    · cases hw
  · rw [if_neg hj, List.getElem?_set] at hw
    by_cases hj1 : i + 1 = j
    · rw [if_pos hj1] at hw
      split at hw <;> cases hw
    · rw [if_neg hj1] at hw
      obtain ⟨h1, h2⟩ := z_kl_get hw
      refine hn.2.2 (j, z_tr b oa w) (List.mem_cons_of_mem _ (List.mem_filter.mpr ⟨z_al_mem h1, ?_⟩))
      have e1 : (j == i) = false := by simpa using Ne.symm hj
      have e3 : (j == i + 1) = false := by simpa using Ne.symm hj1
      have e2 : (j + 1 == i && (z_tr b oa w).category == 2) = false := by
        by_cases hq : j + 1 = i
        · have : ¬ (z_tr b oa w).category = 2 := fun hc => h2 ⟨hq, by rw [z_tr_cat] at hc; exact hc, z_cat2 hc (fun ⟨x, hx⟩ => z_nd_of hd j x (by rw [h1, hx]))⟩
          simp [this]
        · simp [hq]
      simp only [e1, e2, e3]
      rfl
def o_st1i (i w : Nat) : zOp := fun _ _ K _ k n pc ls st L μ => match st with
  | .int v :: st' => bif z_ndb ls then K k n (pc + w) (z_st1 ls i (.int v)) st' L μ else False
  | _ => False
def o_st1a (i w : Nat) : zOp := fun _ _ K _ k n pc ls st L μ => match st with
  | .ref v :: st' => bif z_ndb ls then K k n (pc + w) (z_st1 ls i (.ref v)) st' L μ else False
  | _ => False
def o_st2 (i w : Nat) : zOp := fun _ _ K _ k n pc ls st L μ => match st with
  | .long v :: st' => bif z_ndb ls then K k n (pc + w) (z_st2 ls i (.long v)) st' L μ else False
  | _ => False
def o_iinc (i : Nat) (c : Int32) : zOp := fun _ _ K _ k n pc ls st L μ => match ls[i]? with
  | some (some (.int x)) => bif z_ndb ls then K k n (pc + 3) (z_st1 ls i (.int (x + c))) st L μ else False
  | _ => False
theorem z_gos {M : zMD} {X : zXs} {d : Nat} {Q : zRQ} {k n pc pc' : Nat} {ls ls' : zLs} {st st' : List Value} {L : List zSh} {μ : zMem}
    (hw : ∀ (p : Program) (l : Launch) (e : Env) (R : Room) (s : State) (m : MethodId) (args : Array Value) (below : List Frame) (meth : Method) (c : Code) (b : Nat) (oa : Nat → Nat) (D : va_G) (ca : Nat → ClassId) (Z : State → Prop) (mc ms : Nat), zGood X d ((p, l, e, R, s), (m, args, below, meth, c), (b, oa, D, ca), (Z, mc, ms)) M Q → ∀ (H : Heap) (locs : List Loc) (cells slots : Nat) (lsM : Array Slot), zLR M b oa ls lsM →
      (∀ lsN, zLR M b oa ls' lsN → W p l e R s m args below meth c H locs cells slots Z (F0 m pc' lsN (st'.map (z_tr b oa)))) → W p l e R s m args below meth c H locs cells slots Z (F0 m pc lsM (st.map (z_tr b oa))))
    (h : zT X d M Q k n pc' ls' st' L μ) : zT X d M Q k n pc ls st L μ := by
  intro ⟨⟨p, l, e, R, s⟩, ⟨m, args, below, meth, c⟩, ⟨b, oa, D, ca⟩, ⟨Z, mc, ms⟩⟩ G H locs cells slots lsM hk hn hR hS hL
  exact hw p l e R s m args below meth c b oa D ca Z mc ms G H locs cells slots lsM hL (fun lsN hN => h ((p, l, e, R, s), (m, args, below, meth, c), (b, oa, D, ca), (Z, mc, ms)) G H locs cells slots lsN hk hn hR hS hN)
theorem ok_istore_n {M : zMD} {pc : Nat} {i : Fin 4} (hd : decode M.2.1 pc = .ok (.istore_n i, 1)) (hi : (i : Nat) < M.2.2.1) : zOk M pc (o_st1i i 1) := fun _ _ _ _ _ _ st _ _ h => match st, h with
  | .int v :: _, h => z_gos (fun _ _ _ _ _ _ _ _ _ _ b oa _ _ _ _ _ G _ _ _ _ _ hL w => lv_istore_n G.1.1 G.1.2.1 hd rfl hL.has hi rfl fun lsN hN => w lsN (hL.st1 (v := .int v) (z_cd h).1 hN)) (z_cd h).2
theorem ok_istore {M : zMD} {pc i : Nat} (hd : decode M.2.1 pc = .ok (.istore i, 2)) (hi : i < M.2.2.1) : zOk M pc (o_st1i i 2) := fun _ _ _ _ _ _ st _ _ h => match st, h with
  | .int v :: _, h => z_gos (fun _ _ _ _ _ _ _ _ _ _ b oa _ _ _ _ _ G _ _ _ _ _ hL w => lv_istore G.1.1 G.1.2.1 hd hL.has hi rfl fun lsN hN => w lsN (hL.st1 (v := .int v) (z_cd h).1 hN)) (z_cd h).2
theorem ok_astore_n {M : zMD} {pc : Nat} {i : Fin 4} (hd : decode M.2.1 pc = .ok (.astore_n i, 1)) (hi : (i : Nat) < M.2.2.1) : zOk M pc (o_st1a i 1) := fun _ _ _ _ _ _ st _ _ h => match st, h with
  | .ref v :: _, h => z_gos (fun _ _ _ _ _ _ _ _ _ _ b oa _ _ _ _ _ G _ _ _ _ _ hL w => lv_astore_n G.1.1 G.1.2.1 hd rfl hL.has hi rfl fun lsN hN => w lsN (hL.st1 (v := .ref v) (z_cd h).1 hN)) (z_cd h).2
theorem ok_astore {M : zMD} {pc i : Nat} (hd : decode M.2.1 pc = .ok (.astore i, 2)) (hi : i < M.2.2.1) : zOk M pc (o_st1a i 2) := fun _ _ _ _ _ _ st _ _ h => match st, h with
  | .ref v :: _, h => z_gos (fun _ _ _ _ _ _ _ _ _ _ b oa _ _ _ _ _ G _ _ _ _ _ hL w => lv_astore G.1.1 G.1.2.1 hd hL.has hi rfl fun lsN hN => w lsN (hL.st1 (v := .ref v) (z_cd h).1 hN)) (z_cd h).2
theorem ok_lstore {M : zMD} {pc i : Nat} (hd : decode M.2.1 pc = .ok (.lstore i, 2)) (hi : i + 1 < M.2.2.1) : zOk M pc (o_st2 i 2) := fun _ _ _ _ _ _ st _ _ h => match st, h with
  | .long v :: _, h => z_gos (fun _ _ _ _ _ _ _ _ _ _ b oa _ _ _ _ _ G _ _ _ _ _ hL w => lv_lstore G.1.1 G.1.2.1 hd hL.has hi rfl fun lsN hN => w lsN (hL.st2 (v := .long v) (z_cd h).1 hN)) (z_cd h).2
theorem ok_iinc {M : zMD} {pc i : Nat} {c : Int} {cv : Int32} (hd : decode M.2.1 pc = .ok (.iinc i c, 3)) (hc : Int32.ofInt c = cv) (hi : i < M.2.2.1) : zOk M pc (o_iinc i cv) := fun _ _ _ _ _ ls _ _ _ h => by
  unfold o_iinc at h
  split at h
  · rename_i x hv
    subst hc
    refine z_gos (fun _ _ _ _ _ _ _ _ _ _ b oa _ _ _ _ _ G _ _ _ _ _ hL w => ?_) (z_cd h).2
    obtain ⟨k, hk⟩ := List.getElem?_of_mem (z_al_mem (b := b) (oa := oa) hv)
    exact lv_iinc G.1.1 G.1.2.1 hd hL.has hk rfl hi rfl fun lsN hN => w lsN (hL.st1 (v := .int (x + Int32.ofInt c)) (z_cd h).1 hN)
  · exact h.elim
end
section
/-! switches, returns, fields, arrays -/
def o_tsw (dflt : Nat) (lo hi : Int) (ts : List Nat) : zOp := fun _ _ K _ k n _ ls st L μ => match st with
  | .int x :: st' => ((x.toInt < lo ∨ hi < x.toInt) → K k n dflt ls st' L μ) ∧ ∀ (j t : Nat), x.toInt = lo + (j : Int) → ts[j]? = some t → K k n t ls st' L μ
  | _ => False
theorem ok_tsw {M : zMD} {pc len dt : Nat} {dflt lo hi : Int} {offs : Array Int} {ts : List Nat} (hd : decode M.2.1 pc = .ok (.tableswitch dflt lo hi offs, len)) (ht : (pc : Int) + dflt = (dt : Int)) (hz : offs.toList.map (fun o => (pc : Int) + o) = ts.map (fun t : Nat => (t : Int))) (hl : (ts.length : Int) = hi - lo + 1) : zOk M pc (o_tsw dt lo hi ts) := fun X d Q k n ls st L μ h => match st, h with
  | .int x :: st', h => by
    intro ⟨⟨p, l, e, R, s⟩, ⟨m, args, below, meth, c⟩, ⟨b, oa, D, ca⟩, ⟨Z, mc, ms⟩⟩ G H locs cells slots lsM hk hn hR hS hL
    by_cases hx : x.toInt < lo ∨ hi < x.toInt
    · exact lv_tableOut G.1.1 G.1.2.1 hd hx ht (h.1 hx ((p, l, e, R, s), (m, args, below, meth, c), (b, oa, D, ca), (Z, mc, ms)) G H locs cells slots lsM hk hn hR hS hL)
    · have h1 : ¬ x.toInt < lo := fun q => hx (Or.inl q)
      have h2 : ¬ hi < x.toInt := fun q => hx (Or.inr q)
      have hj : (x.toInt - lo).toNat < ts.length := by omega
      have hjo : (x.toInt - lo).toNat < offs.toList.length := by
        have := congrArg List.length hz
        simp only [List.length_map] at this
        omega
      have e1 : (ts[(x.toInt - lo).toNat]?) = some (ts[(x.toInt - lo).toNat]) := List.getElem?_eq_getElem hj
      have e2 : offs[(x.toInt - lo).toNat]? = some (offs.toList[(x.toInt - lo).toNat]) := by rw [← Array.getElem?_toList]; exact List.getElem?_eq_getElem hjo
      have e3 : (pc : Int) + offs.toList[(x.toInt - lo).toNat] = ((ts[(x.toInt - lo).toNat] : Nat) : Int) := by
        have h3 : (offs.toList.map (fun o => (pc : Int) + o))[(x.toInt - lo).toNat]? = (ts.map (fun t : Nat => (t : Int)))[(x.toInt - lo).toNat]? := by rw [hz]
        rw [List.getElem?_map, List.getElem?_map, e1, List.getElem?_eq_getElem hjo] at h3
        exact Option.some.inj h3
      exact lv_tableIn G.1.1 G.1.2.1 hd h1 h2 e2 e3 (h.2 _ _ (by omega) e1 ((p, l, e, R, s), (m, args, below, meth, c), (b, oa, D, ca), (Z, mc, ms)) G H locs cells slots lsM hk hn hR hS hL)
/-- returns -/
def o_vret : zOp := fun _ _ _ Q _ _ _ _ st L μ => match st with
  | [] => Q none L μ
  | _ => False
theorem ok_vret {M : zMD} {pc : Nat} (hd : decode M.2.1 pc = .ok (.return_, 1)) (hr : M.2.2.2 = none) : zOk M pc o_vret := fun X d Q k n ls st L μ h => match st, h with
  | [], h => by
    intro ⟨⟨p, l, e, R, s⟩, ⟨m, args, below, meth, c⟩, ⟨b, oa, D, ca⟩, ⟨Z, mc, ms⟩⟩ G H locs cells slots lsM hk hn hR hS hL
    exact G.2.2.2 none L μ H locs cells slots pc lsM h hR hS (by omega) (by omega) (Or.inl ⟨hd, rfl, hr⟩)
def o_iret : zOp := fun _ _ _ Q _ _ _ _ st L μ => match st with
  | [.int x] => Q (some (.int x)) L μ
  | _ => False
theorem ok_iret {M : zMD} {pc : Nat} (hd : decode M.2.1 pc = .ok (.ireturn, 1)) (hr : M.2.2.2 = some .int) : zOk M pc o_iret := fun X d Q k n ls st L μ h => match st, h with
  | [.int x], h => by
    intro ⟨⟨p, l, e, R, s⟩, ⟨m, args, below, meth, c⟩, ⟨b, oa, D, ca⟩, ⟨Z, mc, ms⟩⟩ G H locs cells slots lsM hk hn hR hS hL
    exact G.2.2.2 (some (.int x)) L μ H locs cells slots pc lsM h hR hS (by omega) (by omega) (Or.inr (Or.inl ⟨x, _, hd, rfl, hr, rfl⟩))
def o_zret (ty : FieldType) : zOp := fun _ _ _ Q _ _ _ _ st L μ => match st with
  | [.int x] => narrow ty (.int x) = .int x ∧ Q (some (.int x)) L μ
  | _ => False
theorem ok_zret {M : zMD} {pc : Nat} {ty : FieldType} (hd : decode M.2.1 pc = .ok (.ireturn, 1)) (hr : M.2.2.2 = some ty) : zOk M pc (o_zret ty) := fun X d Q k n ls st L μ h => match st, h with
  | [.int x], h => by
    intro ⟨⟨p, l, e, R, s⟩, ⟨m, args, below, meth, c⟩, ⟨b, oa, D, ca⟩, ⟨Z, mc, ms⟩⟩ G H locs cells slots lsM hk hn hR hS hL
    exact G.2.2.2 (some (.int x)) L μ H locs cells slots pc lsM h.2 hR hS (by omega) (by omega) (Or.inr (Or.inl ⟨x, _, hd, rfl, hr, h.1⟩))
def o_lret : zOp := fun _ _ _ Q _ _ _ _ st L μ => match st with
  | [.long x] => Q (some (.long x)) L μ
  | _ => False
theorem ok_lret {M : zMD} {pc : Nat} (hd : decode M.2.1 pc = .ok (.lreturn, 1)) (hr : M.2.2.2 = some .long) : zOk M pc o_lret := fun X d Q k n ls st L μ h => match st, h with
  | [.long x], h => by
    intro ⟨⟨p, l, e, R, s⟩, ⟨m, args, below, meth, c⟩, ⟨b, oa, D, ca⟩, ⟨Z, mc, ms⟩⟩ G H locs cells slots lsM hk hn hR hS hL
    exact G.2.2.2 (some (.long x)) L μ H locs cells slots pc lsM h hR hS (by omega) (by omega) (Or.inr (Or.inr ⟨x, hd, rfl, hr⟩))
/-- of a class of ours: its fields' words, their types, their names -/
theorem z_cls {ci : Nat} {C : String} {T : u_T} {N : Nat} (h : clT[ci]? = some (C, T, N)) : ci < 10 ∧ z_nf ci = N ∧ (∀ w ∈ u_ws C T N, w ∈ tbG) ∧ (∀ k, k < N → parseFieldDescriptor (T k).2.2.1 = some (z_ft ci k)) ∧ (∀ a, a < N → ∀ b, b < N → a ≠ b → (T a).2.1 ≠ (T b).2.1) := by
  have hlt : ci < 8 := (List.getElem?_eq_some_iff.mp h).1
  have hnf : z_nf ci = N := by unfold z_nf; rw [h]
  refine ⟨by omega, hnf, ?_⟩
  match ci, hlt, h with
  | 0, _, h => cases h; exact ⟨u_X0, tyX0_ok, nmX0⟩
  | 1, _, h => cases h; exact ⟨u_X1, tyX1_ok, nmX1⟩
  | 2, _, h => cases h; exact ⟨u_X2, tyX2_ok, nmX2⟩
  | 3, _, h => cases h; exact ⟨u_X3, tyX3_ok, nmX3⟩
  | 4, _, h => cases h; exact ⟨u_X4, tyX4_ok, nmX4⟩
  | 5, _, h => cases h; exact ⟨u_X5, tyX5_ok, nmX5⟩
  | 6, _, h => cases h; exact ⟨u_X6, tyX6_ok, nmX6⟩
  | 7, _, h => cases h; exact ⟨u_X7, tyX7_ok, nmX7⟩
theorem z_ent_o {b : Nat} {oa : Nat → Nat} {ca : Nat → ClassId} {ci n a : Nat} {μ : zMem} (h : ci < 10) : z_ent b oa ca (ci, n) μ a = .inr (ci, (List.range (z_nf ci)).map (fun k => z_tr b oa (z_fv μ a ci k))) := if_pos h
def o_get (ci f : Nat) : zOp := fun _ _ K _ k n pc ls st L μ => match st with
  | .ref a :: st' => (a < 1000000 ∧ ∃ w, L[a]? = some (ci, w)) ∧ K k n (pc + 3) ls (z_fv μ a ci f :: st') L μ
  | _ => False
theorem z_ta_in {b : Nat} {oa : Nat → Nat} {a : Nat} (h : a < 1000000) : z_ta b oa a = b + a := if_pos h
theorem ok_get {M : zMD} {pc idx ci f : Nat} {C : String} {T : u_T} {N : Nat} (hd : decode M.2.1 pc = .ok (.getfield idx, 3)) (hc : clT[ci]? = some (C, T, N)) (hf : f < N) (hl : Cond.fieldLink M.1.cls idx (T f).1 (T f).2.1 (T f).2.2.1 ∈ tbG) : zOk M pc (o_get ci f) := fun X d Q k n ls st L μ h => match st, h with
  | .ref a :: st', h => by
    obtain ⟨⟨ha, w, hw⟩, h⟩ := h
    obtain ⟨h10, hnf, hu, hty, hnm⟩ := z_cls hc
    refine z_go (fun p l e R s m args below meth c b oa D ca Z mc ms G H locs cells slots lsM hk hn hR hS hL w => ?_) h
    have he := (z_ws_get (b := b) (oa := oa) (ca := ca) (μ := μ) hw).trans (congrArg some (congrArg (Prod.mk (b + a)) (z_ent_o h10)))
    rw [hnf] at he
    show W p l e R s m args below meth c H locs cells slots Z (F0 m pc lsM (.ref (z_ta b oa a) :: _))
    rw [z_ta_in ha]
    exact va_get G.1.1 G.1.2.1 G.1.2.2.2.2.2.1 hu G.1.2.2.2.2.1 G.2.1.1 hR.1 a he hc f hf (G.1.2.2.2.2.2.1 _ hl) (fun _ q => q) (by rw [List.getElem?_map, List.getElem?_range hf]; rfl) hd w
end
section
/-! fields are put; arrays -/
theorem z_fv_I {μ : zMem} {a ci f : Nat} {x : Int32} (hk : z_fk ci f = 0) : z_fv (z_sI μ a f x) a ci f = .int x := by unfold z_fv; rw [hk]; show Value.int (z_up μ.1 a f x a f) = _; rw [z_up_s]
theorem z_fv_L {μ : zMem} {a ci f : Nat} {x : Int64} (hk : z_fk ci f = 1) : z_fv (z_sL μ a f x) a ci f = .long x := by unfold z_fv; rw [hk]; show Value.long (z_up μ.2.1 a f x a f) = _; rw [z_up_s]
theorem z_fv_R {μ : zMem} {a ci f : Nat} {x : Option Nat} (hk : z_fk ci f = 2) : z_fv (z_sR μ a f x) a ci f = z_rv x := by unfold z_fv; rw [hk]; show z_rv (z_up μ.2.2 a f x a f) = _; rw [z_up_s]
theorem z_fv_In {μ : zMem} {a ci f : Nat} {x : Int32} (j : Nat) (hj : j ≠ f) : z_fv (z_sI μ a f x) a ci j = z_fv μ a ci j := by unfold z_fv z_sI; dsimp only; rw [z_up_n _ _ _ _ _ _ (fun q => hj q.2)]
theorem z_fv_Ln {μ : zMem} {a ci f : Nat} {x : Int64} (j : Nat) (hj : j ≠ f) : z_fv (z_sL μ a f x) a ci j = z_fv μ a ci j := by unfold z_fv z_sL; dsimp only; rw [z_up_n _ _ _ _ _ _ (fun q => hj q.2)]
theorem z_fv_Rn {μ : zMem} {a ci f : Nat} {x : Option Nat} (j : Nat) (hj : j ≠ f) : z_fv (z_sR μ a f x) a ci j = z_fv μ a ci j := by unfold z_fv z_sR; dsimp only; rw [z_up_n _ _ _ _ _ _ (fun q => hj q.2)]
theorem z_put {M : zMD} {pc idx ci f : Nat} {C : String} {T : u_T} {N : Nat} (hd : decode M.2.1 pc = .ok (.putfield idx, 3)) (hc : clT[ci]? = some (C, T, N)) (hf : f < N) (hl : Cond.fieldLink M.1.cls idx (T f).1 (T f).2.1 (T f).2.2.1 ∈ tbG) (hfin : (T f).2.2.2 = false ∨ ((T f).2.2.2 = true ∧ M.1.name = "<init>" ∧ (T f).1 = M.1.cls))
    {X : zXs} {d : Nat} {Q : zRQ} {k n : Nat} {ls : zLs} {st' : List Value} {L : List zSh} {μ μ' : zMem} {v : Value} {a w : Nat} (hn : ∀ b oa, narrow (z_ft ci f) (z_tr b oa v) = z_tr b oa v) (hfit : ∀ b oa, fits (z_ft ci f) (z_tr b oa v) = true)
    (hv : z_fv μ' a ci f = v) (ho : ∀ j, j ≠ f → z_fv μ' a ci j = z_fv μ a ci j) (hx : ∀ (x : Nat), x ≠ a → ∀ b oa ca s, z_ent b oa ca s μ' x = z_ent b oa ca s μ x) (ha : a < 1000000) (hw : L[a]? = some (ci, w)) (h : zT X d M Q k n (pc + 3) ls st' L μ') : zT X d M Q k n pc ls (v :: .ref a :: st') L μ := by
  obtain ⟨h10, hnf, hu, hty, hnm⟩ := z_cls hc
  intro ⟨⟨p, l, e, R, s⟩, ⟨m, args, below, meth, c⟩, ⟨b, oa, D, ca⟩, ⟨Z, mc, ms⟩⟩ G H locs cells slots lsM hk hn2 hR hS hL
  have he := (z_ws_get (b := b) (oa := oa) (ca := ca) (μ := μ) hw).trans (congrArg some (congrArg (Prod.mk (b + a)) (z_ent_o h10)))
  rw [hnf] at he
  have hset : (z_ws b oa ca L μ).set a (b + a, .inr (ci, ((List.range N).map (fun k => z_tr b oa (z_fv μ a ci k))).set f (z_tr b oa v))) = z_ws b oa ca L μ' := by
    refine z_ws_set hw ?_ (fun x q s => hx x q b oa ca s)
    rw [z_ent_o h10, hnf, z_fs_set hv ho]
  have hsz : ∀ (H1 : Heap) (locs1 : List Loc), va_P D clT ((z_ws b oa ca L μ).set a (b + a, .inr (ci, ((List.range N).map (fun k => z_tr b oa (z_fv μ a ci k))).set f (z_tr b oa v)))) H1 → H1.size = H.size → va_S (fun q => b ≤ q) s.heap H1 locs1 → W p l e R s m args below meth c H1 locs1 cells slots Z (F0 m (pc + 3) lsM (st'.map (z_tr b oa))) := by
    intro H1 locs1 hP1 hz hS1
    rw [hset] at hP1
    exact h ((p, l, e, R, s), (m, args, below, meth, c), (b, oa, D, ca), (Z, mc, ms)) G H1 locs1 cells slots lsM hk hn2 ⟨hP1, hz.trans hR.2⟩ hS1 hL
  show W p l e R s m args below meth c H locs cells slots Z (F0 m pc lsM (z_tr b oa v :: .ref (z_ta b oa a) :: _))
  rw [z_ta_in ha]
  obtain ⟨r, h1, cell, q1, q2, q3, q4⟩ := hR.1 a _ he
  have hr : r = (C, T, N) := Option.some.inj (h1.symm.trans hc)
  subst hr
  have hts := G.1.2.2.2.2.2.1
  have hap := va_apart (own := M.1.cls) hts hu (z_ft ci) hty hnm G.2.1.1 hc
  obtain ⟨hSl, hfc, kC, hkC, hkind⟩ := G.2.1.1.1 ci _ hc
  obtain ⟨cf, kf, fi, fd, hi, hsl⟩ := hSl f hf
  have hlay := hts _ (hu _ (u_in_lay hf))
  have hst := (u_facts hfc hkC (u_lays hts hu hf) hi).1
  have hlen : f < ((List.range N).map (fun k => z_tr b oa (z_fv μ a ci k))).length := by simpa using hf
  unfold u_lay at hlay
  rcases hfin with hfin | ⟨hfin, hin, hdecl⟩
  · rw [if_neg (by rw [hfin]; decide)] at hlay
    have h6 := u_store hfc hkC hkind hlay hi (hty f hf) (hn b oa) (hfit b oa)
    refine W.putK G.1.1 G.1.2.1 (f := fd) ⟨G.1.2.2.2.2.1, hts _ hl, ⟨_, _, _, hi⟩, hst⟩ (by rw [q2]; exact h6) q1 q3 (by rw [hsl]; exact k2_hasslot (q4 f hf)) rfl rfl hd fun H' e1 e2 e3 => ?_
    rw [hsl] at e1 ⊢
    exact hsz H' _ (hR.1.set z_ws_D he ⟨_, hc, t_OB.to (V := updV (vp_V _) f (z_tr b oa v)) ⟨_, e1, q2, q3, t_set q4 hap hf (z_tr b oa v)⟩ (fun j _ => vp_updV_set hlen (z_tr b oa v) j)⟩ e3) e2 (hS.put e2 e3 (Nat.le_add_right _ _))
  · rw [if_pos hfin] at hlay
    have hcf : m.cls = cf := by
      obtain ⟨_, _, c', _, _, _, -, -, hf', -, -, -, hown2, -⟩ := Cond.laysFinal_spec hlay
      have e1 : c' = cf := by have := hi.symm.trans hf'; simp at this; exact this.1.symm
      rw [hdecl] at hown2
      rw [← e1]; exact Option.some.inj (G.1.2.2.2.2.1.symm.trans hown2)
    have h6 := u_fits hfc hkC hkind (Or.inr hlay) hi (hty f hf) (hn b oa) (hfit b oa)
    refine W.putFinK G.1.1 G.1.2.1 G.1.2.2.2.2.1 (hts _ hl) hi hst hcf (G.1.2.2.2.2.2.2.2 hin) (by rw [q2]; exact h6) q1 q3 (by rw [hsl]; exact k2_hasslot (q4 f hf)) rfl rfl hd fun H' e1 e2 e3 => ?_
    rw [hsl] at e1 ⊢
    exact hsz H' _ (hR.1.set z_ws_D he ⟨_, hc, t_OB.to (V := updV (vp_V _) f (z_tr b oa v)) ⟨_, e1, q2, q3, t_set q4 hap hf (z_tr b oa v)⟩ (fun j _ => vp_updV_set hlen (z_tr b oa v) j)⟩ e3) e2 (hS.put e2 e3 (Nat.le_add_right _ _))
def o_puti (ci f : Nat) : zOp := fun _ _ K _ k n pc ls st L μ => match st with
  | .int x :: .ref a :: st' => (a < 1000000 ∧ ∃ w, L[a]? = some (ci, w)) ∧ K k n (pc + 3) ls st' L (z_sI μ a f x)
  | _ => False
theorem ok_puti {M : zMD} {pc idx ci f : Nat} {C : String} {T : u_T} {N : Nat} (hd : decode M.2.1 pc = .ok (.putfield idx, 3)) (hc : clT[ci]? = some (C, T, N)) (hf : f < N) (hl : Cond.fieldLink M.1.cls idx (T f).1 (T f).2.1 (T f).2.2.1 ∈ tbG) (hfin : (T f).2.2.2 = false) (hk : z_ft ci f = .int) : zOk M pc (o_puti ci f) := fun X d Q k n ls st L μ h => match st, h with
  | .int x :: .ref a :: st', h => by
    obtain ⟨⟨ha, w, hw⟩, h⟩ := h
    exact z_put hd hc hf hl (Or.inl hfin) (fun b oa => by rw [hk]; rfl) (fun b oa => by rw [hk]; rfl) (z_fv_I (by unfold z_fk; rw [hk]; rfl)) (fun j hj => z_fv_In j hj) (fun x hx b oa ca s => z_ent_I x hx s) ha hw h
def o_putz (ci f : Nat) : zOp := fun _ _ K _ k n pc ls st L μ => match st with
  | .int x :: .ref a :: st' => ((a < 1000000 ∧ ∃ w, L[a]? = some (ci, w)) ∧ (x = 0 ∨ x = 1)) ∧ K k n (pc + 3) ls st' L (z_sI μ a f x)
  | _ => False
theorem ok_putz {M : zMD} {pc idx ci f : Nat} {C : String} {T : u_T} {N : Nat} (hd : decode M.2.1 pc = .ok (.putfield idx, 3)) (hc : clT[ci]? = some (C, T, N)) (hf : f < N) (hl : Cond.fieldLink M.1.cls idx (T f).1 (T f).2.1 (T f).2.2.1 ∈ tbG) (hfin : (T f).2.2.2 = false) (hk : z_ft ci f = .boolean) : zOk M pc (o_putz ci f) := fun X d Q k n ls st L μ h => match st, h with
  | .int x :: .ref a :: st', h => by
    obtain ⟨⟨⟨ha, w, hw⟩, hx⟩, h⟩ := h
    refine z_put hd hc hf hl (Or.inl hfin) (fun b oa => ?_) (fun b oa => ?_) (z_fv_I (by unfold z_fk; rw [hk]; rfl)) (fun j hj => z_fv_In j hj) (fun x hx b oa ca s => z_ent_I x hx s) ha hw h
    · rw [hk]; rcases hx with rfl | rfl <;> rfl
    · rw [hk]; rcases hx with rfl | rfl <;> rfl
def o_putl (ci f : Nat) : zOp := fun _ _ K _ k n pc ls st L μ => match st with
  | .long x :: .ref a :: st' => (a < 1000000 ∧ ∃ w, L[a]? = some (ci, w)) ∧ K k n (pc + 3) ls st' L (z_sL μ a f x)
  | _ => False
theorem ok_putl {M : zMD} {pc idx ci f : Nat} {C : String} {T : u_T} {N : Nat} (hd : decode M.2.1 pc = .ok (.putfield idx, 3)) (hc : clT[ci]? = some (C, T, N)) (hf : f < N) (hl : Cond.fieldLink M.1.cls idx (T f).1 (T f).2.1 (T f).2.2.1 ∈ tbG) (hfin : (T f).2.2.2 = false) (hk : z_ft ci f = .long) : zOk M pc (o_putl ci f) := fun X d Q k n ls st L μ h => match st, h with
  | .long x :: .ref a :: st', h => by
    obtain ⟨⟨ha, w, hw⟩, h⟩ := h
    exact z_put hd hc hf hl (Or.inl hfin) (fun b oa => by rw [hk]; rfl) (fun b oa => by rw [hk]; rfl) (z_fv_L (by unfold z_fk; rw [hk]; rfl)) (fun j hj => z_fv_Ln j hj) (fun x hx b oa ca s => z_ent_L x hx s) ha hw h
def o_putr (ci f : Nat) : zOp := fun _ _ K _ k n pc ls st L μ => match st with
  | .ref r :: .ref a :: st' => (a < 1000000 ∧ ∃ w, L[a]? = some (ci, w)) ∧ K k n (pc + 3) ls st' L (z_sR μ a f (some r))
  | _ => False
theorem z_rfit {ty : FieldType} (h : z_tk ty = 2) (hb : ty ≠ .byte ∧ ty ≠ .char ∧ ty ≠ .short ∧ ty ≠ .float ∧ ty ≠ .double) (r : Nat) : narrow ty (.ref r) = .ref r ∧ fits ty (.ref r) = true := by
  cases ty <;> first | exact ⟨rfl, rfl⟩ | (simp at hb; done) | cases h
theorem ok_putr {M : zMD} {pc idx ci f : Nat} {C : String} {T : u_T} {N : Nat} (hd : decode M.2.1 pc = .ok (.putfield idx, 3)) (hc : clT[ci]? = some (C, T, N)) (hf : f < N) (hl : Cond.fieldLink M.1.cls idx (T f).1 (T f).2.1 (T f).2.2.1 ∈ tbG) (hfin : (T f).2.2.2 = false ∨ ((T f).2.2.2 = true ∧ M.1.name = "<init>" ∧ (T f).1 = M.1.cls)) (hk : z_tk (z_ft ci f) = 2) (hb : z_ft ci f ≠ .byte ∧ z_ft ci f ≠ .char ∧ z_ft ci f ≠ .short ∧ z_ft ci f ≠ .float ∧ z_ft ci f ≠ .double) : zOk M pc (o_putr ci f) := fun X d Q k n ls st L μ h => match st, h with
  | .ref r :: .ref a :: st', h => by
    obtain ⟨⟨ha, w, hw⟩, h⟩ := h
    exact z_put hd hc hf hl hfin (fun b oa => (z_rfit hk hb _).1) (fun b oa => (z_rfit hk hb _).2) (z_fv_R hk) (fun j hj => z_fv_Rn j hj) (fun x hx b oa ca s => z_ent_R x hx s) ha hw h
end
section
/-! arrays -/
theorem z_ent_i {b : Nat} {oa : Nat → Nat} {ca : Nat → ClassId} {t n a : Nat} {μ : zMem} (h1 : ¬ t < 10) (h2 : t < 20) : z_ent b oa ca (t, n) μ a = .inl (ca t, n, .inl (μ.1 a)) := (if_neg h1).trans (if_pos h2)
theorem z_ent_r {b : Nat} {oa : Nat → Nat} {ca : Nat → ClassId} {t n a : Nat} {μ : zMem} (h : ¬ t < 20) : z_ent b oa ca (t, n) μ a = .inl (ca t, n, .inr (.inr (.inr (.inr (fun i => (μ.2.2 a i).map (z_ta b oa)))))) := (if_neg (by show ¬ t < 10; omega)).trans (if_neg h)
theorem z_up_a {α : Type} (f : Nat → Nat → α) (a k : Nat) (v : α) : z_up f a k v a = fun j => if j = k then v else f a j := by
  funext j
  unfold z_up
  by_cases h : j = k <;> simp [h]
/-- within an array of kind t -/
def z_in (t : Nat) (L : List zSh) (a : Nat) (i : Int32) : Prop := a < 1000000 ∧ ∃ n, L[a]? = some (t, n) ∧ vp_in i n
def o_iald : zOp := fun _ _ K _ k n pc ls st L μ => match st with
  | .int i :: .ref a :: st' => z_in 10 L a i ∧ K k n (pc + 1) ls (.int (μ.1 a i.toNatClampNeg) :: st') L μ
  | _ => False
theorem ok_iald {M : zMD} {pc : Nat} (hd : decode M.2.1 pc = .ok (.iaload, 1)) : zOk M pc o_iald := fun X d Q k n ls st L μ h => match st, h with
  | .int i :: .ref a :: st', h => by
    obtain ⟨⟨ha, N, hw, hi⟩, h⟩ := h
    refine z_go (fun p l e R s m args below meth c b oa D ca Z mc ms G H locs cells slots lsM hk hn hR hS hL w => ?_) h
    show W p l e R s m args below meth c H locs cells slots Z (F0 m pc lsM (.int i :: .ref (z_ta b oa a) :: _))
    rw [z_ta_in ha]
    exact va_iald G.1.1 G.1.2.1 G.2.1.1 hR.1 a 0 ((z_ws_get hw).trans (congrArg some (congrArg (Prod.mk (b + a)) (z_ent_i (by omega) (by omega))))) rfl hi hd w
def o_zald : zOp := fun _ _ K _ k n pc ls st L μ => match st with
  | .int i :: .ref a :: st' => z_in 11 L a i ∧ K k n (pc + 1) ls (.int (μ.1 a i.toNatClampNeg) :: st') L μ
  | _ => False
theorem ok_zald {M : zMD} {pc : Nat} (hd : decode M.2.1 pc = .ok (.baload, 1)) : zOk M pc o_zald := fun X d Q k n ls st L μ h => match st, h with
  | .int i :: .ref a :: st', h => by
    obtain ⟨⟨ha, N, hw, hi⟩, h⟩ := h
    refine z_go (fun p l e R s m args below meth c b oa D ca Z mc ms G H locs cells slots lsM hk hn hR hS hL w => ?_) h
    show W p l e R s m args below meth c H locs cells slots Z (F0 m pc lsM (.int i :: .ref (z_ta b oa a) :: _))
    rw [z_ta_in ha]
    exact va_zald G.1.1 G.1.2.1 G.2.1.1 hR.1 a 1 ((z_ws_get hw).trans (congrArg some (congrArg (Prod.mk (b + a)) (z_ent_i (by omega) (by omega))))) rfl hi hd w
/-- the place of an array's kind in z_tys -/
def z_tp (t : Nat) : Nat := if t = 10 then 0 else if t = 11 then 1 else if t = 22 then 2 else if t = 23 then 3 else 4
def z_tt (t : Nat) : FieldType := if t = 10 then .int else if t = 11 then .boolean else if t = 22 then .object RX2 else if t = 23 then .object RX3 else .object RX5
theorem z_tp_ok {ca : Nat → ClassId} {t : Nat} (h : t = 10 ∨ t = 11 ∨ t = 22 ∨ t = 23 ∨ t = 25) : (z_tys ca)[z_tp t]? = some (ca t, z_tt t) := by
  rcases h with rfl | rfl | rfl | rfl | rfl <;> rfl
def o_aald (t : Nat) : zOp := fun _ _ K _ k n pc ls st L μ => match st with
  | .int i :: .ref a :: st' => z_in t L a i ∧ K k n (pc + 1) ls (z_rv (μ.2.2 a i.toNatClampNeg) :: st') L μ
  | _ => False
theorem ok_aald {M : zMD} {pc t : Nat} (ht : t = 22 ∨ t = 23 ∨ t = 25) (hd : decode M.2.1 pc = .ok (.aaload, 1)) : zOk M pc (o_aald t) := fun X d Q k n ls st L μ h => match st, h with
  | .int i :: .ref a :: st', h => by
    obtain ⟨⟨ha, N, hw, hi⟩, h⟩ := h
    refine z_go (fun p l e R s m args below meth c b oa D ca Z mc ms G H locs cells slots lsM hk hn hR hS hL w => ?_) h
    show W p l e R s m args below meth c H locs cells slots Z (F0 m pc lsM (.int i :: .ref (z_ta b oa a) :: _))
    rw [z_ta_in ha]
    rw [List.map_cons, z_tr_rv] at w
    rcases ht with rfl | rfl | rfl
    · exact va_aldq (C := RX2) G.1.1 G.1.2.1 G.2.1.1 hR.1 a 2 ((z_ws_get hw).trans (congrArg some (congrArg (Prod.mk (b + a)) (z_ent_r (by omega))))) rfl hi hd w
    · exact va_aldq (C := RX3) G.1.1 G.1.2.1 G.2.1.1 hR.1 a 3 ((z_ws_get hw).trans (congrArg some (congrArg (Prod.mk (b + a)) (z_ent_r (by omega))))) rfl hi hd w
    · exact va_aldq (C := RX5) G.1.1 G.1.2.1 G.2.1.1 hR.1 a 4 ((z_ws_get hw).trans (congrArg some (congrArg (Prod.mk (b + a)) (z_ent_r (by omega))))) rfl hi hd w
def o_alen (t : Nat) : zOp := fun _ _ K _ k n pc ls st L μ => match st with
  | .ref a :: st' => match L[a]? with
    | some (u, N) => (a < 1000000 ∧ u = t) ∧ K k n (pc + 1) ls (.int (Int32.ofNat N) :: st') L μ
    | none => False
  | _ => False
theorem ok_alen {M : zMD} {pc t : Nat} (ht : t = 10 ∨ t = 11 ∨ t = 22 ∨ t = 23 ∨ t = 25) (hd : decode M.2.1 pc = .ok (.arraylength, 1)) : zOk M pc (o_alen t) := fun X d Q k n ls st L μ h => match st, h with
  | .ref a :: st', h => by
    unfold o_alen at h
    dsimp only at h
    cases hw : L[a]? with
    | none => rw [hw] at h; exact h.elim
    | some q =>
      obtain ⟨u, N⟩ := q
      rw [hw] at h
      obtain ⟨⟨ha, rfl⟩, h2⟩ := h
      refine z_go (fun p l e R s m args below meth c b oa D ca Z mc ms G H locs cells slots lsM hk hn hR hS hL w => ?_) h2
      show W p l e R s m args below meth c H locs cells slots Z (F0 m pc lsM (.ref (z_ta b oa a) :: _))
      rw [z_ta_in ha]
      by_cases h20 : u < 20
      · exact va_alen G.1.1 G.1.2.1 G.2.1.1 hR.1 a (z_tp u) ((z_ws_get hw).trans (congrArg some (congrArg (Prod.mk (b + a)) (z_ent_i (by omega) h20)))) (z_tp_ok ht) rfl hd w
      · exact va_alen G.1.1 G.1.2.1 G.2.1.1 hR.1 a (z_tp u) ((z_ws_get hw).trans (congrArg some (congrArg (Prod.mk (b + a)) (z_ent_r h20)))) (z_tp_ok ht) rfl hd w
/-- a cell's new contents, by a row that writes it alone -/
theorem z_wr {M : zMD} {X : zXs} {d : Nat} {Q : zRQ} {k n pc pc' : Nat} {ls : zLs} {st st' : List Value} {L : List zSh} {μ μ' : zMem} {a : Nat} {sh : zSh} (hw : L[a]? = some sh) (hx : ∀ (x : Nat), x ≠ a → ∀ b oa ca s, z_ent b oa ca s μ' x = z_ent b oa ca s μ x)
    (hg : ∀ (p : Program) (l : Launch) (e : Env) (R : Room) (s : State) (m : MethodId) (args : Array Value) (below : List Frame) (meth : Method) (c : Code) (b : Nat) (oa : Nat → Nat) (D : va_G) (ca : Nat → ClassId) (Z : State → Prop) (mc ms : Nat), zGood X d ((p, l, e, R, s), (m, args, below, meth, c), (b, oa, D, ca), (Z, mc, ms)) M Q → ∀ (H : Heap) (locs : List Loc) (cells slots : Nat) (lsM : Array Slot), zRel b oa D ca L μ H →
      (∀ (H1 : Heap) (i : Nat), va_at D clT (b + a, z_ent b oa ca sh μ' a) H1 → H1.size = H.size → (∀ q : Nat, q ≠ b + a → H1[q]? = H[q]?) → W p l e R s m args below meth c H1 (locs ++ [⟨b + a, i⟩]) cells slots Z (F0 m pc' lsM (st'.map (z_tr b oa)))) → W p l e R s m args below meth c H locs cells slots Z (F0 m pc lsM (st.map (z_tr b oa))))
    (h : zT X d M Q k n pc' ls st' L μ') : zT X d M Q k n pc ls st L μ := by
  intro ⟨⟨p, l, e, R, s⟩, ⟨m, args, below, meth, c⟩, ⟨b, oa, D, ca⟩, ⟨Z, mc, ms⟩⟩ G H locs cells slots lsM hk hn hR hS hL
  refine hg p l e R s m args below meth c b oa D ca Z mc ms G H locs cells slots lsM hR fun H1 i hat hz hq => ?_
  have hP1 := hR.1.set z_ws_D (z_ws_get hw) hat hq
  rw [z_ws_set hw rfl (fun x q s => hx x q b oa ca s)] at hP1
  exact h ((p, l, e, R, s), (m, args, below, meth, c), (b, oa, D, ca), (Z, mc, ms)) G H1 _ cells slots lsM hk hn ⟨hP1, hz.trans hR.2⟩ (hS.put hz hq (Nat.le_add_right _ _)) hL
def o_iast : zOp := fun _ _ K _ k n pc ls st L μ => match st with
  | .int v :: .int i :: .ref a :: st' => z_in 10 L a i ∧ K k n (pc + 1) ls st' L (z_sI μ a i.toNatClampNeg v)
  | _ => False
theorem z_upd_I (μ : zMem) (a k : Nat) (v : Int32) : (z_sI μ a k v).1 a = upd (μ.1 a) k v := by
  show z_up μ.1 a k v a = _
  rw [z_up_a]
  rfl
theorem ok_iast {M : zMD} {pc : Nat} (hd : decode M.2.1 pc = .ok (.iastore, 1)) : zOk M pc o_iast := fun X d Q k n ls st L μ h => match st, h with
  | .int v :: .int i :: .ref a :: st', h => by
    obtain ⟨⟨ha, N, hw, hi⟩, h⟩ := h
    refine z_wr hw (fun x hx b oa ca s => z_ent_I x hx s) (fun p l e R s m args below meth c b oa D ca Z mc ms G H locs cells slots lsM hR w => ?_) h
    show W p l e R s m args below meth c H locs cells slots Z (F0 m pc lsM (.int v :: .int i :: .ref (z_ta b oa a) :: _))
    rw [z_ta_in ha]
    have he : va_at D clT _ H := hR.1 a _ ((z_ws_get hw).trans (congrArg some (congrArg (Prod.mk (b + a)) (z_ent_i (by omega) (by omega)))))
    refine W.iast G.1.1 G.1.2.1 he ((G.2.1.1.2 0 _ rfl).1 N (fun j => .int (μ.1 a j))) (fun q => by cases q) (by show ¬ (i < 0 ∨ (arrV _ _ _).slots.size ≤ _); rw [arrV_size]; exact hi) rfl rfl hd fun H1 e z oq => ?_
    refine w H1 _ ?_ z oq
    rw [z_ent_i (by omega) (by omega), z_upd_I]
    show H1[b + a]? = some (vp_cell _ _)
    rw [e]
    rw [vp_cell_i, vp_cell_i, arrV_store]
    congr 2
    funext q
    by_cases hq : q = i.toNatClampNeg
    · subst hq
      simp [updV, upd]
    · simp [updV, upd, hq]
def o_zast : zOp := fun _ _ K _ k n pc ls st L μ => match st with
  | .int v :: .int i :: .ref a :: st' => (z_in 11 L a i ∧ (v = 0 ∨ v = 1)) ∧ K k n (pc + 1) ls st' L (z_sI μ a i.toNatClampNeg v)
  | _ => False
theorem ok_zast {M : zMD} {pc : Nat} (hd : decode M.2.1 pc = .ok (.bastore, 1)) : zOk M pc o_zast := fun X d Q k n ls st L μ h => match st, h with
  | .int v :: .int i :: .ref a :: st', h => by
    obtain ⟨⟨⟨ha, N, hw, hi⟩, hv⟩, h⟩ := h
    refine z_wr hw (fun x hx b oa ca s => z_ent_I x hx s) (fun p l e R s m args below meth c b oa D ca Z mc ms G H locs cells slots lsM hR w => ?_) h
    show W p l e R s m args below meth c H locs cells slots Z (F0 m pc lsM (.int v :: .int i :: .ref (z_ta b oa a) :: _))
    rw [z_ta_in ha]
    have he : va_at D clT _ H := hR.1 a _ ((z_ws_get hw).trans (congrArg some (congrArg (Prod.mk (b + a)) (z_ent_i (by omega) (by omega)))))
    refine W.zast G.1.1 G.1.2.1 he ((G.2.1.1.2 1 _ rfl).1 N (fun j => .int (μ.1 a j))) (fun q => by cases q) (by show ¬ (i < 0 ∨ (arrV _ _ _).slots.size ≤ _); rw [arrV_size]; exact hi) rfl rfl hd fun H1 e z oq => ?_
    refine w H1 _ ?_ z oq
    rw [z_ent_i (by omega) (by omega), z_upd_I]
    show H1[b + a]? = some (vp_cell _ _)
    rw [e]
    rw [vp_cell_i, vp_cell_i, arrV_store]
    congr 2
    funext q
    have hnv : narrow .boolean (.int v) = .int v := by rcases hv with rfl | rfl <;> rfl
    by_cases hq : q = i.toNatClampNeg
    · subst hq
      simp [updV, upd, hnv]
      try rfl
    · simp [updV, upd, hq]
def o_aast (ci : Nat) : zOp := fun _ _ K _ k n pc ls st L μ => match st with
  | .ref v :: .int i :: .ref a :: st' => (z_in (20 + ci) L a i ∧ v < 1000000 ∧ ∃ w, L[v]? = some (ci, w)) ∧ K k n (pc + 1) ls st' L (z_sR μ a i.toNatClampNeg (some v))
  | _ => False
theorem z_upd_R (b : Nat) (oa : Nat → Nat) (μ : zMem) (a k : Nat) (v : Nat) : (fun i => ((z_sR μ a k (some v)).2.2 a i).map (z_ta b oa)) = va_up (fun i => (μ.2.2 a i).map (z_ta b oa)) k (some (z_ta b oa v)) := by
  funext i
  show (z_up μ.2.2 a k (some v) a i).map (z_ta b oa) = _
  rw [z_up_a]
  unfold va_up
  by_cases h : i = k <;> simp [h]
theorem ok_aast {M : zMD} {pc ci : Nat} (hci : ci = 2 ∨ ci = 3 ∨ ci = 5) (hd : decode M.2.1 pc = .ok (.aastore, 1)) : zOk M pc (o_aast ci) := fun X d Q k n ls st L μ h => match st, h with
  | .ref v :: .int i :: .ref a :: st', h => by
    obtain ⟨⟨⟨ha, N, hw, hi⟩, hv, w0, hwv⟩, h⟩ := h
    refine z_wr hw (fun x hx b oa ca s => z_ent_R x hx s) (fun p l e R s m args below meth c b oa D ca Z mc ms G H locs cells slots lsM hR w => ?_) h
    show W p l e R s m args below meth c H locs cells slots Z (F0 m pc lsM (.ref (z_ta b oa v) :: .int i :: .ref (z_ta b oa a) :: _))
    rw [z_ta_in ha]
    have hwq := hw
    have he : va_at D clT _ H := hR.1 a _ ((z_ws_get hw).trans (congrArg some (congrArg (Prod.mk (b + a)) (z_ent_r (by omega)))))
    have ht : (z_tys ca)[z_tp (20 + ci)]? = some (ca (20 + ci), .object (clT.getD ci (RX0, TX0, 0)).1) := by rcases hci with rfl | rfl | rfl <;> rfl
    have hc : clT[ci]? = some (clT.getD ci (RX0, TX0, 0)) := by rcases hci with rfl | rfl | rfl <;> rfl
    have hlt : i.toNatClampNeg < N := Nat.not_le.mp fun q => hi (Or.inr q)
    have h0 : ¬ i < 0 := fun q => hi (Or.inl q)
    have hev : va_at D clT _ H := hR.1 v _ ((z_ws_get hwv).trans (congrArg some (congrArg (Prod.mk (b + v)) (z_ent_o (by omega)))))
    obtain ⟨r', hr', cellV, g1, g2, g3, -⟩ := hev
    have hcls := (G.2.1.1.1 ci _ hc).2
    obtain ⟨kA, comp, k1, k2, k3, -⟩ := (G.2.1.1.2 _ _ ht).2
    have hcomp : comp = D.1 ci := Option.some.inj (k3.symm.trans hcls.1)
    subst hcomp
    obtain ⟨kC, hkC, -⟩ := hcls.2
    have g1 : H[b + v]? = some cellV := g1
    rw [z_ta_in hv]
    refine W.aast G.1.1 G.1.2.1 he (fun q h => by cases h) (fun h => by cases h) k1 k2 rfl hkC ⟨h0, by show _ < (arrV _ _ _).slots.size; rw [arrV_size]; exact hlt⟩ g1 (fun q h => by rw [g3] at h; cases h) (by rw [g2]; exact hkC) (by rw [g2]; exact va_assign hcls) rfl rfl hd fun H1 e z oq => ?_
    refine w H1 _ ?_ z oq
    rw [z_ent_r (by omega), z_upd_R]
    show H1[b + a]? = some (vp_cell _ _)
    rw [e]
    rw [vp_cell_q, vp_cell_q, arrV_store]
    congr 2
    funext q
    by_cases hq : q = i.toNatClampNeg
    · subst hq
      simp [updV, va_up, va_rf, z_ta_in hv]
    · simp [updV, va_up, hq]
theorem z_sub4 {a : Nat} (h1 : 1000000 ≤ a) (h2 : a < 1000004) : a - 1000000 < 4 := by omega
/-- the outer arrays -/
def o_oald : zOp := fun X _ K _ k n pc ls st L μ => match st with
  | .int i :: .ref a :: st' => ((1000000 ≤ a ∧ a < 1000004) ∧ vp_in i (z_on X (a - 1000000))) ∧ K k n (pc + 1) ls (.int (z_of X (a - 1000000) i.toNatClampNeg) :: st') L μ
  | _ => False
theorem z_ta_out {b : Nat} {oa : Nat → Nat} {a : Nat} (h : 1000000 ≤ a) : z_ta b oa a = oa (a - 1000000) := if_neg (by omega)
theorem ok_oald {M : zMD} {pc : Nat} (hd : decode M.2.1 pc = .ok (.iaload, 1)) : zOk M pc o_oald := fun X d Q k n ls st L μ h => match st, h with
  | .int i :: .ref a :: st', h => by
    obtain ⟨⟨⟨ha, ha2⟩, hi⟩, h⟩ := h
    refine z_go (fun p l e R s m args below meth c b oa D ca Z mc ms G H locs cells slots lsM hk hn hR hS hL w => ?_) h
    show W p l e R s m args below meth c H locs cells slots Z (F0 m pc lsM (.int i :: .ref (z_ta b oa a) :: _))
    rw [z_ta_out ha]
    obtain ⟨ho1, ho2⟩ := G.2.1.2.2.1.1 (a - 1000000) (z_sub4 ha ha2)
    exact va_sld G.1.1 G.1.2.1 ho2 (Nat.lt_of_lt_of_le ho1 G.2.1.2.2.2) (Nat.not_le.mpr ho1) hS hi hd w
def o_olen : zOp := fun X _ K _ k n pc ls st L μ => match st with
  | .ref a :: st' => (1000000 ≤ a ∧ a < 1000004) ∧ K k n (pc + 1) ls (.int (Int32.ofNat (z_on X (a - 1000000))) :: st') L μ
  | _ => False
theorem ok_olen {M : zMD} {pc : Nat} (hd : decode M.2.1 pc = .ok (.arraylength, 1)) : zOk M pc o_olen := fun X d Q k n ls st L μ h => match st, h with
  | .ref a :: st', h => by
    obtain ⟨⟨ha, ha2⟩, h⟩ := h
    refine z_go (fun p l e R s m args below meth c b oa D ca Z mc ms G H locs cells slots lsM hk hn hR hS hL w => ?_) h
    show W p l e R s m args below meth c H locs cells slots Z (F0 m pc lsM (.ref (z_ta b oa a) :: _))
    rw [z_ta_out ha]
    obtain ⟨ho1, ho2⟩ := G.2.1.2.2.1.1 (a - 1000000) (z_sub4 ha ha2)
    exact va_slen G.1.1 G.1.2.1 ho2 (Nat.lt_of_lt_of_le ho1 G.2.1.2.2.2) (Nat.not_le.mpr ho1) hS hd w
/-- static arrays: 0 LOWEST, 1 HIGHEST, 2 ABOVE -/
def o_gsta (j : Nat) : zOp := fun _ _ K _ k n pc ls st L μ => K k n (pc + 3) ls (.ref (1000000 + j) :: st) L μ
def z_sn (j : Nat) : String := if j = 0 then "LOWEST" else if j = 1 then "HIGHEST" else "ABOVE"
theorem z_sZ {b : Nat} {oa : Nat → Nat} {X : zXs} {U : State} {H : Heap} {j : Nat} (hj : j < 3) (h : zOut b oa X U H) : va_Z "ShadowTax" (z_sn j) "[I" (.ref (z_ta b oa (1000000 + j))) (fun q => b ≤ q) U H := by
  rw [z_ta_out (by omega)]
  match j, hj with
  | 0, _ => exact h.2.1
  | 1, _ => exact h.2.2.1
  | 2, _ => exact h.2.2.2.1
theorem ok_gsta {M : zMD} {pc idx j : Nat} (hj : j < 3) (hd : decode M.2.1 pc = .ok (.getstatic idx, 3)) (hl : Cond.fieldLink M.1.cls idx "ShadowTax" (z_sn j) "[I" ∈ tbG) : zOk M pc (o_gsta j) := fun X d Q k n ls st L μ h => by
  refine z_go (fun p l e R s m args below meth c b oa D ca Z mc ms G H locs cells slots lsM hk hn hR hS hL w => ?_) h
  exact va_gets G.1.1 G.1.2.1 (z_sZ hj G.2.1.2.2.1) hS G.1.2.2.2.2.1 (G.1.2.2.2.2.2.1 _ hl) (fun _ q => q) hd w
theorem ok_gstaN {M : zMD} {pc idx j : Nat} (hj : j < 3) (hd : decode M.2.1 pc = .ok (.getstatic idx, 3)) (hl : (M.1.cls, idx, "ShadowTax", z_sn j, "[I", "ShadowTax") ∈ z_fl) : zOk M pc (o_gsta j) := fun X d Q k n ls st L μ h => by
  refine z_go (fun p l e R s m args below meth c b oa D ca Z mc ms G H locs cells slots lsM hk hn hR hS hL w => ?_) h
  exact va_getsN G.1.1 G.1.2.1 (z_sZ hj G.2.1.2.2.1) hS G.1.2.2.2.2.1 (va_Nw.use rfl (G.2.1.2.1.2.1 _ hl)) (fun _ q => q) hd w
end
section
/-! calls, and contracts out of walks -/
def z_en : Nat → List Value → zLs
  | n, [] => List.replicate n none
  | n, .long x :: vs => some (.long x) :: none :: z_en (n - 2) vs
  | n, v :: vs => some v :: z_en (n - 1) vs
def z_cs : List Value → Nat
  | [] => 0
  | .long _ :: vs => z_cs vs + 2
  | _ :: vs => z_cs vs + 1
/-- no double among them -/
def z_nv (vs : List Value) : Bool := vs.all (fun v => match v with
  | .double _ => false
  | _ => true)
theorem z_nv_c {v : Value} {vs : List Value} (h : z_nv (v :: vs) = true) : z_nv vs = true := by
  unfold z_nv at h
  rw [List.all_cons, Bool.and_eq_true] at h
  exact h.2
theorem z_en_len : ∀ (vs : List Value) (n : Nat), z_cs vs ≤ n → (z_en n vs).length = n
  | [], n, _ => List.length_replicate
  | .long x :: vs, n, h => by
    have h : z_cs vs + 2 ≤ n := h
    show (z_en (n - 2) vs).length + 1 + 1 = n
    rw [z_en_len vs (n - 2) (by omega)]
    omega
  | .int x :: vs, n, h => by
    have h : z_cs vs + 1 ≤ n := h
    show (z_en (n - 1) vs).length + 1 = n
    rw [z_en_len vs (n - 1) (by omega)]
    omega
  | .float x :: vs, n, h => by
    have h : z_cs vs + 1 ≤ n := h
    show (z_en (n - 1) vs).length + 1 = n
    rw [z_en_len vs (n - 1) (by omega)]
    omega
  | .double x :: vs, n, h => by
    have h : z_cs vs + 1 ≤ n := h
    show (z_en (n - 1) vs).length + 1 = n
    rw [z_en_len vs (n - 1) (by omega)]
    omega
  | .null :: vs, n, h => by
    have h : z_cs vs + 1 ≤ n := h
    show (z_en (n - 1) vs).length + 1 = n
    rw [z_en_len vs (n - 1) (by omega)]
    omega
  | .ref x :: vs, n, h => by
    have h : z_cs vs + 1 ≤ n := h
    show (z_en (n - 1) vs).length + 1 = n
    rw [z_en_len vs (n - 1) (by omega)]
    omega
  | .retAddr x :: vs, n, h => by
    have h : z_cs vs + 1 ≤ n := h
    show (z_en (n - 1) vs).length + 1 = n
    rw [z_en_len vs (n - 1) (by omega)]
    omega
theorem z_en_one {b : Nat} {oa : Nat → Nat} {v : Value} {vs : List Value} {n i : Nat} (hv : v.category = 1) (he : z_en n (v :: vs) = some v :: z_en (n - 1) vs) (ih : ∀ (m : Nat) (j : Nat) (w : Value), (z_en (n - 1) vs)[j]? = some (some w) → (m + j, z_tr b oa w) ∈ lv_args m (vs.map (z_tr b oa))) (j : Nat) (w : Value) (h : (z_en n (v :: vs))[j]? = some (some w)) : (i + j, z_tr b oa w) ∈ lv_args i ((v :: vs).map (z_tr b oa)) := by
  rw [he] at h
  show (i + j, z_tr b oa w) ∈ (i, z_tr b oa v) :: lv_args (if (z_tr b oa v).category = 2 then i + 2 else i + 1) (vs.map (z_tr b oa))
  rw [if_neg (by rw [z_tr_cat, hv]; decide)]
  cases j with
  | zero => cases h; exact List.mem_cons_self
  | succ j =>
    have h : (z_en (n - 1) vs)[j]? = some (some w) := h
    have := ih (i + 1) j w h
    rw [show i + 1 + j = i + (j + 1) by omega] at this
    exact List.mem_cons_of_mem _ this
theorem z_en_mem (b : Nat) (oa : Nat → Nat) : ∀ (vs : List Value) (n i j : Nat) (w : Value), z_nv vs = true → (z_en n vs)[j]? = some (some w) → (i + j, z_tr b oa w) ∈ lv_args i (vs.map (z_tr b oa))
  | [], n, i, j, w, _, h => by
    have h : (List.replicate n (none : Option Value))[j]? = some (some w) := h
    rw [List.getElem?_replicate] at h
    split at h <;> cases h
  | .long x :: vs, n, i, j, w, hn, h => by
    have hn : z_nv vs = true := (z_nv_c hn)
    show (i + j, z_tr b oa w) ∈ (i, Value.long x) :: lv_args (i + 2) (vs.map (z_tr b oa))
    match j, h with
    | 0, h => cases h; exact List.mem_cons_self
    | 1, h => cases h
    | j + 2, h =>
      have h : (z_en (n - 2) vs)[j]? = some (some w) := h
      have := z_en_mem b oa vs (n - 2) (i + 2) j w hn h
      rw [show i + 2 + j = i + (j + 2) by omega] at this
      exact List.mem_cons_of_mem _ this
  | .int x :: vs, n, i, j, w, hn, h => z_en_one rfl rfl (fun m j w q => z_en_mem b oa vs (n - 1) m j w (z_nv_c hn) q) j w h
  | .float x :: vs, n, i, j, w, hn, h => z_en_one rfl rfl (fun m j w q => z_en_mem b oa vs (n - 1) m j w (z_nv_c hn) q) j w h
  | .double x :: vs, n, i, j, w, hn, h => by simp [z_nv] at hn
  | .null :: vs, n, i, j, w, hn, h => z_en_one rfl rfl (fun m j w q => z_en_mem b oa vs (n - 1) m j w (z_nv_c hn) q) j w h
  | .ref x :: vs, n, i, j, w, hn, h => z_en_one rfl rfl (fun m j w q => z_en_mem b oa vs (n - 1) m j w (z_nv_c hn) q) j w h
  | .retAddr x :: vs, n, i, j, w, hn, h => z_en_one rfl rfl (fun m j w q => z_en_mem b oa vs (n - 1) m j w (z_nv_c hn) q) j w h
theorem z_sl_len (b : Nat) (oa : Nat → Nat) : ∀ (vs : List Value), z_nv vs = true → (lg_sl (vs.map (z_tr b oa))).length = z_cs vs
  | [], _ => rfl
  | .long x :: vs, h => by
    have := z_sl_len b oa vs (z_nv_c h)
    simp [lg_sl, z_tr, Value.category, z_cs] at this ⊢
    omega
  | .int x :: vs, h => by
    have := z_sl_len b oa vs (z_nv_c h)
    simp [lg_sl, z_tr, Value.category, z_cs] at this ⊢
    omega
  | .float x :: vs, h => by
    have := z_sl_len b oa vs (z_nv_c h)
    simp [lg_sl, z_tr, Value.category, z_cs] at this ⊢
    omega
  | .double x :: vs, h => by simp [z_nv] at h
  | .null :: vs, h => by
    have := z_sl_len b oa vs (z_nv_c h)
    simp [lg_sl, z_tr, Value.category, z_cs] at this ⊢
    omega
  | .ref x :: vs, h => by
    have := z_sl_len b oa vs (z_nv_c h)
    simp [lg_sl, z_tr, Value.category, z_cs] at this ⊢
    omega
  | .retAddr x :: vs, h => by
    have := z_sl_len b oa vs (z_nv_c h)
    simp [lg_sl, z_tr, Value.category, z_cs] at this ⊢
    omega
/-- what the tables say of a method of np parameters -/
def zMok (M : zMD) (np : Nat) : Prop := plainName M.1.cls = true ∧ Cond.code M.1 M.2.1 M.2.2.1 M.2.2.2 ∈ tbG ∧ Cond.initialized M.1.cls ∈ tbG ∧ (M.1.cls ≠ "java/lang/invoke/MethodHandle" ∧ M.1.cls ≠ "java/lang/invoke/VarHandle" ∧ (parseMethodDescriptor M.1.desc).map (fun d => d.parameters.length) = some np) ∧ M.2.2.1 ≤ 45
theorem zC.of {X : zXs} {d k n np : Nat} {M : zMD} {as : List Value} {L : List zSh} {μ : zMem} {Q : zRQ} (hM : zMok M np) (hcs : (Nat.ble (z_cs as) M.2.2.1 && z_nv as) = true) (h : zT X d M Q k n 0 (z_en M.2.2.1 as) [] L μ) : zC X d k n M as L μ Q := by
  intro l b oa D ca
  rw [Bool.and_eq_true] at hcs
  have hle : z_cs as ≤ M.2.2.1 := Nat.le_of_ble_eq_true hcs.1
  refine Met.ofW (cc := M.2.1) (maxL := M.2.2.1) (ret := M.2.2.2) hM.1 rfl ?_
  intro p e s m args below meth c s₁ B hml hv
  obtain ⟨rfl, hWd, hR⟩ := hv
  have hts := atoms_spec (ws := z_w M) B.pre
  have hl := lv_entry (as.map (z_tr b oa)) (n := M.2.2.1) (by rw [z_sl_len b oa as hcs.2]; exact hle)
  rw [lg_entry_eq]
  refine h ((p, l, e, { frames := d, cells := k, slots := n, locals := 64 * d }, s), (m, (as.map (z_tr b oa)).toArray, below, meth, c), (b, oa, D, ca), (MQ below (zQc b oa D ca Q) (as.map (z_tr b oa)).toArray s k n (fun q => b ≤ q), k, n)) ⟨⟨B.exec, B.bytes, B.returns, hml, findClass_of_methodNamed B.named, fun w hw => hts w (List.mem_cons_of_mem _ hw), B.notSynchronized, fun q => (name_of_methodNamed B.named B.method).1.trans q⟩, hWd, ⟨Nat.le_refl _, Nat.le_refl _, Nat.le_refl _, Nat.le_refl _⟩, ?_⟩ s.heap [] 0 0 _ (by omega) (by omega) hR va_S.rf ⟨z_en_len as _ hle, hl.1, hl.2.1, fun j w hw => ?_⟩
  · intro v L' μ' H locs cells slots pc lsM hQ hRel hS hc hs hret
    refine W.widen hc hs ?_
    rcases hret with ⟨hd, rfl, hr⟩ | ⟨x, ty, hd, rfl, hr, hnar⟩ | ⟨x, hd, rfl, hr⟩
    · exact W.vret B.exec B.bytes (B.returns.trans hr) (fun t ht hW => ⟨none, L', μ', rfl, hQ, by rw [ht]; exact hRel, hS.F ht⟩) hS.2.2 hd B.notSynchronized
    · exact W.zret B.exec B.bytes (B.returns.trans hr) hnar (fun t ht hW => ⟨some (.int x), L', μ', rfl, hQ, by rw [ht]; exact hRel, hS.F ht⟩) hS.2.2 hd B.notSynchronized
    · exact W.lret B.exec B.bytes (B.returns.trans hr) (fun t ht hW => ⟨some (.long x), L', μ', rfl, hQ, by rw [ht]; exact hRel, hS.F ht⟩) hS.2.2 hd B.notSynchronized
  · have := z_en_mem b oa as M.2.2.1 0 j w hcs.2 hw
    rw [Nat.zero_add] at this
    exact hl.2.2 _ this
/-- weaker ends, more room -/
theorem zT.mono {X : zXs} {d d' : Nat} {M : zMD} {Q Q' : zRQ} {k n pc : Nat} {ls : zLs} {st : List Value} {L : List zSh} {μ : zMem} (hQ : ∀ v L μ, Q v L μ → Q' v L μ) (hd : d ≤ d') (h : zT X d M Q k n pc ls st L μ) : zT X d' M Q' k n pc ls st L μ := by
  intro ⟨⟨p, l, e, R, s⟩, ⟨m, args, below, meth, c⟩, ⟨b, oa, D, ca⟩, ⟨Z, mc, ms⟩⟩ G
  exact h ((p, l, e, R, s), (m, args, below, meth, c), (b, oa, D, ca), (Z, mc, ms)) ⟨G.1, G.2.1, ⟨Nat.le_trans hd G.2.2.1.1, Nat.le_trans (Nat.mul_le_mul_left 64 hd) G.2.2.1.2.1, G.2.2.1.2.2⟩, fun v L μ H locs cells slots pc lsM q => G.2.2.2 v L μ H locs cells slots pc lsM (hQ v L μ q)⟩
/-- behind a call -/
theorem z_call {M M' : zMD} {X : zXs} {d : Nat} {Q Q' : zRQ} {k n k1 n1 pc : Nat} {ls : zLs} {st rest as : List Value} {L : List zSh} {μ : zMem} (hk1 : k1 ≤ k) (hn1 : n1 ≤ n)
    (hrun : ∀ (p : Program) (l : Launch) (e : Env) (R : Room) (s : State) (m : MethodId) (args : Array Value) (below : List Frame) (meth : Method) (c : Code) (b : Nat) (oa : Nat → Nat) (D : va_G) (ca : Nat → ClassId) (Z : State → Prop) (mc ms : Nat), zGood X d ((p, l, e, R, s), (m, args, below, meth, c), (b, oa, D, ca), (Z, mc, ms)) M Q → ∀ (H : Heap) (locs : List Loc) (cells slots : Nat) (lsM : Array Slot), cells + k1 ≤ R.cells ∧ slots + n1 ≤ R.slots → zRel b oa D ca L μ H → zWd b oa D ca X s H → lsM.size = M.2.2.1 →
      va_Run p l e R s m args below meth c H locs cells slots k1 n1 (F0 m pc lsM (st.map (z_tr b oa))) (rest.map (z_tr b oa)) (zQc b oa D ca Q' (as.map (z_tr b oa)).toArray) (fun q => b ≤ q))
    (h : ∀ v L' μ', Q' v L' μ' → zT X d M Q (k - k1) (n - n1) (pc + 3) ls (v.toList ++ rest) L' μ') : zT X d M Q k n pc ls st L μ := by
  intro ⟨⟨p, l, e, R, s⟩, ⟨m, args, below, meth, c⟩, ⟨b, oa, D, ca⟩, ⟨Z, mc, ms⟩⟩ G H locs cells slots lsM hk hn hR hS hL
  have hWd : zWd b oa D ca X s H := G.2.1.kept hS.1 hS.2.1
  have hrm := G.2.2.1
  intro T hT Xs
  obtain ⟨v, st₀, t, T', L2, h0, X', hL2, e1, e2, ⟨v', L', μ', hv, hQ, hRel, hF⟩, st⟩ := hrun p l e R s m args below meth c b oa D ca Z mc ms G H locs cells slots lsM ⟨by omega, by omega⟩ hR hWd hL.2.1 T hT Xs
  cases hv
  unfold va_F at hF
  rw [h0] at hF
  have hS' : va_S (fun q => b ≤ q) s.heap T'.heap (locs ++ L2) := by
    refine ⟨Nat.le_trans hS.1 (by rw [e1]; exact hF.1), fun q h1 h2 => ?_, fun q hq => ?_⟩
    · rw [e1, hF.2 q (Nat.lt_of_lt_of_le h1 hS.1) h2]
      exact hS.2.1 q h1 h2
    · rcases List.mem_append.mp hq with h | h
      · exact hS.2.2 q h
      · exact hL2 q h
  have hw := h v' L' μ' hQ ((p, l, e, R, s), (m, args, below, meth, c), (b, oa, D, ca), (Z, mc, ms)) G T'.heap (locs ++ L2) (cells + k1) (slots + n1) lsM (by omega) (by omega) (by rw [e1]; exact hRel) hS' hL
  rw [List.map_append] at hw
  have hst : v'.toList.map (z_tr b oa) = (v'.map (z_tr b oa)).toList := by cases v' <;> rfl
  rw [hst] at hw
  obtain ⟨t2, a1, b1⟩ := hw T' rfl X'
  exact ⟨t2, st t2 a1, b1⟩
theorem z_good (M : zMD) {np : Nat} (hM : zMok M np) : GoodIn tbG (z_w M) := by
  intro w hw
  rcases List.mem_cons.mp hw with rfl | hw
  · exact ⟨hM.2.1, tbG_good hM.2.1⟩
  · exact ⟨hw, tbG_good hw⟩
theorem z_blind {b : Nat} {oa : Nat → Nat} {D : va_G} {ca : Nat → ClassId} {X : zXs} {L : List zSh} {μ : zMem} {as : List Value} : FrameBlind (va_Pc (as.map (z_tr b oa)) (fun U => zWd b oa D ca X U U.heap ∧ zRel b oa D ca L μ U.heap)) :=
  fun a U g mk q => ⟨q.1, q.2.1.same (s := U) (U := U.calling g mk a) rfl, q.2.2⟩
theorem z_rest {b : Nat} {oa : Nat → Nat} : ∀ (r : List Value), ((r.map (z_tr b oa)).map fun v => v.category).sum ≤ 2 * r.length
  | [] => Nat.le_refl _
  | v :: r => by
    have := z_rest (b := b) (oa := oa) r
    have hc : (z_tr b oa v).category ≤ 2 := by cases v <;> simp [z_tr, Value.category]
    simp only [List.map_cons, List.sum_cons, List.length_cons]
    omega
/-- a static method of np parameters is called -/
def o_cS (M' : zMD) (np : Nat) : zOp := fun X d K _ k n pc ls st L μ => bif Nat.ble np st.length && Nat.ble (st.drop np).length 4 then
  1 ≤ d ∧ ∃ Q' : zRQ, zC X (d - 1) 0 0 M' (st.take np).reverse L μ Q' ∧ ∀ v L' μ', Q' v L' μ' → K k n (pc + 3) ls (v.toList ++ st.drop np) L' μ' else False
theorem z_rm {M : zMD} {X : zXs} {d : Nat} {Q : zRQ} {M' : zMD} {np : Nat} (hM : zMok M' np) {p : Program} {l : Launch} {e : Env} {R : Room} {s : State} {x : MethodId × Array Value × List Frame × Method × Code} {y : Nat × (Nat → Nat) × va_G × (Nat → ClassId)} {z : (State → Prop) × Nat × Nat} (h1 : 1 ≤ d) (G : zGood X d ((p, l, e, R, s), x, y, z) M Q) : (d - 1) + 1 ≤ R.frames ∧ 8 + (M'.2.2.1 + 11) + 64 * (d - 1) ≤ R.locals := by
  have h2 := G.2.2.1
  have h3 := hM.2.2.2.2
  omega
theorem ok_cS {M M' : zMD} {pc idx np : Nat} (hM : zMok M' np) (hd : decode M.2.1 pc = .ok (.invokestatic idx, 3)) (hs : Cond.static M'.1 ∈ tbG) (hl : Cond.methodLink M.1.cls idx M'.1 ∈ tbG) : zOk M pc (o_cS M' np) := fun X d Q k n ls st L μ h => by
  obtain ⟨hc, h1, Q', hC, h⟩ := z_cd h
  rw [Bool.and_eq_true] at hc
  have hnp := Nat.le_of_ble_eq_true hc.1
  have h4 := Nat.le_of_ble_eq_true hc.2
  refine z_call (M' := M') (rest := st.drop np) (as := (st.take np).reverse) (Nat.zero_le _) (Nat.zero_le _) (fun p l e R s m args below meth c b oa D ca Z mc ms G H locs cells slots lsM hf hR hWd hsz => ?_) h
  have hts := G.1.2.2.2.2.2.1
  exact va_runS (As := (st.take np).reverse.map (z_tr b oa)) ⟨G.1.1, G.1.2.1, G.1.2.2.2.1, G.1.2.2.2.2.1, hts⟩ (hC l b oa D ca) ⟨callB_of np hts (z_good M' hM) rfl rfl rfl (hts _ hM.2.2.1) (hts _ hl) hM.2.2.2.1 (z_rm hM h1 G), hts _ hs⟩ ⟨z_blind, fun U hU hW => ⟨rfl, by rw [hU]; exact hWd.warm hW, by rw [hU]; exact hR⟩⟩ rfl (by simp; omega) hsz (by rw [List.map_reverse, List.reverse_reverse, ← List.map_append, List.take_append_drop]) (by show 2 * 0 + _ ≤ 8; have := z_rest (b := b) (oa := oa) (st.drop np); omega) hd hf
theorem ok_cSN {M M' : zMD} {pc idx np : Nat} {host : String} (hM : zMok M' np) (hd : decode M.2.1 pc = .ok (.invokestatic idx, 3)) (hs : Cond.static M'.1 ∈ tbG) (hl : (M.1.cls, idx, M'.1, host) ∈ z_ml) : zOk M pc (o_cS M' np) := fun X d Q k n ls st L μ h => by
  obtain ⟨hc, h1, Q', hC, h⟩ := z_cd h
  rw [Bool.and_eq_true] at hc
  have hnp := Nat.le_of_ble_eq_true hc.1
  have h4 := Nat.le_of_ble_eq_true hc.2
  refine z_call (M' := M') (rest := st.drop np) (as := (st.take np).reverse) (Nat.zero_le _) (Nat.zero_le _) (fun p l e R s m args below meth c b oa D ca Z mc ms G H locs cells slots lsM hf hR hWd hsz => ?_) h
  have hts := G.1.2.2.2.2.2.1
  exact va_runSN (As := (st.take np).reverse.map (z_tr b oa)) ⟨G.1.1, G.1.2.1, G.1.2.2.2.1, G.1.2.2.2.2.1, hts⟩ (hC l b oa D ca) ⟨va_cnB np hts (z_good M' hM) rfl rfl rfl (hWd.2.1.1 _ hl) (hts _ hM.2.2.1) hM.2.2.2.1 (z_rm hM h1 G), hts _ hs, trivial⟩ ⟨z_blind, fun U hU hW => ⟨rfl, by rw [hU]; exact hWd.warm hW, by rw [hU]; exact hR⟩⟩ rfl (by simp; omega) hsz (by rw [List.map_reverse, List.reverse_reverse, ← List.map_append, List.take_append_drop]) (by show 2 * 0 + _ ≤ 8; have := z_rest (b := b) (oa := oa) (st.drop np); omega) hd hf
/-- a method of an object of class ci is called -/
def o_cV (M' : zMD) (np ci : Nat) : zOp := fun X d K _ k n pc ls st L μ => match st.drop np with
  | .ref a :: rest => bif Nat.ble rest.length 4 then
    (1 ≤ d ∧ a < 1000000 ∧ ∃ w, L[a]? = some (ci, w)) ∧ ∃ Q' : zRQ, zC X (d - 1) 0 0 M' (.ref a :: (st.take np).reverse) L μ Q' ∧ ∀ v L' μ', Q' v L' μ' → K k n (pc + 3) ls (v.toList ++ rest) L' μ' else False
  | _ => False
theorem z_recv {b : Nat} {oa : Nat → Nat} {D : va_G} {ca : Nat → ClassId} {L : List zSh} {μ : zMem} {H : Heap} {U : State} {X : zXs} {a ci w : Nat} {C : String} {T : u_T} {N : Nat} (hc : clT[ci]? = some (C, T, N)) (hw : L[a]? = some (ci, w)) (hR : zRel b oa D ca L μ H) (hWd : zWd b oa D ca X U H) : ∃ cellB : Cell, H[b + a]? = some cellB ∧ cellB.vm.isStatics = false ∧ U.vm.findClass C = some cellB.cls :=
  va_recv hWd.1 hR.1 hc ((z_ws_get hw).trans (congrArg some (congrArg (Prod.mk (b + a)) (z_ent_o (z_cls hc).1))))
theorem ok_cV {M M' : zMD} {pc idx np ci : Nat} {T : u_T} {N : Nat} (hc : clT[ci]? = some (M'.1.cls, T, N)) (hM : zMok M' np) (hd : decode M.2.1 pc = .ok (.invokevirtual idx, 3)) (hi : Cond.instanceMethod M'.1 ∈ tbG) (hs : Cond.selects M'.1.cls M'.1 M'.1 ∈ tbG) (hl : Cond.methodLink M.1.cls idx M'.1 ∈ tbG) : zOk M pc (o_cV M' np ci) := fun X d Q k n ls st L μ h => by
  unfold o_cV at h
  split at h
  · rename_i a rest hdr
    obtain ⟨h4, ⟨h1, ha, w, hw⟩, Q', hC, h⟩ := z_cd h
    have h4 := Nat.le_of_ble_eq_true h4
    have hlen : np + (rest.length + 1) = st.length := by
      have := congrArg List.length hdr
      simp at this
      omega
    have hst : st = st.take np ++ .ref a :: rest := by rw [← hdr, List.take_append_drop]
    refine z_call (M' := M') (rest := rest) (as := .ref a :: (st.take np).reverse) (Nat.zero_le _) (Nat.zero_le _) (fun p l e R s m args below meth c b oa D ca Z mc ms G H locs cells slots lsM hf hR hWd hsz => ?_) h
    have hts := G.1.2.2.2.2.2.1
    have hta : z_tr b oa (.ref a) = .ref (b + a) := congrArg Value.ref (z_ta_in ha)
    have hM1 := hC l b oa D ca
    rw [List.map_cons, hta] at hM1 ⊢
    refine va_runV (b := b + a) (C := M'.1.cls) (As := (st.take np).reverse.map (z_tr b oa)) ⟨G.1.1, G.1.2.1, G.1.2.2.2.1, G.1.2.2.2.2.1, hts⟩ hM1 ⟨callB_of np hts (z_good M' hM) rfl rfl rfl (hts _ hM.2.2.1) (hts _ hl) hM.2.2.2.1 (z_rm hM h1 G), hts _ hi, hts _ hs⟩ ⟨?_, z_recv hc hw hR hWd, fun U hU hW => ⟨rfl, by rw [hU]; exact hWd.warm hW, by rw [hU]; exact hR⟩⟩ rfl (by simp; omega) hsz ?_ (by show 2 * 0 + _ ≤ 8; have := z_rest (b := b) (oa := oa) rest; omega) hd hf
    · have := z_blind (b := b) (oa := oa) (D := D) (ca := ca) (X := X) (L := L) (μ := μ) (as := .ref a :: (st.take np).reverse)
      rw [List.map_cons, hta] at this
      exact this
    · show st.map (z_tr b oa) = _
      rw [List.map_reverse, List.reverse_reverse, ← hta, ← List.map_cons, ← List.map_append, ← hst]
  · exact h.elim
end
section
/-! Math, Object's constructor, new cells, arraycopy -/
theorem ok_ldc_w {M : zMD} {pc idx : Nat} {v : Int32} (hd : decode M.2.1 pc = .ok (.ldc_w idx, 3)) (hc : Jvm.Cond.constant M.1.cls idx v ∈ tbG) : zOk M pc (o_con (.int v) 3) := fun _ _ _ _ _ _ _ _ _ h => z_go (fun _ _ _ _ _ _ _ _ _ _ _ _ _ _ _ _ _ G _ _ _ _ _ _ _ _ _ _ w => lv_ldcw G.1.1 G.1.2.1 G.1.2.2.2.2.1 (G.1.2.2.2.2.2.1 _ hc) hd w) h
theorem z_lmax : Cond.code Lib.Math.max.name Lib.Math.max.code 2 (some .int) ∈ tbG := tbG_mem 552 (by decide +kernel) (by decide +kernel)
theorem z_lmin : Cond.code Lib.Math.min.name Lib.Math.min.code 2 (some .int) ∈ tbG := tbG_mem 549 (by decide +kernel) (by decide +kernel)
theorem z_smax : Cond.static Lib.Math.max.name ∈ tbG := tbG_mem 551 (by decide +kernel) (by decide +kernel)
theorem z_smin : Cond.static Lib.Math.min.name ∈ tbG := tbG_mem 548 (by decide +kernel) (by decide +kernel)
theorem z_imath : Cond.initialized "java/lang/Math" ∈ tbG := tbG_mem 97 (by decide +kernel) (by decide +kernel)
theorem z_locode : Cond.code Lib.objectInit ⟨#[0xb1]⟩ 1 none ∈ tbG := tbG_mem 108 (by decide +kernel) (by decide +kernel)
theorem z_loinst : Cond.instanceMethod Lib.objectInit ∈ tbG := tbG_mem 107 (by decide +kernel) (by decide +kernel)
theorem z_acnat : Cond.native arraycopyName ∈ tbG := tbG_mem 760 (by decide +kernel) (by decide +kernel)
theorem z_acst : Cond.static arraycopyName ∈ tbG := tbG_mem 759 (by decide +kernel) (by decide +kernel)
theorem z_isys : Cond.initialized "java/lang/System" ∈ tbG := tbG_mem 100 (by decide +kernel) (by decide +kernel)
theorem z_aint : Cond.arrayClass .int ∈ tbG := tbG_mem 145 (by decide +kernel) (by decide +kernel)
theorem z_abool : Cond.arrayClass .boolean ∈ tbG := tbG_mem 915 (by decide +kernel) (by decide +kernel)
def o_mmax : zOp := fun _ d K _ k n pc ls st L μ => match st with
  | .int y :: .int x :: st' => bif Nat.ble st'.length 4 then 1 ≤ d ∧ K k n (pc + 3) ls (.int (if x < y then y else x) :: st') L μ else False
  | _ => False
def o_mmin : zOp := fun _ d K _ k n pc ls st L μ => match st with
  | .int y :: .int x :: st' => bif Nat.ble st'.length 4 then 1 ≤ d ∧ K k n (pc + 3) ls (.int (if y < x then y else x) :: st') L μ else False
  | _ => False
theorem ok_mmax {M : zMD} {pc idx : Nat} (hd : decode M.2.1 pc = .ok (.invokestatic idx, 3)) (hl : Cond.methodLink M.1.cls idx Lib.Math.max.name ∈ tbG) : zOk M pc o_mmax := fun X d Q k n ls st L μ h => match st, h with
  | .int y :: .int x :: st', h => by
    obtain ⟨h4, h1, h⟩ := z_cd h
    have h4 := Nat.le_of_ble_eq_true h4
    refine z_go (fun p l e R s m args below meth c b oa D ca Z mc ms G H locs cells slots lsM hk hn hR hS hL w => ?_) h
    have hts := G.1.2.2.2.2.2.1
    have hrm := G.2.2.1
    have hr := z_rest (b := b) (oa := oa) st'
    exact va_mmax G.1.1 G.1.2.1 (G.1.2.2.2.1.trans hL.2.1.symm) G.1.2.2.2.2.1 (hts _ hl) (hts _ z_smax) (hts _ z_imath) (hts _ z_lmax) (by omega) (by omega) (by omega) (by omega) hd w
theorem ok_mmin {M : zMD} {pc idx : Nat} (hd : decode M.2.1 pc = .ok (.invokestatic idx, 3)) (hl : Cond.methodLink M.1.cls idx Lib.Math.min.name ∈ tbG) : zOk M pc o_mmin := fun X d Q k n ls st L μ h => match st, h with
  | .int y :: .int x :: st', h => by
    obtain ⟨h4, h1, h⟩ := z_cd h
    have h4 := Nat.le_of_ble_eq_true h4
    refine z_go (fun p l e R s m args below meth c b oa D ca Z mc ms G H locs cells slots lsM hk hn hR hS hL w => ?_) h
    have hts := G.1.2.2.2.2.2.1
    have hrm := G.2.2.1
    have hr := z_rest (b := b) (oa := oa) st'
    exact va_mmin G.1.1 G.1.2.1 (G.1.2.2.2.1.trans hL.2.1.symm) G.1.2.2.2.2.1 (hts _ hl) (hts _ z_smin) (hts _ z_imath) (hts _ z_lmin) (by omega) (by omega) (by omega) (by omega) hd w
def o_oini : zOp := fun _ d K _ k n pc ls st L μ => match st with
  | .ref _ :: st' => bif Nat.ble st'.length 4 then 1 ≤ d ∧ K k n (pc + 3) ls st' L μ else False
  | _ => False
theorem ok_oini {M : zMD} {pc idx : Nat} (hd : decode M.2.1 pc = .ok (.invokespecial idx, 3)) (hl : Cond.methodLink M.1.cls idx Lib.objectInit ∈ tbG) : zOk M pc o_oini := fun X d Q k n ls st L μ h => match st, h with
  | .ref a :: st', h => by
    obtain ⟨h4, h1, h⟩ := z_cd h
    have h4 := Nat.le_of_ble_eq_true h4
    refine z_go (fun p l e R s m args below meth c b oa D ca Z mc ms G H locs cells slots lsM hk hn hR hS hL w => ?_) h
    have hts := G.1.2.2.2.2.2.1
    have hrm := G.2.2.1
    have hr := z_rest (b := b) (oa := oa) st'
    exact W.objInit G.1.1 G.1.2.1 G.1.2.2.2.2.1 (hts _ hl) (hts _ z_loinst) (hts _ z_locode) rfl (hL.2.1.trans G.1.2.2.2.1.symm) rfl hd (by omega) (by show 2 * 0 + _ + 12 ≤ _; omega) w
/-- a new cell's memory -/
def z_zr (μ : zMem) (a : Nat) : zMem := (fun b j => if b = a then 0 else μ.1 b j, fun b j => if b = a then 0 else μ.2.1 b j, fun b j => if b = a then none else μ.2.2 b j)
theorem z_ent_Z {b : Nat} {oa : Nat → Nat} {ca : Nat → ClassId} {μ : zMem} {a : Nat} (x : Nat) (hx : x ≠ a) (s : zSh) : z_ent b oa ca s (z_zr μ a) x = z_ent b oa ca s μ x := by
  unfold z_ent z_fv z_zr
  simp only [if_neg hx]
theorem z_ws_push {b : Nat} {oa : Nat → Nat} {ca : Nat → ClassId} {L : List zSh} {μ : zMem} {sh : zSh} : z_ws b oa ca (L ++ [sh]) (z_zr μ L.length) = z_ws b oa ca L μ ++ [(b + L.length, z_ent b oa ca sh (z_zr μ L.length) L.length)] := by
  unfold z_ws
  rw [List.length_append, List.length_singleton, List.range_succ, List.map_append]
  congr 1
  · refine List.map_congr_left fun a ha => ?_
    have ha : a < L.length := List.mem_range.mp ha
    have e : (L ++ [sh]).getD a (0, 0) = L.getD a (0, 0) := by rw [List.getD_eq_getElem?_getD, List.getD_eq_getElem?_getD, List.getElem?_append_left ha]
    rw [e, z_ent_Z a (Nat.ne_of_lt ha)]
  · simp
/-- behind a new cell -/
theorem z_nw {M : zMD} {X : zXs} {d : Nat} {Q : zRQ} {k n pc pc' N : Nat} {ls : zLs} {st st' : List Value} {L : List zSh} {μ : zMem} {sh : zSh} (hl : L.length < 1000000) (hk0 : 1 ≤ k) (hn0 : N ≤ n)
    (hg : ∀ (p : Program) (l : Launch) (e : Env) (R : Room) (s : State) (m : MethodId) (args : Array Value) (below : List Frame) (meth : Method) (c : Code) (b : Nat) (oa : Nat → Nat) (D : va_G) (ca : Nat → ClassId) (Z : State → Prop) (mc ms : Nat), zGood X d ((p, l, e, R, s), (m, args, below, meth, c), (b, oa, D, ca), (Z, mc, ms)) M Q → ∀ (H : Heap) (locs : List Loc) (cells slots : Nat) (lsM : Array Slot), cells + 1 ≤ R.cells → slots + N ≤ R.slots → H.size = b + L.length →
      (∀ H1 : Heap, va_at D clT (b + L.length, z_ent b oa ca sh (z_zr μ L.length) L.length) H1 → H1.size = b + L.length + 1 → (∀ q : Nat, q < b + L.length → H1[q]? = H[q]?) → W p l e R s m args below meth c H1 locs (cells + 1) (slots + N) Z (F0 m pc' lsM (.ref (b + L.length) :: st'.map (z_tr b oa)))) → W p l e R s m args below meth c H locs cells slots Z (F0 m pc lsM (st.map (z_tr b oa))))
    (h : zT X d M Q (k - 1) (n - N) pc' ls (.ref L.length :: st') (L ++ [sh]) (z_zr μ L.length)) : zT X d M Q k n pc ls st L μ := by
  intro ⟨⟨p, l, e, R, s⟩, ⟨m, args, below, meth, c⟩, ⟨b, oa, D, ca⟩, ⟨Z, mc, ms⟩⟩ G H locs cells slots lsM hk hn hR hS hL
  have hrm := G.2.2.1
  refine hg p l e R s m args below meth c b oa D ca Z mc ms G H locs cells slots lsM (by omega) (by omega) hR.2 fun H1 hat hz hq => ?_
  have hw := h ((p, l, e, R, s), (m, args, below, meth, c), (b, oa, D, ca), (Z, mc, ms)) G H1 locs (cells + 1) (slots + N) lsM (by omega) (by omega) ⟨?_, ?_⟩ ?_ hL
  · have e1 : z_tr b oa (.ref L.length) = .ref (b + L.length) := congrArg Value.ref (z_ta_in hl)
    rw [List.map_cons, e1] at hw
    exact hw
  · rw [z_ws_push]
    refine va_P.app (hR.1.kept fun j q hj => hq q.1 (by have := (hR.1 j q hj).lt; have := hR.2; omega)) fun j q hj => ?_
    have h0 : j < 1 := (List.getElem?_eq_some_iff.mp hj).1
    rw [show j = 0 by omega] at hj
    cases hj
    exact hat
  · rw [hz, List.length_append, List.length_singleton, Nat.add_assoc]
  · have := hR.2
    exact ⟨Nat.le_trans hS.1 (by omega), fun q h1 h2 => (hq q (by have := hS.1; omega)).trans (hS.2.1 q h1 h2), hS.2.2⟩
def o_new (ci : Nat) : zOp := fun _ _ K _ k n pc ls st L μ => (L.length < 1000000 ∧ 1 ≤ k ∧ z_nf ci ≤ n) ∧ K (k - 1) (n - z_nf ci) (pc + 3) ls (.ref L.length :: st) (L ++ [(ci, 0)]) (z_zr μ L.length)
theorem z_def {ty : FieldType} {a f : Nat} {μ : zMem} {ci : Nat} (ht : z_ft ci f = ty) (hb : ty ≠ .byte ∧ ty ≠ .char ∧ ty ≠ .short ∧ ty ≠ .float ∧ ty ≠ .double) : defaultValue ty = z_fv (z_zr μ a) a ci f := by
  unfold z_fv z_fk
  rw [ht]
  unfold z_zr
  cases ty <;> first | (simp [z_tk, defaultValue, z_rv]; done) | (simp at hb; done)
theorem z_nob {ci : Nat} {C : String} {T : u_T} {N j : Nat} (hc : clT[ci]? = some (C, T, N)) (hj : j < N) : z_ft ci j ≠ .byte ∧ z_ft ci j ≠ .char ∧ z_ft ci j ≠ .short ∧ z_ft ci j ≠ .float ∧ z_ft ci j ≠ .double := by
  have hlt : ci < 8 := (List.getElem?_eq_some_iff.mp hc).1
  have h : ∀ c, c < 8 → ∀ i, i < 43 → (z_ft c i ≠ .byte ∧ z_ft c i ≠ .char ∧ z_ft c i ≠ .short ∧ z_ft c i ≠ .float ∧ z_ft c i ≠ .double) := by decide +kernel
  have hN : N ≤ 43 := by
    have h2 : ∀ c, c < 8 → z_nf c ≤ 43 := by decide +kernel
    rw [← (z_cls hc).2.1]
    exact h2 ci hlt
  exact h ci hlt j (by omega)
theorem ok_new {M : zMD} {pc idx ci : Nat} {C : String} {T : u_T} {N : Nat} (hd : decode M.2.1 pc = .ok (.new idx, 3)) (hc : clT[ci]? = some (C, T, N)) (hl : Cond.classLink M.1.cls idx C ∈ tbG) (hi : Cond.instantiable C N ∈ tbG) (hini : Cond.initialized C ∈ tbG) : zOk M pc (o_new ci) := fun X d Q k n ls st L μ h => by
  obtain ⟨⟨h1, h2, h3⟩, h⟩ := h
  obtain ⟨h10, hnf, hu, hty, hnm⟩ := z_cls hc
  refine z_nw h1 h2 h3 (fun p l e R s m args below meth c b oa D ca Z mc ms G H locs cells slots lsM hcl hsl hz w => ?_) h
  have hts := G.1.2.2.2.2.2.1
  have hKn := G.2.1.1.1 ci _ hc
  rw [hnf] at hsl w
  refine W.newcK G.1.1 G.1.2.1 G.1.2.2.2.2.1 (hts _ hl) (hts _ hi) (hts _ hini) rfl hd hcl hsl hKn.2.1 hz fun H1 kC hkC e1 z1 o1 => ?_
  refine w H1 ?_ z1 o1
  rw [z_ent_o h10]
  refine ⟨_, hc, (u_born (z_ft ci) hts hu hKn hkC e1 hty).to fun j hj => ?_⟩
  have hj' : j < N := hj
  have hq := z_def (a := L.length) (μ := μ) (rfl : z_ft ci j = z_ft ci j) (z_nob hc hj')
  show defaultValue (z_ft ci j) = ((List.range (z_nf ci)).map (fun k => z_tr b oa (z_fv (z_zr μ L.length) L.length ci k))).getD j .null
  rw [hnf, List.getD_eq_getElem?_getD, List.getElem?_map, List.getElem?_range hj']
  show _ = z_tr b oa (z_fv (z_zr μ L.length) L.length ci j)
  rw [← hq]
  cases z_ft ci j <;> rfl
def o_newa (t : Nat) : zOp := fun _ _ K _ k n pc ls st L μ => match st with
  | .int i :: st' => (L.length < 1000000 ∧ 1 ≤ k ∧ i.toNatClampNeg ≤ n ∧ ¬ i < 0 ∧ i.toNatClampNeg ≤ 1000000) ∧ K (k - 1) (n - i.toNatClampNeg) (pc + 2) ls (.ref L.length :: st') (L ++ [(t, i.toNatClampNeg)]) (z_zr μ L.length)
  | _ => False
theorem z_zr_i (μ : zMem) (a : Nat) : (z_zr μ a).1 a = fun _ => 0 := by
  funext j
  show (if a = a then (0 : Int32) else μ.1 a j) = 0
  rw [if_pos rfl]
theorem z_zr_r (b : Nat) (oa : Nat → Nat) (μ : zMem) (a : Nat) : (fun i => ((z_zr μ a).2.2 a i).map (z_ta b oa)) = fun _ => none := by
  funext j
  show ((if a = a then none else μ.2.2 a j).map (z_ta b oa)) = none
  rw [if_pos rfl]
  rfl
theorem ok_newa10 {M : zMD} {pc : Nat} (hd : decode M.2.1 pc = .ok (.newarray .int, 2)) : zOk M pc (o_newa 10) := fun X d Q k n ls st L μ h => match st, h with
  | .int i :: st', h => by
    obtain ⟨⟨h1, h2, h3, h4, h5⟩, h⟩ := h
    refine z_nw h1 h2 h3 (fun p l e R s m args below meth c b oa D ca Z mc ms G H locs cells slots lsM hcl hsl hz w => ?_) h
    refine va_newaK (atype := .int) G.1.1 G.1.2.1 (G.1.2.2.2.2.2.1 _ z_aint) rfl hd rfl h4 rfl (by show i.toNatClampNeg * 4 ≤ _; omega) hcl hsl hz fun H1 cA e1 z1 o1 hAr hNm => ?_
    have hca : cA = ca 10 := Option.some.inj (hNm.symm.trans (G.2.1.1.2 0 _ rfl).2)
    subst hca
    refine w H1 ?_ z1 o1
    rw [z_ent_i (by omega) (by omega), z_zr_i]
    exact e1
theorem ok_newa11 {M : zMD} {pc : Nat} (hd : decode M.2.1 pc = .ok (.newarray .boolean, 2)) : zOk M pc (o_newa 11) := fun X d Q k n ls st L μ h => match st, h with
  | .int i :: st', h => by
    obtain ⟨⟨h1, h2, h3, h4, h5⟩, h⟩ := h
    refine z_nw h1 h2 h3 (fun p l e R s m args below meth c b oa D ca Z mc ms G H locs cells slots lsM hcl hsl hz w => ?_) h
    refine va_newaK (atype := .boolean) G.1.1 G.1.2.1 (G.1.2.2.2.2.2.1 _ z_abool) rfl hd rfl h4 rfl (by show i.toNatClampNeg * 1 ≤ _; omega) hcl hsl hz fun H1 cA e1 z1 o1 hAr hNm => ?_
    have hca : cA = ca 11 := Option.some.inj (hNm.symm.trans (G.2.1.1.2 1 _ rfl).2)
    subst hca
    refine w H1 ?_ z1 o1
    rw [z_ent_i (by omega) (by omega), z_zr_i]
    exact e1
def o_newq (ci : Nat) : zOp := fun _ _ K _ k n pc ls st L μ => match st with
  | .int i :: st' => (L.length < 1000000 ∧ 1 ≤ k ∧ i.toNatClampNeg ≤ n ∧ ¬ i < 0 ∧ i.toNatClampNeg ≤ 1000000) ∧ K (k - 1) (n - i.toNatClampNeg) (pc + 3) ls (.ref L.length :: st') (L ++ [(20 + ci, i.toNatClampNeg)]) (z_zr μ L.length)
  | _ => False
theorem ok_newq {M : zMD} {pc idx ci : Nat} {r : vw_C} (hci : ci = 2 ∨ ci = 3 ∨ ci = 5) (hd : decode M.2.1 pc = .ok (.anewarray idx, 3)) (hc : clT[ci]? = some r) (hl : Cond.classLink M.1.cls idx r.1 ∈ tbG) : zOk M pc (o_newq ci) := fun X d Q k n ls st L μ h => match st, h with
  | .int i :: st', h => by
    obtain ⟨⟨h1, h2, h3, h4, h5⟩, h⟩ := h
    refine z_nw h1 h2 h3 (fun p l e R s m args below meth c b oa D ca Z mc ms G H locs cells slots lsM hcl hsl hz w => ?_) h
    have hAO : va_AO r.1 s := by
      refine G.2.1.2.1.2.2.1 r.1 ?_
      rcases hci with rfl | rfl | rfl <;> cases hc <;> decide
    have ht : (z_tys ca)[z_tp (20 + ci)]? = some (ca (20 + ci), .object r.1) := by rcases hci with rfl | rfl | rfl <;> cases hc <;> rfl
    refine W.anew G.1.1 G.1.2.1 G.1.2.2.2.2.1 (G.1.2.2.2.2.2.1 _ hl) (va_AO.use hAO) rfl hd rfl h4 (by omega) hcl hsl fun cA kA comp f1 f2 f3 f4 => ?_
    obtain ⟨kA', comp', k1, k2, k3, k4⟩ := (G.2.1.1.2 _ _ ht).2
    have hca : cA = ca (20 + ci) := Option.some.inj (f1.symm.trans k4)
    subst hca
    have hz' : H.size = b + L.length := hz
    have z1 : (H.push ({ cls := ca (20 + ci), slots := Array.replicate i.toNatClampNeg .null, vm := .none } : Cell)).size = b + L.length + 1 := by rw [Array.size_push, hz]
    have e1 : (H.push ({ cls := ca (20 + ci), slots := Array.replicate i.toNatClampNeg .null, vm := .none } : Cell))[b + L.length]? = some (arrV (ca (20 + ci)) i.toNatClampNeg (fun _ => .null)) := by rw [← hz, Array.getElem?_push_size, ← arrV_new]
    have o1 : ∀ q : Nat, q < b + L.length → (H.push ({ cls := ca (20 + ci), slots := Array.replicate i.toNatClampNeg .null, vm := .none } : Cell))[q]? = H[q]? := fun q hq => by rw [Array.getElem?_push, if_neg (by omega)]
    have := w _ ?_ z1 o1
    · rw [← hz] at this
      exact this
    · rw [z_ent_r (by omega), z_zr_r]
      exact e1
/-- a constructor is called; it may make cells -/
def o_cI (M' : zMD) (np : Nat) : zOp := fun X d K _ k n pc ls st L μ => match st.drop np with
  | .ref a :: rest => bif Nat.ble rest.length 4 then
    (1 ≤ d ∧ a < 1000000) ∧ ∃ (k1 n1 : Nat) (Q' : zRQ), (k1 ≤ k ∧ n1 ≤ n) ∧ zC X (d - 1) k1 n1 M' (.ref a :: (st.take np).reverse) L μ Q' ∧ ∀ v L' μ', Q' v L' μ' → K (k - k1) (n - n1) (pc + 3) ls (v.toList ++ rest) L' μ' else False
  | _ => False
theorem ok_cI {M M' : zMD} {pc idx np : Nat} (hM : zMok M' np) (hd : decode M.2.1 pc = .ok (.invokespecial idx, 3)) (hnm : M'.1.name = "<init>") (hi : Cond.instanceMethod M'.1 ∈ tbG) (hl : Cond.methodLink M.1.cls idx M'.1 ∈ tbG) (hv : M'.2.2.2 = none := by rfl) : zOk M pc (o_cI M' np) := fun X d Q k n ls st L μ h => by
  unfold o_cI at h
  split at h
  · rename_i a rest hdr
    obtain ⟨h4, ⟨h1, ha⟩, k1, n1, Q', ⟨hk1, hn1⟩, hC, h⟩ := z_cd h
    have h4 := Nat.le_of_ble_eq_true h4
    have hlen : np + (rest.length + 1) = st.length := by
      have := congrArg List.length hdr
      simp at this
      omega
    have hst : st = st.take np ++ .ref a :: rest := by rw [← hdr, List.take_append_drop]
    refine z_call (M' := M') (rest := rest) (as := .ref a :: (st.take np).reverse) hk1 hn1 (fun p l e R s m args below meth c b oa D ca Z mc ms G H locs cells slots lsM hf hR hWd hsz => ?_) h
    have hts := G.1.2.2.2.2.2.1
    have hta : z_tr b oa (.ref a) = .ref (b + a) := congrArg Value.ref (z_ta_in ha)
    have hM1 := hC l b oa D ca
    rw [List.map_cons, hta] at hM1 ⊢
    have hcb := callB_of (R := R) (rm := { frames := d - 1, cells := k1, slots := n1, locals := 64 * (d - 1) }) (mc := k1) (ms := n1) np hts (z_good M' hM) rfl rfl rfl (hts _ hM.2.2.1) (hts _ hl) hM.2.2.2.1 (z_rm hM h1 G)
    rw [hv] at hcb
    refine va_runI (b := b + a) (As := (st.take np).reverse.map (z_tr b oa)) ⟨G.1.1, G.1.2.1, G.1.2.2.2.1, G.1.2.2.2.2.1, hts⟩ hM1 ⟨hcb, hnm, hts _ hi⟩ ⟨?_, fun U hU hW => ⟨rfl, by rw [hU]; exact hWd.warm hW, by rw [hU]; exact hR⟩⟩ rfl (by simp; omega) hsz ?_ (by show 2 * 0 + _ ≤ 8; have := z_rest (b := b) (oa := oa) rest; omega) hd hf
    · have := z_blind (b := b) (oa := oa) (D := D) (ca := ca) (X := X) (L := L) (μ := μ) (as := .ref a :: (st.take np).reverse)
      rw [List.map_cons, hta] at this
      exact this
    · show st.map (z_tr b oa) = _
      rw [List.map_reverse, List.reverse_reverse, ← hta, ← List.map_cons, ← List.map_append, ← hst]
  · exact h.elim
theorem ok_cIN {M M' : zMD} {pc idx np : Nat} {host : String} (hM : zMok M' np) (hd : decode M.2.1 pc = .ok (.invokespecial idx, 3)) (hnm : M'.1.name = "<init>") (hi : Cond.instanceMethod M'.1 ∈ tbG) (hl : (M.1.cls, idx, M'.1, host) ∈ z_ml) (hv : M'.2.2.2 = none := by rfl) : zOk M pc (o_cI M' np) := fun X d Q k n ls st L μ h => by
  unfold o_cI at h
  split at h
  · rename_i a rest hdr
    obtain ⟨h4, ⟨h1, ha⟩, k1, n1, Q', ⟨hk1, hn1⟩, hC, h⟩ := z_cd h
    have h4 := Nat.le_of_ble_eq_true h4
    have hlen : np + (rest.length + 1) = st.length := by
      have := congrArg List.length hdr
      simp at this
      omega
    have hst : st = st.take np ++ .ref a :: rest := by rw [← hdr, List.take_append_drop]
    refine z_call (M' := M') (rest := rest) (as := .ref a :: (st.take np).reverse) hk1 hn1 (fun p l e R s m args below meth c b oa D ca Z mc ms G H locs cells slots lsM hf hR hWd hsz => ?_) h
    have hts := G.1.2.2.2.2.2.1
    have hta : z_tr b oa (.ref a) = .ref (b + a) := congrArg Value.ref (z_ta_in ha)
    have hM1 := hC l b oa D ca
    rw [List.map_cons, hta] at hM1 ⊢
    have hcb := va_cnB (R := R) (rm := { frames := d - 1, cells := k1, slots := n1, locals := 64 * (d - 1) }) (mc := k1) (ms := n1) np hts (z_good M' hM) rfl rfl rfl (hWd.2.1.1 _ hl) (hts _ hM.2.2.1) hM.2.2.2.1 (z_rm hM h1 G)
    rw [hv] at hcb
    refine va_runIN (b := b + a) (As := (st.take np).reverse.map (z_tr b oa)) ⟨G.1.1, G.1.2.1, G.1.2.2.2.1, G.1.2.2.2.2.1, hts⟩ hM1 ⟨hcb, hnm, hts _ hi⟩ ⟨?_, fun U hU hW => ⟨rfl, by rw [hU]; exact hWd.warm hW, by rw [hU]; exact hR⟩⟩ rfl (by simp; omega) hsz ?_ (by show 2 * 0 + _ ≤ 8; have := z_rest (b := b) (oa := oa) rest; omega) hd hf
    · have := z_blind (b := b) (oa := oa) (D := D) (ca := ca) (X := X) (L := L) (μ := μ) (as := .ref a :: (st.take np).reverse)
      rw [List.map_cons, hta] at this
      exact this
    · show st.map (z_tr b oa) = _
      rw [List.map_reverse, List.reverse_reverse, ← hta, ← List.map_cons, ← List.map_append, ← hst]
  · exact h.elim
/-- System.arraycopy of int rows -/
def z_cp (μ : zMem) (a0 a1 sp dp n : Nat) : zMem := (fun b j => if b = a1 then va_cpy (μ.1 a0) (μ.1 a1) sp dp n j else μ.1 b j, μ.2.1, μ.2.2)
def o_copy : zOp := fun _ d K _ k n pc ls st L μ => match st with
  | .int c :: .int dp :: .ref a1 :: .int sp :: .ref a0 :: st' => bif Nat.ble st'.length 4 then (1 ≤ d ∧ (a0 < 1000000 ∧ a1 < 1000000) ∧ (¬ sp < 0 ∧ ¬ dp < 0 ∧ ¬ c < 0) ∧ ∃ n0 n1, (L[a0]? = some (10, n0) ∧ L[a1]? = some (10, n1)) ∧ sp.toNatClampNeg + c.toNatClampNeg ≤ n0 ∧ dp.toNatClampNeg + c.toNatClampNeg ≤ n1) ∧ K k n (pc + 3) ls st' L (z_cp μ a0 a1 sp.toNatClampNeg dp.toNatClampNeg c.toNatClampNeg) else False
  | _ => False
theorem z_ent_C {b : Nat} {oa : Nat → Nat} {ca : Nat → ClassId} {μ : zMem} {a0 a1 sp dp n : Nat} (x : Nat) (hx : x ≠ a1) (s : zSh) : z_ent b oa ca s (z_cp μ a0 a1 sp dp n) x = z_ent b oa ca s μ x := by
  unfold z_ent z_fv z_cp
  simp only [if_neg hx]
theorem ok_copy {M : zMD} {pc idx : Nat} (hd : decode M.2.1 pc = .ok (.invokestatic idx, 3)) (hl : Cond.methodLink M.1.cls idx arraycopyName ∈ tbG) : zOk M pc o_copy := fun X d Q k n ls st L μ h => match st, h with
  | .int cn :: .int dp :: .ref a1 :: .int sp :: .ref a0 :: st', h => by
    obtain ⟨h4, ⟨hd1, ⟨ha0, ha1⟩, ⟨h1, h2, h3⟩, n0, n1, ⟨hw0, hw1⟩, h5, h6⟩, h⟩ := z_cd h
    have h4 := Nat.le_of_ble_eq_true h4
    intro ⟨⟨p, l, e, R, s⟩, ⟨m, args, below, meth, c⟩, ⟨b, oa, D, ca⟩, ⟨Z, mc, ms⟩⟩ G H locs cells slots lsM hk hn hR hS hL
    have hts := G.1.2.2.2.2.2.1
    have hrm := G.2.2.1
    have hr := z_rest (b := b) (oa := oa) st'
    show W p l e R s m args below meth c H locs cells slots Z (F0 m pc lsM (.int cn :: .int dp :: .ref (z_ta b oa a1) :: .int sp :: .ref (z_ta b oa a0) :: _))
    rw [z_ta_in ha0, z_ta_in ha1]
    have nn : ∀ z : Int32, ¬ z < 0 → z.toInt = (z.toNatClampNeg : Int) := by
      intro z hz
      have hz0 : (0 : Int) ≤ z.toInt := by
        have := Int32.not_lt.mp hz
        simpa using Int32.le_iff_toInt_le.mp this
      show z.toInt = ((z.toInt.toNat : Nat) : Int)
      omega
    have hnat : nativeFrameWords "java/lang/System" "arraycopy" 5 ≤ 40 := by decide +kernel
    intro T hT Xs
    have hc0 : H[b + a0]? = some (vp_cell (ca 10) (n0, .inl (μ.1 a0))) := hR.1 a0 _ ((z_ws_get hw0).trans (congrArg some (congrArg (Prod.mk (b + a0)) (z_ent_i (by omega) (by omega)))))
    have hc1 : H[b + a1]? = some (vp_cell (ca 10) (n1, .inl (μ.1 a1))) := hR.1 a1 _ ((z_ws_get hw1).trans (congrArg some (congrArg (Prod.mk (b + a1)) (z_ent_i (by omega) (by omega)))))
    obtain ⟨-, k0, hk0, cm0, hkk0⟩ := (G.2.1.1.2 0 _ rfl).1 n0 (fun j => .int (μ.1 a0 j))
    obtain ⟨-, k1, hk1, cm1, hkk1⟩ := (G.2.1.1.2 0 _ rfl).1 n1 (fun j => .int (μ.1 a1 j))
    obtain ⟨vm', X', step⟩ := Xs.arraycopy G.1.1 G.1.2.2.2.2.1 (hts _ hl) (hts _ z_acnat) (hts _ z_acst) (hts _ z_isys) (src := b + a0) (dst := b + a1) (cs := vp_cell (ca 10) (n0, .inl (μ.1 a0))) (cd := vp_cell (ca 10) (n1, .inl (μ.1 a1))) (srcPos := sp) (destPos := dp) (n := cn) (by rw [hT]; exact hc0) (by rw [hT]; exact hc1)
      (fun _ h => by cases h) (fun _ h => by cases h) (fun h => by cases h) (fun h => by cases h) hk0 hk1 hkk0 hkk1 rfl h1 h2 h3
      (by rw [nn sp h1, nn cn h3]; show ¬ _ > ((arrV (ca 10) n0 (fun j => .int (μ.1 a0 j))).slots.size : Int); rw [arrV_size]; omega)
      (by rw [nn dp h2, nn cn h3]; show ¬ _ > ((arrV (ca 10) n1 (fun j => .int (μ.1 a1 j))).slots.size : Int); rw [arrV_size]; omega)
      (fun vm₁ _ i hi => by
        have e : (vp_cell (ca 10) (n0, .inl (μ.1 a0))).slots.getD (sp.toNatClampNeg + i) .null = .int (μ.1 a0 (sp.toNatClampNeg + i)) := by
          show (arrV (ca 10) n0 (fun j => .int (μ.1 a0 j))).slots.getD _ _ = _
          rw [Array.getD_eq_getD_getElem?, arrV_read _ _ (by omega)]
          rfl
        refine ⟨?_, ?_⟩
        · rw [e]; rfl
        · rw [e]; exact trivial)
      (g := F0 m pc lsM (.int cn :: .int dp :: .ref (b + a1) :: .int sp :: .ref (b + a0) :: st'.map (z_tr b oa))) rfl (hL.2.1.trans G.1.2.2.2.1.symm) (rest := st'.map (z_tr b oa)) rfl (by rw [G.1.2.1]; exact hd) (by omega) (by show 2 * 0 + _ + (nativeFrameWords "java/lang/System" "arraycopy" 5 + 11) ≤ _; omega)
    have e1 : copied (vp_cell (ca 10) (n0, .inl (μ.1 a0))) (vp_cell (ca 10) (n1, .inl (μ.1 a1))) sp dp cn = vp_cell (ca 10) (n1, .inl (va_cpy (μ.1 a0) (μ.1 a1) sp.toNatClampNeg dp.toNatClampNeg cn.toNatClampNeg)) := va_copied (fun z => .int z) (ca 10) (ca 10) (μ.1 a0) (μ.1 a1) h5
    rw [e1] at X' step
    have hlt : b + a1 < H.size := (Array.getElem?_eq_some_iff.mp hc1).1
    generalize hcell : vp_cell (ca 10) (n1, .inl (va_cpy (μ.1 a0) (μ.1 a1) sp.toNatClampNeg dp.toNatClampNeg cn.toNatClampNeg)) = cell at X' step
    have hheap : ((T.setVm vm').setCell (b + a1) cell).heap = H.setIfInBounds (b + a1) cell := by rw [← hT]; rfl
    have oq : ∀ q : Nat, q ≠ b + a1 → (H.setIfInBounds (b + a1) cell)[q]? = H[q]? := fun q hq => by simp [Array.getElem?_setIfInBounds, Ne.symm hq]
    have hat : va_at D clT (b + a1, z_ent b oa ca (10, n1) (z_cp μ a0 a1 sp.toNatClampNeg dp.toNatClampNeg cn.toNatClampNeg) a1) (H.setIfInBounds (b + a1) cell) := by
      rw [z_ent_i (by omega) (by omega)]
      show (H.setIfInBounds (b + a1) cell)[b + a1]? = some (vp_cell _ _)
      have e2 : (z_cp μ a0 a1 sp.toNatClampNeg dp.toNatClampNeg cn.toNatClampNeg).1 a1 = va_cpy (μ.1 a0) (μ.1 a1) sp.toNatClampNeg dp.toNatClampNeg cn.toNatClampNeg := by
        funext j
        show (if a1 = a1 then _ else _) = _
        rw [if_pos rfl]
      rw [e2, hcell]
      simp [Array.getElem?_setIfInBounds, hlt]
    have hP1 := hR.1.set z_ws_D (z_ws_get hw1) hat oq
    rw [z_ws_set hw1 rfl (fun x q s => z_ent_C x q s)] at hP1
    obtain ⟨t, q1, q2⟩ := h ((p, l, e, R, s), (m, args, below, meth, c), (b, oa, D, ca), (Z, mc, ms)) G (H.setIfInBounds (b + a1) cell) _ cells slots lsM hk hn ⟨hP1, by rw [Array.size_setIfInBounds]; exact hR.2⟩ ⟨by simp; exact hS.1, fun q g1 g2 => by
        rw [oq q (fun e => g2 (by rw [e]; exact Nat.le_add_right _ _))]
        exact hS.2.1 q g1 g2, fun q hq => by
        rcases List.mem_append.mp hq with h | h
        · exact hS.2.2 q h
        · obtain ⟨z, -, hz⟩ := List.mem_map.mp h
          rw [← hz]
          exact Nat.le_add_right _ _⟩ hL _ hheap X'
    exact ⟨t, step t q1, q2⟩
end
section
/-! the methods; links out of the tables (by gen.py) -/
def m_X0_init : zMD := (⟨"ShadowTax$Image", "<init>", "()V"⟩, prog_2_method_1_code, 1, none)
def m_X0_keep : zMD := (⟨"ShadowTax$Image", "keep", "(LShadowTax$Square;)V"⟩, prog_2_method_2_code, 4, none)
def m_X0_layBack : zMD := (⟨"ShadowTax$Image", "layBack", "(LShadowTax$Square;)V"⟩, prog_2_method_3_code, 4, none)
def m_X1_init : zMD := (⟨"ShadowTax$Reader", "<init>", "()V"⟩, prog_3_method_1_code, 1, none)
def m_X1_take : zMD := (⟨"ShadowTax$Reader", "take", "(I)I"⟩, prog_3_method_2_code, 2, some .int)
def m_X1_readInto : zMD := (⟨"ShadowTax$Reader", "readInto", "(LShadowTax$Rule;)I"⟩, prog_3_method_3_code, 3, some .int)
def m_X1_fail : zMD := (⟨"ShadowTax$Reader", "fail", "()V"⟩, prog_3_method_4_code, 1, none)
def m_X1_expect : zMD := (⟨"ShadowTax$Reader", "expect", "(I)V"⟩, prog_3_method_5_code, 2, none)
def m_X1_readLevel : zMD := (⟨"ShadowTax$Reader", "readLevel", "(II)V"⟩, prog_3_method_6_code, 6, none)
def m_X1_readOne : zMD := (⟨"ShadowTax$Reader", "readOne", "(I)V"⟩, prog_3_method_7_code, 2, none)
def m_X1_readBehind : zMD := (⟨"ShadowTax$Reader", "readBehind", "(III)V"⟩, prog_3_method_8_code, 4, none)
def m_X1_levelOf : zMD := (⟨"ShadowTax$Reader", "levelOf", "(I)I"⟩, prog_3_method_9_code, 1, some .int)
def m_X1_advance : zMD := (⟨"ShadowTax$Reader", "advance", "()V"⟩, prog_3_method_10_code, 1, none)
def m_X1_readNumber : zMD := (⟨"ShadowTax$Reader", "readNumber", "()I"⟩, prog_3_method_11_code, 2, some .int)
def m_X1_readWord : zMD := (⟨"ShadowTax$Reader", "readWord", "()I"⟩, prog_3_method_12_code, 1, some .int)
def m_X1_isWord : zMD := (⟨"ShadowTax$Reader", "isWord", "(Ljava/lang/String;)Z"⟩, prog_3_method_13_code, 3, some .boolean)
def m_X1_signOf : zMD := (⟨"ShadowTax$Reader", "signOf", "(I)I"⟩, prog_3_method_14_code, 1, some .int)
def m_X1_isLetter : zMD := (⟨"ShadowTax$Reader", "isLetter", "(I)Z"⟩, prog_3_method_15_code, 1, some .boolean)
def m_X1_isDigit : zMD := (⟨"ShadowTax$Reader", "isDigit", "(I)Z"⟩, prog_3_method_16_code, 1, some .boolean)
def m_X2_init : zMD := (⟨"ShadowTax$Rule", "<init>", "()V"⟩, prog_4_method_1_code, 1, none)
def m_X2_empty : zMD := (⟨"ShadowTax$Rule", "empty", "()V"⟩, prog_4_method_2_code, 1, none)
def m_X2_add : zMD := (⟨"ShadowTax$Rule", "add", "(I)V"⟩, prog_4_method_3_code, 2, none)
def m_X2_endPart : zMD := (⟨"ShadowTax$Rule", "endPart", "()V"⟩, prog_4_method_4_code, 1, none)
def m_X2_beFirst : zMD := (⟨"ShadowTax$Rule", "beFirst", "()V"⟩, prog_4_method_5_code, 1, none)
def m_X2_value : zMD := (⟨"ShadowTax$Rule", "value", "(I[I[I)I"⟩, prog_4_method_6_code, 8, some .int)
def m_X2_alone : zMD := (⟨"ShadowTax$Rule", "alone", "(II)I"⟩, prog_4_method_7_code, 2, some .int)
def m_X2_joined : zMD := (⟨"ShadowTax$Rule", "joined", "(III)I"⟩, prog_4_method_8_code, 3, some .int)
def m_X3_init : zMD := (⟨"ShadowTax$Sheet", "<init>", "()V"⟩, prog_5_method_1_code, 1, none)
def m_X3_isMissing : zMD := (⟨"ShadowTax$Sheet", "isMissing", "()Z"⟩, prog_5_method_2_code, 1, some .boolean)
def m_X3_become : zMD := (⟨"ShadowTax$Sheet", "become", "(II)V"⟩, prog_5_method_3_code, 3, none)
def m_X3_holds : zMD := (⟨"ShadowTax$Sheet", "holds", "(II)Z"⟩, prog_5_method_4_code, 3, some .boolean)
def m_X3_at : zMD := (⟨"ShadowTax$Sheet", "at", "(I)I"⟩, prog_5_method_5_code, 2, some .int)
def m_X3_write : zMD := (⟨"ShadowTax$Sheet", "write", "(II)V"⟩, prog_5_method_6_code, 3, none)
def m_X4_init : zMD := (⟨"ShadowTax$Square", "<init>", "()V"⟩, prog_6_method_1_code, 2, none)
def m_X4_has : zMD := (⟨"ShadowTax$Square", "has", "(I)Z"⟩, prog_6_method_2_code, 2, some .boolean)
def m_X4_come : zMD := (⟨"ShadowTax$Square", "come", "(III)I"⟩, prog_6_method_3_code, 5, some .int)
def m_X4_tell : zMD := (⟨"ShadowTax$Square", "tell", "(II)I"⟩, prog_6_method_4_code, 3, some .int)
def m_X4_put : zMD := (⟨"ShadowTax$Square", "put", "(III)V"⟩, prog_6_method_5_code, 4, none)
def m_X4_look : zMD := (⟨"ShadowTax$Square", "look", "(I)V"⟩, prog_6_method_6_code, 3, none)
def m_X4_measure : zMD := (⟨"ShadowTax$Square", "measure", "(II)V"⟩, prog_6_method_7_code, 5, none)
def m_X4_ruled : zMD := (⟨"ShadowTax$Square", "ruled", "(II)I"⟩, prog_6_method_8_code, 3, some .int)
def m_X4_cast : zMD := (⟨"ShadowTax$Square", "cast", "(I)V"⟩, prog_6_method_9_code, 10, none)
def m_X4_occupied : zMD := (⟨"ShadowTax$Square", "occupied", "()I"⟩, prog_6_method_10_code, 3, some .int)
def m_X4_shadowOf : zMD := (⟨"ShadowTax$Square", "shadowOf", "(IZ)I"⟩, prog_6_method_11_code, 4, some .int)
def m_X4_castWithout : zMD := (⟨"ShadowTax$Square", "castWithout", "(II)V"⟩, prog_6_method_12_code, 3, none)
def m_X4_dueOf : zMD := (⟨"ShadowTax$Square", "dueOf", "(I)I"⟩, prog_6_method_13_code, 2, some .int)
def m_X4_dueOfAll : zMD := (⟨"ShadowTax$Square", "dueOfAll", "()I"⟩, prog_6_method_14_code, 3, some .int)
def m_X4_dueOfDay : zMD := (⟨"ShadowTax$Square", "dueOfDay", "()I"⟩, prog_6_method_15_code, 3, some .int)
def m_X4_apart : zMD := (⟨"ShadowTax$Square", "apart", "()I"⟩, prog_6_method_16_code, 4, some .int)
def m_X4_leastByCell : zMD := (⟨"ShadowTax$Square", "leastByCell", "(IIZZ)I"⟩, prog_6_method_17_code, 11, some .int)
def m_X4_fitting : zMD := (⟨"ShadowTax$Square", "fitting", "(IILShadowTax$Sheet;)I"⟩, prog_6_method_18_code, 9, some .int)
def m_X4_fittingTexts : zMD := (⟨"ShadowTax$Square", "fittingTexts", "(ILShadowTax$Sheet;)I"⟩, prog_6_method_19_code, 8, some .int)
def m_X5_init : zMD := (⟨"ShadowTax$Thing", "<init>", "()V"⟩, prog_7_method_1_code, 1, none)
def m_X5_read : zMD := (⟨"ShadowTax$Thing", "read", "(I)I"⟩, prog_7_method_2_code, 2, some .int)
def m_X5_write : zMD := (⟨"ShadowTax$Thing", "write", "(II)V"⟩, prog_7_method_3_code, 3, none)
def m_X5_reach : zMD := (⟨"ShadowTax$Thing", "reach", "(I)I"⟩, prog_7_method_4_code, 4, some .int)
def m_X5_owed : zMD := (⟨"ShadowTax$Thing", "owed", "(II)I"⟩, prog_7_method_5_code, 5, some .int)
def m_X5_hides : zMD := (⟨"ShadowTax$Thing", "hides", "()Z"⟩, prog_7_method_6_code, 1, some .boolean)
def m_X5_isUnder : zMD := (⟨"ShadowTax$Thing", "isUnder", "(I)Z"⟩, prog_7_method_7_code, 4, some .boolean)
def m_X6_init : zMD := (⟨"ShadowTax", "<init>", "()V"⟩, prog_1_method_1_code, 2, none)
def m_X6_set : zMD := (⟨"ShadowTax", "set", "(III)I"⟩, prog_1_method_2_code, 5, some .int)
def m_X6_thing : zMD := (⟨"ShadowTax", "thing", "(III)I"⟩, prog_1_method_3_code, 4, some .int)
def m_X6_told : zMD := (⟨"ShadowTax", "told", "(II)I"⟩, prog_1_method_4_code, 3, some .int)
def m_X6_feed : zMD := (⟨"ShadowTax", "feed", "(I)I"⟩, prog_1_method_5_code, 2, some .int)
def m_X6_text : zMD := (⟨"ShadowTax", "text", "()I"⟩, prog_1_method_6_code, 2, some .int)
def m_X6_force : zMD := (⟨"ShadowTax", "force", "(I)I"⟩, prog_1_method_7_code, 3, some .int)
def m_X6_hour : zMD := (⟨"ShadowTax", "hour", "(III)I"⟩, prog_1_method_8_code, 4, some .int)
def m_X6_takes : zMD := (⟨"ShadowTax", "takes", "(I)I"⟩, prog_1_method_9_code, 2, some .int)
def m_X6_dark : zMD := (⟨"ShadowTax", "dark", "(I)I"⟩, prog_1_method_10_code, 2, some .int)
def m_X6_hours : zMD := (⟨"ShadowTax", "hours", "(I)I"⟩, prog_1_method_11_code, 2, some .int)
def m_X6_mostHour : zMD := (⟨"ShadowTax", "mostHour", "(Z)I"⟩, prog_1_method_12_code, 6, some .int)
def m_X6_fairestHour : zMD := (⟨"ShadowTax", "fairestHour", "(Z)I"⟩, prog_1_method_13_code, 6, some .int)
def m_X6_best : zMD := (⟨"ShadowTax", "best", "(III)I"⟩, prog_1_method_14_code, 4, some .int)
def m_X6_place : zMD := (⟨"ShadowTax", "place", "(III)I"⟩, prog_1_method_15_code, 4, some .int)
def m_X6_shade : zMD := (⟨"ShadowTax", "shade", "(III)I"⟩, prog_1_method_16_code, 8, some .int)
def m_X6_send : zMD := (⟨"ShadowTax", "send", "(II)I"⟩, prog_1_method_17_code, 10, some .int)
def m_X6_tells : zMD := (⟨"ShadowTax", "tells", "(III)I"⟩, prog_1_method_18_code, 5, some .int)
def m_X6_firstOtherwise : zMD := (⟨"ShadowTax", "firstOtherwise", "(LShadowTax$Sheet;I)I"⟩, prog_1_method_19_code, 4, some .int)
def m_X6_fittingClouds : zMD := (⟨"ShadowTax", "fittingClouds", "(LShadowTax$Sheet;I)I"⟩, prog_1_method_20_code, 10, some .int)
def m_X6_film : zMD := (⟨"ShadowTax", "film", "(II)I"⟩, prog_1_method_21_code, 5, some .int)
def m_X6_drawn : zMD := (⟨"ShadowTax", "drawn", "(I)I"⟩, prog_1_method_22_code, 2, some .int)
def m_X6_chance : zMD := (⟨"ShadowTax", "chance", "(IIII)J"⟩, prog_1_method_23_code, 7, some .long)
def m_X6_lookWithoutClouds : zMD := (⟨"ShadowTax", "lookWithoutClouds", "()V"⟩, prog_1_method_24_code, 3, none)
def m_X6_dueBySeed : zMD := (⟨"ShadowTax", "dueBySeed", "(I)I"⟩, prog_1_method_25_code, 5, some .int)
def m_X6_commonDivisor : zMD := (⟨"ShadowTax", "commonDivisor", "(II)I"⟩, prog_1_method_26_code, 6, some .int)
def m_X6_image : zMD := (⟨"ShadowTax", "image", "()I"⟩, prog_1_method_27_code, 1, some .int)
def m_X6_back : zMD := (⟨"ShadowTax", "back", "()I"⟩, prog_1_method_28_code, 1, some .int)
def m_X6_count : zMD := (⟨"ShadowTax", "count", "(I)I"⟩, prog_1_method_29_code, 2, some .int)
def m_X6_sheet : zMD := (⟨"ShadowTax", "sheet", "(III)I"⟩, prog_1_method_30_code, 4, some .int)
def m_X6_cell : zMD := (⟨"ShadowTax", "cell", "(III)I"⟩, prog_1_method_31_code, 5, some .int)
def m_X6_copy : zMD := (⟨"ShadowTax", "copy", "(IIIII)I"⟩, prog_1_method_32_code, 8, some .int)
def m_X6_things : zMD := (⟨"ShadowTax", "things", "(IIII)I"⟩, prog_1_method_33_code, 9, some .int)
def m_X6_taken : zMD := (⟨"ShadowTax", "taken", "(II)I"⟩, prog_1_method_34_code, 4, some .int)
def m_X6_fits : zMD := (⟨"ShadowTax", "fits", "(II)Z"⟩, prog_1_method_35_code, 2, some .boolean)
def m_X6_isHour : zMD := (⟨"ShadowTax", "isHour", "(I)Z"⟩, prog_1_method_36_code, 1, some .boolean)
def m_X6_isSheet : zMD := (⟨"ShadowTax", "isSheet", "(I)Z"⟩, prog_1_method_37_code, 2, some .boolean)
def m_X6_bounded : zMD := (⟨"ShadowTax", "bounded", "(II)I"⟩, prog_1_method_38_code, 2, some .int)
def m_X6_bits : zMD := (⟨"ShadowTax", "bits", "(II)I"⟩, prog_1_method_39_code, 2, some .int)
def m_X7_in : zMD := (⟨"ShadowTaxModel", "in", "(JJJ)Z"⟩, prog_9_method_2_code, 6, some .boolean)
def m_X7_within : zMD := (⟨"ShadowTaxModel", "within", "(III)I"⟩, prog_9_method_3_code, 3, some .int)
def m_X7_init : zMD := (⟨"ShadowTaxModel", "<init>", "()V"⟩, prog_9_method_4_code, 1, none)
def m_X7_spell : zMD := (⟨"ShadowTaxModel", "spell", "(IIIIIIIII)V"⟩, prog_9_method_5_code, 10, none)
def m_X7_isThing : zMD := (⟨"ShadowTaxModel", "isThing", "(I)Z"⟩, prog_9_method_6_code, 2, some .boolean)
def m_X7_isHour : zMD := (⟨"ShadowTaxModel", "isHour", "(I)Z"⟩, prog_9_method_7_code, 1, some .boolean)
def m_X7_leastOf : zMD := (⟨"ShadowTaxModel", "leastOf", "(I)I"⟩, prog_9_method_8_code, 1, some .int)
def m_X7_mostOf : zMD := (⟨"ShadowTaxModel", "mostOf", "(I)I"⟩, prog_9_method_9_code, 1, some .int)
def m_X7_set : zMD := (⟨"ShadowTaxModel", "set", "(III)I"⟩, prog_9_method_10_code, 5, some .int)
def m_X7_lays : zMD := (⟨"ShadowTaxModel", "lays", "(III)V"⟩, prog_9_method_11_code, 4, none)
def m_X7_thing : zMD := (⟨"ShadowTaxModel", "thing", "(III)I"⟩, prog_9_method_12_code, 4, some .int)
def m_X7_told : zMD := (⟨"ShadowTaxModel", "told", "(II)I"⟩, prog_9_method_13_code, 3, some .int)
def m_X7_feed : zMD := (⟨"ShadowTaxModel", "feed", "(I)I"⟩, prog_9_method_14_code, 2, some .int)
def m_X7_byteAt : zMD := (⟨"ShadowTaxModel", "byteAt", "(I)I"⟩, prog_9_method_15_code, 2, some .int)
def m_X7_next : zMD := (⟨"ShadowTaxModel", "next", "()V"⟩, prog_9_method_16_code, 3, none)
def m_X7_fail : zMD := (⟨"ShadowTaxModel", "fail", "()V"⟩, prog_9_method_17_code, 1, none)
def m_X7_isLetter : zMD := (⟨"ShadowTaxModel", "isLetter", "(II)Z"⟩, prog_9_method_18_code, 3, some .boolean)
def m_X7_isWord : zMD := (⟨"ShadowTaxModel", "isWord", "(IIIIIIII)Z"⟩, prog_9_method_19_code, 9, some .boolean)
def m_X7_isSign : zMD := (⟨"ShadowTaxModel", "isSign", "(I)Z"⟩, prog_9_method_20_code, 2, some .boolean)
def m_X7_opens : zMD := (⟨"ShadowTaxModel", "opens", "()Z"⟩, prog_9_method_21_code, 1, some .boolean)
def m_X7_name : zMD := (⟨"ShadowTaxModel", "name", "()I"⟩, prog_9_method_22_code, 1, some .int)
def m_X7_atom5 : zMD := (⟨"ShadowTaxModel", "atom5", "()I"⟩, prog_9_method_23_code, 2, some .int)
def m_X7_term5 : zMD := (⟨"ShadowTaxModel", "term5", "()I"⟩, prog_9_method_24_code, 2, some .int)
def m_X7_added5 : zMD := (⟨"ShadowTaxModel", "added5", "()I"⟩, prog_9_method_25_code, 4, some .int)
def m_X7_not5 : zMD := (⟨"ShadowTaxModel", "not5", "()I"⟩, prog_9_method_26_code, 4, some .int)
def m_X7_both5 : zMD := (⟨"ShadowTaxModel", "both5", "()I"⟩, prog_9_method_27_code, 3, some .int)
def m_X7_either5 : zMD := (⟨"ShadowTaxModel", "either5", "()I"⟩, prog_9_method_28_code, 3, some .int)
def m_X7_atom4 : zMD := (⟨"ShadowTaxModel", "atom4", "()I"⟩, prog_9_method_29_code, 2, some .int)
def m_X7_term4 : zMD := (⟨"ShadowTaxModel", "term4", "()I"⟩, prog_9_method_30_code, 2, some .int)
def m_X7_added4 : zMD := (⟨"ShadowTaxModel", "added4", "()I"⟩, prog_9_method_31_code, 4, some .int)
def m_X7_not4 : zMD := (⟨"ShadowTaxModel", "not4", "()I"⟩, prog_9_method_32_code, 4, some .int)
def m_X7_both4 : zMD := (⟨"ShadowTaxModel", "both4", "()I"⟩, prog_9_method_33_code, 3, some .int)
def m_X7_either4 : zMD := (⟨"ShadowTaxModel", "either4", "()I"⟩, prog_9_method_34_code, 3, some .int)
def m_X7_atom3 : zMD := (⟨"ShadowTaxModel", "atom3", "()I"⟩, prog_9_method_35_code, 2, some .int)
def m_X7_term3 : zMD := (⟨"ShadowTaxModel", "term3", "()I"⟩, prog_9_method_36_code, 2, some .int)
def m_X7_added3 : zMD := (⟨"ShadowTaxModel", "added3", "()I"⟩, prog_9_method_37_code, 4, some .int)
def m_X7_not3 : zMD := (⟨"ShadowTaxModel", "not3", "()I"⟩, prog_9_method_38_code, 4, some .int)
def m_X7_both3 : zMD := (⟨"ShadowTaxModel", "both3", "()I"⟩, prog_9_method_39_code, 3, some .int)
def m_X7_either3 : zMD := (⟨"ShadowTaxModel", "either3", "()I"⟩, prog_9_method_40_code, 3, some .int)
def m_X7_atom2 : zMD := (⟨"ShadowTaxModel", "atom2", "()I"⟩, prog_9_method_41_code, 2, some .int)
def m_X7_term2 : zMD := (⟨"ShadowTaxModel", "term2", "()I"⟩, prog_9_method_42_code, 2, some .int)
def m_X7_added2 : zMD := (⟨"ShadowTaxModel", "added2", "()I"⟩, prog_9_method_43_code, 4, some .int)
def m_X7_not2 : zMD := (⟨"ShadowTaxModel", "not2", "()I"⟩, prog_9_method_44_code, 4, some .int)
def m_X7_both2 : zMD := (⟨"ShadowTaxModel", "both2", "()I"⟩, prog_9_method_45_code, 3, some .int)
def m_X7_either2 : zMD := (⟨"ShadowTaxModel", "either2", "()I"⟩, prog_9_method_46_code, 3, some .int)
def m_X7_atom1 : zMD := (⟨"ShadowTaxModel", "atom1", "()I"⟩, prog_9_method_47_code, 2, some .int)
def m_X7_term1 : zMD := (⟨"ShadowTaxModel", "term1", "()I"⟩, prog_9_method_48_code, 2, some .int)
def m_X7_added1 : zMD := (⟨"ShadowTaxModel", "added1", "()I"⟩, prog_9_method_49_code, 4, some .int)
def m_X7_not1 : zMD := (⟨"ShadowTaxModel", "not1", "()I"⟩, prog_9_method_50_code, 4, some .int)
def m_X7_both1 : zMD := (⟨"ShadowTaxModel", "both1", "()I"⟩, prog_9_method_51_code, 3, some .int)
def m_X7_either1 : zMD := (⟨"ShadowTaxModel", "either1", "()I"⟩, prog_9_method_52_code, 3, some .int)
def m_X7_atom0 : zMD := (⟨"ShadowTaxModel", "atom0", "()I"⟩, prog_9_method_53_code, 2, some .int)
def m_X7_term0 : zMD := (⟨"ShadowTaxModel", "term0", "()I"⟩, prog_9_method_54_code, 2, some .int)
def m_X7_added0 : zMD := (⟨"ShadowTaxModel", "added0", "()I"⟩, prog_9_method_55_code, 4, some .int)
def m_X7_not0 : zMD := (⟨"ShadowTaxModel", "not0", "()I"⟩, prog_9_method_56_code, 4, some .int)
def m_X7_both0 : zMD := (⟨"ShadowTaxModel", "both0", "()I"⟩, prog_9_method_57_code, 3, some .int)
def m_X7_either0 : zMD := (⟨"ShadowTaxModel", "either0", "()I"⟩, prog_9_method_58_code, 3, some .int)
def m_X7_part : zMD := (⟨"ShadowTaxModel", "part", "(Z)I"⟩, prog_9_method_59_code, 3, some .int)
def m_X7_read : zMD := (⟨"ShadowTaxModel", "read", "(II)I"⟩, prog_9_method_60_code, 6, some .int)
def m_X7_text : zMD := (⟨"ShadowTaxModel", "text", "()I"⟩, prog_9_method_61_code, 2, some .int)
def m_X7_force : zMD := (⟨"ShadowTaxModel", "force", "(I)I"⟩, prog_9_method_62_code, 3, some .int)
def m_X7_says : zMD := (⟨"ShadowTaxModel", "says", "(IIII)I"⟩, prog_9_method_63_code, 5, some .int)
def m_X7_longOf : zMD := (⟨"ShadowTaxModel", "longOf", "(II)I"⟩, prog_9_method_64_code, 7, some .int)
def m_X7_owesOf : zMD := (⟨"ShadowTaxModel", "owesOf", "(III)I"⟩, prog_9_method_65_code, 10, some .int)
def m_X7_isDull : zMD := (⟨"ShadowTaxModel", "isDull", "(I)Z"⟩, prog_9_method_66_code, 2, some .boolean)
def m_X7_shadow : zMD := (⟨"ShadowTaxModel", "shadow", "(IIZ)I"⟩, prog_9_method_67_code, 6, some .int)
def m_X7_stands : zMD := (⟨"ShadowTaxModel", "stands", "(III)V"⟩, prog_9_method_68_code, 6, none)
def m_X7_gathers : zMD := (⟨"ShadowTaxModel", "gathers", "(I)V"⟩, prog_9_method_69_code, 8, none)
def m_X7_takesAll : zMD := (⟨"ShadowTaxModel", "takesAll", "(I)I"⟩, prog_9_method_70_code, 4, some .int)
def m_X7_takesDay : zMD := (⟨"ShadowTaxModel", "takesDay", "()I"⟩, prog_9_method_71_code, 3, some .int)
def m_X7_dueOf : zMD := (⟨"ShadowTaxModel", "dueOf", "(II)I"⟩, prog_9_method_72_code, 3, some .int)
def m_X7_hour : zMD := (⟨"ShadowTaxModel", "hour", "(III)I"⟩, prog_9_method_73_code, 4, some .int)
def m_X7_takes : zMD := (⟨"ShadowTaxModel", "takes", "(I)I"⟩, prog_9_method_74_code, 2, some .int)
def m_X7_dark : zMD := (⟨"ShadowTaxModel", "dark", "(I)I"⟩, prog_9_method_75_code, 2, some .int)
def m_X7_apart : zMD := (⟨"ShadowTaxModel", "apart", "(I)I"⟩, prog_9_method_76_code, 5, some .int)
def m_X7_hours : zMD := (⟨"ShadowTaxModel", "hours", "(I)I"⟩, prog_9_method_77_code, 7, some .int)
def m_X7_seeks : zMD := (⟨"ShadowTaxModel", "seeks", "(IIZ)V"⟩, prog_9_method_78_code, 7, none)
def m_X7_best : zMD := (⟨"ShadowTaxModel", "best", "(III)I"⟩, prog_9_method_79_code, 4, some .int)
def m_X7_place : zMD := (⟨"ShadowTaxModel", "place", "(III)I"⟩, prog_9_method_80_code, 4, some .int)
def m_X7_shade : zMD := (⟨"ShadowTaxModel", "shade", "(III)I"⟩, prog_9_method_81_code, 6, some .int)
def m_X7_send : zMD := (⟨"ShadowTaxModel", "send", "(II)I"⟩, prog_9_method_82_code, 6, some .int)
def m_X7_firstOther : zMD := (⟨"ShadowTaxModel", "firstOther", "(II)I"⟩, prog_9_method_83_code, 4, some .int)
def m_X7_cloudsBy : zMD := (⟨"ShadowTaxModel", "cloudsBy", "(II)I"⟩, prog_9_method_84_code, 7, some .int)
def m_X7_tells : zMD := (⟨"ShadowTaxModel", "tells", "(III)I"⟩, prog_9_method_85_code, 9, some .int)
def m_X7_film : zMD := (⟨"ShadowTaxModel", "film", "(II)I"⟩, prog_9_method_86_code, 4, some .int)
def m_X7_takesBy : zMD := (⟨"ShadowTaxModel", "takesBy", "(I)I"⟩, prog_9_method_87_code, 5, some .int)
def m_X7_drawn : zMD := (⟨"ShadowTaxModel", "drawn", "(I)I"⟩, prog_9_method_88_code, 2, some .int)
def m_X7_chance : zMD := (⟨"ShadowTaxModel", "chance", "(IIII)J"⟩, prog_9_method_89_code, 13, some .long)
def m_X7_image : zMD := (⟨"ShadowTaxModel", "image", "()I"⟩, prog_9_method_90_code, 2, some .int)
def m_X7_back : zMD := (⟨"ShadowTaxModel", "back", "()I"⟩, prog_9_method_91_code, 2, some .int)
def m_X7_count : zMD := (⟨"ShadowTaxModel", "count", "(I)I"⟩, prog_9_method_92_code, 4, some .int)
def m_X7_isSheet : zMD := (⟨"ShadowTaxModel", "isSheet", "(I)Z"⟩, prog_9_method_93_code, 1, some .boolean)
def m_X7_sheet : zMD := (⟨"ShadowTaxModel", "sheet", "(III)I"⟩, prog_9_method_94_code, 5, some .int)
def m_X7_cell : zMD := (⟨"ShadowTaxModel", "cell", "(III)I"⟩, prog_9_method_95_code, 4, some .int)
def m_X7_copy : zMD := (⟨"ShadowTaxModel", "copy", "(IIIII)I"⟩, prog_9_method_96_code, 9, some .int)
def m_X7_things : zMD := (⟨"ShadowTaxModel", "things", "(IIII)I"⟩, prog_9_method_97_code, 8, some .int)
def m_X7_over : zMD := (⟨"ShadowTaxModel", "over", "(I)I"⟩, prog_9_method_98_code, 1, some .int)
def m_X7_taken : zMD := (⟨"ShadowTaxModel", "taken", "(II)I"⟩, prog_9_method_99_code, 4, some .int)
def m_J6_bitCount_0f7a4 : zMD := (⟨"java/lang/Integer", "bitCount", "(I)I"⟩, prog_10_method_49_code, 1, some .int)
def m_J0_length_8abf5 : zMD := (⟨"java/lang/String", "length", "()I"⟩, prog_12_method_54_code, 1, some .int)
def m_J0_charAt_5068e : zMD := (⟨"java/lang/String", "charAt", "(I)C"⟩, prog_12_method_56_code, 2, some .char)
def m_J0_coder_7d493 : zMD := (⟨"java/lang/String", "coder", "()B"⟩, prog_12_method_152_code, 1, some .byte)
def m_J0_isLatin1_aae02 : zMD := (⟨"java/lang/String", "isLatin1", "()Z"⟩, prog_12_method_154_code, 1, some .boolean)
def m_J0_checkIndex_df160 : zMD := (⟨"java/lang/String", "checkIndex", "(II)V"⟩, prog_12_method_155_code, 2, none)
def m_J1_charAt_3b067 : zMD := (⟨"java/lang/StringLatin1", "charAt", "([BI)C"⟩, prog_13_method_2_code, 2, some .char)
def m_J7_fill_53178 : zMD := (⟨"java/util/Arrays", "fill", "([II)V"⟩, prog_16_method_103_code, 4, none)
def m_J3_checkIndex_8e157 : zMD := (⟨"jdk/internal/util/Preconditions", "checkIndex", "(IILjava/util/function/BiFunction;)I"⟩, prog_17_method_11_code, 3, some .int)
theorem lk_0 : Cond.selects "ShadowTax$Reader" ⟨"ShadowTax$Reader", "advance", "()V"⟩ ⟨"ShadowTax$Reader", "advance", "()V"⟩ ∈ tbG := tbG_mem 0 (by decide +kernel) (by decide +kernel)
theorem lk_1 : Cond.selects "ShadowTax$Reader" ⟨"ShadowTax$Reader", "readWord", "()I"⟩ ⟨"ShadowTax$Reader", "readWord", "()I"⟩ ∈ tbG := tbG_mem 1 (by decide +kernel) (by decide +kernel)
theorem lk_2 : Cond.selects "ShadowTax$Reader" ⟨"ShadowTax$Reader", "isWord", "(Ljava/lang/String;)Z"⟩ ⟨"ShadowTax$Reader", "isWord", "(Ljava/lang/String;)Z"⟩ ∈ tbG := tbG_mem 2 (by decide +kernel) (by decide +kernel)
theorem lk_3 : Cond.selects "ShadowTax$Reader" ⟨"ShadowTax$Reader", "readNumber", "()I"⟩ ⟨"ShadowTax$Reader", "readNumber", "()I"⟩ ∈ tbG := tbG_mem 3 (by decide +kernel) (by decide +kernel)
theorem lk_4 : Cond.selects "ShadowTax$Reader" ⟨"ShadowTax$Reader", "expect", "(I)V"⟩ ⟨"ShadowTax$Reader", "expect", "(I)V"⟩ ∈ tbG := tbG_mem 4 (by decide +kernel) (by decide +kernel)
theorem lk_5 : Cond.selects "ShadowTax$Reader" ⟨"ShadowTax$Reader", "fail", "()V"⟩ ⟨"ShadowTax$Reader", "fail", "()V"⟩ ∈ tbG := tbG_mem 5 (by decide +kernel) (by decide +kernel)
theorem lk_6 : Cond.selects "ShadowTax$Reader" ⟨"ShadowTax$Reader", "readLevel", "(II)V"⟩ ⟨"ShadowTax$Reader", "readLevel", "(II)V"⟩ ∈ tbG := tbG_mem 6 (by decide +kernel) (by decide +kernel)
theorem lk_7 : Cond.selects "ShadowTax$Reader" ⟨"ShadowTax$Reader", "readOne", "(I)V"⟩ ⟨"ShadowTax$Reader", "readOne", "(I)V"⟩ ∈ tbG := tbG_mem 7 (by decide +kernel) (by decide +kernel)
theorem lk_8 : Cond.selects "ShadowTax$Reader" ⟨"ShadowTax$Reader", "readBehind", "(III)V"⟩ ⟨"ShadowTax$Reader", "readBehind", "(III)V"⟩ ∈ tbG := tbG_mem 8 (by decide +kernel) (by decide +kernel)
theorem lk_9 : Cond.selects "ShadowTax$Square" ⟨"ShadowTax$Square", "measure", "(II)V"⟩ ⟨"ShadowTax$Square", "measure", "(II)V"⟩ ∈ tbG := tbG_mem 9 (by decide +kernel) (by decide +kernel)
theorem lk_10 : Cond.selects "ShadowTax$Square" ⟨"ShadowTax$Square", "ruled", "(II)I"⟩ ⟨"ShadowTax$Square", "ruled", "(II)I"⟩ ∈ tbG := tbG_mem 10 (by decide +kernel) (by decide +kernel)
theorem lk_11 : Cond.selects "ShadowTax$Square" ⟨"ShadowTax$Square", "cast", "(I)V"⟩ ⟨"ShadowTax$Square", "cast", "(I)V"⟩ ∈ tbG := tbG_mem 11 (by decide +kernel) (by decide +kernel)
theorem lk_12 : Cond.selects "ShadowTax$Square" ⟨"ShadowTax$Square", "occupied", "()I"⟩ ⟨"ShadowTax$Square", "occupied", "()I"⟩ ∈ tbG := tbG_mem 12 (by decide +kernel) (by decide +kernel)
theorem lk_13 : Cond.selects "ShadowTax$Square" ⟨"ShadowTax$Square", "shadowOf", "(IZ)I"⟩ ⟨"ShadowTax$Square", "shadowOf", "(IZ)I"⟩ ∈ tbG := tbG_mem 13 (by decide +kernel) (by decide +kernel)
theorem lk_14 : Cond.selects "ShadowTax" ⟨"ShadowTax", "mostHour", "(Z)I"⟩ ⟨"ShadowTax", "mostHour", "(Z)I"⟩ ∈ tbG := tbG_mem 14 (by decide +kernel) (by decide +kernel)
theorem lk_15 : Cond.selects "ShadowTax" ⟨"ShadowTax", "fairestHour", "(Z)I"⟩ ⟨"ShadowTax", "fairestHour", "(Z)I"⟩ ∈ tbG := tbG_mem 15 (by decide +kernel) (by decide +kernel)
theorem lk_16 : Cond.selects "ShadowTax" ⟨"ShadowTax", "isSheet", "(I)Z"⟩ ⟨"ShadowTax", "isSheet", "(I)Z"⟩ ∈ tbG := tbG_mem 16 (by decide +kernel) (by decide +kernel)
theorem lk_17 : Cond.selects "ShadowTax" ⟨"ShadowTax", "firstOtherwise", "(LShadowTax$Sheet;I)I"⟩ ⟨"ShadowTax", "firstOtherwise", "(LShadowTax$Sheet;I)I"⟩ ∈ tbG := tbG_mem 17 (by decide +kernel) (by decide +kernel)
theorem lk_18 : Cond.selects "ShadowTax" ⟨"ShadowTax", "fittingClouds", "(LShadowTax$Sheet;I)I"⟩ ⟨"ShadowTax", "fittingClouds", "(LShadowTax$Sheet;I)I"⟩ ∈ tbG := tbG_mem 18 (by decide +kernel) (by decide +kernel)
theorem lk_19 : Cond.selects "ShadowTax" ⟨"ShadowTax", "lookWithoutClouds", "()V"⟩ ⟨"ShadowTax", "lookWithoutClouds", "()V"⟩ ∈ tbG := tbG_mem 19 (by decide +kernel) (by decide +kernel)
theorem lk_20 : Cond.selects "ShadowTax" ⟨"ShadowTax", "dueBySeed", "(I)I"⟩ ⟨"ShadowTax", "dueBySeed", "(I)I"⟩ ∈ tbG := tbG_mem 20 (by decide +kernel) (by decide +kernel)
theorem lk_21 : Cond.selects "ShadowTaxModel" ⟨"ShadowTaxModel", "spell", "(IIIIIIIII)V"⟩ ⟨"ShadowTaxModel", "spell", "(IIIIIIIII)V"⟩ ∈ tbG := tbG_mem 21 (by decide +kernel) (by decide +kernel)
theorem lk_22 : Cond.selects "ShadowTaxModel" ⟨"ShadowTaxModel", "isThing", "(I)Z"⟩ ⟨"ShadowTaxModel", "isThing", "(I)Z"⟩ ∈ tbG := tbG_mem 22 (by decide +kernel) (by decide +kernel)
theorem lk_23 : Cond.selects "ShadowTaxModel" ⟨"ShadowTaxModel", "lays", "(III)V"⟩ ⟨"ShadowTaxModel", "lays", "(III)V"⟩ ∈ tbG := tbG_mem 23 (by decide +kernel) (by decide +kernel)
theorem lk_24 : Cond.selects "ShadowTaxModel" ⟨"ShadowTaxModel", "read", "(II)I"⟩ ⟨"ShadowTaxModel", "read", "(II)I"⟩ ∈ tbG := tbG_mem 24 (by decide +kernel) (by decide +kernel)
theorem lk_25 : Cond.selects "ShadowTaxModel" ⟨"ShadowTaxModel", "next", "()V"⟩ ⟨"ShadowTaxModel", "next", "()V"⟩ ∈ tbG := tbG_mem 25 (by decide +kernel) (by decide +kernel)
theorem lk_26 : Cond.selects "ShadowTaxModel" ⟨"ShadowTaxModel", "byteAt", "(I)I"⟩ ⟨"ShadowTaxModel", "byteAt", "(I)I"⟩ ∈ tbG := tbG_mem 26 (by decide +kernel) (by decide +kernel)
theorem lk_27 : Cond.selects "ShadowTaxModel" ⟨"ShadowTaxModel", "isWord", "(IIIIIIII)Z"⟩ ⟨"ShadowTaxModel", "isWord", "(IIIIIIII)Z"⟩ ∈ tbG := tbG_mem 27 (by decide +kernel) (by decide +kernel)
theorem lk_28 : Cond.selects "ShadowTaxModel" ⟨"ShadowTaxModel", "isLetter", "(II)Z"⟩ ⟨"ShadowTaxModel", "isLetter", "(II)Z"⟩ ∈ tbG := tbG_mem 28 (by decide +kernel) (by decide +kernel)
theorem lk_29 : Cond.selects "ShadowTaxModel" ⟨"ShadowTaxModel", "part", "(Z)I"⟩ ⟨"ShadowTaxModel", "part", "(Z)I"⟩ ∈ tbG := tbG_mem 29 (by decide +kernel) (by decide +kernel)
theorem lk_30 : Cond.selects "ShadowTaxModel" ⟨"ShadowTaxModel", "fail", "()V"⟩ ⟨"ShadowTaxModel", "fail", "()V"⟩ ∈ tbG := tbG_mem 30 (by decide +kernel) (by decide +kernel)
theorem lk_31 : Cond.selects "ShadowTaxModel" ⟨"ShadowTaxModel", "either0", "()I"⟩ ⟨"ShadowTaxModel", "either0", "()I"⟩ ∈ tbG := tbG_mem 31 (by decide +kernel) (by decide +kernel)
theorem lk_32 : Cond.selects "ShadowTaxModel" ⟨"ShadowTaxModel", "both0", "()I"⟩ ⟨"ShadowTaxModel", "both0", "()I"⟩ ∈ tbG := tbG_mem 32 (by decide +kernel) (by decide +kernel)
theorem lk_33 : Cond.selects "ShadowTaxModel" ⟨"ShadowTaxModel", "not0", "()I"⟩ ⟨"ShadowTaxModel", "not0", "()I"⟩ ∈ tbG := tbG_mem 33 (by decide +kernel) (by decide +kernel)
theorem lk_34 : Cond.selects "ShadowTaxModel" ⟨"ShadowTaxModel", "opens", "()Z"⟩ ⟨"ShadowTaxModel", "opens", "()Z"⟩ ∈ tbG := tbG_mem 34 (by decide +kernel) (by decide +kernel)
theorem lk_35 : Cond.selects "ShadowTaxModel" ⟨"ShadowTaxModel", "not1", "()I"⟩ ⟨"ShadowTaxModel", "not1", "()I"⟩ ∈ tbG := tbG_mem 35 (by decide +kernel) (by decide +kernel)
theorem lk_36 : Cond.selects "ShadowTaxModel" ⟨"ShadowTaxModel", "not2", "()I"⟩ ⟨"ShadowTaxModel", "not2", "()I"⟩ ∈ tbG := tbG_mem 36 (by decide +kernel) (by decide +kernel)
theorem lk_37 : Cond.selects "ShadowTaxModel" ⟨"ShadowTaxModel", "not3", "()I"⟩ ⟨"ShadowTaxModel", "not3", "()I"⟩ ∈ tbG := tbG_mem 37 (by decide +kernel) (by decide +kernel)
theorem lk_38 : Cond.selects "ShadowTaxModel" ⟨"ShadowTaxModel", "not4", "()I"⟩ ⟨"ShadowTaxModel", "not4", "()I"⟩ ∈ tbG := tbG_mem 38 (by decide +kernel) (by decide +kernel)
theorem lk_39 : Cond.selects "ShadowTaxModel" ⟨"ShadowTaxModel", "not5", "()I"⟩ ⟨"ShadowTaxModel", "not5", "()I"⟩ ∈ tbG := tbG_mem 39 (by decide +kernel) (by decide +kernel)
theorem lk_40 : Cond.selects "ShadowTaxModel" ⟨"ShadowTaxModel", "added5", "()I"⟩ ⟨"ShadowTaxModel", "added5", "()I"⟩ ∈ tbG := tbG_mem 40 (by decide +kernel) (by decide +kernel)
theorem lk_41 : Cond.selects "ShadowTaxModel" ⟨"ShadowTaxModel", "term5", "()I"⟩ ⟨"ShadowTaxModel", "term5", "()I"⟩ ∈ tbG := tbG_mem 41 (by decide +kernel) (by decide +kernel)
theorem lk_42 : Cond.selects "ShadowTaxModel" ⟨"ShadowTaxModel", "atom5", "()I"⟩ ⟨"ShadowTaxModel", "atom5", "()I"⟩ ∈ tbG := tbG_mem 42 (by decide +kernel) (by decide +kernel)
theorem lk_43 : Cond.selects "ShadowTaxModel" ⟨"ShadowTaxModel", "isSign", "(I)Z"⟩ ⟨"ShadowTaxModel", "isSign", "(I)Z"⟩ ∈ tbG := tbG_mem 43 (by decide +kernel) (by decide +kernel)
theorem lk_44 : Cond.selects "ShadowTaxModel" ⟨"ShadowTaxModel", "name", "()I"⟩ ⟨"ShadowTaxModel", "name", "()I"⟩ ∈ tbG := tbG_mem 44 (by decide +kernel) (by decide +kernel)
theorem lk_45 : Cond.selects "ShadowTaxModel" ⟨"ShadowTaxModel", "added4", "()I"⟩ ⟨"ShadowTaxModel", "added4", "()I"⟩ ∈ tbG := tbG_mem 45 (by decide +kernel) (by decide +kernel)
theorem lk_46 : Cond.selects "ShadowTaxModel" ⟨"ShadowTaxModel", "term4", "()I"⟩ ⟨"ShadowTaxModel", "term4", "()I"⟩ ∈ tbG := tbG_mem 46 (by decide +kernel) (by decide +kernel)
theorem lk_47 : Cond.selects "ShadowTaxModel" ⟨"ShadowTaxModel", "atom4", "()I"⟩ ⟨"ShadowTaxModel", "atom4", "()I"⟩ ∈ tbG := tbG_mem 47 (by decide +kernel) (by decide +kernel)
theorem lk_48 : Cond.selects "ShadowTaxModel" ⟨"ShadowTaxModel", "either5", "()I"⟩ ⟨"ShadowTaxModel", "either5", "()I"⟩ ∈ tbG := tbG_mem 48 (by decide +kernel) (by decide +kernel)
theorem lk_49 : Cond.selects "ShadowTaxModel" ⟨"ShadowTaxModel", "both5", "()I"⟩ ⟨"ShadowTaxModel", "both5", "()I"⟩ ∈ tbG := tbG_mem 49 (by decide +kernel) (by decide +kernel)
theorem lk_50 : Cond.selects "ShadowTaxModel" ⟨"ShadowTaxModel", "added3", "()I"⟩ ⟨"ShadowTaxModel", "added3", "()I"⟩ ∈ tbG := tbG_mem 50 (by decide +kernel) (by decide +kernel)
theorem lk_51 : Cond.selects "ShadowTaxModel" ⟨"ShadowTaxModel", "term3", "()I"⟩ ⟨"ShadowTaxModel", "term3", "()I"⟩ ∈ tbG := tbG_mem 51 (by decide +kernel) (by decide +kernel)
theorem lk_52 : Cond.selects "ShadowTaxModel" ⟨"ShadowTaxModel", "atom3", "()I"⟩ ⟨"ShadowTaxModel", "atom3", "()I"⟩ ∈ tbG := tbG_mem 52 (by decide +kernel) (by decide +kernel)
theorem lk_53 : Cond.selects "ShadowTaxModel" ⟨"ShadowTaxModel", "either4", "()I"⟩ ⟨"ShadowTaxModel", "either4", "()I"⟩ ∈ tbG := tbG_mem 53 (by decide +kernel) (by decide +kernel)
theorem lk_54 : Cond.selects "ShadowTaxModel" ⟨"ShadowTaxModel", "both4", "()I"⟩ ⟨"ShadowTaxModel", "both4", "()I"⟩ ∈ tbG := tbG_mem 54 (by decide +kernel) (by decide +kernel)
theorem lk_55 : Cond.selects "ShadowTaxModel" ⟨"ShadowTaxModel", "added2", "()I"⟩ ⟨"ShadowTaxModel", "added2", "()I"⟩ ∈ tbG := tbG_mem 55 (by decide +kernel) (by decide +kernel)
theorem lk_56 : Cond.selects "ShadowTaxModel" ⟨"ShadowTaxModel", "term2", "()I"⟩ ⟨"ShadowTaxModel", "term2", "()I"⟩ ∈ tbG := tbG_mem 56 (by decide +kernel) (by decide +kernel)
theorem lk_57 : Cond.selects "ShadowTaxModel" ⟨"ShadowTaxModel", "atom2", "()I"⟩ ⟨"ShadowTaxModel", "atom2", "()I"⟩ ∈ tbG := tbG_mem 57 (by decide +kernel) (by decide +kernel)
theorem lk_58 : Cond.selects "ShadowTaxModel" ⟨"ShadowTaxModel", "either3", "()I"⟩ ⟨"ShadowTaxModel", "either3", "()I"⟩ ∈ tbG := tbG_mem 58 (by decide +kernel) (by decide +kernel)
theorem lk_59 : Cond.selects "ShadowTaxModel" ⟨"ShadowTaxModel", "both3", "()I"⟩ ⟨"ShadowTaxModel", "both3", "()I"⟩ ∈ tbG := tbG_mem 59 (by decide +kernel) (by decide +kernel)
theorem lk_60 : Cond.selects "ShadowTaxModel" ⟨"ShadowTaxModel", "added1", "()I"⟩ ⟨"ShadowTaxModel", "added1", "()I"⟩ ∈ tbG := tbG_mem 60 (by decide +kernel) (by decide +kernel)
theorem lk_61 : Cond.selects "ShadowTaxModel" ⟨"ShadowTaxModel", "term1", "()I"⟩ ⟨"ShadowTaxModel", "term1", "()I"⟩ ∈ tbG := tbG_mem 61 (by decide +kernel) (by decide +kernel)
theorem lk_62 : Cond.selects "ShadowTaxModel" ⟨"ShadowTaxModel", "atom1", "()I"⟩ ⟨"ShadowTaxModel", "atom1", "()I"⟩ ∈ tbG := tbG_mem 62 (by decide +kernel) (by decide +kernel)
theorem lk_63 : Cond.selects "ShadowTaxModel" ⟨"ShadowTaxModel", "either2", "()I"⟩ ⟨"ShadowTaxModel", "either2", "()I"⟩ ∈ tbG := tbG_mem 63 (by decide +kernel) (by decide +kernel)
theorem lk_64 : Cond.selects "ShadowTaxModel" ⟨"ShadowTaxModel", "both2", "()I"⟩ ⟨"ShadowTaxModel", "both2", "()I"⟩ ∈ tbG := tbG_mem 64 (by decide +kernel) (by decide +kernel)
theorem lk_65 : Cond.selects "ShadowTaxModel" ⟨"ShadowTaxModel", "added0", "()I"⟩ ⟨"ShadowTaxModel", "added0", "()I"⟩ ∈ tbG := tbG_mem 65 (by decide +kernel) (by decide +kernel)
theorem lk_66 : Cond.selects "ShadowTaxModel" ⟨"ShadowTaxModel", "term0", "()I"⟩ ⟨"ShadowTaxModel", "term0", "()I"⟩ ∈ tbG := tbG_mem 66 (by decide +kernel) (by decide +kernel)
theorem lk_67 : Cond.selects "ShadowTaxModel" ⟨"ShadowTaxModel", "atom0", "()I"⟩ ⟨"ShadowTaxModel", "atom0", "()I"⟩ ∈ tbG := tbG_mem 67 (by decide +kernel) (by decide +kernel)
theorem lk_68 : Cond.selects "ShadowTaxModel" ⟨"ShadowTaxModel", "either1", "()I"⟩ ⟨"ShadowTaxModel", "either1", "()I"⟩ ∈ tbG := tbG_mem 68 (by decide +kernel) (by decide +kernel)
theorem lk_69 : Cond.selects "ShadowTaxModel" ⟨"ShadowTaxModel", "both1", "()I"⟩ ⟨"ShadowTaxModel", "both1", "()I"⟩ ∈ tbG := tbG_mem 69 (by decide +kernel) (by decide +kernel)
theorem lk_70 : Cond.selects "ShadowTaxModel" ⟨"ShadowTaxModel", "gathers", "(I)V"⟩ ⟨"ShadowTaxModel", "gathers", "(I)V"⟩ ∈ tbG := tbG_mem 70 (by decide +kernel) (by decide +kernel)
theorem lk_71 : Cond.selects "ShadowTaxModel" ⟨"ShadowTaxModel", "isDull", "(I)Z"⟩ ⟨"ShadowTaxModel", "isDull", "(I)Z"⟩ ∈ tbG := tbG_mem 71 (by decide +kernel) (by decide +kernel)
theorem lk_72 : Cond.selects "ShadowTaxModel" ⟨"ShadowTaxModel", "stands", "(III)V"⟩ ⟨"ShadowTaxModel", "stands", "(III)V"⟩ ∈ tbG := tbG_mem 72 (by decide +kernel) (by decide +kernel)
theorem lk_73 : Cond.selects "ShadowTaxModel" ⟨"ShadowTaxModel", "longOf", "(II)I"⟩ ⟨"ShadowTaxModel", "longOf", "(II)I"⟩ ∈ tbG := tbG_mem 73 (by decide +kernel) (by decide +kernel)
theorem lk_74 : Cond.selects "ShadowTaxModel" ⟨"ShadowTaxModel", "says", "(IIII)I"⟩ ⟨"ShadowTaxModel", "says", "(IIII)I"⟩ ∈ tbG := tbG_mem 74 (by decide +kernel) (by decide +kernel)
theorem lk_75 : Cond.selects "ShadowTaxModel" ⟨"ShadowTaxModel", "owesOf", "(III)I"⟩ ⟨"ShadowTaxModel", "owesOf", "(III)I"⟩ ∈ tbG := tbG_mem 75 (by decide +kernel) (by decide +kernel)
theorem lk_76 : Cond.selects "ShadowTaxModel" ⟨"ShadowTaxModel", "takesDay", "()I"⟩ ⟨"ShadowTaxModel", "takesDay", "()I"⟩ ∈ tbG := tbG_mem 76 (by decide +kernel) (by decide +kernel)
theorem lk_77 : Cond.selects "ShadowTaxModel" ⟨"ShadowTaxModel", "takesAll", "(I)I"⟩ ⟨"ShadowTaxModel", "takesAll", "(I)I"⟩ ∈ tbG := tbG_mem 77 (by decide +kernel) (by decide +kernel)
theorem lk_78 : Cond.selects "ShadowTaxModel" ⟨"ShadowTaxModel", "apart", "(I)I"⟩ ⟨"ShadowTaxModel", "apart", "(I)I"⟩ ∈ tbG := tbG_mem 78 (by decide +kernel) (by decide +kernel)
theorem lk_79 : Cond.selects "ShadowTaxModel" ⟨"ShadowTaxModel", "seeks", "(IIZ)V"⟩ ⟨"ShadowTaxModel", "seeks", "(IIZ)V"⟩ ∈ tbG := tbG_mem 79 (by decide +kernel) (by decide +kernel)
theorem lk_80 : Cond.selects "ShadowTaxModel" ⟨"ShadowTaxModel", "dueOf", "(II)I"⟩ ⟨"ShadowTaxModel", "dueOf", "(II)I"⟩ ∈ tbG := tbG_mem 80 (by decide +kernel) (by decide +kernel)
theorem lk_81 : Cond.selects "ShadowTaxModel" ⟨"ShadowTaxModel", "firstOther", "(II)I"⟩ ⟨"ShadowTaxModel", "firstOther", "(II)I"⟩ ∈ tbG := tbG_mem 81 (by decide +kernel) (by decide +kernel)
theorem lk_82 : Cond.selects "ShadowTaxModel" ⟨"ShadowTaxModel", "cloudsBy", "(II)I"⟩ ⟨"ShadowTaxModel", "cloudsBy", "(II)I"⟩ ∈ tbG := tbG_mem 82 (by decide +kernel) (by decide +kernel)
theorem lk_83 : Cond.selects "ShadowTaxModel" ⟨"ShadowTaxModel", "takesBy", "(I)I"⟩ ⟨"ShadowTaxModel", "takesBy", "(I)I"⟩ ∈ tbG := tbG_mem 83 (by decide +kernel) (by decide +kernel)
theorem lk_85 : (Jvm.Cond.initialized "ShadowTax") ∈ tbG := tbG_mem 85 (by decide +kernel) (by decide +kernel)
theorem lk_86 : (Jvm.Cond.initialized "ShadowTax$Square") ∈ tbG := tbG_mem 86 (by decide +kernel) (by decide +kernel)
theorem lk_87 : (Jvm.Cond.initialized "ShadowTax$Thing") ∈ tbG := tbG_mem 87 (by decide +kernel) (by decide +kernel)
theorem lk_88 : (Jvm.Cond.initialized "ShadowTax$Rule") ∈ tbG := tbG_mem 88 (by decide +kernel) (by decide +kernel)
theorem lk_89 : (Jvm.Cond.initialized "ShadowTax$Reader") ∈ tbG := tbG_mem 89 (by decide +kernel) (by decide +kernel)
theorem lk_90 : (Jvm.Cond.initialized "ShadowTax$Image") ∈ tbG := tbG_mem 90 (by decide +kernel) (by decide +kernel)
theorem lk_91 : (Jvm.Cond.initialized "ShadowTax$Sheet") ∈ tbG := tbG_mem 91 (by decide +kernel) (by decide +kernel)
theorem lk_92 : (Jvm.Cond.initialized "ShadowTaxModel") ∈ tbG := tbG_mem 92 (by decide +kernel) (by decide +kernel)
theorem lk_93 : (Jvm.Cond.initialized "java/lang/String") ∈ tbG := tbG_mem 93 (by decide +kernel) (by decide +kernel)
theorem lk_94 : (Jvm.Cond.initialized "java/lang/StringLatin1") ∈ tbG := tbG_mem 94 (by decide +kernel) (by decide +kernel)
theorem lk_95 : (Jvm.Cond.initialized "jdk/internal/util/Preconditions") ∈ tbG := tbG_mem 95 (by decide +kernel) (by decide +kernel)
theorem lk_98 : (Jvm.Cond.initialized "java/util/Arrays") ∈ tbG := tbG_mem 98 (by decide +kernel) (by decide +kernel)
theorem lk_99 : (Jvm.Cond.initialized "java/lang/Integer") ∈ tbG := tbG_mem 99 (by decide +kernel) (by decide +kernel)
theorem lk_105 : (Jvm.Cond.code ({ cls := "ShadowTax", name := "<init>", desc := "()V" } : Jvm.MethodName) prog_1_method_1_code (2 : Nat) (Option.none : Option Jvm.ClassFile.FieldType)) ∈ tbG := tbG_mem 105 (by decide +kernel) (by decide +kernel)
theorem lk_106 : (Jvm.Cond.methodLink "ShadowTax" (1 : Nat) ({ cls := "java/lang/Object", name := "<init>", desc := "()V" } : Jvm.MethodName)) ∈ tbG := tbG_mem 106 (by decide +kernel) (by decide +kernel)
theorem lk_109 : (Jvm.Cond.classLink "ShadowTax" (7 : Nat) "ShadowTax$Square") ∈ tbG := tbG_mem 109 (by decide +kernel) (by decide +kernel)
theorem lk_110 : (Jvm.Cond.instantiable "ShadowTax$Square" (14 : Nat)) ∈ tbG := tbG_mem 110 (by decide +kernel) (by decide +kernel)
theorem lk_111 : (Jvm.Cond.methodLink "ShadowTax" (9 : Nat) ({ cls := "ShadowTax$Square", name := "<init>", desc := "()V" } : Jvm.MethodName)) ∈ tbG := tbG_mem 111 (by decide +kernel) (by decide +kernel)
theorem lk_112 : (Jvm.Cond.instanceMethod ({ cls := "ShadowTax$Square", name := "<init>", desc := "()V" } : Jvm.MethodName)) ∈ tbG := tbG_mem 112 (by decide +kernel) (by decide +kernel)
theorem lk_113 : (Jvm.Cond.code ({ cls := "ShadowTax$Square", name := "<init>", desc := "()V" } : Jvm.MethodName) prog_6_method_1_code (2 : Nat) (Option.none : Option Jvm.ClassFile.FieldType)) ∈ tbG := tbG_mem 113 (by decide +kernel) (by decide +kernel)
theorem lk_114 : (Jvm.Cond.methodLink "ShadowTax$Square" (3 : Nat) ({ cls := "java/lang/Object", name := "<init>", desc := "()V" } : Jvm.MethodName)) ∈ tbG := tbG_mem 114 (by decide +kernel) (by decide +kernel)
theorem lk_115 : (Jvm.Cond.classLink "ShadowTax$Square" (9 : Nat) "ShadowTax$Thing") ∈ tbG := tbG_mem 115 (by decide +kernel) (by decide +kernel)
theorem lk_117 : (Jvm.Cond.classLink "ShadowTax$Square" (17 : Nat) "ShadowTax$Rule") ∈ tbG := tbG_mem 117 (by decide +kernel) (by decide +kernel)
theorem lk_119 : (Jvm.Cond.instantiable "ShadowTax$Thing" (4 : Nat)) ∈ tbG := tbG_mem 119 (by decide +kernel) (by decide +kernel)
theorem lk_121 : (Jvm.Cond.instanceMethod ({ cls := "ShadowTax$Thing", name := "<init>", desc := "()V" } : Jvm.MethodName)) ∈ tbG := tbG_mem 121 (by decide +kernel) (by decide +kernel)
theorem lk_122 : (Jvm.Cond.code ({ cls := "ShadowTax$Thing", name := "<init>", desc := "()V" } : Jvm.MethodName) prog_7_method_1_code (1 : Nat) (Option.none : Option Jvm.ClassFile.FieldType)) ∈ tbG := tbG_mem 122 (by decide +kernel) (by decide +kernel)
theorem lk_123 : (Jvm.Cond.methodLink "ShadowTax$Thing" (3 : Nat) ({ cls := "java/lang/Object", name := "<init>", desc := "()V" } : Jvm.MethodName)) ∈ tbG := tbG_mem 123 (by decide +kernel) (by decide +kernel)
theorem lk_124 : (Jvm.Cond.fieldLink "ShadowTax$Thing" (21 : Nat) "ShadowTax$Thing" "kind" "I") ∈ tbG := tbG_mem 124 (by decide +kernel) (by decide +kernel)
theorem lk_125 : (Jvm.Cond.fieldLink "ShadowTax$Square" (51 : Nat) "ShadowTax$Thing" "kind" "I") ∈ tbG := tbG_mem 125 (by decide +kernel) (by decide +kernel)
theorem lk_126 : (Jvm.Cond.fieldLink "ShadowTax$Thing" (9 : Nat) "ShadowTax$Thing" "number" "I") ∈ tbG := tbG_mem 126 (by decide +kernel) (by decide +kernel)
theorem lk_127 : (Jvm.Cond.fieldLink "ShadowTax$Image" (48 : Nat) "ShadowTax$Thing" "number" "I") ∈ tbG := tbG_mem 127 (by decide +kernel) (by decide +kernel)
theorem lk_128 : (Jvm.Cond.fieldLink "ShadowTax$Square" (54 : Nat) "ShadowTax$Thing" "number" "I") ∈ tbG := tbG_mem 128 (by decide +kernel) (by decide +kernel)
theorem lk_129 : (Jvm.Cond.fieldLink "ShadowTax" (224 : Nat) "ShadowTax$Thing" "number" "I") ∈ tbG := tbG_mem 129 (by decide +kernel) (by decide +kernel)
theorem lk_130 : (Jvm.Cond.fieldLink "ShadowTax$Thing" (15 : Nat) "ShadowTax$Thing" "height" "I") ∈ tbG := tbG_mem 130 (by decide +kernel) (by decide +kernel)
theorem lk_131 : (Jvm.Cond.fieldLink "ShadowTax$Image" (53 : Nat) "ShadowTax$Thing" "height" "I") ∈ tbG := tbG_mem 131 (by decide +kernel) (by decide +kernel)
theorem lk_132 : (Jvm.Cond.fieldLink "ShadowTax$Square" (57 : Nat) "ShadowTax$Thing" "height" "I") ∈ tbG := tbG_mem 132 (by decide +kernel) (by decide +kernel)
theorem lk_133 : (Jvm.Cond.fieldLink "ShadowTax$Thing" (18 : Nat) "ShadowTax$Thing" "on" "I") ∈ tbG := tbG_mem 133 (by decide +kernel) (by decide +kernel)
theorem lk_134 : (Jvm.Cond.fieldLink "ShadowTax$Image" (56 : Nat) "ShadowTax$Thing" "on" "I") ∈ tbG := tbG_mem 134 (by decide +kernel) (by decide +kernel)
theorem lk_135 : (Jvm.Cond.fieldLink "ShadowTax$Square" (60 : Nat) "ShadowTax$Thing" "on" "I") ∈ tbG := tbG_mem 135 (by decide +kernel) (by decide +kernel)
theorem lk_146 : (Jvm.Cond.instantiable "ShadowTax$Rule" (4 : Nat)) ∈ tbG := tbG_mem 146 (by decide +kernel) (by decide +kernel)
theorem lk_148 : (Jvm.Cond.instanceMethod ({ cls := "ShadowTax$Rule", name := "<init>", desc := "()V" } : Jvm.MethodName)) ∈ tbG := tbG_mem 148 (by decide +kernel) (by decide +kernel)
theorem lk_149 : (Jvm.Cond.code ({ cls := "ShadowTax$Rule", name := "<init>", desc := "()V" } : Jvm.MethodName) prog_4_method_1_code (1 : Nat) (Option.none : Option Jvm.ClassFile.FieldType)) ∈ tbG := tbG_mem 149 (by decide +kernel) (by decide +kernel)
theorem lk_150 : (Jvm.Cond.methodLink "ShadowTax$Rule" (3 : Nat) ({ cls := "java/lang/Object", name := "<init>", desc := "()V" } : Jvm.MethodName)) ∈ tbG := tbG_mem 150 (by decide +kernel) (by decide +kernel)
theorem lk_151 : (Jvm.Cond.fieldLink "ShadowTax$Rule" (9 : Nat) "ShadowTax$Rule" "steps" "[I") ∈ tbG := tbG_mem 151 (by decide +kernel) (by decide +kernel)
theorem lk_152 : (Jvm.Cond.fieldLink "ShadowTax$Rule" (15 : Nat) "ShadowTax$Rule" "ends" "[I") ∈ tbG := tbG_mem 152 (by decide +kernel) (by decide +kernel)
theorem lk_153 : (Jvm.Cond.fieldLink "ShadowTax$Rule" (18 : Nat) "ShadowTax$Rule" "size" "I") ∈ tbG := tbG_mem 153 (by decide +kernel) (by decide +kernel)
theorem lk_154 : (Jvm.Cond.fieldLink "ShadowTax$Rule" (22 : Nat) "ShadowTax$Rule" "parts" "I") ∈ tbG := tbG_mem 154 (by decide +kernel) (by decide +kernel)
theorem lk_164 : (Jvm.Cond.methodLink "ShadowTax$Square" (42 : Nat) ({ cls := "ShadowTax$Rule", name := "beFirst", desc := "()V" } : Jvm.MethodName)) ∈ tbG := tbG_mem 164 (by decide +kernel) (by decide +kernel)
theorem lk_165 : (Jvm.Cond.instanceMethod ({ cls := "ShadowTax$Rule", name := "beFirst", desc := "()V" } : Jvm.MethodName)) ∈ tbG := tbG_mem 165 (by decide +kernel) (by decide +kernel)
theorem lk_166 : (Jvm.Cond.selects "ShadowTax$Rule" ({ cls := "ShadowTax$Rule", name := "beFirst", desc := "()V" } : Jvm.MethodName) ({ cls := "ShadowTax$Rule", name := "beFirst", desc := "()V" } : Jvm.MethodName)) ∈ tbG := tbG_mem 166 (by decide +kernel) (by decide +kernel)
theorem lk_167 : (Jvm.Cond.code ({ cls := "ShadowTax$Rule", name := "beFirst", desc := "()V" } : Jvm.MethodName) prog_4_method_5_code (1 : Nat) (Option.none : Option Jvm.ClassFile.FieldType)) ∈ tbG := tbG_mem 167 (by decide +kernel) (by decide +kernel)
theorem lk_168 : (Jvm.Cond.methodLink "ShadowTax$Rule" (25 : Nat) ({ cls := "ShadowTax$Rule", name := "empty", desc := "()V" } : Jvm.MethodName)) ∈ tbG := tbG_mem 168 (by decide +kernel) (by decide +kernel)
theorem lk_169 : (Jvm.Cond.instanceMethod ({ cls := "ShadowTax$Rule", name := "empty", desc := "()V" } : Jvm.MethodName)) ∈ tbG := tbG_mem 169 (by decide +kernel) (by decide +kernel)
theorem lk_170 : (Jvm.Cond.selects "ShadowTax$Rule" ({ cls := "ShadowTax$Rule", name := "empty", desc := "()V" } : Jvm.MethodName) ({ cls := "ShadowTax$Rule", name := "empty", desc := "()V" } : Jvm.MethodName)) ∈ tbG := tbG_mem 170 (by decide +kernel) (by decide +kernel)
theorem lk_171 : (Jvm.Cond.code ({ cls := "ShadowTax$Rule", name := "empty", desc := "()V" } : Jvm.MethodName) prog_4_method_2_code (1 : Nat) (Option.none : Option Jvm.ClassFile.FieldType)) ∈ tbG := tbG_mem 171 (by decide +kernel) (by decide +kernel)
theorem lk_172 : (Jvm.Cond.methodLink "ShadowTax$Rule" (28 : Nat) ({ cls := "ShadowTax$Rule", name := "add", desc := "(I)V" } : Jvm.MethodName)) ∈ tbG := tbG_mem 172 (by decide +kernel) (by decide +kernel)
theorem lk_173 : (Jvm.Cond.instanceMethod ({ cls := "ShadowTax$Rule", name := "add", desc := "(I)V" } : Jvm.MethodName)) ∈ tbG := tbG_mem 173 (by decide +kernel) (by decide +kernel)
theorem lk_174 : (Jvm.Cond.selects "ShadowTax$Rule" ({ cls := "ShadowTax$Rule", name := "add", desc := "(I)V" } : Jvm.MethodName) ({ cls := "ShadowTax$Rule", name := "add", desc := "(I)V" } : Jvm.MethodName)) ∈ tbG := tbG_mem 174 (by decide +kernel) (by decide +kernel)
theorem lk_175 : (Jvm.Cond.code ({ cls := "ShadowTax$Rule", name := "add", desc := "(I)V" } : Jvm.MethodName) prog_4_method_3_code (2 : Nat) (Option.none : Option Jvm.ClassFile.FieldType)) ∈ tbG := tbG_mem 175 (by decide +kernel) (by decide +kernel)
theorem lk_176 : (Jvm.Cond.methodLink "ShadowTax$Rule" (32 : Nat) ({ cls := "ShadowTax$Rule", name := "endPart", desc := "()V" } : Jvm.MethodName)) ∈ tbG := tbG_mem 176 (by decide +kernel) (by decide +kernel)
theorem lk_177 : (Jvm.Cond.instanceMethod ({ cls := "ShadowTax$Rule", name := "endPart", desc := "()V" } : Jvm.MethodName)) ∈ tbG := tbG_mem 177 (by decide +kernel) (by decide +kernel)
theorem lk_178 : (Jvm.Cond.selects "ShadowTax$Rule" ({ cls := "ShadowTax$Rule", name := "endPart", desc := "()V" } : Jvm.MethodName) ({ cls := "ShadowTax$Rule", name := "endPart", desc := "()V" } : Jvm.MethodName)) ∈ tbG := tbG_mem 178 (by decide +kernel) (by decide +kernel)
theorem lk_179 : (Jvm.Cond.code ({ cls := "ShadowTax$Rule", name := "endPart", desc := "()V" } : Jvm.MethodName) prog_4_method_4_code (1 : Nat) (Option.none : Option Jvm.ClassFile.FieldType)) ∈ tbG := tbG_mem 179 (by decide +kernel) (by decide +kernel)
theorem lk_180 : (Jvm.Cond.fieldLink "ShadowTax$Square" (11 : Nat) "ShadowTax$Square" "things" "[LShadowTax$Thing;") ∈ tbG := tbG_mem 180 (by decide +kernel) (by decide +kernel)
theorem lk_181 : (Jvm.Cond.fieldLink "ShadowTax$Image" (44 : Nat) "ShadowTax$Square" "things" "[LShadowTax$Thing;") ∈ tbG := tbG_mem 181 (by decide +kernel) (by decide +kernel)
theorem lk_182 : (Jvm.Cond.fieldLink "ShadowTax" (215 : Nat) "ShadowTax$Square" "things" "[LShadowTax$Thing;") ∈ tbG := tbG_mem 182 (by decide +kernel) (by decide +kernel)
theorem lk_183 : (Jvm.Cond.fieldLink "ShadowTax$Square" (19 : Nat) "ShadowTax$Square" "texts" "[LShadowTax$Rule;") ∈ tbG := tbG_mem 183 (by decide +kernel) (by decide +kernel)
theorem lk_184 : (Jvm.Cond.fieldLink "ShadowTax" (69 : Nat) "ShadowTax$Square" "texts" "[LShadowTax$Rule;") ∈ tbG := tbG_mem 184 (by decide +kernel) (by decide +kernel)
theorem lk_185 : (Jvm.Cond.fieldLink "ShadowTax$Square" (48 : Nat) "ShadowTax$Square" "many" "I") ∈ tbG := tbG_mem 185 (by decide +kernel) (by decide +kernel)
theorem lk_186 : (Jvm.Cond.fieldLink "ShadowTax$Image" (25 : Nat) "ShadowTax$Square" "many" "I") ∈ tbG := tbG_mem 186 (by decide +kernel) (by decide +kernel)
theorem lk_187 : (Jvm.Cond.fieldLink "ShadowTax" (120 : Nat) "ShadowTax$Square" "many" "I") ∈ tbG := tbG_mem 187 (by decide +kernel) (by decide +kernel)
theorem lk_188 : (Jvm.Cond.fieldLink "ShadowTax$Square" (45 : Nat) "ShadowTax$Square" "made" "I") ∈ tbG := tbG_mem 188 (by decide +kernel) (by decide +kernel)
theorem lk_189 : (Jvm.Cond.fieldLink "ShadowTax" (65 : Nat) "ShadowTax$Square" "made" "I") ∈ tbG := tbG_mem 189 (by decide +kernel) (by decide +kernel)
theorem lk_190 : (Jvm.Cond.fieldLink "ShadowTax$Image" (32 : Nat) "ShadowTax$Square" "ruling" "I") ∈ tbG := tbG_mem 190 (by decide +kernel) (by decide +kernel)
theorem lk_191 : (Jvm.Cond.fieldLink "ShadowTax" (77 : Nat) "ShadowTax$Square" "ruling" "I") ∈ tbG := tbG_mem 191 (by decide +kernel) (by decide +kernel)
theorem lk_192 : (Jvm.Cond.fieldLink "ShadowTax$Square" (103 : Nat) "ShadowTax$Square" "ruling" "I") ∈ tbG := tbG_mem 192 (by decide +kernel) (by decide +kernel)
theorem lk_193 : (Jvm.Cond.fieldLink "ShadowTax$Image" (36 : Nat) "ShadowTax$Square" "day" "I") ∈ tbG := tbG_mem 193 (by decide +kernel) (by decide +kernel)
theorem lk_194 : (Jvm.Cond.fieldLink "ShadowTax$Square" (63 : Nat) "ShadowTax$Square" "day" "I") ∈ tbG := tbG_mem 194 (by decide +kernel) (by decide +kernel)
theorem lk_195 : (Jvm.Cond.fieldLink "ShadowTax$Image" (40 : Nat) "ShadowTax$Square" "clouds" "I") ∈ tbG := tbG_mem 195 (by decide +kernel) (by decide +kernel)
theorem lk_196 : (Jvm.Cond.fieldLink "ShadowTax$Square" (66 : Nat) "ShadowTax$Square" "clouds" "I") ∈ tbG := tbG_mem 196 (by decide +kernel) (by decide +kernel)
theorem lk_197 : (Jvm.Cond.fieldLink "ShadowTax" (158 : Nat) "ShadowTax$Square" "clouds" "I") ∈ tbG := tbG_mem 197 (by decide +kernel) (by decide +kernel)
theorem lk_198 : (Jvm.Cond.fieldLink "ShadowTax$Square" (23 : Nat) "ShadowTax$Square" "longs" "[I") ∈ tbG := tbG_mem 198 (by decide +kernel) (by decide +kernel)
theorem lk_199 : (Jvm.Cond.fieldLink "ShadowTax" (87 : Nat) "ShadowTax$Square" "longs" "[I") ∈ tbG := tbG_mem 199 (by decide +kernel) (by decide +kernel)
theorem lk_200 : (Jvm.Cond.fieldLink "ShadowTax$Square" (27 : Nat) "ShadowTax$Square" "dues" "[I") ∈ tbG := tbG_mem 200 (by decide +kernel) (by decide +kernel)
theorem lk_201 : (Jvm.Cond.fieldLink "ShadowTax" (127 : Nat) "ShadowTax$Square" "dues" "[I") ∈ tbG := tbG_mem 201 (by decide +kernel) (by decide +kernel)
theorem lk_202 : (Jvm.Cond.fieldLink "ShadowTax" (90 : Nat) "ShadowTax$Square" "hidden" "I") ∈ tbG := tbG_mem 202 (by decide +kernel) (by decide +kernel)
theorem lk_203 : (Jvm.Cond.fieldLink "ShadowTax$Square" (113 : Nat) "ShadowTax$Square" "hidden" "I") ∈ tbG := tbG_mem 203 (by decide +kernel) (by decide +kernel)
theorem lk_204 : (Jvm.Cond.fieldLink "ShadowTax$Square" (116 : Nat) "ShadowTax$Square" "shadowed" "I") ∈ tbG := tbG_mem 204 (by decide +kernel) (by decide +kernel)
theorem lk_205 : (Jvm.Cond.fieldLink "ShadowTax" (103 : Nat) "ShadowTax$Square" "shadowed" "I") ∈ tbG := tbG_mem 205 (by decide +kernel) (by decide +kernel)
theorem lk_206 : (Jvm.Cond.fieldLink "ShadowTax$Square" (30 : Nat) "ShadowTax$Square" "away" "I") ∈ tbG := tbG_mem 206 (by decide +kernel) (by decide +kernel)
theorem lk_207 : (Jvm.Cond.fieldLink "ShadowTax$Square" (34 : Nat) "ShadowTax$Square" "values" "[I") ∈ tbG := tbG_mem 207 (by decide +kernel) (by decide +kernel)
theorem lk_208 : (Jvm.Cond.fieldLink "ShadowTax$Square" (37 : Nat) "ShadowTax$Square" "stack" "[I") ∈ tbG := tbG_mem 208 (by decide +kernel) (by decide +kernel)
theorem lk_238 : (Jvm.Cond.classLink "ShadowTax" (16 : Nat) "ShadowTax$Reader") ∈ tbG := tbG_mem 238 (by decide +kernel) (by decide +kernel)
theorem lk_239 : (Jvm.Cond.instantiable "ShadowTax$Reader" (7 : Nat)) ∈ tbG := tbG_mem 239 (by decide +kernel) (by decide +kernel)
theorem lk_241 : (Jvm.Cond.instanceMethod ({ cls := "ShadowTax$Reader", name := "<init>", desc := "()V" } : Jvm.MethodName)) ∈ tbG := tbG_mem 241 (by decide +kernel) (by decide +kernel)
theorem lk_242 : (Jvm.Cond.code ({ cls := "ShadowTax$Reader", name := "<init>", desc := "()V" } : Jvm.MethodName) prog_3_method_1_code (1 : Nat) (Option.none : Option Jvm.ClassFile.FieldType)) ∈ tbG := tbG_mem 242 (by decide +kernel) (by decide +kernel)
theorem lk_243 : (Jvm.Cond.methodLink "ShadowTax$Reader" (3 : Nat) ({ cls := "java/lang/Object", name := "<init>", desc := "()V" } : Jvm.MethodName)) ∈ tbG := tbG_mem 243 (by decide +kernel) (by decide +kernel)
theorem lk_244 : (Jvm.Cond.fieldLink "ShadowTax$Reader" (15 : Nat) "ShadowTax$Reader" "size" "I") ∈ tbG := tbG_mem 244 (by decide +kernel) (by decide +kernel)
theorem lk_245 : (Jvm.Cond.fieldLink "ShadowTax" (196 : Nat) "ShadowTax$Reader" "size" "I") ∈ tbG := tbG_mem 245 (by decide +kernel) (by decide +kernel)
theorem lk_246 : (Jvm.Cond.fieldLink "ShadowTax$Reader" (9 : Nat) "ShadowTax$Reader" "tape" "[I") ∈ tbG := tbG_mem 246 (by decide +kernel) (by decide +kernel)
theorem lk_247 : (Jvm.Cond.fieldLink "ShadowTax$Reader" (28 : Nat) "ShadowTax$Reader" "next" "I") ∈ tbG := tbG_mem 247 (by decide +kernel) (by decide +kernel)
theorem lk_248 : (Jvm.Cond.fieldLink "ShadowTax$Reader" (48 : Nat) "ShadowTax$Reader" "begin" "I") ∈ tbG := tbG_mem 248 (by decide +kernel) (by decide +kernel)
theorem lk_249 : (Jvm.Cond.fieldLink "ShadowTax$Reader" (51 : Nat) "ShadowTax$Reader" "token" "I") ∈ tbG := tbG_mem 249 (by decide +kernel) (by decide +kernel)
theorem lk_250 : (Jvm.Cond.fieldLink "ShadowTax$Reader" (31 : Nat) "ShadowTax$Reader" "fault" "I") ∈ tbG := tbG_mem 250 (by decide +kernel) (by decide +kernel)
theorem lk_251 : (Jvm.Cond.fieldLink "ShadowTax$Reader" (19 : Nat) "ShadowTax$Reader" "rule" "LShadowTax$Rule;") ∈ tbG := tbG_mem 251 (by decide +kernel) (by decide +kernel)
theorem lk_267 : (Jvm.Cond.classLink "ShadowTax" (23 : Nat) "ShadowTax$Image") ∈ tbG := tbG_mem 267 (by decide +kernel) (by decide +kernel)
theorem lk_268 : (Jvm.Cond.instantiable "ShadowTax$Image" (8 : Nat)) ∈ tbG := tbG_mem 268 (by decide +kernel) (by decide +kernel)
theorem lk_270 : (Jvm.Cond.instanceMethod ({ cls := "ShadowTax$Image", name := "<init>", desc := "()V" } : Jvm.MethodName)) ∈ tbG := tbG_mem 270 (by decide +kernel) (by decide +kernel)
theorem lk_271 : (Jvm.Cond.code ({ cls := "ShadowTax$Image", name := "<init>", desc := "()V" } : Jvm.MethodName) prog_2_method_1_code (1 : Nat) (Option.none : Option Jvm.ClassFile.FieldType)) ∈ tbG := tbG_mem 271 (by decide +kernel) (by decide +kernel)
theorem lk_272 : (Jvm.Cond.methodLink "ShadowTax$Image" (3 : Nat) ({ cls := "java/lang/Object", name := "<init>", desc := "()V" } : Jvm.MethodName)) ∈ tbG := tbG_mem 272 (by decide +kernel) (by decide +kernel)
theorem lk_273 : (Jvm.Cond.fieldLink "ShadowTax$Image" (21 : Nat) "ShadowTax$Image" "any" "Z") ∈ tbG := tbG_mem 273 (by decide +kernel) (by decide +kernel)
theorem lk_274 : (Jvm.Cond.fieldLink "ShadowTax" (184 : Nat) "ShadowTax$Image" "any" "Z") ∈ tbG := tbG_mem 274 (by decide +kernel) (by decide +kernel)
theorem lk_275 : (Jvm.Cond.fieldLink "ShadowTax$Image" (31 : Nat) "ShadowTax$Image" "many" "I") ∈ tbG := tbG_mem 275 (by decide +kernel) (by decide +kernel)
theorem lk_276 : (Jvm.Cond.fieldLink "ShadowTax$Image" (35 : Nat) "ShadowTax$Image" "ruling" "I") ∈ tbG := tbG_mem 276 (by decide +kernel) (by decide +kernel)
theorem lk_277 : (Jvm.Cond.fieldLink "ShadowTax$Image" (39 : Nat) "ShadowTax$Image" "day" "I") ∈ tbG := tbG_mem 277 (by decide +kernel) (by decide +kernel)
theorem lk_278 : (Jvm.Cond.fieldLink "ShadowTax$Image" (43 : Nat) "ShadowTax$Image" "clouds" "I") ∈ tbG := tbG_mem 278 (by decide +kernel) (by decide +kernel)
theorem lk_279 : (Jvm.Cond.fieldLink "ShadowTax$Image" (9 : Nat) "ShadowTax$Image" "numbers" "[I") ∈ tbG := tbG_mem 279 (by decide +kernel) (by decide +kernel)
theorem lk_280 : (Jvm.Cond.fieldLink "ShadowTax$Image" (15 : Nat) "ShadowTax$Image" "heights" "[I") ∈ tbG := tbG_mem 280 (by decide +kernel) (by decide +kernel)
theorem lk_281 : (Jvm.Cond.fieldLink "ShadowTax$Image" (18 : Nat) "ShadowTax$Image" "cells" "[I") ∈ tbG := tbG_mem 281 (by decide +kernel) (by decide +kernel)
theorem lk_299 : (Jvm.Cond.classLink "ShadowTax" (30 : Nat) "ShadowTax$Sheet") ∈ tbG := tbG_mem 299 (by decide +kernel) (by decide +kernel)
theorem lk_301 : (Jvm.Cond.instantiable "ShadowTax$Sheet" (3 : Nat)) ∈ tbG := tbG_mem 301 (by decide +kernel) (by decide +kernel)
theorem lk_303 : (Jvm.Cond.instanceMethod ({ cls := "ShadowTax$Sheet", name := "<init>", desc := "()V" } : Jvm.MethodName)) ∈ tbG := tbG_mem 303 (by decide +kernel) (by decide +kernel)
theorem lk_304 : (Jvm.Cond.code ({ cls := "ShadowTax$Sheet", name := "<init>", desc := "()V" } : Jvm.MethodName) prog_5_method_1_code (1 : Nat) (Option.none : Option Jvm.ClassFile.FieldType)) ∈ tbG := tbG_mem 304 (by decide +kernel) (by decide +kernel)
theorem lk_305 : (Jvm.Cond.methodLink "ShadowTax$Sheet" (3 : Nat) ({ cls := "java/lang/Object", name := "<init>", desc := "()V" } : Jvm.MethodName)) ∈ tbG := tbG_mem 305 (by decide +kernel) (by decide +kernel)
theorem lk_306 : (Jvm.Cond.fieldLink "ShadowTax$Sheet" (9 : Nat) "ShadowTax$Sheet" "numbers" "[I") ∈ tbG := tbG_mem 306 (by decide +kernel) (by decide +kernel)
theorem lk_307 : (Jvm.Cond.fieldLink "ShadowTax" (203 : Nat) "ShadowTax$Sheet" "numbers" "[I") ∈ tbG := tbG_mem 307 (by decide +kernel) (by decide +kernel)
theorem lk_308 : (Jvm.Cond.fieldLink "ShadowTax$Sheet" (15 : Nat) "ShadowTax$Sheet" "sort" "I") ∈ tbG := tbG_mem 308 (by decide +kernel) (by decide +kernel)
theorem lk_309 : (Jvm.Cond.fieldLink "ShadowTax" (200 : Nat) "ShadowTax$Sheet" "sort" "I") ∈ tbG := tbG_mem 309 (by decide +kernel) (by decide +kernel)
theorem lk_310 : (Jvm.Cond.fieldLink "ShadowTax$Sheet" (19 : Nat) "ShadowTax$Sheet" "size" "I") ∈ tbG := tbG_mem 310 (by decide +kernel) (by decide +kernel)
theorem lk_311 : (Jvm.Cond.fieldLink "ShadowTax" (137 : Nat) "ShadowTax$Sheet" "size" "I") ∈ tbG := tbG_mem 311 (by decide +kernel) (by decide +kernel)
theorem lk_319 : (Jvm.Cond.fieldLink "ShadowTax" (10 : Nat) "ShadowTax" "square" "LShadowTax$Square;") ∈ tbG := tbG_mem 319 (by decide +kernel) (by decide +kernel)
theorem lk_320 : (Jvm.Cond.fieldLink "ShadowTax" (19 : Nat) "ShadowTax" "reader" "LShadowTax$Reader;") ∈ tbG := tbG_mem 320 (by decide +kernel) (by decide +kernel)
theorem lk_321 : (Jvm.Cond.fieldLink "ShadowTax" (26 : Nat) "ShadowTax" "kept" "LShadowTax$Image;") ∈ tbG := tbG_mem 321 (by decide +kernel) (by decide +kernel)
theorem lk_322 : (Jvm.Cond.fieldLink "ShadowTax" (32 : Nat) "ShadowTax" "sheets" "[LShadowTax$Sheet;") ∈ tbG := tbG_mem 322 (by decide +kernel) (by decide +kernel)
theorem lk_323 : (Jvm.Cond.fieldLink "ShadowTax" (36 : Nat) "ShadowTax" "clear" "[I") ∈ tbG := tbG_mem 323 (by decide +kernel) (by decide +kernel)
theorem lk_338 : (Jvm.Cond.code ({ cls := "ShadowTax", name := "set", desc := "(III)I" } : Jvm.MethodName) prog_1_method_2_code (5 : Nat) (Option.some Jvm.ClassFile.FieldType.int)) ∈ tbG := tbG_mem 338 (by decide +kernel) (by decide +kernel)
theorem lk_339 : (Jvm.Cond.methodLink "ShadowTax" (41 : Nat) ({ cls := "ShadowTax", name := "fits", desc := "(II)Z" } : Jvm.MethodName)) ∈ tbG := tbG_mem 339 (by decide +kernel) (by decide +kernel)
theorem lk_340 : (Jvm.Cond.static ({ cls := "ShadowTax", name := "fits", desc := "(II)Z" } : Jvm.MethodName)) ∈ tbG := tbG_mem 340 (by decide +kernel) (by decide +kernel)
theorem lk_341 : (Jvm.Cond.code ({ cls := "ShadowTax", name := "fits", desc := "(II)Z" } : Jvm.MethodName) prog_1_method_35_code (2 : Nat) (Option.some Jvm.ClassFile.FieldType.boolean)) ∈ tbG := tbG_mem 341 (by decide +kernel) (by decide +kernel)
theorem lk_342 : (Jvm.Cond.fieldLink "ShadowTax" (227 : Nat) "ShadowTax" "LOWEST" "[I") ∈ tbG := tbG_mem 342 (by decide +kernel) (by decide +kernel)
theorem lk_344 : (Jvm.Cond.fieldLink "ShadowTax" (230 : Nat) "ShadowTax" "HIGHEST" "[I") ∈ tbG := tbG_mem 344 (by decide +kernel) (by decide +kernel)
theorem lk_346 : (Jvm.Cond.methodLink "ShadowTax" (45 : Nat) ({ cls := "ShadowTax$Square", name := "has", desc := "(I)Z" } : Jvm.MethodName)) ∈ tbG := tbG_mem 346 (by decide +kernel) (by decide +kernel)
theorem lk_347 : (Jvm.Cond.instanceMethod ({ cls := "ShadowTax$Square", name := "has", desc := "(I)Z" } : Jvm.MethodName)) ∈ tbG := tbG_mem 347 (by decide +kernel) (by decide +kernel)
theorem lk_348 : (Jvm.Cond.selects "ShadowTax$Square" ({ cls := "ShadowTax$Square", name := "has", desc := "(I)Z" } : Jvm.MethodName) ({ cls := "ShadowTax$Square", name := "has", desc := "(I)Z" } : Jvm.MethodName)) ∈ tbG := tbG_mem 348 (by decide +kernel) (by decide +kernel)
theorem lk_349 : (Jvm.Cond.code ({ cls := "ShadowTax$Square", name := "has", desc := "(I)Z" } : Jvm.MethodName) prog_6_method_2_code (2 : Nat) (Option.some Jvm.ClassFile.FieldType.boolean)) ∈ tbG := tbG_mem 349 (by decide +kernel) (by decide +kernel)
theorem lk_350 : (Jvm.Cond.methodLink "ShadowTax" (49 : Nat) ({ cls := "ShadowTax$Square", name := "tell", desc := "(II)I" } : Jvm.MethodName)) ∈ tbG := tbG_mem 350 (by decide +kernel) (by decide +kernel)
theorem lk_351 : (Jvm.Cond.instanceMethod ({ cls := "ShadowTax$Square", name := "tell", desc := "(II)I" } : Jvm.MethodName)) ∈ tbG := tbG_mem 351 (by decide +kernel) (by decide +kernel)
theorem lk_352 : (Jvm.Cond.selects "ShadowTax$Square" ({ cls := "ShadowTax$Square", name := "tell", desc := "(II)I" } : Jvm.MethodName) ({ cls := "ShadowTax$Square", name := "tell", desc := "(II)I" } : Jvm.MethodName)) ∈ tbG := tbG_mem 352 (by decide +kernel) (by decide +kernel)
theorem lk_353 : (Jvm.Cond.code ({ cls := "ShadowTax$Square", name := "tell", desc := "(II)I" } : Jvm.MethodName) prog_6_method_4_code (3 : Nat) (Option.some Jvm.ClassFile.FieldType.int)) ∈ tbG := tbG_mem 353 (by decide +kernel) (by decide +kernel)
theorem lk_354 : (Jvm.Cond.methodLink "ShadowTax$Square" (69 : Nat) ({ cls := "ShadowTax$Square", name := "has", desc := "(I)Z" } : Jvm.MethodName)) ∈ tbG := tbG_mem 354 (by decide +kernel) (by decide +kernel)
theorem lk_355 : (Jvm.Cond.methodLink "ShadowTax$Square" (73 : Nat) ({ cls := "ShadowTax$Thing", name := "read", desc := "(I)I" } : Jvm.MethodName)) ∈ tbG := tbG_mem 355 (by decide +kernel) (by decide +kernel)
theorem lk_356 : (Jvm.Cond.instanceMethod ({ cls := "ShadowTax$Thing", name := "read", desc := "(I)I" } : Jvm.MethodName)) ∈ tbG := tbG_mem 356 (by decide +kernel) (by decide +kernel)
theorem lk_357 : (Jvm.Cond.selects "ShadowTax$Thing" ({ cls := "ShadowTax$Thing", name := "read", desc := "(I)I" } : Jvm.MethodName) ({ cls := "ShadowTax$Thing", name := "read", desc := "(I)I" } : Jvm.MethodName)) ∈ tbG := tbG_mem 357 (by decide +kernel) (by decide +kernel)
theorem lk_358 : (Jvm.Cond.code ({ cls := "ShadowTax$Thing", name := "read", desc := "(I)I" } : Jvm.MethodName) prog_7_method_2_code (2 : Nat) (Option.some Jvm.ClassFile.FieldType.int)) ∈ tbG := tbG_mem 358 (by decide +kernel) (by decide +kernel)
theorem lk_359 : (Jvm.Cond.methodLink "ShadowTax$Thing" (24 : Nat) ({ cls := "ShadowTax$Thing", name := "hides", desc := "()Z" } : Jvm.MethodName)) ∈ tbG := tbG_mem 359 (by decide +kernel) (by decide +kernel)
theorem lk_360 : (Jvm.Cond.instanceMethod ({ cls := "ShadowTax$Thing", name := "hides", desc := "()Z" } : Jvm.MethodName)) ∈ tbG := tbG_mem 360 (by decide +kernel) (by decide +kernel)
theorem lk_361 : (Jvm.Cond.selects "ShadowTax$Thing" ({ cls := "ShadowTax$Thing", name := "hides", desc := "()Z" } : Jvm.MethodName) ({ cls := "ShadowTax$Thing", name := "hides", desc := "()Z" } : Jvm.MethodName)) ∈ tbG := tbG_mem 361 (by decide +kernel) (by decide +kernel)
theorem lk_362 : (Jvm.Cond.code ({ cls := "ShadowTax$Thing", name := "hides", desc := "()Z" } : Jvm.MethodName) prog_7_method_6_code (1 : Nat) (Option.some Jvm.ClassFile.FieldType.boolean)) ∈ tbG := tbG_mem 362 (by decide +kernel) (by decide +kernel)
theorem lk_363 : (Jvm.Cond.methodLink "ShadowTax" (53 : Nat) ({ cls := "ShadowTax$Square", name := "put", desc := "(III)V" } : Jvm.MethodName)) ∈ tbG := tbG_mem 363 (by decide +kernel) (by decide +kernel)
theorem lk_364 : (Jvm.Cond.instanceMethod ({ cls := "ShadowTax$Square", name := "put", desc := "(III)V" } : Jvm.MethodName)) ∈ tbG := tbG_mem 364 (by decide +kernel) (by decide +kernel)
theorem lk_365 : (Jvm.Cond.selects "ShadowTax$Square" ({ cls := "ShadowTax$Square", name := "put", desc := "(III)V" } : Jvm.MethodName) ({ cls := "ShadowTax$Square", name := "put", desc := "(III)V" } : Jvm.MethodName)) ∈ tbG := tbG_mem 365 (by decide +kernel) (by decide +kernel)
theorem lk_366 : (Jvm.Cond.code ({ cls := "ShadowTax$Square", name := "put", desc := "(III)V" } : Jvm.MethodName) prog_6_method_5_code (4 : Nat) (Option.none : Option Jvm.ClassFile.FieldType)) ∈ tbG := tbG_mem 366 (by decide +kernel) (by decide +kernel)
theorem lk_367 : (Jvm.Cond.methodLink "ShadowTax$Square" (77 : Nat) ({ cls := "ShadowTax$Thing", name := "write", desc := "(II)V" } : Jvm.MethodName)) ∈ tbG := tbG_mem 367 (by decide +kernel) (by decide +kernel)
theorem lk_368 : (Jvm.Cond.instanceMethod ({ cls := "ShadowTax$Thing", name := "write", desc := "(II)V" } : Jvm.MethodName)) ∈ tbG := tbG_mem 368 (by decide +kernel) (by decide +kernel)
theorem lk_369 : (Jvm.Cond.selects "ShadowTax$Thing" ({ cls := "ShadowTax$Thing", name := "write", desc := "(II)V" } : Jvm.MethodName) ({ cls := "ShadowTax$Thing", name := "write", desc := "(II)V" } : Jvm.MethodName)) ∈ tbG := tbG_mem 369 (by decide +kernel) (by decide +kernel)
theorem lk_370 : (Jvm.Cond.code ({ cls := "ShadowTax$Thing", name := "write", desc := "(II)V" } : Jvm.MethodName) prog_7_method_3_code (3 : Nat) (Option.none : Option Jvm.ClassFile.FieldType)) ∈ tbG := tbG_mem 370 (by decide +kernel) (by decide +kernel)
theorem lk_372 : (Jvm.Cond.instanceMethod ({ cls := "ShadowTax", name := "thing", desc := "(III)I" } : Jvm.MethodName)) ∈ tbG := tbG_mem 372 (by decide +kernel) (by decide +kernel)
theorem lk_373 : (Jvm.Cond.selects "ShadowTax" ({ cls := "ShadowTax", name := "thing", desc := "(III)I" } : Jvm.MethodName) ({ cls := "ShadowTax", name := "thing", desc := "(III)I" } : Jvm.MethodName)) ∈ tbG := tbG_mem 373 (by decide +kernel) (by decide +kernel)
theorem lk_374 : (Jvm.Cond.code ({ cls := "ShadowTax", name := "thing", desc := "(III)I" } : Jvm.MethodName) prog_1_method_3_code (4 : Nat) (Option.some Jvm.ClassFile.FieldType.int)) ∈ tbG := tbG_mem 374 (by decide +kernel) (by decide +kernel)
theorem lk_375 : (Jvm.Cond.methodLink "ShadowTax" (57 : Nat) ({ cls := "ShadowTax$Square", name := "come", desc := "(III)I" } : Jvm.MethodName)) ∈ tbG := tbG_mem 375 (by decide +kernel) (by decide +kernel)
theorem lk_376 : (Jvm.Cond.instanceMethod ({ cls := "ShadowTax$Square", name := "come", desc := "(III)I" } : Jvm.MethodName)) ∈ tbG := tbG_mem 376 (by decide +kernel) (by decide +kernel)
theorem lk_377 : (Jvm.Cond.selects "ShadowTax$Square" ({ cls := "ShadowTax$Square", name := "come", desc := "(III)I" } : Jvm.MethodName) ({ cls := "ShadowTax$Square", name := "come", desc := "(III)I" } : Jvm.MethodName)) ∈ tbG := tbG_mem 377 (by decide +kernel) (by decide +kernel)
theorem lk_378 : (Jvm.Cond.code ({ cls := "ShadowTax$Square", name := "come", desc := "(III)I" } : Jvm.MethodName) prog_6_method_3_code (5 : Nat) (Option.some Jvm.ClassFile.FieldType.int)) ∈ tbG := tbG_mem 378 (by decide +kernel) (by decide +kernel)
theorem lk_382 : (Jvm.Cond.code ({ cls := "ShadowTax", name := "told", desc := "(II)I" } : Jvm.MethodName) prog_1_method_4_code (3 : Nat) (Option.some Jvm.ClassFile.FieldType.int)) ∈ tbG := tbG_mem 382 (by decide +kernel) (by decide +kernel)
theorem lk_386 : (Jvm.Cond.code ({ cls := "ShadowTax", name := "feed", desc := "(I)I" } : Jvm.MethodName) prog_1_method_5_code (2 : Nat) (Option.some Jvm.ClassFile.FieldType.int)) ∈ tbG := tbG_mem 386 (by decide +kernel) (by decide +kernel)
theorem lk_387 : (Jvm.Cond.methodLink "ShadowTax" (61 : Nat) ({ cls := "ShadowTax$Reader", name := "take", desc := "(I)I" } : Jvm.MethodName)) ∈ tbG := tbG_mem 387 (by decide +kernel) (by decide +kernel)
theorem lk_388 : (Jvm.Cond.instanceMethod ({ cls := "ShadowTax$Reader", name := "take", desc := "(I)I" } : Jvm.MethodName)) ∈ tbG := tbG_mem 388 (by decide +kernel) (by decide +kernel)
theorem lk_389 : (Jvm.Cond.selects "ShadowTax$Reader" ({ cls := "ShadowTax$Reader", name := "take", desc := "(I)I" } : Jvm.MethodName) ({ cls := "ShadowTax$Reader", name := "take", desc := "(I)I" } : Jvm.MethodName)) ∈ tbG := tbG_mem 389 (by decide +kernel) (by decide +kernel)
theorem lk_390 : (Jvm.Cond.code ({ cls := "ShadowTax$Reader", name := "take", desc := "(I)I" } : Jvm.MethodName) prog_3_method_2_code (2 : Nat) (Option.some Jvm.ClassFile.FieldType.int)) ∈ tbG := tbG_mem 390 (by decide +kernel) (by decide +kernel)
theorem lk_394 : (Jvm.Cond.code ({ cls := "ShadowTax", name := "text", desc := "()I" } : Jvm.MethodName) prog_1_method_6_code (2 : Nat) (Option.some Jvm.ClassFile.FieldType.int)) ∈ tbG := tbG_mem 394 (by decide +kernel) (by decide +kernel)
theorem lk_395 : (Jvm.Cond.methodLink "ShadowTax" (73 : Nat) ({ cls := "ShadowTax$Reader", name := "readInto", desc := "(LShadowTax$Rule;)I" } : Jvm.MethodName)) ∈ tbG := tbG_mem 395 (by decide +kernel) (by decide +kernel)
theorem lk_396 : (Jvm.Cond.instanceMethod ({ cls := "ShadowTax$Reader", name := "readInto", desc := "(LShadowTax$Rule;)I" } : Jvm.MethodName)) ∈ tbG := tbG_mem 396 (by decide +kernel) (by decide +kernel)
theorem lk_397 : (Jvm.Cond.selects "ShadowTax$Reader" ({ cls := "ShadowTax$Reader", name := "readInto", desc := "(LShadowTax$Rule;)I" } : Jvm.MethodName) ({ cls := "ShadowTax$Reader", name := "readInto", desc := "(LShadowTax$Rule;)I" } : Jvm.MethodName)) ∈ tbG := tbG_mem 397 (by decide +kernel) (by decide +kernel)
theorem lk_398 : (Jvm.Cond.code ({ cls := "ShadowTax$Reader", name := "readInto", desc := "(LShadowTax$Rule;)I" } : Jvm.MethodName) prog_3_method_3_code (3 : Nat) (Option.some Jvm.ClassFile.FieldType.int)) ∈ tbG := tbG_mem 398 (by decide +kernel) (by decide +kernel)
theorem lk_399 : (Jvm.Cond.methodLink "ShadowTax$Reader" (23 : Nat) ({ cls := "ShadowTax$Rule", name := "empty", desc := "()V" } : Jvm.MethodName)) ∈ tbG := tbG_mem 399 (by decide +kernel) (by decide +kernel)
theorem lk_400 : (Jvm.Cond.methodLink "ShadowTax$Reader" (34 : Nat) ({ cls := "ShadowTax$Reader", name := "advance", desc := "()V" } : Jvm.MethodName)) ∈ tbG := tbG_mem 400 (by decide +kernel) (by decide +kernel)
theorem lk_402 : (Jvm.Cond.instanceMethod ({ cls := "ShadowTax$Reader", name := "advance", desc := "()V" } : Jvm.MethodName)) ∈ tbG := tbG_mem 402 (by decide +kernel) (by decide +kernel)
theorem lk_403 : (Jvm.Cond.code ({ cls := "ShadowTax$Reader", name := "advance", desc := "()V" } : Jvm.MethodName) prog_3_method_10_code (1 : Nat) (Option.none : Option Jvm.ClassFile.FieldType)) ∈ tbG := tbG_mem 403 (by decide +kernel) (by decide +kernel)
theorem lk_404 : (Jvm.Cond.methodLink "ShadowTax$Reader" (71 : Nat) ({ cls := "ShadowTax$Reader", name := "isLetter", desc := "(I)Z" } : Jvm.MethodName)) ∈ tbG := tbG_mem 404 (by decide +kernel) (by decide +kernel)
theorem lk_405 : (Jvm.Cond.static ({ cls := "ShadowTax$Reader", name := "isLetter", desc := "(I)Z" } : Jvm.MethodName)) ∈ tbG := tbG_mem 405 (by decide +kernel) (by decide +kernel)
theorem lk_406 : (Jvm.Cond.code ({ cls := "ShadowTax$Reader", name := "isLetter", desc := "(I)Z" } : Jvm.MethodName) prog_3_method_15_code (1 : Nat) (Option.some Jvm.ClassFile.FieldType.boolean)) ∈ tbG := tbG_mem 406 (by decide +kernel) (by decide +kernel)
theorem lk_407 : (Jvm.Cond.methodLink "ShadowTax$Reader" (75 : Nat) ({ cls := "ShadowTax$Reader", name := "readWord", desc := "()I" } : Jvm.MethodName)) ∈ tbG := tbG_mem 407 (by decide +kernel) (by decide +kernel)
theorem lk_409 : (Jvm.Cond.instanceMethod ({ cls := "ShadowTax$Reader", name := "readWord", desc := "()I" } : Jvm.MethodName)) ∈ tbG := tbG_mem 409 (by decide +kernel) (by decide +kernel)
theorem lk_410 : (Jvm.Cond.code ({ cls := "ShadowTax$Reader", name := "readWord", desc := "()I" } : Jvm.MethodName) prog_3_method_12_code (1 : Nat) (Option.some Jvm.ClassFile.FieldType.int)) ∈ tbG := tbG_mem 410 (by decide +kernel) (by decide +kernel)
theorem lk_412 : (Jvm.Cond.methodLink "ShadowTax$Reader" (90 : Nat) ({ cls := "ShadowTax$Reader", name := "isWord", desc := "(Ljava/lang/String;)Z" } : Jvm.MethodName)) ∈ tbG := tbG_mem 412 (by decide +kernel) (by decide +kernel)
theorem lk_414 : (Jvm.Cond.instanceMethod ({ cls := "ShadowTax$Reader", name := "isWord", desc := "(Ljava/lang/String;)Z" } : Jvm.MethodName)) ∈ tbG := tbG_mem 414 (by decide +kernel) (by decide +kernel)
theorem lk_415 : (Jvm.Cond.code ({ cls := "ShadowTax$Reader", name := "isWord", desc := "(Ljava/lang/String;)Z" } : Jvm.MethodName) prog_3_method_13_code (3 : Nat) (Option.some Jvm.ClassFile.FieldType.boolean)) ∈ tbG := tbG_mem 415 (by decide +kernel) (by decide +kernel)
theorem lk_419 : (Jvm.Cond.code ({ cls := "java/lang/String", name := "length", desc := "()I" } : Jvm.MethodName) prog_12_method_54_code (1 : Nat) (Option.some Jvm.ClassFile.FieldType.int)) ∈ tbG := tbG_mem 419 (by decide +kernel) (by decide +kernel)
theorem lk_423 : (Jvm.Cond.code ({ cls := "java/lang/String", name := "coder", desc := "()B" } : Jvm.MethodName) prog_12_method_152_code (1 : Nat) (Option.some Jvm.ClassFile.FieldType.byte)) ∈ tbG := tbG_mem 423 (by decide +kernel) (by decide +kernel)
theorem lk_429 : (Jvm.Cond.code ({ cls := "java/lang/String", name := "charAt", desc := "(I)C" } : Jvm.MethodName) prog_12_method_56_code (2 : Nat) (Option.some Jvm.ClassFile.FieldType.char)) ∈ tbG := tbG_mem 429 (by decide +kernel) (by decide +kernel)
theorem lk_433 : (Jvm.Cond.code ({ cls := "java/lang/String", name := "isLatin1", desc := "()Z" } : Jvm.MethodName) prog_12_method_154_code (1 : Nat) (Option.some Jvm.ClassFile.FieldType.boolean)) ∈ tbG := tbG_mem 433 (by decide +kernel) (by decide +kernel)
theorem lk_434 : (Jvm.Cond.methodLink "java/lang/String" (495 : Nat) ({ cls := "java/lang/StringLatin1", name := "charAt", desc := "([BI)C" } : Jvm.MethodName)) ∈ tbG := tbG_mem 434 (by decide +kernel) (by decide +kernel)
theorem lk_435 : (Jvm.Cond.static ({ cls := "java/lang/StringLatin1", name := "charAt", desc := "([BI)C" } : Jvm.MethodName)) ∈ tbG := tbG_mem 435 (by decide +kernel) (by decide +kernel)
theorem lk_436 : (Jvm.Cond.code ({ cls := "java/lang/StringLatin1", name := "charAt", desc := "([BI)C" } : Jvm.MethodName) prog_13_method_2_code (2 : Nat) (Option.some Jvm.ClassFile.FieldType.char)) ∈ tbG := tbG_mem 436 (by decide +kernel) (by decide +kernel)
theorem lk_437 : (Jvm.Cond.methodLink "java/lang/StringLatin1" (9 : Nat) ({ cls := "java/lang/String", name := "checkIndex", desc := "(II)V" } : Jvm.MethodName)) ∈ tbG := tbG_mem 437 (by decide +kernel) (by decide +kernel)
theorem lk_438 : (Jvm.Cond.static ({ cls := "java/lang/String", name := "checkIndex", desc := "(II)V" } : Jvm.MethodName)) ∈ tbG := tbG_mem 438 (by decide +kernel) (by decide +kernel)
theorem lk_439 : (Jvm.Cond.code ({ cls := "java/lang/String", name := "checkIndex", desc := "(II)V" } : Jvm.MethodName) prog_12_method_155_code (2 : Nat) (Option.none : Option Jvm.ClassFile.FieldType)) ∈ tbG := tbG_mem 439 (by decide +kernel) (by decide +kernel)
theorem lk_442 : (Jvm.Cond.methodLink "java/lang/String" (1059 : Nat) ({ cls := "jdk/internal/util/Preconditions", name := "checkIndex", desc := "(IILjava/util/function/BiFunction;)I" } : Jvm.MethodName)) ∈ tbG := tbG_mem 442 (by decide +kernel) (by decide +kernel)
theorem lk_443 : (Jvm.Cond.static ({ cls := "jdk/internal/util/Preconditions", name := "checkIndex", desc := "(IILjava/util/function/BiFunction;)I" } : Jvm.MethodName)) ∈ tbG := tbG_mem 443 (by decide +kernel) (by decide +kernel)
theorem lk_444 : (Jvm.Cond.code ({ cls := "jdk/internal/util/Preconditions", name := "checkIndex", desc := "(IILjava/util/function/BiFunction;)I" } : Jvm.MethodName) prog_17_method_11_code (3 : Nat) (Option.some Jvm.ClassFile.FieldType.int)) ∈ tbG := tbG_mem 444 (by decide +kernel) (by decide +kernel)
theorem lk_445 : (Jvm.Cond.methodLink "java/lang/String" (498 : Nat) ({ cls := "java/lang/StringUTF16", name := "charAt", desc := "([BI)C" } : Jvm.MethodName)) ∈ tbG := tbG_mem 445 (by decide +kernel) (by decide +kernel)
theorem lk_446 : (Jvm.Cond.static ({ cls := "java/lang/StringUTF16", name := "charAt", desc := "([BI)C" } : Jvm.MethodName)) ∈ tbG := tbG_mem 446 (by decide +kernel) (by decide +kernel)
theorem lk_475 : (Jvm.Cond.methodLink "ShadowTax$Reader" (79 : Nat) ({ cls := "ShadowTax$Reader", name := "isDigit", desc := "(I)Z" } : Jvm.MethodName)) ∈ tbG := tbG_mem 475 (by decide +kernel) (by decide +kernel)
theorem lk_476 : (Jvm.Cond.static ({ cls := "ShadowTax$Reader", name := "isDigit", desc := "(I)Z" } : Jvm.MethodName)) ∈ tbG := tbG_mem 476 (by decide +kernel) (by decide +kernel)
theorem lk_477 : (Jvm.Cond.code ({ cls := "ShadowTax$Reader", name := "isDigit", desc := "(I)Z" } : Jvm.MethodName) prog_3_method_16_code (1 : Nat) (Option.some Jvm.ClassFile.FieldType.boolean)) ∈ tbG := tbG_mem 477 (by decide +kernel) (by decide +kernel)
theorem lk_478 : (Jvm.Cond.methodLink "ShadowTax$Reader" (82 : Nat) ({ cls := "ShadowTax$Reader", name := "readNumber", desc := "()I" } : Jvm.MethodName)) ∈ tbG := tbG_mem 478 (by decide +kernel) (by decide +kernel)
theorem lk_480 : (Jvm.Cond.instanceMethod ({ cls := "ShadowTax$Reader", name := "readNumber", desc := "()I" } : Jvm.MethodName)) ∈ tbG := tbG_mem 480 (by decide +kernel) (by decide +kernel)
theorem lk_481 : (Jvm.Cond.code ({ cls := "ShadowTax$Reader", name := "readNumber", desc := "()I" } : Jvm.MethodName) prog_3_method_11_code (2 : Nat) (Option.some Jvm.ClassFile.FieldType.int)) ∈ tbG := tbG_mem 481 (by decide +kernel) (by decide +kernel)
theorem lk_482 : (Jvm.Cond.methodLink "ShadowTax$Reader" (85 : Nat) ({ cls := "ShadowTax$Reader", name := "signOf", desc := "(I)I" } : Jvm.MethodName)) ∈ tbG := tbG_mem 482 (by decide +kernel) (by decide +kernel)
theorem lk_483 : (Jvm.Cond.static ({ cls := "ShadowTax$Reader", name := "signOf", desc := "(I)I" } : Jvm.MethodName)) ∈ tbG := tbG_mem 483 (by decide +kernel) (by decide +kernel)
theorem lk_484 : (Jvm.Cond.code ({ cls := "ShadowTax$Reader", name := "signOf", desc := "(I)I" } : Jvm.MethodName) prog_3_method_14_code (1 : Nat) (Option.some Jvm.ClassFile.FieldType.int)) ∈ tbG := tbG_mem 484 (by decide +kernel) (by decide +kernel)
theorem lk_485 : (Jvm.Cond.methodLink "ShadowTax$Reader" (37 : Nat) ({ cls := "ShadowTax$Reader", name := "expect", desc := "(I)V" } : Jvm.MethodName)) ∈ tbG := tbG_mem 485 (by decide +kernel) (by decide +kernel)
theorem lk_487 : (Jvm.Cond.instanceMethod ({ cls := "ShadowTax$Reader", name := "expect", desc := "(I)V" } : Jvm.MethodName)) ∈ tbG := tbG_mem 487 (by decide +kernel) (by decide +kernel)
theorem lk_488 : (Jvm.Cond.code ({ cls := "ShadowTax$Reader", name := "expect", desc := "(I)V" } : Jvm.MethodName) prog_3_method_5_code (2 : Nat) (Option.none : Option Jvm.ClassFile.FieldType)) ∈ tbG := tbG_mem 488 (by decide +kernel) (by decide +kernel)
theorem lk_489 : (Jvm.Cond.methodLink "ShadowTax$Reader" (54 : Nat) ({ cls := "ShadowTax$Reader", name := "fail", desc := "()V" } : Jvm.MethodName)) ∈ tbG := tbG_mem 489 (by decide +kernel) (by decide +kernel)
theorem lk_491 : (Jvm.Cond.instanceMethod ({ cls := "ShadowTax$Reader", name := "fail", desc := "()V" } : Jvm.MethodName)) ∈ tbG := tbG_mem 491 (by decide +kernel) (by decide +kernel)
theorem lk_492 : (Jvm.Cond.code ({ cls := "ShadowTax$Reader", name := "fail", desc := "()V" } : Jvm.MethodName) prog_3_method_4_code (1 : Nat) (Option.none : Option Jvm.ClassFile.FieldType)) ∈ tbG := tbG_mem 492 (by decide +kernel) (by decide +kernel)
theorem lk_493 : (Jvm.Cond.methodLink "ShadowTax$Reader" (41 : Nat) ({ cls := "ShadowTax$Reader", name := "readLevel", desc := "(II)V" } : Jvm.MethodName)) ∈ tbG := tbG_mem 493 (by decide +kernel) (by decide +kernel)
theorem lk_495 : (Jvm.Cond.instanceMethod ({ cls := "ShadowTax$Reader", name := "readLevel", desc := "(II)V" } : Jvm.MethodName)) ∈ tbG := tbG_mem 495 (by decide +kernel) (by decide +kernel)
theorem lk_496 : (Jvm.Cond.code ({ cls := "ShadowTax$Reader", name := "readLevel", desc := "(II)V" } : Jvm.MethodName) prog_3_method_6_code (6 : Nat) (Option.none : Option Jvm.ClassFile.FieldType)) ∈ tbG := tbG_mem 496 (by decide +kernel) (by decide +kernel)
theorem lk_497 : (Jvm.Cond.methodLink "ShadowTax$Reader" (57 : Nat) ({ cls := "ShadowTax$Reader", name := "readOne", desc := "(I)V" } : Jvm.MethodName)) ∈ tbG := tbG_mem 497 (by decide +kernel) (by decide +kernel)
theorem lk_499 : (Jvm.Cond.instanceMethod ({ cls := "ShadowTax$Reader", name := "readOne", desc := "(I)V" } : Jvm.MethodName)) ∈ tbG := tbG_mem 499 (by decide +kernel) (by decide +kernel)
theorem lk_500 : (Jvm.Cond.code ({ cls := "ShadowTax$Reader", name := "readOne", desc := "(I)V" } : Jvm.MethodName) prog_3_method_7_code (2 : Nat) (Option.none : Option Jvm.ClassFile.FieldType)) ∈ tbG := tbG_mem 500 (by decide +kernel) (by decide +kernel)
theorem lk_501 : (Jvm.Cond.methodLink "ShadowTax$Reader" (68 : Nat) ({ cls := "ShadowTax$Rule", name := "add", desc := "(I)V" } : Jvm.MethodName)) ∈ tbG := tbG_mem 501 (by decide +kernel) (by decide +kernel)
theorem lk_502 : (Jvm.Cond.methodLink "ShadowTax$Reader" (60 : Nat) ({ cls := "ShadowTax$Reader", name := "readBehind", desc := "(III)V" } : Jvm.MethodName)) ∈ tbG := tbG_mem 502 (by decide +kernel) (by decide +kernel)
theorem lk_504 : (Jvm.Cond.instanceMethod ({ cls := "ShadowTax$Reader", name := "readBehind", desc := "(III)V" } : Jvm.MethodName)) ∈ tbG := tbG_mem 504 (by decide +kernel) (by decide +kernel)
theorem lk_505 : (Jvm.Cond.code ({ cls := "ShadowTax$Reader", name := "readBehind", desc := "(III)V" } : Jvm.MethodName) prog_3_method_8_code (4 : Nat) (Option.none : Option Jvm.ClassFile.FieldType)) ∈ tbG := tbG_mem 505 (by decide +kernel) (by decide +kernel)
theorem lk_506 : (Jvm.Cond.methodLink "ShadowTax$Reader" (64 : Nat) ({ cls := "ShadowTax$Reader", name := "levelOf", desc := "(I)I" } : Jvm.MethodName)) ∈ tbG := tbG_mem 506 (by decide +kernel) (by decide +kernel)
theorem lk_507 : (Jvm.Cond.static ({ cls := "ShadowTax$Reader", name := "levelOf", desc := "(I)I" } : Jvm.MethodName)) ∈ tbG := tbG_mem 507 (by decide +kernel) (by decide +kernel)
theorem lk_508 : (Jvm.Cond.code ({ cls := "ShadowTax$Reader", name := "levelOf", desc := "(I)I" } : Jvm.MethodName) prog_3_method_9_code (1 : Nat) (Option.some Jvm.ClassFile.FieldType.int)) ∈ tbG := tbG_mem 508 (by decide +kernel) (by decide +kernel)
theorem lk_509 : (Jvm.Cond.methodLink "ShadowTax$Reader" (45 : Nat) ({ cls := "ShadowTax$Rule", name := "endPart", desc := "()V" } : Jvm.MethodName)) ∈ tbG := tbG_mem 509 (by decide +kernel) (by decide +kernel)
theorem lk_514 : (Jvm.Cond.code ({ cls := "ShadowTax", name := "force", desc := "(I)I" } : Jvm.MethodName) prog_1_method_7_code (3 : Nat) (Option.some Jvm.ClassFile.FieldType.int)) ∈ tbG := tbG_mem 514 (by decide +kernel) (by decide +kernel)
theorem lk_518 : (Jvm.Cond.code ({ cls := "ShadowTax", name := "hour", desc := "(III)I" } : Jvm.MethodName) prog_1_method_8_code (4 : Nat) (Option.some Jvm.ClassFile.FieldType.int)) ∈ tbG := tbG_mem 518 (by decide +kernel) (by decide +kernel)
theorem lk_519 : (Jvm.Cond.methodLink "ShadowTax" (80 : Nat) ({ cls := "ShadowTax", name := "isHour", desc := "(I)Z" } : Jvm.MethodName)) ∈ tbG := tbG_mem 519 (by decide +kernel) (by decide +kernel)
theorem lk_520 : (Jvm.Cond.static ({ cls := "ShadowTax", name := "isHour", desc := "(I)Z" } : Jvm.MethodName)) ∈ tbG := tbG_mem 520 (by decide +kernel) (by decide +kernel)
theorem lk_521 : (Jvm.Cond.code ({ cls := "ShadowTax", name := "isHour", desc := "(I)Z" } : Jvm.MethodName) prog_1_method_36_code (1 : Nat) (Option.some Jvm.ClassFile.FieldType.boolean)) ∈ tbG := tbG_mem 521 (by decide +kernel) (by decide +kernel)
theorem lk_522 : (Jvm.Cond.methodLink "ShadowTax" (83 : Nat) ({ cls := "ShadowTax$Square", name := "look", desc := "(I)V" } : Jvm.MethodName)) ∈ tbG := tbG_mem 522 (by decide +kernel) (by decide +kernel)
theorem lk_523 : (Jvm.Cond.instanceMethod ({ cls := "ShadowTax$Square", name := "look", desc := "(I)V" } : Jvm.MethodName)) ∈ tbG := tbG_mem 523 (by decide +kernel) (by decide +kernel)
theorem lk_524 : (Jvm.Cond.selects "ShadowTax$Square" ({ cls := "ShadowTax$Square", name := "look", desc := "(I)V" } : Jvm.MethodName) ({ cls := "ShadowTax$Square", name := "look", desc := "(I)V" } : Jvm.MethodName)) ∈ tbG := tbG_mem 524 (by decide +kernel) (by decide +kernel)
theorem lk_525 : (Jvm.Cond.code ({ cls := "ShadowTax$Square", name := "look", desc := "(I)V" } : Jvm.MethodName) prog_6_method_6_code (3 : Nat) (Option.none : Option Jvm.ClassFile.FieldType)) ∈ tbG := tbG_mem 525 (by decide +kernel) (by decide +kernel)
theorem lk_526 : (Jvm.Cond.methodLink "ShadowTax$Square" (81 : Nat) ({ cls := "ShadowTax$Square", name := "measure", desc := "(II)V" } : Jvm.MethodName)) ∈ tbG := tbG_mem 526 (by decide +kernel) (by decide +kernel)
theorem lk_528 : (Jvm.Cond.instanceMethod ({ cls := "ShadowTax$Square", name := "measure", desc := "(II)V" } : Jvm.MethodName)) ∈ tbG := tbG_mem 528 (by decide +kernel) (by decide +kernel)
theorem lk_529 : (Jvm.Cond.code ({ cls := "ShadowTax$Square", name := "measure", desc := "(II)V" } : Jvm.MethodName) prog_6_method_7_code (5 : Nat) (Option.none : Option Jvm.ClassFile.FieldType)) ∈ tbG := tbG_mem 529 (by decide +kernel) (by decide +kernel)
theorem lk_530 : (Jvm.Cond.methodLink "ShadowTax$Square" (88 : Nat) ({ cls := "ShadowTax$Square", name := "ruled", desc := "(II)I" } : Jvm.MethodName)) ∈ tbG := tbG_mem 530 (by decide +kernel) (by decide +kernel)
theorem lk_532 : (Jvm.Cond.instanceMethod ({ cls := "ShadowTax$Square", name := "ruled", desc := "(II)I" } : Jvm.MethodName)) ∈ tbG := tbG_mem 532 (by decide +kernel) (by decide +kernel)
theorem lk_533 : (Jvm.Cond.code ({ cls := "ShadowTax$Square", name := "ruled", desc := "(II)I" } : Jvm.MethodName) prog_6_method_8_code (3 : Nat) (Option.some Jvm.ClassFile.FieldType.int)) ∈ tbG := tbG_mem 533 (by decide +kernel) (by decide +kernel)
theorem lk_534 : (Jvm.Cond.methodLink "ShadowTax$Square" (106 : Nat) ({ cls := "ShadowTax$Rule", name := "value", desc := "(I[I[I)I" } : Jvm.MethodName)) ∈ tbG := tbG_mem 534 (by decide +kernel) (by decide +kernel)
theorem lk_535 : (Jvm.Cond.instanceMethod ({ cls := "ShadowTax$Rule", name := "value", desc := "(I[I[I)I" } : Jvm.MethodName)) ∈ tbG := tbG_mem 535 (by decide +kernel) (by decide +kernel)
theorem lk_536 : (Jvm.Cond.selects "ShadowTax$Rule" ({ cls := "ShadowTax$Rule", name := "value", desc := "(I[I[I)I" } : Jvm.MethodName) ({ cls := "ShadowTax$Rule", name := "value", desc := "(I[I[I)I" } : Jvm.MethodName)) ∈ tbG := tbG_mem 536 (by decide +kernel) (by decide +kernel)
theorem lk_537 : (Jvm.Cond.code ({ cls := "ShadowTax$Rule", name := "value", desc := "(I[I[I)I" } : Jvm.MethodName) prog_4_method_6_code (8 : Nat) (Option.some Jvm.ClassFile.FieldType.int)) ∈ tbG := tbG_mem 537 (by decide +kernel) (by decide +kernel)
theorem lk_538 : (Jvm.Cond.methodLink "ShadowTax$Rule" (35 : Nat) ({ cls := "ShadowTax$Rule", name := "alone", desc := "(II)I" } : Jvm.MethodName)) ∈ tbG := tbG_mem 538 (by decide +kernel) (by decide +kernel)
theorem lk_539 : (Jvm.Cond.static ({ cls := "ShadowTax$Rule", name := "alone", desc := "(II)I" } : Jvm.MethodName)) ∈ tbG := tbG_mem 539 (by decide +kernel) (by decide +kernel)
theorem lk_540 : (Jvm.Cond.code ({ cls := "ShadowTax$Rule", name := "alone", desc := "(II)I" } : Jvm.MethodName) prog_4_method_7_code (2 : Nat) (Option.some Jvm.ClassFile.FieldType.int)) ∈ tbG := tbG_mem 540 (by decide +kernel) (by decide +kernel)
theorem lk_541 : (Jvm.Cond.methodLink "ShadowTax$Rule" (39 : Nat) ({ cls := "ShadowTax$Rule", name := "joined", desc := "(III)I" } : Jvm.MethodName)) ∈ tbG := tbG_mem 541 (by decide +kernel) (by decide +kernel)
theorem lk_542 : (Jvm.Cond.static ({ cls := "ShadowTax$Rule", name := "joined", desc := "(III)I" } : Jvm.MethodName)) ∈ tbG := tbG_mem 542 (by decide +kernel) (by decide +kernel)
theorem lk_543 : (Jvm.Cond.code ({ cls := "ShadowTax$Rule", name := "joined", desc := "(III)I" } : Jvm.MethodName) prog_4_method_8_code (3 : Nat) (Option.some Jvm.ClassFile.FieldType.int)) ∈ tbG := tbG_mem 543 (by decide +kernel) (by decide +kernel)
theorem lk_545 : (Jvm.Cond.static ({ cls := "ShadowTax", name := "bounded", desc := "(II)I" } : Jvm.MethodName)) ∈ tbG := tbG_mem 545 (by decide +kernel) (by decide +kernel)
theorem lk_546 : (Jvm.Cond.code ({ cls := "ShadowTax", name := "bounded", desc := "(II)I" } : Jvm.MethodName) prog_1_method_38_code (2 : Nat) (Option.some Jvm.ClassFile.FieldType.int)) ∈ tbG := tbG_mem 546 (by decide +kernel) (by decide +kernel)
theorem lk_547 : (Jvm.Cond.methodLink "ShadowTax" (233 : Nat) ({ cls := "java/lang/Math", name := "min", desc := "(II)I" } : Jvm.MethodName)) ∈ tbG := tbG_mem 547 (by decide +kernel) (by decide +kernel)
theorem lk_550 : (Jvm.Cond.methodLink "ShadowTax" (238 : Nat) ({ cls := "java/lang/Math", name := "max", desc := "(II)I" } : Jvm.MethodName)) ∈ tbG := tbG_mem 550 (by decide +kernel) (by decide +kernel)
theorem lk_553 : (Jvm.Cond.methodLink "ShadowTax$Square" (92 : Nat) ({ cls := "ShadowTax$Thing", name := "reach", desc := "(I)I" } : Jvm.MethodName)) ∈ tbG := tbG_mem 553 (by decide +kernel) (by decide +kernel)
theorem lk_554 : (Jvm.Cond.instanceMethod ({ cls := "ShadowTax$Thing", name := "reach", desc := "(I)I" } : Jvm.MethodName)) ∈ tbG := tbG_mem 554 (by decide +kernel) (by decide +kernel)
theorem lk_555 : (Jvm.Cond.selects "ShadowTax$Thing" ({ cls := "ShadowTax$Thing", name := "reach", desc := "(I)I" } : Jvm.MethodName) ({ cls := "ShadowTax$Thing", name := "reach", desc := "(I)I" } : Jvm.MethodName)) ∈ tbG := tbG_mem 555 (by decide +kernel) (by decide +kernel)
theorem lk_556 : (Jvm.Cond.code ({ cls := "ShadowTax$Thing", name := "reach", desc := "(I)I" } : Jvm.MethodName) prog_7_method_4_code (4 : Nat) (Option.some Jvm.ClassFile.FieldType.int)) ∈ tbG := tbG_mem 556 (by decide +kernel) (by decide +kernel)
theorem lk_558 : (Jvm.Cond.methodLink "ShadowTax$Square" (95 : Nat) ({ cls := "ShadowTax$Thing", name := "owed", desc := "(II)I" } : Jvm.MethodName)) ∈ tbG := tbG_mem 558 (by decide +kernel) (by decide +kernel)
theorem lk_559 : (Jvm.Cond.instanceMethod ({ cls := "ShadowTax$Thing", name := "owed", desc := "(II)I" } : Jvm.MethodName)) ∈ tbG := tbG_mem 559 (by decide +kernel) (by decide +kernel)
theorem lk_560 : (Jvm.Cond.selects "ShadowTax$Thing" ({ cls := "ShadowTax$Thing", name := "owed", desc := "(II)I" } : Jvm.MethodName) ({ cls := "ShadowTax$Thing", name := "owed", desc := "(II)I" } : Jvm.MethodName)) ∈ tbG := tbG_mem 560 (by decide +kernel) (by decide +kernel)
theorem lk_561 : (Jvm.Cond.code ({ cls := "ShadowTax$Thing", name := "owed", desc := "(II)I" } : Jvm.MethodName) prog_7_method_5_code (5 : Nat) (Option.some Jvm.ClassFile.FieldType.int)) ∈ tbG := tbG_mem 561 (by decide +kernel) (by decide +kernel)
theorem lk_562 : (Jvm.Cond.methodLink "ShadowTax$Thing" (32 : Nat) ({ cls := "java/lang/Math", name := "min", desc := "(II)I" } : Jvm.MethodName)) ∈ tbG := tbG_mem 562 (by decide +kernel) (by decide +kernel)
theorem lk_563 : (Jvm.Cond.methodLink "ShadowTax$Square" (98 : Nat) ({ cls := "java/lang/Math", name := "max", desc := "(II)I" } : Jvm.MethodName)) ∈ tbG := tbG_mem 563 (by decide +kernel) (by decide +kernel)
theorem lk_564 : (Jvm.Cond.methodLink "ShadowTax$Square" (84 : Nat) ({ cls := "ShadowTax$Square", name := "cast", desc := "(I)V" } : Jvm.MethodName)) ∈ tbG := tbG_mem 564 (by decide +kernel) (by decide +kernel)
theorem lk_566 : (Jvm.Cond.instanceMethod ({ cls := "ShadowTax$Square", name := "cast", desc := "(I)V" } : Jvm.MethodName)) ∈ tbG := tbG_mem 566 (by decide +kernel) (by decide +kernel)
theorem lk_567 : (Jvm.Cond.code ({ cls := "ShadowTax$Square", name := "cast", desc := "(I)V" } : Jvm.MethodName) prog_6_method_9_code (10 : Nat) (Option.none : Option Jvm.ClassFile.FieldType)) ∈ tbG := tbG_mem 567 (by decide +kernel) (by decide +kernel)
theorem lk_568 : (Jvm.Cond.methodLink "ShadowTax$Square" (119 : Nat) ({ cls := "ShadowTax$Square", name := "occupied", desc := "()I" } : Jvm.MethodName)) ∈ tbG := tbG_mem 568 (by decide +kernel) (by decide +kernel)
theorem lk_570 : (Jvm.Cond.instanceMethod ({ cls := "ShadowTax$Square", name := "occupied", desc := "()I" } : Jvm.MethodName)) ∈ tbG := tbG_mem 570 (by decide +kernel) (by decide +kernel)
theorem lk_571 : (Jvm.Cond.code ({ cls := "ShadowTax$Square", name := "occupied", desc := "()I" } : Jvm.MethodName) prog_6_method_10_code (3 : Nat) (Option.some Jvm.ClassFile.FieldType.int)) ∈ tbG := tbG_mem 571 (by decide +kernel) (by decide +kernel)
theorem lk_572 : (Jvm.Cond.methodLink "ShadowTax$Square" (123 : Nat) ({ cls := "ShadowTax$Square", name := "shadowOf", desc := "(IZ)I" } : Jvm.MethodName)) ∈ tbG := tbG_mem 572 (by decide +kernel) (by decide +kernel)
theorem lk_574 : (Jvm.Cond.instanceMethod ({ cls := "ShadowTax$Square", name := "shadowOf", desc := "(IZ)I" } : Jvm.MethodName)) ∈ tbG := tbG_mem 574 (by decide +kernel) (by decide +kernel)
theorem lk_575 : (Jvm.Cond.code ({ cls := "ShadowTax$Square", name := "shadowOf", desc := "(IZ)I" } : Jvm.MethodName) prog_6_method_11_code (4 : Nat) (Option.some Jvm.ClassFile.FieldType.int)) ∈ tbG := tbG_mem 575 (by decide +kernel) (by decide +kernel)
theorem lk_577 : (Jvm.Cond.static ({ cls := "ShadowTax", name := "bits", desc := "(II)I" } : Jvm.MethodName)) ∈ tbG := tbG_mem 577 (by decide +kernel) (by decide +kernel)
theorem lk_578 : (Jvm.Cond.code ({ cls := "ShadowTax", name := "bits", desc := "(II)I" } : Jvm.MethodName) prog_1_method_39_code (2 : Nat) (Option.some Jvm.ClassFile.FieldType.int)) ∈ tbG := tbG_mem 578 (by decide +kernel) (by decide +kernel)
theorem lk_579 : (Jvm.Cond.methodLink "ShadowTax$Square" (134 : Nat) ({ cls := "java/lang/Math", name := "min", desc := "(II)I" } : Jvm.MethodName)) ∈ tbG := tbG_mem 579 (by decide +kernel) (by decide +kernel)
theorem lk_580 : (Jvm.Cond.methodLink "ShadowTax$Square" (127 : Nat) ({ cls := "ShadowTax$Thing", name := "hides", desc := "()Z" } : Jvm.MethodName)) ∈ tbG := tbG_mem 580 (by decide +kernel) (by decide +kernel)
theorem lk_581 : (Jvm.Cond.methodLink "ShadowTax" (93 : Nat) ({ cls := "ShadowTax$Square", name := "dueOf", desc := "(I)I" } : Jvm.MethodName)) ∈ tbG := tbG_mem 581 (by decide +kernel) (by decide +kernel)
theorem lk_582 : (Jvm.Cond.instanceMethod ({ cls := "ShadowTax$Square", name := "dueOf", desc := "(I)I" } : Jvm.MethodName)) ∈ tbG := tbG_mem 582 (by decide +kernel) (by decide +kernel)
theorem lk_583 : (Jvm.Cond.selects "ShadowTax$Square" ({ cls := "ShadowTax$Square", name := "dueOf", desc := "(I)I" } : Jvm.MethodName) ({ cls := "ShadowTax$Square", name := "dueOf", desc := "(I)I" } : Jvm.MethodName)) ∈ tbG := tbG_mem 583 (by decide +kernel) (by decide +kernel)
theorem lk_584 : (Jvm.Cond.code ({ cls := "ShadowTax$Square", name := "dueOf", desc := "(I)I" } : Jvm.MethodName) prog_6_method_13_code (2 : Nat) (Option.some Jvm.ClassFile.FieldType.int)) ∈ tbG := tbG_mem 584 (by decide +kernel) (by decide +kernel)
theorem lk_588 : (Jvm.Cond.code ({ cls := "ShadowTax", name := "takes", desc := "(I)I" } : Jvm.MethodName) prog_1_method_9_code (2 : Nat) (Option.some Jvm.ClassFile.FieldType.int)) ∈ tbG := tbG_mem 588 (by decide +kernel) (by decide +kernel)
theorem lk_589 : (Jvm.Cond.methodLink "ShadowTax" (96 : Nat) ({ cls := "ShadowTax$Square", name := "dueOfDay", desc := "()I" } : Jvm.MethodName)) ∈ tbG := tbG_mem 589 (by decide +kernel) (by decide +kernel)
theorem lk_590 : (Jvm.Cond.instanceMethod ({ cls := "ShadowTax$Square", name := "dueOfDay", desc := "()I" } : Jvm.MethodName)) ∈ tbG := tbG_mem 590 (by decide +kernel) (by decide +kernel)
theorem lk_591 : (Jvm.Cond.selects "ShadowTax$Square" ({ cls := "ShadowTax$Square", name := "dueOfDay", desc := "()I" } : Jvm.MethodName) ({ cls := "ShadowTax$Square", name := "dueOfDay", desc := "()I" } : Jvm.MethodName)) ∈ tbG := tbG_mem 591 (by decide +kernel) (by decide +kernel)
theorem lk_592 : (Jvm.Cond.code ({ cls := "ShadowTax$Square", name := "dueOfDay", desc := "()I" } : Jvm.MethodName) prog_6_method_15_code (3 : Nat) (Option.some Jvm.ClassFile.FieldType.int)) ∈ tbG := tbG_mem 592 (by decide +kernel) (by decide +kernel)
theorem lk_593 : (Jvm.Cond.methodLink "ShadowTax$Square" (140 : Nat) ({ cls := "ShadowTax$Square", name := "look", desc := "(I)V" } : Jvm.MethodName)) ∈ tbG := tbG_mem 593 (by decide +kernel) (by decide +kernel)
theorem lk_594 : (Jvm.Cond.methodLink "ShadowTax$Square" (143 : Nat) ({ cls := "ShadowTax$Square", name := "dueOfAll", desc := "()I" } : Jvm.MethodName)) ∈ tbG := tbG_mem 594 (by decide +kernel) (by decide +kernel)
theorem lk_595 : (Jvm.Cond.instanceMethod ({ cls := "ShadowTax$Square", name := "dueOfAll", desc := "()I" } : Jvm.MethodName)) ∈ tbG := tbG_mem 595 (by decide +kernel) (by decide +kernel)
theorem lk_596 : (Jvm.Cond.selects "ShadowTax$Square" ({ cls := "ShadowTax$Square", name := "dueOfAll", desc := "()I" } : Jvm.MethodName) ({ cls := "ShadowTax$Square", name := "dueOfAll", desc := "()I" } : Jvm.MethodName)) ∈ tbG := tbG_mem 596 (by decide +kernel) (by decide +kernel)
theorem lk_597 : (Jvm.Cond.code ({ cls := "ShadowTax$Square", name := "dueOfAll", desc := "()I" } : Jvm.MethodName) prog_6_method_14_code (3 : Nat) (Option.some Jvm.ClassFile.FieldType.int)) ∈ tbG := tbG_mem 597 (by decide +kernel) (by decide +kernel)
theorem lk_598 : (Jvm.Cond.methodLink "ShadowTax$Square" (137 : Nat) ({ cls := "ShadowTax$Square", name := "dueOf", desc := "(I)I" } : Jvm.MethodName)) ∈ tbG := tbG_mem 598 (by decide +kernel) (by decide +kernel)
theorem lk_599 : (Jvm.Cond.methodLink "ShadowTax" (100 : Nat) ({ cls := "ShadowTax$Square", name := "dueOfAll", desc := "()I" } : Jvm.MethodName)) ∈ tbG := tbG_mem 599 (by decide +kernel) (by decide +kernel)
theorem lk_603 : (Jvm.Cond.code ({ cls := "ShadowTax", name := "dark", desc := "(I)I" } : Jvm.MethodName) prog_1_method_10_code (2 : Nat) (Option.some Jvm.ClassFile.FieldType.int)) ∈ tbG := tbG_mem 603 (by decide +kernel) (by decide +kernel)
theorem lk_607 : (Jvm.Cond.code ({ cls := "ShadowTax", name := "hours", desc := "(I)I" } : Jvm.MethodName) prog_1_method_11_code (2 : Nat) (Option.some Jvm.ClassFile.FieldType.int)) ∈ tbG := tbG_mem 607 (by decide +kernel) (by decide +kernel)
theorem lk_608 : (Jvm.Cond.methodLink "ShadowTax" (106 : Nat) ({ cls := "ShadowTax", name := "mostHour", desc := "(Z)I" } : Jvm.MethodName)) ∈ tbG := tbG_mem 608 (by decide +kernel) (by decide +kernel)
theorem lk_610 : (Jvm.Cond.instanceMethod ({ cls := "ShadowTax", name := "mostHour", desc := "(Z)I" } : Jvm.MethodName)) ∈ tbG := tbG_mem 610 (by decide +kernel) (by decide +kernel)
theorem lk_611 : (Jvm.Cond.code ({ cls := "ShadowTax", name := "mostHour", desc := "(Z)I" } : Jvm.MethodName) prog_1_method_12_code (6 : Nat) (Option.some Jvm.ClassFile.FieldType.int)) ∈ tbG := tbG_mem 611 (by decide +kernel) (by decide +kernel)
theorem lk_612 : (Jvm.Cond.methodLink "ShadowTax" (110 : Nat) ({ cls := "ShadowTax", name := "fairestHour", desc := "(Z)I" } : Jvm.MethodName)) ∈ tbG := tbG_mem 612 (by decide +kernel) (by decide +kernel)
theorem lk_614 : (Jvm.Cond.instanceMethod ({ cls := "ShadowTax", name := "fairestHour", desc := "(Z)I" } : Jvm.MethodName)) ∈ tbG := tbG_mem 614 (by decide +kernel) (by decide +kernel)
theorem lk_615 : (Jvm.Cond.code ({ cls := "ShadowTax", name := "fairestHour", desc := "(Z)I" } : Jvm.MethodName) prog_1_method_13_code (6 : Nat) (Option.some Jvm.ClassFile.FieldType.int)) ∈ tbG := tbG_mem 615 (by decide +kernel) (by decide +kernel)
theorem lk_616 : (Jvm.Cond.methodLink "ShadowTax" (113 : Nat) ({ cls := "ShadowTax$Square", name := "apart", desc := "()I" } : Jvm.MethodName)) ∈ tbG := tbG_mem 616 (by decide +kernel) (by decide +kernel)
theorem lk_617 : (Jvm.Cond.instanceMethod ({ cls := "ShadowTax$Square", name := "apart", desc := "()I" } : Jvm.MethodName)) ∈ tbG := tbG_mem 617 (by decide +kernel) (by decide +kernel)
theorem lk_618 : (Jvm.Cond.selects "ShadowTax$Square" ({ cls := "ShadowTax$Square", name := "apart", desc := "()I" } : Jvm.MethodName) ({ cls := "ShadowTax$Square", name := "apart", desc := "()I" } : Jvm.MethodName)) ∈ tbG := tbG_mem 618 (by decide +kernel) (by decide +kernel)
theorem lk_619 : (Jvm.Cond.code ({ cls := "ShadowTax$Square", name := "apart", desc := "()I" } : Jvm.MethodName) prog_6_method_16_code (4 : Nat) (Option.some Jvm.ClassFile.FieldType.int)) ∈ tbG := tbG_mem 619 (by decide +kernel) (by decide +kernel)
theorem lk_623 : (Jvm.Cond.code ({ cls := "ShadowTax", name := "best", desc := "(III)I" } : Jvm.MethodName) prog_1_method_14_code (4 : Nat) (Option.some Jvm.ClassFile.FieldType.int)) ∈ tbG := tbG_mem 623 (by decide +kernel) (by decide +kernel)
theorem lk_624 : (Jvm.Cond.methodLink "ShadowTax" (116 : Nat) ({ cls := "ShadowTax$Square", name := "leastByCell", desc := "(IIZZ)I" } : Jvm.MethodName)) ∈ tbG := tbG_mem 624 (by decide +kernel) (by decide +kernel)
theorem lk_625 : (Jvm.Cond.instanceMethod ({ cls := "ShadowTax$Square", name := "leastByCell", desc := "(IIZZ)I" } : Jvm.MethodName)) ∈ tbG := tbG_mem 625 (by decide +kernel) (by decide +kernel)
theorem lk_626 : (Jvm.Cond.selects "ShadowTax$Square" ({ cls := "ShadowTax$Square", name := "leastByCell", desc := "(IIZZ)I" } : Jvm.MethodName) ({ cls := "ShadowTax$Square", name := "leastByCell", desc := "(IIZZ)I" } : Jvm.MethodName)) ∈ tbG := tbG_mem 626 (by decide +kernel) (by decide +kernel)
theorem lk_627 : (Jvm.Cond.code ({ cls := "ShadowTax$Square", name := "leastByCell", desc := "(IIZZ)I" } : Jvm.MethodName) prog_6_method_17_code (11 : Nat) (Option.some Jvm.ClassFile.FieldType.int)) ∈ tbG := tbG_mem 627 (by decide +kernel) (by decide +kernel)
theorem lk_631 : (Jvm.Cond.code ({ cls := "ShadowTax", name := "place", desc := "(III)I" } : Jvm.MethodName) prog_1_method_15_code (4 : Nat) (Option.some Jvm.ClassFile.FieldType.int)) ∈ tbG := tbG_mem 631 (by decide +kernel) (by decide +kernel)
theorem lk_635 : (Jvm.Cond.code ({ cls := "ShadowTax", name := "shade", desc := "(III)I" } : Jvm.MethodName) prog_1_method_16_code (8 : Nat) (Option.some Jvm.ClassFile.FieldType.int)) ∈ tbG := tbG_mem 635 (by decide +kernel) (by decide +kernel)
theorem lk_636 : (Jvm.Cond.methodLink "ShadowTax" (123 : Nat) ({ cls := "ShadowTax$Square", name := "castWithout", desc := "(II)V" } : Jvm.MethodName)) ∈ tbG := tbG_mem 636 (by decide +kernel) (by decide +kernel)
theorem lk_637 : (Jvm.Cond.instanceMethod ({ cls := "ShadowTax$Square", name := "castWithout", desc := "(II)V" } : Jvm.MethodName)) ∈ tbG := tbG_mem 637 (by decide +kernel) (by decide +kernel)
theorem lk_638 : (Jvm.Cond.selects "ShadowTax$Square" ({ cls := "ShadowTax$Square", name := "castWithout", desc := "(II)V" } : Jvm.MethodName) ({ cls := "ShadowTax$Square", name := "castWithout", desc := "(II)V" } : Jvm.MethodName)) ∈ tbG := tbG_mem 638 (by decide +kernel) (by decide +kernel)
theorem lk_639 : (Jvm.Cond.code ({ cls := "ShadowTax$Square", name := "castWithout", desc := "(II)V" } : Jvm.MethodName) prog_6_method_12_code (3 : Nat) (Option.none : Option Jvm.ClassFile.FieldType)) ∈ tbG := tbG_mem 639 (by decide +kernel) (by decide +kernel)
theorem lk_643 : (Jvm.Cond.code ({ cls := "ShadowTax", name := "send", desc := "(II)I" } : Jvm.MethodName) prog_1_method_17_code (10 : Nat) (Option.some Jvm.ClassFile.FieldType.int)) ∈ tbG := tbG_mem 643 (by decide +kernel) (by decide +kernel)
theorem lk_647 : (Jvm.Cond.code ({ cls := "ShadowTax", name := "tells", desc := "(III)I" } : Jvm.MethodName) prog_1_method_18_code (5 : Nat) (Option.some Jvm.ClassFile.FieldType.int)) ∈ tbG := tbG_mem 647 (by decide +kernel) (by decide +kernel)
theorem lk_648 : (Jvm.Cond.methodLink "ShadowTax" (130 : Nat) ({ cls := "ShadowTax", name := "isSheet", desc := "(I)Z" } : Jvm.MethodName)) ∈ tbG := tbG_mem 648 (by decide +kernel) (by decide +kernel)
theorem lk_650 : (Jvm.Cond.instanceMethod ({ cls := "ShadowTax", name := "isSheet", desc := "(I)Z" } : Jvm.MethodName)) ∈ tbG := tbG_mem 650 (by decide +kernel) (by decide +kernel)
theorem lk_651 : (Jvm.Cond.code ({ cls := "ShadowTax", name := "isSheet", desc := "(I)Z" } : Jvm.MethodName) prog_1_method_37_code (2 : Nat) (Option.some Jvm.ClassFile.FieldType.boolean)) ∈ tbG := tbG_mem 651 (by decide +kernel) (by decide +kernel)
theorem lk_652 : (Jvm.Cond.methodLink "ShadowTax" (133 : Nat) ({ cls := "ShadowTax$Sheet", name := "isMissing", desc := "()Z" } : Jvm.MethodName)) ∈ tbG := tbG_mem 652 (by decide +kernel) (by decide +kernel)
theorem lk_653 : (Jvm.Cond.instanceMethod ({ cls := "ShadowTax$Sheet", name := "isMissing", desc := "()Z" } : Jvm.MethodName)) ∈ tbG := tbG_mem 653 (by decide +kernel) (by decide +kernel)
theorem lk_654 : (Jvm.Cond.selects "ShadowTax$Sheet" ({ cls := "ShadowTax$Sheet", name := "isMissing", desc := "()Z" } : Jvm.MethodName) ({ cls := "ShadowTax$Sheet", name := "isMissing", desc := "()Z" } : Jvm.MethodName)) ∈ tbG := tbG_mem 654 (by decide +kernel) (by decide +kernel)
theorem lk_655 : (Jvm.Cond.code ({ cls := "ShadowTax$Sheet", name := "isMissing", desc := "()Z" } : Jvm.MethodName) prog_5_method_2_code (1 : Nat) (Option.some Jvm.ClassFile.FieldType.boolean)) ∈ tbG := tbG_mem 655 (by decide +kernel) (by decide +kernel)
theorem lk_656 : (Jvm.Cond.methodLink "ShadowTax" (140 : Nat) ({ cls := "ShadowTax", name := "firstOtherwise", desc := "(LShadowTax$Sheet;I)I" } : Jvm.MethodName)) ∈ tbG := tbG_mem 656 (by decide +kernel) (by decide +kernel)
theorem lk_658 : (Jvm.Cond.instanceMethod ({ cls := "ShadowTax", name := "firstOtherwise", desc := "(LShadowTax$Sheet;I)I" } : Jvm.MethodName)) ∈ tbG := tbG_mem 658 (by decide +kernel) (by decide +kernel)
theorem lk_659 : (Jvm.Cond.code ({ cls := "ShadowTax", name := "firstOtherwise", desc := "(LShadowTax$Sheet;I)I" } : Jvm.MethodName) prog_1_method_19_code (4 : Nat) (Option.some Jvm.ClassFile.FieldType.int)) ∈ tbG := tbG_mem 659 (by decide +kernel) (by decide +kernel)
theorem lk_660 : (Jvm.Cond.methodLink "ShadowTax" (155 : Nat) ({ cls := "ShadowTax$Sheet", name := "at", desc := "(I)I" } : Jvm.MethodName)) ∈ tbG := tbG_mem 660 (by decide +kernel) (by decide +kernel)
theorem lk_661 : (Jvm.Cond.instanceMethod ({ cls := "ShadowTax$Sheet", name := "at", desc := "(I)I" } : Jvm.MethodName)) ∈ tbG := tbG_mem 661 (by decide +kernel) (by decide +kernel)
theorem lk_662 : (Jvm.Cond.selects "ShadowTax$Sheet" ({ cls := "ShadowTax$Sheet", name := "at", desc := "(I)I" } : Jvm.MethodName) ({ cls := "ShadowTax$Sheet", name := "at", desc := "(I)I" } : Jvm.MethodName)) ∈ tbG := tbG_mem 662 (by decide +kernel) (by decide +kernel)
theorem lk_663 : (Jvm.Cond.code ({ cls := "ShadowTax$Sheet", name := "at", desc := "(I)I" } : Jvm.MethodName) prog_5_method_5_code (2 : Nat) (Option.some Jvm.ClassFile.FieldType.int)) ∈ tbG := tbG_mem 663 (by decide +kernel) (by decide +kernel)
theorem lk_664 : (Jvm.Cond.methodLink "ShadowTax" (144 : Nat) ({ cls := "ShadowTax$Square", name := "fitting", desc := "(IILShadowTax$Sheet;)I" } : Jvm.MethodName)) ∈ tbG := tbG_mem 664 (by decide +kernel) (by decide +kernel)
theorem lk_665 : (Jvm.Cond.instanceMethod ({ cls := "ShadowTax$Square", name := "fitting", desc := "(IILShadowTax$Sheet;)I" } : Jvm.MethodName)) ∈ tbG := tbG_mem 665 (by decide +kernel) (by decide +kernel)
theorem lk_666 : (Jvm.Cond.selects "ShadowTax$Square" ({ cls := "ShadowTax$Square", name := "fitting", desc := "(IILShadowTax$Sheet;)I" } : Jvm.MethodName) ({ cls := "ShadowTax$Square", name := "fitting", desc := "(IILShadowTax$Sheet;)I" } : Jvm.MethodName)) ∈ tbG := tbG_mem 666 (by decide +kernel) (by decide +kernel)
theorem lk_667 : (Jvm.Cond.code ({ cls := "ShadowTax$Square", name := "fitting", desc := "(IILShadowTax$Sheet;)I" } : Jvm.MethodName) prog_6_method_18_code (9 : Nat) (Option.some Jvm.ClassFile.FieldType.int)) ∈ tbG := tbG_mem 667 (by decide +kernel) (by decide +kernel)
theorem lk_670 : (Jvm.Cond.methodLink "ShadowTax$Square" (152 : Nat) ({ cls := "ShadowTax$Sheet", name := "at", desc := "(I)I" } : Jvm.MethodName)) ∈ tbG := tbG_mem 670 (by decide +kernel) (by decide +kernel)
theorem lk_671 : (Jvm.Cond.methodLink "ShadowTax" (148 : Nat) ({ cls := "ShadowTax", name := "fittingClouds", desc := "(LShadowTax$Sheet;I)I" } : Jvm.MethodName)) ∈ tbG := tbG_mem 671 (by decide +kernel) (by decide +kernel)
theorem lk_673 : (Jvm.Cond.instanceMethod ({ cls := "ShadowTax", name := "fittingClouds", desc := "(LShadowTax$Sheet;I)I" } : Jvm.MethodName)) ∈ tbG := tbG_mem 673 (by decide +kernel) (by decide +kernel)
theorem lk_674 : (Jvm.Cond.code ({ cls := "ShadowTax", name := "fittingClouds", desc := "(LShadowTax$Sheet;I)I" } : Jvm.MethodName) prog_1_method_20_code (10 : Nat) (Option.some Jvm.ClassFile.FieldType.int)) ∈ tbG := tbG_mem 674 (by decide +kernel) (by decide +kernel)
theorem lk_675 : (Jvm.Cond.methodLink "ShadowTax" (151 : Nat) ({ cls := "ShadowTax$Square", name := "fittingTexts", desc := "(ILShadowTax$Sheet;)I" } : Jvm.MethodName)) ∈ tbG := tbG_mem 675 (by decide +kernel) (by decide +kernel)
theorem lk_676 : (Jvm.Cond.instanceMethod ({ cls := "ShadowTax$Square", name := "fittingTexts", desc := "(ILShadowTax$Sheet;)I" } : Jvm.MethodName)) ∈ tbG := tbG_mem 676 (by decide +kernel) (by decide +kernel)
theorem lk_677 : (Jvm.Cond.selects "ShadowTax$Square" ({ cls := "ShadowTax$Square", name := "fittingTexts", desc := "(ILShadowTax$Sheet;)I" } : Jvm.MethodName) ({ cls := "ShadowTax$Square", name := "fittingTexts", desc := "(ILShadowTax$Sheet;)I" } : Jvm.MethodName)) ∈ tbG := tbG_mem 677 (by decide +kernel) (by decide +kernel)
theorem lk_678 : (Jvm.Cond.code ({ cls := "ShadowTax$Square", name := "fittingTexts", desc := "(ILShadowTax$Sheet;)I" } : Jvm.MethodName) prog_6_method_19_code (8 : Nat) (Option.some Jvm.ClassFile.FieldType.int)) ∈ tbG := tbG_mem 678 (by decide +kernel) (by decide +kernel)
theorem lk_682 : (Jvm.Cond.code ({ cls := "ShadowTax", name := "film", desc := "(II)I" } : Jvm.MethodName) prog_1_method_21_code (5 : Nat) (Option.some Jvm.ClassFile.FieldType.int)) ∈ tbG := tbG_mem 682 (by decide +kernel) (by decide +kernel)
theorem lk_683 : (Jvm.Cond.methodLink "ShadowTax" (161 : Nat) ({ cls := "ShadowTax$Sheet", name := "become", desc := "(II)V" } : Jvm.MethodName)) ∈ tbG := tbG_mem 683 (by decide +kernel) (by decide +kernel)
theorem lk_684 : (Jvm.Cond.instanceMethod ({ cls := "ShadowTax$Sheet", name := "become", desc := "(II)V" } : Jvm.MethodName)) ∈ tbG := tbG_mem 684 (by decide +kernel) (by decide +kernel)
theorem lk_685 : (Jvm.Cond.selects "ShadowTax$Sheet" ({ cls := "ShadowTax$Sheet", name := "become", desc := "(II)V" } : Jvm.MethodName) ({ cls := "ShadowTax$Sheet", name := "become", desc := "(II)V" } : Jvm.MethodName)) ∈ tbG := tbG_mem 685 (by decide +kernel) (by decide +kernel)
theorem lk_686 : (Jvm.Cond.code ({ cls := "ShadowTax$Sheet", name := "become", desc := "(II)V" } : Jvm.MethodName) prog_5_method_3_code (3 : Nat) (Option.none : Option Jvm.ClassFile.FieldType)) ∈ tbG := tbG_mem 686 (by decide +kernel) (by decide +kernel)
theorem lk_687 : (Jvm.Cond.methodLink "ShadowTax$Sheet" (22 : Nat) ({ cls := "java/util/Arrays", name := "fill", desc := "([II)V" } : Jvm.MethodName)) ∈ tbG := tbG_mem 687 (by decide +kernel) (by decide +kernel)
theorem lk_688 : (Jvm.Cond.static ({ cls := "java/util/Arrays", name := "fill", desc := "([II)V" } : Jvm.MethodName)) ∈ tbG := tbG_mem 688 (by decide +kernel) (by decide +kernel)
theorem lk_689 : (Jvm.Cond.code ({ cls := "java/util/Arrays", name := "fill", desc := "([II)V" } : Jvm.MethodName) prog_16_method_103_code (4 : Nat) (Option.none : Option Jvm.ClassFile.FieldType)) ∈ tbG := tbG_mem 689 (by decide +kernel) (by decide +kernel)
theorem lk_690 : (Jvm.Cond.methodLink "ShadowTax" (164 : Nat) ({ cls := "ShadowTax$Sheet", name := "write", desc := "(II)V" } : Jvm.MethodName)) ∈ tbG := tbG_mem 690 (by decide +kernel) (by decide +kernel)
theorem lk_691 : (Jvm.Cond.instanceMethod ({ cls := "ShadowTax$Sheet", name := "write", desc := "(II)V" } : Jvm.MethodName)) ∈ tbG := tbG_mem 691 (by decide +kernel) (by decide +kernel)
theorem lk_692 : (Jvm.Cond.selects "ShadowTax$Sheet" ({ cls := "ShadowTax$Sheet", name := "write", desc := "(II)V" } : Jvm.MethodName) ({ cls := "ShadowTax$Sheet", name := "write", desc := "(II)V" } : Jvm.MethodName)) ∈ tbG := tbG_mem 692 (by decide +kernel) (by decide +kernel)
theorem lk_693 : (Jvm.Cond.code ({ cls := "ShadowTax$Sheet", name := "write", desc := "(II)V" } : Jvm.MethodName) prog_5_method_6_code (3 : Nat) (Option.none : Option Jvm.ClassFile.FieldType)) ∈ tbG := tbG_mem 693 (by decide +kernel) (by decide +kernel)
theorem lk_697 : (Jvm.Cond.code ({ cls := "ShadowTax", name := "drawn", desc := "(I)I" } : Jvm.MethodName) prog_1_method_22_code (2 : Nat) (Option.some Jvm.ClassFile.FieldType.int)) ∈ tbG := tbG_mem 697 (by decide +kernel) (by decide +kernel)
theorem lk_698 : (Jvm.Cond.methodLink "ShadowTax" (167 : Nat) ({ cls := "ShadowTax", name := "lookWithoutClouds", desc := "()V" } : Jvm.MethodName)) ∈ tbG := tbG_mem 698 (by decide +kernel) (by decide +kernel)
theorem lk_700 : (Jvm.Cond.instanceMethod ({ cls := "ShadowTax", name := "lookWithoutClouds", desc := "()V" } : Jvm.MethodName)) ∈ tbG := tbG_mem 700 (by decide +kernel) (by decide +kernel)
theorem lk_701 : (Jvm.Cond.code ({ cls := "ShadowTax", name := "lookWithoutClouds", desc := "()V" } : Jvm.MethodName) prog_1_method_24_code (3 : Nat) (Option.none : Option Jvm.ClassFile.FieldType)) ∈ tbG := tbG_mem 701 (by decide +kernel) (by decide +kernel)
theorem lk_702 : (Jvm.Cond.methodLink "ShadowTax" (170 : Nat) ({ cls := "ShadowTax", name := "dueBySeed", desc := "(I)I" } : Jvm.MethodName)) ∈ tbG := tbG_mem 702 (by decide +kernel) (by decide +kernel)
theorem lk_704 : (Jvm.Cond.instanceMethod ({ cls := "ShadowTax", name := "dueBySeed", desc := "(I)I" } : Jvm.MethodName)) ∈ tbG := tbG_mem 704 (by decide +kernel) (by decide +kernel)
theorem lk_705 : (Jvm.Cond.code ({ cls := "ShadowTax", name := "dueBySeed", desc := "(I)I" } : Jvm.MethodName) prog_1_method_25_code (5 : Nat) (Option.some Jvm.ClassFile.FieldType.int)) ∈ tbG := tbG_mem 705 (by decide +kernel) (by decide +kernel)
theorem lk_706 : (Jvm.Cond.constant "ShadowTax" (179 : Nat) (1103515245 : Int32)) ∈ tbG := tbG_mem 706 (by decide +kernel) (by decide +kernel)
theorem lk_710 : (Jvm.Cond.code ({ cls := "ShadowTax", name := "chance", desc := "(IIII)J" } : Jvm.MethodName) prog_1_method_23_code (7 : Nat) (Option.some Jvm.ClassFile.FieldType.long)) ∈ tbG := tbG_mem 710 (by decide +kernel) (by decide +kernel)
theorem lk_711 : (Jvm.Cond.constant "ShadowTax" (173 : Nat) (99999 : Int32)) ∈ tbG := tbG_mem 711 (by decide +kernel) (by decide +kernel)
theorem lk_712 : (Jvm.Cond.constantLong "ShadowTax" (174 : Nat) (-4611686018427387904 : Int64)) ∈ tbG := tbG_mem 712 (by decide +kernel) (by decide +kernel)
theorem lk_713 : (Jvm.Cond.methodLink "ShadowTax" (176 : Nat) ({ cls := "ShadowTax", name := "commonDivisor", desc := "(II)I" } : Jvm.MethodName)) ∈ tbG := tbG_mem 713 (by decide +kernel) (by decide +kernel)
theorem lk_714 : (Jvm.Cond.static ({ cls := "ShadowTax", name := "commonDivisor", desc := "(II)I" } : Jvm.MethodName)) ∈ tbG := tbG_mem 714 (by decide +kernel) (by decide +kernel)
theorem lk_715 : (Jvm.Cond.code ({ cls := "ShadowTax", name := "commonDivisor", desc := "(II)I" } : Jvm.MethodName) prog_1_method_26_code (6 : Nat) (Option.some Jvm.ClassFile.FieldType.int)) ∈ tbG := tbG_mem 715 (by decide +kernel) (by decide +kernel)
theorem lk_719 : (Jvm.Cond.code ({ cls := "ShadowTax", name := "image", desc := "()I" } : Jvm.MethodName) prog_1_method_27_code (1 : Nat) (Option.some Jvm.ClassFile.FieldType.int)) ∈ tbG := tbG_mem 719 (by decide +kernel) (by decide +kernel)
theorem lk_720 : (Jvm.Cond.methodLink "ShadowTax" (180 : Nat) ({ cls := "ShadowTax$Image", name := "keep", desc := "(LShadowTax$Square;)V" } : Jvm.MethodName)) ∈ tbG := tbG_mem 720 (by decide +kernel) (by decide +kernel)
theorem lk_721 : (Jvm.Cond.instanceMethod ({ cls := "ShadowTax$Image", name := "keep", desc := "(LShadowTax$Square;)V" } : Jvm.MethodName)) ∈ tbG := tbG_mem 721 (by decide +kernel) (by decide +kernel)
theorem lk_722 : (Jvm.Cond.selects "ShadowTax$Image" ({ cls := "ShadowTax$Image", name := "keep", desc := "(LShadowTax$Square;)V" } : Jvm.MethodName) ({ cls := "ShadowTax$Image", name := "keep", desc := "(LShadowTax$Square;)V" } : Jvm.MethodName)) ∈ tbG := tbG_mem 722 (by decide +kernel) (by decide +kernel)
theorem lk_723 : (Jvm.Cond.code ({ cls := "ShadowTax$Image", name := "keep", desc := "(LShadowTax$Square;)V" } : Jvm.MethodName) prog_2_method_2_code (4 : Nat) (Option.none : Option Jvm.ClassFile.FieldType)) ∈ tbG := tbG_mem 723 (by decide +kernel) (by decide +kernel)
theorem lk_727 : (Jvm.Cond.code ({ cls := "ShadowTax", name := "back", desc := "()I" } : Jvm.MethodName) prog_1_method_28_code (1 : Nat) (Option.some Jvm.ClassFile.FieldType.int)) ∈ tbG := tbG_mem 727 (by decide +kernel) (by decide +kernel)
theorem lk_728 : (Jvm.Cond.methodLink "ShadowTax" (188 : Nat) ({ cls := "ShadowTax$Image", name := "layBack", desc := "(LShadowTax$Square;)V" } : Jvm.MethodName)) ∈ tbG := tbG_mem 728 (by decide +kernel) (by decide +kernel)
theorem lk_729 : (Jvm.Cond.instanceMethod ({ cls := "ShadowTax$Image", name := "layBack", desc := "(LShadowTax$Square;)V" } : Jvm.MethodName)) ∈ tbG := tbG_mem 729 (by decide +kernel) (by decide +kernel)
theorem lk_730 : (Jvm.Cond.selects "ShadowTax$Image" ({ cls := "ShadowTax$Image", name := "layBack", desc := "(LShadowTax$Square;)V" } : Jvm.MethodName) ({ cls := "ShadowTax$Image", name := "layBack", desc := "(LShadowTax$Square;)V" } : Jvm.MethodName)) ∈ tbG := tbG_mem 730 (by decide +kernel) (by decide +kernel)
theorem lk_731 : (Jvm.Cond.code ({ cls := "ShadowTax$Image", name := "layBack", desc := "(LShadowTax$Square;)V" } : Jvm.MethodName) prog_2_method_3_code (4 : Nat) (Option.none : Option Jvm.ClassFile.FieldType)) ∈ tbG := tbG_mem 731 (by decide +kernel) (by decide +kernel)
theorem lk_735 : (Jvm.Cond.code ({ cls := "ShadowTax", name := "count", desc := "(I)I" } : Jvm.MethodName) prog_1_method_29_code (2 : Nat) (Option.some Jvm.ClassFile.FieldType.int)) ∈ tbG := tbG_mem 735 (by decide +kernel) (by decide +kernel)
theorem lk_736 : (Jvm.Cond.methodLink "ShadowTax" (191 : Nat) ({ cls := "java/lang/Integer", name := "bitCount", desc := "(I)I" } : Jvm.MethodName)) ∈ tbG := tbG_mem 736 (by decide +kernel) (by decide +kernel)
theorem lk_737 : (Jvm.Cond.static ({ cls := "java/lang/Integer", name := "bitCount", desc := "(I)I" } : Jvm.MethodName)) ∈ tbG := tbG_mem 737 (by decide +kernel) (by decide +kernel)
theorem lk_738 : (Jvm.Cond.code ({ cls := "java/lang/Integer", name := "bitCount", desc := "(I)I" } : Jvm.MethodName) prog_10_method_49_code (1 : Nat) (Option.some Jvm.ClassFile.FieldType.int)) ∈ tbG := tbG_mem 738 (by decide +kernel) (by decide +kernel)
theorem lk_739 : (Jvm.Cond.constant "java/lang/Integer" (265 : Nat) (1431655765 : Int32)) ∈ tbG := tbG_mem 739 (by decide +kernel) (by decide +kernel)
theorem lk_740 : (Jvm.Cond.constant "java/lang/Integer" (266 : Nat) (858993459 : Int32)) ∈ tbG := tbG_mem 740 (by decide +kernel) (by decide +kernel)
theorem lk_741 : (Jvm.Cond.constant "java/lang/Integer" (267 : Nat) (252645135 : Int32)) ∈ tbG := tbG_mem 741 (by decide +kernel) (by decide +kernel)
theorem lk_745 : (Jvm.Cond.code ({ cls := "ShadowTax", name := "sheet", desc := "(III)I" } : Jvm.MethodName) prog_1_method_30_code (4 : Nat) (Option.some Jvm.ClassFile.FieldType.int)) ∈ tbG := tbG_mem 745 (by decide +kernel) (by decide +kernel)
theorem lk_749 : (Jvm.Cond.code ({ cls := "ShadowTax", name := "cell", desc := "(III)I" } : Jvm.MethodName) prog_1_method_31_code (5 : Nat) (Option.some Jvm.ClassFile.FieldType.int)) ∈ tbG := tbG_mem 749 (by decide +kernel) (by decide +kernel)
theorem lk_750 : (Jvm.Cond.methodLink "ShadowTax" (197 : Nat) ({ cls := "ShadowTax$Sheet", name := "holds", desc := "(II)Z" } : Jvm.MethodName)) ∈ tbG := tbG_mem 750 (by decide +kernel) (by decide +kernel)
theorem lk_751 : (Jvm.Cond.instanceMethod ({ cls := "ShadowTax$Sheet", name := "holds", desc := "(II)Z" } : Jvm.MethodName)) ∈ tbG := tbG_mem 751 (by decide +kernel) (by decide +kernel)
theorem lk_752 : (Jvm.Cond.selects "ShadowTax$Sheet" ({ cls := "ShadowTax$Sheet", name := "holds", desc := "(II)Z" } : Jvm.MethodName) ({ cls := "ShadowTax$Sheet", name := "holds", desc := "(II)Z" } : Jvm.MethodName)) ∈ tbG := tbG_mem 752 (by decide +kernel) (by decide +kernel)
theorem lk_753 : (Jvm.Cond.code ({ cls := "ShadowTax$Sheet", name := "holds", desc := "(II)Z" } : Jvm.MethodName) prog_5_method_4_code (3 : Nat) (Option.some Jvm.ClassFile.FieldType.boolean)) ∈ tbG := tbG_mem 753 (by decide +kernel) (by decide +kernel)
theorem lk_757 : (Jvm.Cond.code ({ cls := "ShadowTax", name := "copy", desc := "(IIIII)I" } : Jvm.MethodName) prog_1_method_32_code (8 : Nat) (Option.some Jvm.ClassFile.FieldType.int)) ∈ tbG := tbG_mem 757 (by decide +kernel) (by decide +kernel)
theorem lk_758 : (Jvm.Cond.methodLink "ShadowTax" (206 : Nat) ({ cls := "java/lang/System", name := "arraycopy", desc := "(Ljava/lang/Object;ILjava/lang/Object;II)V" } : Jvm.MethodName)) ∈ tbG := tbG_mem 758 (by decide +kernel) (by decide +kernel)
theorem lk_764 : (Jvm.Cond.code ({ cls := "ShadowTax", name := "things", desc := "(IIII)I" } : Jvm.MethodName) prog_1_method_33_code (9 : Nat) (Option.some Jvm.ClassFile.FieldType.int)) ∈ tbG := tbG_mem 764 (by decide +kernel) (by decide +kernel)
theorem lk_765 : (Jvm.Cond.methodLink "ShadowTax" (212 : Nat) ({ cls := "ShadowTax", name := "thing", desc := "(III)I" } : Jvm.MethodName)) ∈ tbG := tbG_mem 765 (by decide +kernel) (by decide +kernel)
theorem lk_769 : (Jvm.Cond.code ({ cls := "ShadowTax", name := "taken", desc := "(II)I" } : Jvm.MethodName) prog_1_method_34_code (4 : Nat) (Option.some Jvm.ClassFile.FieldType.int)) ∈ tbG := tbG_mem 769 (by decide +kernel) (by decide +kernel)
theorem lk_770 : (Jvm.Cond.methodLink "ShadowTax" (219 : Nat) ({ cls := "ShadowTax$Thing", name := "isUnder", desc := "(I)Z" } : Jvm.MethodName)) ∈ tbG := tbG_mem 770 (by decide +kernel) (by decide +kernel)
theorem lk_771 : (Jvm.Cond.instanceMethod ({ cls := "ShadowTax$Thing", name := "isUnder", desc := "(I)Z" } : Jvm.MethodName)) ∈ tbG := tbG_mem 771 (by decide +kernel) (by decide +kernel)
theorem lk_772 : (Jvm.Cond.selects "ShadowTax$Thing" ({ cls := "ShadowTax$Thing", name := "isUnder", desc := "(I)Z" } : Jvm.MethodName) ({ cls := "ShadowTax$Thing", name := "isUnder", desc := "(I)Z" } : Jvm.MethodName)) ∈ tbG := tbG_mem 772 (by decide +kernel) (by decide +kernel)
theorem lk_773 : (Jvm.Cond.code ({ cls := "ShadowTax$Thing", name := "isUnder", desc := "(I)Z" } : Jvm.MethodName) prog_7_method_7_code (4 : Nat) (Option.some Jvm.ClassFile.FieldType.boolean)) ∈ tbG := tbG_mem 773 (by decide +kernel) (by decide +kernel)
theorem lk_780 : (Jvm.Cond.code ({ cls := "ShadowTaxModel", name := "<init>", desc := "()V" } : Jvm.MethodName) prog_9_method_4_code (1 : Nat) (Option.none : Option Jvm.ClassFile.FieldType)) ∈ tbG := tbG_mem 780 (by decide +kernel) (by decide +kernel)
theorem lk_781 : (Jvm.Cond.methodLink "ShadowTaxModel" (7 : Nat) ({ cls := "java/lang/Object", name := "<init>", desc := "()V" } : Jvm.MethodName)) ∈ tbG := tbG_mem 781 (by decide +kernel) (by decide +kernel)
theorem lk_782 : (Jvm.Cond.methodLink "ShadowTaxModel" (60 : Nat) ({ cls := "ShadowTaxModel", name := "spell", desc := "(IIIIIIIII)V" } : Jvm.MethodName)) ∈ tbG := tbG_mem 782 (by decide +kernel) (by decide +kernel)
theorem lk_784 : (Jvm.Cond.instanceMethod ({ cls := "ShadowTaxModel", name := "spell", desc := "(IIIIIIIII)V" } : Jvm.MethodName)) ∈ tbG := tbG_mem 784 (by decide +kernel) (by decide +kernel)
theorem lk_785 : (Jvm.Cond.code ({ cls := "ShadowTaxModel", name := "spell", desc := "(IIIIIIIII)V" } : Jvm.MethodName) prog_9_method_5_code (10 : Nat) (Option.none : Option Jvm.ClassFile.FieldType)) ∈ tbG := tbG_mem 785 (by decide +kernel) (by decide +kernel)
theorem lk_786 : (Jvm.Cond.fieldLink "ShadowTaxModel" (13 : Nat) "ShadowTaxModel" "texts" "[I") ∈ tbG := tbG_mem 786 (by decide +kernel) (by decide +kernel)
theorem lk_787 : (Jvm.Cond.fieldLink "ShadowTaxModel" (17 : Nat) "ShadowTaxModel" "textSize" "[I") ∈ tbG := tbG_mem 787 (by decide +kernel) (by decide +kernel)
theorem lk_788 : (Jvm.Cond.fieldLink "ShadowTaxModel" (64 : Nat) "ShadowTaxModel" "textCount" "I") ∈ tbG := tbG_mem 788 (by decide +kernel) (by decide +kernel)
theorem lk_789 : (Jvm.Cond.fieldLink "ShadowTaxModel" (103 : Nat) "ShadowTaxModel" "rule" "I") ∈ tbG := tbG_mem 789 (by decide +kernel) (by decide +kernel)
theorem lk_790 : (Jvm.Cond.fieldLink "ShadowTaxModel" (20 : Nat) "ShadowTaxModel" "tape" "[I") ∈ tbG := tbG_mem 790 (by decide +kernel) (by decide +kernel)
theorem lk_791 : (Jvm.Cond.fieldLink "ShadowTaxModel" (116 : Nat) "ShadowTaxModel" "taped" "I") ∈ tbG := tbG_mem 791 (by decide +kernel) (by decide +kernel)
theorem lk_792 : (Jvm.Cond.fieldLink "ShadowTaxModel" (97 : Nat) "ShadowTaxModel" "dayNow" "I") ∈ tbG := tbG_mem 792 (by decide +kernel) (by decide +kernel)
theorem lk_793 : (Jvm.Cond.fieldLink "ShadowTaxModel" (100 : Nat) "ShadowTaxModel" "clouds" "I") ∈ tbG := tbG_mem 793 (by decide +kernel) (by decide +kernel)
theorem lk_794 : (Jvm.Cond.fieldLink "ShadowTaxModel" (23 : Nat) "ShadowTaxModel" "kinds" "[I") ∈ tbG := tbG_mem 794 (by decide +kernel) (by decide +kernel)
theorem lk_795 : (Jvm.Cond.fieldLink "ShadowTaxModel" (26 : Nat) "ShadowTaxModel" "rows" "[I") ∈ tbG := tbG_mem 795 (by decide +kernel) (by decide +kernel)
theorem lk_796 : (Jvm.Cond.fieldLink "ShadowTaxModel" (67 : Nat) "ShadowTaxModel" "many" "I") ∈ tbG := tbG_mem 796 (by decide +kernel) (by decide +kernel)
theorem lk_797 : (Jvm.Cond.fieldLink "ShadowTaxModel" (175 : Nat) "ShadowTaxModel" "ofHour" "I") ∈ tbG := tbG_mem 797 (by decide +kernel) (by decide +kernel)
theorem lk_798 : (Jvm.Cond.fieldLink "ShadowTaxModel" (178 : Nat) "ShadowTaxModel" "ofHeight" "I") ∈ tbG := tbG_mem 798 (by decide +kernel) (by decide +kernel)
theorem lk_799 : (Jvm.Cond.fieldLink "ShadowTaxModel" (181 : Nat) "ShadowTaxModel" "ofNumber" "I") ∈ tbG := tbG_mem 799 (by decide +kernel) (by decide +kernel)
theorem lk_800 : (Jvm.Cond.fieldLink "ShadowTaxModel" (184 : Nat) "ShadowTaxModel" "ofLong" "I") ∈ tbG := tbG_mem 800 (by decide +kernel) (by decide +kernel)
theorem lk_801 : (Jvm.Cond.fieldLink "ShadowTaxModel" (187 : Nat) "ShadowTaxModel" "ofDay" "I") ∈ tbG := tbG_mem 801 (by decide +kernel) (by decide +kernel)
theorem lk_802 : (Jvm.Cond.fieldLink "ShadowTaxModel" (190 : Nat) "ShadowTaxModel" "ofCell" "I") ∈ tbG := tbG_mem 802 (by decide +kernel) (by decide +kernel)
theorem lk_803 : (Jvm.Cond.fieldLink "ShadowTaxModel" (122 : Nat) "ShadowTaxModel" "from" "I") ∈ tbG := tbG_mem 803 (by decide +kernel) (by decide +kernel)
theorem lk_804 : (Jvm.Cond.fieldLink "ShadowTaxModel" (119 : Nat) "ShadowTaxModel" "size" "I") ∈ tbG := tbG_mem 804 (by decide +kernel) (by decide +kernel)
theorem lk_805 : (Jvm.Cond.fieldLink "ShadowTaxModel" (125 : Nat) "ShadowTaxModel" "here" "I") ∈ tbG := tbG_mem 805 (by decide +kernel) (by decide +kernel)
theorem lk_806 : (Jvm.Cond.fieldLink "ShadowTaxModel" (134 : Nat) "ShadowTaxModel" "token" "I") ∈ tbG := tbG_mem 806 (by decide +kernel) (by decide +kernel)
theorem lk_807 : (Jvm.Cond.fieldLink "ShadowTaxModel" (131 : Nat) "ShadowTaxModel" "tokenAt" "I") ∈ tbG := tbG_mem 807 (by decide +kernel) (by decide +kernel)
theorem lk_808 : (Jvm.Cond.fieldLink "ShadowTaxModel" (145 : Nat) "ShadowTaxModel" "tokenWorth" "J") ∈ tbG := tbG_mem 808 (by decide +kernel) (by decide +kernel)
theorem lk_809 : (Jvm.Cond.fieldLink "ShadowTaxModel" (162 : Nat) "ShadowTaxModel" "open" "I") ∈ tbG := tbG_mem 809 (by decide +kernel) (by decide +kernel)
theorem lk_810 : (Jvm.Cond.fieldLink "ShadowTaxModel" (151 : Nat) "ShadowTaxModel" "bad" "Z") ∈ tbG := tbG_mem 810 (by decide +kernel) (by decide +kernel)
theorem lk_811 : (Jvm.Cond.fieldLink "ShadowTaxModel" (155 : Nat) "ShadowTaxModel" "fault" "I") ∈ tbG := tbG_mem 811 (by decide +kernel) (by decide +kernel)
theorem lk_812 : (Jvm.Cond.fieldLink "ShadowTaxModel" (29 : Nat) "ShadowTaxModel" "gone" "I") ∈ tbG := tbG_mem 812 (by decide +kernel) (by decide +kernel)
theorem lk_813 : (Jvm.Cond.fieldLink "ShadowTaxModel" (32 : Nat) "ShadowTaxModel" "longs" "[I") ∈ tbG := tbG_mem 813 (by decide +kernel) (by decide +kernel)
theorem lk_814 : (Jvm.Cond.fieldLink "ShadowTaxModel" (35 : Nat) "ShadowTaxModel" "hidden" "[I") ∈ tbG := tbG_mem 814 (by decide +kernel) (by decide +kernel)
theorem lk_815 : (Jvm.Cond.fieldLink "ShadowTaxModel" (38 : Nat) "ShadowTaxModel" "due" "[I") ∈ tbG := tbG_mem 815 (by decide +kernel) (by decide +kernel)
theorem lk_816 : (Jvm.Cond.fieldLink "ShadowTaxModel" (337 : Nat) "ShadowTaxModel" "darkSet" "I") ∈ tbG := tbG_mem 816 (by decide +kernel) (by decide +kernel)
theorem lk_817 : (Jvm.Cond.fieldLink "ShadowTaxModel" (370 : Nat) "ShadowTaxModel" "found" "I") ∈ tbG := tbG_mem 817 (by decide +kernel) (by decide +kernel)
theorem lk_818 : (Jvm.Cond.fieldLink "ShadowTaxModel" (373 : Nat) "ShadowTaxModel" "value" "I") ∈ tbG := tbG_mem 818 (by decide +kernel) (by decide +kernel)
theorem lk_819 : (Jvm.Cond.fieldLink "ShadowTaxModel" (41 : Nat) "ShadowTaxModel" "rowsKept" "[I") ∈ tbG := tbG_mem 819 (by decide +kernel) (by decide +kernel)
theorem lk_820 : (Jvm.Cond.fieldLink "ShadowTaxModel" (44 : Nat) "ShadowTaxModel" "manyKept" "I") ∈ tbG := tbG_mem 820 (by decide +kernel) (by decide +kernel)
theorem lk_821 : (Jvm.Cond.fieldLink "ShadowTaxModel" (405 : Nat) "ShadowTaxModel" "dayKept" "I") ∈ tbG := tbG_mem 821 (by decide +kernel) (by decide +kernel)
theorem lk_822 : (Jvm.Cond.fieldLink "ShadowTaxModel" (408 : Nat) "ShadowTaxModel" "cloudsKept" "I") ∈ tbG := tbG_mem 822 (by decide +kernel) (by decide +kernel)
theorem lk_823 : (Jvm.Cond.fieldLink "ShadowTaxModel" (411 : Nat) "ShadowTaxModel" "ruleKept" "I") ∈ tbG := tbG_mem 823 (by decide +kernel) (by decide +kernel)
theorem lk_824 : (Jvm.Cond.fieldLink "ShadowTaxModel" (47 : Nat) "ShadowTaxModel" "isThere" "[Z") ∈ tbG := tbG_mem 824 (by decide +kernel) (by decide +kernel)
theorem lk_825 : (Jvm.Cond.fieldLink "ShadowTaxModel" (51 : Nat) "ShadowTaxModel" "sorts" "[I") ∈ tbG := tbG_mem 825 (by decide +kernel) (by decide +kernel)
theorem lk_826 : (Jvm.Cond.fieldLink "ShadowTaxModel" (54 : Nat) "ShadowTaxModel" "sheetSize" "[I") ∈ tbG := tbG_mem 826 (by decide +kernel) (by decide +kernel)
theorem lk_827 : (Jvm.Cond.fieldLink "ShadowTaxModel" (57 : Nat) "ShadowTaxModel" "items" "[I") ∈ tbG := tbG_mem 827 (by decide +kernel) (by decide +kernel)
theorem lk_919 : (Jvm.Cond.code ({ cls := "ShadowTaxModel", name := "set", desc := "(III)I" } : Jvm.MethodName) prog_9_method_10_code (5 : Nat) (Option.some Jvm.ClassFile.FieldType.int)) ∈ tbG := tbG_mem 919 (by decide +kernel) (by decide +kernel)
theorem lk_920 : (Jvm.Cond.constantLong "ShadowTaxModel" (76 : Nat) (4 : Int64)) ∈ tbG := tbG_mem 920 (by decide +kernel) (by decide +kernel)
theorem lk_921 : (Jvm.Cond.methodLink "ShadowTaxModel" (70 : Nat) ({ cls := "ShadowTaxModel", name := "in", desc := "(JJJ)Z" } : Jvm.MethodName)) ∈ tbG := tbG_mem 921 (by decide +kernel) (by decide +kernel)
theorem lk_922 : (Jvm.Cond.static ({ cls := "ShadowTaxModel", name := "in", desc := "(JJJ)Z" } : Jvm.MethodName)) ∈ tbG := tbG_mem 922 (by decide +kernel) (by decide +kernel)
theorem lk_923 : (Jvm.Cond.code ({ cls := "ShadowTaxModel", name := "in", desc := "(JJJ)Z" } : Jvm.MethodName) prog_9_method_2_code (6 : Nat) (Option.some Jvm.ClassFile.FieldType.boolean)) ∈ tbG := tbG_mem 923 (by decide +kernel) (by decide +kernel)
theorem lk_924 : (Jvm.Cond.methodLink "ShadowTaxModel" (78 : Nat) ({ cls := "ShadowTaxModel", name := "isThing", desc := "(I)Z" } : Jvm.MethodName)) ∈ tbG := tbG_mem 924 (by decide +kernel) (by decide +kernel)
theorem lk_926 : (Jvm.Cond.instanceMethod ({ cls := "ShadowTaxModel", name := "isThing", desc := "(I)Z" } : Jvm.MethodName)) ∈ tbG := tbG_mem 926 (by decide +kernel) (by decide +kernel)
theorem lk_927 : (Jvm.Cond.code ({ cls := "ShadowTaxModel", name := "isThing", desc := "(I)Z" } : Jvm.MethodName) prog_9_method_6_code (2 : Nat) (Option.some Jvm.ClassFile.FieldType.boolean)) ∈ tbG := tbG_mem 927 (by decide +kernel) (by decide +kernel)
theorem lk_928 : (Jvm.Cond.methodLink "ShadowTaxModel" (82 : Nat) ({ cls := "ShadowTaxModel", name := "leastOf", desc := "(I)I" } : Jvm.MethodName)) ∈ tbG := tbG_mem 928 (by decide +kernel) (by decide +kernel)
theorem lk_929 : (Jvm.Cond.static ({ cls := "ShadowTaxModel", name := "leastOf", desc := "(I)I" } : Jvm.MethodName)) ∈ tbG := tbG_mem 929 (by decide +kernel) (by decide +kernel)
theorem lk_930 : (Jvm.Cond.code ({ cls := "ShadowTaxModel", name := "leastOf", desc := "(I)I" } : Jvm.MethodName) prog_9_method_8_code (1 : Nat) (Option.some Jvm.ClassFile.FieldType.int)) ∈ tbG := tbG_mem 930 (by decide +kernel) (by decide +kernel)
theorem lk_931 : (Jvm.Cond.methodLink "ShadowTaxModel" (86 : Nat) ({ cls := "ShadowTaxModel", name := "mostOf", desc := "(I)I" } : Jvm.MethodName)) ∈ tbG := tbG_mem 931 (by decide +kernel) (by decide +kernel)
theorem lk_932 : (Jvm.Cond.static ({ cls := "ShadowTaxModel", name := "mostOf", desc := "(I)I" } : Jvm.MethodName)) ∈ tbG := tbG_mem 932 (by decide +kernel) (by decide +kernel)
theorem lk_933 : (Jvm.Cond.code ({ cls := "ShadowTaxModel", name := "mostOf", desc := "(I)I" } : Jvm.MethodName) prog_9_method_9_code (1 : Nat) (Option.some Jvm.ClassFile.FieldType.int)) ∈ tbG := tbG_mem 933 (by decide +kernel) (by decide +kernel)
theorem lk_934 : (Jvm.Cond.methodLink "ShadowTaxModel" (89 : Nat) ({ cls := "ShadowTaxModel", name := "told", desc := "(II)I" } : Jvm.MethodName)) ∈ tbG := tbG_mem 934 (by decide +kernel) (by decide +kernel)
theorem lk_935 : (Jvm.Cond.instanceMethod ({ cls := "ShadowTaxModel", name := "told", desc := "(II)I" } : Jvm.MethodName)) ∈ tbG := tbG_mem 935 (by decide +kernel) (by decide +kernel)
theorem lk_936 : (Jvm.Cond.selects "ShadowTaxModel" ({ cls := "ShadowTaxModel", name := "told", desc := "(II)I" } : Jvm.MethodName) ({ cls := "ShadowTaxModel", name := "told", desc := "(II)I" } : Jvm.MethodName)) ∈ tbG := tbG_mem 936 (by decide +kernel) (by decide +kernel)
theorem lk_937 : (Jvm.Cond.code ({ cls := "ShadowTaxModel", name := "told", desc := "(II)I" } : Jvm.MethodName) prog_9_method_13_code (3 : Nat) (Option.some Jvm.ClassFile.FieldType.int)) ∈ tbG := tbG_mem 937 (by decide +kernel) (by decide +kernel)
theorem lk_938 : (Jvm.Cond.constantLong "ShadowTaxModel" (112 : Nat) (6 : Int64)) ∈ tbG := tbG_mem 938 (by decide +kernel) (by decide +kernel)
theorem lk_939 : (Jvm.Cond.methodLink "ShadowTaxModel" (93 : Nat) ({ cls := "ShadowTaxModel", name := "lays", desc := "(III)V" } : Jvm.MethodName)) ∈ tbG := tbG_mem 939 (by decide +kernel) (by decide +kernel)
theorem lk_941 : (Jvm.Cond.instanceMethod ({ cls := "ShadowTaxModel", name := "lays", desc := "(III)V" } : Jvm.MethodName)) ∈ tbG := tbG_mem 941 (by decide +kernel) (by decide +kernel)
theorem lk_942 : (Jvm.Cond.code ({ cls := "ShadowTaxModel", name := "lays", desc := "(III)V" } : Jvm.MethodName) prog_9_method_11_code (4 : Nat) (Option.none : Option Jvm.ClassFile.FieldType)) ∈ tbG := tbG_mem 942 (by decide +kernel) (by decide +kernel)
theorem lk_944 : (Jvm.Cond.instanceMethod ({ cls := "ShadowTaxModel", name := "thing", desc := "(III)I" } : Jvm.MethodName)) ∈ tbG := tbG_mem 944 (by decide +kernel) (by decide +kernel)
theorem lk_945 : (Jvm.Cond.selects "ShadowTaxModel" ({ cls := "ShadowTaxModel", name := "thing", desc := "(III)I" } : Jvm.MethodName) ({ cls := "ShadowTaxModel", name := "thing", desc := "(III)I" } : Jvm.MethodName)) ∈ tbG := tbG_mem 945 (by decide +kernel) (by decide +kernel)
theorem lk_946 : (Jvm.Cond.code ({ cls := "ShadowTaxModel", name := "thing", desc := "(III)I" } : Jvm.MethodName) prog_9_method_12_code (4 : Nat) (Option.some Jvm.ClassFile.FieldType.int)) ∈ tbG := tbG_mem 946 (by decide +kernel) (by decide +kernel)
theorem lk_947 : (Jvm.Cond.constantLong "ShadowTaxModel" (106 : Nat) (5 : Int64)) ∈ tbG := tbG_mem 947 (by decide +kernel) (by decide +kernel)
theorem lk_948 : (Jvm.Cond.constantLong "ShadowTaxModel" (108 : Nat) (9 : Int64)) ∈ tbG := tbG_mem 948 (by decide +kernel) (by decide +kernel)
theorem lk_949 : (Jvm.Cond.constantLong "ShadowTaxModel" (110 : Nat) (29 : Int64)) ∈ tbG := tbG_mem 949 (by decide +kernel) (by decide +kernel)
theorem lk_954 : (Jvm.Cond.code ({ cls := "ShadowTaxModel", name := "feed", desc := "(I)I" } : Jvm.MethodName) prog_9_method_14_code (2 : Nat) (Option.some Jvm.ClassFile.FieldType.int)) ∈ tbG := tbG_mem 954 (by decide +kernel) (by decide +kernel)
theorem lk_955 : (Jvm.Cond.constantLong "ShadowTaxModel" (114 : Nat) (255 : Int64)) ∈ tbG := tbG_mem 955 (by decide +kernel) (by decide +kernel)
theorem lk_959 : (Jvm.Cond.code ({ cls := "ShadowTaxModel", name := "text", desc := "()I" } : Jvm.MethodName) prog_9_method_61_code (2 : Nat) (Option.some Jvm.ClassFile.FieldType.int)) ∈ tbG := tbG_mem 959 (by decide +kernel) (by decide +kernel)
theorem lk_960 : (Jvm.Cond.methodLink "ShadowTaxModel" (320 : Nat) ({ cls := "ShadowTaxModel", name := "read", desc := "(II)I" } : Jvm.MethodName)) ∈ tbG := tbG_mem 960 (by decide +kernel) (by decide +kernel)
theorem lk_962 : (Jvm.Cond.instanceMethod ({ cls := "ShadowTaxModel", name := "read", desc := "(II)I" } : Jvm.MethodName)) ∈ tbG := tbG_mem 962 (by decide +kernel) (by decide +kernel)
theorem lk_963 : (Jvm.Cond.code ({ cls := "ShadowTaxModel", name := "read", desc := "(II)I" } : Jvm.MethodName) prog_9_method_60_code (6 : Nat) (Option.some Jvm.ClassFile.FieldType.int)) ∈ tbG := tbG_mem 963 (by decide +kernel) (by decide +kernel)
theorem lk_964 : (Jvm.Cond.methodLink "ShadowTaxModel" (168 : Nat) ({ cls := "ShadowTaxModel", name := "next", desc := "()V" } : Jvm.MethodName)) ∈ tbG := tbG_mem 964 (by decide +kernel) (by decide +kernel)
theorem lk_966 : (Jvm.Cond.instanceMethod ({ cls := "ShadowTaxModel", name := "next", desc := "()V" } : Jvm.MethodName)) ∈ tbG := tbG_mem 966 (by decide +kernel) (by decide +kernel)
theorem lk_967 : (Jvm.Cond.code ({ cls := "ShadowTaxModel", name := "next", desc := "()V" } : Jvm.MethodName) prog_9_method_16_code (3 : Nat) (Option.none : Option Jvm.ClassFile.FieldType)) ∈ tbG := tbG_mem 967 (by decide +kernel) (by decide +kernel)
theorem lk_968 : (Jvm.Cond.methodLink "ShadowTaxModel" (128 : Nat) ({ cls := "ShadowTaxModel", name := "byteAt", desc := "(I)I" } : Jvm.MethodName)) ∈ tbG := tbG_mem 968 (by decide +kernel) (by decide +kernel)
theorem lk_970 : (Jvm.Cond.instanceMethod ({ cls := "ShadowTaxModel", name := "byteAt", desc := "(I)I" } : Jvm.MethodName)) ∈ tbG := tbG_mem 970 (by decide +kernel) (by decide +kernel)
theorem lk_971 : (Jvm.Cond.code ({ cls := "ShadowTaxModel", name := "byteAt", desc := "(I)I" } : Jvm.MethodName) prog_9_method_15_code (2 : Nat) (Option.some Jvm.ClassFile.FieldType.int)) ∈ tbG := tbG_mem 971 (by decide +kernel) (by decide +kernel)
theorem lk_972 : (Jvm.Cond.constantLong "ShadowTaxModel" (137 : Nat) (97 : Int64)) ∈ tbG := tbG_mem 972 (by decide +kernel) (by decide +kernel)
theorem lk_973 : (Jvm.Cond.constantLong "ShadowTaxModel" (139 : Nat) (122 : Int64)) ∈ tbG := tbG_mem 973 (by decide +kernel) (by decide +kernel)
theorem lk_974 : (Jvm.Cond.constantLong "ShadowTaxModel" (141 : Nat) (48 : Int64)) ∈ tbG := tbG_mem 974 (by decide +kernel) (by decide +kernel)
theorem lk_975 : (Jvm.Cond.constantLong "ShadowTaxModel" (143 : Nat) (57 : Int64)) ∈ tbG := tbG_mem 975 (by decide +kernel) (by decide +kernel)
theorem lk_976 : (Jvm.Cond.constantLong "ShadowTaxModel" (149 : Nat) (10 : Int64)) ∈ tbG := tbG_mem 976 (by decide +kernel) (by decide +kernel)
theorem lk_977 : (Jvm.Cond.methodLink "ShadowTaxModel" (171 : Nat) ({ cls := "ShadowTaxModel", name := "isWord", desc := "(IIIIIIII)Z" } : Jvm.MethodName)) ∈ tbG := tbG_mem 977 (by decide +kernel) (by decide +kernel)
theorem lk_979 : (Jvm.Cond.instanceMethod ({ cls := "ShadowTaxModel", name := "isWord", desc := "(IIIIIIII)Z" } : Jvm.MethodName)) ∈ tbG := tbG_mem 979 (by decide +kernel) (by decide +kernel)
theorem lk_980 : (Jvm.Cond.code ({ cls := "ShadowTaxModel", name := "isWord", desc := "(IIIIIIII)Z" } : Jvm.MethodName) prog_9_method_19_code (9 : Nat) (Option.some Jvm.ClassFile.FieldType.boolean)) ∈ tbG := tbG_mem 980 (by decide +kernel) (by decide +kernel)
theorem lk_981 : (Jvm.Cond.methodLink "ShadowTaxModel" (158 : Nat) ({ cls := "ShadowTaxModel", name := "isLetter", desc := "(II)Z" } : Jvm.MethodName)) ∈ tbG := tbG_mem 981 (by decide +kernel) (by decide +kernel)
theorem lk_983 : (Jvm.Cond.instanceMethod ({ cls := "ShadowTaxModel", name := "isLetter", desc := "(II)Z" } : Jvm.MethodName)) ∈ tbG := tbG_mem 983 (by decide +kernel) (by decide +kernel)
theorem lk_984 : (Jvm.Cond.code ({ cls := "ShadowTaxModel", name := "isLetter", desc := "(II)Z" } : Jvm.MethodName) prog_9_method_18_code (3 : Nat) (Option.some Jvm.ClassFile.FieldType.boolean)) ∈ tbG := tbG_mem 984 (by decide +kernel) (by decide +kernel)
theorem lk_985 : (Jvm.Cond.methodLink "ShadowTaxModel" (316 : Nat) ({ cls := "ShadowTaxModel", name := "part", desc := "(Z)I" } : Jvm.MethodName)) ∈ tbG := tbG_mem 985 (by decide +kernel) (by decide +kernel)
theorem lk_987 : (Jvm.Cond.instanceMethod ({ cls := "ShadowTaxModel", name := "part", desc := "(Z)I" } : Jvm.MethodName)) ∈ tbG := tbG_mem 987 (by decide +kernel) (by decide +kernel)
theorem lk_988 : (Jvm.Cond.code ({ cls := "ShadowTaxModel", name := "part", desc := "(Z)I" } : Jvm.MethodName) prog_9_method_59_code (3 : Nat) (Option.some Jvm.ClassFile.FieldType.int)) ∈ tbG := tbG_mem 988 (by decide +kernel) (by decide +kernel)
theorem lk_989 : (Jvm.Cond.methodLink "ShadowTaxModel" (165 : Nat) ({ cls := "ShadowTaxModel", name := "fail", desc := "()V" } : Jvm.MethodName)) ∈ tbG := tbG_mem 989 (by decide +kernel) (by decide +kernel)
theorem lk_991 : (Jvm.Cond.instanceMethod ({ cls := "ShadowTaxModel", name := "fail", desc := "()V" } : Jvm.MethodName)) ∈ tbG := tbG_mem 991 (by decide +kernel) (by decide +kernel)
theorem lk_992 : (Jvm.Cond.code ({ cls := "ShadowTaxModel", name := "fail", desc := "()V" } : Jvm.MethodName) prog_9_method_17_code (1 : Nat) (Option.none : Option Jvm.ClassFile.FieldType)) ∈ tbG := tbG_mem 992 (by decide +kernel) (by decide +kernel)
theorem lk_993 : (Jvm.Cond.methodLink "ShadowTaxModel" (313 : Nat) ({ cls := "ShadowTaxModel", name := "either0", desc := "()I" } : Jvm.MethodName)) ∈ tbG := tbG_mem 993 (by decide +kernel) (by decide +kernel)
theorem lk_995 : (Jvm.Cond.instanceMethod ({ cls := "ShadowTaxModel", name := "either0", desc := "()I" } : Jvm.MethodName)) ∈ tbG := tbG_mem 995 (by decide +kernel) (by decide +kernel)
theorem lk_996 : (Jvm.Cond.code ({ cls := "ShadowTaxModel", name := "either0", desc := "()I" } : Jvm.MethodName) prog_9_method_58_code (3 : Nat) (Option.some Jvm.ClassFile.FieldType.int)) ∈ tbG := tbG_mem 996 (by decide +kernel) (by decide +kernel)
theorem lk_997 : (Jvm.Cond.methodLink "ShadowTaxModel" (310 : Nat) ({ cls := "ShadowTaxModel", name := "both0", desc := "()I" } : Jvm.MethodName)) ∈ tbG := tbG_mem 997 (by decide +kernel) (by decide +kernel)
theorem lk_999 : (Jvm.Cond.instanceMethod ({ cls := "ShadowTaxModel", name := "both0", desc := "()I" } : Jvm.MethodName)) ∈ tbG := tbG_mem 999 (by decide +kernel) (by decide +kernel)
theorem lk_1000 : (Jvm.Cond.code ({ cls := "ShadowTaxModel", name := "both0", desc := "()I" } : Jvm.MethodName) prog_9_method_57_code (3 : Nat) (Option.some Jvm.ClassFile.FieldType.int)) ∈ tbG := tbG_mem 1000 (by decide +kernel) (by decide +kernel)
theorem lk_1001 : (Jvm.Cond.methodLink "ShadowTaxModel" (307 : Nat) ({ cls := "ShadowTaxModel", name := "not0", desc := "()I" } : Jvm.MethodName)) ∈ tbG := tbG_mem 1001 (by decide +kernel) (by decide +kernel)
theorem lk_1003 : (Jvm.Cond.instanceMethod ({ cls := "ShadowTaxModel", name := "not0", desc := "()I" } : Jvm.MethodName)) ∈ tbG := tbG_mem 1003 (by decide +kernel) (by decide +kernel)
theorem lk_1004 : (Jvm.Cond.code ({ cls := "ShadowTaxModel", name := "not0", desc := "()I" } : Jvm.MethodName) prog_9_method_56_code (4 : Nat) (Option.some Jvm.ClassFile.FieldType.int)) ∈ tbG := tbG_mem 1004 (by decide +kernel) (by decide +kernel)
theorem lk_1005 : (Jvm.Cond.methodLink "ShadowTaxModel" (196 : Nat) ({ cls := "ShadowTaxModel", name := "opens", desc := "()Z" } : Jvm.MethodName)) ∈ tbG := tbG_mem 1005 (by decide +kernel) (by decide +kernel)
theorem lk_1007 : (Jvm.Cond.instanceMethod ({ cls := "ShadowTaxModel", name := "opens", desc := "()Z" } : Jvm.MethodName)) ∈ tbG := tbG_mem 1007 (by decide +kernel) (by decide +kernel)
theorem lk_1008 : (Jvm.Cond.code ({ cls := "ShadowTaxModel", name := "opens", desc := "()Z" } : Jvm.MethodName) prog_9_method_21_code (1 : Nat) (Option.some Jvm.ClassFile.FieldType.boolean)) ∈ tbG := tbG_mem 1008 (by decide +kernel) (by decide +kernel)
theorem lk_1009 : (Jvm.Cond.methodLink "ShadowTaxModel" (289 : Nat) ({ cls := "ShadowTaxModel", name := "not1", desc := "()I" } : Jvm.MethodName)) ∈ tbG := tbG_mem 1009 (by decide +kernel) (by decide +kernel)
theorem lk_1011 : (Jvm.Cond.instanceMethod ({ cls := "ShadowTaxModel", name := "not1", desc := "()I" } : Jvm.MethodName)) ∈ tbG := tbG_mem 1011 (by decide +kernel) (by decide +kernel)
theorem lk_1012 : (Jvm.Cond.code ({ cls := "ShadowTaxModel", name := "not1", desc := "()I" } : Jvm.MethodName) prog_9_method_50_code (4 : Nat) (Option.some Jvm.ClassFile.FieldType.int)) ∈ tbG := tbG_mem 1012 (by decide +kernel) (by decide +kernel)
theorem lk_1013 : (Jvm.Cond.methodLink "ShadowTaxModel" (271 : Nat) ({ cls := "ShadowTaxModel", name := "not2", desc := "()I" } : Jvm.MethodName)) ∈ tbG := tbG_mem 1013 (by decide +kernel) (by decide +kernel)
theorem lk_1015 : (Jvm.Cond.instanceMethod ({ cls := "ShadowTaxModel", name := "not2", desc := "()I" } : Jvm.MethodName)) ∈ tbG := tbG_mem 1015 (by decide +kernel) (by decide +kernel)
theorem lk_1016 : (Jvm.Cond.code ({ cls := "ShadowTaxModel", name := "not2", desc := "()I" } : Jvm.MethodName) prog_9_method_44_code (4 : Nat) (Option.some Jvm.ClassFile.FieldType.int)) ∈ tbG := tbG_mem 1016 (by decide +kernel) (by decide +kernel)
theorem lk_1017 : (Jvm.Cond.methodLink "ShadowTaxModel" (253 : Nat) ({ cls := "ShadowTaxModel", name := "not3", desc := "()I" } : Jvm.MethodName)) ∈ tbG := tbG_mem 1017 (by decide +kernel) (by decide +kernel)
theorem lk_1019 : (Jvm.Cond.instanceMethod ({ cls := "ShadowTaxModel", name := "not3", desc := "()I" } : Jvm.MethodName)) ∈ tbG := tbG_mem 1019 (by decide +kernel) (by decide +kernel)
theorem lk_1020 : (Jvm.Cond.code ({ cls := "ShadowTaxModel", name := "not3", desc := "()I" } : Jvm.MethodName) prog_9_method_38_code (4 : Nat) (Option.some Jvm.ClassFile.FieldType.int)) ∈ tbG := tbG_mem 1020 (by decide +kernel) (by decide +kernel)
theorem lk_1021 : (Jvm.Cond.methodLink "ShadowTaxModel" (235 : Nat) ({ cls := "ShadowTaxModel", name := "not4", desc := "()I" } : Jvm.MethodName)) ∈ tbG := tbG_mem 1021 (by decide +kernel) (by decide +kernel)
theorem lk_1023 : (Jvm.Cond.instanceMethod ({ cls := "ShadowTaxModel", name := "not4", desc := "()I" } : Jvm.MethodName)) ∈ tbG := tbG_mem 1023 (by decide +kernel) (by decide +kernel)
theorem lk_1024 : (Jvm.Cond.code ({ cls := "ShadowTaxModel", name := "not4", desc := "()I" } : Jvm.MethodName) prog_9_method_32_code (4 : Nat) (Option.some Jvm.ClassFile.FieldType.int)) ∈ tbG := tbG_mem 1024 (by decide +kernel) (by decide +kernel)
theorem lk_1025 : (Jvm.Cond.methodLink "ShadowTaxModel" (217 : Nat) ({ cls := "ShadowTaxModel", name := "not5", desc := "()I" } : Jvm.MethodName)) ∈ tbG := tbG_mem 1025 (by decide +kernel) (by decide +kernel)
theorem lk_1027 : (Jvm.Cond.instanceMethod ({ cls := "ShadowTaxModel", name := "not5", desc := "()I" } : Jvm.MethodName)) ∈ tbG := tbG_mem 1027 (by decide +kernel) (by decide +kernel)
theorem lk_1028 : (Jvm.Cond.code ({ cls := "ShadowTaxModel", name := "not5", desc := "()I" } : Jvm.MethodName) prog_9_method_26_code (4 : Nat) (Option.some Jvm.ClassFile.FieldType.int)) ∈ tbG := tbG_mem 1028 (by decide +kernel) (by decide +kernel)
theorem lk_1029 : (Jvm.Cond.methodLink "ShadowTaxModel" (212 : Nat) ({ cls := "ShadowTaxModel", name := "added5", desc := "()I" } : Jvm.MethodName)) ∈ tbG := tbG_mem 1029 (by decide +kernel) (by decide +kernel)
theorem lk_1031 : (Jvm.Cond.instanceMethod ({ cls := "ShadowTaxModel", name := "added5", desc := "()I" } : Jvm.MethodName)) ∈ tbG := tbG_mem 1031 (by decide +kernel) (by decide +kernel)
theorem lk_1032 : (Jvm.Cond.code ({ cls := "ShadowTaxModel", name := "added5", desc := "()I" } : Jvm.MethodName) prog_9_method_25_code (4 : Nat) (Option.some Jvm.ClassFile.FieldType.int)) ∈ tbG := tbG_mem 1032 (by decide +kernel) (by decide +kernel)
theorem lk_1033 : (Jvm.Cond.methodLink "ShadowTaxModel" (207 : Nat) ({ cls := "ShadowTaxModel", name := "term5", desc := "()I" } : Jvm.MethodName)) ∈ tbG := tbG_mem 1033 (by decide +kernel) (by decide +kernel)
theorem lk_1035 : (Jvm.Cond.instanceMethod ({ cls := "ShadowTaxModel", name := "term5", desc := "()I" } : Jvm.MethodName)) ∈ tbG := tbG_mem 1035 (by decide +kernel) (by decide +kernel)
theorem lk_1036 : (Jvm.Cond.code ({ cls := "ShadowTaxModel", name := "term5", desc := "()I" } : Jvm.MethodName) prog_9_method_24_code (2 : Nat) (Option.some Jvm.ClassFile.FieldType.int)) ∈ tbG := tbG_mem 1036 (by decide +kernel) (by decide +kernel)
theorem lk_1037 : (Jvm.Cond.methodLink "ShadowTaxModel" (204 : Nat) ({ cls := "ShadowTaxModel", name := "atom5", desc := "()I" } : Jvm.MethodName)) ∈ tbG := tbG_mem 1037 (by decide +kernel) (by decide +kernel)
theorem lk_1039 : (Jvm.Cond.instanceMethod ({ cls := "ShadowTaxModel", name := "atom5", desc := "()I" } : Jvm.MethodName)) ∈ tbG := tbG_mem 1039 (by decide +kernel) (by decide +kernel)
theorem lk_1040 : (Jvm.Cond.code ({ cls := "ShadowTaxModel", name := "atom5", desc := "()I" } : Jvm.MethodName) prog_9_method_23_code (2 : Nat) (Option.some Jvm.ClassFile.FieldType.int)) ∈ tbG := tbG_mem 1040 (by decide +kernel) (by decide +kernel)
theorem lk_1041 : (Jvm.Cond.methodLink "ShadowTaxModel" (193 : Nat) ({ cls := "ShadowTaxModel", name := "isSign", desc := "(I)Z" } : Jvm.MethodName)) ∈ tbG := tbG_mem 1041 (by decide +kernel) (by decide +kernel)
theorem lk_1043 : (Jvm.Cond.instanceMethod ({ cls := "ShadowTaxModel", name := "isSign", desc := "(I)Z" } : Jvm.MethodName)) ∈ tbG := tbG_mem 1043 (by decide +kernel) (by decide +kernel)
theorem lk_1044 : (Jvm.Cond.code ({ cls := "ShadowTaxModel", name := "isSign", desc := "(I)Z" } : Jvm.MethodName) prog_9_method_20_code (2 : Nat) (Option.some Jvm.ClassFile.FieldType.boolean)) ∈ tbG := tbG_mem 1044 (by decide +kernel) (by decide +kernel)
theorem lk_1045 : (Jvm.Cond.methodLink "ShadowTaxModel" (200 : Nat) ({ cls := "ShadowTaxModel", name := "name", desc := "()I" } : Jvm.MethodName)) ∈ tbG := tbG_mem 1045 (by decide +kernel) (by decide +kernel)
theorem lk_1047 : (Jvm.Cond.instanceMethod ({ cls := "ShadowTaxModel", name := "name", desc := "()I" } : Jvm.MethodName)) ∈ tbG := tbG_mem 1047 (by decide +kernel) (by decide +kernel)
theorem lk_1048 : (Jvm.Cond.code ({ cls := "ShadowTaxModel", name := "name", desc := "()I" } : Jvm.MethodName) prog_9_method_22_code (1 : Nat) (Option.some Jvm.ClassFile.FieldType.int)) ∈ tbG := tbG_mem 1048 (by decide +kernel) (by decide +kernel)
theorem lk_1049 : (Jvm.Cond.constantLong "ShadowTaxModel" (210 : Nat) (43 : Int64)) ∈ tbG := tbG_mem 1049 (by decide +kernel) (by decide +kernel)
theorem lk_1050 : (Jvm.Cond.constantLong "ShadowTaxModel" (215 : Nat) (60 : Int64)) ∈ tbG := tbG_mem 1050 (by decide +kernel) (by decide +kernel)
theorem lk_1051 : (Jvm.Cond.methodLink "ShadowTaxModel" (232 : Nat) ({ cls := "ShadowTaxModel", name := "added4", desc := "()I" } : Jvm.MethodName)) ∈ tbG := tbG_mem 1051 (by decide +kernel) (by decide +kernel)
theorem lk_1053 : (Jvm.Cond.instanceMethod ({ cls := "ShadowTaxModel", name := "added4", desc := "()I" } : Jvm.MethodName)) ∈ tbG := tbG_mem 1053 (by decide +kernel) (by decide +kernel)
theorem lk_1054 : (Jvm.Cond.code ({ cls := "ShadowTaxModel", name := "added4", desc := "()I" } : Jvm.MethodName) prog_9_method_31_code (4 : Nat) (Option.some Jvm.ClassFile.FieldType.int)) ∈ tbG := tbG_mem 1054 (by decide +kernel) (by decide +kernel)
theorem lk_1055 : (Jvm.Cond.methodLink "ShadowTaxModel" (229 : Nat) ({ cls := "ShadowTaxModel", name := "term4", desc := "()I" } : Jvm.MethodName)) ∈ tbG := tbG_mem 1055 (by decide +kernel) (by decide +kernel)
theorem lk_1057 : (Jvm.Cond.instanceMethod ({ cls := "ShadowTaxModel", name := "term4", desc := "()I" } : Jvm.MethodName)) ∈ tbG := tbG_mem 1057 (by decide +kernel) (by decide +kernel)
theorem lk_1058 : (Jvm.Cond.code ({ cls := "ShadowTaxModel", name := "term4", desc := "()I" } : Jvm.MethodName) prog_9_method_30_code (2 : Nat) (Option.some Jvm.ClassFile.FieldType.int)) ∈ tbG := tbG_mem 1058 (by decide +kernel) (by decide +kernel)
theorem lk_1059 : (Jvm.Cond.methodLink "ShadowTaxModel" (226 : Nat) ({ cls := "ShadowTaxModel", name := "atom4", desc := "()I" } : Jvm.MethodName)) ∈ tbG := tbG_mem 1059 (by decide +kernel) (by decide +kernel)
theorem lk_1061 : (Jvm.Cond.instanceMethod ({ cls := "ShadowTaxModel", name := "atom4", desc := "()I" } : Jvm.MethodName)) ∈ tbG := tbG_mem 1061 (by decide +kernel) (by decide +kernel)
theorem lk_1062 : (Jvm.Cond.code ({ cls := "ShadowTaxModel", name := "atom4", desc := "()I" } : Jvm.MethodName) prog_9_method_29_code (2 : Nat) (Option.some Jvm.ClassFile.FieldType.int)) ∈ tbG := tbG_mem 1062 (by decide +kernel) (by decide +kernel)
theorem lk_1063 : (Jvm.Cond.methodLink "ShadowTaxModel" (223 : Nat) ({ cls := "ShadowTaxModel", name := "either5", desc := "()I" } : Jvm.MethodName)) ∈ tbG := tbG_mem 1063 (by decide +kernel) (by decide +kernel)
theorem lk_1065 : (Jvm.Cond.instanceMethod ({ cls := "ShadowTaxModel", name := "either5", desc := "()I" } : Jvm.MethodName)) ∈ tbG := tbG_mem 1065 (by decide +kernel) (by decide +kernel)
theorem lk_1066 : (Jvm.Cond.code ({ cls := "ShadowTaxModel", name := "either5", desc := "()I" } : Jvm.MethodName) prog_9_method_28_code (3 : Nat) (Option.some Jvm.ClassFile.FieldType.int)) ∈ tbG := tbG_mem 1066 (by decide +kernel) (by decide +kernel)
theorem lk_1067 : (Jvm.Cond.methodLink "ShadowTaxModel" (220 : Nat) ({ cls := "ShadowTaxModel", name := "both5", desc := "()I" } : Jvm.MethodName)) ∈ tbG := tbG_mem 1067 (by decide +kernel) (by decide +kernel)
theorem lk_1069 : (Jvm.Cond.instanceMethod ({ cls := "ShadowTaxModel", name := "both5", desc := "()I" } : Jvm.MethodName)) ∈ tbG := tbG_mem 1069 (by decide +kernel) (by decide +kernel)
theorem lk_1070 : (Jvm.Cond.code ({ cls := "ShadowTaxModel", name := "both5", desc := "()I" } : Jvm.MethodName) prog_9_method_27_code (3 : Nat) (Option.some Jvm.ClassFile.FieldType.int)) ∈ tbG := tbG_mem 1070 (by decide +kernel) (by decide +kernel)
theorem lk_1071 : (Jvm.Cond.methodLink "ShadowTaxModel" (250 : Nat) ({ cls := "ShadowTaxModel", name := "added3", desc := "()I" } : Jvm.MethodName)) ∈ tbG := tbG_mem 1071 (by decide +kernel) (by decide +kernel)
theorem lk_1073 : (Jvm.Cond.instanceMethod ({ cls := "ShadowTaxModel", name := "added3", desc := "()I" } : Jvm.MethodName)) ∈ tbG := tbG_mem 1073 (by decide +kernel) (by decide +kernel)
theorem lk_1074 : (Jvm.Cond.code ({ cls := "ShadowTaxModel", name := "added3", desc := "()I" } : Jvm.MethodName) prog_9_method_37_code (4 : Nat) (Option.some Jvm.ClassFile.FieldType.int)) ∈ tbG := tbG_mem 1074 (by decide +kernel) (by decide +kernel)
theorem lk_1075 : (Jvm.Cond.methodLink "ShadowTaxModel" (247 : Nat) ({ cls := "ShadowTaxModel", name := "term3", desc := "()I" } : Jvm.MethodName)) ∈ tbG := tbG_mem 1075 (by decide +kernel) (by decide +kernel)
theorem lk_1077 : (Jvm.Cond.instanceMethod ({ cls := "ShadowTaxModel", name := "term3", desc := "()I" } : Jvm.MethodName)) ∈ tbG := tbG_mem 1077 (by decide +kernel) (by decide +kernel)
theorem lk_1078 : (Jvm.Cond.code ({ cls := "ShadowTaxModel", name := "term3", desc := "()I" } : Jvm.MethodName) prog_9_method_36_code (2 : Nat) (Option.some Jvm.ClassFile.FieldType.int)) ∈ tbG := tbG_mem 1078 (by decide +kernel) (by decide +kernel)
theorem lk_1079 : (Jvm.Cond.methodLink "ShadowTaxModel" (244 : Nat) ({ cls := "ShadowTaxModel", name := "atom3", desc := "()I" } : Jvm.MethodName)) ∈ tbG := tbG_mem 1079 (by decide +kernel) (by decide +kernel)
theorem lk_1081 : (Jvm.Cond.instanceMethod ({ cls := "ShadowTaxModel", name := "atom3", desc := "()I" } : Jvm.MethodName)) ∈ tbG := tbG_mem 1081 (by decide +kernel) (by decide +kernel)
theorem lk_1082 : (Jvm.Cond.code ({ cls := "ShadowTaxModel", name := "atom3", desc := "()I" } : Jvm.MethodName) prog_9_method_35_code (2 : Nat) (Option.some Jvm.ClassFile.FieldType.int)) ∈ tbG := tbG_mem 1082 (by decide +kernel) (by decide +kernel)
theorem lk_1083 : (Jvm.Cond.methodLink "ShadowTaxModel" (241 : Nat) ({ cls := "ShadowTaxModel", name := "either4", desc := "()I" } : Jvm.MethodName)) ∈ tbG := tbG_mem 1083 (by decide +kernel) (by decide +kernel)
theorem lk_1085 : (Jvm.Cond.instanceMethod ({ cls := "ShadowTaxModel", name := "either4", desc := "()I" } : Jvm.MethodName)) ∈ tbG := tbG_mem 1085 (by decide +kernel) (by decide +kernel)
theorem lk_1086 : (Jvm.Cond.code ({ cls := "ShadowTaxModel", name := "either4", desc := "()I" } : Jvm.MethodName) prog_9_method_34_code (3 : Nat) (Option.some Jvm.ClassFile.FieldType.int)) ∈ tbG := tbG_mem 1086 (by decide +kernel) (by decide +kernel)
theorem lk_1087 : (Jvm.Cond.methodLink "ShadowTaxModel" (238 : Nat) ({ cls := "ShadowTaxModel", name := "both4", desc := "()I" } : Jvm.MethodName)) ∈ tbG := tbG_mem 1087 (by decide +kernel) (by decide +kernel)
theorem lk_1089 : (Jvm.Cond.instanceMethod ({ cls := "ShadowTaxModel", name := "both4", desc := "()I" } : Jvm.MethodName)) ∈ tbG := tbG_mem 1089 (by decide +kernel) (by decide +kernel)
theorem lk_1090 : (Jvm.Cond.code ({ cls := "ShadowTaxModel", name := "both4", desc := "()I" } : Jvm.MethodName) prog_9_method_33_code (3 : Nat) (Option.some Jvm.ClassFile.FieldType.int)) ∈ tbG := tbG_mem 1090 (by decide +kernel) (by decide +kernel)
theorem lk_1091 : (Jvm.Cond.methodLink "ShadowTaxModel" (268 : Nat) ({ cls := "ShadowTaxModel", name := "added2", desc := "()I" } : Jvm.MethodName)) ∈ tbG := tbG_mem 1091 (by decide +kernel) (by decide +kernel)
theorem lk_1093 : (Jvm.Cond.instanceMethod ({ cls := "ShadowTaxModel", name := "added2", desc := "()I" } : Jvm.MethodName)) ∈ tbG := tbG_mem 1093 (by decide +kernel) (by decide +kernel)
theorem lk_1094 : (Jvm.Cond.code ({ cls := "ShadowTaxModel", name := "added2", desc := "()I" } : Jvm.MethodName) prog_9_method_43_code (4 : Nat) (Option.some Jvm.ClassFile.FieldType.int)) ∈ tbG := tbG_mem 1094 (by decide +kernel) (by decide +kernel)
theorem lk_1095 : (Jvm.Cond.methodLink "ShadowTaxModel" (265 : Nat) ({ cls := "ShadowTaxModel", name := "term2", desc := "()I" } : Jvm.MethodName)) ∈ tbG := tbG_mem 1095 (by decide +kernel) (by decide +kernel)
theorem lk_1097 : (Jvm.Cond.instanceMethod ({ cls := "ShadowTaxModel", name := "term2", desc := "()I" } : Jvm.MethodName)) ∈ tbG := tbG_mem 1097 (by decide +kernel) (by decide +kernel)
theorem lk_1098 : (Jvm.Cond.code ({ cls := "ShadowTaxModel", name := "term2", desc := "()I" } : Jvm.MethodName) prog_9_method_42_code (2 : Nat) (Option.some Jvm.ClassFile.FieldType.int)) ∈ tbG := tbG_mem 1098 (by decide +kernel) (by decide +kernel)
theorem lk_1099 : (Jvm.Cond.methodLink "ShadowTaxModel" (262 : Nat) ({ cls := "ShadowTaxModel", name := "atom2", desc := "()I" } : Jvm.MethodName)) ∈ tbG := tbG_mem 1099 (by decide +kernel) (by decide +kernel)
theorem lk_1101 : (Jvm.Cond.instanceMethod ({ cls := "ShadowTaxModel", name := "atom2", desc := "()I" } : Jvm.MethodName)) ∈ tbG := tbG_mem 1101 (by decide +kernel) (by decide +kernel)
theorem lk_1102 : (Jvm.Cond.code ({ cls := "ShadowTaxModel", name := "atom2", desc := "()I" } : Jvm.MethodName) prog_9_method_41_code (2 : Nat) (Option.some Jvm.ClassFile.FieldType.int)) ∈ tbG := tbG_mem 1102 (by decide +kernel) (by decide +kernel)
theorem lk_1103 : (Jvm.Cond.methodLink "ShadowTaxModel" (259 : Nat) ({ cls := "ShadowTaxModel", name := "either3", desc := "()I" } : Jvm.MethodName)) ∈ tbG := tbG_mem 1103 (by decide +kernel) (by decide +kernel)
theorem lk_1105 : (Jvm.Cond.instanceMethod ({ cls := "ShadowTaxModel", name := "either3", desc := "()I" } : Jvm.MethodName)) ∈ tbG := tbG_mem 1105 (by decide +kernel) (by decide +kernel)
theorem lk_1106 : (Jvm.Cond.code ({ cls := "ShadowTaxModel", name := "either3", desc := "()I" } : Jvm.MethodName) prog_9_method_40_code (3 : Nat) (Option.some Jvm.ClassFile.FieldType.int)) ∈ tbG := tbG_mem 1106 (by decide +kernel) (by decide +kernel)
theorem lk_1107 : (Jvm.Cond.methodLink "ShadowTaxModel" (256 : Nat) ({ cls := "ShadowTaxModel", name := "both3", desc := "()I" } : Jvm.MethodName)) ∈ tbG := tbG_mem 1107 (by decide +kernel) (by decide +kernel)
theorem lk_1109 : (Jvm.Cond.instanceMethod ({ cls := "ShadowTaxModel", name := "both3", desc := "()I" } : Jvm.MethodName)) ∈ tbG := tbG_mem 1109 (by decide +kernel) (by decide +kernel)
theorem lk_1110 : (Jvm.Cond.code ({ cls := "ShadowTaxModel", name := "both3", desc := "()I" } : Jvm.MethodName) prog_9_method_39_code (3 : Nat) (Option.some Jvm.ClassFile.FieldType.int)) ∈ tbG := tbG_mem 1110 (by decide +kernel) (by decide +kernel)
theorem lk_1111 : (Jvm.Cond.methodLink "ShadowTaxModel" (286 : Nat) ({ cls := "ShadowTaxModel", name := "added1", desc := "()I" } : Jvm.MethodName)) ∈ tbG := tbG_mem 1111 (by decide +kernel) (by decide +kernel)
theorem lk_1113 : (Jvm.Cond.instanceMethod ({ cls := "ShadowTaxModel", name := "added1", desc := "()I" } : Jvm.MethodName)) ∈ tbG := tbG_mem 1113 (by decide +kernel) (by decide +kernel)
theorem lk_1114 : (Jvm.Cond.code ({ cls := "ShadowTaxModel", name := "added1", desc := "()I" } : Jvm.MethodName) prog_9_method_49_code (4 : Nat) (Option.some Jvm.ClassFile.FieldType.int)) ∈ tbG := tbG_mem 1114 (by decide +kernel) (by decide +kernel)
theorem lk_1115 : (Jvm.Cond.methodLink "ShadowTaxModel" (283 : Nat) ({ cls := "ShadowTaxModel", name := "term1", desc := "()I" } : Jvm.MethodName)) ∈ tbG := tbG_mem 1115 (by decide +kernel) (by decide +kernel)
theorem lk_1117 : (Jvm.Cond.instanceMethod ({ cls := "ShadowTaxModel", name := "term1", desc := "()I" } : Jvm.MethodName)) ∈ tbG := tbG_mem 1117 (by decide +kernel) (by decide +kernel)
theorem lk_1118 : (Jvm.Cond.code ({ cls := "ShadowTaxModel", name := "term1", desc := "()I" } : Jvm.MethodName) prog_9_method_48_code (2 : Nat) (Option.some Jvm.ClassFile.FieldType.int)) ∈ tbG := tbG_mem 1118 (by decide +kernel) (by decide +kernel)
theorem lk_1119 : (Jvm.Cond.methodLink "ShadowTaxModel" (280 : Nat) ({ cls := "ShadowTaxModel", name := "atom1", desc := "()I" } : Jvm.MethodName)) ∈ tbG := tbG_mem 1119 (by decide +kernel) (by decide +kernel)
theorem lk_1121 : (Jvm.Cond.instanceMethod ({ cls := "ShadowTaxModel", name := "atom1", desc := "()I" } : Jvm.MethodName)) ∈ tbG := tbG_mem 1121 (by decide +kernel) (by decide +kernel)
theorem lk_1122 : (Jvm.Cond.code ({ cls := "ShadowTaxModel", name := "atom1", desc := "()I" } : Jvm.MethodName) prog_9_method_47_code (2 : Nat) (Option.some Jvm.ClassFile.FieldType.int)) ∈ tbG := tbG_mem 1122 (by decide +kernel) (by decide +kernel)
theorem lk_1123 : (Jvm.Cond.methodLink "ShadowTaxModel" (277 : Nat) ({ cls := "ShadowTaxModel", name := "either2", desc := "()I" } : Jvm.MethodName)) ∈ tbG := tbG_mem 1123 (by decide +kernel) (by decide +kernel)
theorem lk_1125 : (Jvm.Cond.instanceMethod ({ cls := "ShadowTaxModel", name := "either2", desc := "()I" } : Jvm.MethodName)) ∈ tbG := tbG_mem 1125 (by decide +kernel) (by decide +kernel)
theorem lk_1126 : (Jvm.Cond.code ({ cls := "ShadowTaxModel", name := "either2", desc := "()I" } : Jvm.MethodName) prog_9_method_46_code (3 : Nat) (Option.some Jvm.ClassFile.FieldType.int)) ∈ tbG := tbG_mem 1126 (by decide +kernel) (by decide +kernel)
theorem lk_1127 : (Jvm.Cond.methodLink "ShadowTaxModel" (274 : Nat) ({ cls := "ShadowTaxModel", name := "both2", desc := "()I" } : Jvm.MethodName)) ∈ tbG := tbG_mem 1127 (by decide +kernel) (by decide +kernel)
theorem lk_1129 : (Jvm.Cond.instanceMethod ({ cls := "ShadowTaxModel", name := "both2", desc := "()I" } : Jvm.MethodName)) ∈ tbG := tbG_mem 1129 (by decide +kernel) (by decide +kernel)
theorem lk_1130 : (Jvm.Cond.code ({ cls := "ShadowTaxModel", name := "both2", desc := "()I" } : Jvm.MethodName) prog_9_method_45_code (3 : Nat) (Option.some Jvm.ClassFile.FieldType.int)) ∈ tbG := tbG_mem 1130 (by decide +kernel) (by decide +kernel)
theorem lk_1131 : (Jvm.Cond.methodLink "ShadowTaxModel" (304 : Nat) ({ cls := "ShadowTaxModel", name := "added0", desc := "()I" } : Jvm.MethodName)) ∈ tbG := tbG_mem 1131 (by decide +kernel) (by decide +kernel)
theorem lk_1133 : (Jvm.Cond.instanceMethod ({ cls := "ShadowTaxModel", name := "added0", desc := "()I" } : Jvm.MethodName)) ∈ tbG := tbG_mem 1133 (by decide +kernel) (by decide +kernel)
theorem lk_1134 : (Jvm.Cond.code ({ cls := "ShadowTaxModel", name := "added0", desc := "()I" } : Jvm.MethodName) prog_9_method_55_code (4 : Nat) (Option.some Jvm.ClassFile.FieldType.int)) ∈ tbG := tbG_mem 1134 (by decide +kernel) (by decide +kernel)
theorem lk_1135 : (Jvm.Cond.methodLink "ShadowTaxModel" (301 : Nat) ({ cls := "ShadowTaxModel", name := "term0", desc := "()I" } : Jvm.MethodName)) ∈ tbG := tbG_mem 1135 (by decide +kernel) (by decide +kernel)
theorem lk_1137 : (Jvm.Cond.instanceMethod ({ cls := "ShadowTaxModel", name := "term0", desc := "()I" } : Jvm.MethodName)) ∈ tbG := tbG_mem 1137 (by decide +kernel) (by decide +kernel)
theorem lk_1138 : (Jvm.Cond.code ({ cls := "ShadowTaxModel", name := "term0", desc := "()I" } : Jvm.MethodName) prog_9_method_54_code (2 : Nat) (Option.some Jvm.ClassFile.FieldType.int)) ∈ tbG := tbG_mem 1138 (by decide +kernel) (by decide +kernel)
theorem lk_1139 : (Jvm.Cond.methodLink "ShadowTaxModel" (298 : Nat) ({ cls := "ShadowTaxModel", name := "atom0", desc := "()I" } : Jvm.MethodName)) ∈ tbG := tbG_mem 1139 (by decide +kernel) (by decide +kernel)
theorem lk_1141 : (Jvm.Cond.instanceMethod ({ cls := "ShadowTaxModel", name := "atom0", desc := "()I" } : Jvm.MethodName)) ∈ tbG := tbG_mem 1141 (by decide +kernel) (by decide +kernel)
theorem lk_1142 : (Jvm.Cond.code ({ cls := "ShadowTaxModel", name := "atom0", desc := "()I" } : Jvm.MethodName) prog_9_method_53_code (2 : Nat) (Option.some Jvm.ClassFile.FieldType.int)) ∈ tbG := tbG_mem 1142 (by decide +kernel) (by decide +kernel)
theorem lk_1143 : (Jvm.Cond.methodLink "ShadowTaxModel" (295 : Nat) ({ cls := "ShadowTaxModel", name := "either1", desc := "()I" } : Jvm.MethodName)) ∈ tbG := tbG_mem 1143 (by decide +kernel) (by decide +kernel)
theorem lk_1145 : (Jvm.Cond.instanceMethod ({ cls := "ShadowTaxModel", name := "either1", desc := "()I" } : Jvm.MethodName)) ∈ tbG := tbG_mem 1145 (by decide +kernel) (by decide +kernel)
theorem lk_1146 : (Jvm.Cond.code ({ cls := "ShadowTaxModel", name := "either1", desc := "()I" } : Jvm.MethodName) prog_9_method_52_code (3 : Nat) (Option.some Jvm.ClassFile.FieldType.int)) ∈ tbG := tbG_mem 1146 (by decide +kernel) (by decide +kernel)
theorem lk_1147 : (Jvm.Cond.methodLink "ShadowTaxModel" (292 : Nat) ({ cls := "ShadowTaxModel", name := "both1", desc := "()I" } : Jvm.MethodName)) ∈ tbG := tbG_mem 1147 (by decide +kernel) (by decide +kernel)
theorem lk_1149 : (Jvm.Cond.instanceMethod ({ cls := "ShadowTaxModel", name := "both1", desc := "()I" } : Jvm.MethodName)) ∈ tbG := tbG_mem 1149 (by decide +kernel) (by decide +kernel)
theorem lk_1150 : (Jvm.Cond.code ({ cls := "ShadowTaxModel", name := "both1", desc := "()I" } : Jvm.MethodName) prog_9_method_51_code (3 : Nat) (Option.some Jvm.ClassFile.FieldType.int)) ∈ tbG := tbG_mem 1150 (by decide +kernel) (by decide +kernel)
theorem lk_1154 : (Jvm.Cond.code ({ cls := "ShadowTaxModel", name := "force", desc := "(I)I" } : Jvm.MethodName) prog_9_method_62_code (3 : Nat) (Option.some Jvm.ClassFile.FieldType.int)) ∈ tbG := tbG_mem 1154 (by decide +kernel) (by decide +kernel)
theorem lk_1158 : (Jvm.Cond.code ({ cls := "ShadowTaxModel", name := "hour", desc := "(III)I" } : Jvm.MethodName) prog_9_method_73_code (4 : Nat) (Option.some Jvm.ClassFile.FieldType.int)) ∈ tbG := tbG_mem 1158 (by decide +kernel) (by decide +kernel)
theorem lk_1159 : (Jvm.Cond.methodLink "ShadowTaxModel" (357 : Nat) ({ cls := "ShadowTaxModel", name := "isHour", desc := "(I)Z" } : Jvm.MethodName)) ∈ tbG := tbG_mem 1159 (by decide +kernel) (by decide +kernel)
theorem lk_1160 : (Jvm.Cond.static ({ cls := "ShadowTaxModel", name := "isHour", desc := "(I)Z" } : Jvm.MethodName)) ∈ tbG := tbG_mem 1160 (by decide +kernel) (by decide +kernel)
theorem lk_1161 : (Jvm.Cond.code ({ cls := "ShadowTaxModel", name := "isHour", desc := "(I)Z" } : Jvm.MethodName) prog_9_method_7_code (1 : Nat) (Option.some Jvm.ClassFile.FieldType.boolean)) ∈ tbG := tbG_mem 1161 (by decide +kernel) (by decide +kernel)
theorem lk_1162 : (Jvm.Cond.constantLong "ShadowTaxModel" (74 : Nat) (12 : Int64)) ∈ tbG := tbG_mem 1162 (by decide +kernel) (by decide +kernel)
theorem lk_1163 : (Jvm.Cond.constantLong "ShadowTaxModel" (360 : Nat) (2 : Int64)) ∈ tbG := tbG_mem 1163 (by decide +kernel) (by decide +kernel)
theorem lk_1164 : (Jvm.Cond.methodLink "ShadowTaxModel" (350 : Nat) ({ cls := "ShadowTaxModel", name := "gathers", desc := "(I)V" } : Jvm.MethodName)) ∈ tbG := tbG_mem 1164 (by decide +kernel) (by decide +kernel)
theorem lk_1166 : (Jvm.Cond.instanceMethod ({ cls := "ShadowTaxModel", name := "gathers", desc := "(I)V" } : Jvm.MethodName)) ∈ tbG := tbG_mem 1166 (by decide +kernel) (by decide +kernel)
theorem lk_1167 : (Jvm.Cond.code ({ cls := "ShadowTaxModel", name := "gathers", desc := "(I)V" } : Jvm.MethodName) prog_9_method_69_code (8 : Nat) (Option.none : Option Jvm.ClassFile.FieldType)) ∈ tbG := tbG_mem 1167 (by decide +kernel) (by decide +kernel)
theorem lk_1168 : (Jvm.Cond.methodLink "ShadowTaxModel" (340 : Nat) ({ cls := "ShadowTaxModel", name := "isDull", desc := "(I)Z" } : Jvm.MethodName)) ∈ tbG := tbG_mem 1168 (by decide +kernel) (by decide +kernel)
theorem lk_1170 : (Jvm.Cond.instanceMethod ({ cls := "ShadowTaxModel", name := "isDull", desc := "(I)Z" } : Jvm.MethodName)) ∈ tbG := tbG_mem 1170 (by decide +kernel) (by decide +kernel)
theorem lk_1171 : (Jvm.Cond.code ({ cls := "ShadowTaxModel", name := "isDull", desc := "(I)Z" } : Jvm.MethodName) prog_9_method_66_code (2 : Nat) (Option.some Jvm.ClassFile.FieldType.boolean)) ∈ tbG := tbG_mem 1171 (by decide +kernel) (by decide +kernel)
theorem lk_1172 : (Jvm.Cond.methodLink "ShadowTaxModel" (343 : Nat) ({ cls := "ShadowTaxModel", name := "stands", desc := "(III)V" } : Jvm.MethodName)) ∈ tbG := tbG_mem 1172 (by decide +kernel) (by decide +kernel)
theorem lk_1174 : (Jvm.Cond.instanceMethod ({ cls := "ShadowTaxModel", name := "stands", desc := "(III)V" } : Jvm.MethodName)) ∈ tbG := tbG_mem 1174 (by decide +kernel) (by decide +kernel)
theorem lk_1175 : (Jvm.Cond.code ({ cls := "ShadowTaxModel", name := "stands", desc := "(III)V" } : Jvm.MethodName) prog_9_method_68_code (6 : Nat) (Option.none : Option Jvm.ClassFile.FieldType)) ∈ tbG := tbG_mem 1175 (by decide +kernel) (by decide +kernel)
theorem lk_1176 : (Jvm.Cond.methodLink "ShadowTaxModel" (331 : Nat) ({ cls := "ShadowTaxModel", name := "longOf", desc := "(II)I" } : Jvm.MethodName)) ∈ tbG := tbG_mem 1176 (by decide +kernel) (by decide +kernel)
theorem lk_1178 : (Jvm.Cond.instanceMethod ({ cls := "ShadowTaxModel", name := "longOf", desc := "(II)I" } : Jvm.MethodName)) ∈ tbG := tbG_mem 1178 (by decide +kernel) (by decide +kernel)
theorem lk_1179 : (Jvm.Cond.code ({ cls := "ShadowTaxModel", name := "longOf", desc := "(II)I" } : Jvm.MethodName) prog_9_method_64_code (7 : Nat) (Option.some Jvm.ClassFile.FieldType.int)) ∈ tbG := tbG_mem 1179 (by decide +kernel) (by decide +kernel)
theorem lk_1180 : (Jvm.Cond.methodLink "ShadowTaxModel" (327 : Nat) ({ cls := "ShadowTaxModel", name := "says", desc := "(IIII)I" } : Jvm.MethodName)) ∈ tbG := tbG_mem 1180 (by decide +kernel) (by decide +kernel)
theorem lk_1182 : (Jvm.Cond.instanceMethod ({ cls := "ShadowTaxModel", name := "says", desc := "(IIII)I" } : Jvm.MethodName)) ∈ tbG := tbG_mem 1182 (by decide +kernel) (by decide +kernel)
theorem lk_1183 : (Jvm.Cond.code ({ cls := "ShadowTaxModel", name := "says", desc := "(IIII)I" } : Jvm.MethodName) prog_9_method_63_code (5 : Nat) (Option.some Jvm.ClassFile.FieldType.int)) ∈ tbG := tbG_mem 1183 (by decide +kernel) (by decide +kernel)
theorem lk_1184 : (Jvm.Cond.methodLink "ShadowTaxModel" (323 : Nat) ({ cls := "ShadowTaxModel", name := "within", desc := "(III)I" } : Jvm.MethodName)) ∈ tbG := tbG_mem 1184 (by decide +kernel) (by decide +kernel)
theorem lk_1185 : (Jvm.Cond.static ({ cls := "ShadowTaxModel", name := "within", desc := "(III)I" } : Jvm.MethodName)) ∈ tbG := tbG_mem 1185 (by decide +kernel) (by decide +kernel)
theorem lk_1186 : (Jvm.Cond.code ({ cls := "ShadowTaxModel", name := "within", desc := "(III)I" } : Jvm.MethodName) prog_9_method_3_code (3 : Nat) (Option.some Jvm.ClassFile.FieldType.int)) ∈ tbG := tbG_mem 1186 (by decide +kernel) (by decide +kernel)
theorem lk_1187 : (Jvm.Cond.methodLink "ShadowTaxModel" (334 : Nat) ({ cls := "ShadowTaxModel", name := "owesOf", desc := "(III)I" } : Jvm.MethodName)) ∈ tbG := tbG_mem 1187 (by decide +kernel) (by decide +kernel)
theorem lk_1189 : (Jvm.Cond.instanceMethod ({ cls := "ShadowTaxModel", name := "owesOf", desc := "(III)I" } : Jvm.MethodName)) ∈ tbG := tbG_mem 1189 (by decide +kernel) (by decide +kernel)
theorem lk_1190 : (Jvm.Cond.code ({ cls := "ShadowTaxModel", name := "owesOf", desc := "(III)I" } : Jvm.MethodName) prog_9_method_65_code (10 : Nat) (Option.some Jvm.ClassFile.FieldType.int)) ∈ tbG := tbG_mem 1190 (by decide +kernel) (by decide +kernel)
theorem lk_1191 : (Jvm.Cond.methodLink "ShadowTaxModel" (346 : Nat) ({ cls := "ShadowTaxModel", name := "shadow", desc := "(IIZ)I" } : Jvm.MethodName)) ∈ tbG := tbG_mem 1191 (by decide +kernel) (by decide +kernel)
theorem lk_1192 : (Jvm.Cond.static ({ cls := "ShadowTaxModel", name := "shadow", desc := "(IIZ)I" } : Jvm.MethodName)) ∈ tbG := tbG_mem 1192 (by decide +kernel) (by decide +kernel)
theorem lk_1193 : (Jvm.Cond.code ({ cls := "ShadowTaxModel", name := "shadow", desc := "(IIZ)I" } : Jvm.MethodName) prog_9_method_67_code (6 : Nat) (Option.some Jvm.ClassFile.FieldType.int)) ∈ tbG := tbG_mem 1193 (by decide +kernel) (by decide +kernel)
theorem lk_1197 : (Jvm.Cond.code ({ cls := "ShadowTaxModel", name := "takes", desc := "(I)I" } : Jvm.MethodName) prog_9_method_74_code (2 : Nat) (Option.some Jvm.ClassFile.FieldType.int)) ∈ tbG := tbG_mem 1197 (by decide +kernel) (by decide +kernel)
theorem lk_1198 : (Jvm.Cond.methodLink "ShadowTaxModel" (362 : Nat) ({ cls := "ShadowTaxModel", name := "takesDay", desc := "()I" } : Jvm.MethodName)) ∈ tbG := tbG_mem 1198 (by decide +kernel) (by decide +kernel)
theorem lk_1200 : (Jvm.Cond.instanceMethod ({ cls := "ShadowTaxModel", name := "takesDay", desc := "()I" } : Jvm.MethodName)) ∈ tbG := tbG_mem 1200 (by decide +kernel) (by decide +kernel)
theorem lk_1201 : (Jvm.Cond.code ({ cls := "ShadowTaxModel", name := "takesDay", desc := "()I" } : Jvm.MethodName) prog_9_method_71_code (3 : Nat) (Option.some Jvm.ClassFile.FieldType.int)) ∈ tbG := tbG_mem 1201 (by decide +kernel) (by decide +kernel)
theorem lk_1202 : (Jvm.Cond.methodLink "ShadowTaxModel" (354 : Nat) ({ cls := "ShadowTaxModel", name := "takesAll", desc := "(I)I" } : Jvm.MethodName)) ∈ tbG := tbG_mem 1202 (by decide +kernel) (by decide +kernel)
theorem lk_1204 : (Jvm.Cond.instanceMethod ({ cls := "ShadowTaxModel", name := "takesAll", desc := "(I)I" } : Jvm.MethodName)) ∈ tbG := tbG_mem 1204 (by decide +kernel) (by decide +kernel)
theorem lk_1205 : (Jvm.Cond.code ({ cls := "ShadowTaxModel", name := "takesAll", desc := "(I)I" } : Jvm.MethodName) prog_9_method_70_code (4 : Nat) (Option.some Jvm.ClassFile.FieldType.int)) ∈ tbG := tbG_mem 1205 (by decide +kernel) (by decide +kernel)
theorem lk_1209 : (Jvm.Cond.code ({ cls := "ShadowTaxModel", name := "dark", desc := "(I)I" } : Jvm.MethodName) prog_9_method_75_code (2 : Nat) (Option.some Jvm.ClassFile.FieldType.int)) ∈ tbG := tbG_mem 1209 (by decide +kernel) (by decide +kernel)
theorem lk_1213 : (Jvm.Cond.code ({ cls := "ShadowTaxModel", name := "hours", desc := "(I)I" } : Jvm.MethodName) prog_9_method_77_code (7 : Nat) (Option.some Jvm.ClassFile.FieldType.int)) ∈ tbG := tbG_mem 1213 (by decide +kernel) (by decide +kernel)
theorem lk_1214 : (Jvm.Cond.constantLong "ShadowTaxModel" (365 : Nat) (3 : Int64)) ∈ tbG := tbG_mem 1214 (by decide +kernel) (by decide +kernel)
theorem lk_1215 : (Jvm.Cond.methodLink "ShadowTaxModel" (367 : Nat) ({ cls := "ShadowTaxModel", name := "apart", desc := "(I)I" } : Jvm.MethodName)) ∈ tbG := tbG_mem 1215 (by decide +kernel) (by decide +kernel)
theorem lk_1217 : (Jvm.Cond.instanceMethod ({ cls := "ShadowTaxModel", name := "apart", desc := "(I)I" } : Jvm.MethodName)) ∈ tbG := tbG_mem 1217 (by decide +kernel) (by decide +kernel)
theorem lk_1218 : (Jvm.Cond.code ({ cls := "ShadowTaxModel", name := "apart", desc := "(I)I" } : Jvm.MethodName) prog_9_method_76_code (5 : Nat) (Option.some Jvm.ClassFile.FieldType.int)) ∈ tbG := tbG_mem 1218 (by decide +kernel) (by decide +kernel)
theorem lk_1222 : (Jvm.Cond.code ({ cls := "ShadowTaxModel", name := "best", desc := "(III)I" } : Jvm.MethodName) prog_9_method_79_code (4 : Nat) (Option.some Jvm.ClassFile.FieldType.int)) ∈ tbG := tbG_mem 1222 (by decide +kernel) (by decide +kernel)
theorem lk_1223 : (Jvm.Cond.methodLink "ShadowTaxModel" (379 : Nat) ({ cls := "ShadowTaxModel", name := "seeks", desc := "(IIZ)V" } : Jvm.MethodName)) ∈ tbG := tbG_mem 1223 (by decide +kernel) (by decide +kernel)
theorem lk_1225 : (Jvm.Cond.instanceMethod ({ cls := "ShadowTaxModel", name := "seeks", desc := "(IIZ)V" } : Jvm.MethodName)) ∈ tbG := tbG_mem 1225 (by decide +kernel) (by decide +kernel)
theorem lk_1226 : (Jvm.Cond.code ({ cls := "ShadowTaxModel", name := "seeks", desc := "(IIZ)V" } : Jvm.MethodName) prog_9_method_78_code (7 : Nat) (Option.none : Option Jvm.ClassFile.FieldType)) ∈ tbG := tbG_mem 1226 (by decide +kernel) (by decide +kernel)
theorem lk_1227 : (Jvm.Cond.methodLink "ShadowTaxModel" (376 : Nat) ({ cls := "ShadowTaxModel", name := "dueOf", desc := "(II)I" } : Jvm.MethodName)) ∈ tbG := tbG_mem 1227 (by decide +kernel) (by decide +kernel)
theorem lk_1229 : (Jvm.Cond.instanceMethod ({ cls := "ShadowTaxModel", name := "dueOf", desc := "(II)I" } : Jvm.MethodName)) ∈ tbG := tbG_mem 1229 (by decide +kernel) (by decide +kernel)
theorem lk_1230 : (Jvm.Cond.code ({ cls := "ShadowTaxModel", name := "dueOf", desc := "(II)I" } : Jvm.MethodName) prog_9_method_72_code (3 : Nat) (Option.some Jvm.ClassFile.FieldType.int)) ∈ tbG := tbG_mem 1230 (by decide +kernel) (by decide +kernel)
theorem lk_1234 : (Jvm.Cond.code ({ cls := "ShadowTaxModel", name := "place", desc := "(III)I" } : Jvm.MethodName) prog_9_method_80_code (4 : Nat) (Option.some Jvm.ClassFile.FieldType.int)) ∈ tbG := tbG_mem 1234 (by decide +kernel) (by decide +kernel)
theorem lk_1238 : (Jvm.Cond.code ({ cls := "ShadowTaxModel", name := "shade", desc := "(III)I" } : Jvm.MethodName) prog_9_method_81_code (6 : Nat) (Option.some Jvm.ClassFile.FieldType.int)) ∈ tbG := tbG_mem 1238 (by decide +kernel) (by decide +kernel)
theorem lk_1242 : (Jvm.Cond.code ({ cls := "ShadowTaxModel", name := "send", desc := "(II)I" } : Jvm.MethodName) prog_9_method_82_code (6 : Nat) (Option.some Jvm.ClassFile.FieldType.int)) ∈ tbG := tbG_mem 1242 (by decide +kernel) (by decide +kernel)
theorem lk_1246 : (Jvm.Cond.code ({ cls := "ShadowTaxModel", name := "tells", desc := "(III)I" } : Jvm.MethodName) prog_9_method_85_code (9 : Nat) (Option.some Jvm.ClassFile.FieldType.int)) ∈ tbG := tbG_mem 1246 (by decide +kernel) (by decide +kernel)
theorem lk_1247 : (Jvm.Cond.methodLink "ShadowTaxModel" (386 : Nat) ({ cls := "ShadowTaxModel", name := "isSheet", desc := "(I)Z" } : Jvm.MethodName)) ∈ tbG := tbG_mem 1247 (by decide +kernel) (by decide +kernel)
theorem lk_1248 : (Jvm.Cond.static ({ cls := "ShadowTaxModel", name := "isSheet", desc := "(I)Z" } : Jvm.MethodName)) ∈ tbG := tbG_mem 1248 (by decide +kernel) (by decide +kernel)
theorem lk_1249 : (Jvm.Cond.code ({ cls := "ShadowTaxModel", name := "isSheet", desc := "(I)Z" } : Jvm.MethodName) prog_9_method_93_code (1 : Nat) (Option.some Jvm.ClassFile.FieldType.boolean)) ∈ tbG := tbG_mem 1249 (by decide +kernel) (by decide +kernel)
theorem lk_1250 : (Jvm.Cond.methodLink "ShadowTaxModel" (383 : Nat) ({ cls := "ShadowTaxModel", name := "firstOther", desc := "(II)I" } : Jvm.MethodName)) ∈ tbG := tbG_mem 1250 (by decide +kernel) (by decide +kernel)
theorem lk_1252 : (Jvm.Cond.instanceMethod ({ cls := "ShadowTaxModel", name := "firstOther", desc := "(II)I" } : Jvm.MethodName)) ∈ tbG := tbG_mem 1252 (by decide +kernel) (by decide +kernel)
theorem lk_1253 : (Jvm.Cond.code ({ cls := "ShadowTaxModel", name := "firstOther", desc := "(II)I" } : Jvm.MethodName) prog_9_method_83_code (4 : Nat) (Option.some Jvm.ClassFile.FieldType.int)) ∈ tbG := tbG_mem 1253 (by decide +kernel) (by decide +kernel)
theorem lk_1254 : (Jvm.Cond.methodLink "ShadowTaxModel" (389 : Nat) ({ cls := "ShadowTaxModel", name := "cloudsBy", desc := "(II)I" } : Jvm.MethodName)) ∈ tbG := tbG_mem 1254 (by decide +kernel) (by decide +kernel)
theorem lk_1256 : (Jvm.Cond.instanceMethod ({ cls := "ShadowTaxModel", name := "cloudsBy", desc := "(II)I" } : Jvm.MethodName)) ∈ tbG := tbG_mem 1256 (by decide +kernel) (by decide +kernel)
theorem lk_1257 : (Jvm.Cond.code ({ cls := "ShadowTaxModel", name := "cloudsBy", desc := "(II)I" } : Jvm.MethodName) prog_9_method_84_code (7 : Nat) (Option.some Jvm.ClassFile.FieldType.int)) ∈ tbG := tbG_mem 1257 (by decide +kernel) (by decide +kernel)
theorem lk_1261 : (Jvm.Cond.code ({ cls := "ShadowTaxModel", name := "film", desc := "(II)I" } : Jvm.MethodName) prog_9_method_86_code (4 : Nat) (Option.some Jvm.ClassFile.FieldType.int)) ∈ tbG := tbG_mem 1261 (by decide +kernel) (by decide +kernel)
theorem lk_1262 : (Jvm.Cond.methodLink "ShadowTaxModel" (392 : Nat) ({ cls := "ShadowTaxModel", name := "sheet", desc := "(III)I" } : Jvm.MethodName)) ∈ tbG := tbG_mem 1262 (by decide +kernel) (by decide +kernel)
theorem lk_1263 : (Jvm.Cond.instanceMethod ({ cls := "ShadowTaxModel", name := "sheet", desc := "(III)I" } : Jvm.MethodName)) ∈ tbG := tbG_mem 1263 (by decide +kernel) (by decide +kernel)
theorem lk_1264 : (Jvm.Cond.selects "ShadowTaxModel" ({ cls := "ShadowTaxModel", name := "sheet", desc := "(III)I" } : Jvm.MethodName) ({ cls := "ShadowTaxModel", name := "sheet", desc := "(III)I" } : Jvm.MethodName)) ∈ tbG := tbG_mem 1264 (by decide +kernel) (by decide +kernel)
theorem lk_1265 : (Jvm.Cond.code ({ cls := "ShadowTaxModel", name := "sheet", desc := "(III)I" } : Jvm.MethodName) prog_9_method_94_code (5 : Nat) (Option.some Jvm.ClassFile.FieldType.int)) ∈ tbG := tbG_mem 1265 (by decide +kernel) (by decide +kernel)
theorem lk_1266 : (Jvm.Cond.constantLong "ShadowTaxModel" (414 : Nat) (-1 : Int64)) ∈ tbG := tbG_mem 1266 (by decide +kernel) (by decide +kernel)
theorem lk_1270 : (Jvm.Cond.code ({ cls := "ShadowTaxModel", name := "drawn", desc := "(I)I" } : Jvm.MethodName) prog_9_method_88_code (2 : Nat) (Option.some Jvm.ClassFile.FieldType.int)) ∈ tbG := tbG_mem 1270 (by decide +kernel) (by decide +kernel)
theorem lk_1271 : (Jvm.Cond.methodLink "ShadowTaxModel" (396 : Nat) ({ cls := "ShadowTaxModel", name := "takesBy", desc := "(I)I" } : Jvm.MethodName)) ∈ tbG := tbG_mem 1271 (by decide +kernel) (by decide +kernel)
theorem lk_1273 : (Jvm.Cond.instanceMethod ({ cls := "ShadowTaxModel", name := "takesBy", desc := "(I)I" } : Jvm.MethodName)) ∈ tbG := tbG_mem 1273 (by decide +kernel) (by decide +kernel)
theorem lk_1274 : (Jvm.Cond.code ({ cls := "ShadowTaxModel", name := "takesBy", desc := "(I)I" } : Jvm.MethodName) prog_9_method_87_code (5 : Nat) (Option.some Jvm.ClassFile.FieldType.int)) ∈ tbG := tbG_mem 1274 (by decide +kernel) (by decide +kernel)
theorem lk_1275 : (Jvm.Cond.constant "ShadowTaxModel" (395 : Nat) (1103515245 : Int32)) ∈ tbG := tbG_mem 1275 (by decide +kernel) (by decide +kernel)
theorem lk_1279 : (Jvm.Cond.code ({ cls := "ShadowTaxModel", name := "chance", desc := "(IIII)J" } : Jvm.MethodName) prog_9_method_89_code (13 : Nat) (Option.some Jvm.ClassFile.FieldType.long)) ∈ tbG := tbG_mem 1279 (by decide +kernel) (by decide +kernel)
theorem lk_1280 : (Jvm.Cond.constantLong "ShadowTaxModel" (399 : Nat) (20 : Int64)) ∈ tbG := tbG_mem 1280 (by decide +kernel) (by decide +kernel)
theorem lk_1281 : (Jvm.Cond.constantLong "ShadowTaxModel" (401 : Nat) (99999 : Int64)) ∈ tbG := tbG_mem 1281 (by decide +kernel) (by decide +kernel)
theorem lk_1282 : (Jvm.Cond.constantLong "ShadowTaxModel" (403 : Nat) (-4611686018427387904 : Int64)) ∈ tbG := tbG_mem 1282 (by decide +kernel) (by decide +kernel)
theorem lk_1286 : (Jvm.Cond.code ({ cls := "ShadowTaxModel", name := "image", desc := "()I" } : Jvm.MethodName) prog_9_method_90_code (2 : Nat) (Option.some Jvm.ClassFile.FieldType.int)) ∈ tbG := tbG_mem 1286 (by decide +kernel) (by decide +kernel)
theorem lk_1290 : (Jvm.Cond.code ({ cls := "ShadowTaxModel", name := "back", desc := "()I" } : Jvm.MethodName) prog_9_method_91_code (2 : Nat) (Option.some Jvm.ClassFile.FieldType.int)) ∈ tbG := tbG_mem 1290 (by decide +kernel) (by decide +kernel)
theorem lk_1294 : (Jvm.Cond.code ({ cls := "ShadowTaxModel", name := "count", desc := "(I)I" } : Jvm.MethodName) prog_9_method_92_code (4 : Nat) (Option.some Jvm.ClassFile.FieldType.int)) ∈ tbG := tbG_mem 1294 (by decide +kernel) (by decide +kernel)
theorem lk_1299 : (Jvm.Cond.code ({ cls := "ShadowTaxModel", name := "cell", desc := "(III)I" } : Jvm.MethodName) prog_9_method_95_code (4 : Nat) (Option.some Jvm.ClassFile.FieldType.int)) ∈ tbG := tbG_mem 1299 (by decide +kernel) (by decide +kernel)
theorem lk_1303 : (Jvm.Cond.code ({ cls := "ShadowTaxModel", name := "copy", desc := "(IIIII)I" } : Jvm.MethodName) prog_9_method_96_code (9 : Nat) (Option.some Jvm.ClassFile.FieldType.int)) ∈ tbG := tbG_mem 1303 (by decide +kernel) (by decide +kernel)
theorem lk_1307 : (Jvm.Cond.code ({ cls := "ShadowTaxModel", name := "things", desc := "(IIII)I" } : Jvm.MethodName) prog_9_method_97_code (8 : Nat) (Option.some Jvm.ClassFile.FieldType.int)) ∈ tbG := tbG_mem 1307 (by decide +kernel) (by decide +kernel)
theorem lk_1308 : (Jvm.Cond.constantLong "ShadowTaxModel" (416 : Nat) (8 : Int64)) ∈ tbG := tbG_mem 1308 (by decide +kernel) (by decide +kernel)
theorem lk_1309 : (Jvm.Cond.methodLink "ShadowTaxModel" (418 : Nat) ({ cls := "ShadowTaxModel", name := "thing", desc := "(III)I" } : Jvm.MethodName)) ∈ tbG := tbG_mem 1309 (by decide +kernel) (by decide +kernel)
theorem lk_1313 : (Jvm.Cond.code ({ cls := "ShadowTaxModel", name := "taken", desc := "(II)I" } : Jvm.MethodName) prog_9_method_99_code (4 : Nat) (Option.some Jvm.ClassFile.FieldType.int)) ∈ tbG := tbG_mem 1313 (by decide +kernel) (by decide +kernel)
theorem lk_1314 : (Jvm.Cond.methodLink "ShadowTaxModel" (421 : Nat) ({ cls := "ShadowTaxModel", name := "over", desc := "(I)I" } : Jvm.MethodName)) ∈ tbG := tbG_mem 1314 (by decide +kernel) (by decide +kernel)
theorem lk_1315 : (Jvm.Cond.static ({ cls := "ShadowTaxModel", name := "over", desc := "(I)I" } : Jvm.MethodName)) ∈ tbG := tbG_mem 1315 (by decide +kernel) (by decide +kernel)
theorem lk_1316 : (Jvm.Cond.code ({ cls := "ShadowTaxModel", name := "over", desc := "(I)I" } : Jvm.MethodName) prog_9_method_98_code (1 : Nat) (Option.some Jvm.ClassFile.FieldType.int)) ∈ tbG := tbG_mem 1316 (by decide +kernel) (by decide +kernel)
theorem mk_X0_init : zMok m_X0_init 0 := ⟨(by decide +kernel), lk_271, lk_90, ⟨(by decide +kernel), (by decide +kernel), (by decide +kernel)⟩, by decide⟩
theorem mk_X0_keep : zMok m_X0_keep 1 := ⟨(by decide +kernel), lk_723, lk_90, ⟨(by decide +kernel), (by decide +kernel), (by decide +kernel)⟩, by decide⟩
theorem mk_X0_layBack : zMok m_X0_layBack 1 := ⟨(by decide +kernel), lk_731, lk_90, ⟨(by decide +kernel), (by decide +kernel), (by decide +kernel)⟩, by decide⟩
theorem mk_X1_init : zMok m_X1_init 0 := ⟨(by decide +kernel), lk_242, lk_89, ⟨(by decide +kernel), (by decide +kernel), (by decide +kernel)⟩, by decide⟩
theorem mk_X1_take : zMok m_X1_take 1 := ⟨(by decide +kernel), lk_390, lk_89, ⟨(by decide +kernel), (by decide +kernel), (by decide +kernel)⟩, by decide⟩
theorem mk_X1_readInto : zMok m_X1_readInto 1 := ⟨(by decide +kernel), lk_398, lk_89, ⟨(by decide +kernel), (by decide +kernel), (by decide +kernel)⟩, by decide⟩
theorem mk_X1_fail : zMok m_X1_fail 0 := ⟨(by decide +kernel), lk_492, lk_89, ⟨(by decide +kernel), (by decide +kernel), (by decide +kernel)⟩, by decide⟩
theorem mk_X1_expect : zMok m_X1_expect 1 := ⟨(by decide +kernel), lk_488, lk_89, ⟨(by decide +kernel), (by decide +kernel), (by decide +kernel)⟩, by decide⟩
theorem mk_X1_readLevel : zMok m_X1_readLevel 2 := ⟨(by decide +kernel), lk_496, lk_89, ⟨(by decide +kernel), (by decide +kernel), (by decide +kernel)⟩, by decide⟩
theorem mk_X1_readOne : zMok m_X1_readOne 1 := ⟨(by decide +kernel), lk_500, lk_89, ⟨(by decide +kernel), (by decide +kernel), (by decide +kernel)⟩, by decide⟩
theorem mk_X1_readBehind : zMok m_X1_readBehind 3 := ⟨(by decide +kernel), lk_505, lk_89, ⟨(by decide +kernel), (by decide +kernel), (by decide +kernel)⟩, by decide⟩
theorem mk_X1_levelOf : zMok m_X1_levelOf 1 := ⟨(by decide +kernel), lk_508, lk_89, ⟨(by decide +kernel), (by decide +kernel), (by decide +kernel)⟩, by decide⟩
theorem mk_X1_advance : zMok m_X1_advance 0 := ⟨(by decide +kernel), lk_403, lk_89, ⟨(by decide +kernel), (by decide +kernel), (by decide +kernel)⟩, by decide⟩
theorem mk_X1_readNumber : zMok m_X1_readNumber 0 := ⟨(by decide +kernel), lk_481, lk_89, ⟨(by decide +kernel), (by decide +kernel), (by decide +kernel)⟩, by decide⟩
theorem mk_X1_readWord : zMok m_X1_readWord 0 := ⟨(by decide +kernel), lk_410, lk_89, ⟨(by decide +kernel), (by decide +kernel), (by decide +kernel)⟩, by decide⟩
theorem mk_X1_isWord : zMok m_X1_isWord 1 := ⟨(by decide +kernel), lk_415, lk_89, ⟨(by decide +kernel), (by decide +kernel), (by decide +kernel)⟩, by decide⟩
theorem mk_X1_signOf : zMok m_X1_signOf 1 := ⟨(by decide +kernel), lk_484, lk_89, ⟨(by decide +kernel), (by decide +kernel), (by decide +kernel)⟩, by decide⟩
theorem mk_X1_isLetter : zMok m_X1_isLetter 1 := ⟨(by decide +kernel), lk_406, lk_89, ⟨(by decide +kernel), (by decide +kernel), (by decide +kernel)⟩, by decide⟩
theorem mk_X1_isDigit : zMok m_X1_isDigit 1 := ⟨(by decide +kernel), lk_477, lk_89, ⟨(by decide +kernel), (by decide +kernel), (by decide +kernel)⟩, by decide⟩
theorem mk_X2_init : zMok m_X2_init 0 := ⟨(by decide +kernel), lk_149, lk_88, ⟨(by decide +kernel), (by decide +kernel), (by decide +kernel)⟩, by decide⟩
theorem mk_X2_empty : zMok m_X2_empty 0 := ⟨(by decide +kernel), lk_171, lk_88, ⟨(by decide +kernel), (by decide +kernel), (by decide +kernel)⟩, by decide⟩
theorem mk_X2_add : zMok m_X2_add 1 := ⟨(by decide +kernel), lk_175, lk_88, ⟨(by decide +kernel), (by decide +kernel), (by decide +kernel)⟩, by decide⟩
theorem mk_X2_endPart : zMok m_X2_endPart 0 := ⟨(by decide +kernel), lk_179, lk_88, ⟨(by decide +kernel), (by decide +kernel), (by decide +kernel)⟩, by decide⟩
theorem mk_X2_beFirst : zMok m_X2_beFirst 0 := ⟨(by decide +kernel), lk_167, lk_88, ⟨(by decide +kernel), (by decide +kernel), (by decide +kernel)⟩, by decide⟩
theorem mk_X2_value : zMok m_X2_value 3 := ⟨(by decide +kernel), lk_537, lk_88, ⟨(by decide +kernel), (by decide +kernel), (by decide +kernel)⟩, by decide⟩
theorem mk_X2_alone : zMok m_X2_alone 2 := ⟨(by decide +kernel), lk_540, lk_88, ⟨(by decide +kernel), (by decide +kernel), (by decide +kernel)⟩, by decide⟩
theorem mk_X2_joined : zMok m_X2_joined 3 := ⟨(by decide +kernel), lk_543, lk_88, ⟨(by decide +kernel), (by decide +kernel), (by decide +kernel)⟩, by decide⟩
theorem mk_X3_init : zMok m_X3_init 0 := ⟨(by decide +kernel), lk_304, lk_91, ⟨(by decide +kernel), (by decide +kernel), (by decide +kernel)⟩, by decide⟩
theorem mk_X3_isMissing : zMok m_X3_isMissing 0 := ⟨(by decide +kernel), lk_655, lk_91, ⟨(by decide +kernel), (by decide +kernel), (by decide +kernel)⟩, by decide⟩
theorem mk_X3_become : zMok m_X3_become 2 := ⟨(by decide +kernel), lk_686, lk_91, ⟨(by decide +kernel), (by decide +kernel), (by decide +kernel)⟩, by decide⟩
theorem mk_X3_holds : zMok m_X3_holds 2 := ⟨(by decide +kernel), lk_753, lk_91, ⟨(by decide +kernel), (by decide +kernel), (by decide +kernel)⟩, by decide⟩
theorem mk_X3_at : zMok m_X3_at 1 := ⟨(by decide +kernel), lk_663, lk_91, ⟨(by decide +kernel), (by decide +kernel), (by decide +kernel)⟩, by decide⟩
theorem mk_X3_write : zMok m_X3_write 2 := ⟨(by decide +kernel), lk_693, lk_91, ⟨(by decide +kernel), (by decide +kernel), (by decide +kernel)⟩, by decide⟩
theorem mk_X4_init : zMok m_X4_init 0 := ⟨(by decide +kernel), lk_113, lk_86, ⟨(by decide +kernel), (by decide +kernel), (by decide +kernel)⟩, by decide⟩
theorem mk_X4_has : zMok m_X4_has 1 := ⟨(by decide +kernel), lk_349, lk_86, ⟨(by decide +kernel), (by decide +kernel), (by decide +kernel)⟩, by decide⟩
theorem mk_X4_come : zMok m_X4_come 3 := ⟨(by decide +kernel), lk_378, lk_86, ⟨(by decide +kernel), (by decide +kernel), (by decide +kernel)⟩, by decide⟩
theorem mk_X4_tell : zMok m_X4_tell 2 := ⟨(by decide +kernel), lk_353, lk_86, ⟨(by decide +kernel), (by decide +kernel), (by decide +kernel)⟩, by decide⟩
theorem mk_X4_put : zMok m_X4_put 3 := ⟨(by decide +kernel), lk_366, lk_86, ⟨(by decide +kernel), (by decide +kernel), (by decide +kernel)⟩, by decide⟩
theorem mk_X4_look : zMok m_X4_look 1 := ⟨(by decide +kernel), lk_525, lk_86, ⟨(by decide +kernel), (by decide +kernel), (by decide +kernel)⟩, by decide⟩
theorem mk_X4_measure : zMok m_X4_measure 2 := ⟨(by decide +kernel), lk_529, lk_86, ⟨(by decide +kernel), (by decide +kernel), (by decide +kernel)⟩, by decide⟩
theorem mk_X4_ruled : zMok m_X4_ruled 2 := ⟨(by decide +kernel), lk_533, lk_86, ⟨(by decide +kernel), (by decide +kernel), (by decide +kernel)⟩, by decide⟩
theorem mk_X4_cast : zMok m_X4_cast 1 := ⟨(by decide +kernel), lk_567, lk_86, ⟨(by decide +kernel), (by decide +kernel), (by decide +kernel)⟩, by decide⟩
theorem mk_X4_occupied : zMok m_X4_occupied 0 := ⟨(by decide +kernel), lk_571, lk_86, ⟨(by decide +kernel), (by decide +kernel), (by decide +kernel)⟩, by decide⟩
theorem mk_X4_shadowOf : zMok m_X4_shadowOf 2 := ⟨(by decide +kernel), lk_575, lk_86, ⟨(by decide +kernel), (by decide +kernel), (by decide +kernel)⟩, by decide⟩
theorem mk_X4_castWithout : zMok m_X4_castWithout 2 := ⟨(by decide +kernel), lk_639, lk_86, ⟨(by decide +kernel), (by decide +kernel), (by decide +kernel)⟩, by decide⟩
theorem mk_X4_dueOf : zMok m_X4_dueOf 1 := ⟨(by decide +kernel), lk_584, lk_86, ⟨(by decide +kernel), (by decide +kernel), (by decide +kernel)⟩, by decide⟩
theorem mk_X4_dueOfAll : zMok m_X4_dueOfAll 0 := ⟨(by decide +kernel), lk_597, lk_86, ⟨(by decide +kernel), (by decide +kernel), (by decide +kernel)⟩, by decide⟩
theorem mk_X4_dueOfDay : zMok m_X4_dueOfDay 0 := ⟨(by decide +kernel), lk_592, lk_86, ⟨(by decide +kernel), (by decide +kernel), (by decide +kernel)⟩, by decide⟩
theorem mk_X4_apart : zMok m_X4_apart 0 := ⟨(by decide +kernel), lk_619, lk_86, ⟨(by decide +kernel), (by decide +kernel), (by decide +kernel)⟩, by decide⟩
theorem mk_X4_leastByCell : zMok m_X4_leastByCell 4 := ⟨(by decide +kernel), lk_627, lk_86, ⟨(by decide +kernel), (by decide +kernel), (by decide +kernel)⟩, by decide⟩
theorem mk_X4_fitting : zMok m_X4_fitting 3 := ⟨(by decide +kernel), lk_667, lk_86, ⟨(by decide +kernel), (by decide +kernel), (by decide +kernel)⟩, by decide⟩
theorem mk_X4_fittingTexts : zMok m_X4_fittingTexts 2 := ⟨(by decide +kernel), lk_678, lk_86, ⟨(by decide +kernel), (by decide +kernel), (by decide +kernel)⟩, by decide⟩
theorem mk_X5_init : zMok m_X5_init 0 := ⟨(by decide +kernel), lk_122, lk_87, ⟨(by decide +kernel), (by decide +kernel), (by decide +kernel)⟩, by decide⟩
theorem mk_X5_read : zMok m_X5_read 1 := ⟨(by decide +kernel), lk_358, lk_87, ⟨(by decide +kernel), (by decide +kernel), (by decide +kernel)⟩, by decide⟩
theorem mk_X5_write : zMok m_X5_write 2 := ⟨(by decide +kernel), lk_370, lk_87, ⟨(by decide +kernel), (by decide +kernel), (by decide +kernel)⟩, by decide⟩
theorem mk_X5_reach : zMok m_X5_reach 1 := ⟨(by decide +kernel), lk_556, lk_87, ⟨(by decide +kernel), (by decide +kernel), (by decide +kernel)⟩, by decide⟩
theorem mk_X5_owed : zMok m_X5_owed 2 := ⟨(by decide +kernel), lk_561, lk_87, ⟨(by decide +kernel), (by decide +kernel), (by decide +kernel)⟩, by decide⟩
theorem mk_X5_hides : zMok m_X5_hides 0 := ⟨(by decide +kernel), lk_362, lk_87, ⟨(by decide +kernel), (by decide +kernel), (by decide +kernel)⟩, by decide⟩
theorem mk_X5_isUnder : zMok m_X5_isUnder 1 := ⟨(by decide +kernel), lk_773, lk_87, ⟨(by decide +kernel), (by decide +kernel), (by decide +kernel)⟩, by decide⟩
theorem mk_X6_init : zMok m_X6_init 0 := ⟨(by decide +kernel), lk_105, lk_85, ⟨(by decide +kernel), (by decide +kernel), (by decide +kernel)⟩, by decide⟩
theorem mk_X6_set : zMok m_X6_set 3 := ⟨(by decide +kernel), lk_338, lk_85, ⟨(by decide +kernel), (by decide +kernel), (by decide +kernel)⟩, by decide⟩
theorem mk_X6_thing : zMok m_X6_thing 3 := ⟨(by decide +kernel), lk_374, lk_85, ⟨(by decide +kernel), (by decide +kernel), (by decide +kernel)⟩, by decide⟩
theorem mk_X6_told : zMok m_X6_told 2 := ⟨(by decide +kernel), lk_382, lk_85, ⟨(by decide +kernel), (by decide +kernel), (by decide +kernel)⟩, by decide⟩
theorem mk_X6_feed : zMok m_X6_feed 1 := ⟨(by decide +kernel), lk_386, lk_85, ⟨(by decide +kernel), (by decide +kernel), (by decide +kernel)⟩, by decide⟩
theorem mk_X6_text : zMok m_X6_text 0 := ⟨(by decide +kernel), lk_394, lk_85, ⟨(by decide +kernel), (by decide +kernel), (by decide +kernel)⟩, by decide⟩
theorem mk_X6_force : zMok m_X6_force 1 := ⟨(by decide +kernel), lk_514, lk_85, ⟨(by decide +kernel), (by decide +kernel), (by decide +kernel)⟩, by decide⟩
theorem mk_X6_hour : zMok m_X6_hour 3 := ⟨(by decide +kernel), lk_518, lk_85, ⟨(by decide +kernel), (by decide +kernel), (by decide +kernel)⟩, by decide⟩
theorem mk_X6_takes : zMok m_X6_takes 1 := ⟨(by decide +kernel), lk_588, lk_85, ⟨(by decide +kernel), (by decide +kernel), (by decide +kernel)⟩, by decide⟩
theorem mk_X6_dark : zMok m_X6_dark 1 := ⟨(by decide +kernel), lk_603, lk_85, ⟨(by decide +kernel), (by decide +kernel), (by decide +kernel)⟩, by decide⟩
theorem mk_X6_hours : zMok m_X6_hours 1 := ⟨(by decide +kernel), lk_607, lk_85, ⟨(by decide +kernel), (by decide +kernel), (by decide +kernel)⟩, by decide⟩
theorem mk_X6_mostHour : zMok m_X6_mostHour 1 := ⟨(by decide +kernel), lk_611, lk_85, ⟨(by decide +kernel), (by decide +kernel), (by decide +kernel)⟩, by decide⟩
theorem mk_X6_fairestHour : zMok m_X6_fairestHour 1 := ⟨(by decide +kernel), lk_615, lk_85, ⟨(by decide +kernel), (by decide +kernel), (by decide +kernel)⟩, by decide⟩
theorem mk_X6_best : zMok m_X6_best 3 := ⟨(by decide +kernel), lk_623, lk_85, ⟨(by decide +kernel), (by decide +kernel), (by decide +kernel)⟩, by decide⟩
theorem mk_X6_place : zMok m_X6_place 3 := ⟨(by decide +kernel), lk_631, lk_85, ⟨(by decide +kernel), (by decide +kernel), (by decide +kernel)⟩, by decide⟩
theorem mk_X6_shade : zMok m_X6_shade 3 := ⟨(by decide +kernel), lk_635, lk_85, ⟨(by decide +kernel), (by decide +kernel), (by decide +kernel)⟩, by decide⟩
theorem mk_X6_send : zMok m_X6_send 2 := ⟨(by decide +kernel), lk_643, lk_85, ⟨(by decide +kernel), (by decide +kernel), (by decide +kernel)⟩, by decide⟩
theorem mk_X6_tells : zMok m_X6_tells 3 := ⟨(by decide +kernel), lk_647, lk_85, ⟨(by decide +kernel), (by decide +kernel), (by decide +kernel)⟩, by decide⟩
theorem mk_X6_firstOtherwise : zMok m_X6_firstOtherwise 2 := ⟨(by decide +kernel), lk_659, lk_85, ⟨(by decide +kernel), (by decide +kernel), (by decide +kernel)⟩, by decide⟩
theorem mk_X6_fittingClouds : zMok m_X6_fittingClouds 2 := ⟨(by decide +kernel), lk_674, lk_85, ⟨(by decide +kernel), (by decide +kernel), (by decide +kernel)⟩, by decide⟩
theorem mk_X6_film : zMok m_X6_film 2 := ⟨(by decide +kernel), lk_682, lk_85, ⟨(by decide +kernel), (by decide +kernel), (by decide +kernel)⟩, by decide⟩
theorem mk_X6_drawn : zMok m_X6_drawn 1 := ⟨(by decide +kernel), lk_697, lk_85, ⟨(by decide +kernel), (by decide +kernel), (by decide +kernel)⟩, by decide⟩
theorem mk_X6_chance : zMok m_X6_chance 4 := ⟨(by decide +kernel), lk_710, lk_85, ⟨(by decide +kernel), (by decide +kernel), (by decide +kernel)⟩, by decide⟩
theorem mk_X6_lookWithoutClouds : zMok m_X6_lookWithoutClouds 0 := ⟨(by decide +kernel), lk_701, lk_85, ⟨(by decide +kernel), (by decide +kernel), (by decide +kernel)⟩, by decide⟩
theorem mk_X6_dueBySeed : zMok m_X6_dueBySeed 1 := ⟨(by decide +kernel), lk_705, lk_85, ⟨(by decide +kernel), (by decide +kernel), (by decide +kernel)⟩, by decide⟩
theorem mk_X6_commonDivisor : zMok m_X6_commonDivisor 2 := ⟨(by decide +kernel), lk_715, lk_85, ⟨(by decide +kernel), (by decide +kernel), (by decide +kernel)⟩, by decide⟩
theorem mk_X6_image : zMok m_X6_image 0 := ⟨(by decide +kernel), lk_719, lk_85, ⟨(by decide +kernel), (by decide +kernel), (by decide +kernel)⟩, by decide⟩
theorem mk_X6_back : zMok m_X6_back 0 := ⟨(by decide +kernel), lk_727, lk_85, ⟨(by decide +kernel), (by decide +kernel), (by decide +kernel)⟩, by decide⟩
theorem mk_X6_count : zMok m_X6_count 1 := ⟨(by decide +kernel), lk_735, lk_85, ⟨(by decide +kernel), (by decide +kernel), (by decide +kernel)⟩, by decide⟩
theorem mk_X6_sheet : zMok m_X6_sheet 3 := ⟨(by decide +kernel), lk_745, lk_85, ⟨(by decide +kernel), (by decide +kernel), (by decide +kernel)⟩, by decide⟩
theorem mk_X6_cell : zMok m_X6_cell 3 := ⟨(by decide +kernel), lk_749, lk_85, ⟨(by decide +kernel), (by decide +kernel), (by decide +kernel)⟩, by decide⟩
theorem mk_X6_copy : zMok m_X6_copy 5 := ⟨(by decide +kernel), lk_757, lk_85, ⟨(by decide +kernel), (by decide +kernel), (by decide +kernel)⟩, by decide⟩
theorem mk_X6_things : zMok m_X6_things 4 := ⟨(by decide +kernel), lk_764, lk_85, ⟨(by decide +kernel), (by decide +kernel), (by decide +kernel)⟩, by decide⟩
theorem mk_X6_taken : zMok m_X6_taken 2 := ⟨(by decide +kernel), lk_769, lk_85, ⟨(by decide +kernel), (by decide +kernel), (by decide +kernel)⟩, by decide⟩
theorem mk_X6_fits : zMok m_X6_fits 2 := ⟨(by decide +kernel), lk_341, lk_85, ⟨(by decide +kernel), (by decide +kernel), (by decide +kernel)⟩, by decide⟩
theorem mk_X6_isHour : zMok m_X6_isHour 1 := ⟨(by decide +kernel), lk_521, lk_85, ⟨(by decide +kernel), (by decide +kernel), (by decide +kernel)⟩, by decide⟩
theorem mk_X6_isSheet : zMok m_X6_isSheet 1 := ⟨(by decide +kernel), lk_651, lk_85, ⟨(by decide +kernel), (by decide +kernel), (by decide +kernel)⟩, by decide⟩
theorem mk_X6_bounded : zMok m_X6_bounded 2 := ⟨(by decide +kernel), lk_546, lk_85, ⟨(by decide +kernel), (by decide +kernel), (by decide +kernel)⟩, by decide⟩
theorem mk_X6_bits : zMok m_X6_bits 2 := ⟨(by decide +kernel), lk_578, lk_85, ⟨(by decide +kernel), (by decide +kernel), (by decide +kernel)⟩, by decide⟩
theorem mk_X7_in : zMok m_X7_in 3 := ⟨(by decide +kernel), lk_923, lk_92, ⟨(by decide +kernel), (by decide +kernel), (by decide +kernel)⟩, by decide⟩
theorem mk_X7_within : zMok m_X7_within 3 := ⟨(by decide +kernel), lk_1186, lk_92, ⟨(by decide +kernel), (by decide +kernel), (by decide +kernel)⟩, by decide⟩
theorem mk_X7_init : zMok m_X7_init 0 := ⟨(by decide +kernel), lk_780, lk_92, ⟨(by decide +kernel), (by decide +kernel), (by decide +kernel)⟩, by decide⟩
theorem mk_X7_spell : zMok m_X7_spell 9 := ⟨(by decide +kernel), lk_785, lk_92, ⟨(by decide +kernel), (by decide +kernel), (by decide +kernel)⟩, by decide⟩
theorem mk_X7_isThing : zMok m_X7_isThing 1 := ⟨(by decide +kernel), lk_927, lk_92, ⟨(by decide +kernel), (by decide +kernel), (by decide +kernel)⟩, by decide⟩
theorem mk_X7_isHour : zMok m_X7_isHour 1 := ⟨(by decide +kernel), lk_1161, lk_92, ⟨(by decide +kernel), (by decide +kernel), (by decide +kernel)⟩, by decide⟩
theorem mk_X7_leastOf : zMok m_X7_leastOf 1 := ⟨(by decide +kernel), lk_930, lk_92, ⟨(by decide +kernel), (by decide +kernel), (by decide +kernel)⟩, by decide⟩
theorem mk_X7_mostOf : zMok m_X7_mostOf 1 := ⟨(by decide +kernel), lk_933, lk_92, ⟨(by decide +kernel), (by decide +kernel), (by decide +kernel)⟩, by decide⟩
theorem mk_X7_set : zMok m_X7_set 3 := ⟨(by decide +kernel), lk_919, lk_92, ⟨(by decide +kernel), (by decide +kernel), (by decide +kernel)⟩, by decide⟩
theorem mk_X7_lays : zMok m_X7_lays 3 := ⟨(by decide +kernel), lk_942, lk_92, ⟨(by decide +kernel), (by decide +kernel), (by decide +kernel)⟩, by decide⟩
theorem mk_X7_thing : zMok m_X7_thing 3 := ⟨(by decide +kernel), lk_946, lk_92, ⟨(by decide +kernel), (by decide +kernel), (by decide +kernel)⟩, by decide⟩
theorem mk_X7_told : zMok m_X7_told 2 := ⟨(by decide +kernel), lk_937, lk_92, ⟨(by decide +kernel), (by decide +kernel), (by decide +kernel)⟩, by decide⟩
theorem mk_X7_feed : zMok m_X7_feed 1 := ⟨(by decide +kernel), lk_954, lk_92, ⟨(by decide +kernel), (by decide +kernel), (by decide +kernel)⟩, by decide⟩
theorem mk_X7_byteAt : zMok m_X7_byteAt 1 := ⟨(by decide +kernel), lk_971, lk_92, ⟨(by decide +kernel), (by decide +kernel), (by decide +kernel)⟩, by decide⟩
theorem mk_X7_next : zMok m_X7_next 0 := ⟨(by decide +kernel), lk_967, lk_92, ⟨(by decide +kernel), (by decide +kernel), (by decide +kernel)⟩, by decide⟩
theorem mk_X7_fail : zMok m_X7_fail 0 := ⟨(by decide +kernel), lk_992, lk_92, ⟨(by decide +kernel), (by decide +kernel), (by decide +kernel)⟩, by decide⟩
theorem mk_X7_isLetter : zMok m_X7_isLetter 2 := ⟨(by decide +kernel), lk_984, lk_92, ⟨(by decide +kernel), (by decide +kernel), (by decide +kernel)⟩, by decide⟩
theorem mk_X7_isWord : zMok m_X7_isWord 8 := ⟨(by decide +kernel), lk_980, lk_92, ⟨(by decide +kernel), (by decide +kernel), (by decide +kernel)⟩, by decide⟩
theorem mk_X7_isSign : zMok m_X7_isSign 1 := ⟨(by decide +kernel), lk_1044, lk_92, ⟨(by decide +kernel), (by decide +kernel), (by decide +kernel)⟩, by decide⟩
theorem mk_X7_opens : zMok m_X7_opens 0 := ⟨(by decide +kernel), lk_1008, lk_92, ⟨(by decide +kernel), (by decide +kernel), (by decide +kernel)⟩, by decide⟩
theorem mk_X7_name : zMok m_X7_name 0 := ⟨(by decide +kernel), lk_1048, lk_92, ⟨(by decide +kernel), (by decide +kernel), (by decide +kernel)⟩, by decide⟩
theorem mk_X7_atom5 : zMok m_X7_atom5 0 := ⟨(by decide +kernel), lk_1040, lk_92, ⟨(by decide +kernel), (by decide +kernel), (by decide +kernel)⟩, by decide⟩
theorem mk_X7_term5 : zMok m_X7_term5 0 := ⟨(by decide +kernel), lk_1036, lk_92, ⟨(by decide +kernel), (by decide +kernel), (by decide +kernel)⟩, by decide⟩
theorem mk_X7_added5 : zMok m_X7_added5 0 := ⟨(by decide +kernel), lk_1032, lk_92, ⟨(by decide +kernel), (by decide +kernel), (by decide +kernel)⟩, by decide⟩
theorem mk_X7_not5 : zMok m_X7_not5 0 := ⟨(by decide +kernel), lk_1028, lk_92, ⟨(by decide +kernel), (by decide +kernel), (by decide +kernel)⟩, by decide⟩
theorem mk_X7_both5 : zMok m_X7_both5 0 := ⟨(by decide +kernel), lk_1070, lk_92, ⟨(by decide +kernel), (by decide +kernel), (by decide +kernel)⟩, by decide⟩
theorem mk_X7_either5 : zMok m_X7_either5 0 := ⟨(by decide +kernel), lk_1066, lk_92, ⟨(by decide +kernel), (by decide +kernel), (by decide +kernel)⟩, by decide⟩
theorem mk_X7_atom4 : zMok m_X7_atom4 0 := ⟨(by decide +kernel), lk_1062, lk_92, ⟨(by decide +kernel), (by decide +kernel), (by decide +kernel)⟩, by decide⟩
theorem mk_X7_term4 : zMok m_X7_term4 0 := ⟨(by decide +kernel), lk_1058, lk_92, ⟨(by decide +kernel), (by decide +kernel), (by decide +kernel)⟩, by decide⟩
theorem mk_X7_added4 : zMok m_X7_added4 0 := ⟨(by decide +kernel), lk_1054, lk_92, ⟨(by decide +kernel), (by decide +kernel), (by decide +kernel)⟩, by decide⟩
theorem mk_X7_not4 : zMok m_X7_not4 0 := ⟨(by decide +kernel), lk_1024, lk_92, ⟨(by decide +kernel), (by decide +kernel), (by decide +kernel)⟩, by decide⟩
theorem mk_X7_both4 : zMok m_X7_both4 0 := ⟨(by decide +kernel), lk_1090, lk_92, ⟨(by decide +kernel), (by decide +kernel), (by decide +kernel)⟩, by decide⟩
theorem mk_X7_either4 : zMok m_X7_either4 0 := ⟨(by decide +kernel), lk_1086, lk_92, ⟨(by decide +kernel), (by decide +kernel), (by decide +kernel)⟩, by decide⟩
theorem mk_X7_atom3 : zMok m_X7_atom3 0 := ⟨(by decide +kernel), lk_1082, lk_92, ⟨(by decide +kernel), (by decide +kernel), (by decide +kernel)⟩, by decide⟩
theorem mk_X7_term3 : zMok m_X7_term3 0 := ⟨(by decide +kernel), lk_1078, lk_92, ⟨(by decide +kernel), (by decide +kernel), (by decide +kernel)⟩, by decide⟩
theorem mk_X7_added3 : zMok m_X7_added3 0 := ⟨(by decide +kernel), lk_1074, lk_92, ⟨(by decide +kernel), (by decide +kernel), (by decide +kernel)⟩, by decide⟩
theorem mk_X7_not3 : zMok m_X7_not3 0 := ⟨(by decide +kernel), lk_1020, lk_92, ⟨(by decide +kernel), (by decide +kernel), (by decide +kernel)⟩, by decide⟩
theorem mk_X7_both3 : zMok m_X7_both3 0 := ⟨(by decide +kernel), lk_1110, lk_92, ⟨(by decide +kernel), (by decide +kernel), (by decide +kernel)⟩, by decide⟩
theorem mk_X7_either3 : zMok m_X7_either3 0 := ⟨(by decide +kernel), lk_1106, lk_92, ⟨(by decide +kernel), (by decide +kernel), (by decide +kernel)⟩, by decide⟩
theorem mk_X7_atom2 : zMok m_X7_atom2 0 := ⟨(by decide +kernel), lk_1102, lk_92, ⟨(by decide +kernel), (by decide +kernel), (by decide +kernel)⟩, by decide⟩
theorem mk_X7_term2 : zMok m_X7_term2 0 := ⟨(by decide +kernel), lk_1098, lk_92, ⟨(by decide +kernel), (by decide +kernel), (by decide +kernel)⟩, by decide⟩
theorem mk_X7_added2 : zMok m_X7_added2 0 := ⟨(by decide +kernel), lk_1094, lk_92, ⟨(by decide +kernel), (by decide +kernel), (by decide +kernel)⟩, by decide⟩
theorem mk_X7_not2 : zMok m_X7_not2 0 := ⟨(by decide +kernel), lk_1016, lk_92, ⟨(by decide +kernel), (by decide +kernel), (by decide +kernel)⟩, by decide⟩
theorem mk_X7_both2 : zMok m_X7_both2 0 := ⟨(by decide +kernel), lk_1130, lk_92, ⟨(by decide +kernel), (by decide +kernel), (by decide +kernel)⟩, by decide⟩
theorem mk_X7_either2 : zMok m_X7_either2 0 := ⟨(by decide +kernel), lk_1126, lk_92, ⟨(by decide +kernel), (by decide +kernel), (by decide +kernel)⟩, by decide⟩
theorem mk_X7_atom1 : zMok m_X7_atom1 0 := ⟨(by decide +kernel), lk_1122, lk_92, ⟨(by decide +kernel), (by decide +kernel), (by decide +kernel)⟩, by decide⟩
theorem mk_X7_term1 : zMok m_X7_term1 0 := ⟨(by decide +kernel), lk_1118, lk_92, ⟨(by decide +kernel), (by decide +kernel), (by decide +kernel)⟩, by decide⟩
theorem mk_X7_added1 : zMok m_X7_added1 0 := ⟨(by decide +kernel), lk_1114, lk_92, ⟨(by decide +kernel), (by decide +kernel), (by decide +kernel)⟩, by decide⟩
theorem mk_X7_not1 : zMok m_X7_not1 0 := ⟨(by decide +kernel), lk_1012, lk_92, ⟨(by decide +kernel), (by decide +kernel), (by decide +kernel)⟩, by decide⟩
theorem mk_X7_both1 : zMok m_X7_both1 0 := ⟨(by decide +kernel), lk_1150, lk_92, ⟨(by decide +kernel), (by decide +kernel), (by decide +kernel)⟩, by decide⟩
theorem mk_X7_either1 : zMok m_X7_either1 0 := ⟨(by decide +kernel), lk_1146, lk_92, ⟨(by decide +kernel), (by decide +kernel), (by decide +kernel)⟩, by decide⟩
theorem mk_X7_atom0 : zMok m_X7_atom0 0 := ⟨(by decide +kernel), lk_1142, lk_92, ⟨(by decide +kernel), (by decide +kernel), (by decide +kernel)⟩, by decide⟩
theorem mk_X7_term0 : zMok m_X7_term0 0 := ⟨(by decide +kernel), lk_1138, lk_92, ⟨(by decide +kernel), (by decide +kernel), (by decide +kernel)⟩, by decide⟩
theorem mk_X7_added0 : zMok m_X7_added0 0 := ⟨(by decide +kernel), lk_1134, lk_92, ⟨(by decide +kernel), (by decide +kernel), (by decide +kernel)⟩, by decide⟩
theorem mk_X7_not0 : zMok m_X7_not0 0 := ⟨(by decide +kernel), lk_1004, lk_92, ⟨(by decide +kernel), (by decide +kernel), (by decide +kernel)⟩, by decide⟩
theorem mk_X7_both0 : zMok m_X7_both0 0 := ⟨(by decide +kernel), lk_1000, lk_92, ⟨(by decide +kernel), (by decide +kernel), (by decide +kernel)⟩, by decide⟩
theorem mk_X7_either0 : zMok m_X7_either0 0 := ⟨(by decide +kernel), lk_996, lk_92, ⟨(by decide +kernel), (by decide +kernel), (by decide +kernel)⟩, by decide⟩
theorem mk_X7_part : zMok m_X7_part 1 := ⟨(by decide +kernel), lk_988, lk_92, ⟨(by decide +kernel), (by decide +kernel), (by decide +kernel)⟩, by decide⟩
theorem mk_X7_read : zMok m_X7_read 2 := ⟨(by decide +kernel), lk_963, lk_92, ⟨(by decide +kernel), (by decide +kernel), (by decide +kernel)⟩, by decide⟩
theorem mk_X7_text : zMok m_X7_text 0 := ⟨(by decide +kernel), lk_959, lk_92, ⟨(by decide +kernel), (by decide +kernel), (by decide +kernel)⟩, by decide⟩
theorem mk_X7_force : zMok m_X7_force 1 := ⟨(by decide +kernel), lk_1154, lk_92, ⟨(by decide +kernel), (by decide +kernel), (by decide +kernel)⟩, by decide⟩
theorem mk_X7_says : zMok m_X7_says 4 := ⟨(by decide +kernel), lk_1183, lk_92, ⟨(by decide +kernel), (by decide +kernel), (by decide +kernel)⟩, by decide⟩
theorem mk_X7_longOf : zMok m_X7_longOf 2 := ⟨(by decide +kernel), lk_1179, lk_92, ⟨(by decide +kernel), (by decide +kernel), (by decide +kernel)⟩, by decide⟩
theorem mk_X7_owesOf : zMok m_X7_owesOf 3 := ⟨(by decide +kernel), lk_1190, lk_92, ⟨(by decide +kernel), (by decide +kernel), (by decide +kernel)⟩, by decide⟩
theorem mk_X7_isDull : zMok m_X7_isDull 1 := ⟨(by decide +kernel), lk_1171, lk_92, ⟨(by decide +kernel), (by decide +kernel), (by decide +kernel)⟩, by decide⟩
theorem mk_X7_shadow : zMok m_X7_shadow 3 := ⟨(by decide +kernel), lk_1193, lk_92, ⟨(by decide +kernel), (by decide +kernel), (by decide +kernel)⟩, by decide⟩
theorem mk_X7_stands : zMok m_X7_stands 3 := ⟨(by decide +kernel), lk_1175, lk_92, ⟨(by decide +kernel), (by decide +kernel), (by decide +kernel)⟩, by decide⟩
theorem mk_X7_gathers : zMok m_X7_gathers 1 := ⟨(by decide +kernel), lk_1167, lk_92, ⟨(by decide +kernel), (by decide +kernel), (by decide +kernel)⟩, by decide⟩
theorem mk_X7_takesAll : zMok m_X7_takesAll 1 := ⟨(by decide +kernel), lk_1205, lk_92, ⟨(by decide +kernel), (by decide +kernel), (by decide +kernel)⟩, by decide⟩
theorem mk_X7_takesDay : zMok m_X7_takesDay 0 := ⟨(by decide +kernel), lk_1201, lk_92, ⟨(by decide +kernel), (by decide +kernel), (by decide +kernel)⟩, by decide⟩
theorem mk_X7_dueOf : zMok m_X7_dueOf 2 := ⟨(by decide +kernel), lk_1230, lk_92, ⟨(by decide +kernel), (by decide +kernel), (by decide +kernel)⟩, by decide⟩
theorem mk_X7_hour : zMok m_X7_hour 3 := ⟨(by decide +kernel), lk_1158, lk_92, ⟨(by decide +kernel), (by decide +kernel), (by decide +kernel)⟩, by decide⟩
theorem mk_X7_takes : zMok m_X7_takes 1 := ⟨(by decide +kernel), lk_1197, lk_92, ⟨(by decide +kernel), (by decide +kernel), (by decide +kernel)⟩, by decide⟩
theorem mk_X7_dark : zMok m_X7_dark 1 := ⟨(by decide +kernel), lk_1209, lk_92, ⟨(by decide +kernel), (by decide +kernel), (by decide +kernel)⟩, by decide⟩
theorem mk_X7_apart : zMok m_X7_apart 1 := ⟨(by decide +kernel), lk_1218, lk_92, ⟨(by decide +kernel), (by decide +kernel), (by decide +kernel)⟩, by decide⟩
theorem mk_X7_hours : zMok m_X7_hours 1 := ⟨(by decide +kernel), lk_1213, lk_92, ⟨(by decide +kernel), (by decide +kernel), (by decide +kernel)⟩, by decide⟩
theorem mk_X7_seeks : zMok m_X7_seeks 3 := ⟨(by decide +kernel), lk_1226, lk_92, ⟨(by decide +kernel), (by decide +kernel), (by decide +kernel)⟩, by decide⟩
theorem mk_X7_best : zMok m_X7_best 3 := ⟨(by decide +kernel), lk_1222, lk_92, ⟨(by decide +kernel), (by decide +kernel), (by decide +kernel)⟩, by decide⟩
theorem mk_X7_place : zMok m_X7_place 3 := ⟨(by decide +kernel), lk_1234, lk_92, ⟨(by decide +kernel), (by decide +kernel), (by decide +kernel)⟩, by decide⟩
theorem mk_X7_shade : zMok m_X7_shade 3 := ⟨(by decide +kernel), lk_1238, lk_92, ⟨(by decide +kernel), (by decide +kernel), (by decide +kernel)⟩, by decide⟩
theorem mk_X7_send : zMok m_X7_send 2 := ⟨(by decide +kernel), lk_1242, lk_92, ⟨(by decide +kernel), (by decide +kernel), (by decide +kernel)⟩, by decide⟩
theorem mk_X7_firstOther : zMok m_X7_firstOther 2 := ⟨(by decide +kernel), lk_1253, lk_92, ⟨(by decide +kernel), (by decide +kernel), (by decide +kernel)⟩, by decide⟩
theorem mk_X7_cloudsBy : zMok m_X7_cloudsBy 2 := ⟨(by decide +kernel), lk_1257, lk_92, ⟨(by decide +kernel), (by decide +kernel), (by decide +kernel)⟩, by decide⟩
theorem mk_X7_tells : zMok m_X7_tells 3 := ⟨(by decide +kernel), lk_1246, lk_92, ⟨(by decide +kernel), (by decide +kernel), (by decide +kernel)⟩, by decide⟩
theorem mk_X7_film : zMok m_X7_film 2 := ⟨(by decide +kernel), lk_1261, lk_92, ⟨(by decide +kernel), (by decide +kernel), (by decide +kernel)⟩, by decide⟩
theorem mk_X7_takesBy : zMok m_X7_takesBy 1 := ⟨(by decide +kernel), lk_1274, lk_92, ⟨(by decide +kernel), (by decide +kernel), (by decide +kernel)⟩, by decide⟩
theorem mk_X7_drawn : zMok m_X7_drawn 1 := ⟨(by decide +kernel), lk_1270, lk_92, ⟨(by decide +kernel), (by decide +kernel), (by decide +kernel)⟩, by decide⟩
theorem mk_X7_chance : zMok m_X7_chance 4 := ⟨(by decide +kernel), lk_1279, lk_92, ⟨(by decide +kernel), (by decide +kernel), (by decide +kernel)⟩, by decide⟩
theorem mk_X7_image : zMok m_X7_image 0 := ⟨(by decide +kernel), lk_1286, lk_92, ⟨(by decide +kernel), (by decide +kernel), (by decide +kernel)⟩, by decide⟩
theorem mk_X7_back : zMok m_X7_back 0 := ⟨(by decide +kernel), lk_1290, lk_92, ⟨(by decide +kernel), (by decide +kernel), (by decide +kernel)⟩, by decide⟩
theorem mk_X7_count : zMok m_X7_count 1 := ⟨(by decide +kernel), lk_1294, lk_92, ⟨(by decide +kernel), (by decide +kernel), (by decide +kernel)⟩, by decide⟩
theorem mk_X7_isSheet : zMok m_X7_isSheet 1 := ⟨(by decide +kernel), lk_1249, lk_92, ⟨(by decide +kernel), (by decide +kernel), (by decide +kernel)⟩, by decide⟩
theorem mk_X7_sheet : zMok m_X7_sheet 3 := ⟨(by decide +kernel), lk_1265, lk_92, ⟨(by decide +kernel), (by decide +kernel), (by decide +kernel)⟩, by decide⟩
theorem mk_X7_cell : zMok m_X7_cell 3 := ⟨(by decide +kernel), lk_1299, lk_92, ⟨(by decide +kernel), (by decide +kernel), (by decide +kernel)⟩, by decide⟩
theorem mk_X7_copy : zMok m_X7_copy 5 := ⟨(by decide +kernel), lk_1303, lk_92, ⟨(by decide +kernel), (by decide +kernel), (by decide +kernel)⟩, by decide⟩
theorem mk_X7_things : zMok m_X7_things 4 := ⟨(by decide +kernel), lk_1307, lk_92, ⟨(by decide +kernel), (by decide +kernel), (by decide +kernel)⟩, by decide⟩
theorem mk_X7_over : zMok m_X7_over 1 := ⟨(by decide +kernel), lk_1316, lk_92, ⟨(by decide +kernel), (by decide +kernel), (by decide +kernel)⟩, by decide⟩
theorem mk_X7_taken : zMok m_X7_taken 2 := ⟨(by decide +kernel), lk_1313, lk_92, ⟨(by decide +kernel), (by decide +kernel), (by decide +kernel)⟩, by decide⟩
theorem mk_J6_bitCount_0f7a4 : zMok m_J6_bitCount_0f7a4 1 := ⟨(by decide +kernel), lk_738, lk_99, ⟨(by decide +kernel), (by decide +kernel), (by decide +kernel)⟩, by decide⟩
theorem mk_J0_length_8abf5 : zMok m_J0_length_8abf5 0 := ⟨(by decide +kernel), lk_419, lk_93, ⟨(by decide +kernel), (by decide +kernel), (by decide +kernel)⟩, by decide⟩
theorem mk_J0_charAt_5068e : zMok m_J0_charAt_5068e 1 := ⟨(by decide +kernel), lk_429, lk_93, ⟨(by decide +kernel), (by decide +kernel), (by decide +kernel)⟩, by decide⟩
theorem mk_J0_coder_7d493 : zMok m_J0_coder_7d493 0 := ⟨(by decide +kernel), lk_423, lk_93, ⟨(by decide +kernel), (by decide +kernel), (by decide +kernel)⟩, by decide⟩
theorem mk_J0_isLatin1_aae02 : zMok m_J0_isLatin1_aae02 0 := ⟨(by decide +kernel), lk_433, lk_93, ⟨(by decide +kernel), (by decide +kernel), (by decide +kernel)⟩, by decide⟩
theorem mk_J0_checkIndex_df160 : zMok m_J0_checkIndex_df160 2 := ⟨(by decide +kernel), lk_439, lk_93, ⟨(by decide +kernel), (by decide +kernel), (by decide +kernel)⟩, by decide⟩
theorem mk_J1_charAt_3b067 : zMok m_J1_charAt_3b067 2 := ⟨(by decide +kernel), lk_436, lk_94, ⟨(by decide +kernel), (by decide +kernel), (by decide +kernel)⟩, by decide⟩
theorem mk_J7_fill_53178 : zMok m_J7_fill_53178 2 := ⟨(by decide +kernel), lk_689, lk_98, ⟨(by decide +kernel), (by decide +kernel), (by decide +kernel)⟩, by decide⟩
theorem mk_J3_checkIndex_8e157 : zMok m_J3_checkIndex_8e157 3 := ⟨(by decide +kernel), lk_444, lk_95, ⟨(by decide +kernel), (by decide +kernel), (by decide +kernel)⟩, by decide⟩
end
section
/-! instruction tables of X5 (by gen.py) -/
def ct_X5_init : Nat → zOp := fun pc => bif Nat.blt pc 1 then (bif Nat.beq pc 0 then (o_lda 0 1) else o_bad) else (bif Nat.blt pc 4 then (bif Nat.beq pc 1 then o_oini else o_bad) else (bif Nat.beq pc 4 then o_vret else o_bad))
theorem ct_X5_init_ok : ∀ pc, zOk m_X5_init pc (ct_X5_init pc) := fun pc => (ok_b (ok_l (q := 0) (ok_aload_n (by decide +kernel : decode m_X5_init.2.1 0 = .ok (.aload_n 0, 1)))) (ok_b (ok_l (q := 1) (ok_oini (by decide +kernel : decode m_X5_init.2.1 1 = .ok (.invokespecial 3, 3)) lk_123)) (ok_l (q := 4) (ok_vret (by decide +kernel : decode m_X5_init.2.1 4 = .ok (.return_, 1)) rfl))))
def ct_X5_read : Nat → zOp := fun pc => bif Nat.blt pc 46 then (bif Nat.blt pc 37 then (bif Nat.blt pc 32 then (bif Nat.blt pc 1 then (bif Nat.beq pc 0 then (o_ldi 1 1) else o_bad) else (bif Nat.beq pc 1 then (o_tsw 52 2 5 [32, 37, 42, 47]) else o_bad)) else (bif Nat.blt pc 33 then (bif Nat.beq pc 32 then (o_lda 0 1) else o_bad) else (bif Nat.blt pc 36 then (bif Nat.beq pc 33 then (o_get 5 1) else o_bad) else (bif Nat.beq pc 36 then o_iret else o_bad)))) else (bif Nat.blt pc 41 then (bif Nat.blt pc 38 then (bif Nat.beq pc 37 then (o_lda 0 1) else o_bad) else (bif Nat.beq pc 38 then (o_get 5 2) else o_bad)) else (bif Nat.blt pc 42 then (bif Nat.beq pc 41 then o_iret else o_bad) else (bif Nat.blt pc 43 then (bif Nat.beq pc 42 then (o_lda 0 1) else o_bad) else (bif Nat.beq pc 43 then (o_get 5 3) else o_bad))))) else (bif Nat.blt pc 53 then (bif Nat.blt pc 48 then (bif Nat.blt pc 47 then (bif Nat.beq pc 46 then o_iret else o_bad) else (bif Nat.beq pc 47 then (o_lda 0 1) else o_bad)) else (bif Nat.blt pc 51 then (bif Nat.beq pc 48 then (o_get 5 0) else o_bad) else (bif Nat.blt pc 52 then (bif Nat.beq pc 51 then o_iret else o_bad) else (bif Nat.beq pc 52 then (o_lda 0 1) else o_bad)))) else (bif Nat.blt pc 60 then (bif Nat.blt pc 56 then (bif Nat.beq pc 53 then (o_cV m_X5_hides 0 5) else o_bad) else (bif Nat.blt pc 59 then (bif Nat.beq pc 56 then (o_if (fun x => x = 0) 63) else o_bad) else (bif Nat.beq pc 59 then (o_con (.int 1) 1) else o_bad))) else (bif Nat.blt pc 63 then (bif Nat.beq pc 60 then (o_goto 64) else o_bad) else (bif Nat.blt pc 64 then (bif Nat.beq pc 63 then (o_con (.int 0) 1) else o_bad) else (bif Nat.beq pc 64 then o_iret else o_bad)))))
theorem ct_X5_read_ok : ∀ pc, zOk m_X5_read pc (ct_X5_read pc) := fun pc => (ok_b (ok_b (ok_b (ok_b (ok_l (q := 0) (ok_iload_n (by decide +kernel : decode m_X5_read.2.1 0 = .ok (.iload_n 1, 1)))) (ok_l (q := 1) (ok_tsw (by decide +kernel : decode m_X5_read.2.1 1 = .ok (.tableswitch 51 2 5 #[31, 36, 41, 46], 31)) (by decide) (by decide +kernel) (by decide)))) (ok_b (ok_l (q := 32) (ok_aload_n (by decide +kernel : decode m_X5_read.2.1 32 = .ok (.aload_n 0, 1)))) (ok_b (ok_l (q := 33) (ok_get (T := TX5) (N := 4) (by decide +kernel : decode m_X5_read.2.1 33 = .ok (.getfield 9, 3)) rfl (by decide) lk_126)) (ok_l (q := 36) (ok_iret (by decide +kernel : decode m_X5_read.2.1 36 = .ok (.ireturn, 1)) rfl))))) (ok_b (ok_b (ok_l (q := 37) (ok_aload_n (by decide +kernel : decode m_X5_read.2.1 37 = .ok (.aload_n 0, 1)))) (ok_l (q := 38) (ok_get (T := TX5) (N := 4) (by decide +kernel : decode m_X5_read.2.1 38 = .ok (.getfield 15, 3)) rfl (by decide) lk_130))) (ok_b (ok_l (q := 41) (ok_iret (by decide +kernel : decode m_X5_read.2.1 41 = .ok (.ireturn, 1)) rfl)) (ok_b (ok_l (q := 42) (ok_aload_n (by decide +kernel : decode m_X5_read.2.1 42 = .ok (.aload_n 0, 1)))) (ok_l (q := 43) (ok_get (T := TX5) (N := 4) (by decide +kernel : decode m_X5_read.2.1 43 = .ok (.getfield 18, 3)) rfl (by decide) lk_133)))))) (ok_b (ok_b (ok_b (ok_l (q := 46) (ok_iret (by decide +kernel : decode m_X5_read.2.1 46 = .ok (.ireturn, 1)) rfl)) (ok_l (q := 47) (ok_aload_n (by decide +kernel : decode m_X5_read.2.1 47 = .ok (.aload_n 0, 1))))) (ok_b (ok_l (q := 48) (ok_get (T := TX5) (N := 4) (by decide +kernel : decode m_X5_read.2.1 48 = .ok (.getfield 21, 3)) rfl (by decide) lk_124)) (ok_b (ok_l (q := 51) (ok_iret (by decide +kernel : decode m_X5_read.2.1 51 = .ok (.ireturn, 1)) rfl)) (ok_l (q := 52) (ok_aload_n (by decide +kernel : decode m_X5_read.2.1 52 = .ok (.aload_n 0, 1))))))) (ok_b (ok_b (ok_l (q := 53) (ok_cV (T := TX5) (N := 4) rfl mk_X5_hides (by decide +kernel : decode m_X5_read.2.1 53 = .ok (.invokevirtual 24, 3)) lk_360 lk_361 lk_359)) (ok_b (ok_l (q := 56) (ok_if_eq (by decide +kernel : decode m_X5_read.2.1 56 = .ok (.ifCond .eq 7, 3)) (by decide))) (ok_l (q := 59) (ok_iconst (by decide +kernel : decode m_X5_read.2.1 59 = .ok (.iconst 1, 1)) (by decide +kernel))))) (ok_b (ok_l (q := 60) (ok_goto (by decide +kernel : decode m_X5_read.2.1 60 = .ok (.goto 4, 3)) (by decide))) (ok_b (ok_l (q := 63) (ok_iconst (by decide +kernel : decode m_X5_read.2.1 63 = .ok (.iconst 0, 1)) (by decide +kernel))) (ok_l (q := 64) (ok_iret (by decide +kernel : decode m_X5_read.2.1 64 = .ok (.ireturn, 1)) rfl)))))))
def ct_X5_write : Nat → zOp := fun pc => bif Nat.blt pc 45 then (bif Nat.blt pc 34 then (bif Nat.blt pc 32 then (bif Nat.blt pc 1 then (bif Nat.beq pc 0 then (o_ldi 1 1) else o_bad) else (bif Nat.beq pc 1 then (o_tsw 64 2 5 [32, 40, 48, 56]) else o_bad)) else (bif Nat.blt pc 33 then (bif Nat.beq pc 32 then (o_lda 0 1) else o_bad) else (bif Nat.beq pc 33 then (o_ldi 2 1) else o_bad))) else (bif Nat.blt pc 40 then (bif Nat.blt pc 37 then (bif Nat.beq pc 34 then (o_puti 5 1) else o_bad) else (bif Nat.beq pc 37 then (o_goto 64) else o_bad)) else (bif Nat.blt pc 41 then (bif Nat.beq pc 40 then (o_lda 0 1) else o_bad) else (bif Nat.blt pc 42 then (bif Nat.beq pc 41 then (o_ldi 2 1) else o_bad) else (bif Nat.beq pc 42 then (o_puti 5 2) else o_bad))))) else (bif Nat.blt pc 56 then (bif Nat.blt pc 49 then (bif Nat.blt pc 48 then (bif Nat.beq pc 45 then (o_goto 64) else o_bad) else (bif Nat.beq pc 48 then (o_lda 0 1) else o_bad)) else (bif Nat.blt pc 50 then (bif Nat.beq pc 49 then (o_ldi 2 1) else o_bad) else (bif Nat.blt pc 53 then (bif Nat.beq pc 50 then (o_puti 5 3) else o_bad) else (bif Nat.beq pc 53 then (o_goto 64) else o_bad)))) else (bif Nat.blt pc 58 then (bif Nat.blt pc 57 then (bif Nat.beq pc 56 then (o_lda 0 1) else o_bad) else (bif Nat.beq pc 57 then (o_ldi 2 1) else o_bad)) else (bif Nat.blt pc 61 then (bif Nat.beq pc 58 then (o_puti 5 0) else o_bad) else (bif Nat.blt pc 64 then (bif Nat.beq pc 61 then (o_goto 64) else o_bad) else (bif Nat.beq pc 64 then o_vret else o_bad)))))
theorem ct_X5_write_ok : ∀ pc, zOk m_X5_write pc (ct_X5_write pc) := fun pc => (ok_b (ok_b (ok_b (ok_b (ok_l (q := 0) (ok_iload_n (by decide +kernel : decode m_X5_write.2.1 0 = .ok (.iload_n 1, 1)))) (ok_l (q := 1) (ok_tsw (by decide +kernel : decode m_X5_write.2.1 1 = .ok (.tableswitch 63 2 5 #[31, 39, 47, 55], 31)) (by decide) (by decide +kernel) (by decide)))) (ok_b (ok_l (q := 32) (ok_aload_n (by decide +kernel : decode m_X5_write.2.1 32 = .ok (.aload_n 0, 1)))) (ok_l (q := 33) (ok_iload_n (by decide +kernel : decode m_X5_write.2.1 33 = .ok (.iload_n 2, 1)))))) (ok_b (ok_b (ok_l (q := 34) (ok_puti (T := TX5) (N := 4) (by decide +kernel : decode m_X5_write.2.1 34 = .ok (.putfield 9, 3)) rfl (by decide) lk_126 rfl rfl)) (ok_l (q := 37) (ok_goto (by decide +kernel : decode m_X5_write.2.1 37 = .ok (.goto 27, 3)) (by decide)))) (ok_b (ok_l (q := 40) (ok_aload_n (by decide +kernel : decode m_X5_write.2.1 40 = .ok (.aload_n 0, 1)))) (ok_b (ok_l (q := 41) (ok_iload_n (by decide +kernel : decode m_X5_write.2.1 41 = .ok (.iload_n 2, 1)))) (ok_l (q := 42) (ok_puti (T := TX5) (N := 4) (by decide +kernel : decode m_X5_write.2.1 42 = .ok (.putfield 15, 3)) rfl (by decide) lk_130 rfl rfl)))))) (ok_b (ok_b (ok_b (ok_l (q := 45) (ok_goto (by decide +kernel : decode m_X5_write.2.1 45 = .ok (.goto 19, 3)) (by decide))) (ok_l (q := 48) (ok_aload_n (by decide +kernel : decode m_X5_write.2.1 48 = .ok (.aload_n 0, 1))))) (ok_b (ok_l (q := 49) (ok_iload_n (by decide +kernel : decode m_X5_write.2.1 49 = .ok (.iload_n 2, 1)))) (ok_b (ok_l (q := 50) (ok_puti (T := TX5) (N := 4) (by decide +kernel : decode m_X5_write.2.1 50 = .ok (.putfield 18, 3)) rfl (by decide) lk_133 rfl rfl)) (ok_l (q := 53) (ok_goto (by decide +kernel : decode m_X5_write.2.1 53 = .ok (.goto 11, 3)) (by decide)))))) (ok_b (ok_b (ok_l (q := 56) (ok_aload_n (by decide +kernel : decode m_X5_write.2.1 56 = .ok (.aload_n 0, 1)))) (ok_l (q := 57) (ok_iload_n (by decide +kernel : decode m_X5_write.2.1 57 = .ok (.iload_n 2, 1))))) (ok_b (ok_l (q := 58) (ok_puti (T := TX5) (N := 4) (by decide +kernel : decode m_X5_write.2.1 58 = .ok (.putfield 21, 3)) rfl (by decide) lk_124 rfl rfl)) (ok_b (ok_l (q := 61) (ok_goto (by decide +kernel : decode m_X5_write.2.1 61 = .ok (.goto 3, 3)) (by decide))) (ok_l (q := 64) (ok_vret (by decide +kernel : decode m_X5_write.2.1 64 = .ok (.return_, 1)) rfl)))))))
def ct_X5_reach : Nat → zOp := fun pc => bif Nat.blt pc 68 then (bif Nat.blt pc 50 then (bif Nat.blt pc 8 then (bif Nat.blt pc 5 then (bif Nat.blt pc 1 then (bif Nat.beq pc 0 then (o_lda 0 1) else o_bad) else (bif Nat.blt pc 4 then (bif Nat.beq pc 1 then (o_get 5 2) else o_bad) else (bif Nat.beq pc 4 then (o_ldi 1 1) else o_bad))) else (bif Nat.blt pc 6 then (bif Nat.beq pc 5 then (o_ii fun x y => x * y) else o_bad) else (bif Nat.blt pc 7 then (bif Nat.beq pc 6 then (o_con (.int 4) 1) else o_bad) else (bif Nat.beq pc 7 then (o_iid fun x y => x / y) else o_bad)))) else (bif Nat.blt pc 13 then (bif Nat.blt pc 9 then (bif Nat.beq pc 8 then (o_st1i 2 1) else o_bad) else (bif Nat.blt pc 10 then (bif Nat.beq pc 9 then (o_lda 0 1) else o_bad) else (bif Nat.beq pc 10 then (o_get 5 0) else o_bad))) else (bif Nat.blt pc 48 then (bif Nat.beq pc 13 then (o_tsw 95 1 5 [48, 60, 67, 81, 90]) else o_bad) else (bif Nat.blt pc 49 then (bif Nat.beq pc 48 then (o_ldi 2 1) else o_bad) else (bif Nat.beq pc 49 then (o_lda 0 1) else o_bad))))) else (bif Nat.blt pc 60 then (bif Nat.blt pc 55 then (bif Nat.blt pc 53 then (bif Nat.beq pc 50 then (o_get 5 1) else o_bad) else (bif Nat.blt pc 54 then (bif Nat.beq pc 53 then (o_con (.int 3) 1) else o_bad) else (bif Nat.beq pc 54 then (o_iid fun x y => x - x / y * y) else o_bad))) else (bif Nat.blt pc 56 then (bif Nat.beq pc 55 then (o_ii fun x y => x - y) else o_bad) else (bif Nat.blt pc 57 then (bif Nat.beq pc 56 then (o_st1i 3 1) else o_bad) else (bif Nat.beq pc 57 then (o_goto 97) else o_bad)))) else (bif Nat.blt pc 63 then (bif Nat.blt pc 61 then (bif Nat.beq pc 60 then (o_ldi 2 1) else o_bad) else (bif Nat.blt pc 62 then (bif Nat.beq pc 61 then (o_con (.int 2) 1) else o_bad) else (bif Nat.beq pc 62 then (o_ii fun x y => x + y) else o_bad))) else (bif Nat.blt pc 64 then (bif Nat.beq pc 63 then (o_st1i 3 1) else o_bad) else (bif Nat.blt pc 67 then (bif Nat.beq pc 64 then (o_goto 97) else o_bad) else (bif Nat.beq pc 67 then (o_ldi 2 1) else o_bad)))))) else (bif Nat.blt pc 84 then (bif Nat.blt pc 76 then (bif Nat.blt pc 73 then (bif Nat.blt pc 69 then (bif Nat.beq pc 68 then (o_lda 0 1) else o_bad) else (bif Nat.blt pc 72 then (bif Nat.beq pc 69 then (o_get 5 1) else o_bad) else (bif Nat.beq pc 72 then (o_con (.int 3) 1) else o_bad))) else (bif Nat.blt pc 74 then (bif Nat.beq pc 73 then (o_iid fun x y => x - x / y * y) else o_bad) else (bif Nat.blt pc 75 then (bif Nat.beq pc 74 then (o_ii fun x y => x - y) else o_bad) else (bif Nat.beq pc 75 then (o_con (.int 2) 1) else o_bad)))) else (bif Nat.blt pc 81 then (bif Nat.blt pc 77 then (bif Nat.beq pc 76 then (o_iid fun x y => x / y) else o_bad) else (bif Nat.blt pc 78 then (bif Nat.beq pc 77 then (o_st1i 3 1) else o_bad) else (bif Nat.beq pc 78 then (o_goto 97) else o_bad))) else (bif Nat.blt pc 82 then (bif Nat.beq pc 81 then (o_con (.int 2) 1) else o_bad) else (bif Nat.blt pc 83 then (bif Nat.beq pc 82 then (o_ldi 2 1) else o_bad) else (bif Nat.beq pc 83 then (o_con (.int 2) 1) else o_bad))))) else (bif Nat.blt pc 92 then (bif Nat.blt pc 87 then (bif Nat.blt pc 85 then (bif Nat.beq pc 84 then (o_ii fun x y => x + y) else o_bad) else (bif Nat.blt pc 86 then (bif Nat.beq pc 85 then (o_ii fun x y => x * y) else o_bad) else (bif Nat.beq pc 86 then (o_st1i 3 1) else o_bad))) else (bif Nat.blt pc 90 then (bif Nat.beq pc 87 then (o_goto 97) else o_bad) else (bif Nat.blt pc 91 then (bif Nat.beq pc 90 then (o_con (.int 0) 1) else o_bad) else (bif Nat.beq pc 91 then (o_st1i 3 1) else o_bad)))) else (bif Nat.blt pc 97 then (bif Nat.blt pc 95 then (bif Nat.beq pc 92 then (o_goto 97) else o_bad) else (bif Nat.blt pc 96 then (bif Nat.beq pc 95 then (o_ldi 2 1) else o_bad) else (bif Nat.beq pc 96 then (o_st1i 3 1) else o_bad))) else (bif Nat.blt pc 100 then (bif Nat.blt pc 98 then (bif Nat.beq pc 97 then (o_ldi 3 1) else o_bad) else (bif Nat.beq pc 98 then (o_con (.int 29) 2) else o_bad)) else (bif Nat.blt pc 103 then (bif Nat.beq pc 100 then (o_cS m_X6_bounded 2) else o_bad) else (bif Nat.beq pc 103 then o_iret else o_bad))))))
theorem ct_X5_reach_ok : ∀ pc, zOk m_X5_reach pc (ct_X5_reach pc) := fun pc => (ok_b (ok_b (ok_b (ok_b (ok_b (ok_l (q := 0) (ok_aload_n (by decide +kernel : decode m_X5_reach.2.1 0 = .ok (.aload_n 0, 1)))) (ok_b (ok_l (q := 1) (ok_get (T := TX5) (N := 4) (by decide +kernel : decode m_X5_reach.2.1 1 = .ok (.getfield 15, 3)) rfl (by decide) lk_130)) (ok_l (q := 4) (ok_iload_n (by decide +kernel : decode m_X5_reach.2.1 4 = .ok (.iload_n 1, 1)))))) (ok_b (ok_l (q := 5) (ok_imul (by decide +kernel : decode m_X5_reach.2.1 5 = .ok (.imul, 1)))) (ok_b (ok_l (q := 6) (ok_iconst (by decide +kernel : decode m_X5_reach.2.1 6 = .ok (.iconst 4, 1)) (by decide +kernel))) (ok_l (q := 7) (ok_idiv (by decide +kernel : decode m_X5_reach.2.1 7 = .ok (.idiv, 1))))))) (ok_b (ok_b (ok_l (q := 8) (ok_istore_n (by decide +kernel : decode m_X5_reach.2.1 8 = .ok (.istore_n 2, 1)) (by decide))) (ok_b (ok_l (q := 9) (ok_aload_n (by decide +kernel : decode m_X5_reach.2.1 9 = .ok (.aload_n 0, 1)))) (ok_l (q := 10) (ok_get (T := TX5) (N := 4) (by decide +kernel : decode m_X5_reach.2.1 10 = .ok (.getfield 21, 3)) rfl (by decide) lk_124)))) (ok_b (ok_l (q := 13) (ok_tsw (by decide +kernel : decode m_X5_reach.2.1 13 = .ok (.tableswitch 82 1 5 #[35, 47, 54, 68, 77], 35)) (by decide) (by decide +kernel) (by decide))) (ok_b (ok_l (q := 48) (ok_iload_n (by decide +kernel : decode m_X5_reach.2.1 48 = .ok (.iload_n 2, 1)))) (ok_l (q := 49) (ok_aload_n (by decide +kernel : decode m_X5_reach.2.1 49 = .ok (.aload_n 0, 1)))))))) (ok_b (ok_b (ok_b (ok_l (q := 50) (ok_get (T := TX5) (N := 4) (by decide +kernel : decode m_X5_reach.2.1 50 = .ok (.getfield 9, 3)) rfl (by decide) lk_126)) (ok_b (ok_l (q := 53) (ok_iconst (by decide +kernel : decode m_X5_reach.2.1 53 = .ok (.iconst 3, 1)) (by decide +kernel))) (ok_l (q := 54) (ok_irem (by decide +kernel : decode m_X5_reach.2.1 54 = .ok (.irem, 1)))))) (ok_b (ok_l (q := 55) (ok_isub (by decide +kernel : decode m_X5_reach.2.1 55 = .ok (.isub, 1)))) (ok_b (ok_l (q := 56) (ok_istore_n (by decide +kernel : decode m_X5_reach.2.1 56 = .ok (.istore_n 3, 1)) (by decide))) (ok_l (q := 57) (ok_goto (by decide +kernel : decode m_X5_reach.2.1 57 = .ok (.goto 40, 3)) (by decide)))))) (ok_b (ok_b (ok_l (q := 60) (ok_iload_n (by decide +kernel : decode m_X5_reach.2.1 60 = .ok (.iload_n 2, 1)))) (ok_b (ok_l (q := 61) (ok_iconst (by decide +kernel : decode m_X5_reach.2.1 61 = .ok (.iconst 2, 1)) (by decide +kernel))) (ok_l (q := 62) (ok_iadd (by decide +kernel : decode m_X5_reach.2.1 62 = .ok (.iadd, 1)))))) (ok_b (ok_l (q := 63) (ok_istore_n (by decide +kernel : decode m_X5_reach.2.1 63 = .ok (.istore_n 3, 1)) (by decide))) (ok_b (ok_l (q := 64) (ok_goto (by decide +kernel : decode m_X5_reach.2.1 64 = .ok (.goto 33, 3)) (by decide))) (ok_l (q := 67) (ok_iload_n (by decide +kernel : decode m_X5_reach.2.1 67 = .ok (.iload_n 2, 1))))))))) (ok_b (ok_b (ok_b (ok_b (ok_l (q := 68) (ok_aload_n (by decide +kernel : decode m_X5_reach.2.1 68 = .ok (.aload_n 0, 1)))) (ok_b (ok_l (q := 69) (ok_get (T := TX5) (N := 4) (by decide +kernel : decode m_X5_reach.2.1 69 = .ok (.getfield 9, 3)) rfl (by decide) lk_126)) (ok_l (q := 72) (ok_iconst (by decide +kernel : decode m_X5_reach.2.1 72 = .ok (.iconst 3, 1)) (by decide +kernel))))) (ok_b (ok_l (q := 73) (ok_irem (by decide +kernel : decode m_X5_reach.2.1 73 = .ok (.irem, 1)))) (ok_b (ok_l (q := 74) (ok_isub (by decide +kernel : decode m_X5_reach.2.1 74 = .ok (.isub, 1)))) (ok_l (q := 75) (ok_iconst (by decide +kernel : decode m_X5_reach.2.1 75 = .ok (.iconst 2, 1)) (by decide +kernel)))))) (ok_b (ok_b (ok_l (q := 76) (ok_idiv (by decide +kernel : decode m_X5_reach.2.1 76 = .ok (.idiv, 1)))) (ok_b (ok_l (q := 77) (ok_istore_n (by decide +kernel : decode m_X5_reach.2.1 77 = .ok (.istore_n 3, 1)) (by decide))) (ok_l (q := 78) (ok_goto (by decide +kernel : decode m_X5_reach.2.1 78 = .ok (.goto 19, 3)) (by decide))))) (ok_b (ok_l (q := 81) (ok_iconst (by decide +kernel : decode m_X5_reach.2.1 81 = .ok (.iconst 2, 1)) (by decide +kernel))) (ok_b (ok_l (q := 82) (ok_iload_n (by decide +kernel : decode m_X5_reach.2.1 82 = .ok (.iload_n 2, 1)))) (ok_l (q := 83) (ok_iconst (by decide +kernel : decode m_X5_reach.2.1 83 = .ok (.iconst 2, 1)) (by decide +kernel))))))) (ok_b (ok_b (ok_b (ok_l (q := 84) (ok_iadd (by decide +kernel : decode m_X5_reach.2.1 84 = .ok (.iadd, 1)))) (ok_b (ok_l (q := 85) (ok_imul (by decide +kernel : decode m_X5_reach.2.1 85 = .ok (.imul, 1)))) (ok_l (q := 86) (ok_istore_n (by decide +kernel : decode m_X5_reach.2.1 86 = .ok (.istore_n 3, 1)) (by decide))))) (ok_b (ok_l (q := 87) (ok_goto (by decide +kernel : decode m_X5_reach.2.1 87 = .ok (.goto 10, 3)) (by decide))) (ok_b (ok_l (q := 90) (ok_iconst (by decide +kernel : decode m_X5_reach.2.1 90 = .ok (.iconst 0, 1)) (by decide +kernel))) (ok_l (q := 91) (ok_istore_n (by decide +kernel : decode m_X5_reach.2.1 91 = .ok (.istore_n 3, 1)) (by decide)))))) (ok_b (ok_b (ok_l (q := 92) (ok_goto (by decide +kernel : decode m_X5_reach.2.1 92 = .ok (.goto 5, 3)) (by decide))) (ok_b (ok_l (q := 95) (ok_iload_n (by decide +kernel : decode m_X5_reach.2.1 95 = .ok (.iload_n 2, 1)))) (ok_l (q := 96) (ok_istore_n (by decide +kernel : decode m_X5_reach.2.1 96 = .ok (.istore_n 3, 1)) (by decide))))) (ok_b (ok_b (ok_l (q := 97) (ok_iload_n (by decide +kernel : decode m_X5_reach.2.1 97 = .ok (.iload_n 3, 1)))) (ok_l (q := 98) (ok_bipush (by decide +kernel : decode m_X5_reach.2.1 98 = .ok (.bipush 29, 2)) (by decide +kernel)))) (ok_b (ok_l (q := 100) (ok_cSN (host := "ShadowTax") mk_X6_bounded (by decide +kernel : decode m_X5_reach.2.1 100 = .ok (.invokestatic 28, 3)) lk_545 (by decide +kernel))) (ok_l (q := 103) (ok_iret (by decide +kernel : decode m_X5_reach.2.1 103 = .ok (.ireturn, 1)) rfl))))))))
def ct_X5_owed : Nat → zOp := fun pc => bif Nat.blt pc 74 then (bif Nat.blt pc 52 then (bif Nat.blt pc 5 then (bif Nat.blt pc 2 then (bif Nat.blt pc 1 then (bif Nat.beq pc 0 then (o_ldi 1 1) else o_bad) else (bif Nat.beq pc 1 then (o_ldi 2 1) else o_bad)) else (bif Nat.blt pc 3 then (bif Nat.beq pc 2 then (o_ii fun x y => x * y) else o_bad) else (bif Nat.blt pc 4 then (bif Nat.beq pc 3 then (o_st1i 3 1) else o_bad) else (bif Nat.beq pc 4 then (o_lda 0 1) else o_bad)))) else (bif Nat.blt pc 45 then (bif Nat.blt pc 8 then (bif Nat.beq pc 5 then (o_get 5 0) else o_bad) else (bif Nat.blt pc 44 then (bif Nat.beq pc 8 then (o_tsw 106 1 5 [44, 57, 65, 87, 100]) else o_bad) else (bif Nat.beq pc 44 then (o_ldi 3 1) else o_bad))) else (bif Nat.blt pc 46 then (bif Nat.beq pc 45 then (o_lda 0 1) else o_bad) else (bif Nat.blt pc 49 then (bif Nat.beq pc 46 then (o_get 5 1) else o_bad) else (bif Nat.beq pc 49 then o_mmin else o_bad))))) else (bif Nat.blt pc 62 then (bif Nat.blt pc 58 then (bif Nat.blt pc 54 then (bif Nat.beq pc 52 then (o_st1i 4 2) else o_bad) else (bif Nat.blt pc 57 then (bif Nat.beq pc 54 then (o_goto 109) else o_bad) else (bif Nat.beq pc 57 then (o_con (.int 2) 1) else o_bad))) else (bif Nat.blt pc 59 then (bif Nat.beq pc 58 then (o_ldi 3 1) else o_bad) else (bif Nat.blt pc 60 then (bif Nat.beq pc 59 then (o_ii fun x y => x * y) else o_bad) else (bif Nat.beq pc 60 then (o_st1i 4 2) else o_bad)))) else (bif Nat.blt pc 67 then (bif Nat.blt pc 65 then (bif Nat.beq pc 62 then (o_goto 109) else o_bad) else (bif Nat.blt pc 66 then (bif Nat.beq pc 65 then (o_ldi 1 1) else o_bad) else (bif Nat.beq pc 66 then (o_con (.int 4) 1) else o_bad))) else (bif Nat.blt pc 70 then (bif Nat.beq pc 67 then (o_ic (fun x y => y ≤ x) 74) else o_bad) else (bif Nat.blt pc 71 then (bif Nat.beq pc 70 then (o_con (.int 0) 1) else o_bad) else (bif Nat.beq pc 71 then (o_goto 82) else o_bad)))))) else (bif Nat.blt pc 94 then (bif Nat.blt pc 84 then (bif Nat.blt pc 76 then (bif Nat.blt pc 75 then (bif Nat.beq pc 74 then (o_ldi 3 1) else o_bad) else (bif Nat.beq pc 75 then (o_lda 0 1) else o_bad)) else (bif Nat.blt pc 79 then (bif Nat.beq pc 76 then (o_get 5 1) else o_bad) else (bif Nat.blt pc 82 then (bif Nat.beq pc 79 then o_mmin else o_bad) else (bif Nat.beq pc 82 then (o_st1i 4 2) else o_bad)))) else (bif Nat.blt pc 89 then (bif Nat.blt pc 87 then (bif Nat.beq pc 84 then (o_goto 109) else o_bad) else (bif Nat.blt pc 88 then (bif Nat.beq pc 87 then (o_con (.int 2) 1) else o_bad) else (bif Nat.beq pc 88 then (o_ldi 3 1) else o_bad))) else (bif Nat.blt pc 90 then (bif Nat.beq pc 89 then (o_ii fun x y => x * y) else o_bad) else (bif Nat.blt pc 91 then (bif Nat.beq pc 90 then (o_lda 0 1) else o_bad) else (bif Nat.beq pc 91 then (o_get 5 1) else o_bad))))) else (bif Nat.blt pc 106 then (bif Nat.blt pc 100 then (bif Nat.blt pc 95 then (bif Nat.beq pc 94 then (o_ii fun x y => x - y) else o_bad) else (bif Nat.blt pc 97 then (bif Nat.beq pc 95 then (o_st1i 4 2) else o_bad) else (bif Nat.beq pc 97 then (o_goto 109) else o_bad))) else (bif Nat.blt pc 101 then (bif Nat.beq pc 100 then (o_ldi 2 1) else o_bad) else (bif Nat.blt pc 103 then (bif Nat.beq pc 101 then (o_st1i 4 2) else o_bad) else (bif Nat.beq pc 103 then (o_goto 109) else o_bad)))) else (bif Nat.blt pc 111 then (bif Nat.blt pc 107 then (bif Nat.beq pc 106 then (o_ldi 3 1) else o_bad) else (bif Nat.blt pc 109 then (bif Nat.beq pc 107 then (o_st1i 4 2) else o_bad) else (bif Nat.beq pc 109 then (o_ldi 4 2) else o_bad))) else (bif Nat.blt pc 114 then (bif Nat.beq pc 111 then (o_con (.int 9999) 3) else o_bad) else (bif Nat.blt pc 117 then (bif Nat.beq pc 114 then (o_cS m_X6_bounded 2) else o_bad) else (bif Nat.beq pc 117 then o_iret else o_bad))))))
theorem ct_X5_owed_ok : ∀ pc, zOk m_X5_owed pc (ct_X5_owed pc) := fun pc => (ok_b (ok_b (ok_b (ok_b (ok_b (ok_l (q := 0) (ok_iload_n (by decide +kernel : decode m_X5_owed.2.1 0 = .ok (.iload_n 1, 1)))) (ok_l (q := 1) (ok_iload_n (by decide +kernel : decode m_X5_owed.2.1 1 = .ok (.iload_n 2, 1))))) (ok_b (ok_l (q := 2) (ok_imul (by decide +kernel : decode m_X5_owed.2.1 2 = .ok (.imul, 1)))) (ok_b (ok_l (q := 3) (ok_istore_n (by decide +kernel : decode m_X5_owed.2.1 3 = .ok (.istore_n 3, 1)) (by decide))) (ok_l (q := 4) (ok_aload_n (by decide +kernel : decode m_X5_owed.2.1 4 = .ok (.aload_n 0, 1))))))) (ok_b (ok_b (ok_l (q := 5) (ok_get (T := TX5) (N := 4) (by decide +kernel : decode m_X5_owed.2.1 5 = .ok (.getfield 21, 3)) rfl (by decide) lk_124)) (ok_b (ok_l (q := 8) (ok_tsw (by decide +kernel : decode m_X5_owed.2.1 8 = .ok (.tableswitch 98 1 5 #[36, 49, 57, 79, 92], 36)) (by decide) (by decide +kernel) (by decide))) (ok_l (q := 44) (ok_iload_n (by decide +kernel : decode m_X5_owed.2.1 44 = .ok (.iload_n 3, 1)))))) (ok_b (ok_l (q := 45) (ok_aload_n (by decide +kernel : decode m_X5_owed.2.1 45 = .ok (.aload_n 0, 1)))) (ok_b (ok_l (q := 46) (ok_get (T := TX5) (N := 4) (by decide +kernel : decode m_X5_owed.2.1 46 = .ok (.getfield 9, 3)) rfl (by decide) lk_126)) (ok_l (q := 49) (ok_mmin (by decide +kernel : decode m_X5_owed.2.1 49 = .ok (.invokestatic 32, 3)) lk_562)))))) (ok_b (ok_b (ok_b (ok_l (q := 52) (ok_istore (by decide +kernel : decode m_X5_owed.2.1 52 = .ok (.istore 4, 2)) (by decide))) (ok_b (ok_l (q := 54) (ok_goto (by decide +kernel : decode m_X5_owed.2.1 54 = .ok (.goto 55, 3)) (by decide))) (ok_l (q := 57) (ok_iconst (by decide +kernel : decode m_X5_owed.2.1 57 = .ok (.iconst 2, 1)) (by decide +kernel))))) (ok_b (ok_l (q := 58) (ok_iload_n (by decide +kernel : decode m_X5_owed.2.1 58 = .ok (.iload_n 3, 1)))) (ok_b (ok_l (q := 59) (ok_imul (by decide +kernel : decode m_X5_owed.2.1 59 = .ok (.imul, 1)))) (ok_l (q := 60) (ok_istore (by decide +kernel : decode m_X5_owed.2.1 60 = .ok (.istore 4, 2)) (by decide)))))) (ok_b (ok_b (ok_l (q := 62) (ok_goto (by decide +kernel : decode m_X5_owed.2.1 62 = .ok (.goto 47, 3)) (by decide))) (ok_b (ok_l (q := 65) (ok_iload_n (by decide +kernel : decode m_X5_owed.2.1 65 = .ok (.iload_n 1, 1)))) (ok_l (q := 66) (ok_iconst (by decide +kernel : decode m_X5_owed.2.1 66 = .ok (.iconst 4, 1)) (by decide +kernel))))) (ok_b (ok_l (q := 67) (ok_ic_ge (by decide +kernel : decode m_X5_owed.2.1 67 = .ok (.if_icmp .ge 7, 3)) (by decide))) (ok_b (ok_l (q := 70) (ok_iconst (by decide +kernel : decode m_X5_owed.2.1 70 = .ok (.iconst 0, 1)) (by decide +kernel))) (ok_l (q := 71) (ok_goto (by decide +kernel : decode m_X5_owed.2.1 71 = .ok (.goto 11, 3)) (by decide)))))))) (ok_b (ok_b (ok_b (ok_b (ok_l (q := 74) (ok_iload_n (by decide +kernel : decode m_X5_owed.2.1 74 = .ok (.iload_n 3, 1)))) (ok_l (q := 75) (ok_aload_n (by decide +kernel : decode m_X5_owed.2.1 75 = .ok (.aload_n 0, 1))))) (ok_b (ok_l (q := 76) (ok_get (T := TX5) (N := 4) (by decide +kernel : decode m_X5_owed.2.1 76 = .ok (.getfield 9, 3)) rfl (by decide) lk_126)) (ok_b (ok_l (q := 79) (ok_mmin (by decide +kernel : decode m_X5_owed.2.1 79 = .ok (.invokestatic 32, 3)) lk_562)) (ok_l (q := 82) (ok_istore (by decide +kernel : decode m_X5_owed.2.1 82 = .ok (.istore 4, 2)) (by decide)))))) (ok_b (ok_b (ok_l (q := 84) (ok_goto (by decide +kernel : decode m_X5_owed.2.1 84 = .ok (.goto 25, 3)) (by decide))) (ok_b (ok_l (q := 87) (ok_iconst (by decide +kernel : decode m_X5_owed.2.1 87 = .ok (.iconst 2, 1)) (by decide +kernel))) (ok_l (q := 88) (ok_iload_n (by decide +kernel : decode m_X5_owed.2.1 88 = .ok (.iload_n 3, 1)))))) (ok_b (ok_l (q := 89) (ok_imul (by decide +kernel : decode m_X5_owed.2.1 89 = .ok (.imul, 1)))) (ok_b (ok_l (q := 90) (ok_aload_n (by decide +kernel : decode m_X5_owed.2.1 90 = .ok (.aload_n 0, 1)))) (ok_l (q := 91) (ok_get (T := TX5) (N := 4) (by decide +kernel : decode m_X5_owed.2.1 91 = .ok (.getfield 9, 3)) rfl (by decide) lk_126)))))) (ok_b (ok_b (ok_b (ok_l (q := 94) (ok_isub (by decide +kernel : decode m_X5_owed.2.1 94 = .ok (.isub, 1)))) (ok_b (ok_l (q := 95) (ok_istore (by decide +kernel : decode m_X5_owed.2.1 95 = .ok (.istore 4, 2)) (by decide))) (ok_l (q := 97) (ok_goto (by decide +kernel : decode m_X5_owed.2.1 97 = .ok (.goto 12, 3)) (by decide))))) (ok_b (ok_l (q := 100) (ok_iload_n (by decide +kernel : decode m_X5_owed.2.1 100 = .ok (.iload_n 2, 1)))) (ok_b (ok_l (q := 101) (ok_istore (by decide +kernel : decode m_X5_owed.2.1 101 = .ok (.istore 4, 2)) (by decide))) (ok_l (q := 103) (ok_goto (by decide +kernel : decode m_X5_owed.2.1 103 = .ok (.goto 6, 3)) (by decide)))))) (ok_b (ok_b (ok_l (q := 106) (ok_iload_n (by decide +kernel : decode m_X5_owed.2.1 106 = .ok (.iload_n 3, 1)))) (ok_b (ok_l (q := 107) (ok_istore (by decide +kernel : decode m_X5_owed.2.1 107 = .ok (.istore 4, 2)) (by decide))) (ok_l (q := 109) (ok_iload (by decide +kernel : decode m_X5_owed.2.1 109 = .ok (.iload 4, 2)))))) (ok_b (ok_l (q := 111) (ok_sipush (by decide +kernel : decode m_X5_owed.2.1 111 = .ok (.sipush 9999, 3)) (by decide +kernel))) (ok_b (ok_l (q := 114) (ok_cSN (host := "ShadowTax") mk_X6_bounded (by decide +kernel : decode m_X5_owed.2.1 114 = .ok (.invokestatic 28, 3)) lk_545 (by decide +kernel))) (ok_l (q := 117) (ok_iret (by decide +kernel : decode m_X5_owed.2.1 117 = .ok (.ireturn, 1)) rfl))))))))
def ct_X5_hides : Nat → zOp := fun pc => bif Nat.blt pc 8 then (bif Nat.blt pc 4 then (bif Nat.blt pc 1 then (bif Nat.beq pc 0 then (o_lda 0 1) else o_bad) else (bif Nat.beq pc 1 then (o_get 5 0) else o_bad)) else (bif Nat.blt pc 5 then (bif Nat.beq pc 4 then (o_con (.int 3) 1) else o_bad) else (bif Nat.beq pc 5 then (o_ic (fun x y => x = y) 12) else o_bad))) else (bif Nat.blt pc 12 then (bif Nat.blt pc 9 then (bif Nat.beq pc 8 then (o_con (.int 1) 1) else o_bad) else (bif Nat.beq pc 9 then (o_goto 13) else o_bad)) else (bif Nat.blt pc 13 then (bif Nat.beq pc 12 then (o_con (.int 0) 1) else o_bad) else (bif Nat.beq pc 13 then (o_zret .boolean) else o_bad)))
theorem ct_X5_hides_ok : ∀ pc, zOk m_X5_hides pc (ct_X5_hides pc) := fun pc => (ok_b (ok_b (ok_b (ok_l (q := 0) (ok_aload_n (by decide +kernel : decode m_X5_hides.2.1 0 = .ok (.aload_n 0, 1)))) (ok_l (q := 1) (ok_get (T := TX5) (N := 4) (by decide +kernel : decode m_X5_hides.2.1 1 = .ok (.getfield 21, 3)) rfl (by decide) lk_124))) (ok_b (ok_l (q := 4) (ok_iconst (by decide +kernel : decode m_X5_hides.2.1 4 = .ok (.iconst 3, 1)) (by decide +kernel))) (ok_l (q := 5) (ok_ic_eq (by decide +kernel : decode m_X5_hides.2.1 5 = .ok (.if_icmp .eq 7, 3)) (by decide))))) (ok_b (ok_b (ok_l (q := 8) (ok_iconst (by decide +kernel : decode m_X5_hides.2.1 8 = .ok (.iconst 1, 1)) (by decide +kernel))) (ok_l (q := 9) (ok_goto (by decide +kernel : decode m_X5_hides.2.1 9 = .ok (.goto 4, 3)) (by decide)))) (ok_b (ok_l (q := 12) (ok_iconst (by decide +kernel : decode m_X5_hides.2.1 12 = .ok (.iconst 0, 1)) (by decide +kernel))) (ok_l (q := 13) (ok_zret (by decide +kernel : decode m_X5_hides.2.1 13 = .ok (.ireturn, 1)) rfl)))))
def ct_X5_isUnder : Nat → zOp := fun pc => bif Nat.blt pc 22 then (bif Nat.blt pc 8 then (bif Nat.blt pc 5 then (bif Nat.blt pc 1 then (bif Nat.beq pc 0 then (o_lda 0 1) else o_bad) else (bif Nat.blt pc 4 then (bif Nat.beq pc 1 then (o_get 5 0) else o_bad) else (bif Nat.beq pc 4 then (o_st1i 2 1) else o_bad))) else (bif Nat.blt pc 6 then (bif Nat.beq pc 5 then (o_con (.int 0) 1) else o_bad) else (bif Nat.blt pc 7 then (bif Nat.beq pc 6 then (o_st1i 3 1) else o_bad) else (bif Nat.beq pc 7 then (o_ldi 3 1) else o_bad)))) else (bif Nat.blt pc 14 then (bif Nat.blt pc 10 then (bif Nat.beq pc 8 then (o_con (.int 6) 2) else o_bad) else (bif Nat.blt pc 13 then (bif Nat.beq pc 10 then (o_ic (fun x y => y ≤ x) 44) else o_bad) else (bif Nat.beq pc 13 then (o_ldi 2 1) else o_bad))) else (bif Nat.blt pc 18 then (bif Nat.blt pc 17 then (bif Nat.beq pc 14 then (o_if (fun x => x < 0) 44) else o_bad) else (bif Nat.beq pc 17 then (o_ldi 2 1) else o_bad)) else (bif Nat.blt pc 21 then (bif Nat.beq pc 18 then (o_gsta 2) else o_bad) else (bif Nat.beq pc 21 then o_olen else o_bad))))) else (bif Nat.blt pc 35 then (bif Nat.blt pc 27 then (bif Nat.blt pc 25 then (bif Nat.beq pc 22 then (o_ic (fun x y => y ≤ x) 44) else o_bad) else (bif Nat.blt pc 26 then (bif Nat.beq pc 25 then (o_ldi 2 1) else o_bad) else (bif Nat.beq pc 26 then (o_ldi 1 1) else o_bad))) else (bif Nat.blt pc 31 then (bif Nat.blt pc 30 then (bif Nat.beq pc 27 then (o_icn 32) else o_bad) else (bif Nat.beq pc 30 then (o_con (.int 1) 1) else o_bad)) else (bif Nat.blt pc 32 then (bif Nat.beq pc 31 then (o_zret .boolean) else o_bad) else (bif Nat.beq pc 32 then (o_gsta 2) else o_bad)))) else (bif Nat.blt pc 38 then (bif Nat.blt pc 36 then (bif Nat.beq pc 35 then (o_ldi 2 1) else o_bad) else (bif Nat.blt pc 37 then (bif Nat.beq pc 36 then o_oald else o_bad) else (bif Nat.beq pc 37 then (o_st1i 2 1) else o_bad))) else (bif Nat.blt pc 44 then (bif Nat.blt pc 41 then (bif Nat.beq pc 38 then (o_iinc 3 1) else o_bad) else (bif Nat.beq pc 41 then (o_goto 7) else o_bad)) else (bif Nat.blt pc 45 then (bif Nat.beq pc 44 then (o_con (.int 0) 1) else o_bad) else (bif Nat.beq pc 45 then (o_zret .boolean) else o_bad)))))
theorem ct_X5_isUnder_ok : ∀ pc, zOk m_X5_isUnder pc (ct_X5_isUnder pc) := fun pc => (ok_b (ok_b (ok_b (ok_b (ok_l (q := 0) (ok_aload_n (by decide +kernel : decode m_X5_isUnder.2.1 0 = .ok (.aload_n 0, 1)))) (ok_b (ok_l (q := 1) (ok_get (T := TX5) (N := 4) (by decide +kernel : decode m_X5_isUnder.2.1 1 = .ok (.getfield 21, 3)) rfl (by decide) lk_124)) (ok_l (q := 4) (ok_istore_n (by decide +kernel : decode m_X5_isUnder.2.1 4 = .ok (.istore_n 2, 1)) (by decide))))) (ok_b (ok_l (q := 5) (ok_iconst (by decide +kernel : decode m_X5_isUnder.2.1 5 = .ok (.iconst 0, 1)) (by decide +kernel))) (ok_b (ok_l (q := 6) (ok_istore_n (by decide +kernel : decode m_X5_isUnder.2.1 6 = .ok (.istore_n 3, 1)) (by decide))) (ok_l (q := 7) (ok_iload_n (by decide +kernel : decode m_X5_isUnder.2.1 7 = .ok (.iload_n 3, 1))))))) (ok_b (ok_b (ok_l (q := 8) (ok_bipush (by decide +kernel : decode m_X5_isUnder.2.1 8 = .ok (.bipush 6, 2)) (by decide +kernel))) (ok_b (ok_l (q := 10) (ok_ic_ge (by decide +kernel : decode m_X5_isUnder.2.1 10 = .ok (.if_icmp .ge 34, 3)) (by decide))) (ok_l (q := 13) (ok_iload_n (by decide +kernel : decode m_X5_isUnder.2.1 13 = .ok (.iload_n 2, 1)))))) (ok_b (ok_b (ok_l (q := 14) (ok_if_lt (by decide +kernel : decode m_X5_isUnder.2.1 14 = .ok (.ifCond .lt 30, 3)) (by decide))) (ok_l (q := 17) (ok_iload_n (by decide +kernel : decode m_X5_isUnder.2.1 17 = .ok (.iload_n 2, 1))))) (ok_b (ok_l (q := 18) (ok_gstaN (by decide) (by decide +kernel : decode m_X5_isUnder.2.1 18 = .ok (.getstatic 37, 3)) (by decide +kernel))) (ok_l (q := 21) (ok_olen (by decide +kernel : decode m_X5_isUnder.2.1 21 = .ok (.arraylength, 1)))))))) (ok_b (ok_b (ok_b (ok_l (q := 22) (ok_ic_ge (by decide +kernel : decode m_X5_isUnder.2.1 22 = .ok (.if_icmp .ge 22, 3)) (by decide))) (ok_b (ok_l (q := 25) (ok_iload_n (by decide +kernel : decode m_X5_isUnder.2.1 25 = .ok (.iload_n 2, 1)))) (ok_l (q := 26) (ok_iload_n (by decide +kernel : decode m_X5_isUnder.2.1 26 = .ok (.iload_n 1, 1)))))) (ok_b (ok_b (ok_l (q := 27) (ok_ic_ne (by decide +kernel : decode m_X5_isUnder.2.1 27 = .ok (.if_icmp .ne 5, 3)) (by decide))) (ok_l (q := 30) (ok_iconst (by decide +kernel : decode m_X5_isUnder.2.1 30 = .ok (.iconst 1, 1)) (by decide +kernel)))) (ok_b (ok_l (q := 31) (ok_zret (by decide +kernel : decode m_X5_isUnder.2.1 31 = .ok (.ireturn, 1)) rfl)) (ok_l (q := 32) (ok_gstaN (by decide) (by decide +kernel : decode m_X5_isUnder.2.1 32 = .ok (.getstatic 37, 3)) (by decide +kernel)))))) (ok_b (ok_b (ok_l (q := 35) (ok_iload_n (by decide +kernel : decode m_X5_isUnder.2.1 35 = .ok (.iload_n 2, 1)))) (ok_b (ok_l (q := 36) (ok_oald (by decide +kernel : decode m_X5_isUnder.2.1 36 = .ok (.iaload, 1)))) (ok_l (q := 37) (ok_istore_n (by decide +kernel : decode m_X5_isUnder.2.1 37 = .ok (.istore_n 2, 1)) (by decide))))) (ok_b (ok_b (ok_l (q := 38) (ok_iinc (by decide +kernel : decode m_X5_isUnder.2.1 38 = .ok (.iinc 3 1, 3)) (by decide +kernel) (by decide))) (ok_l (q := 41) (ok_goto (by decide +kernel : decode m_X5_isUnder.2.1 41 = .ok (.goto (-34), 3)) (by decide)))) (ok_b (ok_l (q := 44) (ok_iconst (by decide +kernel : decode m_X5_isUnder.2.1 44 = .ok (.iconst 0, 1)) (by decide +kernel))) (ok_l (q := 45) (ok_zret (by decide +kernel : decode m_X5_isUnder.2.1 45 = .ok (.ireturn, 1)) rfl)))))))
end
section
theorem s_hides {X : zXs} {d a : Nat} {L : List zSh} {μ : zMem} (ha : a < 1000000) (hL : ∃ w, L[a]? = some (5, w)) : zC X d 0 0 m_X5_hides [.ref a] L μ (fun v L' μ' => v = some (.int (if μ.1 a 0 = 3 then 0 else 1)) ∧ L' = L ∧ μ' = μ) := by
  refine zC.of mk_X5_hides rfl ?_
  refine zT.step ct_X5_hides_ok ?_
  refine zT.step ct_X5_hides_ok ?_
  refine And.intro ⟨ha, hL⟩ ?_
  refine zT.step ct_X5_hides_ok ?_
  refine zT.step ct_X5_hides_ok ?_
  refine And.intro (fun h => ?_) (fun h => ?_)
  · repeat refine zT.step ct_X5_hides_ok ?_
    trace_state
    sorry
  · repeat refine zT.step ct_X5_hides_ok ?_
    trace_state
    sorry
end
