section
-- ===== PART A: goes FIRST, ahead of the names: the tables' words, and 'selects' of the private methods out of them =====
/-- a private method of a class that the tables say can be made, by its rows of tables_1 -/
def lw_okq (q : MethodName × Nat) : Prop := (q.1.cls ≠ "java/lang/invoke/MethodHandle" ∧ q.1.cls ≠ "java/lang/invoke/VarHandle") ∧ Cond.instantiable q.1.cls q.2 ∈ tables_1 ∧ Cond.privateMethod q.1 ∈ tables_1 ∧ Cond.instanceMethod q.1 ∈ tables_1
theorem lw_p0 : lw_okq (⟨"ShadowTax$Reader", "advance", "()V"⟩, 7) := ⟨⟨by decide +kernel, by decide +kernel⟩, List.mem_of_getElem? (i := 155) (by decide +kernel), List.mem_of_getElem? (i := 317) (by decide +kernel), List.mem_of_getElem? (i := 318) (by decide +kernel)⟩
theorem lw_p1 : lw_okq (⟨"ShadowTax$Reader", "readWord", "()I"⟩, 7) := ⟨⟨by decide +kernel, by decide +kernel⟩, List.mem_of_getElem? (i := 155) (by decide +kernel), List.mem_of_getElem? (i := 324) (by decide +kernel), List.mem_of_getElem? (i := 325) (by decide +kernel)⟩
theorem lw_p2 : lw_okq (⟨"ShadowTax$Reader", "isWord", "(Ljava/lang/String;)Z"⟩, 7) := ⟨⟨by decide +kernel, by decide +kernel⟩, List.mem_of_getElem? (i := 155) (by decide +kernel), List.mem_of_getElem? (i := 329) (by decide +kernel), List.mem_of_getElem? (i := 330) (by decide +kernel)⟩
theorem lw_p3 : lw_okq (⟨"ShadowTax$Reader", "readNumber", "()I"⟩, 7) := ⟨⟨by decide +kernel, by decide +kernel⟩, List.mem_of_getElem? (i := 155) (by decide +kernel), List.mem_of_getElem? (i := 395) (by decide +kernel), List.mem_of_getElem? (i := 396) (by decide +kernel)⟩
theorem lw_p4 : lw_okq (⟨"ShadowTax$Reader", "expect", "(I)V"⟩, 7) := ⟨⟨by decide +kernel, by decide +kernel⟩, List.mem_of_getElem? (i := 155) (by decide +kernel), List.mem_of_getElem? (i := 402) (by decide +kernel), List.mem_of_getElem? (i := 403) (by decide +kernel)⟩
theorem lw_p5 : lw_okq (⟨"ShadowTax$Reader", "fail", "()V"⟩, 7) := ⟨⟨by decide +kernel, by decide +kernel⟩, List.mem_of_getElem? (i := 155) (by decide +kernel), List.mem_of_getElem? (i := 406) (by decide +kernel), List.mem_of_getElem? (i := 407) (by decide +kernel)⟩
theorem lw_p6 : lw_okq (⟨"ShadowTax$Reader", "readLevel", "(II)V"⟩, 7) := ⟨⟨by decide +kernel, by decide +kernel⟩, List.mem_of_getElem? (i := 155) (by decide +kernel), List.mem_of_getElem? (i := 410) (by decide +kernel), List.mem_of_getElem? (i := 411) (by decide +kernel)⟩
theorem lw_p7 : lw_okq (⟨"ShadowTax$Reader", "readOne", "(I)V"⟩, 7) := ⟨⟨by decide +kernel, by decide +kernel⟩, List.mem_of_getElem? (i := 155) (by decide +kernel), List.mem_of_getElem? (i := 414) (by decide +kernel), List.mem_of_getElem? (i := 415) (by decide +kernel)⟩
theorem lw_p8 : lw_okq (⟨"ShadowTax$Reader", "readBehind", "(III)V"⟩, 7) := ⟨⟨by decide +kernel, by decide +kernel⟩, List.mem_of_getElem? (i := 155) (by decide +kernel), List.mem_of_getElem? (i := 419) (by decide +kernel), List.mem_of_getElem? (i := 420) (by decide +kernel)⟩
theorem lw_p9 : lw_okq (⟨"ShadowTax$Square", "measure", "(II)V"⟩, 14) := ⟨⟨by decide +kernel, by decide +kernel⟩, List.mem_of_getElem? (i := 26) (by decide +kernel), List.mem_of_getElem? (i := 443) (by decide +kernel), List.mem_of_getElem? (i := 444) (by decide +kernel)⟩
theorem lw_p10 : lw_okq (⟨"ShadowTax$Square", "ruled", "(II)I"⟩, 14) := ⟨⟨by decide +kernel, by decide +kernel⟩, List.mem_of_getElem? (i := 26) (by decide +kernel), List.mem_of_getElem? (i := 447) (by decide +kernel), List.mem_of_getElem? (i := 448) (by decide +kernel)⟩
theorem lw_p11 : lw_okq (⟨"ShadowTax$Square", "cast", "(I)V"⟩, 14) := ⟨⟨by decide +kernel, by decide +kernel⟩, List.mem_of_getElem? (i := 26) (by decide +kernel), List.mem_of_getElem? (i := 481) (by decide +kernel), List.mem_of_getElem? (i := 482) (by decide +kernel)⟩
theorem lw_p12 : lw_okq (⟨"ShadowTax$Square", "occupied", "()I"⟩, 14) := ⟨⟨by decide +kernel, by decide +kernel⟩, List.mem_of_getElem? (i := 26) (by decide +kernel), List.mem_of_getElem? (i := 485) (by decide +kernel), List.mem_of_getElem? (i := 486) (by decide +kernel)⟩
theorem lw_p13 : lw_okq (⟨"ShadowTax$Square", "shadowOf", "(IZ)I"⟩, 14) := ⟨⟨by decide +kernel, by decide +kernel⟩, List.mem_of_getElem? (i := 26) (by decide +kernel), List.mem_of_getElem? (i := 489) (by decide +kernel), List.mem_of_getElem? (i := 490) (by decide +kernel)⟩
theorem lw_p14 : lw_okq (⟨"ShadowTax", "mostHour", "(Z)I"⟩, 5) := ⟨⟨by decide +kernel, by decide +kernel⟩, List.mem_of_getElem? (i := 18) (by decide +kernel), List.mem_of_getElem? (i := 525) (by decide +kernel), List.mem_of_getElem? (i := 526) (by decide +kernel)⟩
theorem lw_p15 : lw_okq (⟨"ShadowTax", "fairestHour", "(Z)I"⟩, 5) := ⟨⟨by decide +kernel, by decide +kernel⟩, List.mem_of_getElem? (i := 18) (by decide +kernel), List.mem_of_getElem? (i := 529) (by decide +kernel), List.mem_of_getElem? (i := 530) (by decide +kernel)⟩
def lw_privs_1 : List (MethodName × Nat) := [(⟨"ShadowTax$Reader", "advance", "()V"⟩, 7), (⟨"ShadowTax$Reader", "readWord", "()I"⟩, 7), (⟨"ShadowTax$Reader", "isWord", "(Ljava/lang/String;)Z"⟩, 7), (⟨"ShadowTax$Reader", "readNumber", "()I"⟩, 7), (⟨"ShadowTax$Reader", "expect", "(I)V"⟩, 7), (⟨"ShadowTax$Reader", "fail", "()V"⟩, 7), (⟨"ShadowTax$Reader", "readLevel", "(II)V"⟩, 7), (⟨"ShadowTax$Reader", "readOne", "(I)V"⟩, 7), (⟨"ShadowTax$Reader", "readBehind", "(III)V"⟩, 7), (⟨"ShadowTax$Square", "measure", "(II)V"⟩, 14), (⟨"ShadowTax$Square", "ruled", "(II)I"⟩, 14), (⟨"ShadowTax$Square", "cast", "(I)V"⟩, 14), (⟨"ShadowTax$Square", "occupied", "()I"⟩, 14), (⟨"ShadowTax$Square", "shadowOf", "(IZ)I"⟩, 14), (⟨"ShadowTax", "mostHour", "(Z)I"⟩, 5), (⟨"ShadowTax", "fairestHour", "(Z)I"⟩, 5)]
theorem lw_r1 : ∀ q ∈ lw_privs_1, lw_okq q := List.forall_mem_cons.mpr ⟨lw_p0, List.forall_mem_cons.mpr ⟨lw_p1, List.forall_mem_cons.mpr ⟨lw_p2, List.forall_mem_cons.mpr ⟨lw_p3, List.forall_mem_cons.mpr ⟨lw_p4, List.forall_mem_cons.mpr ⟨lw_p5, List.forall_mem_cons.mpr ⟨lw_p6, List.forall_mem_cons.mpr ⟨lw_p7, List.forall_mem_cons.mpr ⟨lw_p8, List.forall_mem_cons.mpr ⟨lw_p9, List.forall_mem_cons.mpr ⟨lw_p10, List.forall_mem_cons.mpr ⟨lw_p11, List.forall_mem_cons.mpr ⟨lw_p12, List.forall_mem_cons.mpr ⟨lw_p13, List.forall_mem_cons.mpr ⟨lw_p14, List.forall_mem_cons.mpr ⟨lw_p15, fun _ h => absurd h List.not_mem_nil⟩⟩⟩⟩⟩⟩⟩⟩⟩⟩⟩⟩⟩⟩⟩⟩
theorem lw_p16 : lw_okq (⟨"ShadowTax", "isSheet", "(I)Z"⟩, 5) := ⟨⟨by decide +kernel, by decide +kernel⟩, List.mem_of_getElem? (i := 18) (by decide +kernel), List.mem_of_getElem? (i := 565) (by decide +kernel), List.mem_of_getElem? (i := 566) (by decide +kernel)⟩
theorem lw_p17 : lw_okq (⟨"ShadowTax", "firstOtherwise", "(LShadowTax$Sheet;I)I"⟩, 5) := ⟨⟨by decide +kernel, by decide +kernel⟩, List.mem_of_getElem? (i := 18) (by decide +kernel), List.mem_of_getElem? (i := 573) (by decide +kernel), List.mem_of_getElem? (i := 574) (by decide +kernel)⟩
theorem lw_p18 : lw_okq (⟨"ShadowTax", "fittingClouds", "(LShadowTax$Sheet;I)I"⟩, 5) := ⟨⟨by decide +kernel, by decide +kernel⟩, List.mem_of_getElem? (i := 18) (by decide +kernel), List.mem_of_getElem? (i := 588) (by decide +kernel), List.mem_of_getElem? (i := 589) (by decide +kernel)⟩
theorem lw_p19 : lw_okq (⟨"ShadowTax", "lookWithoutClouds", "()V"⟩, 5) := ⟨⟨by decide +kernel, by decide +kernel⟩, List.mem_of_getElem? (i := 18) (by decide +kernel), List.mem_of_getElem? (i := 615) (by decide +kernel), List.mem_of_getElem? (i := 616) (by decide +kernel)⟩
theorem lw_p20 : lw_okq (⟨"ShadowTax", "dueBySeed", "(I)I"⟩, 5) := ⟨⟨by decide +kernel, by decide +kernel⟩, List.mem_of_getElem? (i := 18) (by decide +kernel), List.mem_of_getElem? (i := 619) (by decide +kernel), List.mem_of_getElem? (i := 620) (by decide +kernel)⟩
theorem lw_p21 : lw_okq (⟨"ShadowTaxModel", "spell", "(IIIIIIIII)V"⟩, 43) := ⟨⟨by decide +kernel, by decide +kernel⟩, List.mem_of_getElem? (i := 693) (by decide +kernel), List.mem_of_getElem? (i := 699) (by decide +kernel), List.mem_of_getElem? (i := 700) (by decide +kernel)⟩
theorem lw_p22 : lw_okq (⟨"ShadowTaxModel", "isThing", "(I)Z"⟩, 43) := ⟨⟨by decide +kernel, by decide +kernel⟩, List.mem_of_getElem? (i := 693) (by decide +kernel), List.mem_of_getElem? (i := 841) (by decide +kernel), List.mem_of_getElem? (i := 842) (by decide +kernel)⟩
theorem lw_p23 : lw_okq (⟨"ShadowTaxModel", "lays", "(III)V"⟩, 43) := ⟨⟨by decide +kernel, by decide +kernel⟩, List.mem_of_getElem? (i := 693) (by decide +kernel), List.mem_of_getElem? (i := 856) (by decide +kernel), List.mem_of_getElem? (i := 857) (by decide +kernel)⟩
theorem lw_p24 : lw_okq (⟨"ShadowTaxModel", "read", "(II)I"⟩, 43) := ⟨⟨by decide +kernel, by decide +kernel⟩, List.mem_of_getElem? (i := 693) (by decide +kernel), List.mem_of_getElem? (i := 877) (by decide +kernel), List.mem_of_getElem? (i := 878) (by decide +kernel)⟩
theorem lw_p25 : lw_okq (⟨"ShadowTaxModel", "next", "()V"⟩, 43) := ⟨⟨by decide +kernel, by decide +kernel⟩, List.mem_of_getElem? (i := 693) (by decide +kernel), List.mem_of_getElem? (i := 881) (by decide +kernel), List.mem_of_getElem? (i := 882) (by decide +kernel)⟩
theorem lw_p26 : lw_okq (⟨"ShadowTaxModel", "byteAt", "(I)I"⟩, 43) := ⟨⟨by decide +kernel, by decide +kernel⟩, List.mem_of_getElem? (i := 693) (by decide +kernel), List.mem_of_getElem? (i := 885) (by decide +kernel), List.mem_of_getElem? (i := 886) (by decide +kernel)⟩
theorem lw_p27 : lw_okq (⟨"ShadowTaxModel", "isWord", "(IIIIIIII)Z"⟩, 43) := ⟨⟨by decide +kernel, by decide +kernel⟩, List.mem_of_getElem? (i := 693) (by decide +kernel), List.mem_of_getElem? (i := 894) (by decide +kernel), List.mem_of_getElem? (i := 895) (by decide +kernel)⟩
theorem lw_p28 : lw_okq (⟨"ShadowTaxModel", "isLetter", "(II)Z"⟩, 43) := ⟨⟨by decide +kernel, by decide +kernel⟩, List.mem_of_getElem? (i := 693) (by decide +kernel), List.mem_of_getElem? (i := 898) (by decide +kernel), List.mem_of_getElem? (i := 899) (by decide +kernel)⟩
theorem lw_p29 : lw_okq (⟨"ShadowTaxModel", "part", "(Z)I"⟩, 43) := ⟨⟨by decide +kernel, by decide +kernel⟩, List.mem_of_getElem? (i := 693) (by decide +kernel), List.mem_of_getElem? (i := 902) (by decide +kernel), List.mem_of_getElem? (i := 903) (by decide +kernel)⟩
theorem lw_p30 : lw_okq (⟨"ShadowTaxModel", "fail", "()V"⟩, 43) := ⟨⟨by decide +kernel, by decide +kernel⟩, List.mem_of_getElem? (i := 693) (by decide +kernel), List.mem_of_getElem? (i := 906) (by decide +kernel), List.mem_of_getElem? (i := 907) (by decide +kernel)⟩
theorem lw_p31 : lw_okq (⟨"ShadowTaxModel", "either0", "()I"⟩, 43) := ⟨⟨by decide +kernel, by decide +kernel⟩, List.mem_of_getElem? (i := 693) (by decide +kernel), List.mem_of_getElem? (i := 910) (by decide +kernel), List.mem_of_getElem? (i := 911) (by decide +kernel)⟩
def lw_privs_2 : List (MethodName × Nat) := [(⟨"ShadowTax", "isSheet", "(I)Z"⟩, 5), (⟨"ShadowTax", "firstOtherwise", "(LShadowTax$Sheet;I)I"⟩, 5), (⟨"ShadowTax", "fittingClouds", "(LShadowTax$Sheet;I)I"⟩, 5), (⟨"ShadowTax", "lookWithoutClouds", "()V"⟩, 5), (⟨"ShadowTax", "dueBySeed", "(I)I"⟩, 5), (⟨"ShadowTaxModel", "spell", "(IIIIIIIII)V"⟩, 43), (⟨"ShadowTaxModel", "isThing", "(I)Z"⟩, 43), (⟨"ShadowTaxModel", "lays", "(III)V"⟩, 43), (⟨"ShadowTaxModel", "read", "(II)I"⟩, 43), (⟨"ShadowTaxModel", "next", "()V"⟩, 43), (⟨"ShadowTaxModel", "byteAt", "(I)I"⟩, 43), (⟨"ShadowTaxModel", "isWord", "(IIIIIIII)Z"⟩, 43), (⟨"ShadowTaxModel", "isLetter", "(II)Z"⟩, 43), (⟨"ShadowTaxModel", "part", "(Z)I"⟩, 43), (⟨"ShadowTaxModel", "fail", "()V"⟩, 43), (⟨"ShadowTaxModel", "either0", "()I"⟩, 43)]
theorem lw_r2 : ∀ q ∈ lw_privs_2, lw_okq q := List.forall_mem_cons.mpr ⟨lw_p16, List.forall_mem_cons.mpr ⟨lw_p17, List.forall_mem_cons.mpr ⟨lw_p18, List.forall_mem_cons.mpr ⟨lw_p19, List.forall_mem_cons.mpr ⟨lw_p20, List.forall_mem_cons.mpr ⟨lw_p21, List.forall_mem_cons.mpr ⟨lw_p22, List.forall_mem_cons.mpr ⟨lw_p23, List.forall_mem_cons.mpr ⟨lw_p24, List.forall_mem_cons.mpr ⟨lw_p25, List.forall_mem_cons.mpr ⟨lw_p26, List.forall_mem_cons.mpr ⟨lw_p27, List.forall_mem_cons.mpr ⟨lw_p28, List.forall_mem_cons.mpr ⟨lw_p29, List.forall_mem_cons.mpr ⟨lw_p30, List.forall_mem_cons.mpr ⟨lw_p31, fun _ h => absurd h List.not_mem_nil⟩⟩⟩⟩⟩⟩⟩⟩⟩⟩⟩⟩⟩⟩⟩⟩
theorem lw_p32 : lw_okq (⟨"ShadowTaxModel", "both0", "()I"⟩, 43) := ⟨⟨by decide +kernel, by decide +kernel⟩, List.mem_of_getElem? (i := 693) (by decide +kernel), List.mem_of_getElem? (i := 914) (by decide +kernel), List.mem_of_getElem? (i := 915) (by decide +kernel)⟩
theorem lw_p33 : lw_okq (⟨"ShadowTaxModel", "not0", "()I"⟩, 43) := ⟨⟨by decide +kernel, by decide +kernel⟩, List.mem_of_getElem? (i := 693) (by decide +kernel), List.mem_of_getElem? (i := 918) (by decide +kernel), List.mem_of_getElem? (i := 919) (by decide +kernel)⟩
theorem lw_p34 : lw_okq (⟨"ShadowTaxModel", "opens", "()Z"⟩, 43) := ⟨⟨by decide +kernel, by decide +kernel⟩, List.mem_of_getElem? (i := 693) (by decide +kernel), List.mem_of_getElem? (i := 922) (by decide +kernel), List.mem_of_getElem? (i := 923) (by decide +kernel)⟩
theorem lw_p35 : lw_okq (⟨"ShadowTaxModel", "not1", "()I"⟩, 43) := ⟨⟨by decide +kernel, by decide +kernel⟩, List.mem_of_getElem? (i := 693) (by decide +kernel), List.mem_of_getElem? (i := 926) (by decide +kernel), List.mem_of_getElem? (i := 927) (by decide +kernel)⟩
theorem lw_p36 : lw_okq (⟨"ShadowTaxModel", "not2", "()I"⟩, 43) := ⟨⟨by decide +kernel, by decide +kernel⟩, List.mem_of_getElem? (i := 693) (by decide +kernel), List.mem_of_getElem? (i := 930) (by decide +kernel), List.mem_of_getElem? (i := 931) (by decide +kernel)⟩
theorem lw_p37 : lw_okq (⟨"ShadowTaxModel", "not3", "()I"⟩, 43) := ⟨⟨by decide +kernel, by decide +kernel⟩, List.mem_of_getElem? (i := 693) (by decide +kernel), List.mem_of_getElem? (i := 934) (by decide +kernel), List.mem_of_getElem? (i := 935) (by decide +kernel)⟩
theorem lw_p38 : lw_okq (⟨"ShadowTaxModel", "not4", "()I"⟩, 43) := ⟨⟨by decide +kernel, by decide +kernel⟩, List.mem_of_getElem? (i := 693) (by decide +kernel), List.mem_of_getElem? (i := 938) (by decide +kernel), List.mem_of_getElem? (i := 939) (by decide +kernel)⟩
theorem lw_p39 : lw_okq (⟨"ShadowTaxModel", "not5", "()I"⟩, 43) := ⟨⟨by decide +kernel, by decide +kernel⟩, List.mem_of_getElem? (i := 693) (by decide +kernel), List.mem_of_getElem? (i := 942) (by decide +kernel), List.mem_of_getElem? (i := 943) (by decide +kernel)⟩
theorem lw_p40 : lw_okq (⟨"ShadowTaxModel", "added5", "()I"⟩, 43) := ⟨⟨by decide +kernel, by decide +kernel⟩, List.mem_of_getElem? (i := 693) (by decide +kernel), List.mem_of_getElem? (i := 946) (by decide +kernel), List.mem_of_getElem? (i := 947) (by decide +kernel)⟩
theorem lw_p41 : lw_okq (⟨"ShadowTaxModel", "term5", "()I"⟩, 43) := ⟨⟨by decide +kernel, by decide +kernel⟩, List.mem_of_getElem? (i := 693) (by decide +kernel), List.mem_of_getElem? (i := 950) (by decide +kernel), List.mem_of_getElem? (i := 951) (by decide +kernel)⟩
theorem lw_p42 : lw_okq (⟨"ShadowTaxModel", "atom5", "()I"⟩, 43) := ⟨⟨by decide +kernel, by decide +kernel⟩, List.mem_of_getElem? (i := 693) (by decide +kernel), List.mem_of_getElem? (i := 954) (by decide +kernel), List.mem_of_getElem? (i := 955) (by decide +kernel)⟩
theorem lw_p43 : lw_okq (⟨"ShadowTaxModel", "isSign", "(I)Z"⟩, 43) := ⟨⟨by decide +kernel, by decide +kernel⟩, List.mem_of_getElem? (i := 693) (by decide +kernel), List.mem_of_getElem? (i := 958) (by decide +kernel), List.mem_of_getElem? (i := 959) (by decide +kernel)⟩
theorem lw_p44 : lw_okq (⟨"ShadowTaxModel", "name", "()I"⟩, 43) := ⟨⟨by decide +kernel, by decide +kernel⟩, List.mem_of_getElem? (i := 693) (by decide +kernel), List.mem_of_getElem? (i := 962) (by decide +kernel), List.mem_of_getElem? (i := 963) (by decide +kernel)⟩
theorem lw_p45 : lw_okq (⟨"ShadowTaxModel", "added4", "()I"⟩, 43) := ⟨⟨by decide +kernel, by decide +kernel⟩, List.mem_of_getElem? (i := 693) (by decide +kernel), List.mem_of_getElem? (i := 968) (by decide +kernel), List.mem_of_getElem? (i := 969) (by decide +kernel)⟩
theorem lw_p46 : lw_okq (⟨"ShadowTaxModel", "term4", "()I"⟩, 43) := ⟨⟨by decide +kernel, by decide +kernel⟩, List.mem_of_getElem? (i := 693) (by decide +kernel), List.mem_of_getElem? (i := 972) (by decide +kernel), List.mem_of_getElem? (i := 973) (by decide +kernel)⟩
theorem lw_p47 : lw_okq (⟨"ShadowTaxModel", "atom4", "()I"⟩, 43) := ⟨⟨by decide +kernel, by decide +kernel⟩, List.mem_of_getElem? (i := 693) (by decide +kernel), List.mem_of_getElem? (i := 976) (by decide +kernel), List.mem_of_getElem? (i := 977) (by decide +kernel)⟩
def lw_privs_3 : List (MethodName × Nat) := [(⟨"ShadowTaxModel", "both0", "()I"⟩, 43), (⟨"ShadowTaxModel", "not0", "()I"⟩, 43), (⟨"ShadowTaxModel", "opens", "()Z"⟩, 43), (⟨"ShadowTaxModel", "not1", "()I"⟩, 43), (⟨"ShadowTaxModel", "not2", "()I"⟩, 43), (⟨"ShadowTaxModel", "not3", "()I"⟩, 43), (⟨"ShadowTaxModel", "not4", "()I"⟩, 43), (⟨"ShadowTaxModel", "not5", "()I"⟩, 43), (⟨"ShadowTaxModel", "added5", "()I"⟩, 43), (⟨"ShadowTaxModel", "term5", "()I"⟩, 43), (⟨"ShadowTaxModel", "atom5", "()I"⟩, 43), (⟨"ShadowTaxModel", "isSign", "(I)Z"⟩, 43), (⟨"ShadowTaxModel", "name", "()I"⟩, 43), (⟨"ShadowTaxModel", "added4", "()I"⟩, 43), (⟨"ShadowTaxModel", "term4", "()I"⟩, 43), (⟨"ShadowTaxModel", "atom4", "()I"⟩, 43)]
theorem lw_r3 : ∀ q ∈ lw_privs_3, lw_okq q := List.forall_mem_cons.mpr ⟨lw_p32, List.forall_mem_cons.mpr ⟨lw_p33, List.forall_mem_cons.mpr ⟨lw_p34, List.forall_mem_cons.mpr ⟨lw_p35, List.forall_mem_cons.mpr ⟨lw_p36, List.forall_mem_cons.mpr ⟨lw_p37, List.forall_mem_cons.mpr ⟨lw_p38, List.forall_mem_cons.mpr ⟨lw_p39, List.forall_mem_cons.mpr ⟨lw_p40, List.forall_mem_cons.mpr ⟨lw_p41, List.forall_mem_cons.mpr ⟨lw_p42, List.forall_mem_cons.mpr ⟨lw_p43, List.forall_mem_cons.mpr ⟨lw_p44, List.forall_mem_cons.mpr ⟨lw_p45, List.forall_mem_cons.mpr ⟨lw_p46, List.forall_mem_cons.mpr ⟨lw_p47, fun _ h => absurd h List.not_mem_nil⟩⟩⟩⟩⟩⟩⟩⟩⟩⟩⟩⟩⟩⟩⟩⟩
theorem lw_p48 : lw_okq (⟨"ShadowTaxModel", "either5", "()I"⟩, 43) := ⟨⟨by decide +kernel, by decide +kernel⟩, List.mem_of_getElem? (i := 693) (by decide +kernel), List.mem_of_getElem? (i := 980) (by decide +kernel), List.mem_of_getElem? (i := 981) (by decide +kernel)⟩
theorem lw_p49 : lw_okq (⟨"ShadowTaxModel", "both5", "()I"⟩, 43) := ⟨⟨by decide +kernel, by decide +kernel⟩, List.mem_of_getElem? (i := 693) (by decide +kernel), List.mem_of_getElem? (i := 984) (by decide +kernel), List.mem_of_getElem? (i := 985) (by decide +kernel)⟩
theorem lw_p50 : lw_okq (⟨"ShadowTaxModel", "added3", "()I"⟩, 43) := ⟨⟨by decide +kernel, by decide +kernel⟩, List.mem_of_getElem? (i := 693) (by decide +kernel), List.mem_of_getElem? (i := 988) (by decide +kernel), List.mem_of_getElem? (i := 989) (by decide +kernel)⟩
theorem lw_p51 : lw_okq (⟨"ShadowTaxModel", "term3", "()I"⟩, 43) := ⟨⟨by decide +kernel, by decide +kernel⟩, List.mem_of_getElem? (i := 693) (by decide +kernel), List.mem_of_getElem? (i := 992) (by decide +kernel), List.mem_of_getElem? (i := 993) (by decide +kernel)⟩
theorem lw_p52 : lw_okq (⟨"ShadowTaxModel", "atom3", "()I"⟩, 43) := ⟨⟨by decide +kernel, by decide +kernel⟩, List.mem_of_getElem? (i := 693) (by decide +kernel), List.mem_of_getElem? (i := 996) (by decide +kernel), List.mem_of_getElem? (i := 997) (by decide +kernel)⟩
theorem lw_p53 : lw_okq (⟨"ShadowTaxModel", "either4", "()I"⟩, 43) := ⟨⟨by decide +kernel, by decide +kernel⟩, List.mem_of_getElem? (i := 693) (by decide +kernel), List.mem_of_getElem? (i := 1000) (by decide +kernel), List.mem_of_getElem? (i := 1001) (by decide +kernel)⟩
theorem lw_p54 : lw_okq (⟨"ShadowTaxModel", "both4", "()I"⟩, 43) := ⟨⟨by decide +kernel, by decide +kernel⟩, List.mem_of_getElem? (i := 693) (by decide +kernel), List.mem_of_getElem? (i := 1004) (by decide +kernel), List.mem_of_getElem? (i := 1005) (by decide +kernel)⟩
theorem lw_p55 : lw_okq (⟨"ShadowTaxModel", "added2", "()I"⟩, 43) := ⟨⟨by decide +kernel, by decide +kernel⟩, List.mem_of_getElem? (i := 693) (by decide +kernel), List.mem_of_getElem? (i := 1008) (by decide +kernel), List.mem_of_getElem? (i := 1009) (by decide +kernel)⟩
theorem lw_p56 : lw_okq (⟨"ShadowTaxModel", "term2", "()I"⟩, 43) := ⟨⟨by decide +kernel, by decide +kernel⟩, List.mem_of_getElem? (i := 693) (by decide +kernel), List.mem_of_getElem? (i := 1012) (by decide +kernel), List.mem_of_getElem? (i := 1013) (by decide +kernel)⟩
theorem lw_p57 : lw_okq (⟨"ShadowTaxModel", "atom2", "()I"⟩, 43) := ⟨⟨by decide +kernel, by decide +kernel⟩, List.mem_of_getElem? (i := 693) (by decide +kernel), List.mem_of_getElem? (i := 1016) (by decide +kernel), List.mem_of_getElem? (i := 1017) (by decide +kernel)⟩
theorem lw_p58 : lw_okq (⟨"ShadowTaxModel", "either3", "()I"⟩, 43) := ⟨⟨by decide +kernel, by decide +kernel⟩, List.mem_of_getElem? (i := 693) (by decide +kernel), List.mem_of_getElem? (i := 1020) (by decide +kernel), List.mem_of_getElem? (i := 1021) (by decide +kernel)⟩
theorem lw_p59 : lw_okq (⟨"ShadowTaxModel", "both3", "()I"⟩, 43) := ⟨⟨by decide +kernel, by decide +kernel⟩, List.mem_of_getElem? (i := 693) (by decide +kernel), List.mem_of_getElem? (i := 1024) (by decide +kernel), List.mem_of_getElem? (i := 1025) (by decide +kernel)⟩
theorem lw_p60 : lw_okq (⟨"ShadowTaxModel", "added1", "()I"⟩, 43) := ⟨⟨by decide +kernel, by decide +kernel⟩, List.mem_of_getElem? (i := 693) (by decide +kernel), List.mem_of_getElem? (i := 1028) (by decide +kernel), List.mem_of_getElem? (i := 1029) (by decide +kernel)⟩
theorem lw_p61 : lw_okq (⟨"ShadowTaxModel", "term1", "()I"⟩, 43) := ⟨⟨by decide +kernel, by decide +kernel⟩, List.mem_of_getElem? (i := 693) (by decide +kernel), List.mem_of_getElem? (i := 1032) (by decide +kernel), List.mem_of_getElem? (i := 1033) (by decide +kernel)⟩
theorem lw_p62 : lw_okq (⟨"ShadowTaxModel", "atom1", "()I"⟩, 43) := ⟨⟨by decide +kernel, by decide +kernel⟩, List.mem_of_getElem? (i := 693) (by decide +kernel), List.mem_of_getElem? (i := 1036) (by decide +kernel), List.mem_of_getElem? (i := 1037) (by decide +kernel)⟩
theorem lw_p63 : lw_okq (⟨"ShadowTaxModel", "either2", "()I"⟩, 43) := ⟨⟨by decide +kernel, by decide +kernel⟩, List.mem_of_getElem? (i := 693) (by decide +kernel), List.mem_of_getElem? (i := 1040) (by decide +kernel), List.mem_of_getElem? (i := 1041) (by decide +kernel)⟩
def lw_privs_4 : List (MethodName × Nat) := [(⟨"ShadowTaxModel", "either5", "()I"⟩, 43), (⟨"ShadowTaxModel", "both5", "()I"⟩, 43), (⟨"ShadowTaxModel", "added3", "()I"⟩, 43), (⟨"ShadowTaxModel", "term3", "()I"⟩, 43), (⟨"ShadowTaxModel", "atom3", "()I"⟩, 43), (⟨"ShadowTaxModel", "either4", "()I"⟩, 43), (⟨"ShadowTaxModel", "both4", "()I"⟩, 43), (⟨"ShadowTaxModel", "added2", "()I"⟩, 43), (⟨"ShadowTaxModel", "term2", "()I"⟩, 43), (⟨"ShadowTaxModel", "atom2", "()I"⟩, 43), (⟨"ShadowTaxModel", "either3", "()I"⟩, 43), (⟨"ShadowTaxModel", "both3", "()I"⟩, 43), (⟨"ShadowTaxModel", "added1", "()I"⟩, 43), (⟨"ShadowTaxModel", "term1", "()I"⟩, 43), (⟨"ShadowTaxModel", "atom1", "()I"⟩, 43), (⟨"ShadowTaxModel", "either2", "()I"⟩, 43)]
theorem lw_r4 : ∀ q ∈ lw_privs_4, lw_okq q := List.forall_mem_cons.mpr ⟨lw_p48, List.forall_mem_cons.mpr ⟨lw_p49, List.forall_mem_cons.mpr ⟨lw_p50, List.forall_mem_cons.mpr ⟨lw_p51, List.forall_mem_cons.mpr ⟨lw_p52, List.forall_mem_cons.mpr ⟨lw_p53, List.forall_mem_cons.mpr ⟨lw_p54, List.forall_mem_cons.mpr ⟨lw_p55, List.forall_mem_cons.mpr ⟨lw_p56, List.forall_mem_cons.mpr ⟨lw_p57, List.forall_mem_cons.mpr ⟨lw_p58, List.forall_mem_cons.mpr ⟨lw_p59, List.forall_mem_cons.mpr ⟨lw_p60, List.forall_mem_cons.mpr ⟨lw_p61, List.forall_mem_cons.mpr ⟨lw_p62, List.forall_mem_cons.mpr ⟨lw_p63, fun _ h => absurd h List.not_mem_nil⟩⟩⟩⟩⟩⟩⟩⟩⟩⟩⟩⟩⟩⟩⟩⟩
theorem lw_p64 : lw_okq (⟨"ShadowTaxModel", "both2", "()I"⟩, 43) := ⟨⟨by decide +kernel, by decide +kernel⟩, List.mem_of_getElem? (i := 693) (by decide +kernel), List.mem_of_getElem? (i := 1044) (by decide +kernel), List.mem_of_getElem? (i := 1045) (by decide +kernel)⟩
theorem lw_p65 : lw_okq (⟨"ShadowTaxModel", "added0", "()I"⟩, 43) := ⟨⟨by decide +kernel, by decide +kernel⟩, List.mem_of_getElem? (i := 693) (by decide +kernel), List.mem_of_getElem? (i := 1048) (by decide +kernel), List.mem_of_getElem? (i := 1049) (by decide +kernel)⟩
theorem lw_p66 : lw_okq (⟨"ShadowTaxModel", "term0", "()I"⟩, 43) := ⟨⟨by decide +kernel, by decide +kernel⟩, List.mem_of_getElem? (i := 693) (by decide +kernel), List.mem_of_getElem? (i := 1052) (by decide +kernel), List.mem_of_getElem? (i := 1053) (by decide +kernel)⟩
theorem lw_p67 : lw_okq (⟨"ShadowTaxModel", "atom0", "()I"⟩, 43) := ⟨⟨by decide +kernel, by decide +kernel⟩, List.mem_of_getElem? (i := 693) (by decide +kernel), List.mem_of_getElem? (i := 1056) (by decide +kernel), List.mem_of_getElem? (i := 1057) (by decide +kernel)⟩
theorem lw_p68 : lw_okq (⟨"ShadowTaxModel", "either1", "()I"⟩, 43) := ⟨⟨by decide +kernel, by decide +kernel⟩, List.mem_of_getElem? (i := 693) (by decide +kernel), List.mem_of_getElem? (i := 1060) (by decide +kernel), List.mem_of_getElem? (i := 1061) (by decide +kernel)⟩
theorem lw_p69 : lw_okq (⟨"ShadowTaxModel", "both1", "()I"⟩, 43) := ⟨⟨by decide +kernel, by decide +kernel⟩, List.mem_of_getElem? (i := 693) (by decide +kernel), List.mem_of_getElem? (i := 1064) (by decide +kernel), List.mem_of_getElem? (i := 1065) (by decide +kernel)⟩
theorem lw_p70 : lw_okq (⟨"ShadowTaxModel", "gathers", "(I)V"⟩, 43) := ⟨⟨by decide +kernel, by decide +kernel⟩, List.mem_of_getElem? (i := 693) (by decide +kernel), List.mem_of_getElem? (i := 1081) (by decide +kernel), List.mem_of_getElem? (i := 1082) (by decide +kernel)⟩
theorem lw_p71 : lw_okq (⟨"ShadowTaxModel", "isDull", "(I)Z"⟩, 43) := ⟨⟨by decide +kernel, by decide +kernel⟩, List.mem_of_getElem? (i := 693) (by decide +kernel), List.mem_of_getElem? (i := 1085) (by decide +kernel), List.mem_of_getElem? (i := 1086) (by decide +kernel)⟩
theorem lw_p72 : lw_okq (⟨"ShadowTaxModel", "stands", "(III)V"⟩, 43) := ⟨⟨by decide +kernel, by decide +kernel⟩, List.mem_of_getElem? (i := 693) (by decide +kernel), List.mem_of_getElem? (i := 1089) (by decide +kernel), List.mem_of_getElem? (i := 1090) (by decide +kernel)⟩
theorem lw_p73 : lw_okq (⟨"ShadowTaxModel", "longOf", "(II)I"⟩, 43) := ⟨⟨by decide +kernel, by decide +kernel⟩, List.mem_of_getElem? (i := 693) (by decide +kernel), List.mem_of_getElem? (i := 1093) (by decide +kernel), List.mem_of_getElem? (i := 1094) (by decide +kernel)⟩
theorem lw_p74 : lw_okq (⟨"ShadowTaxModel", "says", "(IIII)I"⟩, 43) := ⟨⟨by decide +kernel, by decide +kernel⟩, List.mem_of_getElem? (i := 693) (by decide +kernel), List.mem_of_getElem? (i := 1097) (by decide +kernel), List.mem_of_getElem? (i := 1098) (by decide +kernel)⟩
theorem lw_p75 : lw_okq (⟨"ShadowTaxModel", "owesOf", "(III)I"⟩, 43) := ⟨⟨by decide +kernel, by decide +kernel⟩, List.mem_of_getElem? (i := 693) (by decide +kernel), List.mem_of_getElem? (i := 1104) (by decide +kernel), List.mem_of_getElem? (i := 1105) (by decide +kernel)⟩
theorem lw_p76 : lw_okq (⟨"ShadowTaxModel", "takesDay", "()I"⟩, 43) := ⟨⟨by decide +kernel, by decide +kernel⟩, List.mem_of_getElem? (i := 693) (by decide +kernel), List.mem_of_getElem? (i := 1115) (by decide +kernel), List.mem_of_getElem? (i := 1116) (by decide +kernel)⟩
theorem lw_p77 : lw_okq (⟨"ShadowTaxModel", "takesAll", "(I)I"⟩, 43) := ⟨⟨by decide +kernel, by decide +kernel⟩, List.mem_of_getElem? (i := 693) (by decide +kernel), List.mem_of_getElem? (i := 1119) (by decide +kernel), List.mem_of_getElem? (i := 1120) (by decide +kernel)⟩
theorem lw_p78 : lw_okq (⟨"ShadowTaxModel", "apart", "(I)I"⟩, 43) := ⟨⟨by decide +kernel, by decide +kernel⟩, List.mem_of_getElem? (i := 693) (by decide +kernel), List.mem_of_getElem? (i := 1132) (by decide +kernel), List.mem_of_getElem? (i := 1133) (by decide +kernel)⟩
theorem lw_p79 : lw_okq (⟨"ShadowTaxModel", "seeks", "(IIZ)V"⟩, 43) := ⟨⟨by decide +kernel, by decide +kernel⟩, List.mem_of_getElem? (i := 693) (by decide +kernel), List.mem_of_getElem? (i := 1140) (by decide +kernel), List.mem_of_getElem? (i := 1141) (by decide +kernel)⟩
def lw_privs_5 : List (MethodName × Nat) := [(⟨"ShadowTaxModel", "both2", "()I"⟩, 43), (⟨"ShadowTaxModel", "added0", "()I"⟩, 43), (⟨"ShadowTaxModel", "term0", "()I"⟩, 43), (⟨"ShadowTaxModel", "atom0", "()I"⟩, 43), (⟨"ShadowTaxModel", "either1", "()I"⟩, 43), (⟨"ShadowTaxModel", "both1", "()I"⟩, 43), (⟨"ShadowTaxModel", "gathers", "(I)V"⟩, 43), (⟨"ShadowTaxModel", "isDull", "(I)Z"⟩, 43), (⟨"ShadowTaxModel", "stands", "(III)V"⟩, 43), (⟨"ShadowTaxModel", "longOf", "(II)I"⟩, 43), (⟨"ShadowTaxModel", "says", "(IIII)I"⟩, 43), (⟨"ShadowTaxModel", "owesOf", "(III)I"⟩, 43), (⟨"ShadowTaxModel", "takesDay", "()I"⟩, 43), (⟨"ShadowTaxModel", "takesAll", "(I)I"⟩, 43), (⟨"ShadowTaxModel", "apart", "(I)I"⟩, 43), (⟨"ShadowTaxModel", "seeks", "(IIZ)V"⟩, 43)]
theorem lw_r5 : ∀ q ∈ lw_privs_5, lw_okq q := List.forall_mem_cons.mpr ⟨lw_p64, List.forall_mem_cons.mpr ⟨lw_p65, List.forall_mem_cons.mpr ⟨lw_p66, List.forall_mem_cons.mpr ⟨lw_p67, List.forall_mem_cons.mpr ⟨lw_p68, List.forall_mem_cons.mpr ⟨lw_p69, List.forall_mem_cons.mpr ⟨lw_p70, List.forall_mem_cons.mpr ⟨lw_p71, List.forall_mem_cons.mpr ⟨lw_p72, List.forall_mem_cons.mpr ⟨lw_p73, List.forall_mem_cons.mpr ⟨lw_p74, List.forall_mem_cons.mpr ⟨lw_p75, List.forall_mem_cons.mpr ⟨lw_p76, List.forall_mem_cons.mpr ⟨lw_p77, List.forall_mem_cons.mpr ⟨lw_p78, List.forall_mem_cons.mpr ⟨lw_p79, fun _ h => absurd h List.not_mem_nil⟩⟩⟩⟩⟩⟩⟩⟩⟩⟩⟩⟩⟩⟩⟩⟩
theorem lw_p80 : lw_okq (⟨"ShadowTaxModel", "dueOf", "(II)I"⟩, 43) := ⟨⟨by decide +kernel, by decide +kernel⟩, List.mem_of_getElem? (i := 693) (by decide +kernel), List.mem_of_getElem? (i := 1144) (by decide +kernel), List.mem_of_getElem? (i := 1145) (by decide +kernel)⟩
theorem lw_p81 : lw_okq (⟨"ShadowTaxModel", "firstOther", "(II)I"⟩, 43) := ⟨⟨by decide +kernel, by decide +kernel⟩, List.mem_of_getElem? (i := 693) (by decide +kernel), List.mem_of_getElem? (i := 1167) (by decide +kernel), List.mem_of_getElem? (i := 1168) (by decide +kernel)⟩
theorem lw_p82 : lw_okq (⟨"ShadowTaxModel", "cloudsBy", "(II)I"⟩, 43) := ⟨⟨by decide +kernel, by decide +kernel⟩, List.mem_of_getElem? (i := 693) (by decide +kernel), List.mem_of_getElem? (i := 1171) (by decide +kernel), List.mem_of_getElem? (i := 1172) (by decide +kernel)⟩
theorem lw_p83 : lw_okq (⟨"ShadowTaxModel", "takesBy", "(I)I"⟩, 43) := ⟨⟨by decide +kernel, by decide +kernel⟩, List.mem_of_getElem? (i := 693) (by decide +kernel), List.mem_of_getElem? (i := 1188) (by decide +kernel), List.mem_of_getElem? (i := 1189) (by decide +kernel)⟩
def lw_privs_6 : List (MethodName × Nat) := [(⟨"ShadowTaxModel", "dueOf", "(II)I"⟩, 43), (⟨"ShadowTaxModel", "firstOther", "(II)I"⟩, 43), (⟨"ShadowTaxModel", "cloudsBy", "(II)I"⟩, 43), (⟨"ShadowTaxModel", "takesBy", "(I)I"⟩, 43)]
theorem lw_r6 : ∀ q ∈ lw_privs_6, lw_okq q := List.forall_mem_cons.mpr ⟨lw_p80, List.forall_mem_cons.mpr ⟨lw_p81, List.forall_mem_cons.mpr ⟨lw_p82, List.forall_mem_cons.mpr ⟨lw_p83, fun _ h => absurd h List.not_mem_nil⟩⟩⟩⟩
def lw_privs : List (MethodName × Nat) := lw_privs_1 ++ (lw_privs_2 ++ (lw_privs_3 ++ (lw_privs_4 ++ (lw_privs_5 ++ (lw_privs_6)))))
def lw_tbl : List Cond := k2_sels lw_privs ++ tables_1
theorem lw_privs_ok : ∀ q ∈ lw_privs, lw_okq q := by
  show ∀ q ∈ lw_privs_1 ++ (lw_privs_2 ++ (lw_privs_3 ++ (lw_privs_4 ++ (lw_privs_5 ++ (lw_privs_6))))), lw_okq q
  exact List.forall_mem_append.mpr ⟨lw_r1, List.forall_mem_append.mpr ⟨lw_r2, List.forall_mem_append.mpr ⟨lw_r3, List.forall_mem_append.mpr ⟨lw_r4, List.forall_mem_append.mpr ⟨lw_r5, lw_r6⟩⟩⟩⟩⟩
end
section
def RX0 : String := "ShadowTax$Image"
def TX0 : u_T := fun k => match k with
  | 0 => ("ShadowTax$Image", "any", "Z", false)
  | 1 => ("ShadowTax$Image", "many", "I", false)
  | 2 => ("ShadowTax$Image", "ruling", "I", false)
  | 3 => ("ShadowTax$Image", "day", "I", false)
  | 4 => ("ShadowTax$Image", "clouds", "I", false)
  | 5 => ("ShadowTax$Image", "numbers", "[I", true)
  | 6 => ("ShadowTax$Image", "heights", "[I", true)
  | _ => ("ShadowTax$Image", "cells", "[I", true)
def tyX0 : Nat → FieldType := fun k => match k with
  | 0 => .boolean
  | 1 => .int
  | 2 => .int
  | 3 => .int
  | 4 => .int
  | 5 => .array .int
  | 6 => .array .int
  | _ => .array .int
theorem nmX0 : ∀ a, a < 8 → ∀ b, b < 8 → a ≠ b → (TX0 a).2.1 ≠ (TX0 b).2.1 := by decide +kernel
theorem tyX0_ok : ∀ k, k < 8 → parseFieldDescriptor (TX0 k).2.2.1 = some (tyX0 k) := by decide +kernel
def RX1 : String := "ShadowTax$Reader"
def TX1 : u_T := fun k => match k with
  | 0 => ("ShadowTax$Reader", "size", "I", false)
  | 1 => ("ShadowTax$Reader", "tape", "[I", true)
  | 2 => ("ShadowTax$Reader", "next", "I", false)
  | 3 => ("ShadowTax$Reader", "begin", "I", false)
  | 4 => ("ShadowTax$Reader", "token", "I", false)
  | 5 => ("ShadowTax$Reader", "fault", "I", false)
  | _ => ("ShadowTax$Reader", "rule", "LShadowTax$Rule;", false)
def tyX1 : Nat → FieldType := fun k => match k with
  | 0 => .int
  | 1 => .array .int
  | 2 => .int
  | 3 => .int
  | 4 => .int
  | 5 => .int
  | _ => .object "ShadowTax$Rule"
theorem nmX1 : ∀ a, a < 7 → ∀ b, b < 7 → a ≠ b → (TX1 a).2.1 ≠ (TX1 b).2.1 := by decide +kernel
theorem tyX1_ok : ∀ k, k < 7 → parseFieldDescriptor (TX1 k).2.2.1 = some (tyX1 k) := by decide +kernel
def RX2 : String := "ShadowTax$Rule"
def TX2 : u_T := fun k => match k with
  | 0 => ("ShadowTax$Rule", "steps", "[I", true)
  | 1 => ("ShadowTax$Rule", "ends", "[I", true)
  | 2 => ("ShadowTax$Rule", "size", "I", false)
  | _ => ("ShadowTax$Rule", "parts", "I", false)
def tyX2 : Nat → FieldType := fun k => match k with
  | 0 => .array .int
  | 1 => .array .int
  | 2 => .int
  | _ => .int
theorem nmX2 : ∀ a, a < 4 → ∀ b, b < 4 → a ≠ b → (TX2 a).2.1 ≠ (TX2 b).2.1 := by decide +kernel
theorem tyX2_ok : ∀ k, k < 4 → parseFieldDescriptor (TX2 k).2.2.1 = some (tyX2 k) := by decide +kernel
def RX3 : String := "ShadowTax$Sheet"
def TX3 : u_T := fun k => match k with
  | 0 => ("ShadowTax$Sheet", "numbers", "[I", true)
  | 1 => ("ShadowTax$Sheet", "sort", "I", false)
  | _ => ("ShadowTax$Sheet", "size", "I", false)
def tyX3 : Nat → FieldType := fun k => match k with
  | 0 => .array .int
  | 1 => .int
  | _ => .int
theorem nmX3 : ∀ a, a < 3 → ∀ b, b < 3 → a ≠ b → (TX3 a).2.1 ≠ (TX3 b).2.1 := by decide +kernel
theorem tyX3_ok : ∀ k, k < 3 → parseFieldDescriptor (TX3 k).2.2.1 = some (tyX3 k) := by decide +kernel
def RX4 : String := "ShadowTax$Square"
def TX4 : u_T := fun k => match k with
  | 0 => ("ShadowTax$Square", "things", "[LShadowTax$Thing;", true)
  | 1 => ("ShadowTax$Square", "texts", "[LShadowTax$Rule;", true)
  | 2 => ("ShadowTax$Square", "many", "I", false)
  | 3 => ("ShadowTax$Square", "made", "I", false)
  | 4 => ("ShadowTax$Square", "ruling", "I", false)
  | 5 => ("ShadowTax$Square", "day", "I", false)
  | 6 => ("ShadowTax$Square", "clouds", "I", false)
  | 7 => ("ShadowTax$Square", "longs", "[I", true)
  | 8 => ("ShadowTax$Square", "dues", "[I", true)
  | 9 => ("ShadowTax$Square", "hidden", "I", false)
  | 10 => ("ShadowTax$Square", "shadowed", "I", false)
  | 11 => ("ShadowTax$Square", "away", "I", false)
  | 12 => ("ShadowTax$Square", "values", "[I", true)
  | _ => ("ShadowTax$Square", "stack", "[I", true)
def tyX4 : Nat → FieldType := fun k => match k with
  | 0 => .array (.object "ShadowTax$Thing")
  | 1 => .array (.object "ShadowTax$Rule")
  | 2 => .int
  | 3 => .int
  | 4 => .int
  | 5 => .int
  | 6 => .int
  | 7 => .array .int
  | 8 => .array .int
  | 9 => .int
  | 10 => .int
  | 11 => .int
  | 12 => .array .int
  | _ => .array .int
theorem nmX4 : ∀ a, a < 14 → ∀ b, b < 14 → a ≠ b → (TX4 a).2.1 ≠ (TX4 b).2.1 := by decide +kernel
theorem tyX4_ok : ∀ k, k < 14 → parseFieldDescriptor (TX4 k).2.2.1 = some (tyX4 k) := by decide +kernel
def RX5 : String := "ShadowTax$Thing"
def TX5 : u_T := fun k => match k with
  | 0 => ("ShadowTax$Thing", "kind", "I", false)
  | 1 => ("ShadowTax$Thing", "number", "I", false)
  | 2 => ("ShadowTax$Thing", "height", "I", false)
  | _ => ("ShadowTax$Thing", "on", "I", false)
def tyX5 : Nat → FieldType := fun k => match k with
  | 0 => .int
  | 1 => .int
  | 2 => .int
  | _ => .int
theorem nmX5 : ∀ a, a < 4 → ∀ b, b < 4 → a ≠ b → (TX5 a).2.1 ≠ (TX5 b).2.1 := by decide +kernel
theorem tyX5_ok : ∀ k, k < 4 → parseFieldDescriptor (TX5 k).2.2.1 = some (tyX5 k) := by decide +kernel
def RX6 : String := "ShadowTax"
def TX6 : u_T := fun k => match k with
  | 0 => ("ShadowTax", "square", "LShadowTax$Square;", true)
  | 1 => ("ShadowTax", "reader", "LShadowTax$Reader;", true)
  | 2 => ("ShadowTax", "kept", "LShadowTax$Image;", true)
  | 3 => ("ShadowTax", "sheets", "[LShadowTax$Sheet;", true)
  | _ => ("ShadowTax", "clear", "[I", true)
def tyX6 : Nat → FieldType := fun k => match k with
  | 0 => .object "ShadowTax$Square"
  | 1 => .object "ShadowTax$Reader"
  | 2 => .object "ShadowTax$Image"
  | 3 => .array (.object "ShadowTax$Sheet")
  | _ => .array .int
theorem nmX6 : ∀ a, a < 5 → ∀ b, b < 5 → a ≠ b → (TX6 a).2.1 ≠ (TX6 b).2.1 := by decide +kernel
theorem tyX6_ok : ∀ k, k < 5 → parseFieldDescriptor (TX6 k).2.2.1 = some (tyX6 k) := by decide +kernel
def RX7 : String := "ShadowTaxModel"
def TX7 : u_T := fun k => match k with
  | 0 => ("ShadowTaxModel", "thrown", "I", false)
  | 1 => ("ShadowTaxModel", "texts", "[I", true)
  | 2 => ("ShadowTaxModel", "textSize", "[I", true)
  | 3 => ("ShadowTaxModel", "textCount", "I", false)
  | 4 => ("ShadowTaxModel", "rule", "I", false)
  | 5 => ("ShadowTaxModel", "tape", "[I", true)
  | 6 => ("ShadowTaxModel", "taped", "I", false)
  | 7 => ("ShadowTaxModel", "dayNow", "I", false)
  | 8 => ("ShadowTaxModel", "clouds", "I", false)
  | 9 => ("ShadowTaxModel", "kinds", "[I", true)
  | 10 => ("ShadowTaxModel", "rows", "[I", true)
  | 11 => ("ShadowTaxModel", "many", "I", false)
  | 12 => ("ShadowTaxModel", "ofHour", "I", false)
  | 13 => ("ShadowTaxModel", "ofHeight", "I", false)
  | 14 => ("ShadowTaxModel", "ofNumber", "I", false)
  | 15 => ("ShadowTaxModel", "ofLong", "I", false)
  | 16 => ("ShadowTaxModel", "ofDay", "I", false)
  | 17 => ("ShadowTaxModel", "ofCell", "I", false)
  | 18 => ("ShadowTaxModel", "from", "I", false)
  | 19 => ("ShadowTaxModel", "size", "I", false)
  | 20 => ("ShadowTaxModel", "here", "I", false)
  | 21 => ("ShadowTaxModel", "token", "I", false)
  | 22 => ("ShadowTaxModel", "tokenAt", "I", false)
  | 23 => ("ShadowTaxModel", "tokenWorth", "J", false)
  | 24 => ("ShadowTaxModel", "open", "I", false)
  | 25 => ("ShadowTaxModel", "bad", "Z", false)
  | 26 => ("ShadowTaxModel", "fault", "I", false)
  | 27 => ("ShadowTaxModel", "gone", "I", false)
  | 28 => ("ShadowTaxModel", "longs", "[I", true)
  | 29 => ("ShadowTaxModel", "hidden", "[I", true)
  | 30 => ("ShadowTaxModel", "due", "[I", true)
  | 31 => ("ShadowTaxModel", "darkSet", "I", false)
  | 32 => ("ShadowTaxModel", "found", "I", false)
  | 33 => ("ShadowTaxModel", "value", "I", false)
  | 34 => ("ShadowTaxModel", "rowsKept", "[I", true)
  | 35 => ("ShadowTaxModel", "manyKept", "I", false)
  | 36 => ("ShadowTaxModel", "dayKept", "I", false)
  | 37 => ("ShadowTaxModel", "cloudsKept", "I", false)
  | 38 => ("ShadowTaxModel", "ruleKept", "I", false)
  | 39 => ("ShadowTaxModel", "isThere", "[Z", true)
  | 40 => ("ShadowTaxModel", "sorts", "[I", true)
  | 41 => ("ShadowTaxModel", "sheetSize", "[I", true)
  | _ => ("ShadowTaxModel", "items", "[I", true)
def tyX7 : Nat → FieldType := fun k => match k with
  | 0 => .int
  | 1 => .array .int
  | 2 => .array .int
  | 3 => .int
  | 4 => .int
  | 5 => .array .int
  | 6 => .int
  | 7 => .int
  | 8 => .int
  | 9 => .array .int
  | 10 => .array .int
  | 11 => .int
  | 12 => .int
  | 13 => .int
  | 14 => .int
  | 15 => .int
  | 16 => .int
  | 17 => .int
  | 18 => .int
  | 19 => .int
  | 20 => .int
  | 21 => .int
  | 22 => .int
  | 23 => .long
  | 24 => .int
  | 25 => .boolean
  | 26 => .int
  | 27 => .int
  | 28 => .array .int
  | 29 => .array .int
  | 30 => .array .int
  | 31 => .int
  | 32 => .int
  | 33 => .int
  | 34 => .array .int
  | 35 => .int
  | 36 => .int
  | 37 => .int
  | 38 => .int
  | 39 => .array .boolean
  | 40 => .array .int
  | 41 => .array .int
  | _ => .array .int
theorem nmX7 : ∀ a, a < 43 → ∀ b, b < 43 → a ≠ b → (TX7 a).2.1 ≠ (TX7 b).2.1 := by decide +kernel
theorem tyX7_ok : ∀ k, k < 43 → parseFieldDescriptor (TX7 k).2.2.1 = some (tyX7 k) := by decide +kernel
/-! the classes whose objects the worlds hold, by number: 0 Image, 1 Reader, 2 Rule, 3 Sheet, 4 Square, 5 Thing, 6 ShadowTax, 7 ShadowTaxModel -/
def clT : List vw_C := [(RX0, TX0, 8), (RX1, TX1, 7), (RX2, TX2, 4), (RX3, TX3, 3), (RX4, TX4, 14), (RX5, TX5, 4), (RX6, TX6, 5), (RX7, TX7, 43)]
def ctT : List (Nat → FieldType) := [tyX0, tyX1, tyX2, tyX3, tyX4, tyX5, tyX6, tyX7]
/-- the words that are good at every state behind the start -/
def tbG : List Cond := lw_tbl.filter goodWord
theorem tbG_mem {w : Cond} (i : Nat) (h : lw_tbl[i]? = some w) (hg : goodWord w = true) : w ∈ tbG := List.mem_filter.mpr ⟨List.mem_of_getElem? h, hg⟩
theorem tbG_good {w : Cond} (h : w ∈ tbG) : (w.onTables && w.keeps) = true ∨ ∃ ty, w = .arrayClass ty := good_of_word (List.mem_filter.mp h).2
theorem tbG_sub {ws : List Cond} (ps : List Nat) (hp : ws = ps.filterMap (fun i => lw_tbl[i]?)) (h : ws.all goodWord = true) : ∀ w ∈ ws, w ∈ tbG := by
  intro w hw
  have h1 := List.all_eq_true.mp h w hw
  rw [hp] at hw
  obtain ⟨i, -, hi⟩ := List.mem_filterMap.mp hw
  exact List.mem_filter.mpr ⟨List.mem_of_getElem? hi, h1⟩
theorem u_X0 : ∀ w ∈ u_ws RX0 TX0 8, w ∈ tbG := tbG_sub [282, 284, 286, 288, 290, 292, 294, 296] (by decide +kernel) (by decide +kernel)
theorem u_X1 : ∀ w ∈ u_ws RX1 TX1 7, w ∈ tbG := tbG_sub [252, 254, 256, 258, 260, 262, 264] (by decide +kernel) (by decide +kernel)
theorem u_X2 : ∀ w ∈ u_ws RX2 TX2 4, w ∈ tbG := tbG_sub [155, 157, 159, 161] (by decide +kernel) (by decide +kernel)
theorem u_X3 : ∀ w ∈ u_ws RX3 TX3 3, w ∈ tbG := tbG_sub [312, 314, 316] (by decide +kernel) (by decide +kernel)
theorem u_X4 : ∀ w ∈ u_ws RX4 TX4 14, w ∈ tbG := tbG_sub [209, 211, 213, 215, 217, 219, 221, 223, 225, 227, 229, 231, 233, 235] (by decide +kernel) (by decide +kernel)
theorem u_X5 : ∀ w ∈ u_ws RX5 TX5 4, w ∈ tbG := tbG_sub [136, 138, 140, 142] (by decide +kernel) (by decide +kernel)
theorem u_X6 : ∀ w ∈ u_ws RX6 TX6 5, w ∈ tbG := tbG_sub [324, 326, 328, 330, 332] (by decide +kernel) (by decide +kernel)
theorem u_X7 : ∀ w ∈ u_ws RX7 TX7 43, w ∈ tbG := tbG_sub [828, 830, 832, 834, 836, 838, 840, 842, 844, 846, 848, 850, 852, 854, 856, 858, 860, 862, 864, 866, 868, 870, 872, 874, 876, 878, 880, 882, 884, 886, 888, 890, 892, 894, 896, 898, 900, 902, 904, 906, 908, 910, 912] (by decide +kernel) (by decide +kernel)
end
section
/-! THE JUDGEMENT: a method's walk over a pure memory. Cells are numbered from 0 on (the law's own heap size is the base); a cell's shape is (kind, size): a class's number, 10 int[], 11 boolean[], 20 + n an array of class n. -/
abbrev zMD : Type := MethodName × ByteArray × Nat × Option FieldType
abbrev zSh : Type := Nat × Nat
abbrev zMem : Type := (Nat → Nat → Int32) × (Nat → Nat → Int64) × (Nat → Nat → Option Nat)
abbrev zXs : Type := Nat × (Nat → Int32)
abbrev zLs : Type := List (Option Value)
abbrev zRQ : Type := Option Value → List zSh → zMem → Prop
def z_up {α : Type} (f : Nat → Nat → α) (a k : Nat) (v : α) : Nat → Nat → α := fun b j => if b = a ∧ j = k then v else f b j
theorem z_up_s {α : Type} (f : Nat → Nat → α) (a k : Nat) (v : α) : z_up f a k v a k = v := if_pos ⟨rfl, rfl⟩
theorem z_up_n {α : Type} (f : Nat → Nat → α) (a k b j : Nat) (v : α) (h : ¬ (b = a ∧ j = k)) : z_up f a k v b j = f b j := if_neg h
theorem z_up_o {α : Type} (f : Nat → Nat → α) (a k b : Nat) (v : α) (h : b ≠ a) : z_up f a k v b = f b := funext fun _ => if_neg fun q => h q.1
def z_sI (μ : zMem) (a k : Nat) (v : Int32) : zMem := (z_up μ.1 a k v, μ.2.1, μ.2.2)
def z_sL (μ : zMem) (a k : Nat) (v : Int64) : zMem := (μ.1, z_up μ.2.1 a k v, μ.2.2)
def z_sR (μ : zMem) (a k : Nat) (v : Option Nat) : zMem := (μ.1, μ.2.1, z_up μ.2.2 a k v)
def z_tk : FieldType → Nat
  | .int => 0
  | .boolean => 0
  | .long => 1
  | _ => 2
def z_ft (ci k : Nat) : FieldType := (ctT.getD ci tyX0) k
def z_fk (ci k : Nat) : Nat := z_tk (z_ft ci k)
def z_nf (ci : Nat) : Nat := match clT[ci]? with
  | some q => q.2.2
  | none => 0
def z_rv : Option Nat → Value
  | none => .null
  | some a => .ref a
def z_fv (μ : zMem) (a ci k : Nat) : Value := match z_fk ci k with
  | 0 => .int (μ.1 a k)
  | 1 => .long (μ.2.1 a k)
  | _ => z_rv (μ.2.2 a k)
def z_ta (b : Nat) (oa : Nat → Nat) (k : Nat) : Nat := if k < 1000000 then b + k else oa (k - 1000000)
def z_tr (b : Nat) (oa : Nat → Nat) : Value → Value
  | .ref k => .ref (z_ta b oa k)
  | v => v
theorem z_tr_rv (b : Nat) (oa : Nat → Nat) (o : Option Nat) : z_tr b oa (z_rv o) = va_rf (o.map (z_ta b oa)) := by cases o <;> rfl
theorem z_tr_cat (b : Nat) (oa : Nat → Nat) (v : Value) : (z_tr b oa v).category = v.category := by cases v <;> rfl
def z_ent (b : Nat) (oa : Nat → Nat) (ca : Nat → ClassId) (sh : zSh) (μ : zMem) (a : Nat) : va_E :=
  if sh.1 < 10 then .inr (sh.1, (List.range (z_nf sh.1)).map (fun k => z_tr b oa (z_fv μ a sh.1 k)))
  else if sh.1 < 20 then .inl (ca sh.1, sh.2, .inl (μ.1 a))
  else .inl (ca sh.1, sh.2, .inr (.inr (.inr (.inr (fun i => (μ.2.2 a i).map (z_ta b oa))))))
def z_ws (b : Nat) (oa : Nat → Nat) (ca : Nat → ClassId) (L : List zSh) (μ : zMem) : va_W := (List.range L.length).map (fun a => (b + a, z_ent b oa ca (L.getD a (0, 0)) μ a))
theorem z_ws_len {b : Nat} {oa : Nat → Nat} {ca : Nat → ClassId} {L : List zSh} {μ : zMem} : (z_ws b oa ca L μ).length = L.length := by simp [z_ws]
theorem z_ws_get {b : Nat} {oa : Nat → Nat} {ca : Nat → ClassId} {L : List zSh} {μ : zMem} {a : Nat} {sh : zSh} (h : L[a]? = some sh) : (z_ws b oa ca L μ)[a]? = some (b + a, z_ent b oa ca sh μ a) := by
  have hl : a < L.length := (List.getElem?_eq_some_iff.mp h).1
  have h2 : L.getD a (0, 0) = sh := by rw [List.getD_eq_getElem?_getD, h]; rfl
  unfold z_ws
  rw [List.getElem?_map, List.getElem?_range hl]
  show some (b + a, z_ent b oa ca (L.getD a (0, 0)) μ a) = _
  rw [h2]
theorem z_ws_inv {b : Nat} {oa : Nat → Nat} {ca : Nat → ClassId} {L : List zSh} {μ : zMem} {a : Nat} {q : Nat × va_E} (h : (z_ws b oa ca L μ)[a]? = some q) : a < L.length ∧ q = (b + a, z_ent b oa ca (L.getD a (0, 0)) μ a) := by
  have hl : a < L.length := by
    have := (List.getElem?_eq_some_iff.mp h).1
    rwa [z_ws_len] at this
  refine ⟨hl, ?_⟩
  unfold z_ws at h
  rw [List.getElem?_map, List.getElem?_range hl] at h
  exact (Option.some.inj h).symm
theorem z_ws_D {b : Nat} {oa : Nat → Nat} {ca : Nat → ClassId} {L : List zSh} {μ : zMem} : va_D (fun q => b ≤ q) (z_ws b oa ca L μ) := by
  refine ⟨fun i j p q hp hq h => ?_, fun k q hq => ?_⟩
  · obtain ⟨-, rfl⟩ := z_ws_inv hp
    obtain ⟨-, rfl⟩ := z_ws_inv hq
    have h : b + i = b + j := h
    omega
  · obtain ⟨-, rfl⟩ := z_ws_inv hq
    exact Nat.le_add_right _ _
theorem z_ws_set {b : Nat} {oa : Nat → Nat} {ca : Nat → ClassId} {L : List zSh} {μ μ' : zMem} {a : Nat} {sh : zSh} {e : va_E} (h : L[a]? = some sh) (he : e = z_ent b oa ca sh μ' a) (ho : ∀ x, x ≠ a → ∀ s, z_ent b oa ca s μ' x = z_ent b oa ca s μ x) : (z_ws b oa ca L μ).set a (b + a, e) = z_ws b oa ca L μ' := by
  have hl : a < L.length := (List.getElem?_eq_some_iff.mp h).1
  have h2 : L.getD a (0, 0) = sh := by rw [List.getD_eq_getElem?_getD, h]; rfl
  refine List.ext_getElem? fun i => ?_
  rw [List.getElem?_set]
  by_cases hi : a = i
  · subst hi
    rw [if_pos rfl, if_pos (by rw [z_ws_len]; exact hl), z_ws_get h, he]
  · rw [if_neg hi]
    unfold z_ws
    rw [List.getElem?_map, List.getElem?_map]
    cases hr : (List.range L.length)[i]? with
    | none => rfl
    | some j =>
      have hj : i = j := by
        obtain ⟨h3, h4⟩ := List.getElem?_eq_some_iff.mp hr
        simpa using h4
      subst hj
      show some (b + i, _) = some (b + i, _)
      rw [ho i (Ne.symm hi)]
theorem z_ent_I {b : Nat} {oa : Nat → Nat} {ca : Nat → ClassId} {μ : zMem} {a k : Nat} {v : Int32} (x : Nat) (hx : x ≠ a) (s : zSh) : z_ent b oa ca s (z_sI μ a k v) x = z_ent b oa ca s μ x := by
  unfold z_ent z_fv z_sI
  dsimp only
  rw [z_up_o _ _ _ _ _ hx]
theorem z_ent_L {b : Nat} {oa : Nat → Nat} {ca : Nat → ClassId} {μ : zMem} {a k : Nat} {v : Int64} (x : Nat) (hx : x ≠ a) (s : zSh) : z_ent b oa ca s (z_sL μ a k v) x = z_ent b oa ca s μ x := by
  unfold z_ent z_fv z_sL
  dsimp only
  rw [z_up_o _ _ _ _ _ hx]
theorem z_ent_R {b : Nat} {oa : Nat → Nat} {ca : Nat → ClassId} {μ : zMem} {a k : Nat} {v : Option Nat} (x : Nat) (hx : x ≠ a) (s : zSh) : z_ent b oa ca s (z_sR μ a k v) x = z_ent b oa ca s μ x := by
  unfold z_ent z_fv z_sR
  dsimp only
  rw [z_up_o _ _ _ _ _ hx]
/-- a field's put -/
theorem z_fs_set {b : Nat} {oa : Nat → Nat} {μ μ' : zMem} {a ci k : Nat} {v : Value} {N : Nat} (hk : z_fv μ' a ci k = v) (ho : ∀ j, j ≠ k → z_fv μ' a ci j = z_fv μ a ci j) : ((List.range N).map (fun j => z_tr b oa (z_fv μ a ci j))).set k (z_tr b oa v) = (List.range N).map (fun j => z_tr b oa (z_fv μ' a ci j)) := by
  refine List.ext_getElem? fun i => ?_
  rw [List.getElem?_set]
  by_cases hi : k = i
  · subst hi
    by_cases hl : k < N
    · rw [if_pos rfl, if_pos (by simpa using hl), List.getElem?_map, List.getElem?_range hl]
      show some (z_tr b oa v) = some (z_tr b oa (z_fv μ' a ci k))
      rw [hk]
    · rw [if_pos rfl, if_neg (by simpa using hl), List.getElem?_eq_none (by simpa using hl)]
  · rw [if_neg hi, List.getElem?_map, List.getElem?_map]
    cases hr : (List.range N)[i]? with
    | none => rfl
    | some j =>
      have hj : i = j := by
        obtain ⟨h3, h4⟩ := List.getElem?_eq_some_iff.mp hr
        simpa using h4
      subst hj
      show some (z_tr b oa (z_fv μ a ci i)) = some (z_tr b oa (z_fv μ' a ci i))
      rw [ho i (Ne.symm hi)]
end
section
/-! the context of a walk -/
abbrev zCx : Type := (Program × Launch × Env × Room × State) × (MethodId × Array Value × List Frame × Method × Code) × (Nat × (Nat → Nat) × va_G × (Nat → ClassId)) × ((State → Prop) × Nat × Nat)
def z_tys (ca : Nat → ClassId) : List (ClassId × FieldType) := [(ca 10, .int), (ca 11, .boolean), (ca 22, .object RX2), (ca 23, .object RX3), (ca 25, .object RX5)]
/-- nest mates' links -/
def z_ml : List (String × Nat × MethodName × String) := [("ShadowTax$Square", 40, ⟨"ShadowTax$Thing", "<init>", "()V"⟩, "ShadowTax"), ("ShadowTax$Square", 41, ⟨"ShadowTax$Rule", "<init>", "()V"⟩, "ShadowTax"), ("ShadowTax", 18, ⟨"ShadowTax$Reader", "<init>", "()V"⟩, "ShadowTax"), ("ShadowTax", 25, ⟨"ShadowTax$Image", "<init>", "()V"⟩, "ShadowTax"), ("ShadowTax", 40, ⟨"ShadowTax$Sheet", "<init>", "()V"⟩, "ShadowTax"), ("ShadowTax$Square", 110, ⟨"ShadowTax", "bounded", "(II)I"⟩, "ShadowTax"), ("ShadowTax$Thing", 28, ⟨"ShadowTax", "bounded", "(II)I"⟩, "ShadowTax"), ("ShadowTax$Square", 131, ⟨"ShadowTax", "bits", "(II)I"⟩, "ShadowTax")]
def z_fl : List (String × Nat × String × String × String × String) := [("ShadowTax$Square", 146, "ShadowTax", "LOWEST", "[I", "ShadowTax"), ("ShadowTax$Square", 149, "ShadowTax", "HIGHEST", "[I", "ShadowTax"), ("ShadowTax$Thing", 37, "ShadowTax", "ABOVE", "[I", "ShadowTax")]
/-- the String constants: place in the pool, text, bytes -/
def z_sk : List (Nat × String) := [(88, "hour"), (94, "height"), (96, "number"), (98, "long"), (100, "day"), (102, "cell"), (104, "slants"), (106, "dues"), (108, "sets"), (110, "or"), (112, "and"), (114, "not")]
def z_sb : List (List Int32) := [[104, 111, 117, 114], [104, 101, 105, 103, 104, 116], [110, 117, 109, 98, 101, 114], [108, 111, 110, 103], [100, 97, 121], [99, 101, 108, 108], [115, 108, 97, 110, 116, 115], [100, 117, 101, 115], [115, 101, 116, 115], [111, 114], [97, 110, 100], [110, 111, 116]]
def z_sl : List Nat := [4, 6, 6, 4, 3, 4, 6, 4, 4, 2, 3, 3]
def zNx (oa : Nat → Nat) (U : State) : Prop := (∀ q ∈ z_ml, va_Nw (.methodLinkNest q.1 q.2.1 q.2.2.1 q.2.2.2) U) ∧ (∀ q ∈ z_fl, va_Nw (.fieldLinkNest q.1 q.2.1 q.2.2.1 q.2.2.2.1 q.2.2.2.2.1 q.2.2.2.2.2) U) ∧ (∀ C ∈ [RX2, RX3, RX5], va_AO C U) ∧ ∀ (i : Nat) (q : Nat × String), z_sk[i]? = some q → vk_R "ShadowTax$Reader" q.1 q.2 (oa (10 + i)) U
/-- the outer arrays: 0 LOWEST, 1 HIGHEST, 2 ABOVE, 3 the script -/
def z_on (X : zXs) (j : Nat) : Nat := if j = 3 then X.1 else 6
def z_oc : List (List Int32) := [[0, 0, 0, 1, 0, 0], [364, 8191, 9, 20, 29, 5], [-1, 0, 0, 1, 2, 0]]
def z_of (X : zXs) (j : Nat) : Nat → Int32 := fun i => if j = 3 then X.2 i else (z_oc.getD j []).getD i 0
def zOut (b : Nat) (oa : Nat → Nat) (X : zXs) (U : State) (H : Heap) : Prop :=
  (∀ j, j < 4 → oa j < b ∧ va_X (oa j) (z_on X j) (z_of X j) U H) ∧ va_Z "ShadowTax" "LOWEST" "[I" (.ref (oa 0)) (fun q => b ≤ q) U H ∧ va_Z "ShadowTax" "HIGHEST" "[I" (.ref (oa 1)) (fun q => b ≤ q) U H ∧ va_Z "ShadowTax" "ABOVE" "[I" (.ref (oa 2)) (fun q => b ≤ q) U H ∧
  va_Z "java/lang/String" "COMPACT_STRINGS" "Z" (.int 1) (fun q => b ≤ q) U H ∧ (va_Z "jdk/internal/util/Preconditions" "SIOOBE_FORMATTER" "Ljava/util/function/BiFunction;" .null (fun q => b ≤ q) U H ∨ va_Z "jdk/internal/util/Preconditions" "SIOOBE_FORMATTER" "Ljava/util/function/BiFunction;" (.ref (oa 99)) (fun q => b ≤ q) U H) ∧ vk_S 12 z_sl z_sb (fun i => oa (10 + i)) (fun i => oa (30 + i)) (fun q => b ≤ q) U H
def zWd (b : Nat) (oa : Nat → Nat) (D : va_G) (ca : Nat → ClassId) (X : zXs) (U : State) (H : Heap) : Prop := va_K D clT (z_tys ca) U ∧ zNx oa U ∧ zOut b oa X U H ∧ b ≤ H.size
theorem zNx.warm {oa : Nat → Nat} {s U : State} (hW : s.WarmedH U.vm) (h : zNx oa s) : zNx oa U :=
  ⟨fun q hq => va_Nw.warmM hW (h.1 q hq), fun q hq => va_Nw.warmF hW (h.2.1 q hq), fun C hC => va_AO.moved hW.alike (h.2.2.1 C hC), fun i q hq => vk_R.warm hW (h.2.2.2 i q hq)⟩
theorem zNx.same {oa : Nat → Nat} {s U : State} (hv : U.vm = s.vm) (h : zNx oa s) : zNx oa U :=
  ⟨fun q hq => va_Nw.same rfl hv.symm (h.1 q hq), fun q hq => va_Nw.same rfl hv.symm (h.2.1 q hq), fun C hC => va_AO.moved (by rw [hv]; exact Vm.Alike.refl _) (h.2.2.1 C hC), fun i q hq => vk_R.same hv (h.2.2.2 i q hq)⟩
theorem zOut.moved {b : Nat} {oa : Nat → Nat} {X : zXs} {u U : State} {H : Heap} (hvm : u.vm.Alike U.vm) (h : zOut b oa X u H) : zOut b oa X U H := by
  obtain ⟨h1, h2, h3, h4, h5, h6, h7⟩ := h
  exact ⟨fun j hj => ⟨(h1 j hj).1, va_X.moved hvm (h1 j hj).2⟩, h2.moved hvm, h3.moved hvm, h4.moved hvm, h5.moved hvm, h6.imp (va_Z.moved hvm) (va_Z.moved hvm), h7.moved hvm⟩
theorem zOut.kept {b : Nat} {oa : Nat → Nat} {X : zXs} {U : State} {H H1 : Heap} (hb : b ≤ H.size) (hq : ∀ a : Nat, a < H.size → ¬ b ≤ a → H1[a]? = H[a]?) (h : zOut b oa X U H) : zOut b oa X U H1 := by
  obtain ⟨h1, h2, h3, h4, h5, h6, h7⟩ := h
  exact ⟨fun j hj => ⟨(h1 j hj).1, va_X.kept (h1 j hj).2 (hq _ (by have := (h1 j hj).1; omega) (by have := (h1 j hj).1; omega))⟩, h2.kept hq, h3.kept hq, h4.kept hq, h5.kept hq, h6.imp (fun z => va_Z.kept z hq) (fun z => va_Z.kept z hq), h7.kept hq⟩
theorem zWd.warm {b : Nat} {oa : Nat → Nat} {D : va_G} {ca : Nat → ClassId} {X : zXs} {s U : State} {H : Heap} (hW : s.WarmedH U.vm) (h : zWd b oa D ca X s H) : zWd b oa D ca X U H :=
  ⟨va_K.moved hW.alike h.1, h.2.1.warm hW, h.2.2.1.moved hW.alike, h.2.2.2⟩
theorem zWd.same {b : Nat} {oa : Nat → Nat} {D : va_G} {ca : Nat → ClassId} {X : zXs} {s U : State} {H : Heap} (hv : U.vm = s.vm) (h : zWd b oa D ca X s H) : zWd b oa D ca X U H :=
  ⟨va_K.moved (by rw [hv]; exact Vm.Alike.refl _) h.1, h.2.1.same hv, h.2.2.1.moved (by rw [hv]; exact Vm.Alike.refl _), h.2.2.2⟩
theorem zWd.kept {b : Nat} {oa : Nat → Nat} {D : va_G} {ca : Nat → ClassId} {X : zXs} {U : State} {H H1 : Heap} (hz : H.size ≤ H1.size) (hq : ∀ a : Nat, a < H.size → ¬ b ≤ a → H1[a]? = H[a]?) (h : zWd b oa D ca X U H) : zWd b oa D ca X U H1 :=
  ⟨h.1, h.2.1, h.2.2.1.kept h.2.2.2 hq, Nat.le_trans h.2.2.2 hz⟩
def zRel (b : Nat) (oa : Nat → Nat) (D : va_G) (ca : Nat → ClassId) (L : List zSh) (μ : zMem) (H : Heap) : Prop := va_P D clT (z_ws b oa ca L μ) H ∧ H.size = b + L.length
def zLR (M : zMD) (b : Nat) (oa : Nat → Nat) (ls : zLs) (lsM : Array Slot) : Prop := ls.length = M.2.2.1 ∧ lsM.size = M.2.2.1 ∧ lv_wf lsM ∧ ∀ (i : Nat) (v : Value), ls[i]? = some (some v) → lsM[i]? = some (.val (z_tr b oa v))
def zRet (M : zMD) (pc : Nat) (v : Option Value) : Prop := (decode M.2.1 pc = .ok (.return_, 1) ∧ v = none ∧ M.2.2.2 = none) ∨ (∃ (x : Int32) (ty : FieldType), decode M.2.1 pc = .ok (.ireturn, 1) ∧ v = some (.int x) ∧ M.2.2.2 = some ty ∧ narrow ty (.int x) = .int x) ∨ ∃ x : Int64, decode M.2.1 pc = .ok (.lreturn, 1) ∧ v = some (.long x) ∧ M.2.2.2 = some .long
def zGood (X : zXs) (d : Nat) (C : zCx) (M : zMD) (Q : zRQ) : Prop := match C with
  | ((p, l, e, R, s), (m, args, below, meth, c), (b, oa, D, ca), (Z, mc, ms)) =>
    (p.tables.exec = Jvm.exec ∧ c.code = M.2.1 ∧ meth.sig.returnType = M.2.2.2 ∧ c.maxLocals = M.2.2.1 ∧ s.vm.findClass M.1.cls = some m.cls ∧ (∀ w ∈ tbG, w.before args s = true) ∧ meth.locks = false ∧ (M.1.name = "<init>" → meth.name = "<init>")) ∧
    zWd b oa D ca X s s.heap ∧ (d ≤ R.frames ∧ 64 * d ≤ R.locals ∧ mc ≤ R.cells ∧ ms ≤ R.slots) ∧
    ∀ (v : Option Value) (L : List zSh) (μ : zMem) (H : Heap) (locs : List Loc) (cells slots pc : Nat) (lsM : Array Slot), Q v L μ → zRel b oa D ca L μ H → va_S (fun q => b ≤ q) s.heap H locs → cells ≤ mc → slots ≤ ms → zRet M pc v → W p l e R s m args below meth c H locs cells slots Z (F0 m pc lsM ((v.map (z_tr b oa)).toList))
def zT (X : zXs) (d : Nat) (M : zMD) (Q : zRQ) (k n pc : Nat) (ls : zLs) (st : List Value) (L : List zSh) (μ : zMem) : Prop :=
  ∀ (C : zCx), zGood X d C M Q → match C with
  | ((p, l, e, R, s), (m, args, below, meth, c), (b, oa, D, ca), (Z, mc, ms)) => ∀ (H : Heap) (locs : List Loc) (cells slots : Nat) (lsM : Array Slot), cells + k ≤ mc → slots + n ≤ ms → zRel b oa D ca L μ H → va_S (fun q => b ≤ q) s.heap H locs → zLR M b oa ls lsM → W p l e R s m args below meth c H locs cells slots Z (F0 m pc lsM (st.map (z_tr b oa)))
def z_w (M : zMD) : List Cond := .code M.1 M.2.1 M.2.2.1 M.2.2.2 :: tbG
def zQc (b : Nat) (oa : Nat → Nat) (D : va_G) (ca : Nat → ClassId) (Q : zRQ) : Array Value → State → Outcome → State → Prop := fun _ st o t => ∃ (v : Option Value) (L : List zSh) (μ : zMem), o = .returned (v.map (z_tr b oa)) ∧ Q v L μ ∧ zRel b oa D ca L μ t.heap ∧ va_F (fun q => b ≤ q) st t
/-- a contract: with d frames left, k cells and n slots to make -/
def zC (X : zXs) (d k n : Nat) (M : zMD) (as : List Value) (L : List zSh) (μ : zMem) (Q : zRQ) : Prop :=
  ∀ (l : Launch) (b : Nat) (oa : Nat → Nat) (D : va_G) (ca : Nat → ClassId), Met l M.1 (z_w M) ({ frames := d, cells := k, slots := n, locals := 64 * d }) (va_Pc (as.map (z_tr b oa)) (fun U => zWd b oa D ca X U U.heap ∧ zRel b oa D ca L μ U.heap)) (zQc b oa D ca Q) k n (fun q => b ≤ q)
abbrev zPK : Type := Nat → Nat → Nat → zLs → List Value → List zSh → zMem → Prop
/-- an instruction: what must hold ahead of it so that what it goes on to holds -/
abbrev zOp : Type := zXs → Nat → zPK → zRQ → zPK
def zOk (M : zMD) (pc : Nat) (o : zOp) : Prop := ∀ (X : zXs) (d : Nat) (Q : zRQ) (k n : Nat) (ls : zLs) (st : List Value) (L : List zSh) (μ : zMem), o X d (zT X d M Q) Q k n pc ls st L μ → zT X d M Q k n pc ls st L μ
theorem zT.step {M : zMD} {ct : Nat → zOp} (ok : ∀ pc, zOk M pc (ct pc)) {X : zXs} {d : Nat} {Q : zRQ} {k n pc : Nat} {ls : zLs} {st : List Value} {L : List zSh} {μ : zMem} (h : ct pc X d (zT X d M Q) Q k n pc ls st L μ) : zT X d M Q k n pc ls st L μ := ok pc X d Q k n ls st L μ h
def o_bad : zOp := fun _ _ _ _ _ _ _ _ _ _ _ => False
theorem ok_bad {M : zMD} {pc : Nat} : zOk M pc o_bad := fun _ _ _ _ _ _ _ _ _ h => h.elim
theorem ok_b {M : zMD} {pc : Nat} {c : Bool} {A B : zOp} (h1 : zOk M pc A) (h2 : zOk M pc B) : zOk M pc (bif c then A else B) := by cases c <;> assumption
theorem ok_l {M : zMD} {pc q : Nat} {A : zOp} (h1 : zOk M q A) : zOk M pc (bif Nat.beq pc q then A else o_bad) := by
  cases h : Nat.beq pc q with
  | false => exact ok_bad
  | true => rw [Nat.eq_of_beq_eq_true h]; exact h1
end
section
/-! INSTRUCTIONS over the pure memory, each with its row -/
theorem z_go {M : zMD} {X : zXs} {d : Nat} {Q : zRQ} {k n pc pc' : Nat} {ls : zLs} {st st' : List Value} {L : List zSh} {μ : zMem}
    (hw : ∀ (p : Program) (l : Launch) (e : Env) (R : Room) (s : State) (m : MethodId) (args : Array Value) (below : List Frame) (meth : Method) (c : Code) (b : Nat) (oa : Nat → Nat) (D : va_G) (ca : Nat → ClassId) (Z : State → Prop) (mc ms : Nat), zGood X d ((p, l, e, R, s), (m, args, below, meth, c), (b, oa, D, ca), (Z, mc, ms)) M Q → ∀ (H : Heap) (locs : List Loc) (cells slots : Nat) (lsM : Array Slot), cells ≤ mc → slots ≤ ms → zRel b oa D ca L μ H → va_S (fun q => b ≤ q) s.heap H locs → zLR M b oa ls lsM →
      W p l e R s m args below meth c H locs cells slots Z (F0 m pc' lsM (st'.map (z_tr b oa))) → W p l e R s m args below meth c H locs cells slots Z (F0 m pc lsM (st.map (z_tr b oa))))
    (h : zT X d M Q k n pc' ls st' L μ) : zT X d M Q k n pc ls st L μ := by
  intro ⟨⟨p, l, e, R, s⟩, ⟨m, args, below, meth, c⟩, ⟨b, oa, D, ca⟩, ⟨Z, mc, ms⟩⟩ G H locs cells slots lsM hk hn hR hS hL
  exact hw p l e R s m args below meth c b oa D ca Z mc ms G H locs cells slots lsM (Nat.le_trans (Nat.le_add_right _ _) hk) (Nat.le_trans (Nat.le_add_right _ _) hn) hR hS hL (h ((p, l, e, R, s), (m, args, below, meth, c), (b, oa, D, ca), (Z, mc, ms)) G H locs cells slots lsM hk hn hR hS hL)
/-- two roads -/
theorem z_go2 {M : zMD} {X : zXs} {d : Nat} {Q : zRQ} {k n pc pc1 pc2 : Nat} {ls : zLs} {st st' : List Value} {L : List zSh} {μ : zMem} {c1 : Prop}
    (hw : ∀ (p : Program) (l : Launch) (e : Env) (R : Room) (s : State) (m : MethodId) (args : Array Value) (below : List Frame) (meth : Method) (c : Code) (b : Nat) (oa : Nat → Nat) (D : va_G) (ca : Nat → ClassId) (Z : State → Prop) (mc ms : Nat), zGood X d ((p, l, e, R, s), (m, args, below, meth, c), (b, oa, D, ca), (Z, mc, ms)) M Q → ∀ (H : Heap) (locs : List Loc) (cells slots : Nat) (lsM : Array Slot),
      (c1 → W p l e R s m args below meth c H locs cells slots Z (F0 m pc1 lsM (st'.map (z_tr b oa)))) → (¬ c1 → W p l e R s m args below meth c H locs cells slots Z (F0 m pc2 lsM (st'.map (z_tr b oa)))) → W p l e R s m args below meth c H locs cells slots Z (F0 m pc lsM (st.map (z_tr b oa))))
    (h1 : c1 → zT X d M Q k n pc1 ls st' L μ) (h2 : ¬ c1 → zT X d M Q k n pc2 ls st' L μ) : zT X d M Q k n pc ls st L μ := by
  intro ⟨⟨p, l, e, R, s⟩, ⟨m, args, below, meth, c⟩, ⟨b, oa, D, ca⟩, ⟨Z, mc, ms⟩⟩ G H locs cells slots lsM hk hn hR hS hL
  exact hw p l e R s m args below meth c b oa D ca Z mc ms G H locs cells slots lsM (fun q => h1 q ((p, l, e, R, s), (m, args, below, meth, c), (b, oa, D, ca), (Z, mc, ms)) G H locs cells slots lsM hk hn hR hS hL) (fun q => h2 q ((p, l, e, R, s), (m, args, below, meth, c), (b, oa, D, ca), (Z, mc, ms)) G H locs cells slots lsM hk hn hR hS hL)
theorem z_cd {c : Bool} {A : Prop} (h : bif c then A else False) : c = true ∧ A := by cases c with
  | true => exact ⟨rfl, h⟩
  | false => exact h.elim
def o_con (v : Value) (w : Nat) : zOp := fun _ _ K _ k n pc ls st L μ => K k n (pc + w) ls (v :: st) L μ
theorem ok_iconst {M : zMD} {pc : Nat} {i : Int} {v : Int32} (hd : decode M.2.1 pc = .ok (.iconst i, 1)) (hv : Int32.ofInt i = v) : zOk M pc (o_con (.int v) 1) := fun _ _ _ _ _ _ _ _ _ h => z_go (fun _ _ _ _ _ _ _ _ _ _ _ _ _ _ _ _ _ G _ _ _ _ _ _ _ _ _ _ w => lv_iconst G.1.1 G.1.2.1 hd hv w) h
theorem ok_bipush {M : zMD} {pc : Nat} {i : Int} {v : Int32} (hd : decode M.2.1 pc = .ok (.bipush i, 2)) (hv : (Int8.ofInt i).toInt32 = v) : zOk M pc (o_con (.int v) 2) := fun _ _ _ _ _ _ _ _ _ h => z_go (fun _ _ _ _ _ _ _ _ _ _ _ _ _ _ _ _ _ G _ _ _ _ _ _ _ _ _ _ w => lv_bipush G.1.1 G.1.2.1 hd hv w) h
theorem ok_sipush {M : zMD} {pc : Nat} {i : Int} {v : Int32} (hd : decode M.2.1 pc = .ok (.sipush i, 3)) (hv : (Int16.ofInt i).toInt32 = v) : zOk M pc (o_con (.int v) 3) := fun _ _ _ _ _ _ _ _ _ h => z_go (fun _ _ _ _ _ _ _ _ _ _ _ _ _ _ _ _ _ G _ _ _ _ _ _ _ _ _ _ w => lv_sipush G.1.1 G.1.2.1 hd hv w) h
theorem ok_lconst {M : zMD} {pc : Nat} {i : Fin 2} {v : Int64} (hd : decode M.2.1 pc = .ok (.lconst i, 1)) (hv : Int64.ofNat (i : Nat) = v) : zOk M pc (o_con (.long v) 1) := fun _ _ _ _ _ _ _ _ _ h => z_go (fun _ _ _ _ _ _ _ _ _ _ _ _ _ _ _ _ _ G _ _ _ _ _ _ _ _ _ _ w => lv_lconst G.1.1 G.1.2.1 hd hv w) h
theorem ok_ldc {M : zMD} {pc idx : Nat} {v : Int32} (hd : decode M.2.1 pc = .ok (.ldc idx, 2)) (hc : Jvm.Cond.constant M.1.cls idx v ∈ tbG) : zOk M pc (o_con (.int v) 2) := fun _ _ _ _ _ _ _ _ _ h => z_go (fun _ _ _ _ _ _ _ _ _ _ _ _ _ _ _ _ _ G _ _ _ _ _ _ _ _ _ _ w => lv_ldc G.1.1 G.1.2.1 G.1.2.2.2.2.1 (G.1.2.2.2.2.2.1 _ hc) hd w) h
theorem ok_ldc2 {M : zMD} {pc idx : Nat} {v : Int64} (hd : decode M.2.1 pc = .ok (.ldc2_w idx, 3)) (hc : Jvm.Cond.constantLong M.1.cls idx v ∈ tbG) : zOk M pc (o_con (.long v) 3) := fun _ _ _ _ _ _ _ _ _ h => z_go (fun _ _ _ _ _ _ _ _ _ _ _ _ _ _ _ _ _ G _ _ _ _ _ _ _ _ _ _ w => lv_ldc2 G.1.1 G.1.2.1 G.1.2.2.2.2.1 (G.1.2.2.2.2.2.1 _ hc) hd w) h
def o_goto (t : Nat) : zOp := fun _ _ K _ k n _ ls st L μ => K k n t ls st L μ
theorem ok_goto {M : zMD} {pc t : Nat} {off : Int} (hd : decode M.2.1 pc = .ok (.goto off, 3)) (ht : (pc : Int) + off = (t : Int)) : zOk M pc (o_goto t) := fun _ _ _ _ _ _ _ _ _ h => z_go (fun _ _ _ _ _ _ _ _ _ _ _ _ _ _ _ _ _ G _ _ _ _ _ _ _ _ _ _ w => lv_goto G.1.1 G.1.2.1 hd ht w) h
/-- a local is read -/
def o_ldi (i w : Nat) : zOp := fun _ _ K _ k n pc ls st L μ => match ls[i]? with
  | some (some (.int v)) => K k n (pc + w) ls (.int v :: st) L μ
  | _ => False
def o_ldl (i w : Nat) : zOp := fun _ _ K _ k n pc ls st L μ => match ls[i]? with
  | some (some (.long v)) => K k n (pc + w) ls (.long v :: st) L μ
  | _ => False
def o_lda (i w : Nat) : zOp := fun _ _ K _ k n pc ls st L μ => match ls[i]? with
  | some (some (.ref v)) => K k n (pc + w) ls (.ref v :: st) L μ
  | _ => False
theorem ok_iload_n {M : zMD} {pc : Nat} {i : Fin 4} (hd : decode M.2.1 pc = .ok (.iload_n i, 1)) : zOk M pc (o_ldi i 1) := fun _ _ _ _ _ ls _ _ _ h => by
  unfold o_ldi at h
  split at h
  · rename_i hv
    exact z_go (fun _ _ _ _ _ _ _ _ _ _ _ _ _ _ _ _ _ G _ _ _ _ _ _ _ _ _ hL w => lv_iload_n G.1.1 G.1.2.1 hd rfl (hL.2.2.2 _ _ hv) w) h
  · exact h.elim
theorem ok_iload {M : zMD} {pc i : Nat} (hd : decode M.2.1 pc = .ok (.iload i, 2)) : zOk M pc (o_ldi i 2) := fun _ _ _ _ _ ls _ _ _ h => by
  unfold o_ldi at h
  split at h
  · rename_i hv
    exact z_go (fun _ _ _ _ _ _ _ _ _ _ _ _ _ _ _ _ _ G _ _ _ _ _ _ _ _ _ hL w => lv_iload G.1.1 G.1.2.1 hd (hL.2.2.2 _ _ hv) w) h
  · exact h.elim
theorem ok_lload_n {M : zMD} {pc : Nat} {i : Fin 4} (hd : decode M.2.1 pc = .ok (.lload_n i, 1)) : zOk M pc (o_ldl i 1) := fun _ _ _ _ _ ls _ _ _ h => by
  unfold o_ldl at h
  split at h
  · rename_i hv
    exact z_go (fun _ _ _ _ _ _ _ _ _ _ _ _ _ _ _ _ _ G _ _ _ _ _ _ _ _ _ hL w => lv_lload_n G.1.1 G.1.2.1 hd rfl (hL.2.2.2 _ _ hv) w) h
  · exact h.elim
theorem ok_lload {M : zMD} {pc i : Nat} (hd : decode M.2.1 pc = .ok (.lload i, 2)) : zOk M pc (o_ldl i 2) := fun _ _ _ _ _ ls _ _ _ h => by
  unfold o_ldl at h
  split at h
  · rename_i hv
    exact z_go (fun _ _ _ _ _ _ _ _ _ _ _ _ _ _ _ _ _ G _ _ _ _ _ _ _ _ _ hL w => lv_lload G.1.1 G.1.2.1 hd (hL.2.2.2 _ _ hv) w) h
  · exact h.elim
theorem ok_aload_n {M : zMD} {pc : Nat} {i : Fin 4} (hd : decode M.2.1 pc = .ok (.aload_n i, 1)) : zOk M pc (o_lda i 1) := fun _ _ _ _ _ ls _ _ _ h => by
  unfold o_lda at h
  split at h
  · rename_i hv
    exact z_go (fun _ _ _ _ _ _ _ _ _ _ _ _ _ _ _ _ _ G _ _ _ _ _ _ _ _ _ hL w => lv_aload_n G.1.1 G.1.2.1 hd rfl (hL.2.2.2 _ _ hv) w) h
  · exact h.elim
theorem ok_aload {M : zMD} {pc i : Nat} (hd : decode M.2.1 pc = .ok (.aload i, 2)) : zOk M pc (o_lda i 2) := fun _ _ _ _ _ ls _ _ _ h => by
  unfold o_lda at h
  split at h
  · rename_i hv
    exact z_go (fun _ _ _ _ _ _ _ _ _ _ _ _ _ _ _ _ _ G _ _ _ _ _ _ _ _ _ hL w => lv_aload G.1.1 G.1.2.1 hd (hL.2.2.2 _ _ hv) w) h
  · exact h.elim
/-- two ints, one int -/
def o_ii (f : Int32 → Int32 → Int32) : zOp := fun _ _ K _ k n pc ls st L μ => match st with
  | .int y :: .int x :: st' => K k n (pc + 1) ls (.int (f x y) :: st') L μ
  | _ => False
def o_ll (f : Int64 → Int64 → Int64) : zOp := fun _ _ K _ k n pc ls st L μ => match st with
  | .long y :: .long x :: st' => K k n (pc + 1) ls (.long (f x y) :: st') L μ
  | _ => False
def o_i1 (f : Int32 → Int32) : zOp := fun _ _ K _ k n pc ls st L μ => match st with
  | .int x :: st' => K k n (pc + 1) ls (.int (f x) :: st') L μ
  | _ => False
theorem ok_iadd {M : zMD} {pc : Nat} (hd : decode M.2.1 pc = .ok (.iadd, 1)) : zOk M pc (o_ii fun x y => x + y) := fun _ _ _ _ _ _ st _ _ h => match st, h with
  | .int _ :: .int _ :: _, h => z_go (fun _ _ _ _ _ _ _ _ _ _ _ _ _ _ _ _ _ G _ _ _ _ _ _ _ _ _ _ w => lv_iadd G.1.1 G.1.2.1 hd w) h
theorem ok_isub {M : zMD} {pc : Nat} (hd : decode M.2.1 pc = .ok (.isub, 1)) : zOk M pc (o_ii fun x y => x - y) := fun _ _ _ _ _ _ st _ _ h => match st, h with
  | .int _ :: .int _ :: _, h => z_go (fun _ _ _ _ _ _ _ _ _ _ _ _ _ _ _ _ _ G _ _ _ _ _ _ _ _ _ _ w => lv_isub G.1.1 G.1.2.1 hd w) h
theorem ok_imul {M : zMD} {pc : Nat} (hd : decode M.2.1 pc = .ok (.imul, 1)) : zOk M pc (o_ii fun x y => x * y) := fun _ _ _ _ _ _ st _ _ h => match st, h with
  | .int _ :: .int _ :: _, h => z_go (fun _ _ _ _ _ _ _ _ _ _ _ _ _ _ _ _ _ G _ _ _ _ _ _ _ _ _ _ w => lv_imul G.1.1 G.1.2.1 hd w) h
theorem ok_iand {M : zMD} {pc : Nat} (hd : decode M.2.1 pc = .ok (.iand, 1)) : zOk M pc (o_ii fun x y => x &&& y) := fun _ _ _ _ _ _ st _ _ h => match st, h with
  | .int _ :: .int _ :: _, h => z_go (fun _ _ _ _ _ _ _ _ _ _ _ _ _ _ _ _ _ G _ _ _ _ _ _ _ _ _ _ w => lv_iand G.1.1 G.1.2.1 hd w) h
theorem ok_ior {M : zMD} {pc : Nat} (hd : decode M.2.1 pc = .ok (.ior, 1)) : zOk M pc (o_ii fun x y => x ||| y) := fun _ _ _ _ _ _ st _ _ h => match st, h with
  | .int _ :: .int _ :: _, h => z_go (fun _ _ _ _ _ _ _ _ _ _ _ _ _ _ _ _ _ G _ _ _ _ _ _ _ _ _ _ w => lv_ior G.1.1 G.1.2.1 hd w) h
theorem ok_ixor {M : zMD} {pc : Nat} (hd : decode M.2.1 pc = .ok (.ixor, 1)) : zOk M pc (o_ii fun x y => x ^^^ y) := fun _ _ _ _ _ _ st _ _ h => match st, h with
  | .int _ :: .int _ :: _, h => z_go (fun _ _ _ _ _ _ _ _ _ _ _ _ _ _ _ _ _ G _ _ _ _ _ _ _ _ _ _ w => lv_ixor G.1.1 G.1.2.1 hd w) h
theorem ok_ishl {M : zMD} {pc : Nat} (hd : decode M.2.1 pc = .ok (.ishl, 1)) : zOk M pc (o_ii fun x y => x <<< (y &&& 31)) := fun _ _ _ _ _ _ st _ _ h => match st, h with
  | .int _ :: .int _ :: _, h => z_go (fun _ _ _ _ _ _ _ _ _ _ _ _ _ _ _ _ _ G _ _ _ _ _ _ _ _ _ _ w => lv_ishl G.1.1 G.1.2.1 hd w) h
theorem ok_ishr {M : zMD} {pc : Nat} (hd : decode M.2.1 pc = .ok (.ishr, 1)) : zOk M pc (o_ii fun x y => x >>> (y &&& 31)) := fun _ _ _ _ _ _ st _ _ h => match st, h with
  | .int _ :: .int _ :: _, h => z_go (fun _ _ _ _ _ _ _ _ _ _ _ _ _ _ _ _ _ G _ _ _ _ _ _ _ _ _ _ w => lv_ishr G.1.1 G.1.2.1 hd w) h
theorem ok_iushr {M : zMD} {pc : Nat} (hd : decode M.2.1 pc = .ok (.iushr, 1)) : zOk M pc (o_ii fun x y => (x.toUInt32 >>> (y.toUInt32 &&& Int32.toUInt32 31)).toInt32) := fun _ _ _ _ _ _ st _ _ h => match st, h with
  | .int _ :: .int _ :: _, h => z_go (fun _ _ _ _ _ _ _ _ _ _ _ _ _ _ _ _ _ G _ _ _ _ _ _ _ _ _ _ w => lv_iushr G.1.1 G.1.2.1 hd rfl w) h
theorem ok_ladd {M : zMD} {pc : Nat} (hd : decode M.2.1 pc = .ok (.ladd, 1)) : zOk M pc (o_ll fun x y => x + y) := fun _ _ _ _ _ _ st _ _ h => match st, h with
  | .long _ :: .long _ :: _, h => z_go (fun _ _ _ _ _ _ _ _ _ _ _ _ _ _ _ _ _ G _ _ _ _ _ _ _ _ _ _ w => lv_ladd G.1.1 G.1.2.1 hd w) h
theorem ok_lsub {M : zMD} {pc : Nat} (hd : decode M.2.1 pc = .ok (.lsub, 1)) : zOk M pc (o_ll fun x y => x - y) := fun _ _ _ _ _ _ st _ _ h => match st, h with
  | .long _ :: .long _ :: _, h => z_go (fun _ _ _ _ _ _ _ _ _ _ _ _ _ _ _ _ _ G _ _ _ _ _ _ _ _ _ _ w => lv_lsub G.1.1 G.1.2.1 hd w) h
theorem ok_lmul {M : zMD} {pc : Nat} (hd : decode M.2.1 pc = .ok (.lmul, 1)) : zOk M pc (o_ll fun x y => x * y) := fun _ _ _ _ _ _ st _ _ h => match st, h with
  | .long _ :: .long _ :: _, h => z_go (fun _ _ _ _ _ _ _ _ _ _ _ _ _ _ _ _ _ G _ _ _ _ _ _ _ _ _ _ w => lv_lmul G.1.1 G.1.2.1 hd w) h
theorem ok_ineg {M : zMD} {pc : Nat} (hd : decode M.2.1 pc = .ok (.ineg, 1)) : zOk M pc (o_i1 fun x => -x) := fun _ _ _ _ _ _ st _ _ h => match st, h with
  | .int _ :: _, h => z_go (fun _ _ _ _ _ _ _ _ _ _ _ _ _ _ _ _ _ G _ _ _ _ _ _ _ _ _ _ w => lv_ineg G.1.1 G.1.2.1 hd w) h
theorem ok_i2b {M : zMD} {pc : Nat} (hd : decode M.2.1 pc = .ok (.i2b, 1)) : zOk M pc (o_i1 fun x => x.toInt8.toInt32) := fun _ _ _ _ _ _ st _ _ h => match st, h with
  | .int _ :: _, h => z_go (fun _ _ _ _ _ _ _ _ _ _ _ _ _ _ _ _ _ G _ _ _ _ _ _ _ _ _ _ w => lv_i2b G.1.1 G.1.2.1 hd rfl w) h
theorem ok_i2s {M : zMD} {pc : Nat} (hd : decode M.2.1 pc = .ok (.i2s, 1)) : zOk M pc (o_i1 fun x => x.toInt16.toInt32) := fun _ _ _ _ _ _ st _ _ h => match st, h with
  | .int _ :: _, h => z_go (fun _ _ _ _ _ _ _ _ _ _ _ _ _ _ _ _ _ G _ _ _ _ _ _ _ _ _ _ w => lv_i2s G.1.1 G.1.2.1 hd rfl w) h
theorem ok_i2c {M : zMD} {pc : Nat} (hd : decode M.2.1 pc = .ok (.i2c, 1)) : zOk M pc (o_i1 fun x => (x.toUInt32 % 65536).toInt32) := fun _ _ _ _ _ _ st _ _ h => match st, h with
  | .int _ :: _, h => z_go (fun _ _ _ _ _ _ _ _ _ _ _ _ _ _ _ _ _ G _ _ _ _ _ _ _ _ _ _ w => lv_i2c G.1.1 G.1.2.1 hd rfl w) h
def o_iid (f : Int32 → Int32 → Int32) : zOp := fun _ _ K _ k n pc ls st L μ => match st with
  | .int y :: .int x :: st' => ¬ y = 0 ∧ K k n (pc + 1) ls (.int (f x y) :: st') L μ
  | _ => False
def o_lld (f : Int64 → Int64 → Int64) : zOp := fun _ _ K _ k n pc ls st L μ => match st with
  | .long y :: .long x :: st' => ¬ y = 0 ∧ K k n (pc + 1) ls (.long (f x y) :: st') L μ
  | _ => False
theorem ok_idiv {M : zMD} {pc : Nat} (hd : decode M.2.1 pc = .ok (.idiv, 1)) : zOk M pc (o_iid fun x y => x / y) := fun _ _ _ _ _ _ st _ _ h => match st, h with
  | .int _ :: .int _ :: _, h => z_go (fun _ _ _ _ _ _ _ _ _ _ _ _ _ _ _ _ _ G _ _ _ _ _ _ _ _ _ _ w => lv_idiv G.1.1 G.1.2.1 hd h.1 w) h.2
theorem ok_irem {M : zMD} {pc : Nat} (hd : decode M.2.1 pc = .ok (.irem, 1)) : zOk M pc (o_iid fun x y => x - x / y * y) := fun _ _ _ _ _ _ st _ _ h => match st, h with
  | .int _ :: .int _ :: _, h => z_go (fun _ _ _ _ _ _ _ _ _ _ _ _ _ _ _ _ _ G _ _ _ _ _ _ _ _ _ _ w => lv_irem G.1.1 G.1.2.1 hd h.1 w) h.2
theorem ok_ldiv {M : zMD} {pc : Nat} (hd : decode M.2.1 pc = .ok (.ldiv, 1)) : zOk M pc (o_lld fun x y => x / y) := fun _ _ _ _ _ _ st _ _ h => match st, h with
  | .long _ :: .long _ :: _, h => z_go (fun _ _ _ _ _ _ _ _ _ _ _ _ _ _ _ _ _ G _ _ _ _ _ _ _ _ _ _ w => lv_ldiv G.1.1 G.1.2.1 hd h.1 w) h.2
theorem ok_lrem {M : zMD} {pc : Nat} (hd : decode M.2.1 pc = .ok (.lrem, 1)) : zOk M pc (o_lld fun x y => x - x / y * y) := fun _ _ _ _ _ _ st _ _ h => match st, h with
  | .long _ :: .long _ :: _, h => z_go (fun _ _ _ _ _ _ _ _ _ _ _ _ _ _ _ _ _ G _ _ _ _ _ _ _ _ _ _ w => lv_lrem G.1.1 G.1.2.1 hd h.1 w) h.2
def o_i2l : zOp := fun _ _ K _ k n pc ls st L μ => match st with
  | .int x :: st' => K k n (pc + 1) ls (.long x.toInt64 :: st') L μ
  | _ => False
theorem ok_i2l {M : zMD} {pc : Nat} (hd : decode M.2.1 pc = .ok (.i2l, 1)) : zOk M pc o_i2l := fun _ _ _ _ _ _ st _ _ h => match st, h with
  | .int _ :: _, h => z_go (fun _ _ _ _ _ _ _ _ _ _ _ _ _ _ _ _ _ G _ _ _ _ _ _ _ _ _ _ w => lv_i2l G.1.1 G.1.2.1 hd rfl w) h
def o_l2i : zOp := fun _ _ K _ k n pc ls st L μ => match st with
  | .long x :: st' => K k n (pc + 1) ls (.int x.toInt32 :: st') L μ
  | _ => False
theorem ok_l2i {M : zMD} {pc : Nat} (hd : decode M.2.1 pc = .ok (.l2i, 1)) : zOk M pc o_l2i := fun _ _ _ _ _ _ st _ _ h => match st, h with
  | .long _ :: _, h => z_go (fun _ _ _ _ _ _ _ _ _ _ _ _ _ _ _ _ _ G _ _ _ _ _ _ _ _ _ _ w => lv_l2i G.1.1 G.1.2.1 hd rfl w) h
def o_lcmp : zOp := fun _ _ K _ k n pc ls st L μ => match st with
  | .long y :: .long x :: st' => K k n (pc + 1) ls (.int (lg_cmp x y) :: st') L μ
  | _ => False
theorem ok_lcmp {M : zMD} {pc : Nat} (hd : decode M.2.1 pc = .ok (.lcmp, 1)) : zOk M pc o_lcmp := fun _ _ _ _ _ _ st _ _ h => match st, h with
  | .long _ :: .long _ :: _, h => z_go (fun _ _ _ _ _ _ _ _ _ _ _ _ _ _ _ _ _ G _ _ _ _ _ _ _ _ _ _ w => W.lcmp G.1.1 G.1.2.1 hd w) h
/-- dup of a value of one word; pop -/
def z_c1 : Value → Bool
  | .long _ => false
  | .double _ => false
  | _ => true
theorem z_c1_cat {v : Value} (h : z_c1 v = true) : v.category = 1 := by cases v <;> first | rfl | cases h
def o_dup : zOp := fun _ _ K _ k n pc ls st L μ => match st with
  | v :: st' => bif z_c1 v then K k n (pc + 1) ls (v :: v :: st') L μ else False
  | _ => False
theorem ok_dup {M : zMD} {pc : Nat} (hd : decode M.2.1 pc = .ok (.dup, 1)) : zOk M pc o_dup := fun _ _ _ _ _ _ st _ _ h => match st, h with
  | v :: _, h => z_go (fun _ _ _ _ _ _ _ _ _ _ b oa _ _ _ _ _ G _ _ _ _ _ _ _ _ _ _ w => lv_dup G.1.1 G.1.2.1 hd ((z_tr_cat b oa v).trans (z_c1_cat (z_cd h).1)) w) (z_cd h).2
def o_pop : zOp := fun _ _ K _ k n pc ls st L μ => match st with
  | v :: st' => bif z_c1 v then K k n (pc + 1) ls st' L μ else False
  | _ => False
theorem ok_pop {M : zMD} {pc : Nat} (hd : decode M.2.1 pc = .ok (.pop, 1)) : zOk M pc o_pop := fun _ _ _ _ _ _ st _ _ h => match st, h with
  | v :: _, h => z_go (fun _ _ _ _ _ _ _ _ _ _ b oa _ _ _ _ _ G _ _ _ _ _ _ _ _ _ _ w => lv_pop G.1.1 G.1.2.1 hd ((z_tr_cat b oa v).trans (z_c1_cat (z_cd h).1)) w) (z_cd h).2
/-- branches: the condition, the target -/
def o_if (c : Int32 → Prop) (t : Nat) : zOp := fun _ _ K _ k n pc ls st L μ => match st with
  | .int x :: st' => (c x → K k n t ls st' L μ) ∧ (¬ c x → K k n (pc + 3) ls st' L μ)
  | _ => False
def o_ic (c : Int32 → Int32 → Prop) (t : Nat) : zOp := fun _ _ K _ k n pc ls st L μ => match st with
  | .int y :: .int x :: st' => (c x y → K k n t ls st' L μ) ∧ (¬ c x y → K k n (pc + 3) ls st' L μ)
  | _ => False
theorem ok_if_eq {M : zMD} {pc t : Nat} {off : Int} (hd : decode M.2.1 pc = .ok (.ifCond .eq off, 3)) (ht : (pc : Int) + off = (t : Int)) : zOk M pc (o_if (fun x => x = 0) t) := fun _ _ _ _ _ _ st _ _ h => match st, h with
  | .int _ :: _, h => z_go2 (fun _ _ _ _ _ _ _ _ _ _ _ _ _ _ _ _ _ G _ _ _ _ _ a c => lv_if_eq G.1.1 G.1.2.1 hd ht a c) h.1 h.2
theorem ok_ic_eq {M : zMD} {pc t : Nat} {off : Int} (hd : decode M.2.1 pc = .ok (.if_icmp .eq off, 3)) (ht : (pc : Int) + off = (t : Int)) : zOk M pc (o_ic (fun x y => x = y) t) := fun _ _ _ _ _ _ st _ _ h => match st, h with
  | .int _ :: .int _ :: _, h => z_go2 (fun _ _ _ _ _ _ _ _ _ _ _ _ _ _ _ _ _ G _ _ _ _ _ a c => lv_icmp_eq G.1.1 G.1.2.1 hd ht a c) h.1 h.2
theorem ok_if_lt {M : zMD} {pc t : Nat} {off : Int} (hd : decode M.2.1 pc = .ok (.ifCond .lt off, 3)) (ht : (pc : Int) + off = (t : Int)) : zOk M pc (o_if (fun x => x < 0) t) := fun _ _ _ _ _ _ st _ _ h => match st, h with
  | .int _ :: _, h => z_go2 (fun _ _ _ _ _ _ _ _ _ _ _ _ _ _ _ _ _ G _ _ _ _ _ a c => lv_if_lt G.1.1 G.1.2.1 hd ht a c) h.1 h.2
theorem ok_ic_lt {M : zMD} {pc t : Nat} {off : Int} (hd : decode M.2.1 pc = .ok (.if_icmp .lt off, 3)) (ht : (pc : Int) + off = (t : Int)) : zOk M pc (o_ic (fun x y => x < y) t) := fun _ _ _ _ _ _ st _ _ h => match st, h with
  | .int _ :: .int _ :: _, h => z_go2 (fun _ _ _ _ _ _ _ _ _ _ _ _ _ _ _ _ _ G _ _ _ _ _ a c => lv_icmp_lt G.1.1 G.1.2.1 hd ht a c) h.1 h.2
theorem ok_if_ge {M : zMD} {pc t : Nat} {off : Int} (hd : decode M.2.1 pc = .ok (.ifCond .ge off, 3)) (ht : (pc : Int) + off = (t : Int)) : zOk M pc (o_if (fun x => 0 ≤ x) t) := fun _ _ _ _ _ _ st _ _ h => match st, h with
  | .int _ :: _, h => z_go2 (fun _ _ _ _ _ _ _ _ _ _ _ _ _ _ _ _ _ G _ _ _ _ _ a c => lv_if_ge G.1.1 G.1.2.1 hd ht a c) h.1 h.2
theorem ok_ic_ge {M : zMD} {pc t : Nat} {off : Int} (hd : decode M.2.1 pc = .ok (.if_icmp .ge off, 3)) (ht : (pc : Int) + off = (t : Int)) : zOk M pc (o_ic (fun x y => y ≤ x) t) := fun _ _ _ _ _ _ st _ _ h => match st, h with
  | .int _ :: .int _ :: _, h => z_go2 (fun _ _ _ _ _ _ _ _ _ _ _ _ _ _ _ _ _ G _ _ _ _ _ a c => lv_icmp_ge G.1.1 G.1.2.1 hd ht a c) h.1 h.2
theorem ok_if_gt {M : zMD} {pc t : Nat} {off : Int} (hd : decode M.2.1 pc = .ok (.ifCond .gt off, 3)) (ht : (pc : Int) + off = (t : Int)) : zOk M pc (o_if (fun x => 0 < x) t) := fun _ _ _ _ _ _ st _ _ h => match st, h with
  | .int _ :: _, h => z_go2 (fun _ _ _ _ _ _ _ _ _ _ _ _ _ _ _ _ _ G _ _ _ _ _ a c => lv_if_gt G.1.1 G.1.2.1 hd ht a c) h.1 h.2
theorem ok_ic_gt {M : zMD} {pc t : Nat} {off : Int} (hd : decode M.2.1 pc = .ok (.if_icmp .gt off, 3)) (ht : (pc : Int) + off = (t : Int)) : zOk M pc (o_ic (fun x y => y < x) t) := fun _ _ _ _ _ _ st _ _ h => match st, h with
  | .int _ :: .int _ :: _, h => z_go2 (fun _ _ _ _ _ _ _ _ _ _ _ _ _ _ _ _ _ G _ _ _ _ _ a c => lv_icmp_gt G.1.1 G.1.2.1 hd ht a c) h.1 h.2
theorem ok_if_le {M : zMD} {pc t : Nat} {off : Int} (hd : decode M.2.1 pc = .ok (.ifCond .le off, 3)) (ht : (pc : Int) + off = (t : Int)) : zOk M pc (o_if (fun x => x ≤ 0) t) := fun _ _ _ _ _ _ st _ _ h => match st, h with
  | .int _ :: _, h => z_go2 (fun _ _ _ _ _ _ _ _ _ _ _ _ _ _ _ _ _ G _ _ _ _ _ a c => lv_if_le G.1.1 G.1.2.1 hd ht a c) h.1 h.2
theorem ok_ic_le {M : zMD} {pc t : Nat} {off : Int} (hd : decode M.2.1 pc = .ok (.if_icmp .le off, 3)) (ht : (pc : Int) + off = (t : Int)) : zOk M pc (o_ic (fun x y => x ≤ y) t) := fun _ _ _ _ _ _ st _ _ h => match st, h with
  | .int _ :: .int _ :: _, h => z_go2 (fun _ _ _ _ _ _ _ _ _ _ _ _ _ _ _ _ _ G _ _ _ _ _ a c => lv_icmp_le G.1.1 G.1.2.1 hd ht a c) h.1 h.2
def o_ifn (t : Nat) : zOp := fun _ _ K _ k n pc ls st L μ => match st with
  | .int x :: st' => (x = 0 → K k n (pc + 3) ls st' L μ) ∧ (¬ x = 0 → K k n t ls st' L μ)
  | _ => False
def o_icn (t : Nat) : zOp := fun _ _ K _ k n pc ls st L μ => match st with
  | .int y :: .int x :: st' => (x = y → K k n (pc + 3) ls st' L μ) ∧ (¬ x = y → K k n t ls st' L μ)
  | _ => False
theorem ok_if_ne {M : zMD} {pc t : Nat} {off : Int} (hd : decode M.2.1 pc = .ok (.ifCond .ne off, 3)) (ht : (pc : Int) + off = (t : Int)) : zOk M pc (o_ifn t) := fun _ _ _ _ _ _ st _ _ h => match st, h with
  | .int _ :: _, h => z_go2 (fun _ _ _ _ _ _ _ _ _ _ _ _ _ _ _ _ _ G _ _ _ _ _ a c => lv_if_ne G.1.1 G.1.2.1 hd ht c a) h.1 h.2
theorem ok_ic_ne {M : zMD} {pc t : Nat} {off : Int} (hd : decode M.2.1 pc = .ok (.if_icmp .ne off, 3)) (ht : (pc : Int) + off = (t : Int)) : zOk M pc (o_icn t) := fun _ _ _ _ _ _ st _ _ h => match st, h with
  | .int _ :: .int _ :: _, h => z_go2 (fun _ _ _ _ _ _ _ _ _ _ _ _ _ _ _ _ _ G _ _ _ _ _ a c => lv_icmp_ne G.1.1 G.1.2.1 hd ht c a) h.1 h.2
end
section
/-! stores into locals, switches, returns, fields, arrays -/
def z_k1 (ls : zLs) (j : Nat) : zLs := match ls[j]? with
  | some (some (.long _)) => ls.set j none
  | _ => ls
def z_kl (ls : zLs) : Nat → zLs
  | 0 => ls
  | j + 1 => z_k1 ls j
def z_st1 (ls : zLs) (i : Nat) (v : Value) : zLs := (z_kl ls i).set i (some v)
def z_st2 (ls : zLs) (i : Nat) (v : Value) : zLs := ((z_kl ls i).set (i + 1) none).set i (some v)
def z_al (b : Nat) (oa : Nat → Nat) (ls : zLs) : List (Nat × Value) := (List.range ls.length).filterMap (fun i => match ls[i]? with
  | some (some v) => some (i, z_tr b oa v)
  | _ => none)
theorem z_al_mem {b : Nat} {oa : Nat → Nat} {ls : zLs} {i : Nat} {v : Value} (h : ls[i]? = some (some v)) : (i, z_tr b oa v) ∈ z_al b oa ls := by
  refine List.mem_filterMap.mpr ⟨i, List.mem_range.mpr (List.getElem?_eq_some_iff.mp h).1, ?_⟩
  rw [h]
theorem z_al_inv {b : Nat} {oa : Nat → Nat} {ls : zLs} {q : Nat × Value} (h : q ∈ z_al b oa ls) : ∃ v, ls[q.1]? = some (some v) ∧ q.2 = z_tr b oa v := by
  obtain ⟨i, -, hi⟩ := List.mem_filterMap.mp h
  split at hi
  · rename_i v hv
    cases hi
    exact ⟨v, hv, rfl⟩
  · cases hi
theorem zLR.has {M : zMD} {b : Nat} {oa : Nat → Nat} {ls : zLs} {lsM : Array Slot} (h : zLR M b oa ls lsM) : lv_has lsM M.2.2.1 (z_al b oa ls) := by
  refine ⟨h.2.1, h.2.2.1, fun q hq => ?_⟩
  obtain ⟨v, h1, h2⟩ := z_al_inv hq
  rw [h2]
  exact h.2.2.2 _ _ h1
theorem z_kl_len (ls : zLs) (i : Nat) : (z_kl ls i).length = ls.length := by
  cases i with
  | zero => rfl
  | succ j =>
    show (z_k1 ls j).length = _
    unfold z_k1
    split
    · exact List.length_set
    · rfl
theorem z_kl_get {ls : zLs} {i j : Nat} {v : Value} (h : (z_kl ls i)[j]? = some (some v)) : ls[j]? = some (some v) ∧ ¬ (j + 1 = i ∧ v.category = 2 ∧ ∃ x, v = .long x) := by
  cases i with
  | zero => exact ⟨h, fun q => by omega⟩
  | succ i =>
    have h : (z_k1 ls i)[j]? = some (some v) := h
    unfold z_k1 at h
    split at h
    · rename_i x hx
      rw [List.getElem?_set] at h
      by_cases hj : i = j
      · subst hj
        rw [if_pos rfl] at h
        split at h <;> cases h
      · rw [if_neg hj] at h
        exact ⟨h, fun q => hj (by omega)⟩
    · rename_i hx
      refine ⟨h, fun ⟨q1, q2, x, q3⟩ => ?_⟩
      have : i = j := by omega
      subst this
      subst q3
      exact hx x h
theorem z_cat2 {b : Nat} {oa : Nat → Nat} {v : Value} : (z_tr b oa v).category = 2 → ¬ (∃ x, v = .double x) → ∃ x, v = .long x := by
  cases v with
  | long x => exact fun _ _ => ⟨x, rfl⟩
  | double x => exact fun _ h => absurd ⟨x, rfl⟩ h
  | _ => exact fun h => by cases h
/-- no local is a double -/
def z_nd (ls : zLs) : Prop := ∀ (i : Nat) (x : UInt64), ls[i]? ≠ some (some (.double x))
def z_ndb (ls : zLs) : Bool := ls.all (fun o => match o with
  | some (.double _) => false
  | _ => true)
theorem z_nd_of {ls : zLs} (h : z_ndb ls = true) : z_nd ls := by
  intro i x hx
  have := List.all_eq_true.mp h _ (List.mem_of_getElem? hx)
  cases this
theorem zLR.st1 {M : zMD} {b : Nat} {oa : Nat → Nat} {ls : zLs} {lsM lsN : Array Slot} {i : Nat} {v : Value} (h : zLR M b oa ls lsM) (hd : z_ndb ls = true) (hn : lv_has lsN M.2.2.1 ((i, z_tr b oa v) :: (z_al b oa ls).filter (fun q => !(q.1 == i) && !(q.1 + 1 == i && q.2.category == 2)))) : zLR M b oa (z_st1 ls i v) lsN := by
  refine ⟨by unfold z_st1; rw [List.length_set, z_kl_len]; exact h.1, hn.1, hn.2.1, fun j w hw => ?_⟩
  unfold z_st1 at hw
  rw [List.getElem?_set] at hw
  by_cases hj : i = j
  · subst hj
    rw [if_pos rfl] at hw
    split at hw
    · cases hw
      exact hn.2.2 _ List.mem_cons_self
    · cases hw
  · rw [if_neg hj] at hw
    obtain ⟨h1, h2⟩ := z_kl_get hw
    refine hn.2.2 (j, z_tr b oa w) (List.mem_cons_of_mem _ (List.mem_filter.mpr ⟨z_al_mem h1, ?_⟩))
    have e1 : (j == i) = false := by simpa using Ne.symm hj
    have e2 : (j + 1 == i && (z_tr b oa w).category == 2) = false := by
      by_cases hq : j + 1 = i
      · have : ¬ (z_tr b oa w).category = 2 := fun hc => h2 ⟨hq, by rw [z_tr_cat] at hc; exact hc, z_cat2 hc (fun ⟨x, hx⟩ => z_nd_of hd j x (by rw [h1, hx]))⟩
        simp [this]
      · simp [hq]
    simp only [e1, e2]
    rfl
theorem zLR.st2 {M : zMD} {b : Nat} {oa : Nat → Nat} {ls : zLs} {lsM lsN : Array Slot} {i : Nat} {v : Value} (h : zLR M b oa ls lsM) (hd : z_ndb ls = true) (hn : lv_has lsN M.2.2.1 ((i, z_tr b oa v) :: (z_al b oa ls).filter (fun q => !(q.1 == i) && (!(q.1 == i + 1) && !(q.1 + 1 == i && q.2.category == 2))))) : zLR M b oa (z_st2 ls i v) lsN := by
  refine ⟨by unfold z_st2; rw [List.length_set, List.length_set, z_kl_len]; exact h.1, hn.1, hn.2.1, fun j w hw => ?_⟩
  unfold z_st2 at hw
  rw [List.getElem?_set] at hw
  by_cases hj : i = j
  · subst hj
    rw [if_pos rfl] at hw
    split at hw
    · cases hw
      exact hn.2.2 _ List.mem_cons_self
    · cases hw
  · rw [if_neg hj, List.getElem?_set] at hw
    by_cases hj1 : i + 1 = j
    · rw [if_pos hj1] at hw
      split at hw <;> cases hw
    · rw [if_neg hj1] at hw
      obtain ⟨h1, h2⟩ := z_kl_get hw
      refine hn.2.2 (j, z_tr b oa w) (List.mem_cons_of_mem _ (List.mem_filter.mpr ⟨z_al_mem h1, ?_⟩))
      have e1 : (j == i) = false := by simpa using Ne.symm hj
      have e3 : (j == i + 1) = false := by simpa using Ne.symm hj1
      have e2 : (j + 1 == i && (z_tr b oa w).category == 2) = false := by
        by_cases hq : j + 1 = i
        · have : ¬ (z_tr b oa w).category = 2 := fun hc => h2 ⟨hq, by rw [z_tr_cat] at hc; exact hc, z_cat2 hc (fun ⟨x, hx⟩ => z_nd_of hd j x (by rw [h1, hx]))⟩
          simp [this]
        · simp [hq]
      simp only [e1, e2, e3]
      rfl
def o_st1i (i w : Nat) : zOp := fun _ _ K _ k n pc ls st L μ => match st with
  | .int v :: st' => bif z_ndb ls then K k n (pc + w) (z_st1 ls i (.int v)) st' L μ else False
  | _ => False
def o_st1a (i w : Nat) : zOp := fun _ _ K _ k n pc ls st L μ => match st with
  | .ref v :: st' => bif z_ndb ls then K k n (pc + w) (z_st1 ls i (.ref v)) st' L μ else False
  | _ => False
def o_st2 (i w : Nat) : zOp := fun _ _ K _ k n pc ls st L μ => match st with
  | .long v :: st' => bif z_ndb ls then K k n (pc + w) (z_st2 ls i (.long v)) st' L μ else False
  | _ => False
def o_iinc (i : Nat) (c : Int32) : zOp := fun _ _ K _ k n pc ls st L μ => match ls[i]? with
  | some (some (.int x)) => bif z_ndb ls then K k n (pc + 3) (z_st1 ls i (.int (x + c))) st L μ else False
  | _ => False
theorem z_gos {M : zMD} {X : zXs} {d : Nat} {Q : zRQ} {k n pc pc' : Nat} {ls ls' : zLs} {st st' : List Value} {L : List zSh} {μ : zMem}
    (hw : ∀ (p : Program) (l : Launch) (e : Env) (R : Room) (s : State) (m : MethodId) (args : Array Value) (below : List Frame) (meth : Method) (c : Code) (b : Nat) (oa : Nat → Nat) (D : va_G) (ca : Nat → ClassId) (Z : State → Prop) (mc ms : Nat), zGood X d ((p, l, e, R, s), (m, args, below, meth, c), (b, oa, D, ca), (Z, mc, ms)) M Q → ∀ (H : Heap) (locs : List Loc) (cells slots : Nat) (lsM : Array Slot), zLR M b oa ls lsM →
      (∀ lsN, zLR M b oa ls' lsN → W p l e R s m args below meth c H locs cells slots Z (F0 m pc' lsN (st'.map (z_tr b oa)))) → W p l e R s m args below meth c H locs cells slots Z (F0 m pc lsM (st.map (z_tr b oa))))
    (h : zT X d M Q k n pc' ls' st' L μ) : zT X d M Q k n pc ls st L μ := by
  intro ⟨⟨p, l, e, R, s⟩, ⟨m, args, below, meth, c⟩, ⟨b, oa, D, ca⟩, ⟨Z, mc, ms⟩⟩ G H locs cells slots lsM hk hn hR hS hL
  exact hw p l e R s m args below meth c b oa D ca Z mc ms G H locs cells slots lsM hL (fun lsN hN => h ((p, l, e, R, s), (m, args, below, meth, c), (b, oa, D, ca), (Z, mc, ms)) G H locs cells slots lsN hk hn hR hS hN)
theorem ok_istore_n {M : zMD} {pc : Nat} {i : Fin 4} (hd : decode M.2.1 pc = .ok (.istore_n i, 1)) (hi : (i : Nat) < M.2.2.1) : zOk M pc (o_st1i i 1) := fun _ _ _ _ _ _ st _ _ h => match st, h with
  | .int v :: _, h => z_gos (fun _ _ _ _ _ _ _ _ _ _ b oa _ _ _ _ _ G _ _ _ _ _ hL w => lv_istore_n G.1.1 G.1.2.1 hd rfl hL.has hi rfl fun lsN hN => w lsN (hL.st1 (v := .int v) (z_cd h).1 hN)) (z_cd h).2
theorem ok_istore {M : zMD} {pc i : Nat} (hd : decode M.2.1 pc = .ok (.istore i, 2)) (hi : i < M.2.2.1) : zOk M pc (o_st1i i 2) := fun _ _ _ _ _ _ st _ _ h => match st, h with
  | .int v :: _, h => z_gos (fun _ _ _ _ _ _ _ _ _ _ b oa _ _ _ _ _ G _ _ _ _ _ hL w => lv_istore G.1.1 G.1.2.1 hd hL.has hi rfl fun lsN hN => w lsN (hL.st1 (v := .int v) (z_cd h).1 hN)) (z_cd h).2
theorem ok_astore_n {M : zMD} {pc : Nat} {i : Fin 4} (hd : decode M.2.1 pc = .ok (.astore_n i, 1)) (hi : (i : Nat) < M.2.2.1) : zOk M pc (o_st1a i 1) := fun _ _ _ _ _ _ st _ _ h => match st, h with
  | .ref v :: _, h => z_gos (fun _ _ _ _ _ _ _ _ _ _ b oa _ _ _ _ _ G _ _ _ _ _ hL w => lv_astore_n G.1.1 G.1.2.1 hd rfl hL.has hi rfl fun lsN hN => w lsN (hL.st1 (v := .ref v) (z_cd h).1 hN)) (z_cd h).2
theorem ok_astore {M : zMD} {pc i : Nat} (hd : decode M.2.1 pc = .ok (.astore i, 2)) (hi : i < M.2.2.1) : zOk M pc (o_st1a i 2) := fun _ _ _ _ _ _ st _ _ h => match st, h with
  | .ref v :: _, h => z_gos (fun _ _ _ _ _ _ _ _ _ _ b oa _ _ _ _ _ G _ _ _ _ _ hL w => lv_astore G.1.1 G.1.2.1 hd hL.has hi rfl fun lsN hN => w lsN (hL.st1 (v := .ref v) (z_cd h).1 hN)) (z_cd h).2
theorem ok_lstore {M : zMD} {pc i : Nat} (hd : decode M.2.1 pc = .ok (.lstore i, 2)) (hi : i + 1 < M.2.2.1) : zOk M pc (o_st2 i 2) := fun _ _ _ _ _ _ st _ _ h => match st, h with
  | .long v :: _, h => z_gos (fun _ _ _ _ _ _ _ _ _ _ b oa _ _ _ _ _ G _ _ _ _ _ hL w => lv_lstore G.1.1 G.1.2.1 hd hL.has hi rfl fun lsN hN => w lsN (hL.st2 (v := .long v) (z_cd h).1 hN)) (z_cd h).2
theorem ok_iinc {M : zMD} {pc i : Nat} {c : Int} {cv : Int32} (hd : decode M.2.1 pc = .ok (.iinc i c, 3)) (hc : Int32.ofInt c = cv) (hi : i < M.2.2.1) : zOk M pc (o_iinc i cv) := fun _ _ _ _ _ ls _ _ _ h => by
  unfold o_iinc at h
  split at h
  · rename_i x hv
    subst hc
    refine z_gos (fun _ _ _ _ _ _ _ _ _ _ b oa _ _ _ _ _ G _ _ _ _ _ hL w => ?_) (z_cd h).2
    obtain ⟨k, hk⟩ := List.getElem?_of_mem (z_al_mem (b := b) (oa := oa) hv)
    exact lv_iinc G.1.1 G.1.2.1 hd hL.has hk rfl hi rfl fun lsN hN => w lsN (hL.st1 (v := .int (x + Int32.ofInt c)) (z_cd h).1 hN)
  · exact h.elim
end
section
/-! switches, returns, fields, arrays -/
def o_tsw (dflt : Nat) (lo hi : Int) (ts : List Nat) : zOp := fun _ _ K _ k n _ ls st L μ => match st with
  | .int x :: st' => ((x.toInt < lo ∨ hi < x.toInt) → K k n dflt ls st' L μ) ∧ ∀ (j t : Nat), x.toInt = lo + (j : Int) → ts[j]? = some t → K k n t ls st' L μ
  | _ => False
theorem ok_tsw {M : zMD} {pc len dt : Nat} {dflt lo hi : Int} {offs : Array Int} {ts : List Nat} (hd : decode M.2.1 pc = .ok (.tableswitch dflt lo hi offs, len)) (ht : (pc : Int) + dflt = (dt : Int)) (hz : offs.toList.map (fun o => (pc : Int) + o) = ts.map (fun t : Nat => (t : Int))) (hl : (ts.length : Int) = hi - lo + 1) : zOk M pc (o_tsw dt lo hi ts) := fun X d Q k n ls st L μ h => match st, h with
  | .int x :: st', h => by
    intro ⟨⟨p, l, e, R, s⟩, ⟨m, args, below, meth, c⟩, ⟨b, oa, D, ca⟩, ⟨Z, mc, ms⟩⟩ G H locs cells slots lsM hk hn hR hS hL
    by_cases hx : x.toInt < lo ∨ hi < x.toInt
    · exact lv_tableOut G.1.1 G.1.2.1 hd hx ht (h.1 hx ((p, l, e, R, s), (m, args, below, meth, c), (b, oa, D, ca), (Z, mc, ms)) G H locs cells slots lsM hk hn hR hS hL)
    · have h1 : ¬ x.toInt < lo := fun q => hx (Or.inl q)
      have h2 : ¬ hi < x.toInt := fun q => hx (Or.inr q)
      have hj : (x.toInt - lo).toNat < ts.length := by omega
      have hjo : (x.toInt - lo).toNat < offs.toList.length := by
        have := congrArg List.length hz
        simp only [List.length_map] at this
        omega
      have e1 : (ts[(x.toInt - lo).toNat]?) = some (ts[(x.toInt - lo).toNat]) := List.getElem?_eq_getElem hj
      have e2 : offs[(x.toInt - lo).toNat]? = some (offs.toList[(x.toInt - lo).toNat]) := by rw [← Array.getElem?_toList]; exact List.getElem?_eq_getElem hjo
      have e3 : (pc : Int) + offs.toList[(x.toInt - lo).toNat] = ((ts[(x.toInt - lo).toNat] : Nat) : Int) := by
        have h3 : (offs.toList.map (fun o => (pc : Int) + o))[(x.toInt - lo).toNat]? = (ts.map (fun t : Nat => (t : Int)))[(x.toInt - lo).toNat]? := by rw [hz]
        rw [List.getElem?_map, List.getElem?_map, e1, List.getElem?_eq_getElem hjo] at h3
        exact Option.some.inj h3
      exact lv_tableIn G.1.1 G.1.2.1 hd h1 h2 e2 e3 (h.2 _ _ (by omega) e1 ((p, l, e, R, s), (m, args, below, meth, c), (b, oa, D, ca), (Z, mc, ms)) G H locs cells slots lsM hk hn hR hS hL)
/-- returns -/
def o_vret : zOp := fun _ _ _ Q _ _ _ _ st L μ => match st with
  | [] => Q none L μ
  | _ => False
theorem ok_vret {M : zMD} {pc : Nat} (hd : decode M.2.1 pc = .ok (.return_, 1)) (hr : M.2.2.2 = none) : zOk M pc o_vret := fun X d Q k n ls st L μ h => match st, h with
  | [], h => by
    intro ⟨⟨p, l, e, R, s⟩, ⟨m, args, below, meth, c⟩, ⟨b, oa, D, ca⟩, ⟨Z, mc, ms⟩⟩ G H locs cells slots lsM hk hn hR hS hL
    exact G.2.2.2 none L μ H locs cells slots pc lsM h hR hS (by omega) (by omega) (Or.inl ⟨hd, rfl, hr⟩)
def o_iret : zOp := fun _ _ _ Q _ _ _ _ st L μ => match st with
  | [.int x] => Q (some (.int x)) L μ
  | _ => False
theorem ok_iret {M : zMD} {pc : Nat} (hd : decode M.2.1 pc = .ok (.ireturn, 1)) (hr : M.2.2.2 = some .int) : zOk M pc o_iret := fun X d Q k n ls st L μ h => match st, h with
  | [.int x], h => by
    intro ⟨⟨p, l, e, R, s⟩, ⟨m, args, below, meth, c⟩, ⟨b, oa, D, ca⟩, ⟨Z, mc, ms⟩⟩ G H locs cells slots lsM hk hn hR hS hL
    exact G.2.2.2 (some (.int x)) L μ H locs cells slots pc lsM h hR hS (by omega) (by omega) (Or.inr (Or.inl ⟨x, _, hd, rfl, hr, rfl⟩))
def o_zret (ty : FieldType) : zOp := fun _ _ _ Q _ _ _ _ st L μ => match st with
  | [.int x] => narrow ty (.int x) = .int x ∧ Q (some (.int x)) L μ
  | _ => False
theorem ok_zret {M : zMD} {pc : Nat} {ty : FieldType} (hd : decode M.2.1 pc = .ok (.ireturn, 1)) (hr : M.2.2.2 = some ty) : zOk M pc (o_zret ty) := fun X d Q k n ls st L μ h => match st, h with
  | [.int x], h => by
    intro ⟨⟨p, l, e, R, s⟩, ⟨m, args, below, meth, c⟩, ⟨b, oa, D, ca⟩, ⟨Z, mc, ms⟩⟩ G H locs cells slots lsM hk hn hR hS hL
    exact G.2.2.2 (some (.int x)) L μ H locs cells slots pc lsM h.2 hR hS (by omega) (by omega) (Or.inr (Or.inl ⟨x, _, hd, rfl, hr, h.1⟩))
def o_lret : zOp := fun _ _ _ Q _ _ _ _ st L μ => match st with
  | [.long x] => Q (some (.long x)) L μ
  | _ => False
theorem ok_lret {M : zMD} {pc : Nat} (hd : decode M.2.1 pc = .ok (.lreturn, 1)) (hr : M.2.2.2 = some .long) : zOk M pc o_lret := fun X d Q k n ls st L μ h => match st, h with
  | [.long x], h => by
    intro ⟨⟨p, l, e, R, s⟩, ⟨m, args, below, meth, c⟩, ⟨b, oa, D, ca⟩, ⟨Z, mc, ms⟩⟩ G H locs cells slots lsM hk hn hR hS hL
    exact G.2.2.2 (some (.long x)) L μ H locs cells slots pc lsM h hR hS (by omega) (by omega) (Or.inr (Or.inr ⟨x, hd, rfl, hr⟩))
/-- of a class of ours: its fields' words, their types, their names -/
theorem z_cls {ci : Nat} {C : String} {T : u_T} {N : Nat} (h : clT[ci]? = some (C, T, N)) : ci < 10 ∧ z_nf ci = N ∧ (∀ w ∈ u_ws C T N, w ∈ tbG) ∧ (∀ k, k < N → parseFieldDescriptor (T k).2.2.1 = some (z_ft ci k)) ∧ (∀ a, a < N → ∀ b, b < N → a ≠ b → (T a).2.1 ≠ (T b).2.1) := by
  have hlt : ci < 8 := (List.getElem?_eq_some_iff.mp h).1
  have hnf : z_nf ci = N := by unfold z_nf; rw [h]
  refine ⟨by omega, hnf, ?_⟩
  match ci, hlt, h with
  | 0, _, h => cases h; exact ⟨u_X0, tyX0_ok, nmX0⟩
  | 1, _, h => cases h; exact ⟨u_X1, tyX1_ok, nmX1⟩
  | 2, _, h => cases h; exact ⟨u_X2, tyX2_ok, nmX2⟩
  | 3, _, h => cases h; exact ⟨u_X3, tyX3_ok, nmX3⟩
  | 4, _, h => cases h; exact ⟨u_X4, tyX4_ok, nmX4⟩
  | 5, _, h => cases h; exact ⟨u_X5, tyX5_ok, nmX5⟩
  | 6, _, h => cases h; exact ⟨u_X6, tyX6_ok, nmX6⟩
  | 7, _, h => cases h; exact ⟨u_X7, tyX7_ok, nmX7⟩
theorem z_ent_o {b : Nat} {oa : Nat → Nat} {ca : Nat → ClassId} {ci n a : Nat} {μ : zMem} (h : ci < 10) : z_ent b oa ca (ci, n) μ a = .inr (ci, (List.range (z_nf ci)).map (fun k => z_tr b oa (z_fv μ a ci k))) := if_pos h
def o_get (ci f : Nat) : zOp := fun _ _ K _ k n pc ls st L μ => match st with
  | .ref a :: st' => (a < 1000000 ∧ ∃ w, L[a]? = some (ci, w)) ∧ K k n (pc + 3) ls (z_fv μ a ci f :: st') L μ
  | _ => False
theorem z_ta_in {b : Nat} {oa : Nat → Nat} {a : Nat} (h : a < 1000000) : z_ta b oa a = b + a := if_pos h
theorem ok_get {M : zMD} {pc idx ci f : Nat} {C : String} {T : u_T} {N : Nat} (hd : decode M.2.1 pc = .ok (.getfield idx, 3)) (hc : clT[ci]? = some (C, T, N)) (hf : f < N) (hl : Cond.fieldLink M.1.cls idx (T f).1 (T f).2.1 (T f).2.2.1 ∈ tbG) : zOk M pc (o_get ci f) := fun X d Q k n ls st L μ h => match st, h with
  | .ref a :: st', h => by
    obtain ⟨⟨ha, w, hw⟩, h⟩ := h
    obtain ⟨h10, hnf, hu, hty, hnm⟩ := z_cls hc
    refine z_go (fun p l e R s m args below meth c b oa D ca Z mc ms G H locs cells slots lsM hk hn hR hS hL w => ?_) h
    have he := (z_ws_get (b := b) (oa := oa) (ca := ca) (μ := μ) hw).trans (congrArg some (congrArg (Prod.mk (b + a)) (z_ent_o h10)))
    rw [hnf] at he
    show W p l e R s m args below meth c H locs cells slots Z (F0 m pc lsM (.ref (z_ta b oa a) :: _))
    rw [z_ta_in ha]
    exact va_get G.1.1 G.1.2.1 G.1.2.2.2.2.2.1 hu G.1.2.2.2.2.1 G.2.1.1 hR.1 a he hc f hf (G.1.2.2.2.2.2.1 _ hl) (fun _ q => q) (by rw [List.getElem?_map, List.getElem?_range hf]; rfl) hd w
end
section
/-! fields are put; arrays -/
theorem z_fv_I {μ : zMem} {a ci f : Nat} {x : Int32} (hk : z_fk ci f = 0) : z_fv (z_sI μ a f x) a ci f = .int x := by unfold z_fv; rw [hk]; show Value.int (z_up μ.1 a f x a f) = _; rw [z_up_s]
theorem z_fv_L {μ : zMem} {a ci f : Nat} {x : Int64} (hk : z_fk ci f = 1) : z_fv (z_sL μ a f x) a ci f = .long x := by unfold z_fv; rw [hk]; show Value.long (z_up μ.2.1 a f x a f) = _; rw [z_up_s]
theorem z_fv_R {μ : zMem} {a ci f : Nat} {x : Option Nat} (hk : z_fk ci f = 2) : z_fv (z_sR μ a f x) a ci f = z_rv x := by unfold z_fv; rw [hk]; show z_rv (z_up μ.2.2 a f x a f) = _; rw [z_up_s]
theorem z_fv_In {μ : zMem} {a ci f : Nat} {x : Int32} (j : Nat) (hj : j ≠ f) : z_fv (z_sI μ a f x) a ci j = z_fv μ a ci j := by unfold z_fv z_sI; dsimp only; rw [z_up_n _ _ _ _ _ _ (fun q => hj q.2)]
theorem z_fv_Ln {μ : zMem} {a ci f : Nat} {x : Int64} (j : Nat) (hj : j ≠ f) : z_fv (z_sL μ a f x) a ci j = z_fv μ a ci j := by unfold z_fv z_sL; dsimp only; rw [z_up_n _ _ _ _ _ _ (fun q => hj q.2)]
theorem z_fv_Rn {μ : zMem} {a ci f : Nat} {x : Option Nat} (j : Nat) (hj : j ≠ f) : z_fv (z_sR μ a f x) a ci j = z_fv μ a ci j := by unfold z_fv z_sR; dsimp only; rw [z_up_n _ _ _ _ _ _ (fun q => hj q.2)]
theorem z_put {M : zMD} {pc idx ci f : Nat} {C : String} {T : u_T} {N : Nat} (hd : decode M.2.1 pc = .ok (.putfield idx, 3)) (hc : clT[ci]? = some (C, T, N)) (hf : f < N) (hl : Cond.fieldLink M.1.cls idx (T f).1 (T f).2.1 (T f).2.2.1 ∈ tbG) (hfin : (T f).2.2.2 = false ∨ ((T f).2.2.2 = true ∧ M.1.name = "<init>" ∧ (T f).1 = M.1.cls))
    {X : zXs} {d : Nat} {Q : zRQ} {k n : Nat} {ls : zLs} {st' : List Value} {L : List zSh} {μ μ' : zMem} {v : Value} {a w : Nat} (hn : ∀ b oa, narrow (z_ft ci f) (z_tr b oa v) = z_tr b oa v) (hfit : ∀ b oa, fits (z_ft ci f) (z_tr b oa v) = true)
    (hv : z_fv μ' a ci f = v) (ho : ∀ j, j ≠ f → z_fv μ' a ci j = z_fv μ a ci j) (hx : ∀ (x : Nat), x ≠ a → ∀ b oa ca s, z_ent b oa ca s μ' x = z_ent b oa ca s μ x) (ha : a < 1000000) (hw : L[a]? = some (ci, w)) (h : zT X d M Q k n (pc + 3) ls st' L μ') : zT X d M Q k n pc ls (v :: .ref a :: st') L μ := by
  obtain ⟨h10, hnf, hu, hty, hnm⟩ := z_cls hc
  intro ⟨⟨p, l, e, R, s⟩, ⟨m, args, below, meth, c⟩, ⟨b, oa, D, ca⟩, ⟨Z, mc, ms⟩⟩ G H locs cells slots lsM hk hn2 hR hS hL
  have he := (z_ws_get (b := b) (oa := oa) (ca := ca) (μ := μ) hw).trans (congrArg some (congrArg (Prod.mk (b + a)) (z_ent_o h10)))
  rw [hnf] at he
  have hset : (z_ws b oa ca L μ).set a (b + a, .inr (ci, ((List.range N).map (fun k => z_tr b oa (z_fv μ a ci k))).set f (z_tr b oa v))) = z_ws b oa ca L μ' := by
    refine z_ws_set hw ?_ (fun x q s => hx x q b oa ca s)
    rw [z_ent_o h10, hnf, z_fs_set hv ho]
  have hsz : ∀ (H1 : Heap) (locs1 : List Loc), va_P D clT ((z_ws b oa ca L μ).set a (b + a, .inr (ci, ((List.range N).map (fun k => z_tr b oa (z_fv μ a ci k))).set f (z_tr b oa v)))) H1 → H1.size = H.size → va_S (fun q => b ≤ q) s.heap H1 locs1 → W p l e R s m args below meth c H1 locs1 cells slots Z (F0 m (pc + 3) lsM (st'.map (z_tr b oa))) := by
    intro H1 locs1 hP1 hz hS1
    rw [hset] at hP1
    exact h ((p, l, e, R, s), (m, args, below, meth, c), (b, oa, D, ca), (Z, mc, ms)) G H1 locs1 cells slots lsM hk hn2 ⟨hP1, hz.trans hR.2⟩ hS1 hL
  show W p l e R s m args below meth c H locs cells slots Z (F0 m pc lsM (z_tr b oa v :: .ref (z_ta b oa a) :: _))
  rw [z_ta_in ha]
  obtain ⟨r, h1, cell, q1, q2, q3, q4⟩ := hR.1 a _ he
  have hr : r = (C, T, N) := Option.some.inj (h1.symm.trans hc)
  subst hr
  have hts := G.1.2.2.2.2.2.1
  have hap := va_apart (own := M.1.cls) hts hu (z_ft ci) hty hnm G.2.1.1 hc
  obtain ⟨hSl, hfc, kC, hkC, hkind⟩ := G.2.1.1.1 ci _ hc
  obtain ⟨cf, kf, fi, fd, hi, hsl⟩ := hSl f hf
  have hlay := hts _ (hu _ (u_in_lay hf))
  have hst := (u_facts hfc hkC (u_lays hts hu hf) hi).1
  have hlen : f < ((List.range N).map (fun k => z_tr b oa (z_fv μ a ci k))).length := by simpa using hf
  unfold u_lay at hlay
  rcases hfin with hfin | ⟨hfin, hin, hdecl⟩
  · rw [if_neg (by rw [hfin]; decide)] at hlay
    have h6 := u_store hfc hkC hkind hlay hi (hty f hf) (hn b oa) (hfit b oa)
    refine W.putK G.1.1 G.1.2.1 (f := fd) ⟨G.1.2.2.2.2.1, hts _ hl, ⟨_, _, _, hi⟩, hst⟩ (by rw [q2]; exact h6) q1 q3 (by rw [hsl]; exact k2_hasslot (q4 f hf)) rfl rfl hd fun H' e1 e2 e3 => ?_
    rw [hsl] at e1 ⊢
    exact hsz H' _ (hR.1.set z_ws_D he ⟨_, hc, t_OB.to (V := updV (vp_V _) f (z_tr b oa v)) ⟨_, e1, q2, q3, t_set q4 hap hf (z_tr b oa v)⟩ (fun j _ => vp_updV_set hlen (z_tr b oa v) j)⟩ e3) e2 (hS.put e2 e3 (Nat.le_add_right _ _))
  · rw [if_pos hfin] at hlay
    have hcf : m.cls = cf := by
      obtain ⟨_, _, c', _, _, _, -, -, hf', -, -, -, hown2, -⟩ := Cond.laysFinal_spec hlay
      have e1 : c' = cf := by have := hi.symm.trans hf'; simp at this; exact this.1.symm
      rw [hdecl] at hown2
      rw [← e1]; exact Option.some.inj (G.1.2.2.2.2.1.symm.trans hown2)
    have h6 := u_fits hfc hkC hkind (Or.inr hlay) hi (hty f hf) (hn b oa) (hfit b oa)
    refine W.putFinK G.1.1 G.1.2.1 G.1.2.2.2.2.1 (hts _ hl) hi hst hcf (G.1.2.2.2.2.2.2.2 hin) (by rw [q2]; exact h6) q1 q3 (by rw [hsl]; exact k2_hasslot (q4 f hf)) rfl rfl hd fun H' e1 e2 e3 => ?_
    rw [hsl] at e1 ⊢
    exact hsz H' _ (hR.1.set z_ws_D he ⟨_, hc, t_OB.to (V := updV (vp_V _) f (z_tr b oa v)) ⟨_, e1, q2, q3, t_set q4 hap hf (z_tr b oa v)⟩ (fun j _ => vp_updV_set hlen (z_tr b oa v) j)⟩ e3) e2 (hS.put e2 e3 (Nat.le_add_right _ _))
def o_puti (ci f : Nat) : zOp := fun _ _ K _ k n pc ls st L μ => match st with
  | .int x :: .ref a :: st' => (a < 1000000 ∧ ∃ w, L[a]? = some (ci, w)) ∧ K k n (pc + 3) ls st' L (z_sI μ a f x)
  | _ => False
theorem ok_puti {M : zMD} {pc idx ci f : Nat} {C : String} {T : u_T} {N : Nat} (hd : decode M.2.1 pc = .ok (.putfield idx, 3)) (hc : clT[ci]? = some (C, T, N)) (hf : f < N) (hl : Cond.fieldLink M.1.cls idx (T f).1 (T f).2.1 (T f).2.2.1 ∈ tbG) (hfin : (T f).2.2.2 = false) (hk : z_ft ci f = .int) : zOk M pc (o_puti ci f) := fun X d Q k n ls st L μ h => match st, h with
  | .int x :: .ref a :: st', h => by
    obtain ⟨⟨ha, w, hw⟩, h⟩ := h
    exact z_put hd hc hf hl (Or.inl hfin) (fun b oa => by rw [hk]; rfl) (fun b oa => by rw [hk]; rfl) (z_fv_I (by unfold z_fk; rw [hk]; rfl)) (fun j hj => z_fv_In j hj) (fun x hx b oa ca s => z_ent_I x hx s) ha hw h
def o_putz (ci f : Nat) : zOp := fun _ _ K _ k n pc ls st L μ => match st with
  | .int x :: .ref a :: st' => ((a < 1000000 ∧ ∃ w, L[a]? = some (ci, w)) ∧ (x = 0 ∨ x = 1)) ∧ K k n (pc + 3) ls st' L (z_sI μ a f x)
  | _ => False
theorem ok_putz {M : zMD} {pc idx ci f : Nat} {C : String} {T : u_T} {N : Nat} (hd : decode M.2.1 pc = .ok (.putfield idx, 3)) (hc : clT[ci]? = some (C, T, N)) (hf : f < N) (hl : Cond.fieldLink M.1.cls idx (T f).1 (T f).2.1 (T f).2.2.1 ∈ tbG) (hfin : (T f).2.2.2 = false) (hk : z_ft ci f = .boolean) : zOk M pc (o_putz ci f) := fun X d Q k n ls st L μ h => match st, h with
  | .int x :: .ref a :: st', h => by
    obtain ⟨⟨⟨ha, w, hw⟩, hx⟩, h⟩ := h
    refine z_put hd hc hf hl (Or.inl hfin) (fun b oa => ?_) (fun b oa => ?_) (z_fv_I (by unfold z_fk; rw [hk]; rfl)) (fun j hj => z_fv_In j hj) (fun x hx b oa ca s => z_ent_I x hx s) ha hw h
    · rw [hk]; rcases hx with rfl | rfl <;> rfl
    · rw [hk]; rcases hx with rfl | rfl <;> rfl
def o_putl (ci f : Nat) : zOp := fun _ _ K _ k n pc ls st L μ => match st with
  | .long x :: .ref a :: st' => (a < 1000000 ∧ ∃ w, L[a]? = some (ci, w)) ∧ K k n (pc + 3) ls st' L (z_sL μ a f x)
  | _ => False
theorem ok_putl {M : zMD} {pc idx ci f : Nat} {C : String} {T : u_T} {N : Nat} (hd : decode M.2.1 pc = .ok (.putfield idx, 3)) (hc : clT[ci]? = some (C, T, N)) (hf : f < N) (hl : Cond.fieldLink M.1.cls idx (T f).1 (T f).2.1 (T f).2.2.1 ∈ tbG) (hfin : (T f).2.2.2 = false) (hk : z_ft ci f = .long) : zOk M pc (o_putl ci f) := fun X d Q k n ls st L μ h => match st, h with
  | .long x :: .ref a :: st', h => by
    obtain ⟨⟨ha, w, hw⟩, h⟩ := h
    exact z_put hd hc hf hl (Or.inl hfin) (fun b oa => by rw [hk]; rfl) (fun b oa => by rw [hk]; rfl) (z_fv_L (by unfold z_fk; rw [hk]; rfl)) (fun j hj => z_fv_Ln j hj) (fun x hx b oa ca s => z_ent_L x hx s) ha hw h
def o_putr (ci f : Nat) : zOp := fun _ _ K _ k n pc ls st L μ => match st with
  | .ref r :: .ref a :: st' => (a < 1000000 ∧ ∃ w, L[a]? = some (ci, w)) ∧ K k n (pc + 3) ls st' L (z_sR μ a f (some r))
  | _ => False
theorem z_rfit {ty : FieldType} (h : z_tk ty = 2) (hb : ty ≠ .byte ∧ ty ≠ .char ∧ ty ≠ .short ∧ ty ≠ .float ∧ ty ≠ .double) (r : Nat) : narrow ty (.ref r) = .ref r ∧ fits ty (.ref r) = true := by
  cases ty <;> first | exact ⟨rfl, rfl⟩ | (simp at hb; done) | cases h
theorem ok_putr {M : zMD} {pc idx ci f : Nat} {C : String} {T : u_T} {N : Nat} (hd : decode M.2.1 pc = .ok (.putfield idx, 3)) (hc : clT[ci]? = some (C, T, N)) (hf : f < N) (hl : Cond.fieldLink M.1.cls idx (T f).1 (T f).2.1 (T f).2.2.1 ∈ tbG) (hfin : (T f).2.2.2 = false ∨ ((T f).2.2.2 = true ∧ M.1.name = "<init>" ∧ (T f).1 = M.1.cls)) (hk : z_tk (z_ft ci f) = 2) (hb : z_ft ci f ≠ .byte ∧ z_ft ci f ≠ .char ∧ z_ft ci f ≠ .short ∧ z_ft ci f ≠ .float ∧ z_ft ci f ≠ .double) : zOk M pc (o_putr ci f) := fun X d Q k n ls st L μ h => match st, h with
  | .ref r :: .ref a :: st', h => by
    obtain ⟨⟨ha, w, hw⟩, h⟩ := h
    exact z_put hd hc hf hl hfin (fun b oa => (z_rfit hk hb _).1) (fun b oa => (z_rfit hk hb _).2) (z_fv_R hk) (fun j hj => z_fv_Rn j hj) (fun x hx b oa ca s => z_ent_R x hx s) ha hw h
end
section
/-! arrays -/
theorem z_ent_i {b : Nat} {oa : Nat → Nat} {ca : Nat → ClassId} {t n a : Nat} {μ : zMem} (h1 : ¬ t < 10) (h2 : t < 20) : z_ent b oa ca (t, n) μ a = .inl (ca t, n, .inl (μ.1 a)) := (if_neg h1).trans (if_pos h2)
theorem z_ent_r {b : Nat} {oa : Nat → Nat} {ca : Nat → ClassId} {t n a : Nat} {μ : zMem} (h : ¬ t < 20) : z_ent b oa ca (t, n) μ a = .inl (ca t, n, .inr (.inr (.inr (.inr (fun i => (μ.2.2 a i).map (z_ta b oa)))))) := (if_neg (by show ¬ t < 10; omega)).trans (if_neg h)
theorem z_up_a {α : Type} (f : Nat → Nat → α) (a k : Nat) (v : α) : z_up f a k v a = fun j => if j = k then v else f a j := by
  funext j
  unfold z_up
  by_cases h : j = k <;> simp [h]
/-- within an array of kind t -/
def z_in (t : Nat) (L : List zSh) (a : Nat) (i : Int32) : Prop := a < 1000000 ∧ ∃ n, L[a]? = some (t, n) ∧ vp_in i n
def o_iald : zOp := fun _ _ K _ k n pc ls st L μ => match st with
  | .int i :: .ref a :: st' => z_in 10 L a i ∧ K k n (pc + 1) ls (.int (μ.1 a i.toNatClampNeg) :: st') L μ
  | _ => False
theorem ok_iald {M : zMD} {pc : Nat} (hd : decode M.2.1 pc = .ok (.iaload, 1)) : zOk M pc o_iald := fun X d Q k n ls st L μ h => match st, h with
  | .int i :: .ref a :: st', h => by
    obtain ⟨⟨ha, N, hw, hi⟩, h⟩ := h
    refine z_go (fun p l e R s m args below meth c b oa D ca Z mc ms G H locs cells slots lsM hk hn hR hS hL w => ?_) h
    show W p l e R s m args below meth c H locs cells slots Z (F0 m pc lsM (.int i :: .ref (z_ta b oa a) :: _))
    rw [z_ta_in ha]
    exact va_iald G.1.1 G.1.2.1 G.2.1.1 hR.1 a 0 ((z_ws_get hw).trans (congrArg some (congrArg (Prod.mk (b + a)) (z_ent_i (by omega) (by omega))))) rfl hi hd w
def o_zald : zOp := fun _ _ K _ k n pc ls st L μ => match st with
  | .int i :: .ref a :: st' => z_in 11 L a i ∧ K k n (pc + 1) ls (.int (μ.1 a i.toNatClampNeg) :: st') L μ
  | _ => False
theorem ok_zald {M : zMD} {pc : Nat} (hd : decode M.2.1 pc = .ok (.baload, 1)) : zOk M pc o_zald := fun X d Q k n ls st L μ h => match st, h with
  | .int i :: .ref a :: st', h => by
    obtain ⟨⟨ha, N, hw, hi⟩, h⟩ := h
    refine z_go (fun p l e R s m args below meth c b oa D ca Z mc ms G H locs cells slots lsM hk hn hR hS hL w => ?_) h
    show W p l e R s m args below meth c H locs cells slots Z (F0 m pc lsM (.int i :: .ref (z_ta b oa a) :: _))
    rw [z_ta_in ha]
    exact va_zald G.1.1 G.1.2.1 G.2.1.1 hR.1 a 1 ((z_ws_get hw).trans (congrArg some (congrArg (Prod.mk (b + a)) (z_ent_i (by omega) (by omega))))) rfl hi hd w
/-- the place of an array's kind in z_tys -/
def z_tp (t : Nat) : Nat := if t = 10 then 0 else if t = 11 then 1 else if t = 22 then 2 else if t = 23 then 3 else 4
def z_tt (t : Nat) : FieldType := if t = 10 then .int else if t = 11 then .boolean else if t = 22 then .object RX2 else if t = 23 then .object RX3 else .object RX5
theorem z_tp_ok {ca : Nat → ClassId} {t : Nat} (h : t = 10 ∨ t = 11 ∨ t = 22 ∨ t = 23 ∨ t = 25) : (z_tys ca)[z_tp t]? = some (ca t, z_tt t) := by
  rcases h with rfl | rfl | rfl | rfl | rfl <;> rfl
def o_aald (t : Nat) : zOp := fun _ _ K _ k n pc ls st L μ => match st with
  | .int i :: .ref a :: st' => z_in t L a i ∧ K k n (pc + 1) ls (z_rv (μ.2.2 a i.toNatClampNeg) :: st') L μ
  | _ => False
theorem ok_aald {M : zMD} {pc t : Nat} (ht : t = 22 ∨ t = 23 ∨ t = 25) (hd : decode M.2.1 pc = .ok (.aaload, 1)) : zOk M pc (o_aald t) := fun X d Q k n ls st L μ h => match st, h with
  | .int i :: .ref a :: st', h => by
    obtain ⟨⟨ha, N, hw, hi⟩, h⟩ := h
    refine z_go (fun p l e R s m args below meth c b oa D ca Z mc ms G H locs cells slots lsM hk hn hR hS hL w => ?_) h
    show W p l e R s m args below meth c H locs cells slots Z (F0 m pc lsM (.int i :: .ref (z_ta b oa a) :: _))
    rw [z_ta_in ha]
    rw [List.map_cons, z_tr_rv] at w
    rcases ht with rfl | rfl | rfl
    · exact va_aldq (C := RX2) G.1.1 G.1.2.1 G.2.1.1 hR.1 a 2 ((z_ws_get hw).trans (congrArg some (congrArg (Prod.mk (b + a)) (z_ent_r (by omega))))) rfl hi hd w
    · exact va_aldq (C := RX3) G.1.1 G.1.2.1 G.2.1.1 hR.1 a 3 ((z_ws_get hw).trans (congrArg some (congrArg (Prod.mk (b + a)) (z_ent_r (by omega))))) rfl hi hd w
    · exact va_aldq (C := RX5) G.1.1 G.1.2.1 G.2.1.1 hR.1 a 4 ((z_ws_get hw).trans (congrArg some (congrArg (Prod.mk (b + a)) (z_ent_r (by omega))))) rfl hi hd w
def o_alen (t : Nat) : zOp := fun _ _ K _ k n pc ls st L μ => match st with
  | .ref a :: st' => match L[a]? with
    | some (u, N) => (a < 1000000 ∧ u = t) ∧ K k n (pc + 1) ls (.int (Int32.ofNat N) :: st') L μ
    | none => False
  | _ => False
theorem ok_alen {M : zMD} {pc t : Nat} (ht : t = 10 ∨ t = 11 ∨ t = 22 ∨ t = 23 ∨ t = 25) (hd : decode M.2.1 pc = .ok (.arraylength, 1)) : zOk M pc (o_alen t) := fun X d Q k n ls st L μ h => match st, h with
  | .ref a :: st', h => by
    unfold o_alen at h
    dsimp only at h
    cases hw : L[a]? with
    | none => rw [hw] at h; exact h.elim
    | some q =>
      obtain ⟨u, N⟩ := q
      rw [hw] at h
      obtain ⟨⟨ha, rfl⟩, h2⟩ := h
      refine z_go (fun p l e R s m args below meth c b oa D ca Z mc ms G H locs cells slots lsM hk hn hR hS hL w => ?_) h2
      show W p l e R s m args below meth c H locs cells slots Z (F0 m pc lsM (.ref (z_ta b oa a) :: _))
      rw [z_ta_in ha]
      by_cases h20 : u < 20
      · exact va_alen G.1.1 G.1.2.1 G.2.1.1 hR.1 a (z_tp u) ((z_ws_get hw).trans (congrArg some (congrArg (Prod.mk (b + a)) (z_ent_i (by omega) h20)))) (z_tp_ok ht) rfl hd w
      · exact va_alen G.1.1 G.1.2.1 G.2.1.1 hR.1 a (z_tp u) ((z_ws_get hw).trans (congrArg some (congrArg (Prod.mk (b + a)) (z_ent_r h20)))) (z_tp_ok ht) rfl hd w
/-- a cell's new contents, by a row that writes it alone -/
theorem z_wr {M : zMD} {X : zXs} {d : Nat} {Q : zRQ} {k n pc pc' : Nat} {ls : zLs} {st st' : List Value} {L : List zSh} {μ μ' : zMem} {a : Nat} {sh : zSh} (hw : L[a]? = some sh) (hx : ∀ (x : Nat), x ≠ a → ∀ b oa ca s, z_ent b oa ca s μ' x = z_ent b oa ca s μ x)
    (hg : ∀ (p : Program) (l : Launch) (e : Env) (R : Room) (s : State) (m : MethodId) (args : Array Value) (below : List Frame) (meth : Method) (c : Code) (b : Nat) (oa : Nat → Nat) (D : va_G) (ca : Nat → ClassId) (Z : State → Prop) (mc ms : Nat), zGood X d ((p, l, e, R, s), (m, args, below, meth, c), (b, oa, D, ca), (Z, mc, ms)) M Q → ∀ (H : Heap) (locs : List Loc) (cells slots : Nat) (lsM : Array Slot), zRel b oa D ca L μ H →
      (∀ (H1 : Heap) (i : Nat), va_at D clT (b + a, z_ent b oa ca sh μ' a) H1 → H1.size = H.size → (∀ q : Nat, q ≠ b + a → H1[q]? = H[q]?) → W p l e R s m args below meth c H1 (locs ++ [⟨b + a, i⟩]) cells slots Z (F0 m pc' lsM (st'.map (z_tr b oa)))) → W p l e R s m args below meth c H locs cells slots Z (F0 m pc lsM (st.map (z_tr b oa))))
    (h : zT X d M Q k n pc' ls st' L μ') : zT X d M Q k n pc ls st L μ := by
  intro ⟨⟨p, l, e, R, s⟩, ⟨m, args, below, meth, c⟩, ⟨b, oa, D, ca⟩, ⟨Z, mc, ms⟩⟩ G H locs cells slots lsM hk hn hR hS hL
  refine hg p l e R s m args below meth c b oa D ca Z mc ms G H locs cells slots lsM hR fun H1 i hat hz hq => ?_
  have hP1 := hR.1.set z_ws_D (z_ws_get hw) hat hq
  rw [z_ws_set hw rfl (fun x q s => hx x q b oa ca s)] at hP1
  exact h ((p, l, e, R, s), (m, args, below, meth, c), (b, oa, D, ca), (Z, mc, ms)) G H1 _ cells slots lsM hk hn ⟨hP1, hz.trans hR.2⟩ (hS.put hz hq (Nat.le_add_right _ _)) hL
def o_iast : zOp := fun _ _ K _ k n pc ls st L μ => match st with
  | .int v :: .int i :: .ref a :: st' => z_in 10 L a i ∧ K k n (pc + 1) ls st' L (z_sI μ a i.toNatClampNeg v)
  | _ => False
theorem z_upd_I (μ : zMem) (a k : Nat) (v : Int32) : (z_sI μ a k v).1 a = upd (μ.1 a) k v := by
  show z_up μ.1 a k v a = _
  rw [z_up_a]
  rfl
theorem ok_iast {M : zMD} {pc : Nat} (hd : decode M.2.1 pc = .ok (.iastore, 1)) : zOk M pc o_iast := fun X d Q k n ls st L μ h => match st, h with
  | .int v :: .int i :: .ref a :: st', h => by
    obtain ⟨⟨ha, N, hw, hi⟩, h⟩ := h
    refine z_wr hw (fun x hx b oa ca s => z_ent_I x hx s) (fun p l e R s m args below meth c b oa D ca Z mc ms G H locs cells slots lsM hR w => ?_) h
    show W p l e R s m args below meth c H locs cells slots Z (F0 m pc lsM (.int v :: .int i :: .ref (z_ta b oa a) :: _))
    rw [z_ta_in ha]
    have he : va_at D clT _ H := hR.1 a _ ((z_ws_get hw).trans (congrArg some (congrArg (Prod.mk (b + a)) (z_ent_i (by omega) (by omega)))))
    refine W.iast G.1.1 G.1.2.1 he ((G.2.1.1.2 0 _ rfl).1 N (fun j => .int (μ.1 a j))) (fun q => by cases q) (by show ¬ (i < 0 ∨ (arrV _ _ _).slots.size ≤ _); rw [arrV_size]; exact hi) rfl rfl hd fun H1 e z oq => ?_
    refine w H1 _ ?_ z oq
    rw [z_ent_i (by omega) (by omega), z_upd_I]
    show H1[b + a]? = some (vp_cell _ _)
    rw [e]
    rw [vp_cell_i, vp_cell_i, arrV_store]
    congr 2
    funext q
    by_cases hq : q = i.toNatClampNeg
    · subst hq
      simp [updV, upd]
    · simp [updV, upd, hq]
def o_zast : zOp := fun _ _ K _ k n pc ls st L μ => match st with
  | .int v :: .int i :: .ref a :: st' => (z_in 11 L a i ∧ (v = 0 ∨ v = 1)) ∧ K k n (pc + 1) ls st' L (z_sI μ a i.toNatClampNeg v)
  | _ => False
theorem ok_zast {M : zMD} {pc : Nat} (hd : decode M.2.1 pc = .ok (.bastore, 1)) : zOk M pc o_zast := fun X d Q k n ls st L μ h => match st, h with
  | .int v :: .int i :: .ref a :: st', h => by
    obtain ⟨⟨⟨ha, N, hw, hi⟩, hv⟩, h⟩ := h
    refine z_wr hw (fun x hx b oa ca s => z_ent_I x hx s) (fun p l e R s m args below meth c b oa D ca Z mc ms G H locs cells slots lsM hR w => ?_) h
    show W p l e R s m args below meth c H locs cells slots Z (F0 m pc lsM (.int v :: .int i :: .ref (z_ta b oa a) :: _))
    rw [z_ta_in ha]
    have he : va_at D clT _ H := hR.1 a _ ((z_ws_get hw).trans (congrArg some (congrArg (Prod.mk (b + a)) (z_ent_i (by omega) (by omega)))))
    refine W.zast G.1.1 G.1.2.1 he ((G.2.1.1.2 1 _ rfl).1 N (fun j => .int (μ.1 a j))) (fun q => by cases q) (by show ¬ (i < 0 ∨ (arrV _ _ _).slots.size ≤ _); rw [arrV_size]; exact hi) rfl rfl hd fun H1 e z oq => ?_
    refine w H1 _ ?_ z oq
    rw [z_ent_i (by omega) (by omega), z_upd_I]
    show H1[b + a]? = some (vp_cell _ _)
    rw [e]
    rw [vp_cell_i, vp_cell_i, arrV_store]
    congr 2
    funext q
    have hnv : narrow .boolean (.int v) = .int v := by rcases hv with rfl | rfl <;> rfl
    by_cases hq : q = i.toNatClampNeg
    · subst hq
      simp [updV, upd, hnv]
      try rfl
    · simp [updV, upd, hq]
def o_aast (ci : Nat) : zOp := fun _ _ K _ k n pc ls st L μ => match st with
  | .ref v :: .int i :: .ref a :: st' => (z_in (20 + ci) L a i ∧ v < 1000000 ∧ ∃ w, L[v]? = some (ci, w)) ∧ K k n (pc + 1) ls st' L (z_sR μ a i.toNatClampNeg (some v))
  | _ => False
theorem z_upd_R (b : Nat) (oa : Nat → Nat) (μ : zMem) (a k : Nat) (v : Nat) : (fun i => ((z_sR μ a k (some v)).2.2 a i).map (z_ta b oa)) = va_up (fun i => (μ.2.2 a i).map (z_ta b oa)) k (some (z_ta b oa v)) := by
  funext i
  show (z_up μ.2.2 a k (some v) a i).map (z_ta b oa) = _
  rw [z_up_a]
  unfold va_up
  by_cases h : i = k <;> simp [h]
theorem ok_aast {M : zMD} {pc ci : Nat} (hci : ci = 2 ∨ ci = 3 ∨ ci = 5) (hd : decode M.2.1 pc = .ok (.aastore, 1)) : zOk M pc (o_aast ci) := fun X d Q k n ls st L μ h => match st, h with
  | .ref v :: .int i :: .ref a :: st', h => by
    obtain ⟨⟨⟨ha, N, hw, hi⟩, hv, w0, hwv⟩, h⟩ := h
    refine z_wr hw (fun x hx b oa ca s => z_ent_R x hx s) (fun p l e R s m args below meth c b oa D ca Z mc ms G H locs cells slots lsM hR w => ?_) h
    show W p l e R s m args below meth c H locs cells slots Z (F0 m pc lsM (.ref (z_ta b oa v) :: .int i :: .ref (z_ta b oa a) :: _))
    rw [z_ta_in ha]
    have hwq := hw
    have he : va_at D clT _ H := hR.1 a _ ((z_ws_get hw).trans (congrArg some (congrArg (Prod.mk (b + a)) (z_ent_r (by omega)))))
    have ht : (z_tys ca)[z_tp (20 + ci)]? = some (ca (20 + ci), .object (clT.getD ci (RX0, TX0, 0)).1) := by rcases hci with rfl | rfl | rfl <;> rfl
    have hc : clT[ci]? = some (clT.getD ci (RX0, TX0, 0)) := by rcases hci with rfl | rfl | rfl <;> rfl
    have hlt : i.toNatClampNeg < N := Nat.not_le.mp fun q => hi (Or.inr q)
    have h0 : ¬ i < 0 := fun q => hi (Or.inl q)
    have hev : va_at D clT _ H := hR.1 v _ ((z_ws_get hwv).trans (congrArg some (congrArg (Prod.mk (b + v)) (z_ent_o (by omega)))))
    obtain ⟨r', hr', cellV, g1, g2, g3, -⟩ := hev
    have hcls := (G.2.1.1.1 ci _ hc).2
    obtain ⟨kA, comp, k1, k2, k3, -⟩ := (G.2.1.1.2 _ _ ht).2
    have hcomp : comp = D.1 ci := Option.some.inj (k3.symm.trans hcls.1)
    subst hcomp
    obtain ⟨kC, hkC, -⟩ := hcls.2
    have g1 : H[b + v]? = some cellV := g1
    rw [z_ta_in hv]
    refine W.aast G.1.1 G.1.2.1 he (fun q h => by cases h) (fun h => by cases h) k1 k2 rfl hkC ⟨h0, by show _ < (arrV _ _ _).slots.size; rw [arrV_size]; exact hlt⟩ g1 (fun q h => by rw [g3] at h; cases h) (by rw [g2]; exact hkC) (by rw [g2]; exact va_assign hcls) rfl rfl hd fun H1 e z oq => ?_
    refine w H1 _ ?_ z oq
    rw [z_ent_r (by omega), z_upd_R]
    show H1[b + a]? = some (vp_cell _ _)
    rw [e]
    rw [vp_cell_q, vp_cell_q, arrV_store]
    congr 2
    funext q
    by_cases hq : q = i.toNatClampNeg
    · subst hq
      simp [updV, va_up, va_rf, z_ta_in hv]
    · simp [updV, va_up, hq]
theorem z_sub4 {a : Nat} (h1 : 1000000 ≤ a) (h2 : a < 1000004) : a - 1000000 < 4 := by omega
/-- the outer arrays -/
def o_oald : zOp := fun X _ K _ k n pc ls st L μ => match st with
  | .int i :: .ref a :: st' => ((1000000 ≤ a ∧ a < 1000004) ∧ vp_in i (z_on X (a - 1000000))) ∧ K k n (pc + 1) ls (.int (z_of X (a - 1000000) i.toNatClampNeg) :: st') L μ
  | _ => False
theorem z_ta_out {b : Nat} {oa : Nat → Nat} {a : Nat} (h : 1000000 ≤ a) : z_ta b oa a = oa (a - 1000000) := if_neg (by omega)
theorem ok_oald {M : zMD} {pc : Nat} (hd : decode M.2.1 pc = .ok (.iaload, 1)) : zOk M pc o_oald := fun X d Q k n ls st L μ h => match st, h with
  | .int i :: .ref a :: st', h => by
    obtain ⟨⟨⟨ha, ha2⟩, hi⟩, h⟩ := h
    refine z_go (fun p l e R s m args below meth c b oa D ca Z mc ms G H locs cells slots lsM hk hn hR hS hL w => ?_) h
    show W p l e R s m args below meth c H locs cells slots Z (F0 m pc lsM (.int i :: .ref (z_ta b oa a) :: _))
    rw [z_ta_out ha]
    obtain ⟨ho1, ho2⟩ := G.2.1.2.2.1.1 (a - 1000000) (z_sub4 ha ha2)
    exact va_sld G.1.1 G.1.2.1 ho2 (Nat.lt_of_lt_of_le ho1 G.2.1.2.2.2) (Nat.not_le.mpr ho1) hS hi hd w
def o_olen : zOp := fun X _ K _ k n pc ls st L μ => match st with
  | .ref a :: st' => (1000000 ≤ a ∧ a < 1000004) ∧ K k n (pc + 1) ls (.int (Int32.ofNat (z_on X (a - 1000000))) :: st') L μ
  | _ => False
theorem ok_olen {M : zMD} {pc : Nat} (hd : decode M.2.1 pc = .ok (.arraylength, 1)) : zOk M pc o_olen := fun X d Q k n ls st L μ h => match st, h with
  | .ref a :: st', h => by
    obtain ⟨⟨ha, ha2⟩, h⟩ := h
    refine z_go (fun p l e R s m args below meth c b oa D ca Z mc ms G H locs cells slots lsM hk hn hR hS hL w => ?_) h
    show W p l e R s m args below meth c H locs cells slots Z (F0 m pc lsM (.ref (z_ta b oa a) :: _))
    rw [z_ta_out ha]
    obtain ⟨ho1, ho2⟩ := G.2.1.2.2.1.1 (a - 1000000) (z_sub4 ha ha2)
    exact va_slen G.1.1 G.1.2.1 ho2 (Nat.lt_of_lt_of_le ho1 G.2.1.2.2.2) (Nat.not_le.mpr ho1) hS hd w
/-- static arrays: 0 LOWEST, 1 HIGHEST, 2 ABOVE -/
def o_gsta (j : Nat) : zOp := fun _ _ K _ k n pc ls st L μ => K k n (pc + 3) ls (.ref (1000000 + j) :: st) L μ
def z_sn (j : Nat) : String := if j = 0 then "LOWEST" else if j = 1 then "HIGHEST" else "ABOVE"
theorem z_sZ {b : Nat} {oa : Nat → Nat} {X : zXs} {U : State} {H : Heap} {j : Nat} (hj : j < 3) (h : zOut b oa X U H) : va_Z "ShadowTax" (z_sn j) "[I" (.ref (z_ta b oa (1000000 + j))) (fun q => b ≤ q) U H := by
  rw [z_ta_out (by omega)]
  match j, hj with
  | 0, _ => exact h.2.1
  | 1, _ => exact h.2.2.1
  | 2, _ => exact h.2.2.2.1
theorem ok_gsta {M : zMD} {pc idx j : Nat} (hj : j < 3) (hd : decode M.2.1 pc = .ok (.getstatic idx, 3)) (hl : Cond.fieldLink M.1.cls idx "ShadowTax" (z_sn j) "[I" ∈ tbG) : zOk M pc (o_gsta j) := fun X d Q k n ls st L μ h => by
  refine z_go (fun p l e R s m args below meth c b oa D ca Z mc ms G H locs cells slots lsM hk hn hR hS hL w => ?_) h
  exact va_gets G.1.1 G.1.2.1 (z_sZ hj G.2.1.2.2.1) hS G.1.2.2.2.2.1 (G.1.2.2.2.2.2.1 _ hl) (fun _ q => q) hd w
theorem ok_gstaN {M : zMD} {pc idx j : Nat} (hj : j < 3) (hd : decode M.2.1 pc = .ok (.getstatic idx, 3)) (hl : (M.1.cls, idx, "ShadowTax", z_sn j, "[I", "ShadowTax") ∈ z_fl) : zOk M pc (o_gsta j) := fun X d Q k n ls st L μ h => by
  refine z_go (fun p l e R s m args below meth c b oa D ca Z mc ms G H locs cells slots lsM hk hn hR hS hL w => ?_) h
  exact va_getsN G.1.1 G.1.2.1 (z_sZ hj G.2.1.2.2.1) hS G.1.2.2.2.2.1 (va_Nw.use rfl (G.2.1.2.1.2.1 _ hl)) (fun _ q => q) hd w
end
section
/-! calls, and contracts out of walks -/
def z_en : Nat → List Value → zLs
  | n, [] => List.replicate n none
  | n, .long x :: vs => some (.long x) :: none :: z_en (n - 2) vs
  | n, v :: vs => some v :: z_en (n - 1) vs
def z_cs : List Value → Nat
  | [] => 0
  | .long _ :: vs => z_cs vs + 2
  | _ :: vs => z_cs vs + 1
/-- no double among them -/
def z_nv (vs : List Value) : Bool := vs.all (fun v => match v with
  | .double _ => false
  | _ => true)
theorem z_nv_c {v : Value} {vs : List Value} (h : z_nv (v :: vs) = true) : z_nv vs = true := by
  unfold z_nv at h
  rw [List.all_cons, Bool.and_eq_true] at h
  exact h.2
theorem z_en_len : ∀ (vs : List Value) (n : Nat), z_cs vs ≤ n → (z_en n vs).length = n
  | [], n, _ => List.length_replicate
  | .long x :: vs, n, h => by
    have h : z_cs vs + 2 ≤ n := h
    show (z_en (n - 2) vs).length + 1 + 1 = n
    rw [z_en_len vs (n - 2) (by omega)]
    omega
  | .int x :: vs, n, h => by
    have h : z_cs vs + 1 ≤ n := h
    show (z_en (n - 1) vs).length + 1 = n
    rw [z_en_len vs (n - 1) (by omega)]
    omega
  | .float x :: vs, n, h => by
    have h : z_cs vs + 1 ≤ n := h
    show (z_en (n - 1) vs).length + 1 = n
    rw [z_en_len vs (n - 1) (by omega)]
    omega
  | .double x :: vs, n, h => by
    have h : z_cs vs + 1 ≤ n := h
    show (z_en (n - 1) vs).length + 1 = n
    rw [z_en_len vs (n - 1) (by omega)]
    omega
  | .null :: vs, n, h => by
    have h : z_cs vs + 1 ≤ n := h
    show (z_en (n - 1) vs).length + 1 = n
    rw [z_en_len vs (n - 1) (by omega)]
    omega
  | .ref x :: vs, n, h => by
    have h : z_cs vs + 1 ≤ n := h
    show (z_en (n - 1) vs).length + 1 = n
    rw [z_en_len vs (n - 1) (by omega)]
    omega
  | .retAddr x :: vs, n, h => by
    have h : z_cs vs + 1 ≤ n := h
    show (z_en (n - 1) vs).length + 1 = n
    rw [z_en_len vs (n - 1) (by omega)]
    omega
theorem z_en_one {b : Nat} {oa : Nat → Nat} {v : Value} {vs : List Value} {n i : Nat} (hv : v.category = 1) (he : z_en n (v :: vs) = some v :: z_en (n - 1) vs) (ih : ∀ (m : Nat) (j : Nat) (w : Value), (z_en (n - 1) vs)[j]? = some (some w) → (m + j, z_tr b oa w) ∈ lv_args m (vs.map (z_tr b oa))) (j : Nat) (w : Value) (h : (z_en n (v :: vs))[j]? = some (some w)) : (i + j, z_tr b oa w) ∈ lv_args i ((v :: vs).map (z_tr b oa)) := by
  rw [he] at h
  show (i + j, z_tr b oa w) ∈ (i, z_tr b oa v) :: lv_args (if (z_tr b oa v).category = 2 then i + 2 else i + 1) (vs.map (z_tr b oa))
  rw [if_neg (by rw [z_tr_cat, hv]; decide)]
  cases j with
  | zero => cases h; exact List.mem_cons_self
  | succ j =>
    have h : (z_en (n - 1) vs)[j]? = some (some w) := h
    have := ih (i + 1) j w h
    rw [show i + 1 + j = i + (j + 1) by omega] at this
    exact List.mem_cons_of_mem _ this
theorem z_en_mem (b : Nat) (oa : Nat → Nat) : ∀ (vs : List Value) (n i j : Nat) (w : Value), z_nv vs = true → (z_en n vs)[j]? = some (some w) → (i + j, z_tr b oa w) ∈ lv_args i (vs.map (z_tr b oa))
  | [], n, i, j, w, _, h => by
    have h : (List.replicate n (none : Option Value))[j]? = some (some w) := h
    rw [List.getElem?_replicate] at h
    split at h <;> cases h
  | .long x :: vs, n, i, j, w, hn, h => by
    have hn : z_nv vs = true := (z_nv_c hn)
    show (i + j, z_tr b oa w) ∈ (i, Value.long x) :: lv_args (i + 2) (vs.map (z_tr b oa))
    match j, h with
    | 0, h => cases h; exact List.mem_cons_self
    | 1, h => cases h
    | j + 2, h =>
      have h : (z_en (n - 2) vs)[j]? = some (some w) := h
      have := z_en_mem b oa vs (n - 2) (i + 2) j w hn h
      rw [show i + 2 + j = i + (j + 2) by omega] at this
      exact List.mem_cons_of_mem _ this
  | .int x :: vs, n, i, j, w, hn, h => z_en_one rfl rfl (fun m j w q => z_en_mem b oa vs (n - 1) m j w (z_nv_c hn) q) j w h
  | .float x :: vs, n, i, j, w, hn, h => z_en_one rfl rfl (fun m j w q => z_en_mem b oa vs (n - 1) m j w (z_nv_c hn) q) j w h
  | .double x :: vs, n, i, j, w, hn, h => by simp [z_nv] at hn
  | .null :: vs, n, i, j, w, hn, h => z_en_one rfl rfl (fun m j w q => z_en_mem b oa vs (n - 1) m j w (z_nv_c hn) q) j w h
  | .ref x :: vs, n, i, j, w, hn, h => z_en_one rfl rfl (fun m j w q => z_en_mem b oa vs (n - 1) m j w (z_nv_c hn) q) j w h
  | .retAddr x :: vs, n, i, j, w, hn, h => z_en_one rfl rfl (fun m j w q => z_en_mem b oa vs (n - 1) m j w (z_nv_c hn) q) j w h
theorem z_sl_len (b : Nat) (oa : Nat → Nat) : ∀ (vs : List Value), z_nv vs = true → (lg_sl (vs.map (z_tr b oa))).length = z_cs vs
  | [], _ => rfl
  | .long x :: vs, h => by
    have := z_sl_len b oa vs (z_nv_c h)
    simp [lg_sl, z_tr, Value.category, z_cs] at this ⊢
    omega
  | .int x :: vs, h => by
    have := z_sl_len b oa vs (z_nv_c h)
    simp [lg_sl, z_tr, Value.category, z_cs] at this ⊢
    omega
  | .float x :: vs, h => by
    have := z_sl_len b oa vs (z_nv_c h)
    simp [lg_sl, z_tr, Value.category, z_cs] at this ⊢
    omega
  | .double x :: vs, h => by simp [z_nv] at h
  | .null :: vs, h => by
    have := z_sl_len b oa vs (z_nv_c h)
    simp [lg_sl, z_tr, Value.category, z_cs] at this ⊢
    omega
  | .ref x :: vs, h => by
    have := z_sl_len b oa vs (z_nv_c h)
    simp [lg_sl, z_tr, Value.category, z_cs] at this ⊢
    omega
  | .retAddr x :: vs, h => by
    have := z_sl_len b oa vs (z_nv_c h)
    simp [lg_sl, z_tr, Value.category, z_cs] at this ⊢
    omega
/-- what the tables say of a method of np parameters -/
def zMok (M : zMD) (np : Nat) : Prop := plainName M.1.cls = true ∧ Cond.code M.1 M.2.1 M.2.2.1 M.2.2.2 ∈ tbG ∧ Cond.initialized M.1.cls ∈ tbG ∧ (M.1.cls ≠ "java/lang/invoke/MethodHandle" ∧ M.1.cls ≠ "java/lang/invoke/VarHandle" ∧ (parseMethodDescriptor M.1.desc).map (fun d => d.parameters.length) = some np) ∧ M.2.2.1 ≤ 45
theorem zC.of {X : zXs} {d k n np : Nat} {M : zMD} {as : List Value} {L : List zSh} {μ : zMem} {Q : zRQ} (hM : zMok M np) (hcs : (Nat.ble (z_cs as) M.2.2.1 && z_nv as) = true) (h : zT X d M Q k n 0 (z_en M.2.2.1 as) [] L μ) : zC X d k n M as L μ Q := by
  intro l b oa D ca
  rw [Bool.and_eq_true] at hcs
  have hle : z_cs as ≤ M.2.2.1 := Nat.le_of_ble_eq_true hcs.1
  refine Met.ofW (cc := M.2.1) (maxL := M.2.2.1) (ret := M.2.2.2) hM.1 rfl ?_
  intro p e s m args below meth c s₁ B hml hv
  obtain ⟨rfl, hWd, hR⟩ := hv
  have hts := atoms_spec (ws := z_w M) B.pre
  have hl := lv_entry (as.map (z_tr b oa)) (n := M.2.2.1) (by rw [z_sl_len b oa as hcs.2]; exact hle)
  rw [lg_entry_eq]
  refine h ((p, l, e, { frames := d, cells := k, slots := n, locals := 64 * d }, s), (m, (as.map (z_tr b oa)).toArray, below, meth, c), (b, oa, D, ca), (MQ below (zQc b oa D ca Q) (as.map (z_tr b oa)).toArray s k n (fun q => b ≤ q), k, n)) ⟨⟨B.exec, B.bytes, B.returns, hml, findClass_of_methodNamed B.named, fun w hw => hts w (List.mem_cons_of_mem _ hw), B.notSynchronized, fun q => (name_of_methodNamed B.named B.method).1.trans q⟩, hWd, ⟨Nat.le_refl _, Nat.le_refl _, Nat.le_refl _, Nat.le_refl _⟩, ?_⟩ s.heap [] 0 0 _ (by omega) (by omega) hR va_S.rf ⟨z_en_len as _ hle, hl.1, hl.2.1, fun j w hw => ?_⟩
  · intro v L' μ' H locs cells slots pc lsM hQ hRel hS hc hs hret
    refine W.widen hc hs ?_
    rcases hret with ⟨hd, rfl, hr⟩ | ⟨x, ty, hd, rfl, hr, hnar⟩ | ⟨x, hd, rfl, hr⟩
    · exact W.vret B.exec B.bytes (B.returns.trans hr) (fun t ht hW => ⟨none, L', μ', rfl, hQ, by rw [ht]; exact hRel, hS.F ht⟩) hS.2.2 hd B.notSynchronized
    · exact W.zret B.exec B.bytes (B.returns.trans hr) hnar (fun t ht hW => ⟨some (.int x), L', μ', rfl, hQ, by rw [ht]; exact hRel, hS.F ht⟩) hS.2.2 hd B.notSynchronized
    · exact W.lret B.exec B.bytes (B.returns.trans hr) (fun t ht hW => ⟨some (.long x), L', μ', rfl, hQ, by rw [ht]; exact hRel, hS.F ht⟩) hS.2.2 hd B.notSynchronized
  · have := z_en_mem b oa as M.2.2.1 0 j w hcs.2 hw
    rw [Nat.zero_add] at this
    exact hl.2.2 _ this
/-- weaker ends, more room -/
theorem zT.mono {X : zXs} {d d' : Nat} {M : zMD} {Q Q' : zRQ} {k n pc : Nat} {ls : zLs} {st : List Value} {L : List zSh} {μ : zMem} (hQ : ∀ v L μ, Q v L μ → Q' v L μ) (hd : d ≤ d') (h : zT X d M Q k n pc ls st L μ) : zT X d' M Q' k n pc ls st L μ := by
  intro ⟨⟨p, l, e, R, s⟩, ⟨m, args, below, meth, c⟩, ⟨b, oa, D, ca⟩, ⟨Z, mc, ms⟩⟩ G
  exact h ((p, l, e, R, s), (m, args, below, meth, c), (b, oa, D, ca), (Z, mc, ms)) ⟨G.1, G.2.1, ⟨Nat.le_trans hd G.2.2.1.1, Nat.le_trans (Nat.mul_le_mul_left 64 hd) G.2.2.1.2.1, G.2.2.1.2.2⟩, fun v L μ H locs cells slots pc lsM q => G.2.2.2 v L μ H locs cells slots pc lsM (hQ v L μ q)⟩
/-- behind a call -/
theorem z_call {M M' : zMD} {X : zXs} {d : Nat} {Q Q' : zRQ} {k n k1 n1 pc : Nat} {ls : zLs} {st rest as : List Value} {L : List zSh} {μ : zMem} (hk1 : k1 ≤ k) (hn1 : n1 ≤ n)
    (hrun : ∀ (p : Program) (l : Launch) (e : Env) (R : Room) (s : State) (m : MethodId) (args : Array Value) (below : List Frame) (meth : Method) (c : Code) (b : Nat) (oa : Nat → Nat) (D : va_G) (ca : Nat → ClassId) (Z : State → Prop) (mc ms : Nat), zGood X d ((p, l, e, R, s), (m, args, below, meth, c), (b, oa, D, ca), (Z, mc, ms)) M Q → ∀ (H : Heap) (locs : List Loc) (cells slots : Nat) (lsM : Array Slot), cells + k1 ≤ R.cells ∧ slots + n1 ≤ R.slots → zRel b oa D ca L μ H → zWd b oa D ca X s H → lsM.size = M.2.2.1 →
      va_Run p l e R s m args below meth c H locs cells slots k1 n1 (F0 m pc lsM (st.map (z_tr b oa))) (rest.map (z_tr b oa)) (zQc b oa D ca Q' (as.map (z_tr b oa)).toArray) (fun q => b ≤ q))
    (h : ∀ v L' μ', Q' v L' μ' → zT X d M Q (k - k1) (n - n1) (pc + 3) ls (v.toList ++ rest) L' μ') : zT X d M Q k n pc ls st L μ := by
  intro ⟨⟨p, l, e, R, s⟩, ⟨m, args, below, meth, c⟩, ⟨b, oa, D, ca⟩, ⟨Z, mc, ms⟩⟩ G H locs cells slots lsM hk hn hR hS hL
  have hWd : zWd b oa D ca X s H := G.2.1.kept hS.1 hS.2.1
  have hrm := G.2.2.1
  intro T hT Xs
  obtain ⟨v, st₀, t, T', L2, h0, X', hL2, e1, e2, ⟨v', L', μ', hv, hQ, hRel, hF⟩, st⟩ := hrun p l e R s m args below meth c b oa D ca Z mc ms G H locs cells slots lsM ⟨by omega, by omega⟩ hR hWd hL.2.1 T hT Xs
  cases hv
  unfold va_F at hF
  rw [h0] at hF
  have hS' : va_S (fun q => b ≤ q) s.heap T'.heap (locs ++ L2) := by
    refine ⟨Nat.le_trans hS.1 (by rw [e1]; exact hF.1), fun q h1 h2 => ?_, fun q hq => ?_⟩
    · rw [e1, hF.2 q (Nat.lt_of_lt_of_le h1 hS.1) h2]
      exact hS.2.1 q h1 h2
    · rcases List.mem_append.mp hq with h | h
      · exact hS.2.2 q h
      · exact hL2 q h
  have hw := h v' L' μ' hQ ((p, l, e, R, s), (m, args, below, meth, c), (b, oa, D, ca), (Z, mc, ms)) G T'.heap (locs ++ L2) (cells + k1) (slots + n1) lsM (by omega) (by omega) (by rw [e1]; exact hRel) hS' hL
  rw [List.map_append] at hw
  have hst : v'.toList.map (z_tr b oa) = (v'.map (z_tr b oa)).toList := by cases v' <;> rfl
  rw [hst] at hw
  obtain ⟨t2, a1, b1⟩ := hw T' rfl X'
  exact ⟨t2, st t2 a1, b1⟩
theorem z_good (M : zMD) {np : Nat} (hM : zMok M np) : GoodIn tbG (z_w M) := by
  intro w hw
  rcases List.mem_cons.mp hw with rfl | hw
  · exact ⟨hM.2.1, tbG_good hM.2.1⟩
  · exact ⟨hw, tbG_good hw⟩
theorem z_blind {b : Nat} {oa : Nat → Nat} {D : va_G} {ca : Nat → ClassId} {X : zXs} {L : List zSh} {μ : zMem} {as : List Value} : FrameBlind (va_Pc (as.map (z_tr b oa)) (fun U => zWd b oa D ca X U U.heap ∧ zRel b oa D ca L μ U.heap)) :=
  fun a U g mk q => ⟨q.1, q.2.1.same (s := U) (U := U.calling g mk a) rfl, q.2.2⟩
theorem z_rest {b : Nat} {oa : Nat → Nat} : ∀ (r : List Value), ((r.map (z_tr b oa)).map fun v => v.category).sum ≤ 2 * r.length
  | [] => Nat.le_refl _
  | v :: r => by
    have := z_rest (b := b) (oa := oa) r
    have hc : (z_tr b oa v).category ≤ 2 := by cases v <;> simp [z_tr, Value.category]
    simp only [List.map_cons, List.sum_cons, List.length_cons]
    omega
/-- a static method of np parameters is called -/
def o_cS (M' : zMD) (np : Nat) : zOp := fun X d K _ k n pc ls st L μ => bif Nat.ble np st.length && Nat.ble (st.drop np).length 4 then
  1 ≤ d ∧ ∃ Q' : zRQ, zC X (d - 1) 0 0 M' (st.take np).reverse L μ Q' ∧ ∀ v L' μ', Q' v L' μ' → K k n (pc + 3) ls (v.toList ++ st.drop np) L' μ' else False
theorem z_rm {M : zMD} {X : zXs} {d : Nat} {Q : zRQ} {M' : zMD} {np : Nat} (hM : zMok M' np) {p : Program} {l : Launch} {e : Env} {R : Room} {s : State} {x : MethodId × Array Value × List Frame × Method × Code} {y : Nat × (Nat → Nat) × va_G × (Nat → ClassId)} {z : (State → Prop) × Nat × Nat} (h1 : 1 ≤ d) (G : zGood X d ((p, l, e, R, s), x, y, z) M Q) : (d - 1) + 1 ≤ R.frames ∧ 8 + (M'.2.2.1 + 11) + 64 * (d - 1) ≤ R.locals := by
  have h2 := G.2.2.1
  have h3 := hM.2.2.2.2
  omega
theorem ok_cS {M M' : zMD} {pc idx np : Nat} (hM : zMok M' np) (hd : decode M.2.1 pc = .ok (.invokestatic idx, 3)) (hs : Cond.static M'.1 ∈ tbG) (hl : Cond.methodLink M.1.cls idx M'.1 ∈ tbG) : zOk M pc (o_cS M' np) := fun X d Q k n ls st L μ h => by
  obtain ⟨hc, h1, Q', hC, h⟩ := z_cd h
  rw [Bool.and_eq_true] at hc
  have hnp := Nat.le_of_ble_eq_true hc.1
  have h4 := Nat.le_of_ble_eq_true hc.2
  refine z_call (M' := M') (rest := st.drop np) (as := (st.take np).reverse) (Nat.zero_le _) (Nat.zero_le _) (fun p l e R s m args below meth c b oa D ca Z mc ms G H locs cells slots lsM hf hR hWd hsz => ?_) h
  have hts := G.1.2.2.2.2.2.1
  exact va_runS (As := (st.take np).reverse.map (z_tr b oa)) ⟨G.1.1, G.1.2.1, G.1.2.2.2.1, G.1.2.2.2.2.1, hts⟩ (hC l b oa D ca) ⟨callB_of np hts (z_good M' hM) rfl rfl rfl (hts _ hM.2.2.1) (hts _ hl) hM.2.2.2.1 (z_rm hM h1 G), hts _ hs⟩ ⟨z_blind, fun U hU hW => ⟨rfl, by rw [hU]; exact hWd.warm hW, by rw [hU]; exact hR⟩⟩ rfl (by simp; omega) hsz (by rw [List.map_reverse, List.reverse_reverse, ← List.map_append, List.take_append_drop]) (by show 2 * 0 + _ ≤ 8; have := z_rest (b := b) (oa := oa) (st.drop np); omega) hd hf
theorem ok_cSN {M M' : zMD} {pc idx np : Nat} {host : String} (hM : zMok M' np) (hd : decode M.2.1 pc = .ok (.invokestatic idx, 3)) (hs : Cond.static M'.1 ∈ tbG) (hl : (M.1.cls, idx, M'.1, host) ∈ z_ml) : zOk M pc (o_cS M' np) := fun X d Q k n ls st L μ h => by
  obtain ⟨hc, h1, Q', hC, h⟩ := z_cd h
  rw [Bool.and_eq_true] at hc
  have hnp := Nat.le_of_ble_eq_true hc.1
  have h4 := Nat.le_of_ble_eq_true hc.2
  refine z_call (M' := M') (rest := st.drop np) (as := (st.take np).reverse) (Nat.zero_le _) (Nat.zero_le _) (fun p l e R s m args below meth c b oa D ca Z mc ms G H locs cells slots lsM hf hR hWd hsz => ?_) h
  have hts := G.1.2.2.2.2.2.1
  exact va_runSN (As := (st.take np).reverse.map (z_tr b oa)) ⟨G.1.1, G.1.2.1, G.1.2.2.2.1, G.1.2.2.2.2.1, hts⟩ (hC l b oa D ca) ⟨va_cnB np hts (z_good M' hM) rfl rfl rfl (hWd.2.1.1 _ hl) (hts _ hM.2.2.1) hM.2.2.2.1 (z_rm hM h1 G), hts _ hs, trivial⟩ ⟨z_blind, fun U hU hW => ⟨rfl, by rw [hU]; exact hWd.warm hW, by rw [hU]; exact hR⟩⟩ rfl (by simp; omega) hsz (by rw [List.map_reverse, List.reverse_reverse, ← List.map_append, List.take_append_drop]) (by show 2 * 0 + _ ≤ 8; have := z_rest (b := b) (oa := oa) (st.drop np); omega) hd hf
/-- a method of an object of class ci is called -/
def o_cV (M' : zMD) (np ci : Nat) : zOp := fun X d K _ k n pc ls st L μ => match st.drop np with
  | .ref a :: rest => bif Nat.ble rest.length 4 then
    (1 ≤ d ∧ a < 1000000 ∧ ∃ w, L[a]? = some (ci, w)) ∧ ∃ Q' : zRQ, zC X (d - 1) 0 0 M' (.ref a :: (st.take np).reverse) L μ Q' ∧ ∀ v L' μ', Q' v L' μ' → K k n (pc + 3) ls (v.toList ++ rest) L' μ' else False
  | _ => False
theorem z_recv {b : Nat} {oa : Nat → Nat} {D : va_G} {ca : Nat → ClassId} {L : List zSh} {μ : zMem} {H : Heap} {U : State} {X : zXs} {a ci w : Nat} {C : String} {T : u_T} {N : Nat} (hc : clT[ci]? = some (C, T, N)) (hw : L[a]? = some (ci, w)) (hR : zRel b oa D ca L μ H) (hWd : zWd b oa D ca X U H) : ∃ cellB : Cell, H[b + a]? = some cellB ∧ cellB.vm.isStatics = false ∧ U.vm.findClass C = some cellB.cls :=
  va_recv hWd.1 hR.1 hc ((z_ws_get hw).trans (congrArg some (congrArg (Prod.mk (b + a)) (z_ent_o (z_cls hc).1))))
theorem ok_cV {M M' : zMD} {pc idx np ci : Nat} {T : u_T} {N : Nat} (hc : clT[ci]? = some (M'.1.cls, T, N)) (hM : zMok M' np) (hd : decode M.2.1 pc = .ok (.invokevirtual idx, 3)) (hi : Cond.instanceMethod M'.1 ∈ tbG) (hs : Cond.selects M'.1.cls M'.1 M'.1 ∈ tbG) (hl : Cond.methodLink M.1.cls idx M'.1 ∈ tbG) : zOk M pc (o_cV M' np ci) := fun X d Q k n ls st L μ h => by
  unfold o_cV at h
  split at h
  · rename_i a rest hdr
    obtain ⟨h4, ⟨h1, ha, w, hw⟩, Q', hC, h⟩ := z_cd h
    have h4 := Nat.le_of_ble_eq_true h4
    have hlen : np + (rest.length + 1) = st.length := by
      have := congrArg List.length hdr
      simp at this
      omega
    have hst : st = st.take np ++ .ref a :: rest := by rw [← hdr, List.take_append_drop]
    refine z_call (M' := M') (rest := rest) (as := .ref a :: (st.take np).reverse) (Nat.zero_le _) (Nat.zero_le _) (fun p l e R s m args below meth c b oa D ca Z mc ms G H locs cells slots lsM hf hR hWd hsz => ?_) h
    have hts := G.1.2.2.2.2.2.1
    have hta : z_tr b oa (.ref a) = .ref (b + a) := congrArg Value.ref (z_ta_in ha)
    have hM1 := hC l b oa D ca
    rw [List.map_cons, hta] at hM1 ⊢
    refine va_runV (b := b + a) (C := M'.1.cls) (As := (st.take np).reverse.map (z_tr b oa)) ⟨G.1.1, G.1.2.1, G.1.2.2.2.1, G.1.2.2.2.2.1, hts⟩ hM1 ⟨callB_of np hts (z_good M' hM) rfl rfl rfl (hts _ hM.2.2.1) (hts _ hl) hM.2.2.2.1 (z_rm hM h1 G), hts _ hi, hts _ hs⟩ ⟨?_, z_recv hc hw hR hWd, fun U hU hW => ⟨rfl, by rw [hU]; exact hWd.warm hW, by rw [hU]; exact hR⟩⟩ rfl (by simp; omega) hsz ?_ (by show 2 * 0 + _ ≤ 8; have := z_rest (b := b) (oa := oa) rest; omega) hd hf
    · have := z_blind (b := b) (oa := oa) (D := D) (ca := ca) (X := X) (L := L) (μ := μ) (as := .ref a :: (st.take np).reverse)
      rw [List.map_cons, hta] at this
      exact this
    · show st.map (z_tr b oa) = _
      rw [List.map_reverse, List.reverse_reverse, ← hta, ← List.map_cons, ← List.map_append, ← hst]
  · exact h.elim
end
section
/-! Math, Object's constructor, new cells, arraycopy -/
theorem ok_ldc_w {M : zMD} {pc idx : Nat} {v : Int32} (hd : decode M.2.1 pc = .ok (.ldc_w idx, 3)) (hc : Jvm.Cond.constant M.1.cls idx v ∈ tbG) : zOk M pc (o_con (.int v) 3) := fun _ _ _ _ _ _ _ _ _ h => z_go (fun _ _ _ _ _ _ _ _ _ _ _ _ _ _ _ _ _ G _ _ _ _ _ _ _ _ _ _ w => lv_ldcw G.1.1 G.1.2.1 G.1.2.2.2.2.1 (G.1.2.2.2.2.2.1 _ hc) hd w) h
theorem z_lmax : Cond.code Lib.Math.max.name Lib.Math.max.code 2 (some .int) ∈ tbG := tbG_mem 552 (by decide +kernel) (by decide +kernel)
theorem z_lmin : Cond.code Lib.Math.min.name Lib.Math.min.code 2 (some .int) ∈ tbG := tbG_mem 549 (by decide +kernel) (by decide +kernel)
theorem z_smax : Cond.static Lib.Math.max.name ∈ tbG := tbG_mem 551 (by decide +kernel) (by decide +kernel)
theorem z_smin : Cond.static Lib.Math.min.name ∈ tbG := tbG_mem 548 (by decide +kernel) (by decide +kernel)
theorem z_imath : Cond.initialized "java/lang/Math" ∈ tbG := tbG_mem 97 (by decide +kernel) (by decide +kernel)
theorem z_locode : Cond.code Lib.objectInit ⟨#[0xb1]⟩ 1 none ∈ tbG := tbG_mem 108 (by decide +kernel) (by decide +kernel)
theorem z_loinst : Cond.instanceMethod Lib.objectInit ∈ tbG := tbG_mem 107 (by decide +kernel) (by decide +kernel)
theorem z_acnat : Cond.native arraycopyName ∈ tbG := tbG_mem 760 (by decide +kernel) (by decide +kernel)
theorem z_acst : Cond.static arraycopyName ∈ tbG := tbG_mem 759 (by decide +kernel) (by decide +kernel)
theorem z_isys : Cond.initialized "java/lang/System" ∈ tbG := tbG_mem 100 (by decide +kernel) (by decide +kernel)
theorem z_aint : Cond.arrayClass .int ∈ tbG := tbG_mem 145 (by decide +kernel) (by decide +kernel)
theorem z_abool : Cond.arrayClass .boolean ∈ tbG := tbG_mem 915 (by decide +kernel) (by decide +kernel)
def o_mmax : zOp := fun _ d K _ k n pc ls st L μ => match st with
  | .int y :: .int x :: st' => bif Nat.ble st'.length 4 then 1 ≤ d ∧ K k n (pc + 3) ls (.int (if x < y then y else x) :: st') L μ else False
  | _ => False
def o_mmin : zOp := fun _ d K _ k n pc ls st L μ => match st with
  | .int y :: .int x :: st' => bif Nat.ble st'.length 4 then 1 ≤ d ∧ K k n (pc + 3) ls (.int (if y < x then y else x) :: st') L μ else False
  | _ => False
theorem ok_mmax {M : zMD} {pc idx : Nat} (hd : decode M.2.1 pc = .ok (.invokestatic idx, 3)) (hl : Cond.methodLink M.1.cls idx Lib.Math.max.name ∈ tbG) : zOk M pc o_mmax := fun X d Q k n ls st L μ h => match st, h with
  | .int y :: .int x :: st', h => by
    obtain ⟨h4, h1, h⟩ := z_cd h
    have h4 := Nat.le_of_ble_eq_true h4
    refine z_go (fun p l e R s m args below meth c b oa D ca Z mc ms G H locs cells slots lsM hk hn hR hS hL w => ?_) h
    have hts := G.1.2.2.2.2.2.1
    have hrm := G.2.2.1
    have hr := z_rest (b := b) (oa := oa) st'
    exact va_mmax G.1.1 G.1.2.1 (G.1.2.2.2.1.trans hL.2.1.symm) G.1.2.2.2.2.1 (hts _ hl) (hts _ z_smax) (hts _ z_imath) (hts _ z_lmax) (by omega) (by omega) (by omega) (by omega) hd w
theorem ok_mmin {M : zMD} {pc idx : Nat} (hd : decode M.2.1 pc = .ok (.invokestatic idx, 3)) (hl : Cond.methodLink M.1.cls idx Lib.Math.min.name ∈ tbG) : zOk M pc o_mmin := fun X d Q k n ls st L μ h => match st, h with
  | .int y :: .int x :: st', h => by
    obtain ⟨h4, h1, h⟩ := z_cd h
    have h4 := Nat.le_of_ble_eq_true h4
    refine z_go (fun p l e R s m args below meth c b oa D ca Z mc ms G H locs cells slots lsM hk hn hR hS hL w => ?_) h
    have hts := G.1.2.2.2.2.2.1
    have hrm := G.2.2.1
    have hr := z_rest (b := b) (oa := oa) st'
    exact va_mmin G.1.1 G.1.2.1 (G.1.2.2.2.1.trans hL.2.1.symm) G.1.2.2.2.2.1 (hts _ hl) (hts _ z_smin) (hts _ z_imath) (hts _ z_lmin) (by omega) (by omega) (by omega) (by omega) hd w
def o_oini : zOp := fun _ d K _ k n pc ls st L μ => match st with
  | .ref _ :: st' => bif Nat.ble st'.length 4 then 1 ≤ d ∧ K k n (pc + 3) ls st' L μ else False
  | _ => False
theorem ok_oini {M : zMD} {pc idx : Nat} (hd : decode M.2.1 pc = .ok (.invokespecial idx, 3)) (hl : Cond.methodLink M.1.cls idx Lib.objectInit ∈ tbG) : zOk M pc o_oini := fun X d Q k n ls st L μ h => match st, h with
  | .ref a :: st', h => by
    obtain ⟨h4, h1, h⟩ := z_cd h
    have h4 := Nat.le_of_ble_eq_true h4
    refine z_go (fun p l e R s m args below meth c b oa D ca Z mc ms G H locs cells slots lsM hk hn hR hS hL w => ?_) h
    have hts := G.1.2.2.2.2.2.1
    have hrm := G.2.2.1
    have hr := z_rest (b := b) (oa := oa) st'
    exact W.objInit G.1.1 G.1.2.1 G.1.2.2.2.2.1 (hts _ hl) (hts _ z_loinst) (hts _ z_locode) rfl (hL.2.1.trans G.1.2.2.2.1.symm) rfl hd (by omega) (by show 2 * 0 + _ + 12 ≤ _; omega) w
/-- a new cell's memory -/
def z_zr (μ : zMem) (a : Nat) : zMem := (fun b j => if b = a then 0 else μ.1 b j, fun b j => if b = a then 0 else μ.2.1 b j, fun b j => if b = a then none else μ.2.2 b j)
theorem z_ent_Z {b : Nat} {oa : Nat → Nat} {ca : Nat → ClassId} {μ : zMem} {a : Nat} (x : Nat) (hx : x ≠ a) (s : zSh) : z_ent b oa ca s (z_zr μ a) x = z_ent b oa ca s μ x := by
  unfold z_ent z_fv z_zr
  simp only [if_neg hx]
theorem z_ws_push {b : Nat} {oa : Nat → Nat} {ca : Nat → ClassId} {L : List zSh} {μ : zMem} {sh : zSh} : z_ws b oa ca (L ++ [sh]) (z_zr μ L.length) = z_ws b oa ca L μ ++ [(b + L.length, z_ent b oa ca sh (z_zr μ L.length) L.length)] := by
  unfold z_ws
  rw [List.length_append, List.length_singleton, List.range_succ, List.map_append]
  congr 1
  · refine List.map_congr_left fun a ha => ?_
    have ha : a < L.length := List.mem_range.mp ha
    have e : (L ++ [sh]).getD a (0, 0) = L.getD a (0, 0) := by rw [List.getD_eq_getElem?_getD, List.getD_eq_getElem?_getD, List.getElem?_append_left ha]
    rw [e, z_ent_Z a (Nat.ne_of_lt ha)]
  · simp
/-- behind a new cell -/
theorem z_nw {M : zMD} {X : zXs} {d : Nat} {Q : zRQ} {k n pc pc' N : Nat} {ls : zLs} {st st' : List Value} {L : List zSh} {μ : zMem} {sh : zSh} (hl : L.length < 1000000) (hk0 : 1 ≤ k) (hn0 : N ≤ n)
    (hg : ∀ (p : Program) (l : Launch) (e : Env) (R : Room) (s : State) (m : MethodId) (args : Array Value) (below : List Frame) (meth : Method) (c : Code) (b : Nat) (oa : Nat → Nat) (D : va_G) (ca : Nat → ClassId) (Z : State → Prop) (mc ms : Nat), zGood X d ((p, l, e, R, s), (m, args, below, meth, c), (b, oa, D, ca), (Z, mc, ms)) M Q → ∀ (H : Heap) (locs : List Loc) (cells slots : Nat) (lsM : Array Slot), cells + 1 ≤ R.cells → slots + N ≤ R.slots → H.size = b + L.length →
      (∀ H1 : Heap, va_at D clT (b + L.length, z_ent b oa ca sh (z_zr μ L.length) L.length) H1 → H1.size = b + L.length + 1 → (∀ q : Nat, q < b + L.length → H1[q]? = H[q]?) → W p l e R s m args below meth c H1 locs (cells + 1) (slots + N) Z (F0 m pc' lsM (.ref (b + L.length) :: st'.map (z_tr b oa)))) → W p l e R s m args below meth c H locs cells slots Z (F0 m pc lsM (st.map (z_tr b oa))))
    (h : zT X d M Q (k - 1) (n - N) pc' ls (.ref L.length :: st') (L ++ [sh]) (z_zr μ L.length)) : zT X d M Q k n pc ls st L μ := by
  intro ⟨⟨p, l, e, R, s⟩, ⟨m, args, below, meth, c⟩, ⟨b, oa, D, ca⟩, ⟨Z, mc, ms⟩⟩ G H locs cells slots lsM hk hn hR hS hL
  have hrm := G.2.2.1
  refine hg p l e R s m args below meth c b oa D ca Z mc ms G H locs cells slots lsM (by omega) (by omega) hR.2 fun H1 hat hz hq => ?_
  have hw := h ((p, l, e, R, s), (m, args, below, meth, c), (b, oa, D, ca), (Z, mc, ms)) G H1 locs (cells + 1) (slots + N) lsM (by omega) (by omega) ⟨?_, ?_⟩ ?_ hL
  · have e1 : z_tr b oa (.ref L.length) = .ref (b + L.length) := congrArg Value.ref (z_ta_in hl)
    rw [List.map_cons, e1] at hw
    exact hw
  · rw [z_ws_push]
    refine va_P.app (hR.1.kept fun j q hj => hq q.1 (by have := (hR.1 j q hj).lt; have := hR.2; omega)) fun j q hj => ?_
    have h0 : j < 1 := (List.getElem?_eq_some_iff.mp hj).1
    rw [show j = 0 by omega] at hj
    cases hj
    exact hat
  · rw [hz, List.length_append, List.length_singleton, Nat.add_assoc]
  · have := hR.2
    exact ⟨Nat.le_trans hS.1 (by omega), fun q h1 h2 => (hq q (by have := hS.1; omega)).trans (hS.2.1 q h1 h2), hS.2.2⟩
def o_new (ci : Nat) : zOp := fun _ _ K _ k n pc ls st L μ => (L.length < 1000000 ∧ 1 ≤ k ∧ z_nf ci ≤ n) ∧ K (k - 1) (n - z_nf ci) (pc + 3) ls (.ref L.length :: st) (L ++ [(ci, 0)]) (z_zr μ L.length)
theorem z_def {ty : FieldType} {a f : Nat} {μ : zMem} {ci : Nat} (ht : z_ft ci f = ty) (hb : ty ≠ .byte ∧ ty ≠ .char ∧ ty ≠ .short ∧ ty ≠ .float ∧ ty ≠ .double) : defaultValue ty = z_fv (z_zr μ a) a ci f := by
  unfold z_fv z_fk
  rw [ht]
  unfold z_zr
  cases ty <;> first | (simp [z_tk, defaultValue, z_rv]; done) | (simp at hb; done)
theorem z_nob {ci : Nat} {C : String} {T : u_T} {N j : Nat} (hc : clT[ci]? = some (C, T, N)) (hj : j < N) : z_ft ci j ≠ .byte ∧ z_ft ci j ≠ .char ∧ z_ft ci j ≠ .short ∧ z_ft ci j ≠ .float ∧ z_ft ci j ≠ .double := by
  have hlt : ci < 8 := (List.getElem?_eq_some_iff.mp hc).1
  have h : ∀ c, c < 8 → ∀ i, i < 43 → (z_ft c i ≠ .byte ∧ z_ft c i ≠ .char ∧ z_ft c i ≠ .short ∧ z_ft c i ≠ .float ∧ z_ft c i ≠ .double) := by decide +kernel
  have hN : N ≤ 43 := by
    have h2 : ∀ c, c < 8 → z_nf c ≤ 43 := by decide +kernel
    rw [← (z_cls hc).2.1]
    exact h2 ci hlt
  exact h ci hlt j (by omega)
theorem ok_new {M : zMD} {pc idx ci : Nat} {C : String} {T : u_T} {N : Nat} (hd : decode M.2.1 pc = .ok (.new idx, 3)) (hc : clT[ci]? = some (C, T, N)) (hl : Cond.classLink M.1.cls idx C ∈ tbG) (hi : Cond.instantiable C N ∈ tbG) (hini : Cond.initialized C ∈ tbG) : zOk M pc (o_new ci) := fun X d Q k n ls st L μ h => by
  obtain ⟨⟨h1, h2, h3⟩, h⟩ := h
  obtain ⟨h10, hnf, hu, hty, hnm⟩ := z_cls hc
  refine z_nw h1 h2 h3 (fun p l e R s m args below meth c b oa D ca Z mc ms G H locs cells slots lsM hcl hsl hz w => ?_) h
  have hts := G.1.2.2.2.2.2.1
  have hKn := G.2.1.1.1 ci _ hc
  rw [hnf] at hsl w
  refine W.newcK G.1.1 G.1.2.1 G.1.2.2.2.2.1 (hts _ hl) (hts _ hi) (hts _ hini) rfl hd hcl hsl hKn.2.1 hz fun H1 kC hkC e1 z1 o1 => ?_
  refine w H1 ?_ z1 o1
  rw [z_ent_o h10]
  refine ⟨_, hc, (u_born (z_ft ci) hts hu hKn hkC e1 hty).to fun j hj => ?_⟩
  have hj' : j < N := hj
  have hq := z_def (a := L.length) (μ := μ) (rfl : z_ft ci j = z_ft ci j) (z_nob hc hj')
  show defaultValue (z_ft ci j) = ((List.range (z_nf ci)).map (fun k => z_tr b oa (z_fv (z_zr μ L.length) L.length ci k))).getD j .null
  rw [hnf, List.getD_eq_getElem?_getD, List.getElem?_map, List.getElem?_range hj']
  show _ = z_tr b oa (z_fv (z_zr μ L.length) L.length ci j)
  rw [← hq]
  cases z_ft ci j <;> rfl
def o_newa (t : Nat) : zOp := fun _ _ K _ k n pc ls st L μ => match st with
  | .int i :: st' => (L.length < 1000000 ∧ 1 ≤ k ∧ i.toNatClampNeg ≤ n ∧ ¬ i < 0 ∧ i.toNatClampNeg ≤ 1000000) ∧ K (k - 1) (n - i.toNatClampNeg) (pc + 2) ls (.ref L.length :: st') (L ++ [(t, i.toNatClampNeg)]) (z_zr μ L.length)
  | _ => False
theorem z_zr_i (μ : zMem) (a : Nat) : (z_zr μ a).1 a = fun _ => 0 := by
  funext j
  show (if a = a then (0 : Int32) else μ.1 a j) = 0
  rw [if_pos rfl]
theorem z_zr_r (b : Nat) (oa : Nat → Nat) (μ : zMem) (a : Nat) : (fun i => ((z_zr μ a).2.2 a i).map (z_ta b oa)) = fun _ => none := by
  funext j
  show ((if a = a then none else μ.2.2 a j).map (z_ta b oa)) = none
  rw [if_pos rfl]
  rfl
theorem ok_newa10 {M : zMD} {pc : Nat} (hd : decode M.2.1 pc = .ok (.newarray .int, 2)) : zOk M pc (o_newa 10) := fun X d Q k n ls st L μ h => match st, h with
  | .int i :: st', h => by
    obtain ⟨⟨h1, h2, h3, h4, h5⟩, h⟩ := h
    refine z_nw h1 h2 h3 (fun p l e R s m args below meth c b oa D ca Z mc ms G H locs cells slots lsM hcl hsl hz w => ?_) h
    refine va_newaK (atype := .int) G.1.1 G.1.2.1 (G.1.2.2.2.2.2.1 _ z_aint) rfl hd rfl h4 rfl (by show i.toNatClampNeg * 4 ≤ _; omega) hcl hsl hz fun H1 cA e1 z1 o1 hAr hNm => ?_
    have hca : cA = ca 10 := Option.some.inj (hNm.symm.trans (G.2.1.1.2 0 _ rfl).2)
    subst hca
    refine w H1 ?_ z1 o1
    rw [z_ent_i (by omega) (by omega), z_zr_i]
    exact e1
theorem ok_newa11 {M : zMD} {pc : Nat} (hd : decode M.2.1 pc = .ok (.newarray .boolean, 2)) : zOk M pc (o_newa 11) := fun X d Q k n ls st L μ h => match st, h with
  | .int i :: st', h => by
    obtain ⟨⟨h1, h2, h3, h4, h5⟩, h⟩ := h
    refine z_nw h1 h2 h3 (fun p l e R s m args below meth c b oa D ca Z mc ms G H locs cells slots lsM hcl hsl hz w => ?_) h
    refine va_newaK (atype := .boolean) G.1.1 G.1.2.1 (G.1.2.2.2.2.2.1 _ z_abool) rfl hd rfl h4 rfl (by show i.toNatClampNeg * 1 ≤ _; omega) hcl hsl hz fun H1 cA e1 z1 o1 hAr hNm => ?_
    have hca : cA = ca 11 := Option.some.inj (hNm.symm.trans (G.2.1.1.2 1 _ rfl).2)
    subst hca
    refine w H1 ?_ z1 o1
    rw [z_ent_i (by omega) (by omega), z_zr_i]
    exact e1
def o_newq (ci : Nat) : zOp := fun _ _ K _ k n pc ls st L μ => match st with
  | .int i :: st' => (L.length < 1000000 ∧ 1 ≤ k ∧ i.toNatClampNeg ≤ n ∧ ¬ i < 0 ∧ i.toNatClampNeg ≤ 1000000) ∧ K (k - 1) (n - i.toNatClampNeg) (pc + 3) ls (.ref L.length :: st') (L ++ [(20 + ci, i.toNatClampNeg)]) (z_zr μ L.length)
  | _ => False
theorem ok_newq {M : zMD} {pc idx ci : Nat} {r : vw_C} (hci : ci = 2 ∨ ci = 3 ∨ ci = 5) (hd : decode M.2.1 pc = .ok (.anewarray idx, 3)) (hc : clT[ci]? = some r) (hl : Cond.classLink M.1.cls idx r.1 ∈ tbG) : zOk M pc (o_newq ci) := fun X d Q k n ls st L μ h => match st, h with
  | .int i :: st', h => by
    obtain ⟨⟨h1, h2, h3, h4, h5⟩, h⟩ := h
    refine z_nw h1 h2 h3 (fun p l e R s m args below meth c b oa D ca Z mc ms G H locs cells slots lsM hcl hsl hz w => ?_) h
    have hAO : va_AO r.1 s := by
      refine G.2.1.2.1.2.2.1 r.1 ?_
      rcases hci with rfl | rfl | rfl <;> cases hc <;> decide
    have ht : (z_tys ca)[z_tp (20 + ci)]? = some (ca (20 + ci), .object r.1) := by rcases hci with rfl | rfl | rfl <;> cases hc <;> rfl
    refine W.anew G.1.1 G.1.2.1 G.1.2.2.2.2.1 (G.1.2.2.2.2.2.1 _ hl) (va_AO.use hAO) rfl hd rfl h4 (by omega) hcl hsl fun cA kA comp f1 f2 f3 f4 => ?_
    obtain ⟨kA', comp', k1, k2, k3, k4⟩ := (G.2.1.1.2 _ _ ht).2
    have hca : cA = ca (20 + ci) := Option.some.inj (f1.symm.trans k4)
    subst hca
    have hz' : H.size = b + L.length := hz
    have z1 : (H.push ({ cls := ca (20 + ci), slots := Array.replicate i.toNatClampNeg .null, vm := .none } : Cell)).size = b + L.length + 1 := by rw [Array.size_push, hz]
    have e1 : (H.push ({ cls := ca (20 + ci), slots := Array.replicate i.toNatClampNeg .null, vm := .none } : Cell))[b + L.length]? = some (arrV (ca (20 + ci)) i.toNatClampNeg (fun _ => .null)) := by rw [← hz, Array.getElem?_push_size, ← arrV_new]
    have o1 : ∀ q : Nat, q < b + L.length → (H.push ({ cls := ca (20 + ci), slots := Array.replicate i.toNatClampNeg .null, vm := .none } : Cell))[q]? = H[q]? := fun q hq => by rw [Array.getElem?_push, if_neg (by omega)]
    have := w _ ?_ z1 o1
    · rw [← hz] at this
      exact this
    · rw [z_ent_r (by omega), z_zr_r]
      exact e1
/-- a constructor is called; it may make cells -/
def o_cI (M' : zMD) (np : Nat) : zOp := fun X d K _ k n pc ls st L μ => match st.drop np with
  | .ref a :: rest => bif Nat.ble rest.length 4 then
    (1 ≤ d ∧ a < 1000000) ∧ ∃ (k1 n1 : Nat) (Q' : zRQ), (k1 ≤ k ∧ n1 ≤ n) ∧ zC X (d - 1) k1 n1 M' (.ref a :: (st.take np).reverse) L μ Q' ∧ ∀ v L' μ', Q' v L' μ' → K (k - k1) (n - n1) (pc + 3) ls (v.toList ++ rest) L' μ' else False
  | _ => False
theorem ok_cI {M M' : zMD} {pc idx np : Nat} (hM : zMok M' np) (hd : decode M.2.1 pc = .ok (.invokespecial idx, 3)) (hnm : M'.1.name = "<init>") (hi : Cond.instanceMethod M'.1 ∈ tbG) (hl : Cond.methodLink M.1.cls idx M'.1 ∈ tbG) (hv : M'.2.2.2 = none := by rfl) : zOk M pc (o_cI M' np) := fun X d Q k n ls st L μ h => by
  unfold o_cI at h
  split at h
  · rename_i a rest hdr
    obtain ⟨h4, ⟨h1, ha⟩, k1, n1, Q', ⟨hk1, hn1⟩, hC, h⟩ := z_cd h
    have h4 := Nat.le_of_ble_eq_true h4
    have hlen : np + (rest.length + 1) = st.length := by
      have := congrArg List.length hdr
      simp at this
      omega
    have hst : st = st.take np ++ .ref a :: rest := by rw [← hdr, List.take_append_drop]
    refine z_call (M' := M') (rest := rest) (as := .ref a :: (st.take np).reverse) hk1 hn1 (fun p l e R s m args below meth c b oa D ca Z mc ms G H locs cells slots lsM hf hR hWd hsz => ?_) h
    have hts := G.1.2.2.2.2.2.1
    have hta : z_tr b oa (.ref a) = .ref (b + a) := congrArg Value.ref (z_ta_in ha)
    have hM1 := hC l b oa D ca
    rw [List.map_cons, hta] at hM1 ⊢
    have hcb := callB_of (R := R) (rm := { frames := d - 1, cells := k1, slots := n1, locals := 64 * (d - 1) }) (mc := k1) (ms := n1) np hts (z_good M' hM) rfl rfl rfl (hts _ hM.2.2.1) (hts _ hl) hM.2.2.2.1 (z_rm hM h1 G)
    rw [hv] at hcb
    refine va_runI (b := b + a) (As := (st.take np).reverse.map (z_tr b oa)) ⟨G.1.1, G.1.2.1, G.1.2.2.2.1, G.1.2.2.2.2.1, hts⟩ hM1 ⟨hcb, hnm, hts _ hi⟩ ⟨?_, fun U hU hW => ⟨rfl, by rw [hU]; exact hWd.warm hW, by rw [hU]; exact hR⟩⟩ rfl (by simp; omega) hsz ?_ (by show 2 * 0 + _ ≤ 8; have := z_rest (b := b) (oa := oa) rest; omega) hd hf
    · have := z_blind (b := b) (oa := oa) (D := D) (ca := ca) (X := X) (L := L) (μ := μ) (as := .ref a :: (st.take np).reverse)
      rw [List.map_cons, hta] at this
      exact this
    · show st.map (z_tr b oa) = _
      rw [List.map_reverse, List.reverse_reverse, ← hta, ← List.map_cons, ← List.map_append, ← hst]
  · exact h.elim
theorem ok_cIN {M M' : zMD} {pc idx np : Nat} {host : String} (hM : zMok M' np) (hd : decode M.2.1 pc = .ok (.invokespecial idx, 3)) (hnm : M'.1.name = "<init>") (hi : Cond.instanceMethod M'.1 ∈ tbG) (hl : (M.1.cls, idx, M'.1, host) ∈ z_ml) (hv : M'.2.2.2 = none := by rfl) : zOk M pc (o_cI M' np) := fun X d Q k n ls st L μ h => by
  unfold o_cI at h
  split at h
  · rename_i a rest hdr
    obtain ⟨h4, ⟨h1, ha⟩, k1, n1, Q', ⟨hk1, hn1⟩, hC, h⟩ := z_cd h
    have h4 := Nat.le_of_ble_eq_true h4
    have hlen : np + (rest.length + 1) = st.length := by
      have := congrArg List.length hdr
      simp at this
      omega
    have hst : st = st.take np ++ .ref a :: rest := by rw [← hdr, List.take_append_drop]
    refine z_call (M' := M') (rest := rest) (as := .ref a :: (st.take np).reverse) hk1 hn1 (fun p l e R s m args below meth c b oa D ca Z mc ms G H locs cells slots lsM hf hR hWd hsz => ?_) h
    have hts := G.1.2.2.2.2.2.1
    have hta : z_tr b oa (.ref a) = .ref (b + a) := congrArg Value.ref (z_ta_in ha)
    have hM1 := hC l b oa D ca
    rw [List.map_cons, hta] at hM1 ⊢
    have hcb := va_cnB (R := R) (rm := { frames := d - 1, cells := k1, slots := n1, locals := 64 * (d - 1) }) (mc := k1) (ms := n1) np hts (z_good M' hM) rfl rfl rfl (hWd.2.1.1 _ hl) (hts _ hM.2.2.1) hM.2.2.2.1 (z_rm hM h1 G)
    rw [hv] at hcb
    refine va_runIN (b := b + a) (As := (st.take np).reverse.map (z_tr b oa)) ⟨G.1.1, G.1.2.1, G.1.2.2.2.1, G.1.2.2.2.2.1, hts⟩ hM1 ⟨hcb, hnm, hts _ hi⟩ ⟨?_, fun U hU hW => ⟨rfl, by rw [hU]; exact hWd.warm hW, by rw [hU]; exact hR⟩⟩ rfl (by simp; omega) hsz ?_ (by show 2 * 0 + _ ≤ 8; have := z_rest (b := b) (oa := oa) rest; omega) hd hf
    · have := z_blind (b := b) (oa := oa) (D := D) (ca := ca) (X := X) (L := L) (μ := μ) (as := .ref a :: (st.take np).reverse)
      rw [List.map_cons, hta] at this
      exact this
    · show st.map (z_tr b oa) = _
      rw [List.map_reverse, List.reverse_reverse, ← hta, ← List.map_cons, ← List.map_append, ← hst]
  · exact h.elim
/-- System.arraycopy of int rows -/
def z_cp (μ : zMem) (a0 a1 sp dp n : Nat) : zMem := (fun b j => if b = a1 then va_cpy (μ.1 a0) (μ.1 a1) sp dp n j else μ.1 b j, μ.2.1, μ.2.2)
def o_copy : zOp := fun _ d K _ k n pc ls st L μ => match st with
  | .int c :: .int dp :: .ref a1 :: .int sp :: .ref a0 :: st' => bif Nat.ble st'.length 4 then (1 ≤ d ∧ (a0 < 1000000 ∧ a1 < 1000000) ∧ (¬ sp < 0 ∧ ¬ dp < 0 ∧ ¬ c < 0) ∧ ∃ n0 n1, (L[a0]? = some (10, n0) ∧ L[a1]? = some (10, n1)) ∧ sp.toNatClampNeg + c.toNatClampNeg ≤ n0 ∧ dp.toNatClampNeg + c.toNatClampNeg ≤ n1) ∧ K k n (pc + 3) ls st' L (z_cp μ a0 a1 sp.toNatClampNeg dp.toNatClampNeg c.toNatClampNeg) else False
  | _ => False
theorem z_ent_C {b : Nat} {oa : Nat → Nat} {ca : Nat → ClassId} {μ : zMem} {a0 a1 sp dp n : Nat} (x : Nat) (hx : x ≠ a1) (s : zSh) : z_ent b oa ca s (z_cp μ a0 a1 sp dp n) x = z_ent b oa ca s μ x := by
  unfold z_ent z_fv z_cp
  simp only [if_neg hx]
theorem ok_copy {M : zMD} {pc idx : Nat} (hd : decode M.2.1 pc = .ok (.invokestatic idx, 3)) (hl : Cond.methodLink M.1.cls idx arraycopyName ∈ tbG) : zOk M pc o_copy := fun X d Q k n ls st L μ h => match st, h with
  | .int cn :: .int dp :: .ref a1 :: .int sp :: .ref a0 :: st', h => by
    obtain ⟨h4, ⟨hd1, ⟨ha0, ha1⟩, ⟨h1, h2, h3⟩, n0, n1, ⟨hw0, hw1⟩, h5, h6⟩, h⟩ := z_cd h
    have h4 := Nat.le_of_ble_eq_true h4
    intro ⟨⟨p, l, e, R, s⟩, ⟨m, args, below, meth, c⟩, ⟨b, oa, D, ca⟩, ⟨Z, mc, ms⟩⟩ G H locs cells slots lsM hk hn hR hS hL
    have hts := G.1.2.2.2.2.2.1
    have hrm := G.2.2.1
    have hr := z_rest (b := b) (oa := oa) st'
    show W p l e R s m args below meth c H locs cells slots Z (F0 m pc lsM (.int cn :: .int dp :: .ref (z_ta b oa a1) :: .int sp :: .ref (z_ta b oa a0) :: _))
    rw [z_ta_in ha0, z_ta_in ha1]
    have nn : ∀ z : Int32, ¬ z < 0 → z.toInt = (z.toNatClampNeg : Int) := by
      intro z hz
      have hz0 : (0 : Int) ≤ z.toInt := by
        have := Int32.not_lt.mp hz
        simpa using Int32.le_iff_toInt_le.mp this
      show z.toInt = ((z.toInt.toNat : Nat) : Int)
      omega
    have hnat : nativeFrameWords "java/lang/System" "arraycopy" 5 ≤ 40 := by decide +kernel
    intro T hT Xs
    have hc0 : H[b + a0]? = some (vp_cell (ca 10) (n0, .inl (μ.1 a0))) := hR.1 a0 _ ((z_ws_get hw0).trans (congrArg some (congrArg (Prod.mk (b + a0)) (z_ent_i (by omega) (by omega)))))
    have hc1 : H[b + a1]? = some (vp_cell (ca 10) (n1, .inl (μ.1 a1))) := hR.1 a1 _ ((z_ws_get hw1).trans (congrArg some (congrArg (Prod.mk (b + a1)) (z_ent_i (by omega) (by omega)))))
    obtain ⟨-, k0, hk0, cm0, hkk0⟩ := (G.2.1.1.2 0 _ rfl).1 n0 (fun j => .int (μ.1 a0 j))
    obtain ⟨-, k1, hk1, cm1, hkk1⟩ := (G.2.1.1.2 0 _ rfl).1 n1 (fun j => .int (μ.1 a1 j))
    obtain ⟨vm', X', step⟩ := Xs.arraycopy G.1.1 G.1.2.2.2.2.1 (hts _ hl) (hts _ z_acnat) (hts _ z_acst) (hts _ z_isys) (src := b + a0) (dst := b + a1) (cs := vp_cell (ca 10) (n0, .inl (μ.1 a0))) (cd := vp_cell (ca 10) (n1, .inl (μ.1 a1))) (srcPos := sp) (destPos := dp) (n := cn) (by rw [hT]; exact hc0) (by rw [hT]; exact hc1)
      (fun _ h => by cases h) (fun _ h => by cases h) (fun h => by cases h) (fun h => by cases h) hk0 hk1 hkk0 hkk1 rfl h1 h2 h3
      (by rw [nn sp h1, nn cn h3]; show ¬ _ > ((arrV (ca 10) n0 (fun j => .int (μ.1 a0 j))).slots.size : Int); rw [arrV_size]; omega)
      (by rw [nn dp h2, nn cn h3]; show ¬ _ > ((arrV (ca 10) n1 (fun j => .int (μ.1 a1 j))).slots.size : Int); rw [arrV_size]; omega)
      (fun vm₁ _ i hi => by
        have e : (vp_cell (ca 10) (n0, .inl (μ.1 a0))).slots.getD (sp.toNatClampNeg + i) .null = .int (μ.1 a0 (sp.toNatClampNeg + i)) := by
          show (arrV (ca 10) n0 (fun j => .int (μ.1 a0 j))).slots.getD _ _ = _
          rw [Array.getD_eq_getD_getElem?, arrV_read _ _ (by omega)]
          rfl
        refine ⟨?_, ?_⟩
        · rw [e]; rfl
        · rw [e]; exact trivial)
      (g := F0 m pc lsM (.int cn :: .int dp :: .ref (b + a1) :: .int sp :: .ref (b + a0) :: st'.map (z_tr b oa))) rfl (hL.2.1.trans G.1.2.2.2.1.symm) (rest := st'.map (z_tr b oa)) rfl (by rw [G.1.2.1]; exact hd) (by omega) (by show 2 * 0 + _ + (nativeFrameWords "java/lang/System" "arraycopy" 5 + 11) ≤ _; omega)
    have e1 : copied (vp_cell (ca 10) (n0, .inl (μ.1 a0))) (vp_cell (ca 10) (n1, .inl (μ.1 a1))) sp dp cn = vp_cell (ca 10) (n1, .inl (va_cpy (μ.1 a0) (μ.1 a1) sp.toNatClampNeg dp.toNatClampNeg cn.toNatClampNeg)) := va_copied (fun z => .int z) (ca 10) (ca 10) (μ.1 a0) (μ.1 a1) h5
    rw [e1] at X' step
    have hlt : b + a1 < H.size := (Array.getElem?_eq_some_iff.mp hc1).1
    generalize hcell : vp_cell (ca 10) (n1, .inl (va_cpy (μ.1 a0) (μ.1 a1) sp.toNatClampNeg dp.toNatClampNeg cn.toNatClampNeg)) = cell at X' step
    have hheap : ((T.setVm vm').setCell (b + a1) cell).heap = H.setIfInBounds (b + a1) cell := by rw [← hT]; rfl
    have oq : ∀ q : Nat, q ≠ b + a1 → (H.setIfInBounds (b + a1) cell)[q]? = H[q]? := fun q hq => by simp [Array.getElem?_setIfInBounds, Ne.symm hq]
    have hat : va_at D clT (b + a1, z_ent b oa ca (10, n1) (z_cp μ a0 a1 sp.toNatClampNeg dp.toNatClampNeg cn.toNatClampNeg) a1) (H.setIfInBounds (b + a1) cell) := by
      rw [z_ent_i (by omega) (by omega)]
      show (H.setIfInBounds (b + a1) cell)[b + a1]? = some (vp_cell _ _)
      have e2 : (z_cp μ a0 a1 sp.toNatClampNeg dp.toNatClampNeg cn.toNatClampNeg).1 a1 = va_cpy (μ.1 a0) (μ.1 a1) sp.toNatClampNeg dp.toNatClampNeg cn.toNatClampNeg := by
        funext j
        show (if a1 = a1 then _ else _) = _
        rw [if_pos rfl]
      rw [e2, hcell]
      simp [Array.getElem?_setIfInBounds, hlt]
    have hP1 := hR.1.set z_ws_D (z_ws_get hw1) hat oq
    rw [z_ws_set hw1 rfl (fun x q s => z_ent_C x q s)] at hP1
    obtain ⟨t, q1, q2⟩ := h ((p, l, e, R, s), (m, args, below, meth, c), (b, oa, D, ca), (Z, mc, ms)) G (H.setIfInBounds (b + a1) cell) _ cells slots lsM hk hn ⟨hP1, by rw [Array.size_setIfInBounds]; exact hR.2⟩ ⟨by simp; exact hS.1, fun q g1 g2 => by
        rw [oq q (fun e => g2 (by rw [e]; exact Nat.le_add_right _ _))]
        exact hS.2.1 q g1 g2, fun q hq => by
        rcases List.mem_append.mp hq with h | h
        · exact hS.2.2 q h
        · obtain ⟨z, -, hz⟩ := List.mem_map.mp h
          rw [← hz]
          exact Nat.le_add_right _ _⟩ hL _ hheap X'
    exact ⟨t, step t q1, q2⟩
end
