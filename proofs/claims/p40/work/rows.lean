section
-- ===== PART A: goes FIRST, ahead of the names: the tables' words, and 'selects' of the private methods out of them =====
/-- a private method of a class that the tables say can be made, by its rows of tables_1 -/
def lw_okq (q : MethodName × Nat) : Prop := (q.1.cls ≠ "java/lang/invoke/MethodHandle" ∧ q.1.cls ≠ "java/lang/invoke/VarHandle") ∧ Cond.instantiable q.1.cls q.2 ∈ tables_1 ∧ Cond.privateMethod q.1 ∈ tables_1 ∧ Cond.instanceMethod q.1 ∈ tables_1
theorem lw_p0 : lw_okq (⟨"SlipHeirs$Text", "scan", "(I)I"⟩, 12) := ⟨⟨by decide +kernel, by decide +kernel⟩, List.mem_of_getElem? (i := 32) (by decide +kernel), List.mem_of_getElem? (i := 491) (by decide +kernel), List.mem_of_getElem? (i := 492) (by decide +kernel)⟩
theorem lw_p1 : lw_okq (⟨"SlipHeirs$Text", "scanRun", "(I)I"⟩, 12) := ⟨⟨by decide +kernel, by decide +kernel⟩, List.mem_of_getElem? (i := 32) (by decide +kernel), List.mem_of_getElem? (i := 501) (by decide +kernel), List.mem_of_getElem? (i := 502) (by decide +kernel)⟩
theorem lw_p2 : lw_okq (⟨"SlipHeirs$Text", "add", "(IIJ)V"⟩, 12) := ⟨⟨by decide +kernel, by decide +kernel⟩, List.mem_of_getElem? (i := 32) (by decide +kernel), List.mem_of_getElem? (i := 505) (by decide +kernel), List.mem_of_getElem? (i := 506) (by decide +kernel)⟩
theorem lw_p3 : lw_okq (⟨"SlipHeirs$Text", "kindOf", "(J)I"⟩, 12) := ⟨⟨by decide +kernel, by decide +kernel⟩, List.mem_of_getElem? (i := 32) (by decide +kernel), List.mem_of_getElem? (i := 509) (by decide +kernel), List.mem_of_getElem? (i := 510) (by decide +kernel)⟩
theorem lw_p4 : lw_okq (⟨"SlipHeirs$Family", "readLine", "(LSlipHeirs$Text;)Z"⟩, 16) := ⟨⟨by decide +kernel, by decide +kernel⟩, List.mem_of_getElem? (i := 138) (by decide +kernel), List.mem_of_getElem? (i := 517) (by decide +kernel), List.mem_of_getElem? (i := 518) (by decide +kernel)⟩
theorem lw_p5 : lw_okq (⟨"SlipHeirs$Family", "begins", "(LSlipHeirs$Text;I)Z"⟩, 16) := ⟨⟨by decide +kernel, by decide +kernel⟩, List.mem_of_getElem? (i := 138) (by decide +kernel), List.mem_of_getElem? (i := 521) (by decide +kernel), List.mem_of_getElem? (i := 522) (by decide +kernel)⟩
theorem lw_p6 : lw_okq (⟨"SlipHeirs$Family", "slotOf", "(J)I"⟩, 16) := ⟨⟨by decide +kernel, by decide +kernel⟩, List.mem_of_getElem? (i := 138) (by decide +kernel), List.mem_of_getElem? (i := 539) (by decide +kernel), List.mem_of_getElem? (i := 540) (by decide +kernel)⟩
theorem lw_p7 : lw_okq (⟨"SlipHeirs$Family", "readPerson", "(LSlipHeirs$Text;)Z"⟩, 16) := ⟨⟨by decide +kernel, by decide +kernel⟩, List.mem_of_getElem? (i := 138) (by decide +kernel), List.mem_of_getElem? (i := 543) (by decide +kernel), List.mem_of_getElem? (i := 544) (by decide +kernel)⟩
theorem lw_p8 : lw_okq (⟨"SlipHeirs$Family", "readGod", "(LSlipHeirs$Text;)Z"⟩, 16) := ⟨⟨by decide +kernel, by decide +kernel⟩, List.mem_of_getElem? (i := 138) (by decide +kernel), List.mem_of_getElem? (i := 557) (by decide +kernel), List.mem_of_getElem? (i := 558) (by decide +kernel)⟩
theorem lw_p9 : lw_okq (⟨"SlipHeirs$Family", "readCare", "(LSlipHeirs$Text;)Z"⟩, 16) := ⟨⟨by decide +kernel, by decide +kernel⟩, List.mem_of_getElem? (i := 138) (by decide +kernel), List.mem_of_getElem? (i := 561) (by decide +kernel), List.mem_of_getElem? (i := 562) (by decide +kernel)⟩
theorem lw_p10 : lw_okq (⟨"SlipHeirs$Family", "readError", "(LSlipHeirs$Text;)Z"⟩, 16) := ⟨⟨by decide +kernel, by decide +kernel⟩, List.mem_of_getElem? (i := 138) (by decide +kernel), List.mem_of_getElem? (i := 565) (by decide +kernel), List.mem_of_getElem? (i := 566) (by decide +kernel)⟩
theorem lw_p11 : lw_okq (⟨"SlipHeirs$Family", "readWeights", "(LSlipHeirs$Text;I)Z"⟩, 16) := ⟨⟨by decide +kernel, by decide +kernel⟩, List.mem_of_getElem? (i := 138) (by decide +kernel), List.mem_of_getElem? (i := 569) (by decide +kernel), List.mem_of_getElem? (i := 570) (by decide +kernel)⟩
theorem lw_p12 : lw_okq (⟨"SlipHeirs$Family", "readDeed", "(LSlipHeirs$Text;)Z"⟩, 16) := ⟨⟨by decide +kernel, by decide +kernel⟩, List.mem_of_getElem? (i := 138) (by decide +kernel), List.mem_of_getElem? (i := 573) (by decide +kernel), List.mem_of_getElem? (i := 574) (by decide +kernel)⟩
theorem lw_p13 : lw_okq (⟨"SlipHeirs", "closeText", "()V"⟩, 17) := ⟨⟨by decide +kernel, by decide +kernel⟩, List.mem_of_getElem? (i := 24) (by decide +kernel), List.mem_of_getElem? (i := 585) (by decide +kernel), List.mem_of_getElem? (i := 586) (by decide +kernel)⟩
theorem lw_p14 : lw_okq (⟨"SlipHeirs$Life", "makeError", "(LSlipHeirs$Family;II)V"⟩, 12) := ⟨⟨by decide +kernel, by decide +kernel⟩, List.mem_of_getElem? (i := 216) (by decide +kernel), List.mem_of_getElem? (i := 666) (by decide +kernel), List.mem_of_getElem? (i := 667) (by decide +kernel)⟩
theorem lw_p15 : lw_okq (⟨"SlipHeirs$Family", "eldest", "(I)I"⟩, 16) := ⟨⟨by decide +kernel, by decide +kernel⟩, List.mem_of_getElem? (i := 138) (by decide +kernel), List.mem_of_getElem? (i := 690) (by decide +kernel), List.mem_of_getElem? (i := 691) (by decide +kernel)⟩
def lw_privs_1 : List (MethodName × Nat) := [(⟨"SlipHeirs$Text", "scan", "(I)I"⟩, 12), (⟨"SlipHeirs$Text", "scanRun", "(I)I"⟩, 12), (⟨"SlipHeirs$Text", "add", "(IIJ)V"⟩, 12), (⟨"SlipHeirs$Text", "kindOf", "(J)I"⟩, 12), (⟨"SlipHeirs$Family", "readLine", "(LSlipHeirs$Text;)Z"⟩, 16), (⟨"SlipHeirs$Family", "begins", "(LSlipHeirs$Text;I)Z"⟩, 16), (⟨"SlipHeirs$Family", "slotOf", "(J)I"⟩, 16), (⟨"SlipHeirs$Family", "readPerson", "(LSlipHeirs$Text;)Z"⟩, 16), (⟨"SlipHeirs$Family", "readGod", "(LSlipHeirs$Text;)Z"⟩, 16), (⟨"SlipHeirs$Family", "readCare", "(LSlipHeirs$Text;)Z"⟩, 16), (⟨"SlipHeirs$Family", "readError", "(LSlipHeirs$Text;)Z"⟩, 16), (⟨"SlipHeirs$Family", "readWeights", "(LSlipHeirs$Text;I)Z"⟩, 16), (⟨"SlipHeirs$Family", "readDeed", "(LSlipHeirs$Text;)Z"⟩, 16), (⟨"SlipHeirs", "closeText", "()V"⟩, 17), (⟨"SlipHeirs$Life", "makeError", "(LSlipHeirs$Family;II)V"⟩, 12), (⟨"SlipHeirs$Family", "eldest", "(I)I"⟩, 16)]
theorem lw_r1 : ∀ q ∈ lw_privs_1, lw_okq q := List.forall_mem_cons.mpr ⟨lw_p0, List.forall_mem_cons.mpr ⟨lw_p1, List.forall_mem_cons.mpr ⟨lw_p2, List.forall_mem_cons.mpr ⟨lw_p3, List.forall_mem_cons.mpr ⟨lw_p4, List.forall_mem_cons.mpr ⟨lw_p5, List.forall_mem_cons.mpr ⟨lw_p6, List.forall_mem_cons.mpr ⟨lw_p7, List.forall_mem_cons.mpr ⟨lw_p8, List.forall_mem_cons.mpr ⟨lw_p9, List.forall_mem_cons.mpr ⟨lw_p10, List.forall_mem_cons.mpr ⟨lw_p11, List.forall_mem_cons.mpr ⟨lw_p12, List.forall_mem_cons.mpr ⟨lw_p13, List.forall_mem_cons.mpr ⟨lw_p14, List.forall_mem_cons.mpr ⟨lw_p15, fun _ h => absurd h List.not_mem_nil⟩⟩⟩⟩⟩⟩⟩⟩⟩⟩⟩⟩⟩⟩⟩⟩
theorem lw_p16 : lw_okq (⟨"SlipHeirs$Family", "withLiving", "(II)I"⟩, 16) := ⟨⟨by decide +kernel, by decide +kernel⟩, List.mem_of_getElem? (i := 138) (by decide +kernel), List.mem_of_getElem? (i := 694) (by decide +kernel), List.mem_of_getElem? (i := 695) (by decide +kernel)⟩
theorem lw_p17 : lw_okq (⟨"SlipHeirs", "canDo", "(II)Z"⟩, 17) := ⟨⟨by decide +kernel, by decide +kernel⟩, List.mem_of_getElem? (i := 24) (by decide +kernel), List.mem_of_getElem? (i := 739) (by decide +kernel), List.mem_of_getElem? (i := 740) (by decide +kernel)⟩
theorem lw_p18 : lw_okq (⟨"SlipHeirs", "tryDeed", "(II)V"⟩, 17) := ⟨⟨by decide +kernel, by decide +kernel⟩, List.mem_of_getElem? (i := 24) (by decide +kernel), List.mem_of_getElem? (i := 743) (by decide +kernel), List.mem_of_getElem? (i := 744) (by decide +kernel)⟩
theorem lw_p19 : lw_okq (⟨"SlipHeirs", "tellsSteps", "(I)Z"⟩, 17) := ⟨⟨by decide +kernel, by decide +kernel⟩, List.mem_of_getElem? (i := 24) (by decide +kernel), List.mem_of_getElem? (i := 770) (by decide +kernel), List.mem_of_getElem? (i := 771) (by decide +kernel)⟩
theorem lw_p20 : lw_okq (⟨"SlipHeirs$Planner", "waysFrom", "(LSlipHeirs$Family;I)I"⟩, 7) := ⟨⟨by decide +kernel, by decide +kernel⟩, List.mem_of_getElem? (i := 374) (by decide +kernel), List.mem_of_getElem? (i := 784) (by decide +kernel), List.mem_of_getElem? (i := 785) (by decide +kernel)⟩
theorem lw_p21 : lw_okq (⟨"SlipHeirs$Planner", "keepFirst", "()V"⟩, 7) := ⟨⟨by decide +kernel, by decide +kernel⟩, List.mem_of_getElem? (i := 374) (by decide +kernel), List.mem_of_getElem? (i := 788) (by decide +kernel), List.mem_of_getElem? (i := 789) (by decide +kernel)⟩
theorem lw_p22 : lw_okq (⟨"SlipHeirs$Planner", "ableNow", "(LSlipHeirs$Family;)I"⟩, 7) := ⟨⟨by decide +kernel, by decide +kernel⟩, List.mem_of_getElem? (i := 374) (by decide +kernel), List.mem_of_getElem? (i := 793) (by decide +kernel), List.mem_of_getElem? (i := 794) (by decide +kernel)⟩
theorem lw_p23 : lw_okq (⟨"SlipHeirs$Planner", "wearBy", "(II)V"⟩, 7) := ⟨⟨by decide +kernel, by decide +kernel⟩, List.mem_of_getElem? (i := 374) (by decide +kernel), List.mem_of_getElem? (i := 798) (by decide +kernel), List.mem_of_getElem? (i := 799) (by decide +kernel)⟩
theorem lw_p24 : lw_okq (⟨"SlipHeirs", "cameAsTold", "(I)Z"⟩, 17) := ⟨⟨by decide +kernel, by decide +kernel⟩, List.mem_of_getElem? (i := 24) (by decide +kernel), List.mem_of_getElem? (i := 810) (by decide +kernel), List.mem_of_getElem? (i := 811) (by decide +kernel)⟩
theorem lw_p25 : lw_okq (⟨"SlipHeirs", "timesToWear", "(II)I"⟩, 17) := ⟨⟨by decide +kernel, by decide +kernel⟩, List.mem_of_getElem? (i := 24) (by decide +kernel), List.mem_of_getElem? (i := 818) (by decide +kernel), List.mem_of_getElem? (i := 819) (by decide +kernel)⟩
theorem lw_p26 : lw_okq (⟨"SlipHeirs", "harmBy", "(I)I"⟩, 17) := ⟨⟨by decide +kernel, by decide +kernel⟩, List.mem_of_getElem? (i := 24) (by decide +kernel), List.mem_of_getElem? (i := 834) (by decide +kernel), List.mem_of_getElem? (i := 835) (by decide +kernel)⟩
theorem lw_p27 : lw_okq (⟨"SlipHeirs", "isGiven", "(II)Z"⟩, 17) := ⟨⟨by decide +kernel, by decide +kernel⟩, List.mem_of_getElem? (i := 24) (by decide +kernel), List.mem_of_getElem? (i := 838) (by decide +kernel), List.mem_of_getElem? (i := 839) (by decide +kernel)⟩
theorem lw_p28 : lw_okq (⟨"SlipHeirs", "mayBeGiven", "(I)Z"⟩, 17) := ⟨⟨by decide +kernel, by decide +kernel⟩, List.mem_of_getElem? (i := 24) (by decide +kernel), List.mem_of_getElem? (i := 842) (by decide +kernel), List.mem_of_getElem? (i := 843) (by decide +kernel)⟩
theorem lw_p29 : lw_okq (⟨"SlipHeirs", "bearerBy", "(II)I"⟩, 17) := ⟨⟨by decide +kernel, by decide +kernel⟩, List.mem_of_getElem? (i := 24) (by decide +kernel), List.mem_of_getElem? (i := 846) (by decide +kernel), List.mem_of_getElem? (i := 847) (by decide +kernel)⟩
theorem lw_p30 : lw_okq (⟨"SlipHeirs$Family", "spoils", "(II)Z"⟩, 16) := ⟨⟨by decide +kernel, by decide +kernel⟩, List.mem_of_getElem? (i := 138) (by decide +kernel), List.mem_of_getElem? (i := 884) (by decide +kernel), List.mem_of_getElem? (i := 885) (by decide +kernel)⟩
theorem lw_p31 : lw_okq (⟨"SlipHeirs$Script", "readLine", "(LSlipHeirs$Text;LSlipHeirs$Family;)Z"⟩, 5) := ⟨⟨by decide +kernel, by decide +kernel⟩, List.mem_of_getElem? (i := 301) (by decide +kernel), List.mem_of_getElem? (i := 925) (by decide +kernel), List.mem_of_getElem? (i := 926) (by decide +kernel)⟩
def lw_privs_2 : List (MethodName × Nat) := [(⟨"SlipHeirs$Family", "withLiving", "(II)I"⟩, 16), (⟨"SlipHeirs", "canDo", "(II)Z"⟩, 17), (⟨"SlipHeirs", "tryDeed", "(II)V"⟩, 17), (⟨"SlipHeirs", "tellsSteps", "(I)Z"⟩, 17), (⟨"SlipHeirs$Planner", "waysFrom", "(LSlipHeirs$Family;I)I"⟩, 7), (⟨"SlipHeirs$Planner", "keepFirst", "()V"⟩, 7), (⟨"SlipHeirs$Planner", "ableNow", "(LSlipHeirs$Family;)I"⟩, 7), (⟨"SlipHeirs$Planner", "wearBy", "(II)V"⟩, 7), (⟨"SlipHeirs", "cameAsTold", "(I)Z"⟩, 17), (⟨"SlipHeirs", "timesToWear", "(II)I"⟩, 17), (⟨"SlipHeirs", "harmBy", "(I)I"⟩, 17), (⟨"SlipHeirs", "isGiven", "(II)Z"⟩, 17), (⟨"SlipHeirs", "mayBeGiven", "(I)Z"⟩, 17), (⟨"SlipHeirs", "bearerBy", "(II)I"⟩, 17), (⟨"SlipHeirs$Family", "spoils", "(II)Z"⟩, 16), (⟨"SlipHeirs$Script", "readLine", "(LSlipHeirs$Text;LSlipHeirs$Family;)Z"⟩, 5)]
theorem lw_r2 : ∀ q ∈ lw_privs_2, lw_okq q := List.forall_mem_cons.mpr ⟨lw_p16, List.forall_mem_cons.mpr ⟨lw_p17, List.forall_mem_cons.mpr ⟨lw_p18, List.forall_mem_cons.mpr ⟨lw_p19, List.forall_mem_cons.mpr ⟨lw_p20, List.forall_mem_cons.mpr ⟨lw_p21, List.forall_mem_cons.mpr ⟨lw_p22, List.forall_mem_cons.mpr ⟨lw_p23, List.forall_mem_cons.mpr ⟨lw_p24, List.forall_mem_cons.mpr ⟨lw_p25, List.forall_mem_cons.mpr ⟨lw_p26, List.forall_mem_cons.mpr ⟨lw_p27, List.forall_mem_cons.mpr ⟨lw_p28, List.forall_mem_cons.mpr ⟨lw_p29, List.forall_mem_cons.mpr ⟨lw_p30, List.forall_mem_cons.mpr ⟨lw_p31, fun _ h => absurd h List.not_mem_nil⟩⟩⟩⟩⟩⟩⟩⟩⟩⟩⟩⟩⟩⟩⟩⟩
theorem lw_p32 : lw_okq (⟨"SlipHeirs$Script", "readGift", "(LSlipHeirs$Text;LSlipHeirs$Family;)Z"⟩, 5) := ⟨⟨by decide +kernel, by decide +kernel⟩, List.mem_of_getElem? (i := 301) (by decide +kernel), List.mem_of_getElem? (i := 931) (by decide +kernel), List.mem_of_getElem? (i := 932) (by decide +kernel)⟩
theorem lw_p33 : lw_okq (⟨"SlipHeirs$Script", "add", "(III)Z"⟩, 5) := ⟨⟨by decide +kernel, by decide +kernel⟩, List.mem_of_getElem? (i := 301) (by decide +kernel), List.mem_of_getElem? (i := 936) (by decide +kernel), List.mem_of_getElem? (i := 937) (by decide +kernel)⟩
theorem lw_p34 : lw_okq (⟨"SlipHeirs$Script", "readYear", "(LSlipHeirs$Text;)Z"⟩, 5) := ⟨⟨by decide +kernel, by decide +kernel⟩, List.mem_of_getElem? (i := 301) (by decide +kernel), List.mem_of_getElem? (i := 940) (by decide +kernel), List.mem_of_getElem? (i := 941) (by decide +kernel)⟩
theorem lw_p35 : lw_okq (⟨"SlipHeirs$Script", "readAct", "(LSlipHeirs$Text;LSlipHeirs$Family;)Z"⟩, 5) := ⟨⟨by decide +kernel, by decide +kernel⟩, List.mem_of_getElem? (i := 301) (by decide +kernel), List.mem_of_getElem? (i := 945) (by decide +kernel), List.mem_of_getElem? (i := 946) (by decide +kernel)⟩
theorem lw_p36 : lw_okq (⟨"SlipHeirs$Script", "liveLine", "(LSlipHeirs$Family;LSlipHeirs$Life;I)I"⟩, 5) := ⟨⟨by decide +kernel, by decide +kernel⟩, List.mem_of_getElem? (i := 301) (by decide +kernel), List.mem_of_getElem? (i := 955) (by decide +kernel), List.mem_of_getElem? (i := 956) (by decide +kernel)⟩
theorem lw_p37 : lw_okq (⟨"SlipHeirs$Phrase", "readCond", "(LSlipHeirs$Text;LSlipHeirs$Family;I)Z"⟩, 6) := ⟨⟨by decide +kernel, by decide +kernel⟩, List.mem_of_getElem? (i := 275) (by decide +kernel), List.mem_of_getElem? (i := 979) (by decide +kernel), List.mem_of_getElem? (i := 980) (by decide +kernel)⟩
theorem lw_p38 : lw_okq (⟨"SlipHeirs$Phrase", "readAll", "(LSlipHeirs$Text;LSlipHeirs$Family;I)Z"⟩, 6) := ⟨⟨by decide +kernel, by decide +kernel⟩, List.mem_of_getElem? (i := 275) (by decide +kernel), List.mem_of_getElem? (i := 983) (by decide +kernel), List.mem_of_getElem? (i := 984) (by decide +kernel)⟩
theorem lw_p39 : lw_okq (⟨"SlipHeirs$Phrase", "readOne", "(LSlipHeirs$Text;LSlipHeirs$Family;I)Z"⟩, 6) := ⟨⟨by decide +kernel, by decide +kernel⟩, List.mem_of_getElem? (i := 275) (by decide +kernel), List.mem_of_getElem? (i := 987) (by decide +kernel), List.mem_of_getElem? (i := 988) (by decide +kernel)⟩
theorem lw_p40 : lw_okq (⟨"SlipHeirs$Phrase", "add", "(III)Z"⟩, 6) := ⟨⟨by decide +kernel, by decide +kernel⟩, List.mem_of_getElem? (i := 275) (by decide +kernel), List.mem_of_getElem? (i := 995) (by decide +kernel), List.mem_of_getElem? (i := 996) (by decide +kernel)⟩
theorem lw_p41 : lw_okq (⟨"SlipHeirs$Phrase", "readKnown", "(LSlipHeirs$Text;LSlipHeirs$Family;II)Z"⟩, 6) := ⟨⟨by decide +kernel, by decide +kernel⟩, List.mem_of_getElem? (i := 275) (by decide +kernel), List.mem_of_getElem? (i := 999) (by decide +kernel), List.mem_of_getElem? (i := 1000) (by decide +kernel)⟩
theorem lw_p42 : lw_okq (⟨"SlipHeirs$Phrase", "readMeasure", "(LSlipHeirs$Text;I)Z"⟩, 6) := ⟨⟨by decide +kernel, by decide +kernel⟩, List.mem_of_getElem? (i := 275) (by decide +kernel), List.mem_of_getElem? (i := 1004) (by decide +kernel), List.mem_of_getElem? (i := 1005) (by decide +kernel)⟩
theorem lw_p43 : lw_okq (⟨"SlipHeirs$Phrase", "trueOf", "(LSlipHeirs$Family;LSlipHeirs$Life;I)I"⟩, 6) := ⟨⟨by decide +kernel, by decide +kernel⟩, List.mem_of_getElem? (i := 275) (by decide +kernel), List.mem_of_getElem? (i := 1023) (by decide +kernel), List.mem_of_getElem? (i := 1024) (by decide +kernel)⟩
theorem lw_p44 : lw_okq (⟨"SlipHeirs$Phrase", "isTrue", "(LSlipHeirs$Family;LSlipHeirs$Life;II)Z"⟩, 6) := ⟨⟨by decide +kernel, by decide +kernel⟩, List.mem_of_getElem? (i := 275) (by decide +kernel), List.mem_of_getElem? (i := 1028) (by decide +kernel), List.mem_of_getElem? (i := 1029) (by decide +kernel)⟩
theorem lw_p45 : lw_okq (⟨"SlipHeirs$Phrase", "compares", "(II)Z"⟩, 6) := ⟨⟨by decide +kernel, by decide +kernel⟩, List.mem_of_getElem? (i := 275) (by decide +kernel), List.mem_of_getElem? (i := 1040) (by decide +kernel), List.mem_of_getElem? (i := 1041) (by decide +kernel)⟩
theorem lw_p46 : lw_okq (⟨"java/lang/Throwable", "fillInStackTrace", "(I)Ljava/lang/Throwable;"⟩, 6) := ⟨⟨by decide +kernel, by decide +kernel⟩, List.mem_of_getElem? (i := 1101) (by decide +kernel), List.mem_of_getElem? (i := 1099) (by decide +kernel), List.mem_of_getElem? (i := 1100) (by decide +kernel)⟩
theorem lw_p47 : lw_okq (⟨"SlipHeirsModel", "four", "(I)V"⟩, 48) := ⟨⟨by decide +kernel, by decide +kernel⟩, List.mem_of_getElem? (i := 1140) (by decide +kernel), List.mem_of_getElem? (i := 1138) (by decide +kernel), List.mem_of_getElem? (i := 1139) (by decide +kernel)⟩
def lw_privs_3 : List (MethodName × Nat) := [(⟨"SlipHeirs$Script", "readGift", "(LSlipHeirs$Text;LSlipHeirs$Family;)Z"⟩, 5), (⟨"SlipHeirs$Script", "add", "(III)Z"⟩, 5), (⟨"SlipHeirs$Script", "readYear", "(LSlipHeirs$Text;)Z"⟩, 5), (⟨"SlipHeirs$Script", "readAct", "(LSlipHeirs$Text;LSlipHeirs$Family;)Z"⟩, 5), (⟨"SlipHeirs$Script", "liveLine", "(LSlipHeirs$Family;LSlipHeirs$Life;I)I"⟩, 5), (⟨"SlipHeirs$Phrase", "readCond", "(LSlipHeirs$Text;LSlipHeirs$Family;I)Z"⟩, 6), (⟨"SlipHeirs$Phrase", "readAll", "(LSlipHeirs$Text;LSlipHeirs$Family;I)Z"⟩, 6), (⟨"SlipHeirs$Phrase", "readOne", "(LSlipHeirs$Text;LSlipHeirs$Family;I)Z"⟩, 6), (⟨"SlipHeirs$Phrase", "add", "(III)Z"⟩, 6), (⟨"SlipHeirs$Phrase", "readKnown", "(LSlipHeirs$Text;LSlipHeirs$Family;II)Z"⟩, 6), (⟨"SlipHeirs$Phrase", "readMeasure", "(LSlipHeirs$Text;I)Z"⟩, 6), (⟨"SlipHeirs$Phrase", "trueOf", "(LSlipHeirs$Family;LSlipHeirs$Life;I)I"⟩, 6), (⟨"SlipHeirs$Phrase", "isTrue", "(LSlipHeirs$Family;LSlipHeirs$Life;II)Z"⟩, 6), (⟨"SlipHeirs$Phrase", "compares", "(II)Z"⟩, 6), (⟨"java/lang/Throwable", "fillInStackTrace", "(I)Ljava/lang/Throwable;"⟩, 6), (⟨"SlipHeirsModel", "four", "(I)V"⟩, 48)]
theorem lw_r3 : ∀ q ∈ lw_privs_3, lw_okq q := List.forall_mem_cons.mpr ⟨lw_p32, List.forall_mem_cons.mpr ⟨lw_p33, List.forall_mem_cons.mpr ⟨lw_p34, List.forall_mem_cons.mpr ⟨lw_p35, List.forall_mem_cons.mpr ⟨lw_p36, List.forall_mem_cons.mpr ⟨lw_p37, List.forall_mem_cons.mpr ⟨lw_p38, List.forall_mem_cons.mpr ⟨lw_p39, List.forall_mem_cons.mpr ⟨lw_p40, List.forall_mem_cons.mpr ⟨lw_p41, List.forall_mem_cons.mpr ⟨lw_p42, List.forall_mem_cons.mpr ⟨lw_p43, List.forall_mem_cons.mpr ⟨lw_p44, List.forall_mem_cons.mpr ⟨lw_p45, List.forall_mem_cons.mpr ⟨lw_p46, List.forall_mem_cons.mpr ⟨lw_p47, fun _ h => absurd h List.not_mem_nil⟩⟩⟩⟩⟩⟩⟩⟩⟩⟩⟩⟩⟩⟩⟩⟩
theorem lw_p48 : lw_okq (⟨"SlipHeirsModel", "begins", "()V"⟩, 48) := ⟨⟨by decide +kernel, by decide +kernel⟩, List.mem_of_getElem? (i := 1140) (by decide +kernel), List.mem_of_getElem? (i := 1174) (by decide +kernel), List.mem_of_getElem? (i := 1175) (by decide +kernel)⟩
theorem lw_p49 : lw_okq (⟨"SlipHeirsModel", "feeds", "(I)V"⟩, 48) := ⟨⟨by decide +kernel, by decide +kernel⟩, List.mem_of_getElem? (i := 1140) (by decide +kernel), List.mem_of_getElem? (i := 1328) (by decide +kernel), List.mem_of_getElem? (i := 1329) (by decide +kernel)⟩
theorem lw_p50 : lw_okq (⟨"SlipHeirsModel", "next", "()V"⟩, 48) := ⟨⟨by decide +kernel, by decide +kernel⟩, List.mem_of_getElem? (i := 1140) (by decide +kernel), List.mem_of_getElem? (i := 1332) (by decide +kernel), List.mem_of_getElem? (i := 1333) (by decide +kernel)⟩
theorem lw_p51 : lw_okq (⟨"SlipHeirsModel", "peek", "()I"⟩, 48) := ⟨⟨by decide +kernel, by decide +kernel⟩, List.mem_of_getElem? (i := 1140) (by decide +kernel), List.mem_of_getElem? (i := 1336) (by decide +kernel), List.mem_of_getElem? (i := 1337) (by decide +kernel)⟩
theorem lw_p52 : lw_okq (⟨"SlipHeirsModel", "line", "()Z"⟩, 48) := ⟨⟨by decide +kernel, by decide +kernel⟩, List.mem_of_getElem? (i := 1140) (by decide +kernel), List.mem_of_getElem? (i := 1346) (by decide +kernel), List.mem_of_getElem? (i := 1347) (by decide +kernel)⟩
theorem lw_p53 : lw_okq (⟨"SlipHeirsModel", "isWord", "(J)Z"⟩, 48) := ⟨⟨by decide +kernel, by decide +kernel⟩, List.mem_of_getElem? (i := 1140) (by decide +kernel), List.mem_of_getElem? (i := 1350) (by decide +kernel), List.mem_of_getElem? (i := 1351) (by decide +kernel)⟩
theorem lw_p54 : lw_okq (⟨"SlipHeirsModel", "bad", "(I)Z"⟩, 48) := ⟨⟨by decide +kernel, by decide +kernel⟩, List.mem_of_getElem? (i := 1140) (by decide +kernel), List.mem_of_getElem? (i := 1354) (by decide +kernel), List.mem_of_getElem? (i := 1355) (by decide +kernel)⟩
theorem lw_p55 : lw_okq (⟨"SlipHeirsModel", "fresh", "(I)Z"⟩, 48) := ⟨⟨by decide +kernel, by decide +kernel⟩, List.mem_of_getElem? (i := 1140) (by decide +kernel), List.mem_of_getElem? (i := 1358) (by decide +kernel), List.mem_of_getElem? (i := 1359) (by decide +kernel)⟩
theorem lw_p56 : lw_okq (⟨"SlipHeirsModel", "isName", "()Z"⟩, 48) := ⟨⟨by decide +kernel, by decide +kernel⟩, List.mem_of_getElem? (i := 1140) (by decide +kernel), List.mem_of_getElem? (i := 1362) (by decide +kernel), List.mem_of_getElem? (i := 1363) (by decide +kernel)⟩
theorem lw_p57 : lw_okq (⟨"SlipHeirsModel", "find", "(II)I"⟩, 48) := ⟨⟨by decide +kernel, by decide +kernel⟩, List.mem_of_getElem? (i := 1140) (by decide +kernel), List.mem_of_getElem? (i := 1366) (by decide +kernel), List.mem_of_getElem? (i := 1367) (by decide +kernel)⟩
theorem lw_p58 : lw_okq (⟨"SlipHeirsModel", "readPerson", "()Z"⟩, 48) := ⟨⟨by decide +kernel, by decide +kernel⟩, List.mem_of_getElem? (i := 1140) (by decide +kernel), List.mem_of_getElem? (i := 1370) (by decide +kernel), List.mem_of_getElem? (i := 1371) (by decide +kernel)⟩
theorem lw_p59 : lw_okq (⟨"SlipHeirsModel", "puts", "(III)Z"⟩, 48) := ⟨⟨by decide +kernel, by decide +kernel⟩, List.mem_of_getElem? (i := 1140) (by decide +kernel), List.mem_of_getElem? (i := 1374) (by decide +kernel), List.mem_of_getElem? (i := 1375) (by decide +kernel)⟩
theorem lw_p60 : lw_okq (⟨"SlipHeirsModel", "takes", "(II)Z"⟩, 48) := ⟨⟨by decide +kernel, by decide +kernel⟩, List.mem_of_getElem? (i := 1140) (by decide +kernel), List.mem_of_getElem? (i := 1378) (by decide +kernel), List.mem_of_getElem? (i := 1379) (by decide +kernel)⟩
theorem lw_p61 : lw_okq (⟨"SlipHeirsModel", "looksAtPerson", "()Z"⟩, 48) := ⟨⟨by decide +kernel, by decide +kernel⟩, List.mem_of_getElem? (i := 1140) (by decide +kernel), List.mem_of_getElem? (i := 1385) (by decide +kernel), List.mem_of_getElem? (i := 1386) (by decide +kernel)⟩
theorem lw_p62 : lw_okq (⟨"SlipHeirsModel", "looksAt", "(II)Z"⟩, 48) := ⟨⟨by decide +kernel, by decide +kernel⟩, List.mem_of_getElem? (i := 1140) (by decide +kernel), List.mem_of_getElem? (i := 1389) (by decide +kernel), List.mem_of_getElem? (i := 1390) (by decide +kernel)⟩
theorem lw_p63 : lw_okq (⟨"SlipHeirsModel", "readError", "()Z"⟩, 48) := ⟨⟨by decide +kernel, by decide +kernel⟩, List.mem_of_getElem? (i := 1140) (by decide +kernel), List.mem_of_getElem? (i := 1393) (by decide +kernel), List.mem_of_getElem? (i := 1394) (by decide +kernel)⟩
def lw_privs_4 : List (MethodName × Nat) := [(⟨"SlipHeirsModel", "begins", "()V"⟩, 48), (⟨"SlipHeirsModel", "feeds", "(I)V"⟩, 48), (⟨"SlipHeirsModel", "next", "()V"⟩, 48), (⟨"SlipHeirsModel", "peek", "()I"⟩, 48), (⟨"SlipHeirsModel", "line", "()Z"⟩, 48), (⟨"SlipHeirsModel", "isWord", "(J)Z"⟩, 48), (⟨"SlipHeirsModel", "bad", "(I)Z"⟩, 48), (⟨"SlipHeirsModel", "fresh", "(I)Z"⟩, 48), (⟨"SlipHeirsModel", "isName", "()Z"⟩, 48), (⟨"SlipHeirsModel", "find", "(II)I"⟩, 48), (⟨"SlipHeirsModel", "readPerson", "()Z"⟩, 48), (⟨"SlipHeirsModel", "puts", "(III)Z"⟩, 48), (⟨"SlipHeirsModel", "takes", "(II)Z"⟩, 48), (⟨"SlipHeirsModel", "looksAtPerson", "()Z"⟩, 48), (⟨"SlipHeirsModel", "looksAt", "(II)Z"⟩, 48), (⟨"SlipHeirsModel", "readError", "()Z"⟩, 48)]
theorem lw_r4 : ∀ q ∈ lw_privs_4, lw_okq q := List.forall_mem_cons.mpr ⟨lw_p48, List.forall_mem_cons.mpr ⟨lw_p49, List.forall_mem_cons.mpr ⟨lw_p50, List.forall_mem_cons.mpr ⟨lw_p51, List.forall_mem_cons.mpr ⟨lw_p52, List.forall_mem_cons.mpr ⟨lw_p53, List.forall_mem_cons.mpr ⟨lw_p54, List.forall_mem_cons.mpr ⟨lw_p55, List.forall_mem_cons.mpr ⟨lw_p56, List.forall_mem_cons.mpr ⟨lw_p57, List.forall_mem_cons.mpr ⟨lw_p58, List.forall_mem_cons.mpr ⟨lw_p59, List.forall_mem_cons.mpr ⟨lw_p60, List.forall_mem_cons.mpr ⟨lw_p61, List.forall_mem_cons.mpr ⟨lw_p62, List.forall_mem_cons.mpr ⟨lw_p63, fun _ h => absurd h List.not_mem_nil⟩⟩⟩⟩⟩⟩⟩⟩⟩⟩⟩⟩⟩⟩⟩⟩
theorem lw_p64 : lw_okq (⟨"SlipHeirsModel", "looksAtStep", "()Z"⟩, 48) := ⟨⟨by decide +kernel, by decide +kernel⟩, List.mem_of_getElem? (i := 1140) (by decide +kernel), List.mem_of_getElem? (i := 1397) (by decide +kernel), List.mem_of_getElem? (i := 1398) (by decide +kernel)⟩
theorem lw_p65 : lw_okq (⟨"SlipHeirsModel", "readDeed", "()Z"⟩, 48) := ⟨⟨by decide +kernel, by decide +kernel⟩, List.mem_of_getElem? (i := 1140) (by decide +kernel), List.mem_of_getElem? (i := 1401) (by decide +kernel), List.mem_of_getElem? (i := 1402) (by decide +kernel)⟩
theorem lw_p66 : lw_okq (⟨"SlipHeirsModel", "isSign", "(I)Z"⟩, 48) := ⟨⟨by decide +kernel, by decide +kernel⟩, List.mem_of_getElem? (i := 1140) (by decide +kernel), List.mem_of_getElem? (i := 1405) (by decide +kernel), List.mem_of_getElem? (i := 1406) (by decide +kernel)⟩
theorem lw_p67 : lw_okq (⟨"SlipHeirsModel", "sign", "(I)Z"⟩, 48) := ⟨⟨by decide +kernel, by decide +kernel⟩, List.mem_of_getElem? (i := 1140) (by decide +kernel), List.mem_of_getElem? (i := 1412) (by decide +kernel), List.mem_of_getElem? (i := 1413) (by decide +kernel)⟩
theorem lw_p68 : lw_okq (⟨"SlipHeirsModel", "isPerson", "(I)Z"⟩, 48) := ⟨⟨by decide +kernel, by decide +kernel⟩, List.mem_of_getElem? (i := 1140) (by decide +kernel), List.mem_of_getElem? (i := 1424) (by decide +kernel), List.mem_of_getElem? (i := 1425) (by decide +kernel)⟩
theorem lw_p69 : lw_okq (⟨"SlipHeirsModel", "throwsIf", "(Z)Z"⟩, 48) := ⟨⟨by decide +kernel, by decide +kernel⟩, List.mem_of_getElem? (i := 1140) (by decide +kernel), List.mem_of_getElem? (i := 1428) (by decide +kernel), List.mem_of_getElem? (i := 1429) (by decide +kernel)⟩
theorem lw_p70 : lw_okq (⟨"SlipHeirsModel", "isDead", "(I)Z"⟩, 48) := ⟨⟨by decide +kernel, by decide +kernel⟩, List.mem_of_getElem? (i := 1140) (by decide +kernel), List.mem_of_getElem? (i := 1432) (by decide +kernel), List.mem_of_getElem? (i := 1433) (by decide +kernel)⟩
theorem lw_p71 : lw_okq (⟨"SlipHeirsModel", "errorsOf", "(I)I"⟩, 48) := ⟨⟨by decide +kernel, by decide +kernel⟩, List.mem_of_getElem? (i := 1140) (by decide +kernel), List.mem_of_getElem? (i := 1436) (by decide +kernel), List.mem_of_getElem? (i := 1437) (by decide +kernel)⟩
theorem lw_p72 : lw_okq (⟨"SlipHeirsModel", "childrenOf", "(I)I"⟩, 48) := ⟨⟨by decide +kernel, by decide +kernel⟩, List.mem_of_getElem? (i := 1140) (by decide +kernel), List.mem_of_getElem? (i := 1440) (by decide +kernel), List.mem_of_getElem? (i := 1441) (by decide +kernel)⟩
theorem lw_p73 : lw_okq (⟨"SlipHeirsModel", "isError", "(I)Z"⟩, 48) := ⟨⟨by decide +kernel, by decide +kernel⟩, List.mem_of_getElem? (i := 1140) (by decide +kernel), List.mem_of_getElem? (i := 1448) (by decide +kernel), List.mem_of_getElem? (i := 1449) (by decide +kernel)⟩
theorem lw_p74 : lw_okq (⟨"SlipHeirsModel", "isDeed", "(I)Z"⟩, 48) := ⟨⟨by decide +kernel, by decide +kernel⟩, List.mem_of_getElem? (i := 1140) (by decide +kernel), List.mem_of_getElem? (i := 1456) (by decide +kernel), List.mem_of_getElem? (i := 1457) (by decide +kernel)⟩
theorem lw_p75 : lw_okq (⟨"SlipHeirsModel", "keep", "()V"⟩, 48) := ⟨⟨by decide +kernel, by decide +kernel⟩, List.mem_of_getElem? (i := 1140) (by decide +kernel), List.mem_of_getElem? (i := 1468) (by decide +kernel), List.mem_of_getElem? (i := 1469) (by decide +kernel)⟩
theorem lw_p76 : lw_okq (⟨"SlipHeirsModel", "does", "(II)V"⟩, 48) := ⟨⟨by decide +kernel, by decide +kernel⟩, List.mem_of_getElem? (i := 1140) (by decide +kernel), List.mem_of_getElem? (i := 1472) (by decide +kernel), List.mem_of_getElem? (i := 1473) (by decide +kernel)⟩
theorem lw_p77 : lw_okq (⟨"SlipHeirsModel", "acts", "(II)I"⟩, 48) := ⟨⟨by decide +kernel, by decide +kernel⟩, List.mem_of_getElem? (i := 1140) (by decide +kernel), List.mem_of_getElem? (i := 1476) (by decide +kernel), List.mem_of_getElem? (i := 1477) (by decide +kernel)⟩
theorem lw_p78 : lw_okq (⟨"SlipHeirsModel", "taken", "(II)I"⟩, 48) := ⟨⟨by decide +kernel, by decide +kernel⟩, List.mem_of_getElem? (i := 1140) (by decide +kernel), List.mem_of_getElem? (i := 1480) (by decide +kernel), List.mem_of_getElem? (i := 1481) (by decide +kernel)⟩
theorem lw_p79 : lw_okq (⟨"SlipHeirsModel", "makes", "(II)V"⟩, 48) := ⟨⟨by decide +kernel, by decide +kernel⟩, List.mem_of_getElem? (i := 1140) (by decide +kernel), List.mem_of_getElem? (i := 1484) (by decide +kernel), List.mem_of_getElem? (i := 1485) (by decide +kernel)⟩
def lw_privs_5 : List (MethodName × Nat) := [(⟨"SlipHeirsModel", "looksAtStep", "()Z"⟩, 48), (⟨"SlipHeirsModel", "readDeed", "()Z"⟩, 48), (⟨"SlipHeirsModel", "isSign", "(I)Z"⟩, 48), (⟨"SlipHeirsModel", "sign", "(I)Z"⟩, 48), (⟨"SlipHeirsModel", "isPerson", "(I)Z"⟩, 48), (⟨"SlipHeirsModel", "throwsIf", "(Z)Z"⟩, 48), (⟨"SlipHeirsModel", "isDead", "(I)Z"⟩, 48), (⟨"SlipHeirsModel", "errorsOf", "(I)I"⟩, 48), (⟨"SlipHeirsModel", "childrenOf", "(I)I"⟩, 48), (⟨"SlipHeirsModel", "isError", "(I)Z"⟩, 48), (⟨"SlipHeirsModel", "isDeed", "(I)Z"⟩, 48), (⟨"SlipHeirsModel", "keep", "()V"⟩, 48), (⟨"SlipHeirsModel", "does", "(II)V"⟩, 48), (⟨"SlipHeirsModel", "acts", "(II)I"⟩, 48), (⟨"SlipHeirsModel", "taken", "(II)I"⟩, 48), (⟨"SlipHeirsModel", "makes", "(II)V"⟩, 48)]
theorem lw_r5 : ∀ q ∈ lw_privs_5, lw_okq q := List.forall_mem_cons.mpr ⟨lw_p64, List.forall_mem_cons.mpr ⟨lw_p65, List.forall_mem_cons.mpr ⟨lw_p66, List.forall_mem_cons.mpr ⟨lw_p67, List.forall_mem_cons.mpr ⟨lw_p68, List.forall_mem_cons.mpr ⟨lw_p69, List.forall_mem_cons.mpr ⟨lw_p70, List.forall_mem_cons.mpr ⟨lw_p71, List.forall_mem_cons.mpr ⟨lw_p72, List.forall_mem_cons.mpr ⟨lw_p73, List.forall_mem_cons.mpr ⟨lw_p74, List.forall_mem_cons.mpr ⟨lw_p75, List.forall_mem_cons.mpr ⟨lw_p76, List.forall_mem_cons.mpr ⟨lw_p77, List.forall_mem_cons.mpr ⟨lw_p78, List.forall_mem_cons.mpr ⟨lw_p79, fun _ h => absurd h List.not_mem_nil⟩⟩⟩⟩⟩⟩⟩⟩⟩⟩⟩⟩⟩⟩⟩⟩
theorem lw_p80 : lw_okq (⟨"SlipHeirsModel", "dies", "(I)V"⟩, 48) := ⟨⟨by decide +kernel, by decide +kernel⟩, List.mem_of_getElem? (i := 1140) (by decide +kernel), List.mem_of_getElem? (i := 1492) (by decide +kernel), List.mem_of_getElem? (i := 1493) (by decide +kernel)⟩
theorem lw_p81 : lw_okq (⟨"SlipHeirsModel", "heirOf", "(I)I"⟩, 48) := ⟨⟨by decide +kernel, by decide +kernel⟩, List.mem_of_getElem? (i := 1140) (by decide +kernel), List.mem_of_getElem? (i := 1496) (by decide +kernel), List.mem_of_getElem? (i := 1497) (by decide +kernel)⟩
theorem lw_p82 : lw_okq (⟨"SlipHeirsModel", "eldest", "(I)I"⟩, 48) := ⟨⟨by decide +kernel, by decide +kernel⟩, List.mem_of_getElem? (i := 1140) (by decide +kernel), List.mem_of_getElem? (i := 1500) (by decide +kernel), List.mem_of_getElem? (i := 1501) (by decide +kernel)⟩
theorem lw_p83 : lw_okq (⟨"SlipHeirsModel", "withLiving", "(I)I"⟩, 48) := ⟨⟨by decide +kernel, by decide +kernel⟩, List.mem_of_getElem? (i := 1140) (by decide +kernel), List.mem_of_getElem? (i := 1504) (by decide +kernel), List.mem_of_getElem? (i := 1505) (by decide +kernel)⟩
theorem lw_p84 : lw_okq (⟨"SlipHeirsModel", "underOf", "(I)I"⟩, 48) := ⟨⟨by decide +kernel, by decide +kernel⟩, List.mem_of_getElem? (i := 1140) (by decide +kernel), List.mem_of_getElem? (i := 1508) (by decide +kernel), List.mem_of_getElem? (i := 1509) (by decide +kernel)⟩
theorem lw_p85 : lw_okq (⟨"SlipHeirsModel", "whyGive", "(II)I"⟩, 48) := ⟨⟨by decide +kernel, by decide +kernel⟩, List.mem_of_getElem? (i := 1140) (by decide +kernel), List.mem_of_getElem? (i := 1516) (by decide +kernel), List.mem_of_getElem? (i := 1517) (by decide +kernel)⟩
theorem lw_p86 : lw_okq (⟨"SlipHeirsModel", "lives", "(I)Z"⟩, 48) := ⟨⟨by decide +kernel, by decide +kernel⟩, List.mem_of_getElem? (i := 1140) (by decide +kernel), List.mem_of_getElem? (i := 1536) (by decide +kernel), List.mem_of_getElem? (i := 1537) (by decide +kernel)⟩
theorem lw_p87 : lw_okq (⟨"SlipHeirsModel", "tries", "()V"⟩, 48) := ⟨⟨by decide +kernel, by decide +kernel⟩, List.mem_of_getElem? (i := 1140) (by decide +kernel), List.mem_of_getElem? (i := 1540) (by decide +kernel), List.mem_of_getElem? (i := 1541) (by decide +kernel)⟩
theorem lw_p88 : lw_okq (⟨"SlipHeirsModel", "back", "()V"⟩, 48) := ⟨⟨by decide +kernel, by decide +kernel⟩, List.mem_of_getElem? (i := 1140) (by decide +kernel), List.mem_of_getElem? (i := 1544) (by decide +kernel), List.mem_of_getElem? (i := 1545) (by decide +kernel)⟩
theorem lw_p89 : lw_okq (⟨"SlipHeirsModel", "areSteps", "()Z"⟩, 48) := ⟨⟨by decide +kernel, by decide +kernel⟩, List.mem_of_getElem? (i := 1140) (by decide +kernel), List.mem_of_getElem? (i := 1568) (by decide +kernel), List.mem_of_getElem? (i := 1569) (by decide +kernel)⟩
theorem lw_p90 : lw_okq (⟨"SlipHeirsModel", "octet", "(I)I"⟩, 48) := ⟨⟨by decide +kernel, by decide +kernel⟩, List.mem_of_getElem? (i := 1140) (by decide +kernel), List.mem_of_getElem? (i := 1572) (by decide +kernel), List.mem_of_getElem? (i := 1573) (by decide +kernel)⟩
theorem lw_p91 : lw_okq (⟨"SlipHeirsModel", "isStep", "(I)Z"⟩, 48) := ⟨⟨by decide +kernel, by decide +kernel⟩, List.mem_of_getElem? (i := 1140) (by decide +kernel), List.mem_of_getElem? (i := 1576) (by decide +kernel), List.mem_of_getElem? (i := 1577) (by decide +kernel)⟩
theorem lw_p92 : lw_okq (⟨"SlipHeirsModel", "nextRow", "(I)Z"⟩, 48) := ⟨⟨by decide +kernel, by decide +kernel⟩, List.mem_of_getElem? (i := 1140) (by decide +kernel), List.mem_of_getElem? (i := 1580) (by decide +kernel), List.mem_of_getElem? (i := 1581) (by decide +kernel)⟩
theorem lw_p93 : lw_okq (⟨"SlipHeirsModel", "giftsBy", "(I)I"⟩, 48) := ⟨⟨by decide +kernel, by decide +kernel⟩, List.mem_of_getElem? (i := 1140) (by decide +kernel), List.mem_of_getElem? (i := 1609) (by decide +kernel), List.mem_of_getElem? (i := 1610) (by decide +kernel)⟩
theorem lw_p94 : lw_okq (⟨"SlipHeirsModel", "areErrors", "(I)Z"⟩, 48) := ⟨⟨by decide +kernel, by decide +kernel⟩, List.mem_of_getElem? (i := 1140) (by decide +kernel), List.mem_of_getElem? (i := 1621) (by decide +kernel), List.mem_of_getElem? (i := 1622) (by decide +kernel)⟩
theorem lw_p95 : lw_okq (⟨"SlipHeirsModel", "madeBy", "(II)I"⟩, 48) := ⟨⟨by decide +kernel, by decide +kernel⟩, List.mem_of_getElem? (i := 1140) (by decide +kernel), List.mem_of_getElem? (i := 1625) (by decide +kernel), List.mem_of_getElem? (i := 1626) (by decide +kernel)⟩
def lw_privs_6 : List (MethodName × Nat) := [(⟨"SlipHeirsModel", "dies", "(I)V"⟩, 48), (⟨"SlipHeirsModel", "heirOf", "(I)I"⟩, 48), (⟨"SlipHeirsModel", "eldest", "(I)I"⟩, 48), (⟨"SlipHeirsModel", "withLiving", "(I)I"⟩, 48), (⟨"SlipHeirsModel", "underOf", "(I)I"⟩, 48), (⟨"SlipHeirsModel", "whyGive", "(II)I"⟩, 48), (⟨"SlipHeirsModel", "lives", "(I)Z"⟩, 48), (⟨"SlipHeirsModel", "tries", "()V"⟩, 48), (⟨"SlipHeirsModel", "back", "()V"⟩, 48), (⟨"SlipHeirsModel", "areSteps", "()Z"⟩, 48), (⟨"SlipHeirsModel", "octet", "(I)I"⟩, 48), (⟨"SlipHeirsModel", "isStep", "(I)Z"⟩, 48), (⟨"SlipHeirsModel", "nextRow", "(I)Z"⟩, 48), (⟨"SlipHeirsModel", "giftsBy", "(I)I"⟩, 48), (⟨"SlipHeirsModel", "areErrors", "(I)Z"⟩, 48), (⟨"SlipHeirsModel", "madeBy", "(II)I"⟩, 48)]
theorem lw_r6 : ∀ q ∈ lw_privs_6, lw_okq q := List.forall_mem_cons.mpr ⟨lw_p80, List.forall_mem_cons.mpr ⟨lw_p81, List.forall_mem_cons.mpr ⟨lw_p82, List.forall_mem_cons.mpr ⟨lw_p83, List.forall_mem_cons.mpr ⟨lw_p84, List.forall_mem_cons.mpr ⟨lw_p85, List.forall_mem_cons.mpr ⟨lw_p86, List.forall_mem_cons.mpr ⟨lw_p87, List.forall_mem_cons.mpr ⟨lw_p88, List.forall_mem_cons.mpr ⟨lw_p89, List.forall_mem_cons.mpr ⟨lw_p90, List.forall_mem_cons.mpr ⟨lw_p91, List.forall_mem_cons.mpr ⟨lw_p92, List.forall_mem_cons.mpr ⟨lw_p93, List.forall_mem_cons.mpr ⟨lw_p94, List.forall_mem_cons.mpr ⟨lw_p95, fun _ h => absurd h List.not_mem_nil⟩⟩⟩⟩⟩⟩⟩⟩⟩⟩⟩⟩⟩⟩⟩⟩
theorem lw_p96 : lw_okq (⟨"SlipHeirsModel", "isRightBy", "(II)Z"⟩, 48) := ⟨⟨by decide +kernel, by decide +kernel⟩, List.mem_of_getElem? (i := 1140) (by decide +kernel), List.mem_of_getElem? (i := 1637) (by decide +kernel), List.mem_of_getElem? (i := 1638) (by decide +kernel)⟩
theorem lw_p97 : lw_okq (⟨"SlipHeirsModel", "draws", "(II)V"⟩, 48) := ⟨⟨by decide +kernel, by decide +kernel⟩, List.mem_of_getElem? (i := 1140) (by decide +kernel), List.mem_of_getElem? (i := 1653) (by decide +kernel), List.mem_of_getElem? (i := 1654) (by decide +kernel)⟩
theorem lw_p98 : lw_okq (⟨"SlipHeirsModel", "draw", "(I)I"⟩, 48) := ⟨⟨by decide +kernel, by decide +kernel⟩, List.mem_of_getElem? (i := 1140) (by decide +kernel), List.mem_of_getElem? (i := 1657) (by decide +kernel), List.mem_of_getElem? (i := 1658) (by decide +kernel)⟩
theorem lw_p99 : lw_okq (⟨"SlipHeirsModel", "tellsLine", "()Z"⟩, 48) := ⟨⟨by decide +kernel, by decide +kernel⟩, List.mem_of_getElem? (i := 1140) (by decide +kernel), List.mem_of_getElem? (i := 1670) (by decide +kernel), List.mem_of_getElem? (i := 1671) (by decide +kernel)⟩
theorem lw_p100 : lw_okq (⟨"SlipHeirsModel", "tells", "(III)I"⟩, 48) := ⟨⟨by decide +kernel, by decide +kernel⟩, List.mem_of_getElem? (i := 1140) (by decide +kernel), List.mem_of_getElem? (i := 1674) (by decide +kernel), List.mem_of_getElem? (i := 1675) (by decide +kernel)⟩
theorem lw_p101 : lw_okq (⟨"SlipHeirsModel", "nots", "()V"⟩, 48) := ⟨⟨by decide +kernel, by decide +kernel⟩, List.mem_of_getElem? (i := 1140) (by decide +kernel), List.mem_of_getElem? (i := 1686) (by decide +kernel), List.mem_of_getElem? (i := 1687) (by decide +kernel)⟩
theorem lw_p102 : lw_okq (⟨"SlipHeirsModel", "code", "(III)V"⟩, 48) := ⟨⟨by decide +kernel, by decide +kernel⟩, List.mem_of_getElem? (i := 1140) (by decide +kernel), List.mem_of_getElem? (i := 1690) (by decide +kernel), List.mem_of_getElem? (i := 1691) (by decide +kernel)⟩
theorem lw_p103 : lw_okq (⟨"SlipHeirsModel", "joins", "(I)V"⟩, 48) := ⟨⟨by decide +kernel, by decide +kernel⟩, List.mem_of_getElem? (i := 1140) (by decide +kernel), List.mem_of_getElem? (i := 1694) (by decide +kernel), List.mem_of_getElem? (i := 1695) (by decide +kernel)⟩
theorem lw_p104 : lw_okq (⟨"SlipHeirsModel", "behind", "()Z"⟩, 48) := ⟨⟨by decide +kernel, by decide +kernel⟩, List.mem_of_getElem? (i := 1140) (by decide +kernel), List.mem_of_getElem? (i := 1698) (by decide +kernel), List.mem_of_getElem? (i := 1699) (by decide +kernel)⟩
theorem lw_p105 : lw_okq (⟨"SlipHeirsModel", "operand", "()Z"⟩, 48) := ⟨⟨by decide +kernel, by decide +kernel⟩, List.mem_of_getElem? (i := 1140) (by decide +kernel), List.mem_of_getElem? (i := 1702) (by decide +kernel), List.mem_of_getElem? (i := 1703) (by decide +kernel)⟩
theorem lw_p106 : lw_okq (⟨"SlipHeirsModel", "leafOf", "()I"⟩, 48) := ⟨⟨by decide +kernel, by decide +kernel⟩, List.mem_of_getElem? (i := 1140) (by decide +kernel), List.mem_of_getElem? (i := 1706) (by decide +kernel), List.mem_of_getElem? (i := 1707) (by decide +kernel)⟩
theorem lw_p107 : lw_okq (⟨"SlipHeirsModel", "isSaid", "(I)Z"⟩, 48) := ⟨⟨by decide +kernel, by decide +kernel⟩, List.mem_of_getElem? (i := 1140) (by decide +kernel), List.mem_of_getElem? (i := 1714) (by decide +kernel), List.mem_of_getElem? (i := 1715) (by decide +kernel)⟩
theorem lw_p108 : lw_okq (⟨"SlipHeirsModel", "isLeaf", "(IIII)Z"⟩, 48) := ⟨⟨by decide +kernel, by decide +kernel⟩, List.mem_of_getElem? (i := 1140) (by decide +kernel), List.mem_of_getElem? (i := 1718) (by decide +kernel), List.mem_of_getElem? (i := 1719) (by decide +kernel)⟩
def lw_privs_7 : List (MethodName × Nat) := [(⟨"SlipHeirsModel", "isRightBy", "(II)Z"⟩, 48), (⟨"SlipHeirsModel", "draws", "(II)V"⟩, 48), (⟨"SlipHeirsModel", "draw", "(I)I"⟩, 48), (⟨"SlipHeirsModel", "tellsLine", "()Z"⟩, 48), (⟨"SlipHeirsModel", "tells", "(III)I"⟩, 48), (⟨"SlipHeirsModel", "nots", "()V"⟩, 48), (⟨"SlipHeirsModel", "code", "(III)V"⟩, 48), (⟨"SlipHeirsModel", "joins", "(I)V"⟩, 48), (⟨"SlipHeirsModel", "behind", "()Z"⟩, 48), (⟨"SlipHeirsModel", "operand", "()Z"⟩, 48), (⟨"SlipHeirsModel", "leafOf", "()I"⟩, 48), (⟨"SlipHeirsModel", "isSaid", "(I)Z"⟩, 48), (⟨"SlipHeirsModel", "isLeaf", "(IIII)Z"⟩, 48)]
theorem lw_r7 : ∀ q ∈ lw_privs_7, lw_okq q := List.forall_mem_cons.mpr ⟨lw_p96, List.forall_mem_cons.mpr ⟨lw_p97, List.forall_mem_cons.mpr ⟨lw_p98, List.forall_mem_cons.mpr ⟨lw_p99, List.forall_mem_cons.mpr ⟨lw_p100, List.forall_mem_cons.mpr ⟨lw_p101, List.forall_mem_cons.mpr ⟨lw_p102, List.forall_mem_cons.mpr ⟨lw_p103, List.forall_mem_cons.mpr ⟨lw_p104, List.forall_mem_cons.mpr ⟨lw_p105, List.forall_mem_cons.mpr ⟨lw_p106, List.forall_mem_cons.mpr ⟨lw_p107, List.forall_mem_cons.mpr ⟨lw_p108, fun _ h => absurd h List.not_mem_nil⟩⟩⟩⟩⟩⟩⟩⟩⟩⟩⟩⟩⟩
def lw_privs : List (MethodName × Nat) := lw_privs_1 ++ (lw_privs_2 ++ (lw_privs_3 ++ (lw_privs_4 ++ (lw_privs_5 ++ (lw_privs_6 ++ (lw_privs_7))))))
def lw_tbl : List Cond := k2_sels lw_privs ++ tables_1
theorem lw_privs_ok : ∀ q ∈ lw_privs, lw_okq q := by
  show ∀ q ∈ lw_privs_1 ++ (lw_privs_2 ++ (lw_privs_3 ++ (lw_privs_4 ++ (lw_privs_5 ++ (lw_privs_6 ++ (lw_privs_7)))))), lw_okq q
  exact List.forall_mem_append.mpr ⟨lw_r1, List.forall_mem_append.mpr ⟨lw_r2, List.forall_mem_append.mpr ⟨lw_r3, List.forall_mem_append.mpr ⟨lw_r4, List.forall_mem_append.mpr ⟨lw_r5, List.forall_mem_append.mpr ⟨lw_r6, lw_r7⟩⟩⟩⟩⟩⟩
end
section
def RX0 : String := "SlipHeirs$Family"
def TX0 : u_T := fun k => match k with
  | 0 => ("SlipHeirs$Family", "counts", "[I", true)
  | 1 => ("SlipHeirs$Family", "names", "[J", true)
  | 2 => ("SlipHeirs$Family", "born", "[I", true)
  | 3 => ("SlipHeirs$Family", "parent", "[I", true)
  | 4 => ("SlipHeirs$Family", "godchild", "[I", true)
  | 5 => ("SlipHeirs$Family", "care", "[I", true)
  | 6 => ("SlipHeirs$Family", "owner", "[I", true)
  | 7 => ("SlipHeirs$Family", "from", "[I", true)
  | 8 => ("SlipHeirs$Family", "to", "[I", true)
  | 9 => ("SlipHeirs$Family", "wear", "[I", true)
  | 10 => ("SlipHeirs$Family", "harm", "[I", true)
  | 11 => ("SlipHeirs$Family", "good", "[I", true)
  | 12 => ("SlipHeirs$Family", "lengths", "[I", true)
  | 13 => ("SlipHeirs$Family", "steps", "[I", true)
  | 14 => ("SlipHeirs$Family", "caredFor", "I", false)
  | _ => ("SlipHeirs$Family", "lines", "I", false)
def tyX0 : Nat → FieldType := fun k => match k with
  | 0 => .array .int
  | 1 => .array .long
  | 2 => .array .int
  | 3 => .array .int
  | 4 => .array .int
  | 5 => .array .int
  | 6 => .array .int
  | 7 => .array .int
  | 8 => .array .int
  | 9 => .array .int
  | 10 => .array .int
  | 11 => .array .int
  | 12 => .array .int
  | 13 => .array .int
  | 14 => .int
  | _ => .int
theorem nmX0 : ∀ a, a < 16 → ∀ b, b < 16 → a ≠ b → (TX0 a).2.1 ≠ (TX0 b).2.1 := by decide +kernel
theorem tyX0_ok : ∀ k, k < 16 → parseFieldDescriptor (TX0 k).2.2.1 = some (tyX0 k) := by decide +kernel
def RX1 : String := "SlipHeirs$Image"
def TX1 : u_T := fun k => match k with
  | 0 => ("SlipHeirs$Image", "house", "LSlipHeirs$Family;", true)
  | 1 => ("SlipHeirs$Image", "life", "LSlipHeirs$Life;", true)
  | 2 => ("SlipHeirs$Image", "phrase", "LSlipHeirs$Phrase;", true)
  | _ => ("SlipHeirs$Image", "kept", "Z", false)
def tyX1 : Nat → FieldType := fun k => match k with
  | 0 => .object "SlipHeirs$Family"
  | 1 => .object "SlipHeirs$Life"
  | 2 => .object "SlipHeirs$Phrase"
  | _ => .boolean
theorem nmX1 : ∀ a, a < 4 → ∀ b, b < 4 → a ≠ b → (TX1 a).2.1 ≠ (TX1 b).2.1 := by decide +kernel
theorem tyX1_ok : ∀ k, k < 4 → parseFieldDescriptor (TX1 k).2.2.1 = some (tyX1 k) := by decide +kernel
def RX2 : String := "SlipHeirs$Life"
def TX2 : u_T := fun k => match k with
  | 0 => ("SlipHeirs$Life", "bearer", "[I", true)
  | 1 => ("SlipHeirs$Life", "wear", "[I", true)
  | 2 => ("SlipHeirs$Life", "made", "[I", true)
  | 3 => ("SlipHeirs$Life", "madeBy", "[I", true)
  | 4 => ("SlipHeirs$Life", "came", "[I", true)
  | 5 => ("SlipHeirs$Life", "cameLength", "I", false)
  | 6 => ("SlipHeirs$Life", "year", "I", false)
  | 7 => ("SlipHeirs$Life", "fortune", "I", false)
  | 8 => ("SlipHeirs$Life", "dead", "I", false)
  | 9 => ("SlipHeirs$Life", "done", "I", false)
  | 10 => ("SlipHeirs$Life", "doneRight", "I", false)
  | _ => ("SlipHeirs$Life", "firstWorn", "I", false)
def tyX2 : Nat → FieldType := fun k => match k with
  | 0 => .array .int
  | 1 => .array .int
  | 2 => .array .int
  | 3 => .array .int
  | 4 => .array .int
  | 5 => .int
  | 6 => .int
  | 7 => .int
  | 8 => .int
  | 9 => .int
  | 10 => .int
  | _ => .int
theorem nmX2 : ∀ a, a < 12 → ∀ b, b < 12 → a ≠ b → (TX2 a).2.1 ≠ (TX2 b).2.1 := by decide +kernel
theorem tyX2_ok : ∀ k, k < 12 → parseFieldDescriptor (TX2 k).2.2.1 = some (tyX2 k) := by decide +kernel
def RX3 : String := "SlipHeirs$Past"
def TX3 : u_T := fun k => match k with
  | 0 => ("SlipHeirs$Past", "kept", "[LSlipHeirs$Life;", true)
  | 1 => ("SlipHeirs$Past", "count", "I", false)
  | _ => ("SlipHeirs$Past", "next", "I", false)
def tyX3 : Nat → FieldType := fun k => match k with
  | 0 => .array (.object "SlipHeirs$Life")
  | 1 => .int
  | _ => .int
theorem nmX3 : ∀ a, a < 3 → ∀ b, b < 3 → a ≠ b → (TX3 a).2.1 ≠ (TX3 b).2.1 := by decide +kernel
theorem tyX3_ok : ∀ k, k < 3 → parseFieldDescriptor (TX3 k).2.2.1 = some (tyX3 k) := by decide +kernel
def RX4 : String := "SlipHeirs$Phrase"
def TX4 : u_T := fun k => match k with
  | 0 => ("SlipHeirs$Phrase", "kinds", "[I", true)
  | 1 => ("SlipHeirs$Phrase", "signs", "[I", true)
  | 2 => ("SlipHeirs$Phrase", "values", "[I", true)
  | 3 => ("SlipHeirs$Phrase", "stack", "[I", true)
  | 4 => ("SlipHeirs$Phrase", "length", "I", false)
  | _ => ("SlipHeirs$Phrase", "ones", "I", false)
def tyX4 : Nat → FieldType := fun k => match k with
  | 0 => .array .int
  | 1 => .array .int
  | 2 => .array .int
  | 3 => .array .int
  | 4 => .int
  | _ => .int
theorem nmX4 : ∀ a, a < 6 → ∀ b, b < 6 → a ≠ b → (TX4 a).2.1 ≠ (TX4 b).2.1 := by decide +kernel
theorem tyX4_ok : ∀ k, k < 6 → parseFieldDescriptor (TX4 k).2.2.1 = some (tyX4 k) := by decide +kernel
def RX5 : String := "SlipHeirs$Planner"
def TX5 : u_T := fun k => match k with
  | 0 => ("SlipHeirs$Planner", "wanted", "[I", true)
  | 1 => ("SlipHeirs$Planner", "row", "[I", true)
  | 2 => ("SlipHeirs$Planner", "wear", "[I", true)
  | 3 => ("SlipHeirs$Planner", "first", "[I", true)
  | 4 => ("SlipHeirs$Planner", "firstLength", "I", false)
  | 5 => ("SlipHeirs$Planner", "length", "I", false)
  | _ => ("SlipHeirs$Planner", "found", "Z", false)
def tyX5 : Nat → FieldType := fun k => match k with
  | 0 => .array .int
  | 1 => .array .int
  | 2 => .array .int
  | 3 => .array .int
  | 4 => .int
  | 5 => .int
  | _ => .boolean
theorem nmX5 : ∀ a, a < 7 → ∀ b, b < 7 → a ≠ b → (TX5 a).2.1 ≠ (TX5 b).2.1 := by decide +kernel
theorem tyX5_ok : ∀ k, k < 7 → parseFieldDescriptor (TX5 k).2.2.1 = some (tyX5 k) := by decide +kernel
def RX6 : String := "SlipHeirs$Script"
def TX6 : u_T := fun k => match k with
  | 0 => ("SlipHeirs$Script", "kinds", "[I", true)
  | 1 => ("SlipHeirs$Script", "firsts", "[I", true)
  | 2 => ("SlipHeirs$Script", "seconds", "[I", true)
  | 3 => ("SlipHeirs$Script", "lines", "I", false)
  | _ => ("SlipHeirs$Script", "why", "I", false)
def tyX6 : Nat → FieldType := fun k => match k with
  | 0 => .array .int
  | 1 => .array .int
  | 2 => .array .int
  | 3 => .int
  | _ => .int
theorem nmX6 : ∀ a, a < 5 → ∀ b, b < 5 → a ≠ b → (TX6 a).2.1 ≠ (TX6 b).2.1 := by decide +kernel
theorem tyX6_ok : ∀ k, k < 5 → parseFieldDescriptor (TX6 k).2.2.1 = some (tyX6 k) := by decide +kernel
def RX7 : String := "SlipHeirs$Text"
def TX7 : u_T := fun k => match k with
  | 0 => ("SlipHeirs$Text", "bytes", "[B", true)
  | 1 => ("SlipHeirs$Text", "kinds", "[I", true)
  | 2 => ("SlipHeirs$Text", "places", "[I", true)
  | 3 => ("SlipHeirs$Text", "values", "[J", true)
  | 4 => ("SlipHeirs$Text", "keys", "[J", true)
  | 5 => ("SlipHeirs$Text", "length", "I", false)
  | 6 => ("SlipHeirs$Text", "tokens", "I", false)
  | 7 => ("SlipHeirs$Text", "current", "I", false)
  | 8 => ("SlipHeirs$Text", "taken", "I", false)
  | 9 => ("SlipHeirs$Text", "tooLong", "Z", false)
  | 10 => ("SlipHeirs$Text", "faultKind", "I", false)
  | _ => ("SlipHeirs$Text", "faultPlace", "I", false)
def tyX7 : Nat → FieldType := fun k => match k with
  | 0 => .array .byte
  | 1 => .array .int
  | 2 => .array .int
  | 3 => .array .long
  | 4 => .array .long
  | 5 => .int
  | 6 => .int
  | 7 => .int
  | 8 => .int
  | 9 => .boolean
  | 10 => .int
  | _ => .int
theorem nmX7 : ∀ a, a < 12 → ∀ b, b < 12 → a ≠ b → (TX7 a).2.1 ≠ (TX7 b).2.1 := by decide +kernel
theorem tyX7_ok : ∀ k, k < 12 → parseFieldDescriptor (TX7 k).2.2.1 = some (tyX7 k) := by decide +kernel
def RX8 : String := "SlipHeirs"
def TX8 : u_T := fun k => match k with
  | 0 => ("SlipHeirs", "text", "LSlipHeirs$Text;", true)
  | 1 => ("SlipHeirs", "house", "LSlipHeirs$Family;", true)
  | 2 => ("SlipHeirs", "draftHouse", "LSlipHeirs$Family;", true)
  | 3 => ("SlipHeirs", "life", "LSlipHeirs$Life;", true)
  | 4 => ("SlipHeirs", "trial", "LSlipHeirs$Life;", true)
  | 5 => ("SlipHeirs", "phrase", "LSlipHeirs$Phrase;", true)
  | 6 => ("SlipHeirs", "draftPhrase", "LSlipHeirs$Phrase;", true)
  | 7 => ("SlipHeirs", "script", "LSlipHeirs$Script;", true)
  | 8 => ("SlipHeirs", "past", "LSlipHeirs$Past;", true)
  | 9 => ("SlipHeirs", "images", "[LSlipHeirs$Image;", true)
  | 10 => ("SlipHeirs", "planner", "LSlipHeirs$Planner;", true)
  | 11 => ("SlipHeirs", "giftRow", "[I", true)
  | 12 => ("SlipHeirs", "toldRow", "[I", true)
  | 13 => ("SlipHeirs", "anyTold", "Z", false)
  | 14 => ("SlipHeirs", "lastFault", "I", false)
  | 15 => ("SlipHeirs", "wornDeed", "I", false)
  | _ => ("SlipHeirs", "wornCost", "I", false)
def tyX8 : Nat → FieldType := fun k => match k with
  | 0 => .object "SlipHeirs$Text"
  | 1 => .object "SlipHeirs$Family"
  | 2 => .object "SlipHeirs$Family"
  | 3 => .object "SlipHeirs$Life"
  | 4 => .object "SlipHeirs$Life"
  | 5 => .object "SlipHeirs$Phrase"
  | 6 => .object "SlipHeirs$Phrase"
  | 7 => .object "SlipHeirs$Script"
  | 8 => .object "SlipHeirs$Past"
  | 9 => .array (.object "SlipHeirs$Image")
  | 10 => .object "SlipHeirs$Planner"
  | 11 => .array .int
  | 12 => .array .int
  | 13 => .boolean
  | 14 => .int
  | 15 => .int
  | _ => .int
theorem nmX8 : ∀ a, a < 17 → ∀ b, b < 17 → a ≠ b → (TX8 a).2.1 ≠ (TX8 b).2.1 := by decide +kernel
theorem tyX8_ok : ∀ k, k < 17 → parseFieldDescriptor (TX8 k).2.2.1 = some (tyX8 k) := by decide +kernel
def RX9 : String := "SlipHeirsModel"
def TX9 : u_T := fun k => match k with
  | 0 => ("SlipHeirsModel", "thrown", "I", false)
  | 1 => ("SlipHeirsModel", "tape", "[B", true)
  | 2 => ("SlipHeirsModel", "length", "I", false)
  | 3 => ("SlipHeirsModel", "size", "I", false)
  | 4 => ("SlipHeirsModel", "p", "I", false)
  | 5 => ("SlipHeirsModel", "limit", "I", false)
  | 6 => ("SlipHeirsModel", "s", "[I", true)
  | 7 => ("SlipHeirsModel", "h", "[I", true)
  | 8 => ("SlipHeirsModel", "read", "[I", true)
  | 9 => ("SlipHeirsModel", "names", "[J", true)
  | 10 => ("SlipHeirsModel", "reserved", "[J", true)
  | 11 => ("SlipHeirsModel", "token", "I", false)
  | 12 => ("SlipHeirsModel", "at", "I", false)
  | 13 => ("SlipHeirsModel", "span", "I", false)
  | 14 => ("SlipHeirsModel", "number", "I", false)
  | 15 => ("SlipHeirsModel", "fault", "I", false)
  | 16 => ("SlipHeirsModel", "faultAt", "I", false)
  | 17 => ("SlipHeirsModel", "word", "J", false)
  | 18 => ("SlipHeirsModel", "got", "I", false)
  | 19 => ("SlipHeirsModel", "lines", "I", false)
  | 20 => ("SlipHeirsModel", "cares", "I", false)
  | 21 => ("SlipHeirsModel", "came", "[I", true)
  | 22 => ("SlipHeirsModel", "undone", "[I", true)
  | 23 => ("SlipHeirsModel", "before", "[I", true)
  | 24 => ("SlipHeirsModel", "undoMany", "I", false)
  | 25 => ("SlipHeirsModel", "row", "[I", true)
  | 26 => ("SlipHeirsModel", "planRow", "[I", true)
  | 27 => ("SlipHeirsModel", "planMany", "I", false)
  | 28 => ("SlipHeirsModel", "wornDeed", "I", false)
  | 29 => ("SlipHeirsModel", "wornLost", "I", false)
  | 30 => ("SlipHeirsModel", "hasWorn", "Z", false)
  | 31 => ("SlipHeirsModel", "giftRow", "[I", true)
  | 32 => ("SlipHeirsModel", "has", "[I", true)
  | 33 => ("SlipHeirsModel", "giftErrors", "I", false)
  | 34 => ("SlipHeirsModel", "seed", "I", false)
  | 35 => ("SlipHeirsModel", "told", "I", false)
  | 36 => ("SlipHeirsModel", "toldAt", "[I", true)
  | 37 => ("SlipHeirsModel", "hasTold", "Z", false)
  | 38 => ("SlipHeirsModel", "stack", "[I", true)
  | 39 => ("SlipHeirsModel", "codes", "I", false)
  | 40 => ("SlipHeirsModel", "ones", "I", false)
  | 41 => ("SlipHeirsModel", "top", "I", false)
  | 42 => ("SlipHeirsModel", "deep", "I", false)
  | 43 => ("SlipHeirsModel", "isWhole", "Z", false)
  | 44 => ("SlipHeirsModel", "truths", "[Z", true)
  | 45 => ("SlipHeirsModel", "kept", "[I", true)
  | 46 => ("SlipHeirsModel", "namesKept", "[J", true)
  | _ => ("SlipHeirsModel", "areKept", "[Z", true)
def tyX9 : Nat → FieldType := fun k => match k with
  | 0 => .int
  | 1 => .array .byte
  | 2 => .int
  | 3 => .int
  | 4 => .int
  | 5 => .int
  | 6 => .array .int
  | 7 => .array .int
  | 8 => .array .int
  | 9 => .array .long
  | 10 => .array .long
  | 11 => .int
  | 12 => .int
  | 13 => .int
  | 14 => .int
  | 15 => .int
  | 16 => .int
  | 17 => .long
  | 18 => .int
  | 19 => .int
  | 20 => .int
  | 21 => .array .int
  | 22 => .array .int
  | 23 => .array .int
  | 24 => .int
  | 25 => .array .int
  | 26 => .array .int
  | 27 => .int
  | 28 => .int
  | 29 => .int
  | 30 => .boolean
  | 31 => .array .int
  | 32 => .array .int
  | 33 => .int
  | 34 => .int
  | 35 => .int
  | 36 => .array .int
  | 37 => .boolean
  | 38 => .array .int
  | 39 => .int
  | 40 => .int
  | 41 => .int
  | 42 => .int
  | 43 => .boolean
  | 44 => .array .boolean
  | 45 => .array .int
  | 46 => .array .long
  | _ => .array .boolean
theorem nmX9 : ∀ a, a < 48 → ∀ b, b < 48 → a ≠ b → (TX9 a).2.1 ≠ (TX9 b).2.1 := by decide +kernel
theorem tyX9_ok : ∀ k, k < 48 → parseFieldDescriptor (TX9 k).2.2.1 = some (tyX9 k) := by decide +kernel
abbrev nj_cl : List vw_C := [(RX0, TX0, 16), (RX1, TX1, 4), (RX2, TX2, 12), (RX3, TX3, 3), (RX4, TX4, 6), (RX5, TX5, 7), (RX6, TX6, 5), (RX7, TX7, 12), (RX8, TX8, 17), (RX9, TX9, 48)]
def nj_ty (c : Nat) : Nat → FieldType := match c with
  | 0 => tyX0
  | 1 => tyX1
  | 2 => tyX2
  | 3 => tyX3
  | 4 => tyX4
  | 5 => tyX5
  | 6 => tyX6
  | 7 => tyX7
  | 8 => tyX8
  | _ => tyX9
end
section
/-! A SMALL MACHINE: the same instructions over cells that are numbered from 0 on; its runs are runs of the machine (parts behind). Values are the machine's; '.ref k' is the small machine's cell k, '.retAddr 0' the script, '.retAddr 1' the row FIRST_SLOT, '.retAddr 2' the text of the words, '.retAddr 3' its bytes, '.retAddr 4' what nobody looks at. -/
abbrev nC : Type := (Nat × Nat × ((Nat → Int32) ⊕ (Nat → Int64) ⊕ (Nat → Option Nat))) ⊕ (Nat × List Value)
abbrev nLv : Type := List (Nat × Value)
/-- an instruction of a method: its place, itself, three numbers that say what it means here, a place in the tables -/
abbrev nE : Type := Nat × Instr × Nat × Nat × Int × Nat
def nj_get (lv : nLv) (k : Nat) : Option Value := (lv.find? (fun q => q.1 == k)).map (fun q => q.2)
def nj_put (lv : nLv) (i : Nat) (v : Value) : nLv := (i, v) :: lv.filter (fun q => !(q.1 == i) && !(q.1 + 1 == i && q.2.category == 2))
def nj_put2 (lv : nLv) (i : Nat) (v : Value) : nLv := (i, v) :: lv.filter (fun q => !(q.1 == i) && (!(q.1 == i + 1) && !(q.1 + 1 == i && q.2.category == 2)))
def nj_go (pc : Nat) (off : Int) (lv : nLv) (st : List Value) : Option (Nat × nLv × List Value) := if 0 ≤ (pc : Int) + off then some (((pc : Int) + off).toNat, lv, st) else none
def nj_br (pc : Nat) (off : Int) (c : Bool) (lv : nLv) (st : List Value) : Option (Nat × nLv × List Value) := if 0 ≤ (pc : Int) + off then (if c = true then some (((pc : Int) + off).toNat, lv, st) else some (pc + 3, lv, st)) else none
def nj_cmp (c : Jvm.ClassFile.Cond) (x y : Int32) : Bool := match c with
  | .eq => decide (x = y)
  | .ne => decide (¬ x = y)
  | .lt => decide (x < y)
  | .ge => decide (y ≤ x)
  | .gt => decide (y < x)
  | .le => decide (x ≤ y)
def nj_ldi (lv : nLv) (pc : Nat) (k : Nat) (st : List Value) : Option (Nat × nLv × List Value) := match nj_get lv k with
  | some (.int x) => some (pc, lv, .int x :: st)
  | _ => none
def nj_ldl (lv : nLv) (pc : Nat) (k : Nat) (st : List Value) : Option (Nat × nLv × List Value) := match nj_get lv k with
  | some (.long x) => some (pc, lv, .long x :: st)
  | _ => none
def nj_lda (lv : nLv) (pc : Nat) (k : Nat) (st : List Value) : Option (Nat × nLv × List Value) := match nj_get lv k with
  | some (.ref x) => some (pc, lv, .ref x :: st)
  | some (.retAddr x) => some (pc, lv, .retAddr x :: st)
  | _ => none
def nj_sti (lv : nLv) (mL pc k : Nat) (st : List Value) : Option (Nat × nLv × List Value) := match st with
  | .int x :: r => if k < mL then some (pc, nj_put lv k (.int x), r) else none
  | _ => none
def nj_stl (lv : nLv) (mL pc k : Nat) (st : List Value) : Option (Nat × nLv × List Value) := match st with
  | .long x :: r => if k + 1 < mL then some (pc, nj_put2 lv k (.long x), r) else none
  | _ => none
def nj_sta (lv : nLv) (mL pc k : Nat) (st : List Value) : Option (Nat × nLv × List Value) := match st with
  | .ref x :: r => if k < mL then some (pc, nj_put lv k (.ref x), r) else none
  | .retAddr x :: r => if k < mL then some (pc, nj_put lv k (.retAddr x), r) else none
  | _ => none
def nj_b2 (f : Int32 → Int32 → Int32) (lv : nLv) (pc : Nat) (st : List Value) : Option (Nat × nLv × List Value) := match st with
  | .int y :: .int x :: r => some (pc + 1, lv, .int (f x y) :: r)
  | _ => none
def nj_l2 (f : Int64 → Int64 → Int64) (lv : nLv) (pc : Nat) (st : List Value) : Option (Nat × nLv × List Value) := match st with
  | .long y :: .long x :: r => some (pc + 1, lv, .long (f x y) :: r)
  | _ => none
def nj_i1 (f : Int32 → Int32) (lv : nLv) (pc : Nat) (st : List Value) : Option (Nat × nLv × List Value) := match st with
  | .int x :: r => some (pc + 1, lv, .int (f x) :: r)
  | _ => none
def nj_tab (pc : Nat) (lv : nLv) (d lo hi : Int) (offs : Array Int) (x : Int32) (r : List Value) : Option (Nat × nLv × List Value) :=
  if x.toInt < lo ∨ hi < x.toInt then nj_go pc d lv r else match offs[(x.toInt - lo).toNat]? with
    | some o => nj_go pc o lv r
    | none => none
/-- what only the frame needs -/
def nj_pure (lv : nLv) (mL pc : Nat) (st : List Value) (i : Instr) : Option (Nat × nLv × List Value) := match i with
  | .iconst n => some (pc + 1, lv, .int (Int32.ofInt n) :: st)
  | .bipush n => some (pc + 2, lv, .int (Int8.ofInt n).toInt32 :: st)
  | .sipush n => some (pc + 3, lv, .int (Int16.ofInt n).toInt32 :: st)
  | .lconst n => some (pc + 1, lv, .long (Int64.ofNat (n : Nat)) :: st)
  | .iload_n k => nj_ldi lv (pc + 1) k st
  | .iload k => nj_ldi lv (pc + 2) k st
  | .lload_n k => nj_ldl lv (pc + 1) k st
  | .lload k => nj_ldl lv (pc + 2) k st
  | .aload_n k => nj_lda lv (pc + 1) k st
  | .aload k => nj_lda lv (pc + 2) k st
  | .istore_n k => nj_sti lv mL (pc + 1) k st
  | .istore k => nj_sti lv mL (pc + 2) k st
  | .lstore_n k => nj_stl lv mL (pc + 1) k st
  | .lstore k => nj_stl lv mL (pc + 2) k st
  | .astore_n k => nj_sta lv mL (pc + 1) k st
  | .astore k => nj_sta lv mL (pc + 2) k st
  | .iinc k n => match nj_get lv k with
    | some (.int x) => if k < mL then some (pc + 3, nj_put lv k (.int (x + Int32.ofInt n)), st) else none
    | _ => none
  | .iadd => nj_b2 (fun x y => x + y) lv pc st
  | .isub => nj_b2 (fun x y => x - y) lv pc st
  | .imul => nj_b2 (fun x y => x * y) lv pc st
  | .iand => nj_b2 (fun x y => x &&& y) lv pc st
  | .ior => nj_b2 (fun x y => x ||| y) lv pc st
  | .ixor => nj_b2 (fun x y => x ^^^ y) lv pc st
  | .ishl => nj_b2 (fun x y => x <<< (y &&& 31)) lv pc st
  | .ishr => nj_b2 (fun x y => x >>> (y &&& 31)) lv pc st
  | .iushr => nj_b2 (fun x y => (x.toUInt32 >>> (y.toUInt32 &&& Int32.toUInt32 31)).toInt32) lv pc st
  | .irem => match st with
    | .int y :: .int x :: r => if y = 0 then none else some (pc + 1, lv, .int (x - x / y * y) :: r)
    | _ => none
  | .ladd => nj_l2 (fun x y => x + y) lv pc st
  | .lsub => nj_l2 (fun x y => x - y) lv pc st
  | .lmul => nj_l2 (fun x y => x * y) lv pc st
  | .lor => nj_l2 (fun x y => x ||| y) lv pc st
  | .lshl => match st with
    | .int y :: .long x :: r => some (pc + 1, lv, .long (x <<< (y.toInt64 &&& 63)) :: r)
    | _ => none
  | .lcmp => match st with
    | .long y :: .long x :: r => some (pc + 1, lv, .int (lg_cmp x y) :: r)
    | _ => none
  | .i2l => match st with
    | .int x :: r => some (pc + 1, lv, .long x.toInt64 :: r)
    | _ => none
  | .l2i => match st with
    | .long x :: r => some (pc + 1, lv, .int x.toInt32 :: r)
    | _ => none
  | .i2b => nj_i1 (fun x => x.toInt8.toInt32) lv pc st
  | .i2c => nj_i1 (fun x => (x.toUInt32 % 65536).toInt32) lv pc st
  | .dup => match st with
    | x :: r => if x.category = 1 then some (pc + 1, lv, x :: x :: r) else none
    | _ => none
  | .pop => match st with
    | x :: r => if x.category = 1 then some (pc + 1, lv, r) else none
    | _ => none
  | .dup2 => match st with
    | x :: y :: r => if x.category = 1 ∧ y.category = 1 then some (pc + 1, lv, x :: y :: x :: y :: r) else none
    | _ => none
  | .ifCond c off => match st with
    | .int x :: r => nj_br pc off (nj_cmp c x 0) lv r
    | _ => none
  | .if_icmp c off => match st with
    | .int y :: .int x :: r => nj_br pc off (nj_cmp c x y) lv r
    | _ => none
  | .goto off => nj_go pc off lv st
  | .tableswitch d lo hi offs => match st with
    | .int x :: r => nj_tab pc lv d lo hi offs x r
    | _ => none
  | .lookupswitch d ps => match st with
    | .int x :: r => if (ps.toList.zip (ps.toList.drop 1)).all (fun (a, next) => a.1 < next.1) = true then nj_go pc (Op.lookupswitch.offset ps.toList d x.toInt) lv r else none
    | _ => none
  | _ => none
/-- how long an instruction is (a switch's length stands in the table) -/
def nj_len (i : Instr) (b : Nat) : Nat := match i with
  | .bipush _ | .iload _ | .lload _ | .aload _ | .istore _ | .lstore _ | .astore _ | .ldc _ | .newarray _ => 2
  | .sipush _ | .iinc _ _ | .ifCond _ _ | .if_icmp _ _ | .goto _ | .ldc_w _ | .ldc2_w _ | .getfield _ | .putfield _ | .getstatic _ | .invokevirtual _ | .invokespecial _ | .invokestatic _ | .new _ | .anewarray _ => 3
  | .tableswitch _ _ _ _ | .lookupswitch _ _ => b
  | _ => 1
/-- the small machine's values in the machine -/
def nj_rl (base : Nat) (ext : Nat → Option Nat) : Value → Value
  | .ref k => .ref (base + k)
  | .retAddr j => va_rf (ext j)
  | v => v
theorem nj_rl_cat (base : Nat) (ext : Nat → Option Nat) (v : Value) : (nj_rl base ext v).category = v.category := by
  cases v with
  | retAddr j => show (va_rf (ext j)).category = 1; cases ext j <;> rfl
  | _ => rfl
def nj_rlv (base : Nat) (ext : Nat → Option Nat) (lv : nLv) : List (Nat × Value) := lv.map (fun q => (q.1, nj_rl base ext q.2))
theorem nj_get_mem {lv : nLv} {k : Nat} {v : Value} (h : nj_get lv k = some v) : (k, v) ∈ lv := by
  unfold nj_get at h
  cases hf : lv.find? (fun q => q.1 == k) with
  | none => rw [hf] at h; cases h
  | some q =>
    rw [hf] at h
    have h1 := List.mem_of_find?_eq_some hf
    have h2 := List.find?_some hf
    have h3 : q.2 = v := Option.some.inj h
    have h4 : q.1 = k := by simpa using h2
    rw [← h3, ← h4]
    exact h1
theorem nj_get_at {base : Nat} {ext : Nat → Option Nat} {ls : Array Slot} {mL : Nat} {lv : nLv} {k : Nat} {v : Value} (hl : lv_has ls mL (nj_rlv base ext lv)) (h : nj_get lv k = some v) : ls[k]? = some (.val (nj_rl base ext v)) :=
  hl.2.2 (k, nj_rl base ext v) (List.mem_map.mpr ⟨(k, v), nj_get_mem h, rfl⟩)
theorem nj_put_rl (base : Nat) (ext : Nat → Option Nat) (lv : nLv) (i : Nat) (v : Value) : (i, nj_rl base ext v) :: (nj_rlv base ext lv).filter (fun q => !(q.1 == i) && !(q.1 + 1 == i && q.2.category == 2)) = nj_rlv base ext (nj_put lv i v) := by
  simp only [nj_rlv, nj_put, List.map_cons, List.filter_map]
  congr 2
  apply List.filter_congr
  intro q _
  simp [Function.comp, nj_rl_cat]
theorem nj_put2_rl (base : Nat) (ext : Nat → Option Nat) (lv : nLv) (i : Nat) (v : Value) : (i, nj_rl base ext v) :: (nj_rlv base ext lv).filter (fun q => !(q.1 == i) && (!(q.1 == i + 1) && !(q.1 + 1 == i && q.2.category == 2))) = nj_rlv base ext (nj_put2 lv i v) := by
  simp only [nj_rlv, nj_put2, List.map_cons, List.filter_map]
  congr 2
  apply List.filter_congr
  intro q _
  simp [Function.comp, nj_rl_cat]
end
section
theorem nj_ldi_inv {lv : nLv} {pc k : Nat} {st : List Value} {r : Nat × nLv × List Value} (h : nj_ldi lv pc k st = some r) : ∃ x : Int32, nj_get lv k = some (.int x) ∧ r = (pc, lv, .int x :: st) := by
  unfold nj_ldi at h
  split at h
  · next x hx => exact ⟨x, hx, (Option.some.inj h).symm⟩
  · cases h
theorem nj_ldl_inv {lv : nLv} {pc k : Nat} {st : List Value} {r : Nat × nLv × List Value} (h : nj_ldl lv pc k st = some r) : ∃ x : Int64, nj_get lv k = some (.long x) ∧ r = (pc, lv, .long x :: st) := by
  unfold nj_ldl at h
  split at h
  · next x hx => exact ⟨x, hx, (Option.some.inj h).symm⟩
  · cases h
theorem nj_rl_ext (base : Nat) (ext : Nat → Option Nat) (j : Nat) : (∃ x, nj_rl base ext (.retAddr j) = .ref x) ∨ nj_rl base ext (.retAddr j) = .null := by
  show (∃ x, va_rf (ext j) = .ref x) ∨ va_rf (ext j) = .null
  cases ext j with
  | none => exact Or.inr rfl
  | some x => exact Or.inl ⟨x, rfl⟩
theorem nj_lda_inv {lv : nLv} {pc k : Nat} {st : List Value} {r : Nat × nLv × List Value} (base : Nat) (ext : Nat → Option Nat) (h : nj_lda lv pc k st = some r) : ∃ v : Value, nj_get lv k = some v ∧ ((∃ x, nj_rl base ext v = .ref x) ∨ nj_rl base ext v = .null) ∧ r = (pc, lv, v :: st) := by
  unfold nj_lda at h
  split at h
  · next x hx => exact ⟨.ref x, hx, Or.inl ⟨base + x, rfl⟩, (Option.some.inj h).symm⟩
  · next x hx => exact ⟨.retAddr x, hx, nj_rl_ext base ext x, (Option.some.inj h).symm⟩
  · cases h
theorem nj_sti_inv {lv : nLv} {mL pc k : Nat} {st : List Value} {r : Nat × nLv × List Value} (h : nj_sti lv mL pc k st = some r) : ∃ (x : Int32) (t : List Value), st = .int x :: t ∧ k < mL ∧ r = (pc, nj_put lv k (.int x), t) := by
  unfold nj_sti at h
  split at h
  · next x t =>
    split at h
    · next hk => exact ⟨x, t, rfl, hk, (Option.some.inj h).symm⟩
    · cases h
  · cases h
theorem nj_stl_inv {lv : nLv} {mL pc k : Nat} {st : List Value} {r : Nat × nLv × List Value} (h : nj_stl lv mL pc k st = some r) : ∃ (x : Int64) (t : List Value), st = .long x :: t ∧ k + 1 < mL ∧ r = (pc, nj_put2 lv k (.long x), t) := by
  unfold nj_stl at h
  split at h
  · next x t =>
    split at h
    · next hk => exact ⟨x, t, rfl, hk, (Option.some.inj h).symm⟩
    · cases h
  · cases h
theorem nj_sta_inv {lv : nLv} {mL pc k : Nat} {st : List Value} {r : Nat × nLv × List Value} (base : Nat) (ext : Nat → Option Nat) (h : nj_sta lv mL pc k st = some r) : ∃ (v : Value) (t : List Value), st = v :: t ∧ ((∃ x, nj_rl base ext v = .ref x) ∨ nj_rl base ext v = .null) ∧ k < mL ∧ r = (pc, nj_put lv k v, t) := by
  unfold nj_sta at h
  split at h
  · next x t =>
    split at h
    · next hk => exact ⟨.ref x, t, rfl, Or.inl ⟨base + x, rfl⟩, hk, (Option.some.inj h).symm⟩
    · cases h
  · next x t =>
    split at h
    · next hk => exact ⟨.retAddr x, t, rfl, nj_rl_ext base ext x, hk, (Option.some.inj h).symm⟩
    · cases h
  · cases h
theorem nj_b2_inv {f : Int32 → Int32 → Int32} {lv : nLv} {pc : Nat} {st : List Value} {r : Nat × nLv × List Value} (h : nj_b2 f lv pc st = some r) : ∃ (x y : Int32) (t : List Value), st = .int y :: .int x :: t ∧ r = (pc + 1, lv, .int (f x y) :: t) := by
  unfold nj_b2 at h
  split at h
  · next y x t => exact ⟨x, y, t, rfl, (Option.some.inj h).symm⟩
  · cases h
theorem nj_l2_inv {f : Int64 → Int64 → Int64} {lv : nLv} {pc : Nat} {st : List Value} {r : Nat × nLv × List Value} (h : nj_l2 f lv pc st = some r) : ∃ (x y : Int64) (t : List Value), st = .long y :: .long x :: t ∧ r = (pc + 1, lv, .long (f x y) :: t) := by
  unfold nj_l2 at h
  split at h
  · next y x t => exact ⟨x, y, t, rfl, (Option.some.inj h).symm⟩
  · cases h
theorem nj_i1_inv {f : Int32 → Int32} {lv : nLv} {pc : Nat} {st : List Value} {r : Nat × nLv × List Value} (h : nj_i1 f lv pc st = some r) : ∃ (x : Int32) (t : List Value), st = .int x :: t ∧ r = (pc + 1, lv, .int (f x) :: t) := by
  unfold nj_i1 at h
  split at h
  · next x t => exact ⟨x, t, rfl, (Option.some.inj h).symm⟩
  · cases h
theorem nj_go_inv {pc : Nat} {off : Int} {lv : nLv} {st : List Value} {r : Nat × nLv × List Value} (h : nj_go pc off lv st = some r) : (pc : Int) + off = (r.1 : Int) ∧ r.2.1 = lv ∧ r.2.2 = st := by
  unfold nj_go at h
  split at h
  · next hk =>
    cases h
    exact ⟨by show _ = ((((pc : Int) + off).toNat : Nat) : Int); omega, rfl, rfl⟩
  · cases h
section NSP
variable {p : Program} {l : Launch} {e : Env} {R : Room} {s : State} {m : MethodId} {args : Array Value} {below : List Frame} {meth : Method} {c : Code} {H : Heap} {locs : List Loc} {cells slots : Nat} {Q : State → Prop} {cc : ByteArray} {pc mL b : Nat} {lv : nLv} {st : List Value} {ls : Array Slot} {base : Nat} {ext : Nat → Option Nat}
theorem nj_sim_go {off : Int} {r : Nat × nLv × List Value} (h : nj_go pc off lv st = some r) (hl : lv_has ls mL (nj_rlv base ext lv)) (kk : ∀ ls', lv_has ls' mL (nj_rlv base ext r.2.1) → W p l e R s m args below meth c H locs cells slots Q (F0 m r.1 ls' (r.2.2.map (nj_rl base ext)))) : ∃ tgt : Nat, (pc : Int) + off = (tgt : Int) ∧ W p l e R s m args below meth c H locs cells slots Q (F0 m tgt ls (st.map (nj_rl base ext))) := by
  obtain ⟨h1, h2, h3⟩ := nj_go_inv h
  refine ⟨r.1, h1, ?_⟩
  have := kk ls (by rw [h2]; exact hl)
  rw [h3] at this
  exact this
theorem nj_sim_br {off : Int} {cb : Bool} {r : Nat × nLv × List Value} (h : nj_br pc off cb lv st = some r) (hl : lv_has ls mL (nj_rlv base ext lv)) (kk : ∀ ls', lv_has ls' mL (nj_rlv base ext r.2.1) → W p l e R s m args below meth c H locs cells slots Q (F0 m r.1 ls' (r.2.2.map (nj_rl base ext)))) : ∃ tgt : Nat, (pc : Int) + off = (tgt : Int) ∧ (cb = true → W p l e R s m args below meth c H locs cells slots Q (F0 m tgt ls (st.map (nj_rl base ext)))) ∧ (cb = false → W p l e R s m args below meth c H locs cells slots Q (F0 m (pc + 3) ls (st.map (nj_rl base ext)))) := by
  unfold nj_br at h
  split at h
  · next hk =>
    refine ⟨((pc : Int) + off).toNat, by omega, fun hc => ?_, fun hc => ?_⟩
    · rw [if_pos hc] at h
      cases h
      exact kk ls hl
    · rw [if_neg (by rw [hc]; decide)] at h
      cases h
      exact kk ls hl
  · cases h
theorem nj_W_if (hx : p.tables.exec = Jvm.exec) (hb : c.code = cc) {cd : Jvm.ClassFile.Cond} {off : Int} (hd : decode cc pc = .ok (.ifCond cd off, 3)) {x : Int32} {rest : List Value} {tgt : Nat} (h2 : (pc : Int) + off = (tgt : Int)) (kt : nj_cmp cd x 0 = true → W p l e R s m args below meth c H locs cells slots Q (F0 m tgt ls rest)) (kf : nj_cmp cd x 0 = false → W p l e R s m args below meth c H locs cells slots Q (F0 m (pc + 3) ls rest)) : W p l e R s m args below meth c H locs cells slots Q (F0 m pc ls (.int x :: rest)) := by
  cases cd <;> simp only [nj_cmp, decide_eq_true_eq, decide_eq_false_iff_not] at kt kf
  · exact lv_if_eq hx hb hd h2 kt kf
  · exact lv_if_ne hx hb hd h2 kt (fun q => kf (fun z => z q))
  · exact lv_if_lt hx hb hd h2 kt kf
  · exact lv_if_ge hx hb hd h2 kt kf
  · exact lv_if_gt hx hb hd h2 kt kf
  · exact lv_if_le hx hb hd h2 kt kf
theorem nj_W_icmp (hx : p.tables.exec = Jvm.exec) (hb : c.code = cc) {cd : Jvm.ClassFile.Cond} {off : Int} (hd : decode cc pc = .ok (.if_icmp cd off, 3)) {x y : Int32} {rest : List Value} {tgt : Nat} (h2 : (pc : Int) + off = (tgt : Int)) (kt : nj_cmp cd x y = true → W p l e R s m args below meth c H locs cells slots Q (F0 m tgt ls rest)) (kf : nj_cmp cd x y = false → W p l e R s m args below meth c H locs cells slots Q (F0 m (pc + 3) ls rest)) : W p l e R s m args below meth c H locs cells slots Q (F0 m pc ls (.int y :: .int x :: rest)) := by
  cases cd <;> simp only [nj_cmp, decide_eq_true_eq, decide_eq_false_iff_not] at kt kf
  · exact lv_icmp_eq hx hb hd h2 kt kf
  · exact lv_icmp_ne hx hb hd h2 kt (fun q => kf (fun z => z q))
  · exact lv_icmp_lt hx hb hd h2 kt kf
  · exact lv_icmp_ge hx hb hd h2 kt kf
  · exact lv_icmp_gt hx hb hd h2 kt kf
  · exact lv_icmp_le hx hb hd h2 kt kf
set_option maxHeartbeats 4000000 in
theorem nj_sim_pure (hx : p.tables.exec = Jvm.exec) (hb : c.code = cc) (hl : lv_has ls mL (nj_rlv base ext lv)) {i : Instr} (hd : decode cc pc = .ok (i, nj_len i b)) {r : Nat × nLv × List Value} (h : nj_pure lv mL pc st i = some r)
    (kk : ∀ ls', lv_has ls' mL (nj_rlv base ext r.2.1) → W p l e R s m args below meth c H locs cells slots Q (F0 m r.1 ls' (r.2.2.map (nj_rl base ext)))) : W p l e R s m args below meth c H locs cells slots Q (F0 m pc ls (st.map (nj_rl base ext))) := by
  cases i with
  | iconst n => cases h; exact lv_iconst hx hb hd rfl (kk ls hl)
  | bipush n => cases h; exact lv_bipush hx hb hd rfl (kk ls hl)
  | sipush n => cases h; exact lv_sipush hx hb hd rfl (kk ls hl)
  | lconst n => cases h; exact lv_lconst hx hb hd rfl (kk ls hl)
  | iload_n k =>
    obtain ⟨x, h1, rfl⟩ := nj_ldi_inv h
    exact lv_iload_n hx hb hd rfl (nj_get_at hl h1) (kk ls hl)
  | iload k =>
    obtain ⟨x, h1, rfl⟩ := nj_ldi_inv h
    exact lv_iload hx hb hd (nj_get_at hl h1) (kk ls hl)
  | lload_n k =>
    obtain ⟨x, h1, rfl⟩ := nj_ldl_inv h
    exact lv_lload_n hx hb hd rfl (nj_get_at hl h1) (kk ls hl)
  | lload k =>
    obtain ⟨x, h1, rfl⟩ := nj_ldl_inv h
    exact lv_lload hx hb hd (nj_get_at hl h1) (kk ls hl)
  | aload_n k =>
    obtain ⟨v, h1, h2, rfl⟩ := nj_lda_inv base ext h
    have h3 := nj_get_at hl h1
    have h4 := kk ls hl
    simp only [List.map_cons] at h4
    rcases h2 with ⟨x, h2⟩ | h2
    · rw [h2] at h3 h4
      exact lv_aload_n hx hb hd rfl h3 h4
    · rw [h2] at h3 h4
      exact lv_aload_nN hx hb hd rfl h3 h4
  | aload k =>
    obtain ⟨v, h1, h2, rfl⟩ := nj_lda_inv base ext h
    have h3 := nj_get_at hl h1
    have h4 := kk ls hl
    simp only [List.map_cons] at h4
    rcases h2 with ⟨x, h2⟩ | h2
    · rw [h2] at h3 h4
      exact lv_aload hx hb hd h3 h4
    · rw [h2] at h3 h4
      exact lv_aloadN hx hb hd h3 h4
  | istore_n k =>
    obtain ⟨x, t, rfl, h1, rfl⟩ := nj_sti_inv h
    exact lv_istore_n hx hb hd rfl hl h1 (nj_put_rl base ext lv k (.int x)) kk
  | istore k =>
    obtain ⟨x, t, rfl, h1, rfl⟩ := nj_sti_inv h
    exact lv_istore hx hb hd hl h1 (nj_put_rl base ext lv k (.int x)) kk
  | lstore_n k =>
    obtain ⟨x, t, rfl, h1, rfl⟩ := nj_stl_inv h
    exact lv_lstore_n hx hb hd rfl hl h1 (nj_put2_rl base ext lv k (.long x)) kk
  | lstore k =>
    obtain ⟨x, t, rfl, h1, rfl⟩ := nj_stl_inv h
    exact lv_lstore hx hb hd hl h1 (nj_put2_rl base ext lv k (.long x)) kk
  | astore_n k =>
    obtain ⟨v, t, rfl, h2, h1, rfl⟩ := nj_sta_inv base ext h
    have h5 := nj_put_rl base ext lv k v
    simp only [List.map_cons]
    rcases h2 with ⟨x, h2⟩ | h2
    · rw [h2] at h5 ⊢
      exact lv_astore_n hx hb hd rfl hl h1 h5 kk
    · rw [h2] at h5 ⊢
      exact lv_astore_nN hx hb hd rfl hl h1 h5 kk
  | astore k =>
    obtain ⟨v, t, rfl, h2, h1, rfl⟩ := nj_sta_inv base ext h
    have h5 := nj_put_rl base ext lv k v
    simp only [List.map_cons]
    rcases h2 with ⟨x, h2⟩ | h2
    · rw [h2] at h5 ⊢
      exact lv_astore hx hb hd hl h1 h5 kk
    · rw [h2] at h5 ⊢
      exact lv_astoreN hx hb hd hl h1 h5 kk
  | iinc k n =>
    simp only [nj_pure] at h
    split at h
    · next x h1 =>
      split at h
      · next h2 =>
        cases h
        have h3 : (k, nj_rl base ext (.int x)) ∈ nj_rlv base ext lv := List.mem_map.mpr ⟨(k, .int x), nj_get_mem h1, rfl⟩
        obtain ⟨j, hj⟩ := List.getElem?_of_mem h3
        exact lv_iinc (v := x + Int32.ofInt n) hx hb hd hl hj rfl h2 (nj_put_rl base ext lv k (.int (x + Int32.ofInt n))) kk
      · cases h
    · cases h
  | iadd => obtain ⟨x, y, t, rfl, rfl⟩ := nj_b2_inv h; exact lv_iadd hx hb hd (kk ls hl)
  | isub => obtain ⟨x, y, t, rfl, rfl⟩ := nj_b2_inv h; exact lv_isub hx hb hd (kk ls hl)
  | imul => obtain ⟨x, y, t, rfl, rfl⟩ := nj_b2_inv h; exact lv_imul hx hb hd (kk ls hl)
  | iand => obtain ⟨x, y, t, rfl, rfl⟩ := nj_b2_inv h; exact lv_iand hx hb hd (kk ls hl)
  | ior => obtain ⟨x, y, t, rfl, rfl⟩ := nj_b2_inv h; exact lv_ior hx hb hd (kk ls hl)
  | ixor => obtain ⟨x, y, t, rfl, rfl⟩ := nj_b2_inv h; exact lv_ixor hx hb hd (kk ls hl)
  | ishl => obtain ⟨x, y, t, rfl, rfl⟩ := nj_b2_inv h; exact lv_ishl hx hb hd (kk ls hl)
  | ishr => obtain ⟨x, y, t, rfl, rfl⟩ := nj_b2_inv h; exact lv_ishr hx hb hd (kk ls hl)
  | iushr => obtain ⟨x, y, t, rfl, rfl⟩ := nj_b2_inv h; exact lv_iushr hx hb hd rfl (kk ls hl)
  | irem =>
    simp only [nj_pure] at h
    split at h
    · split at h
      · cases h
      · next h2 => cases h; exact lv_irem hx hb hd h2 (kk ls hl)
    · cases h
  | ladd => obtain ⟨x, y, t, rfl, rfl⟩ := nj_l2_inv h; exact lv_ladd hx hb hd (kk ls hl)
  | lsub => obtain ⟨x, y, t, rfl, rfl⟩ := nj_l2_inv h; exact lv_lsub hx hb hd (kk ls hl)
  | lmul => obtain ⟨x, y, t, rfl, rfl⟩ := nj_l2_inv h; exact lv_lmul hx hb hd (kk ls hl)
  | lor => obtain ⟨x, y, t, rfl, rfl⟩ := nj_l2_inv h; exact lv_lor hx hb hd (kk ls hl)
  | lshl =>
    simp only [nj_pure] at h
    split at h
    · cases h; exact lv_lshl hx hb hd rfl (kk ls hl)
    · cases h
  | lcmp =>
    simp only [nj_pure] at h
    split at h
    · cases h; exact W.lcmp hx hb hd (kk ls hl)
    · cases h
  | i2l =>
    simp only [nj_pure] at h
    split at h
    · cases h; exact lv_i2l hx hb hd rfl (kk ls hl)
    · cases h
  | l2i =>
    simp only [nj_pure] at h
    split at h
    · cases h; exact lv_l2i hx hb hd rfl (kk ls hl)
    · cases h
  | i2b => obtain ⟨x, t, rfl, rfl⟩ := nj_i1_inv h; exact lv_i2b hx hb hd rfl (kk ls hl)
  | i2c => obtain ⟨x, t, rfl, rfl⟩ := nj_i1_inv h; exact lv_i2c hx hb hd rfl (kk ls hl)
  | dup =>
    simp only [nj_pure] at h
    split at h
    · split at h
      · next h2 => cases h; exact lv_dup hx hb hd (by rw [nj_rl_cat]; exact h2) (kk ls hl)
      · cases h
    · cases h
  | pop =>
    simp only [nj_pure] at h
    split at h
    · split at h
      · next h2 => cases h; exact lv_pop hx hb hd (by rw [nj_rl_cat]; exact h2) (kk ls hl)
      · cases h
    · cases h
  | dup2 =>
    simp only [nj_pure] at h
    split at h
    · split at h
      · next h2 => cases h; exact lv_dup2_11 hx hb hd (by rw [nj_rl_cat]; exact h2.1) (by rw [nj_rl_cat]; exact h2.2) (kk ls hl)
      · cases h
    · cases h
  | ifCond cd off =>
    simp only [nj_pure] at h
    split at h
    · obtain ⟨tgt, h2, kt, kf⟩ := nj_sim_br h hl kk
      exact nj_W_if hx hb hd h2 kt kf
    · cases h
  | if_icmp cd off =>
    simp only [nj_pure] at h
    split at h
    · obtain ⟨tgt, h2, kt, kf⟩ := nj_sim_br h hl kk
      exact nj_W_icmp hx hb hd h2 kt kf
    · cases h
  | goto off =>
    obtain ⟨tgt, h2, k⟩ := nj_sim_go h hl kk
    exact lv_goto hx hb hd h2 k
  | tableswitch d lo hi offs =>
    simp only [nj_pure] at h
    split at h
    · next x t =>
      unfold nj_tab at h
      split at h
      · next hc =>
        obtain ⟨tgt, h2, k⟩ := nj_sim_go h hl kk
        exact lv_tableOut hx hb hd hc h2 k
      · next hc =>
        split at h
        · next o ho =>
          obtain ⟨tgt, h2, k⟩ := nj_sim_go h hl kk
          exact lv_tableIn hx hb hd (fun q => hc (Or.inl q)) (fun q => hc (Or.inr q)) ho h2 k
        · cases h
    · cases h
  | lookupswitch d ps =>
    simp only [nj_pure] at h
    split at h
    · next x t =>
      split at h
      · next hc =>
        obtain ⟨tgt, h2, k⟩ := nj_sim_go h hl kk
        exact lv_lookup hx hb hd hc rfl h2 k
      · cases h
    · cases h
  | _ => exact nomatch (show (none : Option (Nat × nLv × List Value)) = some r from h)
end NSP
end
section
/-! the small machine's cells as a world of the kit -/
def nj_kt (k : Nat) : FieldType := match k with
  | 0 => .int
  | 1 => .byte
  | 2 => .boolean
  | 3 => .long
  | 4 => .object RX2
  | _ => .object RX1
def nj_tys (cA : Nat → ClassId) : List (ClassId × FieldType) := (List.range 6).map (fun k => (cA k, nj_kt k))
theorem nj_tys_at (cA : Nat → ClassId) {k : Nat} (h : k < 6) : (nj_tys cA)[k]? = some (cA k, nj_kt k) := by
  simp [nj_tys, List.getElem?_map, List.getElem?_range h]
def nj_rc (base : Nat) (ext : Nat → Option Nat) (cA : Nat → ClassId) : nC → va_E
  | .inl (k, n, .inl f) => .inl (cA k, n, .inl f)
  | .inl (k, n, .inr (.inl f)) => .inl (cA k, n, .inr (.inl f))
  | .inl (k, n, .inr (.inr f)) => .inl (cA k, n, .inr (.inr (.inr (.inr (fun j => (f j).map (fun x => base + x))))))
  | .inr (c, fs) => .inr (c, fs.map (nj_rl base ext))
def nj_ws (base : Nat) (ext : Nat → Option Nat) (cA : Nat → ClassId) (h : List nC) : va_W := h.mapIdx (fun i c => (base + i, nj_rc base ext cA c))
theorem nj_ws_get {base : Nat} {ext : Nat → Option Nat} {cA : Nat → ClassId} {h : List nC} {q : Nat} {c : nC} (hq : h[q]? = some c) : (nj_ws base ext cA h)[q]? = some (base + q, nj_rc base ext cA c) := by
  simp [nj_ws, List.getElem?_mapIdx, hq]
theorem nj_ws_inv {base : Nat} {ext : Nat → Option Nat} {cA : Nat → ClassId} {h : List nC} {q : Nat} {x : Nat × va_E} (hq : (nj_ws base ext cA h)[q]? = some x) : q < h.length ∧ x.1 = base + q := by
  simp only [nj_ws, List.getElem?_mapIdx, Option.map_eq_some_iff] at hq
  obtain ⟨c, h1, h2⟩ := hq
  exact ⟨(List.getElem?_eq_some_iff.mp h1).1, by rw [← h2]⟩
theorem nj_ws_set (base : Nat) (ext : Nat → Option Nat) (cA : Nat → ClassId) (h : List nC) (q : Nat) (c : nC) : (nj_ws base ext cA h).set q (base + q, nj_rc base ext cA c) = nj_ws base ext cA (h.set q c) := by
  simp [nj_ws, List.mapIdx_set]
theorem nj_ws_push (base : Nat) (ext : Nat → Option Nat) (cA : Nat → ClassId) (h : List nC) (c : nC) : nj_ws base ext cA h ++ [(base + h.length, nj_rc base ext cA c)] = nj_ws base ext cA (h ++ [c]) := by
  simp [nj_ws, List.mapIdx_append]
theorem nj_ws_len (base : Nat) (ext : Nat → Option Nat) (cA : Nat → ClassId) (h : List nC) : (nj_ws base ext cA h).length = h.length := by simp [nj_ws]
abbrev nj_A (base : Nat) : Nat → Prop := fun q => base ≤ q
theorem nj_ws_D (base : Nat) (ext : Nat → Option Nat) (cA : Nat → ClassId) (h : List nC) : va_D (nj_A base) (nj_ws base ext cA h) := by
  refine ⟨fun i j x y hi hj hxy => ?_, fun k q hk => ?_⟩
  · have h1 := (nj_ws_inv hi).2
    have h2 := (nj_ws_inv hj).2
    omega
  · have h1 := (nj_ws_inv hk).2
    show base ≤ q.1
    omega
/-- no cell but the world's stands behind base -/
theorem nj_fresh {base : Nat} {ext : Nat → Option Nat} {cA : Nat → ClassId} {h : List nC} {q : Nat} {x : va_E} (hD : va_D (nj_A base) (nj_ws base ext cA h ++ [(q, x)])) : base + h.length ≤ q := by
  have hl : (nj_ws base ext cA h ++ [(q, x)])[h.length]? = some (q, x) := by
    rw [List.getElem?_append_right (by rw [nj_ws_len]; exact Nat.le_refl _), nj_ws_len]
    simp
  have h1 : base ≤ q := hD.2 _ _ hl
  apply Nat.not_lt.mp
  intro hlt
  have hlt2 : q - base < h.length := by omega
  obtain ⟨c, hc⟩ : ∃ c, h[q - base]? = some c := ⟨_, List.getElem?_eq_getElem hlt2⟩
  have hg := nj_ws_get (base := base) (ext := ext) (cA := cA) hc
  have hg2 : (nj_ws base ext cA h ++ [(q, x)])[q - base]? = some (base + (q - base), nj_rc base ext cA c) := by
    rw [List.getElem?_append_left (by rw [nj_ws_len]; exact hlt2)]
    exact hg
  have := hD.1 _ _ _ _ hg2 hl (by show base + (q - base) = q; omega)
  omega
theorem nj_S_rf {A : Nat → Prop} {H0 H : Heap} {locs : List Loc} (h : va_S A H0 H locs) : va_S A H H locs := ⟨Nat.le_refl _, fun _ _ _ => rfl, h.2.2⟩
theorem nj_S_tr {A : Nat → Prop} {H0 H H1 : Heap} {locs locs1 : List Loc} (h : va_S A H0 H locs) (h1 : va_S A H H1 locs1) : va_S A H0 H1 locs1 := ⟨Nat.le_trans h.1 h1.1, fun q a b => (h1.2.1 q (Nat.lt_of_lt_of_le a h.1) b).trans (h.2.1 q a b), h1.2.2⟩
section NSZ
variable {p : Program} {l : Launch} {e : Env} {R : Room} {s : State} {m : MethodId} {args : Array Value} {below : List Frame} {meth : Method} {c : Code} {H : Heap} {locs : List Loc} {cells slots : Nat} {Q : State → Prop} {g : JFrame}
/-- the heap is never larger than the frame's count of cells says -/
theorem nj_size (k : H.size ≤ s.heap.size + cells → W p l e R s m args below meth c H locs cells slots Q g) : W p l e R s m args below meth c H locs cells slots Q g := by
  intro T hT X
  have h := X.heapSize
  rw [hT] at h
  exact k h T hT X
end NSZ
/-- the state of the walk: the world, behind it g cells that nobody looks at, the frame of old cells, the counts -/
def nj_St (base : Nat) (ext : Nat → Option Nat) (cA : Nat → ClassId) (D : va_G) (s : State) (h : List nC) (g : Nat) (H : Heap) (locs : List Loc) (cells : Nat) : Prop :=
  va_P D nj_cl (nj_ws base ext cA h) H ∧ va_S (nj_A base) s.heap H locs ∧ H.size = base + h.length + g ∧ base + h.length + g = s.heap.size + cells
section NST
variable {p : Program} {l : Launch} {e : Env} {R : Room} {s : State} {m : MethodId} {args : Array Value} {below : List Frame} {meth : Method} {c : Code} {H : Heap} {locs : List Loc} {cells slots : Nat} {Q : State → Prop} {g : JFrame} {base : Nat} {ext : Nat → Option Nat} {cA : Nat → ClassId} {D : va_G} {h h1 : List nC} {gg : Nat}
/-- behind a row that writes a cell -/
theorem nj_wr (hst : nj_St base ext cA D s h gg H locs cells) (hlen : h1.length = h.length) (kk : ∀ (H1 : Heap) (locs1 : List Loc), nj_St base ext cA D s h1 gg H1 locs1 cells → W p l e R s m args below meth c H1 locs1 cells slots Q g) :
    ∀ (H1 : Heap) (locs1 : List Loc), va_P D nj_cl (nj_ws base ext cA h1) H1 → va_D (nj_A base) (nj_ws base ext cA h1) → va_S (nj_A base) H H1 locs1 → W p l e R s m args below meth c H1 locs1 cells slots Q g := by
  intro H1 locs1 hP _ hS
  refine nj_size fun hz => ?_
  obtain ⟨-, g2, g3, g4⟩ := hst
  have := hS.1
  exact kk H1 locs1 ⟨hP, nj_S_tr g2 hS, by omega, by omega⟩
/-- behind a row that makes a cell -/
theorem nj_mk {x : nC} {slots1 : Nat} {g : Nat → JFrame} (hst : nj_St base ext cA D s h 0 H locs cells) (kk : ∀ (H1 : Heap) (locs1 : List Loc), nj_St base ext cA D s (h ++ [x]) 0 H1 locs1 (cells + 1) → W p l e R s m args below meth c H1 locs1 (cells + 1) slots1 Q (g (base + h.length))) :
    ∀ (q : Nat) (H1 : Heap) (locs1 : List Loc), va_P D nj_cl (nj_ws base ext cA h ++ [(q, nj_rc base ext cA x)]) H1 → va_D (nj_A base) (nj_ws base ext cA h ++ [(q, nj_rc base ext cA x)]) → va_S (nj_A base) H H1 locs1 → W p l e R s m args below meth c H1 locs1 (cells + 1) slots1 Q (g q) := by
  intro q H1 locs1 hP hD hS
  refine nj_size fun hz => ?_
  obtain ⟨-, g2, g3, g4⟩ := hst
  have h1 := hS.1
  have h2 := nj_fresh hD
  have h3 : (nj_ws base ext cA h ++ [(q, nj_rc base ext cA x)])[h.length]? = some (q, nj_rc base ext cA x) := by
    rw [List.getElem?_append_right (by rw [nj_ws_len]; exact Nat.le_refl _), nj_ws_len]
    simp
  have h4 : q < H1.size := (hP _ _ h3).lt
  have h5 : q = base + h.length := by omega
  subst h5
  rw [nj_ws_push] at hP
  exact kk H1 locs1 ⟨hP, nj_S_tr g2 hS, by simp; omega, by simp; omega⟩
end NST
end
section
def nj_kws : String := "step person of god care error deed does dies gives year or and not alive clean has under errors born made number "
def nj_kw : List Int32 := [115, 116, 101, 112, 32, 112, 101, 114, 115, 111, 110, 32, 111, 102, 32, 103, 111, 100, 32, 99, 97, 114, 101, 32, 101, 114, 114, 111, 114, 32, 100, 101, 101, 100, 32, 100, 111, 101, 115, 32, 100, 105, 101, 115, 32, 103, 105, 118, 101, 115, 32, 121, 101, 97, 114, 32, 111, 114, 32, 97, 110, 100, 32, 110, 111, 116, 32, 97, 108, 105, 118, 101, 32, 99, 108, 101, 97, 110, 32, 104, 97, 115, 32, 117, 110, 100, 101, 114, 32, 101, 114, 114, 111, 114, 115, 32, 98, 111, 114, 110, 32, 109, 97, 100, 101, 32, 110, 117, 109, 98, 101, 114, 32]
def nj_fs : List Int32 := [0, 6, 16, 22, 26]
def nj_nw : List Cond := [.methodLinkNest "SlipHeirs" 18 ⟨"SlipHeirs$Family", "<init>", "()V"⟩ "SlipHeirs",
  .methodLinkNest "SlipHeirs" 28 ⟨"SlipHeirs$Life", "<init>", "()V"⟩ "SlipHeirs",
  .methodLinkNest "SlipHeirs" 38 ⟨"SlipHeirs$Phrase", "<init>", "()V"⟩ "SlipHeirs",
  .methodLinkNest "SlipHeirs" 48 ⟨"SlipHeirs$Script", "<init>", "()V"⟩ "SlipHeirs",
  .methodLinkNest "SlipHeirs$Past" 24 ⟨"SlipHeirs$Life", "<init>", "()V"⟩ "SlipHeirs",
  .methodLinkNest "SlipHeirs" 62 ⟨"SlipHeirs$Image", "<init>", "()V"⟩ "SlipHeirs",
  .methodLinkNest "SlipHeirs$Image" 9 ⟨"SlipHeirs$Family", "<init>", "()V"⟩ "SlipHeirs",
  .methodLinkNest "SlipHeirs$Image" 18 ⟨"SlipHeirs$Life", "<init>", "()V"⟩ "SlipHeirs",
  .methodLinkNest "SlipHeirs$Image" 25 ⟨"SlipHeirs$Phrase", "<init>", "()V"⟩ "SlipHeirs",
  .methodLinkNest "SlipHeirs" 69 ⟨"SlipHeirs$Planner", "<init>", "()V"⟩ "SlipHeirs",
  .fieldLinkNest "SlipHeirs$Family" 121 "SlipHeirs" "FIRST_SLOT" "[I" "SlipHeirs"]
/-- the tables' words that are kept -/
def nj_T : List Cond := lw_tbl.filter goodWord
def nj_w (pos : Nat) (w : Cond) : Bool := decide (lw_tbl[pos]? = some w) && goodWord w
theorem nj_w_mem {pos : Nat} {w : Cond} (h : nj_w pos w = true) : w ∈ nj_T := by
  simp only [nj_w, Bool.and_eq_true, decide_eq_true_eq] at h
  exact List.mem_filter.mpr ⟨List.mem_of_getElem? h.1, h.2⟩
theorem nj_T_good {ws : List Cond} (h : ∀ w ∈ ws, w ∈ nj_T) : GoodIn nj_T ws := fun w hw => ⟨h w hw, good_of_word (List.mem_filter.mp (h w hw)).2⟩
/-- what stands outside the world and is never written -/
def nj_Env (base : Nat) (ext : Nat → Option Nat) (L : Nat) (xs : Nat → Int32) (s : State) : Prop :=
  (∀ w ∈ nj_nw, va_Nw w s) ∧
  (∃ x0, ext 0 = some x0 ∧ va_X x0 L xs s s.heap ∧ x0 < base ∧ base ≤ s.heap.size) ∧
  (∃ x1, ext 1 = some x1 ∧ va_Z RX8 "FIRST_SLOT" "[I" (.ref x1) (nj_A base) s s.heap ∧ va_T .int x1 5 (fun j => .int (nj_fs.getD j 0)) (nj_A base) s s.heap) ∧
  (∃ x2 x3, ext 2 = some x2 ∧ ext 3 = some x3 ∧ vk_R RX7 52 nj_kws x2 s ∧ va_O "java/lang/String" x2 (nj_A base) s s.heap ∧ va_OF "java/lang/String" "coder" "B" (.int 0) x2 (nj_A base) s s.heap ∧ va_OF "java/lang/String" "value" "[B" (.ref x3) x2 (nj_A base) s s.heap ∧ va_T .byte x3 113 (fun j => .int (nj_kw.getD j 0)) (nj_A base) s s.heap) ∧
  va_Z "java/lang/String" "COMPACT_STRINGS" "Z" (.int 1) (nj_A base) s s.heap ∧
  va_Z "jdk/internal/util/Preconditions" "SIOOBE_FORMATTER" "Ljava/util/function/BiFunction;" (va_rf (ext 4)) (nj_A base) s s.heap ∧
  va_AO RX2 s ∧ va_AO RX1 s
theorem nj_nw_warm {s U : State} (hW : s.WarmedH U.vm) (h : ∀ w ∈ nj_nw, va_Nw w s) : ∀ w ∈ nj_nw, va_Nw w U := by
  intro w hw
  simp only [nj_nw, List.mem_cons, List.not_mem_nil, or_false] at hw
  rcases hw with rfl | rfl | rfl | rfl | rfl | rfl | rfl | rfl | rfl | rfl | rfl
  · exact va_Nw.warmM hW (h _ (by simp [nj_nw]))
  · exact va_Nw.warmM hW (h _ (by simp [nj_nw]))
  · exact va_Nw.warmM hW (h _ (by simp [nj_nw]))
  · exact va_Nw.warmM hW (h _ (by simp [nj_nw]))
  · exact va_Nw.warmM hW (h _ (by simp [nj_nw]))
  · exact va_Nw.warmM hW (h _ (by simp [nj_nw]))
  · exact va_Nw.warmM hW (h _ (by simp [nj_nw]))
  · exact va_Nw.warmM hW (h _ (by simp [nj_nw]))
  · exact va_Nw.warmM hW (h _ (by simp [nj_nw]))
  · exact va_Nw.warmM hW (h _ (by simp [nj_nw]))
  · exact va_Nw.warmF hW (h _ (by simp [nj_nw]))
theorem nj_Env.warm {base : Nat} {ext : Nat → Option Nat} {L : Nat} {xs : Nat → Int32} {s U : State} (hW : s.WarmedH U.vm) (hz : s.heap.size ≤ U.heap.size) (hq : ∀ q : Nat, q < s.heap.size → ¬ nj_A base q → U.heap[q]? = s.heap[q]?) (h : nj_Env base ext L xs s) : nj_Env base ext L xs U := by
  obtain ⟨h1, ⟨x0, a1, a2, a3, a4⟩, ⟨x1, b1, b2, b3⟩, ⟨x2, x3, c1, c2, c3, c4, c5, c6, c7⟩, h5, h6, h7, h8⟩ := h
  have hvm := hW.alike
  refine ⟨nj_nw_warm hW h1, ⟨x0, a1, (a2.moved hvm).kept (hq x0 (by omega) (Nat.not_le.mpr a3)), a3, by omega⟩, ⟨x1, b1, (b2.moved hvm).kept hq, (b3.moved hvm).kept hq⟩, ⟨x2, x3, c1, c2, c3.warm hW, (c4.moved hvm).kept hq, (c5.moved hvm).kept hq, (c6.moved hvm).kept hq, (c7.moved hvm).kept hq⟩, (h5.moved hvm).kept hq, (h6.moved hvm).kept hq, h7.moved hvm, h8.moved hvm⟩
theorem nj_Env.same {base : Nat} {ext : Nat → Option Nat} {L : Nat} {xs : Nat → Int32} {s U : State} (hv : U.vm = s.vm) (hh : U.heap = s.heap) (h : nj_Env base ext L xs s) : nj_Env base ext L xs U := by
  obtain ⟨h1, ⟨x0, a1, a2, a3, a4⟩, ⟨x1, b1, b2, b3⟩, ⟨x2, x3, c1, c2, c3, c4, c5, c6, c7⟩, h5, h6, h7, h8⟩ := h
  have hvm : s.vm.Alike U.vm := by rw [hv]; exact Vm.Alike.refl _
  have hnw : ∀ w ∈ nj_nw, va_Nw w U := fun w hw => va_Nw.same (by
    simp only [nj_nw, List.mem_cons, List.not_mem_nil, or_false] at hw
    rcases hw with rfl | rfl | rfl | rfl | rfl | rfl | rfl | rfl | rfl | rfl | rfl <;> rfl) hv.symm (h1 w hw)
  rw [nj_Env, hh]
  exact ⟨hnw, ⟨x0, a1, a2.moved hvm, a3, a4⟩, ⟨x1, b1, b2.moved hvm, b3.moved hvm⟩, ⟨x2, x3, c1, c2, c3.same hv, c4.moved hvm, c5.moved hvm, c6.moved hvm, c7.moved hvm⟩, h5.moved hvm, h6.moved hvm, h7.moved hvm, h8.moved hvm⟩
end
section
def nj_ix (i : Int32) (n : Nat) : Bool := decide (¬ i < 0) && decide (i.toNatClampNeg < n)
theorem nj_ix_in {i : Int32} {n : Nat} (h : nj_ix i n = true) : vp_in i n := by
  simp only [nj_ix, Bool.and_eq_true, decide_eq_true_eq] at h
  intro q
  rcases q with q | q
  · exact h.1 q
  · omega
def nj_fit (ty : FieldType) (v : Value) : Bool := match ty, v with
  | .int, .int _ => true
  | .boolean, .int x => decide (x = 0 ∨ x = 1)
  | .long, .long _ => true
  | .object _, .ref _ => true
  | .array _, .ref _ => true
  | _, _ => false
theorem nj_fit_ok {ty : FieldType} {v : Value} (base : Nat) (ext : Nat → Option Nat) (h : nj_fit ty v = true) : narrow ty (nj_rl base ext v) = nj_rl base ext v ∧ fits ty (nj_rl base ext v) = true := by
  unfold nj_fit at h
  split at h
  · exact ⟨rfl, rfl⟩
  · next x =>
    rcases of_decide_eq_true h with rfl | rfl <;> exact ⟨rfl, rfl⟩
  · exact ⟨rfl, rfl⟩
  · exact ⟨rfl, rfl⟩
  · exact ⟨rfl, rfl⟩
  · cases h
/-- the rows outside: the script, FIRST_SLOT -/
def nj_xr (L : Nat) (xs : Nat → Int32) (j : Nat) : Option (Nat × (Nat → Int32)) := if j = 0 then some (L, xs) else if j = 1 then some (5, fun k => nj_fs.getD k 0) else none
abbrev nR : Type := Option (Nat × List Value × List nC)
def nj_getf (pc a b : Nat) (st : List Value) (h : List nC) : nR := match st with
  | .ref q :: r => match h[q]? with
    | some (.inr (ci, fs)) => if ci = a then (match fs[b]? with | some x => some (pc + 3, x :: r, h) | none => none) else none
    | _ => none
  | .retAddr j :: r => if j = 2 ∧ a = 100 then (if b = 0 then some (pc + 3, .int 0 :: r, h) else some (pc + 3, .retAddr 3 :: r, h)) else none
  | _ => none
def nj_putf (ini : Bool) (pc a b : Nat) (v : Int) (st : List Value) (h : List nC) : nR := match st with
  | x :: .ref q :: r => match h[q]? with
    | some (.inr (ci, fs)) => if ci = a ∧ b < fs.length ∧ nj_fit (nj_ty a b) x = true ∧ (v = 0 ∨ ini = true) then some (pc + 3, r, h.set q (.inr (ci, fs.set b x))) else none
    | _ => none
  | _ => none
def nj_iald (L : Nat) (xs : Nat → Int32) (pc : Nat) (st : List Value) (h : List nC) : nR := match st with
  | .int i :: .ref q :: r => match h[q]? with
    | some (.inl (k, n, .inl f)) => if k = 0 ∧ nj_ix i n = true then some (pc + 1, .int (f i.toNatClampNeg) :: r, h) else none
    | _ => none
  | .int i :: .retAddr j :: r => match nj_xr L xs j with
    | some (n, f) => if nj_ix i n = true then some (pc + 1, .int (f i.toNatClampNeg) :: r, h) else none
    | none => none
  | _ => none
def nj_bald (pc : Nat) (st : List Value) (h : List nC) : nR := match st with
  | .int i :: .ref q :: r => match h[q]? with
    | some (.inl (k, n, .inl f)) => if (k = 1 ∨ k = 2) ∧ nj_ix i n = true then some (pc + 1, .int (f i.toNatClampNeg) :: r, h) else none
    | _ => none
  | .int i :: .retAddr j :: r => if j = 3 ∧ nj_ix i 113 = true then some (pc + 1, .int (nj_kw.getD i.toNatClampNeg 0) :: r, h) else none
  | _ => none
def nj_lald (pc : Nat) (st : List Value) (h : List nC) : nR := match st with
  | .int i :: .ref q :: r => match h[q]? with
    | some (.inl (k, n, .inr (.inl f))) => if k = 3 ∧ nj_ix i n = true then some (pc + 1, .long (f i.toNatClampNeg) :: r, h) else none
    | _ => none
  | _ => none
def nj_aald (pc : Nat) (st : List Value) (h : List nC) : nR := match st with
  | .int i :: .ref q :: r => match h[q]? with
    | some (.inl (k, n, .inr (.inr f))) => if (k = 4 ∨ k = 5) ∧ nj_ix i n = true then (match f i.toNatClampNeg with | some x => some (pc + 1, .ref x :: r, h) | none => none) else none
    | _ => none
  | _ => none
def nj_iast (pc : Nat) (st : List Value) (h : List nC) : nR := match st with
  | .int x :: .int i :: .ref q :: r => match h[q]? with
    | some (.inl (k, n, .inl f)) => if k = 0 ∧ nj_ix i n = true then some (pc + 1, r, h.set q (.inl (k, n, .inl (upd f i.toNatClampNeg x)))) else none
    | _ => none
  | _ => none
def nj_bast (pc : Nat) (st : List Value) (h : List nC) : nR := match st with
  | .int x :: .int i :: .ref q :: r => match h[q]? with
    | some (.inl (k, n, .inl f)) => if (k = 1 ∨ k = 2) ∧ nj_ix i n = true then some (pc + 1, r, h.set q (.inl (k, n, .inl (upd f i.toNatClampNeg (vp_nar (nj_kt k) x))))) else none
    | _ => none
  | _ => none
def nj_last (pc : Nat) (st : List Value) (h : List nC) : nR := match st with
  | .long x :: .int i :: .ref q :: r => match h[q]? with
    | some (.inl (k, n, .inr (.inl f))) => if k = 3 ∧ nj_ix i n = true then some (pc + 1, r, h.set q (.inl (k, n, .inr (.inl (vp_updL f i.toNatClampNeg x))))) else none
    | _ => none
  | _ => none
def nj_aast (pc : Nat) (st : List Value) (h : List nC) : nR := match st with
  | .ref x :: .int i :: .ref q :: r => match h[q]?, h[x]? with
    | some (.inl (k, n, .inr (.inr f))), some (.inr (ci, _)) => if ((k = 4 ∧ ci = 2) ∨ (k = 5 ∧ ci = 1)) ∧ nj_ix i n = true then some (pc + 1, r, h.set q (.inl (k, n, .inr (.inr (va_up f i.toNatClampNeg (some x)))))) else none
    | _, _ => none
  | _ => none
def nj_alen (L : Nat) (pc : Nat) (st : List Value) (h : List nC) : nR := match st with
  | .ref q :: r => match h[q]? with
    | some (.inl (k, n, _)) => if k < 6 then some (pc + 1, .int (Int32.ofNat n) :: r, h) else none
    | _ => none
  | .retAddr j :: r => if j = 0 then some (pc + 1, .int (Int32.ofNat L) :: r, h) else if j = 1 then some (pc + 1, .int 5 :: r, h) else if j = 3 then some (pc + 1, .int 113 :: r, h) else none
  | _ => none
/-- what reads or writes cells, constants, statics -/
def nj_mem (L : Nat) (xs : Nat → Int32) (ini : Bool) (pc a b : Nat) (v : Int) (st : List Value) (h : List nC) (i : Instr) : nR := match i with
  | .getfield _ => nj_getf pc a b st h
  | .putfield _ => nj_putf ini pc a b v st h
  | .iaload => nj_iald L xs pc st h
  | .baload => nj_bald pc st h
  | .laload => nj_lald pc st h
  | .aaload => nj_aald pc st h
  | .iastore => nj_iast pc st h
  | .bastore => nj_bast pc st h
  | .lastore => nj_last pc st h
  | .aastore => nj_aast pc st h
  | .arraylength => nj_alen L pc st h
  | .ldc _ => if b = 1 then some (pc + 2, .retAddr 2 :: st, h) else some (pc + 2, .int (Int32.ofInt v) :: st, h)
  | .ldc_w _ => some (pc + 3, .int (Int32.ofInt v) :: st, h)
  | .ldc2_w _ => some (pc + 3, .long (Int64.ofInt v) :: st, h)
  | .getstatic _ => if a = 0 then some (pc + 3, .retAddr 1 :: st, h) else if a = 1 then some (pc + 3, .int 1 :: st, h) else if a = 2 then some (pc + 3, .retAddr 4 :: st, h) else none
  | _ => none
/-- the words that such an instruction needs -/
def nj_okm (own : String) (i : Instr) (a b : Nat) (v : Int) (pos : Nat) : Bool := match i with
  | .getfield idx => if a = 100 then (if b = 0 then nj_w pos (.fieldLink own idx "java/lang/String" "coder" "B") else nj_w pos (.fieldLink own idx "java/lang/String" "value" "[B")) else match nj_cl[a]? with
    | some q => decide (b < q.2.2) && nj_w pos (.fieldLink own idx (q.2.1 b).1 (q.2.1 b).2.1 (q.2.1 b).2.2.1)
    | none => false
  | .putfield idx => match nj_cl[a]? with
    | some q => decide (b < q.2.2) && (nj_w pos (.fieldLink own idx (q.2.1 b).1 (q.2.1 b).2.1 (q.2.1 b).2.2.1) && (if v = 0 then decide ((q.2.1 b).2.2.2 = false) else decide ((q.2.1 b).2.2.2 = true) && decide ((q.2.1 b).1 = own)))
    | none => false
  | .ldc idx => if b = 1 then decide (own = RX7) && decide (idx = 52) else nj_w pos (.constant own idx (Int32.ofInt v))
  | .ldc_w idx => nj_w pos (.constant own idx (Int32.ofInt v))
  | .ldc2_w idx => nj_w pos (.constantLong own idx (Int64.ofInt v))
  | .getstatic idx => if a = 0 then decide (own = RX0) && decide (idx = 121) else if a = 1 then nj_w pos (.fieldLink own idx "java/lang/String" "COMPACT_STRINGS" "Z") else nj_w pos (.fieldLink own idx "jdk/internal/util/Preconditions" "SIOOBE_FORMATTER" "Ljava/util/function/BiFunction;")
  | _ => true
theorem nj_in0 : (u_ws RX0 TX0 16).all (fun w => decide (w ∈ lw_tbl) && goodWord w) = true := by decide +kernel
theorem nj_in1 : (u_ws RX1 TX1 4).all (fun w => decide (w ∈ lw_tbl) && goodWord w) = true := by decide +kernel
theorem nj_in2 : (u_ws RX2 TX2 12).all (fun w => decide (w ∈ lw_tbl) && goodWord w) = true := by decide +kernel
theorem nj_in3 : (u_ws RX3 TX3 3).all (fun w => decide (w ∈ lw_tbl) && goodWord w) = true := by decide +kernel
theorem nj_in4 : (u_ws RX4 TX4 6).all (fun w => decide (w ∈ lw_tbl) && goodWord w) = true := by decide +kernel
theorem nj_in5 : (u_ws RX5 TX5 7).all (fun w => decide (w ∈ lw_tbl) && goodWord w) = true := by decide +kernel
theorem nj_in6 : (u_ws RX6 TX6 5).all (fun w => decide (w ∈ lw_tbl) && goodWord w) = true := by decide +kernel
theorem nj_in7 : (u_ws RX7 TX7 12).all (fun w => decide (w ∈ lw_tbl) && goodWord w) = true := by decide +kernel
theorem nj_in8 : (u_ws RX8 TX8 17).all (fun w => decide (w ∈ lw_tbl) && goodWord w) = true := by decide +kernel
theorem nj_in9 : (u_ws RX9 TX9 48).all (fun w => decide (w ∈ lw_tbl) && goodWord w) = true := by decide +kernel
theorem nj_in_of {ws : List Cond} (h : ws.all (fun w => decide (w ∈ lw_tbl) && goodWord w) = true) : ∀ w ∈ ws, w ∈ nj_T := by
  intro w hw
  have h1 := List.all_eq_true.mp h w hw
  simp only [Bool.and_eq_true, decide_eq_true_eq] at h1
  exact List.mem_filter.mpr h1
/-- what the kit asks of each kind of object -/
theorem nj_cl_ok {a : Nat} {q : vw_C} (h : nj_cl[a]? = some q) : (∀ w ∈ u_ws q.1 q.2.1 q.2.2, w ∈ nj_T) ∧ (∀ k, k < q.2.2 → parseFieldDescriptor (q.2.1 k).2.2.1 = some (nj_ty a k)) ∧ (∀ x, x < q.2.2 → ∀ y, y < q.2.2 → x ≠ y → (q.2.1 x).2.1 ≠ (q.2.1 y).2.1) := by
  match a, h with
  | 0, h => cases h; exact ⟨nj_in_of nj_in0, tyX0_ok, nmX0⟩
  | 1, h => cases h; exact ⟨nj_in_of nj_in1, tyX1_ok, nmX1⟩
  | 2, h => cases h; exact ⟨nj_in_of nj_in2, tyX2_ok, nmX2⟩
  | 3, h => cases h; exact ⟨nj_in_of nj_in3, tyX3_ok, nmX3⟩
  | 4, h => cases h; exact ⟨nj_in_of nj_in4, tyX4_ok, nmX4⟩
  | 5, h => cases h; exact ⟨nj_in_of nj_in5, tyX5_ok, nmX5⟩
  | 6, h => cases h; exact ⟨nj_in_of nj_in6, tyX6_ok, nmX6⟩
  | 7, h => cases h; exact ⟨nj_in_of nj_in7, tyX7_ok, nmX7⟩
  | 8, h => cases h; exact ⟨nj_in_of nj_in8, tyX8_ok, nmX8⟩
  | 9, h => cases h; exact ⟨nj_in_of nj_in9, tyX9_ok, nmX9⟩
  | a + 10, h => simp [nj_cl] at h
end
section
section NSM
variable {p : Program} {l : Launch} {e : Env} {R : Room} {s : State} {m : MethodId} {args : Array Value} {below : List Frame} {meth : Method} {c : Code} {H : Heap} {locs : List Loc} {cells slots : Nat} {Q : State → Prop} {cc : ByteArray} {pc : Nat} {ls : Array Slot} {base : Nat} {ext : Nat → Option Nat} {cA : Nat → ClassId} {D : va_G} {h : List nC} {st : List Value} {own : String} {L : Nat} {xs : Nat → Int32} {ini : Bool} {a b pos : Nat} {v : Int} {r : Nat × List Value × List nC} {gg : Nat}
theorem nj_obj_cl {q ci : Nat} {fs : List Value} (hst : nj_St base ext cA D s h gg H locs cells) (hq : h[q]? = some (.inr (ci, fs))) : ∃ z : vw_C, nj_cl[ci]? = some z := by
  obtain ⟨z, h1, -⟩ := hst.1 q _ (nj_ws_get hq)
  exact ⟨z, h1⟩
theorem nj_s_getf (hx : p.tables.exec = Jvm.exec) (hb : c.code = cc) (hts : ∀ w ∈ nj_T, w.before args s = true) (hown : s.vm.findClass own = some m.cls) (hK : va_K D nj_cl (nj_tys cA) s) (hE : nj_Env base ext L xs s) (hst : nj_St base ext cA D s h gg H locs cells) {idx : Nat} (hd : decode cc pc = .ok (.getfield idx, 3)) (hok : nj_okm own (.getfield idx) a b v pos = true) (hr : nj_getf pc a b st h = some r) (kk : ∀ H1 locs1, nj_St base ext cA D s r.2.2 gg H1 locs1 cells → W p l e R s m args below meth c H1 locs1 cells slots Q (F0 m r.1 ls (r.2.1.map (nj_rl base ext)))) : W p l e R s m args below meth c H locs cells slots Q (F0 m pc ls (st.map (nj_rl base ext))) := by
  unfold nj_getf at hr
  split at hr
  · next q r0 =>
    split at hr
    · next ci fs hq =>
      split at hr
      · next hci =>
        subst hci
        split at hr
        · next x hfx =>
          cases hr
          obtain ⟨z, hz⟩ := nj_obj_cl hst hq
          obtain ⟨k1, k2, k3⟩ := nj_cl_ok hz
          simp only [nj_okm] at hok
          split at hok
          · next h100 => rw [h100] at hz; simp [nj_cl] at hz
          · rw [hz] at hok
            simp only [Bool.and_eq_true, decide_eq_true_eq] at hok
            exact va_get (C := z.1) (T := z.2.1) (N := z.2.2) hx hb hts k1 hown hK hst.1 q (nj_ws_get hq) hz b hok.1 (hts _ (nj_w_mem hok.2)) (fun _ w => w) (v := nj_rl base ext x) (by rw [List.getElem?_map, hfx]; rfl) hd (kk H locs hst)
        · cases hr
      · cases hr
    · cases hr
  · next j r0 =>
    split at hr
    · next hj =>
      obtain ⟨rfl, rfl⟩ := hj
      obtain ⟨-, -, -, ⟨x2, x3, c1, c2, c3, c4, c5, c6, c7⟩, -⟩ := hE
      have e2 : nj_rl base ext (.retAddr 2) = .ref x2 := by show va_rf (ext 2) = _; rw [c1]; rfl
      simp only [List.map_cons, e2]
      simp only [nj_okm] at hok
      rw [if_pos trivial] at hok
      split at hr
      · next hb0 =>
        cases hr
        rw [if_pos hb0] at hok
        exact vk_getf hx hb c5 hst.2.1 hown (hts _ (nj_w_mem hok)) (fun _ w => w) hd (kk H locs hst)
      · next hb0 =>
        cases hr
        rw [if_neg hb0] at hok
        have e3 : nj_rl base ext (.retAddr 3) = .ref x3 := by show va_rf (ext 3) = _; rw [c2]; rfl
        have k := kk H locs hst
        simp only [List.map_cons, e3] at k
        exact vk_getf hx hb c6 hst.2.1 hown (hts _ (nj_w_mem hok)) (fun _ w => w) hd k
    · cases hr
  · cases hr
theorem nj_s_putf (hx : p.tables.exec = Jvm.exec) (hb : c.code = cc) (hts : ∀ w ∈ nj_T, w.before args s = true) (hown : s.vm.findClass own = some m.cls) (hK : va_K D nj_cl (nj_tys cA) s) (hini : ini = true → meth.name = "<init>") (hst : nj_St base ext cA D s h gg H locs cells) {idx : Nat} (hd : decode cc pc = .ok (.putfield idx, 3)) (hok : nj_okm own (.putfield idx) a b v pos = true) (hr : nj_putf ini pc a b v st h = some r) (kk : ∀ H1 locs1, nj_St base ext cA D s r.2.2 gg H1 locs1 cells → W p l e R s m args below meth c H1 locs1 cells slots Q (F0 m r.1 ls (r.2.1.map (nj_rl base ext)))) : W p l e R s m args below meth c H locs cells slots Q (F0 m pc ls (st.map (nj_rl base ext))) := by
  unfold nj_putf at hr
  split at hr
  · next x q r0 =>
    split at hr
    · next ci fs hq =>
      split at hr
      · next hc =>
        obtain ⟨rfl, hb1, hfit, hfin⟩ := hc
        cases hr
        obtain ⟨z, hz⟩ := nj_obj_cl hst hq
        obtain ⟨k1, k2, k3⟩ := nj_cl_ok hz
        simp only [nj_okm] at hok
        rw [hz] at hok
        simp only [Bool.and_eq_true, decide_eq_true_eq] at hok
        obtain ⟨o1, o2, o3⟩ := hok
        obtain ⟨f1, f2⟩ := nj_fit_ok base ext hfit
        have hset : (nj_ws base ext cA h).set q (base + q, .inr (ci, (fs.map (nj_rl base ext)).set b (nj_rl base ext x))) = nj_ws base ext cA (h.set q (.inr (ci, fs.set b x))) := by
          rw [← nj_ws_set]
          simp [nj_rc, List.map_set]
        have kk2 := nj_wr (g := F0 m (pc + 3) ls (r0.map (nj_rl base ext))) (slots := slots) (p := p) (l := l) (e := e) (R := R) (args := args) (below := below) (meth := meth) (c := c) (m := m) (Q := Q) hst (h1 := h.set q (.inr (ci, fs.set b x))) (by simp) kk
        rw [← hset] at kk2
        by_cases hv : v = 0
        · rw [if_pos hv] at o3
          exact va_put (C := z.1) (T := z.2.1) (N := z.2.2) hx hb hts k1 (nj_ty ci) k2 k3 hown hK hst.1 (nj_ws_D base ext cA h) (nj_S_rf hst.2.1) q (nj_ws_get hq) hz b o1 (hts _ (nj_w_mem o2)) (fun _ w => w) (of_decide_eq_true o3) (k2 b o1) f1 f2 (by simpa using hb1) hd kk2
        · rw [if_neg hv] at o3
          simp only [Bool.and_eq_true, decide_eq_true_eq] at o3
          have hi : ini = true := hfin.resolve_left hv
          exact va_putF (C := z.1) (T := z.2.1) (N := z.2.2) hx hb hts k1 (nj_ty ci) k2 k3 hown hK hst.1 (nj_ws_D base ext cA h) (nj_S_rf hst.2.1) q (nj_ws_get hq) hz b o1 (hts _ (nj_w_mem o2)) (fun _ w => w) o3.1 (hini hi) o3.2 (k2 b o1) f1 f2 (by simpa using hb1) hd kk2
      · cases hr
    · cases hr
  · cases hr
theorem nj_s_iald (hx : p.tables.exec = Jvm.exec) (hb : c.code = cc) (hK : va_K D nj_cl (nj_tys cA) s) (hE : nj_Env base ext L xs s) (hst : nj_St base ext cA D s h gg H locs cells) (hd : decode cc pc = .ok (.iaload, 1)) (hr : nj_iald L xs pc st h = some r) (kk : ∀ H1 locs1, nj_St base ext cA D s r.2.2 gg H1 locs1 cells → W p l e R s m args below meth c H1 locs1 cells slots Q (F0 m r.1 ls (r.2.1.map (nj_rl base ext)))) : W p l e R s m args below meth c H locs cells slots Q (F0 m pc ls (st.map (nj_rl base ext))) := by
  unfold nj_iald at hr
  split at hr
  · next i q r0 =>
    split at hr
    · next k n f hq =>
      split at hr
      · next hc =>
        obtain ⟨rfl, hi⟩ := hc
        cases hr
        exact va_iald hx hb hK hst.1 q 0 (nj_ws_get hq) (nj_tys_at cA (by decide)) (nj_ix_in hi) hd (kk H locs hst)
      · cases hr
    · cases hr
  · next i j r0 =>
    obtain ⟨-, ⟨x0, a1, a2, a3, a4⟩, ⟨x1, b1, b2, b3⟩, -⟩ := hE
    unfold nj_xr at hr
    split at hr
    · next n f hnf =>
      split at hr
      · next hi =>
        cases hr
        split at hnf
        · next hj =>
          cases hnf
          subst hj
          have e0 : nj_rl base ext (.retAddr 0) = .ref x0 := by show va_rf (ext 0) = _; rw [a1]; rfl
          simp only [List.map_cons, e0]
          exact va_sld hx hb a2 (by omega) (Nat.not_le.mpr a3) hst.2.1 (nj_ix_in hi) hd (kk H locs hst)
        · split at hnf
          · next hj =>
            cases hnf
            subst hj
            have e0 : nj_rl base ext (.retAddr 1) = .ref x1 := by show va_rf (ext 1) = _; rw [b1]; rfl
            simp only [List.map_cons, e0]
            exact va_ti hx hb b3 hst.2.1 (nj_ix_in hi) rfl hd (kk H locs hst)
          · cases hnf
      · cases hr
    · cases hr
  · cases hr
theorem nj_s_bald (hx : p.tables.exec = Jvm.exec) (hb : c.code = cc) (hK : va_K D nj_cl (nj_tys cA) s) (hE : nj_Env base ext L xs s) (hst : nj_St base ext cA D s h gg H locs cells) (hd : decode cc pc = .ok (.baload, 1)) (hr : nj_bald pc st h = some r) (kk : ∀ H1 locs1, nj_St base ext cA D s r.2.2 gg H1 locs1 cells → W p l e R s m args below meth c H1 locs1 cells slots Q (F0 m r.1 ls (r.2.1.map (nj_rl base ext)))) : W p l e R s m args below meth c H locs cells slots Q (F0 m pc ls (st.map (nj_rl base ext))) := by
  unfold nj_bald at hr
  split at hr
  · next i q r0 =>
    split at hr
    · next k n f hq =>
      split at hr
      · next hc =>
        obtain ⟨hk, hi⟩ := hc
        cases hr
        rcases hk with rfl | rfl
        · exact va_bald hx hb hK hst.1 q 1 (nj_ws_get hq) (nj_tys_at cA (by decide)) (nj_ix_in hi) hd (kk H locs hst)
        · exact va_zald hx hb hK hst.1 q 2 (nj_ws_get hq) (nj_tys_at cA (by decide)) (nj_ix_in hi) hd (kk H locs hst)
      · cases hr
    · cases hr
  · next i j r0 =>
    split at hr
    · next hc =>
      obtain ⟨rfl, hi⟩ := hc
      cases hr
      obtain ⟨-, -, -, ⟨x2, x3, c1, c2, c3, c4, c5, c6, c7⟩, -⟩ := hE
      have e3 : nj_rl base ext (.retAddr 3) = .ref x3 := by show va_rf (ext 3) = _; rw [c2]; rfl
      simp only [List.map_cons, e3]
      exact va_tb hx hb c7 hst.2.1 (nj_ix_in hi) rfl hd (kk H locs hst)
    · cases hr
  · cases hr
theorem nj_s_lald (hx : p.tables.exec = Jvm.exec) (hb : c.code = cc) (hK : va_K D nj_cl (nj_tys cA) s) (hE : nj_Env base ext L xs s) (hst : nj_St base ext cA D s h gg H locs cells) (hd : decode cc pc = .ok (.laload, 1)) (hr : nj_lald pc st h = some r) (kk : ∀ H1 locs1, nj_St base ext cA D s r.2.2 gg H1 locs1 cells → W p l e R s m args below meth c H1 locs1 cells slots Q (F0 m r.1 ls (r.2.1.map (nj_rl base ext)))) : W p l e R s m args below meth c H locs cells slots Q (F0 m pc ls (st.map (nj_rl base ext))) := by
  unfold nj_lald at hr
  split at hr
  · next i q r0 =>
    split at hr
    · next k n f hq =>
      split at hr
      · next hc =>
        obtain ⟨rfl, hi⟩ := hc
        cases hr
        exact va_lald hx hb hK hst.1 q 3 (nj_ws_get hq) (nj_tys_at cA (by decide)) (nj_ix_in hi) hd (kk H locs hst)
      · cases hr
    · cases hr
  · cases hr
theorem nj_s_aald (hx : p.tables.exec = Jvm.exec) (hb : c.code = cc) (hK : va_K D nj_cl (nj_tys cA) s) (hE : nj_Env base ext L xs s) (hst : nj_St base ext cA D s h gg H locs cells) (hd : decode cc pc = .ok (.aaload, 1)) (hr : nj_aald pc st h = some r) (kk : ∀ H1 locs1, nj_St base ext cA D s r.2.2 gg H1 locs1 cells → W p l e R s m args below meth c H1 locs1 cells slots Q (F0 m r.1 ls (r.2.1.map (nj_rl base ext)))) : W p l e R s m args below meth c H locs cells slots Q (F0 m pc ls (st.map (nj_rl base ext))) := by
  unfold nj_aald at hr
  split at hr
  · next i q r0 =>
    split at hr
    · next k n f hq =>
      split at hr
      · next hc =>
        obtain ⟨hk, hi⟩ := hc
        split at hr
        · next x hfx =>
          cases hr
          have k0 := kk H locs hst
          have e1 : va_rf ((fun j => (f j).map (fun x => base + x)) i.toNatClampNeg) = nj_rl base ext (.ref x) := by simp [hfx, va_rf, nj_rl]
          rcases hk with rfl | rfl
          · refine va_aldq hx hb hK hst.1 q 4 (nj_ws_get hq) (nj_tys_at cA (by decide)) (nj_ix_in hi) hd ?_
            rw [e1]
            exact k0
          · refine va_aldq hx hb hK hst.1 q 5 (nj_ws_get hq) (nj_tys_at cA (by decide)) (nj_ix_in hi) hd ?_
            rw [e1]
            exact k0
        · cases hr
      · cases hr
    · cases hr
  · cases hr
theorem nj_s_iast (hx : p.tables.exec = Jvm.exec) (hb : c.code = cc) (hK : va_K D nj_cl (nj_tys cA) s) (hE : nj_Env base ext L xs s) (hst : nj_St base ext cA D s h gg H locs cells) (hd : decode cc pc = .ok (.iastore, 1)) (hr : nj_iast pc st h = some r) (kk : ∀ H1 locs1, nj_St base ext cA D s r.2.2 gg H1 locs1 cells → W p l e R s m args below meth c H1 locs1 cells slots Q (F0 m r.1 ls (r.2.1.map (nj_rl base ext)))) : W p l e R s m args below meth c H locs cells slots Q (F0 m pc ls (st.map (nj_rl base ext))) := by
  unfold nj_iast at hr
  split at hr
  · next x i q r0 =>
    split at hr
    · next k n f hq =>
      split at hr
      · next hc =>
        obtain ⟨rfl, hi⟩ := hc
        cases hr
        have kk2 := nj_wr (g := F0 m (pc + 1) ls (r0.map (nj_rl base ext))) (slots := slots) (p := p) (l := l) (e := e) (R := R) (args := args) (below := below) (meth := meth) (c := c) (m := m) (Q := Q) hst (h1 := h.set q (.inl (0, n, .inl (upd f i.toNatClampNeg x)))) (by simp) kk
        rw [← nj_ws_set] at kk2
        exact va_iast hx hb hK hst.1 (nj_ws_D base ext cA h) (nj_S_rf hst.2.1) q 0 (nj_ws_get hq) (nj_tys_at cA (by decide)) (nj_ix_in hi) hd kk2
      · cases hr
    · cases hr
  · cases hr
theorem nj_s_bast (hx : p.tables.exec = Jvm.exec) (hb : c.code = cc) (hK : va_K D nj_cl (nj_tys cA) s) (hE : nj_Env base ext L xs s) (hst : nj_St base ext cA D s h gg H locs cells) (hd : decode cc pc = .ok (.bastore, 1)) (hr : nj_bast pc st h = some r) (kk : ∀ H1 locs1, nj_St base ext cA D s r.2.2 gg H1 locs1 cells → W p l e R s m args below meth c H1 locs1 cells slots Q (F0 m r.1 ls (r.2.1.map (nj_rl base ext)))) : W p l e R s m args below meth c H locs cells slots Q (F0 m pc ls (st.map (nj_rl base ext))) := by
  unfold nj_bast at hr
  split at hr
  · next x i q r0 =>
    split at hr
    · next k n f hq =>
      split at hr
      · next hc =>
        obtain ⟨hk, hi⟩ := hc
        cases hr
        have kk2 := nj_wr (g := F0 m (pc + 1) ls (r0.map (nj_rl base ext))) (slots := slots) (p := p) (l := l) (e := e) (R := R) (args := args) (below := below) (meth := meth) (c := c) (m := m) (Q := Q) hst (h1 := h.set q (.inl (k, n, .inl (upd f i.toNatClampNeg (vp_nar (nj_kt k) x))))) (by simp) kk
        rw [← nj_ws_set] at kk2
        rcases hk with rfl | rfl
        · exact va_bast hx hb hK hst.1 (nj_ws_D base ext cA h) (nj_S_rf hst.2.1) q 1 (nj_ws_get hq) (nj_tys_at cA (by decide)) (nj_ix_in hi) hd kk2
        · exact va_zast hx hb hK hst.1 (nj_ws_D base ext cA h) (nj_S_rf hst.2.1) q 2 (nj_ws_get hq) (nj_tys_at cA (by decide)) (nj_ix_in hi) hd kk2
      · cases hr
    · cases hr
  · cases hr
theorem nj_s_last (hx : p.tables.exec = Jvm.exec) (hb : c.code = cc) (hK : va_K D nj_cl (nj_tys cA) s) (hE : nj_Env base ext L xs s) (hst : nj_St base ext cA D s h gg H locs cells) (hd : decode cc pc = .ok (.lastore, 1)) (hr : nj_last pc st h = some r) (kk : ∀ H1 locs1, nj_St base ext cA D s r.2.2 gg H1 locs1 cells → W p l e R s m args below meth c H1 locs1 cells slots Q (F0 m r.1 ls (r.2.1.map (nj_rl base ext)))) : W p l e R s m args below meth c H locs cells slots Q (F0 m pc ls (st.map (nj_rl base ext))) := by
  unfold nj_last at hr
  split at hr
  · next x i q r0 =>
    split at hr
    · next k n f hq =>
      split at hr
      · next hc =>
        obtain ⟨rfl, hi⟩ := hc
        cases hr
        have kk2 := nj_wr (g := F0 m (pc + 1) ls (r0.map (nj_rl base ext))) (slots := slots) (p := p) (l := l) (e := e) (R := R) (args := args) (below := below) (meth := meth) (c := c) (m := m) (Q := Q) hst (h1 := h.set q (.inl (3, n, .inr (.inl (vp_updL f i.toNatClampNeg x))))) (by simp) kk
        rw [← nj_ws_set] at kk2
        exact va_last hx hb hK hst.1 (nj_ws_D base ext cA h) (nj_S_rf hst.2.1) q 3 (nj_ws_get hq) (nj_tys_at cA (by decide)) (nj_ix_in hi) hd kk2
      · cases hr
    · cases hr
  · cases hr
theorem nj_up_map (base : Nat) (f : Nat → Option Nat) (k x : Nat) : (fun j => (va_up f k (some x) j).map (fun x => base + x)) = va_up (fun j => (f j).map (fun x => base + x)) k (some (base + x)) := by
  funext j
  by_cases hj : j = k <;> simp [va_up, hj]
theorem nj_s_aast (hx : p.tables.exec = Jvm.exec) (hb : c.code = cc) (hK : va_K D nj_cl (nj_tys cA) s) (hE : nj_Env base ext L xs s) (hst : nj_St base ext cA D s h gg H locs cells) (hd : decode cc pc = .ok (.aastore, 1)) (hr : nj_aast pc st h = some r) (kk : ∀ H1 locs1, nj_St base ext cA D s r.2.2 gg H1 locs1 cells → W p l e R s m args below meth c H1 locs1 cells slots Q (F0 m r.1 ls (r.2.1.map (nj_rl base ext)))) : W p l e R s m args below meth c H locs cells slots Q (F0 m pc ls (st.map (nj_rl base ext))) := by
  unfold nj_aast at hr
  split at hr
  · next x i q r0 =>
    split at hr
    · next k n f ci fs hq hv =>
      split at hr
      · next hc =>
        obtain ⟨hk, hi⟩ := hc
        cases hr
        have kk2 := nj_wr (g := F0 m (pc + 1) ls (r0.map (nj_rl base ext))) (slots := slots) (p := p) (l := l) (e := e) (R := R) (args := args) (below := below) (meth := meth) (c := c) (m := m) (Q := Q) hst (h1 := h.set q (.inl (k, n, .inr (.inr (va_up f i.toNatClampNeg (some x)))))) (by simp) kk
        rw [← nj_ws_set] at kk2
        simp only [nj_rc, nj_up_map] at kk2
        rcases hk with ⟨rfl, rfl⟩ | ⟨rfl, rfl⟩
        · exact va_astq (r := (RX2, TX2, 12)) hx hb hK hst.1 (nj_ws_D base ext cA h) (nj_S_rf hst.2.1) q 4 x 2 (nj_ws_get hq) (nj_tys_at cA (by decide)) (nj_ws_get hv) rfl (nj_ix_in hi) hd kk2
        · exact va_astq (r := (RX1, TX1, 4)) hx hb hK hst.1 (nj_ws_D base ext cA h) (nj_S_rf hst.2.1) q 5 x 1 (nj_ws_get hq) (nj_tys_at cA (by decide)) (nj_ws_get hv) rfl (nj_ix_in hi) hd kk2
      · cases hr
    · cases hr
  · cases hr
theorem nj_s_alen (hx : p.tables.exec = Jvm.exec) (hb : c.code = cc) (hK : va_K D nj_cl (nj_tys cA) s) (hE : nj_Env base ext L xs s) (hst : nj_St base ext cA D s h gg H locs cells) (hd : decode cc pc = .ok (.arraylength, 1)) (hr : nj_alen L pc st h = some r) (kk : ∀ H1 locs1, nj_St base ext cA D s r.2.2 gg H1 locs1 cells → W p l e R s m args below meth c H1 locs1 cells slots Q (F0 m r.1 ls (r.2.1.map (nj_rl base ext)))) : W p l e R s m args below meth c H locs cells slots Q (F0 m pc ls (st.map (nj_rl base ext))) := by
  unfold nj_alen at hr
  split at hr
  · next q r0 =>
    split at hr
    · next k n f hq =>
      split at hr
      · next hk =>
        cases hr
        have hw := nj_ws_get (base := base) (ext := ext) (cA := cA) hq
        rcases f with f | f | f
        · exact va_alen hx hb hK hst.1 q k hw (nj_tys_at cA hk) rfl hd (kk H locs hst)
        · exact va_alen hx hb hK hst.1 q k hw (nj_tys_at cA hk) rfl hd (kk H locs hst)
        · exact va_alen hx hb hK hst.1 q k hw (nj_tys_at cA hk) rfl hd (kk H locs hst)
      · cases hr
    · cases hr
  · next j r0 =>
    obtain ⟨-, ⟨x0, a1, a2, a3, a4⟩, ⟨x1, b1, b2, b3⟩, ⟨x2, x3, c1, c2, c3, c4, c5, c6, c7⟩, -⟩ := hE
    split at hr
    · next hj =>
      cases hr
      subst hj
      have e0 : nj_rl base ext (.retAddr 0) = .ref x0 := by show va_rf (ext 0) = _; rw [a1]; rfl
      simp only [List.map_cons, e0]
      exact va_slen hx hb a2 (by omega) (Nat.not_le.mpr a3) hst.2.1 hd (kk H locs hst)
    · split at hr
      · next hj =>
        cases hr
        subst hj
        have e0 : nj_rl base ext (.retAddr 1) = .ref x1 := by show va_rf (ext 1) = _; rw [b1]; rfl
        simp only [List.map_cons, e0]
        exact va_tlen hx hb b3 hst.2.1 (by decide) hd (kk H locs hst)
      · split at hr
        · next hj =>
          cases hr
          subst hj
          have e0 : nj_rl base ext (.retAddr 3) = .ref x3 := by show va_rf (ext 3) = _; rw [c2]; rfl
          simp only [List.map_cons, e0]
          exact va_tlen hx hb c7 hst.2.1 (by decide) hd (kk H locs hst)
        · cases hr
  · cases hr
end NSM
end
section
section NSA
variable {p : Program} {l : Launch} {e : Env} {R : Room} {s : State} {m : MethodId} {args : Array Value} {below : List Frame} {meth : Method} {c : Code} {H : Heap} {locs : List Loc} {cells slots : Nat} {Q : State → Prop} {cc : ByteArray} {pc : Nat} {ls : Array Slot} {base : Nat} {ext : Nat → Option Nat} {cA : Nat → ClassId} {D : va_G} {h : List nC} {st : List Value} {own : String} {L : Nat} {xs : Nat → Int32} {ini : Bool} {a b pos : Nat} {v : Int} {r : Nat × List Value × List nC} {gg : Nat}
theorem nj_nwF (hE : nj_Env base ext L xs s) : (Cond.fieldLinkNest RX0 121 "SlipHeirs" "FIRST_SLOT" "[I" "SlipHeirs").before args s = true := va_Nw.use rfl (hE.1 _ (by simp [nj_nw, RX0]))
theorem nj_sim_mem (hx : p.tables.exec = Jvm.exec) (hb : c.code = cc) (hts : ∀ w ∈ nj_T, w.before args s = true) (hown : s.vm.findClass own = some m.cls) (hK : va_K D nj_cl (nj_tys cA) s) (hE : nj_Env base ext L xs s) (hini : ini = true → meth.name = "<init>") (hst : nj_St base ext cA D s h gg H locs cells) {i : Instr} (hd : decode cc pc = .ok (i, nj_len i b)) (hok : nj_okm own i a b v pos = true) (hr : nj_mem L xs ini pc a b v st h i = some r) (kk : ∀ H1 locs1, nj_St base ext cA D s r.2.2 gg H1 locs1 cells → W p l e R s m args below meth c H1 locs1 cells slots Q (F0 m r.1 ls (r.2.1.map (nj_rl base ext)))) : W p l e R s m args below meth c H locs cells slots Q (F0 m pc ls (st.map (nj_rl base ext))) := by
  cases i with
  | getfield idx => exact nj_s_getf hx hb hts hown hK hE hst hd hok hr kk
  | putfield idx => exact nj_s_putf hx hb hts hown hK hini hst hd hok hr kk
  | iaload => exact nj_s_iald hx hb hK hE hst hd hr kk
  | baload => exact nj_s_bald hx hb hK hE hst hd hr kk
  | laload => exact nj_s_lald hx hb hK hE hst hd hr kk
  | aaload => exact nj_s_aald hx hb hK hE hst hd hr kk
  | iastore => exact nj_s_iast hx hb hK hE hst hd hr kk
  | bastore => exact nj_s_bast hx hb hK hE hst hd hr kk
  | lastore => exact nj_s_last hx hb hK hE hst hd hr kk
  | aastore => exact nj_s_aast hx hb hK hE hst hd hr kk
  | arraylength => exact nj_s_alen hx hb hK hE hst hd hr kk
  | ldc idx =>
    simp only [nj_mem] at hr
    simp only [nj_okm] at hok
    split at hr
    · next hb1 =>
      cases hr
      rw [if_pos hb1] at hok
      simp only [Bool.and_eq_true, decide_eq_true_eq] at hok
      obtain ⟨rfl, rfl⟩ := hok
      obtain ⟨-, -, -, ⟨x2, x3, c1, c2, c3, c4, c5, c6, c7⟩, -⟩ := hE
      have e2 : nj_rl base ext (.retAddr 2) = .ref x2 := by show va_rf (ext 2) = _; rw [c1]; rfl
      have k := kk H locs hst
      simp only [List.map_cons, e2] at k
      exact va_ldcS hx hb hown c3 hd k
    · next hb1 =>
      cases hr
      rw [if_neg hb1] at hok
      exact lv_ldc hx hb hown (hts _ (nj_w_mem hok)) hd (kk H locs hst)
  | ldc_w idx =>
    cases hr
    exact lv_ldcw hx hb hown (hts _ (nj_w_mem hok)) hd (kk H locs hst)
  | ldc2_w idx =>
    cases hr
    exact lv_ldc2 hx hb hown (hts _ (nj_w_mem hok)) hd (kk H locs hst)
  | getstatic idx =>
    simp only [nj_mem] at hr
    simp only [nj_okm] at hok
    split at hr
    · next ha =>
      cases hr
      rw [if_pos ha] at hok
      simp only [Bool.and_eq_true, decide_eq_true_eq] at hok
      obtain ⟨rfl, rfl⟩ := hok
      have hN := nj_nwF (args := args) hE
      obtain ⟨-, -, ⟨x1, b1, b2, b3⟩, -⟩ := hE
      have e1 : nj_rl base ext (.retAddr 1) = .ref x1 := by show va_rf (ext 1) = _; rw [b1]; rfl
      have k := kk H locs hst
      simp only [List.map_cons, e1] at k
      exact va_getsN hx hb b2 hst.2.1 hown hN (fun _ w => w) hd k
    · next ha =>
      rw [if_neg ha] at hok
      obtain ⟨-, -, -, -, h5, h6, -⟩ := hE
      split at hr
      · next ha1 =>
        cases hr
        rw [if_pos ha1] at hok
        exact va_gets hx hb h5 hst.2.1 hown (hts _ (nj_w_mem hok)) (fun _ w => w) hd (kk H locs hst)
      · next ha1 =>
        split at hr
        · cases hr
          rw [if_neg ha1] at hok
          exact va_gets hx hb h6 hst.2.1 hown (hts _ (nj_w_mem hok)) (fun _ w => w) hd (kk H locs hst)
        · cases hr
  | _ => exact nomatch (show (none : nR) = some r from hr)
end NSA
/-- what makes a cell: the next place, the stack, the cell, its size -/
def nj_new (pc a : Nat) (st : List Value) (h : List nC) (i : Instr) : Option (Nat × List Value × nC × Nat) := match i with
  | .new _ => match nj_cl[a]? with
    | some q => some (pc + 3, .ref h.length :: st, .inr (a, (List.range q.2.2).map (fun j => defaultValue (nj_ty a j))), q.2.2)
    | none => none
  | .newarray _ => match st with
    | .int n :: r => if ¬ n < 0 ∧ n.toNatClampNeg ≤ 65536 then (if a < 3 then some (pc + 2, .ref h.length :: r, .inl (a, n.toNatClampNeg, .inl (fun _ => 0)), n.toNatClampNeg) else if a = 3 then some (pc + 2, .ref h.length :: r, .inl (3, n.toNatClampNeg, .inr (.inl (fun _ => 0))), n.toNatClampNeg) else none) else none
    | _ => none
  | .anewarray _ => match st with
    | .int n :: r => if (¬ n < 0 ∧ n.toNatClampNeg ≤ 65536) ∧ (a = 4 ∨ a = 5) then some (pc + 3, .ref h.length :: r, .inl (a, n.toNatClampNeg, .inr (.inr (fun _ => none))), n.toNatClampNeg) else none
    | _ => none
  | _ => none
def nj_okn (own : String) (i : Instr) (a b : Nat) (v : Int) (pos : Nat) : Bool := match i with
  | .new idx => match nj_cl[a]? with
    | some q => nj_w pos (.classLink own idx q.1) && (nj_w b (.instantiable q.1 q.2.2) && nj_w v.toNat (.initialized q.1))
    | none => false
  | .newarray t => decide (newarray.typeOf t = nj_kt a) && nj_w pos (.arrayClass (nj_kt a))
  | .anewarray idx => if a = 4 then nj_w pos (.classLink own idx RX2) else nj_w pos (.classLink own idx RX1)
  | _ => true
theorem nj_rl_dv (base : Nat) (ext : Nat → Option Nat) (ty : FieldType) : nj_rl base ext (defaultValue ty) = defaultValue ty := by cases ty <;> rfl
section NSB
variable {p : Program} {l : Launch} {e : Env} {R : Room} {s : State} {m : MethodId} {args : Array Value} {below : List Frame} {meth : Method} {c : Code} {H : Heap} {locs : List Loc} {cells slots : Nat} {Q : State → Prop} {cc : ByteArray} {pc : Nat} {ls : Array Slot} {base : Nat} {ext : Nat → Option Nat} {cA : Nat → ClassId} {D : va_G} {h : List nC} {st : List Value} {own : String} {L : Nat} {xs : Nat → Int32} {a b pos : Nat} {v : Int} {r : Nat × List Value × nC × Nat}
theorem nj_ra {U : State} {x y : ClassId} {ty : FieldType} (h1 : va_RA U x ty) (h2 : va_RA U y ty) : x = y := by
  cases ty with
  | object C =>
    obtain ⟨_, _, _, _, _, e1⟩ := h1
    obtain ⟨_, _, _, _, _, e2⟩ := h2
    exact Option.some.inj (e1.symm.trans e2)
  | _ => exact Option.some.inj (h1.symm.trans h2)
/-- the array's kind is the tables' one -/
theorem nj_ac (hK : va_K D nj_cl (nj_tys cA) s) {k : Nat} (hk : k < 6) {cX : ClassId} {ty : FieldType} (hty : ty = nj_kt k) (h2 : va_K D nj_cl (nj_tys cA ++ [(cX, ty)]) s) : cX = cA k := by
  subst hty
  have hl : (nj_tys cA).length = 6 := by simp [nj_tys]
  have h4 := (h2.2 6 (cX, nj_kt k) (by rw [List.getElem?_append_right (by omega), hl]; rfl)).2
  exact nj_ra h4 (hK.2 k _ (nj_tys_at cA hk)).2
theorem nj_sim_new (hx : p.tables.exec = Jvm.exec) (hb : c.code = cc) (hts : ∀ w ∈ nj_T, w.before args s = true) (hown : s.vm.findClass own = some m.cls) (hK : va_K D nj_cl (nj_tys cA) s) (hE : nj_Env base ext L xs s) (hst : nj_St base ext cA D s h 0 H locs cells) {i : Instr} (hd : decode cc pc = .ok (i, nj_len i b)) (hok : nj_okn own i a b v pos = true) (hr : nj_new pc a st h i = some r) (hc1 : cells + 1 ≤ R.cells) (hc2 : slots + r.2.2.2 ≤ R.slots) (kk : ∀ H1 locs1, nj_St base ext cA D s (h ++ [r.2.2.1]) 0 H1 locs1 (cells + 1) → W p l e R s m args below meth c H1 locs1 (cells + 1) (slots + r.2.2.2) Q (F0 m r.1 ls (r.2.1.map (nj_rl base ext)))) : W p l e R s m args below meth c H locs cells slots Q (F0 m pc ls (st.map (nj_rl base ext))) := by
  have hA : ∀ q, H.size ≤ q → nj_A base q := fun q hq => by
    have := hst.2.2.1
    show base ≤ q
    omega
  cases i with
  | new idx =>
    simp only [nj_new] at hr
    simp only [nj_okn] at hok
    split at hr
    · next q hq =>
      cases hr
      rw [hq] at hok
      simp only [Bool.and_eq_true] at hok
      obtain ⟨k1, k2, k3⟩ := nj_cl_ok hq
      refine va_new (C := q.1) (T := q.2.1) (N := q.2.2) (ci := a) (fs := (List.range q.2.2).map (fun j => defaultValue (nj_ty a j))) hx hb hts k1 (nj_ty a) k2 hown (hts _ (nj_w_mem hok.1)) (hts _ (nj_w_mem hok.2.1)) (hts _ (nj_w_mem hok.2.2)) hK hst.1 (nj_ws_D base ext cA h) (nj_S_rf hst.2.1) hA hq (fun j hj => by simp [vp_V, hj]) hc1 hc2 hd (fun x H1 g1 g2 g3 => ?_)
      have e1 : (Sum.inr (a, (List.range q.2.2).map (fun j => defaultValue (nj_ty a j))) : va_E) = nj_rc base ext cA (.inr (a, (List.range q.2.2).map (fun j => defaultValue (nj_ty a j)))) := by
        simp only [nj_rc, List.map_map]
        congr 2
        apply List.map_congr_left
        intro j _
        exact (nj_rl_dv base ext _).symm
      rw [e1] at g1 g2
      exact nj_mk (g := fun y => F0 m (pc + 3) ls (.ref y :: st.map (nj_rl base ext))) hst kk x H1 locs g1 g2 g3
    · cases hr
  | newarray t =>
    simp only [nj_new] at hr
    simp only [nj_okn, Bool.and_eq_true, decide_eq_true_eq] at hok
    split at hr
    · next n r0 =>
      split at hr
      · next hn =>
        split at hr
        · next ha3 =>
          cases hr
          refine va_newa (ty := nj_kt a) (a0 := (n.toNatClampNeg, .inl (fun _ => 0))) hx hb (by rw [hok.1]; exact hts _ (nj_w_mem hok.2)) hok.1 hK hst.1 (nj_ws_D base ext cA h) (nj_S_rf hst.2.1) hA (fun cX => ?_) hn.1 rfl ?_ hc1 hc2 hd (fun x cX H1 g0 g1 g2 g3 => ?_)
          · match a, ha3 with
            | 0, _ => rfl
            | 1, _ => rfl
            | 2, _ => rfl
          · have := hn.2
            have h4 : componentBytes (nj_kt a) ≤ 8 := by match a, ha3 with
              | 0, _ => decide
              | 1, _ => decide
              | 2, _ => decide
            exact Nat.le_trans (Nat.mul_le_mul this h4) (by decide)
          · have e1 := nj_ac hK (Nat.lt_trans ha3 (by decide)) rfl g0
            subst e1
            exact nj_mk (x := .inl (a, n.toNatClampNeg, .inl (fun _ => 0))) (g := fun y => F0 m (pc + 2) ls (.ref y :: r0.map (nj_rl base ext))) hst kk x H1 locs g1 g2 g3
        · split at hr
          · next ha =>
            cases hr
            subst ha
            refine va_newa (ty := nj_kt 3) (a0 := (n.toNatClampNeg, .inr (.inl (fun _ => 0)))) hx hb (by rw [hok.1]; exact hts _ (nj_w_mem hok.2)) hok.1 hK hst.1 (nj_ws_D base ext cA h) (nj_S_rf hst.2.1) hA (fun cX => rfl) hn.1 rfl ?_ hc1 hc2 hd (fun x cX H1 g0 g1 g2 g3 => ?_)
            · exact Nat.le_trans (Nat.mul_le_mul hn.2 (show componentBytes (nj_kt 3) ≤ 8 by decide)) (by decide)
            · have e1 := nj_ac hK (by decide) rfl g0
              subst e1
              exact nj_mk (x := .inl (3, n.toNatClampNeg, .inr (.inl (fun _ => 0)))) (g := fun y => F0 m (pc + 2) ls (.ref y :: r0.map (nj_rl base ext))) hst kk x H1 locs g1 g2 g3
          · cases hr
      · cases hr
    · cases hr
  | anewarray idx =>
    simp only [nj_new] at hr
    simp only [nj_okn] at hok
    split at hr
    · next n r0 =>
      split at hr
      · next hn =>
        cases hr
        obtain ⟨hn, ha⟩ := hn
        have hb4 : n.toNatClampNeg * 4 ≤ 536870912 := Nat.le_trans (Nat.mul_le_mul hn.2 (Nat.le_refl 4)) (by decide)
        rcases ha with rfl | rfl
        · refine va_newq (C := RX2) hx hb hown (hts _ (nj_w_mem hok)) hE.2.2.2.2.2.2.1 hK hst.1 (nj_ws_D base ext cA h) (nj_S_rf hst.2.1) hA hn.1 rfl hb4 hc1 hc2 hd (fun x cX H1 g0 g1 g2 g3 => ?_)
          have e1 := nj_ac (k := 4) hK (by decide) rfl g0
          subst e1
          exact nj_mk (x := .inl (4, n.toNatClampNeg, .inr (.inr (fun _ => none)))) (g := fun y => F0 m (pc + 3) ls (.ref y :: r0.map (nj_rl base ext))) hst kk x H1 locs g1 g2 g3
        · refine va_newq (C := RX1) hx hb hown (hts _ (nj_w_mem hok)) hE.2.2.2.2.2.2.2 hK hst.1 (nj_ws_D base ext cA h) (nj_S_rf hst.2.1) hA hn.1 rfl hb4 hc1 hc2 hd (fun x cX H1 g0 g1 g2 g3 => ?_)
          have e1 := nj_ac (k := 5) hK (by decide) rfl g0
          subst e1
          exact nj_mk (x := .inl (5, n.toNatClampNeg, .inr (.inr (fun _ => none)))) (g := fun y => F0 m (pc + 3) ls (.ref y :: r0.map (nj_rl base ext))) hst kk x H1 locs g1 g2 g3
      · cases hr
    · cases hr
  | _ => exact nomatch (show (none : Option (Nat × List Value × nC × Nat)) = some r from hr)
end NSB
end
section
/-- a method: name, bytes, locals, what it returns, places of its words in the tables, instructions -/
abbrev nM : Type := MethodName × ByteArray × Nat × Option FieldType × List Nat × List nE
def nj_copy (st : List Value) (h : List nC) : Option (List Value × List nC) := match st with
  | .int n :: .int dp :: .ref q1 :: .int sp :: .ref q0 :: r => match h[q0]?, h[q1]? with
    | some (.inl (k0, n0, .inl f)), some (.inl (k1, n1, .inl g)) => if k0 = 0 ∧ k1 = 0 ∧ ¬ sp < 0 ∧ ¬ dp < 0 ∧ ¬ n < 0 ∧ sp.toNatClampNeg + n.toNatClampNeg ≤ n0 ∧ dp.toNatClampNeg + n.toNatClampNeg ≤ n1 then some (r, h.set q1 (.inl (0, n1, .inl (va_cpy f g sp.toNatClampNeg dp.toNatClampNeg n.toNatClampNeg)))) else none
    | some (.inl (k0, n0, .inr (.inl f))), some (.inl (k1, n1, .inr (.inl g))) => if k0 = 3 ∧ k1 = 3 ∧ ¬ sp < 0 ∧ ¬ dp < 0 ∧ ¬ n < 0 ∧ sp.toNatClampNeg + n.toNatClampNeg ≤ n0 ∧ dp.toNatClampNeg + n.toNatClampNeg ≤ n1 then some (r, h.set q1 (.inl (3, n1, .inr (.inl (va_cpy f g sp.toNatClampNeg dp.toNatClampNeg n.toNatClampNeg))))) else none
    | _, _ => none
  | _ => none
def nj_sum (r : List Value) : Nat := (r.map fun v => v.category).sum
/-- the receiver is of the method's own kind -/
def nj_recv (mz : nM) (as : List Value) (h : List nC) : Bool := match as with
  | .ref q :: _ => match h[q]? with
    | some (.inr (ci, _)) => decide ((nj_cl[ci]?).map (fun z => z.1) = some mz.1.cls)
    | _ => false
  | .retAddr j :: _ => decide (j = 2) && decide (mz.1.cls = "java/lang/String")
  | _ => false
def nj_isref (as : List Value) : Bool := match as with
  | .ref _ :: _ => true
  | _ => false
def nj_ret (ret : Option FieldType) (i : Instr) (st : List Value) : Option (Option Value) := match i with
  | .ireturn => match st, ret with
    | [.int x], some ty => if narrow ty (.int x) = .int x then some (some (.int x)) else none
    | _, _ => none
  | .lreturn => match st with
    | [.long x] => if ret = some .long then some (some (.long x)) else none
    | _ => none
  | .return_ => match st, ret with
    | [], none => some none
    | _, _ => none
  | _ => none
/-- a call: may it be made; its arguments, what is left on the stack -/
def nj_pass (mz : nM) (i : Instr) (b : Nat) (st : List Value) (h : List nC) : Bool := decide (b ≤ st.length) && (decide (nj_sum (st.drop b) ≤ 8) && (decide ((lg_sl (st.take b).reverse).length ≤ mz.2.2.1) && (match i with
  | .invokevirtual _ => nj_recv mz (st.take b).reverse h
  | .invokespecial _ => nj_isref (st.take b).reverse
  | .invokestatic _ => true
  | _ => false)))
def nj_isinv (i : Instr) : Bool := match i with
  | .invokevirtual _ | .invokespecial _ | .invokestatic _ => true
  | _ => false
abbrev nX : Type := Nat → List Value → List nC → Option (Int32 × List nC × Nat × Nat)
abbrev nRes : Type := Option Value × List nC × Nat × Nat × Nat
abbrev nS1 : Type := Nat × nLv × List Value × List nC × Nat × Nat × Nat
/-- a call of a method of ours -/
def nj_inv (M : Nat → Option nM) (run : Nat → nM → nLv → List nC → Nat → Option nRes) (d : Nat) (pc : Nat) (i : Instr) (a b : Nat) (lv : nLv) (st : List Value) (h : List nC) (g : Nat) : Option nS1 := match d, M a with
  | d1 + 1, some mz => if nj_pass mz i b st h = true then (match run d1 mz (lv_args 0 (st.take b).reverse) h g with
    | some (rv, h1, g1, mc, ms) => some (pc + 3, lv, rv.toList ++ st.drop b, h1, g1, mc, ms)
    | none => none) else none
  | _, _ => none
/-- calls: Object's constructor (4), arraycopy (5), what stands outside (6), Math.min (7), methods of ours -/
def nj_calls (M : Nat → Option nM) (X : nX) (run : Nat → nM → nLv → List nC → Nat → Option nRes) (d : Nat) (pc : Nat) (i : Instr) (a b : Nat) (v : Int) (lv : nLv) (st : List Value) (h : List nC) (g : Nat) : Option nS1 :=
  if nj_isinv i = false then none
  else if v = 4 then (match st with
    | .ref _ :: r => if nj_sum r ≤ 8 then some (pc + 3, lv, r, h, g, 0, 0) else none
    | _ => none)
  else if v = 5 then (match nj_copy st h with
    | some (r, h1) => if nj_sum r ≤ 8 then some (pc + 3, lv, r, h1, g, 0, 0) else none
    | none => none)
  else if v = 6 then (if b ≤ st.length ∧ nj_sum (st.drop b) ≤ 8 then (match X a (st.take b).reverse h with
    | some (r, h1, dg, ms) => some (pc + 3, lv, .int r :: st.drop b, h1, g + dg, dg, ms)
    | none => none) else none)
  else if v = 7 then (match st with
    | .int y :: .int x :: r => if nj_sum r ≤ 8 then some (pc + 3, lv, .int (if y < x then y else x) :: r, h, g, 0, 0) else none
    | _ => none)
  else nj_inv M run d pc i a b lv st h g
/-- one instruction that isn't a return -/
def nj_step (M : Nat → Option nM) (X : nX) (L : Nat) (xs : Nat → Int32) (run : Nat → nM → nLv → List nC → Nat → Option nRes) (d : Nat) (mt : nM) (i : Instr) (a b : Nat) (v : Int) (pc : Nat) (lv : nLv) (st : List Value) (h : List nC) (g : Nat) : Option nS1 :=
  match nj_pure lv mt.2.2.1 pc st i with
  | some (pc1, lv1, st1) => some (pc1, lv1, st1, h, g, 0, 0)
  | none =>
    match nj_mem L xs (mt.1.name == "<init>") pc a b v st h i with
    | some (pc1, st1, h1) => some (pc1, lv, st1, h1, g, 0, 0)
    | none =>
      match nj_new pc a st h i with
      | some (pc1, st1, x, z) => if g = 0 then some (pc1, lv, st1, h ++ [x], 0, 1, z) else none
      | none => nj_calls M X run d pc i a b v lv st h g
def nj_run (M : Nat → Option nM) (X : nX) (L : Nat) (xs : Nat → Int32) : Nat → Nat → nM → Nat → nLv → List Value → List nC → Nat → Option nRes
  | 0, _, _, _, _, _, _, _ => none
  | n + 1, d, mt, pc, lv, st, h, g =>
    match mt.2.2.2.2.2.find? (fun q => q.1 == pc) with
    | none => none
    | some (_, i, a, b, v, _) =>
      match nj_ret mt.2.2.2.1 i st with
      | some rv => some (rv, h, g, 0, 0)
      | none =>
        match nj_step M X L xs (fun d1 mz lv0 h0 g0 => nj_run M X L xs n d1 mz 0 lv0 [] h0 g0) d mt i a b v pc lv st h g with
        | none => none
        | some (pc1, lv1, st1, h1, g1, mc1, ms1) =>
          match nj_run M X L xs n d mt pc1 lv1 st1 h1 g1 with
          | none => none
          | some (rv, h2, g2, mc2, ms2) => some (rv, h2, g2, mc1 + mc2, ms1 + ms2)
/-- the words of calls -/
def nj_okc (M : Nat → Option nM) (own : String) (i : Instr) (a b : Nat) (v : Int) (pos : Nat) : Bool := match i with
  | .invokevirtual idx => decide (v = 0) && (match M a with
    | some mz => nj_w pos (.methodLink own idx mz.1) && (nj_w (mz.2.2.2.2.1.getD 2 0) (.instanceMethod mz.1) && (nj_w (mz.2.2.2.2.1.getD 3 0) (.selects mz.1.cls mz.1 mz.1) && decide ((parseMethodDescriptor mz.1.desc).map (fun d => d.parameters.length + 1) = some b)))
    | none => false)
  | .invokespecial idx => if v = 4 then nj_w pos (.methodLink own idx objectInit) else match M a with
    | some mz => (nj_w (mz.2.2.2.2.1.getD 2 0) (.instanceMethod mz.1) && (decide (mz.1.name = "<init>") && (decide (mz.2.2.2.1 = none) && decide ((parseMethodDescriptor mz.1.desc).map (fun d => d.parameters.length + 1) = some b)))) && (if v = 1 then nj_w pos (.methodLink own idx mz.1) else decide (v = 3) && decide (Cond.methodLinkNest own idx mz.1 RX8 ∈ nj_nw))
    | none => false
  | .invokestatic idx => if v = 5 then nj_w pos (.methodLink own idx arraycopyName) else if v = 6 then true else if v = 7 then nj_w pos (.methodLink own idx Lib.Math.min.name) else match M a with
    | some mz => decide (v = 2) && (nj_w pos (.methodLink own idx mz.1) && (nj_w (mz.2.2.2.2.1.getD 2 0) (.static mz.1) && decide ((parseMethodDescriptor mz.1.desc).map (fun d => d.parameters.length) = some b)))
    | none => false
  | _ => true
/-- an entry of a method's code is what the bytes are, and has its words -/
def nj_oke (M : Nat → Option nM) (own : String) (bytes : ByteArray) (q : nE) : Bool :=
  decide (decode bytes q.1 = .ok (q.2.1, nj_len q.2.1 q.2.2.2.1)) && (nj_okm own q.2.1 q.2.2.1 q.2.2.2.1 q.2.2.2.2.1 q.2.2.2.2.2 && (nj_okn own q.2.1 q.2.2.1 q.2.2.2.1 q.2.2.2.2.1 q.2.2.2.2.2 && nj_okc M own q.2.1 q.2.2.1 q.2.2.2.1 q.2.2.2.2.1 q.2.2.2.2.2))
def nj_okE (M : Nat → Option nM) (mt : nM) : Prop := ∀ q ∈ mt.2.2.2.2.2, nj_oke M mt.1.cls mt.2.1 q = true
def nj_okM (M : Nat → Option nM) (mt : nM) : Prop :=
  plainName mt.1.cls = true ∧ (Cond.code mt.1 mt.2.1 mt.2.2.1 mt.2.2.2.1 ∈ nj_T) ∧ (mt.1.cls ≠ "java/lang/invoke/MethodHandle" ∧ mt.1.cls ≠ "java/lang/invoke/VarHandle") ∧ (Cond.initialized mt.1.cls ∈ nj_T) ∧ mt.2.2.1 ≤ 40 ∧ nj_okE M mt
def nj_Pre (base : Nat) (ext : Nat → Option Nat) (cA : Nat → ClassId) (D : va_G) (L : Nat) (xs : Nat → Int32) (h : List nC) (g : Nat) (U : State) : Prop := va_P D nj_cl (nj_ws base ext cA h) U.heap ∧ va_K D nj_cl (nj_tys cA) U ∧ nj_Env base ext L xs U ∧ U.heap.size = base + h.length + g
def nj_Qc (base : Nat) (ext : Nat → Option Nat) (cA : Nat → ClassId) (D : va_G) (rv : Option Value) (h : List nC) (g : Nat) : Array Value → State → Outcome → State → Prop := fun _ st o t => o = .returned (rv.map (nj_rl base ext)) ∧ va_P D nj_cl (nj_ws base ext cA h) t.heap ∧ t.heap.size = base + h.length + g ∧ va_F (nj_A base) st t
def nj_rm (d mc ms : Nat) : Room := { frames := d + 1, cells := mc, slots := ms, locals := 64 * (d + 1) }
abbrev nj_wsm (mt : nM) : List Cond := .code mt.1 mt.2.1 mt.2.2.1 mt.2.2.2.1 :: nj_T
theorem nj_args_rl (base : Nat) (ext : Nat → Option Nat) (as : List Value) : ∀ i : Nat, lv_args i (as.map (nj_rl base ext)) = nj_rlv base ext (lv_args i as) := by
  induction as with
  | nil => intro i; rfl
  | cons v as ih =>
    intro i
    simp only [List.map_cons, lv_args, nj_rlv, nj_rl_cat]
    congr 1
    exact ih _
theorem nj_sl_len (base : Nat) (ext : Nat → Option Nat) (as : List Value) : (lg_sl (as.map (nj_rl base ext))).length = (lg_sl as).length := by
  induction as with
  | nil => rfl
  | cons v as ih =>
    simp only [lg_sl, List.map_cons, List.flatMap_cons, List.length_append, nj_rl_cat] at ih ⊢
    rw [ih]
    split <;> rfl
theorem nj_sum_rl (base : Nat) (ext : Nat → Option Nat) (as : List Value) : ((as.map (nj_rl base ext)).map fun v => v.category).sum = nj_sum as := by
  simp only [nj_sum, List.map_map]
  congr 1
  apply List.map_congr_left
  intro v _
  exact nj_rl_cat base ext v
end
section
def nj_Cx (base : Nat) (ext : Nat → Option Nat) (cA : Nat → ClassId) (D : va_G) (L : Nat) (xs : Nat → Int32) (mt : nM) (p : Program) (s : State) (m : MethodId) (args : Array Value) (meth : Method) (c : Code) : Prop :=
  p.tables.exec = Jvm.exec ∧ c.code = mt.2.1 ∧ c.maxLocals = mt.2.2.1 ∧ (∀ w ∈ nj_T, w.before args s = true) ∧ s.vm.findClass mt.1.cls = some m.cls ∧ va_K D nj_cl (nj_tys cA) s ∧ nj_Env base ext L xs s ∧ ((mt.1.name == "<init>") = true → meth.name = "<init>")
/-- the rule of what stands outside -/
def nj_XOk (X : nX) (L : Nat) (xs : Nat → Int32) (base : Nat) (ext : Nat → Option Nat) (cA : Nat → ClassId) (D : va_G) (l : Launch) : Prop :=
  ∀ (mt : nM) (d pc idx a b : Nat) (st : List Value) (h : List nC) (g : Nat) (r : Int32) (h1 : List nC) (dg ms : Nat), X a (st.take b).reverse h = some (r, h1, dg, ms) → b ≤ st.length → nj_sum (st.drop b) ≤ 8 →
  ∀ (p : Program) (e : Env) (R : Room) (s : State) (m : MethodId) (args : Array Value) (below : List Frame) (meth : Method) (c : Code) (H : Heap) (locs : List Loc) (cells slots : Nat) (Q : State → Prop) (ls : Array Slot),
  nj_Cx base ext cA D L xs mt p s m args meth c → ls.size = mt.2.2.1 → nj_St base ext cA D s h g H locs cells → decode mt.2.1 pc = .ok (.invokestatic idx, 3) → d + 1 ≤ R.frames → 64 * (d + 1) ≤ R.locals → cells + dg ≤ R.cells → slots + ms ≤ R.slots →
  (∀ (H1 : Heap) (locs1 : List Loc), nj_St base ext cA D s h1 (g + dg) H1 locs1 (cells + dg) → W p l e R s m args below meth c H1 locs1 (cells + dg) (slots + ms) Q (F0 m (pc + 3) ls ((.int r :: st.drop b).map (nj_rl base ext)))) →
  W p l e R s m args below meth c H locs cells slots Q (F0 m pc ls (st.map (nj_rl base ext)))
/-- runs of at most n steps are runs of the machine -/
def nj_Sim (M : Nat → Option nM) (X : nX) (L : Nat) (xs : Nat → Int32) (base : Nat) (ext : Nat → Option Nat) (cA : Nat → ClassId) (D : va_G) (l : Launch) (n : Nat) : Prop :=
  ∀ (d : Nat) (mt : nM) (pc : Nat) (lv : nLv) (st : List Value) (h : List nC) (g : Nat) (rv : Option Value) (h1 : List nC) (g1 mc ms : Nat), nj_okE M mt → nj_run M X L xs n d mt pc lv st h g = some (rv, h1, g1, mc, ms) →
  ∀ (p : Program) (e : Env) (R : Room) (s : State) (m : MethodId) (args : Array Value) (below : List Frame) (meth : Method) (c : Code) (H : Heap) (locs : List Loc) (cells slots : Nat) (Q : State → Prop) (ls : Array Slot),
  nj_Cx base ext cA D L xs mt p s m args meth c → lv_has ls mt.2.2.1 (nj_rlv base ext lv) → nj_St base ext cA D s h g H locs cells → d + 1 ≤ R.frames → 64 * (d + 1) ≤ R.locals → cells + mc ≤ R.cells → slots + ms ≤ R.slots →
  (∀ (H1 : Heap) (locs1 : List Loc) (pc1 : Nat) (ls1 : Array Slot) (i : Instr) (st1 : List Value), nj_St base ext cA D s h1 g1 H1 locs1 (cells + mc) → decode mt.2.1 pc1 = .ok (i, 1) → nj_ret mt.2.2.2.1 i st1 = some rv → W p l e R s m args below meth c H1 locs1 (cells + mc) (slots + ms) Q (F0 m pc1 ls1 (st1.map (nj_rl base ext)))) →
  W p l e R s m args below meth c H locs cells slots Q (F0 m pc ls (st.map (nj_rl base ext)))
section NMT
variable {M : Nat → Option nM} {X : nX} {L : Nat} {xs : Nat → Int32} {base : Nat} {ext : Nat → Option Nat} {cA : Nat → ClassId} {D : va_G} {l : Launch} {n : Nat}
theorem nj_met (hsim : nj_Sim M X L xs base ext cA D l n) {d : Nat} {mt : nM} {as : List Value} {h : List nC} {g : Nat} {rv : Option Value} {h1 : List nC} {g1 mc ms : Nat} (hok : nj_okM M mt) (hsl : (lg_sl as).length ≤ mt.2.2.1) (hrun : nj_run M X L xs n d mt 0 (lv_args 0 as) [] h g = some (rv, h1, g1, mc, ms)) :
    Met l mt.1 (nj_wsm mt) (nj_rm d mc ms) (va_Pc (as.map (nj_rl base ext)) (nj_Pre base ext cA D L xs h g)) (nj_Qc base ext cA D rv h1 g1) mc ms (nj_A base) := by
  refine Met.ofW (cc := mt.2.1) (maxL := mt.2.2.1) (ret := mt.2.2.2.1) hok.1 rfl ?_
  intro p e s m args below meth c s₁ B hml hv
  obtain ⟨rfl, hP, hK, hE, hz⟩ := hv
  have hts0 := atoms_spec (ws := nj_wsm mt) B.pre
  have hown : s.vm.findClass mt.1.cls = some m.cls := findClass_of_methodNamed B.named
  have hlocks := B.notSynchronized
  have hin : meth.name = mt.1.name := (name_of_methodNamed B.named B.method).1
  have hl := lv_entry (as.map (nj_rl base ext)) (n := mt.2.2.1) (by rw [nj_sl_len]; exact hsl)
  rw [lg_entry_eq]
  generalize (lg_sl (as.map (nj_rl base ext)) ++ List.replicate (mt.2.2.1 - (lg_sl (as.map (nj_rl base ext))).length) Slot.unset).toArray = ls at hl ⊢
  rw [nj_args_rl] at hl
  have hCx : nj_Cx base ext cA D L xs mt p s m (as.map (nj_rl base ext)).toArray meth c := ⟨B.exec, B.bytes, hml, fun w hw => hts0 w (List.mem_cons_of_mem _ hw), hown, hK, hE, fun hi => by rw [hin]; simpa using hi⟩
  refine hsim d mt 0 (lv_args 0 as) [] h g rv h1 g1 mc ms hok.2.2.2.2.2 hrun p e _ s m _ below meth c s.heap [] 0 0 _ ls hCx hl ⟨hP, va_S.rf, hz, by omega⟩ (Nat.le_refl _) (Nat.le_refl _) (by show 0 + mc ≤ mc; omega) (by show 0 + ms ≤ ms; omega) ?_
  intro H1 locs1 pc1 ls1 i st1 hst hdec hret
  have hq : ∀ t : State, t.heap = H1 → nj_Qc base ext cA D rv h1 g1 (as.map (nj_rl base ext)).toArray s (.returned (rv.map (nj_rl base ext))) t := by
    intro t ht
    refine ⟨rfl, by rw [ht]; exact hst.1, by rw [ht]; exact hst.2.2.1, hst.2.1.F ht⟩
  have hf : ∀ q ∈ locs1, nj_A base q.base := hst.2.1.2.2
  rw [Nat.zero_add, Nat.zero_add]
  have hr := B.returns
  cases i with
  | ireturn =>
    simp only [nj_ret] at hret
    split at hret
    · next x ty hty =>
      split at hret
      · next hn =>
        cases hret
        exact W.zret (ty := ty) B.exec B.bytes (by rw [hr]; exact hty) hn (fun t ht _ => hq t ht) hf hdec
      · cases hret
    · cases hret
  | lreturn =>
    simp only [nj_ret] at hret
    split at hret
    · next x =>
      split at hret
      · next hn =>
        cases hret
        exact W.lret B.exec B.bytes (by rw [hr]; exact hn) (fun t ht _ => hq t ht) hf hdec
      · cases hret
    · cases hret
  | return_ =>
    simp only [nj_ret] at hret
    split at hret
    · next hn =>
      cases hret
      exact W.vret B.exec B.bytes (by rw [hr]; exact hn) (fun t ht _ => hq t ht) hf hdec
    · cases hret
  | _ => exact nomatch (show (none : Option (Option Value)) = some rv from hret)
end NMT
section NGO
variable {p : Program} {l : Launch} {e : Env} {R : Room} {s : State} {m : MethodId} {args : Array Value} {below : List Frame} {meth : Method} {c : Code} {H : Heap} {locs : List Loc} {cells slots : Nat} {Q : State → Prop} {base : Nat} {ext : Nat → Option Nat} {cA : Nat → ClassId} {D : va_G} {h h1 : List nC} {gg g1 : Nat} {pc : Nat} {ls : Array Slot} {st0 rest : List Value} {rv : Option Value} {mc ms : Nat} {a : Array Value}
theorem nj_goon (hr : va_Run p l e R s m args below meth c H locs cells slots mc ms (F0 m pc ls st0) rest (nj_Qc base ext cA D rv h1 g1 a) (nj_A base)) (hst : nj_St base ext cA D s h gg H locs cells) (hlen : h1.length + g1 = h.length + gg + mc)
    (kk : ∀ (H1 : Heap) (locs1 : List Loc), nj_St base ext cA D s h1 g1 H1 locs1 (cells + mc) → W p l e R s m args below meth c H1 locs1 (cells + mc) (slots + ms) Q (F0 m (pc + 3) ls ((rv.map (nj_rl base ext)).toList ++ rest))) : W p l e R s m args below meth c H locs cells slots Q (F0 m pc ls st0) := by
  intro T hT X
  obtain ⟨v, st₀, t, T', Lc, h0, X', hL, e1, e2, ⟨hv, hP, hz, hF⟩, go⟩ := hr T hT X
  obtain ⟨hP0, hS, g3, g4⟩ := hst
  cases hv
  have hS1 : va_S (nj_A base) s.heap T'.heap (locs ++ Lc) := by
    rw [va_F, h0] at hF
    refine ⟨?_, fun q a1 a2 => ?_, fun q hq => ?_⟩
    · rw [e1]; exact Nat.le_trans hS.1 hF.1
    · rw [e1, hF.2 q (Nat.lt_of_lt_of_le a1 hS.1) a2]; exact hS.2.1 q a1 a2
    · rcases List.mem_append.mp hq with h | h
      · exact hS.2.2 q h
      · exact hL q h
  obtain ⟨t2, a1, b1⟩ := kk T'.heap (locs ++ Lc) ⟨by rw [e1]; exact hP, hS1, by rw [e1]; exact hz, by omega⟩ T' rfl X'
  exact ⟨t2, go t2 a1, b1⟩
theorem nj_blind {base : Nat} {ext : Nat → Option Nat} {cA : Nat → ClassId} {D : va_G} {L : Nat} {xs : Nat → Int32} {h : List nC} {gg : Nat} {as : List Value} : FrameBlind (va_Pc as (nj_Pre base ext cA D L xs h gg)) := by
  intro a U g mz q
  obtain ⟨q0, qP, qK, qE, qz⟩ := q
  exact ⟨q0, qP, va_K.moved (u := U) (U := U.calling g mz a) (Vm.Alike.refl U.vm) qK, nj_Env.same (s := U) (U := U.calling g mz a) rfl rfl qE, qz⟩
theorem nj_pre {L : Nat} {xs : Nat → Int32} (hK : va_K D nj_cl (nj_tys cA) s) (hE : nj_Env base ext L xs s) (hst : nj_St base ext cA D s h gg H locs cells) : ∀ U : State, U.heap = H → s.WarmedH U.vm → nj_Pre base ext cA D L xs h gg U := by
  intro U hU hW
  refine ⟨by rw [hU]; exact hst.1, va_K.moved hW.alike hK, hE.warm hW (by rw [hU]; exact hst.2.1.1) (fun q h1 h2 => by rw [hU]; exact hst.2.1.2.1 q h1 h2), by rw [hU]; exact hst.2.2.1⟩
end NGO
theorem nj_mem_len {L : Nat} {xs : Nat → Int32} {ini : Bool} {pc a b : Nat} {v : Int} {st : List Value} {h : List nC} {i : Instr} {r : Nat × List Value × List nC} (hr : nj_mem L xs ini pc a b v st h i = some r) : r.2.2.length = h.length := by
  cases i with
  | getfield idx => simp only [nj_mem, nj_getf] at hr; (repeat' (split at hr)) <;> first | (cases hr; done) | (cases hr; rfl)
  | putfield idx => simp only [nj_mem, nj_putf] at hr; (repeat' (split at hr)) <;> first | (cases hr; done) | (cases hr; simp)
  | iaload => simp only [nj_mem, nj_iald] at hr; (repeat' (split at hr)) <;> first | (cases hr; done) | (cases hr; rfl)
  | baload => simp only [nj_mem, nj_bald] at hr; (repeat' (split at hr)) <;> first | (cases hr; done) | (cases hr; rfl)
  | laload => simp only [nj_mem, nj_lald] at hr; (repeat' (split at hr)) <;> first | (cases hr; done) | (cases hr; rfl)
  | aaload => simp only [nj_mem, nj_aald] at hr; (repeat' (split at hr)) <;> first | (cases hr; done) | (cases hr; rfl)
  | iastore => simp only [nj_mem, nj_iast] at hr; (repeat' (split at hr)) <;> first | (cases hr; done) | (cases hr; simp)
  | bastore => simp only [nj_mem, nj_bast] at hr; (repeat' (split at hr)) <;> first | (cases hr; done) | (cases hr; simp)
  | lastore => simp only [nj_mem, nj_last] at hr; (repeat' (split at hr)) <;> first | (cases hr; done) | (cases hr; simp)
  | aastore => simp only [nj_mem, nj_aast] at hr; (repeat' (split at hr)) <;> first | (cases hr; done) | (cases hr; simp)
  | arraylength => simp only [nj_mem, nj_alen] at hr; (repeat' (split at hr)) <;> first | (cases hr; done) | (cases hr; rfl)
  | ldc idx => simp only [nj_mem] at hr; split at hr <;> (cases hr; rfl)
  | ldc_w idx => cases hr; rfl
  | ldc2_w idx => cases hr; rfl
  | getstatic idx => simp only [nj_mem] at hr; (repeat' (split at hr)) <;> first | (cases hr; done) | (cases hr; rfl)
  | _ => exact nomatch (show (none : nR) = some r from hr)
theorem nj_copy_len {st : List Value} {h : List nC} {r : List Value × List nC} (hr : nj_copy st h = some r) : r.2.length = h.length := by
  unfold nj_copy at hr
  (repeat' (split at hr)) <;> first | (cases hr; done) | (cases hr; simp)
/-- the counts of cells -/
theorem nj_run_len (M : Nat → Option nM) (X : nX) (hX : ∀ a as h r, X a as h = some r → r.2.1.length = h.length) (L : Nat) (xs : Nat → Int32) : ∀ (n d : Nat) (mt : nM) (pc : Nat) (lv : nLv) (st : List Value) (h : List nC) (g : Nat) (rv : Option Value) (h1 : List nC) (g1 mc ms : Nat), nj_run M X L xs n d mt pc lv st h g = some (rv, h1, g1, mc, ms) → h1.length + g1 = h.length + g + mc := by
  intro n
  induction n with
  | zero => intro d mt pc lv st h g rv h1 g1 mc ms hr; cases hr
  | succ n ih =>
    intro d mt pc lv st h g rv h1 g1 mc ms hr
    unfold nj_run at hr
    split at hr
    · cases hr
    · next q i a b v pos hf =>
      split at hr
      · cases hr; rfl
      · split at hr
        · cases hr
        · next pc1 lv1 st1 h2 g2 mc1 ms1 hstep =>
          split at hr
          · cases hr
          · next rv3 h3 g3 mc2 ms2 hr2 =>
            cases hr
            have e2 := ih _ _ _ _ _ _ _ _ _ _ _ _ hr2
            have e1 : h2.length + g2 = h.length + g + mc1 := by
              unfold nj_step at hstep
              split at hstep
              · cases hstep; rfl
              · split at hstep
                · next hm => cases hstep; have := nj_mem_len hm; simp at this; omega
                · split at hstep
                  · split at hstep
                    · next hg => cases hstep; simp; omega
                    · cases hstep
                  · unfold nj_calls at hstep
                    split at hstep
                    · cases hstep
                    · split at hstep
                      · split at hstep
                        · split at hstep
                          · cases hstep; rfl
                          · cases hstep
                        · cases hstep
                      · split at hstep
                        · split at hstep
                          · next hm =>
                            split at hstep
                            · cases hstep; have := nj_copy_len hm; simp at this; omega
                            · cases hstep
                          · cases hstep
                        · split at hstep
                          · split at hstep
                            · split at hstep
                              · next hm => cases hstep; have := hX _ _ _ _ hm; simp at this; omega
                              · cases hstep
                            · cases hstep
                          · split at hstep
                            · split at hstep
                              · split at hstep
                                · cases hstep; rfl
                                · cases hstep
                              · cases hstep
                            · unfold nj_inv at hstep
                              split at hstep
                              · split at hstep
                                · split at hstep
                                  · next hq => cases hstep; exact ih _ _ _ _ _ _ _ _ _ _ _ _ hq
                                  · cases hstep
                                · cases hstep
                              · cases hstep
            omega
end
section
theorem nj_take_split {st : List Value} {b : Nat} {x : Value} {As : List Value} (h : (st.take b).reverse = x :: As) : st = As.reverse ++ x :: st.drop b := by
  have h1 : st.take b = As.reverse ++ [x] := by
    have := congrArg List.reverse h
    simpa using this
  calc st = st.take b ++ st.drop b := (List.take_append_drop b st).symm
    _ = As.reverse ++ x :: st.drop b := by rw [h1]; simp
theorem nj_desc {o : Option Nat} {b : Nat} (h : o.map (fun d => d + 1) = some b) : ∃ n, o = some n ∧ b = n + 1 := by
  cases o with
  | none => cases h
  | some n => exact ⟨n, rfl, (Option.some.inj h).symm⟩
section NCL
variable {M : Nat → Option nM} {X : nX} {L : Nat} {xs : Nat → Int32} {base : Nat} {ext : Nat → Option Nat} {cA : Nat → ClassId} {D : va_G} {l : Launch} {n : Nat}
variable {p : Program} {e : Env} {R : Room} {s : State} {m : MethodId} {args : Array Value} {below : List Frame} {meth : Method} {c : Code} {H : Heap} {locs : List Loc} {cells slots : Nat} {Q : State → Prop} {h h1 : List nC} {pc : Nat} {ls : Array Slot} {st : List Value} {rv : Option Value} {mc ms : Nat} {mt mz : nM} {d1 a b pos gg g1 : Nat} {v : Int}
theorem nj_call (hXl : ∀ a as h r, X a as h = some r → r.2.1.length = h.length) (hsim : nj_Sim M X L xs base ext cA D l n) (hCx : nj_Cx base ext cA D L xs mt p s m args meth c) (hls : ls.size = mt.2.2.1) (hst : nj_St base ext cA D s h gg H locs cells) {i : Instr} (hd : decode mt.2.1 pc = .ok (i, nj_len i b)) (hok : nj_okc M mt.1.cls i a b v pos = true) (hv4 : ¬ v = 4) (hv5 : ¬ v = 5) (hv6 : ¬ v = 6) (hv7 : ¬ v = 7) (hMa : M a = some mz) (hokz : nj_okM M mz) (hpass : nj_pass mz i b st h = true) (hrun : nj_run M X L xs n d1 mz 0 (lv_args 0 (st.take b).reverse) [] h gg = some (rv, h1, g1, mc, ms))
    (hR1 : d1 + 1 + 1 ≤ R.frames) (hR2 : 64 * (d1 + 1 + 1) ≤ R.locals) (hR3 : cells + mc ≤ R.cells) (hR4 : slots + ms ≤ R.slots)
    (kk : ∀ (H1 : Heap) (locs1 : List Loc), nj_St base ext cA D s h1 g1 H1 locs1 (cells + mc) → W p l e R s m args below meth c H1 locs1 (cells + mc) (slots + ms) Q (F0 m (pc + 3) ls ((rv.toList ++ st.drop b).map (nj_rl base ext)))) : W p l e R s m args below meth c H locs cells slots Q (F0 m pc ls (st.map (nj_rl base ext))) := by
  obtain ⟨hx, hb, hml, hts, hown, hK, hE, -⟩ := hCx
  obtain ⟨z1, z2, z3, z4, z5, z6⟩ := id hokz
  simp only [nj_pass, Bool.and_eq_true, decide_eq_true_eq] at hpass
  obtain ⟨p1, p2, p3, p4⟩ := hpass
  have hmet := nj_met hsim hokz p3 hrun
  have hlen := nj_run_len M X hXl L xs n d1 mz 0 _ [] h gg rv h1 g1 mc ms hrun
  have hws : ∀ w ∈ nj_wsm mz, w ∈ nj_T := fun w hw => (List.mem_cons.mp hw).elim (fun q => by rw [q]; exact z2) (fun q => q)
  have hsum : (((st.drop b).map (nj_rl base ext)).map fun v => v.category).sum ≤ 8 := by rw [nj_sum_rl]; exact p2
  have hlas : (st.take b).reverse.length = b := by simp; omega
  have hroom : (nj_rm d1 mc ms).frames + 1 ≤ R.frames ∧ 8 + (mz.2.2.1 + 11) + (nj_rm d1 mc ms).locals ≤ R.locals := by
    refine ⟨hR1, ?_⟩
    show 8 + (mz.2.2.1 + 11) + 64 * (d1 + 1) ≤ R.locals
    omega
  have kk2 : ∀ (H1 : Heap) (locs1 : List Loc), nj_St base ext cA D s h1 g1 H1 locs1 (cells + mc) → W p l e R s m args below meth c H1 locs1 (cells + mc) (slots + ms) Q (F0 m (pc + 3) ls ((rv.map (nj_rl base ext)).toList ++ (st.drop b).map (nj_rl base ext))) := by
    intro H1 locs1 hs1
    have := kk H1 locs1 hs1
    rw [List.map_append] at this
    have e1 : (rv.map (nj_rl base ext)).toList = rv.toList.map (nj_rl base ext) := by cases rv <;> rfl
    rw [e1]
    exact this
  have hini : ∀ w ∈ nj_T, w.before args s = true := hts
  cases i with
  | invokevirtual idx =>
    simp only [nj_okc, hMa, Bool.and_eq_true, decide_eq_true_eq] at hok
    obtain ⟨-, o1, o2, o3, o4⟩ := hok
    have o4' : ((parseMethodDescriptor mz.1.desc).map (fun d => d.parameters.length)).map (fun d => d + 1) = some b := by simpa [Option.map_map, Function.comp] using o4
    obtain ⟨np, hnp, hbn⟩ := nj_desc o4'
    have hG : GoodIn nj_T (wsV mt.1.cls idx mz.1.cls mz.1 (nj_wsm mz)) := nj_T_good (fun w hw => by
      simp only [wsV, List.mem_append, List.mem_cons, List.not_mem_nil, or_false] at hw
      rcases hw with (rfl | rfl | rfl | rfl) | (rfl | hw)
      · exact nj_w_mem o1
      · exact nj_w_mem o2
      · exact nj_w_mem o3
      · exact z4
      · exact z2
      · exact hw)
    have go : ∀ (x : Value) (As : List Value) (ad : Nat), (st.take b).reverse = x :: As → nj_rl base ext x = .ref ad → (∃ cell : Cell, H[ad]? = some cell ∧ cell.vm.isStatics = false ∧ s.vm.findClass mz.1.cls = some cell.cls) → W p l e R s m args below meth c H locs cells slots Q (F0 m pc ls (st.map (nj_rl base ext))) := by
      intro x As ad hAs hrx hrc
      rw [hAs] at hmet
      simp only [List.map_cons, hrx] at hmet
      have hstk : st.map (nj_rl base ext) = (As.map (nj_rl base ext)).reverse ++ .ref ad :: (st.drop b).map (nj_rl base ext) := by
        have := congrArg (List.map (nj_rl base ext)) (nj_take_split hAs)
        rw [List.map_append, List.map_cons, hrx] at this
        rw [this, List.map_reverse]
      exact nj_goon (va_runV (C := mz.1.cls) (b := ad) (As := As.map (nj_rl base ext)) (rest := (st.drop b).map (nj_rl base ext)) ⟨hx, hb, hml, hown, hts⟩ hmet (cwV np hts hG rfl rfl rfl ⟨rfl, z3.1, z3.2, hnp⟩ hroom) ⟨nj_blind, hrc, fun U hU hW => ⟨rfl, nj_pre hK hE hst U hU hW⟩⟩ rfl (by rw [hAs] at hlas; simp at hlas ⊢; omega) hls hstk (lv_room hsum) hd ⟨hR3, hR4⟩) hst hlen kk2
    have p4 : nj_recv mz (st.take b).reverse h = true := p4
    unfold nj_recv at p4
    split at p4
    · next q As hAs =>
      split at p4
      · next ci fs hq =>
        have hcl := of_decide_eq_true p4
        obtain ⟨z, hz, hz1⟩ := Option.map_eq_some_iff.mp hcl
        have hrc := va_recv hK hst.1 hz (nj_ws_get hq)
        rw [hz1] at hrc
        exact go (.ref q) As (base + q) hAs rfl hrc
      · cases p4
    · next j As hAs =>
      simp only [Bool.and_eq_true, decide_eq_true_eq] at p4
      obtain ⟨rfl, hcls⟩ := p4
      obtain ⟨-, -, -, ⟨x2, x3, c1, c2, c3, c4, -⟩, -⟩ := id hE
      obtain ⟨cell, g1, g2, g3, -⟩ := c4.kept hst.2.1.2.1
      exact go (.retAddr 2) As x2 hAs (by show va_rf (ext 2) = _; rw [c1]; rfl) ⟨cell, g1, g2, by rw [hcls]; exact g3⟩
    · cases p4
  | invokespecial idx =>
    simp only [nj_okc, hMa, if_neg hv4, Bool.and_eq_true, decide_eq_true_eq] at hok
    obtain ⟨⟨o2, o3, o5, o4⟩, o1⟩ := hok
    have o4' : ((parseMethodDescriptor mz.1.desc).map (fun d => d.parameters.length)).map (fun d => d + 1) = some b := by simpa [Option.map_map, Function.comp] using o4
    obtain ⟨np, hnp, hbn⟩ := nj_desc o4'
    have hp4 : nj_isref (st.take b).reverse = true := p4
    unfold nj_isref at hp4
    split at hp4
    · next q As hAs =>
      rw [hAs] at hmet
      have hstk : st.map (nj_rl base ext) = (As.map (nj_rl base ext)).reverse ++ .ref (base + q) :: (st.drop b).map (nj_rl base ext) := by
        have := congrArg (List.map (nj_rl base ext)) (nj_take_split hAs)
        rw [List.map_append, List.map_cons] at this
        rw [this, List.map_reverse]
        rfl
      have hlA : (As.map (nj_rl base ext)).length = np := by rw [hAs] at hlas; simp at hlas ⊢; omega
      split at o1
      · exact nj_goon (va_runI (b := base + q) (As := As.map (nj_rl base ext)) (rest := (st.drop b).map (nj_rl base ext)) ⟨hx, hb, hml, hown, hts⟩ hmet (cwI np hts (nj_T_good hws) (by rw [nj_wsm, o5]) rfl rfl (hts _ z4) (hts _ (nj_w_mem o1)) (hts _ (nj_w_mem o2)) o3 ⟨z3.1, z3.2, hnp⟩ hroom) ⟨nj_blind, fun U hU hW => ⟨rfl, nj_pre hK hE hst U hU hW⟩⟩ rfl hlA hls hstk (lv_room hsum) hd ⟨hR3, hR4⟩) hst hlen kk2
      · simp only [Bool.and_eq_true, decide_eq_true_eq] at o1
        exact nj_goon (va_runIN (host := RX8) (b := base + q) (As := As.map (nj_rl base ext)) (rest := (st.drop b).map (nj_rl base ext)) ⟨hx, hb, hml, hown, hts⟩ hmet ⟨va_cnB np hts (nj_T_good hws) (by rw [nj_wsm, o5]) rfl rfl (hE.1 _ o1.2) (hts _ z4) ⟨z3.1, z3.2, hnp⟩ hroom, o3, hts _ (nj_w_mem o2)⟩ ⟨nj_blind, fun U hU hW => ⟨rfl, nj_pre hK hE hst U hU hW⟩⟩ rfl hlA hls hstk (lv_room hsum) hd ⟨hR3, hR4⟩) hst hlen kk2
    · cases hp4
  | invokestatic idx =>
    simp only [nj_okc, hMa, if_neg hv5, if_neg hv6, if_neg hv7, Bool.and_eq_true, decide_eq_true_eq] at hok
    obtain ⟨-, o1, o2, o4⟩ := hok
    have hG : GoodIn nj_T (va_wsS mt.1.cls idx mz.1 (nj_wsm mz)) := nj_T_good (fun w hw => by
      simp only [va_wsS, List.mem_append, List.mem_cons, List.not_mem_nil, or_false] at hw
      rcases hw with (rfl | rfl | rfl) | (rfl | hw)
      · exact nj_w_mem o1
      · exact nj_w_mem o2
      · exact z4
      · exact z2
      · exact hw)
    have hstk : st.map (nj_rl base ext) = ((st.take b).reverse.map (nj_rl base ext)).reverse ++ (st.drop b).map (nj_rl base ext) := by
      rw [List.map_reverse, List.reverse_reverse, ← List.map_append, List.take_append_drop]
    exact nj_goon (va_runS (As := (st.take b).reverse.map (nj_rl base ext)) (rest := (st.drop b).map (nj_rl base ext)) ⟨hx, hb, hml, hown, hts⟩ hmet (va_cwS b hts hG rfl rfl rfl ⟨z3.1, z3.2, o4⟩ hroom) ⟨nj_blind, fun U hU hW => ⟨rfl, nj_pre hK hE hst U hU hW⟩⟩ rfl (by simp; omega) hls hstk (lv_room hsum) hd ⟨hR3, hR4⟩) hst hlen kk2
  | _ => exact nomatch (show false = true from p4)
end NCL
end
section
theorem nj_k1 : ([.native arraycopyName, .static arraycopyName, .initialized "java/lang/System", .instanceMethod objectInit, .code objectInit ⟨#[0xb1]⟩ 1 none] : List Cond).all (fun w => decide (w ∈ lw_tbl) && goodWord w) = true := by decide +kernel
theorem nj_k1n : Cond.native arraycopyName ∈ nj_T := nj_in_of nj_k1 _ (by simp)
theorem nj_k1s : Cond.static arraycopyName ∈ nj_T := nj_in_of nj_k1 _ (by simp)
theorem nj_k1i : Cond.initialized "java/lang/System" ∈ nj_T := nj_in_of nj_k1 _ (by simp)
theorem nj_k1o : Cond.instanceMethod objectInit ∈ nj_T := nj_in_of nj_k1 _ (by simp)
theorem nj_k1c : Cond.code objectInit ⟨#[0xb1]⟩ 1 none ∈ nj_T := nj_in_of nj_k1 _ (by simp)
theorem nj_k2 : ([.static Lib.Math.min.name, .initialized "java/lang/Math", .code Lib.Math.min.name Lib.Math.min.code 2 (some .int)] : List Cond).all (fun w => decide (w ∈ lw_tbl) && goodWord w) = true := by decide +kernel
theorem nj_k2s : Cond.static Lib.Math.min.name ∈ nj_T := nj_in_of nj_k2 _ (by simp)
theorem nj_k2i : Cond.initialized "java/lang/Math" ∈ nj_T := nj_in_of nj_k2 _ (by simp)
theorem nj_k2c : Cond.code Lib.Math.min.name Lib.Math.min.code 2 (some .int) ∈ nj_T := nj_in_of nj_k2 _ (by simp)
section NCP
variable {L : Nat} {xs : Nat → Int32} {base : Nat} {ext : Nat → Option Nat} {cA : Nat → ClassId} {D : va_G} {l : Launch}
variable {p : Program} {e : Env} {R : Room} {s : State} {m : MethodId} {args : Array Value} {below : List Frame} {meth : Method} {c : Code} {H : Heap} {locs : List Loc} {cells slots : Nat} {Q : State → Prop} {h : List nC} {pc : Nat} {ls : Array Slot} {st : List Value} {mt : nM} {idx gg : Nat} {r : List Value × List nC}
theorem nj_s_copy (hCx : nj_Cx base ext cA D L xs mt p s m args meth c) (hls : ls.size = mt.2.2.1) (hst : nj_St base ext cA D s h gg H locs cells) (hd : decode mt.2.1 pc = .ok (.invokestatic idx, 3)) (hlk : (Cond.methodLink mt.1.cls idx arraycopyName).before args s = true) (hr : nj_copy st h = some r) (hsum : nj_sum r.1 ≤ 8) (hR1 : 1 ≤ R.frames) (hR2 : 64 ≤ R.locals)
    (kk : ∀ (H1 : Heap) (locs1 : List Loc), nj_St base ext cA D s r.2 gg H1 locs1 cells → W p l e R s m args below meth c H1 locs1 cells slots Q (F0 m (pc + 3) ls (r.1.map (nj_rl base ext)))) : W p l e R s m args below meth c H locs cells slots Q (F0 m pc ls (st.map (nj_rl base ext))) := by
  obtain ⟨hx, hb, hml, hts, hown, hK, hE, -⟩ := hCx
  have hlo : ((r.1.map (nj_rl base ext)).map fun v => v.category).sum + (nativeFrameWords "java/lang/System" "arraycopy" 5 + 11) ≤ R.locals := by
    rw [nj_sum_rl]
    have : nativeFrameWords "java/lang/System" "arraycopy" 5 = 7 := by decide +kernel
    omega
  unfold nj_copy at hr
  split at hr
  · next nn dp q1 sp q0 r0 =>
    split at hr
    · next k0 n0 f k1 n1 g h0 h1 =>
      split at hr
      · next hc =>
        obtain ⟨rfl, rfl, c1, c2, c3, c4, c5⟩ := hc
        cases hr
        have kk2 := nj_wr (g := F0 m (pc + 3) ls (r0.map (nj_rl base ext))) (slots := slots) (p := p) (l := l) (e := e) (R := R) (args := args) (below := below) (meth := meth) (c := c) (m := m) (Q := Q) hst (h1 := h.set q1 (.inl (0, n1, .inl (va_cpy f g sp.toNatClampNeg dp.toNatClampNeg nn.toNatClampNeg)))) (by simp) kk
        rw [← nj_ws_set] at kk2
        exact va_copyi (ty := .int) hx hb (by rw [hml, hls]) hown hlk (hts _ nj_k1n) (hts _ nj_k1s) (hts _ nj_k1i) hK hst.1 (nj_ws_D base ext cA h) (nj_S_rf hst.2.1) q0 q1 0 0 (nj_ws_get h0) (nj_ws_get h1) (nj_tys_at cA (by decide)) (nj_tys_at cA (by decide)) rfl c1 c2 c3 c4 c5 (fun _ _ => rfl) hR1 hlo hd kk2
      · cases hr
    · next k0 n0 f k1 n1 g h0 h1 =>
      split at hr
      · next hc =>
        obtain ⟨rfl, rfl, c1, c2, c3, c4, c5⟩ := hc
        cases hr
        have kk2 := nj_wr (g := F0 m (pc + 3) ls (r0.map (nj_rl base ext))) (slots := slots) (p := p) (l := l) (e := e) (R := R) (args := args) (below := below) (meth := meth) (c := c) (m := m) (Q := Q) hst (h1 := h.set q1 (.inl (3, n1, .inr (.inl (va_cpy f g sp.toNatClampNeg dp.toNatClampNeg nn.toNatClampNeg))))) (by simp) kk
        rw [← nj_ws_set] at kk2
        exact va_copyl (ty := .long) hx hb (by rw [hml, hls]) hown hlk (hts _ nj_k1n) (hts _ nj_k1s) (hts _ nj_k1i) hK hst.1 (nj_ws_D base ext cA h) (nj_S_rf hst.2.1) q0 q1 3 3 (nj_ws_get h0) (nj_ws_get h1) (nj_tys_at cA (by decide)) (nj_tys_at cA (by decide)) rfl c1 c2 c3 c4 c5 (fun _ _ => rfl) hR1 hlo hd kk2
      · cases hr
    · cases hr
  · cases hr
end NCP
section NST
variable {M : Nat → Option nM} {X : nX} {L : Nat} {xs : Nat → Int32} {base : Nat} {ext : Nat → Option Nat} {cA : Nat → ClassId} {D : va_G} {l : Launch} {n : Nat}
variable {p : Program} {e : Env} {R : Room} {s : State} {m : MethodId} {args : Array Value} {below : List Frame} {meth : Method} {c : Code} {H : Heap} {locs : List Loc} {cells slots : Nat} {Q : State → Prop} {h h1 : List nC} {pc pc1 : Nat} {lv lv1 : nLv} {ls : Array Slot} {st st1 : List Value} {mt : nM} {d a b pos g g1 mc ms : Nat} {v : Int}
/-- one instruction -/
theorem nj_sim_step (hM : ∀ (k : Nat) (mt : nM), M k = some mt → nj_okM M mt) (hX : nj_XOk X L xs base ext cA D l) (hXl : ∀ a as h r, X a as h = some r → r.2.1.length = h.length) (ih : nj_Sim M X L xs base ext cA D l n) (hCx : nj_Cx base ext cA D L xs mt p s m args meth c) (hl : lv_has ls mt.2.2.1 (nj_rlv base ext lv)) (hst : nj_St base ext cA D s h g H locs cells) {i : Instr} (hoke : nj_oke M mt.1.cls mt.2.1 (pc, i, a, b, v, pos) = true)
    (hstep : nj_step M X L xs (fun d1 mz lv0 h0 g0 => nj_run M X L xs n d1 mz 0 lv0 [] h0 g0) d mt i a b v pc lv st h g = some (pc1, lv1, st1, h1, g1, mc, ms)) (hR1 : d + 1 ≤ R.frames) (hR2 : 64 * (d + 1) ≤ R.locals) (hR3 : cells + mc ≤ R.cells) (hR4 : slots + ms ≤ R.slots)
    (kk : ∀ (H1 : Heap) (locs1 : List Loc) (ls1 : Array Slot), lv_has ls1 mt.2.2.1 (nj_rlv base ext lv1) → nj_St base ext cA D s h1 g1 H1 locs1 (cells + mc) → W p l e R s m args below meth c H1 locs1 (cells + mc) (slots + ms) Q (F0 m pc1 ls1 (st1.map (nj_rl base ext)))) : W p l e R s m args below meth c H locs cells slots Q (F0 m pc ls (st.map (nj_rl base ext))) := by
  have hCx' := hCx
  obtain ⟨hx, hb, hml, hts, hown, hK, hE, hini⟩ := hCx
  simp only [nj_oke, Bool.and_eq_true, decide_eq_true_eq] at hoke
  obtain ⟨hd, okm, okn, okc⟩ := hoke
  unfold nj_step at hstep
  split at hstep
  · next pc2 lv2 st2 hp =>
    cases hstep
    exact nj_sim_pure hx hb hl hd hp (fun ls' hl' => kk H locs ls' hl' hst)
  · split at hstep
    · next pc2 st2 h2 hm =>
      cases hstep
      exact nj_sim_mem hx hb hts hown hK hE hini hst hd okm hm (fun H1 locs1 hst1 => kk H1 locs1 ls hl hst1)
    · split at hstep
      · next pc2 st2 x z hn =>
        split at hstep
        · next hg =>
          cases hstep
          subst hg
          exact nj_sim_new hx hb hts hown hK hE hst hd okn hn hR3 hR4 (fun H1 locs1 hst1 => kk H1 locs1 ls hl hst1)
        · cases hstep
      · unfold nj_calls at hstep
        split at hstep
        · cases hstep
        · next hinv =>
          split at hstep
          · next hv4 =>
            have hsp : ∃ idx, i = .invokespecial idx ∧ nj_w pos (.methodLink mt.1.cls idx objectInit) = true := by
              cases i with
              | invokespecial idx => simp only [nj_okc, if_pos hv4] at okc; exact ⟨idx, rfl, okc⟩
              | invokevirtual idx => subst hv4; simp [nj_okc] at okc
              | invokestatic idx =>
                subst hv4
                simp only [nj_okc] at okc
                cases hMa : M a with
                | none => rw [hMa] at okc; simp at okc
                | some mz => rw [hMa] at okc; simp at okc
              | _ => exact absurd rfl hinv
            obtain ⟨idx, rfl, hw⟩ := hsp
            split at hstep
            · next k r _ _ _ =>
              split at hstep
              · next hsum =>
                cases hstep
                refine W.objInit hx hb hown (hts _ (nj_w_mem hw)) (hts _ nj_k1o) (hts _ nj_k1c) rfl (by rw [hml]; exact hl.1) (a := base + k) (rest := st1.map (nj_rl base ext)) rfl hd (by omega) ?_ ?_
                · show 2 * 0 + _ + 12 ≤ _
                  rw [nj_sum_rl]
                  omega
                · exact kk H locs ls hl hst
              · cases hstep
            · cases hstep
          · next hv4 =>
            split at hstep
            · next hv5 =>
              have hsp : ∃ idx, i = .invokestatic idx ∧ nj_w pos (.methodLink mt.1.cls idx arraycopyName) = true := by
                cases i with
                | invokestatic idx => simp only [nj_okc, if_pos hv5] at okc; exact ⟨idx, rfl, okc⟩
                | invokevirtual idx => subst hv5; simp [nj_okc] at okc
                | invokespecial idx =>
                  subst hv5
                  simp only [nj_okc] at okc
                  cases hMa : M a with
                  | none => rw [hMa] at okc; simp at okc
                  | some mz => rw [hMa] at okc; simp at okc
                | _ => exact absurd rfl hinv
              obtain ⟨idx, rfl, hw⟩ := hsp
              split at hstep
              · next r h2 hcp =>
                split at hstep
                · next hsum =>
                  cases hstep
                  exact nj_s_copy hCx' hl.1 hst hd (hts _ (nj_w_mem hw)) hcp hsum (by omega) (by omega) (fun H1 locs1 hst1 => kk H1 locs1 ls hl hst1)
                · cases hstep
              · cases hstep
            · next hv5 =>
              split at hstep
              · next hv6 =>
                have hsp : ∃ idx, i = .invokestatic idx := by
                  cases i with
                  | invokestatic idx => exact ⟨idx, rfl⟩
                  | invokevirtual idx => subst hv6; simp [nj_okc] at okc
                  | invokespecial idx =>
                    subst hv6
                    simp only [nj_okc] at okc
                    cases hMa : M a with
                    | none => rw [hMa] at okc; simp at okc
                    | some mz => rw [hMa] at okc; simp at okc
                  | _ => exact absurd rfl hinv
                obtain ⟨idx, rfl⟩ := hsp
                split at hstep
                · next hc =>
                  split at hstep
                  · next r h2 dg ms2 hXr =>
                    cases hstep
                    exact hX mt d pc idx a b st h g r h1 mc ms hXr hc.1 hc.2 p e R s m args below meth c H locs cells slots Q ls hCx' hl.1 hst hd hR1 hR2 hR3 hR4 (fun H1 locs1 hst1 => kk H1 locs1 ls hl hst1)
                  · cases hstep
                · cases hstep
              · next hv6 =>
                split at hstep
                · next hv7 =>
                  have hsp : ∃ idx, i = .invokestatic idx ∧ nj_w pos (.methodLink mt.1.cls idx Lib.Math.min.name) = true := by
                    cases i with
                    | invokestatic idx => simp only [nj_okc, if_neg hv5, if_neg hv6, if_pos hv7] at okc; exact ⟨idx, rfl, okc⟩
                    | invokevirtual idx => subst hv7; simp [nj_okc] at okc
                    | invokespecial idx =>
                      subst hv7
                      simp only [nj_okc] at okc
                      cases hMa : M a with
                      | none => rw [hMa] at okc; simp at okc
                      | some mz => rw [hMa] at okc; simp at okc
                    | _ => exact absurd rfl hinv
                  obtain ⟨idx, rfl, hw⟩ := hsp
                  split at hstep
                  · next y x r _ _ _ =>
                    split at hstep
                    · next hsum =>
                      cases hstep
                      have k0 := kk H locs ls hl hst
                      exact va_mmin hx hb (by rw [hml, hl.1]) hown (hts _ (nj_w_mem hw)) (hts _ nj_k2s) (hts _ nj_k2i) (hts _ nj_k2c) (rest := r.map (nj_rl base ext)) (by omega) (by rw [nj_sum_rl]; omega) (by omega) (by omega) hd k0
                    · cases hstep
                  · cases hstep
                · next hv7 =>
                  unfold nj_inv at hstep
                  split at hstep
                  · next d1 mz hMa =>
                    split at hstep
                    · next hpass =>
                      split at hstep
                      · next rv1 h2 g2 mc1 ms1 hr1 =>
                        cases hstep
                        exact nj_call hXl ih hCx' hl.1 hst hd okc hv4 hv5 hv6 hv7 hMa (hM a mz hMa) hpass hr1 hR1 hR2 hR3 hR4 (fun H1 locs1 hst1 => kk H1 locs1 ls hl hst1)
                      · cases hstep
                    · cases hstep
                  · cases hstep
end NST
theorem nj_sim (M : Nat → Option nM) (X : nX) (hM : ∀ (k : Nat) (mt : nM), M k = some mt → nj_okM M mt) (hXl : ∀ a as h r, X a as h = some r → r.2.1.length = h.length) (L : Nat) (xs : Nat → Int32) (base : Nat) (ext : Nat → Option Nat) (cA : Nat → ClassId) (D : va_G) (l : Launch) (hX : nj_XOk X L xs base ext cA D l) : ∀ n : Nat, nj_Sim M X L xs base ext cA D l n := by
  intro n
  induction n with
  | zero => intro d mt pc lv st h g rv h1 g1 mc ms hok hr; cases hr
  | succ n ih =>
    intro d mt pc lv st h g rv h1 g1 mc ms hok hr p e R s m args below meth c H locs cells slots Q ls hCx hl hst hR1 hR2 hR3 hR4 kret
    unfold nj_run at hr
    split at hr
    · cases hr
    · next q i a b v pos hf =>
      have hmem := List.mem_of_find?_eq_some hf
      have hpc : q = pc := by
        have := List.find?_some hf
        simpa using this
      subst hpc
      have hoke := hok _ hmem
      split at hr
      · next rv0 hret =>
        cases hr
        refine kret H locs q ls i st (by simpa using hst) ?_ hret
        simp only [nj_oke, Bool.and_eq_true, decide_eq_true_eq] at hoke
        have hd := hoke.1
        have : nj_len i b = 1 := by
          cases i <;> first | rfl | (exact nomatch (show (none : Option (Option Value)) = some rv from hret))
        rw [this] at hd
        exact hd
      · split at hr
        · cases hr
        · next pc1 lv1 st1 h2 g2 mc1 ms1 hstep =>
          split at hr
          · cases hr
          · next rv3 h3 g3 mc2 ms2 hr2 =>
            cases hr
            refine nj_sim_step hM hX hXl ih hCx hl hst hoke hstep hR1 hR2 (by omega) (by omega) (fun H1 locs1 ls1 hl1 hst1 => ?_)
            refine ih d mt pc1 lv1 st1 h2 g2 rv h1 g1 mc2 ms2 hok hr2 p e R s m args below meth c H1 locs1 (cells + mc1) (slots + ms1) Q ls1 hCx hl1 hst1 hR1 hR2 (by omega) (by omega) ?_
            intro H2 locs2 pc2 ls2 i2 st2 a1 a2 a3
            rw [Nat.add_assoc] at a1 ⊢
            rw [Nat.add_assoc]
            exact kret H2 locs2 pc2 ls2 i2 st2 a1 a2 a3
end
section
/-! total runs of the small machine -/
section NTT
variable {M : Nat → Option nM} {X : nX} {L : Nat} {xs : Nat → Int32}
theorem nj_step_mono {run run2 : Nat → nM → nLv → List nC → Nat → Option nRes} (hle : ∀ d1 mz lv0 h0 g0 r, run d1 mz lv0 h0 g0 = some r → run2 d1 mz lv0 h0 g0 = some r) {d : Nat} {mt : nM} {i : Instr} {a b : Nat} {v : Int} {pc : Nat} {lv : nLv} {st : List Value} {h : List nC} {g : Nat} {r : nS1} (hs : nj_step M X L xs run d mt i a b v pc lv st h g = some r) : nj_step M X L xs run2 d mt i a b v pc lv st h g = some r := by
  unfold nj_step at hs ⊢
  split at hs
  · next hp => (try rw [hp]); exact hs
  · next hp =>
    (try rw [hp])
    split at hs
    · next hm => (try rw [hm]); exact hs
    · next hm =>
      (try rw [hm])
      split at hs
      · next hn => (try rw [hn]); exact hs
      · next hn =>
        (try rw [hn])
        unfold nj_calls at hs ⊢
        split at hs
        · cases hs
        · next hi =>
          (try rw [if_neg hi])
          split at hs
          · next h4 => (try rw [if_pos h4]); exact hs
          · next h4 =>
            (try rw [if_neg h4])
            split at hs
            · next h5 => (try rw [if_pos h5]); exact hs
            · next h5 =>
              (try rw [if_neg h5])
              split at hs
              · next h6 => (try rw [if_pos h6]); exact hs
              · next h6 =>
                (try rw [if_neg h6])
                split at hs
                · next h7 => (try rw [if_pos h7]); exact hs
                · next h7 =>
                  (try rw [if_neg h7])
                  unfold nj_inv at hs ⊢
                  split at hs
                  · next d1 mz hMa =>
                    split at hs
                    · next hp =>
                      split at hs
                      · next hr =>
                        (try rw [hMa])
                        simp only [hp, if_true, hle _ _ _ _ _ _ hr]
                        exact hs
                      · cases hs
                    · cases hs
                  · cases hs
theorem nj_run_mono1 : ∀ (n d : Nat) (mt : nM) (pc : Nat) (lv : nLv) (st : List Value) (h : List nC) (g : Nat) (r : nRes), nj_run M X L xs n d mt pc lv st h g = some r → nj_run M X L xs (n + 1) d mt pc lv st h g = some r := by
  intro n
  induction n with
  | zero => intro d mt pc lv st h g r hr; cases hr
  | succ n ih =>
    intro d mt pc lv st h g r hr
    unfold nj_run at hr ⊢
    split at hr
    · cases hr
    · next q i a b v pos hf =>
      (try rw [hf])
      split at hr
      · next hret => (try simp only [hret]); exact hr
      · next hret =>
        (try simp only [hret])
        split at hr
        · cases hr
        · next pc1 lv1 st1 h1 g1 mc1 ms1 hs =>
          rw [nj_step_mono (fun d1 mz lv0 h0 g0 r hr => ih d1 mz 0 lv0 [] h0 g0 r hr) hs]
          split at hr
          · cases hr
          · next rv h2 g2 mc2 ms2 hr2 =>
            simp only [ih _ _ _ _ _ _ _ _ hr2]
            exact hr
theorem nj_run_mono {n n2 d : Nat} {mt : nM} {pc : Nat} {lv : nLv} {st : List Value} {h : List nC} {g : Nat} {r : nRes} (hn : n ≤ n2) (hr : nj_run M X L xs n d mt pc lv st h g = some r) : nj_run M X L xs n2 d mt pc lv st h g = some r := by
  obtain ⟨k, rfl⟩ := Nat.le.dest hn
  induction k with
  | zero => exact hr
  | succ k ih => exact nj_run_mono1 _ _ _ _ _ _ _ _ _ (ih (Nat.le_add_right _ _))
end NTT
/-- the method comes to its end, makes no cell, and Q holds there -/
def nT (M : Nat → Option nM) (X : nX) (L : Nat) (xs : Nat → Int32) (g : Nat) (d : Nat) (mt : nM) (Q : Option Value → List nC → Prop) (pc : Nat) (lv : nLv) (st : List Value) (h : List nC) : Prop := ∃ (n : Nat) (rv : Option Value) (h1 : List nC), nj_run M X L xs n d mt pc lv st h g = some (rv, h1, g, 0, 0) ∧ Q rv h1
section NTR
variable {M : Nat → Option nM} {X : nX} {L : Nat} {xs : Nat → Int32} {g d : Nat} {mt : nM} {Q : Option Value → List nC → Prop} {pc : Nat} {lv : nLv} {st : List Value} {h : List nC} {i : Instr} {q a b pos : Nat} {v : Int}
theorem nT.mono {Q2 : Option Value → List nC → Prop} (hQ : ∀ rv h1, Q rv h1 → Q2 rv h1) (k : nT M X L xs g d mt Q pc lv st h) : nT M X L xs g d mt Q2 pc lv st h := by
  obtain ⟨n, rv, h1, h2, h3⟩ := k
  exact ⟨n, rv, h1, h2, hQ _ _ h3⟩
theorem nT_ret (hf : mt.2.2.2.2.2.find? (fun q => q.1 == pc) = some (q, i, a, b, v, pos)) {rv : Option Value} (hr : nj_ret mt.2.2.2.1 i st = some rv) (hQ : Q rv h) : nT M X L xs g d mt Q pc lv st h := by
  refine ⟨1, rv, h, ?_, hQ⟩
  unfold nj_run
  simp only [hf, hr]
theorem nT_step (hf : mt.2.2.2.2.2.find? (fun q => q.1 == pc) = some (q, i, a, b, v, pos)) (hr : nj_ret mt.2.2.2.1 i st = none) {pc1 : Nat} {lv1 : nLv} {st1 : List Value} {h1 : List nC} (hs : ∀ run, nj_step M X L xs run d mt i a b v pc lv st h g = some (pc1, lv1, st1, h1, g, 0, 0)) (k : nT M X L xs g d mt Q pc1 lv1 st1 h1) : nT M X L xs g d mt Q pc lv st h := by
  obtain ⟨n, rv, h2, e1, e2⟩ := k
  refine ⟨n + 1, rv, h2, ?_, e2⟩
  unfold nj_run
  simp only [hf, hr, hs, e1]
theorem nT_pure (hf : mt.2.2.2.2.2.find? (fun q => q.1 == pc) = some (q, i, a, b, v, pos)) (hr : nj_ret mt.2.2.2.1 i st = none) {pc1 : Nat} {lv1 : nLv} {st1 : List Value} (hs : nj_pure lv mt.2.2.1 pc st i = some (pc1, lv1, st1)) (k : nT M X L xs g d mt Q pc1 lv1 st1 h) : nT M X L xs g d mt Q pc lv st h :=
  nT_step hf hr (fun run => by unfold nj_step; rw [hs]) k
theorem nT_mem (hf : mt.2.2.2.2.2.find? (fun q => q.1 == pc) = some (q, i, a, b, v, pos)) (hr : nj_ret mt.2.2.2.1 i st = none) (hp : nj_pure lv mt.2.2.1 pc st i = none) {pc1 : Nat} {st1 : List Value} {h1 : List nC} (hs : nj_mem L xs (mt.1.name == "<init>") pc a b v st h i = some (pc1, st1, h1)) (k : nT M X L xs g d mt Q pc1 lv st1 h1) : nT M X L xs g d mt Q pc lv st h :=
  nT_step hf hr (fun run => by unfold nj_step; rw [hp]; simp only [hs]) k
theorem nj_inv_pure {mL : Nat} (hi : nj_isinv i = true) : nj_pure lv mL pc st i = none := by
  cases i <;> first | rfl | cases hi
theorem nj_inv_mem {ini : Bool} (hi : nj_isinv i = true) : nj_mem L xs ini pc a b v st h i = none := by
  cases i <;> first | rfl | cases hi
theorem nj_inv_new (hi : nj_isinv i = true) : nj_new pc a st h i = none := by
  cases i <;> first | rfl | cases hi
theorem nj_inv_ret {rt : Option FieldType} (hi : nj_isinv i = true) : nj_ret rt i st = none := by
  cases i <;> first | rfl | cases hi
/-- a call without a frame of ours -/
theorem nT_c0 (hf : mt.2.2.2.2.2.find? (fun q => q.1 == pc) = some (q, i, a, b, v, pos)) (hi : nj_isinv i = true) {pc1 : Nat} {lv1 : nLv} {st1 : List Value} {h1 : List nC} (hs : ∀ run, nj_calls M X run d pc i a b v lv st h g = some (pc1, lv1, st1, h1, g, 0, 0)) (k : nT M X L xs g d mt Q pc1 lv1 st1 h1) : nT M X L xs g d mt Q pc lv st h :=
  nT_step hf (nj_inv_ret hi) (fun run => by unfold nj_step; rw [nj_inv_pure hi, nj_inv_mem hi, nj_inv_new hi]; exact hs run) k
theorem nT_call {d1 : Nat} {mz : nM} (hf : mt.2.2.2.2.2.find? (fun q => q.1 == pc) = some (q, i, a, b, v, pos)) (hi : nj_isinv i = true) (h4 : ¬ v = 4) (h5 : ¬ v = 5) (h6 : ¬ v = 6) (h7 : ¬ v = 7) (hM : M a = some mz) (hp : nj_pass mz i b st h = true) (k : nT M X L xs g d1 mz (fun rv h1 => nT M X L xs g (d1 + 1) mt Q (pc + 3) lv (rv.toList ++ st.drop b) h1) 0 (lv_args 0 (st.take b).reverse) [] h) : nT M X L xs g (d1 + 1) mt Q pc lv st h := by
  obtain ⟨n1, rv1, h1, e1, n2, rv2, h2, e2, e3⟩ := k
  refine ⟨max n1 n2 + 1, rv2, h2, ?_, e3⟩
  unfold nj_run
  have e1' := nj_run_mono (Nat.le_max_left n1 n2) e1
  have e2' := nj_run_mono (Nat.le_max_right n1 n2) e2
  simp only [hf, nj_inv_ret hi]
  have hs : nj_step M X L xs (fun d1 mz lv0 h0 g0 => nj_run M X L xs (max n1 n2) d1 mz 0 lv0 [] h0 g0) (d1 + 1) mt i a b v pc lv st h g = some (pc + 3, lv, rv1.toList ++ st.drop b, h1, g, 0, 0) := by
    unfold nj_step
    rw [nj_inv_pure hi, nj_inv_mem hi, nj_inv_new hi]
    unfold nj_calls
    rw [if_neg (by rw [hi]; decide), if_neg h4, if_neg h5, if_neg h6, if_neg h7]
    unfold nj_inv
    simp only [hM, hp, if_true, e1']
  rw [hs]
  simp only [e2']
end NTR
end
section
/-! values by what is known of them: a number; a named number and an offset; a named cell; a row outside; a long -/
abbrev aV : Type := Int ⊕ ((Nat × Int) ⊕ (Nat ⊕ (Nat ⊕ Unit)))
abbrev aRho : Type := List (Int × Int)
def aR (nu : List Int) (mu : List Nat) (a : aV) (v : Value) : Prop := match a with
  | .inl c => v = .int (Int32.ofInt c)
  | .inr (.inl (i, c)) => ∃ z, nu[i]? = some z ∧ v = .int (Int32.ofInt (z + c))
  | .inr (.inr (.inl j)) => ∃ q, mu[j]? = some q ∧ v = .ref q
  | .inr (.inr (.inr (.inl k))) => v = .retAddr k
  | .inr (.inr (.inr (.inr _))) => ∃ x, v = .long x
/-- the named numbers lie in their ranges -/
def aE (rho : aRho) (nu : List Int) : Prop := rho.length = nu.length ∧ ∀ (i : Nat) (z : Int) (r : Int × Int), nu[i]? = some z → rho[i]? = some r → r.1 ≤ z ∧ z ≤ r.2
def aFull : Int × Int := (-2147483648, 2147483647)
def aFit (r : Int × Int) : Bool := decide (-2147483648 ≤ r.1) && decide (r.2 ≤ 2147483647)
/-- the range of a whole number -/
def aIv (rho : aRho) (a : aV) : Int × Int := match a with
  | .inl c => if aFit (c, c) = true then (c, c) else aFull
  | .inr (.inl (i, c)) => match rho[i]? with
    | some r => if aFit (r.1 + c, r.2 + c) = true then (r.1 + c, r.2 + c) else aFull
    | none => aFull
  | _ => aFull
def aIsI (a : aV) : Bool := match a with
  | .inl _ => true
  | .inr (.inl _) => true
  | _ => false
def aCat (a : aV) : Nat := match a with
  | .inr (.inr (.inr (.inr _))) => 2
  | _ => 1
theorem aR_cat {nu : List Int} {mu : List Nat} {a : aV} {v : Value} (h : aR nu mu a v) : v.category = aCat a := by
  unfold aR at h
  split at h
  · subst h; rfl
  · obtain ⟨z, -, rfl⟩ := h; rfl
  · obtain ⟨z, -, rfl⟩ := h; rfl
  · subst h; rfl
  · obtain ⟨z, rfl⟩ := h; rfl
theorem a32 {z : Int} (h1 : -2147483648 ≤ z) (h2 : z ≤ 2147483647) : (Int32.ofInt z).toInt = z := Int32.toInt_ofInt_of_le (by omega) (by omega)
theorem aFull_ok (x : Int32) : aFull.1 ≤ x.toInt ∧ x.toInt ≤ aFull.2 := by
  have h1 := Int32.le_toInt x
  have h2 := Int32.toInt_lt x
  simp only [aFull]
  omega
theorem aIv_ok {rho : aRho} {nu : List Int} {mu : List Nat} {a : aV} {v : Value} (hE : aE rho nu) (hi : aIsI a = true) (h : aR nu mu a v) : ∃ x : Int32, v = .int x ∧ (aIv rho a).1 ≤ x.toInt ∧ x.toInt ≤ (aIv rho a).2 := by
  unfold aIsI at hi
  split at hi
  · next c =>
    refine ⟨_, h, ?_⟩
    simp only [aIv]
    split
    · next hf =>
      simp only [aFit, Bool.and_eq_true, decide_eq_true_eq] at hf
      rw [a32 hf.1 hf.2]
      exact ⟨Int.le_refl _, Int.le_refl _⟩
    · exact aFull_ok _
  · next p =>
    obtain ⟨i, c⟩ := p
    obtain ⟨z, hz, rfl⟩ := h
    refine ⟨_, rfl, ?_⟩
    simp only [aIv]
    split
    · next r hr =>
      have hb := hE.2 i z r hz hr
      split
      · next hf =>
        simp only [aFit, Bool.and_eq_true, decide_eq_true_eq] at hf
        rw [a32 (by omega) (by omega)]
        omega
      · exact aFull_ok _
    · exact aFull_ok _
  · cases hi
/-- a new named number -/
theorem aE_push {rho : aRho} {nu : List Int} (hE : aE rho nu) {z : Int} {r : Int × Int} (hz : r.1 ≤ z ∧ z ≤ r.2) : aE (rho ++ [r]) (nu ++ [z]) := by
  refine ⟨by simp [hE.1], fun i y q hy hq => ?_⟩
  by_cases hi : i < nu.length
  · rw [List.getElem?_append_left hi] at hy
    rw [List.getElem?_append_left (by rw [hE.1]; exact hi)] at hq
    exact hE.2 i y q hy hq
  · have hl := hE.1
    rw [List.getElem?_append_right (by omega)] at hy hq
    have hz1 : i - nu.length < 1 := (List.getElem?_eq_some_iff.mp hy).1
    have e0 : i - nu.length = 0 := by omega
    have e1 : i - rho.length = 0 := by omega
    rw [e0] at hy
    rw [e1] at hq
    cases hy
    cases hq
    exact hz
theorem aR_push {nu : List Int} {mu : List Nat} {a : aV} {v : Value} (z : Int) (h : aR nu mu a v) : aR (nu ++ [z]) mu a v := by
  unfold aR at h ⊢
  split at h
  · exact h
  · obtain ⟨y, h1, h2⟩ := h
    exact ⟨y, by rw [List.getElem?_append_left (List.getElem?_eq_some_iff.mp h1).1]; exact h1, h2⟩
  · exact h
  · exact h
  · exact h
theorem aR_pushr {nu : List Int} {mu : List Nat} {a : aV} {v : Value} (q : Nat) (h : aR nu mu a v) : aR nu (mu ++ [q]) a v := by
  unfold aR at h ⊢
  split at h
  · exact h
  · exact h
  · obtain ⟨y, h1, h2⟩ := h
    exact ⟨y, by rw [List.getElem?_append_left (List.getElem?_eq_some_iff.mp h1).1]; exact h1, h2⟩
  · exact h
  · exact h
/-- what a comparison tells -/
def aLe (rho : aRho) (a : aV) (B : Int) : Option aRho := match a with
  | .inl c => if aFit (c, c) = true then (if c ≤ B then some rho else none) else some rho
  | .inr (.inl (i, c)) => match rho[i]? with
    | some r => if aFit (r.1 + c, r.2 + c) = true then (if r.1 ≤ B - c then some (rho.set i (r.1, min r.2 (B - c))) else none) else some rho
    | none => some rho
  | _ => some rho
def aGe (rho : aRho) (a : aV) (B : Int) : Option aRho := match a with
  | .inl c => if aFit (c, c) = true then (if B ≤ c then some rho else none) else some rho
  | .inr (.inl (i, c)) => match rho[i]? with
    | some r => if aFit (r.1 + c, r.2 + c) = true then (if B - c ≤ r.2 then some (rho.set i (max r.1 (B - c), r.2)) else none) else some rho
    | none => some rho
  | _ => some rho
theorem aE_set {rho : aRho} {nu : List Int} (hE : aE rho nu) {i : Nat} {z : Int} {r : Int × Int} (hz : nu[i]? = some z) (hr : r.1 ≤ z ∧ z ≤ r.2) : aE (rho.set i r) nu := by
  refine ⟨by simp [hE.1], fun j y q hy hq => ?_⟩
  by_cases hij : i = j
  · subst hij
    have hl : i < rho.length := by rw [hE.1]; exact (List.getElem?_eq_some_iff.mp hz).1
    rw [List.getElem?_set_self hl] at hq
    cases hq
    cases hz.symm.trans hy
    exact hr
  · rw [List.getElem?_set_ne hij] at hq
    exact hE.2 j y q hy hq
theorem aLe_ok {rho : aRho} {nu : List Int} {mu : List Nat} {a : aV} {x : Int32} {B : Int} (hE : aE rho nu) (h : aR nu mu a (.int x)) (hB : x.toInt ≤ B) : ∃ rho1, aLe rho a B = some rho1 ∧ aE rho1 nu := by
  unfold aLe
  split
  · next c =>
    split
    · next hf =>
      simp only [aFit, Bool.and_eq_true, decide_eq_true_eq] at hf
      have hx : x = Int32.ofInt c := by cases h; rfl
      rw [hx, a32 hf.1 hf.2] at hB
      rw [if_pos hB]
      exact ⟨rho, rfl, hE⟩
    · exact ⟨rho, rfl, hE⟩
  · next i c =>
    split
    · next r hr =>
      split
      · next hf =>
        obtain ⟨z, hz, hx⟩ := h
        have hb := hE.2 i z r hz hr
        simp only [aFit, Bool.and_eq_true, decide_eq_true_eq] at hf
        have hx : x = Int32.ofInt (z + c) := by cases hx; rfl
        rw [hx, a32 (by omega) (by omega)] at hB
        rw [if_pos (by omega)]
        exact ⟨_, rfl, aE_set hE hz ⟨hb.1, by simp only [Int.min_def]; split <;> omega⟩⟩
      · exact ⟨rho, rfl, hE⟩
    · exact ⟨rho, rfl, hE⟩
  · exact ⟨rho, rfl, hE⟩
theorem aGe_ok {rho : aRho} {nu : List Int} {mu : List Nat} {a : aV} {x : Int32} {B : Int} (hE : aE rho nu) (h : aR nu mu a (.int x)) (hB : B ≤ x.toInt) : ∃ rho1, aGe rho a B = some rho1 ∧ aE rho1 nu := by
  unfold aGe
  split
  · next c =>
    split
    · next hf =>
      simp only [aFit, Bool.and_eq_true, decide_eq_true_eq] at hf
      have hx : x = Int32.ofInt c := by cases h; rfl
      rw [hx, a32 hf.1 hf.2] at hB
      rw [if_pos hB]
      exact ⟨rho, rfl, hE⟩
    · exact ⟨rho, rfl, hE⟩
  · next i c =>
    split
    · next r hr =>
      split
      · next hf =>
        obtain ⟨z, hz, hx⟩ := h
        have hb := hE.2 i z r hz hr
        simp only [aFit, Bool.and_eq_true, decide_eq_true_eq] at hf
        have hx : x = Int32.ofInt (z + c) := by cases hx; rfl
        rw [hx, a32 (by omega) (by omega)] at hB
        rw [if_pos (by omega)]
        exact ⟨_, rfl, aE_set hE hz ⟨by simp only [Int.max_def]; split <;> omega, hb.2⟩⟩
      · exact ⟨rho, rfl, hE⟩
    · exact ⟨rho, rfl, hE⟩
  · exact ⟨rho, rfl, hE⟩
def aNe (rho : aRho) (a : aV) (ra rb : Int × Int) : Option aRho := if rb.1 = rb.2 then (if ra.1 = rb.1 then aGe rho a (rb.1 + 1) else if ra.2 = rb.1 then aLe rho a (rb.1 - 1) else some rho) else some rho
theorem aNe_ok {rho : aRho} {nu : List Int} {mu : List Nat} {a : aV} {x y : Int32} {ra rb : Int × Int} (hE : aE rho nu) (h : aR nu mu a (.int x)) (hx : ra.1 ≤ x.toInt ∧ x.toInt ≤ ra.2) (hy : rb.1 ≤ y.toInt ∧ y.toInt ≤ rb.2) (hne : ¬ x = y) : ∃ rho1, aNe rho a ra rb = some rho1 ∧ aE rho1 nu := by
  have hne2 : ¬ x.toInt = y.toInt := fun q => hne (Int32.toInt_inj.mp q)
  unfold aNe
  split
  · next hs =>
    split
    · exact aGe_ok hE h (by omega)
    · split
      · exact aLe_ok hE h (by omega)
      · exact ⟨rho, rfl, hE⟩
  · exact ⟨rho, rfl, hE⟩
def aAnd2 (rho : aRho) (a b : aV) (f : aRho → aV → Option aRho) (g : aRho → aV → Option aRho) : Option aRho := match f rho a with
  | some r1 => g r1 b
  | none => none
/-- the ranges where the comparison holds (none: it can't) -/
def aAsm (rho : aRho) (c : Jvm.ClassFile.Cond) (a b : aV) : Option aRho := let ra := aIv rho a; let rb := aIv rho b; match c with
  | .eq => aAnd2 rho a a (fun r x => aLe r x rb.2) (fun r x => aAnd2 r x b (fun r x => aGe r x rb.1) (fun r y => aAnd2 r y y (fun r y => aLe r y ra.2) (fun r y => aGe r y ra.1)))
  | .ne => aAnd2 rho a b (fun r x => aNe r x ra rb) (fun r y => aNe r y rb ra)
  | .lt => aAnd2 rho a b (fun r x => aLe r x (rb.2 - 1)) (fun r y => aGe r y (ra.1 + 1))
  | .ge => aAnd2 rho a b (fun r x => aGe r x rb.1) (fun r y => aLe r y ra.2)
  | .gt => aAnd2 rho a b (fun r x => aGe r x (rb.1 + 1)) (fun r y => aLe r y (ra.2 - 1))
  | .le => aAnd2 rho a b (fun r x => aLe r x rb.2) (fun r y => aGe r y ra.1)
theorem aAsm_ok {rho : aRho} {nu : List Int} {mu : List Nat} {a b : aV} {x y : Int32} {c : Jvm.ClassFile.Cond} (hE : aE rho nu) (ha : aR nu mu a (.int x)) (hb : aR nu mu b (.int y)) (hia : aIsI a = true) (hib : aIsI b = true) (hc : nj_cmp c x y = true) : ∃ rho1, aAsm rho c a b = some rho1 ∧ aE rho1 nu := by
  obtain ⟨x', hx', hx1, hx2⟩ := aIv_ok hE hia ha
  cases hx'
  obtain ⟨y', hy', hy1, hy2⟩ := aIv_ok hE hib hb
  cases hy'
  unfold aAsm
  cases c <;> simp only [nj_cmp, decide_eq_true_eq] at hc
  · subst hc
    obtain ⟨r1, e1, E1⟩ := aLe_ok (B := (aIv rho b).2) hE ha hy2
    obtain ⟨r2, e2, E2⟩ := aGe_ok (B := (aIv rho b).1) E1 ha hy1
    obtain ⟨r3, e3, E3⟩ := aLe_ok (B := (aIv rho a).2) E2 hb hx2
    obtain ⟨r4, e4, E4⟩ := aGe_ok (B := (aIv rho a).1) E3 hb hx1
    refine ⟨r4, ?_, E4⟩
    simp only [aAnd2, e1, e2, e3, e4]
  · obtain ⟨r1, e1, E1⟩ := aNe_ok hE ha ⟨hx1, hx2⟩ ⟨hy1, hy2⟩ hc
    obtain ⟨r2, e2, E2⟩ := aNe_ok E1 hb ⟨hy1, hy2⟩ ⟨hx1, hx2⟩ (fun q => hc q.symm)
    exact ⟨r2, by simp only [aAnd2, e1, e2], E2⟩
  · rw [Int32.lt_iff_toInt_lt] at hc
    obtain ⟨r1, e1, E1⟩ := aLe_ok (B := (aIv rho b).2 - 1) hE ha (by omega)
    obtain ⟨r2, e2, E2⟩ := aGe_ok (B := (aIv rho a).1 + 1) E1 hb (by omega)
    exact ⟨r2, by simp only [aAnd2, e1, e2], E2⟩
  · rw [Int32.le_iff_toInt_le] at hc
    obtain ⟨r1, e1, E1⟩ := aGe_ok (B := (aIv rho b).1) hE ha (by omega)
    obtain ⟨r2, e2, E2⟩ := aLe_ok (B := (aIv rho a).2) E1 hb (by omega)
    exact ⟨r2, by simp only [aAnd2, e1, e2], E2⟩
  · rw [Int32.lt_iff_toInt_lt] at hc
    obtain ⟨r1, e1, E1⟩ := aGe_ok (B := (aIv rho b).1 + 1) hE ha (by omega)
    obtain ⟨r2, e2, E2⟩ := aLe_ok (B := (aIv rho a).2 - 1) E1 hb (by omega)
    exact ⟨r2, by simp only [aAnd2, e1, e2], E2⟩
  · rw [Int32.le_iff_toInt_le] at hc
    obtain ⟨r1, e1, E1⟩ := aLe_ok (B := (aIv rho b).2) hE ha (by omega)
    obtain ⟨r2, e2, E2⟩ := aGe_ok (B := (aIv rho a).1) E1 hb (by omega)
    exact ⟨r2, by simp only [aAnd2, e1, e2], E2⟩
def aNeg (c : Jvm.ClassFile.Cond) : Jvm.ClassFile.Cond := match c with
  | .eq => .ne
  | .ne => .eq
  | .lt => .ge
  | .ge => .lt
  | .gt => .le
  | .le => .gt
theorem aNeg_ok {c : Jvm.ClassFile.Cond} {x y : Int32} (h : nj_cmp c x y = false) : nj_cmp (aNeg c) x y = true := by
  cases c <;> simp only [nj_cmp, aNeg, decide_eq_true_eq, decide_eq_false_iff_not, Int32.not_lt, Int32.not_le, Decidable.not_not] at h ⊢ <;> exact h
end
section
/-! numbers told of a whole cell: they are no field, and hang on rows and fields that only named writes may touch -/
def gA (h : List nC) (fs : List Value) (k : Nat) : Nat → Int32 := match fs[k]? with
  | some (.ref q) => (match h[q]? with
    | some (.inl (_, _, .inl f)) => f
    | _ => fun _ => 0)
  | _ => fun _ => 0
def gI (fs : List Value) (k : Nat) : Int := match fs[k]? with
  | some (.int x) => x.toInt
  | _ => 0
/-- how high the truths stand behind the first codes; none where a code finds too few -/
def gH (f : Nat → Int32) (b : Nat) : Nat → Option Nat
  | 0 => some 0
  | i + 1 => match gH f b i with
    | none => none
    | some n => if (f (b + 3 * i)).toInt = 20 then (if 1 ≤ n then some n else none)
      else if (f (b + 3 * i)).toInt = 21 ∨ (f (b + 3 * i)).toInt = 22 then (if 2 ≤ n then some (n - 1) else none)
      else if 0 ≤ (f (b + 3 * i)).toInt ∧ (f (b + 3 * i)).toInt < 20 ∧ ((f (b + 3 * i)).toInt = 2 → 0 ≤ (f (b + 3 * i + 2)).toInt ∧ (f (b + 3 * i + 2)).toInt ≤ 5) ∧ ((f (b + 3 * i)).toInt = 3 → 0 ≤ (f (b + 3 * i + 2)).toInt ∧ (f (b + 3 * i + 2)).toInt ≤ 9) then some (n + 1) else none
/-- joins that wait -/
def gB (f : Nat → Int32) : Nat → Nat
  | 0 => 0
  | i + 1 => gB f i + (if (f i).toInt = 21 ∨ (f i).toInt = 22 then 1 else 0)
def gC (f : Nat → Int32) (i : Nat) : Bool := decide (0 ≤ (f (3 * i)).toInt ∧ (f (3 * i)).toInt ≤ 3 ∧ ((f (3 * i)).toInt = 0 → 0 ≤ (f (3 * i + 1)).toInt ∧ (f (3 * i + 1)).toInt ≤ 9 ∧ 0 ≤ (f (3 * i + 2)).toInt ∧ (f (3 * i + 2)).toInt ≤ 3) ∧ ((f (3 * i)).toInt = 1 → 0 ≤ (f (3 * i + 1)).toInt ∧ (f (3 * i + 1)).toInt ≤ 9) ∧ ((f (3 * i)).toInt = 2 → 0 ≤ (f (3 * i + 1)).toInt ∧ (f (3 * i + 1)).toInt ≤ 5 ∧ 0 ≤ (f (3 * i + 2)).toInt ∧ (f (3 * i + 2)).toInt ≤ 9))
/-- how far two rows are alike -/
def gE (f g : Nat → Int32) : Nat → Nat
  | 0 => 0
  | i + 1 => if gE f g i = i ∧ f i = g i then i + 1 else gE f g i
def gV (f : Nat → Int32) (b : Nat) : Int32 := if 0 ≤ (f b).toInt ∧ (f b).toInt ≤ 44 ∧ (gH f (b + 1) (f b).toInt.toNat).isSome = true then 1 else 0
def gAll (p : Nat → Bool) (n : Int) : Int32 := if (List.range n.toNat).all p = true then 1 else 0
def nG9 (k : Nat) (s kept rd sk : Nat → Int32) (codes top told : Int) : Int32 :=
  if k = 1000 then (match gH rd 0 codes.toNat with
    | some n => Int32.ofInt ((n : Int) - (gB sk top.toNat : Int))
    | none => -1000)
  else if k = 1001 then gAll (gC rd) told
  else if k = 1002 then gV s 179
  else if k = 1003 then gV kept 179
  else if k = 1004 then gV kept 539
  else if k = 1005 then Int32.ofNat (gE (fun j => s (179 + j)) (fun j => kept (179 + j)) 181)
  else if k = 1006 then Int32.ofNat (gE (fun j => s (179 + j)) (fun j => kept (539 + j)) 181)
  else if k = 1007 then Int32.ofNat (gE (fun j => s (180 + j)) rd 135)
  else if k = 1008 then rd (3 * codes.toNat)
  else if k = 1009 then rd (3 * codes.toNat + 2)
  else if k = 1010 then rd (3 * told.toNat)
  else if k = 1011 then rd (3 * told.toNat + 1)
  else if k = 1012 then rd (3 * told.toNat + 2)
  else if 1020 ≤ k then (match gH s 180 (k - 1020) with
    | some n => Int32.ofNat n
    | none => -1000)
  else 0
def nG4 (kd vl : Nat → Int32) (n : Int) : Int32 := gAll (fun i => decide (((kd i).toInt = 116 → 0 ≤ (vl i).toInt ∧ (vl i).toInt ≤ 5) ∧ ((kd i).toInt = 117 → 0 ≤ (vl i).toInt ∧ (vl i).toInt ≤ 9))) n
def nG6 (kd a b : Nat → Int32) (n : Int) : Int32 := gAll (fun i => decide (((kd i).toInt = 107 → 0 ≤ (a i).toInt ∧ (a i).toInt ≤ 9 ∧ 0 ≤ (b i).toInt ∧ (b i).toInt ≤ 3) ∧ ((kd i).toInt = 108 → 0 ≤ (a i).toInt ∧ (a i).toInt ≤ 9) ∧ ((kd i).toInt = 109 → 0 ≤ (a i).toInt ∧ (a i).toInt ≤ 5 ∧ 0 ≤ (b i).toInt ∧ (b i).toInt ≤ 9))) n
def gCut (b : Bool) (f : Nat → Int32) (j : Nat) : Int32 := if b then (if 179 ≤ j then f j else 0) else (if (179 ≤ j ∧ j < 360) ∨ 539 ≤ j then f j else 0)
def nGh (k : Nat) (h : List nC) (ci : Nat) (fs : List Value) : Int32 :=
  if ci = 9 then nG9 k (gCut true (gA h fs 6)) (gCut false (gA h fs 45)) (gA h fs 8) (gA h fs 38) (gI fs 39) (gI fs 41) (gI fs 35)
  else if ci = 4 then nG4 (gA h fs 0) (gA h fs 2) (gI fs 4)
  else if ci = 6 then nG6 (gA h fs 0) (gA h fs 1) (gA h fs 2) (gI fs 3)
  else 0
/-- fields that only named writes may touch -/
def nSp (t b : Nat) : Bool := (t == 9 && (b == 6 || (b == 8 || (b == 35 || (b == 38 || (b == 39 || (b == 41 || b == 45))))))) || ((t == 4 && (b == 0 || (b == 2 || b == 4))) || (t == 6 && decide (b < 4)))
/-- a field, or a number told of the cell -/
def nFd (h : List nC) (ci : Nat) (fs : List Value) (k : Nat) : Option Value := if k < 1000 then fs[k]? else some (.int (nGh k h ci fs))
def nGp (S : List Nat) (h h1 : List nC) : Prop := ∀ (q t ci : Nat) (fs fs1 : List Value) (k : Nat), S[q]? = some t → h[q]? = some (.inr (ci, fs)) → h1[q]? = some (.inr (ci, fs1)) → nGh k h1 ci fs1 = nGh k h ci fs
theorem nFd_gp {S : List Nat} {h h1 : List nC} (hG : nGp S h h1) {q t ci : Nat} {fs fs1 : List Value} {k : Nat} (ht : S[q]? = some t) (hq : h[q]? = some (.inr (ci, fs))) (hq1 : h1[q]? = some (.inr (ci, fs1))) (hk : k < 1000 → fs1[k]? = fs[k]?) : nFd h1 ci fs1 k = nFd h ci fs k := by
  unfold nFd
  split
  · next e => exact hk e
  · rw [hG q t ci fs fs1 k ht hq hq1]
theorem nGp.rf {S : List Nat} {h : List nC} : nGp S h h := fun q t ci fs fs1 k _ h1 h2 => by
  cases h1.symm.trans h2
  rfl
end
section
/-! kinds of cells: what fields and rows may hold -/
abbrev fTy : Type := (Int × Int) ⊕ (Nat ⊕ Unit)
abbrev nSeg : Type := Nat × Int × Int × Bool
abbrev aTy : Type := Nat × Nat × (List nSeg ⊕ (Nat ⊕ Unit))
def sAt (segs : List nSeg) (j : Nat) : Option (Int × Int × Bool) := (segs.find? (fun q => decide (j < q.1))).map (fun q => q.2)
/-- the stretches that places from lo to hi can lie in -/
def sHit : List nSeg → Nat → Nat → Nat → List (Int × Int × Bool)
  | [], _, _, _ => []
  | q :: r, s0, lo, hi => if lo < q.1 ∧ s0 ≤ hi ∧ s0 < q.1 then q.2 :: sHit r (max s0 q.1) lo hi else sHit r (max s0 q.1) lo hi
theorem sHit_ok : ∀ (segs : List nSeg) (s0 lo hi j : Nat) (r : Int × Int × Bool), s0 ≤ j → lo ≤ j → j ≤ hi → sAt segs j = some r → r ∈ sHit segs s0 lo hi := by
  intro segs
  induction segs with
  | nil => intro s0 lo hi j r h0 h1 h2 h; simp [sAt] at h
  | cons q segs ih =>
    intro s0 lo hi j r h0 h1 h2 h
    unfold sHit
    by_cases hj : j < q.1
    · have e : q.2 = r := by
        simp only [sAt, List.find?_cons, hj, decide_true, Option.map_some] at h
        exact Option.some.inj h
      rw [if_pos ⟨by omega, by omega, by omega⟩, e]
      exact List.mem_cons_self
    · have e : sAt segs j = some r := by
        simp only [sAt, List.find?_cons, hj, decide_false] at h
        exact h
      have := ih (max s0 q.1) lo hi j r (by omega) h1 h2 e
      split
      · exact List.mem_cons_of_mem _ this
      · exact this
def sJoin : List (Int × Int × Bool) → Int × Int
  | [] => aFull
  | [q] => (q.1, q.2.1)
  | q :: r => (min q.1 (sJoin r).1, max q.2.1 (sJoin r).2)
theorem sJoin_ok : ∀ (l : List (Int × Int × Bool)) (q : Int × Int × Bool), q ∈ l → (sJoin l).1 ≤ q.1 ∧ q.2.1 ≤ (sJoin l).2 := by
  intro l
  induction l with
  | nil => intro q h; cases h
  | cons x l ih =>
    intro q h
    cases l with
    | nil =>
      have : q = x := by simpa using h
      subst this
      exact ⟨Int.le_refl _, Int.le_refl _⟩
    | cons y l =>
      show min x.1 (sJoin (y :: l)).1 ≤ q.1 ∧ q.2.1 ≤ max x.2.1 (sJoin (y :: l)).2
      rcases List.mem_cons.mp h with rfl | h
      · exact ⟨Int.min_le_left _ _, Int.le_max_left _ _⟩
      · have := ih q h
        exact ⟨Int.le_trans (Int.min_le_right _ _) this.1, Int.le_trans this.2 (Int.le_max_right _ _)⟩
/-- kinds of objects by number: the classes' own, and 1002 for the life that is only tried -/
def oT (t : Nat) : Option Nat := if t < 10 then some t else if t = 1002 then some 2 else none
def vOk (S : List Nat) (ty : fTy) (v : Value) : Prop := match ty with
  | .inl r => ∃ x : Int32, v = .int x ∧ r.1 ≤ x.toInt ∧ x.toInt ≤ r.2
  | .inr (.inl tg) => ∃ q : Nat, v = .ref q ∧ S[q]? = some tg
  | .inr (.inr _) => ∃ x, v = .long x
def eOk (S : List Nat) (et : List nSeg ⊕ (Nat ⊕ Unit)) (n : Nat) (ct : (Nat → Int32) ⊕ (Nat → Int64) ⊕ (Nat → Option Nat)) : Prop := match et, ct with
  | .inl segs, .inl f => ∀ j, j < n → ∃ r, sAt segs j = some r ∧ r.1 ≤ (f j).toInt ∧ (f j).toInt ≤ r.2.1
  | .inr (.inl tg), .inr (.inr f) => ∀ j, j < n → ∃ q : Nat, f j = some q ∧ S[q]? = some tg
  | .inr (.inr _), .inr (.inl _) => True
  | _, _ => False
def cOk (FT : Nat → Nat → Option fTy) (AT : Nat → Option aTy) (S : List Nat) (t : Nat) (c : nC) : Prop := match c with
  | .inr (ci, fs) => oT t = some ci ∧ ∀ (k : Nat) (ty : fTy), FT t k = some ty → ∃ v : Value, fs[k]? = some v ∧ vOk S ty v
  | .inl (kd, n, ct) => oT t = none ∧ ∃ et, AT t = some (kd, n, et) ∧ eOk S et n ct
def tOk (FT : Nat → Nat → Option fTy) (AT : Nat → Option aTy) (S : List Nat) (h : List nC) : Prop := ∀ (q t : Nat), S[q]? = some t → ∃ c : nC, h[q]? = some c ∧ cOk FT AT S t c
theorem tOk_set {FT : Nat → Nat → Option fTy} {AT : Nat → Option aTy} {S : List Nat} {h : List nC} {q t : Nat} {c : nC} (hh : tOk FT AT S h) (ht : S[q]? = some t) (hc : cOk FT AT S t c) : tOk FT AT S (h.set q c) := by
  intro q2 t2 h2
  by_cases e : q = q2
  · subst e
    cases ht.symm.trans h2
    obtain ⟨c0, h0, -⟩ := hh q t ht
    exact ⟨c, List.getElem?_set_self (List.getElem?_eq_some_iff.mp h0).1, hc⟩
  · obtain ⟨c0, h0, h1⟩ := hh q2 t2 h2
    exact ⟨c0, by rw [List.getElem?_set_ne e]; exact h0, h1⟩
/-- what may change: fields by kind and place, rows by kind -/
def nFr (mf : List (Nat × Nat)) (ma : List Nat) (S : List Nat) (h h1 : List nC) : Prop := ∀ (q t : Nat), S[q]? = some t → ((∃ c, oT t = some c) → ∀ (ci : Nat) (fs : List Value), h[q]? = some (.inr (ci, fs)) → ∃ fs1 : List Value, h1[q]? = some (.inr (ci, fs1)) ∧ ∀ k : Nat, (t, k) ∉ mf → nFd h1 ci fs1 k = nFd h ci fs k) ∧ (oT t = none → t ∉ ma → h1[q]? = h[q]?)
theorem nFr.rf {mf : List (Nat × Nat)} {ma S : List Nat} {h : List nC} : nFr mf ma S h h := fun _ _ _ => ⟨fun _ _ fs hq => ⟨fs, hq, fun _ _ => rfl⟩, fun _ _ => rfl⟩
theorem nFr.tr {mf : List (Nat × Nat)} {ma S : List Nat} {h h1 h2 : List nC} (a : nFr mf ma S h h1) (b : nFr mf ma S h1 h2) : nFr mf ma S h h2 := by
  intro q t hq
  refine ⟨fun ht ci fs hc => ?_, fun ht hm => ?_⟩
  · obtain ⟨fs1, e1, e2⟩ := (a q t hq).1 ht ci fs hc
    obtain ⟨fs2, e3, e4⟩ := (b q t hq).1 ht ci fs1 e1
    exact ⟨fs2, e3, fun k hk => (e4 k hk).trans (e2 k hk)⟩
  · exact ((b q t hq).2 ht hm).trans ((a q t hq).2 ht hm)
theorem nFr.wk {mf mf2 : List (Nat × Nat)} {ma ma2 S : List Nat} {h h1 : List nC} (a : nFr mf ma S h h1) (hf : ∀ x ∈ mf, x ∈ mf2) (hm : ∀ x ∈ ma, x ∈ ma2) : nFr mf2 ma2 S h h1 := by
  intro q t hq
  refine ⟨fun ht ci fs hc => ?_, fun ht hn => (a q t hq).2 ht (fun z => hn (hm _ z))⟩
  obtain ⟨fs1, e1, e2⟩ := (a q t hq).1 ht ci fs hc
  exact ⟨fs1, e1, fun k hk => e2 k (fun z => hk (hf _ z))⟩
theorem nFr.setf {mf : List (Nat × Nat)} {ma S : List Nat} {h : List nC} {q t ci k : Nat} {fs : List Value} {x : Value} (ht : S[q]? = some t) (hq : h[q]? = some (.inr (ci, fs))) (h10 : oT t = some ci) (hm : (t, k) ∈ mf) (hG : nGp S h (h.set q (.inr (ci, fs.set k x)))) : nFr mf ma S h (h.set q (.inr (ci, fs.set k x))) := by
  have hl := (List.getElem?_eq_some_iff.mp hq).1
  intro q2 t2 h2
  by_cases e : q = q2
  · subst e
    cases ht.symm.trans h2
    refine ⟨fun _ ci2 fs2 hc => ?_, fun h10' => by rw [h10] at h10'; cases h10'⟩
    cases hq.symm.trans hc
    refine ⟨_, List.getElem?_set_self hl, fun k2 hk => ?_⟩
    exact nFd_gp hG h2 hc (List.getElem?_set_self hl) (fun _ => List.getElem?_set_ne (fun z : k = k2 => hk (by rw [← z]; exact hm)))
  · refine ⟨fun _ ci2 fs2 hc => ?_, fun _ _ => List.getElem?_set_ne e⟩
    have hc2 : (h.set q (.inr (ci, fs.set k x)))[q2]? = some (.inr (ci2, fs2)) := by rw [List.getElem?_set_ne e]; exact hc
    exact ⟨fs2, hc2, fun k2 _ => nFd_gp hG h2 hc hc2 (fun _ => rfl)⟩
theorem nFr.seta {mf : List (Nat × Nat)} {ma S : List Nat} {h : List nC} {q t : Nat} {c : nC} (ht : S[q]? = some t) (h10 : oT t = none) (hm : t ∈ ma) (hG : nGp S h (h.set q c)) : nFr mf ma S h (h.set q c) := by
  intro q2 t2 h2
  by_cases e : q = q2
  · subst e
    cases ht.symm.trans h2
    exact ⟨fun ⟨c, z⟩ => by (rw [h10] at z; cases z), fun _ hn => absurd hm hn⟩
  · refine ⟨fun _ ci2 fs2 hc => ?_, fun _ _ => List.getElem?_set_ne e⟩
    have hc2 : (h.set q c)[q2]? = some (.inr (ci2, fs2)) := by rw [List.getElem?_set_ne e]; exact hc
    exact ⟨fs2, hc2, fun k2 _ => nFd_gp hG h2 hc hc2 (fun _ => rfl)⟩
/-! the state by what is known of it: ranges, kinds of named cells, known fields, known places of rows, differences -/
abbrev aLin : Type := List (Int × Nat) × Int
/-- what is known of numbers beside their ranges: a sum that is at most 0, a number whose low bits are 0 -/
abbrev aDf : Type := aLin ⊕ (Nat × Nat)
def lS (nu : List Int) (l : List (Int × Nat)) : Int := (l.map (fun t => t.1 * nu.getD t.2 0)).sum
abbrev aS : Type := aRho × List Nat × List (Nat × Nat × aV) × List (Nat × aV × aV) × List aDf
def fcOk (nu : List Int) (mu : List Nat) (h : List nC) (e : Nat × Nat × aV) : Prop := ∃ (q ci : Nat) (fs : List Value) (v : Value), mu[e.1]? = some q ∧ h[q]? = some (.inr (ci, fs)) ∧ nFd h ci fs e.2.1 = some v ∧ aR nu mu e.2.2 v
def acOk (nu : List Int) (mu : List Nat) (h : List nC) (e : Nat × aV × aV) : Prop := ∃ (q kd n : Nat) (f : Nat → Int32) (i : Int32), mu[e.1]? = some q ∧ h[q]? = some (.inl (kd, n, .inl f)) ∧ aR nu mu e.2.1 (.int i) ∧ aR nu mu e.2.2 (.int (f i.toNatClampNeg))
def dfOk (nu : List Int) (e : aDf) : Prop := match e with
  | .inl l => (∀ t ∈ l.1, t.2 < nu.length) ∧ lS nu l.1 + l.2 ≤ 0
  | .inr (i, m) => ∃ x : Int, nu[i]? = some x ∧ Int32.ofInt x &&& Int32.ofNat (2 ^ m - 1) = 0
def aOk (S : List Nat) (h : List nC) (nu : List Int) (mu : List Nat) (s : aS) : Prop :=
  aE s.1 nu ∧ (s.2.1.length = mu.length ∧ ∀ (j q t : Nat), mu[j]? = some q → s.2.1[j]? = some t → S[q]? = some t) ∧ (∀ e ∈ s.2.2.1, fcOk nu mu h e) ∧ (∀ e ∈ s.2.2.2.1, acOk nu mu h e) ∧ (∀ e ∈ s.2.2.2.2, dfOk nu e)
/-- more names -/
def aX (nu : List Int) (mu : List Nat) (nu1 : List Int) (mu1 : List Nat) : Prop := ∃ l r, nu1 = nu ++ l ∧ mu1 = mu ++ r
theorem aX.rf {nu : List Int} {mu : List Nat} : aX nu mu nu mu := ⟨[], [], by simp, by simp⟩
theorem aX.tr {nu nu1 nu2 : List Int} {mu mu1 mu2 : List Nat} (a : aX nu mu nu1 mu1) (b : aX nu1 mu1 nu2 mu2) : aX nu mu nu2 mu2 := by
  obtain ⟨l, r, rfl, rfl⟩ := a
  obtain ⟨l2, r2, rfl, rfl⟩ := b
  exact ⟨l ++ l2, r ++ r2, by simp, by simp⟩
theorem aX.nu {nu nu1 : List Int} {mu mu1 : List Nat} (a : aX nu mu nu1 mu1) {i : Nat} {z : Int} (h : nu[i]? = some z) : nu1[i]? = some z := by
  obtain ⟨l, r, rfl, rfl⟩ := a
  rw [List.getElem?_append_left (List.getElem?_eq_some_iff.mp h).1]
  exact h
theorem aX.mu {nu nu1 : List Int} {mu mu1 : List Nat} (a : aX nu mu nu1 mu1) {i : Nat} {z : Nat} (h : mu[i]? = some z) : mu1[i]? = some z := by
  obtain ⟨l, r, rfl, rfl⟩ := a
  rw [List.getElem?_append_left (List.getElem?_eq_some_iff.mp h).1]
  exact h
theorem aR.x {nu nu1 : List Int} {mu mu1 : List Nat} (e : aX nu mu nu1 mu1) {a : aV} {v : Value} (h : aR nu mu a v) : aR nu1 mu1 a v := by
  unfold aR at h ⊢
  split at h
  · exact h
  · obtain ⟨y, h1, h2⟩ := h
    exact ⟨y, e.nu h1, h2⟩
  · obtain ⟨y, h1, h2⟩ := h
    exact ⟨y, e.mu h1, h2⟩
  · exact h
  · exact h
theorem fcOk.x {nu nu1 : List Int} {mu mu1 : List Nat} {h : List nC} {e : Nat × Nat × aV} (x : aX nu mu nu1 mu1) (k : fcOk nu mu h e) : fcOk nu1 mu1 h e := by
  obtain ⟨q, ci, fs, v, h1, h2, h3, h4⟩ := k
  exact ⟨q, ci, fs, v, x.mu h1, h2, h3, h4.x x⟩
theorem acOk.x {nu nu1 : List Int} {mu mu1 : List Nat} {h : List nC} {e : Nat × aV × aV} (x : aX nu mu nu1 mu1) (k : acOk nu mu h e) : acOk nu1 mu1 h e := by
  obtain ⟨q, kd, n, f, i, h1, h2, h3, h4⟩ := k
  exact ⟨q, kd, n, f, i, x.mu h1, h2, h3.x x, h4.x x⟩
theorem lS_x {nu nu1 : List Int} {mu mu1 : List Nat} (X : aX nu mu nu1 mu1) (l : List (Int × Nat)) (hl : ∀ t ∈ l, t.2 < nu.length) : lS nu1 l = lS nu l := by
  unfold lS
  congr 1
  apply List.map_congr_left
  intro t ht
  have := X.nu (List.getElem?_eq_getElem (hl t ht))
  rw [List.getD_eq_getElem?_getD, List.getD_eq_getElem?_getD, this, List.getElem?_eq_getElem (hl t ht)]
theorem dfOk.x {nu nu1 : List Int} {mu mu1 : List Nat} {e : aDf} (x : aX nu mu nu1 mu1) (k : dfOk nu e) : dfOk nu1 e := by
  cases e with
  | inl l =>
    obtain ⟨h1, h2⟩ := k
    refine ⟨fun t ht => ?_, by rw [lS_x x l.1 h1]; exact h2⟩
    obtain ⟨l2, r2, e, -⟩ := x
    rw [e, List.length_append]
    have := h1 t ht
    omega
  | inr q =>
    obtain ⟨y, h1, h2⟩ := k
    exact ⟨y, x.nu h1, h2⟩
/-- a stack by what is known of it -/
def aSt (nu : List Int) (mu : List Nat) : List aV → List Value → Prop
  | [], [] => True
  | a :: as, v :: vs => aR nu mu a v ∧ aSt nu mu as vs
  | _, _ => False
theorem aSt.x {nu nu1 : List Int} {mu mu1 : List Nat} (e : aX nu mu nu1 mu1) : ∀ {as : List aV} {vs : List Value}, aSt nu mu as vs → aSt nu1 mu1 as vs
  | [], [], _ => trivial
  | [], _ :: _, h => h
  | _ :: _, [], h => h
  | _ :: _, _ :: _, h => ⟨h.1.x e, aSt.x e h.2⟩
theorem aSt.cons {nu : List Int} {mu : List Nat} {a : aV} {as : List aV} {vs : List Value} (h : aSt nu mu (a :: as) vs) : ∃ v r, vs = v :: r ∧ aR nu mu a v ∧ aSt nu mu as r := by
  cases vs with
  | nil => exact h.elim
  | cons v r => exact ⟨v, r, rfl, h.1, h.2⟩
/-- what is known of the frame's places -/
def aLv (nu : List Int) (mu : List Nat) (al : List (Nat × aV)) (lv : nLv) : Prop := ∀ e ∈ al, ∃ v, nj_get lv e.1 = some v ∧ aR nu mu e.2 v
theorem aLv.x {nu nu1 : List Int} {mu mu1 : List Nat} (e : aX nu mu nu1 mu1) {al : List (Nat × aV)} {lv : nLv} (h : aLv nu mu al lv) : aLv nu1 mu1 al lv := fun q hq => by
  obtain ⟨v, h1, h2⟩ := h q hq
  exact ⟨v, h1, h2.x e⟩
/-- a new name for a number, for a cell -/
theorem aOk.pushI {S : List Nat} {h : List nC} {nu : List Int} {mu : List Nat} {s : aS} (k : aOk S h nu mu s) {z : Int} {r : Int × Int} (hz : r.1 ≤ z ∧ z ≤ r.2) : aOk S h (nu ++ [z]) mu (s.1 ++ [r], s.2.1, s.2.2.1, s.2.2.2.1, s.2.2.2.2) := by
  have x : aX nu mu (nu ++ [z]) mu := ⟨[z], [], rfl, by simp⟩
  exact ⟨aE_push k.1 hz, k.2.1, fun e he => (k.2.2.1 e he).x x, fun e he => (k.2.2.2.1 e he).x x, fun e he => (k.2.2.2.2 e he).x x⟩
theorem aOk.pushR {S : List Nat} {h : List nC} {nu : List Int} {mu : List Nat} {s : aS} (k : aOk S h nu mu s) {q t : Nat} (hq : S[q]? = some t) : aOk S h nu (mu ++ [q]) (s.1, s.2.1 ++ [t], s.2.2.1, s.2.2.2.1, s.2.2.2.2) := by
  have x : aX nu mu nu (mu ++ [q]) := ⟨[], [q], by simp, rfl⟩
  refine ⟨k.1, ⟨by simp [k.2.1.1], fun j q2 t2 h1 h2 => ?_⟩, fun e he => (k.2.2.1 e he).x x, fun e he => (k.2.2.2.1 e he).x x, fun e he => (k.2.2.2.2 e he).x x⟩
  by_cases hj : j < mu.length
  · rw [List.getElem?_append_left hj] at h1
    rw [List.getElem?_append_left (by rw [k.2.1.1]; exact hj)] at h2
    exact k.2.1.2 j q2 t2 h1 h2
  · have hl := k.2.1.1
    rw [List.getElem?_append_right (by omega)] at h1 h2
    have hz1 : j - mu.length < 1 := (List.getElem?_eq_some_iff.mp h1).1
    have e0 : j - mu.length = 0 := by omega
    have e1 : j - s.2.1.length = 0 := by omega
    rw [e0] at h1
    rw [e1] at h2
    cases h1
    cases h2
    exact hq
/-- the invariant beside the kinds: kept by writes to places that it doesn't speak of -/
def nJ (FT : Nat → Nat → Option fTy) (AT : Nat → Option aTy) (S : List Nat) (J : List nC → Prop) : Prop :=
  (∀ (h : List nC) (q t c b : Nat) (fs : List Value) (x : Value), J h → tOk FT AT S h → S[q]? = some t → oT t = some c → nSp t b = false → h[q]? = some (.inr (c, fs)) → J (h.set q (.inr (c, fs.set b x))) ∧ nGp S h (h.set q (.inr (c, fs.set b x)))) ∧
  (∀ (h : List nC) (q t kd n : Nat) (segs : List nSeg) (f : Nat → Int32) (j : Nat) (x : Int32), J h → tOk FT AT S h → S[q]? = some t → AT t = some (kd, n, .inl segs) → h[q]? = some (.inl (kd, n, .inl f)) → j < n → (∀ r, sAt segs j = some r → r.2.2 = false) → J (h.set q (.inl (kd, n, .inl (upd f j x)))) ∧ nGp S h (h.set q (.inl (kd, n, .inl (upd f j x))))) ∧
  (∀ (h : List nC) (q t kd n : Nat) (f f2 : Nat → Int64), J h → tOk FT AT S h → S[q]? = some t → h[q]? = some (.inl (kd, n, .inr (.inl f))) → J (h.set q (.inl (kd, n, .inr (.inl f2)))) ∧ nGp S h (h.set q (.inl (kd, n, .inr (.inl f2))))) ∧
  (∀ (h : List nC) (q t kd n : Nat) (segs : List nSeg) (f f2 : Nat → Int32), J h → tOk FT AT S h → S[q]? = some t → AT t = some (kd, n, .inl segs) → h[q]? = some (.inl (kd, n, .inl f)) → (∀ r ∈ segs, r.2.2.2 = false) → J (h.set q (.inl (kd, n, .inl f2))) ∧ nGp S h (h.set q (.inl (kd, n, .inl f2))))
end
section
/-! reading and writing by what is known -/
abbrev aSym (n : Nat) : aV := .inr (.inl (n, 0))
abbrev aRef (n : Nat) : aV := .inr (.inr (.inl n))
abbrev aLong : aV := .inr (.inr (.inr (.inr ())))
theorem aR_sym (nu : List Int) (mu : List Nat) (x : Int32) : aR (nu ++ [x.toInt]) mu (aSym nu.length) (.int x) := ⟨x.toInt, by simp, by rw [Int.add_zero, Int32.ofInt_toInt]⟩
theorem aR_ref (nu : List Int) (mu : List Nat) (q : Nat) : aR nu (mu ++ [q]) (aRef mu.length) (.ref q) := ⟨q, by simp, rfl⟩
def aGetf (FT : Nat → Nat → Option fTy) (s : aS) (a b : Nat) (st : List aV) : Option (aS × List aV) := match st with
  | .inr (.inr (.inl j)) :: r => if oT (s.2.1.getD j 0) = some a ∧ j < s.2.1.length ∧ b < 1000 then (match s.2.2.1.find? (fun e => e.1 == j && e.2.1 == b) with
    | some e => some (s, e.2.2 :: r)
    | none => match FT (s.2.1.getD j 0) b with
      | some (.inl rg) => some ((s.1 ++ [rg], s.2.1, (j, b, aSym s.1.length) :: s.2.2.1, s.2.2.2.1, s.2.2.2.2), aSym s.1.length :: r)
      | some (.inr (.inl tg)) => some ((s.1, s.2.1 ++ [tg], (j, b, aRef s.2.1.length) :: s.2.2.1, s.2.2.2.1, s.2.2.2.2), aRef s.2.1.length :: r)
      | some (.inr (.inr _)) => some (s, aLong :: r)
      | none => none) else none
  | _ => none
section AMM
variable {FT : Nat → Nat → Option fTy} {AT : Nat → Option aTy} {S : List Nat} {h : List nC} {nu : List Int} {mu : List Nat} {s s1 : aS} {a b pc : Nat} {st : List Value} {ast ast1 : List aV}
theorem aOk.tag (k : aOk S h nu mu s) {j q t : Nat} (hj : mu[j]? = some q) (ht : s.2.1[j]? = some t) : S[q]? = some t := k.2.1.2 j q t hj ht
theorem tOk.obj (hT : tOk FT AT S h) {q t a : Nat} (hq : S[q]? = some t) (ht : oT t = some a) : ∃ fs, h[q]? = some (.inr (a, fs)) ∧ ∀ (k : Nat) (ty : fTy), FT t k = some ty → ∃ v : Value, fs[k]? = some v ∧ vOk S ty v := by
  obtain ⟨c, h1, h2⟩ := hT q t hq
  cases c with
  | inl x => exact absurd h2.1 (by rw [ht]; exact fun z => by cases z)
  | inr x =>
    obtain ⟨ci, fs⟩ := x
    obtain ⟨e, h3⟩ := h2
    cases ht.symm.trans e
    exact ⟨fs, h1, h3⟩
theorem tOk.arr (hT : tOk FT AT S h) {q t kd n : Nat} {et : List nSeg ⊕ (Nat ⊕ Unit)} (hq : S[q]? = some t) (hA : AT t = some (kd, n, et)) (h10 : oT t = none) : ∃ ct, h[q]? = some (.inl (kd, n, ct)) ∧ eOk S et n ct := by
  obtain ⟨c, h1, h2⟩ := hT q t hq
  cases c with
  | inl x =>
    obtain ⟨kd2, n2, ct⟩ := x
    obtain ⟨-, et2, h3, h4⟩ := h2
    cases hA.symm.trans h3
    exact ⟨ct, h1, h4⟩
  | inr x =>
    obtain ⟨ci, fs⟩ := x
    exact absurd h2.1 (by rw [h10]; exact fun z => by cases z)
theorem m_getf (hT : tOk FT AT S h) (k : aOk S h nu mu s) (hs : aSt nu mu ast st) (hr : aGetf FT s a b ast = some (s1, ast1)) : ∃ st1 nu1 mu1, nj_getf pc a b st h = some (pc + 3, st1, h) ∧ aX nu mu nu1 mu1 ∧ aOk S h nu1 mu1 s1 ∧ aSt nu1 mu1 ast1 st1 := by
  unfold aGetf at hr
  split at hr
  · next j r =>
    obtain ⟨v0, rst, rfl, ⟨q, hj, rfl⟩, hrst⟩ := hs.cons
    split at hr
    · next hc =>
      have htag := k.tag hj (t := s.2.1.getD j 0) (by rw [List.getD_eq_getElem?_getD, List.getElem?_eq_getElem hc.2.1]; rfl)
      obtain ⟨fs, hq, hfs⟩ := hT.obj htag hc.1
      have hfd : nFd h a fs b = fs[b]? := if_pos hc.2.2
      have hget : ∀ x, fs[b]? = some x → nj_getf pc a b (.ref q :: rst) h = some (pc + 3, x :: rst, h) := fun x hx => by
        simp only [nj_getf, hq, if_true, hx]
      split at hr
      · next e he =>
        cases hr
        have hm := List.mem_of_find?_eq_some he
        have hp := List.find?_some he
        simp only [Bool.and_eq_true, beq_iff_eq] at hp
        obtain ⟨q2, ci2, fs2, v2, g1, g2, g3, g4⟩ := k.2.2.1 e hm
        rw [hp.1] at g1
        cases hj.symm.trans g1
        cases hq.symm.trans g2
        rw [hp.2, hfd] at g3
        exact ⟨v2 :: rst, nu, mu, hget v2 g3, aX.rf, k, g4, hrst⟩
      · split at hr
        · next rg hF =>
          cases hr
          obtain ⟨v, hv, x, rfl, hx⟩ := hfs b _ hF
          have X : aX nu mu (nu ++ [x.toInt]) mu := ⟨[x.toInt], [], rfl, by simp⟩
          have hl : s.1.length = nu.length := k.1.1
          have k1 := k.pushI (z := x.toInt) (r := rg) hx
          refine ⟨.int x :: rst, nu ++ [x.toInt], mu, hget _ hv, X, ⟨k1.1, k1.2.1, fun e he => ?_, k1.2.2.2.1, k1.2.2.2.2⟩, ?_, hrst.x X⟩
          · rcases List.mem_cons.mp he with rfl | he
            · exact ⟨q, a, fs, .int x, hj, hq, hfd.trans hv, by rw [hl]; exact aR_sym nu mu x⟩
            · exact k1.2.2.1 e he
          · rw [hl]; exact aR_sym nu mu x
        · next tg hF =>
          cases hr
          obtain ⟨v, hv, q2, rfl, hx⟩ := hfs b _ hF
          have X : aX nu mu nu (mu ++ [q2]) := ⟨[], [q2], by simp, rfl⟩
          have hl : s.2.1.length = mu.length := k.2.1.1
          have k1 := k.pushR hx
          refine ⟨.ref q2 :: rst, nu, mu ++ [q2], hget _ hv, X, ⟨k1.1, k1.2.1, fun e he => ?_, k1.2.2.2.1, k1.2.2.2.2⟩, ?_, hrst.x X⟩
          · rcases List.mem_cons.mp he with rfl | he
            · exact ⟨q, a, fs, .ref q2, X.mu hj, hq, hfd.trans hv, by rw [hl]; exact aR_ref nu mu q2⟩
            · exact k1.2.2.1 e he
          · rw [hl]; exact aR_ref nu mu q2
        · next hF =>
          cases hr
          obtain ⟨v, hv, x, rfl⟩ := hfs b _ hF
          exact ⟨.long x :: rst, nu, mu, hget _ hv, aX.rf, k, ⟨x, rfl⟩, hrst⟩
        · cases hr
    · cases hr
  · cases hr
end AMM
/-- may the value stand in such a field -/
def aFits (s : aS) (ty : fTy) (jt : FieldType) (x : aV) : Bool := match ty, x with
  | .inl rg, .inl c => decide (rg.1 ≤ (aIv s.1 (.inl c)).1) && (decide ((aIv s.1 (.inl c)).2 ≤ rg.2) && (match jt with
    | .int => true
    | .boolean => decide (0 ≤ (aIv s.1 (.inl c)).1) && decide ((aIv s.1 (.inl c)).2 ≤ 1)
    | _ => false))
  | .inl rg, .inr (.inl y) => decide (rg.1 ≤ (aIv s.1 (.inr (.inl y))).1) && (decide ((aIv s.1 (.inr (.inl y))).2 ≤ rg.2) && (match jt with
    | .int => true
    | .boolean => decide (0 ≤ (aIv s.1 (.inr (.inl y))).1) && decide ((aIv s.1 (.inr (.inl y))).2 ≤ 1)
    | _ => false))
  | .inr (.inl tg), .inr (.inr (.inl j)) => decide (s.2.1[j]? = some tg) && (match jt with
    | .object _ => true
    | .array _ => true
    | _ => false)
  | .inr (.inr _), .inr (.inr (.inr (.inr _))) => (match jt with
    | .long => true
    | _ => false)
  | _, _ => false
def aPutf (FT : Nat → Nat → Option fTy) (mf : List (Nat × Nat)) (s : aS) (a b : Nat) (v : Int) (st : List aV) : Option (aS × List aV) := match st with
  | x :: .inr (.inr (.inl j)) :: r => if (oT (s.2.1.getD j 0) = some a ∧ j < s.2.1.length) ∧ v = 0 ∧ (s.2.1.getD j 0, b) ∈ mf ∧ b < 1000 ∧ nSp (s.2.1.getD j 0) b = false then (match FT (s.2.1.getD j 0) b with
    | some ty => if aFits s ty (nj_ty a b) x = true then some ((s.1, s.2.1, (j, b, x) :: s.2.2.1.filter (fun e => !(e.2.1 == b && decide (s.2.1[e.1]? = some (s.2.1.getD j 0)))), s.2.2.2.1, s.2.2.2.2), r) else none
    | none => none) else none
  | _ => none
theorem aFits_ok {S : List Nat} {h : List nC} {nu : List Int} {mu : List Nat} {s : aS} (k : aOk S h nu mu s) {ty : fTy} {jt : FieldType} {x : aV} {v : Value} (hx : aR nu mu x v) (hf : aFits s ty jt x = true) : vOk S ty v ∧ nj_fit jt v = true := by
  unfold aFits at hf
  split at hf
  · next rg c =>
    simp only [Bool.and_eq_true, decide_eq_true_eq] at hf
    obtain ⟨y, rfl, h1, h2⟩ := aIv_ok k.1 rfl hx
    refine ⟨⟨y, rfl, by omega, by omega⟩, ?_⟩
    have hj := hf.2.2
    split at hj
    · rfl
    · simp only [Bool.and_eq_true, decide_eq_true_eq] at hj
      have : y.toInt = 0 ∨ y.toInt = 1 := by omega
      show decide (y = 0 ∨ y = 1) = true
      rw [decide_eq_true_eq]
      rcases this with e | e
      · exact Or.inl (Int32.toInt_inj.mp e)
      · exact Or.inr (Int32.toInt_inj.mp e)
    · cases hj
  · next rg c =>
    simp only [Bool.and_eq_true, decide_eq_true_eq] at hf
    obtain ⟨y, rfl, h1, h2⟩ := aIv_ok k.1 rfl hx
    refine ⟨⟨y, rfl, by omega, by omega⟩, ?_⟩
    have hj := hf.2.2
    split at hj
    · rfl
    · simp only [Bool.and_eq_true, decide_eq_true_eq] at hj
      have : y.toInt = 0 ∨ y.toInt = 1 := by omega
      show decide (y = 0 ∨ y = 1) = true
      rw [decide_eq_true_eq]
      rcases this with e | e
      · exact Or.inl (Int32.toInt_inj.mp e)
      · exact Or.inr (Int32.toInt_inj.mp e)
    · cases hj
  · next tg j =>
    simp only [Bool.and_eq_true, decide_eq_true_eq] at hf
    obtain ⟨q, hq, rfl⟩ := hx
    refine ⟨⟨q, rfl, k.tag hq hf.1⟩, ?_⟩
    have hj := hf.2
    split at hj
    · rfl
    · rfl
    · cases hj
  · next =>
    obtain ⟨y, rfl⟩ := hx
    refine ⟨⟨y, rfl⟩, ?_⟩
    split at hf
    · rfl
    · cases hf
  · cases hf
section AMP
variable {FT : Nat → Nat → Option fTy} {AT : Nat → Option aTy} {S : List Nat} {h : List nC} {nu : List Int} {mu : List Nat} {s s1 : aS} {a b pc : Nat} {v : Int} {st : List Value} {ast ast1 : List aV} {mf : List (Nat × Nat)} {ma : List Nat} {ini : Bool}
theorem m_putf {J : List nC → Prop} (hJ : nJ FT AT S J) (hJh : J h) (hT : tOk FT AT S h) (k : aOk S h nu mu s) (hs : aSt nu mu ast st) (hr : aPutf FT mf s a b v ast = some (s1, ast1)) : ∃ (st1 : List Value) (q t : Nat) (fs : List Value) (x : Value), nj_putf ini pc a b v st h = some (pc + 3, st1, h.set q (.inr (a, fs.set b x))) ∧ S[q]? = some t ∧ oT t = some a ∧ J (h.set q (.inr (a, fs.set b x))) ∧ tOk FT AT S (h.set q (.inr (a, fs.set b x))) ∧ nFr mf ma S h (h.set q (.inr (a, fs.set b x))) ∧ aOk S (h.set q (.inr (a, fs.set b x))) nu mu s1 ∧ aSt nu mu ast1 st1 := by
  unfold aPutf at hr
  split at hr
  · next x j r =>
    obtain ⟨v0, rst0, rfl, hx, hrst0⟩ := hs.cons
    obtain ⟨v1, rst, rfl, ⟨q, hj, rfl⟩, hrst⟩ := hrst0.cons
    split at hr
    · next hc =>
      obtain ⟨⟨hc1, hc2⟩, rfl, hmf, hb1000, hsp⟩ := hc
      split at hr
      · next ty hF =>
        split at hr
        · next hfit =>
          cases hr
          have htj : s.2.1[j]? = some (s.2.1.getD j 0) := by rw [List.getD_eq_getElem?_getD, List.getElem?_eq_getElem hc2]; rfl
          have htag := k.tag hj htj
          obtain ⟨fs, hq, hfs⟩ := hT.obj htag hc1
          obtain ⟨f1, f2⟩ := aFits_ok k hx hfit
          obtain ⟨w, hw, -⟩ := hfs b ty hF
          have hbl : b < fs.length := (List.getElem?_eq_some_iff.mp hw).1
          have hql : q < h.length := (List.getElem?_eq_some_iff.mp hq).1
          obtain ⟨hJ1, hG⟩ := hJ.1 h q _ a b fs v0 hJh hT htag hc1 hsp hq
          refine ⟨rst, q, _, fs, v0, ?_, htag, hc1, hJ1, ?_, nFr.setf htag hq hc1 hmf hG, ⟨k.1, k.2.1, fun e he => ?_, fun e he => ?_, k.2.2.2.2⟩, hrst⟩
          · simp only [nj_putf, hq]
            rw [if_pos ⟨trivial, hbl, f2, Or.inl trivial⟩]
          · refine tOk_set hT htag ⟨hc1, fun k2 ty2 hF2 => ?_⟩
            by_cases e : b = k2
            · subst e
              cases hF.symm.trans hF2
              exact ⟨v0, List.getElem?_set_self hbl, f1⟩
            · obtain ⟨w2, g1, g2⟩ := hfs k2 ty2 hF2
              exact ⟨w2, by rw [List.getElem?_set_ne e]; exact g1, g2⟩
          · rcases List.mem_cons.mp he with rfl | he
            · exact ⟨q, a, fs.set b v0, v0, hj, List.getElem?_set_self hql, (if_pos hb1000).trans (List.getElem?_set_self hbl), hx⟩
            · obtain ⟨he1, he2⟩ := List.mem_filter.mp he
              obtain ⟨q2, ci2, fs2, v2, g1, g2, g3, g4⟩ := k.2.2.1 e he1
              by_cases e2 : q = q2
              · subst e2
                cases hq.symm.trans g2
                refine ⟨q, a, fs.set b v0, v2, g1, List.getElem?_set_self hql, ?_, g4⟩
                rw [nFd_gp hG htag hq (List.getElem?_set_self hql) (fun _ => List.getElem?_set_ne ?_)]
                · exact g3
                · intro hb
                  have ht2 : s.2.1[e.1]? = some (s.2.1.getD j 0) := by
                    have hlt : e.1 < s.2.1.length := by rw [k.2.1.1]; exact (List.getElem?_eq_some_iff.mp g1).1
                    have := k.tag g1 (List.getElem?_eq_getElem hlt)
                    rw [List.getElem?_eq_getElem hlt]
                    exact this.symm.trans htag
                  simp only [Bool.not_eq_true', Bool.and_eq_false_iff, decide_eq_false_iff_not, beq_eq_false_iff_ne] at he2
                  rcases he2 with z | z
                  · exact z hb.symm
                  · exact z ht2
              · have hlt : e.1 < s.2.1.length := by rw [k.2.1.1]; exact (List.getElem?_eq_some_iff.mp g1).1
                have g2' : (h.set q (.inr (a, fs.set b v0)))[q2]? = some (.inr (ci2, fs2)) := by rw [List.getElem?_set_ne e2]; exact g2
                exact ⟨q2, ci2, fs2, v2, g1, g2', (nFd_gp hG (k.tag g1 (List.getElem?_eq_getElem hlt)) g2 g2' (fun _ => rfl)).trans g3, g4⟩
          · obtain ⟨q2, kd, n, f, i, g1, g2, g3, g4⟩ := k.2.2.2.1 e he
            refine ⟨q2, kd, n, f, i, g1, ?_, g3, g4⟩
            rw [List.getElem?_set_ne]
            · exact g2
            · intro e2
              subst e2
              cases hq.symm.trans g2
        · cases hr
      · cases hr
    · cases hr
  · cases hr
end AMP
end
section
/-- the places that an index can be -/
def aIdx (s : aS) (ix : aV) (n : Nat) : Option (Nat × Nat) := if aIsI ix = true ∧ 0 ≤ (aIv s.1 ix).1 ∧ (aIv s.1 ix).2 < (n : Int) then some ((aIv s.1 ix).1.toNat, (aIv s.1 ix).2.toNat) else none
theorem aIdx_ok {S : List Nat} {h : List nC} {nu : List Int} {mu : List Nat} {s : aS} (k : aOk S h nu mu s) {ix : aV} {n : Nat} {p : Nat × Nat} {v : Value} (hp : aIdx s ix n = some p) (hx : aR nu mu ix v) : ∃ i : Int32, v = .int i ∧ nj_ix i n = true ∧ p.1 ≤ i.toNatClampNeg ∧ i.toNatClampNeg ≤ p.2 ∧ i.toNatClampNeg < n := by
  unfold aIdx at hp
  split at hp
  · next hc =>
    cases hp
    obtain ⟨i, rfl, h1, h2⟩ := aIv_ok k.1 hc.1 hx
    have hz : i.toNatClampNeg = i.toInt.toNat := rfl
    have h0 : ¬ i < 0 := by
      rw [Int32.lt_iff_toInt_lt]
      have : (0 : Int32).toInt = 0 := rfl
      omega
    have hlt : i.toNatClampNeg < n := by omega
    refine ⟨i, rfl, ?_, by show (aIv s.1 ix).1.toNat ≤ _; omega, by show _ ≤ (aIv s.1 ix).2.toNat; omega, hlt⟩
    simp only [nj_ix, Bool.and_eq_true, decide_eq_true_eq]
    exact ⟨h0, hlt⟩
  · cases hp
theorem aR_inj {nu : List Int} {mu : List Nat} {a : aV} {x y : Int32} (h1 : aR nu mu a (.int x)) (h2 : aR nu mu a (.int y)) : x = y := by
  unfold aR at h1 h2
  split at h1
  · cases h1; cases h2; rfl
  · obtain ⟨z, z1, z2⟩ := h1
    obtain ⟨w, w1, w2⟩ := h2
    cases z1.symm.trans w1
    cases z2
    cases w2
    rfl
  · obtain ⟨z, z1, z2⟩ := h1; cases z2
  · cases h1
  · obtain ⟨z, z2⟩ := h1; cases z2
def aLdK (AT : Nat → Option aTy) (kds : List Nat) (s : aS) (ix : aV) (j : Nat) (r : List aV) : Option (aS × List aV) := match s.2.1[j]? with
  | some t => match AT t with
    | some (kd, n, .inl segs) => if oT t = none ∧ kd ∈ kds then (match aIdx s ix n with
      | some p => match s.2.2.2.1.find? (fun e => e.1 == j && decide (e.2.1 = ix)) with
        | some e => some (s, e.2.2 :: r)
        | none => some ((s.1 ++ [sJoin (sHit segs 0 p.1 p.2)], s.2.1, s.2.2.1, (j, ix, aSym s.1.length) :: s.2.2.2.1, s.2.2.2.2), aSym s.1.length :: r)
      | none => none) else none
    | _ => none
  | none => none
section AAR
variable {FT : Nat → Nat → Option fTy} {AT : Nat → Option aTy} {S : List Nat} {h : List nC} {nu : List Int} {mu : List Nat} {s s1 : aS} {pc : Nat} {st rst : List Value} {ast ast1 : List aV} {mf : List (Nat × Nat)} {ma : List Nat}
theorem m_ldK {kds : List Nat} {ix : aV} {j q : Nat} {r : List aV} {vi : Value} (hT : tOk FT AT S h) (k : aOk S h nu mu s) (hi : aR nu mu ix vi) (hj : mu[j]? = some q) (hrst : aSt nu mu r rst) (hr : aLdK AT kds s ix j r = some (s1, ast1)) : ∃ (kd n : Nat) (f : Nat → Int32) (i : Int32) (nu1 : List Int), kd ∈ kds ∧ h[q]? = some (.inl (kd, n, .inl f)) ∧ vi = .int i ∧ nj_ix i n = true ∧ aX nu mu nu1 mu ∧ aOk S h nu1 mu s1 ∧ aSt nu1 mu ast1 (.int (f i.toNatClampNeg) :: rst) := by
  unfold aLdK at hr
  split at hr
  · next t ht =>
    split at hr
    · next kd n segs hA =>
      split at hr
      · next hc =>
        split at hr
        · next p hp =>
          obtain ⟨i, rfl, hix, hi1, hi2, hi3⟩ := aIdx_ok k hp hi
          obtain ⟨ct, hq, hct⟩ := hT.arr (k.tag hj ht) hA hc.1
          cases ct with
          | inr y => exact hct.elim
          | inl f =>
            split at hr
            · next e he =>
              cases hr
              have hm := List.mem_of_find?_eq_some he
              have hp := List.find?_some he
              simp only [Bool.and_eq_true, beq_iff_eq, decide_eq_true_eq] at hp
              obtain ⟨q2, kd2, n2, f2, i2, g1, g2, g3, g4⟩ := k.2.2.2.1 e hm
              rw [hp.1] at g1
              cases hj.symm.trans g1
              cases hq.symm.trans g2
              rw [hp.2] at g3
              have hie : i2 = i := aR_inj g3 hi
              subst hie
              exact ⟨kd, n, f, i2, nu, hc.2, hq, rfl, hix, aX.rf, k, g4, hrst⟩
            · cases hr
              have X : aX nu mu (nu ++ [(f i.toNatClampNeg).toInt]) mu := ⟨[(f i.toNatClampNeg).toInt], [], rfl, by simp⟩
              have hl : s.1.length = nu.length := k.1.1
              obtain ⟨rr, hrr, hr1, hr2⟩ := hct i.toNatClampNeg hi3
              have hmem := sHit_ok segs 0 p.1 p.2 i.toNatClampNeg rr (Nat.zero_le _) hi1 hi2 hrr
              have hjn := sJoin_ok _ rr hmem
              have k1 := k.pushI (z := (f i.toNatClampNeg).toInt) (r := sJoin (sHit segs 0 p.1 p.2)) ⟨by omega, by omega⟩
              refine ⟨kd, n, f, i, _, hc.2, hq, rfl, hix, X, ⟨k1.1, k1.2.1, k1.2.2.1, fun e he => ?_, k1.2.2.2.2⟩, ?_, hrst.x X⟩
              · rcases List.mem_cons.mp he with rfl | he
                · exact ⟨q, kd, n, f, i, hj, hq, hi.x X, by rw [hl]; exact aR_sym nu mu _⟩
                · exact k1.2.2.2.1 e he
              · rw [hl]; exact aR_sym nu mu _
        · cases hr
      · cases hr
    · cases hr
  · cases hr
/-- may the value stand at the places -/
def aFitA (segs : List nSeg) (p : Nat × Nat) (r : Int × Int) : Bool := (sHit segs 0 p.1 p.2).all (fun q => decide (q.1 ≤ r.1) && (decide (r.2 ≤ q.2.1) && !q.2.2))
theorem aFitA_ok {segs : List nSeg} {p : Nat × Nat} {r : Int × Int} (hf : aFitA segs p r = true) {j : Nat} (h1 : p.1 ≤ j) (h2 : j ≤ p.2) {q : Int × Int × Bool} (hq : sAt segs j = some q) : q.1 ≤ r.1 ∧ r.2 ≤ q.2.1 ∧ q.2.2 = false := by
  have := List.all_eq_true.mp hf q (sHit_ok segs 0 p.1 p.2 j q (Nat.zero_le _) h1 h2 hq)
  simp only [Bool.and_eq_true, decide_eq_true_eq, Bool.not_eq_true'] at this
  exact this
theorem eOk_upd {segs : List nSeg} {n : Nat} {f : Nat → Int32} {j : Nat} {x : Int32} (he : eOk S (.inl segs) n (.inl f)) (hx : ∀ r, sAt segs j = some r → r.1 ≤ x.toInt ∧ x.toInt ≤ r.2.1) : eOk S (.inl segs) n (.inl (upd f j x)) := by
  intro i hi
  obtain ⟨r, h1, h2⟩ := he i hi
  by_cases e : i = j
  · subst e
    refine ⟨r, h1, ?_⟩
    simp only [upd, if_true]
    exact hx r h1
  · refine ⟨r, h1, ?_⟩
    simp only [upd, if_neg e]
    exact h2
/-- what stays known of rows when a row of kind t is written -/
def aKeep (s : aS) (t : Nat) : List (Nat × aV × aV) := s.2.2.2.1.filter (fun e => decide (¬ s.2.1[e.1]? = some t))
theorem aKeep_ok (k : aOk S h nu mu s) {q t : Nat} (hq : S[q]? = some t) {c : nC} : ∀ e ∈ aKeep s t, acOk nu mu (h.set q c) e := by
  intro e he
  obtain ⟨he1, he2⟩ := List.mem_filter.mp he
  obtain ⟨q2, kd, n, f, i, g1, g2, g3, g4⟩ := k.2.2.2.1 e he1
  refine ⟨q2, kd, n, f, i, g1, ?_, g3, g4⟩
  rw [List.getElem?_set_ne]
  · exact g2
  · intro e2
    subst e2
    have hlt : e.1 < s.2.1.length := by rw [k.2.1.1]; exact (List.getElem?_eq_some_iff.mp g1).1
    have := k.tag g1 (List.getElem?_eq_getElem hlt)
    have ht2 : s.2.1[e.1]? = some t := by rw [List.getElem?_eq_getElem hlt]; exact this.symm.trans hq
    simp [ht2] at he2
theorem aFc_arr (k : aOk S h nu mu s) {q : Nat} {x : Nat × Nat × ((Nat → Int32) ⊕ (Nat → Int64) ⊕ (Nat → Option Nat))} (hq : h[q]? = some (.inl x)) {c : nC} (hG : nGp S h (h.set q c)) : ∀ e ∈ s.2.2.1, fcOk nu mu (h.set q c) e := by
  intro e he
  obtain ⟨q2, ci2, fs2, v2, g1, g2, g3, g4⟩ := k.2.2.1 e he
  have hlt : e.1 < s.2.1.length := by rw [k.2.1.1]; exact (List.getElem?_eq_some_iff.mp g1).1
  have g2' : (h.set q c)[q2]? = some (.inr (ci2, fs2)) := by
    rw [List.getElem?_set_ne]
    · exact g2
    · intro e2
      subst e2
      cases hq.symm.trans g2
  exact ⟨q2, ci2, fs2, v2, g1, g2', (nFd_gp hG (k.tag g1 (List.getElem?_eq_getElem hlt)) g2 g2' (fun _ => rfl)).trans g3, g4⟩
/-- two places of a row that differ for sure -/
def aDif (s : aS) (a b : aV) : Bool := aIsI a && (aIsI b && (decide (0 ≤ (aIv s.1 a).1) && (decide (0 ≤ (aIv s.1 b).1) && (decide ((aIv s.1 a).2 < (aIv s.1 b).1) || decide ((aIv s.1 b).2 < (aIv s.1 a).1)))))
theorem aDif_ok {a b : aV} {x y : Int32} (k : aOk S h nu mu s) (ha : aR nu mu a (.int x)) (hb : aR nu mu b (.int y)) (hd : aDif s a b = true) : ¬ x.toNatClampNeg = y.toNatClampNeg := by
  simp only [aDif, Bool.and_eq_true, Bool.or_eq_true, decide_eq_true_eq] at hd
  obtain ⟨h1, h2, h3, h4, h5⟩ := hd
  obtain ⟨x0, e1, e2, e3⟩ := aIv_ok k.1 h1 ha
  obtain ⟨y0, f1, f2, f3⟩ := aIv_ok k.1 h2 hb
  cases e1
  cases f1
  show ¬ x.toInt.toNat = y.toInt.toNat
  omega
def aKeepD (s : aS) (j : Nat) (ix : aV) : List (Nat × aV × aV) := s.2.2.2.1.filter (fun e => e.1 == j && aDif s ix e.2.1)
def aStI (AT : Nat → Option aTy) (ma : List Nat) (s : aS) (st : List aV) : Option (aS × List aV) := match st with
  | x :: ix :: .inr (.inr (.inl j)) :: r => match s.2.1[j]? with
    | some t => match AT t with
      | some (kd, n, .inl segs) => if (oT t = none ∧ kd = 0) ∧ t ∈ ma ∧ aIsI x = true then (match aIdx s ix n with
        | some p => if aFitA segs p (aIv s.1 x) = true then some ((s.1, s.2.1, s.2.2.1, (j, ix, x) :: (aKeepD s j ix ++ aKeep s t), s.2.2.2.2), r) else none
        | none => none) else none
      | _ => none
    | none => none
  | _ => none
theorem m_iast {J : List nC → Prop} (hJ : nJ FT AT S J) (hJh : J h) (hT : tOk FT AT S h) (k : aOk S h nu mu s) (hs : aSt nu mu ast st) (hr : aStI AT ma s ast = some (s1, ast1)) : ∃ (st1 : List Value) (h1 : List nC), nj_iast pc st h = some (pc + 1, st1, h1) ∧ J h1 ∧ tOk FT AT S h1 ∧ nFr mf ma S h h1 ∧ aOk S h1 nu mu s1 ∧ aSt nu mu ast1 st1 := by
  unfold aStI at hr
  split at hr
  · next x ix j r =>
    obtain ⟨v0, rst0, rfl, hx, hrst0⟩ := hs.cons
    obtain ⟨v1, rst1, rfl, hi, hrst1⟩ := hrst0.cons
    obtain ⟨v2, rst2, rfl, ⟨q, hj, rfl⟩, hrst⟩ := hrst1.cons
    split at hr
    · next t ht =>
      split at hr
      · next kd n segs hA =>
        split at hr
        · next hc =>
          obtain ⟨⟨hc1, rfl⟩, hma, hxi⟩ := hc
          split at hr
          · next p hp =>
            split at hr
            · next hfit =>
              cases hr
              obtain ⟨i, rfl, hix, hi1, hi2, hi3⟩ := aIdx_ok k hp hi
              obtain ⟨x0, rfl, hx1, hx2⟩ := aIv_ok k.1 hxi hx
              have htag := k.tag hj ht
              obtain ⟨ct, hq, hct⟩ := hT.arr htag hA hc1
              cases ct with
              | inr y => exact hct.elim
              | inl f =>
                have hql : q < h.length := (List.getElem?_eq_some_iff.mp hq).1
                obtain ⟨hJ1, hG⟩ := hJ.2.1 h q t 0 n segs f i.toNatClampNeg x0 hJh hT htag hA hq hi3 (fun r hr => (aFitA_ok hfit hi1 hi2 hr).2.2)
                refine ⟨rst2, h.set q (.inl (0, n, .inl (upd f i.toNatClampNeg x0))), ?_, hJ1, ?_, nFr.seta htag hc1 hma hG, ⟨k.1, k.2.1, aFc_arr k hq hG, fun e he => ?_, k.2.2.2.2⟩, hrst⟩
                · simp only [nj_iast, hq, hix, and_self, if_true]
                · refine tOk_set hT htag ⟨hc1, _, hA, eOk_upd hct (fun r hr => ?_)⟩
                  have := aFitA_ok hfit hi1 hi2 hr
                  omega
                · rcases List.mem_cons.mp he with rfl | he
                  · exact ⟨q, 0, n, _, i, hj, List.getElem?_set_self hql, hi, by simp only [upd, if_true]; exact hx⟩
                  · rcases List.mem_append.mp he with he | he
                    · obtain ⟨he1, he2⟩ := List.mem_filter.mp he
                      simp only [Bool.and_eq_true, beq_iff_eq] at he2
                      obtain ⟨q2, kd2, n2, f2, i2, g1, g2, g3, g4⟩ := k.2.2.2.1 e he1
                      rw [he2.1] at g1
                      cases hj.symm.trans g1
                      cases hq.symm.trans g2
                      refine ⟨q, 0, n, _, i2, by rw [he2.1]; exact hj, List.getElem?_set_self hql, g3, ?_⟩
                      have hne := aDif_ok k hi g3 he2.2
                      simp only [upd, if_neg (fun z => hne (Eq.symm z))]
                      exact g4
                    · exact aKeep_ok k htag e he
            · cases hr
          · cases hr
        · cases hr
      · cases hr
    · cases hr
  · cases hr
end AAR
end
section
/-! sums of multiples of named numbers -/
def lIns (t : Int × Nat) : List (Int × Nat) → List (Int × Nat)
  | [] => [t]
  | u :: r => if u.2 = t.2 then (u.1 + t.1, u.2) :: r else u :: lIns t r
def lSup (rho : aRho) : List (Int × Nat) → Option Int
  | [] => some 0
  | t :: r => match lSup rho r, rho[t.2]? with
    | some z, some q => if t.1 = 0 then some z else if 0 < t.1 then some (z + t.1 * q.2) else some (z + t.1 * q.1)
    | _, _ => none
def lNeg (l : List (Int × Nat)) : List (Int × Nat) := l.map (fun t => (-t.1, t.2))
def lAdd (l m : List (Int × Nat)) : List (Int × Nat) := l.foldr lIns m
section ALI
variable {nu : List Int} {mu : List Nat} {rho : aRho}
theorem lS_ins (t : Int × Nat) : ∀ l : List (Int × Nat), lS nu (lIns t l) = t.1 * nu.getD t.2 0 + lS nu l := by
  intro l
  induction l with
  | nil => simp [lIns, lS]
  | cons u l ih =>
    unfold lIns
    split
    · next e =>
      simp only [lS, List.map_cons, List.sum_cons, e, Int.add_mul] at ih ⊢
      omega
    · simp only [lS, List.map_cons, List.sum_cons] at ih ⊢
      omega
theorem lS_add (l m : List (Int × Nat)) : lS nu (lAdd l m) = lS nu l + lS nu m := by
  induction l with
  | nil => simp [lAdd, lS]
  | cons t l ih =>
    have e : lAdd (t :: l) m = lIns t (lAdd l m) := rfl
    rw [e, lS_ins, ih]
    simp only [lS, List.map_cons, List.sum_cons]
    omega
theorem lS_neg (l : List (Int × Nat)) : lS nu (lNeg l) = - lS nu l := by
  induction l with
  | nil => simp [lNeg, lS]
  | cons t l ih =>
    simp only [lNeg, lS, List.map_cons, List.sum_cons, Int.neg_mul] at ih ⊢
    omega
theorem lSup_ok (hE : aE rho nu) : ∀ (ts : List (Int × Nat)) (z : Int), lSup rho ts = some z → lS nu ts ≤ z := by
  intro ts
  induction ts with
  | nil => intro z h; cases h; simp [lS]
  | cons t ts ih =>
    intro z h
    simp only [lSup] at h
    split at h
    · next z0 q h0 hq =>
      have h1 := ih z0 h0
      have hlt : t.2 < nu.length := by rw [← hE.1]; exact (List.getElem?_eq_some_iff.mp hq).1
      have hb := hE.2 t.2 _ q (List.getElem?_eq_getElem hlt) hq
      have e1 : nu.getD t.2 0 = nu[t.2] := by rw [List.getD_eq_getElem?_getD, List.getElem?_eq_getElem hlt]; rfl
      simp only [lS, List.map_cons, List.sum_cons, e1] at h1 ⊢
      split at h
      · next ht =>
        cases h
        rw [ht, Int.zero_mul]
        omega
      · split at h
        · next ht =>
          cases h
          have := Int.mul_le_mul_of_nonneg_left hb.2 (Int.le_of_lt ht)
          omega
        · next ht0 ht =>
          cases h
          have hneg : 0 ≤ - t.1 := by omega
          have := Int.mul_le_mul_of_nonneg_left hb.1 hneg
          rw [Int.neg_mul, Int.neg_mul] at this
          omega
    · cases h
def aPr1 (rho : aRho) (l : aLin) : Bool := match lSup rho l.1 with
  | some z => decide (z + l.2 ≤ 0)
  | none => false
def lSub (l f : aLin) : aLin := (lAdd l.1 (lNeg f.1), l.2 - f.2)
def lSh (l : List (Int × Nat)) (f : List (Int × Nat)) : Bool := l.any (fun t => f.any (fun u => u.2 == t.2))
/-- is the sum at most 0, by ranges and at most two things known -/
def aPr (s : aS) (l : aLin) : Bool := aPr1 s.1 l || (s.2.2.2.2.any (fun e => match e with
  | .inl f => lSh l.1 f.1 && aPr1 s.1 (lSub l f)
  | .inr _ => false) || s.2.2.2.2.any (fun e => match e with
  | .inl f => lSh l.1 f.1 && s.2.2.2.2.any (fun e2 => match e2 with
    | .inl f2 => lSh (lSub l f).1 f2.1 && aPr1 s.1 (lSub (lSub l f) f2)
    | .inr _ => false)
  | .inr _ => false))
def aPrF (s : aS) (l : aLin) : Bool := s.2.2.2.2.any (fun e => match e with
  | .inl f => lSh l.1 f.1 && aPr1 s.1 (lSub l f)
  | .inr _ => false)
theorem aPr1_ok (hE : aE rho nu) {l : aLin} (h : aPr1 rho l = true) : lS nu l.1 + l.2 ≤ 0 := by
  unfold aPr1 at h
  split at h
  · next z hz =>
    have := lSup_ok hE _ _ hz
    have := of_decide_eq_true h
    omega
  · cases h
theorem lSub_ok (l f : aLin) : lS nu (lSub l f).1 + (lSub l f).2 = (lS nu l.1 + l.2) - (lS nu f.1 + f.2) := by
  show lS nu (lAdd l.1 (lNeg f.1)) + (l.2 - f.2) = _
  rw [lS_add, lS_neg]
  omega
theorem aPrF_ok {S : List Nat} {h : List nC} {s : aS} (k : aOk S h nu mu s) {l : aLin} (hp : aPrF s l = true) : lS nu l.1 + l.2 ≤ 0 := by
  obtain ⟨e, he, h1⟩ := List.any_eq_true.mp hp
  have hd := k.2.2.2.2 e he
  split at h1
  · next f =>
    rw [Bool.and_eq_true] at h1
    have := aPr1_ok k.1 h1.2
    rw [lSub_ok] at this
    have := hd.2
    omega
  · cases h1
theorem aPr_ok {S : List Nat} {h : List nC} {s : aS} (k : aOk S h nu mu s) {l : aLin} (hp : aPr s l = true) : lS nu l.1 + l.2 ≤ 0 := by
  unfold aPr at hp
  rw [Bool.or_eq_true, Bool.or_eq_true] at hp
  rcases hp with hp | hp | hp
  · exact aPr1_ok k.1 hp
  · obtain ⟨e, he, h1⟩ := List.any_eq_true.mp hp
    have hd := k.2.2.2.2 e he
    split at h1
    · next f =>
      rw [Bool.and_eq_true] at h1
      have := aPr1_ok k.1 h1.2
      rw [lSub_ok] at this
      have := hd.2
      omega
    · cases h1
  · obtain ⟨e, he, h1⟩ := List.any_eq_true.mp hp
    have hd := k.2.2.2.2 e he
    split at h1
    · next f =>
      rw [Bool.and_eq_true] at h1
      obtain ⟨e2, he2, h2⟩ := List.any_eq_true.mp h1.2
      have hd2 := k.2.2.2.2 e2 he2
      split at h2
      · next f2 =>
        rw [Bool.and_eq_true] at h2
        have := aPr1_ok k.1 h2.2
        rw [lSub_ok, lSub_ok] at this
        have := hd.2
        have := hd2.2
        omega
      · cases h2
    · cases h1
end ALI
end
section
theorem nar_byte (x : Int32) : -128 ≤ (vp_nar .byte x).toInt ∧ (vp_nar .byte x).toInt ≤ 127 := by
  rw [vp_nar_byte]
  have h1 := Int8.le_toInt x.toInt8
  have h2 := Int8.toInt_lt x.toInt8
  rw [Int8.toInt_toInt32]
  omega
theorem nar_bool (x : Int32) : 0 ≤ (vp_nar .boolean x).toInt ∧ (vp_nar .boolean x).toInt ≤ 1 := by
  have h : vp_nar .boolean x = x &&& 1 := rfl
  rw [h]
  obtain ⟨j, hj, e⟩ := pk_andE x (m := 1) 1 (by decide)
  rw [e, nI_toInt (by omega)]
  omega
def aBR (kd : Nat) : Int × Int := if kd = 1 then (-128, 127) else (0, 1)
def aStB (AT : Nat → Option aTy) (ma : List Nat) (s : aS) (st : List aV) : Option (aS × List aV) := match st with
  | x :: ix :: .inr (.inr (.inl j)) :: r => match s.2.1[j]? with
    | some t => match AT t with
      | some (kd, n, .inl segs) => if (oT t = none ∧ (kd = 1 ∨ kd = 2)) ∧ t ∈ ma ∧ aIsI x = true then (match aIdx s ix n with
        | some p => if aFitA segs p (aBR kd) = true then some ((s.1, s.2.1, s.2.2.1, aKeep s t, s.2.2.2.2), r) else none
        | none => none) else none
      | _ => none
    | none => none
  | _ => none
def aStL (AT : Nat → Option aTy) (ma : List Nat) (s : aS) (st : List aV) : Option (aS × List aV) := match st with
  | .inr (.inr (.inr (.inr _))) :: ix :: .inr (.inr (.inl j)) :: r => match s.2.1[j]? with
    | some t => match AT t with
      | some (kd, n, .inr (.inr _)) => if (oT t = none ∧ kd = 3) ∧ t ∈ ma then (match aIdx s ix n with
        | some _ => some (s, r)
        | none => none) else none
      | _ => none
    | none => none
  | _ => none
def aLdL (AT : Nat → Option aTy) (s : aS) (st : List aV) : Option (aS × List aV) := match st with
  | ix :: .inr (.inr (.inl j)) :: r => match s.2.1[j]? with
    | some t => match AT t with
      | some (kd, n, .inr (.inr _)) => if oT t = none ∧ kd = 3 then (match aIdx s ix n with
        | some _ => some (s, aLong :: r)
        | none => none) else none
      | _ => none
    | none => none
  | _ => none
def aLdA (AT : Nat → Option aTy) (s : aS) (st : List aV) : Option (aS × List aV) := match st with
  | ix :: .inr (.inr (.inl j)) :: r => match s.2.1[j]? with
    | some t => match AT t with
      | some (kd, n, .inr (.inl tg)) => if oT t = none ∧ (kd = 4 ∨ kd = 5) then (match aIdx s ix n with
        | some _ => some ((s.1, s.2.1 ++ [tg], s.2.2.1, s.2.2.2.1, s.2.2.2.2), aRef s.2.1.length :: r)
        | none => none) else none
      | _ => none
    | none => none
  | _ => none
def aLen (AT : Nat → Option aTy) (ls : Option Nat) (s : aS) (st : List aV) : Option (aS × List aV) := match st with
  | .inr (.inr (.inl j)) :: r => match s.2.1[j]? with
    | some t => match AT t with
      | some (kd, n, _) => if oT t = none ∧ kd < 6 then some (s, .inl (n : Int) :: r) else none
      | _ => none
    | none => none
  | .inr (.inr (.inr (.inl j))) :: r => if j = 0 then (match ls with
    | some y => some (s, aSym y :: r)
    | none => none) else none
  | _ => none
/-- the rows outside -/
def aLdX (ls : Option Nat) (s : aS) (ix : aV) (j : Nat) (r : List aV) : Option (aS × List aV) := if j = 1 then (match ix with
    | .inl c => if 0 ≤ c ∧ c < 5 then some (s, .inl ((nj_fs.getD c.toNat 0).toInt) :: r) else none
    | _ => match aIdx s ix 5 with
      | some _ => some ((s.1 ++ [(0, 26)], s.2.1, s.2.2.1, s.2.2.2.1, s.2.2.2.2), aSym s.1.length :: r)
      | none => none)
  else if j = 0 then (match ls, ix with
    | some y, .inr (.inl (i, c)) => if aIsI ix = true ∧ aFit ((aIv s.1 ix).1, (aIv s.1 ix).2) = true ∧ 0 ≤ (aIv s.1 ix).1 ∧ aPr s ([(1, i), (-1, y)], c + 1) = true ∧ aFit (((s.1.getD i (0, 2147483648)).1 + c), ((s.1.getD i (0, 2147483648)).2 + c)) = true then some ((s.1 ++ [aFull], s.2.1, s.2.2.1, s.2.2.2.1, s.2.2.2.2), aSym s.1.length :: r) else none
    | _, _ => none)
  else none
section AA2
variable {FT : Nat → Nat → Option fTy} {AT : Nat → Option aTy} {S : List Nat} {h : List nC} {nu : List Int} {mu : List Nat} {s s1 : aS} {pc : Nat} {st : List Value} {ast ast1 : List aV} {mf : List (Nat × Nat)} {ma : List Nat} {J : List nC → Prop}
theorem m_bast (hJ : nJ FT AT S J) (hJh : J h) (hT : tOk FT AT S h) (k : aOk S h nu mu s) (hs : aSt nu mu ast st) (hr : aStB AT ma s ast = some (s1, ast1)) : ∃ (st1 : List Value) (h1 : List nC), nj_bast pc st h = some (pc + 1, st1, h1) ∧ J h1 ∧ tOk FT AT S h1 ∧ nFr mf ma S h h1 ∧ aOk S h1 nu mu s1 ∧ aSt nu mu ast1 st1 := by
  unfold aStB at hr
  split at hr
  · next x ix j r =>
    obtain ⟨v0, rst0, rfl, hx, hrst0⟩ := hs.cons
    obtain ⟨v1, rst1, rfl, hi, hrst1⟩ := hrst0.cons
    obtain ⟨v2, rst2, rfl, ⟨q, hj, rfl⟩, hrst⟩ := hrst1.cons
    split at hr
    · next t ht =>
      split at hr
      · next kd n segs hA =>
        split at hr
        · next hc =>
          obtain ⟨⟨hc1, hkd⟩, hma, hxi⟩ := hc
          split at hr
          · next p hp =>
            split at hr
            · next hfit =>
              cases hr
              obtain ⟨i, rfl, hix, hi1, hi2, hi3⟩ := aIdx_ok k hp hi
              obtain ⟨x0, rfl, hx1, hx2⟩ := aIv_ok k.1 hxi hx
              have htag := k.tag hj ht
              obtain ⟨ct, hq, hct⟩ := hT.arr htag hA hc1
              cases ct with
              | inr y => exact hct.elim
              | inl f =>
                obtain ⟨hJ1, hG⟩ := hJ.2.1 h q t kd n segs f i.toNatClampNeg (vp_nar (nj_kt kd) x0) hJh hT htag hA hq hi3 (fun r hr => (aFitA_ok hfit hi1 hi2 hr).2.2)
                refine ⟨rst2, h.set q (.inl (kd, n, .inl (upd f i.toNatClampNeg (vp_nar (nj_kt kd) x0)))), ?_, hJ1, ?_, nFr.seta htag hc1 hma hG, ⟨k.1, k.2.1, aFc_arr k hq hG, aKeep_ok k htag, k.2.2.2.2⟩, hrst⟩
                · simp only [nj_bast, hq, hix, hkd, and_self, if_true]
                · refine tOk_set hT htag ⟨hc1, _, hA, eOk_upd hct (fun r hr => ?_)⟩
                  have hb := aFitA_ok hfit hi1 hi2 hr
                  rcases hkd with rfl | rfl
                  · have := nar_byte x0
                    simp only [aBR, if_true] at hb
                    show r.1 ≤ (vp_nar .byte x0).toInt ∧ (vp_nar .byte x0).toInt ≤ r.2.1
                    omega
                  · have := nar_bool x0
                    rw [aBR, if_neg (by decide)] at hb
                    show r.1 ≤ (vp_nar .boolean x0).toInt ∧ (vp_nar .boolean x0).toInt ≤ r.2.1
                    simp only at hb
                    omega
            · cases hr
          · cases hr
        · cases hr
      · cases hr
    · cases hr
  · cases hr
theorem m_last (hJ : nJ FT AT S J) (hJh : J h) (hT : tOk FT AT S h) (k : aOk S h nu mu s) (hs : aSt nu mu ast st) (hr : aStL AT ma s ast = some (s1, ast1)) : ∃ (st1 : List Value) (h1 : List nC), nj_last pc st h = some (pc + 1, st1, h1) ∧ J h1 ∧ tOk FT AT S h1 ∧ nFr mf ma S h h1 ∧ aOk S h1 nu mu s1 ∧ aSt nu mu ast1 st1 := by
  unfold aStL at hr
  split at hr
  · next u ix j r =>
    obtain ⟨v0, rst0, rfl, ⟨x0, rfl⟩, hrst0⟩ := hs.cons
    obtain ⟨v1, rst1, rfl, hi, hrst1⟩ := hrst0.cons
    obtain ⟨v2, rst2, rfl, ⟨q, hj, rfl⟩, hrst⟩ := hrst1.cons
    split at hr
    · next t ht =>
      split at hr
      · next kd n u2 hA =>
        split at hr
        · next hc =>
          obtain ⟨⟨hc1, rfl⟩, hma⟩ := hc
          split at hr
          · next p hp =>
            cases hr
            obtain ⟨i, rfl, hix, hi1, hi2, hi3⟩ := aIdx_ok k hp hi
            have htag := k.tag hj ht
            obtain ⟨ct, hq, hct⟩ := hT.arr htag hA hc1
            rcases ct with f | f | f
            · exact hct.elim
            · obtain ⟨hJ1, hG⟩ := hJ.2.2.1 h q t 3 n f (vp_updL f i.toNatClampNeg x0) hJh hT htag hq
              refine ⟨rst2, h.set q (.inl (3, n, .inr (.inl (vp_updL f i.toNatClampNeg x0)))), ?_, hJ1, tOk_set hT htag ⟨hc1, _, hA, trivial⟩, nFr.seta htag hc1 hma hG, ⟨k.1, k.2.1, aFc_arr k hq hG, fun e he => ?_, k.2.2.2.2⟩, hrst⟩
              · simp only [nj_last, hq, hix, and_self, if_true]
              · obtain ⟨q2, kd2, n2, f2, i2, g1, g2, g3, g4⟩ := k.2.2.2.1 e he
                refine ⟨q2, kd2, n2, f2, i2, g1, ?_, g3, g4⟩
                rw [List.getElem?_set_ne]
                · exact g2
                · intro e2
                  subst e2
                  cases hq.symm.trans g2
            · exact hct.elim
          · cases hr
        · cases hr
      · cases hr
    · cases hr
  · cases hr
theorem m_lald (hT : tOk FT AT S h) (k : aOk S h nu mu s) (hs : aSt nu mu ast st) (hr : aLdL AT s ast = some (s1, ast1)) : ∃ st1 : List Value, nj_lald pc st h = some (pc + 1, st1, h) ∧ aOk S h nu mu s1 ∧ aSt nu mu ast1 st1 := by
  unfold aLdL at hr
  split at hr
  · next ix j r =>
    obtain ⟨v1, rst1, rfl, hi, hrst1⟩ := hs.cons
    obtain ⟨v2, rst2, rfl, ⟨q, hj, rfl⟩, hrst⟩ := hrst1.cons
    split at hr
    · next t ht =>
      split at hr
      · next kd n u2 hA =>
        split at hr
        · next hc =>
          obtain ⟨hc1, rfl⟩ := hc
          split at hr
          · next p hp =>
            cases hr
            obtain ⟨i, rfl, hix, hi1, hi2, hi3⟩ := aIdx_ok k hp hi
            have htag := k.tag hj ht
            obtain ⟨ct, hq, hct⟩ := hT.arr htag hA hc1
            rcases ct with f | f | f
            · exact hct.elim
            · refine ⟨.long (f i.toNatClampNeg) :: rst2, ?_, k, ⟨_, rfl⟩, hrst⟩
              simp only [nj_lald, hq, hix, and_self, if_true]
            · exact hct.elim
          · cases hr
        · cases hr
      · cases hr
    · cases hr
  · cases hr
theorem m_aald (hT : tOk FT AT S h) (k : aOk S h nu mu s) (hs : aSt nu mu ast st) (hr : aLdA AT s ast = some (s1, ast1)) : ∃ (st1 : List Value) (mu1 : List Nat), nj_aald pc st h = some (pc + 1, st1, h) ∧ aX nu mu nu mu1 ∧ aOk S h nu mu1 s1 ∧ aSt nu mu1 ast1 st1 := by
  unfold aLdA at hr
  split at hr
  · next ix j r =>
    obtain ⟨v1, rst1, rfl, hi, hrst1⟩ := hs.cons
    obtain ⟨v2, rst2, rfl, ⟨q, hj, rfl⟩, hrst⟩ := hrst1.cons
    split at hr
    · next t ht =>
      split at hr
      · next kd n tg hA =>
        split at hr
        · next hc =>
          obtain ⟨hc1, hkd⟩ := hc
          split at hr
          · next p hp =>
            cases hr
            obtain ⟨i, rfl, hix, hi1, hi2, hi3⟩ := aIdx_ok k hp hi
            have htag := k.tag hj ht
            obtain ⟨ct, hq, hct⟩ := hT.arr htag hA hc1
            rcases ct with f | f | f
            · exact hct.elim
            · exact hct.elim
            · obtain ⟨q2, hf2, ht2⟩ := hct i.toNatClampNeg hi3
              have X : aX nu mu nu (mu ++ [q2]) := ⟨[], [q2], by simp, rfl⟩
              have hl : s.2.1.length = mu.length := k.2.1.1
              refine ⟨.ref q2 :: rst2, mu ++ [q2], ?_, X, k.pushR ht2, by rw [hl]; exact aR_ref nu mu q2, hrst.x X⟩
              simp only [nj_aald, hq, hix, hkd, and_self, if_true, hf2]
          · cases hr
        · cases hr
      · cases hr
    · cases hr
  · cases hr
theorem m_alen {L : Nat} {ls : Option Nat} (hls : ∀ y, ls = some y → nu[y]? = some (L : Int)) (hT : tOk FT AT S h) (k : aOk S h nu mu s) (hs : aSt nu mu ast st) (hr : aLen AT ls s ast = some (s1, ast1)) : ∃ st1 : List Value, nj_alen L pc st h = some (pc + 1, st1, h) ∧ aOk S h nu mu s1 ∧ aSt nu mu ast1 st1 := by
  have hnat : ∀ n : Nat, Int32.ofNat n = Int32.ofInt (n : Int) := fun n => (Int32.ofInt_eq_ofNat).symm
  unfold aLen at hr
  split at hr
  · next j r =>
    obtain ⟨v2, rst2, rfl, ⟨q, hj, rfl⟩, hrst⟩ := hs.cons
    split at hr
    · next t ht =>
      split at hr
      · next kd n et hA =>
        split at hr
        · next hc =>
          cases hr
          have htag := k.tag hj ht
          obtain ⟨ct, hq, hct⟩ := hT.arr htag hA hc.1
          refine ⟨.int (Int32.ofNat n) :: rst2, ?_, k, ?_, hrst⟩
          · simp only [nj_alen, hq, hc.2, if_true]
          · show Value.int _ = .int _
            rw [hnat]
        · cases hr
      · cases hr
    · cases hr
  · next j r =>
    obtain ⟨v2, rst2, rfl, rfl, hrst⟩ := hs.cons
    split at hr
    · next hj =>
      subst hj
      split at hr
      · next y =>
        cases hr
        refine ⟨.int (Int32.ofNat L) :: rst2, ?_, k, ⟨(L : Int), hls y rfl, ?_⟩, hrst⟩
        · simp only [nj_alen, if_true]
        · rw [Int.add_zero, hnat]
      · cases hr
    · cases hr
  · cases hr
end AA2
end
section
theorem aE_get {rho : aRho} {nu : List Int} (hE : aE rho nu) {i : Nat} {z : Int} (hz : nu[i]? = some z) : ∃ r, rho[i]? = some r ∧ r.1 ≤ z ∧ z ≤ r.2 := by
  have hlt : i < rho.length := by rw [hE.1]; exact (List.getElem?_eq_some_iff.mp hz).1
  exact ⟨rho[i], List.getElem?_eq_getElem hlt, hE.2 i z _ hz (List.getElem?_eq_getElem hlt)⟩
section AM2
variable {FT : Nat → Nat → Option fTy} {AT : Nat → Option aTy} {S : List Nat} {h : List nC} {nu : List Int} {mu : List Nat} {s s1 : aS} {pc : Nat} {st rst : List Value} {ast ast1 : List aV} {mf : List (Nat × Nat)} {ma : List Nat} {J : List nC → Prop} {L : Nat} {xs : Nat → Int32} {ls : Option Nat}
theorem m_ldX {ix : aV} {j : Nat} {r : List aV} {vi : Value} (hls : ∀ y, ls = some y → nu[y]? = some (L : Int)) (k : aOk S h nu mu s) (hi : aR nu mu ix vi) (hrst : aSt nu mu r rst) (hr : aLdX ls s ix j r = some (s1, ast1)) : ∃ (st1 : List Value) (nu1 : List Int), nj_iald L xs pc (vi :: .retAddr j :: rst) h = some (pc + 1, st1, h) ∧ aX nu mu nu1 mu ∧ aOk S h nu1 mu s1 ∧ aSt nu1 mu ast1 st1 := by
  have hl : s.1.length = nu.length := k.1.1
  have push : ∀ (x : Int32) (rg : Int × Int), rg.1 ≤ x.toInt ∧ x.toInt ≤ rg.2 → aX nu mu (nu ++ [x.toInt]) mu ∧ aOk S h (nu ++ [x.toInt]) mu (s.1 ++ [rg], s.2.1, s.2.2.1, s.2.2.2.1, s.2.2.2.2) ∧ aSt (nu ++ [x.toInt]) mu (aSym s.1.length :: r) (.int x :: rst) := by
    intro x rg hx
    have X : aX nu mu (nu ++ [x.toInt]) mu := ⟨[x.toInt], [], rfl, by simp⟩
    exact ⟨X, k.pushI hx, by rw [hl]; exact aR_sym nu mu x, hrst.x X⟩
  unfold aLdX at hr
  split at hr
  · next hj =>
    subst hj
    split at hr
    · next c =>
      split at hr
      · next hc =>
        cases hr
        cases hi
        have hn : (Int32.ofInt c).toNatClampNeg = c.toNat := by
          show (Int32.ofInt c).toInt.toNat = _
          rw [a32 (by omega) (by omega)]
        have hix : nj_ix (Int32.ofInt c) 5 = true := by
          simp only [nj_ix, Bool.and_eq_true, decide_eq_true_eq, hn]
          refine ⟨?_, by omega⟩
          rw [Int32.lt_iff_toInt_lt, a32 (by omega) (by omega)]
          have : (0 : Int32).toInt = 0 := rfl
          omega
        refine ⟨.int (nj_fs.getD c.toNat 0) :: rst, nu, ?_, aX.rf, k, ?_, hrst⟩
        · have e1 : nj_xr L xs 1 = some (5, fun k => nj_fs.getD k 0) := rfl
          simp only [nj_iald, e1, hix, if_true, hn]
        · show Value.int _ = .int _
          rw [Int32.ofInt_toInt]
      · cases hr
    · split at hr
      · next p hp =>
        cases hr
        obtain ⟨i, rfl, hix, hi1, hi2, hi3⟩ := aIdx_ok k hp hi
        have hb : 0 ≤ (nj_fs.getD i.toNatClampNeg 0).toInt ∧ (nj_fs.getD i.toNatClampNeg 0).toInt ≤ 26 := by
          have : ∀ z : Nat, z < 5 → 0 ≤ (nj_fs.getD z 0).toInt ∧ (nj_fs.getD z 0).toInt ≤ 26 := by decide
          exact this _ hi3
        obtain ⟨X, k1, s1'⟩ := push (nj_fs.getD i.toNatClampNeg 0) (0, 26) hb
        have e1 : nj_xr L xs 1 = some (5, fun k => nj_fs.getD k 0) := rfl
        exact ⟨_, _, by simp only [nj_iald, e1, hix, if_true], X, k1, s1'⟩
      · cases hr
  · split at hr
    · next hj =>
      subst hj
      split at hr
      · next y i c =>
        split at hr
        · next hc =>
          cases hr
          obtain ⟨c1, c2, c3, c4, c5⟩ := hc
          obtain ⟨x, rfl, h1, h2⟩ := aIv_ok k.1 c1 hi
          have hp := aPr_ok k c4
          obtain ⟨z, hz, hx⟩ := hi
          have hly := hls y rfl
          simp only [lS, List.map_cons, List.map_nil, List.sum_cons, List.sum_nil, List.getD_eq_getElem?_getD, hz, hly, Option.getD_some] at hp
          obtain ⟨rg, hrg, hb⟩ := aE_get k.1 hz
          have hgd : s.1.getD i (0, 2147483648) = rg := by rw [List.getD_eq_getElem?_getD, hrg]; rfl
          rw [hgd] at c5
          simp only [aFit, Bool.and_eq_true, decide_eq_true_eq] at c5
          have hxe : x = Int32.ofInt (z + c) := by cases hx; rfl
          have hxi : x.toInt = z + c := by rw [hxe, a32 (by omega) (by omega)]
          have hlt : x.toNatClampNeg < L := by
            show x.toInt.toNat < L
            omega
          have hix : nj_ix x L = true := by
            simp only [nj_ix, Bool.and_eq_true, decide_eq_true_eq]
            refine ⟨?_, hlt⟩
            rw [Int32.lt_iff_toInt_lt]
            have : (0 : Int32).toInt = 0 := rfl
            omega
          obtain ⟨X, k1, s1'⟩ := push (xs x.toNatClampNeg) aFull (aFull_ok _)
          have e1 : nj_xr L xs 0 = some (L, xs) := rfl
          exact ⟨_, _, by simp only [nj_iald, e1, hix, if_true], X, k1, s1'⟩
        · cases hr
      · cases hr
    · cases hr
def aIald (AT : Nat → Option aTy) (ls : Option Nat) (s : aS) (st : List aV) : Option (aS × List aV) := match st with
  | ix :: .inr (.inr (.inl j)) :: r => aLdK AT [0] s ix j r
  | ix :: .inr (.inr (.inr (.inl j))) :: r => aLdX ls s ix j r
  | _ => none
def aBald (AT : Nat → Option aTy) (s : aS) (st : List aV) : Option (aS × List aV) := match st with
  | ix :: .inr (.inr (.inl j)) :: r => aLdK AT [1, 2] s ix j r
  | _ => none
/-- what reads or writes -/
def aMem (FT : Nat → Nat → Option fTy) (AT : Nat → Option aTy) (ls : Option Nat) (mf : List (Nat × Nat)) (ma : List Nat) (s : aS) (a b : Nat) (v : Int) (st : List aV) (i : Instr) : Option (aS × List aV) := match i with
  | .getfield _ => aGetf FT s a b st
  | .putfield _ => aPutf FT mf s a b v st
  | .iaload => aIald AT ls s st
  | .baload => aBald AT s st
  | .laload => aLdL AT s st
  | .aaload => aLdA AT s st
  | .iastore => aStI AT ma s st
  | .bastore => aStB AT ma s st
  | .lastore => aStL AT ma s st
  | .arraylength => aLen AT ls s st
  | .ldc _ => if b = 1 then none else some (s, .inl v :: st)
  | .ldc_w _ => some (s, .inl v :: st)
  | .ldc2_w _ => some (s, aLong :: st)
  | .getstatic _ => if a = 0 then some (s, .inr (.inr (.inr (.inl 1))) :: st) else none
  | _ => none
theorem m_mem {a b : Nat} {v : Int} {i : Instr} {ini : Bool} (hls : ∀ y, ls = some y → nu[y]? = some (L : Int)) (hJ : nJ FT AT S J) (hJh : J h) (hT : tOk FT AT S h) (k : aOk S h nu mu s) (hs : aSt nu mu ast st) (hr : aMem FT AT ls mf ma s a b v ast i = some (s1, ast1)) : ∃ (st1 : List Value) (h1 : List nC) (nu1 : List Int) (mu1 : List Nat), nj_mem L xs ini pc a b v st h i = some (pc + nj_len i b, st1, h1) ∧ J h1 ∧ tOk FT AT S h1 ∧ nFr mf ma S h h1 ∧ aX nu mu nu1 mu1 ∧ aOk S h1 nu1 mu1 s1 ∧ aSt nu1 mu1 ast1 st1 := by
  cases i with
  | getfield idx =>
    obtain ⟨st1, nu1, mu1, e1, X, k1, s2⟩ := m_getf (pc := pc) hT k hs hr
    exact ⟨st1, h, nu1, mu1, e1, hJh, hT, nFr.rf, X, k1, s2⟩
  | putfield idx =>
    obtain ⟨st1, q, t, fs, x, e1, e2, e4, e3, e5, e6, k1, s2⟩ := m_putf (pc := pc) (ini := ini) (ma := ma) hJ hJh hT k hs hr
    exact ⟨st1, _, nu, mu, e1, e3, e5, e6, aX.rf, k1, s2⟩
  | iaload =>
    simp only [aMem, aIald] at hr
    split at hr
    · next ix j r =>
      obtain ⟨v1, rst1, rfl, hi, hrst1⟩ := hs.cons
      obtain ⟨v2, rst2, rfl, ⟨q, hj, rfl⟩, hrst⟩ := hrst1.cons
      obtain ⟨kd, n, f, i, nu1, hk, hq, rfl, hix, X, k1, s2⟩ := m_ldK hT k hi hj hrst hr
      refine ⟨_, h, nu1, mu, ?_, hJh, hT, nFr.rf, X, k1, s2⟩
      have hk0 : kd = 0 := by simpa using hk
      subst hk0
      simp only [nj_mem, nj_iald, hq, hix, and_self, if_true]
      rfl
    · next ix j r =>
      obtain ⟨v1, rst1, rfl, hi, hrst1⟩ := hs.cons
      obtain ⟨v2, rst2, rfl, rfl, hrst⟩ := hrst1.cons
      obtain ⟨st1, nu1, e1, X, k1, s2⟩ := m_ldX (pc := pc) (xs := xs) hls k hi hrst hr
      exact ⟨st1, h, nu1, mu, e1, hJh, hT, nFr.rf, X, k1, s2⟩
    · cases hr
  | baload =>
    simp only [aMem, aBald] at hr
    split at hr
    · next ix j r =>
      obtain ⟨v1, rst1, rfl, hi, hrst1⟩ := hs.cons
      obtain ⟨v2, rst2, rfl, ⟨q, hj, rfl⟩, hrst⟩ := hrst1.cons
      obtain ⟨kd, n, f, i, nu1, hk, hq, rfl, hix, X, k1, s2⟩ := m_ldK hT k hi hj hrst hr
      refine ⟨_, h, nu1, mu, ?_, hJh, hT, nFr.rf, X, k1, s2⟩
      have hk0 : kd = 1 ∨ kd = 2 := by simpa using hk
      simp only [nj_mem, nj_bald, hq, hix, hk0, and_self, if_true]
      rfl
    · cases hr
  | laload =>
    obtain ⟨st1, e1, k1, s2⟩ := m_lald (pc := pc) hT k hs hr
    exact ⟨st1, h, nu, mu, e1, hJh, hT, nFr.rf, aX.rf, k1, s2⟩
  | aaload =>
    obtain ⟨st1, mu1, e1, X, k1, s2⟩ := m_aald (pc := pc) hT k hs hr
    exact ⟨st1, h, nu, mu1, e1, hJh, hT, nFr.rf, X, k1, s2⟩
  | iastore =>
    obtain ⟨st1, h1, e1, j1, t1, f1, k1, s2⟩ := m_iast (pc := pc) (mf := mf) hJ hJh hT k hs hr
    exact ⟨st1, h1, nu, mu, e1, j1, t1, f1, aX.rf, k1, s2⟩
  | bastore =>
    obtain ⟨st1, h1, e1, j1, t1, f1, k1, s2⟩ := m_bast (pc := pc) (mf := mf) hJ hJh hT k hs hr
    exact ⟨st1, h1, nu, mu, e1, j1, t1, f1, aX.rf, k1, s2⟩
  | lastore =>
    obtain ⟨st1, h1, e1, j1, t1, f1, k1, s2⟩ := m_last (pc := pc) (mf := mf) hJ hJh hT k hs hr
    exact ⟨st1, h1, nu, mu, e1, j1, t1, f1, aX.rf, k1, s2⟩
  | arraylength =>
    obtain ⟨st1, e1, k1, s2⟩ := m_alen (pc := pc) hls hT k hs hr
    exact ⟨st1, h, nu, mu, e1, hJh, hT, nFr.rf, aX.rf, k1, s2⟩
  | ldc idx =>
    simp only [aMem] at hr
    split at hr
    · cases hr
    · next hb =>
      cases hr
      exact ⟨.int (Int32.ofInt v) :: st, h, nu, mu, by simp only [nj_mem, if_neg hb]; rfl, hJh, hT, nFr.rf, aX.rf, k, rfl, hs⟩
  | ldc_w idx => cases hr; exact ⟨_, h, nu, mu, rfl, hJh, hT, nFr.rf, aX.rf, k, rfl, hs⟩
  | ldc2_w idx => cases hr; exact ⟨_, h, nu, mu, rfl, hJh, hT, nFr.rf, aX.rf, k, ⟨_, rfl⟩, hs⟩
  | getstatic idx =>
    simp only [aMem] at hr
    split at hr
    · next ha => cases hr; exact ⟨.retAddr 1 :: st, h, nu, mu, by simp only [nj_mem, if_pos ha]; rfl, hJh, hT, nFr.rf, aX.rf, k, rfl, hs⟩
    · cases hr
  | _ => exact nomatch (show (none : Option (aS × List aV)) = some (s1, ast1) from hr)
end AM2
end
section
/-! the frame's instructions by what is known -/
def aGetL (al : List (Nat × aV)) (k : Nat) : Option aV := (al.find? (fun e => e.1 == k)).map (fun e => e.2)
def aPut (al : List (Nat × aV)) (k : Nat) (x : aV) : List (Nat × aV) := (k, x) :: al.filter (fun q => !(q.1 == k) && !(q.1 + 1 == k && aCat q.2 == 2))
def aPut2 (al : List (Nat × aV)) (k : Nat) (x : aV) : List (Nat × aV) := (k, x) :: al.filter (fun q => !(q.1 == k) && (!(q.1 == k + 1) && !(q.1 + 1 == k && aCat q.2 == 2)))
theorem aGetL_ok {nu : List Int} {mu : List Nat} {al : List (Nat × aV)} {lv : nLv} (h : aLv nu mu al lv) {k : Nat} {x : aV} (hx : aGetL al k = some x) : ∃ v, nj_get lv k = some v ∧ aR nu mu x v := by
  unfold aGetL at hx
  obtain ⟨e, h1, h2⟩ := Option.map_eq_some_iff.mp hx
  have hp := List.find?_some h1
  have hm := List.mem_of_find?_eq_some h1
  obtain ⟨v, g1, g2⟩ := h e hm
  have : e.1 = k := by simpa using hp
  rw [this] at g1
  rw [h2] at g2
  exact ⟨v, g1, g2⟩
theorem nj_get_filter {lv : nLv} {k : Nat} {v : Value} {p : Nat × Value → Bool} (h : nj_get lv k = some v) (hp : p (k, v) = true) : nj_get (lv.filter p) k = some v := by
  induction lv with
  | nil => cases h
  | cons q lv ih =>
    by_cases hk : q.1 = k
    · have hv : q.2 = v := by
        simp only [nj_get, List.find?_cons, hk, beq_self_eq_true, Option.map_some] at h
        exact Option.some.inj h
      have hq : q = (k, v) := by rw [← hk, ← hv]
      rw [List.filter_cons, hq, if_pos hp]
      simp [nj_get]
    · have h2 : nj_get lv k = some v := by
        have hk2 : (q.1 == k) = false := by simpa using hk
        simp only [nj_get, List.find?_cons, hk2] at h
        exact h
      rw [List.filter_cons]
      split
      · have hk2 : (q.1 == k) = false := by simpa using hk
        simp only [nj_get, List.find?_cons, hk2]
        exact ih h2
      · exact ih h2
theorem aPut_ok {nu : List Int} {mu : List Nat} {al : List (Nat × aV)} {lv : nLv} (h : aLv nu mu al lv) {k : Nat} {x : aV} {v : Value} (hx : aR nu mu x v) : aLv nu mu (aPut al k x) (nj_put lv k v) := by
  intro e he
  rcases List.mem_cons.mp he with rfl | he
  · exact ⟨v, by simp [nj_put, nj_get], hx⟩
  · obtain ⟨h1, h2⟩ := List.mem_filter.mp he
    obtain ⟨w, g1, g2⟩ := h e h1
    simp only [Bool.and_eq_true, Bool.not_eq_true', beq_eq_false_iff_ne, ne_eq] at h2
    refine ⟨w, ?_, g2⟩
    have hne : (k == e.1) = false := by simpa using fun z => h2.1 z.symm
    have : nj_get (nj_put lv k v) e.1 = nj_get (lv.filter (fun q => !(q.1 == k) && !(q.1 + 1 == k && q.2.category == 2))) e.1 := by
      simp only [nj_put, nj_get, List.find?_cons, hne]
    rw [this]
    refine nj_get_filter g1 ?_
    simp only [Bool.and_eq_true, Bool.not_eq_true', beq_eq_false_iff_ne, ne_eq]
    refine ⟨h2.1, ?_⟩
    rw [aR_cat g2]
    exact h2.2
theorem aPut2_ok {nu : List Int} {mu : List Nat} {al : List (Nat × aV)} {lv : nLv} (h : aLv nu mu al lv) {k : Nat} {x : aV} {v : Value} (hx : aR nu mu x v) : aLv nu mu (aPut2 al k x) (nj_put2 lv k v) := by
  intro e he
  rcases List.mem_cons.mp he with rfl | he
  · exact ⟨v, by simp [nj_put2, nj_get], hx⟩
  · obtain ⟨h1, h2⟩ := List.mem_filter.mp he
    obtain ⟨w, g1, g2⟩ := h e h1
    simp only [Bool.and_eq_true, Bool.not_eq_true', beq_eq_false_iff_ne, ne_eq] at h2
    refine ⟨w, ?_, g2⟩
    have hne : (k == e.1) = false := by simpa using fun z => h2.1 z.symm
    have : nj_get (nj_put2 lv k v) e.1 = nj_get (lv.filter (fun q => !(q.1 == k) && (!(q.1 == k + 1) && !(q.1 + 1 == k && q.2.category == 2)))) e.1 := by
      simp only [nj_put2, nj_get, List.find?_cons, hne]
    rw [this]
    refine nj_get_filter g1 ?_
    simp only [Bool.and_eq_true, Bool.not_eq_true', beq_eq_false_iff_ne, ne_eq]
    refine ⟨h2.1, h2.2.1, ?_⟩
    rw [aR_cat g2]
    exact h2.2.2
def aAdd (a : aV) (n : Int) : aV := match a with
  | .inl c => .inl (c + n)
  | .inr (.inl (i, c)) => .inr (.inl (i, c + n))
  | x => x
theorem a32_add (a b : Int) : Int32.ofInt a + Int32.ofInt b = Int32.ofInt (a + b) := (Int32.ofInt_add a b).symm
theorem aAdd_ok {nu : List Int} {mu : List Nat} {a : aV} {x : Int32} (h : aR nu mu a (.int x)) (n : Int) : aR nu mu (aAdd a n) (.int (x + Int32.ofInt n)) := by
  unfold aR at h
  split at h
  · cases h
    show Value.int _ = .int _
    rw [a32_add]
  · obtain ⟨z, hz, e⟩ := h
    cases e
    refine ⟨z, hz, ?_⟩
    rw [a32_add, Int.add_assoc]
  · obtain ⟨z, -, e⟩ := h; cases e
  · cases h
  · obtain ⟨z, e⟩ := h; cases e
def aCl (r : Int × Int) : Int × Int := if aFit r = true then r else aFull
/-- the range of a result -/
def aRg (i : Instr) (ra rb : Int × Int) : Int × Int := match i with
  | .iadd => aCl (ra.1 + rb.1, ra.2 + rb.2)
  | .isub => aCl (ra.1 - rb.2, ra.2 - rb.1)
  | .imul => if ra.1 = ra.2 ∧ 0 ≤ ra.1 then aCl (ra.1 * rb.1, ra.1 * rb.2) else if rb.1 = rb.2 ∧ 0 ≤ rb.1 then aCl (rb.1 * ra.1, rb.1 * ra.2) else aFull
  | .iushr => if rb.1 = 8 ∧ rb.2 = 8 then (0, 16777215) else aFull
  | _ => aFull
def aOp (i : Instr) (x y : Int32) : Int32 := match i with
  | .iadd => x + y
  | .isub => x - y
  | .imul => x * y
  | .iand => x &&& y
  | .ior => x ||| y
  | .ixor => x ^^^ y
  | .ishl => x <<< (y &&& 31)
  | .ishr => x >>> (y &&& 31)
  | .iushr => (x.toUInt32 >>> (y.toUInt32 &&& Int32.toUInt32 31)).toInt32
  | _ => 0
theorem bm {z : Int} (h1 : -2147483648 ≤ z) (h2 : z ≤ 2147483647) : z.bmod (2 ^ 32) = z := by
  rw [Int.bmod_def]
  have : ((2 ^ 32 : Nat) : Int) = 4294967296 := rfl
  simp only [this]
  omega
theorem aCl_ok {r : Int × Int} {x : Int32} {z : Int} (hx : x.toInt = z.bmod (2 ^ 32)) (hz : r.1 ≤ z ∧ z ≤ r.2) : (aCl r).1 ≤ x.toInt ∧ x.toInt ≤ (aCl r).2 := by
  unfold aCl
  split
  · next hf =>
    simp only [aFit, Bool.and_eq_true, decide_eq_true_eq] at hf
    rw [hx, bm (by omega) (by omega)]
    exact hz
  · exact aFull_ok x
theorem aRg_ok (i : Instr) {ra rb : Int × Int} {x y : Int32} (hx : ra.1 ≤ x.toInt ∧ x.toInt ≤ ra.2) (hy : rb.1 ≤ y.toInt ∧ y.toInt ≤ rb.2) : (aRg i ra rb).1 ≤ (aOp i x y).toInt ∧ (aOp i x y).toInt ≤ (aRg i ra rb).2 := by
  unfold aRg
  split
  · exact aCl_ok (Int32.toInt_add x y) ⟨by show ra.1 + rb.1 ≤ _; omega, by show _ ≤ ra.2 + rb.2; omega⟩
  · exact aCl_ok (Int32.toInt_sub x y) ⟨by show ra.1 - rb.2 ≤ _; omega, by show _ ≤ ra.2 - rb.1; omega⟩
  · split
    · next hc =>
      have e : x.toInt = ra.1 := by omega
      refine aCl_ok (Int32.toInt_mul x y) ?_
      rw [e]
      exact ⟨Int.mul_le_mul_of_nonneg_left hy.1 hc.2, Int.mul_le_mul_of_nonneg_left hy.2 hc.2⟩
    · split
      · next hc =>
        have e : y.toInt = rb.1 := by omega
        refine aCl_ok (Int32.toInt_mul x y) ?_
        rw [e, Int.mul_comm x.toInt]
        exact ⟨Int.mul_le_mul_of_nonneg_left hx.1 hc.2, Int.mul_le_mul_of_nonneg_left hx.2 hc.2⟩
      · exact aFull_ok _
  · split
    · next hc =>
      have e : y = 8 := Int32.toInt_inj.mp (by show y.toInt = 8; omega)
      subst e
      have h1 := pk_ushr x 8 8 (by decide)
      have h2 : (aOp .iushr x 8).toInt = ((aOp .iushr x 8).toBitVec.toNat : Int) := by
        have h3 : (aOp .iushr x 8).toBitVec.toNat < 2 ^ 31 := by
          show ((x.toUInt32 >>> ((8 : Int32).toUInt32 &&& Int32.toUInt32 31)).toInt32).toBitVec.toNat < _
          rw [h1]
          have := x.toBitVec.isLt
          omega
        exact BitVec.toInt_eq_toNat_of_lt (by omega)
      rw [h2]
      have h4 : (aOp .iushr x 8).toBitVec.toNat = x.toBitVec.toNat / 2 ^ 8 := h1
      have := x.toBitVec.isLt
      rw [h4]
      show (0 : Int) ≤ _ ∧ _ ≤ (16777215 : Int)
      omega
    · exact aFull_ok _
  · exact aFull_ok _
end
section
abbrev aY : Type := aS × Nat × List (Nat × aV) × List aV
def aIsR (a : aV) : Bool := match a with
  | .inr (.inr (.inl _)) => true
  | .inr (.inr (.inr (.inl _))) => true
  | _ => false
def aIsL (a : aV) : Bool := match a with
  | .inr (.inr (.inr (.inr _))) => true
  | _ => false
/-- a fresh number -/
def aNew (s : aS) (r : Int × Int) : aS := (s.1 ++ [r], s.2.1, s.2.2.1, s.2.2.2.1, s.2.2.2.2)
def aNewF (s : aS) (r : Int × Int) (l : List aDf) : aS := (s.1 ++ [r], s.2.1, s.2.2.1, s.2.2.2.1, l ++ s.2.2.2.2)
def aFitX (s : aS) (a : aV) : Bool := match a with
  | .inl c => aFit (c, c)
  | .inr (.inl (i, c)) => match s.1[i]? with
    | some r => aFit (r.1 + c, r.2 + c)
    | none => false
  | _ => false
/-- a sum: as it is, or a new name where it may leave an int's range -/
def aAddN (s : aS) (x : aV) (n : Int) : aS × aV := if aFitX s (aAdd x n) = true then (s, aAdd x n) else (aNew s aFull, aSym s.1.length)
/-- the number's low m bits are 0 -/
def aMul (s : aS) (m : Nat) (a : aV) : Bool := match a with
  | .inl c => decide (Int32.ofInt c &&& Int32.ofNat (2 ^ m - 1) = 0)
  | .inr (.inl (i, c)) => decide (c = 0) && s.2.2.2.2.any (fun e => match e with
    | .inr q => decide (q = (i, m))
    | .inl _ => false)
  | _ => false
def aMs (s : aS) (a : aV) : List Nat := match a with
  | .inr (.inl (i, _)) => s.2.2.2.2.filterMap (fun e => match e with
    | .inr q => if q.1 = i then some q.2 else none
    | .inl _ => none)
  | _ => []
/-- what is known of a result -/
def aOpF (s : aS) (i : Instr) (x y : aV) : List aDf := match i with
  | .imul => (match x, y with
    | .inl c, .inr (.inl (j, d)) => if 0 ≤ c ∧ aFit (c, c) = true ∧ aFitX s y = true ∧ aFit (c * (aIv s.1 y).1, c * (aIv s.1 y).2) = true then [.inl ([(1, s.1.length), (-c, j)], -(c * d)), .inl ([(-1, s.1.length), (c, j)], c * d)] else []
    | .inr (.inl (j, d)), .inl c => if 0 ≤ c ∧ aFit (c, c) = true ∧ aFitX s x = true ∧ aFit (c * (aIv s.1 x).1, c * (aIv s.1 x).2) = true then [.inl ([(1, s.1.length), (-c, j)], -(c * d)), .inl ([(-1, s.1.length), (c, j)], c * d)] else []
    | _, _ => [])
  | .ior => ((aMs s x ++ aMs s y).filter (fun m => aMul s m x && aMul s m y)).map (fun m => .inr (s.1.length, m))
  | .ishl => if x = .inl 1 ∧ 0 ≤ (aIv s.1 y).1 ∧ (aIv s.1 y).2 ≤ 30 then [.inr (s.1.length, (aIv s.1 y).1.toNat)] else []
  | .ishr => if 0 ≤ (aIv s.1 y).1 ∧ (aIv s.1 y).2 ≤ 30 ∧ (aMs s x).any (fun m => decide (m ≤ 31) && (decide ((aIv s.1 y).2 < (m : Int)) && aMul s m x)) = true then [.inr (s.1.length, 1)] else []
  | _ => []
def aB2 (s : aS) (i : Instr) (pc : Nat) (al : List (Nat × aV)) (st : List aV) : Option (List aY) := match st with
  | y :: x :: r => if aIsI x = true ∧ aIsI y = true then (match i, y with
    | .iadd, .inl c => some [((aAddN s x c).1, pc + 1, al, (aAddN s x c).2 :: r)]
    | .isub, .inl c => some [((aAddN s x (-c)).1, pc + 1, al, (aAddN s x (-c)).2 :: r)]
    | .iadd, _ => (match x with
      | .inl c => some [((aAddN s y c).1, pc + 1, al, (aAddN s y c).2 :: r)]
      | _ => some [(aNew s (aRg i (aIv s.1 x) (aIv s.1 y)), pc + 1, al, aSym s.1.length :: r)])
    | .ior, .inl 0 => some [(s, pc + 1, al, x :: r)]
    | .iand, .inl 255 => if -256 ≤ (aIv s.1 x).1 ∧ (aIv s.1 x).2 ≤ 255 then some ((match aGe s.1 x 0 with
        | some r1 => [((r1, s.2.1, s.2.2.1, s.2.2.2.1, s.2.2.2.2), pc + 1, al, x :: r)]
        | none => []) ++ (match aLe s.1 x (-1) with
        | some r1 => [((r1, s.2.1, s.2.2.1, s.2.2.2.1, s.2.2.2.2), pc + 1, al, aAdd x 256 :: r)]
        | none => [])) else some [(aNew s (aRg i (aIv s.1 x) (aIv s.1 y)), pc + 1, al, aSym s.1.length :: r)]
    | .iand, .inl 1 => if aMul s 1 x = true then some [(s, pc + 1, al, .inl 0 :: r)] else some [(aNew s (aRg i (aIv s.1 x) (aIv s.1 y)), pc + 1, al, aSym s.1.length :: r)]
    | .ior, _ => (match x with
      | .inl 0 => some [(s, pc + 1, al, y :: r)]
      | _ => some [(aNewF s (aRg i (aIv s.1 x) (aIv s.1 y)) (aOpF s i x y), pc + 1, al, aSym s.1.length :: r)])
    | _, _ => some [(aNewF s (aRg i (aIv s.1 x) (aIv s.1 y)) (aOpF s i x y), pc + 1, al, aSym s.1.length :: r)]) else none
  | _ => none
def aRem (s : aS) (pc : Nat) (al : List (Nat × aV)) (st : List aV) : Option (List aY) := match st with
  | y :: x :: r => if aIsI x = true ∧ aIsI y = true ∧ 0 ≤ (aIv s.1 x).1 ∧ 1 ≤ (aIv s.1 y).1 then some [(aNew s (0, (aIv s.1 y).2 - 1), pc + 1, al, aSym s.1.length :: r)] else none
  | _ => none
def lDf (i j : Nat) (c : Int) : aDf := .inl ([(1, i), (-1, j)], -c)
def aFact (rho : aRho) (c : Jvm.ClassFile.Cond) (a b : aV) : List aDf := match a, b with
  | .inr (.inl (i, c1)), .inr (.inl (j, c2)) => match rho[i]?, rho[j]? with
    | some ri, some rj => if aFit (ri.1 + c1, ri.2 + c1) = true ∧ aFit (rj.1 + c2, rj.2 + c2) = true then (match c with
      | .eq => [lDf i j (c2 - c1), lDf j i (c1 - c2)]
      | .ne => []
      | .lt => [lDf i j (c2 - c1 - 1)]
      | .ge => [lDf j i (c1 - c2)]
      | .gt => [lDf j i (c1 - c2 - 1)]
      | .le => [lDf i j (c2 - c1)]) else []
    | _, _ => []
  | _, _ => []
/-- the comparison can't hold, by what is known beside ranges -/
def aCtr (s : aS) (c : Jvm.ClassFile.Cond) (a b : aV) : Bool := match a, b with
  | .inr (.inl (i, c1)), .inr (.inl (j, c2)) => match s.1[i]?, s.1[j]? with
    | some ri, some rj => if aFit (ri.1 + c1, ri.2 + c1) = true ∧ aFit (rj.1 + c2, rj.2 + c2) = true then (match c with
      | .eq => aPrF s ([(1, i), (-1, j)], c1 - c2 + 1) || aPrF s ([(1, j), (-1, i)], c2 - c1 + 1)
      | .ne => false
      | .lt => aPrF s ([(1, j), (-1, i)], c2 - c1)
      | .ge => aPrF s ([(1, i), (-1, j)], c1 - c2 + 1)
      | .gt => aPrF s ([(1, i), (-1, j)], c1 - c2)
      | .le => aPrF s ([(1, j), (-1, i)], c2 - c1 + 1)) else false
    | _, _ => false
  | _, _ => false
/-- the state where the comparison holds -/
def aIf (s : aS) (c : Jvm.ClassFile.Cond) (a b : aV) (pc : Nat) (al : List (Nat × aV)) (st : List aV) : List aY := if aCtr s c a b = true then [] else match aAsm s.1 c a b with
  | some r => [((r, s.2.1, s.2.2.1, s.2.2.2.1, aFact s.1 c a b ++ s.2.2.2.2), pc, al, st)]
  | none => []
/-- where they differ: below, or above, if the number lies in the middle -/
def aIfN (s : aS) (c : Jvm.ClassFile.Cond) (a b : aV) (pc : Nat) (al : List (Nat × aV)) (st : List aV) : List aY := if c = .ne ∧ (aIv s.1 b).1 = (aIv s.1 b).2 ∧ (aIv s.1 a).1 < (aIv s.1 b).1 ∧ (aIv s.1 b).1 < (aIv s.1 a).2 then aIf s .lt a b pc al st ++ aIf s .gt a b pc al st else aIf s c a b pc al st
def aBr (s : aS) (c : Jvm.ClassFile.Cond) (a b : aV) (pc : Nat) (off : Int) (al : List (Nat × aV)) (st : List aV) : Option (List aY) := if 0 ≤ (pc : Int) + off ∧ aIsI a = true ∧ aIsI b = true then some (aIfN s c a b ((pc : Int) + off).toNat al st ++ aIfN s (aNeg c) a b (pc + 3) al st) else none
def aGo (s : aS) (pc : Nat) (off : Int) (al : List (Nat × aV)) (st : List aV) : Option aY := if 0 ≤ (pc : Int) + off then some (s, ((pc : Int) + off).toNat, al, st) else none
def aEq (s : aS) (a : aV) (k : Int) (pc : Nat) (off : Int) (al : List (Nat × aV)) (st : List aV) : Option (List aY) := match aGo s pc off al st with
  | some y => some (match aAsm s.1 .eq a (.inl k) with
    | some r => [((r, s.2.1, s.2.2.1, s.2.2.2.1, s.2.2.2.2), y.2)]
    | none => [])
  | none => none
/-- a table's rows from number k on -/
def aTab (s : aS) (a : aV) (pc : Nat) (al : List (Nat × aV)) (st : List aV) : List Int → Int → Option (List aY)
  | [], _ => some []
  | o :: os, k => match aEq s a k pc o al st, aTab s a pc al st os (k + 1) with
    | some l1, some l2 => some (l1 ++ l2)
    | _, _ => none
def aSw (s : aS) (a : aV) (pc : Nat) (al : List (Nat × aV)) (st : List aV) : List (Int × Int) → Option (List aY)
  | [] => some []
  | o :: os => match aEq s a o.1 pc o.2 al st, aSw s a pc al st os with
    | some l1, some l2 => some (l1 ++ l2)
    | _, _ => none
def aTsw (s : aS) (a : aV) (pc : Nat) (d lo hi : Int) (offs : Array Int) (al : List (Nat × aV)) (st : List aV) : Option (List aY) := if aIsI a = true ∧ (offs.toList.length : Int) = hi - lo + 1 ∧ aFit (lo, hi) = true ∧ lo ≤ hi then (match aGo s pc d al st, aTab s a pc al st offs.toList lo with
    | some y, some l => some ((match aAsm s.1 .lt a (.inl lo) with
      | some r => [((r, s.2.1, s.2.2.1, s.2.2.2.1, s.2.2.2.2), y.2)]
      | none => []) ++ ((match aAsm s.1 .gt a (.inl hi) with
      | some r => [((r, s.2.1, s.2.2.1, s.2.2.2.1, s.2.2.2.2), y.2)]
      | none => []) ++ l))
    | _, _ => none) else none
def aGp0 (s : aS) (a : aV) (p : Option Int) : Option aRho := match p with
  | some b => aGe s.1 a (b + 1)
  | none => some s.1
/-- between the rows of a table -/
def aGap (s : aS) (a : aV) (z : Nat × List (Nat × aV) × List aV) : Option Int → List (Int × Int) → List aY
  | p, [] => (match aGp0 s a p with
    | some r => [((r, s.2.1, s.2.2.1, s.2.2.2.1, s.2.2.2.2), z)]
    | none => [])
  | p, o :: os => (match aGp0 s a p with
    | some r => (match aLe r a (o.1 - 1) with
      | some r2 => [((r2, s.2.1, s.2.2.1, s.2.2.2.1, s.2.2.2.2), z)]
      | none => [])
    | none => []) ++ aGap s a z (some o.1) os
def aLsw (s : aS) (a : aV) (pc : Nat) (d : Int) (ps : Array (Int × Int)) (al : List (Nat × aV)) (st : List aV) : Option (List aY) := if aIsI a = true ∧ (ps.toList.zip (ps.toList.drop 1)).all (fun (a, next) => a.1 < next.1) = true ∧ ps.toList.all (fun q => aFit (q.1, q.1)) = true then (match aGo s pc d al st, aSw s a pc al st ps.toList with
    | some y, some l => some (aGap s a y.2 none ps.toList ++ l)
    | _, _ => none) else none
def aLoad (f : aV → Bool) (s : aS) (pc k : Nat) (al : List (Nat × aV)) (st : List aV) : Option (List aY) := match aGetL al k with
  | some x => if f x = true then some [(s, pc, al, x :: st)] else none
  | none => none
def aStore (f : aV → Bool) (s : aS) (mL pc k : Nat) (al : List (Nat × aV)) (st : List aV) : Option (List aY) := match st with
  | x :: r => if f x = true ∧ k < mL then some [(s, pc, aPut al k x, r)] else none
  | _ => none
def aPure (s : aS) (mL pc : Nat) (al : List (Nat × aV)) (st : List aV) (i : Instr) : Option (List aY) := match i with
  | .iconst n => some [(s, pc + 1, al, .inl n :: st)]
  | .bipush n => if -128 ≤ n ∧ n ≤ 127 then some [(s, pc + 2, al, .inl n :: st)] else none
  | .sipush n => if -32768 ≤ n ∧ n ≤ 32767 then some [(s, pc + 3, al, .inl n :: st)] else none
  | .lconst _ => some [(s, pc + 1, al, aLong :: st)]
  | .iload_n k => aLoad aIsI s (pc + 1) k al st
  | .iload k => aLoad aIsI s (pc + 2) k al st
  | .lload_n k => aLoad aIsL s (pc + 1) k al st
  | .lload k => aLoad aIsL s (pc + 2) k al st
  | .aload_n k => aLoad aIsR s (pc + 1) k al st
  | .aload k => aLoad aIsR s (pc + 2) k al st
  | .istore_n k => aStore aIsI s mL (pc + 1) k al st
  | .istore k => aStore aIsI s mL (pc + 2) k al st
  | .astore_n k => aStore aIsR s mL (pc + 1) k al st
  | .astore k => aStore aIsR s mL (pc + 2) k al st
  | .lstore_n k => match st with
    | x :: r => if aIsL x = true ∧ (k : Nat) + 1 < mL then some [(s, pc + 1, aPut2 al k x, r)] else none
    | _ => none
  | .iinc k n => match aGetL al k with
    | some x => if aIsI x = true ∧ k < mL then some [((aAddN s x n).1, pc + 3, aPut al k (aAddN s x n).2, st)] else none
    | none => none
  | .iadd => aB2 s .iadd pc al st
  | .isub => aB2 s .isub pc al st
  | .imul => aB2 s .imul pc al st
  | .iand => aB2 s .iand pc al st
  | .ior => aB2 s .ior pc al st
  | .ixor => aB2 s .ixor pc al st
  | .ishl => aB2 s .ishl pc al st
  | .ishr => aB2 s .ishr pc al st
  | .iushr => aB2 s .iushr pc al st
  | .irem => aRem s pc al st
  | .ladd | .lsub | .lmul | .lor => match st with
    | y :: x :: r => if aIsL x = true ∧ aIsL y = true then some [(s, pc + 1, al, aLong :: r)] else none
    | _ => none
  | .lshl => match st with
    | y :: x :: r => if aIsL x = true ∧ aIsI y = true then some [(s, pc + 1, al, aLong :: r)] else none
    | _ => none
  | .lcmp => match st with
    | y :: x :: r => if aIsL x = true ∧ aIsL y = true then some [(aNew s (-1, 1), pc + 1, al, aSym s.1.length :: r)] else none
    | _ => none
  | .i2l => match st with
    | x :: r => if aIsI x = true then some [(s, pc + 1, al, aLong :: r)] else none
    | _ => none
  | .l2i => match st with
    | x :: r => if aIsL x = true then some [(aNew s aFull, pc + 1, al, aSym s.1.length :: r)] else none
    | _ => none
  | .i2b => match st with
    | x :: r => if aIsI x = true then some [(aNew s (-128, 127), pc + 1, al, aSym s.1.length :: r)] else none
    | _ => none
  | .dup => match st with
    | x :: r => if aCat x = 1 then some [(s, pc + 1, al, x :: x :: r)] else none
    | _ => none
  | .pop => match st with
    | x :: r => if aCat x = 1 then some [(s, pc + 1, al, r)] else none
    | _ => none
  | .dup2 => match st with
    | x :: y :: r => if aCat x = 1 ∧ aCat y = 1 then some [(s, pc + 1, al, x :: y :: x :: y :: r)] else none
    | _ => none
  | .ifCond c off => match st with
    | x :: r => aBr s c x (.inl 0) pc off al r
    | _ => none
  | .if_icmp c off => match st with
    | y :: x :: r => aBr s c x y pc off al r
    | _ => none
  | .goto off => match aGo s pc off al st with
    | some y => some [y]
    | none => none
  | .tableswitch d lo hi offs => match st with
    | x :: r => aTsw s x pc d lo hi offs al r
    | _ => none
  | .lookupswitch d ps => match st with
    | x :: r => aLsw s x pc d ps al r
    | _ => none
  | _ => none
section APU
variable {S : List Nat} {h : List nC} {nu : List Int} {mu : List Nat} {s : aS} {pc mL : Nat} {lv : nLv} {st : List Value} {al : List (Nat × aV)} {ast : List aV} {l : List aY}
/-- some of the states is the next one -/
def aNx (S : List Nat) (h : List nC) (nu : List Int) (mu : List Nat) (l : List aY) (r : Nat × nLv × List Value) : Prop := ∃ nu1, aX nu mu nu1 mu ∧ ∃ y ∈ l, y.2.1 = r.1 ∧ aOk S h nu1 mu y.1 ∧ aLv nu1 mu y.2.2.1 r.2.1 ∧ aSt nu1 mu y.2.2.2 r.2.2
theorem aNx.one {y : aY} {r : Nat × nLv × List Value} (h0 : y.2.1 = r.1) (h1 : aOk S h nu mu y.1) (h2 : aLv nu mu y.2.2.1 r.2.1) (h3 : aSt nu mu y.2.2.2 r.2.2) : aNx S h nu mu [y] r := ⟨nu, aX.rf, y, List.mem_singleton.mpr rfl, h0, h1, h2, h3⟩
theorem aNx.new {x : Int32} {rg : Int × Int} {pc1 : Nat} {r : List aV} {rst : List Value} (k : aOk S h nu mu s) (hl : aLv nu mu al lv) (hs : aSt nu mu r rst) (hx : rg.1 ≤ x.toInt ∧ x.toInt ≤ rg.2) : aNx S h nu mu [(aNew s rg, pc1, al, aSym s.1.length :: r)] (pc1, lv, .int x :: rst) := by
  have X : aX nu mu (nu ++ [x.toInt]) mu := ⟨[x.toInt], [], rfl, by simp⟩
  have hle : s.1.length = nu.length := k.1.1
  exact ⟨nu ++ [x.toInt], X, _, List.mem_singleton.mpr rfl, rfl, k.pushI hx, hl.x X, by rw [hle]; exact aR_sym nu mu x, hs.x X⟩
theorem aNx.app1 {l2 : List aY} {r : Nat × nLv × List Value} (k : aNx S h nu mu l r) : aNx S h nu mu (l ++ l2) r := by
  obtain ⟨nu1, X, y, hy, k⟩ := k
  exact ⟨nu1, X, y, List.mem_append_left _ hy, k⟩
theorem aNx.app2 {l2 : List aY} {r : Nat × nLv × List Value} (k : aNx S h nu mu l2 r) : aNx S h nu mu (l ++ l2) r := by
  obtain ⟨nu1, X, y, hy, k⟩ := k
  exact ⟨nu1, X, y, List.mem_append_right _ hy, k⟩
theorem aIsI_v {a : aV} {v : Value} (hi : aIsI a = true) (h : aR nu mu a v) : ∃ x, v = .int x := by
  unfold aIsI at hi
  split at hi
  · exact ⟨_, h⟩
  · obtain ⟨z, -, e⟩ := h; exact ⟨_, e⟩
  · cases hi
theorem aIsL_v {a : aV} {v : Value} (hi : aIsL a = true) (h : aR nu mu a v) : ∃ x, v = .long x := by
  unfold aIsL at hi
  split at hi
  · exact h
  · cases hi
theorem aAddN_ok {a : aV} {x : Int32} (k : aOk S h nu mu s) (ha : aR nu mu a (.int x)) (n : Int) : ∃ nu1, aX nu mu nu1 mu ∧ aOk S h nu1 mu (aAddN s a n).1 ∧ aR nu1 mu (aAddN s a n).2 (.int (x + Int32.ofInt n)) := by
  unfold aAddN
  split
  · exact ⟨nu, aX.rf, k, aAdd_ok ha n⟩
  · have hle : s.1.length = nu.length := k.1.1
    refine ⟨nu ++ [(x + Int32.ofInt n).toInt], ⟨[(x + Int32.ofInt n).toInt], [], rfl, by simp⟩, k.pushI (aFull_ok _), ?_⟩
    show aR _ mu (aSym s.1.length) _
    rw [hle]
    exact aR_sym nu mu _
theorem lDf_ok {i j : Nat} {c x y : Int} (hx : nu[i]? = some x) (hy : nu[j]? = some y) (h : x ≤ y + c) : dfOk nu (lDf i j c) := by
  refine ⟨fun t ht => ?_, ?_⟩
  · rcases List.mem_cons.mp ht with rfl | ht
    · exact (List.getElem?_eq_some_iff.mp hx).1
    · have := List.mem_singleton.mp ht
      subst this
      exact (List.getElem?_eq_some_iff.mp hy).1
  · simp only [lS, List.map_cons, List.map_nil, List.sum_cons, List.sum_nil, List.getD_eq_getElem?_getD, hx, hy, Option.getD_some]
    omega
theorem aFact_ok {a b : aV} {x y : Int32} {c : Jvm.ClassFile.Cond} (k : aOk S h nu mu s) (ha : aR nu mu a (.int x)) (hb : aR nu mu b (.int y)) (hc : nj_cmp c x y = true) : ∀ e ∈ aFact s.1 c a b, dfOk nu e := by
  intro e he
  unfold aFact at he
  split at he
  · next i c1 j c2 =>
    split at he
    · next ri rj hri hrj =>
      split at he
      · next hf =>
        obtain ⟨z, hz, ez⟩ := ha
        obtain ⟨w, hw, ew⟩ := hb
        have b1 := k.1.2 i z ri hz hri
        have b2 := k.1.2 j w rj hw hrj
        simp only [aFit, Bool.and_eq_true, decide_eq_true_eq] at hf
        have ex : x.toInt = z + c1 := by
          have : x = Int32.ofInt (z + c1) := by cases ez; rfl
          rw [this, a32 (by omega) (by omega)]
        have ey : y.toInt = w + c2 := by
          have : y = Int32.ofInt (w + c2) := by cases ew; rfl
          rw [this, a32 (by omega) (by omega)]
        cases c <;> simp only [nj_cmp, decide_eq_true_eq] at hc
        · have hc2 : x.toInt = y.toInt := by rw [hc]
          rcases List.mem_cons.mp he with rfl | he
          · exact lDf_ok hz hw (by omega)
          · have := List.mem_singleton.mp he
            subst this
            exact lDf_ok hw hz (by omega)
        · cases he
        · rw [Int32.lt_iff_toInt_lt] at hc
          have := List.mem_singleton.mp he
          subst this
          exact lDf_ok hz hw (by omega)
        · rw [Int32.le_iff_toInt_le] at hc
          have := List.mem_singleton.mp he
          subst this
          exact lDf_ok hw hz (by omega)
        · rw [Int32.lt_iff_toInt_lt] at hc
          have := List.mem_singleton.mp he
          subst this
          exact lDf_ok hw hz (by omega)
        · rw [Int32.le_iff_toInt_le] at hc
          have := List.mem_singleton.mp he
          subst this
          exact lDf_ok hz hw (by omega)
      · cases he
    · cases he
  · cases he
theorem aCtr_ok {a b : aV} {x y : Int32} {c : Jvm.ClassFile.Cond} (k : aOk S h nu mu s) (ha : aR nu mu a (.int x)) (hb : aR nu mu b (.int y)) (hc : nj_cmp c x y = true) : ¬ aCtr s c a b = true := by
  intro he
  unfold aCtr at he
  split at he
  · next i c1 j c2 =>
    split at he
    · next ri rj hri hrj =>
      split at he
      · next hf =>
        obtain ⟨z, hz, ez⟩ := ha
        obtain ⟨w, hw, ew⟩ := hb
        have b1 := k.1.2 i z ri hz hri
        have b2 := k.1.2 j w rj hw hrj
        simp only [aFit, Bool.and_eq_true, decide_eq_true_eq] at hf
        have ex : x.toInt = z + c1 := by
          have : x = Int32.ofInt (z + c1) := by cases ez; rfl
          rw [this, a32 (by omega) (by omega)]
        have ey : y.toInt = w + c2 := by
          have : y = Int32.ofInt (w + c2) := by cases ew; rfl
          rw [this, a32 (by omega) (by omega)]
        have key1 : ∀ q : Int, aPrF s ([(1, i), (-1, j)], q) = true → z - w + q ≤ 0 := fun q hq => by
          have := aPrF_ok k hq
          simp only [lS, List.map_cons, List.map_nil, List.sum_cons, List.sum_nil, List.getD_eq_getElem?_getD, hz, hw, Option.getD_some] at this
          omega
        have key2 : ∀ q : Int, aPrF s ([(1, j), (-1, i)], q) = true → w - z + q ≤ 0 := fun q hq => by
          have := aPrF_ok k hq
          simp only [lS, List.map_cons, List.map_nil, List.sum_cons, List.sum_nil, List.getD_eq_getElem?_getD, hz, hw, Option.getD_some] at this
          omega
        cases c <;> simp only [nj_cmp, decide_eq_true_eq] at hc
        · have hc2 : x.toInt = y.toInt := by rw [hc]
          simp only [Bool.or_eq_true] at he
          rcases he with he | he
          · have := key1 _ he; omega
          · have := key2 _ he; omega
        · cases he
        · rw [Int32.lt_iff_toInt_lt] at hc
          have := key2 _ he
          omega
        · rw [Int32.le_iff_toInt_le] at hc
          have := key1 _ he
          omega
        · rw [Int32.lt_iff_toInt_lt] at hc
          have := key1 _ he
          omega
        · rw [Int32.le_iff_toInt_le] at hc
          have := key2 _ he
          omega
      · cases he
    · cases he
  · cases he
theorem aIf_ok {a b : aV} {x y : Int32} {c : Jvm.ClassFile.Cond} {pc1 : Nat} (k : aOk S h nu mu s) (hl : aLv nu mu al lv) (hs : aSt nu mu ast st) (ha : aR nu mu a (.int x)) (hb : aR nu mu b (.int y)) (hia : aIsI a = true) (hib : aIsI b = true) (hc : nj_cmp c x y = true) : aNx S h nu mu (aIf s c a b pc1 al ast) (pc1, lv, st) := by
  obtain ⟨r, hr, hE⟩ := aAsm_ok k.1 ha hb hia hib hc
  unfold aIf
  rw [if_neg (aCtr_ok k ha hb hc), hr]
  refine aNx.one rfl ⟨hE, k.2.1, k.2.2.1, k.2.2.2.1, fun e he => ?_⟩ hl hs
  rcases List.mem_append.mp he with he | he
  · exact aFact_ok k ha hb hc e he
  · exact k.2.2.2.2 e he
theorem aIfN_ok {a b : aV} {x y : Int32} {c : Jvm.ClassFile.Cond} {pc1 : Nat} (k : aOk S h nu mu s) (hl : aLv nu mu al lv) (hs : aSt nu mu ast st) (ha : aR nu mu a (.int x)) (hb : aR nu mu b (.int y)) (hia : aIsI a = true) (hib : aIsI b = true) (hc : nj_cmp c x y = true) : aNx S h nu mu (aIfN s c a b pc1 al ast) (pc1, lv, st) := by
  unfold aIfN
  split
  · next hq =>
    have e := hq.1
    subst e
    simp only [nj_cmp, decide_eq_true_eq] at hc
    have hne : ¬ x.toInt = y.toInt := fun q => hc (Int32.toInt_inj.mp q)
    by_cases hlt : x.toInt < y.toInt
    · exact (aIf_ok k hl hs ha hb hia hib (c := .lt) (by simp only [nj_cmp, decide_eq_true_eq]; rw [Int32.lt_iff_toInt_lt]; exact hlt)).app1
    · exact (aIf_ok k hl hs ha hb hia hib (c := .gt) (by simp only [nj_cmp, decide_eq_true_eq]; rw [Int32.lt_iff_toInt_lt]; omega)).app2
  · exact aIf_ok k hl hs ha hb hia hib hc
theorem aBr_ok {a b : aV} {x y : Int32} {c : Jvm.ClassFile.Cond} {off : Int} (k : aOk S h nu mu s) (hl : aLv nu mu al lv) (hs : aSt nu mu ast st) (ha : aR nu mu a (.int x)) (hb : aR nu mu b (.int y)) (hr : aBr s c a b pc off al ast = some l) : ∃ r, nj_br pc off (nj_cmp c x y) lv st = some r ∧ aNx S h nu mu l r := by
  unfold aBr at hr
  split at hr
  · next hc =>
    cases hr
    unfold nj_br
    rw [if_pos hc.1]
    cases hcmp : nj_cmp c x y with
    | true => exact ⟨_, rfl, (aIfN_ok k hl hs ha hb hc.2.1 hc.2.2 hcmp).app1⟩
    | false => exact ⟨_, rfl, (aIfN_ok k hl hs ha hb hc.2.1 hc.2.2 (aNeg_ok hcmp)).app2⟩
  · cases hr
theorem aGo_ok {off : Int} {y : aY} (hr : aGo s pc off al ast = some y) : nj_go pc off lv st = some (y.2.1, lv, st) ∧ y = (s, y.2.1, al, ast) := by
  unfold aGo at hr
  split at hr
  · next hc =>
    cases hr
    exact ⟨by simp only [nj_go, if_pos hc], rfl⟩
  · cases hr
theorem aEq_ok {a : aV} {x : Int32} {kx off : Int} (k : aOk S h nu mu s) (hl : aLv nu mu al lv) (hs : aSt nu mu ast st) (ha : aR nu mu a (.int x)) (hia : aIsI a = true) (hf : aFit (kx, kx) = true) (hx : x.toInt = kx) (hr : aEq s a kx pc off al ast = some l) : ∃ r, nj_go pc off lv st = some r ∧ aNx S h nu mu l r := by
  unfold aEq at hr
  split at hr
  · next y hy =>
    cases hr
    obtain ⟨g1, g2⟩ := aGo_ok (lv := lv) (st := st) hy
    refine ⟨_, g1, ?_⟩
    have hb : aR nu mu (.inl kx) (.int x) := by
      show Value.int x = .int _
      rw [← hx, Int32.ofInt_toInt]
    obtain ⟨r, hr, hE⟩ := aAsm_ok (c := .eq) k.1 ha hb hia rfl (by simp [nj_cmp])
    rw [hr]
    rw [g2]
    exact aNx.one rfl ⟨hE, k.2.1, k.2.2.1, k.2.2.2.1, k.2.2.2.2⟩ hl hs
  · cases hr
end APU
end
section
theorem zB_iff {x : Int32} {m : Nat} : x &&& Int32.ofNat (2 ^ m - 1) = 0 ↔ ∀ i, i < 32 → i < m → x.toBitVec.getLsbD i = false := by
  have hm : ∀ i, i < 32 → (Int32.ofNat (2 ^ m - 1)).toBitVec.getLsbD i = decide (i < m) := by
    intro i hi
    show (BitVec.ofNat 32 (2 ^ m - 1)).getLsbD i = _
    rw [BitVec.getLsbD_ofNat, Nat.testBit_two_pow_sub_one]
    simp [hi]
  constructor
  · intro h i hi him
    have h2 := congrArg (fun z : Int32 => z.toBitVec.getLsbD i) h
    simp only [Int32.toBitVec_and, BitVec.getLsbD_and, hm i hi, him, decide_true, Bool.and_true] at h2
    rw [h2]
    show (BitVec.ofNat 32 0).getLsbD i = false
    simp
  · intro h
    apply Int32.toBitVec_inj.mp
    apply BitVec.eq_of_getLsbD_eq
    intro i hi
    simp only [Int32.toBitVec_and, BitVec.getLsbD_and, hm i hi]
    have h0 : (0 : Int32).toBitVec.getLsbD i = false := by
      show (BitVec.ofNat 32 0).getLsbD i = false
      simp
    rw [h0]
    by_cases him : i < m
    · rw [h i hi him]; rfl
    · simp [him]
theorem zB_sm : ∀ l, l < 32 → ((nI l &&& 31).toBitVec.smod 32).toNat = l := by decide
theorem zB_shl {l i : Nat} (hl : l < 32) (hi : i < l) : ((1 : Int32) <<< (nI l &&& 31)).toBitVec.getLsbD i = false := by
  rw [Int32.toBitVec_shiftLeft, BitVec.shiftLeft_eq', zB_sm l hl, BitVec.getLsbD_shiftLeft]
  simp [hi]
theorem zB_shr {x : Int32} {l : Nat} (hl : l < 31) : (x >>> (nI l &&& 31)).toBitVec.getLsbD 0 = x.toBitVec.getLsbD l := by
  rw [Int32.toBitVec_shiftRight, BitVec.sshiftRight_eq', zB_sm l (by omega), BitVec.getLsbD_sshiftRight]
  simp
  intro h
  omega
section APM
variable {S : List Nat} {h : List nC} {nu : List Int} {mu : List Nat} {s : aS} {pc mL : Nat} {lv : nLv} {st : List Value} {al : List (Nat × aV)} {ast : List aV} {l : List aY}
theorem aMul_ok (k : aOk S h nu mu s) {m : Nat} {a : aV} {x : Int32} (ha : aR nu mu a (.int x)) (hm : aMul s m a = true) : x &&& Int32.ofNat (2 ^ m - 1) = 0 := by
  unfold aMul at hm
  split at hm
  · cases ha
    exact of_decide_eq_true hm
  · next i c =>
    rw [Bool.and_eq_true] at hm
    obtain ⟨z, hz, ez⟩ := ha
    have hc := of_decide_eq_true hm.1
    subst hc
    obtain ⟨e, he, h1⟩ := List.any_eq_true.mp hm.2
    have hd := k.2.2.2.2 e he
    split at h1
    · next q =>
      have hq := of_decide_eq_true h1
      subst hq
      obtain ⟨y, y1, y2⟩ := hd
      cases hz.symm.trans y1
      rw [Int.add_zero] at ez
      cases ez
      exact y2
    · cases h1
  · cases hm
theorem aNx.newF {x : Int32} {rg : Int × Int} {pc1 : Nat} {r : List aV} {rst : List Value} {fl : List aDf} (k : aOk S h nu mu s) (hl : aLv nu mu al lv) (hs : aSt nu mu r rst) (hx : rg.1 ≤ x.toInt ∧ x.toInt ≤ rg.2) (hf : ∀ e ∈ fl, dfOk (nu ++ [x.toInt]) e) : aNx S h nu mu [(aNewF s rg fl, pc1, al, aSym s.1.length :: r)] (pc1, lv, .int x :: rst) := by
  have X : aX nu mu (nu ++ [x.toInt]) mu := ⟨[x.toInt], [], rfl, by simp⟩
  have hle : s.1.length = nu.length := k.1.1
  have k1 := k.pushI hx
  refine ⟨nu ++ [x.toInt], X, _, List.mem_singleton.mpr rfl, rfl, ⟨k1.1, k1.2.1, k1.2.2.1, k1.2.2.2.1, fun e he => ?_⟩, hl.x X, by rw [hle]; exact aR_sym nu mu x, hs.x X⟩
  rcases List.mem_append.mp he with he | he
  · exact hf e he
  · exact k1.2.2.2.2 e he
theorem aFitX_ok (k : aOk S h nu mu s) {j : Nat} {d z : Int} {y : Int32} (hz : nu[j]? = some z) (ey : Value.int y = .int (Int32.ofInt (z + d))) (hf : aFitX s (.inr (.inl (j, d))) = true) : y.toInt = z + d := by
  unfold aFitX at hf
  simp only at hf
  split at hf
  · next r hr =>
    have b := k.1.2 j z r hz hr
    simp only [aFit, Bool.and_eq_true, decide_eq_true_eq] at hf
    have : y = Int32.ofInt (z + d) := by cases ey; rfl
    rw [this, a32 (by omega) (by omega)]
  · cases hf
theorem aMulF {n : Nat} {nu2 : List Int} {j : Nat} {c d z v : Int} (hn : nu2[n]? = some v) (hj : nu2[j]? = some z) (hv : v = c * (z + d)) : ∀ e ∈ ([.inl ([(1, n), (-c, j)], -(c * d)), .inl ([(-1, n), (c, j)], c * d)] : List aDf), dfOk nu2 e := by
  have l1 := (List.getElem?_eq_some_iff.mp hn).1
  have l2 := (List.getElem?_eq_some_iff.mp hj).1
  rw [Int.mul_add] at hv
  intro e he
  rcases List.mem_cons.mp he with rfl | he
  · refine ⟨fun t ht => ?_, ?_⟩
    · rcases List.mem_cons.mp ht with rfl | ht
      · exact l1
      · rw [List.mem_singleton.mp ht]; exact l2
    · simp only [lS, List.map_cons, List.map_nil, List.sum_cons, List.sum_nil, List.getD_eq_getElem?_getD, hn, hj, Option.getD_some, Int.neg_mul]
      omega
  · have := List.mem_singleton.mp he
    subst this
    refine ⟨fun t ht => ?_, ?_⟩
    · rcases List.mem_cons.mp ht with rfl | ht
      · exact l1
      · rw [List.mem_singleton.mp ht]; exact l2
    · simp only [lS, List.map_cons, List.map_nil, List.sum_cons, List.sum_nil, List.getD_eq_getElem?_getD, hn, hj, Option.getD_some, Int.neg_mul]
      omega
theorem aOpF_ok {i : Instr} {x y : aV} {x0 y0 : Int32} (k : aOk S h nu mu s) (hx : aR nu mu x (.int x0)) (hy : aR nu mu y (.int y0)) (hxi : aIsI x = true) (hyi : aIsI y = true) : ∀ e ∈ aOpF s i x y, dfOk (nu ++ [(aOp i x0 y0).toInt]) e := by
  intro e he
  have hle : s.1.length = nu.length := k.1.1
  have hn : ∀ v : Int, (nu ++ [v])[s.1.length]? = some v := fun v => by rw [hle]; simp
  have hap : ∀ {v z : Int} {j : Nat}, nu[j]? = some z → (nu ++ [v])[j]? = some z := fun {v z j} hz => by
    rw [List.getElem?_append_left (List.getElem?_eq_some_iff.mp hz).1]; exact hz
  obtain ⟨xa, ea, hx1, hx2⟩ := aIv_ok k.1 hxi hx
  cases ea
  obtain ⟨ya, eb, hy1, hy2⟩ := aIv_ok k.1 hyi hy
  cases eb
  unfold aOpF at he
  split at he
  · split at he
    · next c j d =>
      split at he
      · next hc =>
        obtain ⟨h0, h1, h2, h3⟩ := hc
        obtain ⟨z, hz, ez⟩ := hy
        have ey := aFitX_ok k hz ez h2
        simp only [aFit, Bool.and_eq_true, decide_eq_true_eq] at h1 h3
        have exc : x0.toInt = c := by
          have : x0 = Int32.ofInt c := by cases hx; rfl
          rw [this, a32 (by omega) (by omega)]
        have m1 := Int.mul_le_mul_of_nonneg_left hy1 h0
        have m2 := Int.mul_le_mul_of_nonneg_left hy2 h0
        have hv : (aOp .imul x0 y0).toInt = c * (z + d) := by
          show (x0 * y0).toInt = _
          rw [Int32.toInt_mul, exc, ← ey, bm (by omega) (by omega)]
        exact aMulF (hn _) (hap hz) hv e he
      · cases he
    · next j d c =>
      split at he
      · next hc =>
        obtain ⟨h0, h1, h2, h3⟩ := hc
        obtain ⟨z, hz, ez⟩ := hx
        have ey := aFitX_ok k hz ez h2
        simp only [aFit, Bool.and_eq_true, decide_eq_true_eq] at h1 h3
        have exc : y0.toInt = c := by
          have : y0 = Int32.ofInt c := by cases hy; rfl
          rw [this, a32 (by omega) (by omega)]
        have m1 := Int.mul_le_mul_of_nonneg_left hx1 h0
        have m2 := Int.mul_le_mul_of_nonneg_left hx2 h0
        have hv : (aOp .imul x0 y0).toInt = c * (z + d) := by
          show (x0 * y0).toInt = _
          rw [Int32.toInt_mul, exc, ← ey, Int.mul_comm, bm (by omega) (by omega)]
        exact aMulF (hn _) (hap hz) hv e he
      · cases he
    · cases he
  · obtain ⟨m, hm, rfl⟩ := List.mem_map.mp he
    obtain ⟨-, hm2⟩ := List.mem_filter.mp hm
    rw [Bool.and_eq_true] at hm2
    have a1 := zB_iff.mp (aMul_ok k hx hm2.1)
    have a2 := zB_iff.mp (aMul_ok k hy hm2.2)
    refine ⟨(x0 ||| y0).toInt, hn _, ?_⟩
    rw [Int32.ofInt_toInt]
    refine zB_iff.mpr (fun i hi him => ?_)
    rw [Int32.toBitVec_or, BitVec.getLsbD_or, a1 i hi him, a2 i hi him]
    rfl
  · split at he
    · next hc =>
      obtain ⟨rfl, h1, h2⟩ := hc
      have := List.mem_singleton.mp he
      subst this
      have ex : x0 = 1 := by cases hx; rfl
      subst ex
      have zy : ¬ y0 < 0 := by
        rw [Int32.lt_iff_toInt_lt]
        have : (0 : Int32).toInt = 0 := rfl
        omega
      obtain ⟨d, hd, ed⟩ := nI_of zy
      have hdt : y0.toInt = (d : Int) := by rw [ed]; exact nI_toInt hd
      refine ⟨((1 : Int32) <<< (y0 &&& 31)).toInt, hn _, ?_⟩
      rw [Int32.ofInt_toInt]
      refine zB_iff.mpr (fun i hi him => ?_)
      rw [ed]
      exact zB_shl (by omega) (by omega)
    · cases he
  · split at he
    · next hc =>
      obtain ⟨h1, h2, h3⟩ := hc
      have := List.mem_singleton.mp he
      subst this
      obtain ⟨m, -, hm⟩ := List.any_eq_true.mp h3
      simp only [Bool.and_eq_true, decide_eq_true_eq] at hm
      obtain ⟨hm0, hm1, hm2⟩ := hm
      have a1 := zB_iff.mp (aMul_ok k hx hm2)
      have zy : ¬ y0 < 0 := by
        rw [Int32.lt_iff_toInt_lt]
        have : (0 : Int32).toInt = 0 := rfl
        omega
      obtain ⟨d, hd, ed⟩ := nI_of zy
      have hdt : y0.toInt = (d : Int) := by rw [ed]; exact nI_toInt hd
      refine ⟨(x0 >>> (y0 &&& 31)).toInt, hn _, ?_⟩
      rw [Int32.ofInt_toInt]
      refine zB_iff.mpr (fun i hi him => ?_)
      have e0 : i = 0 := by omega
      subst e0
      rw [ed, zB_shr (by omega)]
      exact a1 d (by omega) (by omega)
    · cases he
  · cases he
end APM
end
section
section AP3
variable {S : List Nat} {h : List nC} {nu : List Int} {mu : List Nat} {s : aS} {pc mL : Nat} {lv : nLv} {st : List Value} {al : List (Nat × aV)} {ast : List aV} {l : List aY}
theorem aTab_ok {a : aV} {x : Int32} (k : aOk S h nu mu s) (hl : aLv nu mu al lv) (hs : aSt nu mu ast st) (ha : aR nu mu a (.int x)) (hia : aIsI a = true) : ∀ (os : List Int) (k0 : Int) (j : Nat) (o : Int) (l : List aY), os[j]? = some o → x.toInt = k0 + j → aTab s a pc al ast os k0 = some l → ∃ r, nj_go pc o lv st = some r ∧ aNx S h nu mu l r := by
  intro os
  induction os with
  | nil => intro k0 j o l hj; simp at hj
  | cons o0 os ih =>
    intro k0 j o l hj hx hr
    simp only [aTab] at hr
    split at hr
    · next l1 l2 e1 e2 =>
      cases hr
      cases j with
      | zero =>
        simp only [List.getElem?_cons_zero] at hj
        cases hj
        have hf : aFit (k0, k0) = true := by
          have := aFull_ok x
          simp only [aFull] at this
          simp only [aFit, Bool.and_eq_true, decide_eq_true_eq]
          omega
        obtain ⟨r, g1, g2⟩ := aEq_ok k hl hs ha hia hf (by omega) e1
        exact ⟨r, g1, g2.app1⟩
      | succ j =>
        simp only [List.getElem?_cons_succ] at hj
        obtain ⟨r, g1, g2⟩ := ih (k0 + 1) j o l2 hj (by omega) e2
        exact ⟨r, g1, g2.app2⟩
    · cases hr
theorem aTsw_ok {a : aV} {x : Int32} {d lo hi : Int} {offs : Array Int} (k : aOk S h nu mu s) (hl : aLv nu mu al lv) (hs : aSt nu mu ast st) (ha : aR nu mu a (.int x)) (hr : aTsw s a pc d lo hi offs al ast = some l) : ∃ r, nj_tab pc lv d lo hi offs x st = some r ∧ aNx S h nu mu l r := by
  unfold aTsw at hr
  split at hr
  · next hc =>
    obtain ⟨hia, hlen, hfit, hlh⟩ := hc
    simp only [aFit, Bool.and_eq_true, decide_eq_true_eq] at hfit
    split at hr
    · next y l0 hy htab =>
      cases hr
      obtain ⟨g1, g2⟩ := aGo_ok (lv := lv) (st := st) hy
      unfold nj_tab
      by_cases hlt : x.toInt < lo
      · rw [if_pos (Or.inl hlt)]
        refine ⟨_, g1, ?_⟩
        have hcm : nj_cmp .lt x (Int32.ofInt lo) = true := by
          simp only [nj_cmp, decide_eq_true_eq]
          rw [Int32.lt_iff_toInt_lt, Int32.toInt_ofInt]
          have := aFull_ok x
          simp only [aFull] at this
          rw [bm (by omega) (by omega)]
          exact hlt
        have hxx := aFull_ok x
        obtain ⟨r, hr, hE⟩ := aAsm_ok (c := .lt) (b := .inl lo) (y := Int32.ofInt lo) k.1 ha rfl hia rfl hcm
        rw [hr, g2]
        exact (aNx.one rfl ⟨hE, k.2.1, k.2.2.1, k.2.2.2.1, k.2.2.2.2⟩ hl hs).app1
      · by_cases hgt : hi < x.toInt
        · rw [if_pos (Or.inr hgt)]
          refine ⟨_, g1, ?_⟩
          have hcm : nj_cmp .gt x (Int32.ofInt hi) = true := by
            simp only [nj_cmp, decide_eq_true_eq]
            rw [Int32.lt_iff_toInt_lt, Int32.toInt_ofInt]
            have := aFull_ok x
            simp only [aFull] at this
            rw [bm (by omega) (by omega)]
            exact hgt
          obtain ⟨r, hr, hE⟩ := aAsm_ok (c := .gt) (b := .inl hi) (y := Int32.ofInt hi) k.1 ha rfl hia rfl hcm
          rw [hr, g2]
          exact ((aNx.one rfl ⟨hE, k.2.1, k.2.2.1, k.2.2.2.1, k.2.2.2.2⟩ hl hs).app1).app2
        · rw [if_neg (by intro q; rcases q with q | q; exact hlt q; exact hgt q)]
          have hj : (x.toInt - lo).toNat < offs.toList.length := by omega
          have ho : offs.toList[(x.toInt - lo).toNat]? = some offs.toList[(x.toInt - lo).toNat] := List.getElem?_eq_getElem hj
          obtain ⟨r, e1, e2⟩ := aTab_ok (pc := pc) k hl hs ha hia offs.toList lo _ _ l0 ho (by omega) htab
          have ho2 : offs[(x.toInt - lo).toNat]? = some offs.toList[(x.toInt - lo).toNat] := by rw [← Array.getElem?_toList]; exact ho
          rw [ho2]
          exact ⟨r, e1, e2.app2.app2⟩
    · cases hr
  · cases hr
theorem aSw_ok {a : aV} {x : Int32} (k : aOk S h nu mu s) (hl : aLv nu mu al lv) (hs : aSt nu mu ast st) (ha : aR nu mu a (.int x)) (hia : aIsI a = true) : ∀ (ps : List (Int × Int)) (d : Int) (l : List aY), ps.all (fun q => aFit (q.1, q.1)) = true → aSw s a pc al ast ps = some l → ((∀ q ∈ ps, ¬ x.toInt = q.1) ∧ Op.lookupswitch.offset ps d x.toInt = d) ∨ ∃ r, nj_go pc (Op.lookupswitch.offset ps d x.toInt) lv st = some r ∧ aNx S h nu mu l r := by
  intro ps
  induction ps with
  | nil => intro d l _ _; exact Or.inl ⟨fun q hq => (by cases hq), rfl⟩
  | cons q ps ih =>
    intro d l hf hr
    simp only [List.all_cons, Bool.and_eq_true] at hf
    simp only [aSw] at hr
    split at hr
    · next l1 l2 e1 e2 =>
      cases hr
      obtain ⟨kq, o⟩ := q
      rw [Op.lookupswitch.offset_cons]
      split
      · next hq =>
        right
        obtain ⟨r, g1, g2⟩ := aEq_ok k hl hs ha hia hf.1 (by first | exact hq | exact hq.symm) e1
        exact ⟨r, g1, g2.app1⟩
      · next hq =>
        rcases ih d l2 hf.2 e2 with h1 | ⟨r, h1, h2⟩
        · refine Or.inl ⟨fun q hq2 => ?_, h1.2⟩
          rcases List.mem_cons.mp hq2 with rfl | hq2
          · first | exact hq | exact fun z => hq z.symm
          · exact h1.1 q hq2
        · exact Or.inr ⟨r, h1, h2.app2⟩
    · cases hr
theorem aGap_ok {a : aV} {x : Int32} {pc1 : Nat} (k : aOk S h nu mu s) (hl : aLv nu mu al lv) (hs : aSt nu mu ast st) (ha : aR nu mu a (.int x)) : ∀ (ps : List (Int × Int)) (p : Option Int), (∀ b, p = some b → b < x.toInt) → (∀ q ∈ ps, ¬ x.toInt = q.1) → aNx S h nu mu (aGap s a (pc1, al, ast) p ps) (pc1, lv, st) := by
  intro ps
  have h0 : ∀ p : Option Int, (∀ b, p = some b → b < x.toInt) → ∃ r, aGp0 s a p = some r ∧ aE r nu := by
    intro p hp
    cases p with
    | none => exact ⟨s.1, rfl, k.1⟩
    | some b =>
      obtain ⟨r, e1, e2⟩ := aGe_ok (B := b + 1) k.1 ha (by have := hp b rfl; omega)
      exact ⟨r, e1, e2⟩
  induction ps with
  | nil =>
    intro p hp hn
    obtain ⟨r, e1, e2⟩ := h0 p hp
    unfold aGap
    rw [e1]
    exact aNx.one rfl ⟨e2, k.2.1, k.2.2.1, k.2.2.2.1, k.2.2.2.2⟩ hl hs
  | cons q ps ih =>
    intro p hp hn
    obtain ⟨r, e1, e2⟩ := h0 p hp
    unfold aGap
    rw [e1]
    have hq := hn q List.mem_cons_self
    by_cases hlt : x.toInt < q.1
    · obtain ⟨r2, e3, e4⟩ := aLe_ok (B := q.1 - 1) e2 ha (by omega)
      simp only [e3]
      exact (aNx.one rfl ⟨e4, k.2.1, k.2.2.1, k.2.2.2.1, k.2.2.2.2⟩ hl hs).app1
    · exact (ih (some q.1) (fun b hb => by cases hb; omega) (fun q2 h2 => hn q2 (List.mem_cons_of_mem _ h2))).app2
theorem aLoad_ok {f : aV → Bool} {kx : Nat} {pc1 : Nat} (k : aOk S h nu mu s) (hl : aLv nu mu al lv) (hs : aSt nu mu ast st) (hr : aLoad f s pc1 kx al ast = some l) : ∃ (x : aV) (v : Value), f x = true ∧ nj_get lv kx = some v ∧ aR nu mu x v ∧ aNx S h nu mu l (pc1, lv, v :: st) := by
  unfold aLoad at hr
  split at hr
  · next x hx =>
    split at hr
    · next hf =>
      cases hr
      obtain ⟨v, g1, g2⟩ := aGetL_ok hl hx
      exact ⟨x, v, hf, g1, g2, aNx.one rfl k hl ⟨g2, hs⟩⟩
    · cases hr
  · cases hr
theorem aStore_ok {f : aV → Bool} {kx : Nat} {pc1 : Nat} (k : aOk S h nu mu s) (hl : aLv nu mu al lv) (hs : aSt nu mu ast st) (hr : aStore f s mL pc1 kx al ast = some l) : ∃ (x : aV) (v : Value) (rst : List Value), f x = true ∧ st = v :: rst ∧ aR nu mu x v ∧ kx < mL ∧ aNx S h nu mu l (pc1, nj_put lv kx v, rst) := by
  unfold aStore at hr
  split at hr
  · next x r =>
    split at hr
    · next hc =>
      cases hr
      obtain ⟨v, rst, rfl, hx, hrst⟩ := hs.cons
      exact ⟨x, v, rst, hc.1, rfl, hx, hc.2, aNx.one rfl k (aPut_ok hl hx) hrst⟩
    · cases hr
  · cases hr
theorem aIsR_v {a : aV} {v : Value} (hi : aIsR a = true) (h : aR nu mu a v) : (∃ x, v = .ref x) ∨ ∃ x, v = .retAddr x := by
  unfold aIsR at hi
  split at hi
  · obtain ⟨q, -, e⟩ := h; exact Or.inl ⟨_, e⟩
  · exact Or.inr ⟨_, h⟩
  · cases hi
theorem a255N (n : Nat) (h : n < 256) : Int32.ofNat n &&& 255 = Int32.ofNat n := by
  have : ∀ n, n < 256 → Int32.ofNat n &&& 255 = Int32.ofNat n := by decide +kernel
  exact this n h
theorem a255M (n : Nat) (h : n < 256) : Int32.ofInt (-256 + (n : Int)) &&& 255 = Int32.ofNat n := by
  have : ∀ n : Nat, n < 256 → Int32.ofInt (-256 + (n : Int)) &&& 255 = Int32.ofNat n := by decide +kernel
  exact this n h
theorem a255 {x : Int32} (h1 : 0 ≤ x.toInt) (h2 : x.toInt ≤ 255) : x &&& 255 = x := by
  have e : x = Int32.ofNat x.toInt.toNat := by
    rw [← Int32.ofInt_toInt x, ← Int32.ofInt_eq_ofNat]
    congr 1
    rw [Int32.ofInt_toInt]
    omega
  rw [e]
  exact a255N _ (by omega)
theorem a255n {x : Int32} (h1 : -256 ≤ x.toInt) (h2 : x.toInt < 0) : x &&& 255 = x + Int32.ofInt 256 := by
  obtain ⟨n, hn⟩ : ∃ n : Nat, x.toInt = -256 + (n : Int) := ⟨(x.toInt + 256).toNat, by omega⟩
  have e : x = Int32.ofInt (-256 + (n : Int)) := by rw [← hn, Int32.ofInt_toInt]
  rw [e, a255M n (by omega), a32_add, ← Int32.ofInt_eq_ofNat]
  congr 1
  omega
theorem aB2_ok {i : Instr} (k : aOk S h nu mu s) (hl : aLv nu mu al lv) (hs : aSt nu mu ast st) (hr : aB2 s i pc al ast = some l) : ∃ (x y : Int32) (rst : List Value), st = .int y :: .int x :: rst ∧ aNx S h nu mu l (pc + 1, lv, .int (aOp i x y) :: rst) := by
  unfold aB2 at hr
  split at hr
  · next y x r =>
    obtain ⟨v0, rst0, rfl, hy, hrst0⟩ := hs.cons
    obtain ⟨v1, rst, rfl, hx, hrst⟩ := hrst0.cons
    split at hr
    · next hc =>
      obtain ⟨x0, rfl, hx1, hx2⟩ := aIv_ok k.1 hc.1 hx
      obtain ⟨y0, rfl, hy1, hy2⟩ := aIv_ok k.1 hc.2 hy
      refine ⟨x0, y0, rst, rfl, ?_⟩
      split at hr
      · next c =>
        cases hr
        have hyc : y0 = Int32.ofInt c := by cases hy; rfl
        obtain ⟨nu1, X1, k1, a1⟩ := aAddN_ok k hx c
        rw [← hyc] at a1
        exact ⟨nu1, X1, _, List.mem_singleton.mpr rfl, rfl, k1, hl.x X1, a1, hrst.x X1⟩
      · next c =>
        cases hr
        have hyc : y0 = Int32.ofInt c := by cases hy; rfl
        obtain ⟨nu1, X1, k1, a1⟩ := aAddN_ok k hx (-c)
        rw [Int32.ofInt_neg, ← Int32.sub_eq_add_neg, ← hyc] at a1
        exact ⟨nu1, X1, _, List.mem_singleton.mpr rfl, rfl, k1, hl.x X1, a1, hrst.x X1⟩
      · split at hr
        · next c =>
          cases hr
          have hxc : x0 = Int32.ofInt c := by cases hx; rfl
          obtain ⟨nu1, X1, k1, a1⟩ := aAddN_ok k hy c
          rw [← hxc, Int32.add_comm] at a1
          exact ⟨nu1, X1, _, List.mem_singleton.mpr rfl, rfl, k1, hl.x X1, a1, hrst.x X1⟩
        · cases hr
          exact aNx.new k hl hrst (aRg_ok .iadd ⟨hx1, hx2⟩ ⟨hy1, hy2⟩)
      · cases hr
        have hy0 : y0 = 0 := by cases hy; rfl
        subst hy0
        have e0 : aOp .ior x0 0 = x0 := Int32.or_zero
        rw [e0]
        exact aNx.one rfl k hl ⟨hx, hrst⟩
      · split at hr
        · next hm =>
          cases hr
          have hy0 : y0 = 255 := by cases hy; rfl
          subst hy0
          by_cases hneg : 0 ≤ x0.toInt
          · have e0 : aOp .iand x0 255 = x0 := a255 (by omega) (by omega)
            rw [e0]
            obtain ⟨r1, e1, e2⟩ := aGe_ok (B := 0) k.1 hx hneg
            simp only [e1]
            refine aNx.app1 ?_
            exact aNx.one rfl ⟨e2, k.2.1, k.2.2.1, k.2.2.2.1, k.2.2.2.2⟩ hl ⟨hx, hrst⟩
          · have e0 : aOp .iand x0 255 = x0 + Int32.ofInt 256 := a255n (by omega) (by omega)
            rw [e0]
            obtain ⟨r1, e1, e2⟩ := aLe_ok (B := -1) k.1 hx (by omega)
            simp only [e1]
            refine aNx.app2 ?_
            exact aNx.one rfl ⟨e2, k.2.1, k.2.2.1, k.2.2.2.1, k.2.2.2.2⟩ hl ⟨aAdd_ok hx 256, hrst⟩
        · cases hr
          exact aNx.new k hl hrst (aRg_ok .iand ⟨hx1, hx2⟩ ⟨hy1, hy2⟩)
      · split at hr
        · next hm =>
          cases hr
          have hy0 : y0 = 1 := by cases hy; rfl
          subst hy0
          have e0 : aOp .iand x0 1 = 0 := aMul_ok k hx hm
          rw [e0]
          exact aNx.one rfl k hl ⟨rfl, hrst⟩
        · cases hr
          exact aNx.new k hl hrst (aRg_ok .iand ⟨hx1, hx2⟩ ⟨hy1, hy2⟩)
      · split at hr
        · cases hr
          have hx0 : x0 = 0 := by cases hx; rfl
          subst hx0
          have e0 : aOp .ior 0 y0 = y0 := Int32.zero_or
          rw [e0]
          exact aNx.one rfl k hl ⟨hy, hrst⟩
        · cases hr
          exact aNx.newF k hl hrst (aRg_ok .ior ⟨hx1, hx2⟩ ⟨hy1, hy2⟩) (aOpF_ok k hx hy hc.1 hc.2)
      · cases hr
        exact aNx.newF k hl hrst (aRg_ok i ⟨hx1, hx2⟩ ⟨hy1, hy2⟩) (aOpF_ok k hx hy hc.1 hc.2)
    · cases hr
  · cases hr
theorem aRem_ok (k : aOk S h nu mu s) (hl : aLv nu mu al lv) (hs : aSt nu mu ast st) (hr : aRem s pc al ast = some l) : ∃ (x y : Int32) (rst : List Value), st = .int y :: .int x :: rst ∧ ¬ y = 0 ∧ aNx S h nu mu l (pc + 1, lv, .int (x - x / y * y) :: rst) := by
  unfold aRem at hr
  split at hr
  · next y x r =>
    obtain ⟨v0, rst0, rfl, hy, hrst0⟩ := hs.cons
    obtain ⟨v1, rst, rfl, hx, hrst⟩ := hrst0.cons
    split at hr
    · next hc =>
      cases hr
      obtain ⟨x0, rfl, hx1, hx2⟩ := aIv_ok k.1 hc.1 hx
      obtain ⟨y0, rfl, hy1, hy2⟩ := aIv_ok k.1 hc.2.1 hy
      have zx : ¬ x0 < 0 := by
        rw [Int32.lt_iff_toInt_lt]
        have : (0 : Int32).toInt = 0 := rfl
        omega
      have zy : ¬ y0 < 0 := by
        rw [Int32.lt_iff_toInt_lt]
        have : (0 : Int32).toInt = 0 := rfl
        omega
      obtain ⟨a, ha, ea⟩ := nI_of zx
      obtain ⟨d, hd, ed⟩ := nI_of zy
      have hdt : y0.toInt = (d : Int) := by rw [ed]; exact nI_toInt hd
      have hd0 : 0 < d := by omega
      refine ⟨x0, y0, rst, rfl, fun q => ?_, aNx.new k hl hrst ?_⟩
      · rw [q] at hdt
        have : (0 : Int32).toInt = 0 := rfl
        omega
      · rw [ea, ed, pk_rem ha hd0 hd]
        have hm : a % d < d := Nat.mod_lt _ hd0
        rw [nI_toInt (by omega)]
        show (0 : Int) ≤ _ ∧ _ ≤ (aIv s.1 y).2 - 1
        omega
    · cases hr
  · cases hr
end AP3
end
section
theorem a_i8 {n : Int} (h : -128 ≤ n ∧ n ≤ 127) : (Int8.ofInt n).toInt32 = Int32.ofInt n := by
  apply Int32.toInt_inj.mp
  rw [Int8.toInt_toInt32, Int8.toInt_ofInt, a32 (by omega) (by omega), Int.bmod_def]
  have : ((2 ^ 8 : Nat) : Int) = 256 := rfl
  simp only [this]
  omega
theorem a_i16 {n : Int} (h : -32768 ≤ n ∧ n ≤ 32767) : (Int16.ofInt n).toInt32 = Int32.ofInt n := by
  apply Int32.toInt_inj.mp
  rw [Int16.toInt_toInt32, Int16.toInt_ofInt, a32 (by omega) (by omega), Int.bmod_def]
  have : ((2 ^ 16 : Nat) : Int) = 65536 := rfl
  simp only [this]
  omega
theorem a_lcmp (x y : Int64) : -1 ≤ (lg_cmp x y).toInt ∧ (lg_cmp x y).toInt ≤ 1 := by
  unfold lg_cmp
  repeat' split
  all_goals decide
section AP4
variable {S : List Nat} {h : List nC} {nu : List Int} {mu : List Nat} {s : aS} {pc mL : Nat} {lv : nLv} {st : List Value} {al : List (Nat × aV)} {ast : List aV} {l : List aY}
set_option maxHeartbeats 4000000 in
theorem p_pure {i : Instr} (k : aOk S h nu mu s) (hl : aLv nu mu al lv) (hs : aSt nu mu ast st) (hr : aPure s mL pc al ast i = some l) : ∃ r, nj_pure lv mL pc st i = some r ∧ aNx S h nu mu l r := by
  cases i with
  | iconst n => cases hr; exact ⟨_, rfl, aNx.one rfl k hl ⟨rfl, hs⟩⟩
  | bipush n =>
    simp only [aPure] at hr
    split at hr
    · next hc => cases hr; exact ⟨(pc + 2, lv, .int (Int8.ofInt n).toInt32 :: st), rfl, aNx.one rfl k hl ⟨by rw [a_i8 hc]; rfl, hs⟩⟩
    · cases hr
  | sipush n =>
    simp only [aPure] at hr
    split at hr
    · next hc => cases hr; exact ⟨(pc + 3, lv, .int (Int16.ofInt n).toInt32 :: st), rfl, aNx.one rfl k hl ⟨by rw [a_i16 hc]; rfl, hs⟩⟩
    · cases hr
  | lconst n => cases hr; exact ⟨_, rfl, aNx.one rfl k hl ⟨⟨_, rfl⟩, hs⟩⟩
  | iload_n kx =>
    obtain ⟨x, v, hf, g1, g2, g3⟩ := aLoad_ok k hl hs hr
    obtain ⟨y, rfl⟩ := aIsI_v hf g2
    exact ⟨_, by simp only [nj_pure, nj_ldi, g1], g3⟩
  | iload kx =>
    obtain ⟨x, v, hf, g1, g2, g3⟩ := aLoad_ok k hl hs hr
    obtain ⟨y, rfl⟩ := aIsI_v hf g2
    exact ⟨_, by simp only [nj_pure, nj_ldi, g1], g3⟩
  | lload_n kx =>
    obtain ⟨x, v, hf, g1, g2, g3⟩ := aLoad_ok k hl hs hr
    obtain ⟨y, rfl⟩ := aIsL_v hf g2
    exact ⟨_, by simp only [nj_pure, nj_ldl, g1], g3⟩
  | lload kx =>
    obtain ⟨x, v, hf, g1, g2, g3⟩ := aLoad_ok k hl hs hr
    obtain ⟨y, rfl⟩ := aIsL_v hf g2
    exact ⟨_, by simp only [nj_pure, nj_ldl, g1], g3⟩
  | aload_n kx =>
    obtain ⟨x, v, hf, g1, g2, g3⟩ := aLoad_ok k hl hs hr
    rcases aIsR_v hf g2 with ⟨y, rfl⟩ | ⟨y, rfl⟩
    · exact ⟨_, by simp only [nj_pure, nj_lda, g1], g3⟩
    · exact ⟨_, by simp only [nj_pure, nj_lda, g1], g3⟩
  | aload kx =>
    obtain ⟨x, v, hf, g1, g2, g3⟩ := aLoad_ok k hl hs hr
    rcases aIsR_v hf g2 with ⟨y, rfl⟩ | ⟨y, rfl⟩
    · exact ⟨_, by simp only [nj_pure, nj_lda, g1], g3⟩
    · exact ⟨_, by simp only [nj_pure, nj_lda, g1], g3⟩
  | istore_n kx =>
    obtain ⟨x, v, rst, hf, rfl, g2, g4, g3⟩ := aStore_ok k hl hs hr
    obtain ⟨y, rfl⟩ := aIsI_v hf g2
    exact ⟨_, by simp only [nj_pure, nj_sti, if_pos g4], g3⟩
  | istore kx =>
    obtain ⟨x, v, rst, hf, rfl, g2, g4, g3⟩ := aStore_ok k hl hs hr
    obtain ⟨y, rfl⟩ := aIsI_v hf g2
    exact ⟨_, by simp only [nj_pure, nj_sti, if_pos g4], g3⟩
  | astore_n kx =>
    obtain ⟨x, v, rst, hf, rfl, g2, g4, g3⟩ := aStore_ok k hl hs hr
    rcases aIsR_v hf g2 with ⟨y, rfl⟩ | ⟨y, rfl⟩
    · exact ⟨_, by simp only [nj_pure, nj_sta, if_pos g4], g3⟩
    · exact ⟨_, by simp only [nj_pure, nj_sta, if_pos g4], g3⟩
  | astore kx =>
    obtain ⟨x, v, rst, hf, rfl, g2, g4, g3⟩ := aStore_ok k hl hs hr
    rcases aIsR_v hf g2 with ⟨y, rfl⟩ | ⟨y, rfl⟩
    · exact ⟨_, by simp only [nj_pure, nj_sta, if_pos g4], g3⟩
    · exact ⟨_, by simp only [nj_pure, nj_sta, if_pos g4], g3⟩
  | lstore_n kx =>
    simp only [aPure] at hr
    split at hr
    · next x r =>
      split at hr
      · next hc =>
        cases hr
        obtain ⟨v, rst, rfl, hx, hrst⟩ := hs.cons
        obtain ⟨y, rfl⟩ := aIsL_v hc.1 hx
        exact ⟨(pc + 1, nj_put2 lv kx (.long y), rst), by simp only [nj_pure, nj_stl, if_pos hc.2], aNx.one rfl k (aPut2_ok hl hx) hrst⟩
      · cases hr
    · cases hr
  | iinc kx n =>
    simp only [aPure] at hr
    split at hr
    · next x hx =>
      split at hr
      · next hc =>
        cases hr
        obtain ⟨v, g1, g2⟩ := aGetL_ok hl hx
        obtain ⟨y, rfl⟩ := aIsI_v hc.1 g2
        exact ⟨(pc + 3, nj_put lv kx (.int (y + Int32.ofInt n)), st), by simp only [nj_pure, g1, if_pos hc.2], by
          obtain ⟨nu1, X1, k1, a1⟩ := aAddN_ok k g2 n
          exact ⟨nu1, X1, _, List.mem_singleton.mpr rfl, rfl, k1, aPut_ok (hl.x X1) a1, hs.x X1⟩⟩
      · cases hr
    · cases hr
  | iadd => obtain ⟨x, y, rst, rfl, g⟩ := aB2_ok (i := .iadd) (pc := pc) k hl hs hr; exact ⟨_, rfl, g⟩
  | isub => obtain ⟨x, y, rst, rfl, g⟩ := aB2_ok (i := .isub) (pc := pc) k hl hs hr; exact ⟨_, rfl, g⟩
  | imul => obtain ⟨x, y, rst, rfl, g⟩ := aB2_ok (i := .imul) (pc := pc) k hl hs hr; exact ⟨_, rfl, g⟩
  | iand => obtain ⟨x, y, rst, rfl, g⟩ := aB2_ok (i := .iand) (pc := pc) k hl hs hr; exact ⟨_, rfl, g⟩
  | ior => obtain ⟨x, y, rst, rfl, g⟩ := aB2_ok (i := .ior) (pc := pc) k hl hs hr; exact ⟨_, rfl, g⟩
  | ixor => obtain ⟨x, y, rst, rfl, g⟩ := aB2_ok (i := .ixor) (pc := pc) k hl hs hr; exact ⟨_, rfl, g⟩
  | ishl => obtain ⟨x, y, rst, rfl, g⟩ := aB2_ok (i := .ishl) (pc := pc) k hl hs hr; exact ⟨_, rfl, g⟩
  | ishr => obtain ⟨x, y, rst, rfl, g⟩ := aB2_ok (i := .ishr) (pc := pc) k hl hs hr; exact ⟨_, rfl, g⟩
  | iushr => obtain ⟨x, y, rst, rfl, g⟩ := aB2_ok (i := .iushr) (pc := pc) k hl hs hr; exact ⟨_, rfl, g⟩
  | irem =>
    obtain ⟨x, y, rst, rfl, hy, g⟩ := aRem_ok k hl hs hr
    exact ⟨_, by simp only [nj_pure, if_neg hy], g⟩
  | ladd =>
    simp only [aPure] at hr
    split at hr
    · split at hr
      · next hc =>
        cases hr
        obtain ⟨v0, rst0, rfl, hy, hrst0⟩ := hs.cons
        obtain ⟨v1, rst, rfl, hx, hrst⟩ := hrst0.cons
        obtain ⟨x0, rfl⟩ := aIsL_v hc.1 hx
        obtain ⟨y0, rfl⟩ := aIsL_v hc.2 hy
        exact ⟨_, rfl, aNx.one rfl k hl ⟨⟨_, rfl⟩, hrst⟩⟩
      · cases hr
    · cases hr
  | lsub =>
    simp only [aPure] at hr
    split at hr
    · split at hr
      · next hc =>
        cases hr
        obtain ⟨v0, rst0, rfl, hy, hrst0⟩ := hs.cons
        obtain ⟨v1, rst, rfl, hx, hrst⟩ := hrst0.cons
        obtain ⟨x0, rfl⟩ := aIsL_v hc.1 hx
        obtain ⟨y0, rfl⟩ := aIsL_v hc.2 hy
        exact ⟨_, rfl, aNx.one rfl k hl ⟨⟨_, rfl⟩, hrst⟩⟩
      · cases hr
    · cases hr
  | lmul =>
    simp only [aPure] at hr
    split at hr
    · split at hr
      · next hc =>
        cases hr
        obtain ⟨v0, rst0, rfl, hy, hrst0⟩ := hs.cons
        obtain ⟨v1, rst, rfl, hx, hrst⟩ := hrst0.cons
        obtain ⟨x0, rfl⟩ := aIsL_v hc.1 hx
        obtain ⟨y0, rfl⟩ := aIsL_v hc.2 hy
        exact ⟨_, rfl, aNx.one rfl k hl ⟨⟨_, rfl⟩, hrst⟩⟩
      · cases hr
    · cases hr
  | lor =>
    simp only [aPure] at hr
    split at hr
    · split at hr
      · next hc =>
        cases hr
        obtain ⟨v0, rst0, rfl, hy, hrst0⟩ := hs.cons
        obtain ⟨v1, rst, rfl, hx, hrst⟩ := hrst0.cons
        obtain ⟨x0, rfl⟩ := aIsL_v hc.1 hx
        obtain ⟨y0, rfl⟩ := aIsL_v hc.2 hy
        exact ⟨_, rfl, aNx.one rfl k hl ⟨⟨_, rfl⟩, hrst⟩⟩
      · cases hr
    · cases hr
  | lshl =>
    simp only [aPure] at hr
    split at hr
    · split at hr
      · next hc =>
        cases hr
        obtain ⟨v0, rst0, rfl, hy, hrst0⟩ := hs.cons
        obtain ⟨v1, rst, rfl, hx, hrst⟩ := hrst0.cons
        obtain ⟨x0, rfl⟩ := aIsL_v hc.1 hx
        obtain ⟨y0, rfl⟩ := aIsI_v hc.2 hy
        exact ⟨_, rfl, aNx.one rfl k hl ⟨⟨_, rfl⟩, hrst⟩⟩
      · cases hr
    · cases hr
  | lcmp =>
    simp only [aPure] at hr
    split at hr
    · split at hr
      · next hc =>
        cases hr
        obtain ⟨v0, rst0, rfl, hy, hrst0⟩ := hs.cons
        obtain ⟨v1, rst, rfl, hx, hrst⟩ := hrst0.cons
        obtain ⟨x0, rfl⟩ := aIsL_v hc.1 hx
        obtain ⟨y0, rfl⟩ := aIsL_v hc.2 hy
        exact ⟨_, rfl, aNx.new k hl hrst (a_lcmp x0 y0)⟩
      · cases hr
    · cases hr
  | i2l =>
    simp only [aPure] at hr
    split at hr
    · split at hr
      · next hc =>
        cases hr
        obtain ⟨v0, rst, rfl, hx, hrst⟩ := hs.cons
        obtain ⟨x0, rfl⟩ := aIsI_v hc hx
        exact ⟨_, rfl, aNx.one rfl k hl ⟨⟨_, rfl⟩, hrst⟩⟩
      · cases hr
    · cases hr
  | l2i =>
    simp only [aPure] at hr
    split at hr
    · split at hr
      · next hc =>
        cases hr
        obtain ⟨v0, rst, rfl, hx, hrst⟩ := hs.cons
        obtain ⟨x0, rfl⟩ := aIsL_v hc hx
        exact ⟨_, rfl, aNx.new k hl hrst (aFull_ok _)⟩
      · cases hr
    · cases hr
  | i2b =>
    simp only [aPure] at hr
    split at hr
    · split at hr
      · next hc =>
        cases hr
        obtain ⟨v0, rst, rfl, hx, hrst⟩ := hs.cons
        obtain ⟨x0, rfl⟩ := aIsI_v hc hx
        have := nar_byte x0
        rw [vp_nar_byte] at this
        exact ⟨_, rfl, aNx.new k hl hrst this⟩
      · cases hr
    · cases hr
  | dup =>
    simp only [aPure] at hr
    split at hr
    · split at hr
      · next hc =>
        cases hr
        obtain ⟨v0, rst, rfl, hx, hrst⟩ := hs.cons
        have hcat : v0.category = 1 := by rw [aR_cat hx]; exact hc
        exact ⟨(pc + 1, lv, v0 :: v0 :: rst), by simp only [nj_pure, if_pos hcat], aNx.one rfl k hl ⟨hx, hx, hrst⟩⟩
      · cases hr
    · cases hr
  | pop =>
    simp only [aPure] at hr
    split at hr
    · split at hr
      · next hc =>
        cases hr
        obtain ⟨v0, rst, rfl, hx, hrst⟩ := hs.cons
        have hcat : v0.category = 1 := by rw [aR_cat hx]; exact hc
        exact ⟨(pc + 1, lv, rst), by simp only [nj_pure, if_pos hcat], aNx.one rfl k hl hrst⟩
      · cases hr
    · cases hr
  | dup2 =>
    simp only [aPure] at hr
    split at hr
    · split at hr
      · next hc =>
        cases hr
        obtain ⟨v0, rst0, rfl, hx, hrst0⟩ := hs.cons
        obtain ⟨v1, rst, rfl, hy, hrst⟩ := hrst0.cons
        have hcat : v0.category = 1 ∧ v1.category = 1 := by rw [aR_cat hx, aR_cat hy]; exact hc
        exact ⟨(pc + 1, lv, v0 :: v1 :: v0 :: v1 :: rst), by simp only [nj_pure, if_pos hcat], aNx.one rfl k hl ⟨hx, hy, hx, hy, hrst⟩⟩
      · cases hr
    · cases hr
  | ifCond c off =>
    simp only [aPure] at hr
    split at hr
    · next x r =>
      obtain ⟨v0, rst, rfl, hx, hrst⟩ := hs.cons
      have hc : aIsI x = true := by
        unfold aBr at hr
        split at hr
        · next hc => exact hc.2.1
        · cases hr
      obtain ⟨x0, rfl⟩ := aIsI_v hc hx
      exact aBr_ok k hl hrst hx (b := .inl 0) (y := 0) rfl hr
    · cases hr
  | if_icmp c off =>
    simp only [aPure] at hr
    split at hr
    · next y x r =>
      obtain ⟨v0, rst0, rfl, hy, hrst0⟩ := hs.cons
      obtain ⟨v1, rst, rfl, hx, hrst⟩ := hrst0.cons
      have hc : aIsI x = true ∧ aIsI y = true := by
        unfold aBr at hr
        split at hr
        · next hc => exact hc.2
        · cases hr
      obtain ⟨x0, rfl⟩ := aIsI_v hc.1 hx
      obtain ⟨y0, rfl⟩ := aIsI_v hc.2 hy
      exact aBr_ok k hl hrst hx hy hr
    · cases hr
  | goto off =>
    simp only [aPure] at hr
    split at hr
    · next y hy =>
      cases hr
      obtain ⟨g1, g2⟩ := aGo_ok (lv := lv) (st := st) hy
      exact ⟨_, g1, by rw [g2]; exact aNx.one rfl k hl hs⟩
    · cases hr
  | tableswitch d lo hi offs =>
    simp only [aPure] at hr
    split at hr
    · next x r =>
      obtain ⟨v0, rst, rfl, hx, hrst⟩ := hs.cons
      have hc : aIsI x = true := by
        unfold aTsw at hr
        split at hr
        · next hc => exact hc.1
        · cases hr
      obtain ⟨x0, rfl⟩ := aIsI_v hc hx
      exact aTsw_ok k hl hrst hx hr
    · cases hr
  | lookupswitch d ps =>
    simp only [aPure] at hr
    split at hr
    · next x r =>
      obtain ⟨v0, rst, rfl, hx, hrst⟩ := hs.cons
      unfold aLsw at hr
      split at hr
      · next hc =>
        obtain ⟨x0, rfl⟩ := aIsI_v hc.1 hx
        split at hr
        · next y l0 hy hsw =>
          cases hr
          simp only [nj_pure, if_pos hc.2.1]
          obtain ⟨g1, g2⟩ := aGo_ok (lv := lv) (st := rst) hy
          rcases aSw_ok (pc := pc) k hl hrst hx hc.1 ps.toList d l0 hc.2.2 hsw with e | ⟨r1, e1, e2⟩
          · rw [e.2]
            refine ⟨_, g1, ?_⟩
            rw [g2]
            exact (aGap_ok k hl hrst hx ps.toList none (fun b hb => by cases hb) e.1).app1 (l2 := l0)
          · exact ⟨r1, e1, e2.app2⟩
        · cases hr
      · cases hr
    · cases hr
  | _ => exact nomatch (show (none : Option (List aY)) = some l from hr)
end AP4
end
section
/-! one state as an instance of another: names of the pattern stand for known values -/
abbrev aSg : Type := List aV × List Nat
/-- what a named number of the pattern is -/
def aEv (nu : List Int) (a : aV) : Int := match a with
  | .inl c => c
  | .inr (.inl (i, c)) => nu.getD i 0 + c
  | _ => 0
def aM1 (sg : aSg) (p x : aV) : Option aSg := match p with
  | .inl c => if x = .inl c then some sg else none
  | .inr (.inl (i, c)) => if c = 0 ∧ aIsI x = true then (if i < sg.1.length then (if sg.1[i]? = some x then some sg else none) else if i = sg.1.length then some (sg.1 ++ [x], sg.2) else none) else none
  | .inr (.inr (.inl j)) => match x with
    | .inr (.inr (.inl y)) => if j < sg.2.length then (if sg.2[j]? = some y then some sg else none) else if j = sg.2.length then some (sg.1, sg.2 ++ [y]) else none
    | _ => none
  | .inr (.inr (.inr (.inl k))) => if x = .inr (.inr (.inr (.inl k))) then some sg else none
  | .inr (.inr (.inr (.inr _))) => if aIsL x = true then some sg else none
def aML (sg : aSg) : List aV → List aV → Option aSg
  | [], [] => some sg
  | p :: ps, x :: xs => match aM1 sg p x with
    | some sg1 => aML sg1 ps xs
    | none => none
  | _, _ => none
/-- a value of the pattern in the names at hand -/
def aSb (sg : aSg) (a : aV) : aV := match a with
  | .inr (.inl (i, c)) => match sg.1[i]? with
    | some x => aAdd x c
    | none => a
  | .inr (.inr (.inl j)) => match sg.2[j]? with
    | some y => .inr (.inr (.inl y))
    | none => a
  | x => x
def aMF (s : aS) (sg : aSg) : List (Nat × Nat × aV) → Option aSg
  | [] => some sg
  | e :: es => match sg.2[e.1]? with
    | some y => match s.2.2.1.find? (fun q => q.1 == y && q.2.1 == e.2.1) with
      | some q => match aM1 sg e.2.2 q.2.2 with
        | some sg1 => aMF s sg1 es
        | none => none
      | none => none
    | none => none
def aKn (sg : aSg) (a : aV) : Bool := match a with
  | .inl _ => true
  | .inr (.inl (i, _)) => decide (i < sg.1.length)
  | _ => false
def aMA (s : aS) (sg : aSg) : List (Nat × aV × aV) → Option aSg
  | [] => some sg
  | e :: es => match sg.2[e.1]? with
    | some y => match s.2.2.2.1.find? (fun q => q.1 == y && decide (q.2.1 = aSb sg e.2.1)) with
      | some q => match aM1 sg e.2.2 q.2.2 with
        | some sg1 => if aKn sg e.2.1 = true then aMA s sg1 es else none
        | none => none
      | none => none
    | none => none
/-- the whole numbers' range, not cut to an int's -/
def aRw (rho : aRho) (a : aV) : Option (Int × Int) := match a with
  | .inl c => some (c, c)
  | .inr (.inl (i, c)) => match rho[i]? with
    | some r => some (r.1 + c, r.2 + c)
    | none => none
  | _ => none
def aRin (rho : aRho) (x : aV) (r : Int × Int) : Bool := match aRw rho x with
  | some q => decide (r.1 ≤ q.1) && decide (q.2 ≤ r.2)
  | none => false
def lSb (sg : aSg) : List (Int × Nat) → Option aLin
  | [] => some ([], 0)
  | t :: r => match lSb sg r, sg.1[t.2]? with
    | some l, some (.inl c) => some (l.1, l.2 + t.1 * c)
    | some l, some (.inr (.inl (a, c))) => some (lIns (t.1, a) l.1, l.2 + t.1 * c)
    | _, _ => none
def aMD (s : aS) (sg : aSg) (e : aDf) : Bool := match e with
  | .inl l => (match lSb sg l.1 with
    | some l2 => aPr s (l2.1, l2.2 + l.2)
    | none => false)
  | .inr (i, m) => (match sg.1[i]? with
    | some x => aMul s m x
    | none => false)
def aZip2 : List aV → aRho → aRho → Bool
  | [], [], _ => true
  | x :: xs, r :: rs, rho => aRin rho x r && aZip2 xs rs rho
  | _, _, _ => false
def aZipT : List Nat → List Nat → List Nat → Bool
  | [], [], _ => true
  | y :: ys, t :: ts, tau => decide (tau[y]? = some t) && aZipT ys ts tau
  | _, _, _ => false
/-- the state at hand and the values xs are an instance of the pattern p with ps -/
def aInst (s : aS) (sg : aSg) (p : aS) (ps xs : List aV) : Option aSg := match aML sg ps xs with
  | some sg1 => match aMF s sg1 p.2.2.1 with
    | some sg2 => match aMA s sg2 p.2.2.2.1 with
      | some sg3 => if aZip2 sg3.1 p.1 s.1 = true ∧ aZipT sg3.2 p.2.1 s.2.1 = true ∧ p.2.2.2.2.all (aMD s sg3) = true then some sg3 else none
      | none => none
    | none => none
  | none => none
section AIN
variable {S : List Nat} {h : List nC} {nu : List Int} {mu : List Nat} {s p : aS}
/-- the pattern's names -/
def aN (nu : List Int) (sg : aSg) : List Int := sg.1.map (aEv nu)
def aU (mu : List Nat) (sg : aSg) : List Nat := sg.2.map (fun y => mu.getD y 0)
/-- all that the names stand for is there -/
def aGd (nu : List Int) (mu : List Nat) (sg : aSg) : Prop := (∀ x ∈ sg.1, ∃ v : Int32, aR nu mu x (.int v)) ∧ ∀ y ∈ sg.2, ∃ q : Nat, mu[y]? = some q
theorem aEv_ok {x : aV} {v : Int32} (h : aR nu mu x (.int v)) : v = Int32.ofInt (aEv nu x) := by
  unfold aR at h
  split at h
  · cases h; rfl
  · next i c =>
    obtain ⟨z, hz, e⟩ := h
    cases e
    simp only [aEv, List.getD_eq_getElem?_getD, hz, Option.getD_some]
  · obtain ⟨z, -, e⟩ := h; cases e
  · cases h
  · obtain ⟨z, e⟩ := h; cases e
/-- sg2 knows more names than sg -/
def aSx (sg sg2 : aSg) : Prop := (∃ l, sg2.1 = sg.1 ++ l) ∧ ∃ r, sg2.2 = sg.2 ++ r
theorem aSx.rf {sg : aSg} : aSx sg sg := ⟨⟨[], by simp⟩, ⟨[], by simp⟩⟩
theorem aSx.tr {a b c : aSg} (h1 : aSx a b) (h2 : aSx b c) : aSx a c := by
  obtain ⟨⟨l, e1⟩, ⟨r, e2⟩⟩ := h1
  obtain ⟨⟨l2, e3⟩, ⟨r2, e4⟩⟩ := h2
  exact ⟨⟨l ++ l2, by rw [e3, e1]; simp⟩, ⟨r ++ r2, by rw [e4, e2]; simp⟩⟩
theorem aSx.x {sg sg2 : aSg} (h : aSx sg sg2) : aX (aN nu sg) (aU mu sg) (aN nu sg2) (aU mu sg2) := by
  obtain ⟨⟨l, e1⟩, ⟨r, e2⟩⟩ := h
  exact ⟨l.map (aEv nu), r.map (fun y => mu.getD y 0), by simp [aN, e1], by simp [aU, e2]⟩
theorem aM1_ok {sg sg1 : aSg} {pt x : aV} {v : Value} (hg : aGd nu mu sg) (hx : aR nu mu x v) (hm : aM1 sg pt x = some sg1) : aSx sg sg1 ∧ aGd nu mu sg1 ∧ aR (aN nu sg1) (aU mu sg1) pt v := by
  unfold aM1 at hm
  split at hm
  · next c =>
    split at hm
    · next e => cases hm; subst e; exact ⟨aSx.rf, hg, hx⟩
    · cases hm
  · next i c =>
    split at hm
    · next hc =>
      obtain ⟨rfl, hxi⟩ := hc
      obtain ⟨v0, rfl⟩ := aIsI_v hxi hx
      have hev := aEv_ok hx
      split at hm
      · split at hm
        · next e =>
          cases hm
          refine ⟨aSx.rf, hg, aEv nu x, ?_, by rw [Int.add_zero, hev]⟩
          simp only [aN, List.getElem?_map, e, Option.map_some]
        · cases hm
      · split at hm
        · next e =>
          cases hm
          refine ⟨⟨⟨[x], rfl⟩, ⟨[], by simp⟩⟩, ⟨fun y hy => ?_, hg.2⟩, aEv nu x, ?_, by rw [Int.add_zero, hev]⟩
          · rcases List.mem_append.mp hy with hy | hy
            · exact hg.1 y hy
            · have := List.mem_singleton.mp hy; subst this; exact ⟨v0, hx⟩
          · simp only [aN, List.map_append, List.map_cons, List.map_nil]
            rw [List.getElem?_append_right (by simp [e])]
            simp [e]
        · cases hm
    · cases hm
  · next j =>
    split at hm
    · next y =>
      obtain ⟨q, hq, rfl⟩ := hx
      have hgd : mu.getD y 0 = q := by rw [List.getD_eq_getElem?_getD, hq]; rfl
      split at hm
      · split at hm
        · next e =>
          cases hm
          refine ⟨aSx.rf, hg, q, ?_, rfl⟩
          simp only [aU, List.getElem?_map, e, Option.map_some, hgd]
        · cases hm
      · split at hm
        · next e =>
          cases hm
          refine ⟨⟨⟨[], by simp⟩, ⟨[y], rfl⟩⟩, ⟨hg.1, fun z hz => ?_⟩, q, ?_, rfl⟩
          · rcases List.mem_append.mp hz with hz | hz
            · exact hg.2 z hz
            · have := List.mem_singleton.mp hz; subst this; exact ⟨q, hq⟩
          · simp only [aU, List.map_append, List.map_cons, List.map_nil, hgd]
            rw [List.getElem?_append_right (by simp [e])]
            simp [e]
        · cases hm
    · cases hm
  · next kx =>
    split at hm
    · next e => cases hm; subst e; exact ⟨aSx.rf, hg, hx⟩
    · cases hm
  · split at hm
    · next e => cases hm; exact ⟨aSx.rf, hg, aIsL_v e hx⟩
    · cases hm
theorem aML_ok : ∀ {ps xs : List aV} {vs : List Value} {sg sg1 : aSg}, aGd nu mu sg → aSt nu mu xs vs → aML sg ps xs = some sg1 → aSx sg sg1 ∧ aGd nu mu sg1 ∧ aSt (aN nu sg1) (aU mu sg1) ps vs := by
  intro ps
  induction ps with
  | nil =>
    intro xs vs sg sg1 hg hs hm
    cases xs with
    | nil =>
      cases hm
      cases vs with
      | nil => exact ⟨aSx.rf, hg, trivial⟩
      | cons v vs => exact hs.elim
    | cons x xs => cases hm
  | cons p0 ps ih =>
    intro xs vs sg sg1 hg hs hm
    cases xs with
    | nil => cases hm
    | cons x xs =>
      simp only [aML] at hm
      split at hm
      · next sg0 h0 =>
        obtain ⟨v, r, rfl, hx, hr⟩ := hs.cons
        obtain ⟨e1, g1, a1⟩ := aM1_ok hg hx h0
        obtain ⟨e2, g2, a2⟩ := ih g1 hr hm
        exact ⟨e1.tr e2, g2, a1.x e2.x, a2⟩
      · cases hm
theorem aMF_ok (k : aOk S h nu mu s) : ∀ {es : List (Nat × Nat × aV)} {sg sg1 : aSg}, aGd nu mu sg → aMF s sg es = some sg1 → aSx sg sg1 ∧ aGd nu mu sg1 ∧ ∀ e ∈ es, fcOk (aN nu sg1) (aU mu sg1) h e := by
  intro es
  induction es with
  | nil => intro sg sg1 hg hm; cases hm; exact ⟨aSx.rf, hg, fun e he => by cases he⟩
  | cons e es ih =>
    intro sg sg1 hg hm
    simp only [aMF] at hm
    split at hm
    · next y hy =>
      split at hm
      · next q hq =>
        split at hm
        · next sg0 h0 =>
          have hm2 := List.mem_of_find?_eq_some hq
          have hp := List.find?_some hq
          simp only [Bool.and_eq_true, beq_iff_eq] at hp
          obtain ⟨q2, ci, fs, v, g1, g2, g3, g4⟩ := k.2.2.1 q hm2
          obtain ⟨e1, gd1, a1⟩ := aM1_ok hg g4 h0
          obtain ⟨e2, gd2, a2⟩ := ih gd1 hm
          refine ⟨e1.tr e2, gd2, fun z hz => ?_⟩
          rcases List.mem_cons.mp hz with rfl | hz
          · refine ⟨q2, ci, fs, v, ?_, g2, by rw [← hp.2]; exact g3, a1.x e2.x⟩
            refine (e1.tr e2).x.mu (nu := aN nu sg) (nu1 := aN nu sg1) ?_
            simp only [aU, List.getElem?_map, hy, Option.map_some, List.getD_eq_getElem?_getD]
            rw [← hp.1, g1]
            rfl
          · exact a2 z hz
        · cases hm
      · cases hm
    · cases hm
theorem aAdd_ev {x : aV} {v : Int32} (h : aR nu mu x (.int v)) (c : Int) : aEv nu (aAdd x c) = aEv nu x + c := by
  unfold aR at h
  split at h
  · rfl
  · simp only [aAdd, aEv]; omega
  · obtain ⟨z, -, e⟩ := h; cases e
  · cases h
  · obtain ⟨z, e⟩ := h; cases e
/-- what a value of the pattern is, in the names at hand -/
theorem aSb_back {sg : aSg} {a : aV} {v : Int32} (hg : aGd nu mu sg) (hi : aIsI a = true) (h : aR nu mu (aSb sg a) (.int v)) (hs : ∀ i c, a = .inr (.inl (i, c)) → i < sg.1.length) : aR (aN nu sg) (aU mu sg) a (.int v) := by
  unfold aIsI at hi
  split at hi
  · exact h
  · next q =>
    obtain ⟨i, c⟩ := q
    have hlt := hs i c rfl
    obtain ⟨x, hx⟩ : ∃ x, sg.1[i]? = some x := ⟨_, List.getElem?_eq_getElem hlt⟩
    simp only [aSb, hx] at h
    obtain ⟨v0, hv0⟩ := hg.1 x (List.mem_of_getElem? hx)
    refine ⟨aEv nu x, by simp [aN, List.getElem?_map, hx], ?_⟩
    rw [aEv_ok h, aAdd_ev hv0]
  · cases hi
end AIN
end
section
section AI2
variable {S : List Nat} {h : List nC} {nu : List Int} {mu : List Nat} {s p : aS}
theorem aMA_ok (k : aOk S h nu mu s) : ∀ {es : List (Nat × aV × aV)} {sg sg1 : aSg}, aGd nu mu sg → aMA s sg es = some sg1 → aSx sg sg1 ∧ aGd nu mu sg1 ∧ ∀ e ∈ es, acOk (aN nu sg1) (aU mu sg1) h e := by
  intro es
  induction es with
  | nil => intro sg sg1 hg hm; cases hm; exact ⟨aSx.rf, hg, fun e he => by cases he⟩
  | cons e es ih =>
    intro sg sg1 hg hm
    simp only [aMA] at hm
    split at hm
    · next y hy =>
      split at hm
      · next q hq =>
        split at hm
        · next sg0 h0 =>
          split at hm
          · next hkn =>
            have hm2 := List.mem_of_find?_eq_some hq
            have hp := List.find?_some hq
            simp only [Bool.and_eq_true, beq_iff_eq, decide_eq_true_eq] at hp
            obtain ⟨q2, kd, n, f, i, g1, g2, g3, g4⟩ := k.2.2.2.1 q hm2
            obtain ⟨e1, gd1, a1⟩ := aM1_ok hg g4 h0
            obtain ⟨e2, gd2, a2⟩ := ih gd1 hm
            refine ⟨e1.tr e2, gd2, fun z hz => ?_⟩
            rcases List.mem_cons.mp hz with rfl | hz
            · refine ⟨q2, kd, n, f, i, ?_, g2, ?_, a1.x e2.x⟩
              · refine (e1.tr e2).x.mu (nu := aN nu sg) (nu1 := aN nu sg1) ?_
                simp only [aU, List.getElem?_map, hy, Option.map_some, List.getD_eq_getElem?_getD]
                rw [← hp.1, g1]
                rfl
              · rw [hp.2] at g3
                have hI : aIsI z.2.1 = true := by
                  cases hz1 : z.2.1 with
                  | inl c => rfl
                  | inr w =>
                    cases w with
                    | inl r => rfl
                    | inr r => rw [hz1] at hkn; cases hkn
                refine (aSb_back hg hI g3 (fun i2 c2 e3 => ?_)).x (e1.tr e2).x
                rw [e3] at hkn
                simpa [aKn] using hkn
            · exact a2 z hz
          · cases hm
        · cases hm
      · cases hm
    · cases hm
theorem aRw_ok {x : aV} {v : Int32} {q : Int × Int} (hE : aE s.1 nu) (h : aR nu mu x (.int v)) (hq : aRw s.1 x = some q) : q.1 ≤ aEv nu x ∧ aEv nu x ≤ q.2 := by
  unfold aRw at hq
  split at hq
  · cases hq; exact ⟨Int.le_refl _, Int.le_refl _⟩
  · next i c =>
    obtain ⟨z, hz, -⟩ := h
    split at hq
    · next r hr =>
      cases hq
      have := hE.2 i z r hz hr
      simp only [aEv, List.getD_eq_getElem?_getD, hz, Option.getD_some]
      omega
    · cases hq
  · cases hq
theorem aZip2_ok (hE : aE s.1 nu) : ∀ {xs : List aV} {rs : aRho}, (∀ x ∈ xs, ∃ v : Int32, aR nu mu x (.int v)) → aZip2 xs rs s.1 = true → aE rs (xs.map (aEv nu)) := by
  intro xs
  induction xs with
  | nil =>
    intro rs hg hz
    cases rs with
    | nil => exact ⟨rfl, fun i z r h => by simp at h⟩
    | cons r rs => cases hz
  | cons x xs ih =>
    intro rs hg hz
    cases rs with
    | nil => cases hz
    | cons r rs =>
      simp only [aZip2, Bool.and_eq_true] at hz
      have k1 := ih (fun y hy => hg y (List.mem_cons_of_mem _ hy)) hz.2
      have hr := hz.1
      unfold aRin at hr
      split at hr
      · next q hq =>
        simp only [Bool.and_eq_true, decide_eq_true_eq] at hr
        obtain ⟨v, hv⟩ := hg x List.mem_cons_self
        have := aRw_ok hE hv hq
        refine ⟨by simp [k1.1], fun i z r2 h1 h2 => ?_⟩
        cases i with
        | zero =>
          simp only [List.map_cons, List.getElem?_cons_zero] at h1 h2
          cases h1
          cases h2
          omega
        | succ i =>
          simp only [List.map_cons, List.getElem?_cons_succ] at h1 h2
          exact k1.2 i z r2 h1 h2
      · cases hr
theorem aZipT_ok (k : aOk S h nu mu s) : ∀ {ys ts : List Nat}, (∀ y ∈ ys, ∃ q : Nat, mu[y]? = some q) → aZipT ys ts s.2.1 = true → ts.length = (ys.map (fun y => mu.getD y 0)).length ∧ ∀ (j q t : Nat), (ys.map (fun y => mu.getD y 0))[j]? = some q → ts[j]? = some t → S[q]? = some t := by
  intro ys
  induction ys with
  | nil =>
    intro ts hg hz
    cases ts with
    | nil => exact ⟨rfl, fun j q t h => by simp at h⟩
    | cons t ts => cases hz
  | cons y ys ih =>
    intro ts hg hz
    cases ts with
    | nil => cases hz
    | cons t ts =>
      simp only [aZipT, Bool.and_eq_true, decide_eq_true_eq] at hz
      obtain ⟨l1, k1⟩ := ih (fun y hy => hg y (List.mem_cons_of_mem _ hy)) hz.2
      refine ⟨by simp at l1 ⊢; exact l1, fun j q t2 h1 h2 => ?_⟩
      cases j with
      | zero =>
        simp only [List.map_cons, List.getElem?_cons_zero] at h1 h2
        cases h1
        cases h2
        obtain ⟨q, hq⟩ := hg y List.mem_cons_self
        have : mu.getD y 0 = q := by rw [List.getD_eq_getElem?_getD, hq]; rfl
        rw [this]
        exact k.tag hq hz.1
      | succ j =>
        simp only [List.map_cons, List.getElem?_cons_succ] at h1 h2
        exact k1 j q t2 h1 h2
theorem lSb_ok {sg : aSg} : ∀ (ts : List (Int × Nat)) (l : aLin), lSb sg ts = some l → lS (aN nu sg) ts = lS nu l.1 + l.2 := by
  intro ts
  induction ts with
  | nil => intro l h; cases h; simp [lS]
  | cons t ts ih =>
    intro l h
    simp only [lSb] at h
    split at h
    · next l0 c h0 hc =>
      cases h
      have := ih l0 h0
      have e1 : (aN nu sg).getD t.2 0 = c := by
        simp only [aN, List.getD_eq_getElem?_getD, List.getElem?_map, hc, Option.map_some, aEv, Option.getD_some]
      simp only [lS, List.map_cons, List.sum_cons, e1] at this ⊢
      omega
    · next l0 a c h0 hc =>
      cases h
      have := ih l0 h0
      have e1 : (aN nu sg).getD t.2 0 = nu.getD a 0 + c := by
        simp only [aN, List.getD_eq_getElem?_getD, List.getElem?_map, hc, Option.map_some, aEv, Option.getD_some]
      have e2 := lS_ins (nu := nu) (t.1, a) l0.1
      simp only at e2
      rw [e2]
      simp only [lS, List.map_cons, List.sum_cons, e1, Int.mul_add] at this ⊢
      omega
    · cases h
theorem lSb_lt {sg : aSg} : ∀ (ts : List (Int × Nat)) (l : aLin), lSb sg ts = some l → ∀ t ∈ ts, t.2 < sg.1.length := by
  intro ts
  induction ts with
  | nil => intro l h t ht; cases ht
  | cons t ts ih =>
    intro l h u hu
    simp only [lSb] at h
    split at h
    · next l0 c h0 hc =>
      rcases List.mem_cons.mp hu with rfl | hu
      · exact (List.getElem?_eq_some_iff.mp hc).1
      · exact ih l0 h0 u hu
    · next l0 a c h0 hc =>
      rcases List.mem_cons.mp hu with rfl | hu
      · exact (List.getElem?_eq_some_iff.mp hc).1
      · exact ih l0 h0 u hu
    · cases h
theorem aMD_ok {sg : aSg} (k : aOk S h nu mu s) (hg : aGd nu mu sg) {e : aDf} (hd : aMD s sg e = true) : dfOk (aN nu sg) e := by
  cases e with
  | inl l =>
    simp only [aMD] at hd
    split at hd
    · next l2 hl2 =>
      have h1 := aPr_ok k hd
      have h2 := lSb_ok (nu := nu) _ _ hl2
      refine ⟨fun t ht => ?_, by rw [h2]; simp only at h1; omega⟩
      have := lSb_lt _ _ hl2 t ht
      simpa [aN] using this
    · cases hd
  | inr q =>
    obtain ⟨i, m⟩ := q
    simp only [aMD] at hd
    split at hd
    · next x hx =>
      obtain ⟨v, hv⟩ := hg.1 x (List.mem_of_getElem? hx)
      refine ⟨aEv nu x, by simp [aN, List.getElem?_map, hx], ?_⟩
      rw [← aEv_ok hv]
      exact aMul_ok k hv hd
    · cases hd
theorem aInst_ok {sg sg1 : aSg} {ps xs : List aV} {vs : List Value} (k : aOk S h nu mu s) (hg : aGd nu mu sg) (hs : aSt nu mu xs vs) (hi : aInst s sg p ps xs = some sg1) : aSx sg sg1 ∧ aGd nu mu sg1 ∧ aOk S h (aN nu sg1) (aU mu sg1) p ∧ aSt (aN nu sg1) (aU mu sg1) ps vs := by
  unfold aInst at hi
  split at hi
  · next sgA hA =>
    split at hi
    · next sgB hB =>
      split at hi
      · next sgC hC =>
        split at hi
        · next hc =>
          cases hi
          obtain ⟨eA, gA, aA⟩ := aML_ok hg hs hA
          obtain ⟨eB, gB, aB⟩ := aMF_ok k gA hB
          obtain ⟨eC, gC, aC⟩ := aMA_ok k gB hC
          refine ⟨(eA.tr eB).tr eC, gC, ⟨aZip2_ok k.1 gC.1 hc.1, aZipT_ok k gC.2 hc.2.1, fun e he => (aB e he).x eC.x, aC, fun e he => ?_⟩, (aA.x eB.x).x eC.x⟩
          exact aMD_ok k gC (List.all_eq_true.mp hc.2.2 e he)
        · cases hi
      · cases hi
    · cases hi
  · cases hi
end AI2
end
section
/-! what is promised of a method: its number, how deep it goes, the state and arguments that it begins with, what it may change, how it can end -/
abbrev nK : Type := Nat × Nat × aS × List aV × List (Nat × Nat) × List Nat × List (aS × Option aV)
def aRes (nu : List Int) (mu : List Nat) (o : Option aV) (rv : Option Value) : Prop := match o, rv with
  | none, none => True
  | some a, some v => aR nu mu a v
  | _, _ => False
def nV (M : Nat → Option nM) (X : nX) (L : Nat) (xs : Nat → Int32) (g : Nat) (FT : Nat → Nat → Option fTy) (AT : Nat → Option aTy) (S : List Nat) (J : List nC → Prop) (c : nK) : Prop :=
  ∀ (d : Nat), c.2.1 ≤ d → ∀ (mt : nM), M c.1 = some mt → ∀ (h : List nC) (nu : List Int) (mu : List Nat) (vs : List Value), J h → tOk FT AT S h → aOk S h nu mu c.2.2.1 → aSt nu mu c.2.2.2.1 vs →
  nT M X L xs g d mt (fun rv h1 => J h1 ∧ tOk FT AT S h1 ∧ nFr c.2.2.2.2.1 c.2.2.2.2.2.1 S h h1 ∧ ∃ po ∈ c.2.2.2.2.2.2, ∃ nu1 mu1, aX nu mu nu1 mu1 ∧ aOk S h1 nu1 mu1 po.1 ∧ aRes nu1 mu1 po.2 rv) 0 (lv_args 0 vs) [] h
/-- the names behind a call -/
def aSgP (s : aS) (sg : aSg) (po : aS) : aSg := (sg.1 ++ (List.range (po.1.length - sg.1.length)).map (fun k => aSym (s.1.length + k)), sg.2 ++ (List.range (po.2.1.length - sg.2.length)).map (fun k => s.2.1.length + k))
def aKf (s : aS) (mf : List (Nat × Nat)) (e : Nat × Nat × aV) : Bool := match s.2.1[e.1]? with
  | some t => !decide ((t, e.2.1) ∈ mf)
  | none => false
def aKa (s : aS) (ma : List Nat) (e : Nat × aV × aV) : Bool := match s.2.1[e.1]? with
  | some t => !decide (t ∈ ma)
  | none => false
def aSbJ (sg : aSg) (j : Nat) : Nat := (sg.2[j]?).getD 0
def aSbD (sg : aSg) (e : aDf) : List aDf := match e with
  | .inl l => (match lSb sg l.1 with
    | some l2 => [.inl (l2.1, l2.2 + l.2)]
    | none => [])
  | .inr (i, m) => (match sg.1[i]? with
    | some (.inr (.inl (a, c))) => if c = 0 then [.inr (a, m)] else []
    | _ => [])
theorem lSb_lt2 {nu : List Int} {mu : List Nat} {sg : aSg} (hg : aGd nu mu sg) : ∀ (ts : List (Int × Nat)) (l : aLin), lSb sg ts = some l → ∀ t ∈ l.1, t.2 < nu.length := by
  have hins : ∀ (u : Int × Nat) (l : List (Int × Nat)) (n : Nat), u.2 < n → (∀ t ∈ l, t.2 < n) → ∀ t ∈ lIns u l, t.2 < n := by
    intro u l n hu
    induction l with
    | nil => intro _ t ht; rw [List.mem_singleton.mp ht]; exact hu
    | cons v l ih =>
      intro hl t ht
      unfold lIns at ht
      split at ht
      · rcases List.mem_cons.mp ht with rfl | ht
        · exact hl v List.mem_cons_self
        · exact hl t (List.mem_cons_of_mem _ ht)
      · rcases List.mem_cons.mp ht with rfl | ht
        · exact hl _ List.mem_cons_self
        · exact ih (fun w hw => hl w (List.mem_cons_of_mem _ hw)) t ht
  intro ts
  induction ts with
  | nil => intro l h t ht; cases h; cases ht
  | cons t ts ih =>
    intro l h u hu
    simp only [lSb] at h
    split at h
    · next l0 c h0 hc => cases h; exact ih l0 h0 u hu
    · next l0 a c h0 hc =>
      cases h
      obtain ⟨v, z, hz, -⟩ := hg.1 _ (List.mem_of_getElem? hc)
      exact hins _ _ _ (List.getElem?_eq_some_iff.mp hz).1 (ih l0 h0) u hu
    · cases h
/-- the caller's state behind a call -/
def aPost (s : aS) (sg : aSg) (mf : List (Nat × Nat)) (ma : List Nat) (po : aS) : aS :=
  (s.1 ++ po.1.drop sg.1.length, s.2.1 ++ po.2.1.drop sg.2.length,
   po.2.2.1.map (fun e => (aSbJ (aSgP s sg po) e.1, e.2.1, aSb (aSgP s sg po) e.2.2)) ++ s.2.2.1.filter (aKf s mf),
   po.2.2.2.1.map (fun e => (aSbJ (aSgP s sg po) e.1, aSb (aSgP s sg po) e.2.1, aSb (aSgP s sg po) e.2.2)) ++ s.2.2.2.1.filter (aKa s ma),
   po.2.2.2.2.flatMap (aSbD (aSgP s sg po)) ++ s.2.2.2.2)
section APO
variable {S : List Nat} {h h1 : List nC} {nu : List Int} {mu : List Nat} {s po : aS} {sg : aSg}
theorem aEv_x {nu1 : List Int} {mu1 : List Nat} (X : aX nu mu nu1 mu1) {x : aV} {v : Int32} (h : aR nu mu x (.int v)) : aEv nu1 x = aEv nu x := by
  unfold aR at h
  split at h
  · rfl
  · next i c =>
    obtain ⟨z, hz, -⟩ := h
    simp only [aEv, List.getD_eq_getElem?_getD, hz, X.nu hz]
  · obtain ⟨z, -, e⟩ := h; cases e
  · cases h
  · obtain ⟨z, e⟩ := h; cases e
theorem aSb_fwd {a : aV} {v : Value} (hg : aGd nu mu sg) (h : aR (aN nu sg) (aU mu sg) a v) : aR nu mu (aSb sg a) v := by
  unfold aR at h
  split at h
  · exact h
  · next i c =>
    obtain ⟨z, hz, rfl⟩ := h
    simp only [aN, List.getElem?_map, Option.map_eq_some_iff] at hz
    obtain ⟨x, hx, hzx⟩ := hz
    obtain ⟨v0, hv0⟩ := hg.1 x (List.mem_of_getElem? hx)
    have hv := aEv_ok hv0
    simp only [aSb, hx]
    have := aAdd_ok hv0 c
    rw [hv, hzx, a32_add] at this
    exact this
  · next j =>
    obtain ⟨q, hq, rfl⟩ := h
    simp only [aU, List.getElem?_map, Option.map_eq_some_iff] at hq
    obtain ⟨y, hy, hqy⟩ := hq
    obtain ⟨q2, hq2⟩ := hg.2 y (List.mem_of_getElem? hy)
    simp only [aSb, hy]
    refine ⟨q, ?_, rfl⟩
    rw [← hqy, List.getD_eq_getElem?_getD, hq2]
    rfl
  · exact h
  · exact h
theorem aPost_ok {FT : Nat → Nat → Option fTy} {AT : Nat → Option aTy} {mf : List (Nat × Nat)} {ma : List Nat} {nu1 : List Int} {mu1 : List Nat} {o : Option aV} {rv : Option Value} (hT : tOk FT AT S h) (k : aOk S h nu mu s) (hg : aGd nu mu sg) (hF : nFr mf ma S h h1) (X : aX (aN nu sg) (aU mu sg) nu1 mu1) (kp : aOk S h1 nu1 mu1 po) (hr : aRes nu1 mu1 o rv) :
    ∃ nu2 mu2, aX nu mu nu2 mu2 ∧ aOk S h1 nu2 mu2 (aPost s sg mf ma po) ∧ aRes nu2 mu2 (o.map (aSb (aSgP s sg po))) rv := by
  obtain ⟨l, r, el, er⟩ := X
  have hn0 : (aN nu sg).length = sg.1.length := by simp [aN]
  have hu0 : (aU mu sg).length = sg.2.length := by simp [aU]
  have hpl : po.1.length = sg.1.length + l.length := by rw [kp.1.1, el, List.length_append, hn0]
  have hpt : po.2.1.length = sg.2.length + r.length := by rw [kp.2.1.1, er, List.length_append, hu0]
  have X2 : aX nu mu (nu ++ l) (mu ++ r) := ⟨l, r, rfl, rfl⟩
  have hsl : s.1.length = nu.length := k.1.1
  have htl : s.2.1.length = mu.length := k.2.1.1
  have hN : aN (nu ++ l) (aSgP s sg po) = nu1 := by
    rw [el]
    simp only [aN, aSgP, List.map_append, List.map_map]
    congr 1
    · apply List.map_congr_left
      intro x hx
      obtain ⟨v, hv⟩ := hg.1 x hx
      exact aEv_x X2 hv
    · apply List.ext_getElem?
      intro i
      rw [List.getElem?_map]
      by_cases hi : i < l.length
      · rw [List.getElem?_range (by omega)]
        simp only [Option.map_some, Function.comp, aEv, List.getD_eq_getElem?_getD]
        rw [List.getElem?_append_right (by omega)]
        have : s.1.length + i - nu.length = i := by omega
        rw [this, List.getElem?_eq_getElem hi]
        simp
      · rw [List.getElem?_eq_none (by simp; omega), List.getElem?_eq_none (by omega)]
        rfl
  have hU : aU (mu ++ r) (aSgP s sg po) = mu1 := by
    rw [er]
    simp only [aU, aSgP, List.map_append, List.map_map]
    congr 1
    · apply List.map_congr_left
      intro y hy
      obtain ⟨q, hq⟩ := hg.2 y hy
      rw [List.getD_eq_getElem?_getD, List.getD_eq_getElem?_getD, X2.mu hq, hq]
    · apply List.ext_getElem?
      intro i
      rw [List.getElem?_map]
      by_cases hi : i < r.length
      · rw [List.getElem?_range (by omega)]
        simp only [Option.map_some, Function.comp, List.getD_eq_getElem?_getD]
        rw [List.getElem?_append_right (by omega)]
        have : s.2.1.length + i - mu.length = i := by omega
        rw [this, List.getElem?_eq_getElem hi]
        rfl
      · rw [List.getElem?_eq_none (by simp; omega), List.getElem?_eq_none (by omega)]
        rfl
  have hG : aGd (nu ++ l) (mu ++ r) (aSgP s sg po) := by
    refine ⟨fun x hx => ?_, fun y hy => ?_⟩
    · rcases List.mem_append.mp hx with hx | hx
      · obtain ⟨v, hv⟩ := hg.1 x hx
        exact ⟨v, hv.x X2⟩
      · obtain ⟨i, hi, rfl⟩ := List.mem_map.mp hx
        have hi2 : i < l.length := by have := List.mem_range.mp hi; omega
        refine ⟨Int32.ofInt l[i], l[i], ?_, by rw [Int.add_zero]⟩
        rw [List.getElem?_append_right (by omega)]
        have : s.1.length + i - nu.length = i := by omega
        rw [this, List.getElem?_eq_getElem hi2]
    · rcases List.mem_append.mp hy with hy | hy
      · obtain ⟨q, hq⟩ := hg.2 y hy
        exact ⟨q, X2.mu hq⟩
      · obtain ⟨i, hi, rfl⟩ := List.mem_map.mp hy
        have hi2 : i < r.length := by have := List.mem_range.mp hi; omega
        refine ⟨r[i], ?_⟩
        rw [List.getElem?_append_right (by omega)]
        have : s.2.1.length + i - mu.length = i := by omega
        rw [this, List.getElem?_eq_getElem hi2]
  have fwd : ∀ {a : aV} {v : Value}, aR nu1 mu1 a v → aR (nu ++ l) (mu ++ r) (aSb (aSgP s sg po) a) v := by
    intro a v ha
    rw [← hN, ← hU] at ha
    exact aSb_fwd hG ha
  have fwj : ∀ {j q : Nat}, mu1[j]? = some q → (mu ++ r)[aSbJ (aSgP s sg po) j]? = some q := by
    intro j q hj
    have := fwd (a := aRef j) ⟨q, hj, rfl⟩
    unfold aSbJ
    rw [← hU, aU, List.getElem?_map, Option.map_eq_some_iff] at hj
    obtain ⟨y, hy, -⟩ := hj
    simp only [aSb, hy] at this
    rw [hy]
    obtain ⟨q2, h2, e2⟩ := this
    cases e2
    exact h2
  refine ⟨nu ++ l, mu ++ r, X2, ⟨⟨?_, fun i z rg h1' h2' => ?_⟩, ⟨?_, fun j q t h1' h2' => ?_⟩, fun e he => ?_, fun e he => ?_, fun e he => ?_⟩, ?_⟩
  · simp [aPost, k.1.1, hpl]
  · simp only [aPost] at h2'
    by_cases hi : i < nu.length
    · rw [List.getElem?_append_left hi] at h1'
      rw [List.getElem?_append_left (by omega)] at h2'
      exact k.1.2 i z rg h1' h2'
    · rw [List.getElem?_append_right (by omega)] at h1' h2'
      rw [List.getElem?_drop] at h2'
      refine kp.1.2 (sg.1.length + (i - s.1.length)) z rg ?_ h2'
      rw [el, List.getElem?_append_right (by omega)]
      rw [← h1']
      congr 1
      omega
  · simp [aPost, k.2.1.1, hpt]
  · simp only [aPost] at h2'
    by_cases hi : j < mu.length
    · rw [List.getElem?_append_left hi] at h1'
      rw [List.getElem?_append_left (by omega)] at h2'
      exact k.2.1.2 j q t h1' h2'
    · rw [List.getElem?_append_right (by omega)] at h1' h2'
      rw [List.getElem?_drop] at h2'
      refine kp.2.1.2 (sg.2.length + (j - s.2.1.length)) q t ?_ h2'
      rw [er, List.getElem?_append_right (by omega)]
      rw [← h1']
      congr 1
      omega
  · rcases List.mem_append.mp he with he | he
    · obtain ⟨e0, h0, rfl⟩ := List.mem_map.mp he
      obtain ⟨q, ci, fs, v, g1, g2, g3, g4⟩ := kp.2.2.1 e0 h0
      exact ⟨q, ci, fs, v, fwj g1, g2, g3, fwd g4⟩
    · obtain ⟨he1, he2⟩ := List.mem_filter.mp he
      obtain ⟨q, ci, fs, v, g1, g2, g3, g4⟩ := k.2.2.1 e he1
      unfold aKf at he2
      split at he2
      · next t ht =>
        have htag := k.tag g1 ht
        obtain ⟨c, c1, c2⟩ := hT q t htag
        cases c1.symm.trans g2
        obtain ⟨fs1, f1, f2⟩ := (hF q t htag).1 ⟨_, c2.1⟩ ci fs g2
        simp only [Bool.not_eq_true', decide_eq_false_iff_not] at he2
        exact ⟨q, ci, fs1, v, X2.mu g1, f1, (f2 _ he2).trans g3, g4.x X2⟩
      · cases he2
  · rcases List.mem_append.mp he with he | he
    · obtain ⟨e0, h0, rfl⟩ := List.mem_map.mp he
      obtain ⟨q, kd, n, f, i, g1, g2, g3, g4⟩ := kp.2.2.2.1 e0 h0
      exact ⟨q, kd, n, f, i, fwj g1, g2, fwd g3, fwd g4⟩
    · obtain ⟨he1, he2⟩ := List.mem_filter.mp he
      obtain ⟨q, kd, n, f, i, g1, g2, g3, g4⟩ := k.2.2.2.1 e he1
      unfold aKa at he2
      split at he2
      · next t ht =>
        have htag := k.tag g1 ht
        obtain ⟨c, c1, c2⟩ := hT q t htag
        cases c1.symm.trans g2
        simp only [Bool.not_eq_true', decide_eq_false_iff_not] at he2
        exact ⟨q, kd, n, f, i, X2.mu g1, by rw [(hF q t htag).2 c2.1 he2]; exact g2, g3.x X2, g4.x X2⟩
      · cases he2
  · rcases List.mem_append.mp he with he | he
    · obtain ⟨e0, h0, he0⟩ := List.mem_flatMap.mp he
      have hd := kp.2.2.2.2 e0 h0
      unfold aSbD at he0
      split at he0
      · next l0 =>
        split at he0
        · next l2 hl2 =>
          have := List.mem_singleton.mp he0
          subst this
          have h3 := lSb_ok (nu := nu ++ l) _ _ hl2
          rw [hN] at h3
          have h4 := hd.2
          have hlt := lSb_lt2 hG _ _ hl2
          refine ⟨hlt, ?_⟩
          show lS (nu ++ l) l2.1 + (l2.2 + l0.2) ≤ 0
          omega
        · cases he0
      · next i m =>
        split at he0
        · next a c hx =>
          split at he0
          · next hc =>
            subst hc
            have := List.mem_singleton.mp he0
            subst this
            obtain ⟨x, d1, d2⟩ := hd
            rw [← hN, aN, List.getElem?_map, hx, Option.map_some] at d1
            obtain ⟨v1, hv1⟩ := hG.1 _ (List.mem_of_getElem? hx)
            obtain ⟨z1, hz1, -⟩ := hv1
            simp only [aEv, List.getD_eq_getElem?_getD, hz1, Option.getD_some, Option.some.injEq, Int.add_zero] at d1
            subst d1
            exact ⟨z1, hz1, d2⟩
          · cases he0
        · cases he0
    · exact (k.2.2.2.2 e he).x X2
  · unfold aRes at hr ⊢
    split at hr
    · trivial
    · exact fwd hr
    · exact hr.elim
end APO
end
section
/-! the walk by what is known -/
abbrev aF : Type := Nat × Nat × List (Nat × aV) × List aV
def aArgs : Nat → List aV → List (Nat × aV)
  | _, [] => []
  | i, a :: as => (i, a) :: aArgs (i + aCat a) as
def aSum (st : List aV) : Nat := (st.map aCat).sum
def nj_isret (i : Instr) : Bool := match i with
  | .ireturn | .lreturn | .return_ => true
  | _ => false
def aRetV (s : aS) (ret : Option FieldType) (i : Instr) (st : List aV) : Option (Option aV) := match i with
  | .ireturn => match st with
    | [x] => if aIsI x = true ∧ (ret = some .int ∨ (ret = some .boolean ∧ 0 ≤ (aIv s.1 x).1 ∧ (aIv s.1 x).2 ≤ 1)) then some (some x) else none
    | _ => none
  | .lreturn => match st with
    | [x] => if aIsL x = true ∧ ret = some .long then some (some x) else none
    | _ => none
  | .return_ => if st = [] ∧ ret = none then some none else none
  | _ => none
def aId (m t : Nat) : aSg := ((List.range m).map (fun i => aSym i), List.range t)
/-- the end is one of those promised -/
def aEnd (s : aS) (m t : Nat) (o : Option aV) (po : aS × Option aV) : Bool := match po.2, o with
  | none, none => (aInst s (aId m t) po.1 [] []).isSome
  | some p, some x => (aInst s (aId m t) po.1 [p] [x]).isSome
  | _, _ => false
def aSub (c : nK) (mf : List (Nat × Nat)) (ma : List Nat) : Bool := c.2.2.2.2.1.all (fun x => decide (x ∈ mf)) && c.2.2.2.2.2.1.all (fun x => decide (x ∈ ma))
def aUse (mf : List (Nat × Nat)) (ma : List Nat) (dep : Nat) (s : aS) (a : Nat) (args : List aV) : List nK → Option (nK × aSg)
  | [] => none
  | c :: cs => if c.1 = a ∧ c.2.1 < dep ∧ aSub c mf ma = true then (match aInst s ([], []) c.2.2.1 c.2.2.2.1 args with
    | some sg => some (c, sg)
    | none => aUse mf ma dep s a args cs) else aUse mf ma dep s a args cs
def aRcv (s : aS) (mz : nM) (args : List aV) : Bool := match args with
  | .inr (.inr (.inl j)) :: _ => match s.2.1[j]? with
    | some t => (match oT t with
      | some c => decide ((nj_cl[c]?).map (fun z => z.1) = some mz.1.cls)
      | none => false)
    | none => false
  | _ => false
def aRcvI (s : aS) (mz : nM) (i : Instr) (args : List aV) : Bool := match i with
  | .invokevirtual _ => aRcv s mz args
  | .invokestatic _ => true
  | _ => false
def aMin (s : aS) (pc : Nat) (st : List aV) : Option (aS × List aV) := match st with
  | y :: x :: r => if aIsI x = true ∧ aIsI y = true ∧ aSum r ≤ 8 then some (aNew s (min (aIv s.1 x).1 (aIv s.1 y).1, min (aIv s.1 x).2 (aIv s.1 y).2), aSym s.1.length :: r) else none
  | _ => none
/-- arraycopy from place 0 to place 0 -/
def aCpy (AT : Nat → Option aTy) (ma : List Nat) (s : aS) (st : List aV) : Option (aS × List aV) := match st with
  | n :: .inl d0 :: .inr (.inr (.inl j1)) :: .inl s0 :: .inr (.inr (.inl j0)) :: r => match s.2.1[j0]?, s.2.1[j1]? with
    | some t0, some t1 => match AT t0, AT t1 with
      | some (k0, n0, .inl g0), some (k1, n1, .inl g1) => if ((oT t0 = none ∧ oT t1 = none ∧ t1 ∈ ma) ∧ d0 = 0 ∧ s0 = 0 ∧ k0 = 0 ∧ k1 = 0 ∧ aSum r ≤ 8) ∧ aIsI n = true ∧ 0 ≤ (aIv s.1 n).1 ∧ (aIv s.1 n).2 ≤ (n0 : Int) ∧ (aIv s.1 n).2 ≤ (n1 : Int) ∧ g1.all (fun q => !q.2.2.2) = true ∧ (t0 = t1 ∨ g0.all (fun q => g1.all (fun z => decide (z.2.1 ≤ q.2.1) && decide (q.2.2.1 ≤ z.2.2.1))) = true) then some ((s.1, s.2.1, s.2.2.1, aKeep s t1, s.2.2.2.2), r) else none
      | some (k0, n0, .inr (.inr _)), some (k1, n1, .inr (.inr _)) => if ((oT t0 = none ∧ oT t1 = none ∧ t1 ∈ ma) ∧ d0 = 0 ∧ s0 = 0 ∧ k0 = 3 ∧ k1 = 3 ∧ aSum r ≤ 8) ∧ aIsI n = true ∧ 0 ≤ (aIv s.1 n).1 ∧ (aIv s.1 n).2 ≤ (n0 : Int) ∧ (aIv s.1 n).2 ≤ (n1 : Int) then some (s, r) else none
      | _, _ => none
    | _, _ => none
  | _ => none
/-- a call -/
def aInvk (M : Nat → Option nM) (AT : Nat → Option aTy) (ctx : List nK) (mf : List (Nat × Nat)) (ma : List Nat) (dep : Nat) (s : aS) (k pc : Nat) (al : List (Nat × aV)) (st : List aV) (r : List aF) (i : Instr) (a b : Nat) (v : Int) : Option (List (aS × List aF)) :=
  if v = 5 then (match aCpy AT ma s st with
    | some (s1, st1) => some [(s1, (k, pc + 3, al, st1) :: r)]
    | none => none)
  else if v = 7 then (match aMin s pc st with
    | some (s1, st1) => some [(s1, (k, pc + 3, al, st1) :: r)]
    | none => none)
  else if v = 4 ∨ v = 6 then none
  else match M a with
    | none => none
    | some mz => if (b ≤ st.length ∧ aSum (st.drop b) ≤ 8 ∧ aSum (st.take b) ≤ mz.2.2.1) ∧ aRcvI s mz i (st.take b).reverse = true then (match aUse mf ma dep s a (st.take b).reverse ctx with
        | some (c, sg) => some (c.2.2.2.2.2.2.map (fun po => (aPost s sg c.2.2.2.2.1 c.2.2.2.2.2.1 po.1, (k, pc + 3, al, (po.2.map (aSb (aSgP s sg po.1))).toList ++ st.drop b) :: r)))
        | none => if 0 < dep then some [(s, (a, 0, aArgs 0 (st.take b).reverse, []) :: (k, pc + 3, al, st.drop b) :: r)] else none) else none
/-- one instruction of the top frame: the states behind it -/
def aStep (M : Nat → Option nM) (FT : Nat → Nat → Option fTy) (AT : Nat → Option aTy) (ctx : List nK) (ls : Option Nat) (mf : List (Nat × Nat)) (ma : List Nat) (posts : List (aS × Option aV)) (m0 t0 D0 : Nat) (s : aS) (fs : List aF) : Option (List (aS × List aF)) := match fs with
  | [] => none
  | (k, pc, al, st) :: r => match M k with
    | none => none
    | some mt => match mt.2.2.2.2.2.find? (fun q => q.1 == pc) with
      | none => none
      | some (_, i, a, b, v, _) =>
        if nj_isret i = true then (match aRetV s mt.2.2.2.1 i st with
          | none => none
          | some o => match r with
            | [] => if posts.any (aEnd s m0 t0 o) = true then some [] else none
            | (k2, pc2, al2, st2) :: r2 => some [(s, (k2, pc2, al2, o.toList ++ st2) :: r2)])
        else if nj_isinv i = true then aInvk M AT ctx mf ma (D0 - r.length) s k pc al st r i a b v
        else match aPure s mt.2.2.1 pc al st i with
          | some l => some (l.map (fun y => (y.1, (k, y.2.1, y.2.2.1, y.2.2.2) :: r)))
          | none => match aMem FT AT ls mf ma s a b v st i with
            | some (s1, st1) => some [(s1, (k, pc + nj_len i b, al, st1) :: r)]
            | none => none
end
section
/-- a number that is known is its value -/
def aCan (s : aS) (a : aV) : aV := match a with
  | .inr (.inl (i, c)) => (match s.1[i]? with
    | some r => if r.1 = r.2 then .inl (r.1 + c) else .inr (.inl (i, c))
    | none => .inr (.inl (i, c)))
  | x => x
/-- only where the pattern is a number itself -/
def aCanP (s : aS) : List aV → List aV → List aV
  | .inl _ :: ps, x :: xs => aCan s x :: aCanP s ps xs
  | _ :: ps, x :: xs => x :: aCanP s ps xs
  | _, xs => xs
def aGetLs (al : List (Nat × aV)) : List Nat → Option (List aV)
  | [] => some []
  | k :: ks => match aGetL al k, aGetLs al ks with
    | some x, some xs => some (x :: xs)
    | _, _ => none
/-- narrower ranges for numbers that have names already -/
def aRfn : List aV → aRho → aS → Option aS
  | x :: xs, r :: rs, s => if aFitX s x = true then (match aLe s.1 x r.2 with
    | some rho1 => match aGe rho1 x r.1 with
      | some rho2 => aRfn xs rs (rho2, s.2)
      | none => none
    | none => none) else aRfn xs rs s
  | _, _, s => some s
/-- what is known at a place of a method beside what the walk knows: the method, the place, locals, the state and values that it asks for, the states of which one is so -/
abbrev nGt : Type := Nat × Nat × List Nat × aS × List aV × List aS
/-- a named write: 0 for a row, 1 for a field; the field; locals; the state, locals' values and values it asks for; what may change; the states behind it -/
abbrev nSt : Type := (Nat × (Nat × Nat) × List Nat × List aV) × aS × List aV × List (Nat × Nat) × List Nat × List aS
abbrev nWk : Type := List nGt × List nSt
def aGhoT (s : aS) (al : List (Nat × aV)) (g : nGt) : Option aSg := match aGetLs al g.2.2.1 with
  | none => none
  | some xs => aInst s ([], []) g.2.2.2.1 g.2.2.2.2.1 (aCanP s g.2.2.2.2.1 xs)
def aGho (gs : List nGt) (s : aS) (k pc : Nat) (al : List (Nat × aV)) : List aS := match gs.find? (fun g => g.1 == k && (g.2.1 == pc && (aGhoT s al g).isSome)) with
  | none => [s]
  | some g => match aGhoT s al g with
    | none => [s]
    | some sg => g.2.2.2.2.2.filterMap (fun po => aRfn sg.1 po.1 (aPost s sg [] [] po))
def aSubW (mf0 : List (Nat × Nat)) (ma0 : List Nat) (mf : List (Nat × Nat)) (ma : List Nat) : Bool := mf0.all (fun x => decide (x ∈ mf)) && ma0.all (fun x => decide (x ∈ ma))
def aSpI (i : Instr) (a b : Nat) (v : Int) (c : nSt) : Bool := match i with
  | .iastore => decide (c.1.1 = 0)
  | .putfield _ => decide (c.1.1 = 1) && (decide (c.1.2.1 = (a, b)) && decide (v = 0))
  | _ => false
def aSpec (mf : List (Nat × Nat)) (ma : List Nat) (s : aS) (a b : Nat) (v : Int) (al : List (Nat × aV)) (st : List aV) (i : Instr) : List nSt → Option (List (aS × List aV))
  | [] => none
  | c :: cs => if aSpI i a b v c = true ∧ aSubW c.2.2.2.1 c.2.2.2.2.1 mf ma = true ∧ c.1.2.2.2.length = c.1.2.2.1.length then (match aGetLs al c.1.2.2.1 with
    | some xs => (match aInst s ([], []) c.2.1 (c.1.2.2.2 ++ c.2.2.1) (xs ++ st.take c.2.2.1.length) with
      | some sg => some (c.2.2.2.2.2.map (fun po => (aPost s sg c.2.2.2.1 c.2.2.2.2.1 po, st.drop c.2.2.1.length)))
      | none => aSpec mf ma s a b v al st i cs)
    | none => aSpec mf ma s a b v al st i cs) else aSpec mf ma s a b v al st i cs
def aStep3 (M : Nat → Option nM) (FT : Nat → Nat → Option fTy) (AT : Nat → Option aTy) (ctx : List nK) (W : nWk) (ls : Option Nat) (mf : List (Nat × Nat)) (ma : List Nat) (posts : List (aS × Option aV)) (m0 t0 D0 : Nat) (s : aS) (k pc : Nat) (al : List (Nat × aV)) (st : List aV) (r : List aF) : Option (List (aS × List aF)) :=
  match aStep M FT AT ctx ls mf ma posts m0 t0 D0 s ((k, pc, al, st) :: r) with
  | some l => some l
  | none => match M k with
    | none => none
    | some mt => match mt.2.2.2.2.2.find? (fun q => q.1 == pc) with
      | none => none
      | some (_, i, a, b, v, _) => match aSpec mf ma s a b v al st i W.2 with
        | some l => some (l.map (fun y => (y.1, (k, pc + nj_len i b, al, y.2) :: r)))
        | none => none
def aCat2 : List (Option (List (aS × List aF))) → Option (List (aS × List aF))
  | [] => some []
  | x :: xs => match x, aCat2 xs with
    | some l, some l2 => some (l ++ l2)
    | _, _ => none
def aStep2 (M : Nat → Option nM) (FT : Nat → Nat → Option fTy) (AT : Nat → Option aTy) (ctx : List nK) (W : nWk) (ls : Option Nat) (mf : List (Nat × Nat)) (ma : List Nat) (posts : List (aS × Option aV)) (m0 t0 D0 : Nat) (s : aS) (fs : List aF) : Option (List (aS × List aF)) := match fs with
  | [] => none
  | (k, pc, al, st) :: r => aCat2 ((aGho W.1 s k pc al).map (fun s1 => aStep3 M FT AT ctx W ls mf ma posts m0 t0 D0 s1 k pc al (st.map (aCan s1)) r))
/-- a place where the walk is cut: its number, what is known there, the frame's places, the rank -/
abbrev aCt : Type := Nat × aS × List (Nat × aV) × aLin
/-- the state at hand is one of the cut's, and its rank is below rk -/
def aHit (s : aS) (al : List (Nat × aV)) (st : List aV) (m0 t0 : Nat) (rk : Option aLin) (c : aCt) : Bool := match aGetLs al (c.2.2.1.map (fun q => q.1)) with
  | none => false
  | some xs => match aInst s (aId m0 t0) c.2.1 (c.2.2.1.map (fun q => q.2)) (aCanP s (c.2.2.1.map (fun q => q.2)) xs) with
    | none => false
    | some sg => decide (st = []) && (match rk with
      | none => true
      | some r0 => match lSb sg c.2.2.2.1 with
        | none => false
        | some l => aPr s (lAdd l.1 (lNeg r0.1), l.2 + c.2.2.2.2 - r0.2 + 1) && aPr s (lNeg l.1, - (l.2 + c.2.2.2.2)))
def aCutAt (cuts : List aCt) (k0 : Nat) (fs : List aF) : Option (Nat × List (Nat × aV) × List aV) := match fs with
  | [(k, pc, al, st)] => if k = k0 ∧ cuts.any (fun c => c.1 == pc) = true then some (pc, al, st) else none
  | _ => none
def aExec (M : Nat → Option nM) (FT : Nat → Nat → Option fTy) (AT : Nat → Option aTy) (ctx : List nK) (W : nWk) (ls : Option Nat) (mf : List (Nat × Nat)) (ma : List Nat) (posts : List (aS × Option aV)) (m0 t0 D0 k0 : Nat) (cuts : List aCt) (rk : Option aLin) : Nat → aS → List aF → Bool
  | 0, _, _ => false
  | n + 1, s, fs => match aCutAt cuts k0 fs with
    | some (pc, al, st) => cuts.any (fun c => c.1 == pc && aHit s al st m0 t0 rk c)
    | none => match aStep2 M FT AT ctx W ls mf ma posts m0 t0 D0 s fs with
      | none => false
      | some l => l.all (fun y => aExec M FT AT ctx W ls mf ma posts m0 t0 D0 k0 cuts rk n y.1 y.2)
/-- from a cut on -/
def aFrom (M : Nat → Option nM) (FT : Nat → Nat → Option fTy) (AT : Nat → Option aTy) (ctx : List nK) (W : nWk) (ls : Option Nat) (mf : List (Nat × Nat)) (ma : List Nat) (posts : List (aS × Option aV)) (m0 t0 D0 k0 : Nat) (cuts : List aCt) (fuel : Nat) (c : aCt) : Bool := (c.2.2.2.1.all (fun t => decide (t.2 < c.2.1.1.length)) && (decide (m0 ≤ c.2.1.1.length) && decide (t0 ≤ c.2.1.2.1.length))) && (match aStep2 M FT AT ctx W ls mf ma posts m0 t0 D0 c.2.1 [(k0, c.1, c.2.2.1, [])] with
  | none => false
  | some l => l.all (fun y => aExec M FT AT ctx W ls mf ma posts m0 t0 D0 k0 cuts (some c.2.2.2) fuel y.1 y.2))
/-- the whole check of a promise -/
def aChk (M : Nat → Option nM) (FT : Nat → Nat → Option fTy) (AT : Nat → Option aTy) (ctx : List nK) (W : nWk) (ls : Option Nat) (cuts : List aCt) (fuel : Nat) (c : nK) : Bool :=
  cuts.all (aFrom M FT AT ctx W ls c.2.2.2.2.1 c.2.2.2.2.2.1 c.2.2.2.2.2.2 c.2.2.1.1.length c.2.2.1.2.1.length c.2.1 c.1 cuts fuel) &&
  aExec M FT AT ctx W ls c.2.2.2.2.1 c.2.2.2.2.2.1 c.2.2.2.2.2.2 c.2.2.1.1.length c.2.2.1.2.1.length c.2.1 c.1 cuts none fuel c.2.2.1 [(c.1, 0, aArgs 0 c.2.2.2.1, [])]
end
section
abbrev cF : Type := nM × Nat × nLv × List Value
section ASD
variable {M : Nat → Option nM} {X : nX} {L : Nat} {xs : Nat → Int32} {g : Nat}
def tR (M : Nat → Option nM) (X : nX) (L : Nat) (xs : Nat → Int32) (g : Nat) (Q : Option Value → List nC → Prop) : List cF → Nat → Option Value → List nC → Prop
  | [], _, rv, h => Q rv h
  | f :: r, d, rv, h => nT M X L xs g d f.1 (fun rv2 h2 => tR M X L xs g Q r (d + 1) rv2 h2) f.2.1 f.2.2.1 (rv.toList ++ f.2.2.2) h
def nG (M : Nat → Option nM) (X : nX) (L : Nat) (xs : Nat → Int32) (g : Nat) (Q : Option Value → List nC → Prop) (d : Nat) (h : List nC) : List cF → Prop
  | [] => False
  | f :: r => nT M X L xs g d f.1 (fun rv2 h2 => tR M X L xs g Q r (d + 1) rv2 h2) f.2.1 f.2.2.1 f.2.2.2 h
def aFR (M : Nat → Option nM) (nu : List Int) (mu : List Nat) : List aF → List cF → Prop
  | [], [] => True
  | a :: as, f :: fs => (M a.1 = some f.1 ∧ a.2.1 = f.2.1 ∧ aLv nu mu a.2.2.1 f.2.2.1 ∧ aSt nu mu a.2.2.2 f.2.2.2) ∧ aFR M nu mu as fs
  | _, _ => False
theorem aFR.x {nu nu1 : List Int} {mu mu1 : List Nat} (e : aX nu mu nu1 mu1) : ∀ {as : List aF} {fs : List cF}, aFR M nu mu as fs → aFR M nu1 mu1 as fs
  | [], [], _ => trivial
  | [], _ :: _, h => h
  | _ :: _, [], h => h
  | _ :: _, _ :: _, h => ⟨⟨h.1.1, h.1.2.1, h.1.2.2.1.x e, h.1.2.2.2.x e⟩, aFR.x e h.2⟩
theorem aFR.len {nu : List Int} {mu : List Nat} : ∀ {as : List aF} {fs : List cF}, aFR M nu mu as fs → as.length = fs.length
  | [], [], _ => rfl
  | [], _ :: _, h => h.elim
  | _ :: _, [], h => h.elim
  | _ :: _, _ :: _, h => by simp [aFR.len h.2]
theorem nj_ret_none {rt : Option FieldType} {i : Instr} {st : List Value} (h : nj_isret i = false) : nj_ret rt i st = none := by
  cases i <;> first | rfl | cases h
theorem aRetV_ok {S : List Nat} {h : List nC} {nu : List Int} {mu : List Nat} {s : aS} {rt : Option FieldType} {i : Instr} {ast : List aV} {st : List Value} {o : Option aV} (k : aOk S h nu mu s) (hs : aSt nu mu ast st) (hr : aRetV s rt i ast = some o) : ∃ rv, nj_ret rt i st = some rv ∧ aRes nu mu o rv := by
  cases i with
  | ireturn =>
    simp only [aRetV] at hr
    split at hr
    · next x =>
      split at hr
      · next hc =>
        cases hr
        obtain ⟨v, r, rfl, hx, hr⟩ := hs.cons
        cases r with
        | cons w r => exact hr.elim
        | nil =>
          obtain ⟨y, rfl, h1, h2⟩ := aIv_ok k.1 hc.1 hx
          refine ⟨some (.int y), ?_, hx⟩
          rcases hc.2 with e | ⟨e, e1, e2⟩
          · subst e
            simp only [nj_ret]
            rw [if_pos (vp_nar_int y)]
          · subst e
            have : y = 0 ∨ y = 1 := by
              have : y.toInt = 0 ∨ y.toInt = 1 := by omega
              rcases this with q | q
              · exact Or.inl (Int32.toInt_inj.mp q)
              · exact Or.inr (Int32.toInt_inj.mp q)
            rcases this with rfl | rfl <;> rfl
      · cases hr
    · cases hr
  | lreturn =>
    simp only [aRetV] at hr
    split at hr
    · next x =>
      split at hr
      · next hc =>
        cases hr
        obtain ⟨v, r, rfl, hx, hr⟩ := hs.cons
        cases r with
        | cons w r => exact hr.elim
        | nil =>
          obtain ⟨y, rfl⟩ := aIsL_v hc.1 hx
          exact ⟨some (.long y), by simp only [nj_ret, if_pos hc.2], hx⟩
      · cases hr
    · cases hr
  | return_ =>
    simp only [aRetV] at hr
    split at hr
    · next hc =>
      cases hr
      obtain ⟨rfl, rfl⟩ := hc
      cases st with
      | nil => exact ⟨none, rfl, trivial⟩
      | cons v r => exact hs.elim
    · cases hr
  | _ => exact nomatch (show (none : Option (Option aV)) = some o from hr)
theorem aId_N {nu0 nu : List Int} {mu0 mu : List Nat} (e : aX nu0 mu0 nu mu) : aN nu (aId nu0.length mu0.length) = nu0 ∧ aU mu (aId nu0.length mu0.length) = mu0 ∧ aGd nu mu (aId nu0.length mu0.length) := by
  refine ⟨?_, ?_, fun x hx => ?_, fun y hy => ?_⟩
  · apply List.ext_getElem?
    intro i
    simp only [aN, aId, List.map_map, List.getElem?_map]
    by_cases hi : i < nu0.length
    · rw [List.getElem?_range hi]
      have := e.nu (List.getElem?_eq_getElem hi)
      simp only [Option.map_some, Function.comp, aEv, List.getD_eq_getElem?_getD, this, Option.getD_some, Int.add_zero]
      rw [List.getElem?_eq_getElem hi]
    · rw [List.getElem?_eq_none (by simp; omega), List.getElem?_eq_none (by omega)]
      rfl
  · apply List.ext_getElem?
    intro i
    simp only [aU, aId, List.getElem?_map]
    by_cases hi : i < mu0.length
    · rw [List.getElem?_range hi]
      have := e.mu (List.getElem?_eq_getElem hi)
      simp only [Option.map_some, List.getD_eq_getElem?_getD, this, Option.getD_some]
      rw [List.getElem?_eq_getElem hi]
    · rw [List.getElem?_eq_none (by simp; omega), List.getElem?_eq_none (by omega)]
      rfl
  · obtain ⟨i, hi, rfl⟩ := List.mem_map.mp hx
    have hi2 := List.mem_range.mp hi
    exact ⟨Int32.ofInt nu0[i], nu0[i], e.nu (List.getElem?_eq_getElem hi2), by rw [Int.add_zero]⟩
  · have hi2 := List.mem_range.mp hy
    exact ⟨mu0[y], e.mu (List.getElem?_eq_getElem hi2)⟩
theorem aEnd_ok {S : List Nat} {h : List nC} {nu0 nu : List Int} {mu0 mu : List Nat} {s : aS} {o : Option aV} {rv : Option Value} {po : aS × Option aV} (e : aX nu0 mu0 nu mu) (k : aOk S h nu mu s) (hr : aRes nu mu o rv) (he : aEnd s nu0.length mu0.length o po = true) : ∃ nu1 mu1, aX nu0 mu0 nu1 mu1 ∧ aOk S h nu1 mu1 po.1 ∧ aRes nu1 mu1 po.2 rv := by
  obtain ⟨e1, e2, e3⟩ := aId_N e
  unfold aEnd at he
  split at he
  · next hp =>
    obtain ⟨sg, hsg⟩ := Option.isSome_iff_exists.mp he
    obtain ⟨x1, x2, x3, x4⟩ := aInst_ok (xs := []) (vs := []) k e3 trivial hsg
    have := x1.x (nu := nu) (mu := mu)
    rw [e1, e2] at this
    rw [hp]
    cases rv with
    | none => exact ⟨_, _, this, x3, trivial⟩
    | some v => exact hr.elim
  · next p x hp =>
    obtain ⟨sg, hsg⟩ := Option.isSome_iff_exists.mp he
    cases rv with
    | none => exact hr.elim
    | some v =>
      obtain ⟨x1, x2, x3, x4⟩ := aInst_ok (xs := [x]) (vs := [v]) k e3 ⟨hr, trivial⟩ hsg
      have := x1.x (nu := nu) (mu := mu)
      rw [e1, e2] at this
      rw [hp]
      exact ⟨_, _, this, x3, x4.1⟩
  · cases he
theorem lv_args_ge : ∀ (vs : List Value) (i : Nat) (q : Nat × Value), q ∈ lv_args i vs → i ≤ q.1 := by
  intro vs
  induction vs with
  | nil => intro i q h; cases h
  | cons v vs ih =>
    intro i q h
    rcases List.mem_cons.mp h with rfl | h
    · exact Nat.le_refl _
    · have := ih _ q h
      split at this <;> omega
theorem aArgs_ge : ∀ (as : List aV) (i : Nat) (q : Nat × aV), q ∈ aArgs i as → i ≤ q.1 := by
  intro as
  induction as with
  | nil => intro i q h; cases h
  | cons a as ih =>
    intro i q h
    rcases List.mem_cons.mp h with rfl | h
    · exact Nat.le_refl _
    · have := ih _ q h
      omega
theorem aArgs_ok {nu : List Int} {mu : List Nat} : ∀ (as : List aV) (vs : List Value) (i : Nat), aSt nu mu as vs → aLv nu mu (aArgs i as) (lv_args i vs) := by
  intro as
  induction as with
  | nil => intro vs i h e he; cases he
  | cons a as ih =>
    intro vs i h e he
    obtain ⟨v, r, rfl, ha, hr⟩ := h.cons
    have hcat := aR_cat ha
    have hstep : (if v.category = 2 then i + 2 else i + 1) = i + aCat a := by
      have : aCat a = 1 ∨ aCat a = 2 := by
        unfold aCat
        split <;> simp
      rw [hcat]
      rcases this with q | q <;> simp [q]
    rcases List.mem_cons.mp he with rfl | he
    · exact ⟨v, by simp [lv_args, nj_get], ha⟩
    · obtain ⟨w, g1, g2⟩ := ih r (i + aCat a) hr e he
      refine ⟨w, ?_, g2⟩
      have hge := aArgs_ge as _ e he
      have hc1 : 1 ≤ aCat a := by
        unfold aCat
        split <;> simp
      have hne : (i == e.1) = false := by
        simp only [beq_eq_false_iff_ne, ne_eq]
        omega
      simp only [lv_args, hstep, nj_get, List.find?_cons, hne]
      exact g1
theorem aSum_ok {nu : List Int} {mu : List Nat} : ∀ {as : List aV} {vs : List Value}, aSt nu mu as vs → nj_sum vs = aSum as := by
  intro as
  induction as with
  | nil => intro vs h; cases vs with
    | nil => rfl
    | cons v vs => exact h.elim
  | cons a as ih =>
    intro vs h
    obtain ⟨v, r, rfl, ha, hr⟩ := h.cons
    have := ih hr
    simp only [nj_sum, aSum, List.map_cons, List.sum_cons, aR_cat ha] at this ⊢
    omega
theorem aSt_len {nu : List Int} {mu : List Nat} : ∀ {as : List aV} {vs : List Value}, aSt nu mu as vs → as.length = vs.length := by
  intro as
  induction as with
  | nil => intro vs h; cases vs with
    | nil => rfl
    | cons v vs => exact h.elim
  | cons a as ih =>
    intro vs h
    obtain ⟨v, r, rfl, ha, hr⟩ := h.cons
    simp [ih hr]
theorem aSt_take {nu : List Int} {mu : List Nat} : ∀ {as : List aV} {vs : List Value} (n : Nat), aSt nu mu as vs → aSt nu mu (as.take n) (vs.take n) ∧ aSt nu mu (as.drop n) (vs.drop n) := by
  intro as
  induction as with
  | nil => intro vs n h; cases vs with
    | nil => simp [aSt]
    | cons v vs => exact h.elim
  | cons a as ih =>
    intro vs n h
    obtain ⟨v, r, rfl, ha, hr⟩ := h.cons
    cases n with
    | zero => exact ⟨trivial, ha, hr⟩
    | succ n => exact ⟨⟨ha, (ih n hr).1⟩, (ih n hr).2⟩
theorem aSt_app {nu : List Int} {mu : List Nat} : ∀ {as bs : List aV} {vs ws : List Value}, aSt nu mu as vs → aSt nu mu bs ws → aSt nu mu (as ++ bs) (vs ++ ws) := by
  intro as
  induction as with
  | nil => intro bs vs ws h1 h2; cases vs with
    | nil => exact h2
    | cons v vs => exact h1.elim
  | cons a as ih =>
    intro bs vs ws h1 h2
    obtain ⟨v, r, rfl, ha, hr⟩ := h1.cons
    exact ⟨ha, ih hr h2⟩
theorem aSt_rev {nu : List Int} {mu : List Nat} : ∀ {as : List aV} {vs : List Value}, aSt nu mu as vs → aSt nu mu as.reverse vs.reverse := by
  intro as
  induction as with
  | nil => intro vs h; cases vs with
    | nil => trivial
    | cons v vs => exact h.elim
  | cons a as ih =>
    intro vs h
    obtain ⟨v, r, rfl, ha, hr⟩ := h.cons
    simp only [List.reverse_cons]
    exact aSt_app (ih hr) ⟨ha, trivial⟩
theorem lg_sl_sum (vs : List Value) : (lg_sl vs).length = nj_sum vs := by
  induction vs with
  | nil => rfl
  | cons v vs ih =>
    simp only [lg_sl, List.flatMap_cons, List.length_append, nj_sum, List.map_cons, List.sum_cons] at ih ⊢
    rw [ih]
    rcases lv_cat v with e | e <;> simp [e]
theorem nj_sum_rev (vs : List Value) : nj_sum vs.reverse = nj_sum vs := by
  simp [nj_sum, List.sum_reverse]
end ASD
end
section
section AS2
variable {M : Nat → Option nM} {X : nX} {L : Nat} {xs : Nat → Int32} {g : Nat} {FT : Nat → Nat → Option fTy} {AT : Nat → Option aTy} {S : List Nat} {J : List nC → Prop} {h : List nC} {nu : List Int} {mu : List Nat} {s s1 : aS} {pc d a b : Nat} {lv : nLv} {st : List Value} {ast ast1 : List aV} {mf : List (Nat × Nat)} {ma : List Nat} {i : Instr}
theorem m_min {run : Nat → nM → nLv → List nC → Nat → Option nRes} (hi : nj_isinv i = true) (k : aOk S h nu mu s) (hs : aSt nu mu ast st) (hr : aMin s pc ast = some (s1, ast1)) : ∃ (st1 : List Value) (nu1 : List Int), nj_calls M X run d pc i a b 7 lv st h g = some (pc + 3, lv, st1, h, g, 0, 0) ∧ aX nu mu nu1 mu ∧ aOk S h nu1 mu s1 ∧ aSt nu1 mu ast1 st1 := by
  unfold aMin at hr
  split at hr
  · next y x r =>
    obtain ⟨v0, rst0, rfl, hy, hrst0⟩ := hs.cons
    obtain ⟨v1, rst, rfl, hx, hrst⟩ := hrst0.cons
    split at hr
    · next hc =>
      cases hr
      obtain ⟨x0, rfl, hx1, hx2⟩ := aIv_ok k.1 hc.1 hx
      obtain ⟨y0, rfl, hy1, hy2⟩ := aIv_ok k.1 hc.2.1 hy
      have hb : min (aIv s.1 x).1 (aIv s.1 y).1 ≤ (if y0 < x0 then y0 else x0).toInt ∧ (if y0 < x0 then y0 else x0).toInt ≤ min (aIv s.1 x).2 (aIv s.1 y).2 := by
        split
        · next hlt =>
          rw [Int32.lt_iff_toInt_lt] at hlt
          simp only [Int.min_def]
          split <;> split <;> omega
        · next hlt =>
          rw [Int32.lt_iff_toInt_lt] at hlt
          simp only [Int.min_def]
          split <;> split <;> omega
      obtain ⟨nu1, X1, y1, hy1', -, k1, -, s1'⟩ := aNx.new (x := if y0 < x0 then y0 else x0) (rg := (min (aIv s.1 x).1 (aIv s.1 y).1, min (aIv s.1 x).2 (aIv s.1 y).2)) (al := []) (lv := lv) (pc1 := pc) k (fun e he => by cases he) hrst hb
      have := List.mem_singleton.mp hy1'
      subst this
      refine ⟨_, nu1, ?_, X1, k1, s1'⟩
      have hsum : nj_sum rst ≤ 8 := by rw [aSum_ok hrst]; exact hc.2.2
      unfold nj_calls
      rw [if_neg (by rw [hi]; decide), if_neg (by decide), if_neg (by decide), if_neg (by decide), if_pos rfl]
      simp only [if_pos hsum]
    · cases hr
  · cases hr
theorem sAt_mem {segs : List nSeg} {j : Nat} {r : Int × Int × Bool} (h : sAt segs j = some r) : ∃ q ∈ segs, q.2 = r := by
  unfold sAt at h
  obtain ⟨q, h1, h2⟩ := Option.map_eq_some_iff.mp h
  exact ⟨q, List.mem_of_find?_eq_some h1, h2⟩
theorem m_cpy {run : Nat → nM → nLv → List nC → Nat → Option nRes} (hi : nj_isinv i = true) (hJ : nJ FT AT S J) (hJh : J h) (hT : tOk FT AT S h) (k : aOk S h nu mu s) (hs : aSt nu mu ast st) (hr : aCpy AT ma s ast = some (s1, ast1)) : ∃ (st1 : List Value) (h1 : List nC), nj_calls M X run d pc i a b 5 lv st h g = some (pc + 3, lv, st1, h1, g, 0, 0) ∧ J h1 ∧ tOk FT AT S h1 ∧ nFr mf ma S h h1 ∧ aOk S h1 nu mu s1 ∧ aSt nu mu ast1 st1 := by
  unfold aCpy at hr
  split at hr
  · next n d0 j1 s0 j0 r =>
    obtain ⟨v0, r0, rfl, hn, hr0⟩ := hs.cons
    obtain ⟨v1, r1, rfl, hd0, hr1⟩ := hr0.cons
    obtain ⟨v2, r2, rfl, ⟨q1, hq1, rfl⟩, hr2⟩ := hr1.cons
    obtain ⟨v3, r3, rfl, hs0, hr3⟩ := hr2.cons
    obtain ⟨v4, rst, rfl, ⟨q0, hq0, rfl⟩, hrst⟩ := hr3.cons
    cases hd0
    cases hs0
    have z0 : (Int32.ofInt 0) = 0 := rfl
    have nz : ¬ ((0 : Int32) < 0) := by decide
    have c0 : (0 : Int32).toNatClampNeg = 0 := rfl
    split at hr
    · next t0 t1 ht0 ht1 =>
      have htag0 := k.tag hq0 ht0
      have htag1 := k.tag hq1 ht1
      split at hr
      · next k0 n0 g0 k1 n1 g1 hA0 hA1 =>
        split at hr
        · next hc =>
          cases hr
          obtain ⟨⟨⟨b0, b1, bm⟩, rfl, rfl, rfl, rfl, hsum⟩, hni, hn0, hn1, hn2, hsp, hcomp⟩ := hc
          obtain ⟨x, rfl, hx1, hx2⟩ := aIv_ok k.1 hni hn
          obtain ⟨ct0, e0, w0⟩ := hT.arr htag0 hA0 b0
          obtain ⟨ct1, e1, w1⟩ := hT.arr htag1 hA1 b1
          cases ct0 with
          | inr y => exact w0.elim
          | inl f =>
            cases ct1 with
            | inr y => exact w1.elim
            | inl g' =>
              have hxn : x.toNatClampNeg = x.toInt.toNat := rfl
              have hx0 : ¬ x < 0 := by
                rw [Int32.lt_iff_toInt_lt]
                have : (0 : Int32).toInt = 0 := rfl
                omega
              obtain ⟨hJ1, hG⟩ := hJ.2.2.2 h q1 t1 0 n1 g1 g' (va_cpy f g' 0 0 x.toNatClampNeg) hJh hT htag1 hA1 e1 (fun r hr => by simpa using List.all_eq_true.mp hsp r hr)
              refine ⟨rst, h.set q1 (.inl (0, n1, .inl (va_cpy f g' 0 0 x.toNatClampNeg))), ?_, hJ1, tOk_set hT htag1 ⟨b1, _, hA1, fun j hj => ?_⟩, nFr.seta htag1 b1 bm hG, ⟨k.1, k.2.1, aFc_arr k e1 hG, aKeep_ok k htag1, k.2.2.2.2⟩, hrst⟩
              · unfold nj_calls
                rw [if_neg (by rw [hi]; decide), if_neg (by decide), if_pos rfl]
                have hcp : nj_copy (.int x :: .int (Int32.ofInt 0) :: .ref q1 :: .int (Int32.ofInt 0) :: .ref q0 :: rst) h = some (rst, h.set q1 (.inl (0, n1, .inl (va_cpy f g' 0 0 x.toNatClampNeg)))) := by
                  simp only [nj_copy, e0, e1, z0, c0]
                  rw [if_pos ⟨trivial, trivial, nz, nz, hx0, by omega, by omega⟩]
                have hsm : nj_sum rst ≤ 8 := by rw [aSum_ok hrst]; exact hsum
                simp only [hcp, if_pos hsm]
              · obtain ⟨rr1, u1, u2⟩ := w1 j hj
                refine ⟨rr1, u1, ?_⟩
                by_cases hj2 : j < x.toNatClampNeg
                · have ev : va_cpy f g' 0 0 x.toNatClampNeg j = f j := by
                    simp only [va_cpy, Nat.zero_le, Nat.zero_add, true_and, if_pos hj2, Nat.sub_zero]
                  rw [ev]
                  obtain ⟨rr0, w1', w2'⟩ := w0 j (by omega)
                  rcases hcomp with hc | hc
                  · subst hc
                    cases hA0.symm.trans hA1
                    cases w1'.symm.trans u1
                    exact w2'
                  · obtain ⟨qa, qa1, qa2⟩ := sAt_mem w1'
                    obtain ⟨qb, qb1, qb2⟩ := sAt_mem u1
                    have := List.all_eq_true.mp (List.all_eq_true.mp hc qa qa1) qb qb1
                    simp only [Bool.and_eq_true, decide_eq_true_eq] at this
                    rw [qa2, qb2] at this
                    omega
                · have ev : va_cpy f g' 0 0 x.toNatClampNeg j = g' j := by
                    simp only [va_cpy, Nat.zero_le, Nat.zero_add, true_and, if_neg hj2]
                  rw [ev]
                  exact u2
        · cases hr
      · next k0 n0 u0 k1 n1 u1 hA0 hA1 =>
        split at hr
        · next hc =>
          cases hr
          obtain ⟨⟨⟨b0, b1, bm⟩, rfl, rfl, rfl, rfl, hsum⟩, hni, hn0, hn1, hn2⟩ := hc
          obtain ⟨x, rfl, hx1, hx2⟩ := aIv_ok k.1 hni hn
          obtain ⟨ct0, e0, w0⟩ := hT.arr htag0 hA0 b0
          obtain ⟨ct1, e1, w1⟩ := hT.arr htag1 hA1 b1
          rcases ct0 with f | f | f
          · exact w0.elim
          · rcases ct1 with g' | g' | g'
            · exact w1.elim
            · have hxn : x.toNatClampNeg = x.toInt.toNat := rfl
              have hx0 : ¬ x < 0 := by
                rw [Int32.lt_iff_toInt_lt]
                have : (0 : Int32).toInt = 0 := rfl
                omega
              obtain ⟨hJ1, hG⟩ := hJ.2.2.1 h q1 t1 3 n1 g' (va_cpy f g' 0 0 x.toNatClampNeg) hJh hT htag1 e1
              refine ⟨rst, h.set q1 (.inl (3, n1, .inr (.inl (va_cpy f g' 0 0 x.toNatClampNeg)))), ?_, hJ1, tOk_set hT htag1 ⟨b1, _, hA1, trivial⟩, nFr.seta htag1 b1 bm hG, ⟨k.1, k.2.1, aFc_arr k e1 hG, fun e he => ?_, k.2.2.2.2⟩, hrst⟩
              · unfold nj_calls
                rw [if_neg (by rw [hi]; decide), if_neg (by decide), if_pos rfl]
                have hcp : nj_copy (.int x :: .int (Int32.ofInt 0) :: .ref q1 :: .int (Int32.ofInt 0) :: .ref q0 :: rst) h = some (rst, h.set q1 (.inl (3, n1, .inr (.inl (va_cpy f g' 0 0 x.toNatClampNeg))))) := by
                  simp only [nj_copy, e0, e1, z0, c0]
                  rw [if_pos ⟨trivial, trivial, nz, nz, hx0, by omega, by omega⟩]
                have hsm : nj_sum rst ≤ 8 := by rw [aSum_ok hrst]; exact hsum
                simp only [hcp, if_pos hsm]
              · obtain ⟨q2, kd2, n2, f2, i2, g1, g2, g3, g4⟩ := k.2.2.2.1 e he
                refine ⟨q2, kd2, n2, f2, i2, g1, ?_, g3, g4⟩
                rw [List.getElem?_set_ne]
                · exact g2
                · intro e2
                  subst e2
                  cases e1.symm.trans g2
            · exact w1.elim
          · exact w0.elim
        · cases hr
      · cases hr
    · cases hr
  · cases hr
end AS2
end
section
section AS3
variable {M : Nat → Option nM} {X : nX} {L : Nat} {xs : Nat → Int32} {g : Nat} {FT : Nat → Nat → Option fTy} {AT : Nat → Option aTy} {S : List Nat} {J : List nC → Prop} {ctx : List nK} {ls : Option Nat} {mf : List (Nat × Nat)} {ma : List Nat} {posts : List (aS × Option aV)} {D0 : Nat} {nu0 nuB : List Int} {mu0 muB : List Nat} {h0 : List nC}
/-- the state at hand is one of those that s and fs tell -/
def aRel (M : Nat → Option nM) (FT : Nat → Nat → Option fTy) (AT : Nat → Option aTy) (S : List Nat) (J : List nC → Prop) (mf : List (Nat × Nat)) (ma : List Nat) (nu0 : List Int) (mu0 : List Nat) (h0 : List nC) (s : aS) (fs : List aF) (h : List nC) (cfs : List cF) : Prop :=
  ∃ nu mu, aX nu0 mu0 nu mu ∧ aOk S h nu mu s ∧ aFR M nu mu fs cfs ∧ J h ∧ tOk FT AT S h ∧ nFr mf ma S h0 h
def aQ (FT : Nat → Nat → Option fTy) (AT : Nat → Option aTy) (S : List Nat) (J : List nC → Prop) (mf : List (Nat × Nat)) (ma : List Nat) (posts : List (aS × Option aV)) (nu0 : List Int) (mu0 : List Nat) (h0 : List nC) (rv : Option Value) (h1 : List nC) : Prop :=
  J h1 ∧ tOk FT AT S h1 ∧ nFr mf ma S h0 h1 ∧ ∃ po ∈ posts, ∃ nu1 mu1, aX nu0 mu0 nu1 mu1 ∧ aOk S h1 nu1 mu1 po.1 ∧ aRes nu1 mu1 po.2 rv
theorem aUse_ok {dep : Nat} {s : aS} {a : Nat} {args : List aV} {c : nK} {sg : aSg} : ∀ {cs : List nK}, aUse mf ma dep s a args cs = some (c, sg) → c ∈ cs ∧ c.1 = a ∧ c.2.1 < dep ∧ aSub c mf ma = true ∧ aInst s ([], []) c.2.2.1 c.2.2.2.1 args = some sg := by
  intro cs
  induction cs with
  | nil => intro h; cases h
  | cons c0 cs ih =>
    intro h
    simp only [aUse] at h
    split at h
    · next hc =>
      split at h
      · next sg0 hi =>
        cases h
        exact ⟨List.mem_cons_self, hc.1, hc.2.1, hc.2.2, hi⟩
      · obtain ⟨h1, h2⟩ := ih h
        exact ⟨List.mem_cons_of_mem _ h1, h2⟩
    · obtain ⟨h1, h2⟩ := ih h
      exact ⟨List.mem_cons_of_mem _ h1, h2⟩
theorem aMem_np {s : aS} {a b : Nat} {v : Int} {ast : List aV} {i : Instr} {r : aS × List aV} (hr : aMem FT AT ls mf ma s a b v ast i = some r) {lv : nLv} {mL pc : Nat} {st : List Value} : nj_pure lv mL pc st i = none := by
  cases i <;> first | rfl | exact nomatch (show (none : Option (aS × List aV)) = some r from hr)
theorem aRcv_ok {h : List nC} {nu : List Int} {mu : List Nat} {s : aS} {mz : nM} {args : List aV} {vs : List Value} (hT : tOk FT AT S h) (k : aOk S h nu mu s) (hs : aSt nu mu args vs) (hr : aRcv s mz args = true) : nj_recv mz vs h = true := by
  unfold aRcv at hr
  split at hr
  · next j r =>
    obtain ⟨v, rst, rfl, ⟨q, hq, rfl⟩, hrst⟩ := hs.cons
    split at hr
    · next t ht =>
      split at hr
      · next c hc =>
        obtain ⟨fs, e1, -⟩ := hT.obj (k.tag hq ht) hc
        simp only [nj_recv, e1]
        exact hr
      · cases hr
    · cases hr
  · cases hr
set_option maxHeartbeats 4000000 in
theorem aStep_ok (hB : aX nu0 mu0 nuB muB) (hJ : nJ FT AT S J) (hctx : ∀ c ∈ ctx, nV M X L xs g FT AT S J c) (hls : ∀ y, ls = some y → nu0[y]? = some (L : Int)) {s : aS} {fs : List aF} {h : List nC} {cfs : List cF} {l : List (aS × List aF)} {d d0 : Nat} (hR : aRel M FT AT S J mf ma nuB muB h0 s fs h cfs) (hd : d + (cfs.length - 1) = d0) (hD : D0 ≤ d0)
    (hr : aStep M FT AT ctx ls mf ma posts nu0.length mu0.length D0 s fs = some l) (kk : ∀ y ∈ l, ∀ (h' : List nC) (cfs' : List cF) (d' : Nat), aRel M FT AT S J mf ma nuB muB h0 y.1 y.2 h' cfs' → d' + (cfs'.length - 1) = d0 → nG M X L xs g (aQ FT AT S J mf ma posts nu0 mu0 h0) d' h' cfs') : nG M X L xs g (aQ FT AT S J mf ma posts nu0 mu0 h0) d h cfs := by
  obtain ⟨nu, mu, X0, k, hF, hJh, hT, hfr⟩ := hR
  have hls' : ∀ y, ls = some y → nu[y]? = some (L : Int) := fun y hy => (hB.tr X0).nu (hls y hy)
  unfold aStep at hr
  split at hr
  · cases hr
  · next kf pc al st r =>
    cases cfs with
    | nil => exact hF.elim
    | cons f cr =>
      obtain ⟨mt, pc', lv, cst⟩ := f
      obtain ⟨⟨hM, hpc, hlv, hst⟩, hFr⟩ := hF
      simp only at hM hpc hlv hst
      subst hpc
      have hlen := hFr.len
      split at hr
      · next hMn => rw [hM] at hMn; cases hMn
      · next mt2 hM2 =>
        cases hM.symm.trans hM2
        split at hr
        · cases hr
        · next q i a b v pos hf =>
          split at hr
          · next hret =>
            split at hr
            · cases hr
            · next o ho =>
              obtain ⟨rv, e1, e2⟩ := aRetV_ok k hst ho
              split at hr
              · split at hr
                · next hany =>
                  cases hr
                  obtain ⟨po, hpo, hend⟩ := List.any_eq_true.mp hany
                  obtain ⟨nu1, mu1, x1, x2, x3⟩ := aEnd_ok (hB.tr X0) k e2 hend
                  cases cr with
                  | cons f2 cr => exact hFr.elim
                  | nil => exact nT_ret hf e1 ⟨hJh, hT, hfr, po, hpo, nu1, mu1, x1, x2, x3⟩
                · cases hr
              · next k2 pc2 al2 st2 r2 =>
                cases hr
                cases cr with
                | nil => exact hFr.elim
                | cons f2 cr2 =>
                  obtain ⟨⟨m1, m2, m3, m4⟩, m5⟩ := hFr
                  refine nT_ret hf e1 ?_
                  have hres : aSt nu mu (o.toList ++ st2) (rv.toList ++ f2.2.2.2) := by
                    refine aSt_app ?_ m4
                    cases o with
                    | none => cases rv with
                      | none => trivial
                      | some w => exact e2.elim
                    | some x => cases rv with
                      | none => exact e2.elim
                      | some w => exact ⟨e2, trivial⟩
                  exact kk _ (List.mem_singleton.mpr rfl) h ((f2.1, f2.2.1, f2.2.2.1, rv.toList ++ f2.2.2.2) :: cr2) (d + 1) ⟨nu, mu, X0, k, ⟨⟨m1, m2, m3, hres⟩, m5⟩, hJh, hT, hfr⟩ (by simp at hd ⊢; omega)
          · next hret =>
            have hret' : nj_isret i = false := by simpa using hret
            split at hr
            · next hinv =>
              unfold aInvk at hr
              split at hr
              · next hv =>
                subst hv
                split at hr
                · next s1 st1 hc =>
                  cases hr
                  have key : ∀ run, ∃ (cst1 : List Value) (h1 : List nC), nj_calls M X run d pc i a b 5 lv cst h g = some (pc + 3, lv, cst1, h1, g, 0, 0) ∧ J h1 ∧ tOk FT AT S h1 ∧ nFr mf ma S h h1 ∧ aOk S h1 nu mu s1 ∧ aSt nu mu st1 cst1 := fun run => m_cpy hinv hJ hJh hT k hst hc
                  obtain ⟨cst1, h1, z1, z2, z3, z4, z5, z6⟩ := key (fun _ _ _ _ _ => none)
                  refine nT_c0 hf hinv (fun run => ?_) (kk _ (List.mem_singleton.mpr rfl) h1 ((mt, pc + 3, lv, cst1) :: cr) d ⟨nu, mu, X0, z5, ⟨⟨hM, rfl, hlv, z6⟩, hFr⟩, z2, z3, hfr.tr z4⟩ hd)
                  rw [← z1]
                  unfold nj_calls
                  simp
                · cases hr
              · next hv5 =>
                split at hr
                · next hv =>
                  subst hv
                  split at hr
                  · next s1 st1 hc =>
                    cases hr
                    obtain ⟨cst1, nu1, z1, z2, z3, z4⟩ := m_min (M := M) (X := X) (g := g) (d := d) (a := a) (b := b) (lv := lv) (run := fun _ _ _ _ _ => none) hinv k hst hc
                    refine nT_c0 hf hinv (fun run => ?_) (kk _ (List.mem_singleton.mpr rfl) h ((mt, pc + 3, lv, cst1) :: cr) d ⟨nu1, mu, X0.tr z2, z3, ⟨⟨hM, rfl, hlv.x z2, z4⟩, hFr.x z2⟩, hJh, hT, hfr⟩ hd)
                    rw [← z1]
                    unfold nj_calls
                    simp
                  · cases hr
                · next hv7 =>
                  split at hr
                  · cases hr
                  · next hv46 =>
                    split at hr
                    · cases hr
                    · next mz hMa =>
                      split at hr
                      · next hc =>
                        obtain ⟨⟨hb, hsum, hargs⟩, hrcv⟩ := hc
                        obtain ⟨tk, dr⟩ := aSt_take b hst
                        have rv' := aSt_rev tk
                        have hpass : nj_pass mz i b cst h = true := by
                          simp only [nj_pass, Bool.and_eq_true, decide_eq_true_eq]
                          refine ⟨by rw [← aSt_len hst]; exact hb, by rw [aSum_ok dr]; exact hsum, by rw [lg_sl_sum, nj_sum_rev, aSum_ok tk]; exact hargs, ?_⟩
                          cases i with
                          | invokevirtual idx => exact aRcv_ok hT k rv' hrcv
                          | invokestatic idx => rfl
                          | _ => exact nomatch (show false = true from hrcv)
                        split at hr
                        · next c sg huse =>
                          cases hr
                          obtain ⟨u1, u2, u3, u4, u5⟩ := aUse_ok huse
                          obtain ⟨y1, y2, y3, y4⟩ := aInst_ok k ⟨fun x hx => (by cases hx), fun y hy => (by cases hy)⟩ rv' u5
                          have hdep : ∃ d1, d = d1 + 1 ∧ c.2.1 ≤ d1 := by
                            refine ⟨d - 1, ?_, ?_⟩ <;> (simp at hd; omega)
                          obtain ⟨d1, rfl, hd1⟩ := hdep
                          refine nT_call hf hinv (fun z => hv46 (Or.inl z)) hv5 (fun z => hv46 (Or.inr z)) hv7 hMa hpass ?_
                          refine nT.mono ?_ (hctx c u1 d1 hd1 mz (by rw [u2]; exact hMa) h _ _ _ hJh hT y3 y4)
                          rintro rv h1 ⟨w1, w2, w3, po, hpo, nu1, mu1, w4, w5, w6⟩
                          obtain ⟨nu2, mu2, q1, q2, q3⟩ := aPost_ok hT k y2 w3 w4 w5 w6
                          have hsub : nFr mf ma S h h1 := by
                            simp only [aSub, Bool.and_eq_true] at u4
                            refine w3.wk (fun x hx => ?_) (fun x hx => ?_)
                            · simpa using List.all_eq_true.mp u4.1 x hx
                            · simpa using List.all_eq_true.mp u4.2 x hx
                          have hres : aSt nu2 mu2 ((po.2.map (aSb (aSgP s sg po.1))).toList ++ st.drop b) (rv.toList ++ cst.drop b) := by
                            refine aSt_app ?_ (dr.x q1)
                            cases hpo2 : po.2 with
                            | none =>
                              rw [hpo2] at q3
                              cases rv with
                              | none => trivial
                              | some w => exact q3.elim
                            | some x =>
                              rw [hpo2] at q3
                              cases rv with
                              | none => exact q3.elim
                              | some w => exact ⟨q3, trivial⟩
                          exact kk _ (List.mem_map.mpr ⟨po, hpo, rfl⟩) h1 ((mt, pc + 3, lv, rv.toList ++ cst.drop b) :: cr) (d1 + 1) ⟨nu2, mu2, X0.tr q1, q2, ⟨⟨hM, rfl, hlv.x q1, hres⟩, hFr.x q1⟩, w1, w2, hfr.tr hsub⟩ hd
                        · split at hr
                          · next hdp =>
                            cases hr
                            have hdep : ∃ d1, d = d1 + 1 := ⟨d - 1, by simp at hd; omega⟩
                            obtain ⟨d1, rfl⟩ := hdep
                            refine nT_call hf hinv (fun z => hv46 (Or.inl z)) hv5 (fun z => hv46 (Or.inr z)) hv7 hMa hpass ?_
                            exact kk _ (List.mem_singleton.mpr rfl) h ((mz, 0, lv_args 0 (cst.take b).reverse, []) :: (mt, pc + 3, lv, cst.drop b) :: cr) d1 ⟨nu, mu, X0, k, ⟨⟨hMa, rfl, aArgs_ok _ _ 0 rv', trivial⟩, ⟨hM, rfl, hlv, dr⟩, hFr⟩, hJh, hT, hfr⟩ (by simp at hd ⊢; omega)
                          · cases hr
                      · cases hr
            · next hinv =>
              split at hr
              · next l0 hp =>
                cases hr
                obtain ⟨r1, z1, nu1, z2, y, hy, z3, z4, z5, z6⟩ := p_pure k hlv hst hp
                refine nT_pure hf (nj_ret_none hret') (pc1 := r1.1) (lv1 := r1.2.1) (st1 := r1.2.2) z1 ?_
                exact kk _ (List.mem_map.mpr ⟨y, hy, rfl⟩) h ((mt, r1.1, r1.2.1, r1.2.2) :: cr) d ⟨nu1, mu, X0.tr z2, z4, ⟨⟨hM, z3, z5, z6⟩, hFr.x z2⟩, hJh, hT, hfr⟩ hd
              · split at hr
                · next s1 st1 hm =>
                  cases hr
                  obtain ⟨cst1, h1, nu1, mu1, z1, z2, z3, z4, z5, z6, z7⟩ := m_mem (pc := pc) (xs := xs) (ini := mt.1.name == "<init>") hls' hJ hJh hT k hst hm
                  refine nT_mem hf (nj_ret_none hret') (aMem_np hm) z1 ?_
                  exact kk _ (List.mem_singleton.mpr rfl) h1 ((mt, pc + nj_len i b, lv, cst1) :: cr) d ⟨nu1, mu1, X0.tr z5, z6, ⟨⟨hM, rfl, hlv.x z5, z7⟩, hFr.x z5⟩, z2, z3, hfr.tr z4⟩ hd
                · cases hr
end AS3
end
section
section AS4
variable {nu : List Int} {mu : List Nat} {rho : aRho}
theorem aGetLs_ok {al : List (Nat × aV)} {lv : nLv} (hl : aLv nu mu al lv) : ∀ (ks : List Nat) (xs : List aV), aGetLs al ks = some xs → ∃ vs : List Value, aSt nu mu xs vs ∧ vs.length = ks.length ∧ ∀ (j k : Nat) (v : Value), ks[j]? = some k → vs[j]? = some v → nj_get lv k = some v := by
  intro ks
  induction ks with
  | nil => intro xs h; cases h; exact ⟨[], trivial, rfl, fun j k v h => by simp at h⟩
  | cons k ks ih =>
    intro xs h
    simp only [aGetLs] at h
    split at h
    · next x xs0 hx hxs =>
      cases h
      obtain ⟨v, g1, g2⟩ := aGetL_ok hl hx
      obtain ⟨vs, s1, s2, s3⟩ := ih xs0 hxs
      refine ⟨v :: vs, ⟨g2, s1⟩, by simp [s2], fun j k2 v2 h1 h2 => ?_⟩
      cases j with
      | zero => simp at h1 h2; rw [← h1, ← h2]; exact g1
      | succ j => simp at h1 h2; exact s3 j k2 v2 h1 h2
    · cases h
theorem aSt_get {nu : List Int} {mu : List Nat} : ∀ {as : List aV} {vs : List Value} {j : Nat} {a : aV}, aSt nu mu as vs → as[j]? = some a → ∃ v, vs[j]? = some v ∧ aR nu mu a v := by
  intro as
  induction as with
  | nil => intro vs j a h hj; simp at hj
  | cons b as ih =>
    intro vs j a h hj
    obtain ⟨v, r, rfl, hb, hr⟩ := h.cons
    cases j with
    | zero => simp at hj; subst hj; exact ⟨v, by simp, hb⟩
    | succ j => simp at hj; obtain ⟨w, h1, h2⟩ := ih hr hj; exact ⟨w, by simpa using h1, h2⟩
end AS4
end
section
section AVA
variable {M : Nat → Option nM} {X : nX} {L : Nat} {xs : Nat → Int32} {g : Nat} {FT : Nat → Nat → Option fTy} {AT : Nat → Option aTy} {S : List Nat} {J : List nC → Prop} {ctx : List nK} {W : nWk} {ls : Option Nat} {mf : List (Nat × Nat)} {ma : List Nat} {posts : List (aS × Option aV)} {D0 : Nat} {nu0 nuB nu : List Int} {mu0 muB mu : List Nat} {h0 h : List nC} {s : aS}
theorem aCan_ok (hE : aE s.1 nu) {a : aV} {v : Value} (ha : aR nu mu a v) : aR nu mu (aCan s a) v := by
  unfold aCan
  split
  · next i c =>
    split
    · next r hr =>
      split
      · next e =>
        obtain ⟨z, hz, ez⟩ := ha
        have := hE.2 i z r hz hr
        have hzr : z = r.1 := by omega
        rw [hzr] at ez
        exact ez
      · exact ha
    · exact ha
  · exact ha
theorem aCan_st (hE : aE s.1 nu) : ∀ {as : List aV} {vs : List Value}, aSt nu mu as vs → aSt nu mu (as.map (aCan s)) vs := by
  intro as
  induction as with
  | nil => intro vs h; exact h
  | cons a as ih =>
    intro vs h
    obtain ⟨v, r, rfl, ha, hr⟩ := h.cons
    exact ⟨aCan_ok hE ha, ih hr⟩
theorem aCanP_st (hE : aE s.1 nu) : ∀ {ps as : List aV} {vs : List Value}, aSt nu mu as vs → aSt nu mu (aCanP s ps as) vs := by
  intro ps
  induction ps with
  | nil => intro as vs h; cases as <;> exact h
  | cons p ps ih =>
    intro as vs h
    cases as with
    | nil => cases p <;> exact h
    | cons a as =>
      obtain ⟨v, r, rfl, ha, hr⟩ := h.cons
      cases p with
      | inl c => exact ⟨aCan_ok hE ha, ih hr⟩
      | inr q => exact ⟨ha, ih hr⟩
theorem aFitX_ev (k : aOk S h nu mu s) {x : aV} {v : Int32} (hx : aR nu mu x (.int v)) (hf : aFitX s x = true) : v.toInt = aEv nu x := by
  unfold aFitX at hf
  split at hf
  · next c =>
    cases hx
    simp only [aFit, Bool.and_eq_true, decide_eq_true_eq] at hf
    rw [a32 (by omega) (by omega)]
    rfl
  · next i c =>
    obtain ⟨z, hz, ez⟩ := hx
    split at hf
    · next r hr =>
      have b := k.1.2 i z r hz hr
      simp only [aFit, Bool.and_eq_true, decide_eq_true_eq] at hf
      have : v = Int32.ofInt (z + c) := by cases ez; rfl
      rw [this, a32 (by omega) (by omega)]
      simp only [aEv, List.getD_eq_getElem?_getD, hz, Option.getD_some]
    · cases hf
  · cases hf
theorem aRfn_ok : ∀ {xs : List aV} {rs : aRho} {s : aS} {s1 : aS}, aOk S h nu mu s → (∀ x ∈ xs, ∃ v : Int32, aR nu mu x (.int v)) → (∀ (i : Nat) (x : aV) (r : Int × Int), xs[i]? = some x → rs[i]? = some r → r.1 ≤ aEv nu x ∧ aEv nu x ≤ r.2) → ∃ s1, aRfn xs rs s = some s1 ∧ aOk S h nu mu s1 := by
  intro xs
  induction xs with
  | nil => intro rs s s1 k _ _; cases rs <;> exact ⟨s, rfl, k⟩
  | cons x xs ih =>
    intro rs s s1 k hg hr
    cases rs with
    | nil => exact ⟨s, rfl, k⟩
    | cons r rs =>
      have hg2 : ∀ y ∈ xs, ∃ v : Int32, aR nu mu y (.int v) := fun y hy => hg y (List.mem_cons_of_mem _ hy)
      have hr2 : ∀ (i : Nat) (y : aV) (r2 : Int × Int), xs[i]? = some y → rs[i]? = some r2 → r2.1 ≤ aEv nu y ∧ aEv nu y ≤ r2.2 := fun i y r2 h1 h2 => hr (i + 1) y r2 (by simpa using h1) (by simpa using h2)
      simp only [aRfn]
      split
      · next hf =>
        obtain ⟨v, hv⟩ := hg x List.mem_cons_self
        have hb := hr 0 x r rfl rfl
        rw [← aFitX_ev k hv hf] at hb
        obtain ⟨rho1, e1, k1⟩ := aLe_ok k.1 hv hb.2
        obtain ⟨rho2, e2, k2⟩ := aGe_ok k1 hv hb.1
        rw [e1]
        simp only [e2]
        exact ih (s := (rho2, s.2)) (s1 := s1) ⟨k2, k.2.1, k.2.2.1, k.2.2.2.1, k.2.2.2.2⟩ hg2 hr2
      · exact ih (s1 := s1) k hg2 hr2
def nGv (FT : Nat → Nat → Option fTy) (AT : Nat → Option aTy) (S : List Nat) (J : List nC → Prop) (c : nGt) : Prop := ∀ (h : List nC) (nu : List Int) (mu : List Nat) (vs : List Value), J h → tOk FT AT S h → aOk S h nu mu c.2.2.2.1 → aSt nu mu c.2.2.2.2.1 vs → ∃ po ∈ c.2.2.2.2.2, ∃ nu1 mu1, aX nu mu nu1 mu1 ∧ aOk S h nu1 mu1 po
def nSv (FT : Nat → Nat → Option fTy) (AT : Nat → Option aTy) (S : List Nat) (J : List nC → Prop) (c : nSt) : Prop := ∀ (h : List nC) (nu : List Int) (mu : List Nat) (ws vs rst : List Value) (pc : Nat) (ini : Bool), J h → tOk FT AT S h → aOk S h nu mu c.2.1 → aSt nu mu c.1.2.2.2 ws → aSt nu mu c.2.2.1 vs → ∃ h1 : List nC, (c.1.1 = 0 → nj_iast pc (vs ++ rst) h = some (pc + 1, rst, h1)) ∧ (c.1.1 = 1 → nj_putf ini pc c.1.2.1.1 c.1.2.1.2 0 (vs ++ rst) h = some (pc + 3, rst, h1)) ∧ J h1 ∧ tOk FT AT S h1 ∧ nFr c.2.2.2.1 c.2.2.2.2.1 S h h1 ∧ ∃ po ∈ c.2.2.2.2.2, ∃ nu1 mu1, aX nu mu nu1 mu1 ∧ aOk S h1 nu1 mu1 po
def nWv (FT : Nat → Nat → Option fTy) (AT : Nat → Option aTy) (S : List Nat) (J : List nC → Prop) (W : nWk) : Prop := (∀ c ∈ W.1, nGv FT AT S J c) ∧ ∀ c ∈ W.2, nSv FT AT S J c
theorem aSgP_rng {po : aS} {sg : aSg} {nu1 : List Int} {mu1 : List Nat} (hX : aX (aN nu sg) (aU mu sg) nu1 mu1) (kp : aOk S h nu1 mu1 po) : ∀ (i : Nat) (x : aV) (r : Int × Int), sg.1[i]? = some x → po.1[i]? = some r → r.1 ≤ aEv nu x ∧ aEv nu x ≤ r.2 := by
  intro i x r hx hr
  exact kp.1.2 i (aEv nu x) r (hX.nu (by simp [aN, List.getElem?_map, hx])) hr
theorem aGho_ok (hW : nWv FT AT S J W) (hJh : J h) (hT : tOk FT AT S h) (k : aOk S h nu mu s) {kf pc : Nat} {al : List (Nat × aV)} {lv : nLv} (hl : aLv nu mu al lv) : ∃ s1 ∈ aGho W.1 s kf pc al, ∃ nu1 mu1, aX nu mu nu1 mu1 ∧ aOk S h nu1 mu1 s1 := by
  unfold aGho
  split
  · exact ⟨s, List.mem_singleton.mpr rfl, nu, mu, aX.rf, k⟩
  · next c hc =>
    split
    · exact ⟨s, List.mem_singleton.mpr rfl, nu, mu, aX.rf, k⟩
    · next sg hsg0 =>
      unfold aGhoT at hsg0
      split at hsg0
      · cases hsg0
      · next xs0 hxs =>
        have hsg := hsg0
        obtain ⟨vs, v1, v2, v3⟩ := aGetLs_ok hl _ _ hxs
        obtain ⟨y1, y2, y3, y4⟩ := aInst_ok k ⟨fun x hx => (by cases hx), fun y hy => (by cases hy)⟩ (aCanP_st k.1 v1) hsg
        obtain ⟨po, hpo, nu1, mu1, w4, w5⟩ := hW.1 c (List.mem_of_find?_eq_some hc) h _ _ vs hJh hT y3 y4
        obtain ⟨nu2, mu2, q1, q2, -⟩ := aPost_ok (o := none) (rv := none) (mf := []) (ma := []) hT k y2 nFr.rf w4 w5 trivial
        have hg2 : ∀ x ∈ sg.1, ∃ v : Int32, aR nu2 mu2 x (.int v) := fun x hx => by
          obtain ⟨v, hv⟩ := y2.1 x hx
          exact ⟨v, hv.x q1⟩
        have hr2 : ∀ (i : Nat) (x : aV) (r : Int × Int), sg.1[i]? = some x → po.1[i]? = some r → r.1 ≤ aEv nu2 x ∧ aEv nu2 x ≤ r.2 := fun i x r hx hr => by
          obtain ⟨v, hv⟩ := y2.1 x (List.mem_of_getElem? hx)
          rw [aEv_x q1 hv]
          exact aSgP_rng w4 w5 i x r hx hr
        obtain ⟨s1, e1, e2⟩ := aRfn_ok (s1 := s) q2 hg2 hr2
        exact ⟨s1, List.mem_filterMap.mpr ⟨po, hpo, e1⟩, nu2, mu2, q1, e2⟩
theorem aSpec_ok (hW : ∀ c ∈ W.2, nSv FT AT S J c) (hJh : J h) (hT : tOk FT AT S h) (k : aOk S h nu mu s) {a b pc : Nat} {v : Int} {i : Instr} {ini : Bool} {ast : List aV} {st : List Value} {al : List (Nat × aV)} {lv : nLv} (hl : aLv nu mu al lv) (hs : aSt nu mu ast st) {l : List (aS × List aV)} : ∀ {cs : List nSt}, (∀ c ∈ cs, c ∈ W.2) → aSpec mf ma s a b v al ast i cs = some l → ∃ (st1 : List Value) (h1 : List nC) (nu1 : List Int) (mu1 : List Nat), ∃ y ∈ l, nj_mem L xs ini pc a b v st h i = some (pc + nj_len i b, st1, h1) ∧ J h1 ∧ tOk FT AT S h1 ∧ nFr mf ma S h h1 ∧ aX nu mu nu1 mu1 ∧ aOk S h1 nu1 mu1 y.1 ∧ aSt nu1 mu1 y.2 st1 := by
  intro cs
  induction cs with
  | nil => intro _ h; cases h
  | cons c cs ih =>
    intro hcs hr
    simp only [aSpec] at hr
    split at hr
    · next hc =>
      split at hr
      · next xs0 hxs =>
       split at hr
       · next sg hsg =>
        cases hr
        obtain ⟨ws, ws1, ws2, -⟩ := aGetLs_ok hl _ _ hxs
        obtain ⟨tk, dr⟩ := aSt_take c.2.2.1.length hs
        obtain ⟨y1, y2, y3, y4⟩ := aInst_ok k ⟨fun x hx => (by cases hx), fun y hy => (by cases hy)⟩ (aSt_app ws1 tk) hsg
        have hsp2 : ∃ a1 a2, ws ++ st.take c.2.2.1.length = a1 ++ a2 ∧ aSt (aN nu sg) (aU mu sg) c.1.2.2.2 a1 ∧ aSt (aN nu sg) (aU mu sg) c.2.2.1 a2 := by
          obtain ⟨t1, t2⟩ := aSt_take c.1.2.2.2.length y4
          rw [List.take_left' rfl] at t1
          rw [List.drop_left' rfl] at t2
          exact ⟨_, _, (List.take_append_drop _ _).symm, t1, t2⟩
        obtain ⟨a1, a2, ea, ya1, ya2⟩ := hsp2
        have hla : (st.take c.2.2.1.length).length ≤ c.2.2.1.length := by rw [List.length_take]; exact Nat.min_le_left _ _
        have hl1 := aSt_len ya1
        have hl2 := aSt_len ya2
        have hl3 := aSt_len ws1
        have hl4 := aSt_len tk
        have hl5 : c.1.2.2.2.length + c.2.2.1.length = xs0.length + (ast.take c.2.2.1.length).length := by
          have e1 := congrArg List.length ea
          simp only [List.length_append] at e1
          omega
        obtain ⟨h1, c0, c1, w1, w2, w3, po, hpo, nu1, mu1, w4, w5⟩ := hW c (hcs c List.mem_cons_self) h _ _ a1 a2 (st.drop c.2.2.1.length) pc ini hJh hT y3 ya1 ya2
        have ea2 : a2 = st.take c.2.2.1.length ∧ True := by
          have e2 : a1.length = ws.length := by
            have := hc.1
            have h6 := hxs
            have h7 : xs0.length = c.1.2.2.1.length := by rw [hl3, ws2]
            have h8 : c.1.2.2.2.length = c.1.2.2.1.length := hc.2.2
            omega
          exact ⟨(List.append_inj' ea.symm (by
            have e1 := congrArg List.length ea
            simp only [List.length_append] at e1
            omega)).2, trivial⟩
        rw [ea2.1, List.take_append_drop] at c0 c1
        obtain ⟨nu2, mu2, q1, q2, -⟩ := aPost_ok (o := none) (rv := none) hT k y2 w3 w4 w5 trivial
        have hsub : nFr mf ma S h h1 := by
          have u4 := hc.2.1
          simp only [aSubW, Bool.and_eq_true] at u4
          refine w3.wk (fun x hx => ?_) (fun x hx => ?_)
          · simpa using List.all_eq_true.mp u4.1 x hx
          · simpa using List.all_eq_true.mp u4.2 x hx
        refine ⟨st.drop c.2.2.1.length, h1, nu2, mu2, _, List.mem_map.mpr ⟨po, hpo, rfl⟩, ?_, w1, w2, hsub, q1, q2, dr.x q1⟩
        have hi := hc.1
        cases i with
        | iastore =>
          simp only [aSpI, decide_eq_true_eq] at hi
          exact c0 hi
        | putfield idx =>
          simp only [aSpI, Bool.and_eq_true, decide_eq_true_eq] at hi
          obtain ⟨i1, i2, rfl⟩ := hi
          have := c1 i1
          rw [i2] at this
          exact this
        | _ => exact nomatch (show false = true from hi)
       · exact ih (fun c hc => hcs c (List.mem_cons_of_mem _ hc)) hr
      · exact ih (fun c hc => hcs c (List.mem_cons_of_mem _ hc)) hr
    · exact ih (fun c hc => hcs c (List.mem_cons_of_mem _ hc)) hr
theorem aSpec_np {a b : Nat} {v : Int} {i : Instr} {ast : List aV} {al : List (Nat × aV)} {l : List (aS × List aV)} : ∀ {cs : List nSt}, aSpec mf ma s a b v al ast i cs = some l → (∀ {lv : nLv} {mL pc : Nat} {st : List Value}, nj_pure lv mL pc st i = none) ∧ ∀ {rt : Option FieldType} {st : List Value}, nj_ret rt i st = none := by
  intro cs
  induction cs with
  | nil => intro h; cases h
  | cons c cs ih =>
    intro hr
    simp only [aSpec] at hr
    split at hr
    · next hc =>
      have hi := hc.1
      cases i with
      | iastore => exact ⟨rfl, rfl⟩
      | putfield idx => exact ⟨rfl, rfl⟩
      | _ => exact nomatch (show false = true from hi)
    · exact ih hr
theorem aCat2_ok : ∀ {xs : List (Option (List (aS × List aF)))} {l : List (aS × List aF)}, aCat2 xs = some l → ∀ x ∈ xs, ∃ l1, x = some l1 ∧ ∀ y ∈ l1, y ∈ l := by
  intro xs
  induction xs with
  | nil => intro l _ x hx; cases hx
  | cons x xs ih =>
    intro l hl y hy
    simp only [aCat2] at hl
    split at hl
    · next l1 l2 h2 =>
      cases hl
      rcases List.mem_cons.mp hy with rfl | hy
      · exact ⟨l1, rfl, fun z hz => List.mem_append_left _ hz⟩
      · obtain ⟨l3, e1, e2⟩ := ih h2 y hy
        exact ⟨l3, e1, fun z hz => List.mem_append_right _ (e2 z hz)⟩
    · cases hl
theorem aStep2_ok (hB : aX nu0 mu0 nuB muB) (hJ : nJ FT AT S J) (hW : nWv FT AT S J W) (hctx : ∀ c ∈ ctx, nV M X L xs g FT AT S J c) (hls : ∀ y, ls = some y → nu0[y]? = some (L : Int)) {fs : List aF} {cfs : List cF} {l : List (aS × List aF)} {d d0 : Nat} (hR : aRel M FT AT S J mf ma nuB muB h0 s fs h cfs) (hd : d + (cfs.length - 1) = d0) (hD : D0 ≤ d0)
    (hr : aStep2 M FT AT ctx W ls mf ma posts nu0.length mu0.length D0 s fs = some l) (kk : ∀ y ∈ l, ∀ (h' : List nC) (cfs' : List cF) (d' : Nat), aRel M FT AT S J mf ma nuB muB h0 y.1 y.2 h' cfs' → d' + (cfs'.length - 1) = d0 → nG M X L xs g (aQ FT AT S J mf ma posts nu0 mu0 h0) d' h' cfs') : nG M X L xs g (aQ FT AT S J mf ma posts nu0 mu0 h0) d h cfs := by
  unfold aStep2 at hr
  split at hr
  · cases hr
  · next kf pc al st r =>
    obtain ⟨nu, mu, X0, k, hF, hJh, hT, hfr⟩ := hR
    cases cfs with
    | nil => exact hF.elim
    | cons f cr =>
      obtain ⟨mt, pc', lv, cst⟩ := f
      obtain ⟨⟨hM, hpc, hlv, hst⟩, hFr⟩ := hF
      simp only at hM hpc hlv hst
      subst hpc
      obtain ⟨s1, hs1, nu1, mu1, X1, k1⟩ := aGho_ok (kf := kf) (pc := pc) hW hJh hT k hlv
      obtain ⟨l1, hl1, hsub⟩ := aCat2_ok hr _ (List.mem_map.mpr ⟨s1, hs1, rfl⟩)
      have hst1 := aCan_st k1.1 (hst.x X1)
      unfold aStep3 at hl1
      split at hl1
      · next l2 hl2 =>
        cases hl1
        exact aStep_ok hB hJ hctx hls (s := s1) (fs := (kf, pc, al, st.map (aCan s1)) :: r) ⟨nu1, mu1, X0.tr X1, k1, ⟨⟨hM, rfl, hlv.x X1, hst1⟩, hFr.x X1⟩, hJh, hT, hfr⟩ hd hD hl2 (fun y hy => kk y (hsub y hy))
      · split at hl1
        · cases hl1
        · next mt2 hM2 =>
          cases hM.symm.trans hM2
          split at hl1
          · cases hl1
          · next q i a b v pos hf =>
            split at hl1
            · next l2 hl2 =>
              cases hl1
              obtain ⟨np, nr⟩ := aSpec_np hl2
              obtain ⟨st1, h1, nu2, mu2, y, hy, z1, z2, z3, z4, z5, z6, z7⟩ := aSpec_ok (L := L) (xs := xs) (pc := pc) (ini := mt.1.name == "<init>") hW.2 hJh hT k1 (hlv.x X1) hst1 (fun c hc => hc) hl2
              refine nT_mem hf nr np z1 ?_
              exact kk _ (hsub _ (List.mem_map.mpr ⟨y, hy, rfl⟩)) h1 ((mt, pc + nj_len i b, lv, st1) :: cr) d ⟨nu2, mu2, (X0.tr X1).tr z5, z6, ⟨⟨hM, rfl, (hlv.x X1).x z5, z7⟩, (hFr.x X1).x z5⟩, z2, z3, hfr.tr z4⟩ hd
            · cases hl1
end AVA
end
section
section AS5
variable {M : Nat → Option nM} {X : nX} {L : Nat} {xs : Nat → Int32} {g : Nat} {FT : Nat → Nat → Option fTy} {AT : Nat → Option aTy} {S : List Nat} {J : List nC → Prop} {ctx : List nK} {W : nWk} {ls : Option Nat} {mf : List (Nat × Nat)} {ma : List Nat} {posts : List (aS × Option aV)} {D0 k0 : Nat} {nu0 nuB : List Int} {mu0 muB : List Nat} {h0 : List nC} {cuts : List aCt} {rk : Option aLin} {d0 : Nat} {mt : nM}
/-- what is known of cuts whose rank is small enough -/
def aHd (M : Nat → Option nM) (X : nX) (L : Nat) (xs : Nat → Int32) (g : Nat) (FT : Nat → Nat → Option fTy) (AT : Nat → Option aTy) (S : List Nat) (J : List nC → Prop) (mf : List (Nat × Nat)) (ma : List Nat) (posts : List (aS × Option aV)) (nu0 : List Int) (mu0 : List Nat) (h0 : List nC) (cuts : List aCt) (d0 : Nat) (mt : nM) (lim : Int → Prop) : Prop :=
  ∀ c ∈ cuts, ∀ (h : List nC) (nu : List Int) (mu : List Nat) (lv : nLv), aX nu0 mu0 nu mu → aOk S h nu mu c.2.1 → aLv nu mu c.2.2.1 lv → J h → tOk FT AT S h → nFr mf ma S h0 h → lim (lS nu c.2.2.2.1 + c.2.2.2.2) → nT M X L xs g d0 mt (aQ FT AT S J mf ma posts nu0 mu0 h0) c.1 lv [] h
def aLim (nuB : List Int) (rk : Option aLin) (z : Int) : Prop := match rk with
  | none => True
  | some r0 => 0 ≤ z ∧ z < lS nuB r0.1 + r0.2
theorem aHit_ok {s : aS} {al : List (Nat × aV)} {st : List aV} {c : aCt} {h : List nC} {nu : List Int} {mu : List Nat} {lv : nLv} {cst : List Value} (hrk : ∀ r0, rk = some r0 → ∀ t ∈ r0.1, t.2 < nuB.length) (hH : aHd M X L xs g FT AT S J mf ma posts nu0 mu0 h0 cuts d0 mt (aLim nuB rk)) (hc : c ∈ cuts) (hB : aX nu0 mu0 nuB muB) (X0 : aX nuB muB nu mu) (k : aOk S h nu mu s) (hl : aLv nu mu al lv) (hs : aSt nu mu st cst) (hJh : J h) (hT : tOk FT AT S h) (hfr : nFr mf ma S h0 h) (hr : aHit s al st nu0.length mu0.length rk c = true) : nT M X L xs g d0 mt (aQ FT AT S J mf ma posts nu0 mu0 h0) c.1 lv cst h := by
  unfold aHit at hr
  split at hr
  · cases hr
  · next xs0 hxs =>
    split at hr
    · cases hr
    · next sg hsg =>
      rw [Bool.and_eq_true, decide_eq_true_eq] at hr
      obtain ⟨rfl, hrank⟩ := hr
      have hcst : cst = [] := by
        cases cst with
        | nil => rfl
        | cons v r => exact hs.elim
      subst hcst
      obtain ⟨vs, v1, v2, v3⟩ := aGetLs_ok hl _ _ hxs
      obtain ⟨e1, e2, e3⟩ := aId_N (hB.tr X0)
      obtain ⟨y1, y2, y3, y4⟩ := aInst_ok k e3 (aCanP_st k.1 v1) hsg
      have XX := y1.x (nu := nu) (mu := mu)
      rw [e1, e2] at XX
      refine hH c hc h _ _ lv XX y3 (fun e he => ?_) hJh hT hfr ?_
      · obtain ⟨j, hj⟩ := List.getElem?_of_mem he
        obtain ⟨w, w1, w2⟩ := aSt_get (j := j) (a := e.2) y4 (by rw [List.getElem?_map, hj]; rfl)
        exact ⟨w, v3 j e.1 w (by rw [List.getElem?_map, hj]; rfl) w1, w2⟩
      · cases rk with
        | none => trivial
        | some r0 =>
          simp only at hrank
          split at hrank
          · cases hrank
          · next l0 hl0 =>
            rw [Bool.and_eq_true] at hrank
            obtain ⟨h1, h2⟩ := hrank
            have hb := lSb_ok (nu := nu) _ _ hl0
            have b1 := aPr_ok k h1
            have b2 := aPr_ok k h2
            simp only at b1 b2
            rw [lS_add, lS_neg] at b1
            rw [lS_neg] at b2
            have c3 := lS_x X0 r0.1 (hrk r0 rfl)
            show 0 ≤ _ ∧ _ < _
            omega
theorem aExec_ok (hJ : nJ FT AT S J) (hW : nWv FT AT S J W) (hctx : ∀ c ∈ ctx, nV M X L xs g FT AT S J c) (hls : ∀ y, ls = some y → nu0[y]? = some (L : Int)) (hB : aX nu0 mu0 nuB muB) (hD : D0 ≤ d0) (hMk : M k0 = some mt) (hrk : ∀ r0, rk = some r0 → ∀ t ∈ r0.1, t.2 < nuB.length) (hH : aHd M X L xs g FT AT S J mf ma posts nu0 mu0 h0 cuts d0 mt (aLim nuB rk)) : ∀ (n : Nat) (s : aS) (fs : List aF) (h : List nC) (cfs : List cF) (d : Nat), aRel M FT AT S J mf ma nuB muB h0 s fs h cfs → d + (cfs.length - 1) = d0 → aExec M FT AT ctx W ls mf ma posts nu0.length mu0.length D0 k0 cuts rk n s fs = true → nG M X L xs g (aQ FT AT S J mf ma posts nu0 mu0 h0) d h cfs := by
  intro n
  induction n with
  | zero => intro s fs h cfs d hR hd hr; cases hr
  | succ n ih =>
    intro s fs h cfs d hR hd hr
    unfold aExec at hr
    split at hr
    · next pc al st hcut =>
      obtain ⟨c, hcm, hcc⟩ := List.any_eq_true.mp hr
      rw [Bool.and_eq_true] at hcc
      have hcp : c.1 = pc := by simpa using hcc.1
      unfold aCutAt at hcut
      split at hcut
      · next k pc2 al2 st2 =>
        split at hcut
        · next hk =>
          obtain ⟨hk, -⟩ := hk
          subst hk
          cases hcut
          obtain ⟨nu, mu, X0, k, hF, hJh, hT, hfr⟩ := hR
          cases cfs with
          | nil => exact hF.elim
          | cons f cr =>
            obtain ⟨⟨m1, m2, m3, m4⟩, m5⟩ := hF
            cases cr with
            | cons f2 cr => exact m5.elim
            | nil =>
              simp at hd
              subst hd
              cases hMk.symm.trans m1
              have := aHit_ok hrk hH hcm hB X0 k m3 m4 hJh hT hfr hcc.2
              simp only at m2
              rw [hcp, m2] at this
              exact this
        · cases hcut
      · cases hcut
    · split at hr
      · cases hr
      · next l hl =>
        exact aStep2_ok hB hJ hW hctx hls hR hd hD hl (fun y hy h' cfs' d' hR' hd' => ih y.1 y.2 h' cfs' d' hR' hd' (List.all_eq_true.mp hr y hy))
theorem aChk_ok (hJ : nJ FT AT S J) (hW : nWv FT AT S J W) (hctx : ∀ c ∈ ctx, nV M X L xs g FT AT S J c) {fuel : Nat} {c : nK} (hls : ∀ (nu : List Int) (mu : List Nat) (h : List nC), aOk S h nu mu c.2.2.1 → ∀ y, ls = some y → nu[y]? = some (L : Int)) (hr : aChk M FT AT ctx W ls cuts fuel c = true) : nV M X L xs g FT AT S J c := by
  intro d hd mt hM h nu mu vs hJh hT hpre hst
  have hls0 := hls nu mu h hpre
  have e1 : c.2.2.1.1.length = nu.length := hpre.1.1
  have e2 : c.2.2.1.2.1.length = mu.length := hpre.2.1.1
  unfold aChk at hr
  rw [Bool.and_eq_true] at hr
  obtain ⟨hcuts, hent⟩ := hr
  rw [e1, e2] at hcuts hent
  have heads : ∀ (R : Nat), aHd M X L xs g FT AT S J c.2.2.2.2.1 c.2.2.2.2.2.1 c.2.2.2.2.2.2 nu mu h cuts d mt (fun z => z.toNat < R) := by
    intro R
    induction R with
    | zero => intro c2 _ h2 nu2 mu2 lv2 _ _ _ _ _ _ hz; exact absurd hz (Nat.not_lt_zero _)
    | succ R ih =>
      intro c2 hc2 h2 nu2 mu2 lv2 X2 k2 l2 j2 t2 f2 hz
      have hfrom := List.all_eq_true.mp hcuts c2 hc2
      unfold aFrom at hfrom
      simp only [Bool.and_eq_true] at hfrom
      obtain ⟨⟨hin, -⟩, hst2⟩ := hfrom
      split at hst2
      · cases hst2
      · next l hl =>
        have hlen2 : c2.2.1.1.length = nu2.length := k2.1.1
        have hR : aRel M FT AT S J c.2.2.2.2.1 c.2.2.2.2.2.1 nu2 mu2 h c2.2.1 [(c.1, c2.1, c2.2.2.1, [])] h2 [(mt, c2.1, lv2, [])] := ⟨nu2, mu2, aX.rf, k2, ⟨⟨hM, rfl, l2, trivial⟩, trivial⟩, j2, t2, f2⟩
        have hrk : ∀ r0, some c2.2.2.2 = some r0 → ∀ t ∈ r0.1, t.2 < nu2.length := by
          intro r0 hr0 t ht
          cases hr0
          have := List.all_eq_true.mp hin t ht
          rw [← hlen2]
          simpa using this
        have hH : aHd M X L xs g FT AT S J c.2.2.2.2.1 c.2.2.2.2.2.1 c.2.2.2.2.2.2 nu mu h cuts d mt (aLim nu2 (some c2.2.2.2)) := by
          intro c3 hc3 h3 nu3 mu3 lv3 X3 k3 l3 j3 t3 f3 hz3
          refine ih c3 hc3 h3 nu3 mu3 lv3 X3 k3 l3 j3 t3 f3 ?_
          have hz3' : 0 ≤ lS nu3 c3.2.2.2.1 + c3.2.2.2.2 ∧ lS nu3 c3.2.2.2.1 + c3.2.2.2.2 < lS nu2 c2.2.2.2.1 + c2.2.2.2.2 := hz3
          have hz' : (lS nu2 c2.2.2.2.1 + c2.2.2.2.2).toNat < R + 1 := hz
          show (lS nu3 c3.2.2.2.1 + c3.2.2.2.2).toNat < R
          omega
        exact aStep2_ok X2 hJ hW hctx hls0 hR (by simp) hd hl (fun y hy h' cfs' d' hR' hd' => aExec_ok hJ hW hctx hls0 X2 hd hM hrk hH fuel y.1 y.2 h' cfs' d' hR' hd' (List.all_eq_true.mp hst2 y hy))
  have hHall : aHd M X L xs g FT AT S J c.2.2.2.2.1 c.2.2.2.2.2.1 c.2.2.2.2.2.2 nu mu h cuts d mt (aLim nu none) := fun c3 hc3 h3 nu3 mu3 lv3 X3 k3 l3 j3 t3 f3 _ => heads ((lS nu3 c3.2.2.2.1 + c3.2.2.2.2).toNat + 1) c3 hc3 h3 nu3 mu3 lv3 X3 k3 l3 j3 t3 f3 (Nat.lt_succ_self _)
  exact aExec_ok (rk := none) hJ hW hctx hls0 aX.rf hd hM (fun r0 hr0 => by cases hr0) hHall fuel c.2.2.1 [(c.1, 0, aArgs 0 c.2.2.2.1, [])] h [(mt, 0, lv_args 0 vs, [])] d ⟨nu, mu, aX.rf, hpre, ⟨⟨hM, rfl, aArgs_ok _ _ 0 hst, trivial⟩, trivial⟩, hJh, hT, nFr.rf⟩ (by simp) hent
end AS5
end
section
def nm_0 : nM := (⟨"SlipHeirs", "<init>", "()V"⟩, prog_1_method_1_code, 1, none, [136, 110, 135, 0], [
  (0, .aload_n 0, 0, 0, 0, 0),
  (1, .invokespecial 1, 0, 1, 4, 137),
  (4, .aload_n 0, 0, 0, 0, 0),
  (5, .new 7, 7, 141, 111, 140),
  (8, .dup, 0, 0, 0, 0),
  (9, .invokespecial 9, 1, 1, 1, 142),
  (12, .putfield 10, 8, 0, 1, 516),
  (15, .aload_n 0, 0, 0, 0, 0),
  (16, .new 16, 0, 247, 116, 246),
  (19, .dup, 0, 0, 0, 0),
  (20, .invokespecial 18, 10, 1, 3, 0),
  (23, .putfield 19, 8, 1, 1, 517),
  (26, .aload_n 0, 0, 0, 0, 0),
  (27, .new 16, 0, 247, 116, 246),
  (30, .dup, 0, 0, 0, 0),
  (31, .invokespecial 18, 10, 1, 3, 0),
  (34, .putfield 23, 8, 2, 1, 518),
  (37, .aload_n 0, 0, 0, 0, 0),
  (38, .new 26, 2, 325, 117, 324),
  (41, .dup, 0, 0, 0, 0),
  (42, .invokespecial 28, 11, 1, 3, 0),
  (45, .putfield 29, 8, 3, 1, 519),
  (48, .aload_n 0, 0, 0, 0, 0),
  (49, .new 26, 2, 325, 117, 324),
  (52, .dup, 0, 0, 0, 0),
  (53, .invokespecial 28, 11, 1, 3, 0),
  (56, .putfield 33, 8, 4, 1, 520),
  (59, .aload_n 0, 0, 0, 0, 0),
  (60, .new 36, 4, 384, 118, 383),
  (63, .dup, 0, 0, 0, 0),
  (64, .invokespecial 38, 12, 1, 3, 0),
  (67, .putfield 39, 8, 5, 1, 521),
  (70, .aload_n 0, 0, 0, 0, 0),
  (71, .new 36, 4, 384, 118, 383),
  (74, .dup, 0, 0, 0, 0),
  (75, .invokespecial 38, 12, 1, 3, 0),
  (78, .putfield 43, 8, 6, 1, 522),
  (81, .aload_n 0, 0, 0, 0, 0),
  (82, .new 46, 6, 410, 119, 409),
  (85, .dup, 0, 0, 0, 0),
  (86, .invokespecial 48, 13, 1, 3, 0),
  (89, .putfield 49, 8, 7, 1, 523),
  (92, .aload_n 0, 0, 0, 0, 0),
  (93, .new 53, 3, 434, 120, 433),
  (96, .dup, 0, 0, 0, 0),
  (97, .invokespecial 55, 14, 1, 1, 435),
  (100, .putfield 56, 8, 8, 1, 524),
  (103, .aload_n 0, 0, 0, 0, 0),
  (104, .iconst 2, 0, 0, 0, 0),
  (105, .anewarray 60, 5, 0, 0, 452),
  (108, .dup, 0, 0, 0, 0),
  (109, .iconst 0, 0, 0, 0, 0),
  (110, .new 60, 1, 454, 121, 452),
  (113, .dup, 0, 0, 0, 0),
  (114, .invokespecial 62, 15, 1, 3, 0),
  (117, .aastore, 0, 0, 0, 0),
  (118, .dup, 0, 0, 0, 0),
  (119, .iconst 1, 0, 0, 0, 0),
  (120, .new 60, 1, 454, 121, 452),
  (123, .dup, 0, 0, 0, 0),
  (124, .invokespecial 62, 15, 1, 3, 0),
  (127, .aastore, 0, 0, 0, 0),
  (128, .putfield 63, 8, 9, 1, 525),
  (131, .aload_n 0, 0, 0, 0, 0),
  (132, .new 67, 5, 483, 122, 482),
  (135, .dup, 0, 0, 0, 0),
  (136, .invokespecial 69, 16, 1, 3, 0),
  (139, .putfield 70, 8, 10, 1, 526),
  (142, .aload_n 0, 0, 0, 0, 0),
  (143, .bipush 6, 0, 0, 0, 0),
  (145, .newarray .int, 0, 0, 0, 244),
  (147, .putfield 74, 8, 11, 1, 527),
  (150, .aload_n 0, 0, 0, 0, 0),
  (151, .iconst 4, 0, 0, 0, 0),
  (152, .newarray .int, 0, 0, 0, 244),
  (154, .putfield 78, 8, 12, 1, 528),
  (157, .aload_n 0, 0, 0, 0, 0),
  (158, .iconst 0, 0, 0, 0, 0),
  (159, .putfield 81, 8, 13, 0, 529),
  (162, .aload_n 0, 0, 0, 0, 0),
  (163, .iconst 0, 0, 0, 0, 0),
  (164, .putfield 85, 8, 14, 0, 530),
  (167, .aload_n 0, 0, 0, 0, 0),
  (168, .iconst (-1), 0, 0, 0, 0),
  (169, .putfield 89, 8, 15, 0, 531),
  (172, .aload_n 0, 0, 0, 0, 0),
  (173, .ldc 92, 0, 0, (-100001), 512),
  (175, .putfield 93, 8, 16, 0, 532),
  (178, .aload_n 0, 0, 0, 0, 0),
  (179, .getfield 74, 8, 11, 0, 527),
  (182, .iconst (-1), 0, 0, 0, 0),
  (183, .invokestatic 96, 17, 2, 2, 513),
  (186, .return_, 0, 0, 0, 0)])
def nm_1 : nM := (⟨"SlipHeirs$Text", "<init>", "()V"⟩, prog_9_method_1_code, 3, none, [144, 111, 143, 0], [
  (0, .aload_n 0, 0, 0, 0, 0),
  (1, .invokespecial 3, 0, 1, 4, 145),
  (4, .aload_n 0, 0, 0, 0, 0),
  (5, .sipush 940, 0, 0, 0, 0),
  (8, .newarray .byte, 1, 0, 0, 243),
  (10, .putfield 9, 7, 0, 1, 200),
  (13, .aload_n 0, 0, 0, 0, 0),
  (14, .sipush 901, 0, 0, 0, 0),
  (17, .newarray .int, 0, 0, 0, 244),
  (19, .putfield 15, 7, 1, 1, 201),
  (22, .aload_n 0, 0, 0, 0, 0),
  (23, .sipush 901, 0, 0, 0, 0),
  (26, .newarray .int, 0, 0, 0, 244),
  (28, .putfield 19, 7, 2, 1, 202),
  (31, .aload_n 0, 0, 0, 0, 0),
  (32, .sipush 901, 0, 0, 0, 0),
  (35, .newarray .long, 3, 0, 0, 245),
  (37, .putfield 22, 7, 3, 1, 203),
  (40, .aload_n 0, 0, 0, 0, 0),
  (41, .bipush 22, 0, 0, 0, 0),
  (43, .newarray .long, 3, 0, 0, 245),
  (45, .putfield 26, 7, 4, 1, 204),
  (48, .aload_n 0, 0, 0, 0, 0),
  (49, .iconst 0, 0, 0, 0, 0),
  (50, .putfield 29, 7, 5, 0, 205),
  (53, .aload_n 0, 0, 0, 0, 0),
  (54, .iconst 0, 0, 0, 0, 0),
  (55, .putfield 33, 7, 6, 0, 207),
  (58, .aload_n 0, 0, 0, 0, 0),
  (59, .iconst 0, 0, 0, 0, 0),
  (60, .putfield 36, 7, 7, 0, 208),
  (63, .aload_n 0, 0, 0, 0, 0),
  (64, .iconst 0, 0, 0, 0, 0),
  (65, .putfield 39, 7, 8, 0, 209),
  (68, .aload_n 0, 0, 0, 0, 0),
  (69, .iconst 0, 0, 0, 0, 0),
  (70, .putfield 42, 7, 9, 0, 213),
  (73, .aload_n 0, 0, 0, 0, 0),
  (74, .iconst 0, 0, 0, 0, 0),
  (75, .putfield 46, 7, 10, 0, 214),
  (78, .aload_n 0, 0, 0, 0, 0),
  (79, .iconst 0, 0, 0, 0, 0),
  (80, .putfield 49, 7, 11, 0, 216),
  (83, .iconst 0, 0, 0, 0, 0),
  (84, .istore_n 1, 0, 0, 0, 0),
  (85, .iconst 0, 0, 0, 0, 0),
  (86, .istore_n 2, 0, 0, 0, 0),
  (87, .iload_n 2, 0, 0, 0, 0),
  (88, .ldc 52, 0, 1, 0, 0),
  (90, .invokevirtual 54, 2, 1, 0, 147),
  (93, .if_icmp .ge 53, 0, 0, 0, 0),
  (96, .ldc 52, 0, 1, 0, 0),
  (98, .iload_n 2, 0, 0, 0, 0),
  (99, .invokevirtual 59, 4, 2, 0, 157),
  (102, .bipush 32, 0, 0, 0, 0),
  (104, .if_icmp .ne 9, 0, 0, 0, 0),
  (107, .iinc 1 1, 0, 0, 0, 0),
  (110, .goto 30, 0, 0, 0, 0),
  (113, .iload_n 1, 0, 0, 0, 0),
  (114, .bipush 22, 0, 0, 0, 0),
  (116, .if_icmp .ge 24, 0, 0, 0, 0),
  (119, .aload_n 0, 0, 0, 0, 0),
  (120, .getfield 26, 7, 4, 0, 204),
  (123, .iload_n 1, 0, 0, 0, 0),
  (124, .aload_n 0, 0, 0, 0, 0),
  (125, .getfield 26, 7, 4, 0, 204),
  (128, .iload_n 1, 0, 0, 0, 0),
  (129, .laload, 0, 0, 0, 0),
  (130, .ldc 52, 0, 1, 0, 0),
  (132, .iload_n 2, 0, 0, 0, 0),
  (133, .invokevirtual 59, 4, 2, 0, 157),
  (136, .invokestatic 63, 9, 2, 2, 195),
  (139, .lastore, 0, 0, 0, 0),
  (140, .iinc 2 1, 0, 0, 0, 0),
  (143, .goto (-56), 0, 0, 0, 0),
  (146, .return_, 0, 0, 0, 0)])
def nm_2 : nM := (⟨"java/lang/String", "length", "()I"⟩, prog_19_method_54_code, 1, some .int, [150, 112, 148, 149], [
  (0, .aload_n 0, 0, 0, 0, 0),
  (1, .getfield 9, 100, 1, 0, 1859),
  (4, .arraylength, 0, 0, 0, 0),
  (5, .aload_n 0, 0, 0, 0, 0),
  (6, .invokevirtual 335, 3, 1, 0, 151),
  (9, .ishr, 0, 0, 0, 0),
  (10, .ireturn, 0, 0, 0, 0)])
def nm_3 : nM := (⟨"java/lang/String", "coder", "()B"⟩, prog_19_method_152_code, 1, some .byte, [154, 112, 152, 153], [
  (0, .getstatic 38, 1, 0, 0, 155),
  (3, .ifCond .eq 10, 0, 0, 0, 0),
  (6, .aload_n 0, 0, 0, 0, 0),
  (7, .getfield 15, 100, 0, 0, 1860),
  (10, .goto 4, 0, 0, 0, 0),
  (13, .iconst 1, 0, 0, 0, 0),
  (14, .ireturn, 0, 0, 0, 0)])
def nm_4 : nM := (⟨"java/lang/String", "charAt", "(I)C"⟩, prog_19_method_56_code, 2, some .char, [160, 112, 158, 159], [
  (0, .aload_n 0, 0, 0, 0, 0),
  (1, .invokevirtual 492, 5, 1, 0, 161),
  (4, .ifCond .eq 12, 0, 0, 0, 0),
  (7, .aload_n 0, 0, 0, 0, 0),
  (8, .getfield 9, 100, 1, 0, 1859),
  (11, .iload_n 1, 0, 0, 0, 0),
  (12, .invokestatic 495, 6, 2, 2, 165),
  (15, .ireturn, 0, 0, 0, 0),
  (16, .aload_n 0, 0, 0, 0, 0),
  (17, .getfield 9, 100, 1, 0, 1859),
  (20, .iload_n 1, 0, 0, 0, 0),
  (24, .ireturn, 0, 0, 0, 0)])
def nm_5 : nM := (⟨"java/lang/String", "isLatin1", "()Z"⟩, prog_19_method_154_code, 1, some .boolean, [164, 112, 162, 163], [
  (0, .getstatic 38, 1, 0, 0, 155),
  (3, .ifCond .eq 14, 0, 0, 0, 0),
  (6, .aload_n 0, 0, 0, 0, 0),
  (7, .getfield 15, 100, 0, 0, 1860),
  (10, .ifCond .ne 7, 0, 0, 0, 0),
  (13, .iconst 1, 0, 0, 0, 0),
  (14, .goto 4, 0, 0, 0, 0),
  (17, .iconst 0, 0, 0, 0, 0),
  (18, .ireturn, 0, 0, 0, 0)])
def nm_6 : nM := (⟨"java/lang/StringLatin1", "charAt", "([BI)C"⟩, prog_20_method_2_code, 2, some .char, [167, 113, 166, 0], [
  (0, .iload_n 1, 0, 0, 0, 0),
  (1, .aload_n 0, 0, 0, 0, 0),
  (2, .arraylength, 0, 0, 0, 0),
  (3, .invokestatic 9, 7, 2, 2, 168),
  (6, .aload_n 0, 0, 0, 0, 0),
  (7, .iload_n 1, 0, 0, 0, 0),
  (8, .baload, 0, 0, 0, 0),
  (9, .sipush 255, 0, 0, 0, 0),
  (12, .iand, 0, 0, 0, 0),
  (13, .i2c, 0, 0, 0, 0),
  (14, .ireturn, 0, 0, 0, 0)])
def nm_7 : nM := (⟨"java/lang/String", "checkIndex", "(II)V"⟩, prog_19_method_155_code, 2, none, [170, 112, 169, 0], [
  (0, .iload_n 0, 0, 0, 0, 0),
  (1, .iload_n 1, 0, 0, 0, 0),
  (2, .getstatic 1053, 2, 0, 0, 171),
  (5, .invokestatic 1059, 8, 3, 2, 173),
  (8, .pop, 0, 0, 0, 0),
  (9, .return_, 0, 0, 0, 0)])
def nm_8 : nM := (⟨"jdk/internal/util/Preconditions", "checkIndex", "(IILjava/util/function/BiFunction;)I"⟩, prog_28_method_11_code, 3, some .int, [175, 114, 174, 0], [
  (0, .iload_n 0, 0, 0, 0, 0),
  (1, .ifCond .lt 8, 0, 0, 0, 0),
  (4, .iload_n 0, 0, 0, 0, 0),
  (5, .iload_n 1, 0, 0, 0, 0),
  (6, .if_icmp .lt 10, 0, 0, 0, 0),
  (9, .aload_n 2, 0, 0, 0, 0),
  (10, .iload_n 0, 0, 0, 0, 0),
  (11, .iload_n 1, 0, 0, 0, 0),
  (16, .iload_n 0, 0, 0, 0, 0),
  (17, .ireturn, 0, 0, 0, 0)])
def nm_9 : nM := (⟨"SlipHeirs$Text", "withLetter", "(JI)J"⟩, prog_9_method_2_code, 3, some .long, [197, 111, 196, 0], [
  (0, .lload_n 0, 0, 0, 0, 0),
  (1, .ldc2_w 67, 0, 0, 32, 198),
  (4, .lmul, 0, 0, 0, 0),
  (5, .iload_n 2, 0, 0, 0, 0),
  (6, .i2l, 0, 0, 0, 0),
  (7, .ladd, 0, 0, 0, 0),
  (8, .ldc2_w 69, 0, 0, 97, 199),
  (11, .lsub, 0, 0, 0, 0),
  (12, .lconst 1, 0, 0, 0, 0),
  (13, .ladd, 0, 0, 0, 0),
  (14, .lreturn, 0, 0, 0, 0)])
def nm_10 : nM := (⟨"SlipHeirs$Family", "<init>", "()V"⟩, prog_2_method_1_code, 1, none, [250, 116, 249, 0], [
  (0, .aload_n 0, 0, 0, 0, 0),
  (1, .invokespecial 3, 0, 1, 4, 251),
  (4, .aload_n 0, 0, 0, 0, 0),
  (5, .iconst 4, 0, 0, 0, 0),
  (6, .newarray .int, 0, 0, 0, 244),
  (8, .putfield 9, 0, 0, 1, 252),
  (11, .aload_n 0, 0, 0, 0, 0),
  (12, .bipush 26, 0, 0, 0, 0),
  (14, .newarray .long, 3, 0, 0, 245),
  (16, .putfield 15, 0, 1, 1, 257),
  (19, .aload_n 0, 0, 0, 0, 0),
  (20, .bipush 10, 0, 0, 0, 0),
  (22, .newarray .int, 0, 0, 0, 244),
  (24, .putfield 19, 0, 2, 1, 258),
  (27, .aload_n 0, 0, 0, 0, 0),
  (28, .bipush 10, 0, 0, 0, 0),
  (30, .newarray .int, 0, 0, 0, 244),
  (32, .putfield 22, 0, 3, 1, 261),
  (35, .aload_n 0, 0, 0, 0, 0),
  (36, .bipush 10, 0, 0, 0, 0),
  (38, .newarray .int, 0, 0, 0, 244),
  (40, .putfield 25, 0, 4, 1, 263),
  (43, .aload_n 0, 0, 0, 0, 0),
  (44, .bipush 10, 0, 0, 0, 0),
  (46, .newarray .int, 0, 0, 0, 244),
  (48, .putfield 28, 0, 5, 1, 266),
  (51, .aload_n 0, 0, 0, 0, 0),
  (52, .bipush 6, 0, 0, 0, 0),
  (54, .newarray .int, 0, 0, 0, 244),
  (56, .putfield 31, 0, 6, 1, 269),
  (59, .aload_n 0, 0, 0, 0, 0),
  (60, .bipush 6, 0, 0, 0, 0),
  (62, .newarray .int, 0, 0, 0, 244),
  (64, .putfield 34, 0, 7, 1, 272),
  (67, .aload_n 0, 0, 0, 0, 0),
  (68, .bipush 6, 0, 0, 0, 0),
  (70, .newarray .int, 0, 0, 0, 244),
  (72, .putfield 37, 0, 8, 1, 274),
  (75, .aload_n 0, 0, 0, 0, 0),
  (76, .bipush 6, 0, 0, 0, 0),
  (78, .newarray .int, 0, 0, 0, 244),
  (80, .putfield 40, 0, 9, 1, 276),
  (83, .aload_n 0, 0, 0, 0, 0),
  (84, .bipush 6, 0, 0, 0, 0),
  (86, .newarray .int, 0, 0, 0, 244),
  (88, .putfield 43, 0, 10, 1, 278),
  (91, .aload_n 0, 0, 0, 0, 0),
  (92, .bipush 6, 0, 0, 0, 0),
  (94, .newarray .int, 0, 0, 0, 244),
  (96, .putfield 46, 0, 11, 1, 281),
  (99, .aload_n 0, 0, 0, 0, 0),
  (100, .iconst 4, 0, 0, 0, 0),
  (101, .newarray .int, 0, 0, 0, 244),
  (103, .putfield 49, 0, 12, 1, 284),
  (106, .aload_n 0, 0, 0, 0, 0),
  (107, .bipush 48, 0, 0, 0, 0),
  (109, .newarray .int, 0, 0, 0, 244),
  (111, .putfield 52, 0, 13, 1, 287),
  (114, .aload_n 0, 0, 0, 0, 0),
  (115, .iconst 0, 0, 0, 0, 0),
  (116, .putfield 55, 0, 14, 0, 288),
  (119, .aload_n 0, 0, 0, 0, 0),
  (120, .iconst 0, 0, 0, 0, 0),
  (121, .putfield 59, 0, 15, 0, 289),
  (124, .return_, 0, 0, 0, 0)])
def nm_11 : nM := (⟨"SlipHeirs$Life", "<init>", "()V"⟩, prog_4_method_1_code, 1, none, [328, 117, 327, 0], [
  (0, .aload_n 0, 0, 0, 0, 0),
  (1, .invokespecial 3, 0, 1, 4, 329),
  (4, .aload_n 0, 0, 0, 0, 0),
  (5, .bipush 6, 0, 0, 0, 0),
  (7, .newarray .int, 0, 0, 0, 244),
  (9, .putfield 9, 2, 0, 1, 330),
  (12, .aload_n 0, 0, 0, 0, 0),
  (13, .bipush 6, 0, 0, 0, 0),
  (15, .newarray .int, 0, 0, 0, 244),
  (17, .putfield 15, 2, 1, 1, 334),
  (20, .aload_n 0, 0, 0, 0, 0),
  (21, .bipush 6, 0, 0, 0, 0),
  (23, .newarray .int, 0, 0, 0, 244),
  (25, .putfield 18, 2, 2, 1, 337),
  (28, .aload_n 0, 0, 0, 0, 0),
  (29, .bipush 10, 0, 0, 0, 0),
  (31, .newarray .int, 0, 0, 0, 244),
  (33, .putfield 21, 2, 3, 1, 339),
  (36, .aload_n 0, 0, 0, 0, 0),
  (37, .bipush 12, 0, 0, 0, 0),
  (39, .newarray .int, 0, 0, 0, 244),
  (41, .putfield 24, 2, 4, 1, 342),
  (44, .aload_n 0, 0, 0, 0, 0),
  (45, .iconst 0, 0, 0, 0, 0),
  (46, .putfield 27, 2, 5, 0, 343),
  (49, .aload_n 0, 0, 0, 0, 0),
  (50, .sipush 300, 0, 0, 0, 0),
  (53, .putfield 31, 2, 6, 0, 345),
  (56, .aload_n 0, 0, 0, 0, 0),
  (57, .sipush 1000, 0, 0, 0, 0),
  (60, .putfield 34, 2, 7, 0, 348),
  (63, .aload_n 0, 0, 0, 0, 0),
  (64, .iconst 0, 0, 0, 0, 0),
  (65, .putfield 37, 2, 8, 0, 350),
  (68, .aload_n 0, 0, 0, 0, 0),
  (69, .iconst 0, 0, 0, 0, 0),
  (70, .putfield 40, 2, 9, 0, 352),
  (73, .aload_n 0, 0, 0, 0, 0),
  (74, .iconst 0, 0, 0, 0, 0),
  (75, .putfield 43, 2, 10, 0, 354),
  (78, .aload_n 0, 0, 0, 0, 0),
  (79, .iconst (-1), 0, 0, 0, 0),
  (80, .putfield 46, 2, 11, 0, 356),
  (83, .return_, 0, 0, 0, 0)])
def nm_12 : nM := (⟨"SlipHeirs$Phrase", "<init>", "()V"⟩, prog_6_method_1_code, 1, none, [387, 118, 386, 0], [
  (0, .aload_n 0, 0, 0, 0, 0),
  (1, .invokespecial 3, 0, 1, 4, 388),
  (4, .aload_n 0, 0, 0, 0, 0),
  (5, .bipush 40, 0, 0, 0, 0),
  (7, .newarray .int, 0, 0, 0, 244),
  (9, .putfield 9, 4, 0, 1, 389),
  (12, .aload_n 0, 0, 0, 0, 0),
  (13, .bipush 40, 0, 0, 0, 0),
  (15, .newarray .int, 0, 0, 0, 244),
  (17, .putfield 15, 4, 1, 1, 390),
  (20, .aload_n 0, 0, 0, 0, 0),
  (21, .bipush 40, 0, 0, 0, 0),
  (23, .newarray .int, 0, 0, 0, 244),
  (25, .putfield 18, 4, 2, 1, 391),
  (28, .aload_n 0, 0, 0, 0, 0),
  (29, .bipush 40, 0, 0, 0, 0),
  (31, .newarray .int, 0, 0, 0, 244),
  (33, .putfield 21, 4, 3, 1, 392),
  (36, .aload_n 0, 0, 0, 0, 0),
  (37, .iconst 0, 0, 0, 0, 0),
  (38, .putfield 24, 4, 4, 0, 393),
  (41, .aload_n 0, 0, 0, 0, 0),
  (42, .iconst 0, 0, 0, 0, 0),
  (43, .putfield 28, 4, 5, 0, 394),
  (46, .return_, 0, 0, 0, 0)])
def nm_13 : nM := (⟨"SlipHeirs$Script", "<init>", "()V"⟩, prog_8_method_1_code, 1, none, [413, 119, 412, 0], [
  (0, .aload_n 0, 0, 0, 0, 0),
  (1, .invokespecial 3, 0, 1, 4, 414),
  (4, .aload_n 0, 0, 0, 0, 0),
  (5, .bipush 40, 0, 0, 0, 0),
  (7, .newarray .int, 0, 0, 0, 244),
  (9, .putfield 9, 6, 0, 1, 415),
  (12, .aload_n 0, 0, 0, 0, 0),
  (13, .bipush 40, 0, 0, 0, 0),
  (15, .newarray .int, 0, 0, 0, 244),
  (17, .putfield 15, 6, 1, 1, 416),
  (20, .aload_n 0, 0, 0, 0, 0),
  (21, .bipush 40, 0, 0, 0, 0),
  (23, .newarray .int, 0, 0, 0, 244),
  (25, .putfield 18, 6, 2, 1, 417),
  (28, .aload_n 0, 0, 0, 0, 0),
  (29, .iconst 0, 0, 0, 0, 0),
  (30, .putfield 21, 6, 3, 0, 418),
  (33, .aload_n 0, 0, 0, 0, 0),
  (34, .iconst 0, 0, 0, 0, 0),
  (35, .putfield 25, 6, 4, 0, 420),
  (38, .return_, 0, 0, 0, 0)])
def nm_14 : nM := (⟨"SlipHeirs$Past", "<init>", "()V"⟩, prog_5_method_1_code, 2, none, [437, 120, 436, 0], [
  (0, .aload_n 0, 0, 0, 0, 0),
  (1, .invokespecial 3, 0, 1, 4, 438),
  (4, .aload_n 0, 0, 0, 0, 0),
  (5, .bipush 8, 0, 0, 0, 0),
  (7, .anewarray 9, 4, 0, 0, 439),
  (10, .putfield 11, 3, 0, 1, 442),
  (13, .aload_n 0, 0, 0, 0, 0),
  (14, .iconst 0, 0, 0, 0, 0),
  (15, .putfield 17, 3, 1, 0, 443),
  (18, .aload_n 0, 0, 0, 0, 0),
  (19, .iconst 0, 0, 0, 0, 0),
  (20, .putfield 21, 3, 2, 0, 444),
  (23, .iconst 0, 0, 0, 0, 0),
  (24, .istore_n 1, 0, 0, 0, 0),
  (25, .iload_n 1, 0, 0, 0, 0),
  (26, .bipush 8, 0, 0, 0, 0),
  (28, .if_icmp .ge 22, 0, 0, 0, 0),
  (31, .aload_n 0, 0, 0, 0, 0),
  (32, .getfield 11, 3, 0, 0, 442),
  (35, .iload_n 1, 0, 0, 0, 0),
  (36, .new 9, 2, 325, 117, 439),
  (39, .dup, 0, 0, 0, 0),
  (40, .invokespecial 24, 11, 1, 3, 0),
  (43, .aastore, 0, 0, 0, 0),
  (44, .iinc 1 1, 0, 0, 0, 0),
  (47, .goto (-22), 0, 0, 0, 0),
  (50, .return_, 0, 0, 0, 0)])
def nm_15 : nM := (⟨"SlipHeirs$Image", "<init>", "()V"⟩, prog_3_method_1_code, 1, none, [457, 121, 456, 0], [
  (0, .aload_n 0, 0, 0, 0, 0),
  (1, .invokespecial 1, 0, 1, 4, 458),
  (4, .aload_n 0, 0, 0, 0, 0),
  (5, .new 7, 0, 247, 116, 459),
  (8, .dup, 0, 0, 0, 0),
  (9, .invokespecial 9, 10, 1, 3, 0),
  (12, .putfield 10, 1, 0, 1, 465),
  (15, .aload_n 0, 0, 0, 0, 0),
  (16, .new 16, 2, 325, 117, 461),
  (19, .dup, 0, 0, 0, 0),
  (20, .invokespecial 18, 11, 1, 3, 0),
  (23, .putfield 19, 1, 1, 1, 467),
  (26, .aload_n 0, 0, 0, 0, 0),
  (27, .new 23, 4, 384, 118, 463),
  (30, .dup, 0, 0, 0, 0),
  (31, .invokespecial 25, 12, 1, 3, 0),
  (34, .putfield 26, 1, 2, 1, 469),
  (37, .aload_n 0, 0, 0, 0, 0),
  (38, .iconst 0, 0, 0, 0, 0),
  (39, .putfield 30, 1, 3, 0, 471),
  (42, .return_, 0, 0, 0, 0)])
def nm_16 : nM := (⟨"SlipHeirs$Planner", "<init>", "()V"⟩, prog_7_method_1_code, 1, none, [486, 122, 485, 0], [
  (0, .aload_n 0, 0, 0, 0, 0),
  (1, .invokespecial 3, 0, 1, 4, 487),
  (4, .aload_n 0, 0, 0, 0, 0),
  (5, .bipush 6, 0, 0, 0, 0),
  (7, .newarray .int, 0, 0, 0, 244),
  (9, .putfield 9, 5, 0, 1, 488),
  (12, .aload_n 0, 0, 0, 0, 0),
  (13, .bipush 6, 0, 0, 0, 0),
  (15, .newarray .int, 0, 0, 0, 244),
  (17, .putfield 15, 5, 1, 1, 489),
  (20, .aload_n 0, 0, 0, 0, 0),
  (21, .bipush 6, 0, 0, 0, 0),
  (23, .newarray .int, 0, 0, 0, 244),
  (25, .putfield 18, 5, 2, 1, 490),
  (28, .aload_n 0, 0, 0, 0, 0),
  (29, .bipush 6, 0, 0, 0, 0),
  (31, .newarray .int, 0, 0, 0, 244),
  (33, .putfield 21, 5, 3, 1, 491),
  (36, .aload_n 0, 0, 0, 0, 0),
  (37, .iconst 0, 0, 0, 0, 0),
  (38, .putfield 24, 5, 4, 0, 493),
  (41, .aload_n 0, 0, 0, 0, 0),
  (42, .iconst 0, 0, 0, 0, 0),
  (43, .putfield 28, 5, 5, 0, 495),
  (46, .aload_n 0, 0, 0, 0, 0),
  (47, .iconst 0, 0, 0, 0, 0),
  (48, .putfield 31, 5, 6, 0, 496),
  (51, .return_, 0, 0, 0, 0)])
def nm_17 : nM := (⟨"java/util/Arrays", "fill", "([II)V"⟩, prog_26_method_103_code, 4, none, [515, 123, 514, 0], [
  (0, .iconst 0, 0, 0, 0, 0),
  (1, .istore_n 2, 0, 0, 0, 0),
  (2, .aload_n 0, 0, 0, 0, 0),
  (3, .arraylength, 0, 0, 0, 0),
  (4, .istore_n 3, 0, 0, 0, 0),
  (5, .iload_n 2, 0, 0, 0, 0),
  (6, .iload_n 3, 0, 0, 0, 0),
  (7, .if_icmp .ge 13, 0, 0, 0, 0),
  (10, .aload_n 0, 0, 0, 0, 0),
  (11, .iload_n 2, 0, 0, 0, 0),
  (12, .iload_n 1, 0, 0, 0, 0),
  (13, .iastore, 0, 0, 0, 0),
  (14, .iinc 2 1, 0, 0, 0, 0),
  (17, .goto (-12), 0, 0, 0, 0),
  (20, .return_, 0, 0, 0, 0)])
def nm_18 : nM := (⟨"SlipHeirs", "feed", "(IIIII)I"⟩, prog_1_method_2_code, 6, some .int, [571, 110, 569, 570], [
  (0, .aload_n 0, 0, 0, 0, 0),
  (1, .getfield 10, 8, 0, 0, 516),
  (4, .getfield 102, 7, 5, 0, 206),
  (7, .bipush 20, 0, 0, 0, 0),
  (9, .iadd, 0, 0, 0, 0),
  (10, .sipush 940, 0, 0, 0, 0),
  (13, .if_icmp .le 5, 0, 0, 0, 0),
  (16, .iconst (-1), 0, 0, 0, 0),
  (17, .ireturn, 0, 0, 0, 0),
  (18, .aload_n 0, 0, 0, 0, 0),
  (19, .getfield 10, 8, 0, 0, 516),
  (22, .iload_n 1, 0, 0, 0, 0),
  (23, .invokevirtual 105, 19, 2, 0, 572),
  (26, .aload_n 0, 0, 0, 0, 0),
  (27, .getfield 10, 8, 0, 0, 516),
  (30, .iload_n 2, 0, 0, 0, 0),
  (31, .invokevirtual 105, 19, 2, 0, 572),
  (34, .aload_n 0, 0, 0, 0, 0),
  (35, .getfield 10, 8, 0, 0, 516),
  (38, .iload_n 3, 0, 0, 0, 0),
  (39, .invokevirtual 105, 19, 2, 0, 572),
  (42, .aload_n 0, 0, 0, 0, 0),
  (43, .getfield 10, 8, 0, 0, 516),
  (46, .iload 4, 0, 0, 0, 0),
  (48, .invokevirtual 105, 19, 2, 0, 572),
  (51, .aload_n 0, 0, 0, 0, 0),
  (52, .getfield 10, 8, 0, 0, 516),
  (55, .iload 5, 0, 0, 0, 0),
  (57, .invokevirtual 105, 19, 2, 0, 572),
  (60, .aload_n 0, 0, 0, 0, 0),
  (61, .getfield 10, 8, 0, 0, 516),
  (64, .getfield 102, 7, 5, 0, 206),
  (67, .ireturn, 0, 0, 0, 0)])
def nm_19 : nM := (⟨"SlipHeirs$Text", "put", "(I)V"⟩, prog_9_method_5_code, 3, none, [575, 111, 573, 574], [
  (0, .bipush 24, 0, 0, 0, 0),
  (2, .istore_n 2, 0, 0, 0, 0),
  (3, .iload_n 2, 0, 0, 0, 0),
  (4, .ifCond .lt 42, 0, 0, 0, 0),
  (7, .aload_n 0, 0, 0, 0, 0),
  (8, .getfield 29, 7, 5, 0, 205),
  (11, .sipush 940, 0, 0, 0, 0),
  (14, .if_icmp .ge 32, 0, 0, 0, 0),
  (17, .aload_n 0, 0, 0, 0, 0),
  (18, .getfield 9, 7, 0, 0, 200),
  (21, .aload_n 0, 0, 0, 0, 0),
  (22, .getfield 29, 7, 5, 0, 205),
  (25, .iload_n 1, 0, 0, 0, 0),
  (26, .iload_n 2, 0, 0, 0, 0),
  (27, .ishr, 0, 0, 0, 0),
  (28, .i2b, 0, 0, 0, 0),
  (29, .bastore, 0, 0, 0, 0),
  (30, .aload_n 0, 0, 0, 0, 0),
  (31, .dup, 0, 0, 0, 0),
  (32, .getfield 29, 7, 5, 0, 205),
  (35, .iconst 1, 0, 0, 0, 0),
  (36, .iadd, 0, 0, 0, 0),
  (37, .putfield 29, 7, 5, 0, 205),
  (40, .iinc 2 (-8), 0, 0, 0, 0),
  (43, .goto (-40), 0, 0, 0, 0),
  (46, .return_, 0, 0, 0, 0)])
def nm_20 : nM := (⟨"SlipHeirs", "end", "(I)Z"⟩, prog_1_method_3_code, 2, some .boolean, [579, 110, 577, 578], [
  (0, .iload_n 1, 0, 0, 0, 0),
  (1, .ifCond .lt 14, 0, 0, 0, 0),
  (4, .iload_n 1, 0, 0, 0, 0),
  (5, .aload_n 0, 0, 0, 0, 0),
  (6, .getfield 10, 8, 0, 0, 516),
  (9, .getfield 102, 7, 5, 0, 206),
  (12, .if_icmp .le 5, 0, 0, 0, 0),
  (15, .iconst 0, 0, 0, 0, 0),
  (16, .ireturn, 0, 0, 0, 0),
  (17, .aload_n 0, 0, 0, 0, 0),
  (18, .getfield 10, 8, 0, 0, 516),
  (21, .iload_n 1, 0, 0, 0, 0),
  (22, .putfield 102, 7, 5, 0, 206),
  (25, .iconst 1, 0, 0, 0, 0),
  (26, .ireturn, 0, 0, 0, 0)])
def nm_21 : nM := (⟨"SlipHeirs", "family", "()I"⟩, prog_1_method_4_code, 2, some .int, [583, 110, 581, 582], [
  (0, .aload_n 0, 0, 0, 0, 0),
  (1, .getfield 23, 8, 2, 0, 518),
  (4, .aload_n 0, 0, 0, 0, 0),
  (5, .getfield 10, 8, 0, 0, 516),
  (8, .invokevirtual 109, 22, 2, 0, 584),
  (11, .istore_n 1, 0, 0, 0, 0),
  (12, .aload_n 0, 0, 0, 0, 0),
  (13, .invokevirtual 113, 48, 1, 0, 693),
  (16, .iload_n 1, 0, 0, 0, 0),
  (17, .ifCond .ne 13, 0, 0, 0, 0),
  (20, .iconst (-1), 0, 0, 0, 0),
  (21, .aload_n 0, 0, 0, 0, 0),
  (22, .getfield 10, 8, 0, 0, 516),
  (25, .getfield 116, 7, 11, 0, 217),
  (28, .isub, 0, 0, 0, 0),
  (29, .ireturn, 0, 0, 0, 0),
  (30, .aload_n 0, 0, 0, 0, 0),
  (31, .getfield 19, 8, 1, 0, 517),
  (34, .aload_n 0, 0, 0, 0, 0),
  (35, .getfield 23, 8, 2, 0, 518),
  (38, .invokevirtual 119, 49, 2, 0, 697),
  (41, .aload_n 0, 0, 0, 0, 0),
  (42, .getfield 29, 8, 3, 0, 519),
  (45, .aload_n 0, 0, 0, 0, 0),
  (46, .getfield 19, 8, 1, 0, 517),
  (49, .invokevirtual 123, 50, 2, 0, 704),
  (52, .aload_n 0, 0, 0, 0, 0),
  (53, .getfield 39, 8, 5, 0, 521),
  (56, .invokevirtual 126, 51, 1, 0, 710),
  (59, .aload_n 0, 0, 0, 0, 0),
  (60, .getfield 56, 8, 8, 0, 524),
  (63, .invokevirtual 129, 52, 1, 0, 714),
  (66, .aload_n 0, 0, 0, 0, 0),
  (67, .getfield 19, 8, 1, 0, 517),
  (70, .getfield 130, 0, 15, 0, 290),
  (73, .ireturn, 0, 0, 0, 0)])
def nm_22 : nM := (⟨"SlipHeirs$Family", "read", "(LSlipHeirs$Text;)Z"⟩, prog_2_method_3_code, 3, some .boolean, [587, 116, 585, 586], [
  (0, .aload_n 0, 0, 0, 0, 0),
  (1, .getfield 9, 0, 0, 0, 252),
  (4, .iconst 0, 0, 0, 0, 0),
  (5, .invokestatic 68, 17, 2, 2, 588),
  (8, .aload_n 0, 0, 0, 0, 0),
  (9, .getfield 15, 0, 1, 0, 257),
  (12, .lconst 0, 0, 0, 0, 0),
  (13, .invokestatic 74, 23, 2, 2, 589),
  (16, .aload_n 0, 0, 0, 0, 0),
  (17, .getfield 22, 0, 3, 0, 261),
  (20, .iconst (-1), 0, 0, 0, 0),
  (21, .invokestatic 68, 17, 2, 2, 588),
  (24, .aload_n 0, 0, 0, 0, 0),
  (25, .getfield 25, 0, 4, 0, 263),
  (28, .iconst (-1), 0, 0, 0, 0),
  (29, .invokestatic 68, 17, 2, 2, 588),
  (32, .aload_n 0, 0, 0, 0, 0),
  (33, .getfield 28, 0, 5, 0, 266),
  (36, .iconst 1, 0, 0, 0, 0),
  (37, .invokestatic 68, 17, 2, 2, 588),
  (40, .aload_n 0, 0, 0, 0, 0),
  (41, .iconst 0, 0, 0, 0, 0),
  (42, .putfield 55, 0, 14, 0, 288),
  (45, .aload_n 0, 0, 0, 0, 0),
  (46, .iconst 0, 0, 0, 0, 0),
  (47, .putfield 59, 0, 15, 0, 289),
  (50, .aload_n 1, 0, 0, 0, 0),
  (51, .sipush 900, 0, 0, 0, 0),
  (54, .invokevirtual 77, 24, 2, 0, 592),
  (57, .iconst 0, 0, 0, 0, 0),
  (58, .istore_n 2, 0, 0, 0, 0),
  (59, .iload_n 2, 0, 0, 0, 0),
  (60, .sipush 900, 0, 0, 0, 0),
  (63, .if_icmp .ge 45, 0, 0, 0, 0),
  (66, .aload_n 1, 0, 0, 0, 0),
  (67, .invokevirtual 83, 31, 1, 0, 621),
  (70, .ifCond .eq 38, 0, 0, 0, 0),
  (73, .aload_n 0, 0, 0, 0, 0),
  (74, .aload_n 1, 0, 0, 0, 0),
  (75, .invokevirtual 87, 32, 2, 0, 625),
  (78, .ifCond .eq 12, 0, 0, 0, 0),
  (81, .aload_n 1, 0, 0, 0, 0),
  (82, .bipush 59, 0, 0, 0, 0),
  (84, .invokevirtual 91, 46, 2, 0, 685),
  (87, .ifCond .ne 5, 0, 0, 0, 0),
  (90, .iconst 0, 0, 0, 0, 0),
  (91, .ireturn, 0, 0, 0, 0),
  (92, .aload_n 0, 0, 0, 0, 0),
  (93, .dup, 0, 0, 0, 0),
  (94, .getfield 59, 0, 15, 0, 289),
  (97, .iconst 1, 0, 0, 0, 0),
  (98, .iadd, 0, 0, 0, 0),
  (99, .putfield 59, 0, 15, 0, 289),
  (102, .iinc 2 1, 0, 0, 0, 0),
  (105, .goto (-46), 0, 0, 0, 0),
  (108, .aload_n 1, 0, 0, 0, 0),
  (109, .invokevirtual 95, 47, 1, 0, 689),
  (112, .ireturn, 0, 0, 0, 0)])
def nm_23 : nM := (⟨"java/util/Arrays", "fill", "([JJ)V"⟩, prog_26_method_101_code, 5, none, [591, 123, 590, 0], [
  (0, .iconst 0, 0, 0, 0, 0),
  (1, .istore_n 3, 0, 0, 0, 0),
  (2, .aload_n 0, 0, 0, 0, 0),
  (3, .arraylength, 0, 0, 0, 0),
  (4, .istore 4, 0, 0, 0, 0),
  (6, .iload_n 3, 0, 0, 0, 0),
  (7, .iload 4, 0, 0, 0, 0),
  (9, .if_icmp .ge 13, 0, 0, 0, 0),
  (12, .aload_n 0, 0, 0, 0, 0),
  (13, .iload_n 3, 0, 0, 0, 0),
  (14, .lload_n 1, 0, 0, 0, 0),
  (15, .lastore, 0, 0, 0, 0),
  (16, .iinc 3 1, 0, 0, 0, 0),
  (19, .goto (-13), 0, 0, 0, 0),
  (22, .return_, 0, 0, 0, 0)])
def nm_24 : nM := (⟨"SlipHeirs$Text", "open", "(I)V"⟩, prog_9_method_8_code, 5, none, [595, 111, 593, 594], [
  (0, .aload_n 0, 0, 0, 0, 0),
  (1, .getfield 29, 7, 5, 0, 205),
  (4, .iload_n 1, 0, 0, 0, 0),
  (5, .invokestatic 71, 0, 2, 7, 596),
  (8, .istore_n 2, 0, 0, 0, 0),
  (9, .iconst 0, 0, 0, 0, 0),
  (10, .istore_n 3, 0, 0, 0, 0),
  (11, .aload_n 0, 0, 0, 0, 0),
  (12, .iconst 0, 0, 0, 0, 0),
  (13, .putfield 33, 7, 6, 0, 207),
  (16, .iconst 0, 0, 0, 0, 0),
  (17, .istore 4, 0, 0, 0, 0),
  (19, .iload 4, 0, 0, 0, 0),
  (21, .iload_n 2, 0, 0, 0, 0),
  (22, .if_icmp .ge 46, 0, 0, 0, 0),
  (25, .iload 4, 0, 0, 0, 0),
  (27, .iload_n 3, 0, 0, 0, 0),
  (28, .if_icmp .lt 34, 0, 0, 0, 0),
  (31, .aload_n 0, 0, 0, 0, 0),
  (32, .getfield 9, 7, 0, 0, 200),
  (35, .iload 4, 0, 0, 0, 0),
  (37, .baload, 0, 0, 0, 0),
  (38, .bipush 32, 0, 0, 0, 0),
  (40, .if_icmp .eq 22, 0, 0, 0, 0),
  (43, .aload_n 0, 0, 0, 0, 0),
  (44, .getfield 9, 7, 0, 0, 200),
  (47, .iload 4, 0, 0, 0, 0),
  (49, .baload, 0, 0, 0, 0),
  (50, .bipush 10, 0, 0, 0, 0),
  (52, .if_icmp .eq 10, 0, 0, 0, 0),
  (55, .aload_n 0, 0, 0, 0, 0),
  (56, .iload 4, 0, 0, 0, 0),
  (58, .invokevirtual 77, 25, 2, 0, 599),
  (61, .istore_n 3, 0, 0, 0, 0),
  (62, .iinc 4 1, 0, 0, 0, 0),
  (65, .goto (-46), 0, 0, 0, 0),
  (68, .aload_n 0, 0, 0, 0, 0),
  (69, .iconst 0, 0, 0, 0, 0),
  (70, .iload_n 2, 0, 0, 0, 0),
  (71, .lconst 0, 0, 0, 0, 0),
  (72, .invokevirtual 81, 29, 4, 0, 613),
  (75, .aload_n 0, 0, 0, 0, 0),
  (76, .aload_n 0, 0, 0, 0, 0),
  (77, .getfield 29, 7, 5, 0, 205),
  (80, .iload_n 1, 0, 0, 0, 0),
  (81, .if_icmp .le 7, 0, 0, 0, 0),
  (84, .iconst 1, 0, 0, 0, 0),
  (85, .goto 4, 0, 0, 0, 0),
  (88, .iconst 0, 0, 0, 0, 0),
  (89, .putfield 42, 7, 9, 0, 213),
  (92, .aload_n 0, 0, 0, 0, 0),
  (93, .iconst 0, 0, 0, 0, 0),
  (94, .putfield 36, 7, 7, 0, 208),
  (97, .aload_n 0, 0, 0, 0, 0),
  (98, .iconst 0, 0, 0, 0, 0),
  (99, .putfield 46, 7, 10, 0, 214),
  (102, .aload_n 0, 0, 0, 0, 0),
  (103, .iconst 0, 0, 0, 0, 0),
  (104, .putfield 49, 7, 11, 0, 216),
  (107, .return_, 0, 0, 0, 0)])
def nm_25 : nM := (⟨"SlipHeirs$Text", "scan", "(I)I"⟩, prog_9_method_9_code, 4, some .int, [602, 111, 601, 0], [
  (0, .aload_n 0, 0, 0, 0, 0),
  (1, .getfield 9, 7, 0, 0, 200),
  (4, .iload_n 1, 0, 0, 0, 0),
  (5, .baload, 0, 0, 0, 0),
  (6, .istore_n 2, 0, 0, 0, 0),
  (7, .iload_n 2, 0, 0, 0, 0),
  (8, .invokestatic 85, 26, 1, 2, 603),
  (11, .ifCond .ne 10, 0, 0, 0, 0),
  (14, .iload_n 2, 0, 0, 0, 0),
  (15, .invokestatic 89, 27, 1, 2, 606),
  (18, .ifCond .eq 9, 0, 0, 0, 0),
  (21, .aload_n 0, 0, 0, 0, 0),
  (22, .iload_n 1, 0, 0, 0, 0),
  (23, .invokevirtual 92, 28, 2, 0, 609),
  (26, .ireturn, 0, 0, 0, 0),
  (27, .iload_n 2, 0, 0, 0, 0),
  (28, .bipush 59, 0, 0, 0, 0),
  (30, .if_icmp .lt 9, 0, 0, 0, 0),
  (33, .iload_n 2, 0, 0, 0, 0),
  (34, .bipush 62, 0, 0, 0, 0),
  (36, .if_icmp .le 15, 0, 0, 0, 0),
  (39, .iload_n 2, 0, 0, 0, 0),
  (40, .bipush 40, 0, 0, 0, 0),
  (42, .if_icmp .eq 9, 0, 0, 0, 0),
  (45, .iload_n 2, 0, 0, 0, 0),
  (46, .bipush 41, 0, 0, 0, 0),
  (48, .if_icmp .ne 7, 0, 0, 0, 0),
  (51, .iconst 1, 0, 0, 0, 0),
  (52, .goto 4, 0, 0, 0, 0),
  (55, .iconst 0, 0, 0, 0, 0),
  (56, .istore_n 3, 0, 0, 0, 0),
  (57, .aload_n 0, 0, 0, 0, 0),
  (58, .iload_n 3, 0, 0, 0, 0),
  (59, .ifCond .eq 7, 0, 0, 0, 0),
  (62, .iload_n 2, 0, 0, 0, 0),
  (63, .goto 4, 0, 0, 0, 0),
  (66, .iconst 1, 0, 0, 0, 0),
  (67, .iload_n 1, 0, 0, 0, 0),
  (68, .lconst 0, 0, 0, 0, 0),
  (69, .invokevirtual 81, 29, 4, 0, 613),
  (72, .iload_n 1, 0, 0, 0, 0),
  (73, .iconst 1, 0, 0, 0, 0),
  (74, .iadd, 0, 0, 0, 0),
  (75, .ireturn, 0, 0, 0, 0)])
def nm_26 : nM := (⟨"SlipHeirs$Text", "isLetter", "(I)Z"⟩, prog_9_method_3_code, 1, some .boolean, [605, 111, 604, 0], [
  (0, .iload_n 0, 0, 0, 0, 0),
  (1, .bipush 97, 0, 0, 0, 0),
  (3, .if_icmp .lt 13, 0, 0, 0, 0),
  (6, .iload_n 0, 0, 0, 0, 0),
  (7, .bipush 122, 0, 0, 0, 0),
  (9, .if_icmp .gt 7, 0, 0, 0, 0),
  (12, .iconst 1, 0, 0, 0, 0),
  (13, .goto 4, 0, 0, 0, 0),
  (16, .iconst 0, 0, 0, 0, 0),
  (17, .ireturn, 0, 0, 0, 0)])
def nm_27 : nM := (⟨"SlipHeirs$Text", "isDigit", "(I)Z"⟩, prog_9_method_4_code, 1, some .boolean, [608, 111, 607, 0], [
  (0, .iload_n 0, 0, 0, 0, 0),
  (1, .bipush 48, 0, 0, 0, 0),
  (3, .if_icmp .lt 13, 0, 0, 0, 0),
  (6, .iload_n 0, 0, 0, 0, 0),
  (7, .bipush 57, 0, 0, 0, 0),
  (9, .if_icmp .gt 7, 0, 0, 0, 0),
  (12, .iconst 1, 0, 0, 0, 0),
  (13, .goto 4, 0, 0, 0, 0),
  (16, .iconst 0, 0, 0, 0, 0),
  (17, .ireturn, 0, 0, 0, 0)])
def nm_28 : nM := (⟨"SlipHeirs$Text", "scanRun", "(I)I"⟩, prog_9_method_10_code, 8, some .int, [612, 111, 611, 1], [
  (0, .lconst 0, 0, 0, 0, 0),
  (1, .lstore_n 2, 0, 0, 0, 0),
  (2, .iconst 0, 0, 0, 0, 0),
  (3, .istore 4, 0, 0, 0, 0),
  (5, .iconst 0, 0, 0, 0, 0),
  (6, .istore 5, 0, 0, 0, 0),
  (8, .iconst 0, 0, 0, 0, 0),
  (9, .istore 6, 0, 0, 0, 0),
  (11, .iload_n 1, 0, 0, 0, 0),
  (12, .istore 7, 0, 0, 0, 0),
  (14, .iload 7, 0, 0, 0, 0),
  (16, .aload_n 0, 0, 0, 0, 0),
  (17, .getfield 29, 7, 5, 0, 205),
  (20, .if_icmp .ge 87, 0, 0, 0, 0),
  (23, .aload_n 0, 0, 0, 0, 0),
  (24, .getfield 9, 7, 0, 0, 200),
  (27, .iload 7, 0, 0, 0, 0),
  (29, .baload, 0, 0, 0, 0),
  (30, .invokestatic 85, 26, 1, 2, 603),
  (33, .ifCond .ne 16, 0, 0, 0, 0),
  (36, .aload_n 0, 0, 0, 0, 0),
  (37, .getfield 9, 7, 0, 0, 200),
  (40, .iload 7, 0, 0, 0, 0),
  (42, .baload, 0, 0, 0, 0),
  (43, .invokestatic 89, 27, 1, 2, 606),
  (46, .ifCond .eq 61, 0, 0, 0, 0),
  (49, .aload_n 0, 0, 0, 0, 0),
  (50, .getfield 9, 7, 0, 0, 200),
  (53, .iload 7, 0, 0, 0, 0),
  (55, .baload, 0, 0, 0, 0),
  (56, .invokestatic 85, 26, 1, 2, 603),
  (59, .ifCond .eq 21, 0, 0, 0, 0),
  (62, .iinc 5 1, 0, 0, 0, 0),
  (65, .lload_n 2, 0, 0, 0, 0),
  (66, .aload_n 0, 0, 0, 0, 0),
  (67, .getfield 9, 7, 0, 0, 200),
  (70, .iload 7, 0, 0, 0, 0),
  (72, .baload, 0, 0, 0, 0),
  (73, .invokestatic 63, 9, 2, 2, 195),
  (76, .lstore_n 2, 0, 0, 0, 0),
  (77, .goto 24, 0, 0, 0, 0),
  (80, .iinc 6 1, 0, 0, 0, 0),
  (83, .iload 4, 0, 0, 0, 0),
  (85, .bipush 10, 0, 0, 0, 0),
  (87, .imul, 0, 0, 0, 0),
  (88, .aload_n 0, 0, 0, 0, 0),
  (89, .getfield 9, 7, 0, 0, 200),
  (92, .iload 7, 0, 0, 0, 0),
  (94, .baload, 0, 0, 0, 0),
  (95, .iadd, 0, 0, 0, 0),
  (96, .bipush 48, 0, 0, 0, 0),
  (98, .isub, 0, 0, 0, 0),
  (99, .istore 4, 0, 0, 0, 0),
  (101, .iinc 7 1, 0, 0, 0, 0),
  (104, .goto (-90), 0, 0, 0, 0),
  (107, .iload 5, 0, 0, 0, 0),
  (109, .ifCond .ne 21, 0, 0, 0, 0),
  (112, .iload 6, 0, 0, 0, 0),
  (114, .iconst 3, 0, 0, 0, 0),
  (115, .if_icmp .gt 15, 0, 0, 0, 0),
  (118, .aload_n 0, 0, 0, 0, 0),
  (119, .iconst 3, 0, 0, 0, 0),
  (120, .iload_n 1, 0, 0, 0, 0),
  (121, .iload 4, 0, 0, 0, 0),
  (123, .i2l, 0, 0, 0, 0),
  (124, .invokevirtual 81, 29, 4, 0, 613),
  (127, .goto 36, 0, 0, 0, 0),
  (130, .iload 6, 0, 0, 0, 0),
  (132, .ifCond .ne 24, 0, 0, 0, 0),
  (135, .iload 5, 0, 0, 0, 0),
  (137, .bipush 7, 0, 0, 0, 0),
  (139, .if_icmp .gt 17, 0, 0, 0, 0),
  (142, .aload_n 0, 0, 0, 0, 0),
  (143, .aload_n 0, 0, 0, 0, 0),
  (144, .lload_n 2, 0, 0, 0, 0),
  (145, .invokevirtual 95, 30, 2, 0, 617),
  (148, .iload_n 1, 0, 0, 0, 0),
  (149, .lload_n 2, 0, 0, 0, 0),
  (150, .invokevirtual 81, 29, 4, 0, 613),
  (153, .goto 10, 0, 0, 0, 0),
  (156, .aload_n 0, 0, 0, 0, 0),
  (157, .iconst 1, 0, 0, 0, 0),
  (158, .iload_n 1, 0, 0, 0, 0),
  (159, .lconst 0, 0, 0, 0, 0),
  (160, .invokevirtual 81, 29, 4, 0, 613),
  (163, .iload 7, 0, 0, 0, 0),
  (165, .ireturn, 0, 0, 0, 0)])
def nm_29 : nM := (⟨"SlipHeirs$Text", "add", "(IIJ)V"⟩, prog_9_method_12_code, 5, none, [616, 111, 615, 2], [
  (0, .aload_n 0, 0, 0, 0, 0),
  (1, .getfield 33, 7, 6, 0, 207),
  (4, .aload_n 0, 0, 0, 0, 0),
  (5, .getfield 15, 7, 1, 0, 201),
  (8, .arraylength, 0, 0, 0, 0),
  (9, .if_icmp .ge 43, 0, 0, 0, 0),
  (12, .aload_n 0, 0, 0, 0, 0),
  (13, .getfield 15, 7, 1, 0, 201),
  (16, .aload_n 0, 0, 0, 0, 0),
  (17, .getfield 33, 7, 6, 0, 207),
  (20, .iload_n 1, 0, 0, 0, 0),
  (21, .iastore, 0, 0, 0, 0),
  (22, .aload_n 0, 0, 0, 0, 0),
  (23, .getfield 19, 7, 2, 0, 202),
  (26, .aload_n 0, 0, 0, 0, 0),
  (27, .getfield 33, 7, 6, 0, 207),
  (30, .iload_n 2, 0, 0, 0, 0),
  (31, .iastore, 0, 0, 0, 0),
  (32, .aload_n 0, 0, 0, 0, 0),
  (33, .getfield 22, 7, 3, 0, 203),
  (36, .aload_n 0, 0, 0, 0, 0),
  (37, .getfield 33, 7, 6, 0, 207),
  (40, .lload_n 3, 0, 0, 0, 0),
  (41, .lastore, 0, 0, 0, 0),
  (42, .aload_n 0, 0, 0, 0, 0),
  (43, .dup, 0, 0, 0, 0),
  (44, .getfield 33, 7, 6, 0, 207),
  (47, .iconst 1, 0, 0, 0, 0),
  (48, .iadd, 0, 0, 0, 0),
  (49, .putfield 33, 7, 6, 0, 207),
  (52, .return_, 0, 0, 0, 0)])
def nm_30 : nM := (⟨"SlipHeirs$Text", "kindOf", "(J)I"⟩, prog_9_method_11_code, 4, some .int, [620, 111, 619, 3], [
  (0, .iconst 0, 0, 0, 0, 0),
  (1, .istore_n 3, 0, 0, 0, 0),
  (2, .iload_n 3, 0, 0, 0, 0),
  (3, .bipush 22, 0, 0, 0, 0),
  (5, .if_icmp .ge 25, 0, 0, 0, 0),
  (8, .aload_n 0, 0, 0, 0, 0),
  (9, .getfield 26, 7, 4, 0, 204),
  (12, .iload_n 3, 0, 0, 0, 0),
  (13, .laload, 0, 0, 0, 0),
  (14, .lload_n 1, 0, 0, 0, 0),
  (15, .lcmp, 0, 0, 0, 0),
  (16, .ifCond .ne 8, 0, 0, 0, 0),
  (19, .bipush 100, 0, 0, 0, 0),
  (21, .iload_n 3, 0, 0, 0, 0),
  (22, .iadd, 0, 0, 0, 0),
  (23, .ireturn, 0, 0, 0, 0),
  (24, .iinc 3 1, 0, 0, 0, 0),
  (27, .goto (-25), 0, 0, 0, 0),
  (30, .iconst 2, 0, 0, 0, 0),
  (31, .ireturn, 0, 0, 0, 0)])
def nm_31 : nM := (⟨"SlipHeirs$Text", "kind", "()I"⟩, prog_9_method_13_code, 1, some .int, [624, 111, 622, 623], [
  (0, .aload_n 0, 0, 0, 0, 0),
  (1, .getfield 15, 7, 1, 0, 201),
  (4, .aload_n 0, 0, 0, 0, 0),
  (5, .getfield 36, 7, 7, 0, 208),
  (8, .iaload, 0, 0, 0, 0),
  (9, .ireturn, 0, 0, 0, 0)])
def nm_32 : nM := (⟨"SlipHeirs$Family", "readLine", "(LSlipHeirs$Text;)Z"⟩, prog_2_method_4_code, 2, some .boolean, [628, 116, 627, 4], [
  (0, .aload_n 1, 0, 0, 0, 0),
  (1, .invokevirtual 83, 31, 1, 0, 621),
  (4, .tableswitch 81 100 106 #[44, 51, 81, 57, 63, 69, 75], 0, 44, 0, 0),
  (48, .aload_n 0, 0, 0, 0, 0),
  (49, .aload_n 1, 0, 0, 0, 0),
  (50, .iconst 0, 0, 0, 0, 0),
  (51, .invokevirtual 99, 33, 3, 0, 629),
  (54, .ireturn, 0, 0, 0, 0),
  (55, .aload_n 0, 0, 0, 0, 0),
  (56, .aload_n 1, 0, 0, 0, 0),
  (57, .invokevirtual 103, 38, 2, 0, 651),
  (60, .ireturn, 0, 0, 0, 0),
  (61, .aload_n 0, 0, 0, 0, 0),
  (62, .aload_n 1, 0, 0, 0, 0),
  (63, .invokevirtual 106, 41, 2, 0, 665),
  (66, .ireturn, 0, 0, 0, 0),
  (67, .aload_n 0, 0, 0, 0, 0),
  (68, .aload_n 1, 0, 0, 0, 0),
  (69, .invokevirtual 109, 42, 2, 0, 669),
  (72, .ireturn, 0, 0, 0, 0),
  (73, .aload_n 0, 0, 0, 0, 0),
  (74, .aload_n 1, 0, 0, 0, 0),
  (75, .invokevirtual 112, 43, 2, 0, 673),
  (78, .ireturn, 0, 0, 0, 0),
  (79, .aload_n 0, 0, 0, 0, 0),
  (80, .aload_n 1, 0, 0, 0, 0),
  (81, .invokevirtual 115, 45, 2, 0, 681),
  (84, .ireturn, 0, 0, 0, 0),
  (85, .aload_n 1, 0, 0, 0, 0),
  (86, .iconst 1, 0, 0, 0, 0),
  (87, .invokevirtual 118, 34, 2, 0, 635),
  (90, .ireturn, 0, 0, 0, 0)])
def nm_33 : nM := (⟨"SlipHeirs$Family", "begins", "(LSlipHeirs$Text;I)Z"⟩, prog_2_method_5_code, 4, some .boolean, [632, 116, 631, 5], [
  (0, .getstatic 121, 0, 0, 0, 0),
  (3, .iload_n 2, 0, 0, 0, 0),
  (4, .iaload, 0, 0, 0, 0),
  (5, .aload_n 0, 0, 0, 0, 0),
  (6, .getfield 9, 0, 0, 0, 252),
  (9, .iload_n 2, 0, 0, 0, 0),
  (10, .iaload, 0, 0, 0, 0),
  (11, .iadd, 0, 0, 0, 0),
  (12, .istore_n 3, 0, 0, 0, 0),
  (13, .iload_n 3, 0, 0, 0, 0),
  (14, .getstatic 121, 0, 0, 0, 0),
  (17, .iload_n 2, 0, 0, 0, 0),
  (18, .iconst 1, 0, 0, 0, 0),
  (19, .iadd, 0, 0, 0, 0),
  (20, .iaload, 0, 0, 0, 0),
  (21, .if_icmp .lt 9, 0, 0, 0, 0),
  (24, .aload_n 1, 0, 0, 0, 0),
  (25, .iconst 4, 0, 0, 0, 0),
  (26, .invokevirtual 118, 34, 2, 0, 635),
  (29, .ireturn, 0, 0, 0, 0),
  (30, .aload_n 1, 0, 0, 0, 0),
  (31, .invokevirtual 124, 35, 1, 0, 639),
  (34, .aload_n 1, 0, 0, 0, 0),
  (35, .invokevirtual 83, 31, 1, 0, 621),
  (38, .iconst 2, 0, 0, 0, 0),
  (39, .if_icmp .eq 9, 0, 0, 0, 0),
  (42, .aload_n 1, 0, 0, 0, 0),
  (43, .iconst 1, 0, 0, 0, 0),
  (44, .invokevirtual 118, 34, 2, 0, 635),
  (47, .ireturn, 0, 0, 0, 0),
  (48, .aload_n 0, 0, 0, 0, 0),
  (49, .aload_n 1, 0, 0, 0, 0),
  (50, .invokevirtual 127, 36, 1, 0, 643),
  (53, .invokevirtual 131, 37, 2, 0, 647),
  (56, .iconst (-1), 0, 0, 0, 0),
  (57, .if_icmp .eq 9, 0, 0, 0, 0),
  (60, .aload_n 1, 0, 0, 0, 0),
  (61, .iconst 3, 0, 0, 0, 0),
  (62, .invokevirtual 118, 34, 2, 0, 635),
  (65, .ireturn, 0, 0, 0, 0),
  (66, .aload_n 0, 0, 0, 0, 0),
  (67, .getfield 15, 0, 1, 0, 257),
  (70, .iload_n 3, 0, 0, 0, 0),
  (71, .aload_n 1, 0, 0, 0, 0),
  (72, .invokevirtual 127, 36, 1, 0, 643),
  (75, .lastore, 0, 0, 0, 0),
  (76, .aload_n 0, 0, 0, 0, 0),
  (77, .getfield 9, 0, 0, 0, 252),
  (80, .iload_n 2, 0, 0, 0, 0),
  (81, .dup2, 0, 0, 0, 0),
  (82, .iaload, 0, 0, 0, 0),
  (83, .iconst 1, 0, 0, 0, 0),
  (84, .iadd, 0, 0, 0, 0),
  (85, .iastore, 0, 0, 0, 0),
  (86, .aload_n 1, 0, 0, 0, 0),
  (87, .invokevirtual 124, 35, 1, 0, 639),
  (90, .iconst 1, 0, 0, 0, 0),
  (91, .ireturn, 0, 0, 0, 0)])
def nm_34 : nM := (⟨"SlipHeirs$Text", "fails", "(I)Z"⟩, prog_9_method_16_code, 2, some .boolean, [638, 111, 636, 637], [
  (0, .aload_n 0, 0, 0, 0, 0),
  (1, .iload_n 1, 0, 0, 0, 0),
  (2, .putfield 46, 7, 10, 0, 214),
  (5, .aload_n 0, 0, 0, 0, 0),
  (6, .aload_n 0, 0, 0, 0, 0),
  (7, .getfield 19, 7, 2, 0, 202),
  (10, .aload_n 0, 0, 0, 0, 0),
  (11, .getfield 36, 7, 7, 0, 208),
  (14, .iaload, 0, 0, 0, 0),
  (15, .putfield 49, 7, 11, 0, 216),
  (18, .iconst 0, 0, 0, 0, 0),
  (19, .ireturn, 0, 0, 0, 0)])
def nm_35 : nM := (⟨"SlipHeirs$Text", "advance", "()V"⟩, prog_9_method_15_code, 1, none, [642, 111, 640, 641], [
  (0, .aload_n 0, 0, 0, 0, 0),
  (1, .getfield 36, 7, 7, 0, 208),
  (4, .iconst 1, 0, 0, 0, 0),
  (5, .iadd, 0, 0, 0, 0),
  (6, .aload_n 0, 0, 0, 0, 0),
  (7, .getfield 33, 7, 6, 0, 207),
  (10, .if_icmp .ge 13, 0, 0, 0, 0),
  (13, .aload_n 0, 0, 0, 0, 0),
  (14, .dup, 0, 0, 0, 0),
  (15, .getfield 36, 7, 7, 0, 208),
  (18, .iconst 1, 0, 0, 0, 0),
  (19, .iadd, 0, 0, 0, 0),
  (20, .putfield 36, 7, 7, 0, 208),
  (23, .return_, 0, 0, 0, 0)])
def nm_36 : nM := (⟨"SlipHeirs$Text", "value", "()J"⟩, prog_9_method_14_code, 1, some .long, [646, 111, 644, 645], [
  (0, .aload_n 0, 0, 0, 0, 0),
  (1, .getfield 22, 7, 3, 0, 203),
  (4, .aload_n 0, 0, 0, 0, 0),
  (5, .getfield 36, 7, 7, 0, 208),
  (8, .laload, 0, 0, 0, 0),
  (9, .lreturn, 0, 0, 0, 0)])
def nm_37 : nM := (⟨"SlipHeirs$Family", "slotOf", "(J)I"⟩, prog_2_method_12_code, 4, some .int, [650, 116, 649, 6], [
  (0, .iconst 0, 0, 0, 0, 0),
  (1, .istore_n 3, 0, 0, 0, 0),
  (2, .iload_n 3, 0, 0, 0, 0),
  (3, .aload_n 0, 0, 0, 0, 0),
  (4, .getfield 15, 0, 1, 0, 257),
  (7, .arraylength, 0, 0, 0, 0),
  (8, .if_icmp .ge 22, 0, 0, 0, 0),
  (11, .aload_n 0, 0, 0, 0, 0),
  (12, .getfield 15, 0, 1, 0, 257),
  (15, .iload_n 3, 0, 0, 0, 0),
  (16, .laload, 0, 0, 0, 0),
  (17, .lload_n 1, 0, 0, 0, 0),
  (18, .lcmp, 0, 0, 0, 0),
  (19, .ifCond .ne 5, 0, 0, 0, 0),
  (22, .iload_n 3, 0, 0, 0, 0),
  (23, .ireturn, 0, 0, 0, 0),
  (24, .iinc 3 1, 0, 0, 0, 0),
  (27, .goto (-25), 0, 0, 0, 0),
  (30, .iconst (-1), 0, 0, 0, 0),
  (31, .ireturn, 0, 0, 0, 0)])
def nm_38 : nM := (⟨"SlipHeirs$Family", "readPerson", "(LSlipHeirs$Text;)Z"⟩, prog_2_method_6_code, 4, some .boolean, [654, 116, 653, 7], [
  (0, .aload_n 0, 0, 0, 0, 0),
  (1, .getfield 9, 0, 0, 0, 252),
  (4, .iconst 1, 0, 0, 0, 0),
  (5, .iaload, 0, 0, 0, 0),
  (6, .istore_n 2, 0, 0, 0, 0),
  (7, .aload_n 0, 0, 0, 0, 0),
  (8, .aload_n 1, 0, 0, 0, 0),
  (9, .iconst 1, 0, 0, 0, 0),
  (10, .invokevirtual 99, 33, 3, 0, 629),
  (13, .ifCond .eq 14, 0, 0, 0, 0),
  (16, .aload_n 1, 0, 0, 0, 0),
  (17, .iconst 0, 0, 0, 0, 0),
  (18, .sipush 300, 0, 0, 0, 0),
  (21, .invokevirtual 135, 39, 3, 0, 655),
  (24, .ifCond .ne 5, 0, 0, 0, 0),
  (27, .iconst 0, 0, 0, 0, 0),
  (28, .ireturn, 0, 0, 0, 0),
  (29, .aload_n 0, 0, 0, 0, 0),
  (30, .getfield 19, 0, 2, 0, 258),
  (33, .iload_n 2, 0, 0, 0, 0),
  (34, .aload_n 1, 0, 0, 0, 0),
  (35, .getfield 139, 7, 8, 0, 211),
  (38, .iastore, 0, 0, 0, 0),
  (39, .aload_n 1, 0, 0, 0, 0),
  (40, .invokevirtual 83, 31, 1, 0, 621),
  (43, .bipush 102, 0, 0, 0, 0),
  (45, .if_icmp .eq 5, 0, 0, 0, 0),
  (48, .iconst 1, 0, 0, 0, 0),
  (49, .ireturn, 0, 0, 0, 0),
  (50, .aload_n 1, 0, 0, 0, 0),
  (51, .invokevirtual 124, 35, 1, 0, 639),
  (54, .aload_n 0, 0, 0, 0, 0),
  (55, .aload_n 1, 0, 0, 0, 0),
  (56, .iconst 1, 0, 0, 0, 0),
  (57, .invokevirtual 142, 40, 3, 0, 661),
  (60, .istore_n 3, 0, 0, 0, 0),
  (61, .iload_n 3, 0, 0, 0, 0),
  (62, .iconst (-1), 0, 0, 0, 0),
  (63, .if_icmp .ne 5, 0, 0, 0, 0),
  (66, .iconst 0, 0, 0, 0, 0),
  (67, .ireturn, 0, 0, 0, 0),
  (68, .aload_n 0, 0, 0, 0, 0),
  (69, .getfield 19, 0, 2, 0, 258),
  (72, .iload_n 3, 0, 0, 0, 0),
  (73, .iaload, 0, 0, 0, 0),
  (74, .aload_n 0, 0, 0, 0, 0),
  (75, .getfield 19, 0, 2, 0, 258),
  (78, .iload_n 2, 0, 0, 0, 0),
  (79, .iaload, 0, 0, 0, 0),
  (80, .if_icmp .lt 9, 0, 0, 0, 0),
  (83, .aload_n 1, 0, 0, 0, 0),
  (84, .iconst 3, 0, 0, 0, 0),
  (85, .invokevirtual 118, 34, 2, 0, 635),
  (88, .ireturn, 0, 0, 0, 0),
  (89, .aload_n 0, 0, 0, 0, 0),
  (90, .getfield 22, 0, 3, 0, 261),
  (93, .iload_n 2, 0, 0, 0, 0),
  (94, .iload_n 3, 0, 0, 0, 0),
  (95, .iastore, 0, 0, 0, 0),
  (96, .aload_n 1, 0, 0, 0, 0),
  (97, .invokevirtual 124, 35, 1, 0, 639),
  (100, .iconst 1, 0, 0, 0, 0),
  (101, .ireturn, 0, 0, 0, 0)])
def nm_39 : nM := (⟨"SlipHeirs$Text", "takesNumber", "(II)Z"⟩, prog_9_method_18_code, 3, some .boolean, [658, 111, 656, 657], [
  (0, .aload_n 0, 0, 0, 0, 0),
  (1, .getfield 15, 7, 1, 0, 201),
  (4, .aload_n 0, 0, 0, 0, 0),
  (5, .getfield 36, 7, 7, 0, 208),
  (8, .iaload, 0, 0, 0, 0),
  (9, .iconst 3, 0, 0, 0, 0),
  (10, .if_icmp .eq 9, 0, 0, 0, 0),
  (13, .aload_n 0, 0, 0, 0, 0),
  (14, .iconst 1, 0, 0, 0, 0),
  (15, .invokevirtual 99, 34, 2, 0, 659),
  (18, .ireturn, 0, 0, 0, 0),
  (19, .aload_n 0, 0, 0, 0, 0),
  (20, .aload_n 0, 0, 0, 0, 0),
  (21, .getfield 22, 7, 3, 0, 203),
  (24, .aload_n 0, 0, 0, 0, 0),
  (25, .getfield 36, 7, 7, 0, 208),
  (28, .laload, 0, 0, 0, 0),
  (29, .l2i, 0, 0, 0, 0),
  (30, .putfield 39, 7, 8, 0, 209),
  (33, .aload_n 0, 0, 0, 0, 0),
  (34, .getfield 39, 7, 8, 0, 209),
  (37, .iload_n 1, 0, 0, 0, 0),
  (38, .if_icmp .lt 11, 0, 0, 0, 0),
  (41, .aload_n 0, 0, 0, 0, 0),
  (42, .getfield 39, 7, 8, 0, 209),
  (45, .iload_n 2, 0, 0, 0, 0),
  (46, .if_icmp .le 9, 0, 0, 0, 0),
  (49, .aload_n 0, 0, 0, 0, 0),
  (50, .iconst 2, 0, 0, 0, 0),
  (51, .invokevirtual 99, 34, 2, 0, 659),
  (54, .ireturn, 0, 0, 0, 0),
  (55, .aload_n 0, 0, 0, 0, 0),
  (56, .invokevirtual 102, 35, 1, 0, 660),
  (59, .iconst 1, 0, 0, 0, 0),
  (60, .ireturn, 0, 0, 0, 0)])
def nm_40 : nM := (⟨"SlipHeirs$Family", "known", "(LSlipHeirs$Text;I)I"⟩, prog_2_method_13_code, 4, some .int, [664, 116, 662, 663], [
  (0, .aload_n 1, 0, 0, 0, 0),
  (1, .invokevirtual 83, 31, 1, 0, 621),
  (4, .iconst 2, 0, 0, 0, 0),
  (5, .if_icmp .eq 11, 0, 0, 0, 0),
  (8, .aload_n 1, 0, 0, 0, 0),
  (9, .iconst 1, 0, 0, 0, 0),
  (10, .invokevirtual 118, 34, 2, 0, 635),
  (13, .pop, 0, 0, 0, 0),
  (14, .iconst (-1), 0, 0, 0, 0),
  (15, .ireturn, 0, 0, 0, 0),
  (16, .aload_n 0, 0, 0, 0, 0),
  (17, .aload_n 1, 0, 0, 0, 0),
  (18, .invokevirtual 127, 36, 1, 0, 643),
  (21, .invokevirtual 131, 37, 2, 0, 647),
  (24, .istore_n 3, 0, 0, 0, 0),
  (25, .iload_n 3, 0, 0, 0, 0),
  (26, .getstatic 121, 0, 0, 0, 0),
  (29, .iload_n 2, 0, 0, 0, 0),
  (30, .iaload, 0, 0, 0, 0),
  (31, .if_icmp .lt 14, 0, 0, 0, 0),
  (34, .iload_n 3, 0, 0, 0, 0),
  (35, .getstatic 121, 0, 0, 0, 0),
  (38, .iload_n 2, 0, 0, 0, 0),
  (39, .iconst 1, 0, 0, 0, 0),
  (40, .iadd, 0, 0, 0, 0),
  (41, .iaload, 0, 0, 0, 0),
  (42, .if_icmp .lt 11, 0, 0, 0, 0),
  (45, .aload_n 1, 0, 0, 0, 0),
  (46, .iconst 3, 0, 0, 0, 0),
  (47, .invokevirtual 118, 34, 2, 0, 635),
  (50, .pop, 0, 0, 0, 0),
  (51, .iconst (-1), 0, 0, 0, 0),
  (52, .ireturn, 0, 0, 0, 0),
  (53, .iload_n 3, 0, 0, 0, 0),
  (54, .getstatic 121, 0, 0, 0, 0),
  (57, .iload_n 2, 0, 0, 0, 0),
  (58, .iaload, 0, 0, 0, 0),
  (59, .isub, 0, 0, 0, 0),
  (60, .ireturn, 0, 0, 0, 0)])
def nm_41 : nM := (⟨"SlipHeirs$Family", "readGod", "(LSlipHeirs$Text;)Z"⟩, prog_2_method_7_code, 4, some .boolean, [668, 116, 667, 8], [
  (0, .aload_n 1, 0, 0, 0, 0),
  (1, .invokevirtual 124, 35, 1, 0, 639),
  (4, .aload_n 0, 0, 0, 0, 0),
  (5, .aload_n 1, 0, 0, 0, 0),
  (6, .iconst 1, 0, 0, 0, 0),
  (7, .invokevirtual 142, 40, 3, 0, 661),
  (10, .istore_n 2, 0, 0, 0, 0),
  (11, .iload_n 2, 0, 0, 0, 0),
  (12, .iconst (-1), 0, 0, 0, 0),
  (13, .if_icmp .ne 5, 0, 0, 0, 0),
  (16, .iconst 0, 0, 0, 0, 0),
  (17, .ireturn, 0, 0, 0, 0),
  (18, .aload_n 0, 0, 0, 0, 0),
  (19, .getfield 25, 0, 4, 0, 263),
  (22, .iload_n 2, 0, 0, 0, 0),
  (23, .iaload, 0, 0, 0, 0),
  (24, .iconst (-1), 0, 0, 0, 0),
  (25, .if_icmp .eq 9, 0, 0, 0, 0),
  (28, .aload_n 1, 0, 0, 0, 0),
  (29, .iconst 3, 0, 0, 0, 0),
  (30, .invokevirtual 118, 34, 2, 0, 635),
  (33, .ireturn, 0, 0, 0, 0),
  (34, .aload_n 1, 0, 0, 0, 0),
  (35, .invokevirtual 124, 35, 1, 0, 639),
  (38, .aload_n 0, 0, 0, 0, 0),
  (39, .aload_n 1, 0, 0, 0, 0),
  (40, .iconst 1, 0, 0, 0, 0),
  (41, .invokevirtual 142, 40, 3, 0, 661),
  (44, .istore_n 3, 0, 0, 0, 0),
  (45, .iload_n 3, 0, 0, 0, 0),
  (46, .iconst (-1), 0, 0, 0, 0),
  (47, .if_icmp .ne 5, 0, 0, 0, 0),
  (50, .iconst 0, 0, 0, 0, 0),
  (51, .ireturn, 0, 0, 0, 0),
  (52, .iload_n 3, 0, 0, 0, 0),
  (53, .iload_n 2, 0, 0, 0, 0),
  (54, .if_icmp .ne 9, 0, 0, 0, 0),
  (57, .aload_n 1, 0, 0, 0, 0),
  (58, .iconst 3, 0, 0, 0, 0),
  (59, .invokevirtual 118, 34, 2, 0, 635),
  (62, .ireturn, 0, 0, 0, 0),
  (63, .aload_n 0, 0, 0, 0, 0),
  (64, .getfield 25, 0, 4, 0, 263),
  (67, .iload_n 2, 0, 0, 0, 0),
  (68, .iload_n 3, 0, 0, 0, 0),
  (69, .iastore, 0, 0, 0, 0),
  (70, .aload_n 1, 0, 0, 0, 0),
  (71, .invokevirtual 124, 35, 1, 0, 639),
  (74, .iconst 1, 0, 0, 0, 0),
  (75, .ireturn, 0, 0, 0, 0)])
def nm_42 : nM := (⟨"SlipHeirs$Family", "readCare", "(LSlipHeirs$Text;)Z"⟩, prog_2_method_8_code, 3, some .boolean, [672, 116, 671, 9], [
  (0, .aload_n 1, 0, 0, 0, 0),
  (1, .invokevirtual 124, 35, 1, 0, 639),
  (4, .aload_n 0, 0, 0, 0, 0),
  (5, .aload_n 1, 0, 0, 0, 0),
  (6, .iconst 1, 0, 0, 0, 0),
  (7, .invokevirtual 142, 40, 3, 0, 661),
  (10, .istore_n 2, 0, 0, 0, 0),
  (11, .iload_n 2, 0, 0, 0, 0),
  (12, .iconst (-1), 0, 0, 0, 0),
  (13, .if_icmp .ne 5, 0, 0, 0, 0),
  (16, .iconst 0, 0, 0, 0, 0),
  (17, .ireturn, 0, 0, 0, 0),
  (18, .aload_n 0, 0, 0, 0, 0),
  (19, .getfield 55, 0, 14, 0, 288),
  (22, .iload_n 2, 0, 0, 0, 0),
  (23, .ishr, 0, 0, 0, 0),
  (24, .iconst 1, 0, 0, 0, 0),
  (25, .iand, 0, 0, 0, 0),
  (26, .iconst 1, 0, 0, 0, 0),
  (27, .if_icmp .ne 9, 0, 0, 0, 0),
  (30, .aload_n 1, 0, 0, 0, 0),
  (31, .iconst 3, 0, 0, 0, 0),
  (32, .invokevirtual 118, 34, 2, 0, 635),
  (35, .ireturn, 0, 0, 0, 0),
  (36, .aload_n 0, 0, 0, 0, 0),
  (37, .dup, 0, 0, 0, 0),
  (38, .getfield 55, 0, 14, 0, 288),
  (41, .iconst 1, 0, 0, 0, 0),
  (42, .iload_n 2, 0, 0, 0, 0),
  (43, .ishl, 0, 0, 0, 0),
  (44, .ior, 0, 0, 0, 0),
  (45, .putfield 55, 0, 14, 0, 288),
  (48, .aload_n 1, 0, 0, 0, 0),
  (49, .invokevirtual 124, 35, 1, 0, 639),
  (52, .aload_n 1, 0, 0, 0, 0),
  (53, .iconst 0, 0, 0, 0, 0),
  (54, .bipush 9, 0, 0, 0, 0),
  (56, .invokevirtual 135, 39, 3, 0, 655),
  (59, .ifCond .ne 5, 0, 0, 0, 0),
  (62, .iconst 0, 0, 0, 0, 0),
  (63, .ireturn, 0, 0, 0, 0),
  (64, .aload_n 0, 0, 0, 0, 0),
  (65, .getfield 28, 0, 5, 0, 266),
  (68, .iload_n 2, 0, 0, 0, 0),
  (69, .aload_n 1, 0, 0, 0, 0),
  (70, .getfield 139, 7, 8, 0, 211),
  (73, .iastore, 0, 0, 0, 0),
  (74, .iconst 1, 0, 0, 0, 0),
  (75, .ireturn, 0, 0, 0, 0)])
def nm_43 : nM := (⟨"SlipHeirs$Family", "readError", "(LSlipHeirs$Text;)Z"⟩, prog_2_method_9_code, 3, some .boolean, [676, 116, 675, 10], [
  (0, .aload_n 0, 0, 0, 0, 0),
  (1, .getfield 9, 0, 0, 0, 252),
  (4, .iconst 2, 0, 0, 0, 0),
  (5, .iaload, 0, 0, 0, 0),
  (6, .istore_n 2, 0, 0, 0, 0),
  (7, .aload_n 0, 0, 0, 0, 0),
  (8, .aload_n 1, 0, 0, 0, 0),
  (9, .iconst 2, 0, 0, 0, 0),
  (10, .invokevirtual 99, 33, 3, 0, 629),
  (13, .ifCond .ne 5, 0, 0, 0, 0),
  (16, .iconst 0, 0, 0, 0, 0),
  (17, .ireturn, 0, 0, 0, 0),
  (18, .aload_n 0, 0, 0, 0, 0),
  (19, .getfield 31, 0, 6, 0, 269),
  (22, .iload_n 2, 0, 0, 0, 0),
  (23, .aload_n 0, 0, 0, 0, 0),
  (24, .aload_n 1, 0, 0, 0, 0),
  (25, .iconst 1, 0, 0, 0, 0),
  (26, .invokevirtual 142, 40, 3, 0, 661),
  (29, .iastore, 0, 0, 0, 0),
  (30, .aload_n 0, 0, 0, 0, 0),
  (31, .getfield 31, 0, 6, 0, 269),
  (34, .iload_n 2, 0, 0, 0, 0),
  (35, .iaload, 0, 0, 0, 0),
  (36, .iconst (-1), 0, 0, 0, 0),
  (37, .if_icmp .ne 5, 0, 0, 0, 0),
  (40, .iconst 0, 0, 0, 0, 0),
  (41, .ireturn, 0, 0, 0, 0),
  (42, .aload_n 1, 0, 0, 0, 0),
  (43, .invokevirtual 124, 35, 1, 0, 639),
  (46, .aload_n 0, 0, 0, 0, 0),
  (47, .getfield 34, 0, 7, 0, 272),
  (50, .iload_n 2, 0, 0, 0, 0),
  (51, .aload_n 0, 0, 0, 0, 0),
  (52, .aload_n 1, 0, 0, 0, 0),
  (53, .iconst 0, 0, 0, 0, 0),
  (54, .invokevirtual 142, 40, 3, 0, 661),
  (57, .iastore, 0, 0, 0, 0),
  (58, .aload_n 0, 0, 0, 0, 0),
  (59, .getfield 34, 0, 7, 0, 272),
  (62, .iload_n 2, 0, 0, 0, 0),
  (63, .iaload, 0, 0, 0, 0),
  (64, .iconst (-1), 0, 0, 0, 0),
  (65, .if_icmp .ne 5, 0, 0, 0, 0),
  (68, .iconst 0, 0, 0, 0, 0),
  (69, .ireturn, 0, 0, 0, 0),
  (70, .aload_n 1, 0, 0, 0, 0),
  (71, .invokevirtual 124, 35, 1, 0, 639),
  (74, .aload_n 0, 0, 0, 0, 0),
  (75, .getfield 37, 0, 8, 0, 274),
  (78, .iload_n 2, 0, 0, 0, 0),
  (79, .aload_n 0, 0, 0, 0, 0),
  (80, .aload_n 1, 0, 0, 0, 0),
  (81, .iconst 0, 0, 0, 0, 0),
  (82, .invokevirtual 142, 40, 3, 0, 661),
  (85, .iastore, 0, 0, 0, 0),
  (86, .aload_n 0, 0, 0, 0, 0),
  (87, .getfield 37, 0, 8, 0, 274),
  (90, .iload_n 2, 0, 0, 0, 0),
  (91, .iaload, 0, 0, 0, 0),
  (92, .iconst (-1), 0, 0, 0, 0),
  (93, .if_icmp .ne 5, 0, 0, 0, 0),
  (96, .iconst 0, 0, 0, 0, 0),
  (97, .ireturn, 0, 0, 0, 0),
  (98, .aload_n 0, 0, 0, 0, 0),
  (99, .getfield 37, 0, 8, 0, 274),
  (102, .iload_n 2, 0, 0, 0, 0),
  (103, .iaload, 0, 0, 0, 0),
  (104, .aload_n 0, 0, 0, 0, 0),
  (105, .getfield 34, 0, 7, 0, 272),
  (108, .iload_n 2, 0, 0, 0, 0),
  (109, .iaload, 0, 0, 0, 0),
  (110, .if_icmp .ne 9, 0, 0, 0, 0),
  (113, .aload_n 1, 0, 0, 0, 0),
  (114, .iconst 3, 0, 0, 0, 0),
  (115, .invokevirtual 118, 34, 2, 0, 635),
  (118, .ireturn, 0, 0, 0, 0),
  (119, .aload_n 1, 0, 0, 0, 0),
  (120, .invokevirtual 124, 35, 1, 0, 639),
  (123, .aload_n 0, 0, 0, 0, 0),
  (124, .aload_n 1, 0, 0, 0, 0),
  (125, .iload_n 2, 0, 0, 0, 0),
  (126, .invokevirtual 146, 44, 3, 0, 677),
  (129, .ireturn, 0, 0, 0, 0)])
def nm_44 : nM := (⟨"SlipHeirs$Family", "readWeights", "(LSlipHeirs$Text;I)Z"⟩, prog_2_method_10_code, 3, some .boolean, [680, 116, 679, 11], [
  (0, .aload_n 1, 0, 0, 0, 0),
  (1, .iconst 1, 0, 0, 0, 0),
  (2, .bipush 20, 0, 0, 0, 0),
  (4, .invokevirtual 135, 39, 3, 0, 655),
  (7, .ifCond .ne 5, 0, 0, 0, 0),
  (10, .iconst 0, 0, 0, 0, 0),
  (11, .ireturn, 0, 0, 0, 0),
  (12, .aload_n 0, 0, 0, 0, 0),
  (13, .getfield 40, 0, 9, 0, 276),
  (16, .iload_n 2, 0, 0, 0, 0),
  (17, .aload_n 1, 0, 0, 0, 0),
  (18, .getfield 139, 7, 8, 0, 211),
  (21, .iastore, 0, 0, 0, 0),
  (22, .aload_n 1, 0, 0, 0, 0),
  (23, .iconst 0, 0, 0, 0, 0),
  (24, .bipush 20, 0, 0, 0, 0),
  (26, .invokevirtual 135, 39, 3, 0, 655),
  (29, .ifCond .ne 5, 0, 0, 0, 0),
  (32, .iconst 0, 0, 0, 0, 0),
  (33, .ireturn, 0, 0, 0, 0),
  (34, .aload_n 0, 0, 0, 0, 0),
  (35, .getfield 43, 0, 10, 0, 278),
  (38, .iload_n 2, 0, 0, 0, 0),
  (39, .aload_n 1, 0, 0, 0, 0),
  (40, .getfield 139, 7, 8, 0, 211),
  (43, .iastore, 0, 0, 0, 0),
  (44, .aload_n 1, 0, 0, 0, 0),
  (45, .iconst 0, 0, 0, 0, 0),
  (46, .bipush 20, 0, 0, 0, 0),
  (48, .invokevirtual 135, 39, 3, 0, 655),
  (51, .ifCond .ne 5, 0, 0, 0, 0),
  (54, .iconst 0, 0, 0, 0, 0),
  (55, .ireturn, 0, 0, 0, 0),
  (56, .aload_n 0, 0, 0, 0, 0),
  (57, .getfield 46, 0, 11, 0, 281),
  (60, .iload_n 2, 0, 0, 0, 0),
  (61, .aload_n 1, 0, 0, 0, 0),
  (62, .getfield 139, 7, 8, 0, 211),
  (65, .iastore, 0, 0, 0, 0),
  (66, .iconst 1, 0, 0, 0, 0),
  (67, .ireturn, 0, 0, 0, 0)])
def nm_45 : nM := (⟨"SlipHeirs$Family", "readDeed", "(LSlipHeirs$Text;)Z"⟩, prog_2_method_11_code, 5, some .boolean, [684, 116, 683, 12], [
  (0, .aload_n 0, 0, 0, 0, 0),
  (1, .getfield 9, 0, 0, 0, 252),
  (4, .iconst 3, 0, 0, 0, 0),
  (5, .iaload, 0, 0, 0, 0),
  (6, .istore_n 2, 0, 0, 0, 0),
  (7, .aload_n 0, 0, 0, 0, 0),
  (8, .aload_n 1, 0, 0, 0, 0),
  (9, .iconst 3, 0, 0, 0, 0),
  (10, .invokevirtual 99, 33, 3, 0, 629),
  (13, .ifCond .ne 5, 0, 0, 0, 0),
  (16, .iconst 0, 0, 0, 0, 0),
  (17, .ireturn, 0, 0, 0, 0),
  (18, .iconst 0, 0, 0, 0, 0),
  (19, .istore_n 3, 0, 0, 0, 0),
  (20, .iload_n 3, 0, 0, 0, 0),
  (21, .bipush 12, 0, 0, 0, 0),
  (23, .if_icmp .gt 78, 0, 0, 0, 0),
  (26, .iload_n 3, 0, 0, 0, 0),
  (27, .ifCond .le 14, 0, 0, 0, 0),
  (30, .aload_n 1, 0, 0, 0, 0),
  (31, .invokevirtual 83, 31, 1, 0, 621),
  (34, .bipush 59, 0, 0, 0, 0),
  (36, .if_icmp .ne 5, 0, 0, 0, 0),
  (39, .iconst 1, 0, 0, 0, 0),
  (40, .ireturn, 0, 0, 0, 0),
  (41, .aload_n 0, 0, 0, 0, 0),
  (42, .aload_n 1, 0, 0, 0, 0),
  (43, .iconst 0, 0, 0, 0, 0),
  (44, .invokevirtual 142, 40, 3, 0, 661),
  (47, .istore 4, 0, 0, 0, 0),
  (49, .iload 4, 0, 0, 0, 0),
  (51, .iconst (-1), 0, 0, 0, 0),
  (52, .if_icmp .ne 5, 0, 0, 0, 0),
  (55, .iconst 0, 0, 0, 0, 0),
  (56, .ireturn, 0, 0, 0, 0),
  (57, .iload_n 3, 0, 0, 0, 0),
  (58, .bipush 12, 0, 0, 0, 0),
  (60, .if_icmp .ne 9, 0, 0, 0, 0),
  (63, .aload_n 1, 0, 0, 0, 0),
  (64, .iconst 4, 0, 0, 0, 0),
  (65, .invokevirtual 118, 34, 2, 0, 635),
  (68, .ireturn, 0, 0, 0, 0),
  (69, .aload_n 0, 0, 0, 0, 0),
  (70, .getfield 52, 0, 13, 0, 287),
  (73, .iload_n 2, 0, 0, 0, 0),
  (74, .bipush 12, 0, 0, 0, 0),
  (76, .imul, 0, 0, 0, 0),
  (77, .iload_n 3, 0, 0, 0, 0),
  (78, .iadd, 0, 0, 0, 0),
  (79, .iload 4, 0, 0, 0, 0),
  (81, .iastore, 0, 0, 0, 0),
  (82, .aload_n 0, 0, 0, 0, 0),
  (83, .getfield 49, 0, 12, 0, 284),
  (86, .iload_n 2, 0, 0, 0, 0),
  (87, .iload_n 3, 0, 0, 0, 0),
  (88, .iconst 1, 0, 0, 0, 0),
  (89, .iadd, 0, 0, 0, 0),
  (90, .iastore, 0, 0, 0, 0),
  (91, .aload_n 1, 0, 0, 0, 0),
  (92, .invokevirtual 124, 35, 1, 0, 639),
  (95, .iinc 3 1, 0, 0, 0, 0),
  (98, .goto (-78), 0, 0, 0, 0),
  (101, .iconst 1, 0, 0, 0, 0),
  (102, .ireturn, 0, 0, 0, 0)])
def nm_46 : nM := (⟨"SlipHeirs$Text", "takes", "(I)Z"⟩, prog_9_method_17_code, 2, some .boolean, [688, 111, 686, 687], [
  (0, .aload_n 0, 0, 0, 0, 0),
  (1, .getfield 15, 7, 1, 0, 201),
  (4, .aload_n 0, 0, 0, 0, 0),
  (5, .getfield 36, 7, 7, 0, 208),
  (8, .iaload, 0, 0, 0, 0),
  (9, .iload_n 1, 0, 0, 0, 0),
  (10, .if_icmp .eq 9, 0, 0, 0, 0),
  (13, .aload_n 0, 0, 0, 0, 0),
  (14, .iconst 1, 0, 0, 0, 0),
  (15, .invokevirtual 99, 34, 2, 0, 659),
  (18, .ireturn, 0, 0, 0, 0),
  (19, .aload_n 0, 0, 0, 0, 0),
  (20, .invokevirtual 102, 35, 1, 0, 660),
  (23, .iconst 1, 0, 0, 0, 0),
  (24, .ireturn, 0, 0, 0, 0)])
def nm_47 : nM := (⟨"SlipHeirs$Text", "closes", "()Z"⟩, prog_9_method_19_code, 1, some .boolean, [692, 111, 690, 691], [
  (0, .aload_n 0, 0, 0, 0, 0),
  (1, .getfield 15, 7, 1, 0, 201),
  (4, .aload_n 0, 0, 0, 0, 0),
  (5, .getfield 36, 7, 7, 0, 208),
  (8, .iaload, 0, 0, 0, 0),
  (9, .ifCond .ne 10, 0, 0, 0, 0),
  (12, .aload_n 0, 0, 0, 0, 0),
  (13, .getfield 42, 7, 9, 0, 213),
  (16, .ifCond .eq 11, 0, 0, 0, 0),
  (19, .aload_n 0, 0, 0, 0, 0),
  (20, .iconst 1, 0, 0, 0, 0),
  (21, .invokevirtual 99, 34, 2, 0, 659),
  (24, .ifCond .eq 7, 0, 0, 0, 0),
  (27, .iconst 1, 0, 0, 0, 0),
  (28, .goto 4, 0, 0, 0, 0),
  (31, .iconst 0, 0, 0, 0, 0),
  (32, .ireturn, 0, 0, 0, 0)])
def nm_48 : nM := (⟨"SlipHeirs", "closeText", "()V"⟩, prog_1_method_43_code, 1, none, [696, 110, 695, 13], [
  (0, .aload_n 0, 0, 0, 0, 0),
  (1, .aload_n 0, 0, 0, 0, 0),
  (2, .getfield 10, 8, 0, 0, 516),
  (5, .getfield 342, 7, 10, 0, 215),
  (8, .putfield 85, 8, 14, 0, 530),
  (11, .aload_n 0, 0, 0, 0, 0),
  (12, .getfield 10, 8, 0, 0, 516),
  (15, .iconst 0, 0, 0, 0, 0),
  (16, .putfield 102, 7, 5, 0, 206),
  (19, .return_, 0, 0, 0, 0)])
def nm_49 : nM := (⟨"SlipHeirs$Family", "copyFrom", "(LSlipHeirs$Family;)V"⟩, prog_2_method_2_code, 2, none, [700, 116, 698, 699], [
  (0, .aload_n 1, 0, 0, 0, 0),
  (1, .getfield 9, 0, 0, 0, 252),
  (4, .iconst 0, 0, 0, 0, 0),
  (5, .aload_n 0, 0, 0, 0, 0),
  (6, .getfield 9, 0, 0, 0, 252),
  (9, .iconst 0, 0, 0, 0, 0),
  (10, .aload_n 0, 0, 0, 0, 0),
  (11, .getfield 9, 0, 0, 0, 252),
  (14, .arraylength, 0, 0, 0, 0),
  (15, .invokestatic 62, 0, 5, 5, 701),
  (18, .aload_n 1, 0, 0, 0, 0),
  (19, .getfield 15, 0, 1, 0, 257),
  (22, .iconst 0, 0, 0, 0, 0),
  (23, .aload_n 0, 0, 0, 0, 0),
  (24, .getfield 15, 0, 1, 0, 257),
  (27, .iconst 0, 0, 0, 0, 0),
  (28, .aload_n 0, 0, 0, 0, 0),
  (29, .getfield 15, 0, 1, 0, 257),
  (32, .arraylength, 0, 0, 0, 0),
  (33, .invokestatic 62, 0, 5, 5, 701),
  (36, .aload_n 1, 0, 0, 0, 0),
  (37, .getfield 19, 0, 2, 0, 258),
  (40, .iconst 0, 0, 0, 0, 0),
  (41, .aload_n 0, 0, 0, 0, 0),
  (42, .getfield 19, 0, 2, 0, 258),
  (45, .iconst 0, 0, 0, 0, 0),
  (46, .aload_n 0, 0, 0, 0, 0),
  (47, .getfield 19, 0, 2, 0, 258),
  (50, .arraylength, 0, 0, 0, 0),
  (51, .invokestatic 62, 0, 5, 5, 701),
  (54, .aload_n 1, 0, 0, 0, 0),
  (55, .getfield 22, 0, 3, 0, 261),
  (58, .iconst 0, 0, 0, 0, 0),
  (59, .aload_n 0, 0, 0, 0, 0),
  (60, .getfield 22, 0, 3, 0, 261),
  (63, .iconst 0, 0, 0, 0, 0),
  (64, .aload_n 0, 0, 0, 0, 0),
  (65, .getfield 22, 0, 3, 0, 261),
  (68, .arraylength, 0, 0, 0, 0),
  (69, .invokestatic 62, 0, 5, 5, 701),
  (72, .aload_n 1, 0, 0, 0, 0),
  (73, .getfield 25, 0, 4, 0, 263),
  (76, .iconst 0, 0, 0, 0, 0),
  (77, .aload_n 0, 0, 0, 0, 0),
  (78, .getfield 25, 0, 4, 0, 263),
  (81, .iconst 0, 0, 0, 0, 0),
  (82, .aload_n 0, 0, 0, 0, 0),
  (83, .getfield 25, 0, 4, 0, 263),
  (86, .arraylength, 0, 0, 0, 0),
  (87, .invokestatic 62, 0, 5, 5, 701),
  (90, .aload_n 1, 0, 0, 0, 0),
  (91, .getfield 28, 0, 5, 0, 266),
  (94, .iconst 0, 0, 0, 0, 0),
  (95, .aload_n 0, 0, 0, 0, 0),
  (96, .getfield 28, 0, 5, 0, 266),
  (99, .iconst 0, 0, 0, 0, 0),
  (100, .aload_n 0, 0, 0, 0, 0),
  (101, .getfield 28, 0, 5, 0, 266),
  (104, .arraylength, 0, 0, 0, 0),
  (105, .invokestatic 62, 0, 5, 5, 701),
  (108, .aload_n 1, 0, 0, 0, 0),
  (109, .getfield 31, 0, 6, 0, 269),
  (112, .iconst 0, 0, 0, 0, 0),
  (113, .aload_n 0, 0, 0, 0, 0),
  (114, .getfield 31, 0, 6, 0, 269),
  (117, .iconst 0, 0, 0, 0, 0),
  (118, .aload_n 0, 0, 0, 0, 0),
  (119, .getfield 31, 0, 6, 0, 269),
  (122, .arraylength, 0, 0, 0, 0),
  (123, .invokestatic 62, 0, 5, 5, 701),
  (126, .aload_n 1, 0, 0, 0, 0),
  (127, .getfield 34, 0, 7, 0, 272),
  (130, .iconst 0, 0, 0, 0, 0),
  (131, .aload_n 0, 0, 0, 0, 0),
  (132, .getfield 34, 0, 7, 0, 272),
  (135, .iconst 0, 0, 0, 0, 0),
  (136, .aload_n 0, 0, 0, 0, 0),
  (137, .getfield 34, 0, 7, 0, 272),
  (140, .arraylength, 0, 0, 0, 0),
  (141, .invokestatic 62, 0, 5, 5, 701),
  (144, .aload_n 1, 0, 0, 0, 0),
  (145, .getfield 37, 0, 8, 0, 274),
  (148, .iconst 0, 0, 0, 0, 0),
  (149, .aload_n 0, 0, 0, 0, 0),
  (150, .getfield 37, 0, 8, 0, 274),
  (153, .iconst 0, 0, 0, 0, 0),
  (154, .aload_n 0, 0, 0, 0, 0),
  (155, .getfield 37, 0, 8, 0, 274),
  (158, .arraylength, 0, 0, 0, 0),
  (159, .invokestatic 62, 0, 5, 5, 701),
  (162, .aload_n 1, 0, 0, 0, 0),
  (163, .getfield 40, 0, 9, 0, 276),
  (166, .iconst 0, 0, 0, 0, 0),
  (167, .aload_n 0, 0, 0, 0, 0),
  (168, .getfield 40, 0, 9, 0, 276),
  (171, .iconst 0, 0, 0, 0, 0),
  (172, .aload_n 0, 0, 0, 0, 0),
  (173, .getfield 40, 0, 9, 0, 276),
  (176, .arraylength, 0, 0, 0, 0),
  (177, .invokestatic 62, 0, 5, 5, 701),
  (180, .aload_n 1, 0, 0, 0, 0),
  (181, .getfield 43, 0, 10, 0, 278),
  (184, .iconst 0, 0, 0, 0, 0),
  (185, .aload_n 0, 0, 0, 0, 0),
  (186, .getfield 43, 0, 10, 0, 278),
  (189, .iconst 0, 0, 0, 0, 0),
  (190, .aload_n 0, 0, 0, 0, 0),
  (191, .getfield 43, 0, 10, 0, 278),
  (194, .arraylength, 0, 0, 0, 0),
  (195, .invokestatic 62, 0, 5, 5, 701),
  (198, .aload_n 1, 0, 0, 0, 0),
  (199, .getfield 46, 0, 11, 0, 281),
  (202, .iconst 0, 0, 0, 0, 0),
  (203, .aload_n 0, 0, 0, 0, 0),
  (204, .getfield 46, 0, 11, 0, 281),
  (207, .iconst 0, 0, 0, 0, 0),
  (208, .aload_n 0, 0, 0, 0, 0),
  (209, .getfield 46, 0, 11, 0, 281),
  (212, .arraylength, 0, 0, 0, 0),
  (213, .invokestatic 62, 0, 5, 5, 701),
  (216, .aload_n 1, 0, 0, 0, 0),
  (217, .getfield 49, 0, 12, 0, 284),
  (220, .iconst 0, 0, 0, 0, 0),
  (221, .aload_n 0, 0, 0, 0, 0),
  (222, .getfield 49, 0, 12, 0, 284),
  (225, .iconst 0, 0, 0, 0, 0),
  (226, .aload_n 0, 0, 0, 0, 0),
  (227, .getfield 49, 0, 12, 0, 284),
  (230, .arraylength, 0, 0, 0, 0),
  (231, .invokestatic 62, 0, 5, 5, 701),
  (234, .aload_n 1, 0, 0, 0, 0),
  (235, .getfield 52, 0, 13, 0, 287),
  (238, .iconst 0, 0, 0, 0, 0),
  (239, .aload_n 0, 0, 0, 0, 0),
  (240, .getfield 52, 0, 13, 0, 287),
  (243, .iconst 0, 0, 0, 0, 0),
  (244, .aload_n 0, 0, 0, 0, 0),
  (245, .getfield 52, 0, 13, 0, 287),
  (248, .arraylength, 0, 0, 0, 0),
  (249, .invokestatic 62, 0, 5, 5, 701),
  (252, .aload_n 0, 0, 0, 0, 0),
  (253, .aload_n 1, 0, 0, 0, 0),
  (254, .getfield 55, 0, 14, 0, 288),
  (257, .putfield 55, 0, 14, 0, 288),
  (260, .aload_n 0, 0, 0, 0, 0),
  (261, .aload_n 1, 0, 0, 0, 0),
  (262, .getfield 59, 0, 15, 0, 289),
  (265, .putfield 59, 0, 15, 0, 289),
  (268, .return_, 0, 0, 0, 0)])
def nm_50 : nM := (⟨"SlipHeirs$Life", "begin", "(LSlipHeirs$Family;)V"⟩, prog_4_method_2_code, 2, none, [707, 117, 705, 706], [
  (0, .aload_n 1, 0, 0, 0, 0),
  (1, .getfield 49, 0, 6, 0, 270),
  (4, .iconst 0, 0, 0, 0, 0),
  (5, .aload_n 0, 0, 0, 0, 0),
  (6, .getfield 9, 2, 0, 0, 330),
  (9, .iconst 0, 0, 0, 0, 0),
  (10, .aload_n 0, 0, 0, 0, 0),
  (11, .getfield 9, 2, 0, 0, 330),
  (14, .arraylength, 0, 0, 0, 0),
  (15, .invokestatic 54, 0, 5, 5, 708),
  (18, .aload_n 1, 0, 0, 0, 0),
  (19, .getfield 60, 0, 9, 0, 277),
  (22, .iconst 0, 0, 0, 0, 0),
  (23, .aload_n 0, 0, 0, 0, 0),
  (24, .getfield 15, 2, 1, 0, 334),
  (27, .iconst 0, 0, 0, 0, 0),
  (28, .aload_n 0, 0, 0, 0, 0),
  (29, .getfield 15, 2, 1, 0, 334),
  (32, .arraylength, 0, 0, 0, 0),
  (33, .invokestatic 54, 0, 5, 5, 708),
  (36, .aload_n 0, 0, 0, 0, 0),
  (37, .getfield 18, 2, 2, 0, 337),
  (40, .iconst 0, 0, 0, 0, 0),
  (41, .invokestatic 61, 17, 2, 2, 709),
  (44, .aload_n 0, 0, 0, 0, 0),
  (45, .getfield 21, 2, 3, 0, 339),
  (48, .iconst 0, 0, 0, 0, 0),
  (49, .invokestatic 61, 17, 2, 2, 709),
  (52, .aload_n 0, 0, 0, 0, 0),
  (53, .iconst 0, 0, 0, 0, 0),
  (54, .putfield 27, 2, 5, 0, 343),
  (57, .aload_n 0, 0, 0, 0, 0),
  (58, .sipush 300, 0, 0, 0, 0),
  (61, .putfield 31, 2, 6, 0, 345),
  (64, .aload_n 0, 0, 0, 0, 0),
  (65, .sipush 1000, 0, 0, 0, 0),
  (68, .putfield 34, 2, 7, 0, 348),
  (71, .aload_n 0, 0, 0, 0, 0),
  (72, .iconst 0, 0, 0, 0, 0),
  (73, .putfield 37, 2, 8, 0, 350),
  (76, .aload_n 0, 0, 0, 0, 0),
  (77, .iconst 0, 0, 0, 0, 0),
  (78, .putfield 40, 2, 9, 0, 352),
  (81, .aload_n 0, 0, 0, 0, 0),
  (82, .iconst 0, 0, 0, 0, 0),
  (83, .putfield 43, 2, 10, 0, 354),
  (86, .aload_n 0, 0, 0, 0, 0),
  (87, .iconst (-1), 0, 0, 0, 0),
  (88, .putfield 46, 2, 11, 0, 356),
  (91, .return_, 0, 0, 0, 0)])
def nm_51 : nM := (⟨"SlipHeirs$Phrase", "clear", "()V"⟩, prog_6_method_2_code, 1, none, [713, 118, 711, 712], [
  (0, .aload_n 0, 0, 0, 0, 0),
  (1, .iconst 0, 0, 0, 0, 0),
  (2, .putfield 24, 4, 4, 0, 393),
  (5, .aload_n 0, 0, 0, 0, 0),
  (6, .iconst 0, 0, 0, 0, 0),
  (7, .putfield 28, 4, 5, 0, 394),
  (10, .return_, 0, 0, 0, 0)])
def nm_52 : nM := (⟨"SlipHeirs$Past", "clear", "()V"⟩, prog_5_method_2_code, 1, none, [717, 120, 715, 716], [
  (0, .aload_n 0, 0, 0, 0, 0),
  (1, .iconst 0, 0, 0, 0, 0),
  (2, .putfield 17, 3, 1, 0, 443),
  (5, .return_, 0, 0, 0, 0)])
def nm_53 : nM := (⟨"SlipHeirs", "fault", "()I"⟩, prog_1_method_5_code, 1, some .int, [721, 110, 719, 720], [
  (0, .aload_n 0, 0, 0, 0, 0),
  (1, .getfield 85, 8, 14, 0, 530),
  (4, .ireturn, 0, 0, 0, 0)])
def nm_54 : nM := (⟨"SlipHeirs", "error", "(II)I"⟩, prog_1_method_7_code, 3, some .int, [725, 110, 723, 724], [
  (0, .aload_n 0, 0, 0, 0, 0),
  (1, .getfield 19, 8, 1, 0, 517),
  (4, .iconst 2, 0, 0, 0, 0),
  (5, .iload_n 1, 0, 0, 0, 0),
  (6, .invokevirtual 133, 55, 3, 0, 726),
  (9, .ifCond .ne 5, 0, 0, 0, 0),
  (12, .iconst (-1), 0, 0, 0, 0),
  (13, .ireturn, 0, 0, 0, 0),
  (14, .iload_n 2, 0, 0, 0, 0),
  (15, .tableswitch 125 0 7 #[45, 55, 65, 75, 85, 95, 105, 115], 0, 45, 0, 0),
  (60, .aload_n 0, 0, 0, 0, 0),
  (61, .getfield 29, 8, 3, 0, 519),
  (64, .getfield 167, 2, 0, 0, 332),
  (67, .iload_n 1, 0, 0, 0, 0),
  (68, .iaload, 0, 0, 0, 0),
  (69, .ireturn, 0, 0, 0, 0),
  (70, .aload_n 0, 0, 0, 0, 0),
  (71, .getfield 19, 8, 1, 0, 517),
  (74, .getfield 170, 0, 7, 0, 273),
  (77, .iload_n 1, 0, 0, 0, 0),
  (78, .iaload, 0, 0, 0, 0),
  (79, .ireturn, 0, 0, 0, 0),
  (80, .aload_n 0, 0, 0, 0, 0),
  (81, .getfield 19, 8, 1, 0, 517),
  (84, .getfield 173, 0, 8, 0, 275),
  (87, .iload_n 1, 0, 0, 0, 0),
  (88, .iaload, 0, 0, 0, 0),
  (89, .ireturn, 0, 0, 0, 0),
  (90, .aload_n 0, 0, 0, 0, 0),
  (91, .getfield 29, 8, 3, 0, 519),
  (94, .getfield 176, 2, 1, 0, 336),
  (97, .iload_n 1, 0, 0, 0, 0),
  (98, .iaload, 0, 0, 0, 0),
  (99, .ireturn, 0, 0, 0, 0),
  (100, .aload_n 0, 0, 0, 0, 0),
  (101, .getfield 19, 8, 1, 0, 517),
  (104, .getfield 179, 0, 10, 0, 279),
  (107, .iload_n 1, 0, 0, 0, 0),
  (108, .iaload, 0, 0, 0, 0),
  (109, .ireturn, 0, 0, 0, 0),
  (110, .aload_n 0, 0, 0, 0, 0),
  (111, .getfield 19, 8, 1, 0, 517),
  (114, .getfield 182, 0, 11, 0, 282),
  (117, .iload_n 1, 0, 0, 0, 0),
  (118, .iaload, 0, 0, 0, 0),
  (119, .ireturn, 0, 0, 0, 0),
  (120, .aload_n 0, 0, 0, 0, 0),
  (121, .getfield 29, 8, 3, 0, 519),
  (124, .getfield 185, 2, 2, 0, 338),
  (127, .iload_n 1, 0, 0, 0, 0),
  (128, .iaload, 0, 0, 0, 0),
  (129, .ireturn, 0, 0, 0, 0),
  (130, .aload_n 0, 0, 0, 0, 0),
  (131, .getfield 19, 8, 1, 0, 517),
  (134, .getfield 188, 0, 6, 0, 271),
  (137, .iload_n 1, 0, 0, 0, 0),
  (138, .iaload, 0, 0, 0, 0),
  (139, .ireturn, 0, 0, 0, 0),
  (140, .iconst (-1), 0, 0, 0, 0),
  (141, .ireturn, 0, 0, 0, 0)])
def nm_55 : nM := (⟨"SlipHeirs$Family", "has", "(II)Z"⟩, prog_2_method_14_code, 3, some .boolean, [729, 116, 727, 728], [
  (0, .iload_n 2, 0, 0, 0, 0),
  (1, .ifCond .lt 17, 0, 0, 0, 0),
  (4, .iload_n 2, 0, 0, 0, 0),
  (5, .aload_n 0, 0, 0, 0, 0),
  (6, .getfield 9, 0, 0, 0, 252),
  (9, .iload_n 1, 0, 0, 0, 0),
  (10, .iaload, 0, 0, 0, 0),
  (11, .if_icmp .ge 7, 0, 0, 0, 0),
  (14, .iconst 1, 0, 0, 0, 0),
  (15, .goto 4, 0, 0, 0, 0),
  (18, .iconst 0, 0, 0, 0, 0),
  (19, .ireturn, 0, 0, 0, 0)])
def nm_56 : nM := (⟨"SlipHeirs", "deed", "(II)I"⟩, prog_1_method_8_code, 3, some .int, [733, 110, 731, 732], [
  (0, .aload_n 0, 0, 0, 0, 0),
  (1, .getfield 19, 8, 1, 0, 517),
  (4, .iconst 3, 0, 0, 0, 0),
  (5, .iload_n 1, 0, 0, 0, 0),
  (6, .invokevirtual 133, 55, 3, 0, 726),
  (9, .ifCond .ne 5, 0, 0, 0, 0),
  (12, .iconst (-1), 0, 0, 0, 0),
  (13, .ireturn, 0, 0, 0, 0),
  (14, .iload_n 2, 0, 0, 0, 0),
  (15, .iconst (-1), 0, 0, 0, 0),
  (16, .if_icmp .ne 15, 0, 0, 0, 0),
  (19, .aload_n 0, 0, 0, 0, 0),
  (20, .getfield 19, 8, 1, 0, 517),
  (23, .getfield 191, 0, 12, 0, 286),
  (26, .iload_n 1, 0, 0, 0, 0),
  (27, .iaload, 0, 0, 0, 0),
  (28, .goto 12, 0, 0, 0, 0),
  (31, .aload_n 0, 0, 0, 0, 0),
  (32, .getfield 19, 8, 1, 0, 517),
  (35, .iload_n 1, 0, 0, 0, 0),
  (36, .iload_n 2, 0, 0, 0, 0),
  (37, .invokevirtual 194, 57, 3, 0, 734),
  (40, .ireturn, 0, 0, 0, 0)])
def nm_57 : nM := (⟨"SlipHeirs$Family", "stepOf", "(II)I"⟩, prog_2_method_16_code, 3, some .int, [737, 116, 735, 736], [
  (0, .iload_n 2, 0, 0, 0, 0),
  (1, .ifCond .lt 13, 0, 0, 0, 0),
  (4, .iload_n 2, 0, 0, 0, 0),
  (5, .aload_n 0, 0, 0, 0, 0),
  (6, .getfield 49, 0, 12, 0, 284),
  (9, .iload_n 1, 0, 0, 0, 0),
  (10, .iaload, 0, 0, 0, 0),
  (11, .if_icmp .lt 7, 0, 0, 0, 0),
  (14, .iconst (-1), 0, 0, 0, 0),
  (15, .goto 14, 0, 0, 0, 0),
  (18, .aload_n 0, 0, 0, 0, 0),
  (19, .getfield 52, 0, 13, 0, 287),
  (22, .iload_n 1, 0, 0, 0, 0),
  (23, .bipush 12, 0, 0, 0, 0),
  (25, .imul, 0, 0, 0, 0),
  (26, .iload_n 2, 0, 0, 0, 0),
  (27, .iadd, 0, 0, 0, 0),
  (28, .iaload, 0, 0, 0, 0),
  (29, .ireturn, 0, 0, 0, 0)])
def nm_58 : nM := (⟨"SlipHeirs", "now", "(I)I"⟩, prog_1_method_9_code, 2, some .int, [741, 110, 739, 740], [
  (0, .iload_n 1, 0, 0, 0, 0),
  (1, .tableswitch 122 0 7 #[47, 55, 63, 71, 84, 98, 106, 114], 0, 47, 0, 0),
  (48, .aload_n 0, 0, 0, 0, 0),
  (49, .getfield 29, 8, 3, 0, 519),
  (52, .getfield 198, 2, 6, 0, 346),
  (55, .ireturn, 0, 0, 0, 0),
  (56, .aload_n 0, 0, 0, 0, 0),
  (57, .getfield 29, 8, 3, 0, 519),
  (60, .getfield 201, 2, 7, 0, 349),
  (63, .ireturn, 0, 0, 0, 0),
  (64, .aload_n 0, 0, 0, 0, 0),
  (65, .getfield 29, 8, 3, 0, 519),
  (68, .getfield 204, 2, 8, 0, 351),
  (71, .ireturn, 0, 0, 0, 0),
  (72, .aload_n 0, 0, 0, 0, 0),
  (73, .getfield 29, 8, 3, 0, 519),
  (76, .aload_n 0, 0, 0, 0, 0),
  (77, .getfield 19, 8, 1, 0, 517),
  (80, .iconst (-1), 0, 0, 0, 0),
  (81, .invokevirtual 150, 59, 3, 0, 742),
  (84, .ireturn, 0, 0, 0, 0),
  (85, .aload_n 0, 0, 0, 0, 0),
  (86, .getfield 29, 8, 3, 0, 519),
  (89, .aload_n 0, 0, 0, 0, 0),
  (90, .getfield 19, 8, 1, 0, 517),
  (93, .bipush 10, 0, 0, 0, 0),
  (95, .invokevirtual 150, 59, 3, 0, 742),
  (98, .ireturn, 0, 0, 0, 0),
  (99, .aload_n 0, 0, 0, 0, 0),
  (100, .getfield 29, 8, 3, 0, 519),
  (103, .getfield 207, 2, 9, 0, 353),
  (106, .ireturn, 0, 0, 0, 0),
  (107, .aload_n 0, 0, 0, 0, 0),
  (108, .getfield 29, 8, 3, 0, 519),
  (111, .getfield 210, 2, 10, 0, 355),
  (114, .ireturn, 0, 0, 0, 0),
  (115, .aload_n 0, 0, 0, 0, 0),
  (116, .getfield 29, 8, 3, 0, 519),
  (119, .getfield 213, 2, 11, 0, 357),
  (122, .ireturn, 0, 0, 0, 0),
  (123, .iconst (-1), 0, 0, 0, 0),
  (124, .ireturn, 0, 0, 0, 0)])
def nm_59 : nM := (⟨"SlipHeirs$Life", "errorsOf", "(LSlipHeirs$Family;I)I"⟩, prog_4_method_5_code, 5, some .int, [745, 117, 743, 744], [
  (0, .iconst 0, 0, 0, 0, 0),
  (1, .istore_n 3, 0, 0, 0, 0),
  (2, .iconst 0, 0, 0, 0, 0),
  (3, .istore 4, 0, 0, 0, 0),
  (5, .iload 4, 0, 0, 0, 0),
  (7, .aload_n 1, 0, 0, 0, 0),
  (8, .getfield 67, 0, 0, 0, 254),
  (11, .iconst 2, 0, 0, 0, 0),
  (12, .iaload, 0, 0, 0, 0),
  (13, .if_icmp .ge 31, 0, 0, 0, 0),
  (16, .iload_n 3, 0, 0, 0, 0),
  (17, .aload_n 0, 0, 0, 0, 0),
  (18, .getfield 9, 2, 0, 0, 330),
  (21, .iload 4, 0, 0, 0, 0),
  (23, .iaload, 0, 0, 0, 0),
  (24, .iload_n 2, 0, 0, 0, 0),
  (25, .if_icmp .ne 10, 0, 0, 0, 0),
  (28, .iconst 1, 0, 0, 0, 0),
  (29, .iload 4, 0, 0, 0, 0),
  (31, .ishl, 0, 0, 0, 0),
  (32, .goto 4, 0, 0, 0, 0),
  (35, .iconst 0, 0, 0, 0, 0),
  (36, .ior, 0, 0, 0, 0),
  (37, .istore_n 3, 0, 0, 0, 0),
  (38, .iinc 4 1, 0, 0, 0, 0),
  (41, .goto (-36), 0, 0, 0, 0),
  (44, .iload_n 3, 0, 0, 0, 0),
  (45, .ireturn, 0, 0, 0, 0)])
def nm_60 : nM := (⟨"SlipHeirs", "act", "(II)I"⟩, prog_1_method_10_code, 3, some .int, [749, 110, 747, 748], [
  (0, .aload_n 0, 0, 0, 0, 0),
  (1, .getfield 19, 8, 1, 0, 517),
  (4, .iconst 1, 0, 0, 0, 0),
  (5, .iload_n 1, 0, 0, 0, 0),
  (6, .invokevirtual 133, 55, 3, 0, 726),
  (9, .ifCond .eq 15, 0, 0, 0, 0),
  (12, .aload_n 0, 0, 0, 0, 0),
  (13, .getfield 19, 8, 1, 0, 517),
  (16, .iconst 3, 0, 0, 0, 0),
  (17, .iload_n 2, 0, 0, 0, 0),
  (18, .invokevirtual 133, 55, 3, 0, 726),
  (21, .ifCond .ne 5, 0, 0, 0, 0),
  (24, .iconst (-1), 0, 0, 0, 0),
  (25, .ireturn, 0, 0, 0, 0),
  (26, .aload_n 0, 0, 0, 0, 0),
  (27, .getfield 29, 8, 3, 0, 519),
  (30, .iload_n 1, 0, 0, 0, 0),
  (31, .invokevirtual 146, 61, 2, 0, 750),
  (34, .ifCond .ne 5, 0, 0, 0, 0),
  (37, .iconst 1, 0, 0, 0, 0),
  (38, .ireturn, 0, 0, 0, 0),
  (39, .aload_n 0, 0, 0, 0, 0),
  (40, .getfield 56, 8, 8, 0, 524),
  (43, .aload_n 0, 0, 0, 0, 0),
  (44, .getfield 29, 8, 3, 0, 519),
  (47, .invokevirtual 216, 62, 2, 0, 754),
  (50, .aload_n 0, 0, 0, 0, 0),
  (51, .getfield 29, 8, 3, 0, 519),
  (54, .aload_n 0, 0, 0, 0, 0),
  (55, .getfield 19, 8, 1, 0, 517),
  (58, .iload_n 1, 0, 0, 0, 0),
  (59, .iload_n 2, 0, 0, 0, 0),
  (60, .invokevirtual 220, 64, 4, 0, 763),
  (63, .ireturn, 0, 0, 0, 0)])
def nm_61 : nM := (⟨"SlipHeirs$Life", "lives", "(I)Z"⟩, prog_4_method_4_code, 2, some .boolean, [753, 117, 751, 752], [
  (0, .aload_n 0, 0, 0, 0, 0),
  (1, .getfield 37, 2, 8, 0, 350),
  (4, .iload_n 1, 0, 0, 0, 0),
  (5, .ishr, 0, 0, 0, 0),
  (6, .iconst 1, 0, 0, 0, 0),
  (7, .iand, 0, 0, 0, 0),
  (8, .ifCond .ne 7, 0, 0, 0, 0),
  (11, .iconst 1, 0, 0, 0, 0),
  (12, .goto 4, 0, 0, 0, 0),
  (15, .iconst 0, 0, 0, 0, 0),
  (16, .ireturn, 0, 0, 0, 0)])
def nm_62 : nM := (⟨"SlipHeirs$Past", "keep", "(LSlipHeirs$Life;)V"⟩, prog_5_method_3_code, 2, none, [757, 120, 755, 756], [
  (0, .aload_n 0, 0, 0, 0, 0),
  (1, .getfield 11, 3, 0, 0, 442),
  (4, .aload_n 0, 0, 0, 0, 0),
  (5, .getfield 21, 3, 2, 0, 444),
  (8, .aaload, 0, 0, 0, 0),
  (9, .aload_n 1, 0, 0, 0, 0),
  (10, .invokevirtual 25, 63, 2, 0, 758),
  (13, .aload_n 0, 0, 0, 0, 0),
  (14, .aload_n 0, 0, 0, 0, 0),
  (15, .getfield 21, 3, 2, 0, 444),
  (18, .iconst 1, 0, 0, 0, 0),
  (19, .iadd, 0, 0, 0, 0),
  (20, .bipush 8, 0, 0, 0, 0),
  (22, .irem, 0, 0, 0, 0),
  (23, .putfield 21, 3, 2, 0, 444),
  (26, .aload_n 0, 0, 0, 0, 0),
  (27, .aload_n 0, 0, 0, 0, 0),
  (28, .getfield 17, 3, 1, 0, 443),
  (31, .iconst 1, 0, 0, 0, 0),
  (32, .iadd, 0, 0, 0, 0),
  (33, .bipush 8, 0, 0, 0, 0),
  (35, .invokestatic 29, 0, 2, 7, 762),
  (38, .putfield 17, 3, 1, 0, 443),
  (41, .return_, 0, 0, 0, 0)])
def nm_63 : nM := (⟨"SlipHeirs$Life", "copyFrom", "(LSlipHeirs$Life;)V"⟩, prog_4_method_3_code, 2, none, [761, 117, 759, 760], [
  (0, .aload_n 1, 0, 0, 0, 0),
  (1, .getfield 9, 2, 0, 0, 330),
  (4, .iconst 0, 0, 0, 0, 0),
  (5, .aload_n 0, 0, 0, 0, 0),
  (6, .getfield 9, 2, 0, 0, 330),
  (9, .iconst 0, 0, 0, 0, 0),
  (10, .aload_n 0, 0, 0, 0, 0),
  (11, .getfield 9, 2, 0, 0, 330),
  (14, .arraylength, 0, 0, 0, 0),
  (15, .invokestatic 54, 0, 5, 5, 708),
  (18, .aload_n 1, 0, 0, 0, 0),
  (19, .getfield 15, 2, 1, 0, 334),
  (22, .iconst 0, 0, 0, 0, 0),
  (23, .aload_n 0, 0, 0, 0, 0),
  (24, .getfield 15, 2, 1, 0, 334),
  (27, .iconst 0, 0, 0, 0, 0),
  (28, .aload_n 0, 0, 0, 0, 0),
  (29, .getfield 15, 2, 1, 0, 334),
  (32, .arraylength, 0, 0, 0, 0),
  (33, .invokestatic 54, 0, 5, 5, 708),
  (36, .aload_n 1, 0, 0, 0, 0),
  (37, .getfield 18, 2, 2, 0, 337),
  (40, .iconst 0, 0, 0, 0, 0),
  (41, .aload_n 0, 0, 0, 0, 0),
  (42, .getfield 18, 2, 2, 0, 337),
  (45, .iconst 0, 0, 0, 0, 0),
  (46, .aload_n 0, 0, 0, 0, 0),
  (47, .getfield 18, 2, 2, 0, 337),
  (50, .arraylength, 0, 0, 0, 0),
  (51, .invokestatic 54, 0, 5, 5, 708),
  (54, .aload_n 1, 0, 0, 0, 0),
  (55, .getfield 21, 2, 3, 0, 339),
  (58, .iconst 0, 0, 0, 0, 0),
  (59, .aload_n 0, 0, 0, 0, 0),
  (60, .getfield 21, 2, 3, 0, 339),
  (63, .iconst 0, 0, 0, 0, 0),
  (64, .aload_n 0, 0, 0, 0, 0),
  (65, .getfield 21, 2, 3, 0, 339),
  (68, .arraylength, 0, 0, 0, 0),
  (69, .invokestatic 54, 0, 5, 5, 708),
  (72, .aload_n 1, 0, 0, 0, 0),
  (73, .getfield 24, 2, 4, 0, 342),
  (76, .iconst 0, 0, 0, 0, 0),
  (77, .aload_n 0, 0, 0, 0, 0),
  (78, .getfield 24, 2, 4, 0, 342),
  (81, .iconst 0, 0, 0, 0, 0),
  (82, .aload_n 0, 0, 0, 0, 0),
  (83, .getfield 24, 2, 4, 0, 342),
  (86, .arraylength, 0, 0, 0, 0),
  (87, .invokestatic 54, 0, 5, 5, 708),
  (90, .aload_n 0, 0, 0, 0, 0),
  (91, .aload_n 1, 0, 0, 0, 0),
  (92, .getfield 27, 2, 5, 0, 343),
  (95, .putfield 27, 2, 5, 0, 343),
  (98, .aload_n 0, 0, 0, 0, 0),
  (99, .aload_n 1, 0, 0, 0, 0),
  (100, .getfield 31, 2, 6, 0, 345),
  (103, .putfield 31, 2, 6, 0, 345),
  (106, .aload_n 0, 0, 0, 0, 0),
  (107, .aload_n 1, 0, 0, 0, 0),
  (108, .getfield 34, 2, 7, 0, 348),
  (111, .putfield 34, 2, 7, 0, 348),
  (114, .aload_n 0, 0, 0, 0, 0),
  (115, .aload_n 1, 0, 0, 0, 0),
  (116, .getfield 37, 2, 8, 0, 350),
  (119, .putfield 37, 2, 8, 0, 350),
  (122, .aload_n 0, 0, 0, 0, 0),
  (123, .aload_n 1, 0, 0, 0, 0),
  (124, .getfield 40, 2, 9, 0, 352),
  (127, .putfield 40, 2, 9, 0, 352),
  (130, .aload_n 0, 0, 0, 0, 0),
  (131, .aload_n 1, 0, 0, 0, 0),
  (132, .getfield 43, 2, 10, 0, 354),
  (135, .putfield 43, 2, 10, 0, 354),
  (138, .aload_n 0, 0, 0, 0, 0),
  (139, .aload_n 1, 0, 0, 0, 0),
  (140, .getfield 46, 2, 11, 0, 356),
  (143, .putfield 46, 2, 11, 0, 356),
  (146, .return_, 0, 0, 0, 0)])
def nm_64 : nM := (⟨"SlipHeirs$Life", "perform", "(LSlipHeirs$Family;II)I"⟩, prog_4_method_8_code, 7, some .int, [766, 117, 764, 765], [
  (0, .aload_n 0, 0, 0, 0, 0),
  (1, .iload_n 2, 0, 0, 0, 0),
  (2, .invokevirtual 74, 61, 2, 0, 767),
  (5, .ifCond .ne 5, 0, 0, 0, 0),
  (8, .iconst 1, 0, 0, 0, 0),
  (9, .ireturn, 0, 0, 0, 0),
  (10, .aload_n 0, 0, 0, 0, 0),
  (11, .aload_n 1, 0, 0, 0, 0),
  (12, .getfield 78, 0, 12, 0, 285),
  (15, .iload_n 3, 0, 0, 0, 0),
  (16, .iaload, 0, 0, 0, 0),
  (17, .putfield 27, 2, 5, 0, 343),
  (20, .iconst 0, 0, 0, 0, 0),
  (21, .istore 4, 0, 0, 0, 0),
  (23, .iload 4, 0, 0, 0, 0),
  (25, .aload_n 0, 0, 0, 0, 0),
  (26, .getfield 27, 2, 5, 0, 343),
  (29, .if_icmp .ge 75, 0, 0, 0, 0),
  (32, .aload_n 1, 0, 0, 0, 0),
  (33, .aload_n 0, 0, 0, 0, 0),
  (34, .aload_n 1, 0, 0, 0, 0),
  (35, .iload_n 2, 0, 0, 0, 0),
  (36, .invokevirtual 81, 59, 3, 0, 768),
  (39, .aload_n 1, 0, 0, 0, 0),
  (40, .iload_n 3, 0, 0, 0, 0),
  (41, .iload 4, 0, 0, 0, 0),
  (43, .invokevirtual 70, 57, 3, 0, 769),
  (46, .invokevirtual 85, 65, 3, 0, 770),
  (49, .istore 5, 0, 0, 0, 0),
  (51, .aload_n 0, 0, 0, 0, 0),
  (52, .getfield 24, 2, 4, 0, 342),
  (55, .iload 4, 0, 0, 0, 0),
  (57, .iload 5, 0, 0, 0, 0),
  (59, .bipush 8, 0, 0, 0, 0),
  (61, .ishr, 0, 0, 0, 0),
  (62, .iastore, 0, 0, 0, 0),
  (63, .iconst 0, 0, 0, 0, 0),
  (64, .istore 6, 0, 0, 0, 0),
  (66, .iload 6, 0, 0, 0, 0),
  (68, .bipush 6, 0, 0, 0, 0),
  (70, .if_icmp .ge 28, 0, 0, 0, 0),
  (73, .iload 5, 0, 0, 0, 0),
  (75, .iload 6, 0, 0, 0, 0),
  (77, .ishr, 0, 0, 0, 0),
  (78, .iconst 1, 0, 0, 0, 0),
  (79, .iand, 0, 0, 0, 0),
  (80, .iconst 1, 0, 0, 0, 0),
  (81, .if_icmp .ne 11, 0, 0, 0, 0),
  (84, .aload_n 0, 0, 0, 0, 0),
  (85, .aload_n 1, 0, 0, 0, 0),
  (86, .iload_n 2, 0, 0, 0, 0),
  (87, .iload 6, 0, 0, 0, 0),
  (89, .invokevirtual 88, 66, 4, 0, 774),
  (92, .iinc 6 1, 0, 0, 0, 0),
  (95, .goto (-29), 0, 0, 0, 0),
  (98, .iinc 4 1, 0, 0, 0, 0),
  (101, .goto (-78), 0, 0, 0, 0),
  (104, .aload_n 0, 0, 0, 0, 0),
  (105, .dup, 0, 0, 0, 0),
  (106, .getfield 40, 2, 9, 0, 352),
  (109, .iconst 1, 0, 0, 0, 0),
  (110, .iadd, 0, 0, 0, 0),
  (111, .putfield 40, 2, 9, 0, 352),
  (114, .aload_n 0, 0, 0, 0, 0),
  (115, .dup, 0, 0, 0, 0),
  (116, .getfield 43, 2, 10, 0, 354),
  (119, .aload_n 0, 0, 0, 0, 0),
  (120, .aload_n 1, 0, 0, 0, 0),
  (121, .iload_n 3, 0, 0, 0, 0),
  (122, .invokevirtual 92, 67, 3, 0, 778),
  (125, .ifCond .ne 7, 0, 0, 0, 0),
  (128, .iconst 1, 0, 0, 0, 0),
  (129, .goto 4, 0, 0, 0, 0),
  (132, .iconst 0, 0, 0, 0, 0),
  (133, .iadd, 0, 0, 0, 0),
  (134, .putfield 43, 2, 10, 0, 354),
  (137, .iconst 0, 0, 0, 0, 0),
  (138, .ireturn, 0, 0, 0, 0)])
def nm_65 : nM := (⟨"SlipHeirs$Family", "slip", "(II)I"⟩, prog_2_method_22_code, 6, some .int, [773, 116, 771, 772], [
  (0, .iload_n 2, 0, 0, 0, 0),
  (1, .istore_n 3, 0, 0, 0, 0),
  (2, .iconst 0, 0, 0, 0, 0),
  (3, .istore 4, 0, 0, 0, 0),
  (5, .iconst 0, 0, 0, 0, 0),
  (6, .istore 5, 0, 0, 0, 0),
  (8, .iload 5, 0, 0, 0, 0),
  (10, .aload_n 0, 0, 0, 0, 0),
  (11, .getfield 9, 0, 0, 0, 252),
  (14, .iconst 2, 0, 0, 0, 0),
  (15, .iaload, 0, 0, 0, 0),
  (16, .if_icmp .ge 47, 0, 0, 0, 0),
  (19, .iload_n 1, 0, 0, 0, 0),
  (20, .iload 5, 0, 0, 0, 0),
  (22, .ishr, 0, 0, 0, 0),
  (23, .iconst 1, 0, 0, 0, 0),
  (24, .iand, 0, 0, 0, 0),
  (25, .iconst 1, 0, 0, 0, 0),
  (26, .if_icmp .ne 31, 0, 0, 0, 0),
  (29, .aload_n 0, 0, 0, 0, 0),
  (30, .getfield 34, 0, 7, 0, 272),
  (33, .iload 5, 0, 0, 0, 0),
  (35, .iaload, 0, 0, 0, 0),
  (36, .iload_n 3, 0, 0, 0, 0),
  (37, .if_icmp .ne 20, 0, 0, 0, 0),
  (40, .aload_n 0, 0, 0, 0, 0),
  (41, .getfield 37, 0, 8, 0, 274),
  (44, .iload 5, 0, 0, 0, 0),
  (46, .iaload, 0, 0, 0, 0),
  (47, .istore_n 3, 0, 0, 0, 0),
  (48, .iload 4, 0, 0, 0, 0),
  (50, .iconst 1, 0, 0, 0, 0),
  (51, .iload 5, 0, 0, 0, 0),
  (53, .ishl, 0, 0, 0, 0),
  (54, .ior, 0, 0, 0, 0),
  (55, .istore 4, 0, 0, 0, 0),
  (57, .iinc 5 1, 0, 0, 0, 0),
  (60, .goto (-52), 0, 0, 0, 0),
  (63, .iload_n 3, 0, 0, 0, 0),
  (64, .bipush 8, 0, 0, 0, 0),
  (66, .ishl, 0, 0, 0, 0),
  (67, .iload 4, 0, 0, 0, 0),
  (69, .ior, 0, 0, 0, 0),
  (70, .ireturn, 0, 0, 0, 0)])
def nm_66 : nM := (⟨"SlipHeirs$Life", "makeError", "(LSlipHeirs$Family;II)V"⟩, prog_4_method_9_code, 4, none, [777, 117, 776, 14], [
  (0, .aload_n 0, 0, 0, 0, 0),
  (1, .getfield 18, 2, 2, 0, 337),
  (4, .iload_n 3, 0, 0, 0, 0),
  (5, .dup2, 0, 0, 0, 0),
  (6, .iaload, 0, 0, 0, 0),
  (7, .iconst 1, 0, 0, 0, 0),
  (8, .iadd, 0, 0, 0, 0),
  (9, .iastore, 0, 0, 0, 0),
  (10, .aload_n 0, 0, 0, 0, 0),
  (11, .getfield 21, 2, 3, 0, 339),
  (14, .iload_n 2, 0, 0, 0, 0),
  (15, .dup2, 0, 0, 0, 0),
  (16, .iaload, 0, 0, 0, 0),
  (17, .iconst 1, 0, 0, 0, 0),
  (18, .iadd, 0, 0, 0, 0),
  (19, .iastore, 0, 0, 0, 0),
  (20, .aload_n 0, 0, 0, 0, 0),
  (21, .dup, 0, 0, 0, 0),
  (22, .getfield 34, 2, 7, 0, 348),
  (25, .aload_n 1, 0, 0, 0, 0),
  (26, .getfield 95, 0, 11, 0, 283),
  (29, .iload_n 3, 0, 0, 0, 0),
  (30, .iaload, 0, 0, 0, 0),
  (31, .aload_n 1, 0, 0, 0, 0),
  (32, .getfield 98, 0, 10, 0, 280),
  (35, .iload_n 3, 0, 0, 0, 0),
  (36, .iaload, 0, 0, 0, 0),
  (37, .aload_n 1, 0, 0, 0, 0),
  (38, .getfield 101, 0, 5, 0, 268),
  (41, .iload_n 2, 0, 0, 0, 0),
  (42, .iaload, 0, 0, 0, 0),
  (43, .imul, 0, 0, 0, 0),
  (44, .isub, 0, 0, 0, 0),
  (45, .iadd, 0, 0, 0, 0),
  (46, .putfield 34, 2, 7, 0, 348),
  (49, .aload_n 0, 0, 0, 0, 0),
  (50, .getfield 15, 2, 1, 0, 334),
  (53, .iload_n 3, 0, 0, 0, 0),
  (54, .dup2, 0, 0, 0, 0),
  (55, .iaload, 0, 0, 0, 0),
  (56, .iconst 1, 0, 0, 0, 0),
  (57, .isub, 0, 0, 0, 0),
  (58, .iastore, 0, 0, 0, 0),
  (59, .aload_n 0, 0, 0, 0, 0),
  (60, .getfield 15, 2, 1, 0, 334),
  (63, .iload_n 3, 0, 0, 0, 0),
  (64, .iaload, 0, 0, 0, 0),
  (65, .ifCond .ne 33, 0, 0, 0, 0),
  (68, .aload_n 0, 0, 0, 0, 0),
  (69, .getfield 9, 2, 0, 0, 330),
  (72, .iload_n 3, 0, 0, 0, 0),
  (73, .iconst (-1), 0, 0, 0, 0),
  (74, .iastore, 0, 0, 0, 0),
  (75, .aload_n 0, 0, 0, 0, 0),
  (76, .aload_n 0, 0, 0, 0, 0),
  (77, .getfield 46, 2, 11, 0, 356),
  (80, .iconst (-1), 0, 0, 0, 0),
  (81, .if_icmp .ne 10, 0, 0, 0, 0),
  (84, .aload_n 0, 0, 0, 0, 0),
  (85, .getfield 31, 2, 6, 0, 345),
  (88, .goto 7, 0, 0, 0, 0),
  (91, .aload_n 0, 0, 0, 0, 0),
  (92, .getfield 46, 2, 11, 0, 356),
  (95, .putfield 46, 2, 11, 0, 356),
  (98, .return_, 0, 0, 0, 0)])
def nm_67 : nM := (⟨"SlipHeirs$Life", "unlike", "(LSlipHeirs$Family;I)I"⟩, prog_4_method_7_code, 5, some .int, [781, 117, 779, 780], [
  (0, .iconst 0, 0, 0, 0, 0),
  (1, .istore_n 3, 0, 0, 0, 0),
  (2, .iconst 0, 0, 0, 0, 0),
  (3, .istore 4, 0, 0, 0, 0),
  (5, .iload 4, 0, 0, 0, 0),
  (7, .aload_n 0, 0, 0, 0, 0),
  (8, .getfield 27, 2, 5, 0, 343),
  (11, .if_icmp .ge 34, 0, 0, 0, 0),
  (14, .iload_n 3, 0, 0, 0, 0),
  (15, .aload_n 0, 0, 0, 0, 0),
  (16, .getfield 24, 2, 4, 0, 342),
  (19, .iload 4, 0, 0, 0, 0),
  (21, .iaload, 0, 0, 0, 0),
  (22, .aload_n 1, 0, 0, 0, 0),
  (23, .iload_n 2, 0, 0, 0, 0),
  (24, .iload 4, 0, 0, 0, 0),
  (26, .invokevirtual 70, 57, 3, 0, 769),
  (29, .if_icmp .eq 7, 0, 0, 0, 0),
  (32, .iconst 1, 0, 0, 0, 0),
  (33, .goto 4, 0, 0, 0, 0),
  (36, .iconst 0, 0, 0, 0, 0),
  (37, .iadd, 0, 0, 0, 0),
  (38, .istore_n 3, 0, 0, 0, 0),
  (39, .iinc 4 1, 0, 0, 0, 0),
  (42, .goto (-37), 0, 0, 0, 0),
  (45, .iload_n 3, 0, 0, 0, 0),
  (46, .ireturn, 0, 0, 0, 0)])
def nm_68 : nM := (⟨"SlipHeirs", "die", "(I)I"⟩, prog_1_method_11_code, 2, some .int, [785, 110, 783, 784], [
  (0, .aload_n 0, 0, 0, 0, 0),
  (1, .getfield 19, 8, 1, 0, 517),
  (4, .iconst 1, 0, 0, 0, 0),
  (5, .iload_n 1, 0, 0, 0, 0),
  (6, .invokevirtual 133, 55, 3, 0, 726),
  (9, .ifCond .ne 5, 0, 0, 0, 0),
  (12, .iconst (-1), 0, 0, 0, 0),
  (13, .ireturn, 0, 0, 0, 0),
  (14, .aload_n 0, 0, 0, 0, 0),
  (15, .getfield 29, 8, 3, 0, 519),
  (18, .iload_n 1, 0, 0, 0, 0),
  (19, .invokevirtual 146, 61, 2, 0, 750),
  (22, .ifCond .ne 5, 0, 0, 0, 0),
  (25, .iconst 1, 0, 0, 0, 0),
  (26, .ireturn, 0, 0, 0, 0),
  (27, .aload_n 0, 0, 0, 0, 0),
  (28, .getfield 56, 8, 8, 0, 524),
  (31, .aload_n 0, 0, 0, 0, 0),
  (32, .getfield 29, 8, 3, 0, 519),
  (35, .invokevirtual 216, 62, 2, 0, 754),
  (38, .aload_n 0, 0, 0, 0, 0),
  (39, .getfield 29, 8, 3, 0, 519),
  (42, .aload_n 0, 0, 0, 0, 0),
  (43, .getfield 19, 8, 1, 0, 517),
  (46, .iload_n 1, 0, 0, 0, 0),
  (47, .invokevirtual 224, 69, 3, 0, 786),
  (50, .ireturn, 0, 0, 0, 0)])
def nm_69 : nM := (⟨"SlipHeirs$Life", "bury", "(LSlipHeirs$Family;I)I"⟩, prog_4_method_10_code, 5, some .int, [789, 117, 787, 788], [
  (0, .aload_n 0, 0, 0, 0, 0),
  (1, .iload_n 2, 0, 0, 0, 0),
  (2, .invokevirtual 74, 61, 2, 0, 767),
  (5, .ifCond .ne 5, 0, 0, 0, 0),
  (8, .iconst 1, 0, 0, 0, 0),
  (9, .ireturn, 0, 0, 0, 0),
  (10, .aload_n 1, 0, 0, 0, 0),
  (11, .iload_n 2, 0, 0, 0, 0),
  (12, .aload_n 0, 0, 0, 0, 0),
  (13, .getfield 37, 2, 8, 0, 350),
  (16, .invokevirtual 104, 70, 3, 0, 790),
  (19, .istore_n 3, 0, 0, 0, 0),
  (20, .iconst 0, 0, 0, 0, 0),
  (21, .istore 4, 0, 0, 0, 0),
  (23, .iload 4, 0, 0, 0, 0),
  (25, .aload_n 1, 0, 0, 0, 0),
  (26, .getfield 67, 0, 0, 0, 254),
  (29, .iconst 2, 0, 0, 0, 0),
  (30, .iaload, 0, 0, 0, 0),
  (31, .if_icmp .ge 28, 0, 0, 0, 0),
  (34, .aload_n 0, 0, 0, 0, 0),
  (35, .getfield 9, 2, 0, 0, 330),
  (38, .iload 4, 0, 0, 0, 0),
  (40, .iaload, 0, 0, 0, 0),
  (41, .iload_n 2, 0, 0, 0, 0),
  (42, .if_icmp .ne 11, 0, 0, 0, 0),
  (45, .aload_n 0, 0, 0, 0, 0),
  (46, .getfield 9, 2, 0, 0, 330),
  (49, .iload 4, 0, 0, 0, 0),
  (51, .iload_n 3, 0, 0, 0, 0),
  (52, .iastore, 0, 0, 0, 0),
  (53, .iinc 4 1, 0, 0, 0, 0),
  (56, .goto (-33), 0, 0, 0, 0),
  (59, .aload_n 0, 0, 0, 0, 0),
  (60, .dup, 0, 0, 0, 0),
  (61, .getfield 37, 2, 8, 0, 350),
  (64, .iconst 1, 0, 0, 0, 0),
  (65, .iload_n 2, 0, 0, 0, 0),
  (66, .ishl, 0, 0, 0, 0),
  (67, .ior, 0, 0, 0, 0),
  (68, .putfield 37, 2, 8, 0, 350),
  (71, .iconst 0, 0, 0, 0, 0),
  (72, .ireturn, 0, 0, 0, 0)])
def nm_70 : nM := (⟨"SlipHeirs$Family", "heirOf", "(II)I"⟩, prog_2_method_19_code, 6, some .int, [793, 116, 791, 792], [
  (0, .iload_n 1, 0, 0, 0, 0),
  (1, .istore_n 3, 0, 0, 0, 0),
  (2, .iconst 0, 0, 0, 0, 0),
  (3, .istore 4, 0, 0, 0, 0),
  (5, .iload 4, 0, 0, 0, 0),
  (7, .bipush 10, 0, 0, 0, 0),
  (9, .if_icmp .ge 53, 0, 0, 0, 0),
  (12, .iload_n 3, 0, 0, 0, 0),
  (13, .iconst (-1), 0, 0, 0, 0),
  (14, .if_icmp .eq 48, 0, 0, 0, 0),
  (17, .aload_n 0, 0, 0, 0, 0),
  (18, .aload_n 0, 0, 0, 0, 0),
  (19, .iload_n 3, 0, 0, 0, 0),
  (20, .invokevirtual 149, 71, 2, 0, 794),
  (23, .iload_n 2, 0, 0, 0, 0),
  (24, .iconst (-1), 0, 0, 0, 0),
  (25, .ixor, 0, 0, 0, 0),
  (26, .iand, 0, 0, 0, 0),
  (27, .invokevirtual 153, 72, 2, 0, 798),
  (30, .istore 5, 0, 0, 0, 0),
  (32, .iload 5, 0, 0, 0, 0),
  (34, .iconst (-1), 0, 0, 0, 0),
  (35, .if_icmp .eq 6, 0, 0, 0, 0),
  (38, .iload 5, 0, 0, 0, 0),
  (40, .ireturn, 0, 0, 0, 0),
  (41, .aload_n 0, 0, 0, 0, 0),
  (42, .aload_n 0, 0, 0, 0, 0),
  (43, .aload_n 0, 0, 0, 0, 0),
  (44, .iload_n 3, 0, 0, 0, 0),
  (45, .invokevirtual 149, 71, 2, 0, 794),
  (48, .iload_n 2, 0, 0, 0, 0),
  (49, .invokevirtual 156, 73, 3, 0, 802),
  (52, .invokevirtual 153, 72, 2, 0, 798),
  (55, .istore_n 3, 0, 0, 0, 0),
  (56, .iinc 4 1, 0, 0, 0, 0),
  (59, .goto (-54), 0, 0, 0, 0),
  (62, .aload_n 0, 0, 0, 0, 0),
  (63, .getfield 25, 0, 4, 0, 263),
  (66, .iload_n 1, 0, 0, 0, 0),
  (67, .iaload, 0, 0, 0, 0),
  (68, .istore 4, 0, 0, 0, 0),
  (70, .iload 4, 0, 0, 0, 0),
  (72, .iconst (-1), 0, 0, 0, 0),
  (73, .if_icmp .eq 17, 0, 0, 0, 0),
  (76, .iload_n 2, 0, 0, 0, 0),
  (77, .iload 4, 0, 0, 0, 0),
  (79, .ishr, 0, 0, 0, 0),
  (80, .iconst 1, 0, 0, 0, 0),
  (81, .iand, 0, 0, 0, 0),
  (82, .ifCond .ne 8, 0, 0, 0, 0),
  (85, .iload 4, 0, 0, 0, 0),
  (87, .goto 5, 0, 0, 0, 0),
  (90, .bipush 10, 0, 0, 0, 0),
  (92, .ireturn, 0, 0, 0, 0)])
def nm_71 : nM := (⟨"SlipHeirs$Family", "childrenOf", "(I)I"⟩, prog_2_method_17_code, 4, some .int, [797, 116, 795, 796], [
  (0, .iconst 0, 0, 0, 0, 0),
  (1, .istore_n 2, 0, 0, 0, 0),
  (2, .iconst 0, 0, 0, 0, 0),
  (3, .istore_n 3, 0, 0, 0, 0),
  (4, .iload_n 3, 0, 0, 0, 0),
  (5, .aload_n 0, 0, 0, 0, 0),
  (6, .getfield 9, 0, 0, 0, 252),
  (9, .iconst 1, 0, 0, 0, 0),
  (10, .iaload, 0, 0, 0, 0),
  (11, .if_icmp .ge 29, 0, 0, 0, 0),
  (14, .iload_n 2, 0, 0, 0, 0),
  (15, .aload_n 0, 0, 0, 0, 0),
  (16, .getfield 22, 0, 3, 0, 261),
  (19, .iload_n 3, 0, 0, 0, 0),
  (20, .iaload, 0, 0, 0, 0),
  (21, .iload_n 1, 0, 0, 0, 0),
  (22, .if_icmp .ne 9, 0, 0, 0, 0),
  (25, .iconst 1, 0, 0, 0, 0),
  (26, .iload_n 3, 0, 0, 0, 0),
  (27, .ishl, 0, 0, 0, 0),
  (28, .goto 4, 0, 0, 0, 0),
  (31, .iconst 0, 0, 0, 0, 0),
  (32, .ior, 0, 0, 0, 0),
  (33, .istore_n 2, 0, 0, 0, 0),
  (34, .iinc 3 1, 0, 0, 0, 0),
  (37, .goto (-33), 0, 0, 0, 0),
  (40, .iload_n 2, 0, 0, 0, 0),
  (41, .ireturn, 0, 0, 0, 0)])
def nm_72 : nM := (⟨"SlipHeirs$Family", "eldest", "(I)I"⟩, prog_2_method_20_code, 4, some .int, [801, 116, 800, 15], [
  (0, .iconst (-1), 0, 0, 0, 0),
  (1, .istore_n 2, 0, 0, 0, 0),
  (2, .iconst 0, 0, 0, 0, 0),
  (3, .istore_n 3, 0, 0, 0, 0),
  (4, .iload_n 3, 0, 0, 0, 0),
  (5, .aload_n 0, 0, 0, 0, 0),
  (6, .getfield 9, 0, 0, 0, 252),
  (9, .iconst 1, 0, 0, 0, 0),
  (10, .iaload, 0, 0, 0, 0),
  (11, .if_icmp .ge 40, 0, 0, 0, 0),
  (14, .iload_n 1, 0, 0, 0, 0),
  (15, .iload_n 3, 0, 0, 0, 0),
  (16, .ishr, 0, 0, 0, 0),
  (17, .iconst 1, 0, 0, 0, 0),
  (18, .iand, 0, 0, 0, 0),
  (19, .iconst 1, 0, 0, 0, 0),
  (20, .if_icmp .ne 25, 0, 0, 0, 0),
  (23, .iload_n 2, 0, 0, 0, 0),
  (24, .iconst (-1), 0, 0, 0, 0),
  (25, .if_icmp .eq 18, 0, 0, 0, 0),
  (28, .aload_n 0, 0, 0, 0, 0),
  (29, .getfield 19, 0, 2, 0, 258),
  (32, .iload_n 3, 0, 0, 0, 0),
  (33, .iaload, 0, 0, 0, 0),
  (34, .aload_n 0, 0, 0, 0, 0),
  (35, .getfield 19, 0, 2, 0, 258),
  (38, .iload_n 2, 0, 0, 0, 0),
  (39, .iaload, 0, 0, 0, 0),
  (40, .if_icmp .ge 5, 0, 0, 0, 0),
  (43, .iload_n 3, 0, 0, 0, 0),
  (44, .istore_n 2, 0, 0, 0, 0),
  (45, .iinc 3 1, 0, 0, 0, 0),
  (48, .goto (-44), 0, 0, 0, 0),
  (51, .iload_n 2, 0, 0, 0, 0),
  (52, .ireturn, 0, 0, 0, 0)])
def nm_73 : nM := (⟨"SlipHeirs$Family", "withLiving", "(II)I"⟩, prog_2_method_21_code, 5, some .int, [805, 116, 804, 16], [
  (0, .iconst 0, 0, 0, 0, 0),
  (1, .istore_n 3, 0, 0, 0, 0),
  (2, .iconst 0, 0, 0, 0, 0),
  (3, .istore 4, 0, 0, 0, 0),
  (5, .iload 4, 0, 0, 0, 0),
  (7, .aload_n 0, 0, 0, 0, 0),
  (8, .getfield 9, 0, 0, 0, 252),
  (11, .iconst 1, 0, 0, 0, 0),
  (12, .iaload, 0, 0, 0, 0),
  (13, .if_icmp .ge 39, 0, 0, 0, 0),
  (16, .iload_n 1, 0, 0, 0, 0),
  (17, .iload 4, 0, 0, 0, 0),
  (19, .ishr, 0, 0, 0, 0),
  (20, .iconst 1, 0, 0, 0, 0),
  (21, .iand, 0, 0, 0, 0),
  (22, .iconst 1, 0, 0, 0, 0),
  (23, .if_icmp .ne 23, 0, 0, 0, 0),
  (26, .aload_n 0, 0, 0, 0, 0),
  (27, .iload 4, 0, 0, 0, 0),
  (29, .invokevirtual 160, 74, 2, 0, 806),
  (32, .iload_n 2, 0, 0, 0, 0),
  (33, .iconst (-1), 0, 0, 0, 0),
  (34, .ixor, 0, 0, 0, 0),
  (35, .iand, 0, 0, 0, 0),
  (36, .ifCond .eq 10, 0, 0, 0, 0),
  (39, .iload_n 3, 0, 0, 0, 0),
  (40, .iconst 1, 0, 0, 0, 0),
  (41, .iload 4, 0, 0, 0, 0),
  (43, .ishl, 0, 0, 0, 0),
  (44, .ior, 0, 0, 0, 0),
  (45, .istore_n 3, 0, 0, 0, 0),
  (46, .iinc 4 1, 0, 0, 0, 0),
  (49, .goto (-44), 0, 0, 0, 0),
  (52, .iload_n 3, 0, 0, 0, 0),
  (53, .ireturn, 0, 0, 0, 0)])
def nm_74 : nM := (⟨"SlipHeirs$Family", "underOf", "(I)I"⟩, prog_2_method_18_code, 4, some .int, [809, 116, 807, 808], [
  (0, .iconst 0, 0, 0, 0, 0),
  (1, .istore_n 2, 0, 0, 0, 0),
  (2, .iload_n 1, 0, 0, 0, 0),
  (3, .iconst 1, 0, 0, 0, 0),
  (4, .iadd, 0, 0, 0, 0),
  (5, .istore_n 3, 0, 0, 0, 0),
  (6, .iload_n 3, 0, 0, 0, 0),
  (7, .aload_n 0, 0, 0, 0, 0),
  (8, .getfield 9, 0, 0, 0, 252),
  (11, .iconst 1, 0, 0, 0, 0),
  (12, .iaload, 0, 0, 0, 0),
  (13, .if_icmp .ge 49, 0, 0, 0, 0),
  (16, .aload_n 0, 0, 0, 0, 0),
  (17, .getfield 22, 0, 3, 0, 261),
  (20, .iload_n 3, 0, 0, 0, 0),
  (21, .iaload, 0, 0, 0, 0),
  (22, .iload_n 1, 0, 0, 0, 0),
  (23, .if_icmp .eq 27, 0, 0, 0, 0),
  (26, .aload_n 0, 0, 0, 0, 0),
  (27, .getfield 22, 0, 3, 0, 261),
  (30, .iload_n 3, 0, 0, 0, 0),
  (31, .iaload, 0, 0, 0, 0),
  (32, .iconst (-1), 0, 0, 0, 0),
  (33, .if_icmp .eq 23, 0, 0, 0, 0),
  (36, .iload_n 2, 0, 0, 0, 0),
  (37, .aload_n 0, 0, 0, 0, 0),
  (38, .getfield 22, 0, 3, 0, 261),
  (41, .iload_n 3, 0, 0, 0, 0),
  (42, .iaload, 0, 0, 0, 0),
  (43, .ishr, 0, 0, 0, 0),
  (44, .iconst 1, 0, 0, 0, 0),
  (45, .iand, 0, 0, 0, 0),
  (46, .iconst 1, 0, 0, 0, 0),
  (47, .if_icmp .ne 9, 0, 0, 0, 0),
  (50, .iload_n 2, 0, 0, 0, 0),
  (51, .iconst 1, 0, 0, 0, 0),
  (52, .iload_n 3, 0, 0, 0, 0),
  (53, .ishl, 0, 0, 0, 0),
  (54, .ior, 0, 0, 0, 0),
  (55, .istore_n 2, 0, 0, 0, 0),
  (56, .iinc 3 1, 0, 0, 0, 0),
  (59, .goto (-53), 0, 0, 0, 0),
  (62, .iload_n 2, 0, 0, 0, 0),
  (63, .ireturn, 0, 0, 0, 0)])
def nm_75 : nM := (⟨"SlipHeirs", "give", "(II)I"⟩, prog_1_method_12_code, 4, some .int, [813, 110, 811, 812], [
  (0, .aload_n 0, 0, 0, 0, 0),
  (1, .getfield 19, 8, 1, 0, 517),
  (4, .iconst 2, 0, 0, 0, 0),
  (5, .iload_n 1, 0, 0, 0, 0),
  (6, .invokevirtual 133, 55, 3, 0, 726),
  (9, .ifCond .eq 15, 0, 0, 0, 0),
  (12, .aload_n 0, 0, 0, 0, 0),
  (13, .getfield 19, 8, 1, 0, 517),
  (16, .iconst 1, 0, 0, 0, 0),
  (17, .iload_n 2, 0, 0, 0, 0),
  (18, .invokevirtual 133, 55, 3, 0, 726),
  (21, .ifCond .ne 5, 0, 0, 0, 0),
  (24, .iconst (-1), 0, 0, 0, 0),
  (25, .ireturn, 0, 0, 0, 0),
  (26, .aload_n 0, 0, 0, 0, 0),
  (27, .getfield 29, 8, 3, 0, 519),
  (30, .aload_n 0, 0, 0, 0, 0),
  (31, .getfield 19, 8, 1, 0, 517),
  (34, .iload_n 1, 0, 0, 0, 0),
  (35, .iload_n 2, 0, 0, 0, 0),
  (36, .invokevirtual 227, 76, 4, 0, 814),
  (39, .istore_n 3, 0, 0, 0, 0),
  (40, .iload_n 3, 0, 0, 0, 0),
  (41, .ifCond .eq 5, 0, 0, 0, 0),
  (44, .iload_n 3, 0, 0, 0, 0),
  (45, .ireturn, 0, 0, 0, 0),
  (46, .aload_n 0, 0, 0, 0, 0),
  (47, .getfield 56, 8, 8, 0, 524),
  (50, .aload_n 0, 0, 0, 0, 0),
  (51, .getfield 29, 8, 3, 0, 519),
  (54, .invokevirtual 216, 62, 2, 0, 754),
  (57, .aload_n 0, 0, 0, 0, 0),
  (58, .getfield 29, 8, 3, 0, 519),
  (61, .aload_n 0, 0, 0, 0, 0),
  (62, .getfield 19, 8, 1, 0, 517),
  (65, .iload_n 1, 0, 0, 0, 0),
  (66, .iload_n 2, 0, 0, 0, 0),
  (67, .invokevirtual 230, 77, 4, 0, 818),
  (70, .ireturn, 0, 0, 0, 0)])
def nm_76 : nM := (⟨"SlipHeirs$Life", "whyNotGiven", "(LSlipHeirs$Family;II)I"⟩, prog_4_method_11_code, 5, some .int, [817, 117, 815, 816], [
  (0, .aload_n 0, 0, 0, 0, 0),
  (1, .getfield 9, 2, 0, 0, 330),
  (4, .iload_n 2, 0, 0, 0, 0),
  (5, .iaload, 0, 0, 0, 0),
  (6, .istore 4, 0, 0, 0, 0),
  (8, .iload 4, 0, 0, 0, 0),
  (10, .ifCond .lt 10, 0, 0, 0, 0),
  (13, .iload 4, 0, 0, 0, 0),
  (15, .bipush 10, 0, 0, 0, 0),
  (17, .if_icmp .lt 5, 0, 0, 0, 0),
  (20, .iconst 1, 0, 0, 0, 0),
  (21, .ireturn, 0, 0, 0, 0),
  (22, .aload_n 0, 0, 0, 0, 0),
  (23, .iload 4, 0, 0, 0, 0),
  (25, .invokevirtual 74, 61, 2, 0, 767),
  (28, .ifCond .eq 11, 0, 0, 0, 0),
  (31, .aload_n 0, 0, 0, 0, 0),
  (32, .iload_n 3, 0, 0, 0, 0),
  (33, .invokevirtual 74, 61, 2, 0, 767),
  (36, .ifCond .ne 5, 0, 0, 0, 0),
  (39, .iconst 2, 0, 0, 0, 0),
  (40, .ireturn, 0, 0, 0, 0),
  (41, .aload_n 0, 0, 0, 0, 0),
  (42, .getfield 15, 2, 1, 0, 334),
  (45, .iload_n 2, 0, 0, 0, 0),
  (46, .iaload, 0, 0, 0, 0),
  (47, .iconst 3, 0, 0, 0, 0),
  (48, .if_icmp .le 5, 0, 0, 0, 0),
  (51, .iconst 3, 0, 0, 0, 0),
  (52, .ireturn, 0, 0, 0, 0),
  (53, .aload_n 1, 0, 0, 0, 0),
  (54, .getfield 107, 0, 4, 0, 265),
  (57, .iload 4, 0, 0, 0, 0),
  (59, .iaload, 0, 0, 0, 0),
  (60, .iload_n 3, 0, 0, 0, 0),
  (61, .if_icmp .eq 7, 0, 0, 0, 0),
  (64, .iconst 4, 0, 0, 0, 0),
  (65, .goto 4, 0, 0, 0, 0),
  (68, .iconst 0, 0, 0, 0, 0),
  (69, .ireturn, 0, 0, 0, 0)])
def nm_77 : nM := (⟨"SlipHeirs$Life", "handOver", "(LSlipHeirs$Family;II)I"⟩, prog_4_method_12_code, 5, some .int, [821, 117, 819, 820], [
  (0, .aload_n 0, 0, 0, 0, 0),
  (1, .aload_n 1, 0, 0, 0, 0),
  (2, .iload_n 2, 0, 0, 0, 0),
  (3, .iload_n 3, 0, 0, 0, 0),
  (4, .invokevirtual 110, 76, 4, 0, 822),
  (7, .istore 4, 0, 0, 0, 0),
  (9, .iload 4, 0, 0, 0, 0),
  (11, .ifCond .ne 10, 0, 0, 0, 0),
  (14, .aload_n 0, 0, 0, 0, 0),
  (15, .getfield 9, 2, 0, 0, 330),
  (18, .iload_n 2, 0, 0, 0, 0),
  (19, .iload_n 3, 0, 0, 0, 0),
  (20, .iastore, 0, 0, 0, 0),
  (21, .iload 4, 0, 0, 0, 0),
  (23, .ireturn, 0, 0, 0, 0)])
def nm_78 : nM := (⟨"SlipHeirs", "years", "(I)I"⟩, prog_1_method_13_code, 2, some .int, [826, 110, 824, 825], [
  (0, .iload_n 1, 0, 0, 0, 0),
  (1, .iconst 1, 0, 0, 0, 0),
  (2, .if_icmp .lt 24, 0, 0, 0, 0),
  (5, .iload_n 1, 0, 0, 0, 0),
  (6, .bipush 99, 0, 0, 0, 0),
  (8, .if_icmp .gt 18, 0, 0, 0, 0),
  (11, .aload_n 0, 0, 0, 0, 0),
  (12, .getfield 29, 8, 3, 0, 519),
  (15, .getfield 198, 2, 6, 0, 346),
  (18, .iload_n 1, 0, 0, 0, 0),
  (19, .iadd, 0, 0, 0, 0),
  (20, .sipush 999, 0, 0, 0, 0),
  (23, .if_icmp .le 5, 0, 0, 0, 0),
  (26, .iconst (-1), 0, 0, 0, 0),
  (27, .ireturn, 0, 0, 0, 0),
  (28, .aload_n 0, 0, 0, 0, 0),
  (29, .getfield 56, 8, 8, 0, 524),
  (32, .aload_n 0, 0, 0, 0, 0),
  (33, .getfield 29, 8, 3, 0, 519),
  (36, .invokevirtual 216, 62, 2, 0, 754),
  (39, .aload_n 0, 0, 0, 0, 0),
  (40, .getfield 29, 8, 3, 0, 519),
  (43, .dup, 0, 0, 0, 0),
  (44, .getfield 198, 2, 6, 0, 346),
  (47, .iload_n 1, 0, 0, 0, 0),
  (48, .iadd, 0, 0, 0, 0),
  (49, .putfield 198, 2, 6, 0, 346),
  (52, .aload_n 0, 0, 0, 0, 0),
  (53, .getfield 29, 8, 3, 0, 519),
  (56, .getfield 198, 2, 6, 0, 346),
  (59, .ireturn, 0, 0, 0, 0)])
def nm_79 : nM := (⟨"SlipHeirs", "undo", "()I"⟩, prog_1_method_14_code, 1, some .int, [830, 110, 828, 829], [
  (0, .aload_n 0, 0, 0, 0, 0),
  (1, .getfield 56, 8, 8, 0, 524),
  (4, .aload_n 0, 0, 0, 0, 0),
  (5, .getfield 29, 8, 3, 0, 519),
  (8, .invokevirtual 233, 80, 2, 0, 831),
  (11, .ireturn, 0, 0, 0, 0)])
def nm_80 : nM := (⟨"SlipHeirs$Past", "takeBack", "(LSlipHeirs$Life;)I"⟩, prog_5_method_4_code, 2, some .int, [834, 120, 832, 833], [
  (0, .aload_n 0, 0, 0, 0, 0),
  (1, .getfield 17, 3, 1, 0, 443),
  (4, .ifCond .ne 5, 0, 0, 0, 0),
  (7, .iconst (-1), 0, 0, 0, 0),
  (8, .ireturn, 0, 0, 0, 0),
  (9, .aload_n 0, 0, 0, 0, 0),
  (10, .aload_n 0, 0, 0, 0, 0),
  (11, .getfield 21, 3, 2, 0, 444),
  (14, .bipush 8, 0, 0, 0, 0),
  (16, .iadd, 0, 0, 0, 0),
  (17, .iconst 1, 0, 0, 0, 0),
  (18, .isub, 0, 0, 0, 0),
  (19, .bipush 8, 0, 0, 0, 0),
  (21, .irem, 0, 0, 0, 0),
  (22, .putfield 21, 3, 2, 0, 444),
  (25, .aload_n 1, 0, 0, 0, 0),
  (26, .aload_n 0, 0, 0, 0, 0),
  (27, .getfield 11, 3, 0, 0, 442),
  (30, .aload_n 0, 0, 0, 0, 0),
  (31, .getfield 21, 3, 2, 0, 444),
  (34, .aaload, 0, 0, 0, 0),
  (35, .invokevirtual 25, 63, 2, 0, 758),
  (38, .aload_n 0, 0, 0, 0, 0),
  (39, .dup, 0, 0, 0, 0),
  (40, .getfield 17, 3, 1, 0, 443),
  (43, .iconst 1, 0, 0, 0, 0),
  (44, .isub, 0, 0, 0, 0),
  (45, .putfield 17, 3, 1, 0, 443),
  (48, .aload_n 0, 0, 0, 0, 0),
  (49, .getfield 17, 3, 1, 0, 443),
  (52, .ireturn, 0, 0, 0, 0)])
def nm_81 : nM := (⟨"SlipHeirs", "came", "(I)I"⟩, prog_1_method_15_code, 2, some .int, [838, 110, 836, 837], [
  (0, .aload_n 0, 0, 0, 0, 0),
  (1, .getfield 29, 8, 3, 0, 519),
  (4, .getfield 237, 2, 5, 0, 344),
  (7, .ifCond .ne 5, 0, 0, 0, 0),
  (10, .iconst (-1), 0, 0, 0, 0),
  (11, .ireturn, 0, 0, 0, 0),
  (12, .iload_n 1, 0, 0, 0, 0),
  (13, .iconst (-1), 0, 0, 0, 0),
  (14, .if_icmp .ne 13, 0, 0, 0, 0),
  (17, .aload_n 0, 0, 0, 0, 0),
  (18, .getfield 29, 8, 3, 0, 519),
  (21, .getfield 237, 2, 5, 0, 344),
  (24, .goto 11, 0, 0, 0, 0),
  (27, .aload_n 0, 0, 0, 0, 0),
  (28, .getfield 29, 8, 3, 0, 519),
  (31, .iload_n 1, 0, 0, 0, 0),
  (32, .invokevirtual 240, 82, 2, 0, 839),
  (35, .ireturn, 0, 0, 0, 0)])
def nm_82 : nM := (⟨"SlipHeirs$Life", "cameAt", "(I)I"⟩, prog_4_method_6_code, 2, some .int, [842, 117, 840, 841], [
  (0, .iload_n 1, 0, 0, 0, 0),
  (1, .ifCond .lt 11, 0, 0, 0, 0),
  (4, .iload_n 1, 0, 0, 0, 0),
  (5, .aload_n 0, 0, 0, 0, 0),
  (6, .getfield 27, 2, 5, 0, 343),
  (9, .if_icmp .lt 7, 0, 0, 0, 0),
  (12, .iconst (-1), 0, 0, 0, 0),
  (13, .goto 9, 0, 0, 0, 0),
  (16, .aload_n 0, 0, 0, 0, 0),
  (17, .getfield 24, 2, 4, 0, 342),
  (20, .iload_n 1, 0, 0, 0, 0),
  (21, .iaload, 0, 0, 0, 0),
  (22, .ireturn, 0, 0, 0, 0)])
def nm_83 : nM := (⟨"SlipHeirs", "comes", "(III)I"⟩, prog_1_method_16_code, 4, some .int, [846, 110, 844, 845], [
  (0, .aload_n 0, 0, 0, 0, 0),
  (1, .iload_n 1, 0, 0, 0, 0),
  (2, .iload_n 2, 0, 0, 0, 0),
  (3, .invokevirtual 243, 84, 3, 0, 847),
  (6, .ifCond .ne 5, 0, 0, 0, 0),
  (9, .iconst (-1), 0, 0, 0, 0),
  (10, .ireturn, 0, 0, 0, 0),
  (11, .aload_n 0, 0, 0, 0, 0),
  (12, .iload_n 1, 0, 0, 0, 0),
  (13, .iload_n 2, 0, 0, 0, 0),
  (14, .invokevirtual 246, 85, 3, 0, 851),
  (17, .iload_n 3, 0, 0, 0, 0),
  (18, .iconst (-1), 0, 0, 0, 0),
  (19, .if_icmp .ne 18, 0, 0, 0, 0),
  (22, .aload_n 0, 0, 0, 0, 0),
  (23, .getfield 33, 8, 4, 0, 520),
  (26, .aload_n 0, 0, 0, 0, 0),
  (27, .getfield 19, 8, 1, 0, 517),
  (30, .iload_n 2, 0, 0, 0, 0),
  (31, .invokevirtual 250, 67, 3, 0, 856),
  (34, .goto 11, 0, 0, 0, 0),
  (37, .aload_n 0, 0, 0, 0, 0),
  (38, .getfield 33, 8, 4, 0, 520),
  (41, .iload_n 3, 0, 0, 0, 0),
  (42, .invokevirtual 240, 82, 2, 0, 839),
  (45, .ireturn, 0, 0, 0, 0)])
def nm_84 : nM := (⟨"SlipHeirs", "canDo", "(II)Z"⟩, prog_1_method_44_code, 3, some .boolean, [850, 110, 849, 17], [
  (0, .aload_n 0, 0, 0, 0, 0),
  (1, .getfield 19, 8, 1, 0, 517),
  (4, .iconst 1, 0, 0, 0, 0),
  (5, .iload_n 1, 0, 0, 0, 0),
  (6, .invokevirtual 133, 55, 3, 0, 726),
  (9, .ifCond .eq 30, 0, 0, 0, 0),
  (12, .aload_n 0, 0, 0, 0, 0),
  (13, .getfield 19, 8, 1, 0, 517),
  (16, .iconst 3, 0, 0, 0, 0),
  (17, .iload_n 2, 0, 0, 0, 0),
  (18, .invokevirtual 133, 55, 3, 0, 726),
  (21, .ifCond .eq 18, 0, 0, 0, 0),
  (24, .aload_n 0, 0, 0, 0, 0),
  (25, .getfield 29, 8, 3, 0, 519),
  (28, .iload_n 1, 0, 0, 0, 0),
  (29, .invokevirtual 146, 61, 2, 0, 750),
  (32, .ifCond .eq 7, 0, 0, 0, 0),
  (35, .iconst 1, 0, 0, 0, 0),
  (36, .goto 4, 0, 0, 0, 0),
  (39, .iconst 0, 0, 0, 0, 0),
  (40, .ireturn, 0, 0, 0, 0)])
def nm_85 : nM := (⟨"SlipHeirs", "tryDeed", "(II)V"⟩, prog_1_method_45_code, 3, none, [854, 110, 853, 18], [
  (0, .aload_n 0, 0, 0, 0, 0),
  (1, .getfield 33, 8, 4, 0, 520),
  (4, .aload_n 0, 0, 0, 0, 0),
  (5, .getfield 29, 8, 3, 0, 519),
  (8, .invokevirtual 308, 63, 2, 0, 855),
  (11, .aload_n 0, 0, 0, 0, 0),
  (12, .getfield 33, 8, 4, 0, 520),
  (15, .aload_n 0, 0, 0, 0, 0),
  (16, .getfield 19, 8, 1, 0, 517),
  (19, .iload_n 1, 0, 0, 0, 0),
  (20, .iload_n 2, 0, 0, 0, 0),
  (21, .invokevirtual 220, 64, 4, 0, 763),
  (24, .pop, 0, 0, 0, 0),
  (25, .return_, 0, 0, 0, 0)])
def nm_86 : nM := (⟨"SlipHeirs", "right", "(I)I"⟩, prog_1_method_17_code, 4, some .int, [860, 110, 858, 859], [
  (0, .aload_n 0, 0, 0, 0, 0),
  (1, .getfield 19, 8, 1, 0, 517),
  (4, .iconst 3, 0, 0, 0, 0),
  (5, .iload_n 1, 0, 0, 0, 0),
  (6, .invokevirtual 133, 55, 3, 0, 726),
  (9, .ifCond .ne 5, 0, 0, 0, 0),
  (12, .iconst (-1), 0, 0, 0, 0),
  (13, .ireturn, 0, 0, 0, 0),
  (14, .iconst 0, 0, 0, 0, 0),
  (15, .istore_n 2, 0, 0, 0, 0),
  (16, .iconst 0, 0, 0, 0, 0),
  (17, .istore_n 3, 0, 0, 0, 0),
  (18, .iload_n 3, 0, 0, 0, 0),
  (19, .aload_n 0, 0, 0, 0, 0),
  (20, .getfield 19, 8, 1, 0, 517),
  (23, .getfield 253, 0, 0, 0, 256),
  (26, .iconst 1, 0, 0, 0, 0),
  (27, .iaload, 0, 0, 0, 0),
  (28, .if_icmp .ge 51, 0, 0, 0, 0),
  (31, .aload_n 0, 0, 0, 0, 0),
  (32, .getfield 29, 8, 3, 0, 519),
  (35, .iload_n 3, 0, 0, 0, 0),
  (36, .invokevirtual 146, 61, 2, 0, 750),
  (39, .ifCond .eq 34, 0, 0, 0, 0),
  (42, .aload_n 0, 0, 0, 0, 0),
  (43, .iload_n 3, 0, 0, 0, 0),
  (44, .iload_n 1, 0, 0, 0, 0),
  (45, .invokevirtual 246, 85, 3, 0, 851),
  (48, .iload_n 2, 0, 0, 0, 0),
  (49, .aload_n 0, 0, 0, 0, 0),
  (50, .getfield 33, 8, 4, 0, 520),
  (53, .aload_n 0, 0, 0, 0, 0),
  (54, .getfield 19, 8, 1, 0, 517),
  (57, .iload_n 1, 0, 0, 0, 0),
  (58, .invokevirtual 250, 67, 3, 0, 856),
  (61, .ifCond .ne 9, 0, 0, 0, 0),
  (64, .iconst 1, 0, 0, 0, 0),
  (65, .iload_n 3, 0, 0, 0, 0),
  (66, .ishl, 0, 0, 0, 0),
  (67, .goto 4, 0, 0, 0, 0),
  (70, .iconst 0, 0, 0, 0, 0),
  (71, .ior, 0, 0, 0, 0),
  (72, .istore_n 2, 0, 0, 0, 0),
  (73, .iinc 3 1, 0, 0, 0, 0),
  (76, .goto (-58), 0, 0, 0, 0),
  (79, .iload_n 2, 0, 0, 0, 0),
  (80, .ireturn, 0, 0, 0, 0)])
def nm_87 : nM := (⟨"SlipHeirs", "heir", "(I)I"⟩, prog_1_method_19_code, 2, some .int, [864, 110, 862, 863], [
  (0, .aload_n 0, 0, 0, 0, 0),
  (1, .getfield 19, 8, 1, 0, 517),
  (4, .iconst 1, 0, 0, 0, 0),
  (5, .iload_n 1, 0, 0, 0, 0),
  (6, .invokevirtual 133, 55, 3, 0, 726),
  (9, .ifCond .eq 14, 0, 0, 0, 0),
  (12, .aload_n 0, 0, 0, 0, 0),
  (13, .getfield 29, 8, 3, 0, 519),
  (16, .iload_n 1, 0, 0, 0, 0),
  (17, .invokevirtual 146, 61, 2, 0, 750),
  (20, .ifCond .ne 5, 0, 0, 0, 0),
  (23, .iconst (-1), 0, 0, 0, 0),
  (24, .ireturn, 0, 0, 0, 0),
  (25, .aload_n 0, 0, 0, 0, 0),
  (26, .getfield 19, 8, 1, 0, 517),
  (29, .iload_n 1, 0, 0, 0, 0),
  (30, .aload_n 0, 0, 0, 0, 0),
  (31, .getfield 29, 8, 3, 0, 519),
  (34, .getfield 204, 2, 8, 0, 351),
  (37, .invokevirtual 256, 70, 3, 0, 865),
  (40, .ireturn, 0, 0, 0, 0)])
def nm_88 : nM := (⟨"SlipHeirs", "line", "(II)I"⟩, prog_1_method_20_code, 7, some .int, [869, 110, 867, 868], [
  (0, .aload_n 0, 0, 0, 0, 0),
  (1, .getfield 19, 8, 1, 0, 517),
  (4, .iconst 1, 0, 0, 0, 0),
  (5, .iload_n 1, 0, 0, 0, 0),
  (6, .invokevirtual 133, 55, 3, 0, 726),
  (9, .ifCond .eq 25, 0, 0, 0, 0),
  (12, .aload_n 0, 0, 0, 0, 0),
  (13, .getfield 29, 8, 3, 0, 519),
  (16, .iload_n 1, 0, 0, 0, 0),
  (17, .invokevirtual 146, 61, 2, 0, 750),
  (20, .ifCond .eq 14, 0, 0, 0, 0),
  (23, .iload_n 2, 0, 0, 0, 0),
  (24, .iconst 1, 0, 0, 0, 0),
  (25, .if_icmp .lt 9, 0, 0, 0, 0),
  (28, .iload_n 2, 0, 0, 0, 0),
  (29, .bipush 10, 0, 0, 0, 0),
  (31, .if_icmp .le 5, 0, 0, 0, 0),
  (34, .iconst (-1), 0, 0, 0, 0),
  (35, .ireturn, 0, 0, 0, 0),
  (36, .aload_n 0, 0, 0, 0, 0),
  (37, .getfield 29, 8, 3, 0, 519),
  (40, .getfield 204, 2, 8, 0, 351),
  (43, .istore_n 3, 0, 0, 0, 0),
  (44, .iload_n 1, 0, 0, 0, 0),
  (45, .istore 4, 0, 0, 0, 0),
  (47, .iconst 0, 0, 0, 0, 0),
  (48, .istore 5, 0, 0, 0, 0),
  (50, .iload 5, 0, 0, 0, 0),
  (52, .iload_n 2, 0, 0, 0, 0),
  (53, .if_icmp .ge 39, 0, 0, 0, 0),
  (56, .iload 4, 0, 0, 0, 0),
  (58, .bipush 10, 0, 0, 0, 0),
  (60, .if_icmp .eq 32, 0, 0, 0, 0),
  (63, .aload_n 0, 0, 0, 0, 0),
  (64, .getfield 19, 8, 1, 0, 517),
  (67, .iload 4, 0, 0, 0, 0),
  (69, .iload_n 3, 0, 0, 0, 0),
  (70, .invokevirtual 256, 70, 3, 0, 865),
  (73, .istore 6, 0, 0, 0, 0),
  (75, .iload_n 3, 0, 0, 0, 0),
  (76, .iconst 1, 0, 0, 0, 0),
  (77, .iload 4, 0, 0, 0, 0),
  (79, .ishl, 0, 0, 0, 0),
  (80, .ior, 0, 0, 0, 0),
  (81, .istore_n 3, 0, 0, 0, 0),
  (82, .iload 6, 0, 0, 0, 0),
  (84, .istore 4, 0, 0, 0, 0),
  (86, .iinc 5 1, 0, 0, 0, 0),
  (89, .goto (-39), 0, 0, 0, 0),
  (92, .iload 4, 0, 0, 0, 0),
  (94, .ireturn, 0, 0, 0, 0)])
def nm_89 : nM := (⟨"SlipHeirs", "plan", "(I)I"⟩, prog_1_method_21_code, 3, some .int, [873, 110, 871, 872], [
  (0, .aload_n 0, 0, 0, 0, 0),
  (1, .getfield 10, 8, 0, 0, 516),
  (4, .invokevirtual 259, 90, 1, 0, 874),
  (7, .istore_n 2, 0, 0, 0, 0),
  (8, .aload_n 0, 0, 0, 0, 0),
  (9, .getfield 19, 8, 1, 0, 517),
  (12, .iconst 1, 0, 0, 0, 0),
  (13, .iload_n 1, 0, 0, 0, 0),
  (14, .invokevirtual 133, 55, 3, 0, 726),
  (17, .ifCond .eq 33, 0, 0, 0, 0),
  (20, .aload_n 0, 0, 0, 0, 0),
  (21, .getfield 29, 8, 3, 0, 519),
  (24, .iload_n 1, 0, 0, 0, 0),
  (25, .invokevirtual 146, 61, 2, 0, 750),
  (28, .ifCond .eq 22, 0, 0, 0, 0),
  (31, .iload_n 2, 0, 0, 0, 0),
  (32, .iconst 1, 0, 0, 0, 0),
  (33, .if_icmp .lt 17, 0, 0, 0, 0),
  (36, .iload_n 2, 0, 0, 0, 0),
  (37, .bipush 6, 0, 0, 0, 0),
  (39, .if_icmp .gt 11, 0, 0, 0, 0),
  (42, .aload_n 0, 0, 0, 0, 0),
  (43, .iload_n 2, 0, 0, 0, 0),
  (44, .invokevirtual 263, 91, 2, 0, 878),
  (47, .ifCond .ne 5, 0, 0, 0, 0),
  (50, .iconst (-1), 0, 0, 0, 0),
  (51, .ireturn, 0, 0, 0, 0),
  (52, .aload_n 0, 0, 0, 0, 0),
  (53, .getfield 70, 8, 10, 0, 526),
  (56, .aload_n 0, 0, 0, 0, 0),
  (57, .getfield 10, 8, 0, 0, 516),
  (60, .iload_n 2, 0, 0, 0, 0),
  (61, .aload_n 0, 0, 0, 0, 0),
  (62, .getfield 19, 8, 1, 0, 517),
  (65, .aload_n 0, 0, 0, 0, 0),
  (66, .getfield 29, 8, 3, 0, 519),
  (69, .iload_n 1, 0, 0, 0, 0),
  (70, .invokevirtual 266, 93, 6, 0, 886),
  (73, .ireturn, 0, 0, 0, 0)])
def nm_90 : nM := (⟨"SlipHeirs$Text", "takeAll", "()I"⟩, prog_9_method_7_code, 2, some .int, [877, 111, 875, 876], [
  (0, .aload_n 0, 0, 0, 0, 0),
  (1, .getfield 29, 7, 5, 0, 205),
  (4, .istore_n 1, 0, 0, 0, 0),
  (5, .aload_n 0, 0, 0, 0, 0),
  (6, .iconst 0, 0, 0, 0, 0),
  (7, .putfield 29, 7, 5, 0, 205),
  (10, .iload_n 1, 0, 0, 0, 0),
  (11, .ireturn, 0, 0, 0, 0)])
def nm_91 : nM := (⟨"SlipHeirs", "tellsSteps", "(I)Z"⟩, prog_1_method_46_code, 3, some .boolean, [881, 110, 880, 19], [
  (0, .iconst 0, 0, 0, 0, 0),
  (1, .istore_n 2, 0, 0, 0, 0),
  (2, .iload_n 2, 0, 0, 0, 0),
  (3, .iload_n 1, 0, 0, 0, 0),
  (4, .if_icmp .ge 30, 0, 0, 0, 0),
  (7, .aload_n 0, 0, 0, 0, 0),
  (8, .getfield 19, 8, 1, 0, 517),
  (11, .iconst 0, 0, 0, 0, 0),
  (12, .aload_n 0, 0, 0, 0, 0),
  (13, .getfield 10, 8, 0, 0, 516),
  (16, .iload_n 2, 0, 0, 0, 0),
  (17, .invokevirtual 345, 92, 2, 0, 882),
  (20, .invokevirtual 133, 55, 3, 0, 726),
  (23, .ifCond .ne 5, 0, 0, 0, 0),
  (26, .iconst 0, 0, 0, 0, 0),
  (27, .ireturn, 0, 0, 0, 0),
  (28, .iinc 2 1, 0, 0, 0, 0),
  (31, .goto (-29), 0, 0, 0, 0),
  (34, .iconst 1, 0, 0, 0, 0),
  (35, .ireturn, 0, 0, 0, 0)])
def nm_92 : nM := (⟨"SlipHeirs$Text", "byteAt", "(I)I"⟩, prog_9_method_6_code, 2, some .int, [885, 111, 883, 884], [
  (0, .iload_n 1, 0, 0, 0, 0),
  (1, .ifCond .lt 10, 0, 0, 0, 0),
  (4, .iload_n 1, 0, 0, 0, 0),
  (5, .sipush 940, 0, 0, 0, 0),
  (8, .if_icmp .lt 7, 0, 0, 0, 0),
  (11, .iconst (-1), 0, 0, 0, 0),
  (12, .goto 13, 0, 0, 0, 0),
  (15, .aload_n 0, 0, 0, 0, 0),
  (16, .getfield 9, 7, 0, 0, 200),
  (19, .iload_n 1, 0, 0, 0, 0),
  (20, .baload, 0, 0, 0, 0),
  (21, .sipush 255, 0, 0, 0, 0),
  (24, .iand, 0, 0, 0, 0),
  (25, .ireturn, 0, 0, 0, 0)])
def nm_93 : nM := (⟨"SlipHeirs$Planner", "waysTo", "(LSlipHeirs$Text;ILSlipHeirs$Family;LSlipHeirs$Life;I)I"⟩, prog_7_method_2_code, 7, some .int, [889, 122, 887, 888], [
  (0, .aload_n 0, 0, 0, 0, 0),
  (1, .iload_n 2, 0, 0, 0, 0),
  (2, .bipush 6, 0, 0, 0, 0),
  (4, .invokestatic 35, 0, 2, 7, 890),
  (7, .putfield 28, 5, 5, 0, 495),
  (10, .iconst 0, 0, 0, 0, 0),
  (11, .istore 6, 0, 0, 0, 0),
  (13, .iload 6, 0, 0, 0, 0),
  (15, .aload_n 0, 0, 0, 0, 0),
  (16, .getfield 28, 5, 5, 0, 495),
  (19, .if_icmp .ge 22, 0, 0, 0, 0),
  (22, .aload_n 0, 0, 0, 0, 0),
  (23, .getfield 9, 5, 0, 0, 488),
  (26, .iload 6, 0, 0, 0, 0),
  (28, .aload_n 1, 0, 0, 0, 0),
  (29, .iload 6, 0, 0, 0, 0),
  (31, .invokevirtual 41, 92, 2, 0, 891),
  (34, .iastore, 0, 0, 0, 0),
  (35, .iinc 6 1, 0, 0, 0, 0),
  (38, .goto (-25), 0, 0, 0, 0),
  (41, .iconst 0, 0, 0, 0, 0),
  (42, .istore 6, 0, 0, 0, 0),
  (44, .iload 6, 0, 0, 0, 0),
  (46, .aload_n 3, 0, 0, 0, 0),
  (47, .getfield 47, 0, 0, 0, 253),
  (50, .iconst 2, 0, 0, 0, 0),
  (51, .iaload, 0, 0, 0, 0),
  (52, .if_icmp .ge 41, 0, 0, 0, 0),
  (55, .aload_n 0, 0, 0, 0, 0),
  (56, .getfield 18, 5, 2, 0, 490),
  (59, .iload 6, 0, 0, 0, 0),
  (61, .aload 4, 0, 0, 0, 0),
  (63, .getfield 52, 2, 0, 0, 331),
  (66, .iload 6, 0, 0, 0, 0),
  (68, .iaload, 0, 0, 0, 0),
  (69, .iload 5, 0, 0, 0, 0),
  (71, .if_icmp .ne 14, 0, 0, 0, 0),
  (74, .aload 4, 0, 0, 0, 0),
  (76, .getfield 57, 2, 1, 0, 335),
  (79, .iload 6, 0, 0, 0, 0),
  (81, .iaload, 0, 0, 0, 0),
  (82, .goto 4, 0, 0, 0, 0),
  (85, .iconst 0, 0, 0, 0, 0),
  (86, .iastore, 0, 0, 0, 0),
  (87, .iinc 6 1, 0, 0, 0, 0),
  (90, .goto (-46), 0, 0, 0, 0),
  (93, .aload_n 0, 0, 0, 0, 0),
  (94, .iconst 0, 0, 0, 0, 0),
  (95, .putfield 31, 5, 6, 0, 496),
  (98, .aload_n 0, 0, 0, 0, 0),
  (99, .aload_n 3, 0, 0, 0, 0),
  (100, .iconst 0, 0, 0, 0, 0),
  (101, .invokevirtual 58, 94, 3, 0, 892),
  (104, .ireturn, 0, 0, 0, 0)])
def nm_94 : nM := (⟨"SlipHeirs$Planner", "waysFrom", "(LSlipHeirs$Family;I)I"⟩, prog_7_method_3_code, 7, some .int, [895, 122, 894, 20], [
  (0, .iload_n 2, 0, 0, 0, 0),
  (1, .aload_n 0, 0, 0, 0, 0),
  (2, .getfield 28, 5, 5, 0, 495),
  (5, .if_icmp .lt 9, 0, 0, 0, 0),
  (8, .aload_n 0, 0, 0, 0, 0),
  (9, .invokevirtual 62, 95, 1, 0, 896),
  (12, .iconst 1, 0, 0, 0, 0),
  (13, .ireturn, 0, 0, 0, 0),
  (14, .iconst 0, 0, 0, 0, 0),
  (15, .istore_n 3, 0, 0, 0, 0),
  (16, .aload_n 0, 0, 0, 0, 0),
  (17, .aload_n 1, 0, 0, 0, 0),
  (18, .invokevirtual 65, 96, 2, 0, 901),
  (21, .istore 4, 0, 0, 0, 0),
  (23, .iconst 0, 0, 0, 0, 0),
  (24, .istore 5, 0, 0, 0, 0),
  (26, .iload 5, 0, 0, 0, 0),
  (28, .aload_n 1, 0, 0, 0, 0),
  (29, .getfield 47, 0, 0, 0, 253),
  (32, .iconst 0, 0, 0, 0, 0),
  (33, .iaload, 0, 0, 0, 0),
  (34, .if_icmp .ge 66, 0, 0, 0, 0),
  (37, .aload_n 1, 0, 0, 0, 0),
  (38, .iload 4, 0, 0, 0, 0),
  (40, .iload 5, 0, 0, 0, 0),
  (42, .invokevirtual 69, 65, 3, 0, 905),
  (45, .istore 6, 0, 0, 0, 0),
  (47, .iload 6, 0, 0, 0, 0),
  (49, .bipush 8, 0, 0, 0, 0),
  (51, .ishr, 0, 0, 0, 0),
  (52, .aload_n 0, 0, 0, 0, 0),
  (53, .getfield 9, 5, 0, 0, 488),
  (56, .iload_n 2, 0, 0, 0, 0),
  (57, .iaload, 0, 0, 0, 0),
  (58, .if_icmp .ne 36, 0, 0, 0, 0),
  (61, .aload_n 0, 0, 0, 0, 0),
  (62, .getfield 15, 5, 1, 0, 489),
  (65, .iload_n 2, 0, 0, 0, 0),
  (66, .iload 5, 0, 0, 0, 0),
  (68, .iastore, 0, 0, 0, 0),
  (69, .aload_n 0, 0, 0, 0, 0),
  (70, .iload 6, 0, 0, 0, 0),
  (72, .iconst 1, 0, 0, 0, 0),
  (73, .invokevirtual 72, 97, 3, 0, 906),
  (76, .iload_n 3, 0, 0, 0, 0),
  (77, .aload_n 0, 0, 0, 0, 0),
  (78, .aload_n 1, 0, 0, 0, 0),
  (79, .iload_n 2, 0, 0, 0, 0),
  (80, .iconst 1, 0, 0, 0, 0),
  (81, .iadd, 0, 0, 0, 0),
  (82, .invokevirtual 58, 94, 3, 0, 892),
  (85, .iadd, 0, 0, 0, 0),
  (86, .istore_n 3, 0, 0, 0, 0),
  (87, .aload_n 0, 0, 0, 0, 0),
  (88, .iload 6, 0, 0, 0, 0),
  (90, .iconst (-1), 0, 0, 0, 0),
  (91, .invokevirtual 72, 97, 3, 0, 906),
  (94, .iinc 5 1, 0, 0, 0, 0),
  (97, .goto (-71), 0, 0, 0, 0),
  (100, .iload_n 3, 0, 0, 0, 0),
  (101, .ireturn, 0, 0, 0, 0)])
def nm_95 : nM := (⟨"SlipHeirs$Planner", "keepFirst", "()V"⟩, prog_7_method_4_code, 1, none, [899, 122, 898, 21], [
  (0, .aload_n 0, 0, 0, 0, 0),
  (1, .getfield 31, 5, 6, 0, 496),
  (4, .ifCond .ne 33, 0, 0, 0, 0),
  (7, .aload_n 0, 0, 0, 0, 0),
  (8, .getfield 15, 5, 1, 0, 489),
  (11, .iconst 0, 0, 0, 0, 0),
  (12, .aload_n 0, 0, 0, 0, 0),
  (13, .getfield 21, 5, 3, 0, 491),
  (16, .iconst 0, 0, 0, 0, 0),
  (17, .aload_n 0, 0, 0, 0, 0),
  (18, .getfield 28, 5, 5, 0, 495),
  (21, .invokestatic 76, 0, 5, 5, 900),
  (24, .aload_n 0, 0, 0, 0, 0),
  (25, .aload_n 0, 0, 0, 0, 0),
  (26, .getfield 28, 5, 5, 0, 495),
  (29, .putfield 24, 5, 4, 0, 493),
  (32, .aload_n 0, 0, 0, 0, 0),
  (33, .iconst 1, 0, 0, 0, 0),
  (34, .putfield 31, 5, 6, 0, 496),
  (37, .return_, 0, 0, 0, 0)])
def nm_96 : nM := (⟨"SlipHeirs$Planner", "ableNow", "(LSlipHeirs$Family;)I"⟩, prog_7_method_5_code, 4, some .int, [904, 122, 903, 22], [
  (0, .iconst 0, 0, 0, 0, 0),
  (1, .istore_n 2, 0, 0, 0, 0),
  (2, .iconst 0, 0, 0, 0, 0),
  (3, .istore_n 3, 0, 0, 0, 0),
  (4, .iload_n 3, 0, 0, 0, 0),
  (5, .aload_n 1, 0, 0, 0, 0),
  (6, .getfield 47, 0, 0, 0, 253),
  (9, .iconst 2, 0, 0, 0, 0),
  (10, .iaload, 0, 0, 0, 0),
  (11, .if_icmp .ge 28, 0, 0, 0, 0),
  (14, .iload_n 2, 0, 0, 0, 0),
  (15, .aload_n 0, 0, 0, 0, 0),
  (16, .getfield 18, 5, 2, 0, 490),
  (19, .iload_n 3, 0, 0, 0, 0),
  (20, .iaload, 0, 0, 0, 0),
  (21, .ifCond .le 9, 0, 0, 0, 0),
  (24, .iconst 1, 0, 0, 0, 0),
  (25, .iload_n 3, 0, 0, 0, 0),
  (26, .ishl, 0, 0, 0, 0),
  (27, .goto 4, 0, 0, 0, 0),
  (30, .iconst 0, 0, 0, 0, 0),
  (31, .ior, 0, 0, 0, 0),
  (32, .istore_n 2, 0, 0, 0, 0),
  (33, .iinc 3 1, 0, 0, 0, 0),
  (36, .goto (-32), 0, 0, 0, 0),
  (39, .iload_n 2, 0, 0, 0, 0),
  (40, .ireturn, 0, 0, 0, 0)])
def nm_97 : nM := (⟨"SlipHeirs$Planner", "wearBy", "(II)V"⟩, prog_7_method_6_code, 4, none, [909, 122, 908, 23], [
  (0, .iconst 0, 0, 0, 0, 0),
  (1, .istore_n 3, 0, 0, 0, 0),
  (2, .iload_n 3, 0, 0, 0, 0),
  (3, .bipush 6, 0, 0, 0, 0),
  (5, .if_icmp .ge 25, 0, 0, 0, 0),
  (8, .aload_n 0, 0, 0, 0, 0),
  (9, .getfield 18, 5, 2, 0, 490),
  (12, .iload_n 3, 0, 0, 0, 0),
  (13, .dup2, 0, 0, 0, 0),
  (14, .iaload, 0, 0, 0, 0),
  (15, .iload_n 1, 0, 0, 0, 0),
  (16, .iload_n 3, 0, 0, 0, 0),
  (17, .ishr, 0, 0, 0, 0),
  (18, .iconst 1, 0, 0, 0, 0),
  (19, .iand, 0, 0, 0, 0),
  (20, .iload_n 2, 0, 0, 0, 0),
  (21, .imul, 0, 0, 0, 0),
  (22, .isub, 0, 0, 0, 0),
  (23, .iastore, 0, 0, 0, 0),
  (24, .iinc 3 1, 0, 0, 0, 0),
  (27, .goto (-25), 0, 0, 0, 0),
  (30, .return_, 0, 0, 0, 0)])
def nm_98 : nM := (⟨"SlipHeirs", "planned", "(I)I"⟩, prog_1_method_22_code, 2, some .int, [913, 110, 911, 912], [
  (0, .iload_n 1, 0, 0, 0, 0),
  (1, .ifCond .lt 14, 0, 0, 0, 0),
  (4, .iload_n 1, 0, 0, 0, 0),
  (5, .aload_n 0, 0, 0, 0, 0),
  (6, .getfield 70, 8, 10, 0, 526),
  (9, .getfield 270, 5, 4, 0, 494),
  (12, .if_icmp .lt 7, 0, 0, 0, 0),
  (15, .iconst (-1), 0, 0, 0, 0),
  (16, .goto 12, 0, 0, 0, 0),
  (19, .aload_n 0, 0, 0, 0, 0),
  (20, .getfield 70, 8, 10, 0, 526),
  (23, .getfield 273, 5, 3, 0, 492),
  (26, .iload_n 1, 0, 0, 0, 0),
  (27, .iaload, 0, 0, 0, 0),
  (28, .ireturn, 0, 0, 0, 0)])
def nm_99 : nM := (⟨"SlipHeirs", "who", "(I)I"⟩, prog_1_method_23_code, 5, some .int, [917, 110, 915, 916], [
  (0, .aload_n 0, 0, 0, 0, 0),
  (1, .getfield 10, 8, 0, 0, 516),
  (4, .invokevirtual 259, 90, 1, 0, 874),
  (7, .istore_n 2, 0, 0, 0, 0),
  (8, .aload_n 0, 0, 0, 0, 0),
  (9, .getfield 19, 8, 1, 0, 517),
  (12, .iconst 3, 0, 0, 0, 0),
  (13, .iload_n 1, 0, 0, 0, 0),
  (14, .invokevirtual 133, 55, 3, 0, 726),
  (17, .ifCond .eq 24, 0, 0, 0, 0),
  (20, .iload_n 2, 0, 0, 0, 0),
  (21, .aload_n 0, 0, 0, 0, 0),
  (22, .getfield 19, 8, 1, 0, 517),
  (25, .getfield 191, 0, 12, 0, 286),
  (28, .iload_n 1, 0, 0, 0, 0),
  (29, .iaload, 0, 0, 0, 0),
  (30, .if_icmp .ne 11, 0, 0, 0, 0),
  (33, .aload_n 0, 0, 0, 0, 0),
  (34, .iload_n 2, 0, 0, 0, 0),
  (35, .invokevirtual 263, 91, 2, 0, 878),
  (38, .ifCond .ne 5, 0, 0, 0, 0),
  (41, .iconst (-1), 0, 0, 0, 0),
  (42, .ireturn, 0, 0, 0, 0),
  (43, .iconst 0, 0, 0, 0, 0),
  (44, .istore_n 3, 0, 0, 0, 0),
  (45, .iconst 0, 0, 0, 0, 0),
  (46, .istore 4, 0, 0, 0, 0),
  (48, .iload 4, 0, 0, 0, 0),
  (50, .aload_n 0, 0, 0, 0, 0),
  (51, .getfield 19, 8, 1, 0, 517),
  (54, .getfield 253, 0, 0, 0, 256),
  (57, .iconst 1, 0, 0, 0, 0),
  (58, .iaload, 0, 0, 0, 0),
  (59, .if_icmp .ge 47, 0, 0, 0, 0),
  (62, .aload_n 0, 0, 0, 0, 0),
  (63, .getfield 29, 8, 3, 0, 519),
  (66, .iload 4, 0, 0, 0, 0),
  (68, .invokevirtual 146, 61, 2, 0, 750),
  (71, .ifCond .eq 29, 0, 0, 0, 0),
  (74, .aload_n 0, 0, 0, 0, 0),
  (75, .iload 4, 0, 0, 0, 0),
  (77, .iload_n 1, 0, 0, 0, 0),
  (78, .invokevirtual 246, 85, 3, 0, 851),
  (81, .iload_n 3, 0, 0, 0, 0),
  (82, .aload_n 0, 0, 0, 0, 0),
  (83, .iload_n 2, 0, 0, 0, 0),
  (84, .invokevirtual 276, 100, 2, 0, 918),
  (87, .ifCond .eq 10, 0, 0, 0, 0),
  (90, .iconst 1, 0, 0, 0, 0),
  (91, .iload 4, 0, 0, 0, 0),
  (93, .ishl, 0, 0, 0, 0),
  (94, .goto 4, 0, 0, 0, 0),
  (97, .iconst 0, 0, 0, 0, 0),
  (98, .ior, 0, 0, 0, 0),
  (99, .istore_n 3, 0, 0, 0, 0),
  (100, .iinc 4 1, 0, 0, 0, 0),
  (103, .goto (-55), 0, 0, 0, 0),
  (106, .iload_n 3, 0, 0, 0, 0),
  (107, .ireturn, 0, 0, 0, 0)])
def nm_100 : nM := (⟨"SlipHeirs", "cameAsTold", "(I)Z"⟩, prog_1_method_47_code, 3, some .boolean, [921, 110, 920, 24], [
  (0, .iconst 0, 0, 0, 0, 0),
  (1, .istore_n 2, 0, 0, 0, 0),
  (2, .iload_n 2, 0, 0, 0, 0),
  (3, .iload_n 1, 0, 0, 0, 0),
  (4, .if_icmp .ge 30, 0, 0, 0, 0),
  (7, .aload_n 0, 0, 0, 0, 0),
  (8, .getfield 33, 8, 4, 0, 520),
  (11, .iload_n 2, 0, 0, 0, 0),
  (12, .invokevirtual 240, 82, 2, 0, 839),
  (15, .aload_n 0, 0, 0, 0, 0),
  (16, .getfield 10, 8, 0, 0, 516),
  (19, .iload_n 2, 0, 0, 0, 0),
  (20, .invokevirtual 345, 92, 2, 0, 882),
  (23, .if_icmp .eq 5, 0, 0, 0, 0),
  (26, .iconst 0, 0, 0, 0, 0),
  (27, .ireturn, 0, 0, 0, 0),
  (28, .iinc 2 1, 0, 0, 0, 0),
  (31, .goto (-29), 0, 0, 0, 0),
  (34, .iconst 1, 0, 0, 0, 0),
  (35, .ireturn, 0, 0, 0, 0)])
def nm_101 : nM := (⟨"SlipHeirs", "worn", "(I)I"⟩, prog_1_method_24_code, 6, some .int, [925, 110, 923, 924], [
  (0, .aload_n 0, 0, 0, 0, 0),
  (1, .getfield 19, 8, 1, 0, 517),
  (4, .iconst 2, 0, 0, 0, 0),
  (5, .iload_n 1, 0, 0, 0, 0),
  (6, .invokevirtual 133, 55, 3, 0, 726),
  (9, .ifCond .eq 17, 0, 0, 0, 0),
  (12, .aload_n 0, 0, 0, 0, 0),
  (13, .getfield 29, 8, 3, 0, 519),
  (16, .getfield 167, 2, 0, 0, 332),
  (19, .iload_n 1, 0, 0, 0, 0),
  (20, .iaload, 0, 0, 0, 0),
  (21, .bipush 10, 0, 0, 0, 0),
  (23, .if_icmp .ne 5, 0, 0, 0, 0),
  (26, .iconst (-1), 0, 0, 0, 0),
  (27, .ireturn, 0, 0, 0, 0),
  (28, .aload_n 0, 0, 0, 0, 0),
  (29, .getfield 29, 8, 3, 0, 519),
  (32, .getfield 167, 2, 0, 0, 332),
  (35, .iload_n 1, 0, 0, 0, 0),
  (36, .iaload, 0, 0, 0, 0),
  (37, .iconst (-1), 0, 0, 0, 0),
  (38, .if_icmp .ne 15, 0, 0, 0, 0),
  (41, .aload_n 0, 0, 0, 0, 0),
  (42, .iconst (-1), 0, 0, 0, 0),
  (43, .putfield 89, 8, 15, 0, 531),
  (46, .aload_n 0, 0, 0, 0, 0),
  (47, .iconst 0, 0, 0, 0, 0),
  (48, .putfield 93, 8, 16, 0, 532),
  (51, .iconst 0, 0, 0, 0, 0),
  (52, .ireturn, 0, 0, 0, 0),
  (53, .iconst (-1), 0, 0, 0, 0),
  (54, .istore_n 2, 0, 0, 0, 0),
  (55, .iconst 0, 0, 0, 0, 0),
  (56, .istore_n 3, 0, 0, 0, 0),
  (57, .iload_n 3, 0, 0, 0, 0),
  (58, .aload_n 0, 0, 0, 0, 0),
  (59, .getfield 19, 8, 1, 0, 517),
  (62, .getfield 253, 0, 0, 0, 256),
  (65, .iconst 3, 0, 0, 0, 0),
  (66, .iaload, 0, 0, 0, 0),
  (67, .if_icmp .ge 80, 0, 0, 0, 0),
  (70, .aload_n 0, 0, 0, 0, 0),
  (71, .iload_n 1, 0, 0, 0, 0),
  (72, .iload_n 3, 0, 0, 0, 0),
  (73, .invokevirtual 279, 102, 3, 0, 926),
  (76, .istore 4, 0, 0, 0, 0),
  (78, .aload_n 0, 0, 0, 0, 0),
  (79, .getfield 29, 8, 3, 0, 519),
  (82, .getfield 201, 2, 7, 0, 349),
  (85, .aload_n 0, 0, 0, 0, 0),
  (86, .getfield 33, 8, 4, 0, 520),
  (89, .getfield 201, 2, 7, 0, 349),
  (92, .isub, 0, 0, 0, 0),
  (93, .istore 5, 0, 0, 0, 0),
  (95, .iload 4, 0, 0, 0, 0),
  (97, .iconst (-1), 0, 0, 0, 0),
  (98, .if_icmp .eq 43, 0, 0, 0, 0),
  (101, .iload_n 2, 0, 0, 0, 0),
  (102, .iconst (-1), 0, 0, 0, 0),
  (103, .if_icmp .eq 24, 0, 0, 0, 0),
  (106, .iload 4, 0, 0, 0, 0),
  (108, .iload_n 2, 0, 0, 0, 0),
  (109, .if_icmp .lt 18, 0, 0, 0, 0),
  (112, .iload 4, 0, 0, 0, 0),
  (114, .iload_n 2, 0, 0, 0, 0),
  (115, .if_icmp .ne 26, 0, 0, 0, 0),
  (118, .iload 5, 0, 0, 0, 0),
  (120, .aload_n 0, 0, 0, 0, 0),
  (121, .getfield 93, 8, 16, 0, 532),
  (124, .if_icmp .ge 17, 0, 0, 0, 0),
  (127, .iload 4, 0, 0, 0, 0),
  (129, .istore_n 2, 0, 0, 0, 0),
  (130, .aload_n 0, 0, 0, 0, 0),
  (131, .iload_n 3, 0, 0, 0, 0),
  (132, .putfield 89, 8, 15, 0, 531),
  (135, .aload_n 0, 0, 0, 0, 0),
  (136, .iload 5, 0, 0, 0, 0),
  (138, .putfield 93, 8, 16, 0, 532),
  (141, .iinc 3 1, 0, 0, 0, 0),
  (144, .goto (-87), 0, 0, 0, 0),
  (147, .iload_n 2, 0, 0, 0, 0),
  (148, .ireturn, 0, 0, 0, 0)])
def nm_102 : nM := (⟨"SlipHeirs", "timesToWear", "(II)I"⟩, prog_1_method_48_code, 5, some .int, [929, 110, 928, 25], [
  (0, .aload_n 0, 0, 0, 0, 0),
  (1, .getfield 29, 8, 3, 0, 519),
  (4, .getfield 167, 2, 0, 0, 332),
  (7, .iload_n 1, 0, 0, 0, 0),
  (8, .iaload, 0, 0, 0, 0),
  (9, .istore_n 3, 0, 0, 0, 0),
  (10, .aload_n 0, 0, 0, 0, 0),
  (11, .getfield 33, 8, 4, 0, 520),
  (14, .aload_n 0, 0, 0, 0, 0),
  (15, .getfield 29, 8, 3, 0, 519),
  (18, .invokevirtual 308, 63, 2, 0, 855),
  (21, .iconst 1, 0, 0, 0, 0),
  (22, .istore 4, 0, 0, 0, 0),
  (24, .iload 4, 0, 0, 0, 0),
  (26, .bipush 20, 0, 0, 0, 0),
  (28, .if_icmp .gt 39, 0, 0, 0, 0),
  (31, .aload_n 0, 0, 0, 0, 0),
  (32, .getfield 33, 8, 4, 0, 520),
  (35, .aload_n 0, 0, 0, 0, 0),
  (36, .getfield 19, 8, 1, 0, 517),
  (39, .iload_n 3, 0, 0, 0, 0),
  (40, .iload_n 2, 0, 0, 0, 0),
  (41, .invokevirtual 220, 64, 4, 0, 763),
  (44, .pop, 0, 0, 0, 0),
  (45, .aload_n 0, 0, 0, 0, 0),
  (46, .getfield 33, 8, 4, 0, 520),
  (49, .getfield 167, 2, 0, 0, 332),
  (52, .iload_n 1, 0, 0, 0, 0),
  (53, .iaload, 0, 0, 0, 0),
  (54, .iconst (-1), 0, 0, 0, 0),
  (55, .if_icmp .ne 6, 0, 0, 0, 0),
  (58, .iload 4, 0, 0, 0, 0),
  (60, .ireturn, 0, 0, 0, 0),
  (61, .iinc 4 1, 0, 0, 0, 0),
  (64, .goto (-40), 0, 0, 0, 0),
  (67, .iconst (-1), 0, 0, 0, 0),
  (68, .ireturn, 0, 0, 0, 0)])
def nm_103 : nM := (⟨"SlipHeirs", "wornBy", "()I"⟩, prog_1_method_25_code, 1, some .int, [933, 110, 931, 932], [
  (0, .aload_n 0, 0, 0, 0, 0),
  (1, .getfield 89, 8, 15, 0, 531),
  (4, .ireturn, 0, 0, 0, 0)])
def nm_104 : nM := (⟨"SlipHeirs", "wornLoss", "()I"⟩, prog_1_method_26_code, 1, some .int, [937, 110, 935, 936], [
  (0, .aload_n 0, 0, 0, 0, 0),
  (1, .getfield 93, 8, 16, 0, 532),
  (4, .ireturn, 0, 0, 0, 0)])
def nm_105 : nM := (⟨"SlipHeirs", "gifts", "()I"⟩, prog_1_method_27_code, 6, some .int, [941, 110, 939, 940], [
  (0, .aload_n 0, 0, 0, 0, 0),
  (1, .getfield 19, 8, 1, 0, 517),
  (4, .getfield 253, 0, 0, 0, 256),
  (7, .iconst 2, 0, 0, 0, 0),
  (8, .iaload, 0, 0, 0, 0),
  (9, .istore_n 1, 0, 0, 0, 0),
  (10, .iconst (-1), 0, 0, 0, 0),
  (11, .istore_n 2, 0, 0, 0, 0),
  (12, .iconst 0, 0, 0, 0, 0),
  (13, .istore_n 3, 0, 0, 0, 0),
  (14, .iconst 0, 0, 0, 0, 0),
  (15, .istore 4, 0, 0, 0, 0),
  (17, .iload 4, 0, 0, 0, 0),
  (19, .iconst 1, 0, 0, 0, 0),
  (20, .iload_n 1, 0, 0, 0, 0),
  (21, .ishl, 0, 0, 0, 0),
  (22, .if_icmp .ge 40, 0, 0, 0, 0),
  (25, .aload_n 0, 0, 0, 0, 0),
  (26, .iload 4, 0, 0, 0, 0),
  (28, .invokevirtual 282, 106, 2, 0, 942),
  (31, .istore 5, 0, 0, 0, 0),
  (33, .iload 5, 0, 0, 0, 0),
  (35, .iconst (-1), 0, 0, 0, 0),
  (36, .if_icmp .eq 20, 0, 0, 0, 0),
  (39, .iload_n 2, 0, 0, 0, 0),
  (40, .iconst (-1), 0, 0, 0, 0),
  (41, .if_icmp .eq 9, 0, 0, 0, 0),
  (44, .iload 5, 0, 0, 0, 0),
  (46, .iload_n 2, 0, 0, 0, 0),
  (47, .if_icmp .ge 9, 0, 0, 0, 0),
  (50, .iload 5, 0, 0, 0, 0),
  (52, .istore_n 2, 0, 0, 0, 0),
  (53, .iload 4, 0, 0, 0, 0),
  (55, .istore_n 3, 0, 0, 0, 0),
  (56, .iinc 4 1, 0, 0, 0, 0),
  (59, .goto (-42), 0, 0, 0, 0),
  (62, .iconst 0, 0, 0, 0, 0),
  (63, .istore 4, 0, 0, 0, 0),
  (65, .iload 4, 0, 0, 0, 0),
  (67, .bipush 6, 0, 0, 0, 0),
  (69, .if_icmp .ge 33, 0, 0, 0, 0),
  (72, .aload_n 0, 0, 0, 0, 0),
  (73, .getfield 74, 8, 11, 0, 527),
  (76, .iload 4, 0, 0, 0, 0),
  (78, .iload 4, 0, 0, 0, 0),
  (80, .iload_n 1, 0, 0, 0, 0),
  (81, .if_icmp .ge 13, 0, 0, 0, 0),
  (84, .aload_n 0, 0, 0, 0, 0),
  (85, .iload_n 3, 0, 0, 0, 0),
  (86, .iload 4, 0, 0, 0, 0),
  (88, .invokevirtual 285, 109, 3, 0, 954),
  (91, .goto 4, 0, 0, 0, 0),
  (94, .iconst (-1), 0, 0, 0, 0),
  (95, .iastore, 0, 0, 0, 0),
  (96, .iinc 4 1, 0, 0, 0, 0),
  (99, .goto (-34), 0, 0, 0, 0),
  (102, .iload_n 2, 0, 0, 0, 0),
  (103, .ireturn, 0, 0, 0, 0)])
def nm_106 : nM := (⟨"SlipHeirs", "harmBy", "(I)I"⟩, prog_1_method_52_code, 6, some .int, [945, 110, 944, 26], [
  (0, .iconst 0, 0, 0, 0, 0),
  (1, .istore_n 2, 0, 0, 0, 0),
  (2, .iconst 0, 0, 0, 0, 0),
  (3, .istore_n 3, 0, 0, 0, 0),
  (4, .iconst 0, 0, 0, 0, 0),
  (5, .istore 4, 0, 0, 0, 0),
  (7, .iload 4, 0, 0, 0, 0),
  (9, .aload_n 0, 0, 0, 0, 0),
  (10, .getfield 19, 8, 1, 0, 517),
  (13, .getfield 253, 0, 0, 0, 256),
  (16, .iconst 2, 0, 0, 0, 0),
  (17, .iaload, 0, 0, 0, 0),
  (18, .if_icmp .ge 112, 0, 0, 0, 0),
  (21, .aload_n 0, 0, 0, 0, 0),
  (22, .iload_n 1, 0, 0, 0, 0),
  (23, .iload 4, 0, 0, 0, 0),
  (25, .invokevirtual 348, 107, 3, 0, 946),
  (28, .ifCond .eq 14, 0, 0, 0, 0),
  (31, .aload_n 0, 0, 0, 0, 0),
  (32, .iload 4, 0, 0, 0, 0),
  (34, .invokevirtual 351, 108, 2, 0, 950),
  (37, .ifCond .ne 5, 0, 0, 0, 0),
  (40, .iconst (-1), 0, 0, 0, 0),
  (41, .ireturn, 0, 0, 0, 0),
  (42, .aload_n 0, 0, 0, 0, 0),
  (43, .iload_n 1, 0, 0, 0, 0),
  (44, .iload 4, 0, 0, 0, 0),
  (46, .invokevirtual 285, 109, 3, 0, 954),
  (49, .istore 5, 0, 0, 0, 0),
  (51, .iload 5, 0, 0, 0, 0),
  (53, .iconst (-1), 0, 0, 0, 0),
  (54, .if_icmp .eq 70, 0, 0, 0, 0),
  (57, .aload_n 0, 0, 0, 0, 0),
  (58, .iload_n 1, 0, 0, 0, 0),
  (59, .iload 4, 0, 0, 0, 0),
  (61, .invokevirtual 348, 107, 3, 0, 946),
  (64, .ifCond .eq 15, 0, 0, 0, 0),
  (67, .iload_n 3, 0, 0, 0, 0),
  (68, .iload 5, 0, 0, 0, 0),
  (70, .ishr, 0, 0, 0, 0),
  (71, .iconst 1, 0, 0, 0, 0),
  (72, .iand, 0, 0, 0, 0),
  (73, .iconst 1, 0, 0, 0, 0),
  (74, .if_icmp .ne 5, 0, 0, 0, 0),
  (77, .iconst (-1), 0, 0, 0, 0),
  (78, .ireturn, 0, 0, 0, 0),
  (79, .iload_n 3, 0, 0, 0, 0),
  (80, .aload_n 0, 0, 0, 0, 0),
  (81, .iload_n 1, 0, 0, 0, 0),
  (82, .iload 4, 0, 0, 0, 0),
  (84, .invokevirtual 348, 107, 3, 0, 946),
  (87, .ifCond .eq 10, 0, 0, 0, 0),
  (90, .iconst 1, 0, 0, 0, 0),
  (91, .iload 5, 0, 0, 0, 0),
  (93, .ishl, 0, 0, 0, 0),
  (94, .goto 4, 0, 0, 0, 0),
  (97, .iconst 0, 0, 0, 0, 0),
  (98, .ior, 0, 0, 0, 0),
  (99, .istore_n 3, 0, 0, 0, 0),
  (100, .iload_n 2, 0, 0, 0, 0),
  (101, .aload_n 0, 0, 0, 0, 0),
  (102, .getfield 19, 8, 1, 0, 517),
  (105, .getfield 179, 0, 10, 0, 279),
  (108, .iload 4, 0, 0, 0, 0),
  (110, .iaload, 0, 0, 0, 0),
  (111, .aload_n 0, 0, 0, 0, 0),
  (112, .getfield 19, 8, 1, 0, 517),
  (115, .getfield 154, 0, 5, 0, 267),
  (118, .iload 5, 0, 0, 0, 0),
  (120, .iaload, 0, 0, 0, 0),
  (121, .imul, 0, 0, 0, 0),
  (122, .iadd, 0, 0, 0, 0),
  (123, .istore_n 2, 0, 0, 0, 0),
  (124, .iinc 4 1, 0, 0, 0, 0),
  (127, .goto (-120), 0, 0, 0, 0),
  (130, .iload_n 2, 0, 0, 0, 0),
  (131, .ireturn, 0, 0, 0, 0)])
def nm_107 : nM := (⟨"SlipHeirs", "isGiven", "(II)Z"⟩, prog_1_method_49_code, 3, some .boolean, [949, 110, 948, 27], [
  (0, .iload_n 1, 0, 0, 0, 0),
  (1, .aload_n 0, 0, 0, 0, 0),
  (2, .getfield 19, 8, 1, 0, 517),
  (5, .getfield 253, 0, 0, 0, 256),
  (8, .iconst 2, 0, 0, 0, 0),
  (9, .iaload, 0, 0, 0, 0),
  (10, .iconst 1, 0, 0, 0, 0),
  (11, .isub, 0, 0, 0, 0),
  (12, .iload_n 2, 0, 0, 0, 0),
  (13, .isub, 0, 0, 0, 0),
  (14, .ishr, 0, 0, 0, 0),
  (15, .iconst 1, 0, 0, 0, 0),
  (16, .iand, 0, 0, 0, 0),
  (17, .iconst 1, 0, 0, 0, 0),
  (18, .if_icmp .ne 7, 0, 0, 0, 0),
  (21, .iconst 1, 0, 0, 0, 0),
  (22, .goto 4, 0, 0, 0, 0),
  (25, .iconst 0, 0, 0, 0, 0),
  (26, .ireturn, 0, 0, 0, 0)])
def nm_108 : nM := (⟨"SlipHeirs", "mayBeGiven", "(I)Z"⟩, prog_1_method_51_code, 3, some .boolean, [953, 110, 952, 28], [
  (0, .aload_n 0, 0, 0, 0, 0),
  (1, .getfield 29, 8, 3, 0, 519),
  (4, .getfield 167, 2, 0, 0, 332),
  (7, .iload_n 1, 0, 0, 0, 0),
  (8, .iaload, 0, 0, 0, 0),
  (9, .istore_n 2, 0, 0, 0, 0),
  (10, .iload_n 2, 0, 0, 0, 0),
  (11, .ifCond .lt 22, 0, 0, 0, 0),
  (14, .iload_n 2, 0, 0, 0, 0),
  (15, .bipush 10, 0, 0, 0, 0),
  (17, .if_icmp .ge 16, 0, 0, 0, 0),
  (20, .aload_n 0, 0, 0, 0, 0),
  (21, .getfield 19, 8, 1, 0, 517),
  (24, .getfield 157, 0, 4, 0, 264),
  (27, .iload_n 2, 0, 0, 0, 0),
  (28, .iaload, 0, 0, 0, 0),
  (29, .iconst (-1), 0, 0, 0, 0),
  (30, .if_icmp .ne 5, 0, 0, 0, 0),
  (33, .iconst 0, 0, 0, 0, 0),
  (34, .ireturn, 0, 0, 0, 0),
  (35, .aload_n 0, 0, 0, 0, 0),
  (36, .getfield 29, 8, 3, 0, 519),
  (39, .aload_n 0, 0, 0, 0, 0),
  (40, .getfield 19, 8, 1, 0, 517),
  (43, .iload_n 1, 0, 0, 0, 0),
  (44, .aload_n 0, 0, 0, 0, 0),
  (45, .getfield 19, 8, 1, 0, 517),
  (48, .getfield 157, 0, 4, 0, 264),
  (51, .iload_n 2, 0, 0, 0, 0),
  (52, .iaload, 0, 0, 0, 0),
  (53, .invokevirtual 227, 76, 4, 0, 814),
  (56, .ifCond .ne 7, 0, 0, 0, 0),
  (59, .iconst 1, 0, 0, 0, 0),
  (60, .goto 4, 0, 0, 0, 0),
  (63, .iconst 0, 0, 0, 0, 0),
  (64, .ireturn, 0, 0, 0, 0)])
def nm_109 : nM := (⟨"SlipHeirs", "bearerBy", "(II)I"⟩, prog_1_method_50_code, 4, some .int, [957, 110, 956, 29], [
  (0, .aload_n 0, 0, 0, 0, 0),
  (1, .getfield 29, 8, 3, 0, 519),
  (4, .getfield 167, 2, 0, 0, 332),
  (7, .iload_n 2, 0, 0, 0, 0),
  (8, .iaload, 0, 0, 0, 0),
  (9, .istore_n 3, 0, 0, 0, 0),
  (10, .iload_n 3, 0, 0, 0, 0),
  (11, .ifCond .lt 9, 0, 0, 0, 0),
  (14, .iload_n 3, 0, 0, 0, 0),
  (15, .bipush 10, 0, 0, 0, 0),
  (17, .if_icmp .lt 5, 0, 0, 0, 0),
  (20, .iconst (-1), 0, 0, 0, 0),
  (21, .ireturn, 0, 0, 0, 0),
  (22, .aload_n 0, 0, 0, 0, 0),
  (23, .iload_n 1, 0, 0, 0, 0),
  (24, .iload_n 2, 0, 0, 0, 0),
  (25, .invokevirtual 348, 107, 3, 0, 946),
  (28, .ifCond .eq 15, 0, 0, 0, 0),
  (31, .aload_n 0, 0, 0, 0, 0),
  (32, .getfield 19, 8, 1, 0, 517),
  (35, .getfield 157, 0, 4, 0, 264),
  (38, .iload_n 3, 0, 0, 0, 0),
  (39, .iaload, 0, 0, 0, 0),
  (40, .goto 4, 0, 0, 0, 0),
  (43, .iload_n 3, 0, 0, 0, 0),
  (44, .ireturn, 0, 0, 0, 0)])
def nm_110 : nM := (⟨"SlipHeirs", "gift", "(I)I"⟩, prog_1_method_28_code, 2, some .int, [961, 110, 959, 960], [
  (0, .iload_n 1, 0, 0, 0, 0),
  (1, .ifCond .lt 9, 0, 0, 0, 0),
  (4, .iload_n 1, 0, 0, 0, 0),
  (5, .bipush 6, 0, 0, 0, 0),
  (7, .if_icmp .lt 7, 0, 0, 0, 0),
  (10, .iconst (-1), 0, 0, 0, 0),
  (11, .goto 9, 0, 0, 0, 0),
  (14, .aload_n 0, 0, 0, 0, 0),
  (15, .getfield 74, 8, 11, 0, 527),
  (18, .iload_n 1, 0, 0, 0, 0),
  (19, .iaload, 0, 0, 0, 0),
  (20, .ireturn, 0, 0, 0, 0)])
def nm_111 : nM := (⟨"SlipHeirs", "together", "(II)I"⟩, prog_1_method_29_code, 3, some .int, [965, 110, 963, 964], [
  (0, .aload_n 0, 0, 0, 0, 0),
  (1, .getfield 19, 8, 1, 0, 517),
  (4, .iload_n 1, 0, 0, 0, 0),
  (5, .invokevirtual 288, 112, 2, 0, 966),
  (8, .ifCond .eq 15, 0, 0, 0, 0),
  (11, .aload_n 0, 0, 0, 0, 0),
  (12, .getfield 19, 8, 1, 0, 517),
  (15, .iconst 0, 0, 0, 0, 0),
  (16, .iload_n 2, 0, 0, 0, 0),
  (17, .invokevirtual 133, 55, 3, 0, 726),
  (20, .ifCond .ne 5, 0, 0, 0, 0),
  (23, .iconst (-1), 0, 0, 0, 0),
  (24, .ireturn, 0, 0, 0, 0),
  (25, .aload_n 0, 0, 0, 0, 0),
  (26, .getfield 19, 8, 1, 0, 517),
  (29, .iload_n 1, 0, 0, 0, 0),
  (30, .iload_n 2, 0, 0, 0, 0),
  (31, .invokevirtual 291, 113, 3, 0, 970),
  (34, .ireturn, 0, 0, 0, 0)])
def nm_112 : nM := (⟨"SlipHeirs$Family", "isSet", "(I)Z"⟩, prog_2_method_15_code, 2, some .boolean, [969, 116, 967, 968], [
  (0, .iload_n 1, 0, 0, 0, 0),
  (1, .ifCond .lt 19, 0, 0, 0, 0),
  (4, .iload_n 1, 0, 0, 0, 0),
  (5, .iconst 1, 0, 0, 0, 0),
  (6, .aload_n 0, 0, 0, 0, 0),
  (7, .getfield 9, 0, 0, 0, 252),
  (10, .iconst 2, 0, 0, 0, 0),
  (11, .iaload, 0, 0, 0, 0),
  (12, .ishl, 0, 0, 0, 0),
  (13, .if_icmp .ge 7, 0, 0, 0, 0),
  (16, .iconst 1, 0, 0, 0, 0),
  (17, .goto 4, 0, 0, 0, 0),
  (20, .iconst 0, 0, 0, 0, 0),
  (21, .ireturn, 0, 0, 0, 0)])
def nm_113 : nM := (⟨"SlipHeirs$Family", "become", "(II)I"⟩, prog_2_method_23_code, 3, some .int, [973, 116, 971, 972], [
  (0, .aload_n 0, 0, 0, 0, 0),
  (1, .iload_n 1, 0, 0, 0, 0),
  (2, .iload_n 2, 0, 0, 0, 0),
  (3, .invokevirtual 163, 65, 3, 0, 974),
  (6, .bipush 8, 0, 0, 0, 0),
  (8, .ishr, 0, 0, 0, 0),
  (9, .ireturn, 0, 0, 0, 0)])
def nm_114 : nM := (⟨"SlipHeirs", "rests", "(I)I"⟩, prog_1_method_30_code, 6, some .int, [978, 110, 976, 977], [
  (0, .aload_n 0, 0, 0, 0, 0),
  (1, .getfield 19, 8, 1, 0, 517),
  (4, .iload_n 1, 0, 0, 0, 0),
  (5, .invokevirtual 288, 112, 2, 0, 966),
  (8, .ifCond .ne 5, 0, 0, 0, 0),
  (11, .iconst (-1), 0, 0, 0, 0),
  (12, .ireturn, 0, 0, 0, 0),
  (13, .iconst 1, 0, 0, 0, 0),
  (14, .aload_n 0, 0, 0, 0, 0),
  (15, .getfield 19, 8, 1, 0, 517),
  (18, .getfield 253, 0, 0, 0, 256),
  (21, .iconst 0, 0, 0, 0, 0),
  (22, .iaload, 0, 0, 0, 0),
  (23, .ishl, 0, 0, 0, 0),
  (24, .iconst 1, 0, 0, 0, 0),
  (25, .isub, 0, 0, 0, 0),
  (26, .istore_n 2, 0, 0, 0, 0),
  (27, .iconst 0, 0, 0, 0, 0),
  (28, .istore_n 3, 0, 0, 0, 0),
  (29, .iconst 0, 0, 0, 0, 0),
  (30, .istore 4, 0, 0, 0, 0),
  (32, .iload 4, 0, 0, 0, 0),
  (34, .aload_n 0, 0, 0, 0, 0),
  (35, .getfield 19, 8, 1, 0, 517),
  (38, .getfield 253, 0, 0, 0, 256),
  (41, .iconst 0, 0, 0, 0, 0),
  (42, .iaload, 0, 0, 0, 0),
  (43, .if_icmp .ge 32, 0, 0, 0, 0),
  (46, .aload_n 0, 0, 0, 0, 0),
  (47, .getfield 19, 8, 1, 0, 517),
  (50, .iload_n 1, 0, 0, 0, 0),
  (51, .iload_n 2, 0, 0, 0, 0),
  (52, .invokevirtual 294, 115, 3, 0, 979),
  (55, .istore 5, 0, 0, 0, 0),
  (57, .iload 5, 0, 0, 0, 0),
  (59, .iload_n 2, 0, 0, 0, 0),
  (60, .if_icmp .eq 6, 0, 0, 0, 0),
  (63, .iinc 3 1, 0, 0, 0, 0),
  (66, .iload 5, 0, 0, 0, 0),
  (68, .istore_n 2, 0, 0, 0, 0),
  (69, .iinc 4 1, 0, 0, 0, 0),
  (72, .goto (-40), 0, 0, 0, 0),
  (75, .iload_n 3, 0, 0, 0, 0),
  (76, .ireturn, 0, 0, 0, 0)])
def nm_115 : nM := (⟨"SlipHeirs$Family", "becomeAll", "(II)I"⟩, prog_2_method_24_code, 5, some .int, [982, 116, 980, 981], [
  (0, .iconst 0, 0, 0, 0, 0),
  (1, .istore_n 3, 0, 0, 0, 0),
  (2, .iconst 0, 0, 0, 0, 0),
  (3, .istore 4, 0, 0, 0, 0),
  (5, .iload 4, 0, 0, 0, 0),
  (7, .aload_n 0, 0, 0, 0, 0),
  (8, .getfield 9, 0, 0, 0, 252),
  (11, .iconst 0, 0, 0, 0, 0),
  (12, .iaload, 0, 0, 0, 0),
  (13, .if_icmp .ge 35, 0, 0, 0, 0),
  (16, .iload_n 3, 0, 0, 0, 0),
  (17, .iload_n 2, 0, 0, 0, 0),
  (18, .iload 4, 0, 0, 0, 0),
  (20, .ishr, 0, 0, 0, 0),
  (21, .iconst 1, 0, 0, 0, 0),
  (22, .iand, 0, 0, 0, 0),
  (23, .iconst 1, 0, 0, 0, 0),
  (24, .if_icmp .ne 15, 0, 0, 0, 0),
  (27, .iconst 1, 0, 0, 0, 0),
  (28, .aload_n 0, 0, 0, 0, 0),
  (29, .iload_n 1, 0, 0, 0, 0),
  (30, .iload 4, 0, 0, 0, 0),
  (32, .invokevirtual 166, 113, 3, 0, 983),
  (35, .ishl, 0, 0, 0, 0),
  (36, .goto 4, 0, 0, 0, 0),
  (39, .iconst 0, 0, 0, 0, 0),
  (40, .ior, 0, 0, 0, 0),
  (41, .istore_n 3, 0, 0, 0, 0),
  (42, .iinc 4 1, 0, 0, 0, 0),
  (45, .goto (-40), 0, 0, 0, 0),
  (48, .iload_n 3, 0, 0, 0, 0),
  (49, .ireturn, 0, 0, 0, 0)])
def nm_116 : nM := (⟨"SlipHeirs", "cancel", "(II)I"⟩, prog_1_method_31_code, 6, some .int, [987, 110, 985, 986], [
  (0, .aload_n 0, 0, 0, 0, 0),
  (1, .getfield 19, 8, 1, 0, 517),
  (4, .iconst 3, 0, 0, 0, 0),
  (5, .iload_n 1, 0, 0, 0, 0),
  (6, .invokevirtual 133, 55, 3, 0, 726),
  (9, .ifCond .eq 8, 0, 0, 0, 0),
  (12, .iload_n 2, 0, 0, 0, 0),
  (13, .iconst (-1), 0, 0, 0, 0),
  (14, .if_icmp .ge 5, 0, 0, 0, 0),
  (17, .iconst (-1), 0, 0, 0, 0),
  (18, .ireturn, 0, 0, 0, 0),
  (19, .iconst 0, 0, 0, 0, 0),
  (20, .istore_n 3, 0, 0, 0, 0),
  (21, .iconst 0, 0, 0, 0, 0),
  (22, .istore 4, 0, 0, 0, 0),
  (24, .iload 4, 0, 0, 0, 0),
  (26, .aload_n 0, 0, 0, 0, 0),
  (27, .getfield 19, 8, 1, 0, 517),
  (30, .getfield 253, 0, 0, 0, 256),
  (33, .iconst 2, 0, 0, 0, 0),
  (34, .iaload, 0, 0, 0, 0),
  (35, .if_icmp .ge 67, 0, 0, 0, 0),
  (38, .iload 4, 0, 0, 0, 0),
  (40, .iconst 1, 0, 0, 0, 0),
  (41, .iadd, 0, 0, 0, 0),
  (42, .istore 5, 0, 0, 0, 0),
  (44, .iload 5, 0, 0, 0, 0),
  (46, .aload_n 0, 0, 0, 0, 0),
  (47, .getfield 19, 8, 1, 0, 517),
  (50, .getfield 253, 0, 0, 0, 256),
  (53, .iconst 2, 0, 0, 0, 0),
  (54, .iaload, 0, 0, 0, 0),
  (55, .if_icmp .ge 41, 0, 0, 0, 0),
  (58, .aload_n 0, 0, 0, 0, 0),
  (59, .getfield 19, 8, 1, 0, 517),
  (62, .iload_n 1, 0, 0, 0, 0),
  (63, .iload 4, 0, 0, 0, 0),
  (65, .iload 5, 0, 0, 0, 0),
  (67, .invokevirtual 297, 117, 4, 0, 988),
  (70, .ifCond .eq 20, 0, 0, 0, 0),
  (73, .iload_n 3, 0, 0, 0, 0),
  (74, .iload_n 2, 0, 0, 0, 0),
  (75, .if_icmp .ne 12, 0, 0, 0, 0),
  (78, .bipush 10, 0, 0, 0, 0),
  (80, .iload 4, 0, 0, 0, 0),
  (82, .imul, 0, 0, 0, 0),
  (83, .iload 5, 0, 0, 0, 0),
  (85, .iadd, 0, 0, 0, 0),
  (86, .ireturn, 0, 0, 0, 0),
  (87, .iinc 3 1, 0, 0, 0, 0),
  (90, .iinc 5 1, 0, 0, 0, 0),
  (93, .goto (-49), 0, 0, 0, 0),
  (96, .iinc 4 1, 0, 0, 0, 0),
  (99, .goto (-75), 0, 0, 0, 0),
  (102, .iload_n 2, 0, 0, 0, 0),
  (103, .iconst (-1), 0, 0, 0, 0),
  (104, .if_icmp .ne 7, 0, 0, 0, 0),
  (107, .iload_n 3, 0, 0, 0, 0),
  (108, .goto 4, 0, 0, 0, 0),
  (111, .iconst (-1), 0, 0, 0, 0),
  (112, .ireturn, 0, 0, 0, 0)])
def nm_117 : nM := (⟨"SlipHeirs$Family", "cancelOut", "(III)Z"⟩, prog_2_method_25_code, 5, some .boolean, [991, 116, 989, 990], [
  (0, .aload_n 0, 0, 0, 0, 0),
  (1, .iconst 1, 0, 0, 0, 0),
  (2, .iload_n 2, 0, 0, 0, 0),
  (3, .ishl, 0, 0, 0, 0),
  (4, .iload_n 1, 0, 0, 0, 0),
  (5, .invokevirtual 169, 118, 3, 0, 992),
  (8, .ifCond .ne 14, 0, 0, 0, 0),
  (11, .aload_n 0, 0, 0, 0, 0),
  (12, .iconst 1, 0, 0, 0, 0),
  (13, .iload_n 3, 0, 0, 0, 0),
  (14, .ishl, 0, 0, 0, 0),
  (15, .iload_n 1, 0, 0, 0, 0),
  (16, .invokevirtual 169, 118, 3, 0, 992),
  (19, .ifCond .eq 7, 0, 0, 0, 0),
  (22, .iconst 1, 0, 0, 0, 0),
  (23, .goto 4, 0, 0, 0, 0),
  (26, .iconst 0, 0, 0, 0, 0),
  (27, .istore 4, 0, 0, 0, 0),
  (29, .iload 4, 0, 0, 0, 0),
  (31, .ifCond .eq 22, 0, 0, 0, 0),
  (34, .aload_n 0, 0, 0, 0, 0),
  (35, .iconst 1, 0, 0, 0, 0),
  (36, .iload_n 2, 0, 0, 0, 0),
  (37, .ishl, 0, 0, 0, 0),
  (38, .iconst 1, 0, 0, 0, 0),
  (39, .iload_n 3, 0, 0, 0, 0),
  (40, .ishl, 0, 0, 0, 0),
  (41, .ior, 0, 0, 0, 0),
  (42, .iload_n 1, 0, 0, 0, 0),
  (43, .invokevirtual 169, 118, 3, 0, 992),
  (46, .ifCond .ne 7, 0, 0, 0, 0),
  (49, .iconst 1, 0, 0, 0, 0),
  (50, .goto 4, 0, 0, 0, 0),
  (53, .iconst 0, 0, 0, 0, 0),
  (54, .ireturn, 0, 0, 0, 0)])
def nm_118 : nM := (⟨"SlipHeirs$Family", "spoils", "(II)Z"⟩, prog_2_method_26_code, 5, some .boolean, [995, 116, 994, 30], [
  (0, .iconst 0, 0, 0, 0, 0),
  (1, .istore_n 3, 0, 0, 0, 0),
  (2, .iload_n 3, 0, 0, 0, 0),
  (3, .aload_n 0, 0, 0, 0, 0),
  (4, .getfield 49, 0, 12, 0, 284),
  (7, .iload_n 2, 0, 0, 0, 0),
  (8, .iaload, 0, 0, 0, 0),
  (9, .if_icmp .ge 36, 0, 0, 0, 0),
  (12, .aload_n 0, 0, 0, 0, 0),
  (13, .getfield 52, 0, 13, 0, 287),
  (16, .iload_n 2, 0, 0, 0, 0),
  (17, .bipush 12, 0, 0, 0, 0),
  (19, .imul, 0, 0, 0, 0),
  (20, .iload_n 3, 0, 0, 0, 0),
  (21, .iadd, 0, 0, 0, 0),
  (22, .iaload, 0, 0, 0, 0),
  (23, .istore 4, 0, 0, 0, 0),
  (25, .aload_n 0, 0, 0, 0, 0),
  (26, .iload_n 1, 0, 0, 0, 0),
  (27, .iload 4, 0, 0, 0, 0),
  (29, .invokevirtual 166, 113, 3, 0, 983),
  (32, .iload 4, 0, 0, 0, 0),
  (34, .if_icmp .eq 5, 0, 0, 0, 0),
  (37, .iconst 1, 0, 0, 0, 0),
  (38, .ireturn, 0, 0, 0, 0),
  (39, .iinc 3 1, 0, 0, 0, 0),
  (42, .goto (-40), 0, 0, 0, 0),
  (45, .iconst 0, 0, 0, 0, 0),
  (46, .ireturn, 0, 0, 0, 0)])
def nm_119 : nM := (⟨"SlipHeirs", "under", "(I)I"⟩, prog_1_method_32_code, 2, some .int, [999, 110, 997, 998], [
  (0, .aload_n 0, 0, 0, 0, 0),
  (1, .getfield 19, 8, 1, 0, 517),
  (4, .iconst 1, 0, 0, 0, 0),
  (5, .iload_n 1, 0, 0, 0, 0),
  (6, .invokevirtual 133, 55, 3, 0, 726),
  (9, .ifCond .eq 14, 0, 0, 0, 0),
  (12, .aload_n 0, 0, 0, 0, 0),
  (13, .getfield 19, 8, 1, 0, 517),
  (16, .iload_n 1, 0, 0, 0, 0),
  (17, .invokevirtual 301, 74, 2, 0, 1000),
  (20, .goto 4, 0, 0, 0, 0),
  (23, .iconst (-1), 0, 0, 0, 0),
  (24, .ireturn, 0, 0, 0, 0)])
def nm_120 : nM := (⟨"SlipHeirs", "common", "(II)I"⟩, prog_1_method_33_code, 5, some .int, [1004, 110, 1002, 1003], [
  (0, .aload_n 0, 0, 0, 0, 0),
  (1, .getfield 19, 8, 1, 0, 517),
  (4, .iconst 1, 0, 0, 0, 0),
  (5, .iload_n 1, 0, 0, 0, 0),
  (6, .invokevirtual 133, 55, 3, 0, 726),
  (9, .ifCond .eq 15, 0, 0, 0, 0),
  (12, .aload_n 0, 0, 0, 0, 0),
  (13, .getfield 19, 8, 1, 0, 517),
  (16, .iconst 1, 0, 0, 0, 0),
  (17, .iload_n 2, 0, 0, 0, 0),
  (18, .invokevirtual 133, 55, 3, 0, 726),
  (21, .ifCond .ne 5, 0, 0, 0, 0),
  (24, .iconst (-1), 0, 0, 0, 0),
  (25, .ireturn, 0, 0, 0, 0),
  (26, .iload_n 1, 0, 0, 0, 0),
  (27, .istore_n 3, 0, 0, 0, 0),
  (28, .iconst 0, 0, 0, 0, 0),
  (29, .istore 4, 0, 0, 0, 0),
  (31, .iload 4, 0, 0, 0, 0),
  (33, .bipush 10, 0, 0, 0, 0),
  (35, .if_icmp .ge 47, 0, 0, 0, 0),
  (38, .iload_n 3, 0, 0, 0, 0),
  (39, .iconst (-1), 0, 0, 0, 0),
  (40, .if_icmp .eq 42, 0, 0, 0, 0),
  (43, .iload_n 3, 0, 0, 0, 0),
  (44, .iload_n 2, 0, 0, 0, 0),
  (45, .if_icmp .eq 19, 0, 0, 0, 0),
  (48, .aload_n 0, 0, 0, 0, 0),
  (49, .getfield 19, 8, 1, 0, 517),
  (52, .iload_n 3, 0, 0, 0, 0),
  (53, .invokevirtual 301, 74, 2, 0, 1000),
  (56, .iload_n 2, 0, 0, 0, 0),
  (57, .ishr, 0, 0, 0, 0),
  (58, .iconst 1, 0, 0, 0, 0),
  (59, .iand, 0, 0, 0, 0),
  (60, .iconst 1, 0, 0, 0, 0),
  (61, .if_icmp .ne 5, 0, 0, 0, 0),
  (64, .iload_n 3, 0, 0, 0, 0),
  (65, .ireturn, 0, 0, 0, 0),
  (66, .aload_n 0, 0, 0, 0, 0),
  (67, .getfield 19, 8, 1, 0, 517),
  (70, .getfield 143, 0, 3, 0, 262),
  (73, .iload_n 3, 0, 0, 0, 0),
  (74, .iaload, 0, 0, 0, 0),
  (75, .istore_n 3, 0, 0, 0, 0),
  (76, .iinc 4 1, 0, 0, 0, 0),
  (79, .goto (-48), 0, 0, 0, 0),
  (82, .iconst (-1), 0, 0, 0, 0),
  (83, .ireturn, 0, 0, 0, 0)])
def nm_121 : nM := (⟨"SlipHeirs", "drawn", "(II)I"⟩, prog_1_method_34_code, 3, some .int, [1008, 110, 1006, 1007], [
  (0, .iload_n 1, 0, 0, 0, 0),
  (1, .iconst 1, 0, 0, 0, 0),
  (2, .if_icmp .lt 24, 0, 0, 0, 0),
  (5, .iload_n 1, 0, 0, 0, 0),
  (6, .bipush 60, 0, 0, 0, 0),
  (8, .if_icmp .gt 18, 0, 0, 0, 0),
  (11, .aload_n 0, 0, 0, 0, 0),
  (12, .getfield 29, 8, 3, 0, 519),
  (15, .getfield 198, 2, 6, 0, 346),
  (18, .iload_n 1, 0, 0, 0, 0),
  (19, .iadd, 0, 0, 0, 0),
  (20, .sipush 999, 0, 0, 0, 0),
  (23, .if_icmp .le 5, 0, 0, 0, 0),
  (26, .iconst (-1), 0, 0, 0, 0),
  (27, .ireturn, 0, 0, 0, 0),
  (28, .aload_n 0, 0, 0, 0, 0),
  (29, .getfield 56, 8, 8, 0, 524),
  (32, .aload_n 0, 0, 0, 0, 0),
  (33, .getfield 29, 8, 3, 0, 519),
  (36, .invokevirtual 216, 62, 2, 0, 754),
  (39, .aload_n 0, 0, 0, 0, 0),
  (40, .getfield 29, 8, 3, 0, 519),
  (43, .aload_n 0, 0, 0, 0, 0),
  (44, .getfield 19, 8, 1, 0, 517),
  (47, .iload_n 1, 0, 0, 0, 0),
  (48, .iload_n 2, 0, 0, 0, 0),
  (49, .invokevirtual 304, 122, 4, 0, 1009),
  (52, .aload_n 0, 0, 0, 0, 0),
  (53, .getfield 29, 8, 3, 0, 519),
  (56, .getfield 198, 2, 6, 0, 346),
  (59, .ireturn, 0, 0, 0, 0)])
def nm_122 : nM := (⟨"SlipHeirs$Life", "drawYears", "(LSlipHeirs$Family;II)V"⟩, prog_4_method_13_code, 8, none, [1012, 117, 1010, 1011], [
  (0, .iload_n 3, 0, 0, 0, 0),
  (1, .istore 4, 0, 0, 0, 0),
  (3, .aload_n 1, 0, 0, 0, 0),
  (4, .getfield 67, 0, 0, 0, 254),
  (7, .iconst 3, 0, 0, 0, 0),
  (8, .iaload, 0, 0, 0, 0),
  (9, .istore 5, 0, 0, 0, 0),
  (11, .iconst 0, 0, 0, 0, 0),
  (12, .istore 6, 0, 0, 0, 0),
  (14, .iload 6, 0, 0, 0, 0),
  (16, .iload_n 2, 0, 0, 0, 0),
  (17, .if_icmp .ge 120, 0, 0, 0, 0),
  (20, .iconst 0, 0, 0, 0, 0),
  (21, .istore 7, 0, 0, 0, 0),
  (23, .iload 7, 0, 0, 0, 0),
  (25, .aload_n 1, 0, 0, 0, 0),
  (26, .getfield 67, 0, 0, 0, 254),
  (29, .iconst 1, 0, 0, 0, 0),
  (30, .iaload, 0, 0, 0, 0),
  (31, .if_icmp .ge 90, 0, 0, 0, 0),
  (34, .aload_n 0, 0, 0, 0, 0),
  (35, .iload 7, 0, 0, 0, 0),
  (37, .invokevirtual 74, 61, 2, 0, 767),
  (40, .ifCond .eq 75, 0, 0, 0, 0),
  (43, .iload 4, 0, 0, 0, 0),
  (45, .invokestatic 114, 123, 1, 2, 1013),
  (48, .istore 4, 0, 0, 0, 0),
  (50, .iload 4, 0, 0, 0, 0),
  (52, .bipush 8, 0, 0, 0, 0),
  (54, .iushr, 0, 0, 0, 0),
  (55, .bipush 6, 0, 0, 0, 0),
  (57, .irem, 0, 0, 0, 0),
  (58, .ifCond .ne 31, 0, 0, 0, 0),
  (61, .iload 5, 0, 0, 0, 0),
  (63, .ifCond .le 26, 0, 0, 0, 0),
  (66, .iload 4, 0, 0, 0, 0),
  (68, .invokestatic 114, 123, 1, 2, 1013),
  (71, .istore 4, 0, 0, 0, 0),
  (73, .aload_n 0, 0, 0, 0, 0),
  (74, .aload_n 1, 0, 0, 0, 0),
  (75, .iload 7, 0, 0, 0, 0),
  (77, .iload 4, 0, 0, 0, 0),
  (79, .bipush 8, 0, 0, 0, 0),
  (81, .iushr, 0, 0, 0, 0),
  (82, .iload 5, 0, 0, 0, 0),
  (84, .irem, 0, 0, 0, 0),
  (85, .invokevirtual 118, 64, 4, 0, 1017),
  (88, .pop, 0, 0, 0, 0),
  (89, .iload 4, 0, 0, 0, 0),
  (91, .invokestatic 114, 123, 1, 2, 1013),
  (94, .istore 4, 0, 0, 0, 0),
  (96, .iload 4, 0, 0, 0, 0),
  (98, .bipush 8, 0, 0, 0, 0),
  (100, .iushr, 0, 0, 0, 0),
  (101, .bipush 40, 0, 0, 0, 0),
  (103, .irem, 0, 0, 0, 0),
  (104, .ifCond .ne 11, 0, 0, 0, 0),
  (107, .aload_n 0, 0, 0, 0, 0),
  (108, .aload_n 1, 0, 0, 0, 0),
  (109, .iload 7, 0, 0, 0, 0),
  (111, .invokevirtual 121, 69, 3, 0, 1018),
  (114, .pop, 0, 0, 0, 0),
  (115, .iinc 7 1, 0, 0, 0, 0),
  (118, .goto (-95), 0, 0, 0, 0),
  (121, .aload_n 0, 0, 0, 0, 0),
  (122, .dup, 0, 0, 0, 0),
  (123, .getfield 31, 2, 6, 0, 345),
  (126, .iconst 1, 0, 0, 0, 0),
  (127, .iadd, 0, 0, 0, 0),
  (128, .putfield 31, 2, 6, 0, 345),
  (131, .iinc 6 1, 0, 0, 0, 0),
  (134, .goto (-120), 0, 0, 0, 0),
  (137, .return_, 0, 0, 0, 0)])
def nm_123 : nM := (⟨"SlipHeirs$Life", "nextSeed", "(I)I"⟩, prog_4_method_14_code, 1, some .int, [1015, 117, 1014, 0], [
  (0, .iload_n 0, 0, 0, 0, 0),
  (1, .ldc 124, 0, 0, 1103515245, 1016),
  (3, .imul, 0, 0, 0, 0),
  (4, .sipush 12345, 0, 0, 0, 0),
  (7, .iadd, 0, 0, 0, 0),
  (8, .ireturn, 0, 0, 0, 0)])
def nm_124 : nM := (⟨"SlipHeirs", "odds", "(III)I"⟩, prog_1_method_35_code, 6, some .int, [1022, 110, 1020, 1021], [
  (0, .aload_n 0, 0, 0, 0, 0),
  (1, .getfield 19, 8, 1, 0, 517),
  (4, .iconst 2, 0, 0, 0, 0),
  (5, .iload_n 1, 0, 0, 0, 0),
  (6, .invokevirtual 133, 55, 3, 0, 726),
  (9, .ifCond .eq 30, 0, 0, 0, 0),
  (12, .iload_n 2, 0, 0, 0, 0),
  (13, .iconst 1, 0, 0, 0, 0),
  (14, .if_icmp .lt 25, 0, 0, 0, 0),
  (17, .iload_n 2, 0, 0, 0, 0),
  (18, .bipush 40, 0, 0, 0, 0),
  (20, .if_icmp .gt 19, 0, 0, 0, 0),
  (23, .aload_n 0, 0, 0, 0, 0),
  (24, .getfield 29, 8, 3, 0, 519),
  (27, .getfield 198, 2, 6, 0, 346),
  (30, .bipush 30, 0, 0, 0, 0),
  (32, .iadd, 0, 0, 0, 0),
  (33, .sipush 999, 0, 0, 0, 0),
  (36, .if_icmp .le 5, 0, 0, 0, 0),
  (39, .iconst (-1), 0, 0, 0, 0),
  (40, .ireturn, 0, 0, 0, 0),
  (41, .iconst 0, 0, 0, 0, 0),
  (42, .istore 4, 0, 0, 0, 0),
  (44, .iconst 0, 0, 0, 0, 0),
  (45, .istore 5, 0, 0, 0, 0),
  (47, .iload 5, 0, 0, 0, 0),
  (49, .iload_n 2, 0, 0, 0, 0),
  (50, .if_icmp .ge 60, 0, 0, 0, 0),
  (53, .aload_n 0, 0, 0, 0, 0),
  (54, .getfield 33, 8, 4, 0, 520),
  (57, .aload_n 0, 0, 0, 0, 0),
  (58, .getfield 29, 8, 3, 0, 519),
  (61, .invokevirtual 308, 63, 2, 0, 855),
  (64, .aload_n 0, 0, 0, 0, 0),
  (65, .getfield 33, 8, 4, 0, 520),
  (68, .aload_n 0, 0, 0, 0, 0),
  (69, .getfield 19, 8, 1, 0, 517),
  (72, .bipush 30, 0, 0, 0, 0),
  (74, .iload_n 3, 0, 0, 0, 0),
  (75, .iload 5, 0, 0, 0, 0),
  (77, .iadd, 0, 0, 0, 0),
  (78, .invokevirtual 304, 122, 4, 0, 1009),
  (81, .iload 4, 0, 0, 0, 0),
  (83, .aload_n 0, 0, 0, 0, 0),
  (84, .getfield 33, 8, 4, 0, 520),
  (87, .getfield 167, 2, 0, 0, 332),
  (90, .iload_n 1, 0, 0, 0, 0),
  (91, .iaload, 0, 0, 0, 0),
  (92, .iconst (-1), 0, 0, 0, 0),
  (93, .if_icmp .ne 7, 0, 0, 0, 0),
  (96, .iconst 1, 0, 0, 0, 0),
  (97, .goto 4, 0, 0, 0, 0),
  (100, .iconst 0, 0, 0, 0, 0),
  (101, .iadd, 0, 0, 0, 0),
  (102, .istore 4, 0, 0, 0, 0),
  (104, .iinc 5 1, 0, 0, 0, 0),
  (107, .goto (-60), 0, 0, 0, 0),
  (110, .iload 4, 0, 0, 0, 0),
  (112, .ireturn, 0, 0, 0, 0)])
def nm_125 : nM := (⟨"SlipHeirs", "chronicle", "(I)I"⟩, prog_1_method_36_code, 6, some .int, [1026, 110, 1024, 1025], [
  (0, .iload_n 1, 0, 0, 0, 0),
  (1, .ifCond .eq 12, 0, 0, 0, 0),
  (4, .iload_n 1, 0, 0, 0, 0),
  (5, .iconst 1, 0, 0, 0, 0),
  (6, .if_icmp .eq 7, 0, 0, 0, 0),
  (9, .sipush (-1000), 0, 0, 0, 0),
  (12, .ireturn, 0, 0, 0, 0),
  (13, .aload_n 0, 0, 0, 0, 0),
  (14, .getfield 49, 8, 7, 0, 523),
  (17, .aload_n 0, 0, 0, 0, 0),
  (18, .getfield 10, 8, 0, 0, 516),
  (21, .aload_n 0, 0, 0, 0, 0),
  (22, .getfield 19, 8, 1, 0, 517),
  (25, .invokevirtual 310, 126, 3, 0, 1027),
  (28, .istore_n 2, 0, 0, 0, 0),
  (29, .aload_n 0, 0, 0, 0, 0),
  (30, .invokevirtual 113, 48, 1, 0, 693),
  (33, .iload_n 2, 0, 0, 0, 0),
  (34, .ifCond .ne 14, 0, 0, 0, 0),
  (37, .bipush (-2), 0, 0, 0, 0),
  (39, .aload_n 0, 0, 0, 0, 0),
  (40, .getfield 10, 8, 0, 0, 516),
  (43, .getfield 116, 7, 11, 0, 217),
  (46, .isub, 0, 0, 0, 0),
  (47, .ireturn, 0, 0, 0, 0),
  (48, .aload_n 0, 0, 0, 0, 0),
  (49, .getfield 33, 8, 4, 0, 520),
  (52, .aload_n 0, 0, 0, 0, 0),
  (53, .getfield 29, 8, 3, 0, 519),
  (56, .invokevirtual 308, 63, 2, 0, 855),
  (59, .iload_n 1, 0, 0, 0, 0),
  (60, .iconst 1, 0, 0, 0, 0),
  (61, .if_icmp .ne 14, 0, 0, 0, 0),
  (64, .aload_n 0, 0, 0, 0, 0),
  (65, .getfield 56, 8, 8, 0, 524),
  (68, .aload_n 0, 0, 0, 0, 0),
  (69, .getfield 29, 8, 3, 0, 519),
  (72, .invokevirtual 216, 62, 2, 0, 754),
  (75, .iload_n 1, 0, 0, 0, 0),
  (76, .iconst 1, 0, 0, 0, 0),
  (77, .if_icmp .ne 10, 0, 0, 0, 0),
  (80, .aload_n 0, 0, 0, 0, 0),
  (81, .getfield 29, 8, 3, 0, 519),
  (84, .goto 7, 0, 0, 0, 0),
  (87, .aload_n 0, 0, 0, 0, 0),
  (88, .getfield 33, 8, 4, 0, 520),
  (91, .astore_n 3, 0, 0, 0, 0),
  (92, .aload_n 3, 0, 0, 0, 0),
  (93, .getfield 201, 2, 7, 0, 349),
  (96, .istore 4, 0, 0, 0, 0),
  (98, .aload_n 0, 0, 0, 0, 0),
  (99, .getfield 49, 8, 7, 0, 523),
  (102, .aload_n 0, 0, 0, 0, 0),
  (103, .getfield 19, 8, 1, 0, 517),
  (106, .aload_n 3, 0, 0, 0, 0),
  (107, .invokevirtual 313, 132, 3, 0, 1059),
  (110, .istore 5, 0, 0, 0, 0),
  (112, .aload_n 0, 0, 0, 0, 0),
  (113, .getfield 78, 8, 12, 0, 528),
  (116, .iconst 0, 0, 0, 0, 0),
  (117, .aload_n 0, 0, 0, 0, 0),
  (118, .getfield 49, 8, 7, 0, 523),
  (121, .getfield 317, 6, 4, 0, 421),
  (124, .iastore, 0, 0, 0, 0),
  (125, .aload_n 0, 0, 0, 0, 0),
  (126, .getfield 78, 8, 12, 0, 528),
  (129, .iconst 1, 0, 0, 0, 0),
  (130, .iload 5, 0, 0, 0, 0),
  (132, .iconst (-1), 0, 0, 0, 0),
  (133, .if_icmp .ne 13, 0, 0, 0, 0),
  (136, .aload_n 0, 0, 0, 0, 0),
  (137, .getfield 49, 8, 7, 0, 523),
  (140, .getfield 320, 6, 3, 0, 419),
  (143, .goto 5, 0, 0, 0, 0),
  (146, .iload 5, 0, 0, 0, 0),
  (148, .iastore, 0, 0, 0, 0),
  (149, .aload_n 0, 0, 0, 0, 0),
  (150, .getfield 78, 8, 12, 0, 528),
  (153, .iconst 2, 0, 0, 0, 0),
  (154, .aload_n 3, 0, 0, 0, 0),
  (155, .getfield 198, 2, 6, 0, 346),
  (158, .iastore, 0, 0, 0, 0),
  (159, .aload_n 0, 0, 0, 0, 0),
  (160, .getfield 78, 8, 12, 0, 528),
  (163, .iconst 3, 0, 0, 0, 0),
  (164, .aload_n 3, 0, 0, 0, 0),
  (165, .getfield 201, 2, 7, 0, 349),
  (168, .iload 4, 0, 0, 0, 0),
  (170, .isub, 0, 0, 0, 0),
  (171, .iastore, 0, 0, 0, 0),
  (172, .aload_n 0, 0, 0, 0, 0),
  (173, .iconst 1, 0, 0, 0, 0),
  (174, .putfield 81, 8, 13, 0, 529),
  (177, .iload 5, 0, 0, 0, 0),
  (179, .ireturn, 0, 0, 0, 0)])
def nm_126 : nM := (⟨"SlipHeirs$Script", "read", "(LSlipHeirs$Text;LSlipHeirs$Family;)Z"⟩, prog_8_method_2_code, 4, some .boolean, [1030, 119, 1028, 1029], [
  (0, .aload_n 0, 0, 0, 0, 0),
  (1, .iconst 0, 0, 0, 0, 0),
  (2, .putfield 21, 6, 3, 0, 418),
  (5, .aload_n 1, 0, 0, 0, 0),
  (6, .sipush 400, 0, 0, 0, 0),
  (9, .invokevirtual 28, 24, 2, 0, 1031),
  (12, .iconst 0, 0, 0, 0, 0),
  (13, .istore_n 3, 0, 0, 0, 0),
  (14, .iload_n 3, 0, 0, 0, 0),
  (15, .bipush 40, 0, 0, 0, 0),
  (17, .if_icmp .gt 36, 0, 0, 0, 0),
  (20, .aload_n 1, 0, 0, 0, 0),
  (21, .invokevirtual 34, 31, 1, 0, 1032),
  (24, .ifCond .eq 29, 0, 0, 0, 0),
  (27, .aload_n 0, 0, 0, 0, 0),
  (28, .aload_n 1, 0, 0, 0, 0),
  (29, .aload_n 2, 0, 0, 0, 0),
  (30, .invokevirtual 38, 127, 3, 0, 1033),
  (33, .ifCond .eq 12, 0, 0, 0, 0),
  (36, .aload_n 1, 0, 0, 0, 0),
  (37, .bipush 59, 0, 0, 0, 0),
  (39, .invokevirtual 42, 46, 2, 0, 1057),
  (42, .ifCond .ne 5, 0, 0, 0, 0),
  (45, .iconst 0, 0, 0, 0, 0),
  (46, .ireturn, 0, 0, 0, 0),
  (47, .iinc 3 1, 0, 0, 0, 0),
  (50, .goto (-36), 0, 0, 0, 0),
  (53, .aload_n 1, 0, 0, 0, 0),
  (54, .invokevirtual 46, 47, 1, 0, 1058),
  (57, .ireturn, 0, 0, 0, 0)])
def nm_127 : nM := (⟨"SlipHeirs$Script", "readLine", "(LSlipHeirs$Text;LSlipHeirs$Family;)Z"⟩, prog_8_method_3_code, 4, some .boolean, [1036, 119, 1035, 31], [
  (0, .aload_n 1, 0, 0, 0, 0),
  (1, .invokevirtual 34, 31, 1, 0, 1032),
  (4, .istore_n 3, 0, 0, 0, 0),
  (5, .iload_n 3, 0, 0, 0, 0),
  (6, .bipush 109, 0, 0, 0, 0),
  (8, .if_icmp .eq 21, 0, 0, 0, 0),
  (11, .iload_n 3, 0, 0, 0, 0),
  (12, .bipush 110, 0, 0, 0, 0),
  (14, .if_icmp .eq 15, 0, 0, 0, 0),
  (17, .aload_n 2, 0, 0, 0, 0),
  (18, .aload_n 1, 0, 0, 0, 0),
  (19, .iconst 1, 0, 0, 0, 0),
  (20, .invokevirtual 50, 40, 3, 0, 1037),
  (23, .iconst (-1), 0, 0, 0, 0),
  (24, .if_icmp .ne 5, 0, 0, 0, 0),
  (27, .iconst 0, 0, 0, 0, 0),
  (28, .ireturn, 0, 0, 0, 0),
  (29, .aload_n 0, 0, 0, 0, 0),
  (30, .getfield 21, 6, 3, 0, 418),
  (33, .bipush 40, 0, 0, 0, 0),
  (35, .if_icmp .lt 9, 0, 0, 0, 0),
  (38, .aload_n 1, 0, 0, 0, 0),
  (39, .iconst 4, 0, 0, 0, 0),
  (40, .invokevirtual 56, 34, 2, 0, 1038),
  (43, .ireturn, 0, 0, 0, 0),
  (44, .iload_n 3, 0, 0, 0, 0),
  (45, .lookupswitch 40 #[(109, 27), (110, 34)], 0, 27, 0, 0),
  (72, .aload_n 0, 0, 0, 0, 0),
  (73, .aload_n 1, 0, 0, 0, 0),
  (74, .aload_n 2, 0, 0, 0, 0),
  (75, .invokevirtual 59, 128, 3, 0, 1039),
  (78, .ireturn, 0, 0, 0, 0),
  (79, .aload_n 0, 0, 0, 0, 0),
  (80, .aload_n 1, 0, 0, 0, 0),
  (81, .invokevirtual 62, 130, 2, 0, 1048),
  (84, .ireturn, 0, 0, 0, 0),
  (85, .aload_n 0, 0, 0, 0, 0),
  (86, .aload_n 1, 0, 0, 0, 0),
  (87, .aload_n 2, 0, 0, 0, 0),
  (88, .invokevirtual 66, 131, 3, 0, 1053),
  (91, .ireturn, 0, 0, 0, 0)])
def nm_128 : nM := (⟨"SlipHeirs$Script", "readGift", "(LSlipHeirs$Text;LSlipHeirs$Family;)Z"⟩, prog_8_method_4_code, 5, some .boolean, [1042, 119, 1041, 32], [
  (0, .aload_n 1, 0, 0, 0, 0),
  (1, .invokevirtual 69, 35, 1, 0, 1043),
  (4, .aload_n 2, 0, 0, 0, 0),
  (5, .aload_n 1, 0, 0, 0, 0),
  (6, .iconst 2, 0, 0, 0, 0),
  (7, .invokevirtual 50, 40, 3, 0, 1037),
  (10, .istore_n 3, 0, 0, 0, 0),
  (11, .iload_n 3, 0, 0, 0, 0),
  (12, .iconst (-1), 0, 0, 0, 0),
  (13, .if_icmp .ne 5, 0, 0, 0, 0),
  (16, .iconst 0, 0, 0, 0, 0),
  (17, .ireturn, 0, 0, 0, 0),
  (18, .aload_n 1, 0, 0, 0, 0),
  (19, .invokevirtual 69, 35, 1, 0, 1043),
  (22, .aload_n 2, 0, 0, 0, 0),
  (23, .aload_n 1, 0, 0, 0, 0),
  (24, .iconst 1, 0, 0, 0, 0),
  (25, .invokevirtual 50, 40, 3, 0, 1037),
  (28, .istore 4, 0, 0, 0, 0),
  (30, .iload 4, 0, 0, 0, 0),
  (32, .iconst (-1), 0, 0, 0, 0),
  (33, .if_icmp .ne 5, 0, 0, 0, 0),
  (36, .iconst 0, 0, 0, 0, 0),
  (37, .ireturn, 0, 0, 0, 0),
  (38, .aload_n 1, 0, 0, 0, 0),
  (39, .invokevirtual 69, 35, 1, 0, 1043),
  (42, .aload_n 0, 0, 0, 0, 0),
  (43, .bipush 109, 0, 0, 0, 0),
  (45, .iload_n 3, 0, 0, 0, 0),
  (46, .iload 4, 0, 0, 0, 0),
  (48, .invokevirtual 72, 129, 4, 0, 1044),
  (51, .ireturn, 0, 0, 0, 0)])
def nm_129 : nM := (⟨"SlipHeirs$Script", "add", "(III)Z"⟩, prog_8_method_7_code, 4, some .boolean, [1047, 119, 1046, 33], [
  (0, .aload_n 0, 0, 0, 0, 0),
  (1, .getfield 21, 6, 3, 0, 418),
  (4, .bipush 40, 0, 0, 0, 0),
  (6, .if_icmp .ge 43, 0, 0, 0, 0),
  (9, .aload_n 0, 0, 0, 0, 0),
  (10, .getfield 9, 6, 0, 0, 415),
  (13, .aload_n 0, 0, 0, 0, 0),
  (14, .getfield 21, 6, 3, 0, 418),
  (17, .iload_n 1, 0, 0, 0, 0),
  (18, .iastore, 0, 0, 0, 0),
  (19, .aload_n 0, 0, 0, 0, 0),
  (20, .getfield 15, 6, 1, 0, 416),
  (23, .aload_n 0, 0, 0, 0, 0),
  (24, .getfield 21, 6, 3, 0, 418),
  (27, .iload_n 2, 0, 0, 0, 0),
  (28, .iastore, 0, 0, 0, 0),
  (29, .aload_n 0, 0, 0, 0, 0),
  (30, .getfield 18, 6, 2, 0, 417),
  (33, .aload_n 0, 0, 0, 0, 0),
  (34, .getfield 21, 6, 3, 0, 418),
  (37, .iload_n 3, 0, 0, 0, 0),
  (38, .iastore, 0, 0, 0, 0),
  (39, .aload_n 0, 0, 0, 0, 0),
  (40, .dup, 0, 0, 0, 0),
  (41, .getfield 21, 6, 3, 0, 418),
  (44, .iconst 1, 0, 0, 0, 0),
  (45, .iadd, 0, 0, 0, 0),
  (46, .putfield 21, 6, 3, 0, 418),
  (49, .iconst 1, 0, 0, 0, 0),
  (50, .ireturn, 0, 0, 0, 0)])
def nm_130 : nM := (⟨"SlipHeirs$Script", "readYear", "(LSlipHeirs$Text;)Z"⟩, prog_8_method_5_code, 2, some .boolean, [1051, 119, 1050, 34], [
  (0, .aload_n 1, 0, 0, 0, 0),
  (1, .invokevirtual 69, 35, 1, 0, 1043),
  (4, .aload_n 1, 0, 0, 0, 0),
  (5, .iconst 1, 0, 0, 0, 0),
  (6, .bipush 99, 0, 0, 0, 0),
  (8, .invokevirtual 76, 39, 3, 0, 1052),
  (11, .ifCond .eq 21, 0, 0, 0, 0),
  (14, .aload_n 0, 0, 0, 0, 0),
  (15, .bipush 110, 0, 0, 0, 0),
  (17, .aload_n 1, 0, 0, 0, 0),
  (18, .getfield 80, 7, 8, 0, 210),
  (21, .iconst 0, 0, 0, 0, 0),
  (22, .invokevirtual 72, 129, 4, 0, 1044),
  (25, .ifCond .eq 7, 0, 0, 0, 0),
  (28, .iconst 1, 0, 0, 0, 0),
  (29, .goto 4, 0, 0, 0, 0),
  (32, .iconst 0, 0, 0, 0, 0),
  (33, .ireturn, 0, 0, 0, 0)])
def nm_131 : nM := (⟨"SlipHeirs$Script", "readAct", "(LSlipHeirs$Text;LSlipHeirs$Family;)Z"⟩, prog_8_method_6_code, 6, some .boolean, [1056, 119, 1055, 35], [
  (0, .aload_n 2, 0, 0, 0, 0),
  (1, .aload_n 1, 0, 0, 0, 0),
  (2, .iconst 1, 0, 0, 0, 0),
  (3, .invokevirtual 50, 40, 3, 0, 1037),
  (6, .istore_n 3, 0, 0, 0, 0),
  (7, .aload_n 1, 0, 0, 0, 0),
  (8, .invokevirtual 69, 35, 1, 0, 1043),
  (11, .aload_n 1, 0, 0, 0, 0),
  (12, .invokevirtual 34, 31, 1, 0, 1032),
  (15, .istore 4, 0, 0, 0, 0),
  (17, .iload 4, 0, 0, 0, 0),
  (19, .bipush 107, 0, 0, 0, 0),
  (21, .if_icmp .eq 16, 0, 0, 0, 0),
  (24, .iload 4, 0, 0, 0, 0),
  (26, .bipush 108, 0, 0, 0, 0),
  (28, .if_icmp .eq 9, 0, 0, 0, 0),
  (31, .aload_n 1, 0, 0, 0, 0),
  (32, .iconst 1, 0, 0, 0, 0),
  (33, .invokevirtual 56, 34, 2, 0, 1038),
  (36, .ireturn, 0, 0, 0, 0),
  (37, .aload_n 1, 0, 0, 0, 0),
  (38, .invokevirtual 69, 35, 1, 0, 1043),
  (41, .iload 4, 0, 0, 0, 0),
  (43, .bipush 108, 0, 0, 0, 0),
  (45, .if_icmp .ne 12, 0, 0, 0, 0),
  (48, .aload_n 0, 0, 0, 0, 0),
  (49, .bipush 108, 0, 0, 0, 0),
  (51, .iload_n 3, 0, 0, 0, 0),
  (52, .iconst 0, 0, 0, 0, 0),
  (53, .invokevirtual 72, 129, 4, 0, 1044),
  (56, .ireturn, 0, 0, 0, 0),
  (57, .aload_n 2, 0, 0, 0, 0),
  (58, .aload_n 1, 0, 0, 0, 0),
  (59, .iconst 3, 0, 0, 0, 0),
  (60, .invokevirtual 50, 40, 3, 0, 1037),
  (63, .istore 5, 0, 0, 0, 0),
  (65, .iload 5, 0, 0, 0, 0),
  (67, .iconst (-1), 0, 0, 0, 0),
  (68, .if_icmp .ne 5, 0, 0, 0, 0),
  (71, .iconst 0, 0, 0, 0, 0),
  (72, .ireturn, 0, 0, 0, 0),
  (73, .aload_n 1, 0, 0, 0, 0),
  (74, .invokevirtual 69, 35, 1, 0, 1043),
  (77, .aload_n 0, 0, 0, 0, 0),
  (78, .bipush 107, 0, 0, 0, 0),
  (80, .iload_n 3, 0, 0, 0, 0),
  (81, .iload 5, 0, 0, 0, 0),
  (83, .invokevirtual 72, 129, 4, 0, 1044),
  (86, .ireturn, 0, 0, 0, 0)])
def nm_132 : nM := (⟨"SlipHeirs$Script", "liveBy", "(LSlipHeirs$Family;LSlipHeirs$Life;)I"⟩, prog_8_method_8_code, 4, some .int, [1062, 119, 1060, 1061], [
  (0, .aload_n 0, 0, 0, 0, 0),
  (1, .iconst 0, 0, 0, 0, 0),
  (2, .putfield 25, 6, 4, 0, 420),
  (5, .iconst 0, 0, 0, 0, 0),
  (6, .istore_n 3, 0, 0, 0, 0),
  (7, .iload_n 3, 0, 0, 0, 0),
  (8, .aload_n 0, 0, 0, 0, 0),
  (9, .getfield 21, 6, 3, 0, 418),
  (12, .if_icmp .ge 29, 0, 0, 0, 0),
  (15, .aload_n 0, 0, 0, 0, 0),
  (16, .aload_n 0, 0, 0, 0, 0),
  (17, .aload_n 1, 0, 0, 0, 0),
  (18, .aload_n 2, 0, 0, 0, 0),
  (19, .iload_n 3, 0, 0, 0, 0),
  (20, .invokevirtual 83, 133, 4, 0, 1063),
  (23, .putfield 25, 6, 4, 0, 420),
  (26, .aload_n 0, 0, 0, 0, 0),
  (27, .getfield 25, 6, 4, 0, 420),
  (30, .ifCond .eq 5, 0, 0, 0, 0),
  (33, .iload_n 3, 0, 0, 0, 0),
  (34, .ireturn, 0, 0, 0, 0),
  (35, .iinc 3 1, 0, 0, 0, 0),
  (38, .goto (-31), 0, 0, 0, 0),
  (41, .iconst (-1), 0, 0, 0, 0),
  (42, .ireturn, 0, 0, 0, 0)])
def nm_133 : nM := (⟨"SlipHeirs$Script", "liveLine", "(LSlipHeirs$Family;LSlipHeirs$Life;I)I"⟩, prog_8_method_9_code, 4, some .int, [1066, 119, 1065, 36], [
  (0, .aload_n 0, 0, 0, 0, 0),
  (1, .getfield 9, 6, 0, 0, 415),
  (4, .iload_n 3, 0, 0, 0, 0),
  (5, .iaload, 0, 0, 0, 0),
  (6, .tableswitch 84 107 109 #[26, 44, 61], 0, 26, 0, 0),
  (32, .aload_n 2, 0, 0, 0, 0),
  (33, .aload_n 1, 0, 0, 0, 0),
  (34, .aload_n 0, 0, 0, 0, 0),
  (35, .getfield 15, 6, 1, 0, 416),
  (38, .iload_n 3, 0, 0, 0, 0),
  (39, .iaload, 0, 0, 0, 0),
  (40, .aload_n 0, 0, 0, 0, 0),
  (41, .getfield 18, 6, 2, 0, 417),
  (44, .iload_n 3, 0, 0, 0, 0),
  (45, .iaload, 0, 0, 0, 0),
  (46, .invokevirtual 87, 64, 4, 0, 1067),
  (49, .ireturn, 0, 0, 0, 0),
  (50, .bipush 10, 0, 0, 0, 0),
  (52, .aload_n 2, 0, 0, 0, 0),
  (53, .aload_n 1, 0, 0, 0, 0),
  (54, .aload_n 0, 0, 0, 0, 0),
  (55, .getfield 15, 6, 1, 0, 416),
  (58, .iload_n 3, 0, 0, 0, 0),
  (59, .iaload, 0, 0, 0, 0),
  (60, .invokevirtual 93, 69, 3, 0, 1068),
  (63, .invokestatic 97, 134, 2, 2, 1069),
  (66, .ireturn, 0, 0, 0, 0),
  (67, .bipush 20, 0, 0, 0, 0),
  (69, .aload_n 2, 0, 0, 0, 0),
  (70, .aload_n 1, 0, 0, 0, 0),
  (71, .aload_n 0, 0, 0, 0, 0),
  (72, .getfield 15, 6, 1, 0, 416),
  (75, .iload_n 3, 0, 0, 0, 0),
  (76, .iaload, 0, 0, 0, 0),
  (77, .aload_n 0, 0, 0, 0, 0),
  (78, .getfield 18, 6, 2, 0, 417),
  (81, .iload_n 3, 0, 0, 0, 0),
  (82, .iaload, 0, 0, 0, 0),
  (83, .invokevirtual 101, 77, 4, 0, 1072),
  (86, .invokestatic 97, 134, 2, 2, 1069),
  (89, .ireturn, 0, 0, 0, 0),
  (90, .aload_n 2, 0, 0, 0, 0),
  (91, .getfield 104, 2, 6, 0, 347),
  (94, .aload_n 0, 0, 0, 0, 0),
  (95, .getfield 15, 6, 1, 0, 416),
  (98, .iload_n 3, 0, 0, 0, 0),
  (99, .iaload, 0, 0, 0, 0),
  (100, .iadd, 0, 0, 0, 0),
  (101, .sipush 999, 0, 0, 0, 0),
  (104, .if_icmp .le 6, 0, 0, 0, 0),
  (107, .bipush 31, 0, 0, 0, 0),
  (109, .ireturn, 0, 0, 0, 0),
  (110, .aload_n 2, 0, 0, 0, 0),
  (111, .dup, 0, 0, 0, 0),
  (112, .getfield 104, 2, 6, 0, 347),
  (115, .aload_n 0, 0, 0, 0, 0),
  (116, .getfield 15, 6, 1, 0, 416),
  (119, .iload_n 3, 0, 0, 0, 0),
  (120, .iaload, 0, 0, 0, 0),
  (121, .iadd, 0, 0, 0, 0),
  (122, .putfield 104, 2, 6, 0, 347),
  (125, .iconst 0, 0, 0, 0, 0),
  (126, .ireturn, 0, 0, 0, 0)])
def nm_134 : nM := (⟨"SlipHeirs$Script", "more", "(II)I"⟩, prog_8_method_10_code, 2, some .int, [1071, 119, 1070, 0], [
  (0, .iload_n 1, 0, 0, 0, 0),
  (1, .ifCond .ne 7, 0, 0, 0, 0),
  (4, .iconst 0, 0, 0, 0, 0),
  (5, .goto 6, 0, 0, 0, 0),
  (8, .iload_n 0, 0, 0, 0, 0),
  (9, .iload_n 1, 0, 0, 0, 0),
  (10, .iadd, 0, 0, 0, 0),
  (11, .ireturn, 0, 0, 0, 0)])
def nm_135 : nM := (⟨"SlipHeirs", "told", "(I)I"⟩, prog_1_method_37_code, 2, some .int, [1076, 110, 1074, 1075], [
  (0, .aload_n 0, 0, 0, 0, 0),
  (1, .getfield 81, 8, 13, 0, 529),
  (4, .ifCond .eq 12, 0, 0, 0, 0),
  (7, .iload_n 1, 0, 0, 0, 0),
  (8, .ifCond .lt 8, 0, 0, 0, 0),
  (11, .iload_n 1, 0, 0, 0, 0),
  (12, .iconst 3, 0, 0, 0, 0),
  (13, .if_icmp .le 7, 0, 0, 0, 0),
  (16, .iconst (-1), 0, 0, 0, 0),
  (17, .goto 9, 0, 0, 0, 0),
  (20, .aload_n 0, 0, 0, 0, 0),
  (21, .getfield 78, 8, 12, 0, 528),
  (24, .iload_n 1, 0, 0, 0, 0),
  (25, .iaload, 0, 0, 0, 0),
  (26, .ireturn, 0, 0, 0, 0)])
def nm_136 : nM := (⟨"SlipHeirs", "sentence", "()I"⟩, prog_1_method_38_code, 2, some .int, [1080, 110, 1078, 1079], [
  (0, .aload_n 0, 0, 0, 0, 0),
  (1, .getfield 43, 8, 6, 0, 522),
  (4, .aload_n 0, 0, 0, 0, 0),
  (5, .getfield 10, 8, 0, 0, 516),
  (8, .aload_n 0, 0, 0, 0, 0),
  (9, .getfield 19, 8, 1, 0, 517),
  (12, .invokevirtual 321, 137, 3, 0, 1081),
  (15, .istore_n 1, 0, 0, 0, 0),
  (16, .aload_n 0, 0, 0, 0, 0),
  (17, .invokevirtual 113, 48, 1, 0, 693),
  (20, .iload_n 1, 0, 0, 0, 0),
  (21, .ifCond .ne 13, 0, 0, 0, 0),
  (24, .iconst (-1), 0, 0, 0, 0),
  (25, .aload_n 0, 0, 0, 0, 0),
  (26, .getfield 10, 8, 0, 0, 516),
  (29, .getfield 116, 7, 11, 0, 217),
  (32, .isub, 0, 0, 0, 0),
  (33, .ireturn, 0, 0, 0, 0),
  (34, .aload_n 0, 0, 0, 0, 0),
  (35, .getfield 39, 8, 5, 0, 521),
  (38, .aload_n 0, 0, 0, 0, 0),
  (39, .getfield 43, 8, 6, 0, 522),
  (42, .invokevirtual 322, 144, 2, 0, 1118),
  (45, .aload_n 0, 0, 0, 0, 0),
  (46, .getfield 39, 8, 5, 0, 521),
  (49, .getfield 325, 4, 5, 0, 395),
  (52, .ireturn, 0, 0, 0, 0)])
def nm_137 : nM := (⟨"SlipHeirs$Phrase", "read", "(LSlipHeirs$Text;LSlipHeirs$Family;)Z"⟩, prog_6_method_4_code, 3, some .boolean, [1084, 118, 1082, 1083], [
  (0, .aload_n 0, 0, 0, 0, 0),
  (1, .invokevirtual 37, 51, 1, 0, 1085),
  (4, .aload_n 1, 0, 0, 0, 0),
  (5, .sipush 200, 0, 0, 0, 0),
  (8, .invokevirtual 40, 24, 2, 0, 1086),
  (11, .aload_n 0, 0, 0, 0, 0),
  (12, .aload_n 1, 0, 0, 0, 0),
  (13, .aload_n 2, 0, 0, 0, 0),
  (14, .iconst 1, 0, 0, 0, 0),
  (15, .invokevirtual 46, 138, 4, 0, 1087),
  (18, .ifCond .eq 14, 0, 0, 0, 0),
  (21, .aload_n 1, 0, 0, 0, 0),
  (22, .invokevirtual 50, 47, 1, 0, 1117),
  (25, .ifCond .eq 7, 0, 0, 0, 0),
  (28, .iconst 1, 0, 0, 0, 0),
  (29, .goto 4, 0, 0, 0, 0),
  (32, .iconst 0, 0, 0, 0, 0),
  (33, .ireturn, 0, 0, 0, 0)])
def nm_138 : nM := (⟨"SlipHeirs$Phrase", "readCond", "(LSlipHeirs$Text;LSlipHeirs$Family;I)Z"⟩, prog_6_method_5_code, 5, some .boolean, [1090, 118, 1089, 37], [
  (0, .aload_n 0, 0, 0, 0, 0),
  (1, .aload_n 1, 0, 0, 0, 0),
  (2, .aload_n 2, 0, 0, 0, 0),
  (3, .iload_n 3, 0, 0, 0, 0),
  (4, .invokevirtual 54, 139, 4, 0, 1091),
  (7, .ifCond .ne 5, 0, 0, 0, 0),
  (10, .iconst 0, 0, 0, 0, 0),
  (11, .ireturn, 0, 0, 0, 0),
  (12, .iconst 0, 0, 0, 0, 0),
  (13, .istore 4, 0, 0, 0, 0),
  (15, .iload 4, 0, 0, 0, 0),
  (17, .bipush 20, 0, 0, 0, 0),
  (19, .if_icmp .ge 43, 0, 0, 0, 0),
  (22, .aload_n 1, 0, 0, 0, 0),
  (23, .invokevirtual 57, 31, 1, 0, 1099),
  (26, .bipush 111, 0, 0, 0, 0),
  (28, .if_icmp .ne 34, 0, 0, 0, 0),
  (31, .aload_n 1, 0, 0, 0, 0),
  (32, .invokevirtual 61, 35, 1, 0, 1101),
  (35, .aload_n 0, 0, 0, 0, 0),
  (36, .aload_n 1, 0, 0, 0, 0),
  (37, .aload_n 2, 0, 0, 0, 0),
  (38, .iload_n 3, 0, 0, 0, 0),
  (39, .invokevirtual 54, 139, 4, 0, 1091),
  (42, .ifCond .ne 5, 0, 0, 0, 0),
  (45, .iconst 0, 0, 0, 0, 0),
  (46, .ireturn, 0, 0, 0, 0),
  (47, .aload_n 0, 0, 0, 0, 0),
  (48, .bipush 111, 0, 0, 0, 0),
  (50, .iconst 0, 0, 0, 0, 0),
  (51, .iconst 0, 0, 0, 0, 0),
  (52, .invokevirtual 64, 141, 4, 0, 1103),
  (55, .pop, 0, 0, 0, 0),
  (56, .iinc 4 1, 0, 0, 0, 0),
  (59, .goto (-44), 0, 0, 0, 0),
  (62, .iconst 1, 0, 0, 0, 0),
  (63, .ireturn, 0, 0, 0, 0)])
def nm_139 : nM := (⟨"SlipHeirs$Phrase", "readAll", "(LSlipHeirs$Text;LSlipHeirs$Family;I)Z"⟩, prog_6_method_6_code, 5, some .boolean, [1094, 118, 1093, 38], [
  (0, .aload_n 0, 0, 0, 0, 0),
  (1, .aload_n 1, 0, 0, 0, 0),
  (2, .aload_n 2, 0, 0, 0, 0),
  (3, .iload_n 3, 0, 0, 0, 0),
  (4, .invokevirtual 68, 140, 4, 0, 1095),
  (7, .ifCond .ne 5, 0, 0, 0, 0),
  (10, .iconst 0, 0, 0, 0, 0),
  (11, .ireturn, 0, 0, 0, 0),
  (12, .iconst 0, 0, 0, 0, 0),
  (13, .istore 4, 0, 0, 0, 0),
  (15, .iload 4, 0, 0, 0, 0),
  (17, .bipush 20, 0, 0, 0, 0),
  (19, .if_icmp .ge 43, 0, 0, 0, 0),
  (22, .aload_n 1, 0, 0, 0, 0),
  (23, .invokevirtual 57, 31, 1, 0, 1099),
  (26, .bipush 112, 0, 0, 0, 0),
  (28, .if_icmp .ne 34, 0, 0, 0, 0),
  (31, .aload_n 1, 0, 0, 0, 0),
  (32, .invokevirtual 61, 35, 1, 0, 1101),
  (35, .aload_n 0, 0, 0, 0, 0),
  (36, .aload_n 1, 0, 0, 0, 0),
  (37, .aload_n 2, 0, 0, 0, 0),
  (38, .iload_n 3, 0, 0, 0, 0),
  (39, .invokevirtual 68, 140, 4, 0, 1095),
  (42, .ifCond .ne 5, 0, 0, 0, 0),
  (45, .iconst 0, 0, 0, 0, 0),
  (46, .ireturn, 0, 0, 0, 0),
  (47, .aload_n 0, 0, 0, 0, 0),
  (48, .bipush 112, 0, 0, 0, 0),
  (50, .iconst 0, 0, 0, 0, 0),
  (51, .iconst 0, 0, 0, 0, 0),
  (52, .invokevirtual 64, 141, 4, 0, 1103),
  (55, .pop, 0, 0, 0, 0),
  (56, .iinc 4 1, 0, 0, 0, 0),
  (59, .goto (-44), 0, 0, 0, 0),
  (62, .iconst 1, 0, 0, 0, 0),
  (63, .ireturn, 0, 0, 0, 0)])
def nm_140 : nM := (⟨"SlipHeirs$Phrase", "readOne", "(LSlipHeirs$Text;LSlipHeirs$Family;I)Z"⟩, prog_6_method_7_code, 5, some .boolean, [1098, 118, 1097, 39], [
  (0, .aload_n 1, 0, 0, 0, 0),
  (1, .invokevirtual 57, 31, 1, 0, 1099),
  (4, .istore 4, 0, 0, 0, 0),
  (6, .iload 4, 0, 0, 0, 0),
  (8, .bipush 40, 0, 0, 0, 0),
  (10, .if_icmp .eq 23, 0, 0, 0, 0),
  (13, .iload 4, 0, 0, 0, 0),
  (15, .bipush 113, 0, 0, 0, 0),
  (17, .if_icmp .lt 10, 0, 0, 0, 0),
  (20, .iload 4, 0, 0, 0, 0),
  (22, .bipush 121, 0, 0, 0, 0),
  (24, .if_icmp .le 9, 0, 0, 0, 0),
  (27, .aload_n 1, 0, 0, 0, 0),
  (28, .iconst 1, 0, 0, 0, 0),
  (29, .invokevirtual 71, 34, 2, 0, 1100),
  (32, .ireturn, 0, 0, 0, 0),
  (33, .aload_n 0, 0, 0, 0, 0),
  (34, .getfield 28, 4, 5, 0, 394),
  (37, .bipush 20, 0, 0, 0, 0),
  (39, .if_icmp .ge 9, 0, 0, 0, 0),
  (42, .iload_n 3, 0, 0, 0, 0),
  (43, .bipush 8, 0, 0, 0, 0),
  (45, .if_icmp .le 9, 0, 0, 0, 0),
  (48, .aload_n 1, 0, 0, 0, 0),
  (49, .iconst 4, 0, 0, 0, 0),
  (50, .invokevirtual 71, 34, 2, 0, 1100),
  (53, .ireturn, 0, 0, 0, 0),
  (54, .aload_n 0, 0, 0, 0, 0),
  (55, .dup, 0, 0, 0, 0),
  (56, .getfield 28, 4, 5, 0, 394),
  (59, .iconst 1, 0, 0, 0, 0),
  (60, .iadd, 0, 0, 0, 0),
  (61, .putfield 28, 4, 5, 0, 394),
  (64, .aload_n 1, 0, 0, 0, 0),
  (65, .invokevirtual 61, 35, 1, 0, 1101),
  (68, .iload 4, 0, 0, 0, 0),
  (70, .lookupswitch 143 #[(40, 58), (113, 85), (114, 114), (115, 114), (116, 123), (117, 133)], 0, 58, 0, 0),
  (128, .aload_n 0, 0, 0, 0, 0),
  (129, .aload_n 1, 0, 0, 0, 0),
  (130, .aload_n 2, 0, 0, 0, 0),
  (131, .iload_n 3, 0, 0, 0, 0),
  (132, .iconst 1, 0, 0, 0, 0),
  (133, .iadd, 0, 0, 0, 0),
  (134, .invokevirtual 46, 138, 4, 0, 1087),
  (137, .ifCond .eq 16, 0, 0, 0, 0),
  (140, .aload_n 1, 0, 0, 0, 0),
  (141, .bipush 41, 0, 0, 0, 0),
  (143, .invokevirtual 75, 46, 2, 0, 1102),
  (146, .ifCond .eq 7, 0, 0, 0, 0),
  (149, .iconst 1, 0, 0, 0, 0),
  (150, .goto 4, 0, 0, 0, 0),
  (153, .iconst 0, 0, 0, 0, 0),
  (154, .ireturn, 0, 0, 0, 0),
  (155, .aload_n 0, 0, 0, 0, 0),
  (156, .aload_n 1, 0, 0, 0, 0),
  (157, .aload_n 2, 0, 0, 0, 0),
  (158, .iload_n 3, 0, 0, 0, 0),
  (159, .iconst 1, 0, 0, 0, 0),
  (160, .iadd, 0, 0, 0, 0),
  (161, .invokevirtual 68, 140, 4, 0, 1095),
  (164, .ifCond .eq 18, 0, 0, 0, 0),
  (167, .aload_n 0, 0, 0, 0, 0),
  (168, .bipush 113, 0, 0, 0, 0),
  (170, .iconst 0, 0, 0, 0, 0),
  (171, .iconst 0, 0, 0, 0, 0),
  (172, .invokevirtual 64, 141, 4, 0, 1103),
  (175, .ifCond .eq 7, 0, 0, 0, 0),
  (178, .iconst 1, 0, 0, 0, 0),
  (179, .goto 4, 0, 0, 0, 0),
  (182, .iconst 0, 0, 0, 0, 0),
  (183, .ireturn, 0, 0, 0, 0),
  (184, .aload_n 0, 0, 0, 0, 0),
  (185, .iload 4, 0, 0, 0, 0),
  (187, .iconst 0, 0, 0, 0, 0),
  (188, .iconst 0, 0, 0, 0, 0),
  (189, .invokevirtual 64, 141, 4, 0, 1103),
  (192, .ireturn, 0, 0, 0, 0),
  (193, .aload_n 0, 0, 0, 0, 0),
  (194, .aload_n 1, 0, 0, 0, 0),
  (195, .aload_n 2, 0, 0, 0, 0),
  (196, .iload 4, 0, 0, 0, 0),
  (198, .iconst 2, 0, 0, 0, 0),
  (199, .invokevirtual 78, 142, 5, 0, 1107),
  (202, .ireturn, 0, 0, 0, 0),
  (203, .aload_n 0, 0, 0, 0, 0),
  (204, .aload_n 1, 0, 0, 0, 0),
  (205, .aload_n 2, 0, 0, 0, 0),
  (206, .iload 4, 0, 0, 0, 0),
  (208, .iconst 1, 0, 0, 0, 0),
  (209, .invokevirtual 78, 142, 5, 0, 1107),
  (212, .ireturn, 0, 0, 0, 0),
  (213, .aload_n 0, 0, 0, 0, 0),
  (214, .aload_n 1, 0, 0, 0, 0),
  (215, .iload 4, 0, 0, 0, 0),
  (217, .invokevirtual 82, 143, 3, 0, 1112),
  (220, .ireturn, 0, 0, 0, 0)])
def nm_141 : nM := (⟨"SlipHeirs$Phrase", "add", "(III)Z"⟩, prog_6_method_10_code, 4, some .boolean, [1106, 118, 1105, 40], [
  (0, .aload_n 0, 0, 0, 0, 0),
  (1, .getfield 24, 4, 4, 0, 393),
  (4, .aload_n 0, 0, 0, 0, 0),
  (5, .getfield 9, 4, 0, 0, 389),
  (8, .arraylength, 0, 0, 0, 0),
  (9, .if_icmp .ge 43, 0, 0, 0, 0),
  (12, .aload_n 0, 0, 0, 0, 0),
  (13, .getfield 9, 4, 0, 0, 389),
  (16, .aload_n 0, 0, 0, 0, 0),
  (17, .getfield 24, 4, 4, 0, 393),
  (20, .iload_n 1, 0, 0, 0, 0),
  (21, .iastore, 0, 0, 0, 0),
  (22, .aload_n 0, 0, 0, 0, 0),
  (23, .getfield 15, 4, 1, 0, 390),
  (26, .aload_n 0, 0, 0, 0, 0),
  (27, .getfield 24, 4, 4, 0, 393),
  (30, .iload_n 2, 0, 0, 0, 0),
  (31, .iastore, 0, 0, 0, 0),
  (32, .aload_n 0, 0, 0, 0, 0),
  (33, .getfield 18, 4, 2, 0, 391),
  (36, .aload_n 0, 0, 0, 0, 0),
  (37, .getfield 24, 4, 4, 0, 393),
  (40, .iload_n 3, 0, 0, 0, 0),
  (41, .iastore, 0, 0, 0, 0),
  (42, .aload_n 0, 0, 0, 0, 0),
  (43, .dup, 0, 0, 0, 0),
  (44, .getfield 24, 4, 4, 0, 393),
  (47, .iconst 1, 0, 0, 0, 0),
  (48, .iadd, 0, 0, 0, 0),
  (49, .putfield 24, 4, 4, 0, 393),
  (52, .iconst 1, 0, 0, 0, 0),
  (53, .ireturn, 0, 0, 0, 0)])
def nm_142 : nM := (⟨"SlipHeirs$Phrase", "readKnown", "(LSlipHeirs$Text;LSlipHeirs$Family;II)Z"⟩, prog_6_method_8_code, 6, some .boolean, [1110, 118, 1109, 41], [
  (0, .aload_n 2, 0, 0, 0, 0),
  (1, .aload_n 1, 0, 0, 0, 0),
  (2, .iload 4, 0, 0, 0, 0),
  (4, .invokevirtual 86, 40, 3, 0, 1111),
  (7, .istore 5, 0, 0, 0, 0),
  (9, .iload 5, 0, 0, 0, 0),
  (11, .iconst (-1), 0, 0, 0, 0),
  (12, .if_icmp .ne 5, 0, 0, 0, 0),
  (15, .iconst 0, 0, 0, 0, 0),
  (16, .ireturn, 0, 0, 0, 0),
  (17, .aload_n 1, 0, 0, 0, 0),
  (18, .invokevirtual 61, 35, 1, 0, 1101),
  (21, .aload_n 0, 0, 0, 0, 0),
  (22, .iload_n 3, 0, 0, 0, 0),
  (23, .iconst 0, 0, 0, 0, 0),
  (24, .iload 5, 0, 0, 0, 0),
  (26, .invokevirtual 64, 141, 4, 0, 1103),
  (29, .ireturn, 0, 0, 0, 0)])
def nm_143 : nM := (⟨"SlipHeirs$Phrase", "readMeasure", "(LSlipHeirs$Text;I)Z"⟩, prog_6_method_9_code, 4, some .boolean, [1115, 118, 1114, 42], [
  (0, .aload_n 1, 0, 0, 0, 0),
  (1, .invokevirtual 57, 31, 1, 0, 1099),
  (4, .istore_n 3, 0, 0, 0, 0),
  (5, .iload_n 3, 0, 0, 0, 0),
  (6, .bipush 60, 0, 0, 0, 0),
  (8, .if_icmp .lt 9, 0, 0, 0, 0),
  (11, .iload_n 3, 0, 0, 0, 0),
  (12, .bipush 62, 0, 0, 0, 0),
  (14, .if_icmp .le 9, 0, 0, 0, 0),
  (17, .aload_n 1, 0, 0, 0, 0),
  (18, .iconst 1, 0, 0, 0, 0),
  (19, .invokevirtual 71, 34, 2, 0, 1100),
  (22, .ireturn, 0, 0, 0, 0),
  (23, .aload_n 1, 0, 0, 0, 0),
  (24, .invokevirtual 61, 35, 1, 0, 1101),
  (27, .aload_n 1, 0, 0, 0, 0),
  (28, .iconst 0, 0, 0, 0, 0),
  (29, .sipush 999, 0, 0, 0, 0),
  (32, .invokevirtual 92, 39, 3, 0, 1116),
  (35, .ifCond .eq 20, 0, 0, 0, 0),
  (38, .aload_n 0, 0, 0, 0, 0),
  (39, .iload_n 2, 0, 0, 0, 0),
  (40, .iload_n 3, 0, 0, 0, 0),
  (41, .aload_n 1, 0, 0, 0, 0),
  (42, .getfield 96, 7, 8, 0, 212),
  (45, .invokevirtual 64, 141, 4, 0, 1103),
  (48, .ifCond .eq 7, 0, 0, 0, 0),
  (51, .iconst 1, 0, 0, 0, 0),
  (52, .goto 4, 0, 0, 0, 0),
  (55, .iconst 0, 0, 0, 0, 0),
  (56, .ireturn, 0, 0, 0, 0)])
def nm_144 : nM := (⟨"SlipHeirs$Phrase", "copyFrom", "(LSlipHeirs$Phrase;)V"⟩, prog_6_method_3_code, 2, none, [1121, 118, 1119, 1120], [
  (0, .aload_n 1, 0, 0, 0, 0),
  (1, .getfield 9, 4, 0, 0, 389),
  (4, .iconst 0, 0, 0, 0, 0),
  (5, .aload_n 0, 0, 0, 0, 0),
  (6, .getfield 9, 4, 0, 0, 389),
  (9, .iconst 0, 0, 0, 0, 0),
  (10, .aload_n 0, 0, 0, 0, 0),
  (11, .getfield 9, 4, 0, 0, 389),
  (14, .arraylength, 0, 0, 0, 0),
  (15, .invokestatic 31, 0, 5, 5, 1122),
  (18, .aload_n 1, 0, 0, 0, 0),
  (19, .getfield 15, 4, 1, 0, 390),
  (22, .iconst 0, 0, 0, 0, 0),
  (23, .aload_n 0, 0, 0, 0, 0),
  (24, .getfield 15, 4, 1, 0, 390),
  (27, .iconst 0, 0, 0, 0, 0),
  (28, .aload_n 0, 0, 0, 0, 0),
  (29, .getfield 15, 4, 1, 0, 390),
  (32, .arraylength, 0, 0, 0, 0),
  (33, .invokestatic 31, 0, 5, 5, 1122),
  (36, .aload_n 1, 0, 0, 0, 0),
  (37, .getfield 18, 4, 2, 0, 391),
  (40, .iconst 0, 0, 0, 0, 0),
  (41, .aload_n 0, 0, 0, 0, 0),
  (42, .getfield 18, 4, 2, 0, 391),
  (45, .iconst 0, 0, 0, 0, 0),
  (46, .aload_n 0, 0, 0, 0, 0),
  (47, .getfield 18, 4, 2, 0, 391),
  (50, .arraylength, 0, 0, 0, 0),
  (51, .invokestatic 31, 0, 5, 5, 1122),
  (54, .aload_n 0, 0, 0, 0, 0),
  (55, .aload_n 1, 0, 0, 0, 0),
  (56, .getfield 24, 4, 4, 0, 393),
  (59, .putfield 24, 4, 4, 0, 393),
  (62, .aload_n 0, 0, 0, 0, 0),
  (63, .aload_n 1, 0, 0, 0, 0),
  (64, .getfield 28, 4, 5, 0, 394),
  (67, .putfield 28, 4, 5, 0, 394),
  (70, .return_, 0, 0, 0, 0)])
def nm_145 : nM := (⟨"SlipHeirs", "said", "(I)I"⟩, prog_1_method_39_code, 5, some .int, [1126, 110, 1124, 1125], [
  (0, .aload_n 0, 0, 0, 0, 0),
  (1, .getfield 39, 8, 5, 0, 521),
  (4, .getfield 325, 4, 5, 0, 395),
  (7, .ifCond .ne 5, 0, 0, 0, 0),
  (10, .iconst (-1), 0, 0, 0, 0),
  (11, .ireturn, 0, 0, 0, 0),
  (12, .aload_n 0, 0, 0, 0, 0),
  (13, .getfield 39, 8, 5, 0, 521),
  (16, .aload_n 0, 0, 0, 0, 0),
  (17, .getfield 19, 8, 1, 0, 517),
  (20, .aload_n 0, 0, 0, 0, 0),
  (21, .getfield 29, 8, 3, 0, 519),
  (24, .invokevirtual 328, 146, 3, 0, 1127),
  (27, .istore_n 2, 0, 0, 0, 0),
  (28, .iload_n 1, 0, 0, 0, 0),
  (29, .iconst (-1), 0, 0, 0, 0),
  (30, .if_icmp .ne 8, 0, 0, 0, 0),
  (33, .iload_n 2, 0, 0, 0, 0),
  (34, .invokestatic 331, 149, 1, 2, 1152),
  (37, .ireturn, 0, 0, 0, 0),
  (38, .iconst 0, 0, 0, 0, 0),
  (39, .istore_n 3, 0, 0, 0, 0),
  (40, .iconst 0, 0, 0, 0, 0),
  (41, .istore 4, 0, 0, 0, 0),
  (43, .iload 4, 0, 0, 0, 0),
  (45, .aload_n 0, 0, 0, 0, 0),
  (46, .getfield 19, 8, 1, 0, 517),
  (49, .getfield 253, 0, 0, 0, 256),
  (52, .iconst 1, 0, 0, 0, 0),
  (53, .iaload, 0, 0, 0, 0),
  (54, .if_icmp .ge 30, 0, 0, 0, 0),
  (57, .iload_n 2, 0, 0, 0, 0),
  (58, .iload 4, 0, 0, 0, 0),
  (60, .ishr, 0, 0, 0, 0),
  (61, .iconst 1, 0, 0, 0, 0),
  (62, .iand, 0, 0, 0, 0),
  (63, .iconst 1, 0, 0, 0, 0),
  (64, .if_icmp .ne 14, 0, 0, 0, 0),
  (67, .iload_n 3, 0, 0, 0, 0),
  (68, .iload_n 1, 0, 0, 0, 0),
  (69, .if_icmp .ne 6, 0, 0, 0, 0),
  (72, .iload 4, 0, 0, 0, 0),
  (74, .ireturn, 0, 0, 0, 0),
  (75, .iinc 3 1, 0, 0, 0, 0),
  (78, .iinc 4 1, 0, 0, 0, 0),
  (81, .goto (-38), 0, 0, 0, 0),
  (84, .iconst (-1), 0, 0, 0, 0),
  (85, .ireturn, 0, 0, 0, 0)])
def nm_146 : nM := (⟨"SlipHeirs$Phrase", "saidOf", "(LSlipHeirs$Family;LSlipHeirs$Life;)I"⟩, prog_6_method_11_code, 7, some .int, [1130, 118, 1128, 1129], [
  (0, .iconst 1, 0, 0, 0, 0),
  (1, .aload_n 1, 0, 0, 0, 0),
  (2, .getfield 99, 0, 0, 0, 255),
  (5, .iconst 1, 0, 0, 0, 0),
  (6, .iaload, 0, 0, 0, 0),
  (7, .ishl, 0, 0, 0, 0),
  (8, .iconst 1, 0, 0, 0, 0),
  (9, .isub, 0, 0, 0, 0),
  (10, .istore_n 3, 0, 0, 0, 0),
  (11, .iconst 0, 0, 0, 0, 0),
  (12, .istore 4, 0, 0, 0, 0),
  (14, .iconst 0, 0, 0, 0, 0),
  (15, .istore 5, 0, 0, 0, 0),
  (17, .iload 5, 0, 0, 0, 0),
  (19, .aload_n 0, 0, 0, 0, 0),
  (20, .getfield 24, 4, 4, 0, 393),
  (23, .if_icmp .ge 159, 0, 0, 0, 0),
  (26, .aload_n 0, 0, 0, 0, 0),
  (27, .getfield 9, 4, 0, 0, 389),
  (30, .iload 5, 0, 0, 0, 0),
  (32, .iaload, 0, 0, 0, 0),
  (33, .istore 6, 0, 0, 0, 0),
  (35, .iload 6, 0, 0, 0, 0),
  (37, .bipush 113, 0, 0, 0, 0),
  (39, .if_icmp .ne 33, 0, 0, 0, 0),
  (42, .iload 4, 0, 0, 0, 0),
  (44, .ifCond .le 28, 0, 0, 0, 0),
  (47, .aload_n 0, 0, 0, 0, 0),
  (48, .getfield 21, 4, 3, 0, 392),
  (51, .iload 4, 0, 0, 0, 0),
  (53, .iconst 1, 0, 0, 0, 0),
  (54, .isub, 0, 0, 0, 0),
  (55, .iload_n 3, 0, 0, 0, 0),
  (56, .aload_n 0, 0, 0, 0, 0),
  (57, .getfield 21, 4, 3, 0, 392),
  (60, .iload 4, 0, 0, 0, 0),
  (62, .iconst 1, 0, 0, 0, 0),
  (63, .isub, 0, 0, 0, 0),
  (64, .iaload, 0, 0, 0, 0),
  (65, .iconst (-1), 0, 0, 0, 0),
  (66, .ixor, 0, 0, 0, 0),
  (67, .iand, 0, 0, 0, 0),
  (68, .iastore, 0, 0, 0, 0),
  (69, .goto 107, 0, 0, 0, 0),
  (72, .iload 6, 0, 0, 0, 0),
  (74, .bipush 112, 0, 0, 0, 0),
  (76, .if_icmp .ne 34, 0, 0, 0, 0),
  (79, .iload 4, 0, 0, 0, 0),
  (81, .iconst 1, 0, 0, 0, 0),
  (82, .if_icmp .le 28, 0, 0, 0, 0),
  (85, .iinc 4 (-1), 0, 0, 0, 0),
  (88, .aload_n 0, 0, 0, 0, 0),
  (89, .getfield 21, 4, 3, 0, 392),
  (92, .iload 4, 0, 0, 0, 0),
  (94, .iconst 1, 0, 0, 0, 0),
  (95, .isub, 0, 0, 0, 0),
  (96, .dup2, 0, 0, 0, 0),
  (97, .iaload, 0, 0, 0, 0),
  (98, .aload_n 0, 0, 0, 0, 0),
  (99, .getfield 21, 4, 3, 0, 392),
  (102, .iload 4, 0, 0, 0, 0),
  (104, .iaload, 0, 0, 0, 0),
  (105, .iand, 0, 0, 0, 0),
  (106, .iastore, 0, 0, 0, 0),
  (107, .goto 69, 0, 0, 0, 0),
  (110, .iload 6, 0, 0, 0, 0),
  (112, .bipush 111, 0, 0, 0, 0),
  (114, .if_icmp .ne 34, 0, 0, 0, 0),
  (117, .iload 4, 0, 0, 0, 0),
  (119, .iconst 1, 0, 0, 0, 0),
  (120, .if_icmp .le 28, 0, 0, 0, 0),
  (123, .iinc 4 (-1), 0, 0, 0, 0),
  (126, .aload_n 0, 0, 0, 0, 0),
  (127, .getfield 21, 4, 3, 0, 392),
  (130, .iload 4, 0, 0, 0, 0),
  (132, .iconst 1, 0, 0, 0, 0),
  (133, .isub, 0, 0, 0, 0),
  (134, .dup2, 0, 0, 0, 0),
  (135, .iaload, 0, 0, 0, 0),
  (136, .aload_n 0, 0, 0, 0, 0),
  (137, .getfield 21, 4, 3, 0, 392),
  (140, .iload 4, 0, 0, 0, 0),
  (142, .iaload, 0, 0, 0, 0),
  (143, .ior, 0, 0, 0, 0),
  (144, .iastore, 0, 0, 0, 0),
  (145, .goto 31, 0, 0, 0, 0),
  (148, .iload 4, 0, 0, 0, 0),
  (150, .aload_n 0, 0, 0, 0, 0),
  (151, .getfield 21, 4, 3, 0, 392),
  (154, .arraylength, 0, 0, 0, 0),
  (155, .if_icmp .ge 21, 0, 0, 0, 0),
  (158, .aload_n 0, 0, 0, 0, 0),
  (159, .getfield 21, 4, 3, 0, 392),
  (162, .iload 4, 0, 0, 0, 0),
  (164, .aload_n 0, 0, 0, 0, 0),
  (165, .aload_n 1, 0, 0, 0, 0),
  (166, .aload_n 2, 0, 0, 0, 0),
  (167, .iload 5, 0, 0, 0, 0),
  (169, .invokevirtual 102, 147, 4, 0, 1131),
  (172, .iastore, 0, 0, 0, 0),
  (173, .iinc 4 1, 0, 0, 0, 0),
  (176, .iinc 5 1, 0, 0, 0, 0),
  (179, .goto (-162), 0, 0, 0, 0),
  (182, .aload_n 0, 0, 0, 0, 0),
  (183, .getfield 21, 4, 3, 0, 392),
  (186, .iconst 0, 0, 0, 0, 0),
  (187, .iaload, 0, 0, 0, 0),
  (188, .ireturn, 0, 0, 0, 0)])
def nm_147 : nM := (⟨"SlipHeirs$Phrase", "trueOf", "(LSlipHeirs$Family;LSlipHeirs$Life;I)I"⟩, prog_6_method_12_code, 6, some .int, [1134, 118, 1133, 43], [
  (0, .aload_n 0, 0, 0, 0, 0),
  (1, .getfield 9, 4, 0, 0, 389),
  (4, .iload_n 3, 0, 0, 0, 0),
  (5, .iaload, 0, 0, 0, 0),
  (6, .bipush 117, 0, 0, 0, 0),
  (8, .if_icmp .ne 14, 0, 0, 0, 0),
  (11, .aload_n 1, 0, 0, 0, 0),
  (12, .aload_n 0, 0, 0, 0, 0),
  (13, .getfield 18, 4, 2, 0, 391),
  (16, .iload_n 3, 0, 0, 0, 0),
  (17, .iaload, 0, 0, 0, 0),
  (18, .invokevirtual 106, 74, 2, 0, 1135),
  (21, .ireturn, 0, 0, 0, 0),
  (22, .iconst 0, 0, 0, 0, 0),
  (23, .istore 4, 0, 0, 0, 0),
  (25, .iconst 0, 0, 0, 0, 0),
  (26, .istore 5, 0, 0, 0, 0),
  (28, .iload 5, 0, 0, 0, 0),
  (30, .aload_n 1, 0, 0, 0, 0),
  (31, .getfield 99, 0, 0, 0, 255),
  (34, .iconst 1, 0, 0, 0, 0),
  (35, .iaload, 0, 0, 0, 0),
  (36, .if_icmp .ge 34, 0, 0, 0, 0),
  (39, .iload 4, 0, 0, 0, 0),
  (41, .aload_n 0, 0, 0, 0, 0),
  (42, .aload_n 1, 0, 0, 0, 0),
  (43, .aload_n 2, 0, 0, 0, 0),
  (44, .iload_n 3, 0, 0, 0, 0),
  (45, .iload 5, 0, 0, 0, 0),
  (47, .invokevirtual 110, 148, 5, 0, 1136),
  (50, .ifCond .eq 10, 0, 0, 0, 0),
  (53, .iconst 1, 0, 0, 0, 0),
  (54, .iload 5, 0, 0, 0, 0),
  (56, .ishl, 0, 0, 0, 0),
  (57, .goto 4, 0, 0, 0, 0),
  (60, .iconst 0, 0, 0, 0, 0),
  (61, .ior, 0, 0, 0, 0),
  (62, .istore 4, 0, 0, 0, 0),
  (64, .iinc 5 1, 0, 0, 0, 0),
  (67, .goto (-39), 0, 0, 0, 0),
  (70, .iload 4, 0, 0, 0, 0),
  (72, .ireturn, 0, 0, 0, 0)])
def nm_148 : nM := (⟨"SlipHeirs$Phrase", "isTrue", "(LSlipHeirs$Family;LSlipHeirs$Life;II)Z"⟩, prog_6_method_13_code, 5, some .boolean, [1139, 118, 1138, 44], [
  (0, .aload_n 0, 0, 0, 0, 0),
  (1, .getfield 9, 4, 0, 0, 389),
  (4, .iload_n 3, 0, 0, 0, 0),
  (5, .iaload, 0, 0, 0, 0),
  (6, .tableswitch 129 114 120 #[42, 49, 65, 129, 87, 103, 116], 0, 42, 0, 0),
  (48, .aload_n 2, 0, 0, 0, 0),
  (49, .iload 4, 0, 0, 0, 0),
  (51, .invokevirtual 114, 61, 2, 0, 1140),
  (54, .ireturn, 0, 0, 0, 0),
  (55, .aload_n 2, 0, 0, 0, 0),
  (56, .aload_n 1, 0, 0, 0, 0),
  (57, .iload 4, 0, 0, 0, 0),
  (59, .invokevirtual 119, 59, 3, 0, 1141),
  (62, .ifCond .ne 7, 0, 0, 0, 0),
  (65, .iconst 1, 0, 0, 0, 0),
  (66, .goto 4, 0, 0, 0, 0),
  (69, .iconst 0, 0, 0, 0, 0),
  (70, .ireturn, 0, 0, 0, 0),
  (71, .aload_n 2, 0, 0, 0, 0),
  (72, .getfield 123, 2, 0, 0, 333),
  (75, .aload_n 0, 0, 0, 0, 0),
  (76, .getfield 18, 4, 2, 0, 391),
  (79, .iload_n 3, 0, 0, 0, 0),
  (80, .iaload, 0, 0, 0, 0),
  (81, .iaload, 0, 0, 0, 0),
  (82, .iload 4, 0, 0, 0, 0),
  (84, .if_icmp .ne 7, 0, 0, 0, 0),
  (87, .iconst 1, 0, 0, 0, 0),
  (88, .goto 4, 0, 0, 0, 0),
  (91, .iconst 0, 0, 0, 0, 0),
  (92, .ireturn, 0, 0, 0, 0),
  (93, .aload_n 0, 0, 0, 0, 0),
  (94, .aload_n 2, 0, 0, 0, 0),
  (95, .aload_n 1, 0, 0, 0, 0),
  (96, .iload 4, 0, 0, 0, 0),
  (98, .invokevirtual 119, 59, 3, 0, 1141),
  (101, .invokestatic 126, 149, 1, 2, 1142),
  (104, .iload_n 3, 0, 0, 0, 0),
  (105, .invokevirtual 131, 150, 3, 0, 1148),
  (108, .ireturn, 0, 0, 0, 0),
  (109, .aload_n 0, 0, 0, 0, 0),
  (110, .aload_n 1, 0, 0, 0, 0),
  (111, .getfield 134, 0, 2, 0, 260),
  (114, .iload 4, 0, 0, 0, 0),
  (116, .iaload, 0, 0, 0, 0),
  (117, .iload_n 3, 0, 0, 0, 0),
  (118, .invokevirtual 131, 150, 3, 0, 1148),
  (121, .ireturn, 0, 0, 0, 0),
  (122, .aload_n 0, 0, 0, 0, 0),
  (123, .aload_n 2, 0, 0, 0, 0),
  (124, .getfield 137, 2, 3, 0, 341),
  (127, .iload 4, 0, 0, 0, 0),
  (129, .iaload, 0, 0, 0, 0),
  (130, .iload_n 3, 0, 0, 0, 0),
  (131, .invokevirtual 131, 150, 3, 0, 1148),
  (134, .ireturn, 0, 0, 0, 0),
  (135, .aload_n 0, 0, 0, 0, 0),
  (136, .iload 4, 0, 0, 0, 0),
  (138, .iload_n 3, 0, 0, 0, 0),
  (139, .invokevirtual 131, 150, 3, 0, 1148),
  (142, .ireturn, 0, 0, 0, 0)])
def nm_149 : nM := (⟨"java/lang/Integer", "bitCount", "(I)I"⟩, prog_16_method_49_code, 1, some .int, [1144, 131, 1143, 0], [
  (0, .iload_n 0, 0, 0, 0, 0),
  (1, .iload_n 0, 0, 0, 0, 0),
  (2, .iconst 1, 0, 0, 0, 0),
  (3, .iushr, 0, 0, 0, 0),
  (4, .ldc_w 265, 0, 0, 1431655765, 1145),
  (7, .iand, 0, 0, 0, 0),
  (8, .isub, 0, 0, 0, 0),
  (9, .istore_n 0, 0, 0, 0, 0),
  (10, .iload_n 0, 0, 0, 0, 0),
  (11, .ldc_w 266, 0, 0, 858993459, 1146),
  (14, .iand, 0, 0, 0, 0),
  (15, .iload_n 0, 0, 0, 0, 0),
  (16, .iconst 2, 0, 0, 0, 0),
  (17, .iushr, 0, 0, 0, 0),
  (18, .ldc_w 266, 0, 0, 858993459, 1146),
  (21, .iand, 0, 0, 0, 0),
  (22, .iadd, 0, 0, 0, 0),
  (23, .istore_n 0, 0, 0, 0, 0),
  (24, .iload_n 0, 0, 0, 0, 0),
  (25, .iload_n 0, 0, 0, 0, 0),
  (26, .iconst 4, 0, 0, 0, 0),
  (27, .iushr, 0, 0, 0, 0),
  (28, .iadd, 0, 0, 0, 0),
  (29, .ldc_w 267, 0, 0, 252645135, 1147),
  (32, .iand, 0, 0, 0, 0),
  (33, .istore_n 0, 0, 0, 0, 0),
  (34, .iload_n 0, 0, 0, 0, 0),
  (35, .iload_n 0, 0, 0, 0, 0),
  (36, .bipush 8, 0, 0, 0, 0),
  (38, .iushr, 0, 0, 0, 0),
  (39, .iadd, 0, 0, 0, 0),
  (40, .istore_n 0, 0, 0, 0, 0),
  (41, .iload_n 0, 0, 0, 0, 0),
  (42, .iload_n 0, 0, 0, 0, 0),
  (43, .bipush 16, 0, 0, 0, 0),
  (45, .iushr, 0, 0, 0, 0),
  (46, .iadd, 0, 0, 0, 0),
  (47, .istore_n 0, 0, 0, 0, 0),
  (48, .iload_n 0, 0, 0, 0, 0),
  (49, .bipush 63, 0, 0, 0, 0),
  (51, .iand, 0, 0, 0, 0),
  (52, .ireturn, 0, 0, 0, 0)])
def nm_150 : nM := (⟨"SlipHeirs$Phrase", "compares", "(II)Z"⟩, prog_6_method_14_code, 3, some .boolean, [1151, 118, 1150, 45], [
  (0, .aload_n 0, 0, 0, 0, 0),
  (1, .getfield 15, 4, 1, 0, 390),
  (4, .iload_n 2, 0, 0, 0, 0),
  (5, .iaload, 0, 0, 0, 0),
  (6, .lookupswitch 58 #[(60, 26), (61, 42)], 0, 26, 0, 0),
  (32, .iload_n 1, 0, 0, 0, 0),
  (33, .aload_n 0, 0, 0, 0, 0),
  (34, .getfield 18, 4, 2, 0, 391),
  (37, .iload_n 2, 0, 0, 0, 0),
  (38, .iaload, 0, 0, 0, 0),
  (39, .if_icmp .ge 7, 0, 0, 0, 0),
  (42, .iconst 1, 0, 0, 0, 0),
  (43, .goto 4, 0, 0, 0, 0),
  (46, .iconst 0, 0, 0, 0, 0),
  (47, .ireturn, 0, 0, 0, 0),
  (48, .iload_n 1, 0, 0, 0, 0),
  (49, .aload_n 0, 0, 0, 0, 0),
  (50, .getfield 18, 4, 2, 0, 391),
  (53, .iload_n 2, 0, 0, 0, 0),
  (54, .iaload, 0, 0, 0, 0),
  (55, .if_icmp .ne 7, 0, 0, 0, 0),
  (58, .iconst 1, 0, 0, 0, 0),
  (59, .goto 4, 0, 0, 0, 0),
  (62, .iconst 0, 0, 0, 0, 0),
  (63, .ireturn, 0, 0, 0, 0),
  (64, .iload_n 1, 0, 0, 0, 0),
  (65, .aload_n 0, 0, 0, 0, 0),
  (66, .getfield 18, 4, 2, 0, 391),
  (69, .iload_n 2, 0, 0, 0, 0),
  (70, .iaload, 0, 0, 0, 0),
  (71, .if_icmp .le 7, 0, 0, 0, 0),
  (74, .iconst 1, 0, 0, 0, 0),
  (75, .goto 4, 0, 0, 0, 0),
  (78, .iconst 0, 0, 0, 0, 0),
  (79, .ireturn, 0, 0, 0, 0)])
def nm_151 : nM := (⟨"SlipHeirs", "image", "(I)Z"⟩, prog_1_method_40_code, 3, some .boolean, [1156, 110, 1154, 1155], [
  (0, .iload_n 1, 0, 0, 0, 0),
  (1, .ifCond .eq 10, 0, 0, 0, 0),
  (4, .iload_n 1, 0, 0, 0, 0),
  (5, .iconst 1, 0, 0, 0, 0),
  (6, .if_icmp .eq 5, 0, 0, 0, 0),
  (9, .iconst 0, 0, 0, 0, 0),
  (10, .ireturn, 0, 0, 0, 0),
  (11, .aload_n 0, 0, 0, 0, 0),
  (12, .getfield 63, 8, 9, 0, 525),
  (15, .iload_n 1, 0, 0, 0, 0),
  (16, .aaload, 0, 0, 0, 0),
  (17, .astore_n 2, 0, 0, 0, 0),
  (18, .aload_n 2, 0, 0, 0, 0),
  (19, .getfield 336, 1, 0, 0, 466),
  (22, .aload_n 0, 0, 0, 0, 0),
  (23, .getfield 19, 8, 1, 0, 517),
  (26, .invokevirtual 119, 49, 2, 0, 697),
  (29, .aload_n 2, 0, 0, 0, 0),
  (30, .getfield 337, 1, 1, 0, 468),
  (33, .aload_n 0, 0, 0, 0, 0),
  (34, .getfield 29, 8, 3, 0, 519),
  (37, .invokevirtual 308, 63, 2, 0, 855),
  (40, .aload_n 2, 0, 0, 0, 0),
  (41, .getfield 338, 1, 2, 0, 470),
  (44, .aload_n 0, 0, 0, 0, 0),
  (45, .getfield 39, 8, 5, 0, 521),
  (48, .invokevirtual 322, 144, 2, 0, 1118),
  (51, .aload_n 2, 0, 0, 0, 0),
  (52, .iconst 1, 0, 0, 0, 0),
  (53, .putfield 339, 1, 3, 0, 472),
  (56, .iconst 1, 0, 0, 0, 0),
  (57, .ireturn, 0, 0, 0, 0)])
def nm_152 : nM := (⟨"SlipHeirs", "restore", "(I)Z"⟩, prog_1_method_41_code, 3, some .boolean, [1160, 110, 1158, 1159], [
  (0, .iload_n 1, 0, 0, 0, 0),
  (1, .ifCond .eq 8, 0, 0, 0, 0),
  (4, .iload_n 1, 0, 0, 0, 0),
  (5, .iconst 1, 0, 0, 0, 0),
  (6, .if_icmp .ne 15, 0, 0, 0, 0),
  (9, .aload_n 0, 0, 0, 0, 0),
  (10, .getfield 63, 8, 9, 0, 525),
  (13, .iload_n 1, 0, 0, 0, 0),
  (14, .aaload, 0, 0, 0, 0),
  (15, .getfield 339, 1, 3, 0, 472),
  (18, .ifCond .ne 5, 0, 0, 0, 0),
  (21, .iconst 0, 0, 0, 0, 0),
  (22, .ireturn, 0, 0, 0, 0),
  (23, .aload_n 0, 0, 0, 0, 0),
  (24, .getfield 63, 8, 9, 0, 525),
  (27, .iload_n 1, 0, 0, 0, 0),
  (28, .aaload, 0, 0, 0, 0),
  (29, .astore_n 2, 0, 0, 0, 0),
  (30, .aload_n 0, 0, 0, 0, 0),
  (31, .getfield 19, 8, 1, 0, 517),
  (34, .aload_n 2, 0, 0, 0, 0),
  (35, .getfield 336, 1, 0, 0, 466),
  (38, .invokevirtual 119, 49, 2, 0, 697),
  (41, .aload_n 0, 0, 0, 0, 0),
  (42, .getfield 29, 8, 3, 0, 519),
  (45, .aload_n 2, 0, 0, 0, 0),
  (46, .getfield 337, 1, 1, 0, 468),
  (49, .invokevirtual 308, 63, 2, 0, 855),
  (52, .aload_n 0, 0, 0, 0, 0),
  (53, .getfield 39, 8, 5, 0, 521),
  (56, .aload_n 2, 0, 0, 0, 0),
  (57, .getfield 338, 1, 2, 0, 470),
  (60, .invokevirtual 322, 144, 2, 0, 1118),
  (63, .aload_n 0, 0, 0, 0, 0),
  (64, .getfield 56, 8, 8, 0, 524),
  (67, .invokevirtual 129, 52, 1, 0, 714),
  (70, .iconst 1, 0, 0, 0, 0),
  (71, .ireturn, 0, 0, 0, 0)])
def nm_153 : nM := (⟨"SlipHeirs", "count", "(I)I"⟩, prog_1_method_42_code, 2, some .int, [1164, 110, 1162, 1163], [
  (0, .iload_n 1, 0, 0, 0, 0),
  (1, .iconst 4, 0, 0, 0, 0),
  (2, .if_icmp .ne 11, 0, 0, 0, 0),
  (5, .aload_n 0, 0, 0, 0, 0),
  (6, .getfield 10, 8, 0, 0, 516),
  (9, .getfield 102, 7, 5, 0, 206),
  (12, .ireturn, 0, 0, 0, 0),
  (13, .iload_n 1, 0, 0, 0, 0),
  (14, .ifCond .lt 8, 0, 0, 0, 0),
  (17, .iload_n 1, 0, 0, 0, 0),
  (18, .iconst 4, 0, 0, 0, 0),
  (19, .if_icmp .le 7, 0, 0, 0, 0),
  (22, .iconst (-1), 0, 0, 0, 0),
  (23, .goto 12, 0, 0, 0, 0),
  (26, .aload_n 0, 0, 0, 0, 0),
  (27, .getfield 19, 8, 1, 0, 517),
  (30, .getfield 253, 0, 0, 0, 256),
  (33, .iload_n 1, 0, 0, 0, 0),
  (34, .iaload, 0, 0, 0, 0),
  (35, .ireturn, 0, 0, 0, 0)])
def nm_154 : nM := (⟨"SlipHeirs", "person", "(II)I"⟩, prog_1_method_6_code, 3, some .int, [1172, 110, 1170, 1171], [
  (0, .aload_n 0, 0, 0, 0, 0),
  (1, .getfield 19, 8, 1, 0, 517),
  (4, .iconst 1, 0, 0, 0, 0),
  (5, .iload_n 1, 0, 0, 0, 0),
  (6, .invokevirtual 133, 55, 3, 0, 726),
  (9, .ifCond .eq 13, 0, 0, 0, 0),
  (12, .iload_n 2, 0, 0, 0, 0),
  (13, .ifCond .lt 9, 0, 0, 0, 0),
  (16, .iload_n 2, 0, 0, 0, 0),
  (17, .bipush 7, 0, 0, 0, 0),
  (19, .if_icmp .le 11, 0, 0, 0, 0),
  (25, .dup, 0, 0, 0, 0),
  (30, .iload_n 2, 0, 0, 0, 0),
  (31, .tableswitch 120 0 6 #[41, 51, 61, 78, 91, 101, 111], 0, 41, 0, 0),
  (72, .aload_n 0, 0, 0, 0, 0),
  (73, .getfield 19, 8, 1, 0, 517),
  (76, .getfield 140, 0, 2, 0, 259),
  (79, .iload_n 1, 0, 0, 0, 0),
  (80, .iaload, 0, 0, 0, 0),
  (81, .ireturn, 0, 0, 0, 0),
  (82, .aload_n 0, 0, 0, 0, 0),
  (83, .getfield 19, 8, 1, 0, 517),
  (86, .getfield 143, 0, 3, 0, 262),
  (89, .iload_n 1, 0, 0, 0, 0),
  (90, .iaload, 0, 0, 0, 0),
  (91, .ireturn, 0, 0, 0, 0),
  (92, .aload_n 0, 0, 0, 0, 0),
  (93, .getfield 29, 8, 3, 0, 519),
  (96, .iload_n 1, 0, 0, 0, 0),
  (97, .invokevirtual 146, 61, 2, 0, 750),
  (100, .ifCond .eq 7, 0, 0, 0, 0),
  (103, .iconst 1, 0, 0, 0, 0),
  (104, .goto 4, 0, 0, 0, 0),
  (107, .iconst 0, 0, 0, 0, 0),
  (108, .ireturn, 0, 0, 0, 0),
  (109, .aload_n 0, 0, 0, 0, 0),
  (110, .getfield 29, 8, 3, 0, 519),
  (113, .aload_n 0, 0, 0, 0, 0),
  (114, .getfield 19, 8, 1, 0, 517),
  (117, .iload_n 1, 0, 0, 0, 0),
  (118, .invokevirtual 150, 59, 3, 0, 742),
  (121, .ireturn, 0, 0, 0, 0),
  (122, .aload_n 0, 0, 0, 0, 0),
  (123, .getfield 19, 8, 1, 0, 517),
  (126, .getfield 154, 0, 5, 0, 267),
  (129, .iload_n 1, 0, 0, 0, 0),
  (130, .iaload, 0, 0, 0, 0),
  (131, .ireturn, 0, 0, 0, 0),
  (132, .aload_n 0, 0, 0, 0, 0),
  (133, .getfield 19, 8, 1, 0, 517),
  (136, .getfield 157, 0, 4, 0, 264),
  (139, .iload_n 1, 0, 0, 0, 0),
  (140, .iaload, 0, 0, 0, 0),
  (141, .ireturn, 0, 0, 0, 0),
  (142, .aload_n 0, 0, 0, 0, 0),
  (143, .getfield 19, 8, 1, 0, 517),
  (146, .iload_n 1, 0, 0, 0, 0),
  (147, .invokevirtual 160, 71, 2, 0, 1234),
  (150, .ireturn, 0, 0, 0, 0),
  (151, .aload_n 0, 0, 0, 0, 0),
  (152, .getfield 29, 8, 3, 0, 519),
  (155, .getfield 164, 2, 3, 0, 340),
  (158, .iload_n 1, 0, 0, 0, 0),
  (159, .iaload, 0, 0, 0, 0),
  (160, .ireturn, 0, 0, 0, 0)])
def nm_155 : nM := (⟨"SlipHeirs", "loss", "(II)I"⟩, prog_1_method_18_code, 3, some .int, [1241, 110, 1239, 1240], [
  (0, .aload_n 0, 0, 0, 0, 0),
  (1, .iload_n 1, 0, 0, 0, 0),
  (2, .iload_n 2, 0, 0, 0, 0),
  (3, .invokevirtual 243, 84, 3, 0, 847),
  (6, .ifCond .ne 11, 0, 0, 0, 0),
  (12, .dup, 0, 0, 0, 0),
  (17, .aload_n 0, 0, 0, 0, 0),
  (18, .iload_n 1, 0, 0, 0, 0),
  (19, .iload_n 2, 0, 0, 0, 0),
  (20, .invokevirtual 246, 85, 3, 0, 851),
  (23, .aload_n 0, 0, 0, 0, 0),
  (24, .getfield 29, 8, 3, 0, 519),
  (27, .getfield 201, 2, 7, 0, 349),
  (30, .aload_n 0, 0, 0, 0, 0),
  (31, .getfield 33, 8, 4, 0, 520),
  (34, .getfield 201, 2, 7, 0, 349),
  (37, .isub, 0, 0, 0, 0),
  (38, .ireturn, 0, 0, 0, 0)])
def nm_156 : nM := (⟨"SlipHeirsModel", "feed", "(IIIII)I"⟩, prog_11_method_3_code, 6, some .int, [1245, 124, 1243, 1244], [
  (0, .aload_n 0, 0, 0, 0, 0),
  (1, .iconst 0, 0, 0, 0, 0),
  (2, .putfield 1, 9, 0, 0, 1286),
  (5, .aload_n 0, 0, 0, 0, 0),
  (6, .getfield 7, 9, 2, 0, 1288),
  (9, .bipush 20, 0, 0, 0, 0),
  (11, .iadd, 0, 0, 0, 0),
  (12, .sipush 940, 0, 0, 0, 0),
  (15, .if_icmp .le 5, 0, 0, 0, 0),
  (18, .iconst (-1), 0, 0, 0, 0),
  (19, .ireturn, 0, 0, 0, 0),
  (20, .aload_n 0, 0, 0, 0, 0),
  (21, .iload_n 1, 0, 0, 0, 0),
  (22, .invokevirtual 10, 157, 2, 0, 1246),
  (25, .aload_n 0, 0, 0, 0, 0),
  (26, .iload_n 2, 0, 0, 0, 0),
  (27, .invokevirtual 10, 157, 2, 0, 1246),
  (30, .aload_n 0, 0, 0, 0, 0),
  (31, .iload_n 3, 0, 0, 0, 0),
  (32, .invokevirtual 10, 157, 2, 0, 1246),
  (35, .aload_n 0, 0, 0, 0, 0),
  (36, .iload 4, 0, 0, 0, 0),
  (38, .invokevirtual 10, 157, 2, 0, 1246),
  (41, .aload_n 0, 0, 0, 0, 0),
  (42, .iload 5, 0, 0, 0, 0),
  (44, .invokevirtual 10, 157, 2, 0, 1246),
  (47, .aload_n 0, 0, 0, 0, 0),
  (48, .getfield 7, 9, 2, 0, 1288),
  (51, .ireturn, 0, 0, 0, 0)])
def nm_157 : nM := (⟨"SlipHeirsModel", "four", "(I)V"⟩, prog_11_method_4_code, 3, none, [1250, 124, 1248, 47], [
  (0, .bipush 24, 0, 0, 0, 0),
  (2, .istore_n 2, 0, 0, 0, 0),
  (3, .iload_n 2, 0, 0, 0, 0),
  (4, .ifCond .lt 32, 0, 0, 0, 0),
  (7, .aload_n 0, 0, 0, 0, 0),
  (8, .getfield 14, 9, 1, 0, 1287),
  (11, .aload_n 0, 0, 0, 0, 0),
  (12, .getfield 7, 9, 2, 0, 1288),
  (15, .iload_n 1, 0, 0, 0, 0),
  (16, .iload_n 2, 0, 0, 0, 0),
  (17, .ishr, 0, 0, 0, 0),
  (18, .i2b, 0, 0, 0, 0),
  (19, .bastore, 0, 0, 0, 0),
  (20, .aload_n 0, 0, 0, 0, 0),
  (21, .dup, 0, 0, 0, 0),
  (22, .getfield 7, 9, 2, 0, 1288),
  (25, .iconst 1, 0, 0, 0, 0),
  (26, .iadd, 0, 0, 0, 0),
  (27, .putfield 7, 9, 2, 0, 1288),
  (30, .iinc 2 (-8), 0, 0, 0, 0),
  (33, .goto (-30), 0, 0, 0, 0),
  (36, .return_, 0, 0, 0, 0)])
def nm_158 : nM := (⟨"SlipHeirsModel", "end", "(I)Z"⟩, prog_11_method_5_code, 2, some .boolean, [1254, 124, 1252, 1253], [
  (0, .aload_n 0, 0, 0, 0, 0),
  (1, .iconst 0, 0, 0, 0, 0),
  (2, .putfield 1, 9, 0, 0, 1286),
  (5, .iload_n 1, 0, 0, 0, 0),
  (6, .ifCond .lt 11, 0, 0, 0, 0),
  (9, .iload_n 1, 0, 0, 0, 0),
  (10, .aload_n 0, 0, 0, 0, 0),
  (11, .getfield 7, 9, 2, 0, 1288),
  (14, .if_icmp .le 5, 0, 0, 0, 0),
  (17, .iconst 0, 0, 0, 0, 0),
  (18, .ireturn, 0, 0, 0, 0),
  (19, .aload_n 0, 0, 0, 0, 0),
  (20, .iload_n 1, 0, 0, 0, 0),
  (21, .putfield 7, 9, 2, 0, 1288),
  (24, .iconst 1, 0, 0, 0, 0),
  (25, .ireturn, 0, 0, 0, 0)])
def nm_159 : nM := (⟨"SlipHeirsModel", "<init>", "()V"⟩, prog_11_method_11_code, 1, none, [1258, 124, 1257, 0], [
  (0, .aload_n 0, 0, 0, 0, 0),
  (1, .invokespecial 27, 0, 1, 4, 1259),
  (4, .aload_n 0, 0, 0, 0, 0),
  (5, .sipush 940, 0, 0, 0, 0),
  (8, .newarray .byte, 1, 0, 0, 243),
  (10, .putfield 14, 9, 1, 1, 1287),
  (13, .aload_n 0, 0, 0, 0, 0),
  (14, .sipush 360, 0, 0, 0, 0),
  (17, .newarray .int, 0, 0, 0, 244),
  (19, .putfield 33, 9, 6, 1, 1292),
  (22, .aload_n 0, 0, 0, 0, 0),
  (23, .sipush 132, 0, 0, 0, 0),
  (26, .newarray .int, 0, 0, 0, 244),
  (28, .putfield 37, 9, 7, 1, 1293),
  (31, .aload_n 0, 0, 0, 0, 0),
  (32, .sipush 135, 0, 0, 0, 0),
  (35, .newarray .int, 0, 0, 0, 244),
  (37, .putfield 40, 9, 8, 1, 1294),
  (40, .aload_n 0, 0, 0, 0, 0),
  (41, .bipush 52, 0, 0, 0, 0),
  (43, .newarray .long, 3, 0, 0, 245),
  (45, .putfield 43, 9, 9, 1, 1295),
  (48, .aload_n 0, 0, 0, 0, 0),
  (49, .bipush 22, 0, 0, 0, 0),
  (51, .newarray .long, 3, 0, 0, 245),
  (53, .putfield 47, 9, 10, 1, 1296),
  (56, .aload_n 0, 0, 0, 0, 0),
  (57, .bipush 12, 0, 0, 0, 0),
  (59, .newarray .int, 0, 0, 0, 244),
  (61, .putfield 50, 9, 21, 1, 1307),
  (64, .aload_n 0, 0, 0, 0, 0),
  (65, .sipush 376, 0, 0, 0, 0),
  (68, .newarray .int, 0, 0, 0, 244),
  (70, .putfield 53, 9, 22, 1, 1308),
  (73, .aload_n 0, 0, 0, 0, 0),
  (74, .bipush 47, 0, 0, 0, 0),
  (76, .newarray .int, 0, 0, 0, 244),
  (78, .putfield 56, 9, 23, 1, 1309),
  (81, .aload_n 0, 0, 0, 0, 0),
  (82, .bipush 6, 0, 0, 0, 0),
  (84, .newarray .int, 0, 0, 0, 244),
  (86, .putfield 59, 9, 25, 1, 1311),
  (89, .aload_n 0, 0, 0, 0, 0),
  (90, .bipush 6, 0, 0, 0, 0),
  (92, .newarray .int, 0, 0, 0, 244),
  (94, .putfield 62, 9, 26, 1, 1312),
  (97, .aload_n 0, 0, 0, 0, 0),
  (98, .bipush 6, 0, 0, 0, 0),
  (100, .newarray .int, 0, 0, 0, 244),
  (102, .putfield 65, 9, 31, 1, 1317),
  (105, .aload_n 0, 0, 0, 0, 0),
  (106, .bipush 6, 0, 0, 0, 0),
  (108, .newarray .int, 0, 0, 0, 244),
  (110, .putfield 68, 9, 32, 1, 1318),
  (113, .aload_n 0, 0, 0, 0, 0),
  (114, .iconst (-1), 0, 0, 0, 0),
  (115, .putfield 71, 9, 33, 0, 1319),
  (118, .aload_n 0, 0, 0, 0, 0),
  (119, .iconst 4, 0, 0, 0, 0),
  (120, .newarray .int, 0, 0, 0, 244),
  (122, .putfield 74, 9, 36, 1, 1322),
  (125, .aload_n 0, 0, 0, 0, 0),
  (126, .bipush 45, 0, 0, 0, 0),
  (128, .newarray .int, 0, 0, 0, 244),
  (130, .putfield 77, 9, 38, 1, 1324),
  (133, .aload_n 0, 0, 0, 0, 0),
  (134, .bipush 45, 0, 0, 0, 0),
  (136, .newarray .boolean, 2, 0, 0, 1431),
  (138, .putfield 80, 9, 44, 1, 1330),
  (141, .aload_n 0, 0, 0, 0, 0),
  (142, .sipush 720, 0, 0, 0, 0),
  (145, .newarray .int, 0, 0, 0, 244),
  (147, .putfield 84, 9, 45, 1, 1331),
  (150, .aload_n 0, 0, 0, 0, 0),
  (151, .bipush 52, 0, 0, 0, 0),
  (153, .newarray .long, 3, 0, 0, 245),
  (155, .putfield 87, 9, 46, 1, 1332),
  (158, .aload_n 0, 0, 0, 0, 0),
  (159, .iconst 2, 0, 0, 0, 0),
  (160, .newarray .boolean, 2, 0, 0, 1431),
  (162, .putfield 90, 9, 47, 1, 1333),
  (165, .aload_n 0, 0, 0, 0, 0),
  (166, .getfield 47, 9, 10, 0, 1296),
  (169, .iconst 0, 0, 0, 0, 0),
  (170, .ldc2_w 93, 0, 0, 1937007984, 1260),
  (173, .lastore, 0, 0, 0, 0),
  (174, .aload_n 0, 0, 0, 0, 0),
  (175, .getfield 47, 9, 10, 0, 1296),
  (178, .iconst 1, 0, 0, 0, 0),
  (179, .ldc2_w 95, 0, 0, 123581014175598, 1261),
  (182, .lastore, 0, 0, 0, 0),
  (183, .aload_n 0, 0, 0, 0, 0),
  (184, .getfield 47, 9, 10, 0, 1296),
  (187, .iconst 2, 0, 0, 0, 0),
  (188, .ldc2_w 97, 0, 0, 28518, 1262),
  (191, .lastore, 0, 0, 0, 0),
  (192, .aload_n 0, 0, 0, 0, 0),
  (193, .getfield 47, 9, 10, 0, 1296),
  (196, .iconst 3, 0, 0, 0, 0),
  (197, .ldc2_w 99, 0, 0, 6778724, 1263),
  (200, .lastore, 0, 0, 0, 0),
  (201, .aload_n 0, 0, 0, 0, 0),
  (202, .getfield 47, 9, 10, 0, 1296),
  (205, .iconst 4, 0, 0, 0, 0),
  (206, .ldc2_w 101, 0, 0, 1667330661, 1264),
  (209, .lastore, 0, 0, 0, 0),
  (210, .aload_n 0, 0, 0, 0, 0),
  (211, .getfield 47, 9, 10, 0, 1296),
  (214, .iconst 5, 0, 0, 0, 0),
  (215, .ldc2_w 103, 0, 0, 435711799154, 1265),
  (218, .lastore, 0, 0, 0, 0),
  (219, .aload_n 0, 0, 0, 0, 0),
  (220, .getfield 47, 9, 10, 0, 1296),
  (223, .bipush 6, 0, 0, 0, 0),
  (225, .ldc2_w 105, 0, 0, 1684366692, 1266),
  (228, .lastore, 0, 0, 0, 0),
  (229, .aload_n 0, 0, 0, 0, 0),
  (230, .getfield 47, 9, 10, 0, 1296),
  (233, .bipush 7, 0, 0, 0, 0),
  (235, .ldc2_w 107, 0, 0, 1685022067, 1267),
  (238, .lastore, 0, 0, 0, 0),
  (239, .aload_n 0, 0, 0, 0, 0),
  (240, .getfield 47, 9, 10, 0, 1296),
  (243, .bipush 8, 0, 0, 0, 0),
  (245, .ldc2_w 109, 0, 0, 1684628851, 1268),
  (248, .lastore, 0, 0, 0, 0),
  (249, .aload_n 0, 0, 0, 0, 0),
  (250, .getfield 47, 9, 10, 0, 1296),
  (253, .bipush 9, 0, 0, 0, 0),
  (255, .ldc2_w 111, 0, 0, 444150998387, 1269),
  (258, .lastore, 0, 0, 0, 0),
  (259, .aload_n 0, 0, 0, 0, 0),
  (260, .getfield 47, 9, 10, 0, 1296),
  (263, .bipush 10, 0, 0, 0, 0),
  (265, .ldc2_w 113, 0, 0, 2036687218, 1270),
  (268, .lastore, 0, 0, 0, 0),
  (269, .aload_n 0, 0, 0, 0, 0),
  (270, .getfield 47, 9, 10, 0, 1296),
  (273, .bipush 11, 0, 0, 0, 0),
  (275, .ldc2_w 115, 0, 0, 28530, 1271),
  (278, .lastore, 0, 0, 0, 0),
  (279, .aload_n 0, 0, 0, 0, 0),
  (280, .getfield 47, 9, 10, 0, 1296),
  (283, .bipush 12, 0, 0, 0, 0),
  (285, .ldc2_w 117, 0, 0, 6385252, 1272),
  (288, .lastore, 0, 0, 0, 0),
  (289, .aload_n 0, 0, 0, 0, 0),
  (290, .getfield 47, 9, 10, 0, 1296),
  (293, .bipush 13, 0, 0, 0, 0),
  (295, .ldc2_w 119, 0, 0, 7237492, 1273),
  (298, .lastore, 0, 0, 0, 0),
  (299, .aload_n 0, 0, 0, 0, 0),
  (300, .getfield 47, 9, 10, 0, 1296),
  (303, .bipush 14, 0, 0, 0, 0),
  (305, .ldc2_w 121, 0, 0, 418430678629, 1274),
  (308, .lastore, 0, 0, 0, 0),
  (309, .aload_n 0, 0, 0, 0, 0),
  (310, .getfield 47, 9, 10, 0, 1296),
  (313, .bipush 15, 0, 0, 0, 0),
  (315, .ldc2_w 123, 0, 0, 427020345710, 1275),
  (318, .lastore, 0, 0, 0, 0),
  (319, .aload_n 0, 0, 0, 0, 0),
  (320, .getfield 47, 9, 10, 0, 1296),
  (323, .bipush 16, 0, 0, 0, 0),
  (325, .ldc2_w 125, 0, 0, 6840691, 1276),
  (328, .lastore, 0, 0, 0, 0),
  (329, .aload_n 0, 0, 0, 0, 0),
  (330, .getfield 47, 9, 10, 0, 1296),
  (333, .bipush 17, 0, 0, 0, 0),
  (335, .ldc2_w 127, 0, 0, 504363246962, 1277),
  (338, .lastore, 0, 0, 0, 0),
  (339, .aload_n 0, 0, 0, 0, 0),
  (340, .getfield 47, 9, 10, 0, 1296),
  (343, .bipush 18, 0, 0, 0, 0),
  (345, .ldc2_w 129, 0, 0, 111542220583539, 1278),
  (348, .lastore, 0, 0, 0, 0),
  (349, .aload_n 0, 0, 0, 0, 0),
  (350, .getfield 47, 9, 10, 0, 1296),
  (353, .bipush 19, 0, 0, 0, 0),
  (355, .ldc2_w 131, 0, 0, 1651470958, 1279),
  (358, .lastore, 0, 0, 0, 0),
  (359, .aload_n 0, 0, 0, 0, 0),
  (360, .getfield 47, 9, 10, 0, 1296),
  (363, .bipush 20, 0, 0, 0, 0),
  (365, .ldc2_w 133, 0, 0, 1835099237, 1280),
  (368, .lastore, 0, 0, 0, 0),
  (369, .aload_n 0, 0, 0, 0, 0),
  (370, .getfield 47, 9, 10, 0, 1296),
  (373, .bipush 21, 0, 0, 0, 0),
  (375, .ldc2_w 135, 0, 0, 121450625394034, 1281),
  (378, .lastore, 0, 0, 0, 0),
  (379, .aload_n 0, 0, 0, 0, 0),
  (380, .invokevirtual 137, 160, 1, 0, 1282),
  (383, .return_, 0, 0, 0, 0)])
def nm_160 : nM := (⟨"SlipHeirsModel", "begins", "()V"⟩, prog_11_method_33_code, 2, none, [1285, 124, 1284, 48], [
  (0, .aload_n 0, 0, 0, 0, 0),
  (1, .getfield 33, 9, 6, 0, 1292),
  (4, .sipush 132, 0, 0, 0, 0),
  (7, .sipush 300, 0, 0, 0, 0),
  (10, .iastore, 0, 0, 0, 0),
  (11, .aload_n 0, 0, 0, 0, 0),
  (12, .getfield 33, 9, 6, 0, 1292),
  (15, .sipush 133, 0, 0, 0, 0),
  (18, .sipush 1000, 0, 0, 0, 0),
  (21, .iastore, 0, 0, 0, 0),
  (22, .aload_n 0, 0, 0, 0, 0),
  (23, .getfield 33, 9, 6, 0, 1292),
  (26, .sipush 166, 0, 0, 0, 0),
  (29, .iconst (-1), 0, 0, 0, 0),
  (30, .iastore, 0, 0, 0, 0),
  (31, .iconst 0, 0, 0, 0, 0),
  (32, .istore_n 1, 0, 0, 0, 0),
  (33, .iload_n 1, 0, 0, 0, 0),
  (34, .bipush 6, 0, 0, 0, 0),
  (36, .if_icmp .ge 47, 0, 0, 0, 0),
  (39, .aload_n 0, 0, 0, 0, 0),
  (40, .getfield 33, 9, 6, 0, 1292),
  (43, .sipush 138, 0, 0, 0, 0),
  (46, .iload_n 1, 0, 0, 0, 0),
  (47, .iadd, 0, 0, 0, 0),
  (48, .aload_n 0, 0, 0, 0, 0),
  (49, .getfield 33, 9, 6, 0, 1292),
  (52, .bipush 74, 0, 0, 0, 0),
  (54, .iload_n 1, 0, 0, 0, 0),
  (55, .iadd, 0, 0, 0, 0),
  (56, .iaload, 0, 0, 0, 0),
  (57, .iastore, 0, 0, 0, 0),
  (58, .aload_n 0, 0, 0, 0, 0),
  (59, .getfield 33, 9, 6, 0, 1292),
  (62, .sipush 144, 0, 0, 0, 0),
  (65, .iload_n 1, 0, 0, 0, 0),
  (66, .iadd, 0, 0, 0, 0),
  (67, .aload_n 0, 0, 0, 0, 0),
  (68, .getfield 33, 9, 6, 0, 1292),
  (71, .bipush 56, 0, 0, 0, 0),
  (73, .iload_n 1, 0, 0, 0, 0),
  (74, .iadd, 0, 0, 0, 0),
  (75, .iaload, 0, 0, 0, 0),
  (76, .iastore, 0, 0, 0, 0),
  (77, .iinc 1 1, 0, 0, 0, 0),
  (80, .goto (-47), 0, 0, 0, 0),
  (83, .return_, 0, 0, 0, 0)])
def nm_161 : nM := (⟨"SlipHeirsModel", "family", "()I"⟩, prog_11_method_32_code, 2, some .int, [1435, 124, 1433, 1434], [
  (0, .aload_n 0, 0, 0, 0, 0),
  (1, .iconst 0, 0, 0, 0, 0),
  (2, .putfield 1, 9, 0, 0, 1286),
  (5, .aload_n 0, 0, 0, 0, 0),
  (6, .sipush 900, 0, 0, 0, 0),
  (9, .invokevirtual 235, 162, 2, 0, 1436),
  (12, .aload_n 0, 0, 0, 0, 0),
  (13, .iconst 0, 0, 0, 0, 0),
  (14, .putfield 167, 9, 15, 0, 1301),
  (17, .aload_n 0, 0, 0, 0, 0),
  (18, .iconst 0, 0, 0, 0, 0),
  (19, .putfield 238, 9, 19, 0, 1305),
  (22, .aload_n 0, 0, 0, 0, 0),
  (23, .iconst 0, 0, 0, 0, 0),
  (24, .putfield 223, 9, 20, 0, 1306),
  (27, .iconst 0, 0, 0, 0, 0),
  (28, .istore_n 1, 0, 0, 0, 0),
  (29, .iload_n 1, 0, 0, 0, 0),
  (30, .sipush 132, 0, 0, 0, 0),
  (33, .if_icmp .ge 16, 0, 0, 0, 0),
  (36, .aload_n 0, 0, 0, 0, 0),
  (37, .getfield 37, 9, 7, 0, 1293),
  (40, .iload_n 1, 0, 0, 0, 0),
  (41, .iconst 0, 0, 0, 0, 0),
  (42, .iastore, 0, 0, 0, 0),
  (43, .iinc 1 1, 0, 0, 0, 0),
  (46, .goto (-17), 0, 0, 0, 0),
  (49, .aload_n 0, 0, 0, 0, 0),
  (50, .invokevirtual 179, 163, 1, 0, 1440),
  (53, .aload_n 0, 0, 0, 0, 0),
  (54, .getfield 150, 9, 11, 0, 1297),
  (57, .ifCond .eq 39, 0, 0, 0, 0),
  (60, .aload_n 0, 0, 0, 0, 0),
  (61, .invokevirtual 241, 167, 1, 0, 1454),
  (64, .ifCond .eq 12, 0, 0, 0, 0),
  (67, .aload_n 0, 0, 0, 0, 0),
  (68, .bipush 59, 0, 0, 0, 0),
  (70, .invokevirtual 244, 184, 2, 0, 1520),
  (73, .ifCond .ne 10, 0, 0, 0, 0),
  (76, .iconst (-1), 0, 0, 0, 0),
  (77, .aload_n 0, 0, 0, 0, 0),
  (78, .getfield 170, 9, 16, 0, 1302),
  (81, .isub, 0, 0, 0, 0),
  (82, .ireturn, 0, 0, 0, 0),
  (83, .aload_n 0, 0, 0, 0, 0),
  (84, .dup, 0, 0, 0, 0),
  (85, .getfield 238, 9, 19, 0, 1305),
  (88, .iconst 1, 0, 0, 0, 0),
  (89, .iadd, 0, 0, 0, 0),
  (90, .putfield 238, 9, 19, 0, 1305),
  (93, .goto (-40), 0, 0, 0, 0),
  (96, .iconst 0, 0, 0, 0, 0),
  (97, .istore_n 1, 0, 0, 0, 0),
  (98, .iload_n 1, 0, 0, 0, 0),
  (99, .sipush 360, 0, 0, 0, 0),
  (102, .if_icmp .ge 32, 0, 0, 0, 0),
  (105, .aload_n 0, 0, 0, 0, 0),
  (106, .getfield 33, 9, 6, 0, 1292),
  (109, .iload_n 1, 0, 0, 0, 0),
  (110, .iload_n 1, 0, 0, 0, 0),
  (111, .sipush 132, 0, 0, 0, 0),
  (114, .if_icmp .ge 12, 0, 0, 0, 0),
  (117, .aload_n 0, 0, 0, 0, 0),
  (118, .getfield 37, 9, 7, 0, 1293),
  (121, .iload_n 1, 0, 0, 0, 0),
  (122, .iaload, 0, 0, 0, 0),
  (123, .goto 4, 0, 0, 0, 0),
  (126, .iconst 0, 0, 0, 0, 0),
  (127, .iastore, 0, 0, 0, 0),
  (128, .iinc 1 1, 0, 0, 0, 0),
  (131, .goto (-33), 0, 0, 0, 0),
  (134, .iconst 0, 0, 0, 0, 0),
  (135, .istore_n 1, 0, 0, 0, 0),
  (136, .iload_n 1, 0, 0, 0, 0),
  (137, .bipush 26, 0, 0, 0, 0),
  (139, .if_icmp .ge 24, 0, 0, 0, 0),
  (142, .aload_n 0, 0, 0, 0, 0),
  (143, .getfield 43, 9, 9, 0, 1295),
  (146, .iload_n 1, 0, 0, 0, 0),
  (147, .aload_n 0, 0, 0, 0, 0),
  (148, .getfield 43, 9, 9, 0, 1295),
  (151, .bipush 26, 0, 0, 0, 0),
  (153, .iload_n 1, 0, 0, 0, 0),
  (154, .iadd, 0, 0, 0, 0),
  (155, .laload, 0, 0, 0, 0),
  (156, .lastore, 0, 0, 0, 0),
  (157, .iinc 1 1, 0, 0, 0, 0),
  (160, .goto (-24), 0, 0, 0, 0),
  (163, .aload_n 0, 0, 0, 0, 0),
  (164, .invokevirtual 137, 160, 1, 0, 1282),
  (167, .aload_n 0, 0, 0, 0, 0),
  (168, .iconst 0, 0, 0, 0, 0),
  (169, .putfield 247, 9, 24, 0, 1310),
  (172, .aload_n 0, 0, 0, 0, 0),
  (173, .getfield 238, 9, 19, 0, 1305),
  (176, .ireturn, 0, 0, 0, 0)])
def nm_162 : nM := (⟨"SlipHeirsModel", "feeds", "(I)V"⟩, prog_11_method_6_code, 2, none, [1439, 124, 1438, 49], [
  (0, .aload_n 0, 0, 0, 0, 0),
  (1, .aload_n 0, 0, 0, 0, 0),
  (2, .getfield 7, 9, 2, 0, 1288),
  (5, .putfield 18, 9, 3, 0, 1289),
  (8, .aload_n 0, 0, 0, 0, 0),
  (9, .iconst 0, 0, 0, 0, 0),
  (10, .putfield 7, 9, 2, 0, 1288),
  (13, .aload_n 0, 0, 0, 0, 0),
  (14, .iconst 0, 0, 0, 0, 0),
  (15, .putfield 21, 9, 4, 0, 1290),
  (18, .aload_n 0, 0, 0, 0, 0),
  (19, .iload_n 1, 0, 0, 0, 0),
  (20, .putfield 24, 9, 5, 0, 1291),
  (23, .return_, 0, 0, 0, 0)])
def nm_163 : nM := (⟨"SlipHeirsModel", "next", "()V"⟩, prog_11_method_15_code, 4, none, [1443, 124, 1442, 50], [
  (0, .aload_n 0, 0, 0, 0, 0),
  (1, .invokevirtual 140, 164, 1, 0, 1444),
  (4, .bipush 32, 0, 0, 0, 0),
  (6, .if_icmp .eq 12, 0, 0, 0, 0),
  (9, .aload_n 0, 0, 0, 0, 0),
  (10, .invokevirtual 140, 164, 1, 0, 1444),
  (13, .bipush 10, 0, 0, 0, 0),
  (15, .if_icmp .ne 16, 0, 0, 0, 0),
  (18, .aload_n 0, 0, 0, 0, 0),
  (19, .dup, 0, 0, 0, 0),
  (20, .getfield 21, 9, 4, 0, 1290),
  (23, .iconst 1, 0, 0, 0, 0),
  (24, .iadd, 0, 0, 0, 0),
  (25, .putfield 21, 9, 4, 0, 1290),
  (28, .goto (-28), 0, 0, 0, 0),
  (31, .aload_n 0, 0, 0, 0, 0),
  (32, .aload_n 0, 0, 0, 0, 0),
  (33, .getfield 21, 9, 4, 0, 1290),
  (36, .putfield 144, 9, 12, 0, 1298),
  (39, .aload_n 0, 0, 0, 0, 0),
  (40, .iconst 0, 0, 0, 0, 0),
  (41, .putfield 147, 9, 13, 0, 1299),
  (44, .aload_n 0, 0, 0, 0, 0),
  (45, .getfield 18, 9, 3, 0, 1289),
  (48, .aload_n 0, 0, 0, 0, 0),
  (49, .getfield 24, 9, 5, 0, 1291),
  (52, .if_icmp .le 28, 0, 0, 0, 0),
  (55, .aload_n 0, 0, 0, 0, 0),
  (56, .getfield 21, 9, 4, 0, 1290),
  (59, .aload_n 0, 0, 0, 0, 0),
  (60, .getfield 24, 9, 5, 0, 1291),
  (63, .if_icmp .lt 17, 0, 0, 0, 0),
  (66, .aload_n 0, 0, 0, 0, 0),
  (67, .aload_n 0, 0, 0, 0, 0),
  (68, .getfield 24, 9, 5, 0, 1291),
  (71, .putfield 144, 9, 12, 0, 1298),
  (74, .aload_n 0, 0, 0, 0, 0),
  (75, .iconst 4, 0, 0, 0, 0),
  (76, .putfield 150, 9, 11, 0, 1297),
  (79, .return_, 0, 0, 0, 0),
  (80, .aload_n 0, 0, 0, 0, 0),
  (81, .invokevirtual 140, 164, 1, 0, 1444),
  (84, .istore_n 1, 0, 0, 0, 0),
  (85, .iload_n 1, 0, 0, 0, 0),
  (86, .ifCond .ge 9, 0, 0, 0, 0),
  (89, .aload_n 0, 0, 0, 0, 0),
  (90, .iconst 0, 0, 0, 0, 0),
  (91, .putfield 150, 9, 11, 0, 1297),
  (94, .return_, 0, 0, 0, 0),
  (95, .iload_n 1, 0, 0, 0, 0),
  (96, .invokestatic 153, 165, 1, 2, 1448),
  (99, .ifCond .ne 65, 0, 0, 0, 0),
  (102, .iload_n 1, 0, 0, 0, 0),
  (103, .invokestatic 157, 166, 1, 2, 1451),
  (106, .ifCond .ne 58, 0, 0, 0, 0),
  (109, .aload_n 0, 0, 0, 0, 0),
  (110, .iload_n 1, 0, 0, 0, 0),
  (111, .bipush 59, 0, 0, 0, 0),
  (113, .if_icmp .eq 27, 0, 0, 0, 0),
  (116, .iload_n 1, 0, 0, 0, 0),
  (117, .bipush 40, 0, 0, 0, 0),
  (119, .if_icmp .eq 21, 0, 0, 0, 0),
  (122, .iload_n 1, 0, 0, 0, 0),
  (123, .bipush 41, 0, 0, 0, 0),
  (125, .if_icmp .eq 15, 0, 0, 0, 0),
  (128, .iload_n 1, 0, 0, 0, 0),
  (129, .bipush 60, 0, 0, 0, 0),
  (131, .if_icmp .lt 13, 0, 0, 0, 0),
  (134, .iload_n 1, 0, 0, 0, 0),
  (135, .bipush 62, 0, 0, 0, 0),
  (137, .if_icmp .gt 7, 0, 0, 0, 0),
  (140, .iconst 3, 0, 0, 0, 0),
  (141, .goto 4, 0, 0, 0, 0),
  (144, .iconst 4, 0, 0, 0, 0),
  (145, .putfield 150, 9, 11, 0, 1297),
  (148, .aload_n 0, 0, 0, 0, 0),
  (149, .iload_n 1, 0, 0, 0, 0),
  (150, .putfield 160, 9, 14, 0, 1300),
  (153, .aload_n 0, 0, 0, 0, 0),
  (154, .dup, 0, 0, 0, 0),
  (155, .getfield 21, 9, 4, 0, 1290),
  (158, .iconst 1, 0, 0, 0, 0),
  (159, .iadd, 0, 0, 0, 0),
  (160, .putfield 21, 9, 4, 0, 1290),
  (163, .return_, 0, 0, 0, 0),
  (164, .iload_n 1, 0, 0, 0, 0),
  (165, .invokestatic 153, 165, 1, 2, 1448),
  (168, .istore_n 2, 0, 0, 0, 0),
  (169, .iconst 1, 0, 0, 0, 0),
  (170, .istore_n 3, 0, 0, 0, 0),
  (171, .aload_n 0, 0, 0, 0, 0),
  (172, .lconst 0, 0, 0, 0, 0),
  (173, .putfield 163, 9, 17, 0, 1303),
  (176, .aload_n 0, 0, 0, 0, 0),
  (177, .iconst 0, 0, 0, 0, 0),
  (178, .putfield 160, 9, 14, 0, 1300),
  (181, .aload_n 0, 0, 0, 0, 0),
  (182, .invokevirtual 140, 164, 1, 0, 1444),
  (185, .invokestatic 153, 165, 1, 2, 1448),
  (188, .ifCond .ne 13, 0, 0, 0, 0),
  (191, .aload_n 0, 0, 0, 0, 0),
  (192, .invokevirtual 140, 164, 1, 0, 1444),
  (195, .invokestatic 157, 166, 1, 2, 1451),
  (198, .ifCond .eq 100, 0, 0, 0, 0),
  (201, .iload_n 3, 0, 0, 0, 0),
  (202, .ifCond .eq 18, 0, 0, 0, 0),
  (205, .aload_n 0, 0, 0, 0, 0),
  (206, .invokevirtual 140, 164, 1, 0, 1444),
  (209, .invokestatic 153, 165, 1, 2, 1448),
  (212, .iload_n 2, 0, 0, 0, 0),
  (213, .if_icmp .ne 7, 0, 0, 0, 0),
  (216, .iconst 1, 0, 0, 0, 0),
  (217, .goto 4, 0, 0, 0, 0),
  (220, .iconst 0, 0, 0, 0, 0),
  (221, .istore_n 3, 0, 0, 0, 0),
  (222, .aload_n 0, 0, 0, 0, 0),
  (223, .getfield 147, 9, 13, 0, 1299),
  (226, .bipush 7, 0, 0, 0, 0),
  (228, .if_icmp .ge 20, 0, 0, 0, 0),
  (231, .aload_n 0, 0, 0, 0, 0),
  (232, .aload_n 0, 0, 0, 0, 0),
  (233, .getfield 163, 9, 17, 0, 1303),
  (236, .bipush 8, 0, 0, 0, 0),
  (238, .lshl, 0, 0, 0, 0),
  (239, .aload_n 0, 0, 0, 0, 0),
  (240, .invokevirtual 140, 164, 1, 0, 1444),
  (243, .i2l, 0, 0, 0, 0),
  (244, .lor, 0, 0, 0, 0),
  (245, .putfield 163, 9, 17, 0, 1303),
  (248, .aload_n 0, 0, 0, 0, 0),
  (249, .getfield 147, 9, 13, 0, 1299),
  (252, .iconst 3, 0, 0, 0, 0),
  (253, .if_icmp .ge 22, 0, 0, 0, 0),
  (256, .aload_n 0, 0, 0, 0, 0),
  (257, .bipush 10, 0, 0, 0, 0),
  (259, .aload_n 0, 0, 0, 0, 0),
  (260, .getfield 160, 9, 14, 0, 1300),
  (263, .imul, 0, 0, 0, 0),
  (264, .aload_n 0, 0, 0, 0, 0),
  (265, .invokevirtual 140, 164, 1, 0, 1444),
  (268, .iadd, 0, 0, 0, 0),
  (269, .bipush 48, 0, 0, 0, 0),
  (271, .isub, 0, 0, 0, 0),
  (272, .putfield 160, 9, 14, 0, 1300),
  (275, .aload_n 0, 0, 0, 0, 0),
  (276, .dup, 0, 0, 0, 0),
  (277, .getfield 147, 9, 13, 0, 1299),
  (280, .iconst 1, 0, 0, 0, 0),
  (281, .iadd, 0, 0, 0, 0),
  (282, .putfield 147, 9, 13, 0, 1299),
  (285, .aload_n 0, 0, 0, 0, 0),
  (286, .dup, 0, 0, 0, 0),
  (287, .getfield 21, 9, 4, 0, 1290),
  (290, .iconst 1, 0, 0, 0, 0),
  (291, .iadd, 0, 0, 0, 0),
  (292, .putfield 21, 9, 4, 0, 1290),
  (295, .goto (-114), 0, 0, 0, 0),
  (298, .aload_n 0, 0, 0, 0, 0),
  (299, .iload_n 3, 0, 0, 0, 0),
  (300, .ifCond .eq 20, 0, 0, 0, 0),
  (303, .aload_n 0, 0, 0, 0, 0),
  (304, .getfield 147, 9, 13, 0, 1299),
  (307, .iload_n 2, 0, 0, 0, 0),
  (308, .ifCond .eq 8, 0, 0, 0, 0),
  (311, .bipush 7, 0, 0, 0, 0),
  (313, .goto 4, 0, 0, 0, 0),
  (316, .iconst 3, 0, 0, 0, 0),
  (317, .if_icmp .le 7, 0, 0, 0, 0),
  (320, .iconst 4, 0, 0, 0, 0),
  (321, .goto 12, 0, 0, 0, 0),
  (324, .iload_n 2, 0, 0, 0, 0),
  (325, .ifCond .eq 7, 0, 0, 0, 0),
  (328, .iconst 1, 0, 0, 0, 0),
  (329, .goto 4, 0, 0, 0, 0),
  (332, .iconst 2, 0, 0, 0, 0),
  (333, .putfield 150, 9, 11, 0, 1297),
  (336, .return_, 0, 0, 0, 0)])
def nm_164 : nM := (⟨"SlipHeirsModel", "peek", "()I"⟩, prog_11_method_12_code, 1, some .int, [1447, 124, 1446, 51], [
  (0, .aload_n 0, 0, 0, 0, 0),
  (1, .getfield 21, 9, 4, 0, 1290),
  (4, .aload_n 0, 0, 0, 0, 0),
  (5, .getfield 18, 9, 3, 0, 1289),
  (8, .if_icmp .ge 19, 0, 0, 0, 0),
  (11, .aload_n 0, 0, 0, 0, 0),
  (12, .getfield 14, 9, 1, 0, 1287),
  (15, .aload_n 0, 0, 0, 0, 0),
  (16, .getfield 21, 9, 4, 0, 1290),
  (19, .baload, 0, 0, 0, 0),
  (20, .sipush 255, 0, 0, 0, 0),
  (23, .iand, 0, 0, 0, 0),
  (24, .goto 4, 0, 0, 0, 0),
  (27, .iconst (-1), 0, 0, 0, 0),
  (28, .ireturn, 0, 0, 0, 0)])
def nm_165 : nM := (⟨"SlipHeirsModel", "isSmall", "(I)Z"⟩, prog_11_method_13_code, 1, some .boolean, [1450, 124, 1449, 0], [
  (0, .iload_n 0, 0, 0, 0, 0),
  (1, .bipush 97, 0, 0, 0, 0),
  (3, .if_icmp .lt 13, 0, 0, 0, 0),
  (6, .iload_n 0, 0, 0, 0, 0),
  (7, .bipush 122, 0, 0, 0, 0),
  (9, .if_icmp .gt 7, 0, 0, 0, 0),
  (12, .iconst 1, 0, 0, 0, 0),
  (13, .goto 4, 0, 0, 0, 0),
  (16, .iconst 0, 0, 0, 0, 0),
  (17, .ireturn, 0, 0, 0, 0)])
def nm_166 : nM := (⟨"SlipHeirsModel", "isDigit", "(I)Z"⟩, prog_11_method_14_code, 1, some .boolean, [1453, 124, 1452, 0], [
  (0, .iload_n 0, 0, 0, 0, 0),
  (1, .bipush 48, 0, 0, 0, 0),
  (3, .if_icmp .lt 13, 0, 0, 0, 0),
  (6, .iload_n 0, 0, 0, 0, 0),
  (7, .bipush 57, 0, 0, 0, 0),
  (9, .if_icmp .gt 7, 0, 0, 0, 0),
  (12, .iconst 1, 0, 0, 0, 0),
  (13, .goto 4, 0, 0, 0, 0),
  (16, .iconst 0, 0, 0, 0, 0),
  (17, .ireturn, 0, 0, 0, 0)])
def nm_167 : nM := (⟨"SlipHeirsModel", "line", "()Z"⟩, prog_11_method_28_code, 3, some .boolean, [1457, 124, 1456, 52], [
  (0, .aload_n 0, 0, 0, 0, 0),
  (1, .ldc2_w 93, 0, 0, 1937007984, 1260),
  (4, .invokevirtual 204, 168, 2, 0, 1458),
  (7, .ifCond .eq 54, 0, 0, 0, 0),
  (10, .aload_n 0, 0, 0, 0, 0),
  (11, .getfield 37, 9, 7, 0, 1293),
  (14, .iconst 0, 0, 0, 0, 0),
  (15, .iaload, 0, 0, 0, 0),
  (16, .bipush 6, 0, 0, 0, 0),
  (18, .if_icmp .ne 9, 0, 0, 0, 0),
  (21, .aload_n 0, 0, 0, 0, 0),
  (22, .iconst 4, 0, 0, 0, 0),
  (23, .invokevirtual 176, 169, 2, 0, 1462),
  (26, .ireturn, 0, 0, 0, 0),
  (27, .aload_n 0, 0, 0, 0, 0),
  (28, .invokevirtual 179, 163, 1, 0, 1440),
  (31, .aload_n 0, 0, 0, 0, 0),
  (32, .bipush 26, 0, 0, 0, 0),
  (34, .aload_n 0, 0, 0, 0, 0),
  (35, .getfield 37, 9, 7, 0, 1293),
  (38, .iconst 0, 0, 0, 0, 0),
  (39, .iaload, 0, 0, 0, 0),
  (40, .iadd, 0, 0, 0, 0),
  (41, .invokevirtual 208, 170, 2, 0, 1466),
  (44, .ifCond .ne 5, 0, 0, 0, 0),
  (47, .iconst 0, 0, 0, 0, 0),
  (48, .ireturn, 0, 0, 0, 0),
  (49, .aload_n 0, 0, 0, 0, 0),
  (50, .getfield 37, 9, 7, 0, 1293),
  (53, .iconst 0, 0, 0, 0, 0),
  (54, .dup2, 0, 0, 0, 0),
  (55, .iaload, 0, 0, 0, 0),
  (56, .iconst 1, 0, 0, 0, 0),
  (57, .iadd, 0, 0, 0, 0),
  (58, .iastore, 0, 0, 0, 0),
  (59, .iconst 1, 0, 0, 0, 0),
  (60, .ireturn, 0, 0, 0, 0),
  (61, .aload_n 0, 0, 0, 0, 0),
  (62, .ldc2_w 95, 0, 0, 123581014175598, 1261),
  (65, .invokevirtual 204, 168, 2, 0, 1458),
  (68, .ifCond .eq 8, 0, 0, 0, 0),
  (71, .aload_n 0, 0, 0, 0, 0),
  (72, .invokevirtual 211, 173, 1, 0, 1478),
  (75, .ireturn, 0, 0, 0, 0),
  (76, .aload_n 0, 0, 0, 0, 0),
  (77, .ldc2_w 103, 0, 0, 435711799154, 1265),
  (80, .invokevirtual 204, 168, 2, 0, 1458),
  (83, .ifCond .eq 8, 0, 0, 0, 0),
  (86, .aload_n 0, 0, 0, 0, 0),
  (87, .invokevirtual 214, 179, 1, 0, 1501),
  (90, .ireturn, 0, 0, 0, 0),
  (91, .aload_n 0, 0, 0, 0, 0),
  (92, .ldc2_w 105, 0, 0, 1684366692, 1266),
  (95, .invokevirtual 204, 168, 2, 0, 1458),
  (98, .ifCond .eq 8, 0, 0, 0, 0),
  (101, .aload_n 0, 0, 0, 0, 0),
  (102, .invokevirtual 217, 181, 1, 0, 1509),
  (105, .ireturn, 0, 0, 0, 0),
  (106, .aload_n 0, 0, 0, 0, 0),
  (107, .ldc2_w 99, 0, 0, 6778724, 1263),
  (110, .invokevirtual 204, 168, 2, 0, 1458),
  (113, .istore_n 1, 0, 0, 0, 0),
  (114, .iload_n 1, 0, 0, 0, 0),
  (115, .ifCond .ne 19, 0, 0, 0, 0),
  (118, .aload_n 0, 0, 0, 0, 0),
  (119, .ldc2_w 101, 0, 0, 1667330661, 1264),
  (122, .invokevirtual 204, 168, 2, 0, 1458),
  (125, .ifCond .ne 9, 0, 0, 0, 0),
  (128, .aload_n 0, 0, 0, 0, 0),
  (129, .iconst 1, 0, 0, 0, 0),
  (130, .invokevirtual 176, 169, 2, 0, 1462),
  (133, .ireturn, 0, 0, 0, 0),
  (134, .aload_n 0, 0, 0, 0, 0),
  (135, .invokevirtual 179, 163, 1, 0, 1440),
  (138, .aload_n 0, 0, 0, 0, 0),
  (139, .invokevirtual 220, 177, 1, 0, 1493),
  (142, .ifCond .ne 5, 0, 0, 0, 0),
  (145, .iconst 0, 0, 0, 0, 0),
  (146, .ireturn, 0, 0, 0, 0),
  (147, .aload_n 0, 0, 0, 0, 0),
  (148, .getfield 186, 9, 18, 0, 1304),
  (151, .istore_n 2, 0, 0, 0, 0),
  (152, .iload_n 1, 0, 0, 0, 0),
  (153, .ifCond .eq 18, 0, 0, 0, 0),
  (156, .aload_n 0, 0, 0, 0, 0),
  (157, .getfield 37, 9, 7, 0, 1293),
  (160, .bipush 24, 0, 0, 0, 0),
  (162, .iload_n 2, 0, 0, 0, 0),
  (163, .iadd, 0, 0, 0, 0),
  (164, .iaload, 0, 0, 0, 0),
  (165, .ifCond .le 23, 0, 0, 0, 0),
  (168, .goto 14, 0, 0, 0, 0),
  (171, .aload_n 0, 0, 0, 0, 0),
  (172, .getfield 223, 9, 20, 0, 1306),
  (175, .iload_n 2, 0, 0, 0, 0),
  (176, .invokestatic 226, 183, 2, 2, 1517),
  (179, .ifCond .eq 9, 0, 0, 0, 0),
  (182, .aload_n 0, 0, 0, 0, 0),
  (183, .iconst 3, 0, 0, 0, 0),
  (184, .invokevirtual 176, 169, 2, 0, 1462),
  (187, .ireturn, 0, 0, 0, 0),
  (188, .aload_n 0, 0, 0, 0, 0),
  (189, .invokevirtual 179, 163, 1, 0, 1440),
  (192, .iload_n 1, 0, 0, 0, 0),
  (193, .ifCond .ne 27, 0, 0, 0, 0),
  (196, .aload_n 0, 0, 0, 0, 0),
  (197, .dup, 0, 0, 0, 0),
  (198, .getfield 223, 9, 20, 0, 1306),
  (201, .iconst 1, 0, 0, 0, 0),
  (202, .iload_n 2, 0, 0, 0, 0),
  (203, .ishl, 0, 0, 0, 0),
  (204, .ior, 0, 0, 0, 0),
  (205, .putfield 223, 9, 20, 0, 1306),
  (208, .aload_n 0, 0, 0, 0, 0),
  (209, .bipush 34, 0, 0, 0, 0),
  (211, .iload_n 2, 0, 0, 0, 0),
  (212, .iadd, 0, 0, 0, 0),
  (213, .iconst 0, 0, 0, 0, 0),
  (214, .bipush 9, 0, 0, 0, 0),
  (216, .invokevirtual 229, 174, 4, 0, 1482),
  (219, .ireturn, 0, 0, 0, 0),
  (220, .aload_n 0, 0, 0, 0, 0),
  (221, .invokevirtual 220, 177, 1, 0, 1493),
  (224, .ifCond .ne 5, 0, 0, 0, 0),
  (227, .iconst 0, 0, 0, 0, 0),
  (228, .ireturn, 0, 0, 0, 0),
  (229, .aload_n 0, 0, 0, 0, 0),
  (230, .getfield 186, 9, 18, 0, 1304),
  (233, .iload_n 2, 0, 0, 0, 0),
  (234, .if_icmp .ne 9, 0, 0, 0, 0),
  (237, .aload_n 0, 0, 0, 0, 0),
  (238, .iconst 3, 0, 0, 0, 0),
  (239, .invokevirtual 176, 169, 2, 0, 1462),
  (242, .ireturn, 0, 0, 0, 0),
  (243, .aload_n 0, 0, 0, 0, 0),
  (244, .getfield 37, 9, 7, 0, 1293),
  (247, .bipush 24, 0, 0, 0, 0),
  (249, .iload_n 2, 0, 0, 0, 0),
  (250, .iadd, 0, 0, 0, 0),
  (251, .aload_n 0, 0, 0, 0, 0),
  (252, .getfield 186, 9, 18, 0, 1304),
  (255, .iconst 1, 0, 0, 0, 0),
  (256, .iadd, 0, 0, 0, 0),
  (257, .iastore, 0, 0, 0, 0),
  (258, .aload_n 0, 0, 0, 0, 0),
  (259, .invokevirtual 179, 163, 1, 0, 1440),
  (262, .iconst 1, 0, 0, 0, 0),
  (263, .ireturn, 0, 0, 0, 0)])
def nm_168 : nM := (⟨"SlipHeirsModel", "isWord", "(J)Z"⟩, prog_11_method_17_code, 3, some .boolean, [1461, 124, 1460, 53], [
  (0, .aload_n 0, 0, 0, 0, 0),
  (1, .getfield 150, 9, 11, 0, 1297),
  (4, .iconst 1, 0, 0, 0, 0),
  (5, .if_icmp .ne 16, 0, 0, 0, 0),
  (8, .aload_n 0, 0, 0, 0, 0),
  (9, .getfield 163, 9, 17, 0, 1303),
  (12, .lload_n 1, 0, 0, 0, 0),
  (13, .lcmp, 0, 0, 0, 0),
  (14, .ifCond .ne 7, 0, 0, 0, 0),
  (17, .iconst 1, 0, 0, 0, 0),
  (18, .goto 4, 0, 0, 0, 0),
  (21, .iconst 0, 0, 0, 0, 0),
  (22, .ireturn, 0, 0, 0, 0)])
def nm_169 : nM := (⟨"SlipHeirsModel", "bad", "(I)Z"⟩, prog_11_method_16_code, 2, some .boolean, [1465, 124, 1464, 54], [
  (0, .aload_n 0, 0, 0, 0, 0),
  (1, .iload_n 1, 0, 0, 0, 0),
  (2, .putfield 167, 9, 15, 0, 1301),
  (5, .aload_n 0, 0, 0, 0, 0),
  (6, .aload_n 0, 0, 0, 0, 0),
  (7, .getfield 144, 9, 12, 0, 1298),
  (10, .putfield 170, 9, 16, 0, 1302),
  (13, .iconst 0, 0, 0, 0, 0),
  (14, .ireturn, 0, 0, 0, 0)])
def nm_170 : nM := (⟨"SlipHeirsModel", "fresh", "(I)Z"⟩, prog_11_method_24_code, 2, some .boolean, [1469, 124, 1468, 55], [
  (0, .aload_n 0, 0, 0, 0, 0),
  (1, .invokevirtual 193, 171, 1, 0, 1470),
  (4, .ifCond .ne 9, 0, 0, 0, 0),
  (7, .aload_n 0, 0, 0, 0, 0),
  (8, .iconst 1, 0, 0, 0, 0),
  (9, .invokevirtual 176, 169, 2, 0, 1462),
  (12, .ireturn, 0, 0, 0, 0),
  (13, .aload_n 0, 0, 0, 0, 0),
  (14, .bipush 26, 0, 0, 0, 0),
  (16, .aload_n 0, 0, 0, 0, 0),
  (17, .getfield 37, 9, 7, 0, 1293),
  (20, .iconst 0, 0, 0, 0, 0),
  (21, .iaload, 0, 0, 0, 0),
  (22, .invokevirtual 197, 172, 3, 0, 1474),
  (25, .ifCond .ge 48, 0, 0, 0, 0),
  (28, .aload_n 0, 0, 0, 0, 0),
  (29, .bipush 32, 0, 0, 0, 0),
  (31, .aload_n 0, 0, 0, 0, 0),
  (32, .getfield 37, 9, 7, 0, 1293),
  (35, .iconst 1, 0, 0, 0, 0),
  (36, .iaload, 0, 0, 0, 0),
  (37, .invokevirtual 197, 172, 3, 0, 1474),
  (40, .ifCond .ge 33, 0, 0, 0, 0),
  (43, .aload_n 0, 0, 0, 0, 0),
  (44, .bipush 42, 0, 0, 0, 0),
  (46, .aload_n 0, 0, 0, 0, 0),
  (47, .getfield 37, 9, 7, 0, 1293),
  (50, .iconst 2, 0, 0, 0, 0),
  (51, .iaload, 0, 0, 0, 0),
  (52, .invokevirtual 197, 172, 3, 0, 1474),
  (55, .ifCond .ge 18, 0, 0, 0, 0),
  (58, .aload_n 0, 0, 0, 0, 0),
  (59, .bipush 48, 0, 0, 0, 0),
  (61, .aload_n 0, 0, 0, 0, 0),
  (62, .getfield 37, 9, 7, 0, 1293),
  (65, .iconst 3, 0, 0, 0, 0),
  (66, .iaload, 0, 0, 0, 0),
  (67, .invokevirtual 197, 172, 3, 0, 1474),
  (70, .ifCond .lt 9, 0, 0, 0, 0),
  (73, .aload_n 0, 0, 0, 0, 0),
  (74, .iconst 3, 0, 0, 0, 0),
  (75, .invokevirtual 176, 169, 2, 0, 1462),
  (78, .ireturn, 0, 0, 0, 0),
  (79, .aload_n 0, 0, 0, 0, 0),
  (80, .getfield 43, 9, 9, 0, 1295),
  (83, .iload_n 1, 0, 0, 0, 0),
  (84, .aload_n 0, 0, 0, 0, 0),
  (85, .getfield 163, 9, 17, 0, 1303),
  (88, .lastore, 0, 0, 0, 0),
  (89, .aload_n 0, 0, 0, 0, 0),
  (90, .invokevirtual 179, 163, 1, 0, 1440),
  (93, .iconst 1, 0, 0, 0, 0),
  (94, .ireturn, 0, 0, 0, 0)])
def nm_171 : nM := (⟨"SlipHeirsModel", "isName", "()Z"⟩, prog_11_method_20_code, 3, some .boolean, [1473, 124, 1472, 56], [
  (0, .aload_n 0, 0, 0, 0, 0),
  (1, .getfield 150, 9, 11, 0, 1297),
  (4, .iconst 1, 0, 0, 0, 0),
  (5, .if_icmp .ne 7, 0, 0, 0, 0),
  (8, .iconst 1, 0, 0, 0, 0),
  (9, .goto 4, 0, 0, 0, 0),
  (12, .iconst 0, 0, 0, 0, 0),
  (13, .istore_n 1, 0, 0, 0, 0),
  (14, .iconst 0, 0, 0, 0, 0),
  (15, .istore_n 2, 0, 0, 0, 0),
  (16, .iload_n 2, 0, 0, 0, 0),
  (17, .bipush 22, 0, 0, 0, 0),
  (19, .if_icmp .ge 33, 0, 0, 0, 0),
  (22, .iload_n 1, 0, 0, 0, 0),
  (23, .ifCond .eq 21, 0, 0, 0, 0),
  (26, .aload_n 0, 0, 0, 0, 0),
  (27, .getfield 163, 9, 17, 0, 1303),
  (30, .aload_n 0, 0, 0, 0, 0),
  (31, .getfield 47, 9, 10, 0, 1296),
  (34, .iload_n 2, 0, 0, 0, 0),
  (35, .laload, 0, 0, 0, 0),
  (36, .lcmp, 0, 0, 0, 0),
  (37, .ifCond .eq 7, 0, 0, 0, 0),
  (40, .iconst 1, 0, 0, 0, 0),
  (41, .goto 4, 0, 0, 0, 0),
  (44, .iconst 0, 0, 0, 0, 0),
  (45, .istore_n 1, 0, 0, 0, 0),
  (46, .iinc 2 1, 0, 0, 0, 0),
  (49, .goto (-33), 0, 0, 0, 0),
  (52, .iload_n 1, 0, 0, 0, 0),
  (53, .ireturn, 0, 0, 0, 0)])
def nm_172 : nM := (⟨"SlipHeirsModel", "find", "(II)I"⟩, prog_11_method_23_code, 4, some .int, [1477, 124, 1476, 57], [
  (0, .iconst 0, 0, 0, 0, 0),
  (1, .istore_n 3, 0, 0, 0, 0),
  (2, .iload_n 3, 0, 0, 0, 0),
  (3, .iload_n 2, 0, 0, 0, 0),
  (4, .if_icmp .ge 27, 0, 0, 0, 0),
  (7, .aload_n 0, 0, 0, 0, 0),
  (8, .getfield 43, 9, 9, 0, 1295),
  (11, .iload_n 1, 0, 0, 0, 0),
  (12, .iload_n 3, 0, 0, 0, 0),
  (13, .iadd, 0, 0, 0, 0),
  (14, .laload, 0, 0, 0, 0),
  (15, .aload_n 0, 0, 0, 0, 0),
  (16, .getfield 163, 9, 17, 0, 1303),
  (19, .lcmp, 0, 0, 0, 0),
  (20, .ifCond .ne 5, 0, 0, 0, 0),
  (23, .iload_n 3, 0, 0, 0, 0),
  (24, .ireturn, 0, 0, 0, 0),
  (25, .iinc 3 1, 0, 0, 0, 0),
  (28, .goto (-26), 0, 0, 0, 0),
  (31, .iconst (-1), 0, 0, 0, 0),
  (32, .ireturn, 0, 0, 0, 0)])
def nm_173 : nM := (⟨"SlipHeirsModel", "readPerson", "()Z"⟩, prog_11_method_29_code, 2, some .boolean, [1481, 124, 1480, 58], [
  (0, .aload_n 0, 0, 0, 0, 0),
  (1, .getfield 37, 9, 7, 0, 1293),
  (4, .iconst 1, 0, 0, 0, 0),
  (5, .iaload, 0, 0, 0, 0),
  (6, .istore_n 1, 0, 0, 0, 0),
  (7, .iload_n 1, 0, 0, 0, 0),
  (8, .bipush 10, 0, 0, 0, 0),
  (10, .if_icmp .ne 9, 0, 0, 0, 0),
  (13, .aload_n 0, 0, 0, 0, 0),
  (14, .iconst 4, 0, 0, 0, 0),
  (15, .invokevirtual 176, 169, 2, 0, 1462),
  (18, .ireturn, 0, 0, 0, 0),
  (19, .aload_n 0, 0, 0, 0, 0),
  (20, .invokevirtual 179, 163, 1, 0, 1440),
  (23, .aload_n 0, 0, 0, 0, 0),
  (24, .bipush 32, 0, 0, 0, 0),
  (26, .iload_n 1, 0, 0, 0, 0),
  (27, .iadd, 0, 0, 0, 0),
  (28, .invokevirtual 208, 170, 2, 0, 1466),
  (31, .ifCond .eq 17, 0, 0, 0, 0),
  (34, .aload_n 0, 0, 0, 0, 0),
  (35, .iconst 4, 0, 0, 0, 0),
  (36, .iload_n 1, 0, 0, 0, 0),
  (37, .iadd, 0, 0, 0, 0),
  (38, .iconst 0, 0, 0, 0, 0),
  (39, .sipush 300, 0, 0, 0, 0),
  (42, .invokevirtual 229, 174, 4, 0, 1482),
  (45, .ifCond .ne 5, 0, 0, 0, 0),
  (48, .iconst 0, 0, 0, 0, 0),
  (49, .ireturn, 0, 0, 0, 0),
  (50, .aload_n 0, 0, 0, 0, 0),
  (51, .getfield 37, 9, 7, 0, 1293),
  (54, .bipush 14, 0, 0, 0, 0),
  (56, .iload_n 1, 0, 0, 0, 0),
  (57, .iadd, 0, 0, 0, 0),
  (58, .iconst 0, 0, 0, 0, 0),
  (59, .iastore, 0, 0, 0, 0),
  (60, .aload_n 0, 0, 0, 0, 0),
  (61, .getfield 37, 9, 7, 0, 1293),
  (64, .bipush 34, 0, 0, 0, 0),
  (66, .iload_n 1, 0, 0, 0, 0),
  (67, .iadd, 0, 0, 0, 0),
  (68, .iconst 1, 0, 0, 0, 0),
  (69, .iastore, 0, 0, 0, 0),
  (70, .aload_n 0, 0, 0, 0, 0),
  (71, .ldc2_w 97, 0, 0, 28518, 1262),
  (74, .invokevirtual 204, 168, 2, 0, 1458),
  (77, .ifCond .eq 63, 0, 0, 0, 0),
  (80, .aload_n 0, 0, 0, 0, 0),
  (81, .invokevirtual 179, 163, 1, 0, 1440),
  (84, .aload_n 0, 0, 0, 0, 0),
  (85, .invokevirtual 220, 177, 1, 0, 1493),
  (88, .ifCond .ne 5, 0, 0, 0, 0),
  (91, .iconst 0, 0, 0, 0, 0),
  (92, .ireturn, 0, 0, 0, 0),
  (93, .aload_n 0, 0, 0, 0, 0),
  (94, .getfield 37, 9, 7, 0, 1293),
  (97, .iconst 4, 0, 0, 0, 0),
  (98, .aload_n 0, 0, 0, 0, 0),
  (99, .getfield 186, 9, 18, 0, 1304),
  (102, .iadd, 0, 0, 0, 0),
  (103, .iaload, 0, 0, 0, 0),
  (104, .aload_n 0, 0, 0, 0, 0),
  (105, .getfield 37, 9, 7, 0, 1293),
  (108, .iconst 4, 0, 0, 0, 0),
  (109, .iload_n 1, 0, 0, 0, 0),
  (110, .iadd, 0, 0, 0, 0),
  (111, .iaload, 0, 0, 0, 0),
  (112, .if_icmp .lt 9, 0, 0, 0, 0),
  (115, .aload_n 0, 0, 0, 0, 0),
  (116, .iconst 3, 0, 0, 0, 0),
  (117, .invokevirtual 176, 169, 2, 0, 1462),
  (120, .ireturn, 0, 0, 0, 0),
  (121, .aload_n 0, 0, 0, 0, 0),
  (122, .getfield 37, 9, 7, 0, 1293),
  (125, .bipush 14, 0, 0, 0, 0),
  (127, .iload_n 1, 0, 0, 0, 0),
  (128, .iadd, 0, 0, 0, 0),
  (129, .aload_n 0, 0, 0, 0, 0),
  (130, .getfield 186, 9, 18, 0, 1304),
  (133, .iconst 1, 0, 0, 0, 0),
  (134, .iadd, 0, 0, 0, 0),
  (135, .iastore, 0, 0, 0, 0),
  (136, .aload_n 0, 0, 0, 0, 0),
  (137, .invokevirtual 179, 163, 1, 0, 1440),
  (140, .aload_n 0, 0, 0, 0, 0),
  (141, .getfield 37, 9, 7, 0, 1293),
  (144, .iconst 1, 0, 0, 0, 0),
  (145, .dup2, 0, 0, 0, 0),
  (146, .iaload, 0, 0, 0, 0),
  (147, .iconst 1, 0, 0, 0, 0),
  (148, .iadd, 0, 0, 0, 0),
  (149, .iastore, 0, 0, 0, 0),
  (150, .iconst 1, 0, 0, 0, 0),
  (151, .ireturn, 0, 0, 0, 0)])
def nm_174 : nM := (⟨"SlipHeirsModel", "puts", "(III)Z"⟩, prog_11_method_22_code, 4, some .boolean, [1485, 124, 1484, 59], [
  (0, .aload_n 0, 0, 0, 0, 0),
  (1, .iload_n 2, 0, 0, 0, 0),
  (2, .iload_n 3, 0, 0, 0, 0),
  (3, .invokevirtual 189, 175, 3, 0, 1486),
  (6, .ifCond .ne 5, 0, 0, 0, 0),
  (9, .iconst 0, 0, 0, 0, 0),
  (10, .ireturn, 0, 0, 0, 0),
  (11, .aload_n 0, 0, 0, 0, 0),
  (12, .getfield 37, 9, 7, 0, 1293),
  (15, .iload_n 1, 0, 0, 0, 0),
  (16, .aload_n 0, 0, 0, 0, 0),
  (17, .getfield 186, 9, 18, 0, 1304),
  (20, .iastore, 0, 0, 0, 0),
  (21, .iconst 1, 0, 0, 0, 0),
  (22, .ireturn, 0, 0, 0, 0)])
def nm_175 : nM := (⟨"SlipHeirsModel", "takes", "(II)Z"⟩, prog_11_method_21_code, 3, some .boolean, [1489, 124, 1488, 60], [
  (0, .aload_n 0, 0, 0, 0, 0),
  (1, .getfield 150, 9, 11, 0, 1297),
  (4, .iconst 2, 0, 0, 0, 0),
  (5, .if_icmp .eq 9, 0, 0, 0, 0),
  (8, .aload_n 0, 0, 0, 0, 0),
  (9, .iconst 1, 0, 0, 0, 0),
  (10, .invokevirtual 176, 169, 2, 0, 1462),
  (13, .ireturn, 0, 0, 0, 0),
  (14, .aload_n 0, 0, 0, 0, 0),
  (15, .getfield 160, 9, 14, 0, 1300),
  (18, .iload_n 1, 0, 0, 0, 0),
  (19, .iload_n 2, 0, 0, 0, 0),
  (20, .invokestatic 182, 176, 3, 2, 1490),
  (23, .ifCond .ne 9, 0, 0, 0, 0),
  (26, .aload_n 0, 0, 0, 0, 0),
  (27, .iconst 2, 0, 0, 0, 0),
  (28, .invokevirtual 176, 169, 2, 0, 1462),
  (31, .ireturn, 0, 0, 0, 0),
  (32, .aload_n 0, 0, 0, 0, 0),
  (33, .aload_n 0, 0, 0, 0, 0),
  (34, .getfield 160, 9, 14, 0, 1300),
  (37, .putfield 186, 9, 18, 0, 1304),
  (40, .aload_n 0, 0, 0, 0, 0),
  (41, .invokevirtual 179, 163, 1, 0, 1440),
  (44, .iconst 1, 0, 0, 0, 0),
  (45, .ireturn, 0, 0, 0, 0)])
def nm_176 : nM := (⟨"SlipHeirsModel", "isIn", "(III)Z"⟩, prog_11_method_7_code, 3, some .boolean, [1492, 124, 1491, 0], [
  (0, .iload_n 0, 0, 0, 0, 0),
  (1, .iload_n 1, 0, 0, 0, 0),
  (2, .if_icmp .lt 12, 0, 0, 0, 0),
  (5, .iload_n 0, 0, 0, 0, 0),
  (6, .iload_n 2, 0, 0, 0, 0),
  (7, .if_icmp .gt 7, 0, 0, 0, 0),
  (10, .iconst 1, 0, 0, 0, 0),
  (11, .goto 4, 0, 0, 0, 0),
  (14, .iconst 0, 0, 0, 0, 0),
  (15, .ireturn, 0, 0, 0, 0)])
def nm_177 : nM := (⟨"SlipHeirsModel", "looksAtPerson", "()Z"⟩, prog_11_method_26_code, 1, some .boolean, [1496, 124, 1495, 61], [
  (0, .aload_n 0, 0, 0, 0, 0),
  (1, .bipush 32, 0, 0, 0, 0),
  (3, .aload_n 0, 0, 0, 0, 0),
  (4, .getfield 37, 9, 7, 0, 1293),
  (7, .iconst 1, 0, 0, 0, 0),
  (8, .iaload, 0, 0, 0, 0),
  (9, .invokevirtual 201, 178, 3, 0, 1497),
  (12, .ireturn, 0, 0, 0, 0)])
def nm_178 : nM := (⟨"SlipHeirsModel", "looksAt", "(II)Z"⟩, prog_11_method_25_code, 3, some .boolean, [1500, 124, 1499, 62], [
  (0, .aload_n 0, 0, 0, 0, 0),
  (1, .invokevirtual 193, 171, 1, 0, 1470),
  (4, .ifCond .ne 9, 0, 0, 0, 0),
  (7, .aload_n 0, 0, 0, 0, 0),
  (8, .iconst 1, 0, 0, 0, 0),
  (9, .invokevirtual 176, 169, 2, 0, 1462),
  (12, .ireturn, 0, 0, 0, 0),
  (13, .aload_n 0, 0, 0, 0, 0),
  (14, .aload_n 0, 0, 0, 0, 0),
  (15, .iload_n 1, 0, 0, 0, 0),
  (16, .iload_n 2, 0, 0, 0, 0),
  (17, .invokevirtual 197, 172, 3, 0, 1474),
  (20, .putfield 186, 9, 18, 0, 1304),
  (23, .aload_n 0, 0, 0, 0, 0),
  (24, .getfield 186, 9, 18, 0, 1304),
  (27, .ifCond .ge 11, 0, 0, 0, 0),
  (30, .aload_n 0, 0, 0, 0, 0),
  (31, .iconst 3, 0, 0, 0, 0),
  (32, .invokevirtual 176, 169, 2, 0, 1462),
  (35, .ifCond .eq 7, 0, 0, 0, 0),
  (38, .iconst 1, 0, 0, 0, 0),
  (39, .goto 4, 0, 0, 0, 0),
  (42, .iconst 0, 0, 0, 0, 0),
  (43, .ireturn, 0, 0, 0, 0)])
def nm_179 : nM := (⟨"SlipHeirsModel", "readError", "()Z"⟩, prog_11_method_30_code, 2, some .boolean, [1504, 124, 1503, 63], [
  (0, .aload_n 0, 0, 0, 0, 0),
  (1, .getfield 37, 9, 7, 0, 1293),
  (4, .iconst 2, 0, 0, 0, 0),
  (5, .iaload, 0, 0, 0, 0),
  (6, .istore_n 1, 0, 0, 0, 0),
  (7, .iload_n 1, 0, 0, 0, 0),
  (8, .bipush 6, 0, 0, 0, 0),
  (10, .if_icmp .ne 9, 0, 0, 0, 0),
  (13, .aload_n 0, 0, 0, 0, 0),
  (14, .iconst 4, 0, 0, 0, 0),
  (15, .invokevirtual 176, 169, 2, 0, 1462),
  (18, .ireturn, 0, 0, 0, 0),
  (19, .aload_n 0, 0, 0, 0, 0),
  (20, .invokevirtual 179, 163, 1, 0, 1440),
  (23, .aload_n 0, 0, 0, 0, 0),
  (24, .bipush 42, 0, 0, 0, 0),
  (26, .iload_n 1, 0, 0, 0, 0),
  (27, .iadd, 0, 0, 0, 0),
  (28, .invokevirtual 208, 170, 2, 0, 1466),
  (31, .ifCond .eq 10, 0, 0, 0, 0),
  (34, .aload_n 0, 0, 0, 0, 0),
  (35, .invokevirtual 220, 177, 1, 0, 1493),
  (38, .ifCond .ne 5, 0, 0, 0, 0),
  (41, .iconst 0, 0, 0, 0, 0),
  (42, .ireturn, 0, 0, 0, 0),
  (43, .aload_n 0, 0, 0, 0, 0),
  (44, .getfield 37, 9, 7, 0, 1293),
  (47, .bipush 74, 0, 0, 0, 0),
  (49, .iload_n 1, 0, 0, 0, 0),
  (50, .iadd, 0, 0, 0, 0),
  (51, .aload_n 0, 0, 0, 0, 0),
  (52, .getfield 186, 9, 18, 0, 1304),
  (55, .iastore, 0, 0, 0, 0),
  (56, .aload_n 0, 0, 0, 0, 0),
  (57, .invokevirtual 179, 163, 1, 0, 1440),
  (60, .aload_n 0, 0, 0, 0, 0),
  (61, .invokevirtual 232, 180, 1, 0, 1505),
  (64, .ifCond .ne 5, 0, 0, 0, 0),
  (67, .iconst 0, 0, 0, 0, 0),
  (68, .ireturn, 0, 0, 0, 0),
  (69, .aload_n 0, 0, 0, 0, 0),
  (70, .getfield 37, 9, 7, 0, 1293),
  (73, .bipush 44, 0, 0, 0, 0),
  (75, .iload_n 1, 0, 0, 0, 0),
  (76, .iadd, 0, 0, 0, 0),
  (77, .aload_n 0, 0, 0, 0, 0),
  (78, .getfield 186, 9, 18, 0, 1304),
  (81, .iastore, 0, 0, 0, 0),
  (82, .aload_n 0, 0, 0, 0, 0),
  (83, .invokevirtual 179, 163, 1, 0, 1440),
  (86, .aload_n 0, 0, 0, 0, 0),
  (87, .invokevirtual 232, 180, 1, 0, 1505),
  (90, .ifCond .ne 5, 0, 0, 0, 0),
  (93, .iconst 0, 0, 0, 0, 0),
  (94, .ireturn, 0, 0, 0, 0),
  (95, .aload_n 0, 0, 0, 0, 0),
  (96, .getfield 186, 9, 18, 0, 1304),
  (99, .aload_n 0, 0, 0, 0, 0),
  (100, .getfield 37, 9, 7, 0, 1293),
  (103, .bipush 44, 0, 0, 0, 0),
  (105, .iload_n 1, 0, 0, 0, 0),
  (106, .iadd, 0, 0, 0, 0),
  (107, .iaload, 0, 0, 0, 0),
  (108, .if_icmp .ne 9, 0, 0, 0, 0),
  (111, .aload_n 0, 0, 0, 0, 0),
  (112, .iconst 3, 0, 0, 0, 0),
  (113, .invokevirtual 176, 169, 2, 0, 1462),
  (116, .ireturn, 0, 0, 0, 0),
  (117, .aload_n 0, 0, 0, 0, 0),
  (118, .getfield 37, 9, 7, 0, 1293),
  (121, .bipush 50, 0, 0, 0, 0),
  (123, .iload_n 1, 0, 0, 0, 0),
  (124, .iadd, 0, 0, 0, 0),
  (125, .aload_n 0, 0, 0, 0, 0),
  (126, .getfield 186, 9, 18, 0, 1304),
  (129, .iastore, 0, 0, 0, 0),
  (130, .aload_n 0, 0, 0, 0, 0),
  (131, .invokevirtual 179, 163, 1, 0, 1440),
  (134, .aload_n 0, 0, 0, 0, 0),
  (135, .bipush 56, 0, 0, 0, 0),
  (137, .iload_n 1, 0, 0, 0, 0),
  (138, .iadd, 0, 0, 0, 0),
  (139, .iconst 1, 0, 0, 0, 0),
  (140, .bipush 20, 0, 0, 0, 0),
  (142, .invokevirtual 229, 174, 4, 0, 1482),
  (145, .ifCond .eq 31, 0, 0, 0, 0),
  (148, .aload_n 0, 0, 0, 0, 0),
  (149, .bipush 62, 0, 0, 0, 0),
  (151, .iload_n 1, 0, 0, 0, 0),
  (152, .iadd, 0, 0, 0, 0),
  (153, .iconst 0, 0, 0, 0, 0),
  (154, .bipush 20, 0, 0, 0, 0),
  (156, .invokevirtual 229, 174, 4, 0, 1482),
  (159, .ifCond .eq 17, 0, 0, 0, 0),
  (162, .aload_n 0, 0, 0, 0, 0),
  (163, .bipush 68, 0, 0, 0, 0),
  (165, .iload_n 1, 0, 0, 0, 0),
  (166, .iadd, 0, 0, 0, 0),
  (167, .iconst 0, 0, 0, 0, 0),
  (168, .bipush 20, 0, 0, 0, 0),
  (170, .invokevirtual 229, 174, 4, 0, 1482),
  (173, .ifCond .ne 5, 0, 0, 0, 0),
  (176, .iconst 0, 0, 0, 0, 0),
  (177, .ireturn, 0, 0, 0, 0),
  (178, .aload_n 0, 0, 0, 0, 0),
  (179, .getfield 37, 9, 7, 0, 1293),
  (182, .iconst 2, 0, 0, 0, 0),
  (183, .dup2, 0, 0, 0, 0),
  (184, .iaload, 0, 0, 0, 0),
  (185, .iconst 1, 0, 0, 0, 0),
  (186, .iadd, 0, 0, 0, 0),
  (187, .iastore, 0, 0, 0, 0),
  (188, .iconst 1, 0, 0, 0, 0),
  (189, .ireturn, 0, 0, 0, 0)])
def nm_180 : nM := (⟨"SlipHeirsModel", "looksAtStep", "()Z"⟩, prog_11_method_27_code, 1, some .boolean, [1508, 124, 1507, 64], [
  (0, .aload_n 0, 0, 0, 0, 0),
  (1, .bipush 26, 0, 0, 0, 0),
  (3, .aload_n 0, 0, 0, 0, 0),
  (4, .getfield 37, 9, 7, 0, 1293),
  (7, .iconst 0, 0, 0, 0, 0),
  (8, .iaload, 0, 0, 0, 0),
  (9, .invokevirtual 201, 178, 3, 0, 1497),
  (12, .ireturn, 0, 0, 0, 0)])
def nm_181 : nM := (⟨"SlipHeirsModel", "readDeed", "()Z"⟩, prog_11_method_31_code, 3, some .boolean, [1512, 124, 1511, 65], [
  (0, .aload_n 0, 0, 0, 0, 0),
  (1, .getfield 37, 9, 7, 0, 1293),
  (4, .iconst 3, 0, 0, 0, 0),
  (5, .iaload, 0, 0, 0, 0),
  (6, .istore_n 1, 0, 0, 0, 0),
  (7, .iload_n 1, 0, 0, 0, 0),
  (8, .iconst 4, 0, 0, 0, 0),
  (9, .if_icmp .ne 9, 0, 0, 0, 0),
  (12, .aload_n 0, 0, 0, 0, 0),
  (13, .iconst 4, 0, 0, 0, 0),
  (14, .invokevirtual 176, 169, 2, 0, 1462),
  (17, .ireturn, 0, 0, 0, 0),
  (18, .aload_n 0, 0, 0, 0, 0),
  (19, .invokevirtual 179, 163, 1, 0, 1440),
  (22, .aload_n 0, 0, 0, 0, 0),
  (23, .bipush 48, 0, 0, 0, 0),
  (25, .iload_n 1, 0, 0, 0, 0),
  (26, .iadd, 0, 0, 0, 0),
  (27, .invokevirtual 208, 170, 2, 0, 1466),
  (30, .ifCond .ne 5, 0, 0, 0, 0),
  (33, .iconst 0, 0, 0, 0, 0),
  (34, .ireturn, 0, 0, 0, 0),
  (35, .iconst 0, 0, 0, 0, 0),
  (36, .istore_n 2, 0, 0, 0, 0),
  (37, .iload_n 2, 0, 0, 0, 0),
  (38, .ifCond .eq 12, 0, 0, 0, 0),
  (41, .aload_n 0, 0, 0, 0, 0),
  (42, .bipush 59, 0, 0, 0, 0),
  (44, .invokevirtual 173, 182, 2, 0, 1513),
  (47, .ifCond .ne 52, 0, 0, 0, 0),
  (50, .aload_n 0, 0, 0, 0, 0),
  (51, .invokevirtual 232, 180, 1, 0, 1505),
  (54, .ifCond .ne 5, 0, 0, 0, 0),
  (57, .iconst 0, 0, 0, 0, 0),
  (58, .ireturn, 0, 0, 0, 0),
  (59, .iload_n 2, 0, 0, 0, 0),
  (60, .bipush 12, 0, 0, 0, 0),
  (62, .if_icmp .ne 9, 0, 0, 0, 0),
  (65, .aload_n 0, 0, 0, 0, 0),
  (66, .iconst 4, 0, 0, 0, 0),
  (67, .invokevirtual 176, 169, 2, 0, 1462),
  (70, .ireturn, 0, 0, 0, 0),
  (71, .aload_n 0, 0, 0, 0, 0),
  (72, .getfield 37, 9, 7, 0, 1293),
  (75, .bipush 84, 0, 0, 0, 0),
  (77, .bipush 12, 0, 0, 0, 0),
  (79, .iload_n 1, 0, 0, 0, 0),
  (80, .imul, 0, 0, 0, 0),
  (81, .iadd, 0, 0, 0, 0),
  (82, .iload_n 2, 0, 0, 0, 0),
  (83, .iadd, 0, 0, 0, 0),
  (84, .aload_n 0, 0, 0, 0, 0),
  (85, .getfield 186, 9, 18, 0, 1304),
  (88, .iastore, 0, 0, 0, 0),
  (89, .iinc 2 1, 0, 0, 0, 0),
  (92, .aload_n 0, 0, 0, 0, 0),
  (93, .invokevirtual 179, 163, 1, 0, 1440),
  (96, .goto (-59), 0, 0, 0, 0),
  (99, .aload_n 0, 0, 0, 0, 0),
  (100, .getfield 37, 9, 7, 0, 1293),
  (103, .bipush 80, 0, 0, 0, 0),
  (105, .iload_n 1, 0, 0, 0, 0),
  (106, .iadd, 0, 0, 0, 0),
  (107, .iload_n 2, 0, 0, 0, 0),
  (108, .iastore, 0, 0, 0, 0),
  (109, .aload_n 0, 0, 0, 0, 0),
  (110, .getfield 37, 9, 7, 0, 1293),
  (113, .iconst 3, 0, 0, 0, 0),
  (114, .dup2, 0, 0, 0, 0),
  (115, .iaload, 0, 0, 0, 0),
  (116, .iconst 1, 0, 0, 0, 0),
  (117, .iadd, 0, 0, 0, 0),
  (118, .iastore, 0, 0, 0, 0),
  (119, .iconst 1, 0, 0, 0, 0),
  (120, .ireturn, 0, 0, 0, 0)])
def nm_182 : nM := (⟨"SlipHeirsModel", "isSign", "(I)Z"⟩, prog_11_method_18_code, 2, some .boolean, [1516, 124, 1515, 66], [
  (0, .aload_n 0, 0, 0, 0, 0),
  (1, .getfield 150, 9, 11, 0, 1297),
  (4, .iconst 3, 0, 0, 0, 0),
  (5, .if_icmp .ne 15, 0, 0, 0, 0),
  (8, .aload_n 0, 0, 0, 0, 0),
  (9, .getfield 160, 9, 14, 0, 1300),
  (12, .iload_n 1, 0, 0, 0, 0),
  (13, .if_icmp .ne 7, 0, 0, 0, 0),
  (16, .iconst 1, 0, 0, 0, 0),
  (17, .goto 4, 0, 0, 0, 0),
  (20, .iconst 0, 0, 0, 0, 0),
  (21, .ireturn, 0, 0, 0, 0)])
def nm_183 : nM := (⟨"SlipHeirsModel", "bitOf", "(II)Z"⟩, prog_11_method_8_code, 2, some .boolean, [1519, 124, 1518, 0], [
  (0, .iload_n 0, 0, 0, 0, 0),
  (1, .iload_n 1, 0, 0, 0, 0),
  (2, .ishr, 0, 0, 0, 0),
  (3, .iconst 1, 0, 0, 0, 0),
  (4, .iand, 0, 0, 0, 0),
  (5, .iconst 1, 0, 0, 0, 0),
  (6, .if_icmp .ne 7, 0, 0, 0, 0),
  (9, .iconst 1, 0, 0, 0, 0),
  (10, .goto 4, 0, 0, 0, 0),
  (13, .iconst 0, 0, 0, 0, 0),
  (14, .ireturn, 0, 0, 0, 0)])
def nm_184 : nM := (⟨"SlipHeirsModel", "sign", "(I)Z"⟩, prog_11_method_19_code, 2, some .boolean, [1523, 124, 1522, 67], [
  (0, .aload_n 0, 0, 0, 0, 0),
  (1, .iload_n 1, 0, 0, 0, 0),
  (2, .invokevirtual 173, 182, 2, 0, 1513),
  (5, .ifCond .ne 9, 0, 0, 0, 0),
  (8, .aload_n 0, 0, 0, 0, 0),
  (9, .iconst 1, 0, 0, 0, 0),
  (10, .invokevirtual 176, 169, 2, 0, 1462),
  (13, .ireturn, 0, 0, 0, 0),
  (14, .aload_n 0, 0, 0, 0, 0),
  (15, .invokevirtual 179, 163, 1, 0, 1440),
  (18, .iconst 1, 0, 0, 0, 0),
  (19, .ireturn, 0, 0, 0, 0)])
def nm_185 : nM := (⟨"SlipHeirsModel", "fault", "()I"⟩, prog_11_method_34_code, 1, some .int, [1527, 124, 1525, 1526], [
  (0, .aload_n 0, 0, 0, 0, 0),
  (1, .iconst 0, 0, 0, 0, 0),
  (2, .putfield 1, 9, 0, 0, 1286),
  (5, .aload_n 0, 0, 0, 0, 0),
  (6, .getfield 167, 9, 15, 0, 1301),
  (9, .ireturn, 0, 0, 0, 0)])
def nm_186 : nM := (⟨"SlipHeirsModel", "person", "(II)I"⟩, prog_11_method_44_code, 3, some .int, [1531, 124, 1529, 1530], [
  (0, .aload_n 0, 0, 0, 0, 0),
  (1, .aload_n 0, 0, 0, 0, 0),
  (2, .iload_n 1, 0, 0, 0, 0),
  (3, .invokevirtual 250, 187, 2, 0, 1532),
  (6, .ifCond .eq 13, 0, 0, 0, 0),
  (9, .iload_n 2, 0, 0, 0, 0),
  (10, .iconst 0, 0, 0, 0, 0),
  (11, .bipush 7, 0, 0, 0, 0),
  (13, .invokestatic 182, 176, 3, 2, 1490),
  (16, .ifCond .ne 7, 0, 0, 0, 0),
  (19, .iconst 1, 0, 0, 0, 0),
  (20, .goto 4, 0, 0, 0, 0),
  (23, .iconst 0, 0, 0, 0, 0),
  (24, .invokevirtual 260, 188, 2, 0, 1536),
  (27, .ifCond .eq 5, 0, 0, 0, 0),
  (30, .iconst 0, 0, 0, 0, 0),
  (31, .ireturn, 0, 0, 0, 0),
  (32, .iload_n 2, 0, 0, 0, 0),
  (33, .tableswitch 112 0 6 #[43, 52, 64, 78, 84, 94, 106], 0, 43, 0, 0),
  (76, .aload_n 0, 0, 0, 0, 0),
  (77, .getfield 33, 9, 6, 0, 1292),
  (80, .iconst 4, 0, 0, 0, 0),
  (81, .iload_n 1, 0, 0, 0, 0),
  (82, .iadd, 0, 0, 0, 0),
  (83, .iaload, 0, 0, 0, 0),
  (84, .ireturn, 0, 0, 0, 0),
  (85, .aload_n 0, 0, 0, 0, 0),
  (86, .getfield 33, 9, 6, 0, 1292),
  (89, .bipush 14, 0, 0, 0, 0),
  (91, .iload_n 1, 0, 0, 0, 0),
  (92, .iadd, 0, 0, 0, 0),
  (93, .iaload, 0, 0, 0, 0),
  (94, .iconst 1, 0, 0, 0, 0),
  (95, .isub, 0, 0, 0, 0),
  (96, .ireturn, 0, 0, 0, 0),
  (97, .aload_n 0, 0, 0, 0, 0),
  (98, .iload_n 1, 0, 0, 0, 0),
  (99, .invokevirtual 253, 189, 2, 0, 1540),
  (102, .ifCond .eq 7, 0, 0, 0, 0),
  (105, .iconst 0, 0, 0, 0, 0),
  (106, .goto 4, 0, 0, 0, 0),
  (109, .iconst 1, 0, 0, 0, 0),
  (110, .ireturn, 0, 0, 0, 0),
  (111, .aload_n 0, 0, 0, 0, 0),
  (112, .iload_n 1, 0, 0, 0, 0),
  (113, .invokevirtual 264, 190, 2, 0, 1544),
  (116, .ireturn, 0, 0, 0, 0),
  (117, .aload_n 0, 0, 0, 0, 0),
  (118, .getfield 33, 9, 6, 0, 1292),
  (121, .bipush 34, 0, 0, 0, 0),
  (123, .iload_n 1, 0, 0, 0, 0),
  (124, .iadd, 0, 0, 0, 0),
  (125, .iaload, 0, 0, 0, 0),
  (126, .ireturn, 0, 0, 0, 0),
  (127, .aload_n 0, 0, 0, 0, 0),
  (128, .getfield 33, 9, 6, 0, 1292),
  (131, .bipush 24, 0, 0, 0, 0),
  (133, .iload_n 1, 0, 0, 0, 0),
  (134, .iadd, 0, 0, 0, 0),
  (135, .iaload, 0, 0, 0, 0),
  (136, .iconst 1, 0, 0, 0, 0),
  (137, .isub, 0, 0, 0, 0),
  (138, .ireturn, 0, 0, 0, 0),
  (139, .aload_n 0, 0, 0, 0, 0),
  (140, .iload_n 1, 0, 0, 0, 0),
  (141, .invokevirtual 256, 191, 2, 0, 1548),
  (144, .ireturn, 0, 0, 0, 0),
  (145, .aload_n 0, 0, 0, 0, 0),
  (146, .getfield 33, 9, 6, 0, 1292),
  (149, .sipush 156, 0, 0, 0, 0),
  (152, .iload_n 1, 0, 0, 0, 0),
  (153, .iadd, 0, 0, 0, 0),
  (154, .iaload, 0, 0, 0, 0),
  (155, .ireturn, 0, 0, 0, 0)])
def nm_187 : nM := (⟨"SlipHeirsModel", "isPerson", "(I)Z"⟩, prog_11_method_35_code, 2, some .boolean, [1535, 124, 1534, 68], [
  (0, .iload_n 1, 0, 0, 0, 0),
  (1, .iconst 0, 0, 0, 0, 0),
  (2, .aload_n 0, 0, 0, 0, 0),
  (3, .getfield 33, 9, 6, 0, 1292),
  (6, .iconst 1, 0, 0, 0, 0),
  (7, .iaload, 0, 0, 0, 0),
  (8, .iconst 1, 0, 0, 0, 0),
  (9, .isub, 0, 0, 0, 0),
  (10, .invokestatic 182, 176, 3, 2, 1490),
  (13, .ireturn, 0, 0, 0, 0)])
def nm_188 : nM := (⟨"SlipHeirsModel", "throwsIf", "(Z)Z"⟩, prog_11_method_2_code, 2, some .boolean, [1539, 124, 1538, 69], [
  (0, .aload_n 0, 0, 0, 0, 0),
  (1, .iload_n 1, 0, 0, 0, 0),
  (2, .ifCond .eq 7, 0, 0, 0, 0),
  (5, .iconst 1, 0, 0, 0, 0),
  (6, .goto 4, 0, 0, 0, 0),
  (9, .iconst 0, 0, 0, 0, 0),
  (10, .putfield 1, 9, 0, 0, 1286),
  (13, .iload_n 1, 0, 0, 0, 0),
  (14, .ireturn, 0, 0, 0, 0)])
def nm_189 : nM := (⟨"SlipHeirsModel", "isDead", "(I)Z"⟩, prog_11_method_39_code, 2, some .boolean, [1543, 124, 1542, 70], [
  (0, .aload_n 0, 0, 0, 0, 0),
  (1, .getfield 33, 9, 6, 0, 1292),
  (4, .sipush 134, 0, 0, 0, 0),
  (7, .iaload, 0, 0, 0, 0),
  (8, .iload_n 1, 0, 0, 0, 0),
  (9, .invokestatic 226, 183, 2, 2, 1517),
  (12, .ireturn, 0, 0, 0, 0)])
def nm_190 : nM := (⟨"SlipHeirsModel", "errorsOf", "(I)I"⟩, prog_11_method_41_code, 4, some .int, [1547, 124, 1546, 71], [
  (0, .iconst 0, 0, 0, 0, 0),
  (1, .istore_n 2, 0, 0, 0, 0),
  (2, .iconst 0, 0, 0, 0, 0),
  (3, .istore_n 3, 0, 0, 0, 0),
  (4, .iload_n 3, 0, 0, 0, 0),
  (5, .aload_n 0, 0, 0, 0, 0),
  (6, .getfield 33, 9, 6, 0, 1292),
  (9, .iconst 2, 0, 0, 0, 0),
  (10, .iaload, 0, 0, 0, 0),
  (11, .if_icmp .ge 33, 0, 0, 0, 0),
  (14, .iload_n 2, 0, 0, 0, 0),
  (15, .aload_n 0, 0, 0, 0, 0),
  (16, .getfield 33, 9, 6, 0, 1292),
  (19, .sipush 138, 0, 0, 0, 0),
  (22, .iload_n 3, 0, 0, 0, 0),
  (23, .iadd, 0, 0, 0, 0),
  (24, .iaload, 0, 0, 0, 0),
  (25, .iload_n 1, 0, 0, 0, 0),
  (26, .if_icmp .ne 9, 0, 0, 0, 0),
  (29, .iconst 1, 0, 0, 0, 0),
  (30, .iload_n 3, 0, 0, 0, 0),
  (31, .ishl, 0, 0, 0, 0),
  (32, .goto 4, 0, 0, 0, 0),
  (35, .iconst 0, 0, 0, 0, 0),
  (36, .ior, 0, 0, 0, 0),
  (37, .istore_n 2, 0, 0, 0, 0),
  (38, .iinc 3 1, 0, 0, 0, 0),
  (41, .goto (-37), 0, 0, 0, 0),
  (44, .iload_n 2, 0, 0, 0, 0),
  (45, .ireturn, 0, 0, 0, 0)])
def nm_191 : nM := (⟨"SlipHeirsModel", "childrenOf", "(I)I"⟩, prog_11_method_42_code, 4, some .int, [1551, 124, 1550, 72], [
  (0, .iconst 0, 0, 0, 0, 0),
  (1, .istore_n 2, 0, 0, 0, 0),
  (2, .iconst 0, 0, 0, 0, 0),
  (3, .istore_n 3, 0, 0, 0, 0),
  (4, .iload_n 3, 0, 0, 0, 0),
  (5, .aload_n 0, 0, 0, 0, 0),
  (6, .getfield 33, 9, 6, 0, 1292),
  (9, .iconst 1, 0, 0, 0, 0),
  (10, .iaload, 0, 0, 0, 0),
  (11, .if_icmp .ge 34, 0, 0, 0, 0),
  (14, .iload_n 2, 0, 0, 0, 0),
  (15, .aload_n 0, 0, 0, 0, 0),
  (16, .getfield 33, 9, 6, 0, 1292),
  (19, .bipush 14, 0, 0, 0, 0),
  (21, .iload_n 3, 0, 0, 0, 0),
  (22, .iadd, 0, 0, 0, 0),
  (23, .iaload, 0, 0, 0, 0),
  (24, .iload_n 1, 0, 0, 0, 0),
  (25, .iconst 1, 0, 0, 0, 0),
  (26, .iadd, 0, 0, 0, 0),
  (27, .if_icmp .ne 9, 0, 0, 0, 0),
  (30, .iconst 1, 0, 0, 0, 0),
  (31, .iload_n 3, 0, 0, 0, 0),
  (32, .ishl, 0, 0, 0, 0),
  (33, .goto 4, 0, 0, 0, 0),
  (36, .iconst 0, 0, 0, 0, 0),
  (37, .ior, 0, 0, 0, 0),
  (38, .istore_n 2, 0, 0, 0, 0),
  (39, .iinc 3 1, 0, 0, 0, 0),
  (42, .goto (-38), 0, 0, 0, 0),
  (45, .iload_n 2, 0, 0, 0, 0),
  (46, .ireturn, 0, 0, 0, 0)])
def nm_192 : nM := (⟨"SlipHeirsModel", "error", "(II)I"⟩, prog_11_method_45_code, 3, some .int, [1555, 124, 1553, 1554], [
  (0, .aload_n 0, 0, 0, 0, 0),
  (1, .iconst 0, 0, 0, 0, 0),
  (2, .putfield 1, 9, 0, 0, 1286),
  (5, .aload_n 0, 0, 0, 0, 0),
  (6, .iload_n 1, 0, 0, 0, 0),
  (7, .invokevirtual 267, 193, 2, 0, 1556),
  (10, .ifCond .ne 5, 0, 0, 0, 0),
  (13, .iconst (-1), 0, 0, 0, 0),
  (14, .ireturn, 0, 0, 0, 0),
  (15, .iload_n 2, 0, 0, 0, 0),
  (16, .tableswitch 131 0 7 #[48, 59, 69, 79, 90, 100, 110, 121], 0, 48, 0, 0),
  (64, .aload_n 0, 0, 0, 0, 0),
  (65, .getfield 33, 9, 6, 0, 1292),
  (68, .sipush 138, 0, 0, 0, 0),
  (71, .iload_n 1, 0, 0, 0, 0),
  (72, .iadd, 0, 0, 0, 0),
  (73, .iaload, 0, 0, 0, 0),
  (74, .ireturn, 0, 0, 0, 0),
  (75, .aload_n 0, 0, 0, 0, 0),
  (76, .getfield 33, 9, 6, 0, 1292),
  (79, .bipush 44, 0, 0, 0, 0),
  (81, .iload_n 1, 0, 0, 0, 0),
  (82, .iadd, 0, 0, 0, 0),
  (83, .iaload, 0, 0, 0, 0),
  (84, .ireturn, 0, 0, 0, 0),
  (85, .aload_n 0, 0, 0, 0, 0),
  (86, .getfield 33, 9, 6, 0, 1292),
  (89, .bipush 50, 0, 0, 0, 0),
  (91, .iload_n 1, 0, 0, 0, 0),
  (92, .iadd, 0, 0, 0, 0),
  (93, .iaload, 0, 0, 0, 0),
  (94, .ireturn, 0, 0, 0, 0),
  (95, .aload_n 0, 0, 0, 0, 0),
  (96, .getfield 33, 9, 6, 0, 1292),
  (99, .sipush 144, 0, 0, 0, 0),
  (102, .iload_n 1, 0, 0, 0, 0),
  (103, .iadd, 0, 0, 0, 0),
  (104, .iaload, 0, 0, 0, 0),
  (105, .ireturn, 0, 0, 0, 0),
  (106, .aload_n 0, 0, 0, 0, 0),
  (107, .getfield 33, 9, 6, 0, 1292),
  (110, .bipush 62, 0, 0, 0, 0),
  (112, .iload_n 1, 0, 0, 0, 0),
  (113, .iadd, 0, 0, 0, 0),
  (114, .iaload, 0, 0, 0, 0),
  (115, .ireturn, 0, 0, 0, 0),
  (116, .aload_n 0, 0, 0, 0, 0),
  (117, .getfield 33, 9, 6, 0, 1292),
  (120, .bipush 68, 0, 0, 0, 0),
  (122, .iload_n 1, 0, 0, 0, 0),
  (123, .iadd, 0, 0, 0, 0),
  (124, .iaload, 0, 0, 0, 0),
  (125, .ireturn, 0, 0, 0, 0),
  (126, .aload_n 0, 0, 0, 0, 0),
  (127, .getfield 33, 9, 6, 0, 1292),
  (130, .sipush 150, 0, 0, 0, 0),
  (133, .iload_n 1, 0, 0, 0, 0),
  (134, .iadd, 0, 0, 0, 0),
  (135, .iaload, 0, 0, 0, 0),
  (136, .ireturn, 0, 0, 0, 0),
  (137, .aload_n 0, 0, 0, 0, 0),
  (138, .getfield 33, 9, 6, 0, 1292),
  (141, .bipush 74, 0, 0, 0, 0),
  (143, .iload_n 1, 0, 0, 0, 0),
  (144, .iadd, 0, 0, 0, 0),
  (145, .iaload, 0, 0, 0, 0),
  (146, .ireturn, 0, 0, 0, 0),
  (147, .iconst (-1), 0, 0, 0, 0),
  (148, .ireturn, 0, 0, 0, 0)])
def nm_193 : nM := (⟨"SlipHeirsModel", "isError", "(I)Z"⟩, prog_11_method_36_code, 2, some .boolean, [1559, 124, 1558, 73], [
  (0, .iload_n 1, 0, 0, 0, 0),
  (1, .iconst 0, 0, 0, 0, 0),
  (2, .aload_n 0, 0, 0, 0, 0),
  (3, .getfield 33, 9, 6, 0, 1292),
  (6, .iconst 2, 0, 0, 0, 0),
  (7, .iaload, 0, 0, 0, 0),
  (8, .iconst 1, 0, 0, 0, 0),
  (9, .isub, 0, 0, 0, 0),
  (10, .invokestatic 182, 176, 3, 2, 1490),
  (13, .ireturn, 0, 0, 0, 0)])
def nm_194 : nM := (⟨"SlipHeirsModel", "deed", "(II)I"⟩, prog_11_method_46_code, 3, some .int, [1563, 124, 1561, 1562], [
  (0, .aload_n 0, 0, 0, 0, 0),
  (1, .iconst 0, 0, 0, 0, 0),
  (2, .putfield 1, 9, 0, 0, 1286),
  (5, .aload_n 0, 0, 0, 0, 0),
  (6, .iload_n 1, 0, 0, 0, 0),
  (7, .invokevirtual 270, 195, 2, 0, 1564),
  (10, .ifCond .ne 5, 0, 0, 0, 0),
  (13, .iconst (-1), 0, 0, 0, 0),
  (14, .ireturn, 0, 0, 0, 0),
  (15, .iload_n 2, 0, 0, 0, 0),
  (16, .iconst (-1), 0, 0, 0, 0),
  (17, .if_icmp .ne 13, 0, 0, 0, 0),
  (20, .aload_n 0, 0, 0, 0, 0),
  (21, .getfield 33, 9, 6, 0, 1292),
  (24, .bipush 80, 0, 0, 0, 0),
  (26, .iload_n 1, 0, 0, 0, 0),
  (27, .iadd, 0, 0, 0, 0),
  (28, .iaload, 0, 0, 0, 0),
  (29, .ireturn, 0, 0, 0, 0),
  (30, .iload_n 2, 0, 0, 0, 0),
  (31, .iconst 0, 0, 0, 0, 0),
  (32, .aload_n 0, 0, 0, 0, 0),
  (33, .getfield 33, 9, 6, 0, 1292),
  (36, .bipush 80, 0, 0, 0, 0),
  (38, .iload_n 1, 0, 0, 0, 0),
  (39, .iadd, 0, 0, 0, 0),
  (40, .iaload, 0, 0, 0, 0),
  (41, .iconst 1, 0, 0, 0, 0),
  (42, .isub, 0, 0, 0, 0),
  (43, .invokestatic 182, 176, 3, 2, 1490),
  (46, .ifCond .eq 20, 0, 0, 0, 0),
  (49, .aload_n 0, 0, 0, 0, 0),
  (50, .getfield 33, 9, 6, 0, 1292),
  (53, .bipush 84, 0, 0, 0, 0),
  (55, .bipush 12, 0, 0, 0, 0),
  (57, .iload_n 1, 0, 0, 0, 0),
  (58, .imul, 0, 0, 0, 0),
  (59, .iadd, 0, 0, 0, 0),
  (60, .iload_n 2, 0, 0, 0, 0),
  (61, .iadd, 0, 0, 0, 0),
  (62, .iaload, 0, 0, 0, 0),
  (63, .goto 4, 0, 0, 0, 0),
  (66, .iconst (-1), 0, 0, 0, 0),
  (67, .ireturn, 0, 0, 0, 0)])
def nm_195 : nM := (⟨"SlipHeirsModel", "isDeed", "(I)Z"⟩, prog_11_method_37_code, 2, some .boolean, [1567, 124, 1566, 74], [
  (0, .iload_n 1, 0, 0, 0, 0),
  (1, .iconst 0, 0, 0, 0, 0),
  (2, .aload_n 0, 0, 0, 0, 0),
  (3, .getfield 33, 9, 6, 0, 1292),
  (6, .iconst 3, 0, 0, 0, 0),
  (7, .iaload, 0, 0, 0, 0),
  (8, .iconst 1, 0, 0, 0, 0),
  (9, .isub, 0, 0, 0, 0),
  (10, .invokestatic 182, 176, 3, 2, 1490),
  (13, .ireturn, 0, 0, 0, 0)])
def nm_196 : nM := (⟨"SlipHeirsModel", "now", "(I)I"⟩, prog_11_method_47_code, 2, some .int, [1571, 124, 1569, 1570], [
  (0, .aload_n 0, 0, 0, 0, 0),
  (1, .iconst 0, 0, 0, 0, 0),
  (2, .putfield 1, 9, 0, 0, 1286),
  (5, .iload_n 1, 0, 0, 0, 0),
  (6, .tableswitch 115 0 7 #[46, 55, 64, 73, 79, 86, 95, 104], 0, 46, 0, 0),
  (52, .aload_n 0, 0, 0, 0, 0),
  (53, .getfield 33, 9, 6, 0, 1292),
  (56, .sipush 132, 0, 0, 0, 0),
  (59, .iaload, 0, 0, 0, 0),
  (60, .ireturn, 0, 0, 0, 0),
  (61, .aload_n 0, 0, 0, 0, 0),
  (62, .getfield 33, 9, 6, 0, 1292),
  (65, .sipush 133, 0, 0, 0, 0),
  (68, .iaload, 0, 0, 0, 0),
  (69, .ireturn, 0, 0, 0, 0),
  (70, .aload_n 0, 0, 0, 0, 0),
  (71, .getfield 33, 9, 6, 0, 1292),
  (74, .sipush 134, 0, 0, 0, 0),
  (77, .iaload, 0, 0, 0, 0),
  (78, .ireturn, 0, 0, 0, 0),
  (79, .aload_n 0, 0, 0, 0, 0),
  (80, .iconst (-1), 0, 0, 0, 0),
  (81, .invokevirtual 264, 190, 2, 0, 1544),
  (84, .ireturn, 0, 0, 0, 0),
  (85, .aload_n 0, 0, 0, 0, 0),
  (86, .bipush 10, 0, 0, 0, 0),
  (88, .invokevirtual 264, 190, 2, 0, 1544),
  (91, .ireturn, 0, 0, 0, 0),
  (92, .aload_n 0, 0, 0, 0, 0),
  (93, .getfield 33, 9, 6, 0, 1292),
  (96, .sipush 135, 0, 0, 0, 0),
  (99, .iaload, 0, 0, 0, 0),
  (100, .ireturn, 0, 0, 0, 0),
  (101, .aload_n 0, 0, 0, 0, 0),
  (102, .getfield 33, 9, 6, 0, 1292),
  (105, .sipush 136, 0, 0, 0, 0),
  (108, .iaload, 0, 0, 0, 0),
  (109, .ireturn, 0, 0, 0, 0),
  (110, .aload_n 0, 0, 0, 0, 0),
  (111, .getfield 33, 9, 6, 0, 1292),
  (114, .sipush 137, 0, 0, 0, 0),
  (117, .iaload, 0, 0, 0, 0),
  (118, .iconst 1, 0, 0, 0, 0),
  (119, .isub, 0, 0, 0, 0),
  (120, .ireturn, 0, 0, 0, 0),
  (121, .iconst (-1), 0, 0, 0, 0),
  (122, .ireturn, 0, 0, 0, 0)])
def nm_197 : nM := (⟨"SlipHeirsModel", "act", "(II)I"⟩, prog_11_method_57_code, 3, some .int, [1575, 124, 1573, 1574], [
  (0, .aload_n 0, 0, 0, 0, 0),
  (1, .iconst 0, 0, 0, 0, 0),
  (2, .putfield 1, 9, 0, 0, 1286),
  (5, .aload_n 0, 0, 0, 0, 0),
  (6, .iload_n 1, 0, 0, 0, 0),
  (7, .invokevirtual 250, 187, 2, 0, 1532),
  (10, .ifCond .eq 11, 0, 0, 0, 0),
  (13, .aload_n 0, 0, 0, 0, 0),
  (14, .iload_n 2, 0, 0, 0, 0),
  (15, .invokevirtual 270, 195, 2, 0, 1564),
  (18, .ifCond .ne 5, 0, 0, 0, 0),
  (21, .iconst (-1), 0, 0, 0, 0),
  (22, .ireturn, 0, 0, 0, 0),
  (23, .aload_n 0, 0, 0, 0, 0),
  (24, .iload_n 1, 0, 0, 0, 0),
  (25, .invokevirtual 253, 189, 2, 0, 1540),
  (28, .ifCond .eq 5, 0, 0, 0, 0),
  (31, .iconst 1, 0, 0, 0, 0),
  (32, .ireturn, 0, 0, 0, 0),
  (33, .aload_n 0, 0, 0, 0, 0),
  (34, .invokevirtual 295, 198, 1, 0, 1576),
  (37, .aload_n 0, 0, 0, 0, 0),
  (38, .iload_n 1, 0, 0, 0, 0),
  (39, .iload_n 2, 0, 0, 0, 0),
  (40, .invokevirtual 298, 199, 3, 0, 1580),
  (43, .iconst 0, 0, 0, 0, 0),
  (44, .ireturn, 0, 0, 0, 0)])
def nm_198 : nM := (⟨"SlipHeirsModel", "keep", "()V"⟩, prog_11_method_61_code, 2, none, [1579, 124, 1578, 75], [
  (0, .aload_n 0, 0, 0, 0, 0),
  (1, .getfield 247, 9, 24, 0, 1310),
  (4, .bipush 8, 0, 0, 0, 0),
  (6, .if_icmp .ne 39, 0, 0, 0, 0),
  (9, .iconst 0, 0, 0, 0, 0),
  (10, .istore_n 1, 0, 0, 0, 0),
  (11, .iload_n 1, 0, 0, 0, 0),
  (12, .sipush 329, 0, 0, 0, 0),
  (15, .if_icmp .ge 24, 0, 0, 0, 0),
  (18, .aload_n 0, 0, 0, 0, 0),
  (19, .getfield 53, 9, 22, 0, 1308),
  (22, .iload_n 1, 0, 0, 0, 0),
  (23, .aload_n 0, 0, 0, 0, 0),
  (24, .getfield 53, 9, 22, 0, 1308),
  (27, .iload_n 1, 0, 0, 0, 0),
  (28, .bipush 47, 0, 0, 0, 0),
  (30, .iadd, 0, 0, 0, 0),
  (31, .iaload, 0, 0, 0, 0),
  (32, .iastore, 0, 0, 0, 0),
  (33, .iinc 1 1, 0, 0, 0, 0),
  (36, .goto (-25), 0, 0, 0, 0),
  (39, .aload_n 0, 0, 0, 0, 0),
  (40, .bipush 7, 0, 0, 0, 0),
  (42, .putfield 247, 9, 24, 0, 1310),
  (45, .iconst 0, 0, 0, 0, 0),
  (46, .istore_n 1, 0, 0, 0, 0),
  (47, .iload_n 1, 0, 0, 0, 0),
  (48, .bipush 47, 0, 0, 0, 0),
  (50, .if_icmp .ge 33, 0, 0, 0, 0),
  (53, .aload_n 0, 0, 0, 0, 0),
  (54, .getfield 53, 9, 22, 0, 1308),
  (57, .bipush 47, 0, 0, 0, 0),
  (59, .aload_n 0, 0, 0, 0, 0),
  (60, .getfield 247, 9, 24, 0, 1310),
  (63, .imul, 0, 0, 0, 0),
  (64, .iload_n 1, 0, 0, 0, 0),
  (65, .iadd, 0, 0, 0, 0),
  (66, .aload_n 0, 0, 0, 0, 0),
  (67, .getfield 33, 9, 6, 0, 1292),
  (70, .sipush 132, 0, 0, 0, 0),
  (73, .iload_n 1, 0, 0, 0, 0),
  (74, .iadd, 0, 0, 0, 0),
  (75, .iaload, 0, 0, 0, 0),
  (76, .iastore, 0, 0, 0, 0),
  (77, .iinc 1 1, 0, 0, 0, 0),
  (80, .goto (-33), 0, 0, 0, 0),
  (83, .aload_n 0, 0, 0, 0, 0),
  (84, .dup, 0, 0, 0, 0),
  (85, .getfield 247, 9, 24, 0, 1310),
  (88, .iconst 1, 0, 0, 0, 0),
  (89, .iadd, 0, 0, 0, 0),
  (90, .putfield 247, 9, 24, 0, 1310),
  (93, .return_, 0, 0, 0, 0)])
def nm_199 : nM := (⟨"SlipHeirsModel", "does", "(II)V"⟩, prog_11_method_51_code, 5, none, [1583, 124, 1582, 76], [
  (0, .aload_n 0, 0, 0, 0, 0),
  (1, .iload_n 1, 0, 0, 0, 0),
  (2, .iload_n 2, 0, 0, 0, 0),
  (3, .invokevirtual 280, 200, 3, 0, 1584),
  (6, .istore_n 3, 0, 0, 0, 0),
  (7, .aload_n 0, 0, 0, 0, 0),
  (8, .getfield 33, 9, 6, 0, 1292),
  (11, .sipush 135, 0, 0, 0, 0),
  (14, .dup2, 0, 0, 0, 0),
  (15, .iaload, 0, 0, 0, 0),
  (16, .iconst 1, 0, 0, 0, 0),
  (17, .iadd, 0, 0, 0, 0),
  (18, .iastore, 0, 0, 0, 0),
  (19, .aload_n 0, 0, 0, 0, 0),
  (20, .getfield 33, 9, 6, 0, 1292),
  (23, .sipush 136, 0, 0, 0, 0),
  (26, .dup2, 0, 0, 0, 0),
  (27, .iaload, 0, 0, 0, 0),
  (28, .iload_n 3, 0, 0, 0, 0),
  (29, .ifCond .ne 7, 0, 0, 0, 0),
  (32, .iconst 1, 0, 0, 0, 0),
  (33, .goto 4, 0, 0, 0, 0),
  (36, .iconst 0, 0, 0, 0, 0),
  (37, .iadd, 0, 0, 0, 0),
  (38, .iastore, 0, 0, 0, 0),
  (39, .aload_n 0, 0, 0, 0, 0),
  (40, .getfield 33, 9, 6, 0, 1292),
  (43, .sipush 166, 0, 0, 0, 0),
  (46, .aload_n 0, 0, 0, 0, 0),
  (47, .getfield 33, 9, 6, 0, 1292),
  (50, .bipush 80, 0, 0, 0, 0),
  (52, .iload_n 2, 0, 0, 0, 0),
  (53, .iadd, 0, 0, 0, 0),
  (54, .iaload, 0, 0, 0, 0),
  (55, .iastore, 0, 0, 0, 0),
  (56, .iconst 0, 0, 0, 0, 0),
  (57, .istore 4, 0, 0, 0, 0),
  (59, .iload 4, 0, 0, 0, 0),
  (61, .bipush 12, 0, 0, 0, 0),
  (63, .if_icmp .ge 44, 0, 0, 0, 0),
  (66, .aload_n 0, 0, 0, 0, 0),
  (67, .getfield 33, 9, 6, 0, 1292),
  (70, .sipush 167, 0, 0, 0, 0),
  (73, .iload 4, 0, 0, 0, 0),
  (75, .iadd, 0, 0, 0, 0),
  (76, .iload 4, 0, 0, 0, 0),
  (78, .aload_n 0, 0, 0, 0, 0),
  (79, .getfield 33, 9, 6, 0, 1292),
  (82, .sipush 166, 0, 0, 0, 0),
  (85, .iaload, 0, 0, 0, 0),
  (86, .if_icmp .ge 13, 0, 0, 0, 0),
  (89, .aload_n 0, 0, 0, 0, 0),
  (90, .getfield 50, 9, 21, 0, 1307),
  (93, .iload 4, 0, 0, 0, 0),
  (95, .iaload, 0, 0, 0, 0),
  (96, .goto 4, 0, 0, 0, 0),
  (99, .iconst 0, 0, 0, 0, 0),
  (100, .iastore, 0, 0, 0, 0),
  (101, .iinc 4 1, 0, 0, 0, 0),
  (104, .goto (-45), 0, 0, 0, 0),
  (107, .return_, 0, 0, 0, 0)])
def nm_200 : nM := (⟨"SlipHeirsModel", "acts", "(II)I"⟩, prog_11_method_50_code, 6, some .int, [1587, 124, 1586, 77], [
  (0, .iconst 0, 0, 0, 0, 0),
  (1, .istore_n 3, 0, 0, 0, 0),
  (2, .iconst 0, 0, 0, 0, 0),
  (3, .istore 4, 0, 0, 0, 0),
  (5, .iload 4, 0, 0, 0, 0),
  (7, .aload_n 0, 0, 0, 0, 0),
  (8, .getfield 33, 9, 6, 0, 1292),
  (11, .bipush 80, 0, 0, 0, 0),
  (13, .iload_n 2, 0, 0, 0, 0),
  (14, .iadd, 0, 0, 0, 0),
  (15, .iaload, 0, 0, 0, 0),
  (16, .if_icmp .ge 60, 0, 0, 0, 0),
  (19, .aload_n 0, 0, 0, 0, 0),
  (20, .getfield 33, 9, 6, 0, 1292),
  (23, .bipush 84, 0, 0, 0, 0),
  (25, .bipush 12, 0, 0, 0, 0),
  (27, .iload_n 2, 0, 0, 0, 0),
  (28, .imul, 0, 0, 0, 0),
  (29, .iadd, 0, 0, 0, 0),
  (30, .iload 4, 0, 0, 0, 0),
  (32, .iadd, 0, 0, 0, 0),
  (33, .iaload, 0, 0, 0, 0),
  (34, .istore 5, 0, 0, 0, 0),
  (36, .aload_n 0, 0, 0, 0, 0),
  (37, .getfield 50, 9, 21, 0, 1307),
  (40, .iload 4, 0, 0, 0, 0),
  (42, .aload_n 0, 0, 0, 0, 0),
  (43, .iload_n 1, 0, 0, 0, 0),
  (44, .iload 5, 0, 0, 0, 0),
  (46, .invokevirtual 277, 201, 3, 0, 1588),
  (49, .iastore, 0, 0, 0, 0),
  (50, .iload_n 3, 0, 0, 0, 0),
  (51, .aload_n 0, 0, 0, 0, 0),
  (52, .getfield 50, 9, 21, 0, 1307),
  (55, .iload 4, 0, 0, 0, 0),
  (57, .iaload, 0, 0, 0, 0),
  (58, .iload 5, 0, 0, 0, 0),
  (60, .if_icmp .ne 7, 0, 0, 0, 0),
  (63, .iconst 0, 0, 0, 0, 0),
  (64, .goto 4, 0, 0, 0, 0),
  (67, .iconst 1, 0, 0, 0, 0),
  (68, .iadd, 0, 0, 0, 0),
  (69, .istore_n 3, 0, 0, 0, 0),
  (70, .iinc 4 1, 0, 0, 0, 0),
  (73, .goto (-68), 0, 0, 0, 0),
  (76, .iload_n 3, 0, 0, 0, 0),
  (77, .ireturn, 0, 0, 0, 0)])
def nm_201 : nM := (⟨"SlipHeirsModel", "taken", "(II)I"⟩, prog_11_method_48_code, 5, some .int, [1591, 124, 1590, 78], [
  (0, .iload_n 2, 0, 0, 0, 0),
  (1, .istore_n 3, 0, 0, 0, 0),
  (2, .iconst 0, 0, 0, 0, 0),
  (3, .istore 4, 0, 0, 0, 0),
  (5, .iload 4, 0, 0, 0, 0),
  (7, .aload_n 0, 0, 0, 0, 0),
  (8, .getfield 33, 9, 6, 0, 1292),
  (11, .iconst 2, 0, 0, 0, 0),
  (12, .iaload, 0, 0, 0, 0),
  (13, .if_icmp .ge 59, 0, 0, 0, 0),
  (16, .aload_n 0, 0, 0, 0, 0),
  (17, .getfield 33, 9, 6, 0, 1292),
  (20, .sipush 138, 0, 0, 0, 0),
  (23, .iload 4, 0, 0, 0, 0),
  (25, .iadd, 0, 0, 0, 0),
  (26, .iaload, 0, 0, 0, 0),
  (27, .iload_n 1, 0, 0, 0, 0),
  (28, .if_icmp .ne 38, 0, 0, 0, 0),
  (31, .aload_n 0, 0, 0, 0, 0),
  (32, .getfield 33, 9, 6, 0, 1292),
  (35, .bipush 44, 0, 0, 0, 0),
  (37, .iload 4, 0, 0, 0, 0),
  (39, .iadd, 0, 0, 0, 0),
  (40, .iaload, 0, 0, 0, 0),
  (41, .iload_n 3, 0, 0, 0, 0),
  (42, .if_icmp .eq 6, 0, 0, 0, 0),
  (45, .goto 21, 0, 0, 0, 0),
  (48, .aload_n 0, 0, 0, 0, 0),
  (49, .getfield 33, 9, 6, 0, 1292),
  (52, .bipush 50, 0, 0, 0, 0),
  (54, .iload 4, 0, 0, 0, 0),
  (56, .iadd, 0, 0, 0, 0),
  (57, .iaload, 0, 0, 0, 0),
  (58, .istore_n 3, 0, 0, 0, 0),
  (59, .aload_n 0, 0, 0, 0, 0),
  (60, .iload_n 1, 0, 0, 0, 0),
  (61, .iload 4, 0, 0, 0, 0),
  (63, .invokevirtual 273, 202, 3, 0, 1592),
  (66, .iinc 4 1, 0, 0, 0, 0),
  (69, .goto (-64), 0, 0, 0, 0),
  (72, .iload_n 3, 0, 0, 0, 0),
  (73, .ireturn, 0, 0, 0, 0)])
def nm_202 : nM := (⟨"SlipHeirsModel", "makes", "(II)V"⟩, prog_11_method_49_code, 3, none, [1595, 124, 1594, 79], [
  (0, .aload_n 0, 0, 0, 0, 0),
  (1, .getfield 33, 9, 6, 0, 1292),
  (4, .sipush 144, 0, 0, 0, 0),
  (7, .iload_n 2, 0, 0, 0, 0),
  (8, .iadd, 0, 0, 0, 0),
  (9, .dup2, 0, 0, 0, 0),
  (10, .iaload, 0, 0, 0, 0),
  (11, .iconst 1, 0, 0, 0, 0),
  (12, .isub, 0, 0, 0, 0),
  (13, .iastore, 0, 0, 0, 0),
  (14, .aload_n 0, 0, 0, 0, 0),
  (15, .getfield 33, 9, 6, 0, 1292),
  (18, .sipush 150, 0, 0, 0, 0),
  (21, .iload_n 2, 0, 0, 0, 0),
  (22, .iadd, 0, 0, 0, 0),
  (23, .dup2, 0, 0, 0, 0),
  (24, .iaload, 0, 0, 0, 0),
  (25, .iconst 1, 0, 0, 0, 0),
  (26, .iadd, 0, 0, 0, 0),
  (27, .iastore, 0, 0, 0, 0),
  (28, .aload_n 0, 0, 0, 0, 0),
  (29, .getfield 33, 9, 6, 0, 1292),
  (32, .sipush 156, 0, 0, 0, 0),
  (35, .iload_n 1, 0, 0, 0, 0),
  (36, .iadd, 0, 0, 0, 0),
  (37, .dup2, 0, 0, 0, 0),
  (38, .iaload, 0, 0, 0, 0),
  (39, .iconst 1, 0, 0, 0, 0),
  (40, .iadd, 0, 0, 0, 0),
  (41, .iastore, 0, 0, 0, 0),
  (42, .aload_n 0, 0, 0, 0, 0),
  (43, .getfield 33, 9, 6, 0, 1292),
  (46, .sipush 133, 0, 0, 0, 0),
  (49, .dup2, 0, 0, 0, 0),
  (50, .iaload, 0, 0, 0, 0),
  (51, .aload_n 0, 0, 0, 0, 0),
  (52, .getfield 33, 9, 6, 0, 1292),
  (55, .bipush 68, 0, 0, 0, 0),
  (57, .iload_n 2, 0, 0, 0, 0),
  (58, .iadd, 0, 0, 0, 0),
  (59, .iaload, 0, 0, 0, 0),
  (60, .aload_n 0, 0, 0, 0, 0),
  (61, .getfield 33, 9, 6, 0, 1292),
  (64, .bipush 62, 0, 0, 0, 0),
  (66, .iload_n 2, 0, 0, 0, 0),
  (67, .iadd, 0, 0, 0, 0),
  (68, .iaload, 0, 0, 0, 0),
  (69, .aload_n 0, 0, 0, 0, 0),
  (70, .getfield 33, 9, 6, 0, 1292),
  (73, .bipush 34, 0, 0, 0, 0),
  (75, .iload_n 1, 0, 0, 0, 0),
  (76, .iadd, 0, 0, 0, 0),
  (77, .iaload, 0, 0, 0, 0),
  (78, .imul, 0, 0, 0, 0),
  (79, .isub, 0, 0, 0, 0),
  (80, .iadd, 0, 0, 0, 0),
  (81, .iastore, 0, 0, 0, 0),
  (82, .aload_n 0, 0, 0, 0, 0),
  (83, .getfield 33, 9, 6, 0, 1292),
  (86, .sipush 144, 0, 0, 0, 0),
  (89, .iload_n 2, 0, 0, 0, 0),
  (90, .iadd, 0, 0, 0, 0),
  (91, .iaload, 0, 0, 0, 0),
  (92, .ifCond .le 4, 0, 0, 0, 0),
  (95, .return_, 0, 0, 0, 0),
  (96, .aload_n 0, 0, 0, 0, 0),
  (97, .getfield 33, 9, 6, 0, 1292),
  (100, .sipush 138, 0, 0, 0, 0),
  (103, .iload_n 2, 0, 0, 0, 0),
  (104, .iadd, 0, 0, 0, 0),
  (105, .iconst (-1), 0, 0, 0, 0),
  (106, .iastore, 0, 0, 0, 0),
  (107, .aload_n 0, 0, 0, 0, 0),
  (108, .getfield 33, 9, 6, 0, 1292),
  (111, .sipush 137, 0, 0, 0, 0),
  (114, .iaload, 0, 0, 0, 0),
  (115, .ifCond .ne 21, 0, 0, 0, 0),
  (118, .aload_n 0, 0, 0, 0, 0),
  (119, .getfield 33, 9, 6, 0, 1292),
  (122, .sipush 137, 0, 0, 0, 0),
  (125, .aload_n 0, 0, 0, 0, 0),
  (126, .getfield 33, 9, 6, 0, 1292),
  (129, .sipush 132, 0, 0, 0, 0),
  (132, .iaload, 0, 0, 0, 0),
  (133, .iconst 1, 0, 0, 0, 0),
  (134, .iadd, 0, 0, 0, 0),
  (135, .iastore, 0, 0, 0, 0),
  (136, .return_, 0, 0, 0, 0)])
def nm_203 : nM := (⟨"SlipHeirsModel", "die", "(I)I"⟩, prog_11_method_58_code, 2, some .int, [1599, 124, 1597, 1598], [
  (0, .aload_n 0, 0, 0, 0, 0),
  (1, .iconst 0, 0, 0, 0, 0),
  (2, .putfield 1, 9, 0, 0, 1286),
  (5, .aload_n 0, 0, 0, 0, 0),
  (6, .iload_n 1, 0, 0, 0, 0),
  (7, .invokevirtual 250, 187, 2, 0, 1532),
  (10, .ifCond .ne 5, 0, 0, 0, 0),
  (13, .iconst (-1), 0, 0, 0, 0),
  (14, .ireturn, 0, 0, 0, 0),
  (15, .aload_n 0, 0, 0, 0, 0),
  (16, .iload_n 1, 0, 0, 0, 0),
  (17, .invokevirtual 253, 189, 2, 0, 1540),
  (20, .ifCond .eq 5, 0, 0, 0, 0),
  (23, .iconst 1, 0, 0, 0, 0),
  (24, .ireturn, 0, 0, 0, 0),
  (25, .aload_n 0, 0, 0, 0, 0),
  (26, .invokevirtual 295, 198, 1, 0, 1576),
  (29, .aload_n 0, 0, 0, 0, 0),
  (30, .iload_n 1, 0, 0, 0, 0),
  (31, .invokevirtual 301, 204, 2, 0, 1600),
  (34, .iconst 0, 0, 0, 0, 0),
  (35, .ireturn, 0, 0, 0, 0)])
def nm_204 : nM := (⟨"SlipHeirsModel", "dies", "(I)V"⟩, prog_11_method_55_code, 4, none, [1603, 124, 1602, 80], [
  (0, .aload_n 0, 0, 0, 0, 0),
  (1, .iload_n 1, 0, 0, 0, 0),
  (2, .invokevirtual 292, 205, 2, 0, 1604),
  (5, .istore_n 2, 0, 0, 0, 0),
  (6, .iconst 0, 0, 0, 0, 0),
  (7, .istore_n 3, 0, 0, 0, 0),
  (8, .iload_n 3, 0, 0, 0, 0),
  (9, .aload_n 0, 0, 0, 0, 0),
  (10, .getfield 33, 9, 6, 0, 1292),
  (13, .iconst 2, 0, 0, 0, 0),
  (14, .iaload, 0, 0, 0, 0),
  (15, .if_icmp .ge 34, 0, 0, 0, 0),
  (18, .aload_n 0, 0, 0, 0, 0),
  (19, .getfield 33, 9, 6, 0, 1292),
  (22, .sipush 138, 0, 0, 0, 0),
  (25, .iload_n 3, 0, 0, 0, 0),
  (26, .iadd, 0, 0, 0, 0),
  (27, .iaload, 0, 0, 0, 0),
  (28, .iload_n 1, 0, 0, 0, 0),
  (29, .if_icmp .ne 14, 0, 0, 0, 0),
  (32, .aload_n 0, 0, 0, 0, 0),
  (33, .getfield 33, 9, 6, 0, 1292),
  (36, .sipush 138, 0, 0, 0, 0),
  (39, .iload_n 3, 0, 0, 0, 0),
  (40, .iadd, 0, 0, 0, 0),
  (41, .iload_n 2, 0, 0, 0, 0),
  (42, .iastore, 0, 0, 0, 0),
  (43, .iinc 3 1, 0, 0, 0, 0),
  (46, .goto (-38), 0, 0, 0, 0),
  (49, .aload_n 0, 0, 0, 0, 0),
  (50, .getfield 33, 9, 6, 0, 1292),
  (53, .sipush 134, 0, 0, 0, 0),
  (56, .dup2, 0, 0, 0, 0),
  (57, .iaload, 0, 0, 0, 0),
  (58, .iconst 1, 0, 0, 0, 0),
  (59, .iload_n 1, 0, 0, 0, 0),
  (60, .ishl, 0, 0, 0, 0),
  (61, .ior, 0, 0, 0, 0),
  (62, .iastore, 0, 0, 0, 0),
  (63, .return_, 0, 0, 0, 0)])
def nm_205 : nM := (⟨"SlipHeirsModel", "heirOf", "(I)I"⟩, prog_11_method_54_code, 4, some .int, [1607, 124, 1606, 81], [
  (0, .iload_n 1, 0, 0, 0, 0),
  (1, .istore_n 2, 0, 0, 0, 0),
  (2, .iload_n 2, 0, 0, 0, 0),
  (3, .ifCond .lt 54, 0, 0, 0, 0),
  (6, .aload_n 0, 0, 0, 0, 0),
  (7, .iload_n 2, 0, 0, 0, 0),
  (8, .invokevirtual 256, 191, 2, 0, 1548),
  (11, .istore_n 3, 0, 0, 0, 0),
  (12, .iload_n 3, 0, 0, 0, 0),
  (13, .aload_n 0, 0, 0, 0, 0),
  (14, .getfield 33, 9, 6, 0, 1292),
  (17, .sipush 134, 0, 0, 0, 0),
  (20, .iaload, 0, 0, 0, 0),
  (21, .iconst (-1), 0, 0, 0, 0),
  (22, .ixor, 0, 0, 0, 0),
  (23, .iand, 0, 0, 0, 0),
  (24, .ifCond .eq 20, 0, 0, 0, 0),
  (27, .aload_n 0, 0, 0, 0, 0),
  (28, .iload_n 3, 0, 0, 0, 0),
  (29, .aload_n 0, 0, 0, 0, 0),
  (30, .getfield 33, 9, 6, 0, 1292),
  (33, .sipush 134, 0, 0, 0, 0),
  (36, .iaload, 0, 0, 0, 0),
  (37, .iconst (-1), 0, 0, 0, 0),
  (38, .ixor, 0, 0, 0, 0),
  (39, .iand, 0, 0, 0, 0),
  (40, .invokevirtual 286, 206, 2, 0, 1608),
  (43, .ireturn, 0, 0, 0, 0),
  (44, .aload_n 0, 0, 0, 0, 0),
  (45, .aload_n 0, 0, 0, 0, 0),
  (46, .iload_n 3, 0, 0, 0, 0),
  (47, .invokevirtual 289, 207, 2, 0, 1612),
  (50, .invokevirtual 286, 206, 2, 0, 1608),
  (53, .istore_n 2, 0, 0, 0, 0),
  (54, .goto (-52), 0, 0, 0, 0),
  (57, .aload_n 0, 0, 0, 0, 0),
  (58, .getfield 33, 9, 6, 0, 1292),
  (61, .bipush 24, 0, 0, 0, 0),
  (63, .iload_n 1, 0, 0, 0, 0),
  (64, .iadd, 0, 0, 0, 0),
  (65, .iaload, 0, 0, 0, 0),
  (66, .iconst 1, 0, 0, 0, 0),
  (67, .isub, 0, 0, 0, 0),
  (68, .istore_n 3, 0, 0, 0, 0),
  (69, .iload_n 3, 0, 0, 0, 0),
  (70, .ifCond .lt 15, 0, 0, 0, 0),
  (73, .aload_n 0, 0, 0, 0, 0),
  (74, .iload_n 3, 0, 0, 0, 0),
  (75, .invokevirtual 253, 189, 2, 0, 1540),
  (78, .ifCond .ne 7, 0, 0, 0, 0),
  (81, .iload_n 3, 0, 0, 0, 0),
  (82, .goto 5, 0, 0, 0, 0),
  (85, .bipush 10, 0, 0, 0, 0),
  (87, .ireturn, 0, 0, 0, 0)])
def nm_206 : nM := (⟨"SlipHeirsModel", "eldest", "(I)I"⟩, prog_11_method_52_code, 4, some .int, [1611, 124, 1610, 82], [
  (0, .iconst (-1), 0, 0, 0, 0),
  (1, .istore_n 2, 0, 0, 0, 0),
  (2, .iconst 0, 0, 0, 0, 0),
  (3, .istore_n 3, 0, 0, 0, 0),
  (4, .iload_n 3, 0, 0, 0, 0),
  (5, .aload_n 0, 0, 0, 0, 0),
  (6, .getfield 33, 9, 6, 0, 1292),
  (9, .iconst 1, 0, 0, 0, 0),
  (10, .iaload, 0, 0, 0, 0),
  (11, .if_icmp .ge 42, 0, 0, 0, 0),
  (14, .iload_n 1, 0, 0, 0, 0),
  (15, .iload_n 3, 0, 0, 0, 0),
  (16, .invokestatic 226, 183, 2, 2, 1517),
  (19, .ifCond .eq 28, 0, 0, 0, 0),
  (22, .iload_n 2, 0, 0, 0, 0),
  (23, .ifCond .lt 22, 0, 0, 0, 0),
  (26, .aload_n 0, 0, 0, 0, 0),
  (27, .getfield 33, 9, 6, 0, 1292),
  (30, .iconst 4, 0, 0, 0, 0),
  (31, .iload_n 3, 0, 0, 0, 0),
  (32, .iadd, 0, 0, 0, 0),
  (33, .iaload, 0, 0, 0, 0),
  (34, .aload_n 0, 0, 0, 0, 0),
  (35, .getfield 33, 9, 6, 0, 1292),
  (38, .iconst 4, 0, 0, 0, 0),
  (39, .iload_n 2, 0, 0, 0, 0),
  (40, .iadd, 0, 0, 0, 0),
  (41, .iaload, 0, 0, 0, 0),
  (42, .if_icmp .ge 5, 0, 0, 0, 0),
  (45, .iload_n 3, 0, 0, 0, 0),
  (46, .istore_n 2, 0, 0, 0, 0),
  (47, .iinc 3 1, 0, 0, 0, 0),
  (50, .goto (-46), 0, 0, 0, 0),
  (53, .iload_n 2, 0, 0, 0, 0),
  (54, .ireturn, 0, 0, 0, 0)])
def nm_207 : nM := (⟨"SlipHeirsModel", "withLiving", "(I)I"⟩, prog_11_method_53_code, 4, some .int, [1615, 124, 1614, 83], [
  (0, .iconst 0, 0, 0, 0, 0),
  (1, .istore_n 2, 0, 0, 0, 0),
  (2, .iconst 0, 0, 0, 0, 0),
  (3, .istore_n 3, 0, 0, 0, 0),
  (4, .iload_n 3, 0, 0, 0, 0),
  (5, .aload_n 0, 0, 0, 0, 0),
  (6, .getfield 33, 9, 6, 0, 1292),
  (9, .iconst 1, 0, 0, 0, 0),
  (10, .iaload, 0, 0, 0, 0),
  (11, .if_icmp .ge 46, 0, 0, 0, 0),
  (14, .iload_n 2, 0, 0, 0, 0),
  (15, .iload_n 1, 0, 0, 0, 0),
  (16, .iload_n 3, 0, 0, 0, 0),
  (17, .invokestatic 226, 183, 2, 2, 1517),
  (20, .ifCond .eq 28, 0, 0, 0, 0),
  (23, .aload_n 0, 0, 0, 0, 0),
  (24, .iload_n 3, 0, 0, 0, 0),
  (25, .invokevirtual 283, 208, 2, 0, 1616),
  (28, .aload_n 0, 0, 0, 0, 0),
  (29, .getfield 33, 9, 6, 0, 1292),
  (32, .sipush 134, 0, 0, 0, 0),
  (35, .iaload, 0, 0, 0, 0),
  (36, .iconst (-1), 0, 0, 0, 0),
  (37, .ixor, 0, 0, 0, 0),
  (38, .iand, 0, 0, 0, 0),
  (39, .ifCond .eq 9, 0, 0, 0, 0),
  (42, .iconst 1, 0, 0, 0, 0),
  (43, .iload_n 3, 0, 0, 0, 0),
  (44, .ishl, 0, 0, 0, 0),
  (45, .goto 4, 0, 0, 0, 0),
  (48, .iconst 0, 0, 0, 0, 0),
  (49, .ior, 0, 0, 0, 0),
  (50, .istore_n 2, 0, 0, 0, 0),
  (51, .iinc 3 1, 0, 0, 0, 0),
  (54, .goto (-50), 0, 0, 0, 0),
  (57, .iload_n 2, 0, 0, 0, 0),
  (58, .ireturn, 0, 0, 0, 0)])
def nm_208 : nM := (⟨"SlipHeirsModel", "underOf", "(I)I"⟩, prog_11_method_43_code, 5, some .int, [1619, 124, 1618, 84], [
  (0, .aload_n 0, 0, 0, 0, 0),
  (1, .iload_n 1, 0, 0, 0, 0),
  (2, .invokevirtual 256, 191, 2, 0, 1548),
  (5, .istore_n 2, 0, 0, 0, 0),
  (6, .iconst 0, 0, 0, 0, 0),
  (7, .istore_n 3, 0, 0, 0, 0),
  (8, .iload_n 3, 0, 0, 0, 0),
  (9, .bipush 10, 0, 0, 0, 0),
  (11, .if_icmp .ge 47, 0, 0, 0, 0),
  (14, .iconst 0, 0, 0, 0, 0),
  (15, .istore 4, 0, 0, 0, 0),
  (17, .iload 4, 0, 0, 0, 0),
  (19, .aload_n 0, 0, 0, 0, 0),
  (20, .getfield 33, 9, 6, 0, 1292),
  (23, .iconst 1, 0, 0, 0, 0),
  (24, .iaload, 0, 0, 0, 0),
  (25, .if_icmp .ge 27, 0, 0, 0, 0),
  (28, .iload_n 2, 0, 0, 0, 0),
  (29, .iload 4, 0, 0, 0, 0),
  (31, .invokestatic 226, 183, 2, 2, 1517),
  (34, .ifCond .eq 12, 0, 0, 0, 0),
  (37, .iload_n 2, 0, 0, 0, 0),
  (38, .aload_n 0, 0, 0, 0, 0),
  (39, .iload 4, 0, 0, 0, 0),
  (41, .invokevirtual 256, 191, 2, 0, 1548),
  (44, .ior, 0, 0, 0, 0),
  (45, .istore_n 2, 0, 0, 0, 0),
  (46, .iinc 4 1, 0, 0, 0, 0),
  (49, .goto (-32), 0, 0, 0, 0),
  (52, .iinc 3 1, 0, 0, 0, 0),
  (55, .goto (-47), 0, 0, 0, 0),
  (58, .iload_n 2, 0, 0, 0, 0),
  (59, .ireturn, 0, 0, 0, 0)])
def nm_209 : nM := (⟨"SlipHeirsModel", "give", "(II)I"⟩, prog_11_method_59_code, 4, some .int, [1623, 124, 1621, 1622], [
  (0, .aload_n 0, 0, 0, 0, 0),
  (1, .iconst 0, 0, 0, 0, 0),
  (2, .putfield 1, 9, 0, 0, 1286),
  (5, .aload_n 0, 0, 0, 0, 0),
  (6, .iload_n 1, 0, 0, 0, 0),
  (7, .invokevirtual 267, 193, 2, 0, 1556),
  (10, .ifCond .eq 11, 0, 0, 0, 0),
  (13, .aload_n 0, 0, 0, 0, 0),
  (14, .iload_n 2, 0, 0, 0, 0),
  (15, .invokevirtual 250, 187, 2, 0, 1532),
  (18, .ifCond .ne 5, 0, 0, 0, 0),
  (21, .iconst (-1), 0, 0, 0, 0),
  (22, .ireturn, 0, 0, 0, 0),
  (23, .aload_n 0, 0, 0, 0, 0),
  (24, .iload_n 1, 0, 0, 0, 0),
  (25, .iload_n 2, 0, 0, 0, 0),
  (26, .invokevirtual 304, 210, 3, 0, 1624),
  (29, .istore_n 3, 0, 0, 0, 0),
  (30, .iload_n 3, 0, 0, 0, 0),
  (31, .ifCond .le 5, 0, 0, 0, 0),
  (34, .iload_n 3, 0, 0, 0, 0),
  (35, .ireturn, 0, 0, 0, 0),
  (36, .aload_n 0, 0, 0, 0, 0),
  (37, .invokevirtual 295, 198, 1, 0, 1576),
  (40, .aload_n 0, 0, 0, 0, 0),
  (41, .getfield 33, 9, 6, 0, 1292),
  (44, .sipush 138, 0, 0, 0, 0),
  (47, .iload_n 1, 0, 0, 0, 0),
  (48, .iadd, 0, 0, 0, 0),
  (49, .iload_n 2, 0, 0, 0, 0),
  (50, .iastore, 0, 0, 0, 0),
  (51, .iconst 0, 0, 0, 0, 0),
  (52, .ireturn, 0, 0, 0, 0)])
def nm_210 : nM := (⟨"SlipHeirsModel", "whyGive", "(II)I"⟩, prog_11_method_56_code, 4, some .int, [1627, 124, 1626, 85], [
  (0, .aload_n 0, 0, 0, 0, 0),
  (1, .getfield 33, 9, 6, 0, 1292),
  (4, .sipush 138, 0, 0, 0, 0),
  (7, .iload_n 1, 0, 0, 0, 0),
  (8, .iadd, 0, 0, 0, 0),
  (9, .iaload, 0, 0, 0, 0),
  (10, .istore_n 3, 0, 0, 0, 0),
  (11, .iload_n 3, 0, 0, 0, 0),
  (12, .ifCond .lt 9, 0, 0, 0, 0),
  (15, .iload_n 3, 0, 0, 0, 0),
  (16, .bipush 10, 0, 0, 0, 0),
  (18, .if_icmp .ne 5, 0, 0, 0, 0),
  (21, .iconst 1, 0, 0, 0, 0),
  (22, .ireturn, 0, 0, 0, 0),
  (23, .aload_n 0, 0, 0, 0, 0),
  (24, .iload_n 3, 0, 0, 0, 0),
  (25, .invokevirtual 253, 189, 2, 0, 1540),
  (28, .ifCond .ne 11, 0, 0, 0, 0),
  (31, .aload_n 0, 0, 0, 0, 0),
  (32, .iload_n 2, 0, 0, 0, 0),
  (33, .invokevirtual 253, 189, 2, 0, 1540),
  (36, .ifCond .eq 5, 0, 0, 0, 0),
  (39, .iconst 2, 0, 0, 0, 0),
  (40, .ireturn, 0, 0, 0, 0),
  (41, .aload_n 0, 0, 0, 0, 0),
  (42, .getfield 33, 9, 6, 0, 1292),
  (45, .sipush 144, 0, 0, 0, 0),
  (48, .iload_n 1, 0, 0, 0, 0),
  (49, .iadd, 0, 0, 0, 0),
  (50, .iaload, 0, 0, 0, 0),
  (51, .iconst 3, 0, 0, 0, 0),
  (52, .if_icmp .le 7, 0, 0, 0, 0),
  (55, .iconst 3, 0, 0, 0, 0),
  (56, .goto 23, 0, 0, 0, 0),
  (59, .aload_n 0, 0, 0, 0, 0),
  (60, .getfield 33, 9, 6, 0, 1292),
  (63, .bipush 24, 0, 0, 0, 0),
  (65, .iload_n 3, 0, 0, 0, 0),
  (66, .iadd, 0, 0, 0, 0),
  (67, .iaload, 0, 0, 0, 0),
  (68, .iload_n 2, 0, 0, 0, 0),
  (69, .iconst 1, 0, 0, 0, 0),
  (70, .iadd, 0, 0, 0, 0),
  (71, .if_icmp .ne 7, 0, 0, 0, 0),
  (74, .iconst 0, 0, 0, 0, 0),
  (75, .goto 4, 0, 0, 0, 0),
  (78, .iconst 4, 0, 0, 0, 0),
  (79, .ireturn, 0, 0, 0, 0)])
def nm_211 : nM := (⟨"SlipHeirsModel", "years", "(I)I"⟩, prog_11_method_60_code, 2, some .int, [1631, 124, 1629, 1630], [
  (0, .aload_n 0, 0, 0, 0, 0),
  (1, .iconst 0, 0, 0, 0, 0),
  (2, .putfield 1, 9, 0, 0, 1286),
  (5, .iload_n 1, 0, 0, 0, 0),
  (6, .iconst 1, 0, 0, 0, 0),
  (7, .bipush 99, 0, 0, 0, 0),
  (9, .invokestatic 182, 176, 3, 2, 1490),
  (12, .ifCond .eq 19, 0, 0, 0, 0),
  (15, .aload_n 0, 0, 0, 0, 0),
  (16, .getfield 33, 9, 6, 0, 1292),
  (19, .sipush 132, 0, 0, 0, 0),
  (22, .iaload, 0, 0, 0, 0),
  (23, .iload_n 1, 0, 0, 0, 0),
  (24, .iadd, 0, 0, 0, 0),
  (25, .sipush 999, 0, 0, 0, 0),
  (28, .if_icmp .le 5, 0, 0, 0, 0),
  (31, .iconst (-1), 0, 0, 0, 0),
  (32, .ireturn, 0, 0, 0, 0),
  (33, .aload_n 0, 0, 0, 0, 0),
  (34, .invokevirtual 295, 198, 1, 0, 1576),
  (37, .aload_n 0, 0, 0, 0, 0),
  (38, .getfield 33, 9, 6, 0, 1292),
  (41, .sipush 132, 0, 0, 0, 0),
  (44, .dup2, 0, 0, 0, 0),
  (45, .iaload, 0, 0, 0, 0),
  (46, .iload_n 1, 0, 0, 0, 0),
  (47, .iadd, 0, 0, 0, 0),
  (48, .iastore, 0, 0, 0, 0),
  (49, .aload_n 0, 0, 0, 0, 0),
  (50, .getfield 33, 9, 6, 0, 1292),
  (53, .sipush 132, 0, 0, 0, 0),
  (56, .iaload, 0, 0, 0, 0),
  (57, .ireturn, 0, 0, 0, 0)])
def nm_212 : nM := (⟨"SlipHeirsModel", "undo", "()I"⟩, prog_11_method_62_code, 2, some .int, [1635, 124, 1633, 1634], [
  (0, .aload_n 0, 0, 0, 0, 0),
  (1, .iconst 0, 0, 0, 0, 0),
  (2, .putfield 1, 9, 0, 0, 1286),
  (5, .aload_n 0, 0, 0, 0, 0),
  (6, .getfield 247, 9, 24, 0, 1310),
  (9, .ifCond .ne 5, 0, 0, 0, 0),
  (12, .iconst (-1), 0, 0, 0, 0),
  (13, .ireturn, 0, 0, 0, 0),
  (14, .aload_n 0, 0, 0, 0, 0),
  (15, .dup, 0, 0, 0, 0),
  (16, .getfield 247, 9, 24, 0, 1310),
  (19, .iconst 1, 0, 0, 0, 0),
  (20, .isub, 0, 0, 0, 0),
  (21, .putfield 247, 9, 24, 0, 1310),
  (24, .iconst 0, 0, 0, 0, 0),
  (25, .istore_n 1, 0, 0, 0, 0),
  (26, .iload_n 1, 0, 0, 0, 0),
  (27, .bipush 47, 0, 0, 0, 0),
  (29, .if_icmp .ge 33, 0, 0, 0, 0),
  (32, .aload_n 0, 0, 0, 0, 0),
  (33, .getfield 33, 9, 6, 0, 1292),
  (36, .sipush 132, 0, 0, 0, 0),
  (39, .iload_n 1, 0, 0, 0, 0),
  (40, .iadd, 0, 0, 0, 0),
  (41, .aload_n 0, 0, 0, 0, 0),
  (42, .getfield 53, 9, 22, 0, 1308),
  (45, .bipush 47, 0, 0, 0, 0),
  (47, .aload_n 0, 0, 0, 0, 0),
  (48, .getfield 247, 9, 24, 0, 1310),
  (51, .imul, 0, 0, 0, 0),
  (52, .iload_n 1, 0, 0, 0, 0),
  (53, .iadd, 0, 0, 0, 0),
  (54, .iaload, 0, 0, 0, 0),
  (55, .iastore, 0, 0, 0, 0),
  (56, .iinc 1 1, 0, 0, 0, 0),
  (59, .goto (-33), 0, 0, 0, 0),
  (62, .aload_n 0, 0, 0, 0, 0),
  (63, .getfield 247, 9, 24, 0, 1310),
  (66, .ireturn, 0, 0, 0, 0)])
def nm_213 : nM := (⟨"SlipHeirsModel", "came", "(I)I"⟩, prog_11_method_65_code, 2, some .int, [1639, 124, 1637, 1638], [
  (0, .aload_n 0, 0, 0, 0, 0),
  (1, .iconst 0, 0, 0, 0, 0),
  (2, .putfield 1, 9, 0, 0, 1286),
  (5, .iload_n 1, 0, 0, 0, 0),
  (6, .iconst (-1), 0, 0, 0, 0),
  (7, .if_icmp .ne 12, 0, 0, 0, 0),
  (10, .aload_n 0, 0, 0, 0, 0),
  (11, .getfield 33, 9, 6, 0, 1292),
  (14, .sipush 166, 0, 0, 0, 0),
  (17, .iaload, 0, 0, 0, 0),
  (18, .ireturn, 0, 0, 0, 0),
  (19, .iload_n 1, 0, 0, 0, 0),
  (20, .iconst 0, 0, 0, 0, 0),
  (21, .aload_n 0, 0, 0, 0, 0),
  (22, .getfield 33, 9, 6, 0, 1292),
  (25, .sipush 166, 0, 0, 0, 0),
  (28, .iaload, 0, 0, 0, 0),
  (29, .iconst 1, 0, 0, 0, 0),
  (30, .isub, 0, 0, 0, 0),
  (31, .invokestatic 182, 176, 3, 2, 1490),
  (34, .ifCond .eq 16, 0, 0, 0, 0),
  (37, .aload_n 0, 0, 0, 0, 0),
  (38, .getfield 33, 9, 6, 0, 1292),
  (41, .sipush 167, 0, 0, 0, 0),
  (44, .iload_n 1, 0, 0, 0, 0),
  (45, .iadd, 0, 0, 0, 0),
  (46, .iaload, 0, 0, 0, 0),
  (47, .goto 4, 0, 0, 0, 0),
  (50, .iconst (-1), 0, 0, 0, 0),
  (51, .ireturn, 0, 0, 0, 0)])
def nm_214 : nM := (⟨"SlipHeirsModel", "comes", "(III)I"⟩, prog_11_method_66_code, 5, some .int, [1643, 124, 1641, 1642], [
  (0, .aload_n 0, 0, 0, 0, 0),
  (1, .iconst 0, 0, 0, 0, 0),
  (2, .putfield 1, 9, 0, 0, 1286),
  (5, .aload_n 0, 0, 0, 0, 0),
  (6, .iload_n 1, 0, 0, 0, 0),
  (7, .invokevirtual 307, 215, 2, 0, 1644),
  (10, .ifCond .eq 11, 0, 0, 0, 0),
  (13, .aload_n 0, 0, 0, 0, 0),
  (14, .iload_n 2, 0, 0, 0, 0),
  (15, .invokevirtual 270, 195, 2, 0, 1564),
  (18, .ifCond .ne 5, 0, 0, 0, 0),
  (21, .iconst (-1), 0, 0, 0, 0),
  (22, .ireturn, 0, 0, 0, 0),
  (23, .aload_n 0, 0, 0, 0, 0),
  (24, .invokevirtual 310, 216, 1, 0, 1648),
  (27, .aload_n 0, 0, 0, 0, 0),
  (28, .iload_n 1, 0, 0, 0, 0),
  (29, .iload_n 2, 0, 0, 0, 0),
  (30, .invokevirtual 280, 200, 3, 0, 1584),
  (33, .istore 4, 0, 0, 0, 0),
  (35, .aload_n 0, 0, 0, 0, 0),
  (36, .invokevirtual 313, 217, 1, 0, 1652),
  (39, .iload_n 3, 0, 0, 0, 0),
  (40, .iconst (-1), 0, 0, 0, 0),
  (41, .if_icmp .ne 6, 0, 0, 0, 0),
  (44, .iload 4, 0, 0, 0, 0),
  (46, .ireturn, 0, 0, 0, 0),
  (47, .iload_n 3, 0, 0, 0, 0),
  (48, .iconst 0, 0, 0, 0, 0),
  (49, .aload_n 0, 0, 0, 0, 0),
  (50, .getfield 33, 9, 6, 0, 1292),
  (53, .bipush 80, 0, 0, 0, 0),
  (55, .iload_n 2, 0, 0, 0, 0),
  (56, .iadd, 0, 0, 0, 0),
  (57, .iaload, 0, 0, 0, 0),
  (58, .iconst 1, 0, 0, 0, 0),
  (59, .isub, 0, 0, 0, 0),
  (60, .invokestatic 182, 176, 3, 2, 1490),
  (63, .ifCond .eq 12, 0, 0, 0, 0),
  (66, .aload_n 0, 0, 0, 0, 0),
  (67, .getfield 50, 9, 21, 0, 1307),
  (70, .iload_n 3, 0, 0, 0, 0),
  (71, .iaload, 0, 0, 0, 0),
  (72, .goto 4, 0, 0, 0, 0),
  (75, .iconst (-1), 0, 0, 0, 0),
  (76, .ireturn, 0, 0, 0, 0)])
def nm_215 : nM := (⟨"SlipHeirsModel", "lives", "(I)Z"⟩, prog_11_method_40_code, 2, some .boolean, [1647, 124, 1646, 86], [
  (0, .aload_n 0, 0, 0, 0, 0),
  (1, .iload_n 1, 0, 0, 0, 0),
  (2, .invokevirtual 250, 187, 2, 0, 1532),
  (5, .ifCond .eq 15, 0, 0, 0, 0),
  (8, .aload_n 0, 0, 0, 0, 0),
  (9, .iload_n 1, 0, 0, 0, 0),
  (10, .invokevirtual 253, 189, 2, 0, 1540),
  (13, .ifCond .ne 7, 0, 0, 0, 0),
  (16, .iconst 1, 0, 0, 0, 0),
  (17, .goto 4, 0, 0, 0, 0),
  (20, .iconst 0, 0, 0, 0, 0),
  (21, .ireturn, 0, 0, 0, 0)])
def nm_216 : nM := (⟨"SlipHeirsModel", "tries", "()V"⟩, prog_11_method_63_code, 2, none, [1651, 124, 1650, 87], [
  (0, .iconst 0, 0, 0, 0, 0),
  (1, .istore_n 1, 0, 0, 0, 0),
  (2, .iload_n 1, 0, 0, 0, 0),
  (3, .bipush 47, 0, 0, 0, 0),
  (5, .if_icmp .ge 25, 0, 0, 0, 0),
  (8, .aload_n 0, 0, 0, 0, 0),
  (9, .getfield 56, 9, 23, 0, 1309),
  (12, .iload_n 1, 0, 0, 0, 0),
  (13, .aload_n 0, 0, 0, 0, 0),
  (14, .getfield 33, 9, 6, 0, 1292),
  (17, .sipush 132, 0, 0, 0, 0),
  (20, .iload_n 1, 0, 0, 0, 0),
  (21, .iadd, 0, 0, 0, 0),
  (22, .iaload, 0, 0, 0, 0),
  (23, .iastore, 0, 0, 0, 0),
  (24, .iinc 1 1, 0, 0, 0, 0),
  (27, .goto (-25), 0, 0, 0, 0),
  (30, .return_, 0, 0, 0, 0)])
def nm_217 : nM := (⟨"SlipHeirsModel", "back", "()V"⟩, prog_11_method_64_code, 2, none, [1655, 124, 1654, 88], [
  (0, .iconst 0, 0, 0, 0, 0),
  (1, .istore_n 1, 0, 0, 0, 0),
  (2, .iload_n 1, 0, 0, 0, 0),
  (3, .bipush 47, 0, 0, 0, 0),
  (5, .if_icmp .ge 25, 0, 0, 0, 0),
  (8, .aload_n 0, 0, 0, 0, 0),
  (9, .getfield 33, 9, 6, 0, 1292),
  (12, .sipush 132, 0, 0, 0, 0),
  (15, .iload_n 1, 0, 0, 0, 0),
  (16, .iadd, 0, 0, 0, 0),
  (17, .aload_n 0, 0, 0, 0, 0),
  (18, .getfield 56, 9, 23, 0, 1309),
  (21, .iload_n 1, 0, 0, 0, 0),
  (22, .iaload, 0, 0, 0, 0),
  (23, .iastore, 0, 0, 0, 0),
  (24, .iinc 1 1, 0, 0, 0, 0),
  (27, .goto (-25), 0, 0, 0, 0),
  (30, .return_, 0, 0, 0, 0)])
def nm_218 : nM := (⟨"SlipHeirsModel", "right", "(I)I"⟩, prog_11_method_67_code, 4, some .int, [1659, 124, 1657, 1658], [
  (0, .aload_n 0, 0, 0, 0, 0),
  (1, .iconst 0, 0, 0, 0, 0),
  (2, .putfield 1, 9, 0, 0, 1286),
  (5, .aload_n 0, 0, 0, 0, 0),
  (6, .iload_n 1, 0, 0, 0, 0),
  (7, .invokevirtual 270, 195, 2, 0, 1564),
  (10, .ifCond .ne 5, 0, 0, 0, 0),
  (13, .iconst (-1), 0, 0, 0, 0),
  (14, .ireturn, 0, 0, 0, 0),
  (15, .aload_n 0, 0, 0, 0, 0),
  (16, .invokevirtual 310, 216, 1, 0, 1648),
  (19, .iconst 0, 0, 0, 0, 0),
  (20, .istore_n 2, 0, 0, 0, 0),
  (21, .iconst 0, 0, 0, 0, 0),
  (22, .istore_n 3, 0, 0, 0, 0),
  (23, .iload_n 3, 0, 0, 0, 0),
  (24, .aload_n 0, 0, 0, 0, 0),
  (25, .getfield 33, 9, 6, 0, 1292),
  (28, .iconst 1, 0, 0, 0, 0),
  (29, .iaload, 0, 0, 0, 0),
  (30, .if_icmp .ge 43, 0, 0, 0, 0),
  (33, .aload_n 0, 0, 0, 0, 0),
  (34, .iload_n 3, 0, 0, 0, 0),
  (35, .invokevirtual 253, 189, 2, 0, 1540),
  (38, .ifCond .eq 6, 0, 0, 0, 0),
  (41, .goto 26, 0, 0, 0, 0),
  (44, .iload_n 2, 0, 0, 0, 0),
  (45, .aload_n 0, 0, 0, 0, 0),
  (46, .iload_n 3, 0, 0, 0, 0),
  (47, .iload_n 1, 0, 0, 0, 0),
  (48, .invokevirtual 280, 200, 3, 0, 1584),
  (51, .ifCond .ne 9, 0, 0, 0, 0),
  (54, .iconst 1, 0, 0, 0, 0),
  (55, .iload_n 3, 0, 0, 0, 0),
  (56, .ishl, 0, 0, 0, 0),
  (57, .goto 4, 0, 0, 0, 0),
  (60, .iconst 0, 0, 0, 0, 0),
  (61, .ior, 0, 0, 0, 0),
  (62, .istore_n 2, 0, 0, 0, 0),
  (63, .aload_n 0, 0, 0, 0, 0),
  (64, .invokevirtual 313, 217, 1, 0, 1652),
  (67, .iinc 3 1, 0, 0, 0, 0),
  (70, .goto (-47), 0, 0, 0, 0),
  (73, .iload_n 2, 0, 0, 0, 0),
  (74, .ireturn, 0, 0, 0, 0)])
def nm_219 : nM := (⟨"SlipHeirsModel", "loss", "(II)I"⟩, prog_11_method_68_code, 4, some .int, [1663, 124, 1661, 1662], [
  (0, .aload_n 0, 0, 0, 0, 0),
  (1, .aload_n 0, 0, 0, 0, 0),
  (2, .iload_n 1, 0, 0, 0, 0),
  (3, .invokevirtual 307, 215, 2, 0, 1644),
  (6, .ifCond .eq 11, 0, 0, 0, 0),
  (9, .aload_n 0, 0, 0, 0, 0),
  (10, .iload_n 2, 0, 0, 0, 0),
  (11, .invokevirtual 270, 195, 2, 0, 1564),
  (14, .ifCond .ne 7, 0, 0, 0, 0),
  (17, .iconst 1, 0, 0, 0, 0),
  (18, .goto 4, 0, 0, 0, 0),
  (21, .iconst 0, 0, 0, 0, 0),
  (22, .invokevirtual 260, 188, 2, 0, 1536),
  (25, .ifCond .eq 5, 0, 0, 0, 0),
  (28, .iconst 0, 0, 0, 0, 0),
  (29, .ireturn, 0, 0, 0, 0),
  (30, .aload_n 0, 0, 0, 0, 0),
  (31, .invokevirtual 310, 216, 1, 0, 1648),
  (34, .aload_n 0, 0, 0, 0, 0),
  (35, .iload_n 1, 0, 0, 0, 0),
  (36, .iload_n 2, 0, 0, 0, 0),
  (37, .invokevirtual 280, 200, 3, 0, 1584),
  (40, .pop, 0, 0, 0, 0),
  (41, .aload_n 0, 0, 0, 0, 0),
  (42, .getfield 33, 9, 6, 0, 1292),
  (45, .sipush 133, 0, 0, 0, 0),
  (48, .iaload, 0, 0, 0, 0),
  (49, .istore_n 3, 0, 0, 0, 0),
  (50, .aload_n 0, 0, 0, 0, 0),
  (51, .invokevirtual 313, 217, 1, 0, 1652),
  (54, .aload_n 0, 0, 0, 0, 0),
  (55, .getfield 33, 9, 6, 0, 1292),
  (58, .sipush 133, 0, 0, 0, 0),
  (61, .iaload, 0, 0, 0, 0),
  (62, .iload_n 3, 0, 0, 0, 0),
  (63, .isub, 0, 0, 0, 0),
  (64, .ireturn, 0, 0, 0, 0)])
def nm_220 : nM := (⟨"SlipHeirsModel", "heir", "(I)I"⟩, prog_11_method_69_code, 2, some .int, [1667, 124, 1665, 1666], [
  (0, .aload_n 0, 0, 0, 0, 0),
  (1, .iconst 0, 0, 0, 0, 0),
  (2, .putfield 1, 9, 0, 0, 1286),
  (5, .aload_n 0, 0, 0, 0, 0),
  (6, .iload_n 1, 0, 0, 0, 0),
  (7, .invokevirtual 307, 215, 2, 0, 1644),
  (10, .ifCond .eq 11, 0, 0, 0, 0),
  (13, .aload_n 0, 0, 0, 0, 0),
  (14, .iload_n 1, 0, 0, 0, 0),
  (15, .invokevirtual 292, 205, 2, 0, 1604),
  (18, .goto 4, 0, 0, 0, 0),
  (21, .iconst (-1), 0, 0, 0, 0),
  (22, .ireturn, 0, 0, 0, 0)])
def nm_221 : nM := (⟨"SlipHeirsModel", "line", "(II)I"⟩, prog_11_method_70_code, 7, some .int, [1671, 124, 1669, 1670], [
  (0, .aload_n 0, 0, 0, 0, 0),
  (1, .iconst 0, 0, 0, 0, 0),
  (2, .putfield 1, 9, 0, 0, 1286),
  (5, .aload_n 0, 0, 0, 0, 0),
  (6, .iload_n 1, 0, 0, 0, 0),
  (7, .invokevirtual 307, 215, 2, 0, 1644),
  (10, .ifCond .eq 13, 0, 0, 0, 0),
  (13, .iload_n 2, 0, 0, 0, 0),
  (14, .iconst 1, 0, 0, 0, 0),
  (15, .bipush 10, 0, 0, 0, 0),
  (17, .invokestatic 182, 176, 3, 2, 1490),
  (20, .ifCond .ne 5, 0, 0, 0, 0),
  (23, .iconst (-1), 0, 0, 0, 0),
  (24, .ireturn, 0, 0, 0, 0),
  (25, .aload_n 0, 0, 0, 0, 0),
  (26, .getfield 33, 9, 6, 0, 1292),
  (29, .sipush 134, 0, 0, 0, 0),
  (32, .iaload, 0, 0, 0, 0),
  (33, .istore_n 3, 0, 0, 0, 0),
  (34, .iload_n 1, 0, 0, 0, 0),
  (35, .istore 4, 0, 0, 0, 0),
  (37, .iconst 0, 0, 0, 0, 0),
  (38, .istore 5, 0, 0, 0, 0),
  (40, .iload 5, 0, 0, 0, 0),
  (42, .iload_n 2, 0, 0, 0, 0),
  (43, .if_icmp .ge 43, 0, 0, 0, 0),
  (46, .iload 4, 0, 0, 0, 0),
  (48, .bipush 10, 0, 0, 0, 0),
  (50, .if_icmp .eq 36, 0, 0, 0, 0),
  (53, .aload_n 0, 0, 0, 0, 0),
  (54, .iload 4, 0, 0, 0, 0),
  (56, .invokevirtual 292, 205, 2, 0, 1604),
  (59, .istore 6, 0, 0, 0, 0),
  (61, .aload_n 0, 0, 0, 0, 0),
  (62, .getfield 33, 9, 6, 0, 1292),
  (65, .sipush 134, 0, 0, 0, 0),
  (68, .dup2, 0, 0, 0, 0),
  (69, .iaload, 0, 0, 0, 0),
  (70, .iconst 1, 0, 0, 0, 0),
  (71, .iload 4, 0, 0, 0, 0),
  (73, .ishl, 0, 0, 0, 0),
  (74, .ior, 0, 0, 0, 0),
  (75, .iastore, 0, 0, 0, 0),
  (76, .iload 6, 0, 0, 0, 0),
  (78, .istore 4, 0, 0, 0, 0),
  (80, .iinc 5 1, 0, 0, 0, 0),
  (83, .goto (-43), 0, 0, 0, 0),
  (86, .aload_n 0, 0, 0, 0, 0),
  (87, .getfield 33, 9, 6, 0, 1292),
  (90, .sipush 134, 0, 0, 0, 0),
  (93, .iload_n 3, 0, 0, 0, 0),
  (94, .iastore, 0, 0, 0, 0),
  (95, .iload 4, 0, 0, 0, 0),
  (97, .ireturn, 0, 0, 0, 0)])
def nm_222 : nM := (⟨"SlipHeirsModel", "plan", "(I)I"⟩, prog_11_method_73_code, 6, some .int, [1675, 124, 1673, 1674], [
  (0, .aload_n 0, 0, 0, 0, 0),
  (1, .iconst 0, 0, 0, 0, 0),
  (2, .putfield 1, 9, 0, 0, 1286),
  (5, .aload_n 0, 0, 0, 0, 0),
  (6, .sipush 940, 0, 0, 0, 0),
  (9, .invokevirtual 235, 162, 2, 0, 1436),
  (12, .aload_n 0, 0, 0, 0, 0),
  (13, .iload_n 1, 0, 0, 0, 0),
  (14, .invokevirtual 307, 215, 2, 0, 1644),
  (17, .ifCond .eq 23, 0, 0, 0, 0),
  (20, .aload_n 0, 0, 0, 0, 0),
  (21, .getfield 18, 9, 3, 0, 1289),
  (24, .iconst 1, 0, 0, 0, 0),
  (25, .bipush 6, 0, 0, 0, 0),
  (27, .invokestatic 182, 176, 3, 2, 1490),
  (30, .ifCond .eq 10, 0, 0, 0, 0),
  (33, .aload_n 0, 0, 0, 0, 0),
  (34, .invokevirtual 322, 223, 1, 0, 1676),
  (37, .ifCond .ne 5, 0, 0, 0, 0),
  (40, .iconst (-1), 0, 0, 0, 0),
  (41, .ireturn, 0, 0, 0, 0),
  (42, .iconst 0, 0, 0, 0, 0),
  (43, .istore_n 2, 0, 0, 0, 0),
  (44, .iload_n 2, 0, 0, 0, 0),
  (45, .bipush 6, 0, 0, 0, 0),
  (47, .if_icmp .ge 16, 0, 0, 0, 0),
  (50, .aload_n 0, 0, 0, 0, 0),
  (51, .getfield 59, 9, 25, 0, 1311),
  (54, .iload_n 2, 0, 0, 0, 0),
  (55, .iconst 0, 0, 0, 0, 0),
  (56, .iastore, 0, 0, 0, 0),
  (57, .iinc 2 1, 0, 0, 0, 0),
  (60, .goto (-16), 0, 0, 0, 0),
  (63, .aload_n 0, 0, 0, 0, 0),
  (64, .invokevirtual 310, 216, 1, 0, 1648),
  (67, .iconst 0, 0, 0, 0, 0),
  (68, .istore_n 2, 0, 0, 0, 0),
  (69, .iconst 1, 0, 0, 0, 0),
  (70, .istore_n 3, 0, 0, 0, 0),
  (71, .iload_n 3, 0, 0, 0, 0),
  (72, .ifCond .eq 118, 0, 0, 0, 0),
  (75, .iconst 1, 0, 0, 0, 0),
  (76, .istore 4, 0, 0, 0, 0),
  (78, .iconst 0, 0, 0, 0, 0),
  (79, .istore 5, 0, 0, 0, 0),
  (81, .iload 5, 0, 0, 0, 0),
  (83, .aload_n 0, 0, 0, 0, 0),
  (84, .getfield 18, 9, 3, 0, 1289),
  (87, .if_icmp .ge 42, 0, 0, 0, 0),
  (90, .iload 4, 0, 0, 0, 0),
  (92, .ifCond .eq 37, 0, 0, 0, 0),
  (95, .aload_n 0, 0, 0, 0, 0),
  (96, .iload_n 1, 0, 0, 0, 0),
  (97, .aload_n 0, 0, 0, 0, 0),
  (98, .getfield 59, 9, 25, 0, 1311),
  (101, .iload 5, 0, 0, 0, 0),
  (103, .iaload, 0, 0, 0, 0),
  (104, .invokevirtual 277, 201, 3, 0, 1588),
  (107, .aload_n 0, 0, 0, 0, 0),
  (108, .iload 5, 0, 0, 0, 0),
  (110, .invokevirtual 316, 224, 2, 0, 1680),
  (113, .if_icmp .ne 7, 0, 0, 0, 0),
  (116, .iconst 1, 0, 0, 0, 0),
  (117, .goto 4, 0, 0, 0, 0),
  (120, .iconst 0, 0, 0, 0, 0),
  (121, .istore 4, 0, 0, 0, 0),
  (123, .iinc 5 1, 0, 0, 0, 0),
  (126, .goto (-45), 0, 0, 0, 0),
  (129, .aload_n 0, 0, 0, 0, 0),
  (130, .invokevirtual 313, 217, 1, 0, 1652),
  (133, .iload 4, 0, 0, 0, 0),
  (135, .ifCond .eq 43, 0, 0, 0, 0),
  (138, .iinc 2 1, 0, 0, 0, 0),
  (141, .iconst 0, 0, 0, 0, 0),
  (142, .istore 5, 0, 0, 0, 0),
  (144, .iload 5, 0, 0, 0, 0),
  (146, .aload_n 0, 0, 0, 0, 0),
  (147, .getfield 18, 9, 3, 0, 1289),
  (150, .if_icmp .ge 28, 0, 0, 0, 0),
  (153, .iload_n 2, 0, 0, 0, 0),
  (154, .iconst 1, 0, 0, 0, 0),
  (155, .if_icmp .ne 23, 0, 0, 0, 0),
  (158, .aload_n 0, 0, 0, 0, 0),
  (159, .getfield 62, 9, 26, 0, 1312),
  (162, .iload 5, 0, 0, 0, 0),
  (164, .aload_n 0, 0, 0, 0, 0),
  (165, .getfield 59, 9, 25, 0, 1311),
  (168, .iload 5, 0, 0, 0, 0),
  (170, .iaload, 0, 0, 0, 0),
  (171, .iastore, 0, 0, 0, 0),
  (172, .iinc 5 1, 0, 0, 0, 0),
  (175, .goto (-31), 0, 0, 0, 0),
  (178, .aload_n 0, 0, 0, 0, 0),
  (179, .aload_n 0, 0, 0, 0, 0),
  (180, .getfield 18, 9, 3, 0, 1289),
  (183, .invokevirtual 325, 226, 2, 0, 1688),
  (186, .istore_n 3, 0, 0, 0, 0),
  (187, .goto (-116), 0, 0, 0, 0),
  (190, .iload_n 2, 0, 0, 0, 0),
  (191, .ifCond .le 11, 0, 0, 0, 0),
  (194, .aload_n 0, 0, 0, 0, 0),
  (195, .aload_n 0, 0, 0, 0, 0),
  (196, .getfield 18, 9, 3, 0, 1289),
  (199, .putfield 328, 9, 27, 0, 1313),
  (202, .iload_n 2, 0, 0, 0, 0),
  (203, .ireturn, 0, 0, 0, 0)])
def nm_223 : nM := (⟨"SlipHeirsModel", "areSteps", "()Z"⟩, prog_11_method_72_code, 2, some .boolean, [1679, 124, 1678, 89], [
  (0, .iconst 0, 0, 0, 0, 0),
  (1, .istore_n 1, 0, 0, 0, 0),
  (2, .iload_n 1, 0, 0, 0, 0),
  (3, .aload_n 0, 0, 0, 0, 0),
  (4, .getfield 18, 9, 3, 0, 1289),
  (7, .if_icmp .ge 23, 0, 0, 0, 0),
  (10, .aload_n 0, 0, 0, 0, 0),
  (11, .aload_n 0, 0, 0, 0, 0),
  (12, .iload_n 1, 0, 0, 0, 0),
  (13, .invokevirtual 316, 224, 2, 0, 1680),
  (16, .invokevirtual 319, 225, 2, 0, 1684),
  (19, .ifCond .ne 5, 0, 0, 0, 0),
  (22, .iconst 0, 0, 0, 0, 0),
  (23, .ireturn, 0, 0, 0, 0),
  (24, .iinc 1 1, 0, 0, 0, 0),
  (27, .goto (-25), 0, 0, 0, 0),
  (30, .iconst 1, 0, 0, 0, 0),
  (31, .ireturn, 0, 0, 0, 0)])
def nm_224 : nM := (⟨"SlipHeirsModel", "octet", "(I)I"⟩, prog_11_method_10_code, 2, some .int, [1683, 124, 1682, 90], [
  (0, .aload_n 0, 0, 0, 0, 0),
  (1, .getfield 14, 9, 1, 0, 1287),
  (4, .iload_n 1, 0, 0, 0, 0),
  (5, .baload, 0, 0, 0, 0),
  (6, .sipush 255, 0, 0, 0, 0),
  (9, .iand, 0, 0, 0, 0),
  (10, .ireturn, 0, 0, 0, 0)])
def nm_225 : nM := (⟨"SlipHeirsModel", "isStep", "(I)Z"⟩, prog_11_method_38_code, 2, some .boolean, [1687, 124, 1686, 91], [
  (0, .iload_n 1, 0, 0, 0, 0),
  (1, .iconst 0, 0, 0, 0, 0),
  (2, .aload_n 0, 0, 0, 0, 0),
  (3, .getfield 33, 9, 6, 0, 1292),
  (6, .iconst 0, 0, 0, 0, 0),
  (7, .iaload, 0, 0, 0, 0),
  (8, .iconst 1, 0, 0, 0, 0),
  (9, .isub, 0, 0, 0, 0),
  (10, .invokestatic 182, 176, 3, 2, 1490),
  (13, .ireturn, 0, 0, 0, 0)])
def nm_226 : nM := (⟨"SlipHeirsModel", "nextRow", "(I)Z"⟩, prog_11_method_71_code, 3, some .boolean, [1691, 124, 1690, 92], [
  (0, .iload_n 1, 0, 0, 0, 0),
  (1, .iconst 1, 0, 0, 0, 0),
  (2, .isub, 0, 0, 0, 0),
  (3, .istore_n 2, 0, 0, 0, 0),
  (4, .iload_n 2, 0, 0, 0, 0),
  (5, .ifCond .lt 43, 0, 0, 0, 0),
  (8, .aload_n 0, 0, 0, 0, 0),
  (9, .getfield 59, 9, 25, 0, 1311),
  (12, .iload_n 2, 0, 0, 0, 0),
  (13, .dup2, 0, 0, 0, 0),
  (14, .iaload, 0, 0, 0, 0),
  (15, .iconst 1, 0, 0, 0, 0),
  (16, .iadd, 0, 0, 0, 0),
  (17, .iastore, 0, 0, 0, 0),
  (18, .aload_n 0, 0, 0, 0, 0),
  (19, .getfield 59, 9, 25, 0, 1311),
  (22, .iload_n 2, 0, 0, 0, 0),
  (23, .iaload, 0, 0, 0, 0),
  (24, .aload_n 0, 0, 0, 0, 0),
  (25, .getfield 33, 9, 6, 0, 1292),
  (28, .iconst 0, 0, 0, 0, 0),
  (29, .iaload, 0, 0, 0, 0),
  (30, .if_icmp .ge 5, 0, 0, 0, 0),
  (33, .iconst 1, 0, 0, 0, 0),
  (34, .ireturn, 0, 0, 0, 0),
  (35, .aload_n 0, 0, 0, 0, 0),
  (36, .getfield 59, 9, 25, 0, 1311),
  (39, .iload_n 2, 0, 0, 0, 0),
  (40, .iconst 0, 0, 0, 0, 0),
  (41, .iastore, 0, 0, 0, 0),
  (42, .iinc 2 (-1), 0, 0, 0, 0),
  (45, .goto (-41), 0, 0, 0, 0),
  (48, .iconst 0, 0, 0, 0, 0),
  (49, .ireturn, 0, 0, 0, 0)])
def nm_227 : nM := (⟨"SlipHeirsModel", "planned", "(I)I"⟩, prog_11_method_74_code, 2, some .int, [1695, 124, 1693, 1694], [
  (0, .aload_n 0, 0, 0, 0, 0),
  (1, .iconst 0, 0, 0, 0, 0),
  (2, .putfield 1, 9, 0, 0, 1286),
  (5, .iload_n 1, 0, 0, 0, 0),
  (6, .iconst 0, 0, 0, 0, 0),
  (7, .aload_n 0, 0, 0, 0, 0),
  (8, .getfield 328, 9, 27, 0, 1313),
  (11, .iconst 1, 0, 0, 0, 0),
  (12, .isub, 0, 0, 0, 0),
  (13, .invokestatic 182, 176, 3, 2, 1490),
  (16, .ifCond .eq 12, 0, 0, 0, 0),
  (19, .aload_n 0, 0, 0, 0, 0),
  (20, .getfield 62, 9, 26, 0, 1312),
  (23, .iload_n 1, 0, 0, 0, 0),
  (24, .iaload, 0, 0, 0, 0),
  (25, .goto 4, 0, 0, 0, 0),
  (28, .iconst (-1), 0, 0, 0, 0),
  (29, .ireturn, 0, 0, 0, 0)])
def nm_228 : nM := (⟨"SlipHeirsModel", "who", "(I)I"⟩, prog_11_method_75_code, 6, some .int, [1699, 124, 1697, 1698], [
  (0, .aload_n 0, 0, 0, 0, 0),
  (1, .iconst 0, 0, 0, 0, 0),
  (2, .putfield 1, 9, 0, 0, 1286),
  (5, .aload_n 0, 0, 0, 0, 0),
  (6, .sipush 940, 0, 0, 0, 0),
  (9, .invokevirtual 235, 162, 2, 0, 1436),
  (12, .aload_n 0, 0, 0, 0, 0),
  (13, .iload_n 1, 0, 0, 0, 0),
  (14, .invokevirtual 270, 195, 2, 0, 1564),
  (17, .ifCond .eq 26, 0, 0, 0, 0),
  (20, .aload_n 0, 0, 0, 0, 0),
  (21, .getfield 18, 9, 3, 0, 1289),
  (24, .aload_n 0, 0, 0, 0, 0),
  (25, .getfield 33, 9, 6, 0, 1292),
  (28, .bipush 80, 0, 0, 0, 0),
  (30, .iload_n 1, 0, 0, 0, 0),
  (31, .iadd, 0, 0, 0, 0),
  (32, .iaload, 0, 0, 0, 0),
  (33, .if_icmp .ne 10, 0, 0, 0, 0),
  (36, .aload_n 0, 0, 0, 0, 0),
  (37, .invokevirtual 322, 223, 1, 0, 1676),
  (40, .ifCond .ne 5, 0, 0, 0, 0),
  (43, .iconst (-1), 0, 0, 0, 0),
  (44, .ireturn, 0, 0, 0, 0),
  (45, .aload_n 0, 0, 0, 0, 0),
  (46, .invokevirtual 310, 216, 1, 0, 1648),
  (49, .iconst 0, 0, 0, 0, 0),
  (50, .istore_n 2, 0, 0, 0, 0),
  (51, .iconst 0, 0, 0, 0, 0),
  (52, .istore_n 3, 0, 0, 0, 0),
  (53, .iload_n 3, 0, 0, 0, 0),
  (54, .aload_n 0, 0, 0, 0, 0),
  (55, .getfield 33, 9, 6, 0, 1292),
  (58, .iconst 1, 0, 0, 0, 0),
  (59, .iaload, 0, 0, 0, 0),
  (60, .if_icmp .ge 95, 0, 0, 0, 0),
  (63, .aload_n 0, 0, 0, 0, 0),
  (64, .iload_n 3, 0, 0, 0, 0),
  (65, .invokevirtual 253, 189, 2, 0, 1540),
  (68, .ifCond .eq 6, 0, 0, 0, 0),
  (71, .goto 78, 0, 0, 0, 0),
  (74, .aload_n 0, 0, 0, 0, 0),
  (75, .iload_n 3, 0, 0, 0, 0),
  (76, .iload_n 1, 0, 0, 0, 0),
  (77, .invokevirtual 280, 200, 3, 0, 1584),
  (80, .pop, 0, 0, 0, 0),
  (81, .aload_n 0, 0, 0, 0, 0),
  (82, .invokevirtual 313, 217, 1, 0, 1652),
  (85, .iconst 1, 0, 0, 0, 0),
  (86, .istore 4, 0, 0, 0, 0),
  (88, .iconst 0, 0, 0, 0, 0),
  (89, .istore 5, 0, 0, 0, 0),
  (91, .iload 5, 0, 0, 0, 0),
  (93, .aload_n 0, 0, 0, 0, 0),
  (94, .getfield 18, 9, 3, 0, 1289),
  (97, .if_icmp .ge 37, 0, 0, 0, 0),
  (100, .iload 4, 0, 0, 0, 0),
  (102, .ifCond .eq 23, 0, 0, 0, 0),
  (105, .aload_n 0, 0, 0, 0, 0),
  (106, .getfield 50, 9, 21, 0, 1307),
  (109, .iload 5, 0, 0, 0, 0),
  (111, .iaload, 0, 0, 0, 0),
  (112, .aload_n 0, 0, 0, 0, 0),
  (113, .iload 5, 0, 0, 0, 0),
  (115, .invokevirtual 316, 224, 2, 0, 1680),
  (118, .if_icmp .ne 7, 0, 0, 0, 0),
  (121, .iconst 1, 0, 0, 0, 0),
  (122, .goto 4, 0, 0, 0, 0),
  (125, .iconst 0, 0, 0, 0, 0),
  (126, .istore 4, 0, 0, 0, 0),
  (128, .iinc 5 1, 0, 0, 0, 0),
  (131, .goto (-40), 0, 0, 0, 0),
  (134, .iload_n 2, 0, 0, 0, 0),
  (135, .iload 4, 0, 0, 0, 0),
  (137, .ifCond .eq 9, 0, 0, 0, 0),
  (140, .iconst 1, 0, 0, 0, 0),
  (141, .iload_n 3, 0, 0, 0, 0),
  (142, .ishl, 0, 0, 0, 0),
  (143, .goto 4, 0, 0, 0, 0),
  (146, .iconst 0, 0, 0, 0, 0),
  (147, .ior, 0, 0, 0, 0),
  (148, .istore_n 2, 0, 0, 0, 0),
  (149, .iinc 3 1, 0, 0, 0, 0),
  (152, .goto (-99), 0, 0, 0, 0),
  (155, .iload_n 2, 0, 0, 0, 0),
  (156, .ireturn, 0, 0, 0, 0)])
def nm_229 : nM := (⟨"SlipHeirsModel", "worn", "(I)I"⟩, prog_11_method_76_code, 11, some .int, [1703, 124, 1701, 1702], [
  (0, .aload_n 0, 0, 0, 0, 0),
  (1, .iconst 0, 0, 0, 0, 0),
  (2, .putfield 1, 9, 0, 0, 1286),
  (5, .aload_n 0, 0, 0, 0, 0),
  (6, .iload_n 1, 0, 0, 0, 0),
  (7, .invokevirtual 267, 193, 2, 0, 1556),
  (10, .ifCond .eq 18, 0, 0, 0, 0),
  (13, .aload_n 0, 0, 0, 0, 0),
  (14, .getfield 33, 9, 6, 0, 1292),
  (17, .sipush 138, 0, 0, 0, 0),
  (20, .iload_n 1, 0, 0, 0, 0),
  (21, .iadd, 0, 0, 0, 0),
  (22, .iaload, 0, 0, 0, 0),
  (23, .bipush 10, 0, 0, 0, 0),
  (25, .if_icmp .ne 5, 0, 0, 0, 0),
  (28, .iconst (-1), 0, 0, 0, 0),
  (29, .ireturn, 0, 0, 0, 0),
  (30, .aload_n 0, 0, 0, 0, 0),
  (31, .getfield 33, 9, 6, 0, 1292),
  (34, .sipush 138, 0, 0, 0, 0),
  (37, .iload_n 1, 0, 0, 0, 0),
  (38, .iadd, 0, 0, 0, 0),
  (39, .iaload, 0, 0, 0, 0),
  (40, .iconst (-1), 0, 0, 0, 0),
  (41, .if_icmp .ne 7, 0, 0, 0, 0),
  (44, .iconst 0, 0, 0, 0, 0),
  (45, .goto 4, 0, 0, 0, 0),
  (48, .iconst (-1), 0, 0, 0, 0),
  (49, .istore_n 2, 0, 0, 0, 0),
  (50, .iconst (-1), 0, 0, 0, 0),
  (51, .istore_n 3, 0, 0, 0, 0),
  (52, .iconst 0, 0, 0, 0, 0),
  (53, .istore 4, 0, 0, 0, 0),
  (55, .aload_n 0, 0, 0, 0, 0),
  (56, .invokevirtual 310, 216, 1, 0, 1648),
  (59, .iconst 0, 0, 0, 0, 0),
  (60, .istore 5, 0, 0, 0, 0),
  (62, .iload 5, 0, 0, 0, 0),
  (64, .aload_n 0, 0, 0, 0, 0),
  (65, .getfield 33, 9, 6, 0, 1292),
  (68, .iconst 3, 0, 0, 0, 0),
  (69, .iaload, 0, 0, 0, 0),
  (70, .if_icmp .ge 160, 0, 0, 0, 0),
  (73, .aload_n 0, 0, 0, 0, 0),
  (74, .getfield 33, 9, 6, 0, 1292),
  (77, .sipush 138, 0, 0, 0, 0),
  (80, .iload_n 1, 0, 0, 0, 0),
  (81, .iadd, 0, 0, 0, 0),
  (82, .iaload, 0, 0, 0, 0),
  (83, .ifCond .lt 147, 0, 0, 0, 0),
  (86, .aload_n 0, 0, 0, 0, 0),
  (87, .getfield 33, 9, 6, 0, 1292),
  (90, .sipush 138, 0, 0, 0, 0),
  (93, .iload_n 1, 0, 0, 0, 0),
  (94, .iadd, 0, 0, 0, 0),
  (95, .iaload, 0, 0, 0, 0),
  (96, .istore 6, 0, 0, 0, 0),
  (98, .aload_n 0, 0, 0, 0, 0),
  (99, .getfield 33, 9, 6, 0, 1292),
  (102, .sipush 133, 0, 0, 0, 0),
  (105, .iaload, 0, 0, 0, 0),
  (106, .istore 7, 0, 0, 0, 0),
  (108, .iconst 0, 0, 0, 0, 0),
  (109, .istore 8, 0, 0, 0, 0),
  (111, .iload 8, 0, 0, 0, 0),
  (113, .bipush 20, 0, 0, 0, 0),
  (115, .if_icmp .ge 31, 0, 0, 0, 0),
  (118, .aload_n 0, 0, 0, 0, 0),
  (119, .getfield 33, 9, 6, 0, 1292),
  (122, .sipush 138, 0, 0, 0, 0),
  (125, .iload_n 1, 0, 0, 0, 0),
  (126, .iadd, 0, 0, 0, 0),
  (127, .iaload, 0, 0, 0, 0),
  (128, .ifCond .lt 18, 0, 0, 0, 0),
  (131, .aload_n 0, 0, 0, 0, 0),
  (132, .iload 6, 0, 0, 0, 0),
  (134, .iload 5, 0, 0, 0, 0),
  (136, .invokevirtual 280, 200, 3, 0, 1584),
  (139, .pop, 0, 0, 0, 0),
  (140, .iinc 8 1, 0, 0, 0, 0),
  (143, .goto (-32), 0, 0, 0, 0),
  (146, .aload_n 0, 0, 0, 0, 0),
  (147, .getfield 33, 9, 6, 0, 1292),
  (150, .sipush 138, 0, 0, 0, 0),
  (153, .iload_n 1, 0, 0, 0, 0),
  (154, .iadd, 0, 0, 0, 0),
  (155, .iaload, 0, 0, 0, 0),
  (156, .ifCond .ge 7, 0, 0, 0, 0),
  (159, .iconst 1, 0, 0, 0, 0),
  (160, .goto 4, 0, 0, 0, 0),
  (163, .iconst 0, 0, 0, 0, 0),
  (164, .istore 9, 0, 0, 0, 0),
  (166, .iload 7, 0, 0, 0, 0),
  (168, .aload_n 0, 0, 0, 0, 0),
  (169, .getfield 33, 9, 6, 0, 1292),
  (172, .sipush 133, 0, 0, 0, 0),
  (175, .iaload, 0, 0, 0, 0),
  (176, .isub, 0, 0, 0, 0),
  (177, .istore 10, 0, 0, 0, 0),
  (179, .aload_n 0, 0, 0, 0, 0),
  (180, .invokevirtual 313, 217, 1, 0, 1652),
  (183, .iload 9, 0, 0, 0, 0),
  (185, .ifCond .eq 39, 0, 0, 0, 0),
  (188, .iload_n 2, 0, 0, 0, 0),
  (189, .ifCond .lt 25, 0, 0, 0, 0),
  (192, .iload 8, 0, 0, 0, 0),
  (194, .iload_n 2, 0, 0, 0, 0),
  (195, .if_icmp .gt 29, 0, 0, 0, 0),
  (198, .iload 8, 0, 0, 0, 0),
  (200, .iload_n 2, 0, 0, 0, 0),
  (201, .if_icmp .ne 13, 0, 0, 0, 0),
  (204, .iload 10, 0, 0, 0, 0),
  (206, .iload 4, 0, 0, 0, 0),
  (208, .if_icmp .lt 6, 0, 0, 0, 0),
  (211, .goto 13, 0, 0, 0, 0),
  (214, .iload 8, 0, 0, 0, 0),
  (216, .istore_n 2, 0, 0, 0, 0),
  (217, .iload 10, 0, 0, 0, 0),
  (219, .istore 4, 0, 0, 0, 0),
  (221, .iload 5, 0, 0, 0, 0),
  (223, .istore_n 3, 0, 0, 0, 0),
  (224, .iinc 5 1, 0, 0, 0, 0),
  (227, .goto (-165), 0, 0, 0, 0),
  (230, .iload_n 2, 0, 0, 0, 0),
  (231, .ifCond .ge 5, 0, 0, 0, 0),
  (234, .iconst (-1), 0, 0, 0, 0),
  (235, .ireturn, 0, 0, 0, 0),
  (236, .aload_n 0, 0, 0, 0, 0),
  (237, .iconst 1, 0, 0, 0, 0),
  (238, .putfield 331, 9, 30, 0, 1316),
  (241, .aload_n 0, 0, 0, 0, 0),
  (242, .iload_n 3, 0, 0, 0, 0),
  (243, .putfield 335, 9, 28, 0, 1314),
  (246, .aload_n 0, 0, 0, 0, 0),
  (247, .iload 4, 0, 0, 0, 0),
  (249, .putfield 338, 9, 29, 0, 1315),
  (252, .iload_n 2, 0, 0, 0, 0),
  (253, .ireturn, 0, 0, 0, 0)])
def nm_230 : nM := (⟨"SlipHeirsModel", "wornBy", "()I"⟩, prog_11_method_77_code, 1, some .int, [1707, 124, 1705, 1706], [
  (0, .aload_n 0, 0, 0, 0, 0),
  (1, .iconst 0, 0, 0, 0, 0),
  (2, .putfield 1, 9, 0, 0, 1286),
  (5, .aload_n 0, 0, 0, 0, 0),
  (6, .getfield 331, 9, 30, 0, 1316),
  (9, .ifCond .eq 10, 0, 0, 0, 0),
  (12, .aload_n 0, 0, 0, 0, 0),
  (13, .getfield 335, 9, 28, 0, 1314),
  (16, .goto 4, 0, 0, 0, 0),
  (19, .iconst (-1), 0, 0, 0, 0),
  (20, .ireturn, 0, 0, 0, 0)])
def nm_231 : nM := (⟨"SlipHeirsModel", "wornLoss", "()I"⟩, prog_11_method_78_code, 1, some .int, [1711, 124, 1709, 1710], [
  (0, .aload_n 0, 0, 0, 0, 0),
  (1, .iconst 0, 0, 0, 0, 0),
  (2, .putfield 1, 9, 0, 0, 1286),
  (5, .aload_n 0, 0, 0, 0, 0),
  (6, .getfield 331, 9, 30, 0, 1316),
  (9, .ifCond .eq 10, 0, 0, 0, 0),
  (12, .aload_n 0, 0, 0, 0, 0),
  (13, .getfield 338, 9, 29, 0, 1315),
  (16, .goto 6, 0, 0, 0, 0),
  (19, .ldc_w 341, 0, 0, (-100001), 1712),
  (22, .ireturn, 0, 0, 0, 0)])
def nm_232 : nM := (⟨"SlipHeirsModel", "gifts", "()I"⟩, prog_11_method_80_code, 5, some .int, [1716, 124, 1714, 1715], [
  (0, .aload_n 0, 0, 0, 0, 0),
  (1, .iconst 0, 0, 0, 0, 0),
  (2, .putfield 1, 9, 0, 0, 1286),
  (5, .iconst (-1), 0, 0, 0, 0),
  (6, .istore_n 1, 0, 0, 0, 0),
  (7, .iconst 0, 0, 0, 0, 0),
  (8, .istore_n 2, 0, 0, 0, 0),
  (9, .iload_n 2, 0, 0, 0, 0),
  (10, .iconst 1, 0, 0, 0, 0),
  (11, .aload_n 0, 0, 0, 0, 0),
  (12, .getfield 33, 9, 6, 0, 1292),
  (15, .iconst 2, 0, 0, 0, 0),
  (16, .iaload, 0, 0, 0, 0),
  (17, .ishl, 0, 0, 0, 0),
  (18, .if_icmp .ge 63, 0, 0, 0, 0),
  (21, .aload_n 0, 0, 0, 0, 0),
  (22, .iload_n 2, 0, 0, 0, 0),
  (23, .invokevirtual 342, 233, 2, 0, 1717),
  (26, .istore_n 3, 0, 0, 0, 0),
  (27, .iload_n 3, 0, 0, 0, 0),
  (28, .ifCond .lt 47, 0, 0, 0, 0),
  (31, .iload_n 1, 0, 0, 0, 0),
  (32, .ifCond .lt 11, 0, 0, 0, 0),
  (35, .iload_n 3, 0, 0, 0, 0),
  (36, .iload_n 1, 0, 0, 0, 0),
  (37, .if_icmp .lt 6, 0, 0, 0, 0),
  (40, .goto 35, 0, 0, 0, 0),
  (43, .iload_n 3, 0, 0, 0, 0),
  (44, .istore_n 1, 0, 0, 0, 0),
  (45, .iconst 0, 0, 0, 0, 0),
  (46, .istore 4, 0, 0, 0, 0),
  (48, .iload 4, 0, 0, 0, 0),
  (50, .bipush 6, 0, 0, 0, 0),
  (52, .if_icmp .ge 23, 0, 0, 0, 0),
  (55, .aload_n 0, 0, 0, 0, 0),
  (56, .getfield 65, 9, 31, 0, 1317),
  (59, .iload 4, 0, 0, 0, 0),
  (61, .aload_n 0, 0, 0, 0, 0),
  (62, .getfield 68, 9, 32, 0, 1318),
  (65, .iload 4, 0, 0, 0, 0),
  (67, .iaload, 0, 0, 0, 0),
  (68, .iastore, 0, 0, 0, 0),
  (69, .iinc 4 1, 0, 0, 0, 0),
  (72, .goto (-24), 0, 0, 0, 0),
  (75, .iinc 2 1, 0, 0, 0, 0),
  (78, .goto (-69), 0, 0, 0, 0),
  (81, .aload_n 0, 0, 0, 0, 0),
  (82, .aload_n 0, 0, 0, 0, 0),
  (83, .getfield 33, 9, 6, 0, 1292),
  (86, .iconst 2, 0, 0, 0, 0),
  (87, .iaload, 0, 0, 0, 0),
  (88, .putfield 71, 9, 33, 0, 1319),
  (91, .iload_n 1, 0, 0, 0, 0),
  (92, .ireturn, 0, 0, 0, 0)])
def nm_233 : nM := (⟨"SlipHeirsModel", "giftsBy", "(I)I"⟩, prog_11_method_79_code, 8, some .int, [1720, 124, 1719, 93], [
  (0, .iconst 0, 0, 0, 0, 0),
  (1, .istore_n 2, 0, 0, 0, 0),
  (2, .iconst 0, 0, 0, 0, 0),
  (3, .istore_n 3, 0, 0, 0, 0),
  (4, .iconst 0, 0, 0, 0, 0),
  (5, .istore 4, 0, 0, 0, 0),
  (7, .iload 4, 0, 0, 0, 0),
  (9, .aload_n 0, 0, 0, 0, 0),
  (10, .getfield 33, 9, 6, 0, 1292),
  (13, .iconst 2, 0, 0, 0, 0),
  (14, .iaload, 0, 0, 0, 0),
  (15, .if_icmp .ge 169, 0, 0, 0, 0),
  (18, .aload_n 0, 0, 0, 0, 0),
  (19, .getfield 33, 9, 6, 0, 1292),
  (22, .sipush 138, 0, 0, 0, 0),
  (25, .iload 4, 0, 0, 0, 0),
  (27, .iadd, 0, 0, 0, 0),
  (28, .iaload, 0, 0, 0, 0),
  (29, .istore 5, 0, 0, 0, 0),
  (31, .iload_n 1, 0, 0, 0, 0),
  (32, .aload_n 0, 0, 0, 0, 0),
  (33, .getfield 33, 9, 6, 0, 1292),
  (36, .iconst 2, 0, 0, 0, 0),
  (37, .iaload, 0, 0, 0, 0),
  (38, .iconst 1, 0, 0, 0, 0),
  (39, .isub, 0, 0, 0, 0),
  (40, .iload 4, 0, 0, 0, 0),
  (42, .isub, 0, 0, 0, 0),
  (43, .invokestatic 226, 183, 2, 2, 1517),
  (46, .istore 6, 0, 0, 0, 0),
  (48, .aload_n 0, 0, 0, 0, 0),
  (49, .getfield 68, 9, 32, 0, 1318),
  (52, .iload 4, 0, 0, 0, 0),
  (54, .iload 5, 0, 0, 0, 0),
  (56, .bipush 10, 0, 0, 0, 0),
  (58, .if_icmp .ne 7, 0, 0, 0, 0),
  (61, .iconst (-1), 0, 0, 0, 0),
  (62, .goto 5, 0, 0, 0, 0),
  (65, .iload 5, 0, 0, 0, 0),
  (67, .iastore, 0, 0, 0, 0),
  (68, .iload 5, 0, 0, 0, 0),
  (70, .ifCond .lt 10, 0, 0, 0, 0),
  (73, .iload 5, 0, 0, 0, 0),
  (75, .bipush 10, 0, 0, 0, 0),
  (77, .if_icmp .ne 10, 0, 0, 0, 0),
  (80, .iload 6, 0, 0, 0, 0),
  (82, .ifCond .eq 96, 0, 0, 0, 0),
  (85, .iconst (-1), 0, 0, 0, 0),
  (86, .ireturn, 0, 0, 0, 0),
  (87, .iload 6, 0, 0, 0, 0),
  (89, .ifCond .eq 60, 0, 0, 0, 0),
  (92, .aload_n 0, 0, 0, 0, 0),
  (93, .getfield 33, 9, 6, 0, 1292),
  (96, .bipush 24, 0, 0, 0, 0),
  (98, .iload 5, 0, 0, 0, 0),
  (100, .iadd, 0, 0, 0, 0),
  (101, .iaload, 0, 0, 0, 0),
  (102, .iconst 1, 0, 0, 0, 0),
  (103, .isub, 0, 0, 0, 0),
  (104, .istore 7, 0, 0, 0, 0),
  (106, .iload 7, 0, 0, 0, 0),
  (108, .ifCond .lt 23, 0, 0, 0, 0),
  (111, .aload_n 0, 0, 0, 0, 0),
  (112, .iload 4, 0, 0, 0, 0),
  (114, .iload 7, 0, 0, 0, 0),
  (116, .invokevirtual 304, 210, 3, 0, 1624),
  (119, .ifCond .gt 12, 0, 0, 0, 0),
  (122, .iload_n 3, 0, 0, 0, 0),
  (123, .iload 7, 0, 0, 0, 0),
  (125, .invokestatic 226, 183, 2, 2, 1517),
  (128, .ifCond .eq 5, 0, 0, 0, 0),
  (131, .iconst (-1), 0, 0, 0, 0),
  (132, .ireturn, 0, 0, 0, 0),
  (133, .iload_n 3, 0, 0, 0, 0),
  (134, .iconst 1, 0, 0, 0, 0),
  (135, .iload 7, 0, 0, 0, 0),
  (137, .ishl, 0, 0, 0, 0),
  (138, .ior, 0, 0, 0, 0),
  (139, .istore_n 3, 0, 0, 0, 0),
  (140, .aload_n 0, 0, 0, 0, 0),
  (141, .getfield 68, 9, 32, 0, 1318),
  (144, .iload 4, 0, 0, 0, 0),
  (146, .iload 7, 0, 0, 0, 0),
  (148, .iastore, 0, 0, 0, 0),
  (149, .iload_n 2, 0, 0, 0, 0),
  (150, .aload_n 0, 0, 0, 0, 0),
  (151, .getfield 33, 9, 6, 0, 1292),
  (154, .bipush 62, 0, 0, 0, 0),
  (156, .iload 4, 0, 0, 0, 0),
  (158, .iadd, 0, 0, 0, 0),
  (159, .iaload, 0, 0, 0, 0),
  (160, .aload_n 0, 0, 0, 0, 0),
  (161, .getfield 33, 9, 6, 0, 1292),
  (164, .bipush 34, 0, 0, 0, 0),
  (166, .aload_n 0, 0, 0, 0, 0),
  (167, .getfield 68, 9, 32, 0, 1318),
  (170, .iload 4, 0, 0, 0, 0),
  (172, .iaload, 0, 0, 0, 0),
  (173, .iadd, 0, 0, 0, 0),
  (174, .iaload, 0, 0, 0, 0),
  (175, .imul, 0, 0, 0, 0),
  (176, .iadd, 0, 0, 0, 0),
  (177, .istore_n 2, 0, 0, 0, 0),
  (178, .iinc 4 1, 0, 0, 0, 0),
  (181, .goto (-174), 0, 0, 0, 0),
  (184, .iload_n 2, 0, 0, 0, 0),
  (185, .ireturn, 0, 0, 0, 0)])
def nm_234 : nM := (⟨"SlipHeirsModel", "gift", "(I)I"⟩, prog_11_method_81_code, 2, some .int, [1724, 124, 1722, 1723], [
  (0, .aload_n 0, 0, 0, 0, 0),
  (1, .iconst 0, 0, 0, 0, 0),
  (2, .putfield 1, 9, 0, 0, 1286),
  (5, .iload_n 1, 0, 0, 0, 0),
  (6, .iconst 0, 0, 0, 0, 0),
  (7, .aload_n 0, 0, 0, 0, 0),
  (8, .getfield 71, 9, 33, 0, 1319),
  (11, .iconst 1, 0, 0, 0, 0),
  (12, .isub, 0, 0, 0, 0),
  (13, .invokestatic 182, 176, 3, 2, 1490),
  (16, .ifCond .eq 12, 0, 0, 0, 0),
  (19, .aload_n 0, 0, 0, 0, 0),
  (20, .getfield 65, 9, 31, 0, 1317),
  (23, .iload_n 1, 0, 0, 0, 0),
  (24, .iaload, 0, 0, 0, 0),
  (25, .goto 4, 0, 0, 0, 0),
  (28, .iconst (-1), 0, 0, 0, 0),
  (29, .ireturn, 0, 0, 0, 0)])
def nm_235 : nM := (⟨"SlipHeirsModel", "together", "(II)I"⟩, prog_11_method_84_code, 3, some .int, [1728, 124, 1726, 1727], [
  (0, .aload_n 0, 0, 0, 0, 0),
  (1, .iconst 0, 0, 0, 0, 0),
  (2, .putfield 1, 9, 0, 0, 1286),
  (5, .aload_n 0, 0, 0, 0, 0),
  (6, .iload_n 1, 0, 0, 0, 0),
  (7, .invokevirtual 345, 236, 2, 0, 1729),
  (10, .ifCond .eq 20, 0, 0, 0, 0),
  (13, .aload_n 0, 0, 0, 0, 0),
  (14, .iload_n 2, 0, 0, 0, 0),
  (15, .invokevirtual 319, 225, 2, 0, 1684),
  (18, .ifCond .eq 12, 0, 0, 0, 0),
  (21, .aload_n 0, 0, 0, 0, 0),
  (22, .iload_n 1, 0, 0, 0, 0),
  (23, .iload_n 2, 0, 0, 0, 0),
  (24, .invokevirtual 348, 237, 3, 0, 1733),
  (27, .goto 4, 0, 0, 0, 0),
  (30, .iconst (-1), 0, 0, 0, 0),
  (31, .ireturn, 0, 0, 0, 0)])
def nm_236 : nM := (⟨"SlipHeirsModel", "areErrors", "(I)Z"⟩, prog_11_method_83_code, 2, some .boolean, [1732, 124, 1731, 94], [
  (0, .iload_n 1, 0, 0, 0, 0),
  (1, .ifCond .lt 19, 0, 0, 0, 0),
  (4, .iload_n 1, 0, 0, 0, 0),
  (5, .iconst 1, 0, 0, 0, 0),
  (6, .aload_n 0, 0, 0, 0, 0),
  (7, .getfield 33, 9, 6, 0, 1292),
  (10, .iconst 2, 0, 0, 0, 0),
  (11, .iaload, 0, 0, 0, 0),
  (12, .ishl, 0, 0, 0, 0),
  (13, .if_icmp .ge 7, 0, 0, 0, 0),
  (16, .iconst 1, 0, 0, 0, 0),
  (17, .goto 4, 0, 0, 0, 0),
  (20, .iconst 0, 0, 0, 0, 0),
  (21, .ireturn, 0, 0, 0, 0)])
def nm_237 : nM := (⟨"SlipHeirsModel", "madeBy", "(II)I"⟩, prog_11_method_82_code, 5, some .int, [1736, 124, 1735, 95], [
  (0, .iload_n 2, 0, 0, 0, 0),
  (1, .istore_n 3, 0, 0, 0, 0),
  (2, .iconst 0, 0, 0, 0, 0),
  (3, .istore 4, 0, 0, 0, 0),
  (5, .iload 4, 0, 0, 0, 0),
  (7, .aload_n 0, 0, 0, 0, 0),
  (8, .getfield 33, 9, 6, 0, 1292),
  (11, .iconst 2, 0, 0, 0, 0),
  (12, .iaload, 0, 0, 0, 0),
  (13, .if_icmp .ge 43, 0, 0, 0, 0),
  (16, .iload_n 1, 0, 0, 0, 0),
  (17, .iload 4, 0, 0, 0, 0),
  (19, .invokestatic 226, 183, 2, 2, 1517),
  (22, .ifCond .eq 28, 0, 0, 0, 0),
  (25, .aload_n 0, 0, 0, 0, 0),
  (26, .getfield 33, 9, 6, 0, 1292),
  (29, .bipush 44, 0, 0, 0, 0),
  (31, .iload 4, 0, 0, 0, 0),
  (33, .iadd, 0, 0, 0, 0),
  (34, .iaload, 0, 0, 0, 0),
  (35, .iload_n 3, 0, 0, 0, 0),
  (36, .if_icmp .ne 14, 0, 0, 0, 0),
  (39, .aload_n 0, 0, 0, 0, 0),
  (40, .getfield 33, 9, 6, 0, 1292),
  (43, .bipush 50, 0, 0, 0, 0),
  (45, .iload 4, 0, 0, 0, 0),
  (47, .iadd, 0, 0, 0, 0),
  (48, .iaload, 0, 0, 0, 0),
  (49, .istore_n 3, 0, 0, 0, 0),
  (50, .iinc 4 1, 0, 0, 0, 0),
  (53, .goto (-48), 0, 0, 0, 0),
  (56, .iload_n 3, 0, 0, 0, 0),
  (57, .ireturn, 0, 0, 0, 0)])
def nm_238 : nM := (⟨"SlipHeirsModel", "rests", "(I)I"⟩, prog_11_method_85_code, 6, some .int, [1740, 124, 1738, 1739], [
  (0, .aload_n 0, 0, 0, 0, 0),
  (1, .iconst 0, 0, 0, 0, 0),
  (2, .putfield 1, 9, 0, 0, 1286),
  (5, .aload_n 0, 0, 0, 0, 0),
  (6, .iload_n 1, 0, 0, 0, 0),
  (7, .invokevirtual 345, 236, 2, 0, 1729),
  (10, .ifCond .ne 5, 0, 0, 0, 0),
  (13, .iconst (-1), 0, 0, 0, 0),
  (14, .ireturn, 0, 0, 0, 0),
  (15, .iconst 1, 0, 0, 0, 0),
  (16, .aload_n 0, 0, 0, 0, 0),
  (17, .getfield 33, 9, 6, 0, 1292),
  (20, .iconst 0, 0, 0, 0, 0),
  (21, .iaload, 0, 0, 0, 0),
  (22, .ishl, 0, 0, 0, 0),
  (23, .iconst 1, 0, 0, 0, 0),
  (24, .isub, 0, 0, 0, 0),
  (25, .istore_n 2, 0, 0, 0, 0),
  (26, .iconst 0, 0, 0, 0, 0),
  (27, .istore_n 3, 0, 0, 0, 0),
  (28, .iload_n 3, 0, 0, 0, 0),
  (29, .bipush 7, 0, 0, 0, 0),
  (31, .if_icmp .ge 70, 0, 0, 0, 0),
  (34, .iconst 0, 0, 0, 0, 0),
  (35, .istore 4, 0, 0, 0, 0),
  (37, .iconst 0, 0, 0, 0, 0),
  (38, .istore 5, 0, 0, 0, 0),
  (40, .iload 5, 0, 0, 0, 0),
  (42, .aload_n 0, 0, 0, 0, 0),
  (43, .getfield 33, 9, 6, 0, 1292),
  (46, .iconst 0, 0, 0, 0, 0),
  (47, .iaload, 0, 0, 0, 0),
  (48, .if_icmp .ge 36, 0, 0, 0, 0),
  (51, .iload 4, 0, 0, 0, 0),
  (53, .iload_n 2, 0, 0, 0, 0),
  (54, .iload 5, 0, 0, 0, 0),
  (56, .invokestatic 226, 183, 2, 2, 1517),
  (59, .ifCond .eq 15, 0, 0, 0, 0),
  (62, .iconst 1, 0, 0, 0, 0),
  (63, .aload_n 0, 0, 0, 0, 0),
  (64, .iload_n 1, 0, 0, 0, 0),
  (65, .iload 5, 0, 0, 0, 0),
  (67, .invokevirtual 348, 237, 3, 0, 1733),
  (70, .ishl, 0, 0, 0, 0),
  (71, .goto 4, 0, 0, 0, 0),
  (74, .iconst 0, 0, 0, 0, 0),
  (75, .ior, 0, 0, 0, 0),
  (76, .istore 4, 0, 0, 0, 0),
  (78, .iinc 5 1, 0, 0, 0, 0),
  (81, .goto (-41), 0, 0, 0, 0),
  (84, .iload 4, 0, 0, 0, 0),
  (86, .iload_n 2, 0, 0, 0, 0),
  (87, .if_icmp .ne 5, 0, 0, 0, 0),
  (90, .iload_n 3, 0, 0, 0, 0),
  (91, .ireturn, 0, 0, 0, 0),
  (92, .iload 4, 0, 0, 0, 0),
  (94, .istore_n 2, 0, 0, 0, 0),
  (95, .iinc 3 1, 0, 0, 0, 0),
  (98, .goto (-70), 0, 0, 0, 0),
  (101, .iconst (-1), 0, 0, 0, 0),
  (102, .ireturn, 0, 0, 0, 0)])
def nm_239 : nM := (⟨"SlipHeirsModel", "cancel", "(II)I"⟩, prog_11_method_87_code, 6, some .int, [1744, 124, 1742, 1743], [
  (0, .aload_n 0, 0, 0, 0, 0),
  (1, .iconst 0, 0, 0, 0, 0),
  (2, .putfield 1, 9, 0, 0, 1286),
  (5, .aload_n 0, 0, 0, 0, 0),
  (6, .iload_n 1, 0, 0, 0, 0),
  (7, .invokevirtual 270, 195, 2, 0, 1564),
  (10, .ifCond .eq 8, 0, 0, 0, 0),
  (13, .iload_n 2, 0, 0, 0, 0),
  (14, .iconst (-1), 0, 0, 0, 0),
  (15, .if_icmp .ge 5, 0, 0, 0, 0),
  (18, .iconst (-1), 0, 0, 0, 0),
  (19, .ireturn, 0, 0, 0, 0),
  (20, .iconst 0, 0, 0, 0, 0),
  (21, .istore_n 3, 0, 0, 0, 0),
  (22, .iconst 0, 0, 0, 0, 0),
  (23, .istore 4, 0, 0, 0, 0),
  (25, .iload 4, 0, 0, 0, 0),
  (27, .aload_n 0, 0, 0, 0, 0),
  (28, .getfield 33, 9, 6, 0, 1292),
  (31, .iconst 2, 0, 0, 0, 0),
  (32, .iaload, 0, 0, 0, 0),
  (33, .if_icmp .ge 93, 0, 0, 0, 0),
  (36, .iload 4, 0, 0, 0, 0),
  (38, .iconst 1, 0, 0, 0, 0),
  (39, .iadd, 0, 0, 0, 0),
  (40, .istore 5, 0, 0, 0, 0),
  (42, .iload 5, 0, 0, 0, 0),
  (44, .aload_n 0, 0, 0, 0, 0),
  (45, .getfield 33, 9, 6, 0, 1292),
  (48, .iconst 2, 0, 0, 0, 0),
  (49, .iaload, 0, 0, 0, 0),
  (50, .if_icmp .ge 70, 0, 0, 0, 0),
  (53, .aload_n 0, 0, 0, 0, 0),
  (54, .iconst 1, 0, 0, 0, 0),
  (55, .iload 4, 0, 0, 0, 0),
  (57, .ishl, 0, 0, 0, 0),
  (58, .iconst 1, 0, 0, 0, 0),
  (59, .iload 5, 0, 0, 0, 0),
  (61, .ishl, 0, 0, 0, 0),
  (62, .ior, 0, 0, 0, 0),
  (63, .iload_n 1, 0, 0, 0, 0),
  (64, .invokevirtual 351, 240, 3, 0, 1745),
  (67, .ifCond .eq 47, 0, 0, 0, 0),
  (70, .aload_n 0, 0, 0, 0, 0),
  (71, .iconst 1, 0, 0, 0, 0),
  (72, .iload 4, 0, 0, 0, 0),
  (74, .ishl, 0, 0, 0, 0),
  (75, .iload_n 1, 0, 0, 0, 0),
  (76, .invokevirtual 351, 240, 3, 0, 1745),
  (79, .ifCond .eq 18, 0, 0, 0, 0),
  (82, .aload_n 0, 0, 0, 0, 0),
  (83, .iconst 1, 0, 0, 0, 0),
  (84, .iload 5, 0, 0, 0, 0),
  (86, .ishl, 0, 0, 0, 0),
  (87, .iload_n 1, 0, 0, 0, 0),
  (88, .invokevirtual 351, 240, 3, 0, 1745),
  (91, .ifCond .eq 6, 0, 0, 0, 0),
  (94, .goto 20, 0, 0, 0, 0),
  (97, .iload_n 3, 0, 0, 0, 0),
  (98, .iload_n 2, 0, 0, 0, 0),
  (99, .if_icmp .ne 12, 0, 0, 0, 0),
  (102, .bipush 10, 0, 0, 0, 0),
  (104, .iload 4, 0, 0, 0, 0),
  (106, .imul, 0, 0, 0, 0),
  (107, .iload 5, 0, 0, 0, 0),
  (109, .iadd, 0, 0, 0, 0),
  (110, .ireturn, 0, 0, 0, 0),
  (111, .iinc 3 1, 0, 0, 0, 0),
  (114, .iinc 5 1, 0, 0, 0, 0),
  (117, .goto (-75), 0, 0, 0, 0),
  (120, .iinc 4 1, 0, 0, 0, 0),
  (123, .goto (-98), 0, 0, 0, 0),
  (126, .iload_n 2, 0, 0, 0, 0),
  (127, .iconst (-1), 0, 0, 0, 0),
  (128, .if_icmp .ne 7, 0, 0, 0, 0),
  (131, .iload_n 3, 0, 0, 0, 0),
  (132, .goto 4, 0, 0, 0, 0),
  (135, .iconst (-1), 0, 0, 0, 0),
  (136, .ireturn, 0, 0, 0, 0)])
def nm_240 : nM := (⟨"SlipHeirsModel", "isRightBy", "(II)Z"⟩, prog_11_method_86_code, 4, some .boolean, [1748, 124, 1747, 96], [
  (0, .iconst 0, 0, 0, 0, 0),
  (1, .istore_n 3, 0, 0, 0, 0),
  (2, .iload_n 3, 0, 0, 0, 0),
  (3, .aload_n 0, 0, 0, 0, 0),
  (4, .getfield 33, 9, 6, 0, 1292),
  (7, .bipush 80, 0, 0, 0, 0),
  (9, .iload_n 2, 0, 0, 0, 0),
  (10, .iadd, 0, 0, 0, 0),
  (11, .iaload, 0, 0, 0, 0),
  (12, .if_icmp .ge 47, 0, 0, 0, 0),
  (15, .aload_n 0, 0, 0, 0, 0),
  (16, .iload_n 1, 0, 0, 0, 0),
  (17, .aload_n 0, 0, 0, 0, 0),
  (18, .getfield 33, 9, 6, 0, 1292),
  (21, .bipush 84, 0, 0, 0, 0),
  (23, .bipush 12, 0, 0, 0, 0),
  (25, .iload_n 2, 0, 0, 0, 0),
  (26, .imul, 0, 0, 0, 0),
  (27, .iadd, 0, 0, 0, 0),
  (28, .iload_n 3, 0, 0, 0, 0),
  (29, .iadd, 0, 0, 0, 0),
  (30, .iaload, 0, 0, 0, 0),
  (31, .invokevirtual 348, 237, 3, 0, 1733),
  (34, .aload_n 0, 0, 0, 0, 0),
  (35, .getfield 33, 9, 6, 0, 1292),
  (38, .bipush 84, 0, 0, 0, 0),
  (40, .bipush 12, 0, 0, 0, 0),
  (42, .iload_n 2, 0, 0, 0, 0),
  (43, .imul, 0, 0, 0, 0),
  (44, .iadd, 0, 0, 0, 0),
  (45, .iload_n 3, 0, 0, 0, 0),
  (46, .iadd, 0, 0, 0, 0),
  (47, .iaload, 0, 0, 0, 0),
  (48, .if_icmp .eq 5, 0, 0, 0, 0),
  (51, .iconst 0, 0, 0, 0, 0),
  (52, .ireturn, 0, 0, 0, 0),
  (53, .iinc 3 1, 0, 0, 0, 0),
  (56, .goto (-54), 0, 0, 0, 0),
  (59, .iconst 1, 0, 0, 0, 0),
  (60, .ireturn, 0, 0, 0, 0)])
def nm_241 : nM := (⟨"SlipHeirsModel", "under", "(I)I"⟩, prog_11_method_88_code, 2, some .int, [1752, 124, 1750, 1751], [
  (0, .aload_n 0, 0, 0, 0, 0),
  (1, .iconst 0, 0, 0, 0, 0),
  (2, .putfield 1, 9, 0, 0, 1286),
  (5, .aload_n 0, 0, 0, 0, 0),
  (6, .iload_n 1, 0, 0, 0, 0),
  (7, .invokevirtual 250, 187, 2, 0, 1532),
  (10, .ifCond .eq 11, 0, 0, 0, 0),
  (13, .aload_n 0, 0, 0, 0, 0),
  (14, .iload_n 1, 0, 0, 0, 0),
  (15, .invokevirtual 283, 208, 2, 0, 1616),
  (18, .goto 4, 0, 0, 0, 0),
  (21, .iconst (-1), 0, 0, 0, 0),
  (22, .ireturn, 0, 0, 0, 0)])
def nm_242 : nM := (⟨"SlipHeirsModel", "common", "(II)I"⟩, prog_11_method_89_code, 4, some .int, [1756, 124, 1754, 1755], [
  (0, .aload_n 0, 0, 0, 0, 0),
  (1, .iconst 0, 0, 0, 0, 0),
  (2, .putfield 1, 9, 0, 0, 1286),
  (5, .aload_n 0, 0, 0, 0, 0),
  (6, .iload_n 1, 0, 0, 0, 0),
  (7, .invokevirtual 250, 187, 2, 0, 1532),
  (10, .ifCond .eq 11, 0, 0, 0, 0),
  (13, .aload_n 0, 0, 0, 0, 0),
  (14, .iload_n 2, 0, 0, 0, 0),
  (15, .invokevirtual 250, 187, 2, 0, 1532),
  (18, .ifCond .ne 5, 0, 0, 0, 0),
  (21, .iconst (-1), 0, 0, 0, 0),
  (22, .ireturn, 0, 0, 0, 0),
  (23, .iload_n 1, 0, 0, 0, 0),
  (24, .istore_n 3, 0, 0, 0, 0),
  (25, .iload_n 3, 0, 0, 0, 0),
  (26, .ifCond .lt 37, 0, 0, 0, 0),
  (29, .iload_n 3, 0, 0, 0, 0),
  (30, .iload_n 2, 0, 0, 0, 0),
  (31, .if_icmp .eq 15, 0, 0, 0, 0),
  (34, .aload_n 0, 0, 0, 0, 0),
  (35, .iload_n 3, 0, 0, 0, 0),
  (36, .invokevirtual 283, 208, 2, 0, 1616),
  (39, .iload_n 2, 0, 0, 0, 0),
  (40, .invokestatic 226, 183, 2, 2, 1517),
  (43, .ifCond .eq 5, 0, 0, 0, 0),
  (46, .iload_n 3, 0, 0, 0, 0),
  (47, .ireturn, 0, 0, 0, 0),
  (48, .aload_n 0, 0, 0, 0, 0),
  (49, .getfield 33, 9, 6, 0, 1292),
  (52, .bipush 14, 0, 0, 0, 0),
  (54, .iload_n 3, 0, 0, 0, 0),
  (55, .iadd, 0, 0, 0, 0),
  (56, .iaload, 0, 0, 0, 0),
  (57, .iconst 1, 0, 0, 0, 0),
  (58, .isub, 0, 0, 0, 0),
  (59, .istore_n 3, 0, 0, 0, 0),
  (60, .goto (-35), 0, 0, 0, 0),
  (63, .iconst (-1), 0, 0, 0, 0),
  (64, .ireturn, 0, 0, 0, 0)])
def nm_243 : nM := (⟨"SlipHeirsModel", "drawn", "(II)I"⟩, prog_11_method_92_code, 3, some .int, [1760, 124, 1758, 1759], [
  (0, .aload_n 0, 0, 0, 0, 0),
  (1, .iconst 0, 0, 0, 0, 0),
  (2, .putfield 1, 9, 0, 0, 1286),
  (5, .iload_n 1, 0, 0, 0, 0),
  (6, .iconst 1, 0, 0, 0, 0),
  (7, .bipush 60, 0, 0, 0, 0),
  (9, .invokestatic 182, 176, 3, 2, 1490),
  (12, .ifCond .eq 19, 0, 0, 0, 0),
  (15, .aload_n 0, 0, 0, 0, 0),
  (16, .getfield 33, 9, 6, 0, 1292),
  (19, .sipush 132, 0, 0, 0, 0),
  (22, .iaload, 0, 0, 0, 0),
  (23, .iload_n 1, 0, 0, 0, 0),
  (24, .iadd, 0, 0, 0, 0),
  (25, .sipush 999, 0, 0, 0, 0),
  (28, .if_icmp .le 5, 0, 0, 0, 0),
  (31, .iconst (-1), 0, 0, 0, 0),
  (32, .ireturn, 0, 0, 0, 0),
  (33, .aload_n 0, 0, 0, 0, 0),
  (34, .invokevirtual 295, 198, 1, 0, 1576),
  (37, .aload_n 0, 0, 0, 0, 0),
  (38, .iload_n 1, 0, 0, 0, 0),
  (39, .iload_n 2, 0, 0, 0, 0),
  (40, .invokevirtual 361, 244, 3, 0, 1761),
  (43, .aload_n 0, 0, 0, 0, 0),
  (44, .getfield 33, 9, 6, 0, 1292),
  (47, .sipush 132, 0, 0, 0, 0),
  (50, .iaload, 0, 0, 0, 0),
  (51, .ireturn, 0, 0, 0, 0)])
def nm_244 : nM := (⟨"SlipHeirsModel", "draws", "(II)V"⟩, prog_11_method_91_code, 5, none, [1764, 124, 1763, 97], [
  (0, .aload_n 0, 0, 0, 0, 0),
  (1, .iload_n 2, 0, 0, 0, 0),
  (2, .putfield 354, 9, 34, 0, 1320),
  (5, .iconst 0, 0, 0, 0, 0),
  (6, .istore_n 3, 0, 0, 0, 0),
  (7, .iload_n 3, 0, 0, 0, 0),
  (8, .iload_n 1, 0, 0, 0, 0),
  (9, .if_icmp .ge 102, 0, 0, 0, 0),
  (12, .iconst 0, 0, 0, 0, 0),
  (13, .istore 4, 0, 0, 0, 0),
  (15, .iload 4, 0, 0, 0, 0),
  (17, .aload_n 0, 0, 0, 0, 0),
  (18, .getfield 33, 9, 6, 0, 1292),
  (21, .iconst 1, 0, 0, 0, 0),
  (22, .iaload, 0, 0, 0, 0),
  (23, .if_icmp .ge 70, 0, 0, 0, 0),
  (26, .aload_n 0, 0, 0, 0, 0),
  (27, .iload 4, 0, 0, 0, 0),
  (29, .invokevirtual 253, 189, 2, 0, 1540),
  (32, .ifCond .eq 6, 0, 0, 0, 0),
  (35, .goto 52, 0, 0, 0, 0),
  (38, .aload_n 0, 0, 0, 0, 0),
  (39, .bipush 6, 0, 0, 0, 0),
  (41, .invokevirtual 358, 245, 2, 0, 1765),
  (44, .ifCond .ne 28, 0, 0, 0, 0),
  (47, .aload_n 0, 0, 0, 0, 0),
  (48, .getfield 33, 9, 6, 0, 1292),
  (51, .iconst 3, 0, 0, 0, 0),
  (52, .iaload, 0, 0, 0, 0),
  (53, .ifCond .le 19, 0, 0, 0, 0),
  (56, .aload_n 0, 0, 0, 0, 0),
  (57, .iload 4, 0, 0, 0, 0),
  (59, .aload_n 0, 0, 0, 0, 0),
  (60, .aload_n 0, 0, 0, 0, 0),
  (61, .getfield 33, 9, 6, 0, 1292),
  (64, .iconst 3, 0, 0, 0, 0),
  (65, .iaload, 0, 0, 0, 0),
  (66, .invokevirtual 358, 245, 2, 0, 1765),
  (69, .invokevirtual 298, 199, 3, 0, 1580),
  (72, .aload_n 0, 0, 0, 0, 0),
  (73, .bipush 40, 0, 0, 0, 0),
  (75, .invokevirtual 358, 245, 2, 0, 1765),
  (78, .ifCond .ne 9, 0, 0, 0, 0),
  (81, .aload_n 0, 0, 0, 0, 0),
  (82, .iload 4, 0, 0, 0, 0),
  (84, .invokevirtual 301, 204, 2, 0, 1600),
  (87, .iinc 4 1, 0, 0, 0, 0),
  (90, .goto (-75), 0, 0, 0, 0),
  (93, .aload_n 0, 0, 0, 0, 0),
  (94, .getfield 33, 9, 6, 0, 1292),
  (97, .sipush 132, 0, 0, 0, 0),
  (100, .dup2, 0, 0, 0, 0),
  (101, .iaload, 0, 0, 0, 0),
  (102, .iconst 1, 0, 0, 0, 0),
  (103, .iadd, 0, 0, 0, 0),
  (104, .iastore, 0, 0, 0, 0),
  (105, .iinc 3 1, 0, 0, 0, 0),
  (108, .goto (-101), 0, 0, 0, 0),
  (111, .return_, 0, 0, 0, 0)])
def nm_245 : nM := (⟨"SlipHeirsModel", "draw", "(I)I"⟩, prog_11_method_90_code, 2, some .int, [1768, 124, 1767, 98], [
  (0, .aload_n 0, 0, 0, 0, 0),
  (1, .aload_n 0, 0, 0, 0, 0),
  (2, .getfield 354, 9, 34, 0, 1320),
  (5, .ldc_w 357, 0, 0, 1103515245, 1769),
  (8, .imul, 0, 0, 0, 0),
  (9, .sipush 12345, 0, 0, 0, 0),
  (12, .iadd, 0, 0, 0, 0),
  (13, .putfield 354, 9, 34, 0, 1320),
  (16, .aload_n 0, 0, 0, 0, 0),
  (17, .getfield 354, 9, 34, 0, 1320),
  (20, .bipush 8, 0, 0, 0, 0),
  (22, .iushr, 0, 0, 0, 0),
  (23, .iload_n 1, 0, 0, 0, 0),
  (24, .irem, 0, 0, 0, 0),
  (25, .ireturn, 0, 0, 0, 0)])
def nm_246 : nM := (⟨"SlipHeirsModel", "odds", "(III)I"⟩, prog_11_method_93_code, 6, some .int, [1773, 124, 1771, 1772], [
  (0, .aload_n 0, 0, 0, 0, 0),
  (1, .iconst 0, 0, 0, 0, 0),
  (2, .putfield 1, 9, 0, 0, 1286),
  (5, .aload_n 0, 0, 0, 0, 0),
  (6, .iload_n 1, 0, 0, 0, 0),
  (7, .invokevirtual 267, 193, 2, 0, 1556),
  (10, .ifCond .eq 30, 0, 0, 0, 0),
  (13, .iload_n 2, 0, 0, 0, 0),
  (14, .iconst 1, 0, 0, 0, 0),
  (15, .bipush 40, 0, 0, 0, 0),
  (17, .invokestatic 182, 176, 3, 2, 1490),
  (20, .ifCond .eq 20, 0, 0, 0, 0),
  (23, .aload_n 0, 0, 0, 0, 0),
  (24, .getfield 33, 9, 6, 0, 1292),
  (27, .sipush 132, 0, 0, 0, 0),
  (30, .iaload, 0, 0, 0, 0),
  (31, .bipush 30, 0, 0, 0, 0),
  (33, .iadd, 0, 0, 0, 0),
  (34, .sipush 999, 0, 0, 0, 0),
  (37, .if_icmp .le 5, 0, 0, 0, 0),
  (40, .iconst (-1), 0, 0, 0, 0),
  (41, .ireturn, 0, 0, 0, 0),
  (42, .aload_n 0, 0, 0, 0, 0),
  (43, .invokevirtual 310, 216, 1, 0, 1648),
  (46, .iconst 0, 0, 0, 0, 0),
  (47, .istore 4, 0, 0, 0, 0),
  (49, .iconst 0, 0, 0, 0, 0),
  (50, .istore 5, 0, 0, 0, 0),
  (52, .iload 5, 0, 0, 0, 0),
  (54, .iload_n 2, 0, 0, 0, 0),
  (55, .if_icmp .ge 47, 0, 0, 0, 0),
  (58, .aload_n 0, 0, 0, 0, 0),
  (59, .bipush 30, 0, 0, 0, 0),
  (61, .iload_n 3, 0, 0, 0, 0),
  (62, .iload 5, 0, 0, 0, 0),
  (64, .iadd, 0, 0, 0, 0),
  (65, .invokevirtual 361, 244, 3, 0, 1761),
  (68, .iload 4, 0, 0, 0, 0),
  (70, .aload_n 0, 0, 0, 0, 0),
  (71, .getfield 33, 9, 6, 0, 1292),
  (74, .sipush 138, 0, 0, 0, 0),
  (77, .iload_n 1, 0, 0, 0, 0),
  (78, .iadd, 0, 0, 0, 0),
  (79, .iaload, 0, 0, 0, 0),
  (80, .iconst (-1), 0, 0, 0, 0),
  (81, .if_icmp .ne 7, 0, 0, 0, 0),
  (84, .iconst 1, 0, 0, 0, 0),
  (85, .goto 4, 0, 0, 0, 0),
  (88, .iconst 0, 0, 0, 0, 0),
  (89, .iadd, 0, 0, 0, 0),
  (90, .istore 4, 0, 0, 0, 0),
  (92, .aload_n 0, 0, 0, 0, 0),
  (93, .invokevirtual 313, 217, 1, 0, 1652),
  (96, .iinc 5 1, 0, 0, 0, 0),
  (99, .goto (-47), 0, 0, 0, 0),
  (102, .iload 4, 0, 0, 0, 0),
  (104, .ireturn, 0, 0, 0, 0)])
def nm_247 : nM := (⟨"SlipHeirsModel", "chronicle", "(I)I"⟩, prog_11_method_96_code, 5, some .int, [1777, 124, 1775, 1776], [
  (0, .aload_n 0, 0, 0, 0, 0),
  (1, .iconst 0, 0, 0, 0, 0),
  (2, .putfield 1, 9, 0, 0, 1286),
  (5, .iload_n 1, 0, 0, 0, 0),
  (6, .iconst 0, 0, 0, 0, 0),
  (7, .iconst 1, 0, 0, 0, 0),
  (8, .invokestatic 182, 176, 3, 2, 1490),
  (11, .ifCond .ne 7, 0, 0, 0, 0),
  (14, .sipush (-1000), 0, 0, 0, 0),
  (17, .ireturn, 0, 0, 0, 0),
  (18, .aload_n 0, 0, 0, 0, 0),
  (19, .sipush 400, 0, 0, 0, 0),
  (22, .invokevirtual 235, 162, 2, 0, 1436),
  (25, .aload_n 0, 0, 0, 0, 0),
  (26, .iconst 0, 0, 0, 0, 0),
  (27, .putfield 167, 9, 15, 0, 1301),
  (30, .aload_n 0, 0, 0, 0, 0),
  (31, .iconst 0, 0, 0, 0, 0),
  (32, .putfield 364, 9, 35, 0, 1321),
  (35, .aload_n 0, 0, 0, 0, 0),
  (36, .invokevirtual 179, 163, 1, 0, 1440),
  (39, .aload_n 0, 0, 0, 0, 0),
  (40, .getfield 150, 9, 11, 0, 1297),
  (43, .ifCond .eq 40, 0, 0, 0, 0),
  (46, .aload_n 0, 0, 0, 0, 0),
  (47, .invokevirtual 367, 248, 1, 0, 1778),
  (50, .ifCond .eq 12, 0, 0, 0, 0),
  (53, .aload_n 0, 0, 0, 0, 0),
  (54, .bipush 59, 0, 0, 0, 0),
  (56, .invokevirtual 244, 184, 2, 0, 1520),
  (59, .ifCond .ne 11, 0, 0, 0, 0),
  (62, .bipush (-2), 0, 0, 0, 0),
  (64, .aload_n 0, 0, 0, 0, 0),
  (65, .getfield 170, 9, 16, 0, 1302),
  (68, .isub, 0, 0, 0, 0),
  (69, .ireturn, 0, 0, 0, 0),
  (70, .aload_n 0, 0, 0, 0, 0),
  (71, .dup, 0, 0, 0, 0),
  (72, .getfield 364, 9, 35, 0, 1321),
  (75, .iconst 1, 0, 0, 0, 0),
  (76, .iadd, 0, 0, 0, 0),
  (77, .putfield 364, 9, 35, 0, 1321),
  (80, .goto (-41), 0, 0, 0, 0),
  (83, .aload_n 0, 0, 0, 0, 0),
  (84, .invokevirtual 310, 216, 1, 0, 1648),
  (87, .iconst 0, 0, 0, 0, 0),
  (88, .istore_n 2, 0, 0, 0, 0),
  (89, .iload_n 2, 0, 0, 0, 0),
  (90, .iconst 4, 0, 0, 0, 0),
  (91, .if_icmp .ge 16, 0, 0, 0, 0),
  (94, .aload_n 0, 0, 0, 0, 0),
  (95, .getfield 74, 9, 36, 0, 1322),
  (98, .iload_n 2, 0, 0, 0, 0),
  (99, .iconst 0, 0, 0, 0, 0),
  (100, .iastore, 0, 0, 0, 0),
  (101, .iinc 2 1, 0, 0, 0, 0),
  (104, .goto (-15), 0, 0, 0, 0),
  (107, .aload_n 0, 0, 0, 0, 0),
  (108, .getfield 33, 9, 6, 0, 1292),
  (111, .sipush 133, 0, 0, 0, 0),
  (114, .iaload, 0, 0, 0, 0),
  (115, .istore_n 2, 0, 0, 0, 0),
  (116, .iconst (-1), 0, 0, 0, 0),
  (117, .istore_n 3, 0, 0, 0, 0),
  (118, .iconst 0, 0, 0, 0, 0),
  (119, .istore 4, 0, 0, 0, 0),
  (121, .iload 4, 0, 0, 0, 0),
  (123, .aload_n 0, 0, 0, 0, 0),
  (124, .getfield 364, 9, 35, 0, 1321),
  (127, .if_icmp .ge 79, 0, 0, 0, 0),
  (130, .iload_n 3, 0, 0, 0, 0),
  (131, .ifCond .ge 75, 0, 0, 0, 0),
  (134, .aload_n 0, 0, 0, 0, 0),
  (135, .getfield 74, 9, 36, 0, 1322),
  (138, .iconst 0, 0, 0, 0, 0),
  (139, .aload_n 0, 0, 0, 0, 0),
  (140, .aload_n 0, 0, 0, 0, 0),
  (141, .getfield 40, 9, 8, 0, 1294),
  (144, .iconst 3, 0, 0, 0, 0),
  (145, .iload 4, 0, 0, 0, 0),
  (147, .imul, 0, 0, 0, 0),
  (148, .iaload, 0, 0, 0, 0),
  (149, .aload_n 0, 0, 0, 0, 0),
  (150, .getfield 40, 9, 8, 0, 1294),
  (153, .iconst 3, 0, 0, 0, 0),
  (154, .iload 4, 0, 0, 0, 0),
  (156, .imul, 0, 0, 0, 0),
  (157, .iconst 1, 0, 0, 0, 0),
  (158, .iadd, 0, 0, 0, 0),
  (159, .iaload, 0, 0, 0, 0),
  (160, .aload_n 0, 0, 0, 0, 0),
  (161, .getfield 40, 9, 8, 0, 1294),
  (164, .iconst 3, 0, 0, 0, 0),
  (165, .iload 4, 0, 0, 0, 0),
  (167, .imul, 0, 0, 0, 0),
  (168, .iconst 2, 0, 0, 0, 0),
  (169, .iadd, 0, 0, 0, 0),
  (170, .iaload, 0, 0, 0, 0),
  (171, .invokevirtual 370, 249, 4, 0, 1782),
  (174, .iastore, 0, 0, 0, 0),
  (175, .aload_n 0, 0, 0, 0, 0),
  (176, .getfield 74, 9, 36, 0, 1322),
  (179, .iconst 0, 0, 0, 0, 0),
  (180, .iaload, 0, 0, 0, 0),
  (181, .ifCond .le 9, 0, 0, 0, 0),
  (184, .iload 4, 0, 0, 0, 0),
  (186, .istore_n 3, 0, 0, 0, 0),
  (187, .goto 13, 0, 0, 0, 0),
  (190, .aload_n 0, 0, 0, 0, 0),
  (191, .getfield 74, 9, 36, 0, 1322),
  (194, .iconst 1, 0, 0, 0, 0),
  (195, .dup2, 0, 0, 0, 0),
  (196, .iaload, 0, 0, 0, 0),
  (197, .iconst 1, 0, 0, 0, 0),
  (198, .iadd, 0, 0, 0, 0),
  (199, .iastore, 0, 0, 0, 0),
  (200, .iinc 4 1, 0, 0, 0, 0),
  (203, .goto (-82), 0, 0, 0, 0),
  (206, .aload_n 0, 0, 0, 0, 0),
  (207, .getfield 74, 9, 36, 0, 1322),
  (210, .iconst 2, 0, 0, 0, 0),
  (211, .aload_n 0, 0, 0, 0, 0),
  (212, .getfield 33, 9, 6, 0, 1292),
  (215, .sipush 132, 0, 0, 0, 0),
  (218, .iaload, 0, 0, 0, 0),
  (219, .iastore, 0, 0, 0, 0),
  (220, .aload_n 0, 0, 0, 0, 0),
  (221, .getfield 74, 9, 36, 0, 1322),
  (224, .iconst 3, 0, 0, 0, 0),
  (225, .aload_n 0, 0, 0, 0, 0),
  (226, .getfield 33, 9, 6, 0, 1292),
  (229, .sipush 133, 0, 0, 0, 0),
  (232, .iaload, 0, 0, 0, 0),
  (233, .iload_n 2, 0, 0, 0, 0),
  (234, .isub, 0, 0, 0, 0),
  (235, .iastore, 0, 0, 0, 0),
  (236, .aload_n 0, 0, 0, 0, 0),
  (237, .iconst 1, 0, 0, 0, 0),
  (238, .putfield 374, 9, 37, 0, 1323),
  (241, .iload_n 1, 0, 0, 0, 0),
  (242, .iconst 1, 0, 0, 0, 0),
  (243, .if_icmp .ne 56, 0, 0, 0, 0),
  (246, .aload_n 0, 0, 0, 0, 0),
  (247, .getfield 74, 9, 36, 0, 1322),
  (250, .iconst 1, 0, 0, 0, 0),
  (251, .iaload, 0, 0, 0, 0),
  (252, .ifCond .le 47, 0, 0, 0, 0),
  (255, .aload_n 0, 0, 0, 0, 0),
  (256, .invokevirtual 295, 198, 1, 0, 1576),
  (259, .iconst 0, 0, 0, 0, 0),
  (260, .istore 4, 0, 0, 0, 0),
  (262, .iload 4, 0, 0, 0, 0),
  (264, .bipush 47, 0, 0, 0, 0),
  (266, .if_icmp .ge 33, 0, 0, 0, 0),
  (269, .aload_n 0, 0, 0, 0, 0),
  (270, .getfield 53, 9, 22, 0, 1308),
  (273, .bipush 47, 0, 0, 0, 0),
  (275, .aload_n 0, 0, 0, 0, 0),
  (276, .getfield 247, 9, 24, 0, 1310),
  (279, .iconst 1, 0, 0, 0, 0),
  (280, .isub, 0, 0, 0, 0),
  (281, .imul, 0, 0, 0, 0),
  (282, .iload 4, 0, 0, 0, 0),
  (284, .iadd, 0, 0, 0, 0),
  (285, .aload_n 0, 0, 0, 0, 0),
  (286, .getfield 56, 9, 23, 0, 1309),
  (289, .iload 4, 0, 0, 0, 0),
  (291, .iaload, 0, 0, 0, 0),
  (292, .iastore, 0, 0, 0, 0),
  (293, .iinc 4 1, 0, 0, 0, 0),
  (296, .goto (-34), 0, 0, 0, 0),
  (299, .iload_n 1, 0, 0, 0, 0),
  (300, .ifCond .ne 7, 0, 0, 0, 0),
  (303, .aload_n 0, 0, 0, 0, 0),
  (304, .invokevirtual 313, 217, 1, 0, 1652),
  (307, .iload_n 3, 0, 0, 0, 0),
  (308, .ireturn, 0, 0, 0, 0)])
def nm_248 : nM := (⟨"SlipHeirsModel", "tellsLine", "()Z"⟩, prog_11_method_94_code, 2, some .boolean, [1781, 124, 1780, 99], [
  (0, .iconst 3, 0, 0, 0, 0),
  (1, .aload_n 0, 0, 0, 0, 0),
  (2, .getfield 364, 9, 35, 0, 1321),
  (5, .imul, 0, 0, 0, 0),
  (6, .istore_n 1, 0, 0, 0, 0),
  (7, .aload_n 0, 0, 0, 0, 0),
  (8, .ldc2_w 113, 0, 0, 2036687218, 1270),
  (11, .invokevirtual 204, 168, 2, 0, 1458),
  (14, .ifCond .eq 55, 0, 0, 0, 0),
  (17, .aload_n 0, 0, 0, 0, 0),
  (18, .getfield 364, 9, 35, 0, 1321),
  (21, .bipush 40, 0, 0, 0, 0),
  (23, .if_icmp .ne 9, 0, 0, 0, 0),
  (26, .aload_n 0, 0, 0, 0, 0),
  (27, .iconst 4, 0, 0, 0, 0),
  (28, .invokevirtual 176, 169, 2, 0, 1462),
  (31, .ireturn, 0, 0, 0, 0),
  (32, .aload_n 0, 0, 0, 0, 0),
  (33, .invokevirtual 179, 163, 1, 0, 1440),
  (36, .aload_n 0, 0, 0, 0, 0),
  (37, .iconst 1, 0, 0, 0, 0),
  (38, .bipush 99, 0, 0, 0, 0),
  (40, .invokevirtual 189, 175, 3, 0, 1486),
  (43, .ifCond .ne 5, 0, 0, 0, 0),
  (46, .iconst 0, 0, 0, 0, 0),
  (47, .ireturn, 0, 0, 0, 0),
  (48, .aload_n 0, 0, 0, 0, 0),
  (49, .getfield 40, 9, 8, 0, 1294),
  (52, .iload_n 1, 0, 0, 0, 0),
  (53, .iconst 3, 0, 0, 0, 0),
  (54, .iastore, 0, 0, 0, 0),
  (55, .aload_n 0, 0, 0, 0, 0),
  (56, .getfield 40, 9, 8, 0, 1294),
  (59, .iload_n 1, 0, 0, 0, 0),
  (60, .iconst 1, 0, 0, 0, 0),
  (61, .iadd, 0, 0, 0, 0),
  (62, .aload_n 0, 0, 0, 0, 0),
  (63, .getfield 186, 9, 18, 0, 1304),
  (66, .iastore, 0, 0, 0, 0),
  (67, .iconst 1, 0, 0, 0, 0),
  (68, .ireturn, 0, 0, 0, 0),
  (69, .aload_n 0, 0, 0, 0, 0),
  (70, .ldc2_w 111, 0, 0, 444150998387, 1269),
  (73, .invokevirtual 204, 168, 2, 0, 1458),
  (76, .ifCond .eq 97, 0, 0, 0, 0),
  (79, .aload_n 0, 0, 0, 0, 0),
  (80, .getfield 364, 9, 35, 0, 1321),
  (83, .bipush 40, 0, 0, 0, 0),
  (85, .if_icmp .ne 9, 0, 0, 0, 0),
  (88, .aload_n 0, 0, 0, 0, 0),
  (89, .iconst 4, 0, 0, 0, 0),
  (90, .invokevirtual 176, 169, 2, 0, 1462),
  (93, .ireturn, 0, 0, 0, 0),
  (94, .aload_n 0, 0, 0, 0, 0),
  (95, .invokevirtual 179, 163, 1, 0, 1440),
  (98, .aload_n 0, 0, 0, 0, 0),
  (99, .bipush 16, 0, 0, 0, 0),
  (101, .aload_n 0, 0, 0, 0, 0),
  (102, .getfield 33, 9, 6, 0, 1292),
  (105, .iconst 2, 0, 0, 0, 0),
  (106, .iaload, 0, 0, 0, 0),
  (107, .invokevirtual 201, 178, 3, 0, 1497),
  (110, .ifCond .ne 5, 0, 0, 0, 0),
  (113, .iconst 0, 0, 0, 0, 0),
  (114, .ireturn, 0, 0, 0, 0),
  (115, .aload_n 0, 0, 0, 0, 0),
  (116, .getfield 40, 9, 8, 0, 1294),
  (119, .iload_n 1, 0, 0, 0, 0),
  (120, .iconst 2, 0, 0, 0, 0),
  (121, .iastore, 0, 0, 0, 0),
  (122, .aload_n 0, 0, 0, 0, 0),
  (123, .getfield 40, 9, 8, 0, 1294),
  (126, .iload_n 1, 0, 0, 0, 0),
  (127, .iconst 1, 0, 0, 0, 0),
  (128, .iadd, 0, 0, 0, 0),
  (129, .aload_n 0, 0, 0, 0, 0),
  (130, .getfield 186, 9, 18, 0, 1304),
  (133, .iastore, 0, 0, 0, 0),
  (134, .aload_n 0, 0, 0, 0, 0),
  (135, .invokevirtual 179, 163, 1, 0, 1440),
  (138, .aload_n 0, 0, 0, 0, 0),
  (139, .bipush 6, 0, 0, 0, 0),
  (141, .aload_n 0, 0, 0, 0, 0),
  (142, .getfield 33, 9, 6, 0, 1292),
  (145, .iconst 1, 0, 0, 0, 0),
  (146, .iaload, 0, 0, 0, 0),
  (147, .invokevirtual 201, 178, 3, 0, 1497),
  (150, .ifCond .ne 5, 0, 0, 0, 0),
  (153, .iconst 0, 0, 0, 0, 0),
  (154, .ireturn, 0, 0, 0, 0),
  (155, .aload_n 0, 0, 0, 0, 0),
  (156, .getfield 40, 9, 8, 0, 1294),
  (159, .iload_n 1, 0, 0, 0, 0),
  (160, .iconst 2, 0, 0, 0, 0),
  (161, .iadd, 0, 0, 0, 0),
  (162, .aload_n 0, 0, 0, 0, 0),
  (163, .getfield 186, 9, 18, 0, 1304),
  (166, .iastore, 0, 0, 0, 0),
  (167, .aload_n 0, 0, 0, 0, 0),
  (168, .invokevirtual 179, 163, 1, 0, 1440),
  (171, .iconst 1, 0, 0, 0, 0),
  (172, .ireturn, 0, 0, 0, 0),
  (173, .aload_n 0, 0, 0, 0, 0),
  (174, .bipush 6, 0, 0, 0, 0),
  (176, .aload_n 0, 0, 0, 0, 0),
  (177, .getfield 33, 9, 6, 0, 1292),
  (180, .iconst 1, 0, 0, 0, 0),
  (181, .iaload, 0, 0, 0, 0),
  (182, .invokevirtual 201, 178, 3, 0, 1497),
  (185, .ifCond .ne 5, 0, 0, 0, 0),
  (188, .iconst 0, 0, 0, 0, 0),
  (189, .ireturn, 0, 0, 0, 0),
  (190, .aload_n 0, 0, 0, 0, 0),
  (191, .getfield 364, 9, 35, 0, 1321),
  (194, .bipush 40, 0, 0, 0, 0),
  (196, .if_icmp .ne 9, 0, 0, 0, 0),
  (199, .aload_n 0, 0, 0, 0, 0),
  (200, .iconst 4, 0, 0, 0, 0),
  (201, .invokevirtual 176, 169, 2, 0, 1462),
  (204, .ireturn, 0, 0, 0, 0),
  (205, .aload_n 0, 0, 0, 0, 0),
  (206, .getfield 40, 9, 8, 0, 1294),
  (209, .iload_n 1, 0, 0, 0, 0),
  (210, .iconst 1, 0, 0, 0, 0),
  (211, .iadd, 0, 0, 0, 0),
  (212, .aload_n 0, 0, 0, 0, 0),
  (213, .getfield 186, 9, 18, 0, 1304),
  (216, .iastore, 0, 0, 0, 0),
  (217, .aload_n 0, 0, 0, 0, 0),
  (218, .invokevirtual 179, 163, 1, 0, 1440),
  (221, .aload_n 0, 0, 0, 0, 0),
  (222, .ldc2_w 107, 0, 0, 1685022067, 1267),
  (225, .invokevirtual 204, 168, 2, 0, 1458),
  (228, .ifCond .ne 19, 0, 0, 0, 0),
  (231, .aload_n 0, 0, 0, 0, 0),
  (232, .ldc2_w 109, 0, 0, 1684628851, 1268),
  (235, .invokevirtual 204, 168, 2, 0, 1458),
  (238, .ifCond .ne 9, 0, 0, 0, 0),
  (241, .aload_n 0, 0, 0, 0, 0),
  (242, .iconst 1, 0, 0, 0, 0),
  (243, .invokevirtual 176, 169, 2, 0, 1462),
  (246, .ireturn, 0, 0, 0, 0),
  (247, .aload_n 0, 0, 0, 0, 0),
  (248, .getfield 40, 9, 8, 0, 1294),
  (251, .iload_n 1, 0, 0, 0, 0),
  (252, .aload_n 0, 0, 0, 0, 0),
  (253, .ldc2_w 107, 0, 0, 1685022067, 1267),
  (256, .invokevirtual 204, 168, 2, 0, 1458),
  (259, .ifCond .eq 7, 0, 0, 0, 0),
  (262, .iconst 0, 0, 0, 0, 0),
  (263, .goto 4, 0, 0, 0, 0),
  (266, .iconst 1, 0, 0, 0, 0),
  (267, .iastore, 0, 0, 0, 0),
  (268, .aload_n 0, 0, 0, 0, 0),
  (269, .invokevirtual 179, 163, 1, 0, 1440),
  (272, .aload_n 0, 0, 0, 0, 0),
  (273, .getfield 40, 9, 8, 0, 1294),
  (276, .iload_n 1, 0, 0, 0, 0),
  (277, .iaload, 0, 0, 0, 0),
  (278, .iconst 1, 0, 0, 0, 0),
  (279, .if_icmp .ne 5, 0, 0, 0, 0),
  (282, .iconst 1, 0, 0, 0, 0),
  (283, .ireturn, 0, 0, 0, 0),
  (284, .aload_n 0, 0, 0, 0, 0),
  (285, .bipush 22, 0, 0, 0, 0),
  (287, .aload_n 0, 0, 0, 0, 0),
  (288, .getfield 33, 9, 6, 0, 1292),
  (291, .iconst 3, 0, 0, 0, 0),
  (292, .iaload, 0, 0, 0, 0),
  (293, .invokevirtual 201, 178, 3, 0, 1497),
  (296, .ifCond .ne 5, 0, 0, 0, 0),
  (299, .iconst 0, 0, 0, 0, 0),
  (300, .ireturn, 0, 0, 0, 0),
  (301, .aload_n 0, 0, 0, 0, 0),
  (302, .getfield 40, 9, 8, 0, 1294),
  (305, .iload_n 1, 0, 0, 0, 0),
  (306, .iconst 2, 0, 0, 0, 0),
  (307, .iadd, 0, 0, 0, 0),
  (308, .aload_n 0, 0, 0, 0, 0),
  (309, .getfield 186, 9, 18, 0, 1304),
  (312, .iastore, 0, 0, 0, 0),
  (313, .aload_n 0, 0, 0, 0, 0),
  (314, .invokevirtual 179, 163, 1, 0, 1440),
  (317, .iconst 1, 0, 0, 0, 0),
  (318, .ireturn, 0, 0, 0, 0)])
def nm_249 : nM := (⟨"SlipHeirsModel", "tells", "(III)I"⟩, prog_11_method_95_code, 5, some .int, [1785, 124, 1784, 100], [
  (0, .iload_n 1, 0, 0, 0, 0),
  (1, .iconst 3, 0, 0, 0, 0),
  (2, .if_icmp .ne 36, 0, 0, 0, 0),
  (5, .aload_n 0, 0, 0, 0, 0),
  (6, .getfield 33, 9, 6, 0, 1292),
  (9, .sipush 132, 0, 0, 0, 0),
  (12, .iaload, 0, 0, 0, 0),
  (13, .iload_n 2, 0, 0, 0, 0),
  (14, .iadd, 0, 0, 0, 0),
  (15, .sipush 999, 0, 0, 0, 0),
  (18, .if_icmp .le 6, 0, 0, 0, 0),
  (21, .bipush 31, 0, 0, 0, 0),
  (23, .ireturn, 0, 0, 0, 0),
  (24, .aload_n 0, 0, 0, 0, 0),
  (25, .getfield 33, 9, 6, 0, 1292),
  (28, .sipush 132, 0, 0, 0, 0),
  (31, .dup2, 0, 0, 0, 0),
  (32, .iaload, 0, 0, 0, 0),
  (33, .iload_n 2, 0, 0, 0, 0),
  (34, .iadd, 0, 0, 0, 0),
  (35, .iastore, 0, 0, 0, 0),
  (36, .iconst 0, 0, 0, 0, 0),
  (37, .ireturn, 0, 0, 0, 0),
  (38, .iload_n 1, 0, 0, 0, 0),
  (39, .iconst 2, 0, 0, 0, 0),
  (40, .if_icmp .ne 35, 0, 0, 0, 0),
  (43, .aload_n 0, 0, 0, 0, 0),
  (44, .iload_n 2, 0, 0, 0, 0),
  (45, .iload_n 3, 0, 0, 0, 0),
  (46, .invokevirtual 304, 210, 3, 0, 1624),
  (49, .istore 4, 0, 0, 0, 0),
  (51, .iload 4, 0, 0, 0, 0),
  (53, .ifCond .le 9, 0, 0, 0, 0),
  (56, .bipush 20, 0, 0, 0, 0),
  (58, .iload 4, 0, 0, 0, 0),
  (60, .iadd, 0, 0, 0, 0),
  (61, .ireturn, 0, 0, 0, 0),
  (62, .aload_n 0, 0, 0, 0, 0),
  (63, .getfield 33, 9, 6, 0, 1292),
  (66, .sipush 138, 0, 0, 0, 0),
  (69, .iload_n 2, 0, 0, 0, 0),
  (70, .iadd, 0, 0, 0, 0),
  (71, .iload_n 3, 0, 0, 0, 0),
  (72, .iastore, 0, 0, 0, 0),
  (73, .iconst 0, 0, 0, 0, 0),
  (74, .ireturn, 0, 0, 0, 0),
  (75, .aload_n 0, 0, 0, 0, 0),
  (76, .iload_n 2, 0, 0, 0, 0),
  (77, .invokevirtual 253, 189, 2, 0, 1540),
  (80, .ifCond .eq 14, 0, 0, 0, 0),
  (83, .iload_n 1, 0, 0, 0, 0),
  (84, .ifCond .ne 7, 0, 0, 0, 0),
  (87, .iconst 1, 0, 0, 0, 0),
  (88, .goto 5, 0, 0, 0, 0),
  (91, .bipush 11, 0, 0, 0, 0),
  (93, .ireturn, 0, 0, 0, 0),
  (94, .iload_n 1, 0, 0, 0, 0),
  (95, .ifCond .ne 12, 0, 0, 0, 0),
  (98, .aload_n 0, 0, 0, 0, 0),
  (99, .iload_n 2, 0, 0, 0, 0),
  (100, .iload_n 3, 0, 0, 0, 0),
  (101, .invokevirtual 298, 199, 3, 0, 1580),
  (104, .goto 8, 0, 0, 0, 0),
  (107, .aload_n 0, 0, 0, 0, 0),
  (108, .iload_n 2, 0, 0, 0, 0),
  (109, .invokevirtual 301, 204, 2, 0, 1600),
  (112, .iconst 0, 0, 0, 0, 0),
  (113, .ireturn, 0, 0, 0, 0)])
def nm_250 : nM := (⟨"SlipHeirsModel", "told", "(I)I"⟩, prog_11_method_97_code, 2, some .int, [1789, 124, 1787, 1788], [
  (0, .aload_n 0, 0, 0, 0, 0),
  (1, .iconst 0, 0, 0, 0, 0),
  (2, .putfield 1, 9, 0, 0, 1286),
  (5, .aload_n 0, 0, 0, 0, 0),
  (6, .getfield 374, 9, 37, 0, 1323),
  (9, .ifCond .eq 21, 0, 0, 0, 0),
  (12, .iload_n 1, 0, 0, 0, 0),
  (13, .iconst 0, 0, 0, 0, 0),
  (14, .iconst 3, 0, 0, 0, 0),
  (15, .invokestatic 182, 176, 3, 2, 1490),
  (18, .ifCond .eq 12, 0, 0, 0, 0),
  (21, .aload_n 0, 0, 0, 0, 0),
  (22, .getfield 74, 9, 36, 0, 1322),
  (25, .iload_n 1, 0, 0, 0, 0),
  (26, .iaload, 0, 0, 0, 0),
  (27, .goto 4, 0, 0, 0, 0),
  (30, .iconst (-1), 0, 0, 0, 0),
  (31, .ireturn, 0, 0, 0, 0)])
def nm_251 : nM := (⟨"SlipHeirsModel", "sentence", "()I"⟩, prog_11_method_104_code, 3, some .int, [1793, 124, 1791, 1792], [
  (0, .aload_n 0, 0, 0, 0, 0),
  (1, .iconst 0, 0, 0, 0, 0),
  (2, .putfield 1, 9, 0, 0, 1286),
  (5, .aload_n 0, 0, 0, 0, 0),
  (6, .sipush 200, 0, 0, 0, 0),
  (9, .invokevirtual 235, 162, 2, 0, 1436),
  (12, .aload_n 0, 0, 0, 0, 0),
  (13, .iconst 0, 0, 0, 0, 0),
  (14, .putfield 167, 9, 15, 0, 1301),
  (17, .aload_n 0, 0, 0, 0, 0),
  (18, .iconst 0, 0, 0, 0, 0),
  (19, .putfield 377, 9, 39, 0, 1325),
  (22, .aload_n 0, 0, 0, 0, 0),
  (23, .iconst 0, 0, 0, 0, 0),
  (24, .putfield 393, 9, 40, 0, 1326),
  (27, .aload_n 0, 0, 0, 0, 0),
  (28, .iconst 0, 0, 0, 0, 0),
  (29, .putfield 380, 9, 41, 0, 1327),
  (32, .aload_n 0, 0, 0, 0, 0),
  (33, .iconst 1, 0, 0, 0, 0),
  (34, .putfield 387, 9, 42, 0, 1328),
  (37, .aload_n 0, 0, 0, 0, 0),
  (38, .iconst 0, 0, 0, 0, 0),
  (39, .putfield 396, 9, 43, 0, 1329),
  (42, .aload_n 0, 0, 0, 0, 0),
  (43, .invokevirtual 179, 163, 1, 0, 1440),
  (46, .iconst 1, 0, 0, 0, 0),
  (47, .istore_n 1, 0, 0, 0, 0),
  (48, .iload_n 1, 0, 0, 0, 0),
  (49, .ifCond .eq 83, 0, 0, 0, 0),
  (52, .aload_n 0, 0, 0, 0, 0),
  (53, .getfield 396, 9, 43, 0, 1329),
  (56, .ifCond .eq 45, 0, 0, 0, 0),
  (59, .aload_n 0, 0, 0, 0, 0),
  (60, .getfield 150, 9, 11, 0, 1297),
  (63, .ifCond .ne 38, 0, 0, 0, 0),
  (66, .aload_n 0, 0, 0, 0, 0),
  (67, .invokevirtual 399, 252, 1, 0, 1794),
  (70, .aload_n 0, 0, 0, 0, 0),
  (71, .bipush 22, 0, 0, 0, 0),
  (73, .invokevirtual 402, 254, 2, 0, 1802),
  (76, .aload_n 0, 0, 0, 0, 0),
  (77, .getfield 380, 9, 41, 0, 1327),
  (80, .ifCond .le 16, 0, 0, 0, 0),
  (83, .aload_n 0, 0, 0, 0, 0),
  (84, .iconst 1, 0, 0, 0, 0),
  (85, .invokevirtual 176, 169, 2, 0, 1462),
  (88, .pop, 0, 0, 0, 0),
  (89, .iconst (-1), 0, 0, 0, 0),
  (90, .aload_n 0, 0, 0, 0, 0),
  (91, .getfield 170, 9, 16, 0, 1302),
  (94, .isub, 0, 0, 0, 0),
  (95, .ireturn, 0, 0, 0, 0),
  (96, .iconst 0, 0, 0, 0, 0),
  (97, .istore_n 1, 0, 0, 0, 0),
  (98, .goto (-50), 0, 0, 0, 0),
  (101, .aload_n 0, 0, 0, 0, 0),
  (102, .getfield 396, 9, 43, 0, 1329),
  (105, .ifCond .eq 13, 0, 0, 0, 0),
  (108, .aload_n 0, 0, 0, 0, 0),
  (109, .invokevirtual 405, 255, 1, 0, 1806),
  (112, .ifCond .ne (-64), 0, 0, 0, 0),
  (115, .goto 10, 0, 0, 0, 0),
  (118, .aload_n 0, 0, 0, 0, 0),
  (119, .invokevirtual 408, 256, 1, 0, 1810),
  (122, .ifCond .ne (-74), 0, 0, 0, 0),
  (125, .iconst (-1), 0, 0, 0, 0),
  (126, .aload_n 0, 0, 0, 0, 0),
  (127, .getfield 170, 9, 16, 0, 1302),
  (130, .isub, 0, 0, 0, 0),
  (131, .ireturn, 0, 0, 0, 0),
  (132, .aload_n 0, 0, 0, 0, 0),
  (133, .getfield 33, 9, 6, 0, 1292),
  (136, .sipush 179, 0, 0, 0, 0),
  (139, .aload_n 0, 0, 0, 0, 0),
  (140, .getfield 377, 9, 39, 0, 1325),
  (143, .iastore, 0, 0, 0, 0),
  (144, .iconst 0, 0, 0, 0, 0),
  (145, .istore_n 2, 0, 0, 0, 0),
  (146, .iload_n 2, 0, 0, 0, 0),
  (147, .iconst 3, 0, 0, 0, 0),
  (148, .aload_n 0, 0, 0, 0, 0),
  (149, .getfield 377, 9, 39, 0, 1325),
  (152, .imul, 0, 0, 0, 0),
  (153, .if_icmp .ge 25, 0, 0, 0, 0),
  (156, .aload_n 0, 0, 0, 0, 0),
  (157, .getfield 33, 9, 6, 0, 1292),
  (160, .sipush 180, 0, 0, 0, 0),
  (163, .iload_n 2, 0, 0, 0, 0),
  (164, .iadd, 0, 0, 0, 0),
  (165, .aload_n 0, 0, 0, 0, 0),
  (166, .getfield 40, 9, 8, 0, 1294),
  (169, .iload_n 2, 0, 0, 0, 0),
  (170, .iaload, 0, 0, 0, 0),
  (171, .iastore, 0, 0, 0, 0),
  (172, .iinc 2 1, 0, 0, 0, 0),
  (175, .goto (-29), 0, 0, 0, 0),
  (178, .aload_n 0, 0, 0, 0, 0),
  (179, .getfield 393, 9, 40, 0, 1326),
  (182, .ireturn, 0, 0, 0, 0)])
def nm_252 : nM := (⟨"SlipHeirsModel", "nots", "()V"⟩, prog_11_method_100_code, 1, none, [1797, 124, 1796, 101], [
  (0, .aload_n 0, 0, 0, 0, 0),
  (1, .getfield 380, 9, 41, 0, 1327),
  (4, .ifCond .le 50, 0, 0, 0, 0),
  (7, .aload_n 0, 0, 0, 0, 0),
  (8, .getfield 77, 9, 38, 0, 1324),
  (11, .aload_n 0, 0, 0, 0, 0),
  (12, .getfield 380, 9, 41, 0, 1327),
  (15, .iconst 1, 0, 0, 0, 0),
  (16, .isub, 0, 0, 0, 0),
  (17, .iaload, 0, 0, 0, 0),
  (18, .bipush 20, 0, 0, 0, 0),
  (20, .if_icmp .ne 34, 0, 0, 0, 0),
  (23, .aload_n 0, 0, 0, 0, 0),
  (24, .dup, 0, 0, 0, 0),
  (25, .getfield 380, 9, 41, 0, 1327),
  (28, .iconst 1, 0, 0, 0, 0),
  (29, .isub, 0, 0, 0, 0),
  (30, .putfield 380, 9, 41, 0, 1327),
  (33, .aload_n 0, 0, 0, 0, 0),
  (34, .dup, 0, 0, 0, 0),
  (35, .getfield 387, 9, 42, 0, 1328),
  (38, .iconst 1, 0, 0, 0, 0),
  (39, .isub, 0, 0, 0, 0),
  (40, .putfield 387, 9, 42, 0, 1328),
  (43, .aload_n 0, 0, 0, 0, 0),
  (44, .bipush 20, 0, 0, 0, 0),
  (46, .iconst 0, 0, 0, 0, 0),
  (47, .iconst 0, 0, 0, 0, 0),
  (48, .invokevirtual 383, 253, 4, 0, 1798),
  (51, .goto (-51), 0, 0, 0, 0),
  (54, .return_, 0, 0, 0, 0)])
def nm_253 : nM := (⟨"SlipHeirsModel", "code", "(III)V"⟩, prog_11_method_98_code, 4, none, [1801, 124, 1800, 102], [
  (0, .aload_n 0, 0, 0, 0, 0),
  (1, .getfield 40, 9, 8, 0, 1294),
  (4, .iconst 3, 0, 0, 0, 0),
  (5, .aload_n 0, 0, 0, 0, 0),
  (6, .getfield 377, 9, 39, 0, 1325),
  (9, .imul, 0, 0, 0, 0),
  (10, .iload_n 1, 0, 0, 0, 0),
  (11, .iastore, 0, 0, 0, 0),
  (12, .aload_n 0, 0, 0, 0, 0),
  (13, .getfield 40, 9, 8, 0, 1294),
  (16, .iconst 3, 0, 0, 0, 0),
  (17, .aload_n 0, 0, 0, 0, 0),
  (18, .getfield 377, 9, 39, 0, 1325),
  (21, .imul, 0, 0, 0, 0),
  (22, .iconst 1, 0, 0, 0, 0),
  (23, .iadd, 0, 0, 0, 0),
  (24, .iload_n 2, 0, 0, 0, 0),
  (25, .iastore, 0, 0, 0, 0),
  (26, .aload_n 0, 0, 0, 0, 0),
  (27, .getfield 40, 9, 8, 0, 1294),
  (30, .iconst 3, 0, 0, 0, 0),
  (31, .aload_n 0, 0, 0, 0, 0),
  (32, .getfield 377, 9, 39, 0, 1325),
  (35, .imul, 0, 0, 0, 0),
  (36, .iconst 2, 0, 0, 0, 0),
  (37, .iadd, 0, 0, 0, 0),
  (38, .iload_n 3, 0, 0, 0, 0),
  (39, .iastore, 0, 0, 0, 0),
  (40, .aload_n 0, 0, 0, 0, 0),
  (41, .dup, 0, 0, 0, 0),
  (42, .getfield 377, 9, 39, 0, 1325),
  (45, .iconst 1, 0, 0, 0, 0),
  (46, .iadd, 0, 0, 0, 0),
  (47, .putfield 377, 9, 39, 0, 1325),
  (50, .return_, 0, 0, 0, 0)])
def nm_254 : nM := (⟨"SlipHeirsModel", "joins", "(I)V"⟩, prog_11_method_99_code, 2, none, [1805, 124, 1804, 103], [
  (0, .aload_n 0, 0, 0, 0, 0),
  (1, .getfield 380, 9, 41, 0, 1327),
  (4, .ifCond .le 69, 0, 0, 0, 0),
  (7, .aload_n 0, 0, 0, 0, 0),
  (8, .getfield 77, 9, 38, 0, 1324),
  (11, .aload_n 0, 0, 0, 0, 0),
  (12, .getfield 380, 9, 41, 0, 1327),
  (15, .iconst 1, 0, 0, 0, 0),
  (16, .isub, 0, 0, 0, 0),
  (17, .iaload, 0, 0, 0, 0),
  (18, .bipush 21, 0, 0, 0, 0),
  (20, .if_icmp .eq 25, 0, 0, 0, 0),
  (23, .aload_n 0, 0, 0, 0, 0),
  (24, .getfield 77, 9, 38, 0, 1324),
  (27, .aload_n 0, 0, 0, 0, 0),
  (28, .getfield 380, 9, 41, 0, 1327),
  (31, .iconst 1, 0, 0, 0, 0),
  (32, .isub, 0, 0, 0, 0),
  (33, .iaload, 0, 0, 0, 0),
  (34, .bipush 22, 0, 0, 0, 0),
  (36, .if_icmp .ne 37, 0, 0, 0, 0),
  (39, .iload_n 1, 0, 0, 0, 0),
  (40, .bipush 22, 0, 0, 0, 0),
  (42, .if_icmp .ne 31, 0, 0, 0, 0),
  (45, .aload_n 0, 0, 0, 0, 0),
  (46, .dup, 0, 0, 0, 0),
  (47, .getfield 380, 9, 41, 0, 1327),
  (50, .iconst 1, 0, 0, 0, 0),
  (51, .isub, 0, 0, 0, 0),
  (52, .putfield 380, 9, 41, 0, 1327),
  (55, .aload_n 0, 0, 0, 0, 0),
  (56, .aload_n 0, 0, 0, 0, 0),
  (57, .getfield 77, 9, 38, 0, 1324),
  (60, .aload_n 0, 0, 0, 0, 0),
  (61, .getfield 380, 9, 41, 0, 1327),
  (64, .iaload, 0, 0, 0, 0),
  (65, .iconst 0, 0, 0, 0, 0),
  (66, .iconst 0, 0, 0, 0, 0),
  (67, .invokevirtual 383, 253, 4, 0, 1798),
  (70, .goto (-70), 0, 0, 0, 0),
  (73, .return_, 0, 0, 0, 0)])
def nm_255 : nM := (⟨"SlipHeirsModel", "behind", "()Z"⟩, prog_11_method_103_code, 1, some .boolean, [1809, 124, 1808, 104], [
  (0, .aload_n 0, 0, 0, 0, 0),
  (1, .invokevirtual 399, 252, 1, 0, 1794),
  (4, .aload_n 0, 0, 0, 0, 0),
  (5, .ldc2_w 117, 0, 0, 6385252, 1272),
  (8, .invokevirtual 204, 168, 2, 0, 1458),
  (11, .ifCond .ne 13, 0, 0, 0, 0),
  (14, .aload_n 0, 0, 0, 0, 0),
  (15, .ldc2_w 115, 0, 0, 28530, 1271),
  (18, .invokevirtual 204, 168, 2, 0, 1458),
  (21, .ifCond .eq 71, 0, 0, 0, 0),
  (24, .aload_n 0, 0, 0, 0, 0),
  (25, .aload_n 0, 0, 0, 0, 0),
  (26, .ldc2_w 117, 0, 0, 6385252, 1272),
  (29, .invokevirtual 204, 168, 2, 0, 1458),
  (32, .ifCond .eq 8, 0, 0, 0, 0),
  (35, .bipush 21, 0, 0, 0, 0),
  (37, .goto 5, 0, 0, 0, 0),
  (40, .bipush 22, 0, 0, 0, 0),
  (42, .invokevirtual 402, 254, 2, 0, 1802),
  (45, .aload_n 0, 0, 0, 0, 0),
  (46, .getfield 77, 9, 38, 0, 1324),
  (49, .aload_n 0, 0, 0, 0, 0),
  (50, .getfield 380, 9, 41, 0, 1327),
  (53, .aload_n 0, 0, 0, 0, 0),
  (54, .ldc2_w 117, 0, 0, 6385252, 1272),
  (57, .invokevirtual 204, 168, 2, 0, 1458),
  (60, .ifCond .eq 8, 0, 0, 0, 0),
  (63, .bipush 21, 0, 0, 0, 0),
  (65, .goto 5, 0, 0, 0, 0),
  (68, .bipush 22, 0, 0, 0, 0),
  (70, .iastore, 0, 0, 0, 0),
  (71, .aload_n 0, 0, 0, 0, 0),
  (72, .dup, 0, 0, 0, 0),
  (73, .getfield 380, 9, 41, 0, 1327),
  (76, .iconst 1, 0, 0, 0, 0),
  (77, .iadd, 0, 0, 0, 0),
  (78, .putfield 380, 9, 41, 0, 1327),
  (81, .aload_n 0, 0, 0, 0, 0),
  (82, .iconst 0, 0, 0, 0, 0),
  (83, .putfield 396, 9, 43, 0, 1329),
  (86, .aload_n 0, 0, 0, 0, 0),
  (87, .invokevirtual 179, 163, 1, 0, 1440),
  (90, .iconst 1, 0, 0, 0, 0),
  (91, .ireturn, 0, 0, 0, 0),
  (92, .aload_n 0, 0, 0, 0, 0),
  (93, .bipush 22, 0, 0, 0, 0),
  (95, .invokevirtual 402, 254, 2, 0, 1802),
  (98, .aload_n 0, 0, 0, 0, 0),
  (99, .bipush 41, 0, 0, 0, 0),
  (101, .invokevirtual 173, 182, 2, 0, 1513),
  (104, .ifCond .eq 10, 0, 0, 0, 0),
  (107, .aload_n 0, 0, 0, 0, 0),
  (108, .getfield 380, 9, 41, 0, 1327),
  (111, .ifCond .ne 9, 0, 0, 0, 0),
  (114, .aload_n 0, 0, 0, 0, 0),
  (115, .iconst 1, 0, 0, 0, 0),
  (116, .invokevirtual 176, 169, 2, 0, 1462),
  (119, .ireturn, 0, 0, 0, 0),
  (120, .aload_n 0, 0, 0, 0, 0),
  (121, .dup, 0, 0, 0, 0),
  (122, .getfield 380, 9, 41, 0, 1327),
  (125, .iconst 1, 0, 0, 0, 0),
  (126, .isub, 0, 0, 0, 0),
  (127, .putfield 380, 9, 41, 0, 1327),
  (130, .aload_n 0, 0, 0, 0, 0),
  (131, .dup, 0, 0, 0, 0),
  (132, .getfield 387, 9, 42, 0, 1328),
  (135, .iconst 1, 0, 0, 0, 0),
  (136, .isub, 0, 0, 0, 0),
  (137, .putfield 387, 9, 42, 0, 1328),
  (140, .aload_n 0, 0, 0, 0, 0),
  (141, .invokevirtual 179, 163, 1, 0, 1440),
  (144, .iconst 1, 0, 0, 0, 0),
  (145, .ireturn, 0, 0, 0, 0)])
def nm_256 : nM := (⟨"SlipHeirsModel", "operand", "()Z"⟩, prog_11_method_102_code, 5, some .boolean, [1813, 124, 1812, 105], [
  (0, .aload_n 0, 0, 0, 0, 0),
  (1, .ldc2_w 119, 0, 0, 7237492, 1273),
  (4, .invokevirtual 204, 168, 2, 0, 1458),
  (7, .istore_n 1, 0, 0, 0, 0),
  (8, .aload_n 0, 0, 0, 0, 0),
  (9, .bipush 40, 0, 0, 0, 0),
  (11, .invokevirtual 173, 182, 2, 0, 1513),
  (14, .istore_n 2, 0, 0, 0, 0),
  (15, .aload_n 0, 0, 0, 0, 0),
  (16, .invokevirtual 390, 257, 1, 0, 1814),
  (19, .istore_n 3, 0, 0, 0, 0),
  (20, .iload_n 1, 0, 0, 0, 0),
  (21, .ifCond .ne 17, 0, 0, 0, 0),
  (24, .iload_n 2, 0, 0, 0, 0),
  (25, .ifCond .ne 13, 0, 0, 0, 0),
  (28, .iload_n 3, 0, 0, 0, 0),
  (29, .ifCond .ge 9, 0, 0, 0, 0),
  (32, .aload_n 0, 0, 0, 0, 0),
  (33, .iconst 1, 0, 0, 0, 0),
  (34, .invokevirtual 176, 169, 2, 0, 1462),
  (37, .ireturn, 0, 0, 0, 0),
  (38, .aload_n 0, 0, 0, 0, 0),
  (39, .getfield 393, 9, 40, 0, 1326),
  (42, .bipush 20, 0, 0, 0, 0),
  (44, .if_icmp .eq 12, 0, 0, 0, 0),
  (47, .aload_n 0, 0, 0, 0, 0),
  (48, .getfield 387, 9, 42, 0, 1328),
  (51, .bipush 8, 0, 0, 0, 0),
  (53, .if_icmp .le 9, 0, 0, 0, 0),
  (56, .aload_n 0, 0, 0, 0, 0),
  (57, .iconst 4, 0, 0, 0, 0),
  (58, .invokevirtual 176, 169, 2, 0, 1462),
  (61, .ireturn, 0, 0, 0, 0),
  (62, .aload_n 0, 0, 0, 0, 0),
  (63, .dup, 0, 0, 0, 0),
  (64, .getfield 393, 9, 40, 0, 1326),
  (67, .iconst 1, 0, 0, 0, 0),
  (68, .iadd, 0, 0, 0, 0),
  (69, .putfield 393, 9, 40, 0, 1326),
  (72, .aload_n 0, 0, 0, 0, 0),
  (73, .invokevirtual 179, 163, 1, 0, 1440),
  (76, .iload_n 1, 0, 0, 0, 0),
  (77, .ifCond .ne 7, 0, 0, 0, 0),
  (80, .iload_n 2, 0, 0, 0, 0),
  (81, .ifCond .eq 45, 0, 0, 0, 0),
  (84, .aload_n 0, 0, 0, 0, 0),
  (85, .getfield 77, 9, 38, 0, 1324),
  (88, .aload_n 0, 0, 0, 0, 0),
  (89, .getfield 380, 9, 41, 0, 1327),
  (92, .iload_n 1, 0, 0, 0, 0),
  (93, .ifCond .eq 8, 0, 0, 0, 0),
  (96, .bipush 20, 0, 0, 0, 0),
  (98, .goto 5, 0, 0, 0, 0),
  (101, .bipush 23, 0, 0, 0, 0),
  (103, .iastore, 0, 0, 0, 0),
  (104, .aload_n 0, 0, 0, 0, 0),
  (105, .dup, 0, 0, 0, 0),
  (106, .getfield 380, 9, 41, 0, 1327),
  (109, .iconst 1, 0, 0, 0, 0),
  (110, .iadd, 0, 0, 0, 0),
  (111, .putfield 380, 9, 41, 0, 1327),
  (114, .aload_n 0, 0, 0, 0, 0),
  (115, .dup, 0, 0, 0, 0),
  (116, .getfield 387, 9, 42, 0, 1328),
  (119, .iconst 1, 0, 0, 0, 0),
  (120, .iadd, 0, 0, 0, 0),
  (121, .putfield 387, 9, 42, 0, 1328),
  (124, .iconst 1, 0, 0, 0, 0),
  (125, .ireturn, 0, 0, 0, 0),
  (126, .aload_n 0, 0, 0, 0, 0),
  (127, .iconst 1, 0, 0, 0, 0),
  (128, .putfield 396, 9, 43, 0, 1329),
  (131, .iload_n 3, 0, 0, 0, 0),
  (132, .iconst 2, 0, 0, 0, 0),
  (133, .if_icmp .ge 12, 0, 0, 0, 0),
  (136, .aload_n 0, 0, 0, 0, 0),
  (137, .iload_n 3, 0, 0, 0, 0),
  (138, .iconst 0, 0, 0, 0, 0),
  (139, .iconst 0, 0, 0, 0, 0),
  (140, .invokevirtual 383, 253, 4, 0, 1798),
  (143, .iconst 1, 0, 0, 0, 0),
  (144, .ireturn, 0, 0, 0, 0),
  (145, .iload_n 3, 0, 0, 0, 0),
  (146, .iconst 4, 0, 0, 0, 0),
  (147, .if_icmp .ge 55, 0, 0, 0, 0),
  (150, .aload_n 0, 0, 0, 0, 0),
  (151, .iload_n 3, 0, 0, 0, 0),
  (152, .iconst 2, 0, 0, 0, 0),
  (153, .if_icmp .ne 8, 0, 0, 0, 0),
  (156, .bipush 16, 0, 0, 0, 0),
  (158, .goto 5, 0, 0, 0, 0),
  (161, .bipush 6, 0, 0, 0, 0),
  (163, .aload_n 0, 0, 0, 0, 0),
  (164, .getfield 33, 9, 6, 0, 1292),
  (167, .iload_n 3, 0, 0, 0, 0),
  (168, .iconst 2, 0, 0, 0, 0),
  (169, .if_icmp .ne 7, 0, 0, 0, 0),
  (172, .iconst 2, 0, 0, 0, 0),
  (173, .goto 4, 0, 0, 0, 0),
  (176, .iconst 1, 0, 0, 0, 0),
  (177, .iaload, 0, 0, 0, 0),
  (178, .invokevirtual 201, 178, 3, 0, 1497),
  (181, .ifCond .ne 5, 0, 0, 0, 0),
  (184, .iconst 0, 0, 0, 0, 0),
  (185, .ireturn, 0, 0, 0, 0),
  (186, .aload_n 0, 0, 0, 0, 0),
  (187, .iload_n 3, 0, 0, 0, 0),
  (188, .iconst 0, 0, 0, 0, 0),
  (189, .aload_n 0, 0, 0, 0, 0),
  (190, .getfield 186, 9, 18, 0, 1304),
  (193, .invokevirtual 383, 253, 4, 0, 1798),
  (196, .aload_n 0, 0, 0, 0, 0),
  (197, .invokevirtual 179, 163, 1, 0, 1440),
  (200, .iconst 1, 0, 0, 0, 0),
  (201, .ireturn, 0, 0, 0, 0),
  (202, .aload_n 0, 0, 0, 0, 0),
  (203, .getfield 150, 9, 11, 0, 1297),
  (206, .iconst 3, 0, 0, 0, 0),
  (207, .if_icmp .ne 21, 0, 0, 0, 0),
  (210, .aload_n 0, 0, 0, 0, 0),
  (211, .getfield 160, 9, 14, 0, 1300),
  (214, .bipush 60, 0, 0, 0, 0),
  (216, .if_icmp .lt 12, 0, 0, 0, 0),
  (219, .aload_n 0, 0, 0, 0, 0),
  (220, .getfield 160, 9, 14, 0, 1300),
  (223, .bipush 62, 0, 0, 0, 0),
  (225, .if_icmp .le 9, 0, 0, 0, 0),
  (228, .aload_n 0, 0, 0, 0, 0),
  (229, .iconst 1, 0, 0, 0, 0),
  (230, .invokevirtual 176, 169, 2, 0, 1462),
  (233, .ireturn, 0, 0, 0, 0),
  (234, .aload_n 0, 0, 0, 0, 0),
  (235, .getfield 160, 9, 14, 0, 1300),
  (238, .istore 4, 0, 0, 0, 0),
  (240, .aload_n 0, 0, 0, 0, 0),
  (241, .invokevirtual 179, 163, 1, 0, 1440),
  (244, .aload_n 0, 0, 0, 0, 0),
  (245, .getfield 150, 9, 11, 0, 1297),
  (248, .iconst 2, 0, 0, 0, 0),
  (249, .if_icmp .eq 9, 0, 0, 0, 0),
  (252, .aload_n 0, 0, 0, 0, 0),
  (253, .iconst 1, 0, 0, 0, 0),
  (254, .invokevirtual 176, 169, 2, 0, 1462),
  (257, .ireturn, 0, 0, 0, 0),
  (258, .aload_n 0, 0, 0, 0, 0),
  (259, .iload_n 3, 0, 0, 0, 0),
  (260, .iload 4, 0, 0, 0, 0),
  (262, .aload_n 0, 0, 0, 0, 0),
  (263, .getfield 160, 9, 14, 0, 1300),
  (266, .invokevirtual 383, 253, 4, 0, 1798),
  (269, .aload_n 0, 0, 0, 0, 0),
  (270, .invokevirtual 179, 163, 1, 0, 1440),
  (273, .iconst 1, 0, 0, 0, 0),
  (274, .ireturn, 0, 0, 0, 0)])
def nm_257 : nM := (⟨"SlipHeirsModel", "leafOf", "()I"⟩, prog_11_method_101_code, 1, some .int, [1817, 124, 1816, 106], [
  (0, .aload_n 0, 0, 0, 0, 0),
  (1, .ldc2_w 121, 0, 0, 418430678629, 1274),
  (4, .invokevirtual 204, 168, 2, 0, 1458),
  (7, .ifCond .eq 7, 0, 0, 0, 0),
  (10, .iconst 0, 0, 0, 0, 0),
  (11, .goto 104, 0, 0, 0, 0),
  (14, .aload_n 0, 0, 0, 0, 0),
  (15, .ldc2_w 123, 0, 0, 427020345710, 1275),
  (18, .invokevirtual 204, 168, 2, 0, 1458),
  (21, .ifCond .eq 7, 0, 0, 0, 0),
  (24, .iconst 1, 0, 0, 0, 0),
  (25, .goto 90, 0, 0, 0, 0),
  (28, .aload_n 0, 0, 0, 0, 0),
  (29, .ldc2_w 125, 0, 0, 6840691, 1276),
  (32, .invokevirtual 204, 168, 2, 0, 1458),
  (35, .ifCond .eq 7, 0, 0, 0, 0),
  (38, .iconst 2, 0, 0, 0, 0),
  (39, .goto 76, 0, 0, 0, 0),
  (42, .aload_n 0, 0, 0, 0, 0),
  (43, .ldc2_w 127, 0, 0, 504363246962, 1277),
  (46, .invokevirtual 204, 168, 2, 0, 1458),
  (49, .ifCond .eq 7, 0, 0, 0, 0),
  (52, .iconst 3, 0, 0, 0, 0),
  (53, .goto 62, 0, 0, 0, 0),
  (56, .aload_n 0, 0, 0, 0, 0),
  (57, .ldc2_w 129, 0, 0, 111542220583539, 1278),
  (60, .invokevirtual 204, 168, 2, 0, 1458),
  (63, .ifCond .eq 7, 0, 0, 0, 0),
  (66, .iconst 4, 0, 0, 0, 0),
  (67, .goto 48, 0, 0, 0, 0),
  (70, .aload_n 0, 0, 0, 0, 0),
  (71, .ldc2_w 131, 0, 0, 1651470958, 1279),
  (74, .invokevirtual 204, 168, 2, 0, 1458),
  (77, .ifCond .eq 7, 0, 0, 0, 0),
  (80, .iconst 5, 0, 0, 0, 0),
  (81, .goto 34, 0, 0, 0, 0),
  (84, .aload_n 0, 0, 0, 0, 0),
  (85, .ldc2_w 133, 0, 0, 1835099237, 1280),
  (88, .invokevirtual 204, 168, 2, 0, 1458),
  (91, .ifCond .eq 8, 0, 0, 0, 0),
  (94, .bipush 6, 0, 0, 0, 0),
  (96, .goto 19, 0, 0, 0, 0),
  (99, .aload_n 0, 0, 0, 0, 0),
  (100, .ldc2_w 135, 0, 0, 121450625394034, 1281),
  (103, .invokevirtual 204, 168, 2, 0, 1458),
  (106, .ifCond .eq 8, 0, 0, 0, 0),
  (109, .bipush 7, 0, 0, 0, 0),
  (111, .goto 4, 0, 0, 0, 0),
  (114, .iconst (-1), 0, 0, 0, 0),
  (115, .ireturn, 0, 0, 0, 0)])
def nm_258 : nM := (⟨"SlipHeirsModel", "said", "(I)I"⟩, prog_11_method_107_code, 4, some .int, [1821, 124, 1819, 1820], [
  (0, .aload_n 0, 0, 0, 0, 0),
  (1, .iconst 0, 0, 0, 0, 0),
  (2, .putfield 1, 9, 0, 0, 1286),
  (5, .aload_n 0, 0, 0, 0, 0),
  (6, .getfield 33, 9, 6, 0, 1292),
  (9, .sipush 179, 0, 0, 0, 0),
  (12, .iaload, 0, 0, 0, 0),
  (13, .ifCond .eq 8, 0, 0, 0, 0),
  (16, .iload_n 1, 0, 0, 0, 0),
  (17, .iconst (-1), 0, 0, 0, 0),
  (18, .if_icmp .ge 5, 0, 0, 0, 0),
  (21, .iconst (-1), 0, 0, 0, 0),
  (22, .ireturn, 0, 0, 0, 0),
  (23, .iconst 0, 0, 0, 0, 0),
  (24, .istore_n 2, 0, 0, 0, 0),
  (25, .iconst 0, 0, 0, 0, 0),
  (26, .istore_n 3, 0, 0, 0, 0),
  (27, .iload_n 3, 0, 0, 0, 0),
  (28, .aload_n 0, 0, 0, 0, 0),
  (29, .getfield 33, 9, 6, 0, 1292),
  (32, .iconst 1, 0, 0, 0, 0),
  (33, .iaload, 0, 0, 0, 0),
  (34, .if_icmp .ge 30, 0, 0, 0, 0),
  (37, .aload_n 0, 0, 0, 0, 0),
  (38, .iload_n 3, 0, 0, 0, 0),
  (39, .invokevirtual 418, 259, 2, 0, 1822),
  (42, .ifCond .ne 6, 0, 0, 0, 0),
  (45, .goto 13, 0, 0, 0, 0),
  (48, .iload_n 2, 0, 0, 0, 0),
  (49, .iload_n 1, 0, 0, 0, 0),
  (50, .if_icmp .ne 5, 0, 0, 0, 0),
  (53, .iload_n 3, 0, 0, 0, 0),
  (54, .ireturn, 0, 0, 0, 0),
  (55, .iinc 2 1, 0, 0, 0, 0),
  (58, .iinc 3 1, 0, 0, 0, 0),
  (61, .goto (-34), 0, 0, 0, 0),
  (64, .iload_n 1, 0, 0, 0, 0),
  (65, .iconst (-1), 0, 0, 0, 0),
  (66, .if_icmp .ne 7, 0, 0, 0, 0),
  (69, .iload_n 2, 0, 0, 0, 0),
  (70, .goto 4, 0, 0, 0, 0),
  (73, .iconst (-1), 0, 0, 0, 0),
  (74, .ireturn, 0, 0, 0, 0)])
def nm_259 : nM := (⟨"SlipHeirsModel", "isSaid", "(I)Z"⟩, prog_11_method_106_code, 5, some .boolean, [1825, 124, 1824, 107], [
  (0, .iconst 0, 0, 0, 0, 0),
  (1, .istore_n 2, 0, 0, 0, 0),
  (2, .iconst 0, 0, 0, 0, 0),
  (3, .istore_n 3, 0, 0, 0, 0),
  (4, .iload_n 3, 0, 0, 0, 0),
  (5, .aload_n 0, 0, 0, 0, 0),
  (6, .getfield 33, 9, 6, 0, 1292),
  (9, .sipush 179, 0, 0, 0, 0),
  (12, .iaload, 0, 0, 0, 0),
  (13, .if_icmp .ge 199, 0, 0, 0, 0),
  (16, .sipush 180, 0, 0, 0, 0),
  (19, .iconst 3, 0, 0, 0, 0),
  (20, .iload_n 3, 0, 0, 0, 0),
  (21, .imul, 0, 0, 0, 0),
  (22, .iadd, 0, 0, 0, 0),
  (23, .istore 4, 0, 0, 0, 0),
  (25, .aload_n 0, 0, 0, 0, 0),
  (26, .getfield 33, 9, 6, 0, 1292),
  (29, .iload 4, 0, 0, 0, 0),
  (31, .iaload, 0, 0, 0, 0),
  (32, .bipush 20, 0, 0, 0, 0),
  (34, .if_icmp .ne 30, 0, 0, 0, 0),
  (37, .aload_n 0, 0, 0, 0, 0),
  (38, .getfield 80, 9, 44, 0, 1330),
  (41, .iload_n 2, 0, 0, 0, 0),
  (42, .iconst 1, 0, 0, 0, 0),
  (43, .isub, 0, 0, 0, 0),
  (44, .aload_n 0, 0, 0, 0, 0),
  (45, .getfield 80, 9, 44, 0, 1330),
  (48, .iload_n 2, 0, 0, 0, 0),
  (49, .iconst 1, 0, 0, 0, 0),
  (50, .isub, 0, 0, 0, 0),
  (51, .baload, 0, 0, 0, 0),
  (52, .ifCond .ne 7, 0, 0, 0, 0),
  (55, .iconst 1, 0, 0, 0, 0),
  (56, .goto 4, 0, 0, 0, 0),
  (59, .iconst 0, 0, 0, 0, 0),
  (60, .bastore, 0, 0, 0, 0),
  (61, .goto 145, 0, 0, 0, 0),
  (64, .aload_n 0, 0, 0, 0, 0),
  (65, .getfield 33, 9, 6, 0, 1292),
  (68, .iload 4, 0, 0, 0, 0),
  (70, .iaload, 0, 0, 0, 0),
  (71, .bipush 21, 0, 0, 0, 0),
  (73, .if_icmp .eq 15, 0, 0, 0, 0),
  (76, .aload_n 0, 0, 0, 0, 0),
  (77, .getfield 33, 9, 6, 0, 1292),
  (80, .iload 4, 0, 0, 0, 0),
  (82, .iaload, 0, 0, 0, 0),
  (83, .bipush 22, 0, 0, 0, 0),
  (85, .if_icmp .ne 82, 0, 0, 0, 0),
  (88, .iinc 2 (-1), 0, 0, 0, 0),
  (91, .aload_n 0, 0, 0, 0, 0),
  (92, .getfield 80, 9, 44, 0, 1330),
  (95, .iload_n 2, 0, 0, 0, 0),
  (96, .iconst 1, 0, 0, 0, 0),
  (97, .isub, 0, 0, 0, 0),
  (98, .aload_n 0, 0, 0, 0, 0),
  (99, .getfield 33, 9, 6, 0, 1292),
  (102, .iload 4, 0, 0, 0, 0),
  (104, .iaload, 0, 0, 0, 0),
  (105, .bipush 21, 0, 0, 0, 0),
  (107, .if_icmp .ne 31, 0, 0, 0, 0),
  (110, .aload_n 0, 0, 0, 0, 0),
  (111, .getfield 80, 9, 44, 0, 1330),
  (114, .iload_n 2, 0, 0, 0, 0),
  (115, .iconst 1, 0, 0, 0, 0),
  (116, .isub, 0, 0, 0, 0),
  (117, .baload, 0, 0, 0, 0),
  (118, .ifCond .eq 16, 0, 0, 0, 0),
  (121, .aload_n 0, 0, 0, 0, 0),
  (122, .getfield 80, 9, 44, 0, 1330),
  (125, .iload_n 2, 0, 0, 0, 0),
  (126, .baload, 0, 0, 0, 0),
  (127, .ifCond .eq 7, 0, 0, 0, 0),
  (130, .iconst 1, 0, 0, 0, 0),
  (131, .goto 32, 0, 0, 0, 0),
  (134, .iconst 0, 0, 0, 0, 0),
  (135, .goto 28, 0, 0, 0, 0),
  (138, .aload_n 0, 0, 0, 0, 0),
  (139, .getfield 80, 9, 44, 0, 1330),
  (142, .iload_n 2, 0, 0, 0, 0),
  (143, .iconst 1, 0, 0, 0, 0),
  (144, .isub, 0, 0, 0, 0),
  (145, .baload, 0, 0, 0, 0),
  (146, .ifCond .ne 12, 0, 0, 0, 0),
  (149, .aload_n 0, 0, 0, 0, 0),
  (150, .getfield 80, 9, 44, 0, 1330),
  (153, .iload_n 2, 0, 0, 0, 0),
  (154, .baload, 0, 0, 0, 0),
  (155, .ifCond .eq 7, 0, 0, 0, 0),
  (158, .iconst 1, 0, 0, 0, 0),
  (159, .goto 4, 0, 0, 0, 0),
  (162, .iconst 0, 0, 0, 0, 0),
  (163, .bastore, 0, 0, 0, 0),
  (164, .goto 42, 0, 0, 0, 0),
  (167, .aload_n 0, 0, 0, 0, 0),
  (168, .getfield 80, 9, 44, 0, 1330),
  (171, .iload_n 2, 0, 0, 0, 0),
  (172, .aload_n 0, 0, 0, 0, 0),
  (173, .iload_n 1, 0, 0, 0, 0),
  (174, .aload_n 0, 0, 0, 0, 0),
  (175, .getfield 33, 9, 6, 0, 1292),
  (178, .iload 4, 0, 0, 0, 0),
  (180, .iaload, 0, 0, 0, 0),
  (181, .aload_n 0, 0, 0, 0, 0),
  (182, .getfield 33, 9, 6, 0, 1292),
  (185, .iload 4, 0, 0, 0, 0),
  (187, .iconst 1, 0, 0, 0, 0),
  (188, .iadd, 0, 0, 0, 0),
  (189, .iaload, 0, 0, 0, 0),
  (190, .aload_n 0, 0, 0, 0, 0),
  (191, .getfield 33, 9, 6, 0, 1292),
  (194, .iload 4, 0, 0, 0, 0),
  (196, .iconst 2, 0, 0, 0, 0),
  (197, .iadd, 0, 0, 0, 0),
  (198, .iaload, 0, 0, 0, 0),
  (199, .invokevirtual 414, 260, 5, 0, 1826),
  (202, .bastore, 0, 0, 0, 0),
  (203, .iinc 2 1, 0, 0, 0, 0),
  (206, .iinc 3 1, 0, 0, 0, 0),
  (209, .goto (-205), 0, 0, 0, 0),
  (212, .aload_n 0, 0, 0, 0, 0),
  (213, .getfield 80, 9, 44, 0, 1330),
  (216, .iconst 0, 0, 0, 0, 0),
  (217, .baload, 0, 0, 0, 0),
  (218, .ireturn, 0, 0, 0, 0)])
def nm_260 : nM := (⟨"SlipHeirsModel", "isLeaf", "(IIII)Z"⟩, prog_11_method_105_code, 6, some .boolean, [1829, 124, 1828, 108], [
  (0, .iload_n 2, 0, 0, 0, 0),
  (1, .ifCond .ne 17, 0, 0, 0, 0),
  (4, .aload_n 0, 0, 0, 0, 0),
  (5, .iload_n 1, 0, 0, 0, 0),
  (6, .invokevirtual 253, 189, 2, 0, 1540),
  (9, .ifCond .ne 7, 0, 0, 0, 0),
  (12, .iconst 1, 0, 0, 0, 0),
  (13, .goto 4, 0, 0, 0, 0),
  (16, .iconst 0, 0, 0, 0, 0),
  (17, .ireturn, 0, 0, 0, 0),
  (18, .iload_n 2, 0, 0, 0, 0),
  (19, .iconst 1, 0, 0, 0, 0),
  (20, .if_icmp .ne 17, 0, 0, 0, 0),
  (23, .aload_n 0, 0, 0, 0, 0),
  (24, .iload_n 1, 0, 0, 0, 0),
  (25, .invokevirtual 264, 190, 2, 0, 1544),
  (28, .ifCond .ne 7, 0, 0, 0, 0),
  (31, .iconst 1, 0, 0, 0, 0),
  (32, .goto 4, 0, 0, 0, 0),
  (35, .iconst 0, 0, 0, 0, 0),
  (36, .ireturn, 0, 0, 0, 0),
  (37, .iload_n 2, 0, 0, 0, 0),
  (38, .iconst 2, 0, 0, 0, 0),
  (39, .if_icmp .ne 24, 0, 0, 0, 0),
  (42, .aload_n 0, 0, 0, 0, 0),
  (43, .getfield 33, 9, 6, 0, 1292),
  (46, .sipush 138, 0, 0, 0, 0),
  (49, .iload 4, 0, 0, 0, 0),
  (51, .iadd, 0, 0, 0, 0),
  (52, .iaload, 0, 0, 0, 0),
  (53, .iload_n 1, 0, 0, 0, 0),
  (54, .if_icmp .ne 7, 0, 0, 0, 0),
  (57, .iconst 1, 0, 0, 0, 0),
  (58, .goto 4, 0, 0, 0, 0),
  (61, .iconst 0, 0, 0, 0, 0),
  (62, .ireturn, 0, 0, 0, 0),
  (63, .iload_n 2, 0, 0, 0, 0),
  (64, .iconst 3, 0, 0, 0, 0),
  (65, .if_icmp .ne 14, 0, 0, 0, 0),
  (68, .aload_n 0, 0, 0, 0, 0),
  (69, .iload 4, 0, 0, 0, 0),
  (71, .invokevirtual 283, 208, 2, 0, 1616),
  (74, .iload_n 1, 0, 0, 0, 0),
  (75, .invokestatic 226, 183, 2, 2, 1517),
  (78, .ireturn, 0, 0, 0, 0),
  (79, .iload_n 2, 0, 0, 0, 0),
  (80, .iconst 4, 0, 0, 0, 0),
  (81, .if_icmp .ne 14, 0, 0, 0, 0),
  (84, .aload_n 0, 0, 0, 0, 0),
  (85, .iload_n 1, 0, 0, 0, 0),
  (86, .invokevirtual 264, 190, 2, 0, 1544),
  (89, .invokestatic 411, 261, 1, 2, 1830),
  (92, .goto 39, 0, 0, 0, 0),
  (95, .iload_n 2, 0, 0, 0, 0),
  (96, .iconst 5, 0, 0, 0, 0),
  (97, .if_icmp .ne 14, 0, 0, 0, 0),
  (100, .aload_n 0, 0, 0, 0, 0),
  (101, .getfield 33, 9, 6, 0, 1292),
  (104, .iconst 4, 0, 0, 0, 0),
  (105, .iload_n 1, 0, 0, 0, 0),
  (106, .iadd, 0, 0, 0, 0),
  (107, .iaload, 0, 0, 0, 0),
  (108, .goto 23, 0, 0, 0, 0),
  (111, .iload_n 2, 0, 0, 0, 0),
  (112, .bipush 6, 0, 0, 0, 0),
  (114, .if_icmp .ne 16, 0, 0, 0, 0),
  (117, .aload_n 0, 0, 0, 0, 0),
  (118, .getfield 33, 9, 6, 0, 1292),
  (121, .sipush 156, 0, 0, 0, 0),
  (124, .iload_n 1, 0, 0, 0, 0),
  (125, .iadd, 0, 0, 0, 0),
  (126, .iaload, 0, 0, 0, 0),
  (127, .goto 4, 0, 0, 0, 0),
  (130, .iload_n 1, 0, 0, 0, 0),
  (131, .istore 5, 0, 0, 0, 0),
  (133, .iload_n 3, 0, 0, 0, 0),
  (134, .bipush 60, 0, 0, 0, 0),
  (136, .if_icmp .ne 18, 0, 0, 0, 0),
  (139, .iload 5, 0, 0, 0, 0),
  (141, .iload 4, 0, 0, 0, 0),
  (143, .if_icmp .ge 7, 0, 0, 0, 0),
  (146, .iconst 1, 0, 0, 0, 0),
  (147, .goto 40, 0, 0, 0, 0),
  (150, .iconst 0, 0, 0, 0, 0),
  (151, .goto 36, 0, 0, 0, 0),
  (154, .iload_n 3, 0, 0, 0, 0),
  (155, .bipush 61, 0, 0, 0, 0),
  (157, .if_icmp .ne 18, 0, 0, 0, 0),
  (160, .iload 5, 0, 0, 0, 0),
  (162, .iload 4, 0, 0, 0, 0),
  (164, .if_icmp .ne 7, 0, 0, 0, 0),
  (167, .iconst 1, 0, 0, 0, 0),
  (168, .goto 19, 0, 0, 0, 0),
  (171, .iconst 0, 0, 0, 0, 0),
  (172, .goto 15, 0, 0, 0, 0),
  (175, .iload 5, 0, 0, 0, 0),
  (177, .iload 4, 0, 0, 0, 0),
  (179, .if_icmp .le 7, 0, 0, 0, 0),
  (182, .iconst 1, 0, 0, 0, 0),
  (183, .goto 4, 0, 0, 0, 0),
  (186, .iconst 0, 0, 0, 0, 0),
  (187, .ireturn, 0, 0, 0, 0)])
def nm_261 : nM := (⟨"SlipHeirsModel", "bits", "(I)I"⟩, prog_11_method_9_code, 3, some .int, [1832, 124, 1831, 0], [
  (0, .iconst 0, 0, 0, 0, 0),
  (1, .istore_n 1, 0, 0, 0, 0),
  (2, .iload_n 0, 0, 0, 0, 0),
  (3, .istore_n 2, 0, 0, 0, 0),
  (4, .iload_n 2, 0, 0, 0, 0),
  (5, .ifCond .eq 15, 0, 0, 0, 0),
  (8, .iinc 1 1, 0, 0, 0, 0),
  (11, .iload_n 2, 0, 0, 0, 0),
  (12, .iload_n 2, 0, 0, 0, 0),
  (13, .iconst 1, 0, 0, 0, 0),
  (14, .isub, 0, 0, 0, 0),
  (15, .iand, 0, 0, 0, 0),
  (16, .istore_n 2, 0, 0, 0, 0),
  (17, .goto (-13), 0, 0, 0, 0),
  (20, .iload_n 1, 0, 0, 0, 0),
  (21, .ireturn, 0, 0, 0, 0)])
def nm_262 : nM := (⟨"SlipHeirsModel", "image", "(I)Z"⟩, prog_11_method_108_code, 3, some .boolean, [1836, 124, 1834, 1835], [
  (0, .aload_n 0, 0, 0, 0, 0),
  (1, .iconst 0, 0, 0, 0, 0),
  (2, .putfield 1, 9, 0, 0, 1286),
  (5, .iload_n 1, 0, 0, 0, 0),
  (6, .iconst 0, 0, 0, 0, 0),
  (7, .iconst 1, 0, 0, 0, 0),
  (8, .invokestatic 182, 176, 3, 2, 1490),
  (11, .ifCond .ne 5, 0, 0, 0, 0),
  (14, .iconst 0, 0, 0, 0, 0),
  (15, .ireturn, 0, 0, 0, 0),
  (16, .iconst 0, 0, 0, 0, 0),
  (17, .istore_n 2, 0, 0, 0, 0),
  (18, .iload_n 2, 0, 0, 0, 0),
  (19, .sipush 360, 0, 0, 0, 0),
  (22, .if_icmp .ge 27, 0, 0, 0, 0),
  (25, .aload_n 0, 0, 0, 0, 0),
  (26, .getfield 84, 9, 45, 0, 1331),
  (29, .sipush 360, 0, 0, 0, 0),
  (32, .iload_n 1, 0, 0, 0, 0),
  (33, .imul, 0, 0, 0, 0),
  (34, .iload_n 2, 0, 0, 0, 0),
  (35, .iadd, 0, 0, 0, 0),
  (36, .aload_n 0, 0, 0, 0, 0),
  (37, .getfield 33, 9, 6, 0, 1292),
  (40, .iload_n 2, 0, 0, 0, 0),
  (41, .iaload, 0, 0, 0, 0),
  (42, .iastore, 0, 0, 0, 0),
  (43, .iinc 2 1, 0, 0, 0, 0),
  (46, .goto (-28), 0, 0, 0, 0),
  (49, .iconst 0, 0, 0, 0, 0),
  (50, .istore_n 2, 0, 0, 0, 0),
  (51, .iload_n 2, 0, 0, 0, 0),
  (52, .bipush 26, 0, 0, 0, 0),
  (54, .if_icmp .ge 26, 0, 0, 0, 0),
  (57, .aload_n 0, 0, 0, 0, 0),
  (58, .getfield 87, 9, 46, 0, 1332),
  (61, .bipush 26, 0, 0, 0, 0),
  (63, .iload_n 1, 0, 0, 0, 0),
  (64, .imul, 0, 0, 0, 0),
  (65, .iload_n 2, 0, 0, 0, 0),
  (66, .iadd, 0, 0, 0, 0),
  (67, .aload_n 0, 0, 0, 0, 0),
  (68, .getfield 43, 9, 9, 0, 1295),
  (71, .iload_n 2, 0, 0, 0, 0),
  (72, .laload, 0, 0, 0, 0),
  (73, .lastore, 0, 0, 0, 0),
  (74, .iinc 2 1, 0, 0, 0, 0),
  (77, .goto (-26), 0, 0, 0, 0),
  (80, .aload_n 0, 0, 0, 0, 0),
  (81, .getfield 90, 9, 47, 0, 1333),
  (84, .iload_n 1, 0, 0, 0, 0),
  (85, .iconst 1, 0, 0, 0, 0),
  (86, .bastore, 0, 0, 0, 0),
  (87, .iconst 1, 0, 0, 0, 0),
  (88, .ireturn, 0, 0, 0, 0)])
def nm_263 : nM := (⟨"SlipHeirsModel", "restore", "(I)Z"⟩, prog_11_method_109_code, 3, some .boolean, [1840, 124, 1838, 1839], [
  (0, .aload_n 0, 0, 0, 0, 0),
  (1, .iconst 0, 0, 0, 0, 0),
  (2, .putfield 1, 9, 0, 0, 1286),
  (5, .iload_n 1, 0, 0, 0, 0),
  (6, .iconst 0, 0, 0, 0, 0),
  (7, .iconst 1, 0, 0, 0, 0),
  (8, .invokestatic 182, 176, 3, 2, 1490),
  (11, .ifCond .eq 12, 0, 0, 0, 0),
  (14, .aload_n 0, 0, 0, 0, 0),
  (15, .getfield 90, 9, 47, 0, 1333),
  (18, .iload_n 1, 0, 0, 0, 0),
  (19, .baload, 0, 0, 0, 0),
  (20, .ifCond .ne 5, 0, 0, 0, 0),
  (23, .iconst 0, 0, 0, 0, 0),
  (24, .ireturn, 0, 0, 0, 0),
  (25, .iconst 0, 0, 0, 0, 0),
  (26, .istore_n 2, 0, 0, 0, 0),
  (27, .iload_n 2, 0, 0, 0, 0),
  (28, .sipush 360, 0, 0, 0, 0),
  (31, .if_icmp .ge 27, 0, 0, 0, 0),
  (34, .aload_n 0, 0, 0, 0, 0),
  (35, .getfield 33, 9, 6, 0, 1292),
  (38, .iload_n 2, 0, 0, 0, 0),
  (39, .aload_n 0, 0, 0, 0, 0),
  (40, .getfield 84, 9, 45, 0, 1331),
  (43, .sipush 360, 0, 0, 0, 0),
  (46, .iload_n 1, 0, 0, 0, 0),
  (47, .imul, 0, 0, 0, 0),
  (48, .iload_n 2, 0, 0, 0, 0),
  (49, .iadd, 0, 0, 0, 0),
  (50, .iaload, 0, 0, 0, 0),
  (51, .iastore, 0, 0, 0, 0),
  (52, .iinc 2 1, 0, 0, 0, 0),
  (55, .goto (-28), 0, 0, 0, 0),
  (58, .iconst 0, 0, 0, 0, 0),
  (59, .istore_n 2, 0, 0, 0, 0),
  (60, .iload_n 2, 0, 0, 0, 0),
  (61, .bipush 26, 0, 0, 0, 0),
  (63, .if_icmp .ge 26, 0, 0, 0, 0),
  (66, .aload_n 0, 0, 0, 0, 0),
  (67, .getfield 43, 9, 9, 0, 1295),
  (70, .iload_n 2, 0, 0, 0, 0),
  (71, .aload_n 0, 0, 0, 0, 0),
  (72, .getfield 87, 9, 46, 0, 1332),
  (75, .bipush 26, 0, 0, 0, 0),
  (77, .iload_n 1, 0, 0, 0, 0),
  (78, .imul, 0, 0, 0, 0),
  (79, .iload_n 2, 0, 0, 0, 0),
  (80, .iadd, 0, 0, 0, 0),
  (81, .laload, 0, 0, 0, 0),
  (82, .lastore, 0, 0, 0, 0),
  (83, .iinc 2 1, 0, 0, 0, 0),
  (86, .goto (-26), 0, 0, 0, 0),
  (89, .aload_n 0, 0, 0, 0, 0),
  (90, .iconst 0, 0, 0, 0, 0),
  (91, .putfield 247, 9, 24, 0, 1310),
  (94, .iconst 1, 0, 0, 0, 0),
  (95, .ireturn, 0, 0, 0, 0)])
def nm_264 : nM := (⟨"SlipHeirsModel", "count", "(I)I"⟩, prog_11_method_110_code, 2, some .int, [1844, 124, 1842, 1843], [
  (0, .aload_n 0, 0, 0, 0, 0),
  (1, .iconst 0, 0, 0, 0, 0),
  (2, .putfield 1, 9, 0, 0, 1286),
  (5, .iload_n 1, 0, 0, 0, 0),
  (6, .iconst 4, 0, 0, 0, 0),
  (7, .if_icmp .ne 10, 0, 0, 0, 0),
  (10, .aload_n 0, 0, 0, 0, 0),
  (11, .getfield 7, 9, 2, 0, 1288),
  (14, .goto 22, 0, 0, 0, 0),
  (17, .iload_n 1, 0, 0, 0, 0),
  (18, .iconst 0, 0, 0, 0, 0),
  (19, .iconst 3, 0, 0, 0, 0),
  (20, .invokestatic 182, 176, 3, 2, 1490),
  (23, .ifCond .eq 12, 0, 0, 0, 0),
  (26, .aload_n 0, 0, 0, 0, 0),
  (27, .getfield 33, 9, 6, 0, 1292),
  (30, .iload_n 1, 0, 0, 0, 0),
  (31, .iaload, 0, 0, 0, 0),
  (32, .goto 4, 0, 0, 0, 0),
  (35, .iconst (-1), 0, 0, 0, 0),
  (36, .ireturn, 0, 0, 0, 0)])
def nm_265 : nM := (⟨"SlipHeirsLaw", "law", "([I)Z"⟩, code, 7, some .boolean, [0, 109, 0, 0], [
  (0, .new 8, 8, 133, 110, 132),
  (3, .dup, 0, 0, 0, 0),
  (4, .invokespecial 18, 0, 1, 1, 134),
  (7, .astore_n 1, 0, 0, 0, 0),
  (8, .new 19, 9, 1249, 124, 1255),
  (11, .dup, 0, 0, 0, 0),
  (12, .invokespecial 21, 159, 1, 1, 1256),
  (15, .astore_n 2, 0, 0, 0, 0),
  (16, .iconst 1, 0, 0, 0, 0),
  (17, .newarray .long, 3, 0, 0, 245),
  (19, .astore_n 3, 0, 0, 0, 0),
  (20, .iconst 0, 0, 0, 0, 0),
  (21, .istore 4, 0, 0, 0, 0),
  (23, .iload 4, 0, 0, 0, 0),
  (25, .aload_n 0, 0, 0, 0, 0),
  (26, .arraylength, 0, 0, 0, 0),
  (27, .bipush 6, 0, 0, 0, 0),
  (29, .isub, 0, 0, 0, 0),
  (30, .if_icmp .gt 1371, 0, 0, 0, 0),
  (33, .aload_n 0, 0, 0, 0, 0),
  (34, .iload 4, 0, 0, 0, 0),
  (36, .iaload, 0, 0, 0, 0),
  (37, .bipush 63, 0, 0, 0, 0),
  (39, .iand, 0, 0, 0, 0),
  (40, .tableswitch 1355 0 40 #[180, 253, 278, 291, 304, 344, 381, 418, 443, 480, 505, 542, 567, 580, 605, 654, 679, 719, 744, 781, 806, 831, 856, 881, 894, 907, 920, 945, 982, 1007, 1044, 1069, 1106, 1143, 1192, 1217, 1242, 1255, 1280, 1305, 1330], 0, 180, 0, 0),
  (220, .aload_n 1, 0, 0, 0, 0),
  (221, .aload_n 0, 0, 0, 0, 0),
  (222, .iload 4, 0, 0, 0, 0),
  (224, .iconst 1, 0, 0, 0, 0),
  (225, .iadd, 0, 0, 0, 0),
  (226, .iaload, 0, 0, 0, 0),
  (227, .aload_n 0, 0, 0, 0, 0),
  (228, .iload 4, 0, 0, 0, 0),
  (230, .iconst 2, 0, 0, 0, 0),
  (231, .iadd, 0, 0, 0, 0),
  (232, .iaload, 0, 0, 0, 0),
  (233, .aload_n 0, 0, 0, 0, 0),
  (234, .iload 4, 0, 0, 0, 0),
  (236, .iconst 3, 0, 0, 0, 0),
  (237, .iadd, 0, 0, 0, 0),
  (238, .iaload, 0, 0, 0, 0),
  (239, .aload_n 0, 0, 0, 0, 0),
  (240, .iload 4, 0, 0, 0, 0),
  (242, .iconst 4, 0, 0, 0, 0),
  (243, .iadd, 0, 0, 0, 0),
  (244, .iaload, 0, 0, 0, 0),
  (245, .aload_n 0, 0, 0, 0, 0),
  (246, .iload 4, 0, 0, 0, 0),
  (248, .iconst 5, 0, 0, 0, 0),
  (249, .iadd, 0, 0, 0, 0),
  (250, .iaload, 0, 0, 0, 0),
  (251, .invokevirtual 22, 18, 6, 0, 568),
  (254, .pop, 0, 0, 0, 0),
  (255, .aload_n 2, 0, 0, 0, 0),
  (256, .aload_n 0, 0, 0, 0, 0),
  (257, .iload 4, 0, 0, 0, 0),
  (259, .iconst 1, 0, 0, 0, 0),
  (260, .iadd, 0, 0, 0, 0),
  (261, .iaload, 0, 0, 0, 0),
  (262, .aload_n 0, 0, 0, 0, 0),
  (263, .iload 4, 0, 0, 0, 0),
  (265, .iconst 2, 0, 0, 0, 0),
  (266, .iadd, 0, 0, 0, 0),
  (267, .iaload, 0, 0, 0, 0),
  (268, .aload_n 0, 0, 0, 0, 0),
  (269, .iload 4, 0, 0, 0, 0),
  (271, .iconst 3, 0, 0, 0, 0),
  (272, .iadd, 0, 0, 0, 0),
  (273, .iaload, 0, 0, 0, 0),
  (274, .aload_n 0, 0, 0, 0, 0),
  (275, .iload 4, 0, 0, 0, 0),
  (277, .iconst 4, 0, 0, 0, 0),
  (278, .iadd, 0, 0, 0, 0),
  (279, .iaload, 0, 0, 0, 0),
  (280, .aload_n 0, 0, 0, 0, 0),
  (281, .iload 4, 0, 0, 0, 0),
  (283, .iconst 5, 0, 0, 0, 0),
  (284, .iadd, 0, 0, 0, 0),
  (285, .iaload, 0, 0, 0, 0),
  (286, .invokevirtual 26, 156, 6, 0, 1242),
  (289, .pop, 0, 0, 0, 0),
  (290, .goto 1105, 0, 0, 0, 0),
  (293, .aload_n 1, 0, 0, 0, 0),
  (294, .aload_n 0, 0, 0, 0, 0),
  (295, .iload 4, 0, 0, 0, 0),
  (297, .iconst 1, 0, 0, 0, 0),
  (298, .iadd, 0, 0, 0, 0),
  (299, .iaload, 0, 0, 0, 0),
  (300, .invokevirtual 27, 20, 2, 0, 576),
  (303, .pop, 0, 0, 0, 0),
  (304, .aload_n 2, 0, 0, 0, 0),
  (305, .aload_n 0, 0, 0, 0, 0),
  (306, .iload 4, 0, 0, 0, 0),
  (308, .iconst 1, 0, 0, 0, 0),
  (309, .iadd, 0, 0, 0, 0),
  (310, .iaload, 0, 0, 0, 0),
  (311, .invokevirtual 31, 158, 2, 0, 1251),
  (314, .pop, 0, 0, 0, 0),
  (315, .goto 1080, 0, 0, 0, 0),
  (318, .aload_n 1, 0, 0, 0, 0),
  (319, .invokevirtual 32, 21, 1, 0, 580),
  (322, .pop, 0, 0, 0, 0),
  (323, .aload_n 2, 0, 0, 0, 0),
  (324, .invokevirtual 36, 161, 1, 0, 1432),
  (327, .pop, 0, 0, 0, 0),
  (328, .goto 1067, 0, 0, 0, 0),
  (331, .aload_n 1, 0, 0, 0, 0),
  (332, .invokevirtual 37, 53, 1, 0, 718),
  (335, .pop, 0, 0, 0, 0),
  (336, .aload_n 2, 0, 0, 0, 0),
  (337, .invokevirtual 40, 185, 1, 0, 1524),
  (340, .pop, 0, 0, 0, 0),
  (341, .goto 1054, 0, 0, 0, 0),
  (344, .aload_n 1, 0, 0, 0, 0),
  (345, .aload_n 0, 0, 0, 0, 0),
  (346, .iload 4, 0, 0, 0, 0),
  (348, .iconst 1, 0, 0, 0, 0),
  (349, .iadd, 0, 0, 0, 0),
  (350, .iaload, 0, 0, 0, 0),
  (351, .aload_n 0, 0, 0, 0, 0),
  (352, .iload 4, 0, 0, 0, 0),
  (354, .iconst 2, 0, 0, 0, 0),
  (355, .iadd, 0, 0, 0, 0),
  (356, .iaload, 0, 0, 0, 0),
  (357, .aload_n 3, 0, 0, 0, 0),
  (358, .invokestatic 41, 0, 4, 6, 1165),
  (361, .istore 5, 0, 0, 0, 0),
  (363, .aload_n 2, 0, 0, 0, 0),
  (364, .aload_n 0, 0, 0, 0, 0),
  (365, .iload 4, 0, 0, 0, 0),
  (367, .iconst 1, 0, 0, 0, 0),
  (368, .iadd, 0, 0, 0, 0),
  (369, .iaload, 0, 0, 0, 0),
  (370, .aload_n 0, 0, 0, 0, 0),
  (371, .iload 4, 0, 0, 0, 0),
  (373, .iconst 2, 0, 0, 0, 0),
  (374, .iadd, 0, 0, 0, 0),
  (375, .iaload, 0, 0, 0, 0),
  (376, .invokevirtual 46, 186, 3, 0, 1528),
  (379, .istore 6, 0, 0, 0, 0),
  (381, .goto 1014, 0, 0, 0, 0),
  (384, .aload_n 1, 0, 0, 0, 0),
  (385, .aload_n 0, 0, 0, 0, 0),
  (386, .iload 4, 0, 0, 0, 0),
  (388, .iconst 1, 0, 0, 0, 0),
  (389, .iadd, 0, 0, 0, 0),
  (390, .iaload, 0, 0, 0, 0),
  (391, .aload_n 0, 0, 0, 0, 0),
  (392, .iload 4, 0, 0, 0, 0),
  (394, .iconst 2, 0, 0, 0, 0),
  (395, .iadd, 0, 0, 0, 0),
  (396, .iaload, 0, 0, 0, 0),
  (397, .invokevirtual 47, 54, 3, 0, 722),
  (400, .pop, 0, 0, 0, 0),
  (401, .aload_n 2, 0, 0, 0, 0),
  (402, .aload_n 0, 0, 0, 0, 0),
  (403, .iload 4, 0, 0, 0, 0),
  (405, .iconst 1, 0, 0, 0, 0),
  (406, .iadd, 0, 0, 0, 0),
  (407, .iaload, 0, 0, 0, 0),
  (408, .aload_n 0, 0, 0, 0, 0),
  (409, .iload 4, 0, 0, 0, 0),
  (411, .iconst 2, 0, 0, 0, 0),
  (412, .iadd, 0, 0, 0, 0),
  (413, .iaload, 0, 0, 0, 0),
  (414, .invokevirtual 50, 192, 3, 0, 1552),
  (417, .pop, 0, 0, 0, 0),
  (418, .goto 977, 0, 0, 0, 0),
  (421, .aload_n 1, 0, 0, 0, 0),
  (422, .aload_n 0, 0, 0, 0, 0),
  (423, .iload 4, 0, 0, 0, 0),
  (425, .iconst 1, 0, 0, 0, 0),
  (426, .iadd, 0, 0, 0, 0),
  (427, .iaload, 0, 0, 0, 0),
  (428, .aload_n 0, 0, 0, 0, 0),
  (429, .iload 4, 0, 0, 0, 0),
  (431, .iconst 2, 0, 0, 0, 0),
  (432, .iadd, 0, 0, 0, 0),
  (433, .iaload, 0, 0, 0, 0),
  (434, .invokevirtual 51, 56, 3, 0, 730),
  (437, .pop, 0, 0, 0, 0),
  (438, .aload_n 2, 0, 0, 0, 0),
  (439, .aload_n 0, 0, 0, 0, 0),
  (440, .iload 4, 0, 0, 0, 0),
  (442, .iconst 1, 0, 0, 0, 0),
  (443, .iadd, 0, 0, 0, 0),
  (444, .iaload, 0, 0, 0, 0),
  (445, .aload_n 0, 0, 0, 0, 0),
  (446, .iload 4, 0, 0, 0, 0),
  (448, .iconst 2, 0, 0, 0, 0),
  (449, .iadd, 0, 0, 0, 0),
  (450, .iaload, 0, 0, 0, 0),
  (451, .invokevirtual 54, 194, 3, 0, 1560),
  (454, .pop, 0, 0, 0, 0),
  (455, .goto 940, 0, 0, 0, 0),
  (458, .aload_n 1, 0, 0, 0, 0),
  (459, .aload_n 0, 0, 0, 0, 0),
  (460, .iload 4, 0, 0, 0, 0),
  (462, .iconst 1, 0, 0, 0, 0),
  (463, .iadd, 0, 0, 0, 0),
  (464, .iaload, 0, 0, 0, 0),
  (465, .invokevirtual 55, 58, 2, 0, 738),
  (468, .pop, 0, 0, 0, 0),
  (469, .aload_n 2, 0, 0, 0, 0),
  (470, .aload_n 0, 0, 0, 0, 0),
  (471, .iload 4, 0, 0, 0, 0),
  (473, .iconst 1, 0, 0, 0, 0),
  (474, .iadd, 0, 0, 0, 0),
  (475, .iaload, 0, 0, 0, 0),
  (476, .invokevirtual 59, 196, 2, 0, 1568),
  (479, .pop, 0, 0, 0, 0),
  (480, .goto 915, 0, 0, 0, 0),
  (483, .aload_n 1, 0, 0, 0, 0),
  (484, .aload_n 0, 0, 0, 0, 0),
  (485, .iload 4, 0, 0, 0, 0),
  (487, .iconst 1, 0, 0, 0, 0),
  (488, .iadd, 0, 0, 0, 0),
  (489, .iaload, 0, 0, 0, 0),
  (490, .aload_n 0, 0, 0, 0, 0),
  (491, .iload 4, 0, 0, 0, 0),
  (493, .iconst 2, 0, 0, 0, 0),
  (494, .iadd, 0, 0, 0, 0),
  (495, .iaload, 0, 0, 0, 0),
  (496, .invokevirtual 60, 60, 3, 0, 746),
  (499, .pop, 0, 0, 0, 0),
  (500, .aload_n 2, 0, 0, 0, 0),
  (501, .aload_n 0, 0, 0, 0, 0),
  (502, .iload 4, 0, 0, 0, 0),
  (504, .iconst 1, 0, 0, 0, 0),
  (505, .iadd, 0, 0, 0, 0),
  (506, .iaload, 0, 0, 0, 0),
  (507, .aload_n 0, 0, 0, 0, 0),
  (508, .iload 4, 0, 0, 0, 0),
  (510, .iconst 2, 0, 0, 0, 0),
  (511, .iadd, 0, 0, 0, 0),
  (512, .iaload, 0, 0, 0, 0),
  (513, .invokevirtual 63, 197, 3, 0, 1572),
  (516, .pop, 0, 0, 0, 0),
  (517, .goto 878, 0, 0, 0, 0),
  (520, .aload_n 1, 0, 0, 0, 0),
  (521, .aload_n 0, 0, 0, 0, 0),
  (522, .iload 4, 0, 0, 0, 0),
  (524, .iconst 1, 0, 0, 0, 0),
  (525, .iadd, 0, 0, 0, 0),
  (526, .iaload, 0, 0, 0, 0),
  (527, .invokevirtual 64, 68, 2, 0, 782),
  (530, .pop, 0, 0, 0, 0),
  (531, .aload_n 2, 0, 0, 0, 0),
  (532, .aload_n 0, 0, 0, 0, 0),
  (533, .iload 4, 0, 0, 0, 0),
  (535, .iconst 1, 0, 0, 0, 0),
  (536, .iadd, 0, 0, 0, 0),
  (537, .iaload, 0, 0, 0, 0),
  (538, .invokevirtual 67, 203, 2, 0, 1596),
  (541, .pop, 0, 0, 0, 0),
  (542, .goto 853, 0, 0, 0, 0),
  (545, .aload_n 1, 0, 0, 0, 0),
  (546, .aload_n 0, 0, 0, 0, 0),
  (547, .iload 4, 0, 0, 0, 0),
  (549, .iconst 1, 0, 0, 0, 0),
  (550, .iadd, 0, 0, 0, 0),
  (551, .iaload, 0, 0, 0, 0),
  (552, .aload_n 0, 0, 0, 0, 0),
  (553, .iload 4, 0, 0, 0, 0),
  (555, .iconst 2, 0, 0, 0, 0),
  (556, .iadd, 0, 0, 0, 0),
  (557, .iaload, 0, 0, 0, 0),
  (558, .invokevirtual 68, 75, 3, 0, 810),
  (561, .pop, 0, 0, 0, 0),
  (562, .aload_n 2, 0, 0, 0, 0),
  (563, .aload_n 0, 0, 0, 0, 0),
  (564, .iload 4, 0, 0, 0, 0),
  (566, .iconst 1, 0, 0, 0, 0),
  (567, .iadd, 0, 0, 0, 0),
  (568, .iaload, 0, 0, 0, 0),
  (569, .aload_n 0, 0, 0, 0, 0),
  (570, .iload 4, 0, 0, 0, 0),
  (572, .iconst 2, 0, 0, 0, 0),
  (573, .iadd, 0, 0, 0, 0),
  (574, .iaload, 0, 0, 0, 0),
  (575, .invokevirtual 71, 209, 3, 0, 1620),
  (578, .pop, 0, 0, 0, 0),
  (579, .goto 816, 0, 0, 0, 0),
  (582, .aload_n 1, 0, 0, 0, 0),
  (583, .aload_n 0, 0, 0, 0, 0),
  (584, .iload 4, 0, 0, 0, 0),
  (586, .iconst 1, 0, 0, 0, 0),
  (587, .iadd, 0, 0, 0, 0),
  (588, .iaload, 0, 0, 0, 0),
  (589, .invokevirtual 72, 78, 2, 0, 823),
  (592, .pop, 0, 0, 0, 0),
  (593, .aload_n 2, 0, 0, 0, 0),
  (594, .aload_n 0, 0, 0, 0, 0),
  (595, .iload 4, 0, 0, 0, 0),
  (597, .iconst 1, 0, 0, 0, 0),
  (598, .iadd, 0, 0, 0, 0),
  (599, .iaload, 0, 0, 0, 0),
  (600, .invokevirtual 75, 211, 2, 0, 1628),
  (603, .pop, 0, 0, 0, 0),
  (604, .goto 791, 0, 0, 0, 0),
  (607, .aload_n 1, 0, 0, 0, 0),
  (608, .invokevirtual 76, 79, 1, 0, 827),
  (611, .pop, 0, 0, 0, 0),
  (612, .aload_n 2, 0, 0, 0, 0),
  (613, .invokevirtual 79, 212, 1, 0, 1632),
  (616, .pop, 0, 0, 0, 0),
  (617, .goto 778, 0, 0, 0, 0),
  (620, .aload_n 1, 0, 0, 0, 0),
  (621, .aload_n 0, 0, 0, 0, 0),
  (622, .iload 4, 0, 0, 0, 0),
  (624, .iconst 1, 0, 0, 0, 0),
  (625, .iadd, 0, 0, 0, 0),
  (626, .iaload, 0, 0, 0, 0),
  (627, .invokevirtual 80, 81, 2, 0, 835),
  (630, .pop, 0, 0, 0, 0),
  (631, .aload_n 2, 0, 0, 0, 0),
  (632, .aload_n 0, 0, 0, 0, 0),
  (633, .iload 4, 0, 0, 0, 0),
  (635, .iconst 1, 0, 0, 0, 0),
  (636, .iadd, 0, 0, 0, 0),
  (637, .iaload, 0, 0, 0, 0),
  (638, .invokevirtual 83, 213, 2, 0, 1636),
  (641, .pop, 0, 0, 0, 0),
  (642, .goto 753, 0, 0, 0, 0),
  (645, .aload_n 1, 0, 0, 0, 0),
  (646, .aload_n 0, 0, 0, 0, 0),
  (647, .iload 4, 0, 0, 0, 0),
  (649, .iconst 1, 0, 0, 0, 0),
  (650, .iadd, 0, 0, 0, 0),
  (651, .iaload, 0, 0, 0, 0),
  (652, .aload_n 0, 0, 0, 0, 0),
  (653, .iload 4, 0, 0, 0, 0),
  (655, .iconst 2, 0, 0, 0, 0),
  (656, .iadd, 0, 0, 0, 0),
  (657, .iaload, 0, 0, 0, 0),
  (658, .aload_n 0, 0, 0, 0, 0),
  (659, .iload 4, 0, 0, 0, 0),
  (661, .iconst 3, 0, 0, 0, 0),
  (662, .iadd, 0, 0, 0, 0),
  (663, .iaload, 0, 0, 0, 0),
  (664, .invokevirtual 84, 83, 4, 0, 843),
  (667, .pop, 0, 0, 0, 0),
  (668, .aload_n 2, 0, 0, 0, 0),
  (669, .aload_n 0, 0, 0, 0, 0),
  (670, .iload 4, 0, 0, 0, 0),
  (672, .iconst 1, 0, 0, 0, 0),
  (673, .iadd, 0, 0, 0, 0),
  (674, .iaload, 0, 0, 0, 0),
  (675, .aload_n 0, 0, 0, 0, 0),
  (676, .iload 4, 0, 0, 0, 0),
  (678, .iconst 2, 0, 0, 0, 0),
  (679, .iadd, 0, 0, 0, 0),
  (680, .iaload, 0, 0, 0, 0),
  (681, .aload_n 0, 0, 0, 0, 0),
  (682, .iload 4, 0, 0, 0, 0),
  (684, .iconst 3, 0, 0, 0, 0),
  (685, .iadd, 0, 0, 0, 0),
  (686, .iaload, 0, 0, 0, 0),
  (687, .invokevirtual 88, 214, 4, 0, 1640),
  (690, .pop, 0, 0, 0, 0),
  (691, .goto 704, 0, 0, 0, 0),
  (694, .aload_n 1, 0, 0, 0, 0),
  (695, .aload_n 0, 0, 0, 0, 0),
  (696, .iload 4, 0, 0, 0, 0),
  (698, .iconst 1, 0, 0, 0, 0),
  (699, .iadd, 0, 0, 0, 0),
  (700, .iaload, 0, 0, 0, 0),
  (701, .invokevirtual 89, 86, 2, 0, 857),
  (704, .pop, 0, 0, 0, 0),
  (705, .aload_n 2, 0, 0, 0, 0),
  (706, .aload_n 0, 0, 0, 0, 0),
  (707, .iload 4, 0, 0, 0, 0),
  (709, .iconst 1, 0, 0, 0, 0),
  (710, .iadd, 0, 0, 0, 0),
  (711, .iaload, 0, 0, 0, 0),
  (712, .invokevirtual 92, 218, 2, 0, 1656),
  (715, .pop, 0, 0, 0, 0),
  (716, .goto 679, 0, 0, 0, 0),
  (719, .aload_n 1, 0, 0, 0, 0),
  (720, .aload_n 0, 0, 0, 0, 0),
  (721, .iload 4, 0, 0, 0, 0),
  (723, .iconst 1, 0, 0, 0, 0),
  (724, .iadd, 0, 0, 0, 0),
  (725, .iaload, 0, 0, 0, 0),
  (726, .aload_n 0, 0, 0, 0, 0),
  (727, .iload 4, 0, 0, 0, 0),
  (729, .iconst 2, 0, 0, 0, 0),
  (730, .iadd, 0, 0, 0, 0),
  (731, .iaload, 0, 0, 0, 0),
  (732, .aload_n 3, 0, 0, 0, 0),
  (733, .invokestatic 93, 1, 4, 6, 1235),
  (736, .istore 5, 0, 0, 0, 0),
  (738, .aload_n 2, 0, 0, 0, 0),
  (739, .aload_n 0, 0, 0, 0, 0),
  (740, .iload 4, 0, 0, 0, 0),
  (742, .iconst 1, 0, 0, 0, 0),
  (743, .iadd, 0, 0, 0, 0),
  (744, .iaload, 0, 0, 0, 0),
  (745, .aload_n 0, 0, 0, 0, 0),
  (746, .iload 4, 0, 0, 0, 0),
  (748, .iconst 2, 0, 0, 0, 0),
  (749, .iadd, 0, 0, 0, 0),
  (750, .iaload, 0, 0, 0, 0),
  (751, .invokevirtual 95, 219, 3, 0, 1660),
  (754, .istore 6, 0, 0, 0, 0),
  (756, .goto 639, 0, 0, 0, 0),
  (759, .aload_n 1, 0, 0, 0, 0),
  (760, .aload_n 0, 0, 0, 0, 0),
  (761, .iload 4, 0, 0, 0, 0),
  (763, .iconst 1, 0, 0, 0, 0),
  (764, .iadd, 0, 0, 0, 0),
  (765, .iaload, 0, 0, 0, 0),
  (766, .invokevirtual 96, 87, 2, 0, 861),
  (769, .pop, 0, 0, 0, 0),
  (770, .aload_n 2, 0, 0, 0, 0),
  (771, .aload_n 0, 0, 0, 0, 0),
  (772, .iload 4, 0, 0, 0, 0),
  (774, .iconst 1, 0, 0, 0, 0),
  (775, .iadd, 0, 0, 0, 0),
  (776, .iaload, 0, 0, 0, 0),
  (777, .invokevirtual 99, 220, 2, 0, 1664),
  (780, .pop, 0, 0, 0, 0),
  (781, .goto 614, 0, 0, 0, 0),
  (784, .aload_n 1, 0, 0, 0, 0),
  (785, .aload_n 0, 0, 0, 0, 0),
  (786, .iload 4, 0, 0, 0, 0),
  (788, .iconst 1, 0, 0, 0, 0),
  (789, .iadd, 0, 0, 0, 0),
  (790, .iaload, 0, 0, 0, 0),
  (791, .aload_n 0, 0, 0, 0, 0),
  (792, .iload 4, 0, 0, 0, 0),
  (794, .iconst 2, 0, 0, 0, 0),
  (795, .iadd, 0, 0, 0, 0),
  (796, .iaload, 0, 0, 0, 0),
  (797, .invokevirtual 100, 88, 3, 0, 866),
  (800, .pop, 0, 0, 0, 0),
  (801, .aload_n 2, 0, 0, 0, 0),
  (802, .aload_n 0, 0, 0, 0, 0),
  (803, .iload 4, 0, 0, 0, 0),
  (805, .iconst 1, 0, 0, 0, 0),
  (806, .iadd, 0, 0, 0, 0),
  (807, .iaload, 0, 0, 0, 0),
  (808, .aload_n 0, 0, 0, 0, 0),
  (809, .iload 4, 0, 0, 0, 0),
  (811, .iconst 2, 0, 0, 0, 0),
  (812, .iadd, 0, 0, 0, 0),
  (813, .iaload, 0, 0, 0, 0),
  (814, .invokevirtual 103, 221, 3, 0, 1668),
  (817, .pop, 0, 0, 0, 0),
  (818, .goto 577, 0, 0, 0, 0),
  (821, .aload_n 1, 0, 0, 0, 0),
  (822, .aload_n 0, 0, 0, 0, 0),
  (823, .iload 4, 0, 0, 0, 0),
  (825, .iconst 1, 0, 0, 0, 0),
  (826, .iadd, 0, 0, 0, 0),
  (827, .iaload, 0, 0, 0, 0),
  (828, .invokevirtual 104, 89, 2, 0, 870),
  (831, .pop, 0, 0, 0, 0),
  (832, .aload_n 2, 0, 0, 0, 0),
  (833, .aload_n 0, 0, 0, 0, 0),
  (834, .iload 4, 0, 0, 0, 0),
  (836, .iconst 1, 0, 0, 0, 0),
  (837, .iadd, 0, 0, 0, 0),
  (838, .iaload, 0, 0, 0, 0),
  (839, .invokevirtual 107, 222, 2, 0, 1672),
  (842, .pop, 0, 0, 0, 0),
  (843, .goto 552, 0, 0, 0, 0),
  (846, .aload_n 1, 0, 0, 0, 0),
  (847, .aload_n 0, 0, 0, 0, 0),
  (848, .iload 4, 0, 0, 0, 0),
  (850, .iconst 1, 0, 0, 0, 0),
  (851, .iadd, 0, 0, 0, 0),
  (852, .iaload, 0, 0, 0, 0),
  (853, .invokevirtual 108, 98, 2, 0, 910),
  (856, .pop, 0, 0, 0, 0),
  (857, .aload_n 2, 0, 0, 0, 0),
  (858, .aload_n 0, 0, 0, 0, 0),
  (859, .iload 4, 0, 0, 0, 0),
  (861, .iconst 1, 0, 0, 0, 0),
  (862, .iadd, 0, 0, 0, 0),
  (863, .iaload, 0, 0, 0, 0),
  (864, .invokevirtual 111, 227, 2, 0, 1692),
  (867, .pop, 0, 0, 0, 0),
  (868, .goto 527, 0, 0, 0, 0),
  (871, .aload_n 1, 0, 0, 0, 0),
  (872, .aload_n 0, 0, 0, 0, 0),
  (873, .iload 4, 0, 0, 0, 0),
  (875, .iconst 1, 0, 0, 0, 0),
  (876, .iadd, 0, 0, 0, 0),
  (877, .iaload, 0, 0, 0, 0),
  (878, .invokevirtual 112, 99, 2, 0, 914),
  (881, .pop, 0, 0, 0, 0),
  (882, .aload_n 2, 0, 0, 0, 0),
  (883, .aload_n 0, 0, 0, 0, 0),
  (884, .iload 4, 0, 0, 0, 0),
  (886, .iconst 1, 0, 0, 0, 0),
  (887, .iadd, 0, 0, 0, 0),
  (888, .iaload, 0, 0, 0, 0),
  (889, .invokevirtual 115, 228, 2, 0, 1696),
  (892, .pop, 0, 0, 0, 0),
  (893, .goto 502, 0, 0, 0, 0),
  (896, .aload_n 1, 0, 0, 0, 0),
  (897, .aload_n 0, 0, 0, 0, 0),
  (898, .iload 4, 0, 0, 0, 0),
  (900, .iconst 1, 0, 0, 0, 0),
  (901, .iadd, 0, 0, 0, 0),
  (902, .iaload, 0, 0, 0, 0),
  (903, .invokevirtual 116, 101, 2, 0, 922),
  (906, .pop, 0, 0, 0, 0),
  (907, .aload_n 2, 0, 0, 0, 0),
  (908, .aload_n 0, 0, 0, 0, 0),
  (909, .iload 4, 0, 0, 0, 0),
  (911, .iconst 1, 0, 0, 0, 0),
  (912, .iadd, 0, 0, 0, 0),
  (913, .iaload, 0, 0, 0, 0),
  (914, .invokevirtual 119, 229, 2, 0, 1700),
  (917, .pop, 0, 0, 0, 0),
  (918, .goto 477, 0, 0, 0, 0),
  (921, .aload_n 1, 0, 0, 0, 0),
  (922, .invokevirtual 120, 103, 1, 0, 930),
  (925, .pop, 0, 0, 0, 0),
  (926, .aload_n 2, 0, 0, 0, 0),
  (927, .invokevirtual 123, 230, 1, 0, 1704),
  (930, .pop, 0, 0, 0, 0),
  (931, .goto 464, 0, 0, 0, 0),
  (934, .aload_n 1, 0, 0, 0, 0),
  (935, .invokevirtual 124, 104, 1, 0, 934),
  (938, .pop, 0, 0, 0, 0),
  (939, .aload_n 2, 0, 0, 0, 0),
  (940, .invokevirtual 127, 231, 1, 0, 1708),
  (943, .pop, 0, 0, 0, 0),
  (944, .goto 451, 0, 0, 0, 0),
  (947, .aload_n 1, 0, 0, 0, 0),
  (948, .invokevirtual 128, 105, 1, 0, 938),
  (951, .pop, 0, 0, 0, 0),
  (952, .aload_n 2, 0, 0, 0, 0),
  (953, .invokevirtual 131, 232, 1, 0, 1713),
  (956, .pop, 0, 0, 0, 0),
  (957, .goto 438, 0, 0, 0, 0),
  (960, .aload_n 1, 0, 0, 0, 0),
  (961, .aload_n 0, 0, 0, 0, 0),
  (962, .iload 4, 0, 0, 0, 0),
  (964, .iconst 1, 0, 0, 0, 0),
  (965, .iadd, 0, 0, 0, 0),
  (966, .iaload, 0, 0, 0, 0),
  (967, .invokevirtual 132, 110, 2, 0, 958),
  (970, .pop, 0, 0, 0, 0),
  (971, .aload_n 2, 0, 0, 0, 0),
  (972, .aload_n 0, 0, 0, 0, 0),
  (973, .iload 4, 0, 0, 0, 0),
  (975, .iconst 1, 0, 0, 0, 0),
  (976, .iadd, 0, 0, 0, 0),
  (977, .iaload, 0, 0, 0, 0),
  (978, .invokevirtual 135, 234, 2, 0, 1721),
  (981, .pop, 0, 0, 0, 0),
  (982, .goto 413, 0, 0, 0, 0),
  (985, .aload_n 1, 0, 0, 0, 0),
  (986, .aload_n 0, 0, 0, 0, 0),
  (987, .iload 4, 0, 0, 0, 0),
  (989, .iconst 1, 0, 0, 0, 0),
  (990, .iadd, 0, 0, 0, 0),
  (991, .iaload, 0, 0, 0, 0),
  (992, .aload_n 0, 0, 0, 0, 0),
  (993, .iload 4, 0, 0, 0, 0),
  (995, .iconst 2, 0, 0, 0, 0),
  (996, .iadd, 0, 0, 0, 0),
  (997, .iaload, 0, 0, 0, 0),
  (998, .invokevirtual 136, 111, 3, 0, 962),
  (1001, .pop, 0, 0, 0, 0),
  (1002, .aload_n 2, 0, 0, 0, 0),
  (1003, .aload_n 0, 0, 0, 0, 0),
  (1004, .iload 4, 0, 0, 0, 0),
  (1006, .iconst 1, 0, 0, 0, 0),
  (1007, .iadd, 0, 0, 0, 0),
  (1008, .iaload, 0, 0, 0, 0),
  (1009, .aload_n 0, 0, 0, 0, 0),
  (1010, .iload 4, 0, 0, 0, 0),
  (1012, .iconst 2, 0, 0, 0, 0),
  (1013, .iadd, 0, 0, 0, 0),
  (1014, .iaload, 0, 0, 0, 0),
  (1015, .invokevirtual 139, 235, 3, 0, 1725),
  (1018, .pop, 0, 0, 0, 0),
  (1019, .goto 376, 0, 0, 0, 0),
  (1022, .aload_n 1, 0, 0, 0, 0),
  (1023, .aload_n 0, 0, 0, 0, 0),
  (1024, .iload 4, 0, 0, 0, 0),
  (1026, .iconst 1, 0, 0, 0, 0),
  (1027, .iadd, 0, 0, 0, 0),
  (1028, .iaload, 0, 0, 0, 0),
  (1029, .invokevirtual 140, 114, 2, 0, 975),
  (1032, .pop, 0, 0, 0, 0),
  (1033, .aload_n 2, 0, 0, 0, 0),
  (1034, .aload_n 0, 0, 0, 0, 0),
  (1035, .iload 4, 0, 0, 0, 0),
  (1037, .iconst 1, 0, 0, 0, 0),
  (1038, .iadd, 0, 0, 0, 0),
  (1039, .iaload, 0, 0, 0, 0),
  (1040, .invokevirtual 143, 238, 2, 0, 1737),
  (1043, .pop, 0, 0, 0, 0),
  (1044, .goto 351, 0, 0, 0, 0),
  (1047, .aload_n 1, 0, 0, 0, 0),
  (1048, .aload_n 0, 0, 0, 0, 0),
  (1049, .iload 4, 0, 0, 0, 0),
  (1051, .iconst 1, 0, 0, 0, 0),
  (1052, .iadd, 0, 0, 0, 0),
  (1053, .iaload, 0, 0, 0, 0),
  (1054, .aload_n 0, 0, 0, 0, 0),
  (1055, .iload 4, 0, 0, 0, 0),
  (1057, .iconst 2, 0, 0, 0, 0),
  (1058, .iadd, 0, 0, 0, 0),
  (1059, .iaload, 0, 0, 0, 0),
  (1060, .invokevirtual 144, 116, 3, 0, 984),
  (1063, .pop, 0, 0, 0, 0),
  (1064, .aload_n 2, 0, 0, 0, 0),
  (1065, .aload_n 0, 0, 0, 0, 0),
  (1066, .iload 4, 0, 0, 0, 0),
  (1068, .iconst 1, 0, 0, 0, 0),
  (1069, .iadd, 0, 0, 0, 0),
  (1070, .iaload, 0, 0, 0, 0),
  (1071, .aload_n 0, 0, 0, 0, 0),
  (1072, .iload 4, 0, 0, 0, 0),
  (1074, .iconst 2, 0, 0, 0, 0),
  (1075, .iadd, 0, 0, 0, 0),
  (1076, .iaload, 0, 0, 0, 0),
  (1077, .invokevirtual 147, 239, 3, 0, 1741),
  (1080, .pop, 0, 0, 0, 0),
  (1081, .goto 314, 0, 0, 0, 0),
  (1084, .aload_n 1, 0, 0, 0, 0),
  (1085, .aload_n 0, 0, 0, 0, 0),
  (1086, .iload 4, 0, 0, 0, 0),
  (1088, .iconst 1, 0, 0, 0, 0),
  (1089, .iadd, 0, 0, 0, 0),
  (1090, .iaload, 0, 0, 0, 0),
  (1091, .invokevirtual 148, 119, 2, 0, 996),
  (1094, .pop, 0, 0, 0, 0),
  (1095, .aload_n 2, 0, 0, 0, 0),
  (1096, .aload_n 0, 0, 0, 0, 0),
  (1097, .iload 4, 0, 0, 0, 0),
  (1099, .iconst 1, 0, 0, 0, 0),
  (1100, .iadd, 0, 0, 0, 0),
  (1101, .iaload, 0, 0, 0, 0),
  (1102, .invokevirtual 151, 241, 2, 0, 1749),
  (1105, .pop, 0, 0, 0, 0),
  (1106, .goto 289, 0, 0, 0, 0),
  (1109, .aload_n 1, 0, 0, 0, 0),
  (1110, .aload_n 0, 0, 0, 0, 0),
  (1111, .iload 4, 0, 0, 0, 0),
  (1113, .iconst 1, 0, 0, 0, 0),
  (1114, .iadd, 0, 0, 0, 0),
  (1115, .iaload, 0, 0, 0, 0),
  (1116, .aload_n 0, 0, 0, 0, 0),
  (1117, .iload 4, 0, 0, 0, 0),
  (1119, .iconst 2, 0, 0, 0, 0),
  (1120, .iadd, 0, 0, 0, 0),
  (1121, .iaload, 0, 0, 0, 0),
  (1122, .invokevirtual 152, 120, 3, 0, 1001),
  (1125, .pop, 0, 0, 0, 0),
  (1126, .aload_n 2, 0, 0, 0, 0),
  (1127, .aload_n 0, 0, 0, 0, 0),
  (1128, .iload 4, 0, 0, 0, 0),
  (1130, .iconst 1, 0, 0, 0, 0),
  (1131, .iadd, 0, 0, 0, 0),
  (1132, .iaload, 0, 0, 0, 0),
  (1133, .aload_n 0, 0, 0, 0, 0),
  (1134, .iload 4, 0, 0, 0, 0),
  (1136, .iconst 2, 0, 0, 0, 0),
  (1137, .iadd, 0, 0, 0, 0),
  (1138, .iaload, 0, 0, 0, 0),
  (1139, .invokevirtual 155, 242, 3, 0, 1753),
  (1142, .pop, 0, 0, 0, 0),
  (1143, .goto 252, 0, 0, 0, 0),
  (1146, .aload_n 1, 0, 0, 0, 0),
  (1147, .aload_n 0, 0, 0, 0, 0),
  (1148, .iload 4, 0, 0, 0, 0),
  (1150, .iconst 1, 0, 0, 0, 0),
  (1151, .iadd, 0, 0, 0, 0),
  (1152, .iaload, 0, 0, 0, 0),
  (1153, .aload_n 0, 0, 0, 0, 0),
  (1154, .iload 4, 0, 0, 0, 0),
  (1156, .iconst 2, 0, 0, 0, 0),
  (1157, .iadd, 0, 0, 0, 0),
  (1158, .iaload, 0, 0, 0, 0),
  (1159, .invokevirtual 156, 121, 3, 0, 1005),
  (1162, .pop, 0, 0, 0, 0),
  (1163, .aload_n 2, 0, 0, 0, 0),
  (1164, .aload_n 0, 0, 0, 0, 0),
  (1165, .iload 4, 0, 0, 0, 0),
  (1167, .iconst 1, 0, 0, 0, 0),
  (1168, .iadd, 0, 0, 0, 0),
  (1169, .iaload, 0, 0, 0, 0),
  (1170, .aload_n 0, 0, 0, 0, 0),
  (1171, .iload 4, 0, 0, 0, 0),
  (1173, .iconst 2, 0, 0, 0, 0),
  (1174, .iadd, 0, 0, 0, 0),
  (1175, .iaload, 0, 0, 0, 0),
  (1176, .invokevirtual 159, 243, 3, 0, 1757),
  (1179, .pop, 0, 0, 0, 0),
  (1180, .goto 215, 0, 0, 0, 0),
  (1183, .aload_n 1, 0, 0, 0, 0),
  (1184, .aload_n 0, 0, 0, 0, 0),
  (1185, .iload 4, 0, 0, 0, 0),
  (1187, .iconst 1, 0, 0, 0, 0),
  (1188, .iadd, 0, 0, 0, 0),
  (1189, .iaload, 0, 0, 0, 0),
  (1190, .aload_n 0, 0, 0, 0, 0),
  (1191, .iload 4, 0, 0, 0, 0),
  (1193, .iconst 2, 0, 0, 0, 0),
  (1194, .iadd, 0, 0, 0, 0),
  (1195, .iaload, 0, 0, 0, 0),
  (1196, .aload_n 0, 0, 0, 0, 0),
  (1197, .iload 4, 0, 0, 0, 0),
  (1199, .iconst 3, 0, 0, 0, 0),
  (1200, .iadd, 0, 0, 0, 0),
  (1201, .iaload, 0, 0, 0, 0),
  (1202, .invokevirtual 160, 124, 4, 0, 1019),
  (1205, .pop, 0, 0, 0, 0),
  (1206, .aload_n 2, 0, 0, 0, 0),
  (1207, .aload_n 0, 0, 0, 0, 0),
  (1208, .iload 4, 0, 0, 0, 0),
  (1210, .iconst 1, 0, 0, 0, 0),
  (1211, .iadd, 0, 0, 0, 0),
  (1212, .iaload, 0, 0, 0, 0),
  (1213, .aload_n 0, 0, 0, 0, 0),
  (1214, .iload 4, 0, 0, 0, 0),
  (1216, .iconst 2, 0, 0, 0, 0),
  (1217, .iadd, 0, 0, 0, 0),
  (1218, .iaload, 0, 0, 0, 0),
  (1219, .aload_n 0, 0, 0, 0, 0),
  (1220, .iload 4, 0, 0, 0, 0),
  (1222, .iconst 3, 0, 0, 0, 0),
  (1223, .iadd, 0, 0, 0, 0),
  (1224, .iaload, 0, 0, 0, 0),
  (1225, .invokevirtual 163, 246, 4, 0, 1770),
  (1228, .pop, 0, 0, 0, 0),
  (1229, .goto 166, 0, 0, 0, 0),
  (1232, .aload_n 1, 0, 0, 0, 0),
  (1233, .aload_n 0, 0, 0, 0, 0),
  (1234, .iload 4, 0, 0, 0, 0),
  (1236, .iconst 1, 0, 0, 0, 0),
  (1237, .iadd, 0, 0, 0, 0),
  (1238, .iaload, 0, 0, 0, 0),
  (1239, .invokevirtual 164, 125, 2, 0, 1023),
  (1242, .pop, 0, 0, 0, 0),
  (1243, .aload_n 2, 0, 0, 0, 0),
  (1244, .aload_n 0, 0, 0, 0, 0),
  (1245, .iload 4, 0, 0, 0, 0),
  (1247, .iconst 1, 0, 0, 0, 0),
  (1248, .iadd, 0, 0, 0, 0),
  (1249, .iaload, 0, 0, 0, 0),
  (1250, .invokevirtual 167, 247, 2, 0, 1774),
  (1253, .pop, 0, 0, 0, 0),
  (1254, .goto 141, 0, 0, 0, 0),
  (1257, .aload_n 1, 0, 0, 0, 0),
  (1258, .aload_n 0, 0, 0, 0, 0),
  (1259, .iload 4, 0, 0, 0, 0),
  (1261, .iconst 1, 0, 0, 0, 0),
  (1262, .iadd, 0, 0, 0, 0),
  (1263, .iaload, 0, 0, 0, 0),
  (1264, .invokevirtual 168, 135, 2, 0, 1073),
  (1267, .pop, 0, 0, 0, 0),
  (1268, .aload_n 2, 0, 0, 0, 0),
  (1269, .aload_n 0, 0, 0, 0, 0),
  (1270, .iload 4, 0, 0, 0, 0),
  (1272, .iconst 1, 0, 0, 0, 0),
  (1273, .iadd, 0, 0, 0, 0),
  (1274, .iaload, 0, 0, 0, 0),
  (1275, .invokevirtual 171, 250, 2, 0, 1786),
  (1278, .pop, 0, 0, 0, 0),
  (1279, .goto 116, 0, 0, 0, 0),
  (1282, .aload_n 1, 0, 0, 0, 0),
  (1283, .invokevirtual 172, 136, 1, 0, 1077),
  (1286, .pop, 0, 0, 0, 0),
  (1287, .aload_n 2, 0, 0, 0, 0),
  (1288, .invokevirtual 175, 251, 1, 0, 1790),
  (1291, .pop, 0, 0, 0, 0),
  (1292, .goto 103, 0, 0, 0, 0),
  (1295, .aload_n 1, 0, 0, 0, 0),
  (1296, .aload_n 0, 0, 0, 0, 0),
  (1297, .iload 4, 0, 0, 0, 0),
  (1299, .iconst 1, 0, 0, 0, 0),
  (1300, .iadd, 0, 0, 0, 0),
  (1301, .iaload, 0, 0, 0, 0),
  (1302, .invokevirtual 176, 145, 2, 0, 1123),
  (1305, .pop, 0, 0, 0, 0),
  (1306, .aload_n 2, 0, 0, 0, 0),
  (1307, .aload_n 0, 0, 0, 0, 0),
  (1308, .iload 4, 0, 0, 0, 0),
  (1310, .iconst 1, 0, 0, 0, 0),
  (1311, .iadd, 0, 0, 0, 0),
  (1312, .iaload, 0, 0, 0, 0),
  (1313, .invokevirtual 179, 258, 2, 0, 1818),
  (1316, .pop, 0, 0, 0, 0),
  (1317, .goto 78, 0, 0, 0, 0),
  (1320, .aload_n 1, 0, 0, 0, 0),
  (1321, .aload_n 0, 0, 0, 0, 0),
  (1322, .iload 4, 0, 0, 0, 0),
  (1324, .iconst 1, 0, 0, 0, 0),
  (1325, .iadd, 0, 0, 0, 0),
  (1326, .iaload, 0, 0, 0, 0),
  (1327, .invokevirtual 180, 151, 2, 0, 1153),
  (1330, .aload_n 2, 0, 0, 0, 0),
  (1331, .aload_n 0, 0, 0, 0, 0),
  (1332, .iload 4, 0, 0, 0, 0),
  (1334, .iconst 1, 0, 0, 0, 0),
  (1335, .iadd, 0, 0, 0, 0),
  (1336, .iaload, 0, 0, 0, 0),
  (1337, .invokevirtual 183, 262, 2, 0, 1833),
  (1340, .if_icmp .eq 55, 0, 0, 0, 0),
  (1343, .iconst 0, 0, 0, 0, 0),
  (1344, .ireturn, 0, 0, 0, 0),
  (1345, .aload_n 1, 0, 0, 0, 0),
  (1346, .aload_n 0, 0, 0, 0, 0),
  (1347, .iload 4, 0, 0, 0, 0),
  (1349, .iconst 1, 0, 0, 0, 0),
  (1350, .iadd, 0, 0, 0, 0),
  (1351, .iaload, 0, 0, 0, 0),
  (1352, .invokevirtual 184, 152, 2, 0, 1157),
  (1355, .pop, 0, 0, 0, 0),
  (1356, .aload_n 2, 0, 0, 0, 0),
  (1357, .aload_n 0, 0, 0, 0, 0),
  (1358, .iload 4, 0, 0, 0, 0),
  (1360, .iconst 1, 0, 0, 0, 0),
  (1361, .iadd, 0, 0, 0, 0),
  (1362, .iaload, 0, 0, 0, 0),
  (1363, .invokevirtual 187, 263, 2, 0, 1837),
  (1366, .pop, 0, 0, 0, 0),
  (1367, .goto 28, 0, 0, 0, 0),
  (1370, .aload_n 1, 0, 0, 0, 0),
  (1371, .aload_n 0, 0, 0, 0, 0),
  (1372, .iload 4, 0, 0, 0, 0),
  (1374, .iconst 1, 0, 0, 0, 0),
  (1375, .iadd, 0, 0, 0, 0),
  (1376, .iaload, 0, 0, 0, 0),
  (1377, .invokevirtual 188, 153, 2, 0, 1161),
  (1380, .pop, 0, 0, 0, 0),
  (1381, .aload_n 2, 0, 0, 0, 0),
  (1382, .aload_n 0, 0, 0, 0, 0),
  (1383, .iload 4, 0, 0, 0, 0),
  (1385, .iconst 1, 0, 0, 0, 0),
  (1386, .iadd, 0, 0, 0, 0),
  (1387, .iaload, 0, 0, 0, 0),
  (1388, .invokevirtual 191, 264, 2, 0, 1841),
  (1391, .pop, 0, 0, 0, 0),
  (1392, .goto 3, 0, 0, 0, 0),
  (1395, .iinc 4 6, 0, 0, 0, 0),
  (1398, .goto (-1375), 0, 0, 0, 0),
  (1401, .iconst 1, 0, 0, 0, 0),
  (1402, .ireturn, 0, 0, 0, 0)])
def nj_ms : List nM := [nm_0, nm_1, nm_2, nm_3, nm_4, nm_5, nm_6, nm_7, nm_8, nm_9, nm_10, nm_11, nm_12, nm_13, nm_14, nm_15, nm_16, nm_17, nm_18, nm_19, nm_20, nm_21, nm_22, nm_23, nm_24, nm_25, nm_26, nm_27, nm_28, nm_29, nm_30, nm_31, nm_32, nm_33, nm_34, nm_35, nm_36, nm_37, nm_38, nm_39, nm_40, nm_41, nm_42, nm_43, nm_44, nm_45, nm_46, nm_47, nm_48, nm_49, nm_50, nm_51, nm_52, nm_53, nm_54, nm_55, nm_56, nm_57, nm_58, nm_59, nm_60, nm_61, nm_62, nm_63, nm_64, nm_65, nm_66, nm_67, nm_68, nm_69, nm_70, nm_71, nm_72, nm_73, nm_74, nm_75, nm_76, nm_77, nm_78, nm_79, nm_80, nm_81, nm_82, nm_83, nm_84, nm_85, nm_86, nm_87, nm_88, nm_89, nm_90, nm_91, nm_92, nm_93, nm_94, nm_95, nm_96, nm_97, nm_98, nm_99, nm_100, nm_101, nm_102, nm_103, nm_104, nm_105, nm_106, nm_107, nm_108, nm_109, nm_110, nm_111, nm_112, nm_113, nm_114, nm_115, nm_116, nm_117, nm_118, nm_119, nm_120, nm_121, nm_122, nm_123, nm_124, nm_125, nm_126, nm_127, nm_128, nm_129, nm_130, nm_131, nm_132, nm_133, nm_134, nm_135, nm_136, nm_137, nm_138, nm_139, nm_140, nm_141, nm_142, nm_143, nm_144, nm_145, nm_146, nm_147, nm_148, nm_149, nm_150, nm_151, nm_152, nm_153, nm_154, nm_155, nm_156, nm_157, nm_158, nm_159, nm_160, nm_161, nm_162, nm_163, nm_164, nm_165, nm_166, nm_167, nm_168, nm_169, nm_170, nm_171, nm_172, nm_173, nm_174, nm_175, nm_176, nm_177, nm_178, nm_179, nm_180, nm_181, nm_182, nm_183, nm_184, nm_185, nm_186, nm_187, nm_188, nm_189, nm_190, nm_191, nm_192, nm_193, nm_194, nm_195, nm_196, nm_197, nm_198, nm_199, nm_200, nm_201, nm_202, nm_203, nm_204, nm_205, nm_206, nm_207, nm_208, nm_209, nm_210, nm_211, nm_212, nm_213, nm_214, nm_215, nm_216, nm_217, nm_218, nm_219, nm_220, nm_221, nm_222, nm_223, nm_224, nm_225, nm_226, nm_227, nm_228, nm_229, nm_230, nm_231, nm_232, nm_233, nm_234, nm_235, nm_236, nm_237, nm_238, nm_239, nm_240, nm_241, nm_242, nm_243, nm_244, nm_245, nm_246, nm_247, nm_248, nm_249, nm_250, nm_251, nm_252, nm_253, nm_254, nm_255, nm_256, nm_257, nm_258, nm_259, nm_260, nm_261, nm_262, nm_263, nm_264]
def nj_M (k : Nat) : Option nM := nj_ms[k]?
end
section
def nF_t : List (List fTy) := [
  [.inr (.inl 10), .inr (.inl 11), .inr (.inl 12), .inr (.inl 13), .inr (.inl 14), .inr (.inl 15), .inr (.inl 16), .inr (.inl 17), .inr (.inl 18), .inr (.inl 19), .inr (.inl 20), .inr (.inl 21), .inr (.inl 22), .inr (.inl 23), .inl ((-2147483648), 2147483647), .inl ((-2147483648), 2147483647)],
  [.inr (.inl 0), .inr (.inl 2), .inr (.inl 4), .inl (0, 1)],
  [.inr (.inl 24), .inr (.inl 25), .inr (.inl 26), .inr (.inl 27), .inr (.inl 28), .inl (0, 12), .inl ((-2147483648), 2147483647), .inl ((-2147483648), 2147483647), .inl ((-2147483648), 2147483647), .inl ((-2147483648), 2147483647), .inl ((-2147483648), 2147483647), .inl ((-2147483648), 2147483647)],
  [.inr (.inl 29), .inl (0, 8), .inl (0, 7)],
  [.inr (.inl 30), .inr (.inl 31), .inr (.inl 32), .inr (.inl 33), .inl (0, 40), .inl ((-2147483648), 2147483647)],
  [.inr (.inl 34), .inr (.inl 35), .inr (.inl 36), .inr (.inl 37), .inl (0, 6), .inl (0, 6), .inl (0, 1)],
  [.inr (.inl 38), .inr (.inl 39), .inr (.inl 40), .inl (0, 40), .inl ((-2147483648), 2147483647)],
  [.inr (.inl 41), .inr (.inl 42), .inr (.inl 43), .inr (.inl 44), .inr (.inl 45), .inl (0, 940), .inl (0, 901), .inl (0, 900), .inl ((-2147483648), 2147483647), .inl (0, 1), .inl ((-2147483648), 2147483647), .inl ((-2147483648), 2147483647)],
  [.inr (.inl 7), .inr (.inl 0), .inr (.inl 0), .inr (.inl 2), .inr (.inl 1002), .inr (.inl 4), .inr (.inl 4), .inr (.inl 6), .inr (.inl 3), .inr (.inl 46), .inr (.inl 5), .inr (.inl 47), .inr (.inl 48), .inl (0, 1), .inl ((-2147483648), 2147483647), .inl ((-2147483648), 2147483647), .inl ((-2147483648), 2147483647)],
  [.inl ((-2147483648), 2147483647), .inr (.inl 49), .inl (0, 940), .inl (0, 940), .inl (0, 940), .inl ((-2147483648), 2147483647), .inr (.inl 50), .inr (.inl 51), .inr (.inl 52), .inr (.inl 53), .inr (.inl 54), .inl (0, 4), .inl ((-2147483648), 2147483647), .inl ((-2147483648), 2147483647), .inl ((-2147483648), 2147483647), .inl ((-2147483648), 2147483647), .inl ((-2147483648), 2147483647), .inr (.inr ()), .inl ((-2147483648), 2147483647), .inl ((-2147483648), 2147483647), .inl ((-2147483648), 2147483647), .inr (.inl 55), .inr (.inl 56), .inr (.inl 57), .inl (0, 8), .inr (.inl 58), .inr (.inl 59), .inl (0, 6), .inl ((-2147483648), 2147483647), .inl ((-2147483648), 2147483647), .inl (0, 1), .inr (.inl 60), .inr (.inl 61), .inl ((-1), 6), .inl ((-2147483648), 2147483647), .inl (0, 40), .inr (.inl 62), .inl (0, 1), .inr (.inl 63), .inl (0, 44), .inl (0, 20), .inl (0, 44), .inl ((-2147483648), 2147483647), .inl (0, 1), .inr (.inl 64), .inr (.inl 65), .inr (.inl 66), .inr (.inl 67)],
  [.inr (.inl 69), .inr (.inl 70), .inr (.inl 71), .inr (.inl 72), .inr (.inl 73), .inl (0, 12), .inl ((-2147483648), 2147483647), .inl ((-2147483648), 2147483647), .inl ((-2147483648), 2147483647), .inl ((-2147483648), 2147483647), .inl ((-2147483648), 2147483647), .inl ((-2147483648), 2147483647)]]
def nFT (c k : Nat) : Option fTy := match nF_t[if c = 1002 then 10 else c]? with
  | some r => r[k]?
  | none => none
def nA_t : List aTy := [
  (0, 4, .inl [(1, 0, 6, false), (2, 0, 10, false), (3, 0, 6, false), (4, 0, 4, false)]),
  (3, 26, .inr (.inr ())),
  (0, 10, .inl [(10, (-2147483648), 2147483647, false)]),
  (0, 10, .inl [(10, (-1), 9, false)]),
  (0, 10, .inl [(10, (-1), 9, false)]),
  (0, 10, .inl [(10, (-2147483648), 2147483647, false)]),
  (0, 6, .inl [(6, (-1), 9, false)]),
  (0, 6, .inl [(6, (-2147483648), 2147483647, false)]),
  (0, 6, .inl [(6, (-2147483648), 2147483647, false)]),
  (0, 6, .inl [(6, (-2147483648), 2147483647, false)]),
  (0, 6, .inl [(6, (-2147483648), 2147483647, false)]),
  (0, 6, .inl [(6, (-2147483648), 2147483647, false)]),
  (0, 4, .inl [(4, 0, 12, false)]),
  (0, 48, .inl [(48, (-2147483648), 2147483647, false)]),
  (0, 6, .inl [(6, (-1), 10, false)]),
  (0, 6, .inl [(6, (-2147483648), 2147483647, false)]),
  (0, 6, .inl [(6, (-2147483648), 2147483647, false)]),
  (0, 10, .inl [(10, (-2147483648), 2147483647, false)]),
  (0, 12, .inl [(12, (-2147483648), 2147483647, false)]),
  (4, 8, .inr (.inl 2)),
  (0, 40, .inl [(40, (-2147483648), 2147483647, true)]),
  (0, 40, .inl [(40, (-2147483648), 2147483647, false)]),
  (0, 40, .inl [(40, (-2147483648), 2147483647, true)]),
  (0, 40, .inl [(40, (-2147483648), 2147483647, false)]),
  (0, 6, .inl [(6, (-2147483648), 2147483647, false)]),
  (0, 6, .inl [(6, (-2147483648), 2147483647, false)]),
  (0, 6, .inl [(6, (-2147483648), 2147483647, false)]),
  (0, 6, .inl [(6, (-2147483648), 2147483647, false)]),
  (0, 40, .inl [(40, (-2147483648), 2147483647, true)]),
  (0, 40, .inl [(40, (-2147483648), 2147483647, true)]),
  (0, 40, .inl [(40, (-2147483648), 2147483647, true)]),
  (1, 940, .inl [(940, (-128), 127, false)]),
  (0, 901, .inl [(901, (-2147483648), 2147483647, false)]),
  (0, 901, .inl [(901, (-2147483648), 2147483647, false)]),
  (3, 901, .inr (.inr ())),
  (3, 22, .inr (.inr ())),
  (5, 2, .inr (.inl 1)),
  (0, 6, .inl [(6, (-2147483648), 2147483647, false)]),
  (0, 4, .inl [(4, (-2147483648), 2147483647, false)]),
  (1, 940, .inl [(940, (-128), 127, false)]),
  (0, 360, .inl [(1, 0, 6, false), (2, 0, 10, false), (3, 0, 6, false), (4, 0, 4, false), (14, (-2147483648), 2147483647, false), (15, 0, 0, false), (16, 0, 1, false), (17, 0, 2, false), (18, 0, 3, false), (19, 0, 4, false), (20, 0, 5, false), (21, 0, 6, false), (22, 0, 7, false), (23, 0, 8, false), (24, 0, 9, false), (34, 0, 10, false), (74, (-2147483648), 2147483647, false), (80, 0, 9, false), (84, 0, 12, false), (132, (-2147483648), 2147483647, false), (138, (-2147483648), 2147483647, false), (144, (-1), 10, false), (166, (-2147483648), 2147483647, false), (167, (-1), 12, false), (179, (-2147483648), 2147483647, false), (360, (-2147483648), 2147483647, true)]),
  (0, 132, .inl [(1, 0, 6, false), (2, 0, 10, false), (3, 0, 6, false), (4, 0, 4, false), (14, (-2147483648), 2147483647, false), (15, 0, 0, false), (16, 0, 1, false), (17, 0, 2, false), (18, 0, 3, false), (19, 0, 4, false), (20, 0, 5, false), (21, 0, 6, false), (22, 0, 7, false), (23, 0, 8, false), (24, 0, 9, false), (34, 0, 10, false), (74, (-2147483648), 2147483647, false), (80, 0, 9, false), (84, 0, 12, false), (132, (-2147483648), 2147483647, false)]),
  (0, 135, .inl [(135, (-2147483648), 2147483647, true)]),
  (3, 52, .inr (.inr ())),
  (3, 22, .inr (.inr ())),
  (0, 12, .inl [(12, (-2147483648), 2147483647, false)]),
  (0, 376, .inl [(6, (-2147483648), 2147483647, false), (12, (-1), 10, false), (34, (-2147483648), 2147483647, false), (35, (-1), 12, false), (47, (-2147483648), 2147483647, false), (53, (-2147483648), 2147483647, false), (59, (-1), 10, false), (81, (-2147483648), 2147483647, false), (82, (-1), 12, false), (94, (-2147483648), 2147483647, false), (100, (-2147483648), 2147483647, false), (106, (-1), 10, false), (128, (-2147483648), 2147483647, false), (129, (-1), 12, false), (141, (-2147483648), 2147483647, false), (147, (-2147483648), 2147483647, false), (153, (-1), 10, false), (175, (-2147483648), 2147483647, false), (176, (-1), 12, false), (188, (-2147483648), 2147483647, false), (194, (-2147483648), 2147483647, false), (200, (-1), 10, false), (222, (-2147483648), 2147483647, false), (223, (-1), 12, false), (235, (-2147483648), 2147483647, false), (241, (-2147483648), 2147483647, false), (247, (-1), 10, false), (269, (-2147483648), 2147483647, false), (270, (-1), 12, false), (282, (-2147483648), 2147483647, false), (288, (-2147483648), 2147483647, false), (294, (-1), 10, false), (316, (-2147483648), 2147483647, false), (317, (-1), 12, false), (329, (-2147483648), 2147483647, false), (335, (-2147483648), 2147483647, false), (341, (-1), 10, false), (363, (-2147483648), 2147483647, false), (364, (-1), 12, false), (376, (-2147483648), 2147483647, false)]),
  (0, 47, .inl [(6, (-2147483648), 2147483647, false), (12, (-1), 10, false), (34, (-2147483648), 2147483647, false), (35, (-1), 12, false), (47, (-2147483648), 2147483647, false)]),
  (0, 6, .inl [(6, (-2147483648), 2147483647, false)]),
  (0, 6, .inl [(6, (-2147483648), 2147483647, false)]),
  (0, 6, .inl [(6, (-2147483648), 2147483647, false)]),
  (0, 6, .inl [(6, (-1), 9, false)]),
  (0, 4, .inl [(4, (-2147483648), 2147483647, false)]),
  (0, 45, .inl [(45, (-2147483648), 2147483647, true)]),
  (2, 45, .inl [(45, 0, 1, false)]),
  (0, 720, .inl [(1, 0, 6, false), (2, 0, 10, false), (3, 0, 6, false), (4, 0, 4, false), (14, (-2147483648), 2147483647, false), (15, 0, 0, false), (16, 0, 1, false), (17, 0, 2, false), (18, 0, 3, false), (19, 0, 4, false), (20, 0, 5, false), (21, 0, 6, false), (22, 0, 7, false), (23, 0, 8, false), (24, 0, 9, false), (34, 0, 10, false), (74, (-2147483648), 2147483647, false), (80, 0, 9, false), (84, 0, 12, false), (132, (-2147483648), 2147483647, false), (138, (-2147483648), 2147483647, false), (144, (-1), 10, false), (166, (-2147483648), 2147483647, false), (167, (-1), 12, false), (179, (-2147483648), 2147483647, false), (360, (-2147483648), 2147483647, true), (361, 0, 6, false), (362, 0, 10, false), (363, 0, 6, false), (364, 0, 4, false), (374, (-2147483648), 2147483647, false), (375, 0, 0, false), (376, 0, 1, false), (377, 0, 2, false), (378, 0, 3, false), (379, 0, 4, false), (380, 0, 5, false), (381, 0, 6, false), (382, 0, 7, false), (383, 0, 8, false), (384, 0, 9, false), (394, 0, 10, false), (434, (-2147483648), 2147483647, false), (440, 0, 9, false), (444, 0, 12, false), (492, (-2147483648), 2147483647, false), (498, (-2147483648), 2147483647, false), (504, (-1), 10, false), (526, (-2147483648), 2147483647, false), (527, (-1), 12, false), (539, (-2147483648), 2147483647, false), (720, (-2147483648), 2147483647, true)]),
  (3, 52, .inr (.inr ())),
  (2, 2, .inl [(2, 0, 1, false)]),
  (3, 1, .inr (.inr ())),
  (0, 6, .inl [(6, (-1), 10, false)]),
  (0, 6, .inl [(6, (-2147483648), 2147483647, false)]),
  (0, 6, .inl [(6, (-2147483648), 2147483647, false)]),
  (0, 10, .inl [(10, (-2147483648), 2147483647, false)]),
  (0, 12, .inl [(12, (-2147483648), 2147483647, false)])]
def nAT (t : Nat) : Option aTy := if t < 10 then none else nA_t[t - 10]?
end
section
/-! what only named writes touch -/
theorem gA_obj {h : List nC} {q : Nat} {x y : Nat × List Value} (hq : h[q]? = some (.inr x)) (fs : List Value) (k : Nat) : gA (h.set q (.inr y)) fs k = gA h fs k := by
  unfold gA
  split
  · next r hr =>
    by_cases e : q = r
    · subst e
      rw [List.getElem?_set_self (List.getElem?_eq_some_iff.mp hq).1, hq]
    · rw [List.getElem?_set_ne e]
  · rfl
theorem oT9 {t c : Nat} (h : oT t = some c) : (c = 9 → t = 9) ∧ (c = 4 → t = 4) ∧ (c = 6 → t = 6) := by
  unfold oT at h
  split at h
  · cases h; exact ⟨id, id, id⟩
  · split at h
    · cases h; exact ⟨fun z => by omega, fun z => by omega, fun z => by omega⟩
    · cases h
theorem gA_set {h : List nC} {fs : List Value} {b k : Nat} {x : Value} (hb : ¬ b = k) : gA h (fs.set b x) k = gA h fs k := by
  unfold gA
  rw [List.getElem?_set_ne hb]
theorem gI_set {fs : List Value} {b k : Nat} {x : Value} (hb : ¬ b = k) : gI (fs.set b x) k = gI fs k := by
  unfold gI
  rw [List.getElem?_set_ne hb]
theorem nGp_putf {S : List Nat} {h : List nC} {q t c b : Nat} {fs : List Value} {x : Value} (ht : S[q]? = some t) (hc : oT t = some c) (hsp : nSp t b = false) (hq : h[q]? = some (.inr (c, fs))) : nGp S h (h.set q (.inr (c, fs.set b x))) := by
  intro q2 t2 ci fs2 fs3 k hS h2 h3
  obtain ⟨o1, o2, o3⟩ := oT9 hc
  by_cases e : q = q2
  · subst e
    rw [List.getElem?_set_self (List.getElem?_eq_some_iff.mp hq).1] at h3
    cases h3
    cases hq.symm.trans h2
    unfold nGh
    simp only [gA_obj hq]
    split
    · next e9 =>
      have et := o1 e9
      subst et
      simp [nSp] at hsp
      rw [gA_set (by omega), gA_set (by omega), gA_set (by omega), gA_set (by omega), gI_set (by omega), gI_set (by omega), gI_set (by omega)]
    · split
      · next e4 =>
        have et := o2 e4
        subst et
        simp [nSp] at hsp
        rw [gA_set (by omega), gA_set (by omega), gI_set (by omega)]
      · split
        · next e6 =>
          have et := o3 e6
          subst et
          simp [nSp] at hsp
          rw [gA_set (by omega), gA_set (by omega), gA_set (by omega), gI_set (by omega)]
        · rfl
  · rw [List.getElem?_set_ne e] at h3
    cases h2.symm.trans h3
    unfold nGh
    simp only [gA_obj hq]
theorem gA_ref {S : List Nat} {h : List nC} {fs : List Value} {k T : Nat} (hfs : ∀ (k : Nat) (ty : fTy), nFT 9 k = some ty → ∃ v : Value, fs[k]? = some v ∧ vOk S ty v) (hk : nFT 9 k = some (.inr (.inl T))) : ∃ r, fs[k]? = some (.ref r) ∧ S[r]? = some T := by
  obtain ⟨v, h1, r, rfl, h3⟩ := hfs k _ hk
  exact ⟨r, h1, h3⟩
theorem gA_arr {S : List Nat} {h : List nC} {q t kd n : Nat} {c1 c2 : (Nat → Int32) ⊕ (Nat → Int64) ⊕ (Nat → Option Nat)} {fs : List Value} {k T j : Nat} (ht : S[q]? = some t) (hq : h[q]? = some (.inl (kd, n, c1))) (hv : ∃ v : Value, fs[k]? = some v ∧ vOk S (.inr (.inl T)) v) (hj : t = T → gA [.inl (kd, n, c2)] [.ref 0] 0 j = gA [.inl (kd, n, c1)] [.ref 0] 0 j) : gA (h.set q (.inl (kd, n, c2))) fs k j = gA h fs k j := by
  obtain ⟨v, h1, r, rfl, h3⟩ := hv
  by_cases e : q = r
  · subst e
    cases ht.symm.trans h3
    have := hj rfl
    unfold gA at this ⊢
    rw [h1]
    simp only [List.getElem?_set_self (List.getElem?_eq_some_iff.mp hq).1, hq]
    simpa using this
  · unfold gA
    rw [h1]
    simp only [List.getElem?_set_ne e]
theorem nGp_arr {S : List Nat} {h : List nC} {q t kd n : Nat} {c1 c2 : (Nat → Int32) ⊕ (Nat → Int64) ⊕ (Nat → Option Nat)} (hT : tOk nFT nAT S h) (ht : S[q]? = some t) (hq : h[q]? = some (.inl (kd, n, c1))) (h1 : ∀ j, (t = 50 → 179 ≤ j → gA [.inl (kd, n, c2)] [.ref 0] 0 j = gA [.inl (kd, n, c1)] [.ref 0] 0 j) ∧ (t = 65 → ((179 ≤ j ∧ j < 360) ∨ 539 ≤ j) → gA [.inl (kd, n, c2)] [.ref 0] 0 j = gA [.inl (kd, n, c1)] [.ref 0] 0 j) ∧ (t ∈ [52, 63, 30, 32, 38, 39, 40] → gA [.inl (kd, n, c2)] [.ref 0] 0 j = gA [.inl (kd, n, c1)] [.ref 0] 0 j)) : nGp S h (h.set q (.inl (kd, n, c2))) := by
  intro q2 t2 ci fs2 fs3 k hS h2 h3
  have e : ¬ q = q2 := fun e => by
    subst e
    cases hq.symm.trans h2
  rw [List.getElem?_set_ne e] at h3
  cases h2.symm.trans h3
  obtain ⟨c, hc1, hc2⟩ := hT q2 t2 hS
  cases hc1.symm.trans h2
  obtain ⟨hoT, hfs⟩ := hc2
  obtain ⟨o1, o2, o3⟩ := oT9 hoT
  have key : ∀ (k T : Nat), nFT t2 k = some (.inr (.inl T)) → T ∈ [52, 63, 30, 32, 38, 39, 40] → gA (h.set q (.inl (kd, n, c2))) fs2 k = gA h fs2 k := fun k T hF hm => by
    funext j
    exact gA_arr ht hq (hfs k _ hF) (fun e => (h1 j).2.2 (e ▸ hm))
  unfold nGh
  split
  · next e9 =>
    have et := o1 e9
    subst et
    rw [key 8 52 rfl (by decide), key 38 63 rfl (by decide)]
    have k6 : gCut true (gA (h.set q (.inl (kd, n, c2))) fs2 6) = gCut true (gA h fs2 6) := by
      funext j
      unfold gCut
      simp only [if_true]
      split
      · next hj => exact gA_arr (T := 50) ht hq (hfs 6 _ rfl) (fun e => (h1 j).1 e hj)
      · rfl
    have k45 : gCut false (gA (h.set q (.inl (kd, n, c2))) fs2 45) = gCut false (gA h fs2 45) := by
      funext j
      unfold gCut
      simp only [Bool.false_eq_true, if_false]
      split
      · next hj => exact gA_arr (T := 65) ht hq (hfs 45 _ rfl) (fun e => (h1 j).2.1 e hj)
      · rfl
    rw [k6, k45]
  · split
    · next e4 =>
      have et := o2 e4
      subst et
      rw [key 0 30 rfl (by decide), key 2 32 rfl (by decide)]
    · split
      · next e6 =>
        have et := o3 e6
        subst et
        rw [key 0 38 rfl (by decide), key 1 39 rfl (by decide), key 2 40 rfl (by decide)]
      · rfl
/-- phrases and scripts are as their readers leave them -/
def nJJ (S : List Nat) (h : List nC) : Prop := ∀ (q t ci : Nat) (fs : List Value), S[q]? = some t → (t = 4 ∨ t = 6) → h[q]? = some (.inr (ci, fs)) → nGh 1000 h ci fs = 1
theorem nJJ_gp {S : List Nat} {h h1 : List nC} (hG : nGp S h h1) (hb : ∀ (q t ci : Nat) (fs1 : List Value), S[q]? = some t → h1[q]? = some (.inr (ci, fs1)) → ∃ fs, h[q]? = some (.inr (ci, fs))) (hJ : nJJ S h) : nJJ S h1 := by
  intro q t ci fs1 hS ht h1q
  obtain ⟨fs, hq⟩ := hb q t ci fs1 hS h1q
  rw [hG q t ci fs fs1 1000 hS hq h1q]
  exact hJ q t ci fs hS ht hq
def nSpc (t j : Nat) : Bool := match nAT t with
  | some (_, _, .inl segs) => (match sAt segs j with
    | some r => r.2.2
    | none => true)
  | _ => false
theorem nSpc50 : ∀ j, 179 ≤ j → nSpc 50 j = true := by
  have hlt : ∀ j, j < 360 → 179 ≤ j → nSpc 50 j = true := by decide +kernel
  intro j hj
  by_cases h : j < 360
  · exact hlt j h hj
  · have : nAT 50 = some (0, 360, .inl ((nAT 50).elim [] (fun x => match x.2.2 with | .inl s => s | _ => []))) := rfl
    unfold nSpc
    rw [this]
    have hn : sAt ((nAT 50).elim [] (fun x => match x.2.2 with | .inl s => s | _ => [])) j = none := by
      unfold sAt
      rw [Option.map_eq_none_iff, List.find?_eq_none]
      have hall : ((nAT 50).elim [] (fun x => match x.2.2 with | .inl s => s | _ => [])).all (fun q => decide (q.1 ≤ 360)) = true := by decide +kernel
      intro q hq
      have := List.all_eq_true.mp hall q hq
      simp at this ⊢
      omega
    simp only [hn]
theorem nSpc65 : ∀ j, ((179 ≤ j ∧ j < 360) ∨ 539 ≤ j) → nSpc 65 j = true := by
  have hlt : ∀ j, j < 720 → ((179 ≤ j ∧ j < 360) ∨ 539 ≤ j) → nSpc 65 j = true := by decide +kernel
  intro j hj
  by_cases h : j < 720
  · exact hlt j h hj
  · have : nAT 65 = some (0, 720, .inl ((nAT 65).elim [] (fun x => match x.2.2 with | .inl s => s | _ => []))) := rfl
    unfold nSpc
    rw [this]
    have hn : sAt ((nAT 65).elim [] (fun x => match x.2.2 with | .inl s => s | _ => [])) j = none := by
      unfold sAt
      rw [Option.map_eq_none_iff, List.find?_eq_none]
      have hall : ((nAT 65).elim [] (fun x => match x.2.2 with | .inl s => s | _ => [])).all (fun q => decide (q.1 ≤ 720)) = true := by decide +kernel
      intro q hq
      have := List.all_eq_true.mp hall q hq
      simp at this ⊢
      omega
    simp only [hn]
theorem nSpcX : ∀ t ∈ [52, 63, 30, 32, 38, 39, 40], ∀ j, nSpc t j = true := by
  intro t ht j
  have hA : ∀ t ∈ [52, 63, 30, 32, 38, 39, 40], ∃ n, nAT t = some (0, n, .inl [(n, -2147483648, 2147483647, true)]) := by
    intro t ht
    simp at ht
    rcases ht with rfl | rfl | rfl | rfl | rfl | rfl | rfl <;> exact ⟨_, rfl⟩
  obtain ⟨n, hn⟩ := hA t ht
  unfold nSpc
  rw [hn]
  by_cases h : j < n
  · simp [sAt, h]
  · simp [sAt, h]
theorem gA1 (kd n : Nat) (f : Nat → Int32) : gA [.inl (kd, n, .inl f)] [.ref 0] 0 = f := rfl
theorem nJJ_ok (S : List Nat) : nJ nFT nAT S (nJJ S) := by
  have back : ∀ {h : List nC} {q q2 ci : Nat} {x : Nat × Nat × ((Nat → Int32) ⊕ (Nat → Int64) ⊕ (Nat → Option Nat))} {fs1 : List Value}, (h.set q (.inl x))[q2]? = some (.inr (ci, fs1)) → ∃ fs, h[q2]? = some (.inr (ci, fs)) := by
    intro h q q2 ci x fs1 h1
    by_cases e : q = q2
    · subst e
      by_cases hl : q < h.length
      · rw [List.getElem?_set_self hl] at h1; cases h1
      · rw [List.getElem?_eq_none (by simpa using hl)] at h1; cases h1
    · rw [List.getElem?_set_ne e] at h1
      exact ⟨_, h1⟩
  refine ⟨fun h q t c b fs x hJ hT ht hc hsp hq => ?_, fun h q t kd n segs f j x hJ hT ht hA hq hj hsp => ?_, fun h q t kd n f f2 hJ hT ht hq => ?_, fun h q t kd n segs f f2 hJ hT ht hA hq hsp => ?_⟩
  · have hG := nGp_putf (x := x) ht hc hsp hq
    refine ⟨nJJ_gp hG (fun q2 t2 ci fs1 h1 h2 => ?_) hJ, hG⟩
    by_cases e : q = q2
    · subst e
      rw [List.getElem?_set_self (List.getElem?_eq_some_iff.mp hq).1] at h2
      cases h2
      exact ⟨_, hq⟩
    · rw [List.getElem?_set_ne e] at h2
      exact ⟨_, h2⟩
  · have hG : nGp S h (h.set q (.inl (kd, n, .inl (upd f j x)))) := by
      have hns : nSpc t j = true → False := fun hs => by
        unfold nSpc at hs
        rw [hA] at hs
        simp only at hs
        split at hs
        · next r hr => rw [hsp r hr] at hs; cases hs
        · next hr =>
          obtain ⟨c, c1, c2⟩ := hT q t ht
          cases c1.symm.trans hq
          obtain ⟨-, et, a1, a2⟩ := c2
          cases hA.symm.trans a1
          obtain ⟨r, r1, -⟩ := a2 j hj
          rw [hr] at r1
          cases r1
      have hup : ∀ i, (nSpc t i = true) → upd f j x i = f i := fun i hi => by
        unfold upd
        split
        · next e => subst e; exact (hns hi).elim
        · rfl
      refine nGp_arr hT ht hq (fun i => ⟨fun e hi => ?_, fun e hi => ?_, fun e => ?_⟩)
      · exact hup i (by rw [e]; exact nSpc50 i hi)
      · exact hup i (by rw [e]; exact nSpc65 i hi)
      · exact hup i (nSpcX t e i)
    exact ⟨nJJ_gp hG (fun q2 t2 ci fs1 h1 h2 => back h2) hJ, hG⟩
  · have hG : nGp S h (h.set q (.inl (kd, n, .inr (.inl f2)))) := nGp_arr hT ht hq (fun i => ⟨fun _ _ => rfl, fun _ _ => rfl, fun _ => rfl⟩)
    exact ⟨nJJ_gp hG (fun q2 t2 ci fs1 h1 h2 => back h2) hJ, hG⟩
  · have hno : ∀ i, nSpc t i = true → i < n → False := fun i hi hin => by
      obtain ⟨c, c1, c2⟩ := hT q t ht
      cases c1.symm.trans hq
      obtain ⟨-, et, a1, a2⟩ := c2
      cases hA.symm.trans a1
      obtain ⟨r, r1, -⟩ := a2 i hin
      unfold nSpc at hi
      rw [hA] at hi
      simp only [r1] at hi
      obtain ⟨s0, s1, s2⟩ := sAt_mem r1
      rw [← s2, hsp s0 s1] at hi
      cases hi
    have hG : nGp S h (h.set q (.inl (kd, n, .inl f2))) := by
      refine nGp_arr hT ht hq (fun i => ⟨fun e hi => ?_, fun e hi => ?_, fun e => ?_⟩)
      · subst e
        cases hA.symm.trans (rfl : nAT 50 = _)
        exact (hno 179 (nSpc50 179 (by decide)) (by decide)).elim
      · subst e
        cases hA.symm.trans (rfl : nAT 65 = _)
        exact (hno 179 (nSpc65 179 (by decide)) (by decide)).elim
      · have h0 := nSpcX t e 0
        refine (hno 0 h0 ?_).elim
        simp at e
        rcases e with rfl | rfl | rfl | rfl | rfl | rfl | rfl <;> (cases hA.symm.trans rfl; decide)
    exact ⟨nJJ_gp hG (fun q2 t2 ci fs1 h1 h2 => back h2) hJ, hG⟩
end
