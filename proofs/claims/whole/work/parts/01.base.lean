/-- a private method of a class that the tables say can be made, by its rows of tables_1 -/
def lw_okq (q : MethodName × Nat) : Prop := (q.1.cls ≠ "java/lang/invoke/MethodHandle" ∧ q.1.cls ≠ "java/lang/invoke/VarHandle") ∧ Cond.instantiable q.1.cls q.2 ∈ tables_1 ∧ Cond.privateMethod q.1 ∈ tables_1 ∧ Cond.instanceMethod q.1 ∈ tables_1
theorem lw_p0 : lw_okq (⟨"BridleBook", "kiteAt", "(I)LBridleBook$Kite;"⟩, 17) := ⟨⟨by decide +kernel, by decide +kernel⟩, List.mem_of_getElem? (i := 13) (by decide +kernel), List.mem_of_getElem? (i := 181) (by decide +kernel), List.mem_of_getElem? (i := 182) (by decide +kernel)⟩
theorem lw_p1 : lw_okq (⟨"BridleBook", "lineAt", "(I)LBridleBook$Line;"⟩, 17) := ⟨⟨by decide +kernel, by decide +kernel⟩, List.mem_of_getElem? (i := 13) (by decide +kernel), List.mem_of_getElem? (i := 316) (by decide +kernel), List.mem_of_getElem? (i := 317) (by decide +kernel)⟩
theorem lw_p2 : lw_okq (⟨"BridleBook", "kitesOn", "(I)I"⟩, 17) := ⟨⟨by decide +kernel, by decide +kernel⟩, List.mem_of_getElem? (i := 13) (by decide +kernel), List.mem_of_getElem? (i := 320) (by decide +kernel), List.mem_of_getElem? (i := 321) (by decide +kernel)⟩
theorem lw_p3 : lw_okq (⟨"BridleBook", "liftsOf", "(ILBridleBook$Line;I)I"⟩, 17) := ⟨⟨by decide +kernel, by decide +kernel⟩, List.mem_of_getElem? (i := 13) (by decide +kernel), List.mem_of_getElem? (i := 344) (by decide +kernel), List.mem_of_getElem? (i := 345) (by decide +kernel)⟩
theorem lw_p4 : lw_okq (⟨"BridleBook", "windAt", "(I)I"⟩, 17) := ⟨⟨by decide +kernel, by decide +kernel⟩, List.mem_of_getElem? (i := 13) (by decide +kernel), List.mem_of_getElem? (i := 348) (by decide +kernel), List.mem_of_getElem? (i := 349) (by decide +kernel)⟩
theorem lw_p5 : lw_okq (⟨"BridleBook", "partingStep", "(ILBridleBook$Line;)I"⟩, 17) := ⟨⟨by decide +kernel, by decide +kernel⟩, List.mem_of_getElem? (i := 13) (by decide +kernel), List.mem_of_getElem? (i := 354) (by decide +kernel), List.mem_of_getElem? (i := 355) (by decide +kernel)⟩
theorem lw_p6 : lw_okq (⟨"BridleBook", "loadTrain", "(ILBridleBook$Line;)V"⟩, 17) := ⟨⟨by decide +kernel, by decide +kernel⟩, List.mem_of_getElem? (i := 13) (by decide +kernel), List.mem_of_getElem? (i := 358) (by decide +kernel), List.mem_of_getElem? (i := 359) (by decide +kernel)⟩
theorem lw_p7 : lw_okq (⟨"BridleBook", "sever", "(ILBridleBook$Line;I)V"⟩, 17) := ⟨⟨by decide +kernel, by decide +kernel⟩, List.mem_of_getElem? (i := 13) (by decide +kernel), List.mem_of_getElem? (i := 424) (by decide +kernel), List.mem_of_getElem? (i := 425) (by decide +kernel)⟩
theorem lw_p8 : lw_okq (⟨"BridleBook", "hasFlyer", "(I)Z"⟩, 17) := ⟨⟨by decide +kernel, by decide +kernel⟩, List.mem_of_getElem? (i := 13) (by decide +kernel), List.mem_of_getElem? (i := 444) (by decide +kernel), List.mem_of_getElem? (i := 445) (by decide +kernel)⟩
theorem lw_p9 : lw_okq (⟨"BridleBook", "flyerAt", "(I)LBridleBook$Flyer;"⟩, 17) := ⟨⟨by decide +kernel, by decide +kernel⟩, List.mem_of_getElem? (i := 13) (by decide +kernel), List.mem_of_getElem? (i := 448) (by decide +kernel), List.mem_of_getElem? (i := 449) (by decide +kernel)⟩
theorem lw_p10 : lw_okq (⟨"BridleBook", "hasTreeAt", "(I)Z"⟩, 17) := ⟨⟨by decide +kernel, by decide +kernel⟩, List.mem_of_getElem? (i := 13) (by decide +kernel), List.mem_of_getElem? (i := 482) (by decide +kernel), List.mem_of_getElem? (i := 483) (by decide +kernel)⟩
theorem lw_p11 : lw_okq (⟨"BridleBook", "reasonAgainst", "(ILBridleBook$Flyer;)I"⟩, 17) := ⟨⟨by decide +kernel, by decide +kernel⟩, List.mem_of_getElem? (i := 13) (by decide +kernel), List.mem_of_getElem? (i := 494) (by decide +kernel), List.mem_of_getElem? (i := 495) (by decide +kernel)⟩
theorem lw_p12 : lw_okq (⟨"BridleBook", "spreadCone", "(LBridleBook$Cone;LBridleBook$Flyer;)V"⟩, 17) := ⟨⟨by decide +kernel, by decide +kernel⟩, List.mem_of_getElem? (i := 13) (by decide +kernel), List.mem_of_getElem? (i := 498) (by decide +kernel), List.mem_of_getElem? (i := 499) (by decide +kernel)⟩
theorem lw_p13 : lw_okq (⟨"BridleBook", "isInTheWay", "(II)Z"⟩, 17) := ⟨⟨by decide +kernel, by decide +kernel⟩, List.mem_of_getElem? (i := 13) (by decide +kernel), List.mem_of_getElem? (i := 517) (by decide +kernel), List.mem_of_getElem? (i := 518) (by decide +kernel)⟩
theorem lw_p14 : lw_okq (⟨"BridleBook", "areTwoLines", "(II)Z"⟩, 17) := ⟨⟨by decide +kernel, by decide +kernel⟩, List.mem_of_getElem? (i := 13) (by decide +kernel), List.mem_of_getElem? (i := 537) (by decide +kernel), List.mem_of_getElem? (i := 538) (by decide +kernel)⟩
theorem lw_p15 : lw_okq (⟨"BridleBook", "countFlying", "()I"⟩, 17) := ⟨⟨by decide +kernel, by decide +kernel⟩, List.mem_of_getElem? (i := 13) (by decide +kernel), List.mem_of_getElem? (i := 588) (by decide +kernel), List.mem_of_getElem? (i := 589) (by decide +kernel)⟩
def lw_privs_1 : List (MethodName × Nat) := [(⟨"BridleBook", "kiteAt", "(I)LBridleBook$Kite;"⟩, 17), (⟨"BridleBook", "lineAt", "(I)LBridleBook$Line;"⟩, 17), (⟨"BridleBook", "kitesOn", "(I)I"⟩, 17), (⟨"BridleBook", "liftsOf", "(ILBridleBook$Line;I)I"⟩, 17), (⟨"BridleBook", "windAt", "(I)I"⟩, 17), (⟨"BridleBook", "partingStep", "(ILBridleBook$Line;)I"⟩, 17), (⟨"BridleBook", "loadTrain", "(ILBridleBook$Line;)V"⟩, 17), (⟨"BridleBook", "sever", "(ILBridleBook$Line;I)V"⟩, 17), (⟨"BridleBook", "hasFlyer", "(I)Z"⟩, 17), (⟨"BridleBook", "flyerAt", "(I)LBridleBook$Flyer;"⟩, 17), (⟨"BridleBook", "hasTreeAt", "(I)Z"⟩, 17), (⟨"BridleBook", "reasonAgainst", "(ILBridleBook$Flyer;)I"⟩, 17), (⟨"BridleBook", "spreadCone", "(LBridleBook$Cone;LBridleBook$Flyer;)V"⟩, 17), (⟨"BridleBook", "isInTheWay", "(II)Z"⟩, 17), (⟨"BridleBook", "areTwoLines", "(II)Z"⟩, 17), (⟨"BridleBook", "countFlying", "()I"⟩, 17)]
theorem lw_r1 : ∀ q ∈ lw_privs_1, lw_okq q := List.forall_mem_cons.mpr ⟨lw_p0, List.forall_mem_cons.mpr ⟨lw_p1, List.forall_mem_cons.mpr ⟨lw_p2, List.forall_mem_cons.mpr ⟨lw_p3, List.forall_mem_cons.mpr ⟨lw_p4, List.forall_mem_cons.mpr ⟨lw_p5, List.forall_mem_cons.mpr ⟨lw_p6, List.forall_mem_cons.mpr ⟨lw_p7, List.forall_mem_cons.mpr ⟨lw_p8, List.forall_mem_cons.mpr ⟨lw_p9, List.forall_mem_cons.mpr ⟨lw_p10, List.forall_mem_cons.mpr ⟨lw_p11, List.forall_mem_cons.mpr ⟨lw_p12, List.forall_mem_cons.mpr ⟨lw_p13, List.forall_mem_cons.mpr ⟨lw_p14, List.forall_mem_cons.mpr ⟨lw_p15, fun _ h => absurd h List.not_mem_nil⟩⟩⟩⟩⟩⟩⟩⟩⟩⟩⟩⟩⟩⟩⟩⟩
theorem lw_p16 : lw_okq (⟨"BridleBook", "countTied", "()I"⟩, 17) := ⟨⟨by decide +kernel, by decide +kernel⟩, List.mem_of_getElem? (i := 13) (by decide +kernel), List.mem_of_getElem? (i := 592) (by decide +kernel), List.mem_of_getElem? (i := 593) (by decide +kernel)⟩
theorem lw_p17 : lw_okq (⟨"BridleBook", "countFree", "()I"⟩, 17) := ⟨⟨by decide +kernel, by decide +kernel⟩, List.mem_of_getElem? (i := 13) (by decide +kernel), List.mem_of_getElem? (i := 596) (by decide +kernel), List.mem_of_getElem? (i := 597) (by decide +kernel)⟩
theorem lw_p18 : lw_okq (⟨"BridleBookModel", "isKite", "(I)Z"⟩, 38) := ⟨⟨by decide +kernel, by decide +kernel⟩, List.mem_of_getElem? (i := 600) (by decide +kernel), List.mem_of_getElem? (i := 728) (by decide +kernel), List.mem_of_getElem? (i := 729) (by decide +kernel)⟩
theorem lw_p19 : lw_okq (⟨"BridleBookModel", "up", "(III)I"⟩, 38) := ⟨⟨by decide +kernel, by decide +kernel⟩, List.mem_of_getElem? (i := 600) (by decide +kernel), List.mem_of_getElem? (i := 754) (by decide +kernel), List.mem_of_getElem? (i := 755) (by decide +kernel)⟩
theorem lw_p20 : lw_okq (⟨"BridleBookModel", "weightOf", "(I)I"⟩, 38) := ⟨⟨by decide +kernel, by decide +kernel⟩, List.mem_of_getElem? (i := 600) (by decide +kernel), List.mem_of_getElem? (i := 758) (by decide +kernel), List.mem_of_getElem? (i := 759) (by decide +kernel)⟩
theorem lw_p21 : lw_okq (⟨"BridleBookModel", "back", "(III)I"⟩, 38) := ⟨⟨by decide +kernel, by decide +kernel⟩, List.mem_of_getElem? (i := 600) (by decide +kernel), List.mem_of_getElem? (i := 762) (by decide +kernel), List.mem_of_getElem? (i := 763) (by decide +kernel)⟩
theorem lw_p22 : lw_okq (⟨"BridleBookModel", "turns", "(III)I"⟩, 38) := ⟨⟨by decide +kernel, by decide +kernel⟩, List.mem_of_getElem? (i := 600) (by decide +kernel), List.mem_of_getElem? (i := 766) (by decide +kernel), List.mem_of_getElem? (i := 767) (by decide +kernel)⟩
theorem lw_p23 : lw_okq (⟨"BridleBookModel", "standsAt", "(II)I"⟩, 38) := ⟨⟨by decide +kernel, by decide +kernel⟩, List.mem_of_getElem? (i := 600) (by decide +kernel), List.mem_of_getElem? (i := 774) (by decide +kernel), List.mem_of_getElem? (i := 775) (by decide +kernel)⟩
theorem lw_p24 : lw_okq (⟨"BridleBookModel", "isSteady", "(III)Z"⟩, 38) := ⟨⟨by decide +kernel, by decide +kernel⟩, List.mem_of_getElem? (i := 600) (by decide +kernel), List.mem_of_getElem? (i := 782) (by decide +kernel), List.mem_of_getElem? (i := 783) (by decide +kernel)⟩
theorem lw_p25 : lw_okq (⟨"BridleBookModel", "pullUp", "(II)I"⟩, 38) := ⟨⟨by decide +kernel, by decide +kernel⟩, List.mem_of_getElem? (i := 600) (by decide +kernel), List.mem_of_getElem? (i := 790) (by decide +kernel), List.mem_of_getElem? (i := 791) (by decide +kernel)⟩
theorem lw_p26 : lw_okq (⟨"BridleBookModel", "pullBack", "(II)I"⟩, 38) := ⟨⟨by decide +kernel, by decide +kernel⟩, List.mem_of_getElem? (i := 600) (by decide +kernel), List.mem_of_getElem? (i := 794) (by decide +kernel), List.mem_of_getElem? (i := 795) (by decide +kernel)⟩
theorem lw_p27 : lw_okq (⟨"BridleBookModel", "isLine", "(I)Z"⟩, 38) := ⟨⟨by decide +kernel, by decide +kernel⟩, List.mem_of_getElem? (i := 600) (by decide +kernel), List.mem_of_getElem? (i := 815) (by decide +kernel), List.mem_of_getElem? (i := 816) (by decide +kernel)⟩
theorem lw_p28 : lw_okq (⟨"BridleBookModel", "isStep", "(II)Z"⟩, 38) := ⟨⟨by decide +kernel, by decide +kernel⟩, List.mem_of_getElem? (i := 600) (by decide +kernel), List.mem_of_getElem? (i := 819) (by decide +kernel), List.mem_of_getElem? (i := 820) (by decide +kernel)⟩
theorem lw_p29 : lw_okq (⟨"BridleBookModel", "kitesOn", "(I)I"⟩, 38) := ⟨⟨by decide +kernel, by decide +kernel⟩, List.mem_of_getElem? (i := 600) (by decide +kernel), List.mem_of_getElem? (i := 823) (by decide +kernel), List.mem_of_getElem? (i := 824) (by decide +kernel)⟩
theorem lw_p30 : lw_okq (⟨"BridleBookModel", "isWeak", "(II)Z"⟩, 38) := ⟨⟨by decide +kernel, by decide +kernel⟩, List.mem_of_getElem? (i := 600) (by decide +kernel), List.mem_of_getElem? (i := 835) (by decide +kernel), List.mem_of_getElem? (i := 836) (by decide +kernel)⟩
theorem lw_p31 : lw_okq (⟨"BridleBookModel", "lifts", "(II)I"⟩, 38) := ⟨⟨by decide +kernel, by decide +kernel⟩, List.mem_of_getElem? (i := 600) (by decide +kernel), List.mem_of_getElem? (i := 843) (by decide +kernel), List.mem_of_getElem? (i := 844) (by decide +kernel)⟩
def lw_privs_2 : List (MethodName × Nat) := [(⟨"BridleBook", "countTied", "()I"⟩, 17), (⟨"BridleBook", "countFree", "()I"⟩, 17), (⟨"BridleBookModel", "isKite", "(I)Z"⟩, 38), (⟨"BridleBookModel", "up", "(III)I"⟩, 38), (⟨"BridleBookModel", "weightOf", "(I)I"⟩, 38), (⟨"BridleBookModel", "back", "(III)I"⟩, 38), (⟨"BridleBookModel", "turns", "(III)I"⟩, 38), (⟨"BridleBookModel", "standsAt", "(II)I"⟩, 38), (⟨"BridleBookModel", "isSteady", "(III)Z"⟩, 38), (⟨"BridleBookModel", "pullUp", "(II)I"⟩, 38), (⟨"BridleBookModel", "pullBack", "(II)I"⟩, 38), (⟨"BridleBookModel", "isLine", "(I)Z"⟩, 38), (⟨"BridleBookModel", "isStep", "(II)Z"⟩, 38), (⟨"BridleBookModel", "kitesOn", "(I)I"⟩, 38), (⟨"BridleBookModel", "isWeak", "(II)Z"⟩, 38), (⟨"BridleBookModel", "lifts", "(II)I"⟩, 38)]
theorem lw_r2 : ∀ q ∈ lw_privs_2, lw_okq q := List.forall_mem_cons.mpr ⟨lw_p16, List.forall_mem_cons.mpr ⟨lw_p17, List.forall_mem_cons.mpr ⟨lw_p18, List.forall_mem_cons.mpr ⟨lw_p19, List.forall_mem_cons.mpr ⟨lw_p20, List.forall_mem_cons.mpr ⟨lw_p21, List.forall_mem_cons.mpr ⟨lw_p22, List.forall_mem_cons.mpr ⟨lw_p23, List.forall_mem_cons.mpr ⟨lw_p24, List.forall_mem_cons.mpr ⟨lw_p25, List.forall_mem_cons.mpr ⟨lw_p26, List.forall_mem_cons.mpr ⟨lw_p27, List.forall_mem_cons.mpr ⟨lw_p28, List.forall_mem_cons.mpr ⟨lw_p29, List.forall_mem_cons.mpr ⟨lw_p30, List.forall_mem_cons.mpr ⟨lw_p31, fun _ h => absurd h List.not_mem_nil⟩⟩⟩⟩⟩⟩⟩⟩⟩⟩⟩⟩⟩⟩⟩⟩
theorem lw_p32 : lw_okq (⟨"BridleBookModel", "stand", "(II)V"⟩, 38) := ⟨⟨by decide +kernel, by decide +kernel⟩, List.mem_of_getElem? (i := 600) (by decide +kernel), List.mem_of_getElem? (i := 847) (by decide +kernel), List.mem_of_getElem? (i := 848) (by decide +kernel)⟩
theorem lw_p33 : lw_okq (⟨"BridleBookModel", "partsAt", "(I)I"⟩, 38) := ⟨⟨by decide +kernel, by decide +kernel⟩, List.mem_of_getElem? (i := 600) (by decide +kernel), List.mem_of_getElem? (i := 860) (by decide +kernel), List.mem_of_getElem? (i := 861) (by decide +kernel)⟩
theorem lw_p34 : lw_okq (⟨"BridleBookModel", "strengthAt", "(II)I"⟩, 38) := ⟨⟨by decide +kernel, by decide +kernel⟩, List.mem_of_getElem? (i := 600) (by decide +kernel), List.mem_of_getElem? (i := 864) (by decide +kernel), List.mem_of_getElem? (i := 865) (by decide +kernel)⟩
theorem lw_p35 : lw_okq (⟨"BridleBookModel", "end", "(II)V"⟩, 38) := ⟨⟨by decide +kernel, by decide +kernel⟩, List.mem_of_getElem? (i := 600) (by decide +kernel), List.mem_of_getElem? (i := 876) (by decide +kernel), List.mem_of_getElem? (i := 877) (by decide +kernel)⟩
theorem lw_p36 : lw_okq (⟨"BridleBookModel", "isFlyer", "(I)Z"⟩, 38) := ⟨⟨by decide +kernel, by decide +kernel⟩, List.mem_of_getElem? (i := 600) (by decide +kernel), List.mem_of_getElem? (i := 904) (by decide +kernel), List.mem_of_getElem? (i := 905) (by decide +kernel)⟩
theorem lw_p37 : lw_okq (⟨"BridleBookModel", "whyNot", "(I)I"⟩, 38) := ⟨⟨by decide +kernel, by decide +kernel⟩, List.mem_of_getElem? (i := 600) (by decide +kernel), List.mem_of_getElem? (i := 912) (by decide +kernel), List.mem_of_getElem? (i := 913) (by decide +kernel)⟩
theorem lw_p38 : lw_okq (⟨"BridleBookModel", "isInCone", "(II)Z"⟩, 38) := ⟨⟨by decide +kernel, by decide +kernel⟩, List.mem_of_getElem? (i := 600) (by decide +kernel), List.mem_of_getElem? (i := 916) (by decide +kernel), List.mem_of_getElem? (i := 917) (by decide +kernel)⟩
theorem lw_p39 : lw_okq (⟨"BridleBookModel", "endOf", "(III)I"⟩, 38) := ⟨⟨by decide +kernel, by decide +kernel⟩, List.mem_of_getElem? (i := 600) (by decide +kernel), List.mem_of_getElem? (i := 920) (by decide +kernel), List.mem_of_getElem? (i := 921) (by decide +kernel)⟩
theorem lw_p40 : lw_okq (⟨"BridleBookModel", "doMeet", "(II)Z"⟩, 38) := ⟨⟨by decide +kernel, by decide +kernel⟩, List.mem_of_getElem? (i := 600) (by decide +kernel), List.mem_of_getElem? (i := 924) (by decide +kernel), List.mem_of_getElem? (i := 925) (by decide +kernel)⟩
theorem lw_p41 : lw_okq (⟨"BridleBookModel", "wind0", "(III)V"⟩, 38) := ⟨⟨by decide +kernel, by decide +kernel⟩, List.mem_of_getElem? (i := 600) (by decide +kernel), List.mem_of_getElem? (i := 946) (by decide +kernel), List.mem_of_getElem? (i := 947) (by decide +kernel)⟩
theorem lw_p42 : lw_okq (⟨"BridleBookModel", "turnsOf", "(II)I"⟩, 38) := ⟨⟨by decide +kernel, by decide +kernel⟩, List.mem_of_getElem? (i := 600) (by decide +kernel), List.mem_of_getElem? (i := 954) (by decide +kernel), List.mem_of_getElem? (i := 955) (by decide +kernel)⟩
theorem lw_p43 : lw_okq (⟨"BridleBookModel", "has", "(II)Z"⟩, 38) := ⟨⟨by decide +kernel, by decide +kernel⟩, List.mem_of_getElem? (i := 600) (by decide +kernel), List.mem_of_getElem? (i := 962) (by decide +kernel), List.mem_of_getElem? (i := 963) (by decide +kernel)⟩
def lw_privs_3 : List (MethodName × Nat) := [(⟨"BridleBookModel", "stand", "(II)V"⟩, 38), (⟨"BridleBookModel", "partsAt", "(I)I"⟩, 38), (⟨"BridleBookModel", "strengthAt", "(II)I"⟩, 38), (⟨"BridleBookModel", "end", "(II)V"⟩, 38), (⟨"BridleBookModel", "isFlyer", "(I)Z"⟩, 38), (⟨"BridleBookModel", "whyNot", "(I)I"⟩, 38), (⟨"BridleBookModel", "isInCone", "(II)Z"⟩, 38), (⟨"BridleBookModel", "endOf", "(III)I"⟩, 38), (⟨"BridleBookModel", "doMeet", "(II)Z"⟩, 38), (⟨"BridleBookModel", "wind0", "(III)V"⟩, 38), (⟨"BridleBookModel", "turnsOf", "(II)I"⟩, 38), (⟨"BridleBookModel", "has", "(II)Z"⟩, 38)]
theorem lw_r3 : ∀ q ∈ lw_privs_3, lw_okq q := List.forall_mem_cons.mpr ⟨lw_p32, List.forall_mem_cons.mpr ⟨lw_p33, List.forall_mem_cons.mpr ⟨lw_p34, List.forall_mem_cons.mpr ⟨lw_p35, List.forall_mem_cons.mpr ⟨lw_p36, List.forall_mem_cons.mpr ⟨lw_p37, List.forall_mem_cons.mpr ⟨lw_p38, List.forall_mem_cons.mpr ⟨lw_p39, List.forall_mem_cons.mpr ⟨lw_p40, List.forall_mem_cons.mpr ⟨lw_p41, List.forall_mem_cons.mpr ⟨lw_p42, List.forall_mem_cons.mpr ⟨lw_p43, fun _ h => absurd h List.not_mem_nil⟩⟩⟩⟩⟩⟩⟩⟩⟩⟩⟩⟩
def lw_privs : List (MethodName × Nat) := lw_privs_1 ++ (lw_privs_2 ++ (lw_privs_3))
def lw_tbl : List Cond := k2_sels lw_privs ++ tables_1
theorem lw_privs_ok : ∀ q ∈ lw_privs, lw_okq q := by
  show ∀ q ∈ lw_privs_1 ++ (lw_privs_2 ++ (lw_privs_3)), lw_okq q
  exact List.forall_mem_append.mpr ⟨lw_r1, List.forall_mem_append.mpr ⟨lw_r2, lw_r3⟩⟩
def RX0 : String := "BridleBook$Cone"
def TX0 : u_T := fun k => match k with
  | 0 => ("BridleBook$Cone", "lowX", "I", false)
  | 1 => ("BridleBook$Cone", "highX", "I", false)
  | 2 => ("BridleBook$Cone", "lowY", "I", false)
  | _ => ("BridleBook$Cone", "highY", "I", false)
def tyX0 : Nat → FieldType := fun k => match k with
  | 0 => .int
  | 1 => .int
  | 2 => .int
  | _ => .int
abbrev wsX00 : List Cond := u_ws RX0 TX0 4
theorem nmX0 : ∀ a, a < 4 → ∀ b, b < 4 → a ≠ b → (TX0 a).2.1 ≠ (TX0 b).2.1 := by decide +kernel
theorem tyX0_ok : ∀ k, k < 4 → parseFieldDescriptor (TX0 k).2.2.1 = some (tyX0 k) := by decide +kernel
abbrev cX0_init : ByteArray := prog_2_method_1_code
def yX0_init : MethodName := ⟨RX0, "<init>", "()V"⟩
abbrev cX0_spread : ByteArray := prog_2_method_2_code
def yX0_spread : MethodName := ⟨RX0, "spread", "(LBridleBook$Flyer;III)V"⟩
abbrev cX0_reach : ByteArray := prog_2_method_3_code
def yX0_reach : MethodName := ⟨RX0, "reach", "(IIII)I"⟩
abbrev cX0_holds : ByteArray := prog_2_method_4_code
def yX0_holds : MethodName := ⟨RX0, "holds", "(I)Z"⟩
abbrev cX0_meets : ByteArray := prog_2_method_5_code
def yX0_meets : MethodName := ⟨RX0, "meets", "(LBridleBook$Cone;)Z"⟩
def RX1 : String := "BridleBook$Flyer"
def TX1 : u_T := fun k => match k with
  | 0 => ("BridleBook$Flyer", "x", "I", true)
  | 1 => ("BridleBook$Flyer", "y", "I", true)
  | 2 => ("BridleBook$Flyer", "line", "I", true)
  | _ => ("BridleBook$Flyer", "flies", "Z", false)
def tyX1 : Nat → FieldType := fun k => match k with
  | 0 => .int
  | 1 => .int
  | 2 => .int
  | _ => .boolean
abbrev wsX10 : List Cond := u_ws RX1 TX1 4
theorem nmX1 : ∀ a, a < 4 → ∀ b, b < 4 → a ≠ b → (TX1 a).2.1 ≠ (TX1 b).2.1 := by decide +kernel
theorem tyX1_ok : ∀ k, k < 4 → parseFieldDescriptor (TX1 k).2.2.1 = some (tyX1 k) := by decide +kernel
abbrev cX1_init : ByteArray := prog_3_method_1_code
def yX1_init : MethodName := ⟨RX1, "<init>", "(III)V"⟩
def RX2 : String := "BridleBook$Kite"
def TX2 : u_T := fun k => match k with
  | 0 => ("BridleBook$Kite", "areas", "[I", true)
  | 1 => ("BridleBook$Kite", "arms", "[I", true)
  | 2 => ("BridleBook$Kite", "weights", "[I", true)
  | 3 => ("BridleBook$Kite", "panels", "I", false)
  | 4 => ("BridleBook$Kite", "knot", "I", false)
  | 5 => ("BridleBook$Kite", "line", "I", false)
  | _ => ("BridleBook$Kite", "step", "I", false)
def tyX2 : Nat → FieldType := fun k => match k with
  | 0 => .array .int
  | 1 => .array .int
  | 2 => .array .int
  | 3 => .int
  | 4 => .int
  | 5 => .int
  | _ => .int
abbrev wsX20 : List Cond := u_ws RX2 TX2 7
theorem nmX2 : ∀ a, a < 7 → ∀ b, b < 7 → a ≠ b → (TX2 a).2.1 ≠ (TX2 b).2.1 := by decide +kernel
theorem tyX2_ok : ∀ k, k < 7 → parseFieldDescriptor (TX2 k).2.2.1 = some (tyX2 k) := by decide +kernel
abbrev cX2_init : ByteArray := prog_4_method_1_code
def yX2_init : MethodName := ⟨RX2, "<init>", "()V"⟩
abbrev cX2_addPanel : ByteArray := prog_4_method_2_code
def yX2_addPanel : MethodName := ⟨RX2, "addPanel", "(III)I"⟩
abbrev cX2_pressure : ByteArray := prog_4_method_3_code
def yX2_pressure : MethodName := ⟨RX2, "pressure", "(III)I"⟩
abbrev cX2_upAt : ByteArray := prog_4_method_4_code
def yX2_upAt : MethodName := ⟨RX2, "upAt", "(LBridleBook$Tables;II)I"⟩
abbrev cX2_backAt : ByteArray := prog_4_method_5_code
def yX2_backAt : MethodName := ⟨RX2, "backAt", "(LBridleBook$Tables;II)I"⟩
abbrev cX2_turningAt : ByteArray := prog_4_method_6_code
def yX2_turningAt : MethodName := ⟨RX2, "turningAt", "(LBridleBook$Tables;III)I"⟩
abbrev cX2_standingAngle : ByteArray := prog_4_method_7_code
def yX2_standingAngle : MethodName := ⟨RX2, "standingAngle", "(LBridleBook$Tables;II)I"⟩
abbrev cX2_isSteadyAt : ByteArray := prog_4_method_8_code
def yX2_isSteadyAt : MethodName := ⟨RX2, "isSteadyAt", "(LBridleBook$Tables;III)Z"⟩
def RX3 : String := "BridleBook$Line"
def TX3 : u_T := fun k => match k with
  | 0 => ("BridleBook$Line", "steps", "I", false)
  | 1 => ("BridleBook$Line", "strength", "I", true)
  | 2 => ("BridleBook$Line", "weight", "I", true)
  | 3 => ("BridleBook$Line", "knotSteps", "[I", true)
  | _ => ("BridleBook$Line", "knots", "I", false)
def tyX3 : Nat → FieldType := fun k => match k with
  | 0 => .int
  | 1 => .int
  | 2 => .int
  | 3 => .array .int
  | _ => .int
abbrev wsX30 : List Cond := u_ws RX3 TX3 5
theorem nmX3 : ∀ a, a < 5 → ∀ b, b < 5 → a ≠ b → (TX3 a).2.1 ≠ (TX3 b).2.1 := by decide +kernel
theorem tyX3_ok : ∀ k, k < 5 → parseFieldDescriptor (TX3 k).2.2.1 = some (tyX3 k) := by decide +kernel
abbrev cX3_init : ByteArray := prog_5_method_1_code
def yX3_init : MethodName := ⟨RX3, "<init>", "(III)V"⟩
abbrev cX3_hasKnotAt : ByteArray := prog_5_method_2_code
def yX3_hasKnotAt : MethodName := ⟨RX3, "hasKnotAt", "(I)Z"⟩
abbrev cX3_addKnot : ByteArray := prog_5_method_3_code
def yX3_addKnot : MethodName := ⟨RX3, "addKnot", "(I)I"⟩
abbrev cX3_strengthAt : ByteArray := prog_5_method_4_code
def yX3_strengthAt : MethodName := ⟨RX3, "strengthAt", "(I)I"⟩
abbrev cX3_shortenTo : ByteArray := prog_5_method_5_code
def yX3_shortenTo : MethodName := ⟨RX3, "shortenTo", "(I)V"⟩
def RX4 : String := "BridleBook$Tables"
def TX4 : u_T := fun k => match k with
  | 0 => ("BridleBook$Tables", "lift", "[I", true)
  | _ => ("BridleBook$Tables", "drag", "[I", true)
def tyX4 : Nat → FieldType := fun k => match k with
  | 0 => .array .int
  | _ => .array .int
abbrev wsX40 : List Cond := u_ws RX4 TX4 2
theorem nmX4 : ∀ a, a < 2 → ∀ b, b < 2 → a ≠ b → (TX4 a).2.1 ≠ (TX4 b).2.1 := by decide +kernel
theorem tyX4_ok : ∀ k, k < 2 → parseFieldDescriptor (TX4 k).2.2.1 = some (tyX4 k) := by decide +kernel
abbrev cX4_init : ByteArray := prog_6_method_1_code
def yX4_init : MethodName := ⟨RX4, "<init>", "()V"⟩
abbrev cX4_liftAt : ByteArray := prog_6_method_2_code
def yX4_liftAt : MethodName := ⟨RX4, "liftAt", "(I)I"⟩
abbrev cX4_dragAt : ByteArray := prog_6_method_3_code
def yX4_dragAt : MethodName := ⟨RX4, "dragAt", "(I)I"⟩
abbrev cX4_replaceLift : ByteArray := prog_6_method_4_code
def yX4_replaceLift : MethodName := ⟨RX4, "replaceLift", "(II)I"⟩
abbrev cX4_replaceDrag : ByteArray := prog_6_method_5_code
def yX4_replaceDrag : MethodName := ⟨RX4, "replaceDrag", "(II)I"⟩
def RX5 : String := "BridleBook$Train"
def TX5 : u_T := fun k => match k with
  | 0 => ("BridleBook$Train", "across", "[I", true)
  | _ => ("BridleBook$Train", "up", "[I", true)
def tyX5 : Nat → FieldType := fun k => match k with
  | 0 => .array .int
  | _ => .array .int
abbrev wsX50 : List Cond := u_ws RX5 TX5 2
theorem nmX5 : ∀ a, a < 2 → ∀ b, b < 2 → a ≠ b → (TX5 a).2.1 ≠ (TX5 b).2.1 := by decide +kernel
theorem tyX5_ok : ∀ k, k < 2 → parseFieldDescriptor (TX5 k).2.2.1 = some (tyX5 k) := by decide +kernel
abbrev cX5_init : ByteArray := prog_7_method_1_code
def yX5_init : MethodName := ⟨RX5, "<init>", "()V"⟩
abbrev cX5_clear : ByteArray := prog_7_method_2_code
def yX5_clear : MethodName := ⟨RX5, "clear", "()V"⟩
abbrev cX5_hang : ByteArray := prog_7_method_3_code
def yX5_hang : MethodName := ⟨RX5, "hang", "(III)V"⟩
abbrev cX5_sumFromEnd : ByteArray := prog_7_method_4_code
def yX5_sumFromEnd : MethodName := ⟨RX5, "sumFromEnd", "(II)V"⟩
abbrev cX5_acrossAt : ByteArray := prog_7_method_5_code
def yX5_acrossAt : MethodName := ⟨RX5, "acrossAt", "(I)I"⟩
abbrev cX5_upAt : ByteArray := prog_7_method_6_code
def yX5_upAt : MethodName := ⟨RX5, "upAt", "(I)I"⟩
abbrev cX5_tensionAt : ByteArray := prog_7_method_7_code
def yX5_tensionAt : MethodName := ⟨RX5, "tensionAt", "(I)I"⟩
abbrev cX5_rootFrom : ByteArray := prog_7_method_8_code
def yX5_rootFrom : MethodName := ⟨RX5, "rootFrom", "(JJ)J"⟩
abbrev cX5_hundredths : ByteArray := prog_7_method_9_code
def yX5_hundredths : MethodName := ⟨RX5, "hundredths", "(II)I"⟩
abbrev cX5_placeAcross : ByteArray := prog_7_method_10_code
def yX5_placeAcross : MethodName := ⟨RX5, "placeAcross", "(I)I"⟩
abbrev cX5_placeUp : ByteArray := prog_7_method_11_code
def yX5_placeUp : MethodName := ⟨RX5, "placeUp", "(I)I"⟩
def RX6 : String := "BridleBook$TurnRow"
def TX6 : u_T := fun k => match k with
  | 0 => ("BridleBook$TurnRow", "turns", "[I", true)
  | _ => ("BridleBook$TurnRow", "size", "I", false)
def tyX6 : Nat → FieldType := fun k => match k with
  | 0 => .array .int
  | _ => .int
abbrev wsX60 : List Cond := u_ws RX6 TX6 2
theorem nmX6 : ∀ a, a < 2 → ∀ b, b < 2 → a ≠ b → (TX6 a).2.1 ≠ (TX6 b).2.1 := by decide +kernel
theorem tyX6_ok : ∀ k, k < 2 → parseFieldDescriptor (TX6 k).2.2.1 = some (tyX6 k) := by decide +kernel
abbrev cX6_init : ByteArray := prog_8_method_1_code
def yX6_init : MethodName := ⟨RX6, "<init>", "()V"⟩
abbrev cX6_codeOf : ByteArray := prog_8_method_2_code
def yX6_codeOf : MethodName := ⟨RX6, "codeOf", "(III)I"⟩
abbrev cX6_isOfLine : ByteArray := prog_8_method_3_code
def yX6_isOfLine : MethodName := ⟨RX6, "isOfLine", "(II)Z"⟩
abbrev cX6_push : ByteArray := prog_8_method_4_code
def yX6_push : MethodName := ⟨RX6, "push", "(I)Z"⟩
abbrev cX6_turnsOf : ByteArray := prog_8_method_5_code
def yX6_turnsOf : MethodName := ⟨RX6, "turnsOf", "(II)I"⟩
abbrev cX6_undoneFor : ByteArray := prog_8_method_6_code
def yX6_undoneFor : MethodName := ⟨RX6, "undoneFor", "(I)I"⟩
abbrev cX6_dropLine : ByteArray := prog_8_method_7_code
def yX6_dropLine : MethodName := ⟨RX6, "dropLine", "(I)V"⟩
def RX7 : String := "BridleBook"
def TX7 : u_T := fun k => match k with
  | 0 => ("BridleBook", "tables", "LBridleBook$Tables;", true)
  | 1 => ("BridleBook", "kites", "[LBridleBook$Kite;", true)
  | 2 => ("BridleBook", "kiteCount", "I", false)
  | 3 => ("BridleBook", "winds", "[I", true)
  | 4 => ("BridleBook", "lines", "[LBridleBook$Line;", true)
  | 5 => ("BridleBook", "lineCount", "I", false)
  | 6 => ("BridleBook", "train", "LBridleBook$Train;", true)
  | 7 => ("BridleBook", "flyers", "[LBridleBook$Flyer;", true)
  | 8 => ("BridleBook", "flyerCount", "I", false)
  | 9 => ("BridleBook", "agreed", "[Z", true)
  | 10 => ("BridleBook", "trees", "[I", true)
  | 11 => ("BridleBook", "treeCount", "I", false)
  | 12 => ("BridleBook", "direction", "I", false)
  | 13 => ("BridleBook", "shift", "I", false)
  | 14 => ("BridleBook", "ownCone", "LBridleBook$Cone;", true)
  | 15 => ("BridleBook", "otherCone", "LBridleBook$Cone;", true)
  | _ => ("BridleBook", "row", "LBridleBook$TurnRow;", true)
def tyX7 : Nat → FieldType := fun k => match k with
  | 0 => .object "BridleBook$Tables"
  | 1 => .array (.object "BridleBook$Kite")
  | 2 => .int
  | 3 => .array .int
  | 4 => .array (.object "BridleBook$Line")
  | 5 => .int
  | 6 => .object "BridleBook$Train"
  | 7 => .array (.object "BridleBook$Flyer")
  | 8 => .int
  | 9 => .array .boolean
  | 10 => .array .int
  | 11 => .int
  | 12 => .int
  | 13 => .int
  | 14 => .object "BridleBook$Cone"
  | 15 => .object "BridleBook$Cone"
  | _ => .object "BridleBook$TurnRow"
abbrev wsX70 : List Cond := u_ws RX7 TX7 17
theorem nmX7 : ∀ a, a < 17 → ∀ b, b < 17 → a ≠ b → (TX7 a).2.1 ≠ (TX7 b).2.1 := by decide +kernel
theorem tyX7_ok : ∀ k, k < 17 → parseFieldDescriptor (TX7 k).2.2.1 = some (tyX7 k) := by decide +kernel
abbrev cX7_init : ByteArray := prog_1_method_1_code
def yX7_init : MethodName := ⟨RX7, "<init>", "()V"⟩
abbrev cX7_kite : ByteArray := prog_1_method_2_code
def yX7_kite : MethodName := ⟨RX7, "kite", "()I"⟩
abbrev cX7_panel : ByteArray := prog_1_method_3_code
def yX7_panel : MethodName := ⟨RX7, "panel", "(IIII)I"⟩
abbrev cX7_knot : ByteArray := prog_1_method_4_code
def yX7_knot : MethodName := ⟨RX7, "knot", "(II)I"⟩
abbrev cX7_table : ByteArray := prog_1_method_5_code
def yX7_table : MethodName := ⟨RX7, "table", "(III)I"⟩
abbrev cX7_force : ByteArray := prog_1_method_6_code
def yX7_force : MethodName := ⟨RX7, "force", "(IIII)I"⟩
abbrev cX7_stands : ByteArray := prog_1_method_7_code
def yX7_stands : MethodName := ⟨RX7, "stands", "(II)I"⟩
abbrev cX7_steady : ByteArray := prog_1_method_8_code
def yX7_steady : MethodName := ⟨RX7, "steady", "(II)I"⟩
abbrev cX7_pull : ByteArray := prog_1_method_9_code
def yX7_pull : MethodName := ⟨RX7, "pull", "(III)I"⟩
abbrev cX7_trim : ByteArray := prog_1_method_10_code
def yX7_trim : MethodName := ⟨RX7, "trim", "(IIII)I"⟩
abbrev cX7_wind : ByteArray := prog_1_method_11_code
def yX7_wind : MethodName := ⟨RX7, "wind", "(II)I"⟩
abbrev cX7_line : ByteArray := prog_1_method_12_code
def yX7_line : MethodName := ⟨RX7, "line", "(III)I"⟩
abbrev cX7_tie : ByteArray := prog_1_method_13_code
def yX7_tie : MethodName := ⟨RX7, "tie", "(III)I"⟩
abbrev cX7_untie : ByteArray := prog_1_method_14_code
def yX7_untie : MethodName := ⟨RX7, "untie", "(I)I"⟩
abbrev cX7_weaken : ByteArray := prog_1_method_15_code
def yX7_weaken : MethodName := ⟨RX7, "weaken", "(II)I"⟩
abbrev cX7_ofLine : ByteArray := prog_1_method_16_code
def yX7_ofLine : MethodName := ⟨RX7, "ofLine", "(II)I"⟩
abbrev cX7_step : ByteArray := prog_1_method_17_code
def yX7_step : MethodName := ⟨RX7, "step", "(III)I"⟩
abbrev cX7_part : ByteArray := prog_1_method_18_code
def yX7_part : MethodName := ⟨RX7, "part", "(I)I"⟩
abbrev cX7_least : ByteArray := prog_1_method_19_code
def yX7_least : MethodName := ⟨RX7, "least", "(II)I"⟩
abbrev cX7_flyer : ByteArray := prog_1_method_20_code
def yX7_flyer : MethodName := ⟨RX7, "flyer", "(II)I"⟩
abbrev cX7_blow : ByteArray := prog_1_method_21_code
def yX7_blow : MethodName := ⟨RX7, "blow", "(II)I"⟩
abbrev cX7_tree : ByteArray := prog_1_method_22_code
def yX7_tree : MethodName := ⟨RX7, "tree", "(I)I"⟩
abbrev cX7_agree : ByteArray := prog_1_method_23_code
def yX7_agree : MethodName := ⟨RX7, "agree", "(III)I"⟩
abbrev cX7_fly : ByteArray := prog_1_method_24_code
def yX7_fly : MethodName := ⟨RX7, "fly", "(II)I"⟩
abbrev cX7_why : ByteArray := prog_1_method_25_code
def yX7_why : MethodName := ⟨RX7, "why", "(I)I"⟩
abbrev cX7_cone : ByteArray := prog_1_method_26_code
def yX7_cone : MethodName := ⟨RX7, "cone", "(II)I"⟩
abbrev cX7_turn : ByteArray := prog_1_method_27_code
def yX7_turn : MethodName := ⟨RX7, "turn", "(III)I"⟩
abbrev cX7_tangled : ByteArray := prog_1_method_28_code
def yX7_tangled : MethodName := ⟨RX7, "tangled", "(II)I"⟩
abbrev cX7_undo : ByteArray := prog_1_method_29_code
def yX7_undo : MethodName := ⟨RX7, "undo", "(I)I"⟩
abbrev cX7_unwind : ByteArray := prog_1_method_30_code
def yX7_unwind : MethodName := ⟨RX7, "unwind", "(I)I"⟩
abbrev cX7_cut : ByteArray := prog_1_method_31_code
def yX7_cut : MethodName := ⟨RX7, "cut", "(III)I"⟩
abbrev cX7_count : ByteArray := prog_1_method_32_code
def yX7_count : MethodName := ⟨RX7, "count", "(I)I"⟩
abbrev cX7_within : ByteArray := prog_1_method_33_code
def yX7_within : MethodName := ⟨RX7, "within", "(III)Z"⟩
abbrev cX7_isArm : ByteArray := prog_1_method_34_code
def yX7_isArm : MethodName := ⟨RX7, "isArm", "(I)Z"⟩
abbrev cX7_isAngle : ByteArray := prog_1_method_35_code
def yX7_isAngle : MethodName := ⟨RX7, "isAngle", "(I)Z"⟩
abbrev cX7_isWind : ByteArray := prog_1_method_36_code
def yX7_isWind : MethodName := ⟨RX7, "isWind", "(I)Z"⟩
abbrev cX7_isPlace : ByteArray := prog_1_method_37_code
def yX7_isPlace : MethodName := ⟨RX7, "isPlace", "(I)Z"⟩
abbrev cX7_kiteAt : ByteArray := prog_1_method_38_code
def yX7_kiteAt : MethodName := ⟨RX7, "kiteAt", "(I)LBridleBook$Kite;"⟩
abbrev cX7_lineAt : ByteArray := prog_1_method_39_code
def yX7_lineAt : MethodName := ⟨RX7, "lineAt", "(I)LBridleBook$Line;"⟩
abbrev cX7_areTwoLines : ByteArray := prog_1_method_40_code
def yX7_areTwoLines : MethodName := ⟨RX7, "areTwoLines", "(II)Z"⟩
abbrev cX7_flyerAt : ByteArray := prog_1_method_41_code
def yX7_flyerAt : MethodName := ⟨RX7, "flyerAt", "(I)LBridleBook$Flyer;"⟩
abbrev cX7_kitesOn : ByteArray := prog_1_method_42_code
def yX7_kitesOn : MethodName := ⟨RX7, "kitesOn", "(I)I"⟩
abbrev cX7_windAt : ByteArray := prog_1_method_43_code
def yX7_windAt : MethodName := ⟨RX7, "windAt", "(I)I"⟩
abbrev cX7_liftsOf : ByteArray := prog_1_method_44_code
def yX7_liftsOf : MethodName := ⟨RX7, "liftsOf", "(ILBridleBook$Line;I)I"⟩
abbrev cX7_loadTrain : ByteArray := prog_1_method_45_code
def yX7_loadTrain : MethodName := ⟨RX7, "loadTrain", "(ILBridleBook$Line;)V"⟩
abbrev cX7_partingStep : ByteArray := prog_1_method_46_code
def yX7_partingStep : MethodName := ⟨RX7, "partingStep", "(ILBridleBook$Line;)I"⟩
abbrev cX7_sever : ByteArray := prog_1_method_47_code
def yX7_sever : MethodName := ⟨RX7, "sever", "(ILBridleBook$Line;I)V"⟩
abbrev cX7_hasFlyer : ByteArray := prog_1_method_48_code
def yX7_hasFlyer : MethodName := ⟨RX7, "hasFlyer", "(I)Z"⟩
abbrev cX7_hasTreeAt : ByteArray := prog_1_method_49_code
def yX7_hasTreeAt : MethodName := ⟨RX7, "hasTreeAt", "(I)Z"⟩
abbrev cX7_spreadCone : ByteArray := prog_1_method_50_code
def yX7_spreadCone : MethodName := ⟨RX7, "spreadCone", "(LBridleBook$Cone;LBridleBook$Flyer;)V"⟩
abbrev cX7_reasonAgainst : ByteArray := prog_1_method_51_code
def yX7_reasonAgainst : MethodName := ⟨RX7, "reasonAgainst", "(ILBridleBook$Flyer;)I"⟩
abbrev cX7_isInTheWay : ByteArray := prog_1_method_52_code
def yX7_isInTheWay : MethodName := ⟨RX7, "isInTheWay", "(II)Z"⟩
abbrev cX7_countFlying : ByteArray := prog_1_method_53_code
def yX7_countFlying : MethodName := ⟨RX7, "countFlying", "()I"⟩
abbrev cX7_countTied : ByteArray := prog_1_method_54_code
def yX7_countTied : MethodName := ⟨RX7, "countTied", "()I"⟩
abbrev cX7_countFree : ByteArray := prog_1_method_55_code
def yX7_countFree : MethodName := ⟨RX7, "countFree", "()I"⟩
def RX8 : String := "BridleBookModel"
def TX8 : u_T := fun k => match k with
  | 0 => ("BridleBookModel", "code", "I", false)
  | 1 => ("BridleBookModel", "kites", "I", false)
  | 2 => ("BridleBookModel", "panels", "[I", true)
  | 3 => ("BridleBookModel", "area", "[I", true)
  | 4 => ("BridleBookModel", "arm", "[I", true)
  | 5 => ("BridleBookModel", "heavy", "[I", true)
  | 6 => ("BridleBookModel", "knotAt", "[I", true)
  | 7 => ("BridleBookModel", "lineOf", "[I", true)
  | 8 => ("BridleBookModel", "stepOf", "[I", true)
  | 9 => ("BridleBookModel", "lift", "[I", true)
  | 10 => ("BridleBookModel", "drag", "[I", true)
  | 11 => ("BridleBookModel", "winds", "[I", true)
  | 12 => ("BridleBookModel", "lines", "I", false)
  | 13 => ("BridleBookModel", "steps", "[I", true)
  | 14 => ("BridleBookModel", "strength", "[I", true)
  | 15 => ("BridleBookModel", "thin", "[I", true)
  | 16 => ("BridleBookModel", "knots", "[I", true)
  | 17 => ("BridleBookModel", "knotStep", "[I", true)
  | 18 => ("BridleBookModel", "across", "[I", true)
  | 19 => ("BridleBookModel", "upward", "[I", true)
  | 20 => ("BridleBookModel", "tight", "[I", true)
  | 21 => ("BridleBookModel", "far", "[I", true)
  | 22 => ("BridleBookModel", "height", "[I", true)
  | 23 => ("BridleBookModel", "flyers", "I", false)
  | 24 => ("BridleBookModel", "flyerX", "[I", true)
  | 25 => ("BridleBookModel", "flyerY", "[I", true)
  | 26 => ("BridleBookModel", "flyerLine", "[I", true)
  | 27 => ("BridleBookModel", "flies", "[Z", true)
  | 28 => ("BridleBookModel", "flyerOf", "[I", true)
  | 29 => ("BridleBookModel", "agreed", "[Z", true)
  | 30 => ("BridleBookModel", "direction", "I", false)
  | 31 => ("BridleBookModel", "shift", "I", false)
  | 32 => ("BridleBookModel", "trees", "I", false)
  | 33 => ("BridleBookModel", "tree", "[I", true)
  | 34 => ("BridleBookModel", "turnMany", "I", false)
  | 35 => ("BridleBookModel", "turnA", "[I", true)
  | 36 => ("BridleBookModel", "turnB", "[I", true)
  | _ => ("BridleBookModel", "turnWay", "[I", true)
def tyX8 : Nat → FieldType := fun k => match k with
  | 0 => .int
  | 1 => .int
  | 2 => .array .int
  | 3 => .array .int
  | 4 => .array .int
  | 5 => .array .int
  | 6 => .array .int
  | 7 => .array .int
  | 8 => .array .int
  | 9 => .array .int
  | 10 => .array .int
  | 11 => .array .int
  | 12 => .int
  | 13 => .array .int
  | 14 => .array .int
  | 15 => .array .int
  | 16 => .array .int
  | 17 => .array .int
  | 18 => .array .int
  | 19 => .array .int
  | 20 => .array .int
  | 21 => .array .int
  | 22 => .array .int
  | 23 => .int
  | 24 => .array .int
  | 25 => .array .int
  | 26 => .array .int
  | 27 => .array .boolean
  | 28 => .array .int
  | 29 => .array .boolean
  | 30 => .int
  | 31 => .int
  | 32 => .int
  | 33 => .array .int
  | 34 => .int
  | 35 => .array .int
  | 36 => .array .int
  | _ => .array .int
abbrev wsX80 : List Cond := u_ws RX8 TX8 38
theorem nmX8 : ∀ a, a < 38 → ∀ b, b < 38 → a ≠ b → (TX8 a).2.1 ≠ (TX8 b).2.1 := by decide +kernel
theorem tyX8_ok : ∀ k, k < 38 → parseFieldDescriptor (TX8 k).2.2.1 = some (tyX8 k) := by decide +kernel
abbrev cX8_in : ByteArray := prog_10_method_2_code
def yX8_in : MethodName := ⟨RX8, "in", "(III)Z"⟩
abbrev cX8_init : ByteArray := prog_10_method_3_code
def yX8_init : MethodName := ⟨RX8, "<init>", "()V"⟩
abbrev cX8_isKite : ByteArray := prog_10_method_4_code
def yX8_isKite : MethodName := ⟨RX8, "isKite", "(I)Z"⟩
abbrev cX8_isWind : ByteArray := prog_10_method_5_code
def yX8_isWind : MethodName := ⟨RX8, "isWind", "(I)Z"⟩
abbrev cX8_isAngle : ByteArray := prog_10_method_6_code
def yX8_isAngle : MethodName := ⟨RX8, "isAngle", "(I)Z"⟩
abbrev cX8_kite : ByteArray := prog_10_method_7_code
def yX8_kite : MethodName := ⟨RX8, "kite", "()I"⟩
abbrev cX8_panel : ByteArray := prog_10_method_8_code
def yX8_panel : MethodName := ⟨RX8, "panel", "(IIII)I"⟩
abbrev cX8_knot : ByteArray := prog_10_method_9_code
def yX8_knot : MethodName := ⟨RX8, "knot", "(II)I"⟩
abbrev cX8_table : ByteArray := prog_10_method_10_code
def yX8_table : MethodName := ⟨RX8, "table", "(III)I"⟩
abbrev cX8_weightOf : ByteArray := prog_10_method_11_code
def yX8_weightOf : MethodName := ⟨RX8, "weightOf", "(I)I"⟩
abbrev cX8_up : ByteArray := prog_10_method_12_code
def yX8_up : MethodName := ⟨RX8, "up", "(III)I"⟩
abbrev cX8_back : ByteArray := prog_10_method_13_code
def yX8_back : MethodName := ⟨RX8, "back", "(III)I"⟩
abbrev cX8_turns : ByteArray := prog_10_method_14_code
def yX8_turns : MethodName := ⟨RX8, "turns", "(III)I"⟩
abbrev cX8_force : ByteArray := prog_10_method_15_code
def yX8_force : MethodName := ⟨RX8, "force", "(IIII)I"⟩
abbrev cX8_standsAt : ByteArray := prog_10_method_16_code
def yX8_standsAt : MethodName := ⟨RX8, "standsAt", "(II)I"⟩
abbrev cX8_isSteady : ByteArray := prog_10_method_17_code
def yX8_isSteady : MethodName := ⟨RX8, "isSteady", "(III)Z"⟩
abbrev cX8_stands : ByteArray := prog_10_method_18_code
def yX8_stands : MethodName := ⟨RX8, "stands", "(II)I"⟩
abbrev cX8_steady : ByteArray := prog_10_method_19_code
def yX8_steady : MethodName := ⟨RX8, "steady", "(II)I"⟩
abbrev cX8_pullUp : ByteArray := prog_10_method_20_code
def yX8_pullUp : MethodName := ⟨RX8, "pullUp", "(II)I"⟩
abbrev cX8_pullBack : ByteArray := prog_10_method_21_code
def yX8_pullBack : MethodName := ⟨RX8, "pullBack", "(II)I"⟩
abbrev cX8_pull : ByteArray := prog_10_method_22_code
def yX8_pull : MethodName := ⟨RX8, "pull", "(III)I"⟩
abbrev cX8_trim : ByteArray := prog_10_method_23_code
def yX8_trim : MethodName := ⟨RX8, "trim", "(IIII)I"⟩
abbrev cX8_isLine : ByteArray := prog_10_method_24_code
def yX8_isLine : MethodName := ⟨RX8, "isLine", "(I)Z"⟩
abbrev cX8_isStep : ByteArray := prog_10_method_25_code
def yX8_isStep : MethodName := ⟨RX8, "isStep", "(II)Z"⟩
abbrev cX8_wind : ByteArray := prog_10_method_26_code
def yX8_wind : MethodName := ⟨RX8, "wind", "(II)I"⟩
abbrev cX8_line : ByteArray := prog_10_method_27_code
def yX8_line : MethodName := ⟨RX8, "line", "(III)I"⟩
abbrev cX8_kitesOn : ByteArray := prog_10_method_28_code
def yX8_kitesOn : MethodName := ⟨RX8, "kitesOn", "(I)I"⟩
abbrev cX8_tie : ByteArray := prog_10_method_29_code
def yX8_tie : MethodName := ⟨RX8, "tie", "(III)I"⟩
abbrev cX8_untie : ByteArray := prog_10_method_30_code
def yX8_untie : MethodName := ⟨RX8, "untie", "(I)I"⟩
abbrev cX8_isWeak : ByteArray := prog_10_method_31_code
def yX8_isWeak : MethodName := ⟨RX8, "isWeak", "(II)Z"⟩
abbrev cX8_weaken : ByteArray := prog_10_method_32_code
def yX8_weaken : MethodName := ⟨RX8, "weaken", "(II)I"⟩
abbrev cX8_windBand : ByteArray := prog_10_method_33_code
def yX8_windBand : MethodName := ⟨RX8, "windBand", "(I)I"⟩
abbrev cX8_root : ByteArray := prog_10_method_34_code
def yX8_root : MethodName := ⟨RX8, "root", "(J)I"⟩
abbrev cX8_stand : ByteArray := prog_10_method_35_code
def yX8_stand : MethodName := ⟨RX8, "stand", "(II)V"⟩
abbrev cX8_strengthAt : ByteArray := prog_10_method_36_code
def yX8_strengthAt : MethodName := ⟨RX8, "strengthAt", "(II)I"⟩
abbrev cX8_partsAt : ByteArray := prog_10_method_37_code
def yX8_partsAt : MethodName := ⟨RX8, "partsAt", "(I)I"⟩
abbrev cX8_lifts : ByteArray := prog_10_method_38_code
def yX8_lifts : MethodName := ⟨RX8, "lifts", "(II)I"⟩
abbrev cX8_ofLine : ByteArray := prog_10_method_39_code
def yX8_ofLine : MethodName := ⟨RX8, "ofLine", "(II)I"⟩
abbrev cX8_step : ByteArray := prog_10_method_40_code
def yX8_step : MethodName := ⟨RX8, "step", "(III)I"⟩
abbrev cX8_end : ByteArray := prog_10_method_41_code
def yX8_end : MethodName := ⟨RX8, "end", "(II)V"⟩
abbrev cX8_part : ByteArray := prog_10_method_42_code
def yX8_part : MethodName := ⟨RX8, "part", "(I)I"⟩
abbrev cX8_least : ByteArray := prog_10_method_43_code
def yX8_least : MethodName := ⟨RX8, "least", "(II)I"⟩
abbrev cX8_isFlyer : ByteArray := prog_10_method_44_code
def yX8_isFlyer : MethodName := ⟨RX8, "isFlyer", "(I)Z"⟩
abbrev cX8_isPlace : ByteArray := prog_10_method_45_code
def yX8_isPlace : MethodName := ⟨RX8, "isPlace", "(I)Z"⟩
abbrev cX8_flyer : ByteArray := prog_10_method_46_code
def yX8_flyer : MethodName := ⟨RX8, "flyer", "(II)I"⟩
abbrev cX8_blow : ByteArray := prog_10_method_47_code
def yX8_blow : MethodName := ⟨RX8, "blow", "(II)I"⟩
abbrev cX8_tree : ByteArray := prog_10_method_48_code
def yX8_tree : MethodName := ⟨RX8, "tree", "(I)I"⟩
abbrev cX8_agree : ByteArray := prog_10_method_49_code
def yX8_agree : MethodName := ⟨RX8, "agree", "(III)I"⟩
abbrev cX8_endOf : ByteArray := prog_10_method_50_code
def yX8_endOf : MethodName := ⟨RX8, "endOf", "(III)I"⟩
abbrev cX8_isInCone : ByteArray := prog_10_method_51_code
def yX8_isInCone : MethodName := ⟨RX8, "isInCone", "(II)Z"⟩
abbrev cX8_doMeet : ByteArray := prog_10_method_52_code
def yX8_doMeet : MethodName := ⟨RX8, "doMeet", "(II)Z"⟩
abbrev cX8_whyNot : ByteArray := prog_10_method_53_code
def yX8_whyNot : MethodName := ⟨RX8, "whyNot", "(I)I"⟩
abbrev cX8_fly : ByteArray := prog_10_method_54_code
def yX8_fly : MethodName := ⟨RX8, "fly", "(II)I"⟩
abbrev cX8_why : ByteArray := prog_10_method_55_code
def yX8_why : MethodName := ⟨RX8, "why", "(I)I"⟩
abbrev cX8_cone : ByteArray := prog_10_method_56_code
def yX8_cone : MethodName := ⟨RX8, "cone", "(II)I"⟩
abbrev cX8_wind0 : ByteArray := prog_10_method_57_code
def yX8_wind0 : MethodName := ⟨RX8, "wind0", "(III)V"⟩
abbrev cX8_lesser : ByteArray := prog_10_method_58_code
def yX8_lesser : MethodName := ⟨RX8, "lesser", "(II)I"⟩
abbrev cX8_greater : ByteArray := prog_10_method_59_code
def yX8_greater : MethodName := ⟨RX8, "greater", "(II)I"⟩
abbrev cX8_turn : ByteArray := prog_10_method_60_code
def yX8_turn : MethodName := ⟨RX8, "turn", "(III)I"⟩
abbrev cX8_turnsOf : ByteArray := prog_10_method_61_code
def yX8_turnsOf : MethodName := ⟨RX8, "turnsOf", "(II)I"⟩
abbrev cX8_tangled : ByteArray := prog_10_method_62_code
def yX8_tangled : MethodName := ⟨RX8, "tangled", "(II)I"⟩
abbrev cX8_has : ByteArray := prog_10_method_63_code
def yX8_has : MethodName := ⟨RX8, "has", "(II)Z"⟩
abbrev cX8_undo : ByteArray := prog_10_method_64_code
def yX8_undo : MethodName := ⟨RX8, "undo", "(I)I"⟩
abbrev cX8_unwind : ByteArray := prog_10_method_65_code
def yX8_unwind : MethodName := ⟨RX8, "unwind", "(I)I"⟩
abbrev cX8_cut : ByteArray := prog_10_method_66_code
def yX8_cut : MethodName := ⟨RX8, "cut", "(III)I"⟩
abbrev cX8_count : ByteArray := prog_10_method_67_code
def yX8_count : MethodName := ⟨RX8, "count", "(I)I"⟩
def RJ9 : String := "java/lang/Math"
def TJ9 : u_T := fun k => match k with
  | _ => ("", "", "", false)
def tyJ9 : Nat → FieldType := fun k => match k with
  | _ => .int
abbrev wsJ90 : List Cond := u_ws RJ9 TJ9 0
theorem nmJ9 : ∀ a, a < 0 → ∀ b, b < 0 → a ≠ b → (TJ9 a).2.1 ≠ (TJ9 b).2.1 := by decide +kernel
theorem tyJ9_ok : ∀ k, k < 0 → parseFieldDescriptor (TJ9 k).2.2.1 = some (tyJ9 k) := by decide +kernel
abbrev cJ9_abs_0f7a4 : ByteArray := prog_11_method_59_code
def yJ9_abs_0f7a4 : MethodName := ⟨RJ9, "abs", "(I)I"⟩
abbrev cJ9_abs_067f4 : ByteArray := prog_11_method_61_code
def yJ9_abs_067f4 : MethodName := ⟨RJ9, "abs", "(J)J"⟩
abbrev cJ9_max_7cf53 : ByteArray := prog_11_method_65_code
def yJ9_max_7cf53 : MethodName := ⟨RJ9, "max", "(II)I"⟩
abbrev cJ9_min_7cf53 : ByteArray := prog_11_method_69_code
def yJ9_min_7cf53 : MethodName := ⟨RJ9, "min", "(II)I"⟩
def RJ7 : String := "java/util/Arrays"
def TJ7 : u_T := fun k => match k with
  | _ => ("", "", "", false)
def tyJ7 : Nat → FieldType := fun k => match k with
  | _ => .int
abbrev wsJ70 : List Cond := u_ws RJ7 TJ7 0
theorem nmJ7 : ∀ a, a < 0 → ∀ b, b < 0 → a ≠ b → (TJ7 a).2.1 ≠ (TJ7 b).2.1 := by decide +kernel
theorem tyJ7_ok : ∀ k, k < 0 → parseFieldDescriptor (TJ7 k).2.2.1 = some (tyJ7 k) := by decide +kernel
abbrev cJ7_fill_53178 : ByteArray := prog_12_method_103_code
def yJ7_fill_53178 : MethodName := ⟨RJ7, "fill", "([II)V"⟩
def RL : String := "BridleBookLaw"
abbrev cL_law : ByteArray := code
def yL_law : MethodName := ⟨RL, "law", "([I)Z"⟩
abbrev vwCl : List vw_C := [(RX0, TX0, 4), (RX1, TX1, 4), (RX2, TX2, 7), (RX3, TX3, 5), (RX4, TX4, 2), (RX5, TX5, 2), (RX6, TX6, 2), (RX7, TX7, 17), (RX8, TX8, 38)]
