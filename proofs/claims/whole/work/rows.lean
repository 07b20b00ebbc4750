section
/-- a private method of a class that the tables say can be made, by its rows of tables_1 -/
def lw_okq (q : MethodName × Nat) : Prop := (q.1.cls ≠ "java/lang/invoke/MethodHandle" ∧ q.1.cls ≠ "java/lang/invoke/VarHandle") ∧ Cond.instantiable q.1.cls q.2 ∈ tables_1 ∧ Cond.privateMethod q.1 ∈ tables_1 ∧ Cond.instanceMethod q.1 ∈ tables_1
theorem lw_p0 : lw_okq (⟨"BridleBook", "kiteAt", "(I)LBridleBook$Kite;"⟩, 17) := ⟨⟨by decide +kernel, by decide +kernel⟩, List.mem_of_getElem? (i := 13) (by decide +kernel), List.mem_of_getElem? (i := 181) (by decide +kernel), List.mem_of_getElem? (i := 182) (by decide +kernel)⟩
theorem lw_p1 : lw_okq (⟨"BridleBook", "lineAt", "(I)LBridleBook$Line;"⟩, 17) := ⟨⟨by decide +kernel, by decide +kernel⟩, List.mem_of_getElem? (i := 13) (by decide +kernel), List.mem_of_getElem? (i := 316) (by decide +kernel), List.mem_of_getElem? (i := 317) (by decide +kernel)⟩
theorem lw_p2 : lw_okq (⟨"BridleBook", "kitesOn", "(I)I"⟩, 17) := ⟨⟨by decide +kernel, by decide +kernel⟩, List.mem_of_getElem? (i := 13) (by decide +kernel), List.mem_of_getElem? (i := 320) (by decide +kernel), List.mem_of_getElem? (i := 321) (by decide +kernel)⟩
theorem lw_p3 : lw_okq (⟨"BridleBook", "liftsOf", "(ILBridleBook$Line;I)I"⟩, 17) := ⟨⟨by decide +kernel, by decide +kernel⟩, List.mem_of_getElem? (i := 13) (by decide +kernel), List.mem_of_getElem? (i := 344) (by decide +kernel), List.mem_of_getElem? (i := 345) (by decide +kernel)⟩
theorem lw_p4 : lw_okq (⟨"BridleBook", "windAt", "(I)I"⟩, 17) := ⟨⟨by decide +kernel, by decide +kernel⟩, List.mem_of_getElem? (i := 13) (by decide +kernel), List.mem_of_getElem? (i := 348) (by decide +kernel), List.mem_of_getElem? (i := 349) (by decide +kernel)⟩
theorem lw_p5 : lw_okq (⟨"BridleBook", "partingStep", "(ILBridleBook$Line;)I"⟩, 17) := ⟨⟨by decide +kernel, by decide +kernel⟩, List.mem_of_getElem? (i := 13) (by decide +kernel), List.mem_of_getElem? (i := 354) (by decide +kernel), List.mem_of_getElem? (i := 355) (by decide +kernel)⟩
theorem lw_p6 : lw_okq (⟨"BridleBook", "loadTrain", "(ILBridleBook$Line;)V"⟩, 17) := ⟨⟨by decide +kernel, by decide +kernel⟩, List.mem_of_getElem? (i := 13) (by decide +kernel), List.mem_of_getElem? (i := 358) (by decide +kernel), List.mem_of_getElem? (i := 359) (by decide +kernel)⟩
theorem lw_p7 : lw_okq (⟨"BridleBook", "sever", "(ILBridleBook$Line;I)V"⟩, 17) := ⟨⟨by decide +kernel, by decide +kernel⟩, List.mem_of_getElem? (i := 13) (by decide +kernel), List.mem_of_getElem? (i := 424) (by decide +kernel), List.mem_of_getElem? (i := 425) (by decide +kernel)⟩
theorem lw_p8 : lw_okq (⟨"BridleBook", "hasFlyer", "(I)Z"⟩, 17) := ⟨⟨by decide +kernel, by decide +kernel⟩, List.mem_of_getElem? (i := 13) (by decide +kernel), List.mem_of_getElem? (i := 444) (by decide +kernel), List.mem_of_getElem? (i := 445) (by decide +kernel)⟩
theorem lw_p9 : lw_okq (⟨"BridleBook", "flyerAt", "(I)LBridleBook$Flyer;"⟩, 17) := ⟨⟨by decide +kernel, by decide +kernel⟩, List.mem_of_getElem? (i := 13) (by decide +kernel), List.mem_of_getElem? (i := 448) (by decide +kernel), List.mem_of_getElem? (i := 449) (by decide +kernel)⟩
theorem lw_p10 : lw_okq (⟨"BridleBook", "hasTreeAt", "(I)Z"⟩, 17) := ⟨⟨by decide +kernel, by decide +kernel⟩, List.mem_of_getElem? (i := 13) (by decide +kernel), List.mem_of_getElem? (i := 482) (by decide +kernel), List.mem_of_getElem? (i := 483) (by decide +kernel)⟩
theorem lw_p11 : lw_okq (⟨"BridleBook", "reasonAgainst", "(ILBridleBook$Flyer;)I"⟩, 17) := ⟨⟨by decide +kernel, by decide +kernel⟩, List.mem_of_getElem? (i := 13) (by decide +kernel), List.mem_of_getElem? (i := 494) (by decide +kernel), List.mem_of_getElem? (i := 495) (by decide +kernel)⟩
theorem lw_p12 : lw_okq (⟨"BridleBook", "spreadCone", "(LBridleBook$Cone;LBridleBook$Flyer;)V"⟩, 17) := ⟨⟨by decide +kernel, by decide +kernel⟩, List.mem_of_getElem? (i := 13) (by decide +kernel), List.mem_of_getElem? (i := 498) (by decide +kernel), List.mem_of_getElem? (i := 499) (by decide +kernel)⟩
theorem lw_p13 : lw_okq (⟨"BridleBook", "isInTheWay", "(II)Z"⟩, 17) := ⟨⟨by decide +kernel, by decide +kernel⟩, List.mem_of_getElem? (i := 13) (by decide +kernel), List.mem_of_getElem? (i := 517) (by decide +kernel), List.mem_of_getElem? (i := 518) (by decide +kernel)⟩
theorem lw_p14 : lw_okq (⟨"BridleBook", "areTwoLines", "(II)Z"⟩, 17) := ⟨⟨by decide +kernel, by decide +kernel⟩, List.mem_of_getElem? (i := 13) (by decide +kernel), List.mem_of_getElem? (i := 537) (by decide +kernel), List.mem_of_getElem? (i := 538) (by decide +kernel)⟩
theorem lw_p15 : lw_okq (⟨"BridleBook", "countFlying", "()I"⟩, 17) := ⟨⟨by decide +kernel, by decide +kernel⟩, List.mem_of_getElem? (i := 13) (by decide +kernel), List.mem_of_getElem? (i := 588) (by decide +kernel), List.mem_of_getElem? (i := 589) (by decide +kernel)⟩
def lw_privs_1 : List (MethodName × Nat) := [(⟨"BridleBook", "kiteAt", "(I)LBridleBook$Kite;"⟩, 17), (⟨"BridleBook", "lineAt", "(I)LBridleBook$Line;"⟩, 17), (⟨"BridleBook", "kitesOn", "(I)I"⟩, 17), (⟨"BridleBook", "liftsOf", "(ILBridleBook$Line;I)I"⟩, 17), (⟨"BridleBook", "windAt", "(I)I"⟩, 17), (⟨"BridleBook", "partingStep", "(ILBridleBook$Line;)I"⟩, 17), (⟨"BridleBook", "loadTrain", "(ILBridleBook$Line;)V"⟩, 17), (⟨"BridleBook", "sever", "(ILBridleBook$Line;I)V"⟩, 17), (⟨"BridleBook", "hasFlyer", "(I)Z"⟩, 17), (⟨"BridleBook", "flyerAt", "(I)LBridleBook$Flyer;"⟩, 17), (⟨"BridleBook", "hasTreeAt", "(I)Z"⟩, 17), (⟨"BridleBook", "reasonAgainst", "(ILBridleBook$Flyer;)I"⟩, 17), (⟨"BridleBook", "spreadCone", "(LBridleBook$Cone;LBridleBook$Flyer;)V"⟩, 17), (⟨"BridleBook", "isInTheWay", "(II)Z"⟩, 17), (⟨"BridleBook", "areTwoLines", "(II)Z"⟩, 17), (⟨"BridleBook", "countFlying", "()I"⟩, 17)]
theorem lw_r1 : ∀ q ∈ lw_privs_1, lw_okq q := List.forall_mem_cons.mpr ⟨lw_p0, List.forall_mem_cons.mpr ⟨lw_p1, List.forall_mem_cons.mpr ⟨lw_p2, List.forall_mem_cons.mpr ⟨lw_p3, List.forall_mem_cons.mpr ⟨lw_p4, List.forall_mem_cons.mpr ⟨lw_p5, List.forall_mem_cons.mpr ⟨lw_p6, List.forall_mem_cons.mpr ⟨lw_p7, List.forall_mem_cons.mpr ⟨lw_p8, List.forall_mem_cons.mpr ⟨lw_p9, List.forall_mem_cons.mpr ⟨lw_p10, List.forall_mem_cons.mpr ⟨lw_p11, List.forall_mem_cons.mpr ⟨lw_p12, List.forall_mem_cons.mpr ⟨lw_p13, List.forall_mem_cons.mpr ⟨lw_p14, List.forall_mem_cons.mpr ⟨lw_p15, fun _ h => absurd h List.not_mem_nil⟩⟩⟩⟩⟩⟩⟩⟩⟩⟩⟩⟩⟩⟩⟩⟩
theorem lw_p16 : lw_okq (⟨"BridleBook", "countTied", "()I"⟩, 17) := ⟨⟨by decide +kernel, by decide +kernel⟩, List.mem_of_getElem? (i := 13) (by decide +kernel), List.mem_of_getElem? (i := 592) (by decide +kernel), List.mem_of_getElem? (i := 593) (by decide +kernel)⟩
theorem lw_p17 : lw_okq (⟨"BridleBook", "countFree", "()I"⟩, 17) := ⟨⟨by decide +kernel, by decide +kernel⟩, List.mem_of_getElem? (i := 13) (by decide +kernel), List.mem_of_getElem? (i := 596) (by decide +kernel), List.mem_of_getElem? (i := 597) (by decide +kernel)⟩
theorem lw_p18 : lw_okq (⟨"BridleBookModel", "isKite", "(I)Z"⟩, 38) := ⟨⟨by decide +kernel, by decide +kernel⟩, List.mem_of_getElem? (i := 600) (by decide +kernel), List.mem_of_getElem? (i := 728) (by decide +kernel), List.mem_of_getElem? (i := 729) (by decide +kernel)⟩
theorem lw_p19 : lw_okq (⟨"BridleBookModel", "up", "(III)I"⟩, 38) := ⟨⟨by decide +kernel, by decide +kernel⟩, List.mem_of_getElem? (i := 600) (by decide +kernel), List.mem_of_getElem? (i := 754) (by decide +kernel), List.mem_of_getElem? (i := 755) (by decide +kernel)⟩
theorem lw_p20 : lw_okq (⟨"BridleBookModel", "weightOf", "(I)I"⟩, 38) := ⟨⟨by decide +kernel, by decide +kernel⟩, List.mem_of_getElem? (i := 600) (by decide +kernel), List.mem_of_getElem? (i := 758) (by decide +kernel), List.mem_of_getElem? (i := 759) (by decide +kernel)⟩
theorem lw_p21 : lw_okq (⟨"BridleBookModel", "back", "(III)I"⟩, 38) := ⟨⟨by decide +kernel, by decide +kernel⟩, List.mem_of_getElem? (i := 600) (by decide +kernel), List.mem_of_getElem? (i := 762) (by decide +kernel), List.mem_of_getElem? (i := 763) (by decide +kernel)⟩
theorem lw_p22 : lw_okq (⟨"BridleBookModel", "turns", "(III)I"⟩, 38) := ⟨⟨by decide +kernel, by decide +kernel⟩, List.mem_of_getElem? (i := 600) (by decide +kernel), List.mem_of_getElem? (i := 766) (by decide +kernel), List.mem_of_getElem? (i := 767) (by decide +kernel)⟩
theorem lw_p23 : lw_okq (⟨"BridleBookModel", "standsAt", "(II)I"⟩, 38) := ⟨⟨by decide +kernel, by decide +kernel⟩, List.mem_of_getElem? (i := 600) (by decide +kernel), List.mem_of_getElem? (i := 774) (by decide +kernel), List.mem_of_getElem? (i := 775) (by decide +kernel)⟩
theorem lw_p24 : lw_okq (⟨"BridleBookModel", "isSteady", "(III)Z"⟩, 38) := ⟨⟨by decide +kernel, by decide +kernel⟩, List.mem_of_getElem? (i := 600) (by decide +kernel), List.mem_of_getElem? (i := 782) (by decide +kernel), List.mem_of_getElem? (i := 783) (by decide +kernel)⟩
theorem lw_p25 : lw_okq (⟨"BridleBookModel", "pullUp", "(II)I"⟩, 38) := ⟨⟨by decide +kernel, by decide +kernel⟩, List.mem_of_getElem? (i := 600) (by decide +kernel), List.mem_of_getElem? (i := 790) (by decide +kernel), List.mem_of_getElem? (i := 791) (by decide +kernel)⟩
theorem lw_p26 : lw_okq (⟨"BridleBookModel", "pullBack", "(II)I"⟩, 38) := ⟨⟨by decide +kernel, by decide +kernel⟩, List.mem_of_getElem? (i := 600) (by decide +kernel), List.mem_of_getElem? (i := 794) (by decide +kernel), List.mem_of_getElem? (i := 795) (by decide +kernel)⟩
theorem lw_p27 : lw_okq (⟨"BridleBookModel", "isLine", "(I)Z"⟩, 38) := ⟨⟨by decide +kernel, by decide +kernel⟩, List.mem_of_getElem? (i := 600) (by decide +kernel), List.mem_of_getElem? (i := 815) (by decide +kernel), List.mem_of_getElem? (i := 816) (by decide +kernel)⟩
theorem lw_p28 : lw_okq (⟨"BridleBookModel", "isStep", "(II)Z"⟩, 38) := ⟨⟨by decide +kernel, by decide +kernel⟩, List.mem_of_getElem? (i := 600) (by decide +kernel), List.mem_of_getElem? (i := 819) (by decide +kernel), List.mem_of_getElem? (i := 820) (by decide +kernel)⟩
theorem lw_p29 : lw_okq (⟨"BridleBookModel", "kitesOn", "(I)I"⟩, 38) := ⟨⟨by decide +kernel, by decide +kernel⟩, List.mem_of_getElem? (i := 600) (by decide +kernel), List.mem_of_getElem? (i := 823) (by decide +kernel), List.mem_of_getElem? (i := 824) (by decide +kernel)⟩
theorem lw_p30 : lw_okq (⟨"BridleBookModel", "isWeak", "(II)Z"⟩, 38) := ⟨⟨by decide +kernel, by decide +kernel⟩, List.mem_of_getElem? (i := 600) (by decide +kernel), List.mem_of_getElem? (i := 835) (by decide +kernel), List.mem_of_getElem? (i := 836) (by decide +kernel)⟩
theorem lw_p31 : lw_okq (⟨"BridleBookModel", "lifts", "(II)I"⟩, 38) := ⟨⟨by decide +kernel, by decide +kernel⟩, List.mem_of_getElem? (i := 600) (by decide +kernel), List.mem_of_getElem? (i := 843) (by decide +kernel), List.mem_of_getElem? (i := 844) (by decide +kernel)⟩
def lw_privs_2 : List (MethodName × Nat) := [(⟨"BridleBook", "countTied", "()I"⟩, 17), (⟨"BridleBook", "countFree", "()I"⟩, 17), (⟨"BridleBookModel", "isKite", "(I)Z"⟩, 38), (⟨"BridleBookModel", "up", "(III)I"⟩, 38), (⟨"BridleBookModel", "weightOf", "(I)I"⟩, 38), (⟨"BridleBookModel", "back", "(III)I"⟩, 38), (⟨"BridleBookModel", "turns", "(III)I"⟩, 38), (⟨"BridleBookModel", "standsAt", "(II)I"⟩, 38), (⟨"BridleBookModel", "isSteady", "(III)Z"⟩, 38), (⟨"BridleBookModel", "pullUp", "(II)I"⟩, 38), (⟨"BridleBookModel", "pullBack", "(II)I"⟩, 38), (⟨"BridleBookModel", "isLine", "(I)Z"⟩, 38), (⟨"BridleBookModel", "isStep", "(II)Z"⟩, 38), (⟨"BridleBookModel", "kitesOn", "(I)I"⟩, 38), (⟨"BridleBookModel", "isWeak", "(II)Z"⟩, 38), (⟨"BridleBookModel", "lifts", "(II)I"⟩, 38)]
theorem lw_r2 : ∀ q ∈ lw_privs_2, lw_okq q := List.forall_mem_cons.mpr ⟨lw_p16, List.forall_mem_cons.mpr ⟨lw_p17, List.forall_mem_cons.mpr ⟨lw_p18, List.forall_mem_cons.mpr ⟨lw_p19, List.forall_mem_cons.mpr ⟨lw_p20, List.forall_mem_cons.mpr ⟨lw_p21, List.forall_mem_cons.mpr ⟨lw_p22, List.forall_mem_cons.mpr ⟨lw_p23, List.forall_mem_cons.mpr ⟨lw_p24, List.forall_mem_cons.mpr ⟨lw_p25, List.forall_mem_cons.mpr ⟨lw_p26, List.forall_mem_cons.mpr ⟨lw_p27, List.forall_mem_cons.mpr ⟨lw_p28, List.forall_mem_cons.mpr ⟨lw_p29, List.forall_mem_cons.mpr ⟨lw_p30, List.forall_mem_cons.mpr ⟨lw_p31, fun _ h => absurd h List.not_mem_nil⟩⟩⟩⟩⟩⟩⟩⟩⟩⟩⟩⟩⟩⟩⟩⟩
theorem lw_p32 : lw_okq (⟨"BridleBookModel", "stand", "(II)V"⟩, 38) := ⟨⟨by decide +kernel, by decide +kernel⟩, List.mem_of_getElem? (i := 600) (by decide +kernel), List.mem_of_getElem? (i := 847) (by decide +kernel), List.mem_of_getElem? (i := 848) (by decide +kernel)⟩
theorem lw_p33 : lw_okq (⟨"BridleBookModel", "partsAt", "(I)I"⟩, 38) := ⟨⟨by decide +kernel, by decide +kernel⟩, List.mem_of_getElem? (i := 600) (by decide +kernel), List.mem_of_getElem? (i := 860) (by decide +kernel), List.mem_of_getElem? (i := 861) (by decide +kernel)⟩
theorem lw_p34 : lw_okq (⟨"BridleBookModel", "strengthAt", "(II)I"⟩, 38) := ⟨⟨by decide +kernel, by decide +kernel⟩, List.mem_of_getElem? (i := 600) (by decide +kernel), List.mem_of_getElem? (i := 864) (by decide +kernel), List.mem_of_getElem? (i := 865) (by decide +kernel)⟩
theorem lw_p35 : lw_okq (⟨"BridleBookModel", "end", "(II)V"⟩, 38) := ⟨⟨by decide +kernel, by decide +kernel⟩, List.mem_of_getElem? (i := 600) (by decide +kernel), List.mem_of_getElem? (i := 876) (by decide +kernel), List.mem_of_getElem? (i := 877) (by decide +kernel)⟩
theorem lw_p36 : lw_okq (⟨"BridleBookModel", "isFlyer", "(I)Z"⟩, 38) := ⟨⟨by decide +kernel, by decide +kernel⟩, List.mem_of_getElem? (i := 600) (by decide +kernel), List.mem_of_getElem? (i := 904) (by decide +kernel), List.mem_of_getElem? (i := 905) (by decide +kernel)⟩
theorem lw_p37 : lw_okq (⟨"BridleBookModel", "whyNot", "(I)I"⟩, 38) := ⟨⟨by decide +kernel, by decide +kernel⟩, List.mem_of_getElem? (i := 600) (by decide +kernel), List.mem_of_getElem? (i := 912) (by decide +kernel), List.mem_of_getElem? (i := 913) (by decide +kernel)⟩
theorem lw_p38 : lw_okq (⟨"BridleBookModel", "isInCone", "(II)Z"⟩, 38) := ⟨⟨by decide +kernel, by decide +kernel⟩, List.mem_of_getElem? (i := 600) (by decide +kernel), List.mem_of_getElem? (i := 916) (by decide +kernel), List.mem_of_getElem? (i := 917) (by decide +kernel)⟩
theorem lw_p39 : lw_okq (⟨"BridleBookModel", "endOf", "(III)I"⟩, 38) := ⟨⟨by decide +kernel, by decide +kernel⟩, List.mem_of_getElem? (i := 600) (by decide +kernel), List.mem_of_getElem? (i := 920) (by decide +kernel), List.mem_of_getElem? (i := 921) (by decide +kernel)⟩
theorem lw_p40 : lw_okq (⟨"BridleBookModel", "doMeet", "(II)Z"⟩, 38) := ⟨⟨by decide +kernel, by decide +kernel⟩, List.mem_of_getElem? (i := 600) (by decide +kernel), List.mem_of_getElem? (i := 924) (by decide +kernel), List.mem_of_getElem? (i := 925) (by decide +kernel)⟩
theorem lw_p41 : lw_okq (⟨"BridleBookModel", "wind0", "(III)V"⟩, 38) := ⟨⟨by decide +kernel, by decide +kernel⟩, List.mem_of_getElem? (i := 600) (by decide +kernel), List.mem_of_getElem? (i := 946) (by decide +kernel), List.mem_of_getElem? (i := 947) (by decide +kernel)⟩
theorem lw_p42 : lw_okq (⟨"BridleBookModel", "turnsOf", "(II)I"⟩, 38) := ⟨⟨by decide +kernel, by decide +kernel⟩, List.mem_of_getElem? (i := 600) (by decide +kernel), List.mem_of_getElem? (i := 954) (by decide +kernel), List.mem_of_getElem? (i := 955) (by decide +kernel)⟩
theorem lw_p43 : lw_okq (⟨"BridleBookModel", "has", "(II)Z"⟩, 38) := ⟨⟨by decide +kernel, by decide +kernel⟩, List.mem_of_getElem? (i := 600) (by decide +kernel), List.mem_of_getElem? (i := 962) (by decide +kernel), List.mem_of_getElem? (i := 963) (by decide +kernel)⟩
def lw_privs_3 : List (MethodName × Nat) := [(⟨"BridleBookModel", "stand", "(II)V"⟩, 38), (⟨"BridleBookModel", "partsAt", "(I)I"⟩, 38), (⟨"BridleBookModel", "strengthAt", "(II)I"⟩, 38), (⟨"BridleBookModel", "end", "(II)V"⟩, 38), (⟨"BridleBookModel", "isFlyer", "(I)Z"⟩, 38), (⟨"BridleBookModel", "whyNot", "(I)I"⟩, 38), (⟨"BridleBookModel", "isInCone", "(II)Z"⟩, 38), (⟨"BridleBookModel", "endOf", "(III)I"⟩, 38), (⟨"BridleBookModel", "doMeet", "(II)Z"⟩, 38), (⟨"BridleBookModel", "wind0", "(III)V"⟩, 38), (⟨"BridleBookModel", "turnsOf", "(II)I"⟩, 38), (⟨"BridleBookModel", "has", "(II)Z"⟩, 38)]
theorem lw_r3 : ∀ q ∈ lw_privs_3, lw_okq q := List.forall_mem_cons.mpr ⟨lw_p32, List.forall_mem_cons.mpr ⟨lw_p33, List.forall_mem_cons.mpr ⟨lw_p34, List.forall_mem_cons.mpr ⟨lw_p35, List.forall_mem_cons.mpr ⟨lw_p36, List.forall_mem_cons.mpr ⟨lw_p37, List.forall_mem_cons.mpr ⟨lw_p38, List.forall_mem_cons.mpr ⟨lw_p39, List.forall_mem_cons.mpr ⟨lw_p40, List.forall_mem_cons.mpr ⟨lw_p41, List.forall_mem_cons.mpr ⟨lw_p42, List.forall_mem_cons.mpr ⟨lw_p43, fun _ h => absurd h List.not_mem_nil⟩⟩⟩⟩⟩⟩⟩⟩⟩⟩⟩⟩
def lw_privs : List (MethodName × Nat) := lw_privs_1 ++ (lw_privs_2 ++ (lw_privs_3))
def lw_tbl : List Cond := k2_sels lw_privs ++ tables_1
theorem lw_privs_ok : ∀ q ∈ lw_privs, lw_okq q := by
  show ∀ q ∈ lw_privs_1 ++ (lw_privs_2 ++ (lw_privs_3)), lw_okq q
  exact List.forall_mem_append.mpr ⟨lw_r1, List.forall_mem_append.mpr ⟨lw_r2, lw_r3⟩⟩
def RX0 : String := "BridleBook$Cone"
def TX0 : u_T := fun k => match k with
  | 0 => ("BridleBook$Cone", "lowX", "I", false)
  | 1 => ("BridleBook$Cone", "highX", "I", false)
  | 2 => ("BridleBook$Cone", "lowY", "I", false)
  | _ => ("BridleBook$Cone", "highY", "I", false)
def tyX0 : Nat → FieldType := fun k => match k with
  | 0 => .int
  | 1 => .int
  | 2 => .int
  | _ => .int
abbrev wsX00 : List Cond := u_ws RX0 TX0 4
theorem nmX0 : ∀ a, a < 4 → ∀ b, b < 4 → a ≠ b → (TX0 a).2.1 ≠ (TX0 b).2.1 := by decide +kernel
theorem tyX0_ok : ∀ k, k < 4 → parseFieldDescriptor (TX0 k).2.2.1 = some (tyX0 k) := by decide +kernel
abbrev cX0_init : ByteArray := prog_2_method_1_code
def yX0_init : MethodName := ⟨RX0, "<init>", "()V"⟩
abbrev cX0_spread : ByteArray := prog_2_method_2_code
def yX0_spread : MethodName := ⟨RX0, "spread", "(LBridleBook$Flyer;III)V"⟩
abbrev cX0_reach : ByteArray := prog_2_method_3_code
def yX0_reach : MethodName := ⟨RX0, "reach", "(IIII)I"⟩
abbrev cX0_holds : ByteArray := prog_2_method_4_code
def yX0_holds : MethodName := ⟨RX0, "holds", "(I)Z"⟩
abbrev cX0_meets : ByteArray := prog_2_method_5_code
def yX0_meets : MethodName := ⟨RX0, "meets", "(LBridleBook$Cone;)Z"⟩
def RX1 : String := "BridleBook$Flyer"
def TX1 : u_T := fun k => match k with
  | 0 => ("BridleBook$Flyer", "x", "I", true)
  | 1 => ("BridleBook$Flyer", "y", "I", true)
  | 2 => ("BridleBook$Flyer", "line", "I", true)
  | _ => ("BridleBook$Flyer", "flies", "Z", false)
def tyX1 : Nat → FieldType := fun k => match k with
  | 0 => .int
  | 1 => .int
  | 2 => .int
  | _ => .boolean
abbrev wsX10 : List Cond := u_ws RX1 TX1 4
theorem nmX1 : ∀ a, a < 4 → ∀ b, b < 4 → a ≠ b → (TX1 a).2.1 ≠ (TX1 b).2.1 := by decide +kernel
theorem tyX1_ok : ∀ k, k < 4 → parseFieldDescriptor (TX1 k).2.2.1 = some (tyX1 k) := by decide +kernel
abbrev cX1_init : ByteArray := prog_3_method_1_code
def yX1_init : MethodName := ⟨RX1, "<init>", "(III)V"⟩
def RX2 : String := "BridleBook$Kite"
def TX2 : u_T := fun k => match k with
  | 0 => ("BridleBook$Kite", "areas", "[I", true)
  | 1 => ("BridleBook$Kite", "arms", "[I", true)
  | 2 => ("BridleBook$Kite", "weights", "[I", true)
  | 3 => ("BridleBook$Kite", "panels", "I", false)
  | 4 => ("BridleBook$Kite", "knot", "I", false)
  | 5 => ("BridleBook$Kite", "line", "I", false)
  | _ => ("BridleBook$Kite", "step", "I", false)
def tyX2 : Nat → FieldType := fun k => match k with
  | 0 => .array .int
  | 1 => .array .int
  | 2 => .array .int
  | 3 => .int
  | 4 => .int
  | 5 => .int
  | _ => .int
abbrev wsX20 : List Cond := u_ws RX2 TX2 7
theorem nmX2 : ∀ a, a < 7 → ∀ b, b < 7 → a ≠ b → (TX2 a).2.1 ≠ (TX2 b).2.1 := by decide +kernel
theorem tyX2_ok : ∀ k, k < 7 → parseFieldDescriptor (TX2 k).2.2.1 = some (tyX2 k) := by decide +kernel
abbrev cX2_init : ByteArray := prog_4_method_1_code
def yX2_init : MethodName := ⟨RX2, "<init>", "()V"⟩
abbrev cX2_addPanel : ByteArray := prog_4_method_2_code
def yX2_addPanel : MethodName := ⟨RX2, "addPanel", "(III)I"⟩
abbrev cX2_pressure : ByteArray := prog_4_method_3_code
def yX2_pressure : MethodName := ⟨RX2, "pressure", "(III)I"⟩
abbrev cX2_upAt : ByteArray := prog_4_method_4_code
def yX2_upAt : MethodName := ⟨RX2, "upAt", "(LBridleBook$Tables;II)I"⟩
abbrev cX2_backAt : ByteArray := prog_4_method_5_code
def yX2_backAt : MethodName := ⟨RX2, "backAt", "(LBridleBook$Tables;II)I"⟩
abbrev cX2_turningAt : ByteArray := prog_4_method_6_code
def yX2_turningAt : MethodName := ⟨RX2, "turningAt", "(LBridleBook$Tables;III)I"⟩
abbrev cX2_standingAngle : ByteArray := prog_4_method_7_code
def yX2_standingAngle : MethodName := ⟨RX2, "standingAngle", "(LBridleBook$Tables;II)I"⟩
abbrev cX2_isSteadyAt : ByteArray := prog_4_method_8_code
def yX2_isSteadyAt : MethodName := ⟨RX2, "isSteadyAt", "(LBridleBook$Tables;III)Z"⟩
def RX3 : String := "BridleBook$Line"
def TX3 : u_T := fun k => match k with
  | 0 => ("BridleBook$Line", "steps", "I", false)
  | 1 => ("BridleBook$Line", "strength", "I", true)
  | 2 => ("BridleBook$Line", "weight", "I", true)
  | 3 => ("BridleBook$Line", "knotSteps", "[I", true)
  | _ => ("BridleBook$Line", "knots", "I", false)
def tyX3 : Nat → FieldType := fun k => match k with
  | 0 => .int
  | 1 => .int
  | 2 => .int
  | 3 => .array .int
  | _ => .int
abbrev wsX30 : List Cond := u_ws RX3 TX3 5
theorem nmX3 : ∀ a, a < 5 → ∀ b, b < 5 → a ≠ b → (TX3 a).2.1 ≠ (TX3 b).2.1 := by decide +kernel
theorem tyX3_ok : ∀ k, k < 5 → parseFieldDescriptor (TX3 k).2.2.1 = some (tyX3 k) := by decide +kernel
abbrev cX3_init : ByteArray := prog_5_method_1_code
def yX3_init : MethodName := ⟨RX3, "<init>", "(III)V"⟩
abbrev cX3_hasKnotAt : ByteArray := prog_5_method_2_code
def yX3_hasKnotAt : MethodName := ⟨RX3, "hasKnotAt", "(I)Z"⟩
abbrev cX3_addKnot : ByteArray := prog_5_method_3_code
def yX3_addKnot : MethodName := ⟨RX3, "addKnot", "(I)I"⟩
abbrev cX3_strengthAt : ByteArray := prog_5_method_4_code
def yX3_strengthAt : MethodName := ⟨RX3, "strengthAt", "(I)I"⟩
abbrev cX3_shortenTo : ByteArray := prog_5_method_5_code
def yX3_shortenTo : MethodName := ⟨RX3, "shortenTo", "(I)V"⟩
def RX4 : String := "BridleBook$Tables"
def TX4 : u_T := fun k => match k with
  | 0 => ("BridleBook$Tables", "lift", "[I", true)
  | _ => ("BridleBook$Tables", "drag", "[I", true)
def tyX4 : Nat → FieldType := fun k => match k with
  | 0 => .array .int
  | _ => .array .int
abbrev wsX40 : List Cond := u_ws RX4 TX4 2
theorem nmX4 : ∀ a, a < 2 → ∀ b, b < 2 → a ≠ b → (TX4 a).2.1 ≠ (TX4 b).2.1 := by decide +kernel
theorem tyX4_ok : ∀ k, k < 2 → parseFieldDescriptor (TX4 k).2.2.1 = some (tyX4 k) := by decide +kernel
abbrev cX4_init : ByteArray := prog_6_method_1_code
def yX4_init : MethodName := ⟨RX4, "<init>", "()V"⟩
abbrev cX4_liftAt : ByteArray := prog_6_method_2_code
def yX4_liftAt : MethodName := ⟨RX4, "liftAt", "(I)I"⟩
abbrev cX4_dragAt : ByteArray := prog_6_method_3_code
def yX4_dragAt : MethodName := ⟨RX4, "dragAt", "(I)I"⟩
abbrev cX4_replaceLift : ByteArray := prog_6_method_4_code
def yX4_replaceLift : MethodName := ⟨RX4, "replaceLift", "(II)I"⟩
abbrev cX4_replaceDrag : ByteArray := prog_6_method_5_code
def yX4_replaceDrag : MethodName := ⟨RX4, "replaceDrag", "(II)I"⟩
def RX5 : String := "BridleBook$Train"
def TX5 : u_T := fun k => match k with
  | 0 => ("BridleBook$Train", "across", "[I", true)
  | _ => ("BridleBook$Train", "up", "[I", true)
def tyX5 : Nat → FieldType := fun k => match k with
  | 0 => .array .int
  | _ => .array .int
abbrev wsX50 : List Cond := u_ws RX5 TX5 2
theorem nmX5 : ∀ a, a < 2 → ∀ b, b < 2 → a ≠ b → (TX5 a).2.1 ≠ (TX5 b).2.1 := by decide +kernel
theorem tyX5_ok : ∀ k, k < 2 → parseFieldDescriptor (TX5 k).2.2.1 = some (tyX5 k) := by decide +kernel
abbrev cX5_init : ByteArray := prog_7_method_1_code
def yX5_init : MethodName := ⟨RX5, "<init>", "()V"⟩
abbrev cX5_clear : ByteArray := prog_7_method_2_code
def yX5_clear : MethodName := ⟨RX5, "clear", "()V"⟩
abbrev cX5_hang : ByteArray := prog_7_method_3_code
def yX5_hang : MethodName := ⟨RX5, "hang", "(III)V"⟩
abbrev cX5_sumFromEnd : ByteArray := prog_7_method_4_code
def yX5_sumFromEnd : MethodName := ⟨RX5, "sumFromEnd", "(II)V"⟩
abbrev cX5_acrossAt : ByteArray := prog_7_method_5_code
def yX5_acrossAt : MethodName := ⟨RX5, "acrossAt", "(I)I"⟩
abbrev cX5_upAt : ByteArray := prog_7_method_6_code
def yX5_upAt : MethodName := ⟨RX5, "upAt", "(I)I"⟩
abbrev cX5_tensionAt : ByteArray := prog_7_method_7_code
def yX5_tensionAt : MethodName := ⟨RX5, "tensionAt", "(I)I"⟩
abbrev cX5_rootFrom : ByteArray := prog_7_method_8_code
def yX5_rootFrom : MethodName := ⟨RX5, "rootFrom", "(JJ)J"⟩
abbrev cX5_hundredths : ByteArray := prog_7_method_9_code
def yX5_hundredths : MethodName := ⟨RX5, "hundredths", "(II)I"⟩
abbrev cX5_placeAcross : ByteArray := prog_7_method_10_code
def yX5_placeAcross : MethodName := ⟨RX5, "placeAcross", "(I)I"⟩
abbrev cX5_placeUp : ByteArray := prog_7_method_11_code
def yX5_placeUp : MethodName := ⟨RX5, "placeUp", "(I)I"⟩
def RX6 : String := "BridleBook$TurnRow"
def TX6 : u_T := fun k => match k with
  | 0 => ("BridleBook$TurnRow", "turns", "[I", true)
  | _ => ("BridleBook$TurnRow", "size", "I", false)
def tyX6 : Nat → FieldType := fun k => match k with
  | 0 => .array .int
  | _ => .int
abbrev wsX60 : List Cond := u_ws RX6 TX6 2
theorem nmX6 : ∀ a, a < 2 → ∀ b, b < 2 → a ≠ b → (TX6 a).2.1 ≠ (TX6 b).2.1 := by decide +kernel
theorem tyX6_ok : ∀ k, k < 2 → parseFieldDescriptor (TX6 k).2.2.1 = some (tyX6 k) := by decide +kernel
abbrev cX6_init : ByteArray := prog_8_method_1_code
def yX6_init : MethodName := ⟨RX6, "<init>", "()V"⟩
abbrev cX6_codeOf : ByteArray := prog_8_method_2_code
def yX6_codeOf : MethodName := ⟨RX6, "codeOf", "(III)I"⟩
abbrev cX6_isOfLine : ByteArray := prog_8_method_3_code
def yX6_isOfLine : MethodName := ⟨RX6, "isOfLine", "(II)Z"⟩
abbrev cX6_push : ByteArray := prog_8_method_4_code
def yX6_push : MethodName := ⟨RX6, "push", "(I)Z"⟩
abbrev cX6_turnsOf : ByteArray := prog_8_method_5_code
def yX6_turnsOf : MethodName := ⟨RX6, "turnsOf", "(II)I"⟩
abbrev cX6_undoneFor : ByteArray := prog_8_method_6_code
def yX6_undoneFor : MethodName := ⟨RX6, "undoneFor", "(I)I"⟩
abbrev cX6_dropLine : ByteArray := prog_8_method_7_code
def yX6_dropLine : MethodName := ⟨RX6, "dropLine", "(I)V"⟩
def RX7 : String := "BridleBook"
def TX7 : u_T := fun k => match k with
  | 0 => ("BridleBook", "tables", "LBridleBook$Tables;", true)
  | 1 => ("BridleBook", "kites", "[LBridleBook$Kite;", true)
  | 2 => ("BridleBook", "kiteCount", "I", false)
  | 3 => ("BridleBook", "winds", "[I", true)
  | 4 => ("BridleBook", "lines", "[LBridleBook$Line;", true)
  | 5 => ("BridleBook", "lineCount", "I", false)
  | 6 => ("BridleBook", "train", "LBridleBook$Train;", true)
  | 7 => ("BridleBook", "flyers", "[LBridleBook$Flyer;", true)
  | 8 => ("BridleBook", "flyerCount", "I", false)
  | 9 => ("BridleBook", "agreed", "[Z", true)
  | 10 => ("BridleBook", "trees", "[I", true)
  | 11 => ("BridleBook", "treeCount", "I", false)
  | 12 => ("BridleBook", "direction", "I", false)
  | 13 => ("BridleBook", "shift", "I", false)
  | 14 => ("BridleBook", "ownCone", "LBridleBook$Cone;", true)
  | 15 => ("BridleBook", "otherCone", "LBridleBook$Cone;", true)
  | _ => ("BridleBook", "row", "LBridleBook$TurnRow;", true)
def tyX7 : Nat → FieldType := fun k => match k with
  | 0 => .object "BridleBook$Tables"
  | 1 => .array (.object "BridleBook$Kite")
  | 2 => .int
  | 3 => .array .int
  | 4 => .array (.object "BridleBook$Line")
  | 5 => .int
  | 6 => .object "BridleBook$Train"
  | 7 => .array (.object "BridleBook$Flyer")
  | 8 => .int
  | 9 => .array .boolean
  | 10 => .array .int
  | 11 => .int
  | 12 => .int
  | 13 => .int
  | 14 => .object "BridleBook$Cone"
  | 15 => .object "BridleBook$Cone"
  | _ => .object "BridleBook$TurnRow"
abbrev wsX70 : List Cond := u_ws RX7 TX7 17
theorem nmX7 : ∀ a, a < 17 → ∀ b, b < 17 → a ≠ b → (TX7 a).2.1 ≠ (TX7 b).2.1 := by decide +kernel
theorem tyX7_ok : ∀ k, k < 17 → parseFieldDescriptor (TX7 k).2.2.1 = some (tyX7 k) := by decide +kernel
abbrev cX7_init : ByteArray := prog_1_method_1_code
def yX7_init : MethodName := ⟨RX7, "<init>", "()V"⟩
abbrev cX7_kite : ByteArray := prog_1_method_2_code
def yX7_kite : MethodName := ⟨RX7, "kite", "()I"⟩
abbrev cX7_panel : ByteArray := prog_1_method_3_code
def yX7_panel : MethodName := ⟨RX7, "panel", "(IIII)I"⟩
abbrev cX7_knot : ByteArray := prog_1_method_4_code
def yX7_knot : MethodName := ⟨RX7, "knot", "(II)I"⟩
abbrev cX7_table : ByteArray := prog_1_method_5_code
def yX7_table : MethodName := ⟨RX7, "table", "(III)I"⟩
abbrev cX7_force : ByteArray := prog_1_method_6_code
def yX7_force : MethodName := ⟨RX7, "force", "(IIII)I"⟩
abbrev cX7_stands : ByteArray := prog_1_method_7_code
def yX7_stands : MethodName := ⟨RX7, "stands", "(II)I"⟩
abbrev cX7_steady : ByteArray := prog_1_method_8_code
def yX7_steady : MethodName := ⟨RX7, "steady", "(II)I"⟩
abbrev cX7_pull : ByteArray := prog_1_method_9_code
def yX7_pull : MethodName := ⟨RX7, "pull", "(III)I"⟩
abbrev cX7_trim : ByteArray := prog_1_method_10_code
def yX7_trim : MethodName := ⟨RX7, "trim", "(IIII)I"⟩
abbrev cX7_wind : ByteArray := prog_1_method_11_code
def yX7_wind : MethodName := ⟨RX7, "wind", "(II)I"⟩
abbrev cX7_line : ByteArray := prog_1_method_12_code
def yX7_line : MethodName := ⟨RX7, "line", "(III)I"⟩
abbrev cX7_tie : ByteArray := prog_1_method_13_code
def yX7_tie : MethodName := ⟨RX7, "tie", "(III)I"⟩
abbrev cX7_untie : ByteArray := prog_1_method_14_code
def yX7_untie : MethodName := ⟨RX7, "untie", "(I)I"⟩
abbrev cX7_weaken : ByteArray := prog_1_method_15_code
def yX7_weaken : MethodName := ⟨RX7, "weaken", "(II)I"⟩
abbrev cX7_ofLine : ByteArray := prog_1_method_16_code
def yX7_ofLine : MethodName := ⟨RX7, "ofLine", "(II)I"⟩
abbrev cX7_step : ByteArray := prog_1_method_17_code
def yX7_step : MethodName := ⟨RX7, "step", "(III)I"⟩
abbrev cX7_part : ByteArray := prog_1_method_18_code
def yX7_part : MethodName := ⟨RX7, "part", "(I)I"⟩
abbrev cX7_least : ByteArray := prog_1_method_19_code
def yX7_least : MethodName := ⟨RX7, "least", "(II)I"⟩
abbrev cX7_flyer : ByteArray := prog_1_method_20_code
def yX7_flyer : MethodName := ⟨RX7, "flyer", "(II)I"⟩
abbrev cX7_blow : ByteArray := prog_1_method_21_code
def yX7_blow : MethodName := ⟨RX7, "blow", "(II)I"⟩
abbrev cX7_tree : ByteArray := prog_1_method_22_code
def yX7_tree : MethodName := ⟨RX7, "tree", "(I)I"⟩
abbrev cX7_agree : ByteArray := prog_1_method_23_code
def yX7_agree : MethodName := ⟨RX7, "agree", "(III)I"⟩
abbrev cX7_fly : ByteArray := prog_1_method_24_code
def yX7_fly : MethodName := ⟨RX7, "fly", "(II)I"⟩
abbrev cX7_why : ByteArray := prog_1_method_25_code
def yX7_why : MethodName := ⟨RX7, "why", "(I)I"⟩
abbrev cX7_cone : ByteArray := prog_1_method_26_code
def yX7_cone : MethodName := ⟨RX7, "cone", "(II)I"⟩
abbrev cX7_turn : ByteArray := prog_1_method_27_code
def yX7_turn : MethodName := ⟨RX7, "turn", "(III)I"⟩
abbrev cX7_tangled : ByteArray := prog_1_method_28_code
def yX7_tangled : MethodName := ⟨RX7, "tangled", "(II)I"⟩
abbrev cX7_undo : ByteArray := prog_1_method_29_code
def yX7_undo : MethodName := ⟨RX7, "undo", "(I)I"⟩
abbrev cX7_unwind : ByteArray := prog_1_method_30_code
def yX7_unwind : MethodName := ⟨RX7, "unwind", "(I)I"⟩
abbrev cX7_cut : ByteArray := prog_1_method_31_code
def yX7_cut : MethodName := ⟨RX7, "cut", "(III)I"⟩
abbrev cX7_count : ByteArray := prog_1_method_32_code
def yX7_count : MethodName := ⟨RX7, "count", "(I)I"⟩
abbrev cX7_within : ByteArray := prog_1_method_33_code
def yX7_within : MethodName := ⟨RX7, "within", "(III)Z"⟩
abbrev cX7_isArm : ByteArray := prog_1_method_34_code
def yX7_isArm : MethodName := ⟨RX7, "isArm", "(I)Z"⟩
abbrev cX7_isAngle : ByteArray := prog_1_method_35_code
def yX7_isAngle : MethodName := ⟨RX7, "isAngle", "(I)Z"⟩
abbrev cX7_isWind : ByteArray := prog_1_method_36_code
def yX7_isWind : MethodName := ⟨RX7, "isWind", "(I)Z"⟩
abbrev cX7_isPlace : ByteArray := prog_1_method_37_code
def yX7_isPlace : MethodName := ⟨RX7, "isPlace", "(I)Z"⟩
abbrev cX7_kiteAt : ByteArray := prog_1_method_38_code
def yX7_kiteAt : MethodName := ⟨RX7, "kiteAt", "(I)LBridleBook$Kite;"⟩
abbrev cX7_lineAt : ByteArray := prog_1_method_39_code
def yX7_lineAt : MethodName := ⟨RX7, "lineAt", "(I)LBridleBook$Line;"⟩
abbrev cX7_areTwoLines : ByteArray := prog_1_method_40_code
def yX7_areTwoLines : MethodName := ⟨RX7, "areTwoLines", "(II)Z"⟩
abbrev cX7_flyerAt : ByteArray := prog_1_method_41_code
def yX7_flyerAt : MethodName := ⟨RX7, "flyerAt", "(I)LBridleBook$Flyer;"⟩
abbrev cX7_kitesOn : ByteArray := prog_1_method_42_code
def yX7_kitesOn : MethodName := ⟨RX7, "kitesOn", "(I)I"⟩
abbrev cX7_windAt : ByteArray := prog_1_method_43_code
def yX7_windAt : MethodName := ⟨RX7, "windAt", "(I)I"⟩
abbrev cX7_liftsOf : ByteArray := prog_1_method_44_code
def yX7_liftsOf : MethodName := ⟨RX7, "liftsOf", "(ILBridleBook$Line;I)I"⟩
abbrev cX7_loadTrain : ByteArray := prog_1_method_45_code
def yX7_loadTrain : MethodName := ⟨RX7, "loadTrain", "(ILBridleBook$Line;)V"⟩
abbrev cX7_partingStep : ByteArray := prog_1_method_46_code
def yX7_partingStep : MethodName := ⟨RX7, "partingStep", "(ILBridleBook$Line;)I"⟩
abbrev cX7_sever : ByteArray := prog_1_method_47_code
def yX7_sever : MethodName := ⟨RX7, "sever", "(ILBridleBook$Line;I)V"⟩
abbrev cX7_hasFlyer : ByteArray := prog_1_method_48_code
def yX7_hasFlyer : MethodName := ⟨RX7, "hasFlyer", "(I)Z"⟩
abbrev cX7_hasTreeAt : ByteArray := prog_1_method_49_code
def yX7_hasTreeAt : MethodName := ⟨RX7, "hasTreeAt", "(I)Z"⟩
abbrev cX7_spreadCone : ByteArray := prog_1_method_50_code
def yX7_spreadCone : MethodName := ⟨RX7, "spreadCone", "(LBridleBook$Cone;LBridleBook$Flyer;)V"⟩
abbrev cX7_reasonAgainst : ByteArray := prog_1_method_51_code
def yX7_reasonAgainst : MethodName := ⟨RX7, "reasonAgainst", "(ILBridleBook$Flyer;)I"⟩
abbrev cX7_isInTheWay : ByteArray := prog_1_method_52_code
def yX7_isInTheWay : MethodName := ⟨RX7, "isInTheWay", "(II)Z"⟩
abbrev cX7_countFlying : ByteArray := prog_1_method_53_code
def yX7_countFlying : MethodName := ⟨RX7, "countFlying", "()I"⟩
abbrev cX7_countTied : ByteArray := prog_1_method_54_code
def yX7_countTied : MethodName := ⟨RX7, "countTied", "()I"⟩
abbrev cX7_countFree : ByteArray := prog_1_method_55_code
def yX7_countFree : MethodName := ⟨RX7, "countFree", "()I"⟩
def RX8 : String := "BridleBookModel"
def TX8 : u_T := fun k => match k with
  | 0 => ("BridleBookModel", "code", "I", false)
  | 1 => ("BridleBookModel", "kites", "I", false)
  | 2 => ("BridleBookModel", "panels", "[I", true)
  | 3 => ("BridleBookModel", "area", "[I", true)
  | 4 => ("BridleBookModel", "arm", "[I", true)
  | 5 => ("BridleBookModel", "heavy", "[I", true)
  | 6 => ("BridleBookModel", "knotAt", "[I", true)
  | 7 => ("BridleBookModel", "lineOf", "[I", true)
  | 8 => ("BridleBookModel", "stepOf", "[I", true)
  | 9 => ("BridleBookModel", "lift", "[I", true)
  | 10 => ("BridleBookModel", "drag", "[I", true)
  | 11 => ("BridleBookModel", "winds", "[I", true)
  | 12 => ("BridleBookModel", "lines", "I", false)
  | 13 => ("BridleBookModel", "steps", "[I", true)
  | 14 => ("BridleBookModel", "strength", "[I", true)
  | 15 => ("BridleBookModel", "thin", "[I", true)
  | 16 => ("BridleBookModel", "knots", "[I", true)
  | 17 => ("BridleBookModel", "knotStep", "[I", true)
  | 18 => ("BridleBookModel", "across", "[I", true)
  | 19 => ("BridleBookModel", "upward", "[I", true)
  | 20 => ("BridleBookModel", "tight", "[I", true)
  | 21 => ("BridleBookModel", "far", "[I", true)
  | 22 => ("BridleBookModel", "height", "[I", true)
  | 23 => ("BridleBookModel", "flyers", "I", false)
  | 24 => ("BridleBookModel", "flyerX", "[I", true)
  | 25 => ("BridleBookModel", "flyerY", "[I", true)
  | 26 => ("BridleBookModel", "flyerLine", "[I", true)
  | 27 => ("BridleBookModel", "flies", "[Z", true)
  | 28 => ("BridleBookModel", "flyerOf", "[I", true)
  | 29 => ("BridleBookModel", "agreed", "[Z", true)
  | 30 => ("BridleBookModel", "direction", "I", false)
  | 31 => ("BridleBookModel", "shift", "I", false)
  | 32 => ("BridleBookModel", "trees", "I", false)
  | 33 => ("BridleBookModel", "tree", "[I", true)
  | 34 => ("BridleBookModel", "turnMany", "I", false)
  | 35 => ("BridleBookModel", "turnA", "[I", true)
  | 36 => ("BridleBookModel", "turnB", "[I", true)
  | _ => ("BridleBookModel", "turnWay", "[I", true)
def tyX8 : Nat → FieldType := fun k => match k with
  | 0 => .int
  | 1 => .int
  | 2 => .array .int
  | 3 => .array .int
  | 4 => .array .int
  | 5 => .array .int
  | 6 => .array .int
  | 7 => .array .int
  | 8 => .array .int
  | 9 => .array .int
  | 10 => .array .int
  | 11 => .array .int
  | 12 => .int
  | 13 => .array .int
  | 14 => .array .int
  | 15 => .array .int
  | 16 => .array .int
  | 17 => .array .int
  | 18 => .array .int
  | 19 => .array .int
  | 20 => .array .int
  | 21 => .array .int
  | 22 => .array .int
  | 23 => .int
  | 24 => .array .int
  | 25 => .array .int
  | 26 => .array .int
  | 27 => .array .boolean
  | 28 => .array .int
  | 29 => .array .boolean
  | 30 => .int
  | 31 => .int
  | 32 => .int
  | 33 => .array .int
  | 34 => .int
  | 35 => .array .int
  | 36 => .array .int
  | _ => .array .int
abbrev wsX80 : List Cond := u_ws RX8 TX8 38
theorem nmX8 : ∀ a, a < 38 → ∀ b, b < 38 → a ≠ b → (TX8 a).2.1 ≠ (TX8 b).2.1 := by decide +kernel
theorem tyX8_ok : ∀ k, k < 38 → parseFieldDescriptor (TX8 k).2.2.1 = some (tyX8 k) := by decide +kernel
abbrev cX8_in : ByteArray := prog_10_method_2_code
def yX8_in : MethodName := ⟨RX8, "in", "(III)Z"⟩
abbrev cX8_init : ByteArray := prog_10_method_3_code
def yX8_init : MethodName := ⟨RX8, "<init>", "()V"⟩
abbrev cX8_isKite : ByteArray := prog_10_method_4_code
def yX8_isKite : MethodName := ⟨RX8, "isKite", "(I)Z"⟩
abbrev cX8_isWind : ByteArray := prog_10_method_5_code
def yX8_isWind : MethodName := ⟨RX8, "isWind", "(I)Z"⟩
abbrev cX8_isAngle : ByteArray := prog_10_method_6_code
def yX8_isAngle : MethodName := ⟨RX8, "isAngle", "(I)Z"⟩
abbrev cX8_kite : ByteArray := prog_10_method_7_code
def yX8_kite : MethodName := ⟨RX8, "kite", "()I"⟩
abbrev cX8_panel : ByteArray := prog_10_method_8_code
def yX8_panel : MethodName := ⟨RX8, "panel", "(IIII)I"⟩
abbrev cX8_knot : ByteArray := prog_10_method_9_code
def yX8_knot : MethodName := ⟨RX8, "knot", "(II)I"⟩
abbrev cX8_table : ByteArray := prog_10_method_10_code
def yX8_table : MethodName := ⟨RX8, "table", "(III)I"⟩
abbrev cX8_weightOf : ByteArray := prog_10_method_11_code
def yX8_weightOf : MethodName := ⟨RX8, "weightOf", "(I)I"⟩
abbrev cX8_up : ByteArray := prog_10_method_12_code
def yX8_up : MethodName := ⟨RX8, "up", "(III)I"⟩
abbrev cX8_back : ByteArray := prog_10_method_13_code
def yX8_back : MethodName := ⟨RX8, "back", "(III)I"⟩
abbrev cX8_turns : ByteArray := prog_10_method_14_code
def yX8_turns : MethodName := ⟨RX8, "turns", "(III)I"⟩
abbrev cX8_force : ByteArray := prog_10_method_15_code
def yX8_force : MethodName := ⟨RX8, "force", "(IIII)I"⟩
abbrev cX8_standsAt : ByteArray := prog_10_method_16_code
def yX8_standsAt : MethodName := ⟨RX8, "standsAt", "(II)I"⟩
abbrev cX8_isSteady : ByteArray := prog_10_method_17_code
def yX8_isSteady : MethodName := ⟨RX8, "isSteady", "(III)Z"⟩
abbrev cX8_stands : ByteArray := prog_10_method_18_code
def yX8_stands : MethodName := ⟨RX8, "stands", "(II)I"⟩
abbrev cX8_steady : ByteArray := prog_10_method_19_code
def yX8_steady : MethodName := ⟨RX8, "steady", "(II)I"⟩
abbrev cX8_pullUp : ByteArray := prog_10_method_20_code
def yX8_pullUp : MethodName := ⟨RX8, "pullUp", "(II)I"⟩
abbrev cX8_pullBack : ByteArray := prog_10_method_21_code
def yX8_pullBack : MethodName := ⟨RX8, "pullBack", "(II)I"⟩
abbrev cX8_pull : ByteArray := prog_10_method_22_code
def yX8_pull : MethodName := ⟨RX8, "pull", "(III)I"⟩
abbrev cX8_trim : ByteArray := prog_10_method_23_code
def yX8_trim : MethodName := ⟨RX8, "trim", "(IIII)I"⟩
abbrev cX8_isLine : ByteArray := prog_10_method_24_code
def yX8_isLine : MethodName := ⟨RX8, "isLine", "(I)Z"⟩
abbrev cX8_isStep : ByteArray := prog_10_method_25_code
def yX8_isStep : MethodName := ⟨RX8, "isStep", "(II)Z"⟩
abbrev cX8_wind : ByteArray := prog_10_method_26_code
def yX8_wind : MethodName := ⟨RX8, "wind", "(II)I"⟩
abbrev cX8_line : ByteArray := prog_10_method_27_code
def yX8_line : MethodName := ⟨RX8, "line", "(III)I"⟩
abbrev cX8_kitesOn : ByteArray := prog_10_method_28_code
def yX8_kitesOn : MethodName := ⟨RX8, "kitesOn", "(I)I"⟩
abbrev cX8_tie : ByteArray := prog_10_method_29_code
def yX8_tie : MethodName := ⟨RX8, "tie", "(III)I"⟩
abbrev cX8_untie : ByteArray := prog_10_method_30_code
def yX8_untie : MethodName := ⟨RX8, "untie", "(I)I"⟩
abbrev cX8_isWeak : ByteArray := prog_10_method_31_code
def yX8_isWeak : MethodName := ⟨RX8, "isWeak", "(II)Z"⟩
abbrev cX8_weaken : ByteArray := prog_10_method_32_code
def yX8_weaken : MethodName := ⟨RX8, "weaken", "(II)I"⟩
abbrev cX8_windBand : ByteArray := prog_10_method_33_code
def yX8_windBand : MethodName := ⟨RX8, "windBand", "(I)I"⟩
abbrev cX8_root : ByteArray := prog_10_method_34_code
def yX8_root : MethodName := ⟨RX8, "root", "(J)I"⟩
abbrev cX8_stand : ByteArray := prog_10_method_35_code
def yX8_stand : MethodName := ⟨RX8, "stand", "(II)V"⟩
abbrev cX8_strengthAt : ByteArray := prog_10_method_36_code
def yX8_strengthAt : MethodName := ⟨RX8, "strengthAt", "(II)I"⟩
abbrev cX8_partsAt : ByteArray := prog_10_method_37_code
def yX8_partsAt : MethodName := ⟨RX8, "partsAt", "(I)I"⟩
abbrev cX8_lifts : ByteArray := prog_10_method_38_code
def yX8_lifts : MethodName := ⟨RX8, "lifts", "(II)I"⟩
abbrev cX8_ofLine : ByteArray := prog_10_method_39_code
def yX8_ofLine : MethodName := ⟨RX8, "ofLine", "(II)I"⟩
abbrev cX8_step : ByteArray := prog_10_method_40_code
def yX8_step : MethodName := ⟨RX8, "step", "(III)I"⟩
abbrev cX8_end : ByteArray := prog_10_method_41_code
def yX8_end : MethodName := ⟨RX8, "end", "(II)V"⟩
abbrev cX8_part : ByteArray := prog_10_method_42_code
def yX8_part : MethodName := ⟨RX8, "part", "(I)I"⟩
abbrev cX8_least : ByteArray := prog_10_method_43_code
def yX8_least : MethodName := ⟨RX8, "least", "(II)I"⟩
abbrev cX8_isFlyer : ByteArray := prog_10_method_44_code
def yX8_isFlyer : MethodName := ⟨RX8, "isFlyer", "(I)Z"⟩
abbrev cX8_isPlace : ByteArray := prog_10_method_45_code
def yX8_isPlace : MethodName := ⟨RX8, "isPlace", "(I)Z"⟩
abbrev cX8_flyer : ByteArray := prog_10_method_46_code
def yX8_flyer : MethodName := ⟨RX8, "flyer", "(II)I"⟩
abbrev cX8_blow : ByteArray := prog_10_method_47_code
def yX8_blow : MethodName := ⟨RX8, "blow", "(II)I"⟩
abbrev cX8_tree : ByteArray := prog_10_method_48_code
def yX8_tree : MethodName := ⟨RX8, "tree", "(I)I"⟩
abbrev cX8_agree : ByteArray := prog_10_method_49_code
def yX8_agree : MethodName := ⟨RX8, "agree", "(III)I"⟩
abbrev cX8_endOf : ByteArray := prog_10_method_50_code
def yX8_endOf : MethodName := ⟨RX8, "endOf", "(III)I"⟩
abbrev cX8_isInCone : ByteArray := prog_10_method_51_code
def yX8_isInCone : MethodName := ⟨RX8, "isInCone", "(II)Z"⟩
abbrev cX8_doMeet : ByteArray := prog_10_method_52_code
def yX8_doMeet : MethodName := ⟨RX8, "doMeet", "(II)Z"⟩
abbrev cX8_whyNot : ByteArray := prog_10_method_53_code
def yX8_whyNot : MethodName := ⟨RX8, "whyNot", "(I)I"⟩
abbrev cX8_fly : ByteArray := prog_10_method_54_code
def yX8_fly : MethodName := ⟨RX8, "fly", "(II)I"⟩
abbrev cX8_why : ByteArray := prog_10_method_55_code
def yX8_why : MethodName := ⟨RX8, "why", "(I)I"⟩
abbrev cX8_cone : ByteArray := prog_10_method_56_code
def yX8_cone : MethodName := ⟨RX8, "cone", "(II)I"⟩
abbrev cX8_wind0 : ByteArray := prog_10_method_57_code
def yX8_wind0 : MethodName := ⟨RX8, "wind0", "(III)V"⟩
abbrev cX8_lesser : ByteArray := prog_10_method_58_code
def yX8_lesser : MethodName := ⟨RX8, "lesser", "(II)I"⟩
abbrev cX8_greater : ByteArray := prog_10_method_59_code
def yX8_greater : MethodName := ⟨RX8, "greater", "(II)I"⟩
abbrev cX8_turn : ByteArray := prog_10_method_60_code
def yX8_turn : MethodName := ⟨RX8, "turn", "(III)I"⟩
abbrev cX8_turnsOf : ByteArray := prog_10_method_61_code
def yX8_turnsOf : MethodName := ⟨RX8, "turnsOf", "(II)I"⟩
abbrev cX8_tangled : ByteArray := prog_10_method_62_code
def yX8_tangled : MethodName := ⟨RX8, "tangled", "(II)I"⟩
abbrev cX8_has : ByteArray := prog_10_method_63_code
def yX8_has : MethodName := ⟨RX8, "has", "(II)Z"⟩
abbrev cX8_undo : ByteArray := prog_10_method_64_code
def yX8_undo : MethodName := ⟨RX8, "undo", "(I)I"⟩
abbrev cX8_unwind : ByteArray := prog_10_method_65_code
def yX8_unwind : MethodName := ⟨RX8, "unwind", "(I)I"⟩
abbrev cX8_cut : ByteArray := prog_10_method_66_code
def yX8_cut : MethodName := ⟨RX8, "cut", "(III)I"⟩
abbrev cX8_count : ByteArray := prog_10_method_67_code
def yX8_count : MethodName := ⟨RX8, "count", "(I)I"⟩
def RJ9 : String := "java/lang/Math"
def TJ9 : u_T := fun k => match k with
  | _ => ("", "", "", false)
def tyJ9 : Nat → FieldType := fun k => match k with
  | _ => .int
abbrev wsJ90 : List Cond := u_ws RJ9 TJ9 0
theorem nmJ9 : ∀ a, a < 0 → ∀ b, b < 0 → a ≠ b → (TJ9 a).2.1 ≠ (TJ9 b).2.1 := by decide +kernel
theorem tyJ9_ok : ∀ k, k < 0 → parseFieldDescriptor (TJ9 k).2.2.1 = some (tyJ9 k) := by decide +kernel
abbrev cJ9_abs_0f7a4 : ByteArray := prog_11_method_59_code
def yJ9_abs_0f7a4 : MethodName := ⟨RJ9, "abs", "(I)I"⟩
abbrev cJ9_abs_067f4 : ByteArray := prog_11_method_61_code
def yJ9_abs_067f4 : MethodName := ⟨RJ9, "abs", "(J)J"⟩
abbrev cJ9_max_7cf53 : ByteArray := prog_11_method_65_code
def yJ9_max_7cf53 : MethodName := ⟨RJ9, "max", "(II)I"⟩
abbrev cJ9_min_7cf53 : ByteArray := prog_11_method_69_code
def yJ9_min_7cf53 : MethodName := ⟨RJ9, "min", "(II)I"⟩
def RJ7 : String := "java/util/Arrays"
def TJ7 : u_T := fun k => match k with
  | _ => ("", "", "", false)
def tyJ7 : Nat → FieldType := fun k => match k with
  | _ => .int
abbrev wsJ70 : List Cond := u_ws RJ7 TJ7 0
theorem nmJ7 : ∀ a, a < 0 → ∀ b, b < 0 → a ≠ b → (TJ7 a).2.1 ≠ (TJ7 b).2.1 := by decide +kernel
theorem tyJ7_ok : ∀ k, k < 0 → parseFieldDescriptor (TJ7 k).2.2.1 = some (tyJ7 k) := by decide +kernel
abbrev cJ7_fill_53178 : ByteArray := prog_12_method_103_code
def yJ7_fill_53178 : MethodName := ⟨RJ7, "fill", "([II)V"⟩
def RL : String := "BridleBookLaw"
abbrev cL_law : ByteArray := code
def yL_law : MethodName := ⟨RL, "law", "([I)Z"⟩
abbrev vwCl : List vw_C := [(RX0, TX0, 4), (RX1, TX1, 4), (RX2, TX2, 7), (RX3, TX3, 5), (RX4, TX4, 2), (RX5, TX5, 2), (RX6, TX6, 2), (RX7, TX7, 17), (RX8, TX8, 38)]
set_option maxRecDepth 100000 in
theorem inX0 : ∀ w ∈ wsX00, w ∈ lw_tbl := by decide +kernel
set_option maxRecDepth 100000 in
theorem inX1 : ∀ w ∈ wsX10, w ∈ lw_tbl := by decide +kernel
set_option maxRecDepth 100000 in
theorem inX2 : ∀ w ∈ wsX20, w ∈ lw_tbl := by decide +kernel
set_option maxRecDepth 100000 in
theorem inX3 : ∀ w ∈ wsX30, w ∈ lw_tbl := by decide +kernel
set_option maxRecDepth 100000 in
theorem inX4 : ∀ w ∈ wsX40, w ∈ lw_tbl := by decide +kernel
set_option maxRecDepth 100000 in
theorem inX5 : ∀ w ∈ wsX50, w ∈ lw_tbl := by decide +kernel
set_option maxRecDepth 100000 in
theorem inX6 : ∀ w ∈ wsX60, w ∈ lw_tbl := by decide +kernel
set_option maxRecDepth 100000 in
theorem inX7 : ∀ w ∈ wsX70, w ∈ lw_tbl := by decide +kernel
set_option maxRecDepth 100000 in
theorem inX8 : ∀ w ∈ wsX80, w ∈ lw_tbl := by decide +kernel
end
section
/-! the worlds: every cell has a NAME (a number); ad gives its address; M name place the ints that it holds -/
def lw_g : List Cond := lw_tbl.filter goodWord
theorem lg_good {w : Cond} (h : w ∈ lw_g) : (w.onTables && w.keeps) = true ∨ ∃ ty, w = .arrayClass ty := good_of_word (List.mem_filter.mp h).2
theorem lg_sub {w : Cond} (h : w ∈ lw_g) : w ∈ lw_tbl := (List.mem_filter.mp h).1
theorem lg_goodIn {y : MethodName} {bytes : ByteArray} {maxL : Nat} {ret : Option FieldType} (h : Cond.code y bytes maxL ret ∈ lw_g) : GoodIn lw_g (Cond.code y bytes maxL ret :: lw_g) := by
  intro w hw
  rcases List.mem_cons.mp hw with rfl | hw
  · exact ⟨h, lg_good h⟩
  · exact ⟨hw, lg_good hw⟩
abbrev Mem : Type := Nat → Nat → Int32
abbrev GG : Type := (Nat → ClassId) × (Nat → Nat → Nat) × ClassId × ClassId × ClassId × ClassId × ClassId
def Gd (G : GG) : va_G := (G.1, G.2.1)
def tyG (G : GG) : List (ClassId × FieldType) := [(G.2.2.1, .int), (G.2.2.2.1, .boolean), (G.2.2.2.2.1, .object "BridleBook$Kite"), (G.2.2.2.2.2.1, .object "BridleBook$Line"), (G.2.2.2.2.2.2, .object "BridleBook$Flyer")]
def wd_len (n : Nat) : Nat :=
  if n = 2 then 20 else if n = 3 then 120 else if n = 4 then 120 else if n = 5 then 120 else if n = 6 then 20 else if n = 7 then 20 else if n = 8 then 20 else if n = 9 then 18 else if n = 10 then 18 else if n = 11 then 20 else
  if n = 13 then 10 else if n = 14 then 10 else if n = 15 then 10 else if n = 16 then 10 else if n = 17 then 100 else if n = 18 then 201 else if n = 19 then 201 else if n = 20 then 201 else if n = 21 then 201 else if n = 22 then 201 else
  if n = 24 then 10 else if n = 25 then 10 else if n = 26 then 10 else if n = 28 then 10 else if n = 33 then 20 else if n = 35 then 200 else if n = 36 then 200 else if n = 37 then 200 else
  if n = 54 then 20 else if n = 61 then 20 else if n = 70 then 18 else if n = 71 then 18 else if n = 72 then 202 else if n = 73 then 202 else if n = 74 then 200 else 0
def wd_model (ad : Nat → Nat) (g : Nat → Int32) : List Value := [.int (g 0), .int (g 1), .ref (ad 2), .ref (ad 3), .ref (ad 4), .ref (ad 5), .ref (ad 6), .ref (ad 7), .ref (ad 8), .ref (ad 9), .ref (ad 10), .ref (ad 11), .int (g 12), .ref (ad 13), .ref (ad 14), .ref (ad 15), .ref (ad 16), .ref (ad 17), .ref (ad 18), .ref (ad 19), .ref (ad 20), .ref (ad 21), .ref (ad 22), .int (g 23), .ref (ad 24), .ref (ad 25), .ref (ad 26), .ref (ad 27), .ref (ad 28), .ref (ad 29), .int (g 30), .int (g 31), .int (g 32), .ref (ad 33), .int (g 34), .ref (ad 35), .ref (ad 36), .ref (ad 37)]
def wd_book (ad : Nat → Nat) (g : Nat → Int32) : List Value := [.ref (ad 51), .ref (ad 52), .int (g 2), .ref (ad 54), .ref (ad 55), .int (g 5), .ref (ad 57), .ref (ad 58), .int (g 8), .ref (ad 60), .ref (ad 61), .int (g 11), .int (g 12), .int (g 13), .ref (ad 65), .ref (ad 66), .ref (ad 67)]
def wd_kite (ad : Nat → Nat) (n : Nat) (g : Nat → Int32) : List Value := [.ref (ad (n + 1)), .ref (ad (n + 2)), .ref (ad (n + 3)), .int (g 3), .int (g 4), .int (g 5), .int (g 6)]
def wd_line (ad : Nat → Nat) (n : Nat) (g : Nat → Int32) : List Value := [.int (g 0), .int (g 1), .int (g 2), .ref (ad (n + 1)), .int (g 4)]
def wd_4 (g : Nat → Int32) : List Value := [.int (g 0), .int (g 1), .int (g 2), .int (g 3)]
def wd_rfs (ad : Nat → Nat) (base step cnt : Nat) : Nat → Option Nat := fun j => if j < cnt then some (ad (base + step * j)) else none
def wd_fix (G : GG) (z ad : Nat → Nat) (g : Nat → Int32) (n : Nat) : va_E :=
  if n = 0 then .inr (8, wd_model ad g) else
  if n = 27 then .inl (G.2.2.2.1, 10, .inl g) else
  if n = 29 then .inl (G.2.2.2.1, 100, .inl g) else
  if n = 50 then .inr (7, wd_book ad g) else
  if n = 51 then .inr (4, [.ref (ad 70), .ref (ad 71)]) else
  if n = 52 then .inl (G.2.2.2.2.1, 20, .inr (.inr (.inr (.inr (wd_rfs ad 100 4 (z 0)))))) else
  if n = 55 then .inl (G.2.2.2.2.2.1, 10, .inr (.inr (.inr (.inr (wd_rfs ad 200 2 (z 1)))))) else
  if n = 57 then .inr (5, [.ref (ad 72), .ref (ad 73)]) else
  if n = 58 then .inl (G.2.2.2.2.2.2, 10, .inr (.inr (.inr (.inr (wd_rfs ad 300 1 (z 2)))))) else
  if n = 60 then .inl (G.2.2.2.1, 100, .inl g) else
  if n = 65 then .inr (0, wd_4 g) else
  if n = 66 then .inr (0, wd_4 g) else
  if n = 67 then .inr (6, [.ref (ad 74), .int (g 1)]) else
  .inl (G.2.2.1, wd_len n, .inl g)
def wd_cell (G : GG) (z ad : Nat → Nat) (M : Mem) (n : Nat) : va_E :=
  if n < 100 then wd_fix G z ad (M n) n else
  if n < 200 then (if n % 4 = 0 then .inr (2, wd_kite ad n (M n)) else .inl (G.2.2.1, 6, .inl (M n))) else
  if n < 300 then (if n % 2 = 0 then .inr (3, wd_line ad n (M n)) else .inl (G.2.2.1, 10, .inl (M n))) else
  .inr (1, wd_4 (M n))
def wd_f0 : List Nat := [0, 2, 3, 4, 5, 6, 7, 8, 9, 10, 11, 13, 14, 15, 16, 17, 18, 19, 20, 21, 22, 24, 25, 26, 27, 28, 29, 33, 35, 36, 37, 50, 51, 52, 54, 55, 57, 58, 60, 61, 65, 66, 67, 70, 71, 72, 73, 74]
def wd_nm (z : Nat → Nat) : List Nat := wd_f0 ++ ((List.range (4 * z 0)).map (100 + ·) ++ ((List.range (2 * z 1)).map (200 + ·) ++ (List.range (z 2)).map (300 + ·)))
def wd_W (G : GG) (z ad : Nat → Nat) (M : Mem) : va_W := (wd_nm z).map (fun n => (ad n, wd_cell G z ad M n))
theorem wd_cong {G : GG} {z ad : Nat → Nat} {M M' : Mem} {n : Nat} (h : M' n = M n) : wd_cell G z ad M' n = wd_cell G z ad M n := by
  unfold wd_cell
  rw [h]
theorem wd_at {G : GG} {z ad : Nat → Nat} {M : Mem} {n : Nat} (h : n ∈ wd_nm z) : ∃ k : Nat, (wd_nm z)[k]? = some n ∧ (wd_W G z ad M)[k]? = some (ad n, wd_cell G z ad M n) := by
  obtain ⟨k, hk⟩ := List.getElem?_of_mem h
  refine ⟨k, hk, ?_⟩
  simp [wd_W, hk]
theorem wd_set {G : GG} {z ad : Nat → Nat} {M M' : Mem} {A : Nat → Prop} {n k : Nat} {e : va_E} (hD : va_D A (wd_W G z ad M)) (hk : (wd_nm z)[k]? = some n) (he : wd_cell G z ad M' n = e) (hM : ∀ n', n' ≠ n → M' n' = M n') : (wd_W G z ad M).set k (ad n, e) = wd_W G z ad M' := by
  subst he
  apply List.ext_getElem?
  intro j
  have hkl : k < (wd_nm z).length := (List.getElem?_eq_some_iff.mp hk).1
  by_cases hj : k = j
  · subst hj
    rw [List.getElem?_set_self (by simpa [wd_W] using hkl)]
    simp [wd_W, hk]
  · rw [List.getElem?_set_ne hj]
    rcases hq : (wd_nm z)[j]? with _ | n'
    · simp [wd_W, hq]
    · have h1 : (wd_W G z ad M)[j]? = some (ad n', wd_cell G z ad M n') := by simp [wd_W, hq]
      have h2 : (wd_W G z ad M')[j]? = some (ad n', wd_cell G z ad M' n') := by simp [wd_W, hq]
      rw [h1, h2]
      by_cases hn : n' = n
      · subst hn
        exact absurd (hD.1 k j _ _ (show (wd_W G z ad M)[k]? = some (ad n', wd_cell G z ad M n') by simp [wd_W, hk]) h1 rfl) hj
      · rw [wd_cong (hM n' hn)]
def mu (M : Mem) (n k : Nat) (v : Int32) : Mem := va_up M n (va_up (M n) k v)
theorem mu_ne {M : Mem} {n k : Nat} {v : Int32} (n' : Nat) (h : n' ≠ n) : mu M n k v n' = M n' := by simp [mu, va_up, h]
theorem mu_eq {M : Mem} {n k : Nat} {v : Int32} : mu M n k v n = va_up (M n) k v := by simp [mu, va_up]
def vK (z : Nat → Nat) (n : Nat) : Prop := ∃ i : Nat, i < z 0 ∧ i < 25 ∧ n = 100 + 4 * i
def vL (z : Nat → Nat) (n : Nat) : Prop := ∃ i : Nat, i < z 1 ∧ i < 50 ∧ n = 200 + 2 * i
def vF (z : Nat → Nat) (n : Nat) : Prop := ∃ i : Nat, i < z 2 ∧ n = 300 + i
def vC (n : Nat) : Prop := n = 65 ∨ n = 66
theorem in_fix {z : Nat → Nat} {n : Nat} (h : n ∈ wd_f0) : n ∈ wd_nm z := List.mem_append_left _ h
theorem in_kite {z : Nat → Nat} {n : Nat} (h : vK z n) (j : Nat) (hj : j < 4) : n + j ∈ wd_nm z := by
  obtain ⟨i, h1, h2, rfl⟩ := h
  refine List.mem_append_right _ (List.mem_append_left _ (List.mem_map.mpr ⟨4 * i + j, List.mem_range.mpr (by omega), by omega⟩))
theorem in_line {z : Nat → Nat} {n : Nat} (h : vL z n) (j : Nat) (hj : j < 2) : n + j ∈ wd_nm z := by
  obtain ⟨i, h1, h2, rfl⟩ := h
  refine List.mem_append_right _ (List.mem_append_right _ (List.mem_append_left _ (List.mem_map.mpr ⟨2 * i + j, List.mem_range.mpr (by omega), by omega⟩)))
theorem in_flyer {z : Nat → Nat} {n : Nat} (h : vF z n) : n ∈ wd_nm z := by
  obtain ⟨i, h1, rfl⟩ := h
  refine List.mem_append_right _ (List.mem_append_right _ (List.mem_append_right _ (List.mem_map.mpr ⟨i, List.mem_range.mpr (by omega), by omega⟩)))
theorem in_cone {z : Nat → Nat} {n : Nat} (h : vC n) : n ∈ wd_nm z := by
  rcases h with rfl | rfl
  · exact in_fix (by decide)
  · exact in_fix (by decide)
theorem ce_kite {G : GG} {z ad : Nat → Nat} {M : Mem} {n : Nat} (h : vK z n) : wd_cell G z ad M n = .inr (2, wd_kite ad n (M n)) := by
  obtain ⟨i, h1, h2, rfl⟩ := h
  unfold wd_cell
  rw [if_neg (by omega), if_pos (by omega), if_pos (by omega)]
theorem ce_kiteA {G : GG} {z ad : Nat → Nat} {M : Mem} {n : Nat} (h : vK z n) (j : Nat) (h0 : 0 < j) (hj : j < 4) : wd_cell G z ad M (n + j) = .inl (G.2.2.1, 6, .inl (M (n + j))) := by
  obtain ⟨i, h1, h2, rfl⟩ := h
  unfold wd_cell
  rw [if_neg (by omega), if_pos (by omega), if_neg (by omega)]
theorem ce_line {G : GG} {z ad : Nat → Nat} {M : Mem} {n : Nat} (h : vL z n) : wd_cell G z ad M n = .inr (3, wd_line ad n (M n)) := by
  obtain ⟨i, h1, h2, rfl⟩ := h
  unfold wd_cell
  rw [if_neg (by omega), if_neg (by omega), if_pos (by omega), if_pos (by omega)]
theorem ce_lineA {G : GG} {z ad : Nat → Nat} {M : Mem} {n : Nat} (h : vL z n) : wd_cell G z ad M (n + 1) = .inl (G.2.2.1, 10, .inl (M (n + 1))) := by
  obtain ⟨i, h1, h2, rfl⟩ := h
  unfold wd_cell
  rw [if_neg (by omega), if_neg (by omega), if_pos (by omega), if_neg (by omega)]
theorem ce_flyer {G : GG} {z ad : Nat → Nat} {M : Mem} {n : Nat} (h : vF z n) : wd_cell G z ad M n = .inr (1, wd_4 (M n)) := by
  obtain ⟨i, h1, rfl⟩ := h
  unfold wd_cell
  rw [if_neg (by omega), if_neg (by omega), if_neg (by omega)]
theorem ce_cone {G : GG} {z ad : Nat → Nat} {M : Mem} {n : Nat} (h : vC n) : wd_cell G z ad M n = .inr (0, wd_4 (M n)) := by
  rcases h with rfl | rfl <;> rfl
/-- name n is an int array of len places -/
def IA (z : Nat → Nat) (n len : Nat) : Prop := n ∈ wd_nm z ∧ ∀ (G : GG) (ad : Nat → Nat) (M : Mem), wd_cell G z ad M n = .inl (G.2.2.1, len, .inl (M n))
def ZA (z : Nat → Nat) (n len : Nat) : Prop := n ∈ wd_nm z ∧ ∀ (G : GG) (ad : Nat → Nat) (M : Mem), wd_cell G z ad M n = .inl (G.2.2.2.1, len, .inl (M n))
/-- name n is an object of class ci; its fields are fs of its own ints -/
def OB (z : Nat → Nat) (n ci : Nat) (fs : (Nat → Nat) → (Nat → Int32) → List Value) : Prop := n ∈ wd_nm z ∧ ∀ (G : GG) (ad : Nat → Nat) (M : Mem), wd_cell G z ad M n = .inr (ci, fs ad (M n))
theorem ob_0 {z : Nat → Nat} : OB z 0 8 wd_model := ⟨in_fix (by decide), fun _ _ _ => rfl⟩
theorem ob_50 {z : Nat → Nat} : OB z 50 7 wd_book := ⟨in_fix (by decide), fun _ _ _ => rfl⟩
theorem ob_51 {z : Nat → Nat} : OB z 51 4 (fun ad _ => [.ref (ad 70), .ref (ad 71)]) := ⟨in_fix (by decide), fun _ _ _ => rfl⟩
theorem ob_57 {z : Nat → Nat} : OB z 57 5 (fun ad _ => [.ref (ad 72), .ref (ad 73)]) := ⟨in_fix (by decide), fun _ _ _ => rfl⟩
theorem ob_67 {z : Nat → Nat} : OB z 67 6 (fun ad g => [.ref (ad 74), .int (g 1)]) := ⟨in_fix (by decide), fun _ _ _ => rfl⟩
theorem ob_K {z : Nat → Nat} {n : Nat} (h : vK z n) : OB z n 2 (fun ad g => wd_kite ad n g) := ⟨in_kite h 0 (by decide), fun _ _ _ => ce_kite h⟩
theorem ob_L {z : Nat → Nat} {n : Nat} (h : vL z n) : OB z n 3 (fun ad g => wd_line ad n g) := ⟨in_line h 0 (by decide), fun _ _ _ => ce_line h⟩
theorem ob_F {z : Nat → Nat} {n : Nat} (h : vF z n) : OB z n 1 (fun _ g => wd_4 g) := ⟨in_flyer h, fun _ _ _ => ce_flyer h⟩
theorem ob_C {z : Nat → Nat} {n : Nat} (h : vC n) : OB z n 0 (fun _ g => wd_4 g) := ⟨in_cone h, fun _ _ _ => ce_cone h⟩
theorem ia_K1 {z : Nat → Nat} {n : Nat} (h : vK z n) : IA z (n + 1) 6 := ⟨in_kite h 1 (by decide), fun _ _ _ => ce_kiteA h 1 (by decide) (by decide)⟩
theorem ia_K2 {z : Nat → Nat} {n : Nat} (h : vK z n) : IA z (n + 2) 6 := ⟨in_kite h 2 (by decide), fun _ _ _ => ce_kiteA h 2 (by decide) (by decide)⟩
theorem ia_K3 {z : Nat → Nat} {n : Nat} (h : vK z n) : IA z (n + 3) 6 := ⟨in_kite h 3 (by decide), fun _ _ _ => ce_kiteA h 3 (by decide) (by decide)⟩
theorem ia_L1 {z : Nat → Nat} {n : Nat} (h : vL z n) : IA z (n + 1) 10 := ⟨in_line h 1 (by decide), fun _ _ _ => ce_lineA h⟩
theorem za_27 {z : Nat → Nat} : ZA z 27 10 := ⟨in_fix (by decide), fun _ _ _ => rfl⟩
theorem za_29 {z : Nat → Nat} : ZA z 29 100 := ⟨in_fix (by decide), fun _ _ _ => rfl⟩
theorem za_60 {z : Nat → Nat} : ZA z 60 100 := ⟨in_fix (by decide), fun _ _ _ => rfl⟩
theorem ia_2 {z : Nat → Nat} : IA z 2 20 := ⟨in_fix (by decide), fun _ _ _ => rfl⟩
theorem ia_3 {z : Nat → Nat} : IA z 3 120 := ⟨in_fix (by decide), fun _ _ _ => rfl⟩
theorem ia_4 {z : Nat → Nat} : IA z 4 120 := ⟨in_fix (by decide), fun _ _ _ => rfl⟩
theorem ia_5 {z : Nat → Nat} : IA z 5 120 := ⟨in_fix (by decide), fun _ _ _ => rfl⟩
theorem ia_6 {z : Nat → Nat} : IA z 6 20 := ⟨in_fix (by decide), fun _ _ _ => rfl⟩
theorem ia_7 {z : Nat → Nat} : IA z 7 20 := ⟨in_fix (by decide), fun _ _ _ => rfl⟩
theorem ia_8 {z : Nat → Nat} : IA z 8 20 := ⟨in_fix (by decide), fun _ _ _ => rfl⟩
theorem ia_9 {z : Nat → Nat} : IA z 9 18 := ⟨in_fix (by decide), fun _ _ _ => rfl⟩
theorem ia_10 {z : Nat → Nat} : IA z 10 18 := ⟨in_fix (by decide), fun _ _ _ => rfl⟩
theorem ia_11 {z : Nat → Nat} : IA z 11 20 := ⟨in_fix (by decide), fun _ _ _ => rfl⟩
theorem ia_13 {z : Nat → Nat} : IA z 13 10 := ⟨in_fix (by decide), fun _ _ _ => rfl⟩
theorem ia_14 {z : Nat → Nat} : IA z 14 10 := ⟨in_fix (by decide), fun _ _ _ => rfl⟩
theorem ia_15 {z : Nat → Nat} : IA z 15 10 := ⟨in_fix (by decide), fun _ _ _ => rfl⟩
theorem ia_16 {z : Nat → Nat} : IA z 16 10 := ⟨in_fix (by decide), fun _ _ _ => rfl⟩
theorem ia_17 {z : Nat → Nat} : IA z 17 100 := ⟨in_fix (by decide), fun _ _ _ => rfl⟩
theorem ia_18 {z : Nat → Nat} : IA z 18 201 := ⟨in_fix (by decide), fun _ _ _ => rfl⟩
theorem ia_19 {z : Nat → Nat} : IA z 19 201 := ⟨in_fix (by decide), fun _ _ _ => rfl⟩
theorem ia_20 {z : Nat → Nat} : IA z 20 201 := ⟨in_fix (by decide), fun _ _ _ => rfl⟩
theorem ia_21 {z : Nat → Nat} : IA z 21 201 := ⟨in_fix (by decide), fun _ _ _ => rfl⟩
theorem ia_22 {z : Nat → Nat} : IA z 22 201 := ⟨in_fix (by decide), fun _ _ _ => rfl⟩
theorem ia_24 {z : Nat → Nat} : IA z 24 10 := ⟨in_fix (by decide), fun _ _ _ => rfl⟩
theorem ia_25 {z : Nat → Nat} : IA z 25 10 := ⟨in_fix (by decide), fun _ _ _ => rfl⟩
theorem ia_26 {z : Nat → Nat} : IA z 26 10 := ⟨in_fix (by decide), fun _ _ _ => rfl⟩
theorem ia_28 {z : Nat → Nat} : IA z 28 10 := ⟨in_fix (by decide), fun _ _ _ => rfl⟩
theorem ia_33 {z : Nat → Nat} : IA z 33 20 := ⟨in_fix (by decide), fun _ _ _ => rfl⟩
theorem ia_35 {z : Nat → Nat} : IA z 35 200 := ⟨in_fix (by decide), fun _ _ _ => rfl⟩
theorem ia_36 {z : Nat → Nat} : IA z 36 200 := ⟨in_fix (by decide), fun _ _ _ => rfl⟩
theorem ia_37 {z : Nat → Nat} : IA z 37 200 := ⟨in_fix (by decide), fun _ _ _ => rfl⟩
theorem ia_54 {z : Nat → Nat} : IA z 54 20 := ⟨in_fix (by decide), fun _ _ _ => rfl⟩
theorem ia_61 {z : Nat → Nat} : IA z 61 20 := ⟨in_fix (by decide), fun _ _ _ => rfl⟩
theorem ia_70 {z : Nat → Nat} : IA z 70 18 := ⟨in_fix (by decide), fun _ _ _ => rfl⟩
theorem ia_71 {z : Nat → Nat} : IA z 71 18 := ⟨in_fix (by decide), fun _ _ _ => rfl⟩
theorem ia_72 {z : Nat → Nat} : IA z 72 202 := ⟨in_fix (by decide), fun _ _ _ => rfl⟩
theorem ia_73 {z : Nat → Nat} : IA z 73 202 := ⟨in_fix (by decide), fun _ _ _ => rfl⟩
theorem ia_74 {z : Nat → Nat} : IA z 74 200 := ⟨in_fix (by decide), fun _ _ _ => rfl⟩
end
section
/-! THE WALK: Go K nL a M pc lv st: the machine at pc with locals lv, stack st, any heap that holds the world of M, comes to the method's end -/
def nn_l : List (String × Nat × MethodName × String) := [("BridleBook", 41, yX5_init, "BridleBook"), ("BridleBook", 73, yX0_init, "BridleBook"), ("BridleBook", 83, yX6_init, "BridleBook"), ("BridleBook", 94, yX2_init, "BridleBook"), ("BridleBook$Tables", 18, yX7_isAngle, "BridleBook"), ("BridleBook$Train", 24, yX7_within, "BridleBook"), ("BridleBook$Cone", 42, yX7_within, "BridleBook")]
def NN (U : State) : Prop := ∀ q ∈ nn_l, va_Nw (.methodLinkNest q.1 q.2.1 q.2.2.1 q.2.2.2) U
theorem NN.warm {s U : State} (hW : s.WarmedH U.vm) (h : NN s) : NN U := fun q hq => va_Nw.warmM hW (h q hq)
theorem NN.same {s U : State} (e : s.vm = U.vm) (h : NN s) : NN U := fun q hq => va_Nw.same rfl e (h q hq)
abbrev KK : Type := Program × Launch × Env × Room × State × MethodId × Array Value × List Frame × Method × Code × (State → Prop) × (Nat → Prop) × GG × Nat × Nat
def kP (K : KK) : Program := K.1
def kL (K : KK) : Launch := K.2.1
def kE (K : KK) : Env := K.2.2.1
def kR (K : KK) : Room := K.2.2.2.1
def kS (K : KK) : State := K.2.2.2.2.1
def kM (K : KK) : MethodId := K.2.2.2.2.2.1
def kA (K : KK) : Array Value := K.2.2.2.2.2.2.1
def kB (K : KK) : List Frame := K.2.2.2.2.2.2.2.1
def kT (K : KK) : Method := K.2.2.2.2.2.2.2.2.1
def kC (K : KK) : Code := K.2.2.2.2.2.2.2.2.2.1
def kQ (K : KK) : State → Prop := K.2.2.2.2.2.2.2.2.2.2.1
def kF (K : KK) : Nat → Prop := K.2.2.2.2.2.2.2.2.2.2.2.1
def kG (K : KK) : GG := K.2.2.2.2.2.2.2.2.2.2.2.2.1
def kc (K : KK) : Nat := K.2.2.2.2.2.2.2.2.2.2.2.2.2.1
def ks (K : KK) : Nat := K.2.2.2.2.2.2.2.2.2.2.2.2.2.2
/-- the numbers of kites, lines, flyers made, the addresses -/
abbrev AA : Type := (Nat → Nat) × (Nat → Nat)
def go_W (K : KK) (H : Heap) (locs : List Loc) (g : JFrame) : Prop := W (kP K) (kL K) (kE K) (kR K) (kS K) (kM K) (kA K) (kB K) (kT K) (kC K) H locs (kc K) (ks K) (kQ K) g
def go_H (K : KK) (a : AA) (M : Mem) (H : Heap) (locs : List Loc) : Prop := va_P (Gd (kG K)) vwCl (wd_W (kG K) a.1 a.2 M) H ∧ va_D (kF K) (wd_W (kG K) a.1 a.2 M) ∧ va_S (kF K) (kS K).heap H locs
def Go (K : KK) (nL : Nat) (a : AA) (M : Mem) (pc : Nat) (lv : List (Nat × Value)) (st : List Value) : Prop := ∀ (H : Heap) (locs : List Loc) (ls : Array Slot), go_H K a M H locs → lv_has ls nL lv → go_W K H locs (F0 (kM K) pc ls st)
def Sx (K : KK) (own : String) (cc : ByteArray) (nL : Nat) (rm : Room) : Prop := (kP K).tables.exec = Jvm.exec ∧ (kC K).code = cc ∧ (kC K).maxLocals = nL ∧ (kS K).vm.findClass own = some (kM K).cls ∧ (∀ w ∈ lw_g, w.before (kA K) (kS K) = true) ∧ va_K (Gd (kG K)) vwCl (tyG (kG K)) (kS K) ∧ NN (kS K) ∧ (∀ q, (kS K).heap.size ≤ q → kF K q) ∧ kR K = rm ∧ kc K ≤ (kR K).cells ∧ ks K ≤ (kR K).slots
section SX
variable {K : KK} {own : String} {cc : ByteArray} {nL : Nat} {rm : Room} {a : AA} {M : Mem} {pc : Nat} {lv : List (Nat × Value)} {st : List Value}
theorem Go.sub {lv' : List (Nat × Value)} (ks : List Nat) (hl : lv_pick lv ks = lv') (k : Go K nL a M pc lv' st) : Go K nL a M pc lv st := fun H locs ls h1 h2 => k H locs ls h1 (lv_sub h2 ks hl)
theorem g_iconst {n : Int} {v : Int32} (S : Sx K own cc nL rm) (d : decode cc pc = .ok (.iconst n, 1)) (hv : Int32.ofInt n = v) (k : Go K nL a M (pc + 1) lv (.int v :: st)) : Go K nL a M pc lv st := fun H locs ls h1 h2 => lv_iconst S.1 S.2.1 d hv (k H locs ls h1 h2)
theorem g_bipush {n : Int} {v : Int32} (S : Sx K own cc nL rm) (d : decode cc pc = .ok (.bipush n, 2)) (hv : (Int8.ofInt n).toInt32 = v) (k : Go K nL a M (pc + 2) lv (.int v :: st)) : Go K nL a M pc lv st := fun H locs ls h1 h2 => lv_bipush S.1 S.2.1 d hv (k H locs ls h1 h2)
theorem g_sipush {n : Int} {v : Int32} (S : Sx K own cc nL rm) (d : decode cc pc = .ok (.sipush n, 3)) (hv : (Int16.ofInt n).toInt32 = v) (k : Go K nL a M (pc + 3) lv (.int v :: st)) : Go K nL a M pc lv st := fun H locs ls h1 h2 => lv_sipush S.1 S.2.1 d hv (k H locs ls h1 h2)
theorem g_lconst {n : Fin 2} {v : Int64} (S : Sx K own cc nL rm) (d : decode cc pc = .ok (.lconst n, 1)) (hv : Int64.ofNat (n : Nat) = v) (k : Go K nL a M (pc + 1) lv (.long v :: st)) : Go K nL a M pc lv st := fun H locs ls h1 h2 => lv_lconst S.1 S.2.1 d hv (k H locs ls h1 h2)
theorem g_null (S : Sx K own cc nL rm) (d : decode cc pc = .ok (.aconst_null, 1)) (k : Go K nL a M (pc + 1) lv (.null :: st)) : Go K nL a M pc lv st := fun H locs ls h1 h2 => lv_null S.1 S.2.1 d (k H locs ls h1 h2)
theorem g_ldc {index : Nat} {v : Int32} (S : Sx K own cc nL rm) (hc : Cond.constant own index v ∈ lw_g) (d : decode cc pc = .ok (.ldc index, 2)) (k : Go K nL a M (pc + 2) lv (.int v :: st)) : Go K nL a M pc lv st := fun H locs ls h1 h2 => lv_ldc S.1 S.2.1 S.2.2.2.1 (S.2.2.2.2.1 _ hc) d (k H locs ls h1 h2)
theorem g_ldcw {index : Nat} {v : Int32} (S : Sx K own cc nL rm) (hc : Cond.constant own index v ∈ lw_g) (d : decode cc pc = .ok (.ldc_w index, 3)) (k : Go K nL a M (pc + 3) lv (.int v :: st)) : Go K nL a M pc lv st := fun H locs ls h1 h2 => lv_ldcw S.1 S.2.1 S.2.2.2.1 (S.2.2.2.2.1 _ hc) d (k H locs ls h1 h2)
theorem g_ldc2 {index : Nat} {v : Int64} (S : Sx K own cc nL rm) (hc : Cond.constantLong own index v ∈ lw_g) (d : decode cc pc = .ok (.ldc2_w index, 3)) (k : Go K nL a M (pc + 3) lv (.long v :: st)) : Go K nL a M pc lv st := fun H locs ls h1 h2 => lv_ldc2 S.1 S.2.1 S.2.2.2.1 (S.2.2.2.2.1 _ hc) d (k H locs ls h1 h2)
theorem g_iload_n {k0 : Fin 4} {x : Int32} (q : Nat) (S : Sx K own cc nL rm) (d : decode cc pc = .ok (.iload_n k0, 1)) (hq : lv[q]? = some ((k0 : Nat), .int x)) (k : Go K nL a M (pc + 1) lv (.int x :: st)) : Go K nL a M pc lv st := fun H locs ls h1 h2 => lv_iload_n S.1 S.2.1 d rfl (lv_at h2 q hq) (k H locs ls h1 h2)
theorem g_iload {i : Nat} {x : Int32} (q : Nat) (S : Sx K own cc nL rm) (d : decode cc pc = .ok (.iload i, 2)) (hq : lv[q]? = some (i, .int x)) (k : Go K nL a M (pc + 2) lv (.int x :: st)) : Go K nL a M pc lv st := fun H locs ls h1 h2 => lv_iload S.1 S.2.1 d (lv_at h2 q hq) (k H locs ls h1 h2)
theorem g_lload_n {k0 : Fin 4} {x : Int64} (q : Nat) (S : Sx K own cc nL rm) (d : decode cc pc = .ok (.lload_n k0, 1)) (hq : lv[q]? = some ((k0 : Nat), .long x)) (k : Go K nL a M (pc + 1) lv (.long x :: st)) : Go K nL a M pc lv st := fun H locs ls h1 h2 => lv_lload_n S.1 S.2.1 d rfl (lv_at h2 q hq) (k H locs ls h1 h2)
theorem g_lload {i : Nat} {x : Int64} (q : Nat) (S : Sx K own cc nL rm) (d : decode cc pc = .ok (.lload i, 2)) (hq : lv[q]? = some (i, .long x)) (k : Go K nL a M (pc + 2) lv (.long x :: st)) : Go K nL a M pc lv st := fun H locs ls h1 h2 => lv_lload S.1 S.2.1 d (lv_at h2 q hq) (k H locs ls h1 h2)
theorem g_aload_n {k0 : Fin 4} {x : Nat} (q : Nat) (S : Sx K own cc nL rm) (d : decode cc pc = .ok (.aload_n k0, 1)) (hq : lv[q]? = some ((k0 : Nat), .ref x)) (k : Go K nL a M (pc + 1) lv (.ref x :: st)) : Go K nL a M pc lv st := fun H locs ls h1 h2 => lv_aload_n S.1 S.2.1 d rfl (lv_at h2 q hq) (k H locs ls h1 h2)
theorem g_aload {i : Nat} {x : Nat} (q : Nat) (S : Sx K own cc nL rm) (d : decode cc pc = .ok (.aload i, 2)) (hq : lv[q]? = some (i, .ref x)) (k : Go K nL a M (pc + 2) lv (.ref x :: st)) : Go K nL a M pc lv st := fun H locs ls h1 h2 => lv_aload S.1 S.2.1 d (lv_at h2 q hq) (k H locs ls h1 h2)
theorem g_aload_nN {k0 : Fin 4} (q : Nat) (S : Sx K own cc nL rm) (d : decode cc pc = .ok (.aload_n k0, 1)) (hq : lv[q]? = some ((k0 : Nat), .null)) (k : Go K nL a M (pc + 1) lv (.null :: st)) : Go K nL a M pc lv st := fun H locs ls h1 h2 => lv_aload_nN S.1 S.2.1 d rfl (lv_at h2 q hq) (k H locs ls h1 h2)
theorem g_aloadN {i : Nat} (q : Nat) (S : Sx K own cc nL rm) (d : decode cc pc = .ok (.aload i, 2)) (hq : lv[q]? = some (i, .null)) (k : Go K nL a M (pc + 2) lv (.null :: st)) : Go K nL a M pc lv st := fun H locs ls h1 h2 => lv_aloadN S.1 S.2.1 d (lv_at h2 q hq) (k H locs ls h1 h2)
theorem g_istore_n {k0 : Fin 4} {x : Int32} {lv' : List (Nat × Value)} (S : Sx K own cc nL rm) (d : decode cc pc = .ok (.istore_n k0, 1)) (hn : (k0 : Nat) < nL) (hl : ((k0 : Nat), Value.int x) :: lv.filter (fun q => !(q.1 == (k0 : Nat)) && !(q.1 + 1 == (k0 : Nat) && q.2.category == 2)) = lv') (k : Go K nL a M (pc + 1) lv' st) : Go K nL a M pc lv (.int x :: st) := fun H locs ls h1 h2 => lv_istore_n S.1 S.2.1 d rfl h2 hn hl (fun ls' h => k H locs ls' h1 h)
theorem g_istore {i : Nat} {x : Int32} {lv' : List (Nat × Value)} (S : Sx K own cc nL rm) (d : decode cc pc = .ok (.istore i, 2)) (hn : i < nL) (hl : (i, Value.int x) :: lv.filter (fun q => !(q.1 == i) && !(q.1 + 1 == i && q.2.category == 2)) = lv') (k : Go K nL a M (pc + 2) lv' st) : Go K nL a M pc lv (.int x :: st) := fun H locs ls h1 h2 => lv_istore S.1 S.2.1 d h2 hn hl (fun ls' h => k H locs ls' h1 h)
theorem g_lstore_n {k0 : Fin 4} {x : Int64} {lv' : List (Nat × Value)} (S : Sx K own cc nL rm) (d : decode cc pc = .ok (.lstore_n k0, 1)) (hn : (k0 : Nat) + 1 < nL) (hl : ((k0 : Nat), Value.long x) :: lv.filter (fun q => !(q.1 == (k0 : Nat)) && (!(q.1 == (k0 : Nat) + 1) && !(q.1 + 1 == (k0 : Nat) && q.2.category == 2))) = lv') (k : Go K nL a M (pc + 1) lv' st) : Go K nL a M pc lv (.long x :: st) := fun H locs ls h1 h2 => lv_lstore_n S.1 S.2.1 d rfl h2 hn hl (fun ls' h => k H locs ls' h1 h)
theorem g_lstore {i : Nat} {x : Int64} {lv' : List (Nat × Value)} (S : Sx K own cc nL rm) (d : decode cc pc = .ok (.lstore i, 2)) (hn : i + 1 < nL) (hl : (i, Value.long x) :: lv.filter (fun q => !(q.1 == i) && (!(q.1 == i + 1) && !(q.1 + 1 == i && q.2.category == 2))) = lv') (k : Go K nL a M (pc + 2) lv' st) : Go K nL a M pc lv (.long x :: st) := fun H locs ls h1 h2 => lv_lstore S.1 S.2.1 d h2 hn hl (fun ls' h => k H locs ls' h1 h)
theorem g_astore_n {k0 : Fin 4} {x : Nat} {lv' : List (Nat × Value)} (S : Sx K own cc nL rm) (d : decode cc pc = .ok (.astore_n k0, 1)) (hn : (k0 : Nat) < nL) (hl : ((k0 : Nat), Value.ref x) :: lv.filter (fun q => !(q.1 == (k0 : Nat)) && !(q.1 + 1 == (k0 : Nat) && q.2.category == 2)) = lv') (k : Go K nL a M (pc + 1) lv' st) : Go K nL a M pc lv (.ref x :: st) := fun H locs ls h1 h2 => lv_astore_n S.1 S.2.1 d rfl h2 hn hl (fun ls' h => k H locs ls' h1 h)
theorem g_astore {i : Nat} {x : Nat} {lv' : List (Nat × Value)} (S : Sx K own cc nL rm) (d : decode cc pc = .ok (.astore i, 2)) (hn : i < nL) (hl : (i, Value.ref x) :: lv.filter (fun q => !(q.1 == i) && !(q.1 + 1 == i && q.2.category == 2)) = lv') (k : Go K nL a M (pc + 2) lv' st) : Go K nL a M pc lv (.ref x :: st) := fun H locs ls h1 h2 => lv_astore S.1 S.2.1 d h2 hn hl (fun ls' h => k H locs ls' h1 h)
theorem g_astore_nN {k0 : Fin 4} {lv' : List (Nat × Value)} (S : Sx K own cc nL rm) (d : decode cc pc = .ok (.astore_n k0, 1)) (hn : (k0 : Nat) < nL) (hl : ((k0 : Nat), Value.null) :: lv.filter (fun q => !(q.1 == (k0 : Nat)) && !(q.1 + 1 == (k0 : Nat) && q.2.category == 2)) = lv') (k : Go K nL a M (pc + 1) lv' st) : Go K nL a M pc lv (.null :: st) := fun H locs ls h1 h2 => lv_astore_nN S.1 S.2.1 d rfl h2 hn hl (fun ls' h => k H locs ls' h1 h)
theorem g_astoreN {i : Nat} {lv' : List (Nat × Value)} (S : Sx K own cc nL rm) (d : decode cc pc = .ok (.astore i, 2)) (hn : i < nL) (hl : (i, Value.null) :: lv.filter (fun q => !(q.1 == i) && !(q.1 + 1 == i && q.2.category == 2)) = lv') (k : Go K nL a M (pc + 2) lv' st) : Go K nL a M pc lv (.null :: st) := fun H locs ls h1 h2 => lv_astoreN S.1 S.2.1 d h2 hn hl (fun ls' h => k H locs ls' h1 h)
theorem g_iinc {i : Nat} {n : Int} {x v : Int32} {lv' : List (Nat × Value)} (q : Nat) (S : Sx K own cc nL rm) (d : decode cc pc = .ok (.iinc i n, 3)) (hq : lv[q]? = some (i, .int x)) (hv : x + Int32.ofInt n = v) (hn : i < nL) (hl : (i, Value.int v) :: lv.filter (fun q => !(q.1 == i) && !(q.1 + 1 == i && q.2.category == 2)) = lv') (k : Go K nL a M (pc + 3) lv' st) : Go K nL a M pc lv st := fun H locs ls h1 h2 => lv_iinc S.1 S.2.1 d h2 hq hv hn hl (fun ls' h => k H locs ls' h1 h)
theorem g_iadd {x y : Int32} (S : Sx K own cc nL rm) (d : decode cc pc = .ok (.iadd, 1)) (k : Go K nL a M (pc + 1) lv (.int (x + y) :: st)) : Go K nL a M pc lv (.int y :: .int x :: st) := fun H locs ls h1 h2 => lv_iadd S.1 S.2.1 d (k H locs ls h1 h2)
theorem g_isub {x y : Int32} (S : Sx K own cc nL rm) (d : decode cc pc = .ok (.isub, 1)) (k : Go K nL a M (pc + 1) lv (.int (x - y) :: st)) : Go K nL a M pc lv (.int y :: .int x :: st) := fun H locs ls h1 h2 => lv_isub S.1 S.2.1 d (k H locs ls h1 h2)
theorem g_imul {x y : Int32} (S : Sx K own cc nL rm) (d : decode cc pc = .ok (.imul, 1)) (k : Go K nL a M (pc + 1) lv (.int (x * y) :: st)) : Go K nL a M pc lv (.int y :: .int x :: st) := fun H locs ls h1 h2 => lv_imul S.1 S.2.1 d (k H locs ls h1 h2)
theorem g_iand {x y : Int32} (S : Sx K own cc nL rm) (d : decode cc pc = .ok (.iand, 1)) (k : Go K nL a M (pc + 1) lv (.int (x &&& y) :: st)) : Go K nL a M pc lv (.int y :: .int x :: st) := fun H locs ls h1 h2 => lv_iand S.1 S.2.1 d (k H locs ls h1 h2)
theorem g_ineg {x : Int32} (S : Sx K own cc nL rm) (d : decode cc pc = .ok (.ineg, 1)) (k : Go K nL a M (pc + 1) lv (.int (-x) :: st)) : Go K nL a M pc lv (.int x :: st) := fun H locs ls h1 h2 => lv_ineg S.1 S.2.1 d (k H locs ls h1 h2)
theorem g_ladd {x y : Int64} (S : Sx K own cc nL rm) (d : decode cc pc = .ok (.ladd, 1)) (k : Go K nL a M (pc + 1) lv (.long (x + y) :: st)) : Go K nL a M pc lv (.long y :: .long x :: st) := fun H locs ls h1 h2 => lv_ladd S.1 S.2.1 d (k H locs ls h1 h2)
theorem g_lsub {x y : Int64} (S : Sx K own cc nL rm) (d : decode cc pc = .ok (.lsub, 1)) (k : Go K nL a M (pc + 1) lv (.long (x - y) :: st)) : Go K nL a M pc lv (.long y :: .long x :: st) := fun H locs ls h1 h2 => lv_lsub S.1 S.2.1 d (k H locs ls h1 h2)
theorem g_lmul {x y : Int64} (S : Sx K own cc nL rm) (d : decode cc pc = .ok (.lmul, 1)) (k : Go K nL a M (pc + 1) lv (.long (x * y) :: st)) : Go K nL a M pc lv (.long y :: .long x :: st) := fun H locs ls h1 h2 => lv_lmul S.1 S.2.1 d (k H locs ls h1 h2)
theorem g_lneg {x : Int64} (S : Sx K own cc nL rm) (d : decode cc pc = .ok (.lneg, 1)) (k : Go K nL a M (pc + 1) lv (.long (-x) :: st)) : Go K nL a M pc lv (.long x :: st) := fun H locs ls h1 h2 => lv_lneg S.1 S.2.1 d (k H locs ls h1 h2)
theorem g_i2l {x : Int32} (S : Sx K own cc nL rm) (d : decode cc pc = .ok (.i2l, 1)) (k : Go K nL a M (pc + 1) lv (.long x.toInt64 :: st)) : Go K nL a M pc lv (.int x :: st) := fun H locs ls h1 h2 => lv_i2l S.1 S.2.1 d rfl (k H locs ls h1 h2)
theorem g_l2i {x : Int64} (S : Sx K own cc nL rm) (d : decode cc pc = .ok (.l2i, 1)) (k : Go K nL a M (pc + 1) lv (.int x.toInt32 :: st)) : Go K nL a M pc lv (.long x :: st) := fun H locs ls h1 h2 => lv_l2i S.1 S.2.1 d rfl (k H locs ls h1 h2)
theorem g_lcmp {x y : Int64} (S : Sx K own cc nL rm) (d : decode cc pc = .ok (.lcmp, 1)) (k : Go K nL a M (pc + 1) lv (.int (lg_cmp x y) :: st)) : Go K nL a M pc lv (.long y :: .long x :: st) := fun H locs ls h1 h2 => W.lcmp S.1 S.2.1 d (k H locs ls h1 h2)
theorem g_dup {v : Value} (S : Sx K own cc nL rm) (d : decode cc pc = .ok (.dup, 1)) (hv : v.category = 1) (k : Go K nL a M (pc + 1) lv (v :: v :: st)) : Go K nL a M pc lv (v :: st) := fun H locs ls h1 h2 => lv_dup S.1 S.2.1 d hv (k H locs ls h1 h2)
theorem g_dup2 {v w : Value} (S : Sx K own cc nL rm) (d : decode cc pc = .ok (.dup2, 1)) (hv : v.category = 1) (hw : w.category = 1) (k : Go K nL a M (pc + 1) lv (v :: w :: v :: w :: st)) : Go K nL a M pc lv (v :: w :: st) := fun H locs ls h1 h2 => lv_dup2_11 S.1 S.2.1 d hv hw (k H locs ls h1 h2)
theorem g_pop {v : Value} (S : Sx K own cc nL rm) (d : decode cc pc = .ok (.pop, 1)) (hv : v.category = 1) (k : Go K nL a M (pc + 1) lv st) : Go K nL a M pc lv (v :: st) := fun H locs ls h1 h2 => lv_pop S.1 S.2.1 d hv (k H locs ls h1 h2)
theorem g_goto {off : Int} {tgt : Nat} (S : Sx K own cc nL rm) (d : decode cc pc = .ok (.goto off, 3)) (ht : (pc : Int) + off = (tgt : Int)) (k : Go K nL a M tgt lv st) : Go K nL a M pc lv st := fun H locs ls h1 h2 => lv_goto S.1 S.2.1 d ht (k H locs ls h1 h2)
theorem g_ifnull {x : Nat} {off : Int} (S : Sx K own cc nL rm) (d : decode cc pc = .ok (.ifnull off, 3)) (k : Go K nL a M (pc + 3) lv st) : Go K nL a M pc lv (.ref x :: st) := fun H locs ls h1 h2 => lv_ifnull S.1 S.2.1 d (k H locs ls h1 h2)
theorem g_ifnonnull {x : Nat} {off : Int} {tgt : Nat} (S : Sx K own cc nL rm) (d : decode cc pc = .ok (.ifnonnull off, 3)) (ht : (pc : Int) + off = (tgt : Int)) (k : Go K nL a M tgt lv st) : Go K nL a M pc lv (.ref x :: st) := fun H locs ls h1 h2 => lv_ifnonnull S.1 S.2.1 d ht (k H locs ls h1 h2)
theorem g_ifnullN {off : Int} {tgt : Nat} (S : Sx K own cc nL rm) (d : decode cc pc = .ok (.ifnull off, 3)) (ht : (pc : Int) + off = (tgt : Int)) (k : Go K nL a M tgt lv st) : Go K nL a M pc lv (.null :: st) := fun H locs ls h1 h2 => lv_ifnullN S.1 S.2.1 d ht (k H locs ls h1 h2)
theorem g_ifnonnullN {off : Int} (S : Sx K own cc nL rm) (d : decode cc pc = .ok (.ifnonnull off, 3)) (k : Go K nL a M (pc + 3) lv st) : Go K nL a M pc lv (.null :: st) := fun H locs ls h1 h2 => lv_ifnonnullN S.1 S.2.1 d (k H locs ls h1 h2)
end SX
end
section
/-! branches, checks, arrays, fields, calls, returns: each with the mirror's equation hf -/
def ck {α : Type} (b : Bool) (e : Option α) : Option α := if b = true then e else none
theorem ck_some {α : Type} {b : Bool} {e : Option α} {r : α} (h : ck b e = some r) : b = true ∧ e = some r := by
  cases b
  · simp [ck] at h
  · exact ⟨rfl, by simpa [ck] using h⟩
theorem ck_t {α : Type} {b : Bool} {e : Option α} (h : b = true) : ck b e = e := by simp [ck, h]
def bd1 {α β : Type} (f : Option α) (g : α → Option β) : Option β := match f with
  | some r => g r
  | none => none
def bd2 {α γ β : Type} (f : Option (α × γ)) (g : α → γ → Option β) : Option β := match f with
  | some r => g r.1 r.2
  | none => none
theorem bd1_some {α β : Type} {f : Option α} {g : α → Option β} {b : β} (h : bd1 f g = some b) : ∃ r, f = some r ∧ g r = some b := by
  cases f with
  | none => simp [bd1] at h
  | some r => exact ⟨r, rfl, h⟩
theorem bd2_some {α γ β : Type} {f : Option (α × γ)} {g : α → γ → Option β} {b : β} (h : bd2 f g = some b) : ∃ r t, f = some (r, t) ∧ g r t = some b := by
  cases f with
  | none => simp [bd2] at h
  | some r => exact ⟨r.1, r.2, rfl, h⟩
theorem bd1_t {α β : Type} {f : Option α} {g : α → Option β} {r : α} (h : f = some r) : bd1 f g = g r := by rw [h]; rfl
theorem bd2_t {α γ β : Type} {f : Option (α × γ)} {g : α → γ → Option β} {r : α} {t : γ} (h : f = some (r, t)) : bd2 f g = g r t := by rw [h]; rfl
theorem sp_if {α : Type} {c P : Prop} [Decidable c] {e1 e2 : Option α} {r : α} (h : (if c then e1 else e2) = some r) (k1 : c → e1 = some r → P) (k2 : ¬ c → e2 = some r → P) : P := by
  by_cases hc : c
  · rw [if_pos hc] at h
    exact k1 hc h
  · rw [if_neg hc] at h
    exact k2 hc h
def b2i (b : Bool) : Int32 := if b = true then 1 else 0
def inb (i : Int32) (n : Nat) : Bool := decide (0 ≤ i.toInt) && decide (i.toInt < (n : Int))
theorem inb_vp {i : Int32} {n : Nat} (h : inb i n = true) : vp_in i n := vp_in_iff.mpr (by simpa [inb] using h)
def irem (x y : Int32) : Int32 := x - x / y * y
theorem b2i_n (b : Bool) : narrow .boolean (.int (b2i b)) = .int (b2i b) := by cases b <;> rfl
def RtI (K : KK) (a : AA) (cc : ByteArray) (r : Int32) (M : Mem) : Prop := ∀ (pc : Nat) (H : Heap) (locs : List Loc) (ls : Array Slot), decode cc pc = .ok (.ireturn, 1) → go_H K a M H locs → go_W K H locs (F0 (kM K) pc ls [.int r])
def RtL (K : KK) (a : AA) (cc : ByteArray) (r : Int64) (M : Mem) : Prop := ∀ (pc : Nat) (H : Heap) (locs : List Loc) (ls : Array Slot), decode cc pc = .ok (.lreturn, 1) → go_H K a M H locs → go_W K H locs (F0 (kM K) pc ls [.long r])
def RtV (K : KK) (a : AA) (cc : ByteArray) (M : Mem) : Prop := ∀ (pc : Nat) (H : Heap) (locs : List Loc) (ls : Array Slot), decode cc pc = .ok (.return_, 1) → go_H K a M H locs → go_W K H locs (F0 (kM K) pc ls [])
def RtQ (K : KK) (a : AA) (cc : ByteArray) (r : Option Nat) (M : Mem) : Prop := ∀ (pc : Nat) (H : Heap) (locs : List Loc) (ls : Array Slot), decode cc pc = .ok (.areturn, 1) → go_H K a M H locs → go_W K H locs (F0 (kM K) pc ls [va_rf (r.map a.2)])
section SX
variable {K : KK} {own : String} {cc : ByteArray} {nL : Nat} {rm : Room} {a : AA} {M : Mem} {pc : Nat} {lv : List (Nat × Value)} {st : List Value} {α : Type} {res : α}
theorem g_iretP {r0 r : Int32} (rt : RtI K a cc r M) (hf : some r0 = some r) (d : decode cc pc = .ok (.ireturn, 1)) : Go K nL a M pc lv [.int r0] := fun H locs ls h1 _ => by cases hf; exact rt pc H locs ls d h1
theorem g_zretP {b0 b : Bool} (rt : RtI K a cc (b2i b) M) (hf : some b0 = some b) (d : decode cc pc = .ok (.ireturn, 1)) {v : Int32} (hv : v = b2i b0) : Go K nL a M pc lv [.int v] := fun H locs ls h1 _ => by cases hf; subst hv; exact rt pc H locs ls d h1
theorem g_lretP {r0 r : Int64} (rt : RtL K a cc r M) (hf : some r0 = some r) (d : decode cc pc = .ok (.lreturn, 1)) : Go K nL a M pc lv [.long r0] := fun H locs ls h1 _ => by cases hf; exact rt pc H locs ls d h1
theorem g_iretM {r0 r : Int32} {M' : Mem} (rt : RtI K a cc r M') (hf : some (r0, M) = some (r, M')) (d : decode cc pc = .ok (.ireturn, 1)) : Go K nL a M pc lv [.int r0] := fun H locs ls h1 _ => by cases hf; exact rt pc H locs ls d h1
theorem g_zretM {b0 b : Bool} {M' : Mem} (rt : RtI K a cc (b2i b) M') (hf : some (b0, M) = some (b, M')) (d : decode cc pc = .ok (.ireturn, 1)) {v : Int32} (hv : v = b2i b0) : Go K nL a M pc lv [.int v] := fun H locs ls h1 _ => by cases hf; subst hv; exact rt pc H locs ls d h1
theorem g_vretM {M' : Mem} (rt : RtV K a cc M') (hf : some M = some M') (d : decode cc pc = .ok (.return_, 1)) : Go K nL a M pc lv [] := fun H locs ls h1 _ => by cases hf; exact rt pc H locs ls d h1
theorem g_aretS {n : Nat} {r : Option Nat} (rt : RtQ K a cc r M) (hf : some (some n) = some r) (d : decode cc pc = .ok (.areturn, 1)) : Go K nL a M pc lv [.ref (a.2 n)] := fun H locs ls h1 _ => by cases hf; exact rt pc H locs ls d h1
theorem g_aretN {r : Option Nat} (rt : RtQ K a cc r M) (hf : some none = some r) (d : decode cc pc = .ok (.areturn, 1)) : Go K nL a M pc lv [.null] := fun H locs ls h1 _ => by cases hf; exact rt pc H locs ls d h1
theorem g_if_eq {x : Int32} {off : Int} {tgt : Nat} {et ef : Option α} (S : Sx K own cc nL rm) (d : decode cc pc = .ok (.ifCond .eq off, 3)) (ht : (pc : Int) + off = (tgt : Int)) (hf : (if x = 0 then et else ef) = some res) (k1 : x = 0 → et = some res → Go K nL a M tgt lv st) (k2 : ¬ x = 0 → ef = some res → Go K nL a M (pc + 3) lv st) : Go K nL a M pc lv (.int x :: st) := sp_if hf (fun c e H locs ls h1 h2 => lv_if_eq S.1 S.2.1 d ht (fun _ => k1 c e H locs ls h1 h2) (fun z => absurd c z)) (fun c e H locs ls h1 h2 => lv_if_eq S.1 S.2.1 d ht (fun z => absurd z c) (fun _ => k2 c e H locs ls h1 h2))
theorem g_if_ne {x : Int32} {off : Int} {tgt : Nat} {et ef : Option α} (S : Sx K own cc nL rm) (d : decode cc pc = .ok (.ifCond .ne off, 3)) (ht : (pc : Int) + off = (tgt : Int)) (hf : (if x = 0 then ef else et) = some res) (k1 : x = 0 → ef = some res → Go K nL a M (pc + 3) lv st) (k2 : ¬ x = 0 → et = some res → Go K nL a M tgt lv st) : Go K nL a M pc lv (.int x :: st) := sp_if hf (fun c e H locs ls h1 h2 => lv_if_ne S.1 S.2.1 d ht (fun z => absurd c z) (fun _ => k1 c e H locs ls h1 h2)) (fun c e H locs ls h1 h2 => lv_if_ne S.1 S.2.1 d ht (fun _ => k2 c e H locs ls h1 h2) (fun z => absurd z c))
theorem g_if_lt {x : Int32} {off : Int} {tgt : Nat} {et ef : Option α} (S : Sx K own cc nL rm) (d : decode cc pc = .ok (.ifCond .lt off, 3)) (ht : (pc : Int) + off = (tgt : Int)) (hf : (if x < 0 then et else ef) = some res) (k1 : x < 0 → et = some res → Go K nL a M tgt lv st) (k2 : ¬ x < 0 → ef = some res → Go K nL a M (pc + 3) lv st) : Go K nL a M pc lv (.int x :: st) := sp_if hf (fun c e H locs ls h1 h2 => lv_if_lt S.1 S.2.1 d ht (fun _ => k1 c e H locs ls h1 h2) (fun z => absurd c z)) (fun c e H locs ls h1 h2 => lv_if_lt S.1 S.2.1 d ht (fun z => absurd z c) (fun _ => k2 c e H locs ls h1 h2))
theorem g_if_ge {x : Int32} {off : Int} {tgt : Nat} {et ef : Option α} (S : Sx K own cc nL rm) (d : decode cc pc = .ok (.ifCond .ge off, 3)) (ht : (pc : Int) + off = (tgt : Int)) (hf : (if 0 ≤ x then et else ef) = some res) (k1 : 0 ≤ x → et = some res → Go K nL a M tgt lv st) (k2 : ¬ 0 ≤ x → ef = some res → Go K nL a M (pc + 3) lv st) : Go K nL a M pc lv (.int x :: st) := sp_if hf (fun c e H locs ls h1 h2 => lv_if_ge S.1 S.2.1 d ht (fun _ => k1 c e H locs ls h1 h2) (fun z => absurd c z)) (fun c e H locs ls h1 h2 => lv_if_ge S.1 S.2.1 d ht (fun z => absurd z c) (fun _ => k2 c e H locs ls h1 h2))
theorem g_if_gt {x : Int32} {off : Int} {tgt : Nat} {et ef : Option α} (S : Sx K own cc nL rm) (d : decode cc pc = .ok (.ifCond .gt off, 3)) (ht : (pc : Int) + off = (tgt : Int)) (hf : (if 0 < x then et else ef) = some res) (k1 : 0 < x → et = some res → Go K nL a M tgt lv st) (k2 : ¬ 0 < x → ef = some res → Go K nL a M (pc + 3) lv st) : Go K nL a M pc lv (.int x :: st) := sp_if hf (fun c e H locs ls h1 h2 => lv_if_gt S.1 S.2.1 d ht (fun _ => k1 c e H locs ls h1 h2) (fun z => absurd c z)) (fun c e H locs ls h1 h2 => lv_if_gt S.1 S.2.1 d ht (fun z => absurd z c) (fun _ => k2 c e H locs ls h1 h2))
theorem g_if_le {x : Int32} {off : Int} {tgt : Nat} {et ef : Option α} (S : Sx K own cc nL rm) (d : decode cc pc = .ok (.ifCond .le off, 3)) (ht : (pc : Int) + off = (tgt : Int)) (hf : (if x ≤ 0 then et else ef) = some res) (k1 : x ≤ 0 → et = some res → Go K nL a M tgt lv st) (k2 : ¬ x ≤ 0 → ef = some res → Go K nL a M (pc + 3) lv st) : Go K nL a M pc lv (.int x :: st) := sp_if hf (fun c e H locs ls h1 h2 => lv_if_le S.1 S.2.1 d ht (fun _ => k1 c e H locs ls h1 h2) (fun z => absurd c z)) (fun c e H locs ls h1 h2 => lv_if_le S.1 S.2.1 d ht (fun z => absurd z c) (fun _ => k2 c e H locs ls h1 h2))
theorem g_icmp_eq {x y : Int32} {off : Int} {tgt : Nat} {et ef : Option α} (S : Sx K own cc nL rm) (d : decode cc pc = .ok (.if_icmp .eq off, 3)) (ht : (pc : Int) + off = (tgt : Int)) (hf : (if x = y then et else ef) = some res) (k1 : x = y → et = some res → Go K nL a M tgt lv st) (k2 : ¬ x = y → ef = some res → Go K nL a M (pc + 3) lv st) : Go K nL a M pc lv (.int y :: .int x :: st) := sp_if hf (fun c e H locs ls h1 h2 => lv_icmp_eq S.1 S.2.1 d ht (fun _ => k1 c e H locs ls h1 h2) (fun z => absurd c z)) (fun c e H locs ls h1 h2 => lv_icmp_eq S.1 S.2.1 d ht (fun z => absurd z c) (fun _ => k2 c e H locs ls h1 h2))
theorem g_icmp_ne {x y : Int32} {off : Int} {tgt : Nat} {et ef : Option α} (S : Sx K own cc nL rm) (d : decode cc pc = .ok (.if_icmp .ne off, 3)) (ht : (pc : Int) + off = (tgt : Int)) (hf : (if x = y then ef else et) = some res) (k1 : x = y → ef = some res → Go K nL a M (pc + 3) lv st) (k2 : ¬ x = y → et = some res → Go K nL a M tgt lv st) : Go K nL a M pc lv (.int y :: .int x :: st) := sp_if hf (fun c e H locs ls h1 h2 => lv_icmp_ne S.1 S.2.1 d ht (fun z => absurd c z) (fun _ => k1 c e H locs ls h1 h2)) (fun c e H locs ls h1 h2 => lv_icmp_ne S.1 S.2.1 d ht (fun _ => k2 c e H locs ls h1 h2) (fun z => absurd z c))
theorem g_icmp_lt {x y : Int32} {off : Int} {tgt : Nat} {et ef : Option α} (S : Sx K own cc nL rm) (d : decode cc pc = .ok (.if_icmp .lt off, 3)) (ht : (pc : Int) + off = (tgt : Int)) (hf : (if x < y then et else ef) = some res) (k1 : x < y → et = some res → Go K nL a M tgt lv st) (k2 : ¬ x < y → ef = some res → Go K nL a M (pc + 3) lv st) : Go K nL a M pc lv (.int y :: .int x :: st) := sp_if hf (fun c e H locs ls h1 h2 => lv_icmp_lt S.1 S.2.1 d ht (fun _ => k1 c e H locs ls h1 h2) (fun z => absurd c z)) (fun c e H locs ls h1 h2 => lv_icmp_lt S.1 S.2.1 d ht (fun z => absurd z c) (fun _ => k2 c e H locs ls h1 h2))
theorem g_icmp_ge {x y : Int32} {off : Int} {tgt : Nat} {et ef : Option α} (S : Sx K own cc nL rm) (d : decode cc pc = .ok (.if_icmp .ge off, 3)) (ht : (pc : Int) + off = (tgt : Int)) (hf : (if y ≤ x then et else ef) = some res) (k1 : y ≤ x → et = some res → Go K nL a M tgt lv st) (k2 : ¬ y ≤ x → ef = some res → Go K nL a M (pc + 3) lv st) : Go K nL a M pc lv (.int y :: .int x :: st) := sp_if hf (fun c e H locs ls h1 h2 => lv_icmp_ge S.1 S.2.1 d ht (fun _ => k1 c e H locs ls h1 h2) (fun z => absurd c z)) (fun c e H locs ls h1 h2 => lv_icmp_ge S.1 S.2.1 d ht (fun z => absurd z c) (fun _ => k2 c e H locs ls h1 h2))
theorem g_icmp_gt {x y : Int32} {off : Int} {tgt : Nat} {et ef : Option α} (S : Sx K own cc nL rm) (d : decode cc pc = .ok (.if_icmp .gt off, 3)) (ht : (pc : Int) + off = (tgt : Int)) (hf : (if y < x then et else ef) = some res) (k1 : y < x → et = some res → Go K nL a M tgt lv st) (k2 : ¬ y < x → ef = some res → Go K nL a M (pc + 3) lv st) : Go K nL a M pc lv (.int y :: .int x :: st) := sp_if hf (fun c e H locs ls h1 h2 => lv_icmp_gt S.1 S.2.1 d ht (fun _ => k1 c e H locs ls h1 h2) (fun z => absurd c z)) (fun c e H locs ls h1 h2 => lv_icmp_gt S.1 S.2.1 d ht (fun z => absurd z c) (fun _ => k2 c e H locs ls h1 h2))
theorem g_icmp_le {x y : Int32} {off : Int} {tgt : Nat} {et ef : Option α} (S : Sx K own cc nL rm) (d : decode cc pc = .ok (.if_icmp .le off, 3)) (ht : (pc : Int) + off = (tgt : Int)) (hf : (if x ≤ y then et else ef) = some res) (k1 : x ≤ y → et = some res → Go K nL a M tgt lv st) (k2 : ¬ x ≤ y → ef = some res → Go K nL a M (pc + 3) lv st) : Go K nL a M pc lv (.int y :: .int x :: st) := sp_if hf (fun c e H locs ls h1 h2 => lv_icmp_le S.1 S.2.1 d ht (fun _ => k1 c e H locs ls h1 h2) (fun z => absurd c z)) (fun c e H locs ls h1 h2 => lv_icmp_le S.1 S.2.1 d ht (fun z => absurd z c) (fun _ => k2 c e H locs ls h1 h2))
/-- on a known number -/
theorem g_if_eqT {x : Int32} {off : Int} {tgt : Nat} (S : Sx K own cc nL rm) (d : decode cc pc = .ok (.ifCond .eq off, 3)) (ht : (pc : Int) + off = (tgt : Int)) (c : x = 0) (k : Go K nL a M tgt lv st) : Go K nL a M pc lv (.int x :: st) := fun H locs ls h1 h2 => lv_if_eq S.1 S.2.1 d ht (fun _ => k H locs ls h1 h2) (fun z => absurd c z)
theorem g_if_eqF {x : Int32} {off : Int} {tgt : Nat} (S : Sx K own cc nL rm) (d : decode cc pc = .ok (.ifCond .eq off, 3)) (ht : (pc : Int) + off = (tgt : Int)) (c : ¬ x = 0) (k : Go K nL a M (pc + 3) lv st) : Go K nL a M pc lv (.int x :: st) := fun H locs ls h1 h2 => lv_if_eq S.1 S.2.1 d ht (fun z => absurd z c) (fun _ => k H locs ls h1 h2)
theorem g_if_neF {x : Int32} {off : Int} {tgt : Nat} (S : Sx K own cc nL rm) (d : decode cc pc = .ok (.ifCond .ne off, 3)) (ht : (pc : Int) + off = (tgt : Int)) (c : x = 0) (k : Go K nL a M (pc + 3) lv st) : Go K nL a M pc lv (.int x :: st) := fun H locs ls h1 h2 => lv_if_ne S.1 S.2.1 d ht (fun z => absurd c z) (fun _ => k H locs ls h1 h2)
theorem g_if_neT {x : Int32} {off : Int} {tgt : Nat} (S : Sx K own cc nL rm) (d : decode cc pc = .ok (.ifCond .ne off, 3)) (ht : (pc : Int) + off = (tgt : Int)) (c : ¬ x = 0) (k : Go K nL a M tgt lv st) : Go K nL a M pc lv (.int x :: st) := fun H locs ls h1 h2 => lv_if_ne S.1 S.2.1 d ht (fun _ => k H locs ls h1 h2) (fun z => absurd z c)
theorem g_if_eqB {b : Bool} {off : Int} {tgt : Nat} {et ef : Option α} (S : Sx K own cc nL rm) (d : decode cc pc = .ok (.ifCond .eq off, 3)) (ht : (pc : Int) + off = (tgt : Int)) (hf : (if b = true then ef else et) = some res) (k1 : b = true → ef = some res → Go K nL a M (pc + 3) lv st) (k2 : ¬ b = true → et = some res → Go K nL a M tgt lv st) : Go K nL a M pc lv (.int (b2i b) :: st) := sp_if hf (fun c e => g_if_eqF S d ht (by rw [c]; decide) (k1 c e)) (fun c e => g_if_eqT S d ht (by rw [Bool.not_eq_true] at c; rw [c]; decide) (k2 c e))
theorem g_if_neB {b : Bool} {off : Int} {tgt : Nat} {et ef : Option α} (S : Sx K own cc nL rm) (d : decode cc pc = .ok (.ifCond .ne off, 3)) (ht : (pc : Int) + off = (tgt : Int)) (hf : (if b = true then et else ef) = some res) (k1 : b = true → et = some res → Go K nL a M tgt lv st) (k2 : ¬ b = true → ef = some res → Go K nL a M (pc + 3) lv st) : Go K nL a M pc lv (.int (b2i b) :: st) := sp_if hf (fun c e => g_if_neT S d ht (by rw [c]; decide) (k1 c e)) (fun c e => g_if_neF S d ht (by rw [Bool.not_eq_true] at c; rw [c]; decide) (k2 c e))
theorem lc_lt {x y : Int64} (h : x < y) : lg_cmp x y = -1 := by
  have h1 : ¬ y < x := by rw [Int64.lt_iff_toInt_lt] at h ⊢; omega
  have h2 : ¬ x = y := by intro e; subst e; rw [Int64.lt_iff_toInt_lt] at h; omega
  simp [lg_cmp, h1, h2]
theorem lc_gt {x y : Int64} (h : y < x) : lg_cmp x y = 1 := by
  have h1 : ¬ x < y := by rw [Int64.lt_iff_toInt_lt] at h ⊢; omega
  have h2 : ¬ x = y := by intro e; subst e; rw [Int64.lt_iff_toInt_lt] at h; omega
  simp [lg_cmp, h]
theorem lc_eq {x y : Int64} (h1 : ¬ x < y) (h2 : ¬ y < x) : lg_cmp x y = 0 := by
  have h3 : x = y := Int64.toInt_inj.mp (by rw [Int64.lt_iff_toInt_lt] at h1 h2; omega)
  subst h3
  simp [lg_cmp]
theorem lc_ge {x y : Int64} (h : ¬ x < y) : 0 ≤ lg_cmp x y := by
  by_cases h2 : y < x
  · rw [lc_gt h2]; decide
  · rw [lc_eq h h2]; decide
theorem lc_le {x y : Int64} (h : ¬ y < x) : lg_cmp x y ≤ 0 := by
  by_cases h2 : x < y
  · rw [lc_lt h2]; decide
  · rw [lc_eq h2 h]; decide
theorem g_ifl_ge {x y : Int64} {off : Int} {tgt : Nat} {et ef : Option α} (S : Sx K own cc nL rm) (d : decode cc pc = .ok (.ifCond .ge off, 3)) (ht : (pc : Int) + off = (tgt : Int)) (hf : (if x < y then ef else et) = some res) (k1 : x < y → ef = some res → Go K nL a M (pc + 3) lv st) (k2 : ¬ x < y → et = some res → Go K nL a M tgt lv st) : Go K nL a M pc lv (.int (lg_cmp x y) :: st) := sp_if hf (fun c e H locs ls h1 h2 => lv_if_ge S.1 S.2.1 d ht (fun z => absurd z (by rw [lc_lt c]; decide)) (fun _ => k1 c e H locs ls h1 h2)) (fun c e H locs ls h1 h2 => lv_if_ge S.1 S.2.1 d ht (fun _ => k2 c e H locs ls h1 h2) (fun z => absurd (lc_ge c) z))
theorem g_ifl_lt {x y : Int64} {off : Int} {tgt : Nat} {et ef : Option α} (S : Sx K own cc nL rm) (d : decode cc pc = .ok (.ifCond .lt off, 3)) (ht : (pc : Int) + off = (tgt : Int)) (hf : (if x < y then et else ef) = some res) (k1 : x < y → et = some res → Go K nL a M tgt lv st) (k2 : ¬ x < y → ef = some res → Go K nL a M (pc + 3) lv st) : Go K nL a M pc lv (.int (lg_cmp x y) :: st) := sp_if hf (fun c e H locs ls h1 h2 => lv_if_lt S.1 S.2.1 d ht (fun _ => k1 c e H locs ls h1 h2) (fun z => absurd (by rw [lc_lt c]; decide) z)) (fun c e H locs ls h1 h2 => lv_if_lt S.1 S.2.1 d ht (fun z => absurd (lc_ge c) (by rw [Int32.le_iff_toInt_le]; rw [Int32.lt_iff_toInt_lt] at z; omega)) (fun _ => k2 c e H locs ls h1 h2))
theorem g_ifl_le {x y : Int64} {off : Int} {tgt : Nat} {et ef : Option α} (S : Sx K own cc nL rm) (d : decode cc pc = .ok (.ifCond .le off, 3)) (ht : (pc : Int) + off = (tgt : Int)) (hf : (if y < x then ef else et) = some res) (k1 : y < x → ef = some res → Go K nL a M (pc + 3) lv st) (k2 : ¬ y < x → et = some res → Go K nL a M tgt lv st) : Go K nL a M pc lv (.int (lg_cmp x y) :: st) := sp_if hf (fun c e H locs ls h1 h2 => lv_if_le S.1 S.2.1 d ht (fun z => absurd z (by rw [lc_gt c]; decide)) (fun _ => k1 c e H locs ls h1 h2)) (fun c e H locs ls h1 h2 => lv_if_le S.1 S.2.1 d ht (fun _ => k2 c e H locs ls h1 h2) (fun z => absurd (lc_le c) z))
theorem g_ifl_gt {x y : Int64} {off : Int} {tgt : Nat} {et ef : Option α} (S : Sx K own cc nL rm) (d : decode cc pc = .ok (.ifCond .gt off, 3)) (ht : (pc : Int) + off = (tgt : Int)) (hf : (if y < x then et else ef) = some res) (k1 : y < x → et = some res → Go K nL a M tgt lv st) (k2 : ¬ y < x → ef = some res → Go K nL a M (pc + 3) lv st) : Go K nL a M pc lv (.int (lg_cmp x y) :: st) := sp_if hf (fun c e H locs ls h1 h2 => lv_if_gt S.1 S.2.1 d ht (fun _ => k1 c e H locs ls h1 h2) (fun z => absurd (by rw [lc_gt c]; decide) z)) (fun c e H locs ls h1 h2 => lv_if_gt S.1 S.2.1 d ht (fun z => absurd (lc_le c) (by rw [Int32.le_iff_toInt_le]; rw [Int32.lt_iff_toInt_lt] at z; omega)) (fun _ => k2 c e H locs ls h1 h2))
theorem g_idiv {x y : Int32} (S : Sx K own cc nL rm) (d : decode cc pc = .ok (.idiv, 1)) (hne : ¬ y = 0) (k : Go K nL a M (pc + 1) lv (.int (x / y) :: st)) : Go K nL a M pc lv (.int y :: .int x :: st) := fun H locs ls h1 h2 => lv_idiv S.1 S.2.1 d hne (k H locs ls h1 h2)
theorem g_irem {x y : Int32} (S : Sx K own cc nL rm) (d : decode cc pc = .ok (.irem, 1)) (hne : ¬ y = 0) (k : Go K nL a M (pc + 1) lv (.int (irem x y) :: st)) : Go K nL a M pc lv (.int y :: .int x :: st) := fun H locs ls h1 h2 => lv_irem S.1 S.2.1 d hne (k H locs ls h1 h2)
theorem g_ldiv {x y : Int64} (S : Sx K own cc nL rm) (d : decode cc pc = .ok (.ldiv, 1)) (hne : ¬ y = 0) (k : Go K nL a M (pc + 1) lv (.long (x / y) :: st)) : Go K nL a M pc lv (.long y :: .long x :: st) := fun H locs ls h1 h2 => lv_ldiv S.1 S.2.1 d hne (k H locs ls h1 h2)
theorem g_ldivC {x y : Int64} {e : Option α} (S : Sx K own cc nL rm) (d : decode cc pc = .ok (.ldiv, 1)) (hf : ck (decide (¬ y = 0)) e = some res) (k : e = some res → Go K nL a M (pc + 1) lv (.long (x / y) :: st)) : Go K nL a M pc lv (.long y :: .long x :: st) := g_ldiv S d (of_decide_eq_true (ck_some hf).1) (k (ck_some hf).2)
theorem g_iald {n len : Nat} {i : Int32} {e : Option α} (S : Sx K own cc nL rm) (o : IA a.1 n len) (d : decode cc pc = .ok (.iaload, 1)) (hf : ck (inb i len) e = some res) (k : e = some res → Go K nL a M (pc + 1) lv (.int (M n i.toNatClampNeg) :: st)) : Go K nL a M pc lv (.int i :: .ref (a.2 n) :: st) := fun H locs ls h1 h2 => by
  obtain ⟨q, -, hq⟩ := wd_at (G := kG K) (ad := a.2) (M := M) o.1
  rw [o.2] at hq
  exact va_iald S.1 S.2.1 S.2.2.2.2.2.1 h1.1 q 0 hq rfl (inb_vp (ck_some hf).1) d (k (ck_some hf).2 H locs ls h1 h2)
theorem g_zald {n len : Nat} {i : Int32} {e : Option α} (S : Sx K own cc nL rm) (o : ZA a.1 n len) (d : decode cc pc = .ok (.baload, 1)) (hf : ck (inb i len) e = some res) (k : e = some res → Go K nL a M (pc + 1) lv (.int (M n i.toNatClampNeg) :: st)) : Go K nL a M pc lv (.int i :: .ref (a.2 n) :: st) := fun H locs ls h1 h2 => by
  obtain ⟨q, -, hq⟩ := wd_at (G := kG K) (ad := a.2) (M := M) o.1
  rw [o.2] at hq
  exact va_zald S.1 S.2.1 S.2.2.2.2.2.1 h1.1 q 1 hq rfl (inb_vp (ck_some hf).1) d (k (ck_some hf).2 H locs ls h1 h2)
theorem g_iast {n len : Nat} {i x : Int32} {e : Option α} (S : Sx K own cc nL rm) (o : IA a.1 n len) (d : decode cc pc = .ok (.iastore, 1)) (hf : ck (inb i len) e = some res) (k : e = some res → Go K nL a (mu M n i.toNatClampNeg x) (pc + 1) lv st) : Go K nL a M pc lv (.int x :: .int i :: .ref (a.2 n) :: st) := fun H locs ls h1 h2 => by
  obtain ⟨q, hn, hq⟩ := wd_at (G := kG K) (ad := a.2) (M := M) o.1
  rw [o.2] at hq
  have e1 := wd_set (M' := mu M n i.toNatClampNeg x) (e := .inl ((kG K).2.2.1, len, .inl (upd (M n) i.toNatClampNeg x))) h1.2.1 hn (by rw [o.2, mu_eq]; rfl) (fun n' h => mu_ne n' h)
  refine va_iast S.1 S.2.1 S.2.2.2.2.2.1 h1.1 h1.2.1 h1.2.2 q 0 hq rfl (inb_vp (ck_some hf).1) d (fun H1 locs1 p1 p2 p3 => ?_)
  rw [e1] at p1 p2
  exact k (ck_some hf).2 H1 locs1 ls ⟨p1, p2, p3⟩ h2
theorem g_zast {n len : Nat} {i x : Int32} {e : Option α} (S : Sx K own cc nL rm) (o : ZA a.1 n len) (d : decode cc pc = .ok (.bastore, 1)) (hx : vp_nar .boolean x = x) (hf : ck (inb i len) e = some res) (k : e = some res → Go K nL a (mu M n i.toNatClampNeg x) (pc + 1) lv st) : Go K nL a M pc lv (.int x :: .int i :: .ref (a.2 n) :: st) := fun H locs ls h1 h2 => by
  obtain ⟨q, hn, hq⟩ := wd_at (G := kG K) (ad := a.2) (M := M) o.1
  rw [o.2] at hq
  have e1 := wd_set (M' := mu M n i.toNatClampNeg x) (e := .inl ((kG K).2.2.2.1, len, .inl (upd (M n) i.toNatClampNeg (vp_nar .boolean x)))) h1.2.1 hn (by rw [o.2, mu_eq, hx]; rfl) (fun n' h => mu_ne n' h)
  refine va_zast S.1 S.2.1 S.2.2.2.2.2.1 h1.1 h1.2.1 h1.2.2 q 1 hq rfl (inb_vp (ck_some hf).1) d (fun H1 locs1 p1 p2 p3 => ?_)
  rw [e1] at p1 p2
  exact k (ck_some hf).2 H1 locs1 ls ⟨p1, p2, p3⟩ h2
theorem g_alen {n len : Nat} {v : Int32} (S : Sx K own cc nL rm) (o : IA a.1 n len) (hv : Int32.ofNat len = v) (d : decode cc pc = .ok (.arraylength, 1)) (k : Go K nL a M (pc + 1) lv (.int v :: st)) : Go K nL a M pc lv (.ref (a.2 n) :: st) := fun H locs ls h1 h2 => by
  obtain ⟨q, -, hq⟩ := wd_at (G := kG K) (ad := a.2) (M := M) o.1
  rw [o.2] at hq
  exact va_alen S.1 S.2.1 S.2.2.2.2.2.1 h1.1 q 0 hq (ty := .int) rfl hv d (k H locs ls h1 h2)
theorem g_aald {n len t0 base step cnt : Nat} {C : String} {cA : ClassId} {i : Int32} {e1 e2 : Option α} (S : Sx K own cc nL rm) (hn : n ∈ wd_nm a.1) (hc : wd_cell (kG K) a.1 a.2 M n = .inl (cA, len, .inr (.inr (.inr (.inr (wd_rfs a.2 base step cnt)))))) (ht : (tyG (kG K))[t0]? = some (cA, .object C)) (d : decode cc pc = .ok (.aaload, 1)) (hf : ck (inb i len) (if i.toNatClampNeg < cnt then e1 else e2) = some res) (k1 : i.toNatClampNeg < cnt → e1 = some res → Go K nL a M (pc + 1) lv (.ref (a.2 (base + step * i.toNatClampNeg)) :: st)) (k2 : ¬ i.toNatClampNeg < cnt → e2 = some res → Go K nL a M (pc + 1) lv (.null :: st)) : Go K nL a M pc lv (.int i :: .ref (a.2 n) :: st) := fun H locs ls h1 h2 => by
  obtain ⟨q, -, hq⟩ := wd_at (G := kG K) (ad := a.2) (M := M) hn
  rw [hc] at hq
  refine va_aldq S.1 S.2.1 S.2.2.2.2.2.1 h1.1 q t0 hq ht (inb_vp (ck_some hf).1) d ?_
  refine sp_if (ck_some hf).2 (fun c e => ?_) (fun c e => ?_)
  · have e1 : wd_rfs a.2 base step cnt i.toNatClampNeg = some (a.2 (base + step * i.toNatClampNeg)) := by simp [wd_rfs, c]
    rw [e1]
    exact k1 c e H locs ls h1 h2
  · have e1 : wd_rfs a.2 base step cnt i.toNatClampNeg = none := by simp [wd_rfs, c]
    rw [e1]
    exact k2 c e H locs ls h1 h2
theorem g_get {n ci index N k : Nat} {fs : (Nat → Nat) → (Nat → Int32) → List Value} {C : String} {T : u_T} {v : Value} (S : Sx K own cc nL rm) (o : OB a.1 n ci fs) (hc : vwCl[ci]? = some (C, T, N)) (hin : ∀ w ∈ u_ws C T N, w ∈ lw_g) (hk : k < N) (hlink : Cond.fieldLink own index (T k).1 (T k).2.1 (T k).2.2.1 ∈ lw_g) (hv : (fs a.2 (M n))[k]? = some v) (d : decode cc pc = .ok (.getfield index, 3)) (kk : Go K nL a M (pc + 3) lv (v :: st)) : Go K nL a M pc lv (.ref (a.2 n) :: st) := fun H locs ls h1 h2 => by
  obtain ⟨q, -, hq⟩ := wd_at (G := kG K) (ad := a.2) (M := M) o.1
  rw [o.2] at hq
  exact va_get S.1 S.2.1 S.2.2.2.2.1 hin S.2.2.2.1 S.2.2.2.2.2.1 h1.1 q hq hc k hk (S.2.2.2.2.1 _ hlink) (fun _ h9 => h9) hv d (kk H locs ls h1 h2)
theorem g_put {n ci index N k : Nat} {fs : (Nat → Nat) → (Nat → Int32) → List Value} {C : String} {T : u_T} {x : Int32} {ty : FieldType} {ty0 : Nat → FieldType} (S : Sx K own cc nL rm) (o : OB a.1 n ci fs) (hc : vwCl[ci]? = some (C, T, N)) (hin : ∀ w ∈ u_ws C T N, w ∈ lw_g) (hty : ∀ k, k < N → parseFieldDescriptor (T k).2.2.1 = some (ty0 k)) (hnm : ∀ a, a < N → ∀ b, b < N → a ≠ b → (T a).2.1 ≠ (T b).2.1) (hk : k < N) (hlink : Cond.fieldLink own index (T k).1 (T k).2.1 (T k).2.2.1 ∈ lw_g) (hfin : (T k).2.2.2 = false) (hd : parseFieldDescriptor (T k).2.2.1 = some ty) (hx : narrow ty (.int x) = .int x) (hfit : fits ty (.int x) = true) (hl : k < (fs a.2 (M n)).length) (hs : (fs a.2 (M n)).set k (.int x) = fs a.2 (va_up (M n) k x)) (d : decode cc pc = .ok (.putfield index, 3)) (kk : Go K nL a (mu M n k x) (pc + 3) lv st) : Go K nL a M pc lv (.int x :: .ref (a.2 n) :: st) := fun H locs ls h1 h2 => by
  obtain ⟨q, hn, hq⟩ := wd_at (G := kG K) (ad := a.2) (M := M) o.1
  rw [o.2] at hq
  have e1 := wd_set (M' := mu M n k x) (e := .inr (ci, (fs a.2 (M n)).set k (.int x))) h1.2.1 hn (by rw [o.2, mu_eq, hs]) (fun n' h => mu_ne n' h)
  refine va_put S.1 S.2.1 S.2.2.2.2.1 hin ty0 hty hnm S.2.2.2.1 S.2.2.2.2.2.1 h1.1 h1.2.1 h1.2.2 q hq hc k hk (S.2.2.2.2.1 _ hlink) (fun _ h9 => h9) hfin hd hx hfit hl d (fun H1 locs1 p1 p2 p3 => ?_)
  rw [e1] at p1 p2
  exact kk H1 locs1 ls ⟨p1, p2, p3⟩ h2
theorem g_tabIn {dflt lo hi : Int} {offs : Array Int} {len : Nat} {x : Int32} {off : Int} {tgt : Nat} (v : Int32) (S : Sx K own cc nL rm) (d : decode cc pc = .ok (.tableswitch dflt lo hi offs, len)) (hx : x = v) (c1 : ¬ v.toInt < lo) (c2 : ¬ hi < v.toInt) (ho : offs[(v.toInt - lo).toNat]? = some off) (ht : (pc : Int) + off = (tgt : Int)) (k : Go K nL a M tgt lv st) : Go K nL a M pc lv (.int x :: st) := fun H locs ls h1 h2 => by
  subst hx
  exact lv_tableIn S.1 S.2.1 d c1 c2 ho ht (k H locs ls h1 h2)
theorem g_tabOut {dflt lo hi : Int} {offs : Array Int} {len : Nat} {x : Int32} {tgt : Nat} (S : Sx K own cc nL rm) (d : decode cc pc = .ok (.tableswitch dflt lo hi offs, len)) (h : x.toInt < lo ∨ hi < x.toInt) (ht : (pc : Int) + dflt = (tgt : Int)) (k : Go K nL a M tgt lv st) : Go K nL a M pc lv (.int x :: st) := fun H locs ls h1 h2 => lv_tableOut S.1 S.2.1 d h ht (k H locs ls h1 h2)
theorem sw_ne {x v : Int32} (h : ¬ x = v) : x.toInt ≠ v.toInt := fun e => h (Int32.toInt_inj.mp e)
end SX
end
section
/-! contracts, and calls by them -/
def Pc0 (G : GG) (a : AA) (M : Mem) (sz : Nat) (U : State) : Prop := U.heap.size = sz ∧ va_P (Gd G) vwCl (wd_W G a.1 a.2 M) U.heap ∧ va_K (Gd G) vwCl (tyG G) U ∧ va_D (fun _ => True) (wd_W G a.1 a.2 M) ∧ NN U
def B0 (G : GG) (a : AA) (A : Nat → Prop) (M : Mem) (t : State) : Prop := va_P (Gd G) vwCl (wd_W G a.1 a.2 M) t.heap ∧ va_D A (wd_W G a.1 a.2 M)
def CtI (l : Launch) (G : GG) (a : AA) (y : MethodName) (cc : ByteArray) (mL : Nat) (ty : FieldType) (rm : Room) (av : List Value) (M : Mem) (r : Int32) (M' : Mem) : Prop := ∀ sz : Nat, Met l y (.code y cc mL (some ty) :: lw_g) rm (va_Pc av (Pc0 G a M sz)) (va_Qi (fun r0 (u : Mem) => r0 = r ∧ u = M') (B0 G a (va_A (wd_W G a.1 a.2 M) sz)) (va_A (wd_W G a.1 a.2 M) sz)) 0 0 (va_A (wd_W G a.1 a.2 M) sz)
def CtL (l : Launch) (G : GG) (a : AA) (y : MethodName) (cc : ByteArray) (mL : Nat) (rm : Room) (av : List Value) (M : Mem) (r : Int64) (M' : Mem) : Prop := ∀ sz : Nat, Met l y (.code y cc mL (some .long) :: lw_g) rm (va_Pc av (Pc0 G a M sz)) (va_Ql (fun r0 (u : Mem) => r0 = r ∧ u = M') (B0 G a (va_A (wd_W G a.1 a.2 M) sz)) (va_A (wd_W G a.1 a.2 M) sz)) 0 0 (va_A (wd_W G a.1 a.2 M) sz)
def CtV (l : Launch) (G : GG) (a : AA) (y : MethodName) (cc : ByteArray) (mL : Nat) (rm : Room) (av : List Value) (M : Mem) (M' : Mem) : Prop := ∀ sz : Nat, Met l y (.code y cc mL none :: lw_g) rm (va_Pc av (Pc0 G a M sz)) (va_Qv (fun (u : Mem) => u = M') (B0 G a (va_A (wd_W G a.1 a.2 M) sz)) (va_A (wd_W G a.1 a.2 M) sz)) 0 0 (va_A (wd_W G a.1 a.2 M) sz)
def CtQ (l : Launch) (G : GG) (a : AA) (y : MethodName) (cc : ByteArray) (mL : Nat) (C : String) (rm : Room) (av : List Value) (M : Mem) (r : Option Nat) (M' : Mem) : Prop := ∀ sz : Nat, Met l y (.code y cc mL (some (.object C)) :: lw_g) rm (va_Pc av (Pc0 G a M sz)) (va_Qq (fun r0 (u : Mem) => r0 = r.map a.2 ∧ u = M') (B0 G a (va_A (wd_W G a.1 a.2 M) sz)) (va_A (wd_W G a.1 a.2 M) sz)) 0 0 (va_A (wd_W G a.1 a.2 M) sz)
theorem pc_blind {av : List Value} {G : GG} {a : AA} {M : Mem} {sz : Nat} : FrameBlind (va_Pc av (Pc0 G a M sz)) := by
  intro b U g mk q
  obtain ⟨q0, q1, qP, qK, qD, qN⟩ := q
  exact ⟨q0, q1, qP, va_K.moved (u := U) (U := U.calling g mk b) (Vm.Alike.refl U.vm) qK, qD, NN.same rfl qN⟩
section EN
variable {l : Launch} {G : GG} {a : AA} {y : MethodName} {cc : ByteArray} {mL : Nat} {rm : Room} {av : List Value} {M M' : Mem} {own : String}
theorem ct_I {ty : FieldType} {r : Int32} (hy : plainName y.cls = true) (hown : y.cls = own) (hn : narrow ty (.int r) = .int r) (hlen : (lg_sl av).length ≤ mL) (body : ∀ K : KK, kL K = l → kG K = G → Sx K own cc mL rm → RtI K a cc r M' → Go K mL a M 0 (lv_args 0 av) []) : CtI l G a y cc mL ty rm av M r M' := by
  intro sz
  refine Met.ofW (cc := cc) (maxL := mL) (ret := some ty) hy rfl ?_
  intro p e s m args below meth c s₁ B hml hv
  obtain ⟨rfl, hsz, hP, hK, hD0, hN⟩ := hv
  have hts := atoms_spec (ws := .code y cc mL (some ty) :: lw_g) B.pre
  have hf : s.vm.findClass y.cls = some m.cls := findClass_of_methodNamed B.named
  rw [hown] at hf
  subst hsz
  have hD := hD0.self (sz := s.heap.size)
  rw [lg_entry_eq]
  have hl := lv_entry av hlen
  have hlocks := B.notSynchronized
  exact body (p, l, e, rm, s, m, av.toArray, below, meth, c, MQ below (va_Qi (fun r0 (u : Mem) => r0 = r ∧ u = M') (B0 G a (va_A (wd_W G a.1 a.2 M) s.heap.size)) (va_A (wd_W G a.1 a.2 M) s.heap.size)) av.toArray s 0 0 (va_A (wd_W G a.1 a.2 M) s.heap.size), va_A (wd_W G a.1 a.2 M) s.heap.size, G, 0, 0) rfl rfl ⟨B.exec, B.bytes, hml, hf, fun w hw => hts w (List.mem_cons_of_mem _ hw), hK, hN, fun q hq => Or.inr hq, rfl, Nat.zero_le _, Nat.zero_le _⟩ (fun pc H locs ls d h => W.zret B.exec B.bytes B.returns hn (fun t ht hW => ⟨⟨r, M', rfl, ⟨rfl, rfl⟩, by rw [ht]; exact h.1, h.2.1⟩, h.2.2.F ht⟩) h.2.2.2.2 d hlocks) s.heap [] _ ⟨hP, hD, va_S.rf⟩ hl
theorem ct_L {r : Int64} (hy : plainName y.cls = true) (hown : y.cls = own) (hlen : (lg_sl av).length ≤ mL) (body : ∀ K : KK, kL K = l → kG K = G → Sx K own cc mL rm → RtL K a cc r M' → Go K mL a M 0 (lv_args 0 av) []) : CtL l G a y cc mL rm av M r M' := by
  intro sz
  refine Met.ofW (cc := cc) (maxL := mL) (ret := some .long) hy rfl ?_
  intro p e s m args below meth c s₁ B hml hv
  obtain ⟨rfl, hsz, hP, hK, hD0, hN⟩ := hv
  have hts := atoms_spec (ws := .code y cc mL (some .long) :: lw_g) B.pre
  have hf : s.vm.findClass y.cls = some m.cls := findClass_of_methodNamed B.named
  rw [hown] at hf
  subst hsz
  have hD := hD0.self (sz := s.heap.size)
  rw [lg_entry_eq]
  have hl := lv_entry av hlen
  have hlocks := B.notSynchronized
  exact body (p, l, e, rm, s, m, av.toArray, below, meth, c, MQ below (va_Ql (fun r0 (u : Mem) => r0 = r ∧ u = M') (B0 G a (va_A (wd_W G a.1 a.2 M) s.heap.size)) (va_A (wd_W G a.1 a.2 M) s.heap.size)) av.toArray s 0 0 (va_A (wd_W G a.1 a.2 M) s.heap.size), va_A (wd_W G a.1 a.2 M) s.heap.size, G, 0, 0) rfl rfl ⟨B.exec, B.bytes, hml, hf, fun w hw => hts w (List.mem_cons_of_mem _ hw), hK, hN, fun q hq => Or.inr hq, rfl, Nat.zero_le _, Nat.zero_le _⟩ (fun pc H locs ls d h => W.lret B.exec B.bytes B.returns (fun t ht hW => ⟨⟨r, M', rfl, ⟨rfl, rfl⟩, by rw [ht]; exact h.1, h.2.1⟩, h.2.2.F ht⟩) h.2.2.2.2 d hlocks) s.heap [] _ ⟨hP, hD, va_S.rf⟩ hl
theorem ct_V (hy : plainName y.cls = true) (hown : y.cls = own) (hlen : (lg_sl av).length ≤ mL) (body : ∀ K : KK, kL K = l → kG K = G → Sx K own cc mL rm → RtV K a cc M' → Go K mL a M 0 (lv_args 0 av) []) : CtV l G a y cc mL rm av M M' := by
  intro sz
  refine Met.ofW (cc := cc) (maxL := mL) (ret := none) hy rfl ?_
  intro p e s m args below meth c s₁ B hml hv
  obtain ⟨rfl, hsz, hP, hK, hD0, hN⟩ := hv
  have hts := atoms_spec (ws := .code y cc mL none :: lw_g) B.pre
  have hf : s.vm.findClass y.cls = some m.cls := findClass_of_methodNamed B.named
  rw [hown] at hf
  subst hsz
  have hD := hD0.self (sz := s.heap.size)
  rw [lg_entry_eq]
  have hl := lv_entry av hlen
  have hlocks := B.notSynchronized
  exact body (p, l, e, rm, s, m, av.toArray, below, meth, c, MQ below (va_Qv (fun (u : Mem) => u = M') (B0 G a (va_A (wd_W G a.1 a.2 M) s.heap.size)) (va_A (wd_W G a.1 a.2 M) s.heap.size)) av.toArray s 0 0 (va_A (wd_W G a.1 a.2 M) s.heap.size), va_A (wd_W G a.1 a.2 M) s.heap.size, G, 0, 0) rfl rfl ⟨B.exec, B.bytes, hml, hf, fun w hw => hts w (List.mem_cons_of_mem _ hw), hK, hN, fun q hq => Or.inr hq, rfl, Nat.zero_le _, Nat.zero_le _⟩ (fun pc H locs ls d h => W.vret B.exec B.bytes B.returns (fun t ht hW => ⟨⟨M', rfl, rfl, by rw [ht]; exact h.1, h.2.1⟩, h.2.2.F ht⟩) h.2.2.2.2 d hlocks) s.heap [] _ ⟨hP, hD, va_S.rf⟩ hl
theorem ct_Q {C : String} {r : Option Nat} (hy : plainName y.cls = true) (hown : y.cls = own) (hlen : (lg_sl av).length ≤ mL) (body : ∀ K : KK, kL K = l → kG K = G → Sx K own cc mL rm → RtQ K a cc r M' → Go K mL a M 0 (lv_args 0 av) []) : CtQ l G a y cc mL C rm av M r M' := by
  intro sz
  refine Met.ofW (cc := cc) (maxL := mL) (ret := some (.object C)) hy rfl ?_
  intro p e s m args below meth c s₁ B hml hv
  obtain ⟨rfl, hsz, hP, hK, hD0, hN⟩ := hv
  have hts := atoms_spec (ws := .code y cc mL (some (.object C)) :: lw_g) B.pre
  have hf : s.vm.findClass y.cls = some m.cls := findClass_of_methodNamed B.named
  rw [hown] at hf
  subst hsz
  have hD := hD0.self (sz := s.heap.size)
  rw [lg_entry_eq]
  have hl := lv_entry av hlen
  have hlocks := B.notSynchronized
  exact body (p, l, e, rm, s, m, av.toArray, below, meth, c, MQ below (va_Qq (fun r0 (u : Mem) => r0 = r.map a.2 ∧ u = M') (B0 G a (va_A (wd_W G a.1 a.2 M) s.heap.size)) (va_A (wd_W G a.1 a.2 M) s.heap.size)) av.toArray s 0 0 (va_A (wd_W G a.1 a.2 M) s.heap.size), va_A (wd_W G a.1 a.2 M) s.heap.size, G, 0, 0) rfl rfl ⟨B.exec, B.bytes, hml, hf, fun w hw => hts w (List.mem_cons_of_mem _ hw), hK, hN, fun q hq => Or.inr hq, rfl, Nat.zero_le _, Nat.zero_le _⟩ (fun pc H locs ls d h => W.aret B.exec B.bytes B.returns (Or.inl ⟨C, rfl⟩) (by cases r with | none => exact Or.inl rfl | some x => exact Or.inr ⟨a.2 x, rfl⟩) (fun t ht hW => ⟨⟨r.map a.2, M', rfl, ⟨rfl, rfl⟩, by rw [ht]; exact h.1, h.2.1⟩, h.2.2.F ht⟩) h.2.2.2.2 d hlocks) s.heap [] _ ⟨hP, hD, va_S.rf⟩ hl
end EN
/-- what a call needs to know of the method itself -/
def OkS (y : MethodName) (bytes : ByteArray) (maxL : Nat) (ret : Option FieldType) (n : Nat) : Prop := Cond.code y bytes maxL ret ∈ lw_g ∧ Cond.static y ∈ lw_g ∧ Cond.initialized y.cls ∈ lw_g ∧ (y.cls ≠ "java/lang/invoke/MethodHandle" ∧ y.cls ≠ "java/lang/invoke/VarHandle" ∧ (parseMethodDescriptor y.desc).map (fun d => d.parameters.length) = some n)
def OkV (y : MethodName) (bytes : ByteArray) (maxL : Nat) (ret : Option FieldType) (n : Nat) : Prop := Cond.code y bytes maxL ret ∈ lw_g ∧ Cond.instanceMethod y ∈ lw_g ∧ Cond.selects y.cls y y ∈ lw_g ∧ Cond.initialized y.cls ∈ lw_g ∧ (y.cls ≠ "java/lang/invoke/MethodHandle" ∧ y.cls ≠ "java/lang/invoke/VarHandle" ∧ (parseMethodDescriptor y.desc).map (fun d => d.parameters.length) = some n)
section CA
variable {K : KK} {own : String} {cc : ByteArray} {nL : Nat} {rm : Room} {a : AA} {M : Mem} {pc : Nat} {lv : List (Nat × Value)} {st stk : List Value} {M' : Mem} {y : MethodName} {bytes : ByteArray} {maxL n index : Nat} {rmc : Room} {As : List Value} {H : Heap} {locs : List Loc} {ls : Array Slot}
theorem pc_in (S : Sx K own cc nL rm) (h : go_H K a M H locs) {U : State} (hU : U.heap = H) (hW : (kS K).WarmedH U.vm) : va_Pc As (Pc0 (kG K) a M H.size) As.toArray U := ⟨rfl, by rw [hU], by rw [hU]; exact h.1, va_K.moved hW.alike S.2.2.2.2.2.1, h.2.1.weaken (fun _ _ _ _ => trivial), NN.warm hW S.2.2.2.2.2.2.1⟩
theorem fr_in (S : Sx K own cc nL rm) (h : go_H K a M H locs) : ∀ q, va_A (wd_W (kG K) a.1 a.2 M) H.size q → kF K q := by
  intro q hq
  rcases hq with ⟨k, e, hk⟩ | hq
  · exact h.2.1.2 k _ hk
  · exact S.2.2.2.2.2.2.2.1 q (Nat.le_trans h.2.2.1 hq)
theorem rm_in (S : Sx K own cc nL rm) (hR : rmc.frames + 1 ≤ rm.frames ∧ 8 + (maxL + 11) + rmc.locals ≤ rm.locals) : rmc.frames + 1 ≤ (kR K).frames ∧ 8 + (maxL + 11) + rmc.locals ≤ (kR K).locals := by rw [S.2.2.2.2.2.2.2.2.1]; exact hR
theorem ce_in (S : Sx K own cc nL rm) : kc K + 0 ≤ (kR K).cells ∧ ks K + 0 ≤ (kR K).slots := S.2.2.2.2.2.2.2.2.2
theorem rn_S {ret : Option FieldType} {Qc : Array Value → State → Outcome → State → Prop} {free : Addr → Prop} (S : Sx K own cc nL rm) (ok : OkS y bytes maxL ret n) (hl : Cond.methodLink own index y ∈ lw_g) (ct : Met (kL K) y (.code y bytes maxL ret :: lw_g) rmc (va_Pc As (Pc0 (kG K) a M H.size)) Qc 0 0 free) (h : go_H K a M H locs) (hz : lv_has ls nL lv) (hn : As.length = n) (hs : stk = As.reverse ++ st) (hR : rmc.frames + 1 ≤ rm.frames ∧ 8 + (maxL + 11) + rmc.locals ≤ rm.locals) (hrc : rmc.cells = 0 ∧ rmc.slots = 0) (hcat : (st.map fun v => v.category).sum ≤ 8) (d : decode cc pc = .ok (.invokestatic index, 3)) : va_Run (kP K) (kL K) (kE K) (kR K) (kS K) (kM K) (kA K) (kB K) (kT K) (kC K) H locs (kc K) (ks K) 0 0 (F0 (kM K) pc ls stk) st (Qc As.toArray) free :=
  va_runS (As := As) (rest := st) ⟨S.1, S.2.1, S.2.2.1, S.2.2.2.1, S.2.2.2.2.1⟩ ct ⟨callB_of n S.2.2.2.2.1 (lg_goodIn ok.1) rfl hrc.1 hrc.2 (S.2.2.2.2.1 _ ok.2.2.1) (S.2.2.2.2.1 _ hl) ok.2.2.2 (rm_in S hR), S.2.2.2.2.1 _ ok.2.1⟩ ⟨pc_blind, fun U hU hW => pc_in S h hU hW⟩ rfl hn hz.1 hs (lv_room hcat) d (ce_in S)
theorem rn_SN {host : String} {ret : Option FieldType} {Qc : Array Value → State → Outcome → State → Prop} {free : Addr → Prop} (S : Sx K own cc nL rm) (ok : OkS y bytes maxL ret n) (hl : (own, index, y, host) ∈ nn_l) (ct : Met (kL K) y (.code y bytes maxL ret :: lw_g) rmc (va_Pc As (Pc0 (kG K) a M H.size)) Qc 0 0 free) (h : go_H K a M H locs) (hz : lv_has ls nL lv) (hn : As.length = n) (hs : stk = As.reverse ++ st) (hR : rmc.frames + 1 ≤ rm.frames ∧ 8 + (maxL + 11) + rmc.locals ≤ rm.locals) (hrc : rmc.cells = 0 ∧ rmc.slots = 0) (hcat : (st.map fun v => v.category).sum ≤ 8) (d : decode cc pc = .ok (.invokestatic index, 3)) : va_Run (kP K) (kL K) (kE K) (kR K) (kS K) (kM K) (kA K) (kB K) (kT K) (kC K) H locs (kc K) (ks K) 0 0 (F0 (kM K) pc ls stk) st (Qc As.toArray) free :=
  va_runSN (As := As) (rest := st) ⟨S.1, S.2.1, S.2.2.1, S.2.2.2.1, S.2.2.2.2.1⟩ ct ⟨va_cnB n S.2.2.2.2.1 (lg_goodIn ok.1) rfl hrc.1 hrc.2 (S.2.2.2.2.2.2.1 _ hl) (S.2.2.2.2.1 _ ok.2.2.1) ok.2.2.2 (rm_in S hR), S.2.2.2.2.1 _ ok.2.1, trivial⟩ ⟨pc_blind, fun U hU hW => pc_in S h hU hW⟩ rfl hn hz.1 hs (lv_room hcat) d (ce_in S)
theorem rn_V {b ci N : Nat} {T : u_T} {fs : (Nat → Nat) → (Nat → Int32) → List Value} {ret : Option FieldType} {Qc : Array Value → State → Outcome → State → Prop} {free : Addr → Prop} (S : Sx K own cc nL rm) (o : OB a.1 b ci fs) (hcl : vwCl[ci]? = some (y.cls, T, N)) (ok : OkV y bytes maxL ret n) (hl : Cond.methodLink own index y ∈ lw_g) (ct : Met (kL K) y (.code y bytes maxL ret :: lw_g) rmc (va_Pc (.ref (a.2 b) :: As) (Pc0 (kG K) a M H.size)) Qc 0 0 free) (h : go_H K a M H locs) (hz : lv_has ls nL lv) (hn : As.length = n) (hs : stk = As.reverse ++ .ref (a.2 b) :: st) (hR : rmc.frames + 1 ≤ rm.frames ∧ 8 + (maxL + 11) + rmc.locals ≤ rm.locals) (hrc : rmc.cells = 0 ∧ rmc.slots = 0) (hcat : (st.map fun v => v.category).sum ≤ 8) (d : decode cc pc = .ok (.invokevirtual index, 3)) : va_Run (kP K) (kL K) (kE K) (kR K) (kS K) (kM K) (kA K) (kB K) (kT K) (kC K) H locs (kc K) (ks K) 0 0 (F0 (kM K) pc ls stk) st (Qc (Value.ref (a.2 b) :: As).toArray) free := by
  obtain ⟨q, -, hq⟩ := wd_at (G := kG K) (ad := a.2) (M := M) o.1
  rw [o.2] at hq
  exact va_runV (As := As) (rest := st) (C := y.cls) ⟨S.1, S.2.1, S.2.2.1, S.2.2.2.1, S.2.2.2.2.1⟩ ct ⟨callB_of n S.2.2.2.2.1 (lg_goodIn ok.1) rfl hrc.1 hrc.2 (S.2.2.2.2.1 _ ok.2.2.2.1) (S.2.2.2.2.1 _ hl) ok.2.2.2.2 (rm_in S hR), S.2.2.2.2.1 _ ok.2.1, S.2.2.2.2.1 _ ok.2.2.1⟩ ⟨pc_blind, va_recv S.2.2.2.2.2.1 h.1 (ci := ci) (q0 := q) hcl hq, fun U hU hW => pc_in S h hU hW⟩ rfl hn hz.1 hs (lv_room hcat) d (ce_in S)
end CA
end
section
/-! calls, by kind of answer and of call -/
def rmD (d : Nat) : Room := { frames := d, cells := 0, slots := 0, locals := 40 * d }
theorem rmD_z (d : Nat) : (rmD d).cells = 0 ∧ (rmD d).slots = 0 := ⟨rfl, rfl⟩
section CB
variable {K : KK} {own : String} {cc : ByteArray} {nL : Nat} {rm : Room} {a : AA} {M : Mem} {pc : Nat} {lv : List (Nat × Value)} {st stk : List Value} {M' : Mem} {y : MethodName} {bytes : ByteArray} {maxL n index : Nat} {rmc : Room} {As : List Value}
theorem g_cSI {r : Int32} {ty : FieldType} (S : Sx K own cc nL rm) (ok : OkS y bytes maxL (some ty) n) (hl : Cond.methodLink own index y ∈ lw_g) (ct : CtI (kL K) (kG K) a y bytes maxL ty rmc As M r M') (hn : As.length = n) (hs : stk = As.reverse ++ st) (hR : rmc.frames + 1 ≤ rm.frames ∧ 8 + (maxL + 11) + rmc.locals ≤ rm.locals) (hrc : rmc.cells = 0 ∧ rmc.slots = 0) (hcat : (st.map fun v => v.category).sum ≤ 8) (d : decode cc pc = .ok (.invokestatic index, 3)) (k : Go K nL a M' (pc + 3) lv (.int r :: st)) : Go K nL a M pc lv stk := fun H locs ls h1 h2 => by
  refine va_calli (rn_S S ok hl (ct H.size) h1 h2 hn hs hR hrc hcat d) h1.2.2 (fun q _ h => fr_in S h1 q h) (fr_in S h1) (fun r0 u t H1 locs1 e1 _ e3 e4 _ _ e7 => ?_)
  obtain ⟨p1, p2⟩ := e4
  rw [e1] at p1
  have e5 : u = M' := e3.2
  subst e5
  have e6 := e3.1
  subst e6
  exact k H1 locs1 ls ⟨p1, p2.weaken (fun _ q _ h => fr_in S h1 q.1 h), e7⟩ h2
theorem g_cSL {r : Int64} (S : Sx K own cc nL rm) (ok : OkS y bytes maxL (some .long) n) (hl : Cond.methodLink own index y ∈ lw_g) (ct : CtL (kL K) (kG K) a y bytes maxL rmc As M r M') (hn : As.length = n) (hs : stk = As.reverse ++ st) (hR : rmc.frames + 1 ≤ rm.frames ∧ 8 + (maxL + 11) + rmc.locals ≤ rm.locals) (hrc : rmc.cells = 0 ∧ rmc.slots = 0) (hcat : (st.map fun v => v.category).sum ≤ 8) (d : decode cc pc = .ok (.invokestatic index, 3)) (k : Go K nL a M' (pc + 3) lv (.long r :: st)) : Go K nL a M pc lv stk := fun H locs ls h1 h2 => by
  refine va_calll (rn_S S ok hl (ct H.size) h1 h2 hn hs hR hrc hcat d) h1.2.2 (fun q _ h => fr_in S h1 q h) (fr_in S h1) (fun r0 u t H1 locs1 e1 _ e3 e4 _ _ e7 => ?_)
  obtain ⟨p1, p2⟩ := e4
  rw [e1] at p1
  have e5 : u = M' := e3.2
  subst e5
  have e6 := e3.1
  subst e6
  exact k H1 locs1 ls ⟨p1, p2.weaken (fun _ q _ h => fr_in S h1 q.1 h), e7⟩ h2
theorem g_cSV  (S : Sx K own cc nL rm) (ok : OkS y bytes maxL (none) n) (hl : Cond.methodLink own index y ∈ lw_g) (ct : CtV (kL K) (kG K) a y bytes maxL rmc As M M') (hn : As.length = n) (hs : stk = As.reverse ++ st) (hR : rmc.frames + 1 ≤ rm.frames ∧ 8 + (maxL + 11) + rmc.locals ≤ rm.locals) (hrc : rmc.cells = 0 ∧ rmc.slots = 0) (hcat : (st.map fun v => v.category).sum ≤ 8) (d : decode cc pc = .ok (.invokestatic index, 3)) (k : Go K nL a M' (pc + 3) lv (st)) : Go K nL a M pc lv stk := fun H locs ls h1 h2 => by
  refine va_callv (rn_S S ok hl (ct H.size) h1 h2 hn hs hR hrc hcat d) h1.2.2 (fun q _ h => fr_in S h1 q h) (fr_in S h1) (fun u t H1 locs1 e1 _ e3 e4 _ _ e7 => ?_)
  obtain ⟨p1, p2⟩ := e4
  rw [e1] at p1
  have e5 : u = M' := e3
  subst e5
  exact k H1 locs1 ls ⟨p1, p2.weaken (fun _ q _ h => fr_in S h1 q.1 h), e7⟩ h2
theorem g_cSQ {r : Option Nat} {C : String} (S : Sx K own cc nL rm) (ok : OkS y bytes maxL (some (.object C)) n) (hl : Cond.methodLink own index y ∈ lw_g) (ct : CtQ (kL K) (kG K) a y bytes maxL C rmc As M r M') (hn : As.length = n) (hs : stk = As.reverse ++ st) (hR : rmc.frames + 1 ≤ rm.frames ∧ 8 + (maxL + 11) + rmc.locals ≤ rm.locals) (hrc : rmc.cells = 0 ∧ rmc.slots = 0) (hcat : (st.map fun v => v.category).sum ≤ 8) (d : decode cc pc = .ok (.invokestatic index, 3)) (k : Go K nL a M' (pc + 3) lv (va_rf (r.map a.2) :: st)) : Go K nL a M pc lv stk := fun H locs ls h1 h2 => by
  refine va_callq (rn_S S ok hl (ct H.size) h1 h2 hn hs hR hrc hcat d) h1.2.2 (fun q _ h => fr_in S h1 q h) (fr_in S h1) (fun r0 u t H1 locs1 e1 _ e3 e4 _ _ e7 => ?_)
  obtain ⟨p1, p2⟩ := e4
  rw [e1] at p1
  have e5 : u = M' := e3.2
  subst e5
  have e6 := e3.1
  subst e6
  exact k H1 locs1 ls ⟨p1, p2.weaken (fun _ q _ h => fr_in S h1 q.1 h), e7⟩ h2
theorem g_cNI {r : Int32} {ty : FieldType} (S : Sx K own cc nL rm) {host : String} (ok : OkS y bytes maxL (some ty) n) (hl : (own, index, y, host) ∈ nn_l) (ct : CtI (kL K) (kG K) a y bytes maxL ty rmc As M r M') (hn : As.length = n) (hs : stk = As.reverse ++ st) (hR : rmc.frames + 1 ≤ rm.frames ∧ 8 + (maxL + 11) + rmc.locals ≤ rm.locals) (hrc : rmc.cells = 0 ∧ rmc.slots = 0) (hcat : (st.map fun v => v.category).sum ≤ 8) (d : decode cc pc = .ok (.invokestatic index, 3)) (k : Go K nL a M' (pc + 3) lv (.int r :: st)) : Go K nL a M pc lv stk := fun H locs ls h1 h2 => by
  refine va_calli (rn_SN S ok hl (ct H.size) h1 h2 hn hs hR hrc hcat d) h1.2.2 (fun q _ h => fr_in S h1 q h) (fr_in S h1) (fun r0 u t H1 locs1 e1 _ e3 e4 _ _ e7 => ?_)
  obtain ⟨p1, p2⟩ := e4
  rw [e1] at p1
  have e5 : u = M' := e3.2
  subst e5
  have e6 := e3.1
  subst e6
  exact k H1 locs1 ls ⟨p1, p2.weaken (fun _ q _ h => fr_in S h1 q.1 h), e7⟩ h2
theorem g_cNL {r : Int64} (S : Sx K own cc nL rm) {host : String} (ok : OkS y bytes maxL (some .long) n) (hl : (own, index, y, host) ∈ nn_l) (ct : CtL (kL K) (kG K) a y bytes maxL rmc As M r M') (hn : As.length = n) (hs : stk = As.reverse ++ st) (hR : rmc.frames + 1 ≤ rm.frames ∧ 8 + (maxL + 11) + rmc.locals ≤ rm.locals) (hrc : rmc.cells = 0 ∧ rmc.slots = 0) (hcat : (st.map fun v => v.category).sum ≤ 8) (d : decode cc pc = .ok (.invokestatic index, 3)) (k : Go K nL a M' (pc + 3) lv (.long r :: st)) : Go K nL a M pc lv stk := fun H locs ls h1 h2 => by
  refine va_calll (rn_SN S ok hl (ct H.size) h1 h2 hn hs hR hrc hcat d) h1.2.2 (fun q _ h => fr_in S h1 q h) (fr_in S h1) (fun r0 u t H1 locs1 e1 _ e3 e4 _ _ e7 => ?_)
  obtain ⟨p1, p2⟩ := e4
  rw [e1] at p1
  have e5 : u = M' := e3.2
  subst e5
  have e6 := e3.1
  subst e6
  exact k H1 locs1 ls ⟨p1, p2.weaken (fun _ q _ h => fr_in S h1 q.1 h), e7⟩ h2
theorem g_cNV  (S : Sx K own cc nL rm) {host : String} (ok : OkS y bytes maxL (none) n) (hl : (own, index, y, host) ∈ nn_l) (ct : CtV (kL K) (kG K) a y bytes maxL rmc As M M') (hn : As.length = n) (hs : stk = As.reverse ++ st) (hR : rmc.frames + 1 ≤ rm.frames ∧ 8 + (maxL + 11) + rmc.locals ≤ rm.locals) (hrc : rmc.cells = 0 ∧ rmc.slots = 0) (hcat : (st.map fun v => v.category).sum ≤ 8) (d : decode cc pc = .ok (.invokestatic index, 3)) (k : Go K nL a M' (pc + 3) lv (st)) : Go K nL a M pc lv stk := fun H locs ls h1 h2 => by
  refine va_callv (rn_SN S ok hl (ct H.size) h1 h2 hn hs hR hrc hcat d) h1.2.2 (fun q _ h => fr_in S h1 q h) (fr_in S h1) (fun u t H1 locs1 e1 _ e3 e4 _ _ e7 => ?_)
  obtain ⟨p1, p2⟩ := e4
  rw [e1] at p1
  have e5 : u = M' := e3
  subst e5
  exact k H1 locs1 ls ⟨p1, p2.weaken (fun _ q _ h => fr_in S h1 q.1 h), e7⟩ h2
theorem g_cNQ {r : Option Nat} {C : String} (S : Sx K own cc nL rm) {host : String} (ok : OkS y bytes maxL (some (.object C)) n) (hl : (own, index, y, host) ∈ nn_l) (ct : CtQ (kL K) (kG K) a y bytes maxL C rmc As M r M') (hn : As.length = n) (hs : stk = As.reverse ++ st) (hR : rmc.frames + 1 ≤ rm.frames ∧ 8 + (maxL + 11) + rmc.locals ≤ rm.locals) (hrc : rmc.cells = 0 ∧ rmc.slots = 0) (hcat : (st.map fun v => v.category).sum ≤ 8) (d : decode cc pc = .ok (.invokestatic index, 3)) (k : Go K nL a M' (pc + 3) lv (va_rf (r.map a.2) :: st)) : Go K nL a M pc lv stk := fun H locs ls h1 h2 => by
  refine va_callq (rn_SN S ok hl (ct H.size) h1 h2 hn hs hR hrc hcat d) h1.2.2 (fun q _ h => fr_in S h1 q h) (fr_in S h1) (fun r0 u t H1 locs1 e1 _ e3 e4 _ _ e7 => ?_)
  obtain ⟨p1, p2⟩ := e4
  rw [e1] at p1
  have e5 : u = M' := e3.2
  subst e5
  have e6 := e3.1
  subst e6
  exact k H1 locs1 ls ⟨p1, p2.weaken (fun _ q _ h => fr_in S h1 q.1 h), e7⟩ h2
theorem g_cVI {r : Int32} {ty : FieldType} (S : Sx K own cc nL rm) {b ci N : Nat} {T : u_T} {fs : (Nat → Nat) → (Nat → Int32) → List Value} (o : OB a.1 b ci fs) (hcl : vwCl[ci]? = some (y.cls, T, N)) (ok : OkV y bytes maxL (some ty) n) (hl : Cond.methodLink own index y ∈ lw_g) (ct : CtI (kL K) (kG K) a y bytes maxL ty rmc (.ref (a.2 b) :: As) M r M') (hn : As.length = n) (hs : stk = As.reverse ++ .ref (a.2 b) :: st) (hR : rmc.frames + 1 ≤ rm.frames ∧ 8 + (maxL + 11) + rmc.locals ≤ rm.locals) (hrc : rmc.cells = 0 ∧ rmc.slots = 0) (hcat : (st.map fun v => v.category).sum ≤ 8) (d : decode cc pc = .ok (.invokevirtual index, 3)) (k : Go K nL a M' (pc + 3) lv (.int r :: st)) : Go K nL a M pc lv stk := fun H locs ls h1 h2 => by
  refine va_calli (rn_V S o hcl ok hl (ct H.size) h1 h2 hn hs hR hrc hcat d) h1.2.2 (fun q _ h => fr_in S h1 q h) (fr_in S h1) (fun r0 u t H1 locs1 e1 _ e3 e4 _ _ e7 => ?_)
  obtain ⟨p1, p2⟩ := e4
  rw [e1] at p1
  have e5 : u = M' := e3.2
  subst e5
  have e6 := e3.1
  subst e6
  exact k H1 locs1 ls ⟨p1, p2.weaken (fun _ q _ h => fr_in S h1 q.1 h), e7⟩ h2
theorem g_cVL {r : Int64} (S : Sx K own cc nL rm) {b ci N : Nat} {T : u_T} {fs : (Nat → Nat) → (Nat → Int32) → List Value} (o : OB a.1 b ci fs) (hcl : vwCl[ci]? = some (y.cls, T, N)) (ok : OkV y bytes maxL (some .long) n) (hl : Cond.methodLink own index y ∈ lw_g) (ct : CtL (kL K) (kG K) a y bytes maxL rmc (.ref (a.2 b) :: As) M r M') (hn : As.length = n) (hs : stk = As.reverse ++ .ref (a.2 b) :: st) (hR : rmc.frames + 1 ≤ rm.frames ∧ 8 + (maxL + 11) + rmc.locals ≤ rm.locals) (hrc : rmc.cells = 0 ∧ rmc.slots = 0) (hcat : (st.map fun v => v.category).sum ≤ 8) (d : decode cc pc = .ok (.invokevirtual index, 3)) (k : Go K nL a M' (pc + 3) lv (.long r :: st)) : Go K nL a M pc lv stk := fun H locs ls h1 h2 => by
  refine va_calll (rn_V S o hcl ok hl (ct H.size) h1 h2 hn hs hR hrc hcat d) h1.2.2 (fun q _ h => fr_in S h1 q h) (fr_in S h1) (fun r0 u t H1 locs1 e1 _ e3 e4 _ _ e7 => ?_)
  obtain ⟨p1, p2⟩ := e4
  rw [e1] at p1
  have e5 : u = M' := e3.2
  subst e5
  have e6 := e3.1
  subst e6
  exact k H1 locs1 ls ⟨p1, p2.weaken (fun _ q _ h => fr_in S h1 q.1 h), e7⟩ h2
theorem g_cVV  (S : Sx K own cc nL rm) {b ci N : Nat} {T : u_T} {fs : (Nat → Nat) → (Nat → Int32) → List Value} (o : OB a.1 b ci fs) (hcl : vwCl[ci]? = some (y.cls, T, N)) (ok : OkV y bytes maxL (none) n) (hl : Cond.methodLink own index y ∈ lw_g) (ct : CtV (kL K) (kG K) a y bytes maxL rmc (.ref (a.2 b) :: As) M M') (hn : As.length = n) (hs : stk = As.reverse ++ .ref (a.2 b) :: st) (hR : rmc.frames + 1 ≤ rm.frames ∧ 8 + (maxL + 11) + rmc.locals ≤ rm.locals) (hrc : rmc.cells = 0 ∧ rmc.slots = 0) (hcat : (st.map fun v => v.category).sum ≤ 8) (d : decode cc pc = .ok (.invokevirtual index, 3)) (k : Go K nL a M' (pc + 3) lv (st)) : Go K nL a M pc lv stk := fun H locs ls h1 h2 => by
  refine va_callv (rn_V S o hcl ok hl (ct H.size) h1 h2 hn hs hR hrc hcat d) h1.2.2 (fun q _ h => fr_in S h1 q h) (fr_in S h1) (fun u t H1 locs1 e1 _ e3 e4 _ _ e7 => ?_)
  obtain ⟨p1, p2⟩ := e4
  rw [e1] at p1
  have e5 : u = M' := e3
  subst e5
  exact k H1 locs1 ls ⟨p1, p2.weaken (fun _ q _ h => fr_in S h1 q.1 h), e7⟩ h2
theorem g_cVQ {r : Option Nat} {C : String} (S : Sx K own cc nL rm) {b ci N : Nat} {T : u_T} {fs : (Nat → Nat) → (Nat → Int32) → List Value} (o : OB a.1 b ci fs) (hcl : vwCl[ci]? = some (y.cls, T, N)) (ok : OkV y bytes maxL (some (.object C)) n) (hl : Cond.methodLink own index y ∈ lw_g) (ct : CtQ (kL K) (kG K) a y bytes maxL C rmc (.ref (a.2 b) :: As) M r M') (hn : As.length = n) (hs : stk = As.reverse ++ .ref (a.2 b) :: st) (hR : rmc.frames + 1 ≤ rm.frames ∧ 8 + (maxL + 11) + rmc.locals ≤ rm.locals) (hrc : rmc.cells = 0 ∧ rmc.slots = 0) (hcat : (st.map fun v => v.category).sum ≤ 8) (d : decode cc pc = .ok (.invokevirtual index, 3)) (k : Go K nL a M' (pc + 3) lv (va_rf (r.map a.2) :: st)) : Go K nL a M pc lv stk := fun H locs ls h1 h2 => by
  refine va_callq (rn_V S o hcl ok hl (ct H.size) h1 h2 hn hs hR hrc hcat d) h1.2.2 (fun q _ h => fr_in S h1 q h) (fr_in S h1) (fun r0 u t H1 locs1 e1 _ e3 e4 _ _ e7 => ?_)
  obtain ⟨p1, p2⟩ := e4
  rw [e1] at p1
  have e5 : u = M' := e3.2
  subst e5
  have e6 := e3.1
  subst e6
  exact k H1 locs1 ls ⟨p1, p2.weaken (fun _ q _ h => fr_in S h1 q.1 h), e7⟩ h2
end CB
end
