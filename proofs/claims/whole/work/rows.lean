section
/-- a private method of a class that the tables say can be made, by its rows of tables_1 -/
def lw_okq (q : MethodName × Nat) : Prop := (q.1.cls ≠ "java/lang/invoke/MethodHandle" ∧ q.1.cls ≠ "java/lang/invoke/VarHandle") ∧ Cond.instantiable q.1.cls q.2 ∈ tables_1 ∧ Cond.privateMethod q.1 ∈ tables_1 ∧ Cond.instanceMethod q.1 ∈ tables_1
theorem lw_p0 : lw_okq (⟨"BridleBook", "kiteAt", "(I)LBridleBook$Kite;"⟩, 17) := ⟨⟨by decide +kernel, by decide +kernel⟩, List.mem_of_getElem? (i := 13) (by decide +kernel), List.mem_of_getElem? (i := 181) (by decide +kernel), List.mem_of_getElem? (i := 182) (by decide +kernel)⟩
theorem lw_p1 : lw_okq (⟨"BridleBook", "lineAt", "(I)LBridleBook$Line;"⟩, 17) := ⟨⟨by decide +kernel, by decide +kernel⟩, List.mem_of_getElem? (i := 13) (by decide +kernel), List.mem_of_getElem? (i := 316) (by decide +kernel), List.mem_of_getElem? (i := 317) (by decide +kernel)⟩
theorem lw_p2 : lw_okq (⟨"BridleBook", "kitesOn", "(I)I"⟩, 17) := ⟨⟨by decide +kernel, by decide +kernel⟩, List.mem_of_getElem? (i := 13) (by decide +kernel), List.mem_of_getElem? (i := 320) (by decide +kernel), List.mem_of_getElem? (i := 321) (by decide +kernel)⟩
theorem lw_p3 : lw_okq (⟨"BridleBook", "liftsOf", "(ILBridleBook$Line;I)I"⟩, 17) := ⟨⟨by decide +kernel, by decide +kernel⟩, List.mem_of_getElem? (i := 13) (by decide +kernel), List.mem_of_getElem? (i := 344) (by decide +kernel), List.mem_of_getElem? (i := 345) (by decide +kernel)⟩
theorem lw_p4 : lw_okq (⟨"BridleBook", "windAt", "(I)I"⟩, 17) := ⟨⟨by decide +kernel, by decide +kernel⟩, List.mem_of_getElem? (i := 13) (by decide +kernel), List.mem_of_getElem? (i := 348) (by decide +kernel), List.mem_of_getElem? (i := 349) (by decide +kernel)⟩
theorem lw_p5 : lw_okq (⟨"BridleBook", "partingStep", "(ILBridleBook$Line;)I"⟩, 17) := ⟨⟨by decide +kernel, by decide +kernel⟩, List.mem_of_getElem? (i := 13) (by decide +kernel), List.mem_of_getElem? (i := 354) (by decide +kernel), List.mem_of_getElem? (i := 355) (by decide +kernel)⟩
theorem lw_p6 : lw_okq (⟨"BridleBook", "loadTrain", "(ILBridleBook$Line;)V"⟩, 17) := ⟨⟨by decide +kernel, by decide +kernel⟩, List.mem_of_getElem? (i := 13) (by decide +kernel), List.mem_of_getElem? (i := 358) (by decide +kernel), List.mem_of_getElem? (i := 359) (by decide +kernel)⟩
theorem lw_p7 : lw_okq (⟨"BridleBook", "sever", "(ILBridleBook$Line;I)V"⟩, 17) := ⟨⟨by decide +kernel, by decide +kernel⟩, List.mem_of_getElem? (i := 13) (by decide +kernel), List.mem_of_getElem? (i := 424) (by decide +kernel), List.mem_of_getElem? (i := 425) (by decide +kernel)⟩
theorem lw_p8 : lw_okq (⟨"BridleBook", "hasFlyer", "(I)Z"⟩, 17) := ⟨⟨by decide +kernel, by decide +kernel⟩, List.mem_of_getElem? (i := 13) (by decide +kernel), List.mem_of_getElem? (i := 444) (by decide +kernel), List.mem_of_getElem? (i := 445) (by decide +kernel)⟩
theorem lw_p9 : lw_okq (⟨"BridleBook", "flyerAt", "(I)LBridleBook$Flyer;"⟩, 17) := ⟨⟨by decide +kernel, by decide +kernel⟩, List.mem_of_getElem? (i := 13) (by decide +kernel), List.mem_of_getElem? (i := 448) (by decide +kernel), List.mem_of_getElem? (i := 449) (by decide +kernel)⟩
theorem lw_p10 : lw_okq (⟨"BridleBook", "hasTreeAt", "(I)Z"⟩, 17) := ⟨⟨by decide +kernel, by decide +kernel⟩, List.mem_of_getElem? (i := 13) (by decide +kernel), List.mem_of_getElem? (i := 482) (by decide +kernel), List.mem_of_getElem? (i := 483) (by decide +kernel)⟩
theorem lw_p11 : lw_okq (⟨"BridleBook", "reasonAgainst", "(ILBridleBook$Flyer;)I"⟩, 17) := ⟨⟨by decide +kernel, by decide +kernel⟩, List.mem_of_getElem? (i := 13) (by decide +kernel), List.mem_of_getElem? (i := 494) (by decide +kernel), List.mem_of_getElem? (i := 495) (by decide +kernel)⟩
theorem lw_p12 : lw_okq (⟨"BridleBook", "spreadCone", "(LBridleBook$Cone;LBridleBook$Flyer;)V"⟩, 17) := ⟨⟨by decide +kernel, by decide +kernel⟩, List.mem_of_getElem? (i := 13) (by decide +kernel), List.mem_of_getElem? (i := 498) (by decide +kernel), List.mem_of_getElem? (i := 499) (by decide +kernel)⟩
theorem lw_p13 : lw_okq (⟨"BridleBook", "isInTheWay", "(II)Z"⟩, 17) := ⟨⟨by decide +kernel, by decide +kernel⟩, List.mem_of_getElem? (i := 13) (by decide +kernel), List.mem_of_getElem? (i := 517) (by decide +kernel), List.mem_of_getElem? (i := 518) (by decide +kernel)⟩
theorem lw_p14 : lw_okq (⟨"BridleBook", "areTwoLines", "(II)Z"⟩, 17) := ⟨⟨by decide +kernel, by decide +kernel⟩, List.mem_of_getElem? (i := 13) (by decide +kernel), List.mem_of_getElem? (i := 537) (by decide +kernel), List.mem_of_getElem? (i := 538) (by decide +kernel)⟩
theorem lw_p15 : lw_okq (⟨"BridleBook", "countFlying", "()I"⟩, 17) := ⟨⟨by decide +kernel, by decide +kernel⟩, List.mem_of_getElem? (i := 13) (by decide +kernel), List.mem_of_getElem? (i := 588) (by decide +kernel), List.mem_of_getElem? (i := 589) (by decide +kernel)⟩
def lw_privs_1 : List (MethodName × Nat) := [(⟨"BridleBook", "kiteAt", "(I)LBridleBook$Kite;"⟩, 17), (⟨"BridleBook", "lineAt", "(I)LBridleBook$Line;"⟩, 17), (⟨"BridleBook", "kitesOn", "(I)I"⟩, 17), (⟨"BridleBook", "liftsOf", "(ILBridleBook$Line;I)I"⟩, 17), (⟨"BridleBook", "windAt", "(I)I"⟩, 17), (⟨"BridleBook", "partingStep", "(ILBridleBook$Line;)I"⟩, 17), (⟨"BridleBook", "loadTrain", "(ILBridleBook$Line;)V"⟩, 17), (⟨"BridleBook", "sever", "(ILBridleBook$Line;I)V"⟩, 17), (⟨"BridleBook", "hasFlyer", "(I)Z"⟩, 17), (⟨"BridleBook", "flyerAt", "(I)LBridleBook$Flyer;"⟩, 17), (⟨"BridleBook", "hasTreeAt", "(I)Z"⟩, 17), (⟨"BridleBook", "reasonAgainst", "(ILBridleBook$Flyer;)I"⟩, 17), (⟨"BridleBook", "spreadCone", "(LBridleBook$Cone;LBridleBook$Flyer;)V"⟩, 17), (⟨"BridleBook", "isInTheWay", "(II)Z"⟩, 17), (⟨"BridleBook", "areTwoLines", "(II)Z"⟩, 17), (⟨"BridleBook", "countFlying", "()I"⟩, 17)]
theorem lw_r1 : ∀ q ∈ lw_privs_1, lw_okq q := List.forall_mem_cons.mpr ⟨lw_p0, List.forall_mem_cons.mpr ⟨lw_p1, List.forall_mem_cons.mpr ⟨lw_p2, List.forall_mem_cons.mpr ⟨lw_p3, List.forall_mem_cons.mpr ⟨lw_p4, List.forall_mem_cons.mpr ⟨lw_p5, List.forall_mem_cons.mpr ⟨lw_p6, List.forall_mem_cons.mpr ⟨lw_p7, List.forall_mem_cons.mpr ⟨lw_p8, List.forall_mem_cons.mpr ⟨lw_p9, List.forall_mem_cons.mpr ⟨lw_p10, List.forall_mem_cons.mpr ⟨lw_p11, List.forall_mem_cons.mpr ⟨lw_p12, List.forall_mem_cons.mpr ⟨lw_p13, List.forall_mem_cons.mpr ⟨lw_p14, List.forall_mem_cons.mpr ⟨lw_p15, fun _ h => absurd h List.not_mem_nil⟩⟩⟩⟩⟩⟩⟩⟩⟩⟩⟩⟩⟩⟩⟩⟩
theorem lw_p16 : lw_okq (⟨"BridleBook", "countTied", "()I"⟩, 17) := ⟨⟨by decide +kernel, by decide +kernel⟩, List.mem_of_getElem? (i := 13) (by decide +kernel), List.mem_of_getElem? (i := 592) (by decide +kernel), List.mem_of_getElem? (i := 593) (by decide +kernel)⟩
theorem lw_p17 : lw_okq (⟨"BridleBook", "countFree", "()I"⟩, 17) := ⟨⟨by decide +kernel, by decide +kernel⟩, List.mem_of_getElem? (i := 13) (by decide +kernel), List.mem_of_getElem? (i := 596) (by decide +kernel), List.mem_of_getElem? (i := 597) (by decide +kernel)⟩
theorem lw_p18 : lw_okq (⟨"BridleBookModel", "isKite", "(I)Z"⟩, 38) := ⟨⟨by decide +kernel, by decide +kernel⟩, List.mem_of_getElem? (i := 600) (by decide +kernel), List.mem_of_getElem? (i := 728) (by decide +kernel), List.mem_of_getElem? (i := 729) (by decide +kernel)⟩
theorem lw_p19 : lw_okq (⟨"BridleBookModel", "up", "(III)I"⟩, 38) := ⟨⟨by decide +kernel, by decide +kernel⟩, List.mem_of_getElem? (i := 600) (by decide +kernel), List.mem_of_getElem? (i := 754) (by decide +kernel), List.mem_of_getElem? (i := 755) (by decide +kernel)⟩
theorem lw_p20 : lw_okq (⟨"BridleBookModel", "weightOf", "(I)I"⟩, 38) := ⟨⟨by decide +kernel, by decide +kernel⟩, List.mem_of_getElem? (i := 600) (by decide +kernel), List.mem_of_getElem? (i := 758) (by decide +kernel), List.mem_of_getElem? (i := 759) (by decide +kernel)⟩
theorem lw_p21 : lw_okq (⟨"BridleBookModel", "back", "(III)I"⟩, 38) := ⟨⟨by decide +kernel, by decide +kernel⟩, List.mem_of_getElem? (i := 600) (by decide +kernel), List.mem_of_getElem? (i := 762) (by decide +kernel), List.mem_of_getElem? (i := 763) (by decide +kernel)⟩
theorem lw_p22 : lw_okq (⟨"BridleBookModel", "turns", "(III)I"⟩, 38) := ⟨⟨by decide +kernel, by decide +kernel⟩, List.mem_of_getElem? (i := 600) (by decide +kernel), List.mem_of_getElem? (i := 766) (by decide +kernel), List.mem_of_getElem? (i := 767) (by decide +kernel)⟩
theorem lw_p23 : lw_okq (⟨"BridleBookModel", "standsAt", "(II)I"⟩, 38) := ⟨⟨by decide +kernel, by decide +kernel⟩, List.mem_of_getElem? (i := 600) (by decide +kernel), List.mem_of_getElem? (i := 774) (by decide +kernel), List.mem_of_getElem? (i := 775) (by decide +kernel)⟩
theorem lw_p24 : lw_okq (⟨"BridleBookModel", "isSteady", "(III)Z"⟩, 38) := ⟨⟨by decide +kernel, by decide +kernel⟩, List.mem_of_getElem? (i := 600) (by decide +kernel), List.mem_of_getElem? (i := 782) (by decide +kernel), List.mem_of_getElem? (i := 783) (by decide +kernel)⟩
theorem lw_p25 : lw_okq (⟨"BridleBookModel", "pullUp", "(II)I"⟩, 38) := ⟨⟨by decide +kernel, by decide +kernel⟩, List.mem_of_getElem? (i := 600) (by decide +kernel), List.mem_of_getElem? (i := 790) (by decide +kernel), List.mem_of_getElem? (i := 791) (by decide +kernel)⟩
theorem lw_p26 : lw_okq (⟨"BridleBookModel", "pullBack", "(II)I"⟩, 38) := ⟨⟨by decide +kernel, by decide +kernel⟩, List.mem_of_getElem? (i := 600) (by decide +kernel), List.mem_of_getElem? (i := 794) (by decide +kernel), List.mem_of_getElem? (i := 795) (by decide +kernel)⟩
theorem lw_p27 : lw_okq (⟨"BridleBookModel", "isLine", "(I)Z"⟩, 38) := ⟨⟨by decide +kernel, by decide +kernel⟩, List.mem_of_getElem? (i := 600) (by decide +kernel), List.mem_of_getElem? (i := 815) (by decide +kernel), List.mem_of_getElem? (i := 816) (by decide +kernel)⟩
theorem lw_p28 : lw_okq (⟨"BridleBookModel", "isStep", "(II)Z"⟩, 38) := ⟨⟨by decide +kernel, by decide +kernel⟩, List.mem_of_getElem? (i := 600) (by decide +kernel), List.mem_of_getElem? (i := 819) (by decide +kernel), List.mem_of_getElem? (i := 820) (by decide +kernel)⟩
theorem lw_p29 : lw_okq (⟨"BridleBookModel", "kitesOn", "(I)I"⟩, 38) := ⟨⟨by decide +kernel, by decide +kernel⟩, List.mem_of_getElem? (i := 600) (by decide +kernel), List.mem_of_getElem? (i := 823) (by decide +kernel), List.mem_of_getElem? (i := 824) (by decide +kernel)⟩
theorem lw_p30 : lw_okq (⟨"BridleBookModel", "isWeak", "(II)Z"⟩, 38) := ⟨⟨by decide +kernel, by decide +kernel⟩, List.mem_of_getElem? (i := 600) (by decide +kernel), List.mem_of_getElem? (i := 835) (by decide +kernel), List.mem_of_getElem? (i := 836) (by decide +kernel)⟩
theorem lw_p31 : lw_okq (⟨"BridleBookModel", "lifts", "(II)I"⟩, 38) := ⟨⟨by decide +kernel, by decide +kernel⟩, List.mem_of_getElem? (i := 600) (by decide +kernel), List.mem_of_getElem? (i := 843) (by decide +kernel), List.mem_of_getElem? (i := 844) (by decide +kernel)⟩
def lw_privs_2 : List (MethodName × Nat) := [(⟨"BridleBook", "countTied", "()I"⟩, 17), (⟨"BridleBook", "countFree", "()I"⟩, 17), (⟨"BridleBookModel", "isKite", "(I)Z"⟩, 38), (⟨"BridleBookModel", "up", "(III)I"⟩, 38), (⟨"BridleBookModel", "weightOf", "(I)I"⟩, 38), (⟨"BridleBookModel", "back", "(III)I"⟩, 38), (⟨"BridleBookModel", "turns", "(III)I"⟩, 38), (⟨"BridleBookModel", "standsAt", "(II)I"⟩, 38), (⟨"BridleBookModel", "isSteady", "(III)Z"⟩, 38), (⟨"BridleBookModel", "pullUp", "(II)I"⟩, 38), (⟨"BridleBookModel", "pullBack", "(II)I"⟩, 38), (⟨"BridleBookModel", "isLine", "(I)Z"⟩, 38), (⟨"BridleBookModel", "isStep", "(II)Z"⟩, 38), (⟨"BridleBookModel", "kitesOn", "(I)I"⟩, 38), (⟨"BridleBookModel", "isWeak", "(II)Z"⟩, 38), (⟨"BridleBookModel", "lifts", "(II)I"⟩, 38)]
theorem lw_r2 : ∀ q ∈ lw_privs_2, lw_okq q := List.forall_mem_cons.mpr ⟨lw_p16, List.forall_mem_cons.mpr ⟨lw_p17, List.forall_mem_cons.mpr ⟨lw_p18, List.forall_mem_cons.mpr ⟨lw_p19, List.forall_mem_cons.mpr ⟨lw_p20, List.forall_mem_cons.mpr ⟨lw_p21, List.forall_mem_cons.mpr ⟨lw_p22, List.forall_mem_cons.mpr ⟨lw_p23, List.forall_mem_cons.mpr ⟨lw_p24, List.forall_mem_cons.mpr ⟨lw_p25, List.forall_mem_cons.mpr ⟨lw_p26, List.forall_mem_cons.mpr ⟨lw_p27, List.forall_mem_cons.mpr ⟨lw_p28, List.forall_mem_cons.mpr ⟨lw_p29, List.forall_mem_cons.mpr ⟨lw_p30, List.forall_mem_cons.mpr ⟨lw_p31, fun _ h => absurd h List.not_mem_nil⟩⟩⟩⟩⟩⟩⟩⟩⟩⟩⟩⟩⟩⟩⟩⟩
theorem lw_p32 : lw_okq (⟨"BridleBookModel", "stand", "(II)V"⟩, 38) := ⟨⟨by decide +kernel, by decide +kernel⟩, List.mem_of_getElem? (i := 600) (by decide +kernel), List.mem_of_getElem? (i := 847) (by decide +kernel), List.mem_of_getElem? (i := 848) (by decide +kernel)⟩
theorem lw_p33 : lw_okq (⟨"BridleBookModel", "partsAt", "(I)I"⟩, 38) := ⟨⟨by decide +kernel, by decide +kernel⟩, List.mem_of_getElem? (i := 600) (by decide +kernel), List.mem_of_getElem? (i := 860) (by decide +kernel), List.mem_of_getElem? (i := 861) (by decide +kernel)⟩
theorem lw_p34 : lw_okq (⟨"BridleBookModel", "strengthAt", "(II)I"⟩, 38) := ⟨⟨by decide +kernel, by decide +kernel⟩, List.mem_of_getElem? (i := 600) (by decide +kernel), List.mem_of_getElem? (i := 864) (by decide +kernel), List.mem_of_getElem? (i := 865) (by decide +kernel)⟩
theorem lw_p35 : lw_okq (⟨"BridleBookModel", "end", "(II)V"⟩, 38) := ⟨⟨by decide +kernel, by decide +kernel⟩, List.mem_of_getElem? (i := 600) (by decide +kernel), List.mem_of_getElem? (i := 876) (by decide +kernel), List.mem_of_getElem? (i := 877) (by decide +kernel)⟩
theorem lw_p36 : lw_okq (⟨"BridleBookModel", "isFlyer", "(I)Z"⟩, 38) := ⟨⟨by decide +kernel, by decide +kernel⟩, List.mem_of_getElem? (i := 600) (by decide +kernel), List.mem_of_getElem? (i := 904) (by decide +kernel), List.mem_of_getElem? (i := 905) (by decide +kernel)⟩
theorem lw_p37 : lw_okq (⟨"BridleBookModel", "whyNot", "(I)I"⟩, 38) := ⟨⟨by decide +kernel, by decide +kernel⟩, List.mem_of_getElem? (i := 600) (by decide +kernel), List.mem_of_getElem? (i := 912) (by decide +kernel), List.mem_of_getElem? (i := 913) (by decide +kernel)⟩
theorem lw_p38 : lw_okq (⟨"BridleBookModel", "isInCone", "(II)Z"⟩, 38) := ⟨⟨by decide +kernel, by decide +kernel⟩, List.mem_of_getElem? (i := 600) (by decide +kernel), List.mem_of_getElem? (i := 916) (by decide +kernel), List.mem_of_getElem? (i := 917) (by decide +kernel)⟩
theorem lw_p39 : lw_okq (⟨"BridleBookModel", "endOf", "(III)I"⟩, 38) := ⟨⟨by decide +kernel, by decide +kernel⟩, List.mem_of_getElem? (i := 600) (by decide +kernel), List.mem_of_getElem? (i := 920) (by decide +kernel), List.mem_of_getElem? (i := 921) (by decide +kernel)⟩
theorem lw_p40 : lw_okq (⟨"BridleBookModel", "doMeet", "(II)Z"⟩, 38) := ⟨⟨by decide +kernel, by decide +kernel⟩, List.mem_of_getElem? (i := 600) (by decide +kernel), List.mem_of_getElem? (i := 924) (by decide +kernel), List.mem_of_getElem? (i := 925) (by decide +kernel)⟩
theorem lw_p41 : lw_okq (⟨"BridleBookModel", "wind0", "(III)V"⟩, 38) := ⟨⟨by decide +kernel, by decide +kernel⟩, List.mem_of_getElem? (i := 600) (by decide +kernel), List.mem_of_getElem? (i := 946) (by decide +kernel), List.mem_of_getElem? (i := 947) (by decide +kernel)⟩
theorem lw_p42 : lw_okq (⟨"BridleBookModel", "turnsOf", "(II)I"⟩, 38) := ⟨⟨by decide +kernel, by decide +kernel⟩, List.mem_of_getElem? (i := 600) (by decide +kernel), List.mem_of_getElem? (i := 954) (by decide +kernel), List.mem_of_getElem? (i := 955) (by decide +kernel)⟩
theorem lw_p43 : lw_okq (⟨"BridleBookModel", "has", "(II)Z"⟩, 38) := ⟨⟨by decide +kernel, by decide +kernel⟩, List.mem_of_getElem? (i := 600) (by decide +kernel), List.mem_of_getElem? (i := 962) (by decide +kernel), List.mem_of_getElem? (i := 963) (by decide +kernel)⟩
def lw_privs_3 : List (MethodName × Nat) := [(⟨"BridleBookModel", "stand", "(II)V"⟩, 38), (⟨"BridleBookModel", "partsAt", "(I)I"⟩, 38), (⟨"BridleBookModel", "strengthAt", "(II)I"⟩, 38), (⟨"BridleBookModel", "end", "(II)V"⟩, 38), (⟨"BridleBookModel", "isFlyer", "(I)Z"⟩, 38), (⟨"BridleBookModel", "whyNot", "(I)I"⟩, 38), (⟨"BridleBookModel", "isInCone", "(II)Z"⟩, 38), (⟨"BridleBookModel", "endOf", "(III)I"⟩, 38), (⟨"BridleBookModel", "doMeet", "(II)Z"⟩, 38), (⟨"BridleBookModel", "wind0", "(III)V"⟩, 38), (⟨"BridleBookModel", "turnsOf", "(II)I"⟩, 38), (⟨"BridleBookModel", "has", "(II)Z"⟩, 38)]
theorem lw_r3 : ∀ q ∈ lw_privs_3, lw_okq q := List.forall_mem_cons.mpr ⟨lw_p32, List.forall_mem_cons.mpr ⟨lw_p33, List.forall_mem_cons.mpr ⟨lw_p34, List.forall_mem_cons.mpr ⟨lw_p35, List.forall_mem_cons.mpr ⟨lw_p36, List.forall_mem_cons.mpr ⟨lw_p37, List.forall_mem_cons.mpr ⟨lw_p38, List.forall_mem_cons.mpr ⟨lw_p39, List.forall_mem_cons.mpr ⟨lw_p40, List.forall_mem_cons.mpr ⟨lw_p41, List.forall_mem_cons.mpr ⟨lw_p42, List.forall_mem_cons.mpr ⟨lw_p43, fun _ h => absurd h List.not_mem_nil⟩⟩⟩⟩⟩⟩⟩⟩⟩⟩⟩⟩
def lw_privs : List (MethodName × Nat) := lw_privs_1 ++ (lw_privs_2 ++ (lw_privs_3))
def lw_tbl : List Cond := k2_sels lw_privs ++ tables_1
theorem lw_privs_ok : ∀ q ∈ lw_privs, lw_okq q := by
  show ∀ q ∈ lw_privs_1 ++ (lw_privs_2 ++ (lw_privs_3)), lw_okq q
  exact List.forall_mem_append.mpr ⟨lw_r1, List.forall_mem_append.mpr ⟨lw_r2, lw_r3⟩⟩
def RX0 : String := "BridleBook$Cone"
def TX0 : u_T := fun k => match k with
  | 0 => ("BridleBook$Cone", "lowX", "I", false)
  | 1 => ("BridleBook$Cone", "highX", "I", false)
  | 2 => ("BridleBook$Cone", "lowY", "I", false)
  | _ => ("BridleBook$Cone", "highY", "I", false)
def tyX0 : Nat → FieldType := fun k => match k with
  | 0 => .int
  | 1 => .int
  | 2 => .int
  | _ => .int
abbrev wsX00 : List Cond := u_ws RX0 TX0 4
theorem nmX0 : ∀ a, a < 4 → ∀ b, b < 4 → a ≠ b → (TX0 a).2.1 ≠ (TX0 b).2.1 := by decide +kernel
theorem tyX0_ok : ∀ k, k < 4 → parseFieldDescriptor (TX0 k).2.2.1 = some (tyX0 k) := by decide +kernel
abbrev cX0_init : ByteArray := prog_2_method_1_code
def yX0_init : MethodName := ⟨RX0, "<init>", "()V"⟩
abbrev cX0_spread : ByteArray := prog_2_method_2_code
def yX0_spread : MethodName := ⟨RX0, "spread", "(LBridleBook$Flyer;III)V"⟩
abbrev cX0_reach : ByteArray := prog_2_method_3_code
def yX0_reach : MethodName := ⟨RX0, "reach", "(IIII)I"⟩
abbrev cX0_holds : ByteArray := prog_2_method_4_code
def yX0_holds : MethodName := ⟨RX0, "holds", "(I)Z"⟩
abbrev cX0_meets : ByteArray := prog_2_method_5_code
def yX0_meets : MethodName := ⟨RX0, "meets", "(LBridleBook$Cone;)Z"⟩
def RX1 : String := "BridleBook$Flyer"
def TX1 : u_T := fun k => match k with
  | 0 => ("BridleBook$Flyer", "x", "I", true)
  | 1 => ("BridleBook$Flyer", "y", "I", true)
  | 2 => ("BridleBook$Flyer", "line", "I", true)
  | _ => ("BridleBook$Flyer", "flies", "Z", false)
def tyX1 : Nat → FieldType := fun k => match k with
  | 0 => .int
  | 1 => .int
  | 2 => .int
  | _ => .boolean
abbrev wsX10 : List Cond := u_ws RX1 TX1 4
theorem nmX1 : ∀ a, a < 4 → ∀ b, b < 4 → a ≠ b → (TX1 a).2.1 ≠ (TX1 b).2.1 := by decide +kernel
theorem tyX1_ok : ∀ k, k < 4 → parseFieldDescriptor (TX1 k).2.2.1 = some (tyX1 k) := by decide +kernel
abbrev cX1_init : ByteArray := prog_3_method_1_code
def yX1_init : MethodName := ⟨RX1, "<init>", "(III)V"⟩
def RX2 : String := "BridleBook$Kite"
def TX2 : u_T := fun k => match k with
  | 0 => ("BridleBook$Kite", "areas", "[I", true)
  | 1 => ("BridleBook$Kite", "arms", "[I", true)
  | 2 => ("BridleBook$Kite", "weights", "[I", true)
  | 3 => ("BridleBook$Kite", "panels", "I", false)
  | 4 => ("BridleBook$Kite", "knot", "I", false)
  | 5 => ("BridleBook$Kite", "line", "I", false)
  | _ => ("BridleBook$Kite", "step", "I", false)
def tyX2 : Nat → FieldType := fun k => match k with
  | 0 => .array .int
  | 1 => .array .int
  | 2 => .array .int
  | 3 => .int
  | 4 => .int
  | 5 => .int
  | _ => .int
abbrev wsX20 : List Cond := u_ws RX2 TX2 7
theorem nmX2 : ∀ a, a < 7 → ∀ b, b < 7 → a ≠ b → (TX2 a).2.1 ≠ (TX2 b).2.1 := by decide +kernel
theorem tyX2_ok : ∀ k, k < 7 → parseFieldDescriptor (TX2 k).2.2.1 = some (tyX2 k) := by decide +kernel
abbrev cX2_init : ByteArray := prog_4_method_1_code
def yX2_init : MethodName := ⟨RX2, "<init>", "()V"⟩
abbrev cX2_addPanel : ByteArray := prog_4_method_2_code
def yX2_addPanel : MethodName := ⟨RX2, "addPanel", "(III)I"⟩
abbrev cX2_pressure : ByteArray := prog_4_method_3_code
def yX2_pressure : MethodName := ⟨RX2, "pressure", "(III)I"⟩
abbrev cX2_upAt : ByteArray := prog_4_method_4_code
def yX2_upAt : MethodName := ⟨RX2, "upAt", "(LBridleBook$Tables;II)I"⟩
abbrev cX2_backAt : ByteArray := prog_4_method_5_code
def yX2_backAt : MethodName := ⟨RX2, "backAt", "(LBridleBook$Tables;II)I"⟩
abbrev cX2_turningAt : ByteArray := prog_4_method_6_code
def yX2_turningAt : MethodName := ⟨RX2, "turningAt", "(LBridleBook$Tables;III)I"⟩
abbrev cX2_standingAngle : ByteArray := prog_4_method_7_code
def yX2_standingAngle : MethodName := ⟨RX2, "standingAngle", "(LBridleBook$Tables;II)I"⟩
abbrev cX2_isSteadyAt : ByteArray := prog_4_method_8_code
def yX2_isSteadyAt : MethodName := ⟨RX2, "isSteadyAt", "(LBridleBook$Tables;III)Z"⟩
def RX3 : String := "BridleBook$Line"
def TX3 : u_T := fun k => match k with
  | 0 => ("BridleBook$Line", "steps", "I", false)
  | 1 => ("BridleBook$Line", "strength", "I", true)
  | 2 => ("BridleBook$Line", "weight", "I", true)
  | 3 => ("BridleBook$Line", "knotSteps", "[I", true)
  | _ => ("BridleBook$Line", "knots", "I", false)
def tyX3 : Nat → FieldType := fun k => match k with
  | 0 => .int
  | 1 => .int
  | 2 => .int
  | 3 => .array .int
  | _ => .int
abbrev wsX30 : List Cond := u_ws RX3 TX3 5
theorem nmX3 : ∀ a, a < 5 → ∀ b, b < 5 → a ≠ b → (TX3 a).2.1 ≠ (TX3 b).2.1 := by decide +kernel
theorem tyX3_ok : ∀ k, k < 5 → parseFieldDescriptor (TX3 k).2.2.1 = some (tyX3 k) := by decide +kernel
abbrev cX3_init : ByteArray := prog_5_method_1_code
def yX3_init : MethodName := ⟨RX3, "<init>", "(III)V"⟩
abbrev cX3_hasKnotAt : ByteArray := prog_5_method_2_code
def yX3_hasKnotAt : MethodName := ⟨RX3, "hasKnotAt", "(I)Z"⟩
abbrev cX3_addKnot : ByteArray := prog_5_method_3_code
def yX3_addKnot : MethodName := ⟨RX3, "addKnot", "(I)I"⟩
abbrev cX3_strengthAt : ByteArray := prog_5_method_4_code
def yX3_strengthAt : MethodName := ⟨RX3, "strengthAt", "(I)I"⟩
abbrev cX3_shortenTo : ByteArray := prog_5_method_5_code
def yX3_shortenTo : MethodName := ⟨RX3, "shortenTo", "(I)V"⟩
def RX4 : String := "BridleBook$Tables"
def TX4 : u_T := fun k => match k with
  | 0 => ("BridleBook$Tables", "lift", "[I", true)
  | _ => ("BridleBook$Tables", "drag", "[I", true)
def tyX4 : Nat → FieldType := fun k => match k with
  | 0 => .array .int
  | _ => .array .int
abbrev wsX40 : List Cond := u_ws RX4 TX4 2
theorem nmX4 : ∀ a, a < 2 → ∀ b, b < 2 → a ≠ b → (TX4 a).2.1 ≠ (TX4 b).2.1 := by decide +kernel
theorem tyX4_ok : ∀ k, k < 2 → parseFieldDescriptor (TX4 k).2.2.1 = some (tyX4 k) := by decide +kernel
abbrev cX4_init : ByteArray := prog_6_method_1_code
def yX4_init : MethodName := ⟨RX4, "<init>", "()V"⟩
abbrev cX4_liftAt : ByteArray := prog_6_method_2_code
def yX4_liftAt : MethodName := ⟨RX4, "liftAt", "(I)I"⟩
abbrev cX4_dragAt : ByteArray := prog_6_method_3_code
def yX4_dragAt : MethodName := ⟨RX4, "dragAt", "(I)I"⟩
abbrev cX4_replaceLift : ByteArray := prog_6_method_4_code
def yX4_replaceLift : MethodName := ⟨RX4, "replaceLift", "(II)I"⟩
abbrev cX4_replaceDrag : ByteArray := prog_6_method_5_code
def yX4_replaceDrag : MethodName := ⟨RX4, "replaceDrag", "(II)I"⟩
def RX5 : String := "BridleBook$Train"
def TX5 : u_T := fun k => match k with
  | 0 => ("BridleBook$Train", "across", "[I", true)
  | _ => ("BridleBook$Train", "up", "[I", true)
def tyX5 : Nat → FieldType := fun k => match k with
  | 0 => .array .int
  | _ => .array .int
abbrev wsX50 : List Cond := u_ws RX5 TX5 2
theorem nmX5 : ∀ a, a < 2 → ∀ b, b < 2 → a ≠ b → (TX5 a).2.1 ≠ (TX5 b).2.1 := by decide +kernel
theorem tyX5_ok : ∀ k, k < 2 → parseFieldDescriptor (TX5 k).2.2.1 = some (tyX5 k) := by decide +kernel
abbrev cX5_init : ByteArray := prog_7_method_1_code
def yX5_init : MethodName := ⟨RX5, "<init>", "()V"⟩
abbrev cX5_clear : ByteArray := prog_7_method_2_code
def yX5_clear : MethodName := ⟨RX5, "clear", "()V"⟩
abbrev cX5_hang : ByteArray := prog_7_method_3_code
def yX5_hang : MethodName := ⟨RX5, "hang", "(III)V"⟩
abbrev cX5_sumFromEnd : ByteArray := prog_7_method_4_code
def yX5_sumFromEnd : MethodName := ⟨RX5, "sumFromEnd", "(II)V"⟩
abbrev cX5_acrossAt : ByteArray := prog_7_method_5_code
def yX5_acrossAt : MethodName := ⟨RX5, "acrossAt", "(I)I"⟩
abbrev cX5_upAt : ByteArray := prog_7_method_6_code
def yX5_upAt : MethodName := ⟨RX5, "upAt", "(I)I"⟩
abbrev cX5_tensionAt : ByteArray := prog_7_method_7_code
def yX5_tensionAt : MethodName := ⟨RX5, "tensionAt", "(I)I"⟩
abbrev cX5_rootFrom : ByteArray := prog_7_method_8_code
def yX5_rootFrom : MethodName := ⟨RX5, "rootFrom", "(JJ)J"⟩
abbrev cX5_hundredths : ByteArray := prog_7_method_9_code
def yX5_hundredths : MethodName := ⟨RX5, "hundredths", "(II)I"⟩
abbrev cX5_placeAcross : ByteArray := prog_7_method_10_code
def yX5_placeAcross : MethodName := ⟨RX5, "placeAcross", "(I)I"⟩
abbrev cX5_placeUp : ByteArray := prog_7_method_11_code
def yX5_placeUp : MethodName := ⟨RX5, "placeUp", "(I)I"⟩
def RX6 : String := "BridleBook$TurnRow"
def TX6 : u_T := fun k => match k with
  | 0 => ("BridleBook$TurnRow", "turns", "[I", true)
  | _ => ("BridleBook$TurnRow", "size", "I", false)
def tyX6 : Nat → FieldType := fun k => match k with
  | 0 => .array .int
  | _ => .int
abbrev wsX60 : List Cond := u_ws RX6 TX6 2
theorem nmX6 : ∀ a, a < 2 → ∀ b, b < 2 → a ≠ b → (TX6 a).2.1 ≠ (TX6 b).2.1 := by decide +kernel
theorem tyX6_ok : ∀ k, k < 2 → parseFieldDescriptor (TX6 k).2.2.1 = some (tyX6 k) := by decide +kernel
abbrev cX6_init : ByteArray := prog_8_method_1_code
def yX6_init : MethodName := ⟨RX6, "<init>", "()V"⟩
abbrev cX6_codeOf : ByteArray := prog_8_method_2_code
def yX6_codeOf : MethodName := ⟨RX6, "codeOf", "(III)I"⟩
abbrev cX6_isOfLine : ByteArray := prog_8_method_3_code
def yX6_isOfLine : MethodName := ⟨RX6, "isOfLine", "(II)Z"⟩
abbrev cX6_push : ByteArray := prog_8_method_4_code
def yX6_push : MethodName := ⟨RX6, "push", "(I)Z"⟩
abbrev cX6_turnsOf : ByteArray := prog_8_method_5_code
def yX6_turnsOf : MethodName := ⟨RX6, "turnsOf", "(II)I"⟩
abbrev cX6_undoneFor : ByteArray := prog_8_method_6_code
def yX6_undoneFor : MethodName := ⟨RX6, "undoneFor", "(I)I"⟩
abbrev cX6_dropLine : ByteArray := prog_8_method_7_code
def yX6_dropLine : MethodName := ⟨RX6, "dropLine", "(I)V"⟩
def RX7 : String := "BridleBook"
def TX7 : u_T := fun k => match k with
  | 0 => ("BridleBook", "tables", "LBridleBook$Tables;", true)
  | 1 => ("BridleBook", "kites", "[LBridleBook$Kite;", true)
  | 2 => ("BridleBook", "kiteCount", "I", false)
  | 3 => ("BridleBook", "winds", "[I", true)
  | 4 => ("BridleBook", "lines", "[LBridleBook$Line;", true)
  | 5 => ("BridleBook", "lineCount", "I", false)
  | 6 => ("BridleBook", "train", "LBridleBook$Train;", true)
  | 7 => ("BridleBook", "flyers", "[LBridleBook$Flyer;", true)
  | 8 => ("BridleBook", "flyerCount", "I", false)
  | 9 => ("BridleBook", "agreed", "[Z", true)
  | 10 => ("BridleBook", "trees", "[I", true)
  | 11 => ("BridleBook", "treeCount", "I", false)
  | 12 => ("BridleBook", "direction", "I", false)
  | 13 => ("BridleBook", "shift", "I", false)
  | 14 => ("BridleBook", "ownCone", "LBridleBook$Cone;", true)
  | 15 => ("BridleBook", "otherCone", "LBridleBook$Cone;", true)
  | _ => ("BridleBook", "row", "LBridleBook$TurnRow;", true)
def tyX7 : Nat → FieldType := fun k => match k with
  | 0 => .object "BridleBook$Tables"
  | 1 => .array (.object "BridleBook$Kite")
  | 2 => .int
  | 3 => .array .int
  | 4 => .array (.object "BridleBook$Line")
  | 5 => .int
  | 6 => .object "BridleBook$Train"
  | 7 => .array (.object "BridleBook$Flyer")
  | 8 => .int
  | 9 => .array .boolean
  | 10 => .array .int
  | 11 => .int
  | 12 => .int
  | 13 => .int
  | 14 => .object "BridleBook$Cone"
  | 15 => .object "BridleBook$Cone"
  | _ => .object "BridleBook$TurnRow"
abbrev wsX70 : List Cond := u_ws RX7 TX7 17
theorem nmX7 : ∀ a, a < 17 → ∀ b, b < 17 → a ≠ b → (TX7 a).2.1 ≠ (TX7 b).2.1 := by decide +kernel
theorem tyX7_ok : ∀ k, k < 17 → parseFieldDescriptor (TX7 k).2.2.1 = some (tyX7 k) := by decide +kernel
abbrev cX7_init : ByteArray := prog_1_method_1_code
def yX7_init : MethodName := ⟨RX7, "<init>", "()V"⟩
abbrev cX7_kite : ByteArray := prog_1_method_2_code
def yX7_kite : MethodName := ⟨RX7, "kite", "()I"⟩
abbrev cX7_panel : ByteArray := prog_1_method_3_code
def yX7_panel : MethodName := ⟨RX7, "panel", "(IIII)I"⟩
abbrev cX7_knot : ByteArray := prog_1_method_4_code
def yX7_knot : MethodName := ⟨RX7, "knot", "(II)I"⟩
abbrev cX7_table : ByteArray := prog_1_method_5_code
def yX7_table : MethodName := ⟨RX7, "table", "(III)I"⟩
abbrev cX7_force : ByteArray := prog_1_method_6_code
def yX7_force : MethodName := ⟨RX7, "force", "(IIII)I"⟩
abbrev cX7_stands : ByteArray := prog_1_method_7_code
def yX7_stands : MethodName := ⟨RX7, "stands", "(II)I"⟩
abbrev cX7_steady : ByteArray := prog_1_method_8_code
def yX7_steady : MethodName := ⟨RX7, "steady", "(II)I"⟩
abbrev cX7_pull : ByteArray := prog_1_method_9_code
def yX7_pull : MethodName := ⟨RX7, "pull", "(III)I"⟩
abbrev cX7_trim : ByteArray := prog_1_method_10_code
def yX7_trim : MethodName := ⟨RX7, "trim", "(IIII)I"⟩
abbrev cX7_wind : ByteArray := prog_1_method_11_code
def yX7_wind : MethodName := ⟨RX7, "wind", "(II)I"⟩
abbrev cX7_line : ByteArray := prog_1_method_12_code
def yX7_line : MethodName := ⟨RX7, "line", "(III)I"⟩
abbrev cX7_tie : ByteArray := prog_1_method_13_code
def yX7_tie : MethodName := ⟨RX7, "tie", "(III)I"⟩
abbrev cX7_untie : ByteArray := prog_1_method_14_code
def yX7_untie : MethodName := ⟨RX7, "untie", "(I)I"⟩
abbrev cX7_weaken : ByteArray := prog_1_method_15_code
def yX7_weaken : MethodName := ⟨RX7, "weaken", "(II)I"⟩
abbrev cX7_ofLine : ByteArray := prog_1_method_16_code
def yX7_ofLine : MethodName := ⟨RX7, "ofLine", "(II)I"⟩
abbrev cX7_step : ByteArray := prog_1_method_17_code
def yX7_step : MethodName := ⟨RX7, "step", "(III)I"⟩
abbrev cX7_part : ByteArray := prog_1_method_18_code
def yX7_part : MethodName := ⟨RX7, "part", "(I)I"⟩
abbrev cX7_least : ByteArray := prog_1_method_19_code
def yX7_least : MethodName := ⟨RX7, "least", "(II)I"⟩
abbrev cX7_flyer : ByteArray := prog_1_method_20_code
def yX7_flyer : MethodName := ⟨RX7, "flyer", "(II)I"⟩
abbrev cX7_blow : ByteArray := prog_1_method_21_code
def yX7_blow : MethodName := ⟨RX7, "blow", "(II)I"⟩
abbrev cX7_tree : ByteArray := prog_1_method_22_code
def yX7_tree : MethodName := ⟨RX7, "tree", "(I)I"⟩
abbrev cX7_agree : ByteArray := prog_1_method_23_code
def yX7_agree : MethodName := ⟨RX7, "agree", "(III)I"⟩
abbrev cX7_fly : ByteArray := prog_1_method_24_code
def yX7_fly : MethodName := ⟨RX7, "fly", "(II)I"⟩
abbrev cX7_why : ByteArray := prog_1_method_25_code
def yX7_why : MethodName := ⟨RX7, "why", "(I)I"⟩
abbrev cX7_cone : ByteArray := prog_1_method_26_code
def yX7_cone : MethodName := ⟨RX7, "cone", "(II)I"⟩
abbrev cX7_turn : ByteArray := prog_1_method_27_code
def yX7_turn : MethodName := ⟨RX7, "turn", "(III)I"⟩
abbrev cX7_tangled : ByteArray := prog_1_method_28_code
def yX7_tangled : MethodName := ⟨RX7, "tangled", "(II)I"⟩
abbrev cX7_undo : ByteArray := prog_1_method_29_code
def yX7_undo : MethodName := ⟨RX7, "undo", "(I)I"⟩
abbrev cX7_unwind : ByteArray := prog_1_method_30_code
def yX7_unwind : MethodName := ⟨RX7, "unwind", "(I)I"⟩
abbrev cX7_cut : ByteArray := prog_1_method_31_code
def yX7_cut : MethodName := ⟨RX7, "cut", "(III)I"⟩
abbrev cX7_count : ByteArray := prog_1_method_32_code
def yX7_count : MethodName := ⟨RX7, "count", "(I)I"⟩
abbrev cX7_within : ByteArray := prog_1_method_33_code
def yX7_within : MethodName := ⟨RX7, "within", "(III)Z"⟩
abbrev cX7_isArm : ByteArray := prog_1_method_34_code
def yX7_isArm : MethodName := ⟨RX7, "isArm", "(I)Z"⟩
abbrev cX7_isAngle : ByteArray := prog_1_method_35_code
def yX7_isAngle : MethodName := ⟨RX7, "isAngle", "(I)Z"⟩
abbrev cX7_isWind : ByteArray := prog_1_method_36_code
def yX7_isWind : MethodName := ⟨RX7, "isWind", "(I)Z"⟩
abbrev cX7_isPlace : ByteArray := prog_1_method_37_code
def yX7_isPlace : MethodName := ⟨RX7, "isPlace", "(I)Z"⟩
abbrev cX7_kiteAt : ByteArray := prog_1_method_38_code
def yX7_kiteAt : MethodName := ⟨RX7, "kiteAt", "(I)LBridleBook$Kite;"⟩
abbrev cX7_lineAt : ByteArray := prog_1_method_39_code
def yX7_lineAt : MethodName := ⟨RX7, "lineAt", "(I)LBridleBook$Line;"⟩
abbrev cX7_areTwoLines : ByteArray := prog_1_method_40_code
def yX7_areTwoLines : MethodName := ⟨RX7, "areTwoLines", "(II)Z"⟩
abbrev cX7_flyerAt : ByteArray := prog_1_method_41_code
def yX7_flyerAt : MethodName := ⟨RX7, "flyerAt", "(I)LBridleBook$Flyer;"⟩
abbrev cX7_kitesOn : ByteArray := prog_1_method_42_code
def yX7_kitesOn : MethodName := ⟨RX7, "kitesOn", "(I)I"⟩
abbrev cX7_windAt : ByteArray := prog_1_method_43_code
def yX7_windAt : MethodName := ⟨RX7, "windAt", "(I)I"⟩
abbrev cX7_liftsOf : ByteArray := prog_1_method_44_code
def yX7_liftsOf : MethodName := ⟨RX7, "liftsOf", "(ILBridleBook$Line;I)I"⟩
abbrev cX7_loadTrain : ByteArray := prog_1_method_45_code
def yX7_loadTrain : MethodName := ⟨RX7, "loadTrain", "(ILBridleBook$Line;)V"⟩
abbrev cX7_partingStep : ByteArray := prog_1_method_46_code
def yX7_partingStep : MethodName := ⟨RX7, "partingStep", "(ILBridleBook$Line;)I"⟩
abbrev cX7_sever : ByteArray := prog_1_method_47_code
def yX7_sever : MethodName := ⟨RX7, "sever", "(ILBridleBook$Line;I)V"⟩
abbrev cX7_hasFlyer : ByteArray := prog_1_method_48_code
def yX7_hasFlyer : MethodName := ⟨RX7, "hasFlyer", "(I)Z"⟩
abbrev cX7_hasTreeAt : ByteArray := prog_1_method_49_code
def yX7_hasTreeAt : MethodName := ⟨RX7, "hasTreeAt", "(I)Z"⟩
abbrev cX7_spreadCone : ByteArray := prog_1_method_50_code
def yX7_spreadCone : MethodName := ⟨RX7, "spreadCone", "(LBridleBook$Cone;LBridleBook$Flyer;)V"⟩
abbrev cX7_reasonAgainst : ByteArray := prog_1_method_51_code
def yX7_reasonAgainst : MethodName := ⟨RX7, "reasonAgainst", "(ILBridleBook$Flyer;)I"⟩
abbrev cX7_isInTheWay : ByteArray := prog_1_method_52_code
def yX7_isInTheWay : MethodName := ⟨RX7, "isInTheWay", "(II)Z"⟩
abbrev cX7_countFlying : ByteArray := prog_1_method_53_code
def yX7_countFlying : MethodName := ⟨RX7, "countFlying", "()I"⟩
abbrev cX7_countTied : ByteArray := prog_1_method_54_code
def yX7_countTied : MethodName := ⟨RX7, "countTied", "()I"⟩
abbrev cX7_countFree : ByteArray := prog_1_method_55_code
def yX7_countFree : MethodName := ⟨RX7, "countFree", "()I"⟩
def RX8 : String := "BridleBookModel"
def TX8 : u_T := fun k => match k with
  | 0 => ("BridleBookModel", "code", "I", false)
  | 1 => ("BridleBookModel", "kites", "I", false)
  | 2 => ("BridleBookModel", "panels", "[I", true)
  | 3 => ("BridleBookModel", "area", "[I", true)
  | 4 => ("BridleBookModel", "arm", "[I", true)
  | 5 => ("BridleBookModel", "heavy", "[I", true)
  | 6 => ("BridleBookModel", "knotAt", "[I", true)
  | 7 => ("BridleBookModel", "lineOf", "[I", true)
  | 8 => ("BridleBookModel", "stepOf", "[I", true)
  | 9 => ("BridleBookModel", "lift", "[I", true)
  | 10 => ("BridleBookModel", "drag", "[I", true)
  | 11 => ("BridleBookModel", "winds", "[I", true)
  | 12 => ("BridleBookModel", "lines", "I", false)
  | 13 => ("BridleBookModel", "steps", "[I", true)
  | 14 => ("BridleBookModel", "strength", "[I", true)
  | 15 => ("BridleBookModel", "thin", "[I", true)
  | 16 => ("BridleBookModel", "knots", "[I", true)
  | 17 => ("BridleBookModel", "knotStep", "[I", true)
  | 18 => ("BridleBookModel", "across", "[I", true)
  | 19 => ("BridleBookModel", "upward", "[I", true)
  | 20 => ("BridleBookModel", "tight", "[I", true)
  | 21 => ("BridleBookModel", "far", "[I", true)
  | 22 => ("BridleBookModel", "height", "[I", true)
  | 23 => ("BridleBookModel", "flyers", "I", false)
  | 24 => ("BridleBookModel", "flyerX", "[I", true)
  | 25 => ("BridleBookModel", "flyerY", "[I", true)
  | 26 => ("BridleBookModel", "flyerLine", "[I", true)
  | 27 => ("BridleBookModel", "flies", "[Z", true)
  | 28 => ("BridleBookModel", "flyerOf", "[I", true)
  | 29 => ("BridleBookModel", "agreed", "[Z", true)
  | 30 => ("BridleBookModel", "direction", "I", false)
  | 31 => ("BridleBookModel", "shift", "I", false)
  | 32 => ("BridleBookModel", "trees", "I", false)
  | 33 => ("BridleBookModel", "tree", "[I", true)
  | 34 => ("BridleBookModel", "turnMany", "I", false)
  | 35 => ("BridleBookModel", "turnA", "[I", true)
  | 36 => ("BridleBookModel", "turnB", "[I", true)
  | _ => ("BridleBookModel", "turnWay", "[I", true)
def tyX8 : Nat → FieldType := fun k => match k with
  | 0 => .int
  | 1 => .int
  | 2 => .array .int
  | 3 => .array .int
  | 4 => .array .int
  | 5 => .array .int
  | 6 => .array .int
  | 7 => .array .int
  | 8 => .array .int
  | 9 => .array .int
  | 10 => .array .int
  | 11 => .array .int
  | 12 => .int
  | 13 => .array .int
  | 14 => .array .int
  | 15 => .array .int
  | 16 => .array .int
  | 17 => .array .int
  | 18 => .array .int
  | 19 => .array .int
  | 20 => .array .int
  | 21 => .array .int
  | 22 => .array .int
  | 23 => .int
  | 24 => .array .int
  | 25 => .array .int
  | 26 => .array .int
  | 27 => .array .boolean
  | 28 => .array .int
  | 29 => .array .boolean
  | 30 => .int
  | 31 => .int
  | 32 => .int
  | 33 => .array .int
  | 34 => .int
  | 35 => .array .int
  | 36 => .array .int
  | _ => .array .int
abbrev wsX80 : List Cond := u_ws RX8 TX8 38
theorem nmX8 : ∀ a, a < 38 → ∀ b, b < 38 → a ≠ b → (TX8 a).2.1 ≠ (TX8 b).2.1 := by decide +kernel
theorem tyX8_ok : ∀ k, k < 38 → parseFieldDescriptor (TX8 k).2.2.1 = some (tyX8 k) := by decide +kernel
abbrev cX8_in : ByteArray := prog_10_method_2_code
def yX8_in : MethodName := ⟨RX8, "in", "(III)Z"⟩
abbrev cX8_init : ByteArray := prog_10_method_3_code
def yX8_init : MethodName := ⟨RX8, "<init>", "()V"⟩
abbrev cX8_isKite : ByteArray := prog_10_method_4_code
def yX8_isKite : MethodName := ⟨RX8, "isKite", "(I)Z"⟩
abbrev cX8_isWind : ByteArray := prog_10_method_5_code
def yX8_isWind : MethodName := ⟨RX8, "isWind", "(I)Z"⟩
abbrev cX8_isAngle : ByteArray := prog_10_method_6_code
def yX8_isAngle : MethodName := ⟨RX8, "isAngle", "(I)Z"⟩
abbrev cX8_kite : ByteArray := prog_10_method_7_code
def yX8_kite : MethodName := ⟨RX8, "kite", "()I"⟩
abbrev cX8_panel : ByteArray := prog_10_method_8_code
def yX8_panel : MethodName := ⟨RX8, "panel", "(IIII)I"⟩
abbrev cX8_knot : ByteArray := prog_10_method_9_code
def yX8_knot : MethodName := ⟨RX8, "knot", "(II)I"⟩
abbrev cX8_table : ByteArray := prog_10_method_10_code
def yX8_table : MethodName := ⟨RX8, "table", "(III)I"⟩
abbrev cX8_weightOf : ByteArray := prog_10_method_11_code
def yX8_weightOf : MethodName := ⟨RX8, "weightOf", "(I)I"⟩
abbrev cX8_up : ByteArray := prog_10_method_12_code
def yX8_up : MethodName := ⟨RX8, "up", "(III)I"⟩
abbrev cX8_back : ByteArray := prog_10_method_13_code
def yX8_back : MethodName := ⟨RX8, "back", "(III)I"⟩
abbrev cX8_turns : ByteArray := prog_10_method_14_code
def yX8_turns : MethodName := ⟨RX8, "turns", "(III)I"⟩
abbrev cX8_force : ByteArray := prog_10_method_15_code
def yX8_force : MethodName := ⟨RX8, "force", "(IIII)I"⟩
abbrev cX8_standsAt : ByteArray := prog_10_method_16_code
def yX8_standsAt : MethodName := ⟨RX8, "standsAt", "(II)I"⟩
abbrev cX8_isSteady : ByteArray := prog_10_method_17_code
def yX8_isSteady : MethodName := ⟨RX8, "isSteady", "(III)Z"⟩
abbrev cX8_stands : ByteArray := prog_10_method_18_code
def yX8_stands : MethodName := ⟨RX8, "stands", "(II)I"⟩
abbrev cX8_steady : ByteArray := prog_10_method_19_code
def yX8_steady : MethodName := ⟨RX8, "steady", "(II)I"⟩
abbrev cX8_pullUp : ByteArray := prog_10_method_20_code
def yX8_pullUp : MethodName := ⟨RX8, "pullUp", "(II)I"⟩
abbrev cX8_pullBack : ByteArray := prog_10_method_21_code
def yX8_pullBack : MethodName := ⟨RX8, "pullBack", "(II)I"⟩
abbrev cX8_pull : ByteArray := prog_10_method_22_code
def yX8_pull : MethodName := ⟨RX8, "pull", "(III)I"⟩
abbrev cX8_trim : ByteArray := prog_10_method_23_code
def yX8_trim : MethodName := ⟨RX8, "trim", "(IIII)I"⟩
abbrev cX8_isLine : ByteArray := prog_10_method_24_code
def yX8_isLine : MethodName := ⟨RX8, "isLine", "(I)Z"⟩
abbrev cX8_isStep : ByteArray := prog_10_method_25_code
def yX8_isStep : MethodName := ⟨RX8, "isStep", "(II)Z"⟩
abbrev cX8_wind : ByteArray := prog_10_method_26_code
def yX8_wind : MethodName := ⟨RX8, "wind", "(II)I"⟩
abbrev cX8_line : ByteArray := prog_10_method_27_code
def yX8_line : MethodName := ⟨RX8, "line", "(III)I"⟩
abbrev cX8_kitesOn : ByteArray := prog_10_method_28_code
def yX8_kitesOn : MethodName := ⟨RX8, "kitesOn", "(I)I"⟩
abbrev cX8_tie : ByteArray := prog_10_method_29_code
def yX8_tie : MethodName := ⟨RX8, "tie", "(III)I"⟩
abbrev cX8_untie : ByteArray := prog_10_method_30_code
def yX8_untie : MethodName := ⟨RX8, "untie", "(I)I"⟩
abbrev cX8_isWeak : ByteArray := prog_10_method_31_code
def yX8_isWeak : MethodName := ⟨RX8, "isWeak", "(II)Z"⟩
abbrev cX8_weaken : ByteArray := prog_10_method_32_code
def yX8_weaken : MethodName := ⟨RX8, "weaken", "(II)I"⟩
abbrev cX8_windBand : ByteArray := prog_10_method_33_code
def yX8_windBand : MethodName := ⟨RX8, "windBand", "(I)I"⟩
abbrev cX8_root : ByteArray := prog_10_method_34_code
def yX8_root : MethodName := ⟨RX8, "root", "(J)I"⟩
abbrev cX8_stand : ByteArray := prog_10_method_35_code
def yX8_stand : MethodName := ⟨RX8, "stand", "(II)V"⟩
abbrev cX8_strengthAt : ByteArray := prog_10_method_36_code
def yX8_strengthAt : MethodName := ⟨RX8, "strengthAt", "(II)I"⟩
abbrev cX8_partsAt : ByteArray := prog_10_method_37_code
def yX8_partsAt : MethodName := ⟨RX8, "partsAt", "(I)I"⟩
abbrev cX8_lifts : ByteArray := prog_10_method_38_code
def yX8_lifts : MethodName := ⟨RX8, "lifts", "(II)I"⟩
abbrev cX8_ofLine : ByteArray := prog_10_method_39_code
def yX8_ofLine : MethodName := ⟨RX8, "ofLine", "(II)I"⟩
abbrev cX8_step : ByteArray := prog_10_method_40_code
def yX8_step : MethodName := ⟨RX8, "step", "(III)I"⟩
abbrev cX8_end : ByteArray := prog_10_method_41_code
def yX8_end : MethodName := ⟨RX8, "end", "(II)V"⟩
abbrev cX8_part : ByteArray := prog_10_method_42_code
def yX8_part : MethodName := ⟨RX8, "part", "(I)I"⟩
abbrev cX8_least : ByteArray := prog_10_method_43_code
def yX8_least : MethodName := ⟨RX8, "least", "(II)I"⟩
abbrev cX8_isFlyer : ByteArray := prog_10_method_44_code
def yX8_isFlyer : MethodName := ⟨RX8, "isFlyer", "(I)Z"⟩
abbrev cX8_isPlace : ByteArray := prog_10_method_45_code
def yX8_isPlace : MethodName := ⟨RX8, "isPlace", "(I)Z"⟩
abbrev cX8_flyer : ByteArray := prog_10_method_46_code
def yX8_flyer : MethodName := ⟨RX8, "flyer", "(II)I"⟩
abbrev cX8_blow : ByteArray := prog_10_method_47_code
def yX8_blow : MethodName := ⟨RX8, "blow", "(II)I"⟩
abbrev cX8_tree : ByteArray := prog_10_method_48_code
def yX8_tree : MethodName := ⟨RX8, "tree", "(I)I"⟩
abbrev cX8_agree : ByteArray := prog_10_method_49_code
def yX8_agree : MethodName := ⟨RX8, "agree", "(III)I"⟩
abbrev cX8_endOf : ByteArray := prog_10_method_50_code
def yX8_endOf : MethodName := ⟨RX8, "endOf", "(III)I"⟩
abbrev cX8_isInCone : ByteArray := prog_10_method_51_code
def yX8_isInCone : MethodName := ⟨RX8, "isInCone", "(II)Z"⟩
abbrev cX8_doMeet : ByteArray := prog_10_method_52_code
def yX8_doMeet : MethodName := ⟨RX8, "doMeet", "(II)Z"⟩
abbrev cX8_whyNot : ByteArray := prog_10_method_53_code
def yX8_whyNot : MethodName := ⟨RX8, "whyNot", "(I)I"⟩
abbrev cX8_fly : ByteArray := prog_10_method_54_code
def yX8_fly : MethodName := ⟨RX8, "fly", "(II)I"⟩
abbrev cX8_why : ByteArray := prog_10_method_55_code
def yX8_why : MethodName := ⟨RX8, "why", "(I)I"⟩
abbrev cX8_cone : ByteArray := prog_10_method_56_code
def yX8_cone : MethodName := ⟨RX8, "cone", "(II)I"⟩
abbrev cX8_wind0 : ByteArray := prog_10_method_57_code
def yX8_wind0 : MethodName := ⟨RX8, "wind0", "(III)V"⟩
abbrev cX8_lesser : ByteArray := prog_10_method_58_code
def yX8_lesser : MethodName := ⟨RX8, "lesser", "(II)I"⟩
abbrev cX8_greater : ByteArray := prog_10_method_59_code
def yX8_greater : MethodName := ⟨RX8, "greater", "(II)I"⟩
abbrev cX8_turn : ByteArray := prog_10_method_60_code
def yX8_turn : MethodName := ⟨RX8, "turn", "(III)I"⟩
abbrev cX8_turnsOf : ByteArray := prog_10_method_61_code
def yX8_turnsOf : MethodName := ⟨RX8, "turnsOf", "(II)I"⟩
abbrev cX8_tangled : ByteArray := prog_10_method_62_code
def yX8_tangled : MethodName := ⟨RX8, "tangled", "(II)I"⟩
abbrev cX8_has : ByteArray := prog_10_method_63_code
def yX8_has : MethodName := ⟨RX8, "has", "(II)Z"⟩
abbrev cX8_undo : ByteArray := prog_10_method_64_code
def yX8_undo : MethodName := ⟨RX8, "undo", "(I)I"⟩
abbrev cX8_unwind : ByteArray := prog_10_method_65_code
def yX8_unwind : MethodName := ⟨RX8, "unwind", "(I)I"⟩
abbrev cX8_cut : ByteArray := prog_10_method_66_code
def yX8_cut : MethodName := ⟨RX8, "cut", "(III)I"⟩
abbrev cX8_count : ByteArray := prog_10_method_67_code
def yX8_count : MethodName := ⟨RX8, "count", "(I)I"⟩
def RJ9 : String := "java/lang/Math"
def TJ9 : u_T := fun k => match k with
  | _ => ("", "", "", false)
def tyJ9 : Nat → FieldType := fun k => match k with
  | _ => .int
abbrev wsJ90 : List Cond := u_ws RJ9 TJ9 0
theorem nmJ9 : ∀ a, a < 0 → ∀ b, b < 0 → a ≠ b → (TJ9 a).2.1 ≠ (TJ9 b).2.1 := by decide +kernel
theorem tyJ9_ok : ∀ k, k < 0 → parseFieldDescriptor (TJ9 k).2.2.1 = some (tyJ9 k) := by decide +kernel
abbrev cJ9_abs_0f7a4 : ByteArray := prog_11_method_59_code
def yJ9_abs_0f7a4 : MethodName := ⟨RJ9, "abs", "(I)I"⟩
abbrev cJ9_abs_067f4 : ByteArray := prog_11_method_61_code
def yJ9_abs_067f4 : MethodName := ⟨RJ9, "abs", "(J)J"⟩
abbrev cJ9_max_7cf53 : ByteArray := prog_11_method_65_code
def yJ9_max_7cf53 : MethodName := ⟨RJ9, "max", "(II)I"⟩
abbrev cJ9_min_7cf53 : ByteArray := prog_11_method_69_code
def yJ9_min_7cf53 : MethodName := ⟨RJ9, "min", "(II)I"⟩
def RJ7 : String := "java/util/Arrays"
def TJ7 : u_T := fun k => match k with
  | _ => ("", "", "", false)
def tyJ7 : Nat → FieldType := fun k => match k with
  | _ => .int
abbrev wsJ70 : List Cond := u_ws RJ7 TJ7 0
theorem nmJ7 : ∀ a, a < 0 → ∀ b, b < 0 → a ≠ b → (TJ7 a).2.1 ≠ (TJ7 b).2.1 := by decide +kernel
theorem tyJ7_ok : ∀ k, k < 0 → parseFieldDescriptor (TJ7 k).2.2.1 = some (tyJ7 k) := by decide +kernel
abbrev cJ7_fill_53178 : ByteArray := prog_12_method_103_code
def yJ7_fill_53178 : MethodName := ⟨RJ7, "fill", "([II)V"⟩
def RL : String := "BridleBookLaw"
abbrev cL_law : ByteArray := code
def yL_law : MethodName := ⟨RL, "law", "([I)Z"⟩
abbrev vwCl : List vw_C := [(RX0, TX0, 4), (RX1, TX1, 4), (RX2, TX2, 7), (RX3, TX3, 5), (RX4, TX4, 2), (RX5, TX5, 2), (RX6, TX6, 2), (RX7, TX7, 17), (RX8, TX8, 38)]
end
section
/-! the worlds: every cell has a NAME (a number); ad gives its address; M name place the ints that it holds -/
def lw_g : List Cond := lw_tbl.filter goodWord
theorem lg_good {w : Cond} (h : w ∈ lw_g) : (w.onTables && w.keeps) = true ∨ ∃ ty, w = .arrayClass ty := good_of_word (List.mem_filter.mp h).2
theorem lg_sub {w : Cond} (h : w ∈ lw_g) : w ∈ lw_tbl := (List.mem_filter.mp h).1
theorem lg_goodIn {y : MethodName} {bytes : ByteArray} {maxL : Nat} {ret : Option FieldType} (h : Cond.code y bytes maxL ret ∈ lw_g) : GoodIn lw_g (Cond.code y bytes maxL ret :: lw_g) := by
  intro w hw
  rcases List.mem_cons.mp hw with rfl | hw
  · exact ⟨h, lg_good h⟩
  · exact ⟨hw, lg_good hw⟩
abbrev Mem : Type := Nat → Nat → Int32
abbrev GG : Type := (Nat → ClassId) × (Nat → Nat → Nat) × ClassId × ClassId × ClassId × ClassId × ClassId
def Gd (G : GG) : va_G := (G.1, G.2.1)
def tyG (G : GG) : List (ClassId × FieldType) := [(G.2.2.1, .int), (G.2.2.2.1, .boolean), (G.2.2.2.2.1, .object "BridleBook$Kite"), (G.2.2.2.2.2.1, .object "BridleBook$Line"), (G.2.2.2.2.2.2, .object "BridleBook$Flyer")]
def wd_len (n : Nat) : Nat :=
  if n = 2 then 20 else if n = 3 then 120 else if n = 4 then 120 else if n = 5 then 120 else if n = 6 then 20 else if n = 7 then 20 else if n = 8 then 20 else if n = 9 then 18 else if n = 10 then 18 else if n = 11 then 20 else
  if n = 13 then 10 else if n = 14 then 10 else if n = 15 then 10 else if n = 16 then 10 else if n = 17 then 100 else if n = 18 then 201 else if n = 19 then 201 else if n = 20 then 201 else if n = 21 then 201 else if n = 22 then 201 else
  if n = 24 then 10 else if n = 25 then 10 else if n = 26 then 10 else if n = 28 then 10 else if n = 33 then 20 else if n = 35 then 200 else if n = 36 then 200 else if n = 37 then 200 else
  if n = 54 then 20 else if n = 61 then 20 else if n = 70 then 18 else if n = 71 then 18 else if n = 72 then 202 else if n = 73 then 202 else if n = 74 then 200 else 0
def wd_model (ad : Nat → Nat) (g : Nat → Int32) : List Value := [.int (g 0), .int (g 1), .ref (ad 2), .ref (ad 3), .ref (ad 4), .ref (ad 5), .ref (ad 6), .ref (ad 7), .ref (ad 8), .ref (ad 9), .ref (ad 10), .ref (ad 11), .int (g 12), .ref (ad 13), .ref (ad 14), .ref (ad 15), .ref (ad 16), .ref (ad 17), .ref (ad 18), .ref (ad 19), .ref (ad 20), .ref (ad 21), .ref (ad 22), .int (g 23), .ref (ad 24), .ref (ad 25), .ref (ad 26), .ref (ad 27), .ref (ad 28), .ref (ad 29), .int (g 30), .int (g 31), .int (g 32), .ref (ad 33), .int (g 34), .ref (ad 35), .ref (ad 36), .ref (ad 37)]
def wd_book (ad : Nat → Nat) (g : Nat → Int32) : List Value := [.ref (ad 51), .ref (ad 52), .int (g 2), .ref (ad 54), .ref (ad 55), .int (g 5), .ref (ad 57), .ref (ad 58), .int (g 8), .ref (ad 60), .ref (ad 61), .int (g 11), .int (g 12), .int (g 13), .ref (ad 65), .ref (ad 66), .ref (ad 67)]
def wd_kite (ad : Nat → Nat) (n : Nat) (g : Nat → Int32) : List Value := [.ref (ad (n + 1)), .ref (ad (n + 2)), .ref (ad (n + 3)), .int (g 3), .int (g 4), .int (g 5), .int (g 6)]
def wd_line (ad : Nat → Nat) (n : Nat) (g : Nat → Int32) : List Value := [.int (g 0), .int (g 1), .int (g 2), .ref (ad (n + 1)), .int (g 4)]
def wd_4 (g : Nat → Int32) : List Value := [.int (g 0), .int (g 1), .int (g 2), .int (g 3)]
def wd_rfs (ad : Nat → Nat) (base step cnt : Nat) : Nat → Option Nat := fun j => if j < cnt then some (ad (base + step * j)) else none
def wd_fix (G : GG) (z ad : Nat → Nat) (g : Nat → Int32) (n : Nat) : va_E :=
  if n = 0 then .inr (8, wd_model ad g) else
  if n = 27 then .inl (G.2.2.2.1, 10, .inl g) else
  if n = 29 then .inl (G.2.2.2.1, 100, .inl g) else
  if n = 50 then .inr (7, wd_book ad g) else
  if n = 51 then .inr (4, [.ref (ad 70), .ref (ad 71)]) else
  if n = 52 then .inl (G.2.2.2.2.1, 20, .inr (.inr (.inr (.inr (wd_rfs ad 100 4 (z 0)))))) else
  if n = 55 then .inl (G.2.2.2.2.2.1, 10, .inr (.inr (.inr (.inr (wd_rfs ad 200 2 (z 1)))))) else
  if n = 57 then .inr (5, [.ref (ad 72), .ref (ad 73)]) else
  if n = 58 then .inl (G.2.2.2.2.2.2, 10, .inr (.inr (.inr (.inr (wd_rfs ad 300 1 (z 2)))))) else
  if n = 60 then .inl (G.2.2.2.1, 100, .inl g) else
  if n = 65 then .inr (0, wd_4 g) else
  if n = 66 then .inr (0, wd_4 g) else
  if n = 67 then .inr (6, [.ref (ad 74), .int (g 1)]) else
  .inl (G.2.2.1, wd_len n, .inl g)
def wd_cell (G : GG) (z ad : Nat → Nat) (M : Mem) (n : Nat) : va_E :=
  if n < 100 then wd_fix G z ad (M n) n else
  if n < 200 then (if n % 4 = 0 then .inr (2, wd_kite ad n (M n)) else .inl (G.2.2.1, 6, .inl (M n))) else
  if n < 300 then (if n % 2 = 0 then .inr (3, wd_line ad n (M n)) else .inl (G.2.2.1, 10, .inl (M n))) else
  .inr (1, wd_4 (M n))
def wd_f0 : List Nat := [0, 2, 3, 4, 5, 6, 7, 8, 9, 10, 11, 13, 14, 15, 16, 17, 18, 19, 20, 21, 22, 24, 25, 26, 27, 28, 29, 33, 35, 36, 37, 50, 51, 52, 54, 55, 57, 58, 60, 61, 65, 66, 67, 70, 71, 72, 73, 74]
def wd_nm (z : Nat → Nat) : List Nat := wd_f0 ++ ((List.range (4 * z 0)).map (100 + ·) ++ ((List.range (2 * z 1)).map (200 + ·) ++ (List.range (z 2)).map (300 + ·)))
def wd_W (G : GG) (z ad : Nat → Nat) (M : Mem) : va_W := (wd_nm z).map (fun n => (ad n, wd_cell G z ad M n))
theorem wd_cong {G : GG} {z ad : Nat → Nat} {M M' : Mem} {n : Nat} (h : M' n = M n) : wd_cell G z ad M' n = wd_cell G z ad M n := by
  unfold wd_cell
  rw [h]
theorem wd_at {G : GG} {z ad : Nat → Nat} {M : Mem} {n : Nat} (h : n ∈ wd_nm z) : ∃ k : Nat, (wd_nm z)[k]? = some n ∧ (wd_W G z ad M)[k]? = some (ad n, wd_cell G z ad M n) := by
  obtain ⟨k, hk⟩ := List.getElem?_of_mem h
  refine ⟨k, hk, ?_⟩
  simp [wd_W, hk]
theorem wd_set {G : GG} {z ad : Nat → Nat} {M M' : Mem} {A : Nat → Prop} {n k : Nat} {e : va_E} (hD : va_D A (wd_W G z ad M)) (hk : (wd_nm z)[k]? = some n) (he : wd_cell G z ad M' n = e) (hM : ∀ n', n' ≠ n → M' n' = M n') : (wd_W G z ad M).set k (ad n, e) = wd_W G z ad M' := by
  subst he
  apply List.ext_getElem?
  intro j
  have hkl : k < (wd_nm z).length := (List.getElem?_eq_some_iff.mp hk).1
  by_cases hj : k = j
  · subst hj
    rw [List.getElem?_set_self (by simpa [wd_W] using hkl)]
    simp [wd_W, hk]
  · rw [List.getElem?_set_ne hj]
    rcases hq : (wd_nm z)[j]? with _ | n'
    · simp [wd_W, hq]
    · have h1 : (wd_W G z ad M)[j]? = some (ad n', wd_cell G z ad M n') := by simp [wd_W, hq]
      have h2 : (wd_W G z ad M')[j]? = some (ad n', wd_cell G z ad M' n') := by simp [wd_W, hq]
      rw [h1, h2]
      by_cases hn : n' = n
      · subst hn
        exact absurd (hD.1 k j _ _ (show (wd_W G z ad M)[k]? = some (ad n', wd_cell G z ad M n') by simp [wd_W, hk]) h1 rfl) hj
      · rw [wd_cong (hM n' hn)]
def mu (M : Mem) (n k : Nat) (v : Int32) : Mem := va_up M n (va_up (M n) k v)
theorem mu_ne {M : Mem} {n k : Nat} {v : Int32} (n' : Nat) (h : n' ≠ n) : mu M n k v n' = M n' := by simp [mu, va_up, h]
theorem mu_eq {M : Mem} {n k : Nat} {v : Int32} : mu M n k v n = va_up (M n) k v := by simp [mu, va_up]
def vK (z : Nat → Nat) (n : Nat) : Prop := ∃ i : Nat, i < z 0 ∧ i < 25 ∧ n = 100 + 4 * i
def vL (z : Nat → Nat) (n : Nat) : Prop := ∃ i : Nat, i < z 1 ∧ i < 50 ∧ n = 200 + 2 * i
def vF (z : Nat → Nat) (n : Nat) : Prop := ∃ i : Nat, i < z 2 ∧ n = 300 + i
def vC (n : Nat) : Prop := n = 65 ∨ n = 66
theorem in_fix {z : Nat → Nat} {n : Nat} (h : n ∈ wd_f0) : n ∈ wd_nm z := List.mem_append_left _ h
theorem in_kite {z : Nat → Nat} {n : Nat} (h : vK z n) (j : Nat) (hj : j < 4) : n + j ∈ wd_nm z := by
  obtain ⟨i, h1, h2, rfl⟩ := h
  refine List.mem_append_right _ (List.mem_append_left _ (List.mem_map.mpr ⟨4 * i + j, List.mem_range.mpr (by omega), by omega⟩))
theorem in_line {z : Nat → Nat} {n : Nat} (h : vL z n) (j : Nat) (hj : j < 2) : n + j ∈ wd_nm z := by
  obtain ⟨i, h1, h2, rfl⟩ := h
  refine List.mem_append_right _ (List.mem_append_right _ (List.mem_append_left _ (List.mem_map.mpr ⟨2 * i + j, List.mem_range.mpr (by omega), by omega⟩)))
theorem in_flyer {z : Nat → Nat} {n : Nat} (h : vF z n) : n ∈ wd_nm z := by
  obtain ⟨i, h1, rfl⟩ := h
  refine List.mem_append_right _ (List.mem_append_right _ (List.mem_append_right _ (List.mem_map.mpr ⟨i, List.mem_range.mpr (by omega), by omega⟩)))
theorem in_cone {z : Nat → Nat} {n : Nat} (h : vC n) : n ∈ wd_nm z := by
  rcases h with rfl | rfl
  · exact in_fix (by decide)
  · exact in_fix (by decide)
theorem ce_kite {G : GG} {z ad : Nat → Nat} {M : Mem} {n : Nat} (h : vK z n) : wd_cell G z ad M n = .inr (2, wd_kite ad n (M n)) := by
  obtain ⟨i, h1, h2, rfl⟩ := h
  unfold wd_cell
  rw [if_neg (by omega), if_pos (by omega), if_pos (by omega)]
theorem ce_kiteA {G : GG} {z ad : Nat → Nat} {M : Mem} {n : Nat} (h : vK z n) (j : Nat) (h0 : 0 < j) (hj : j < 4) : wd_cell G z ad M (n + j) = .inl (G.2.2.1, 6, .inl (M (n + j))) := by
  obtain ⟨i, h1, h2, rfl⟩ := h
  unfold wd_cell
  rw [if_neg (by omega), if_pos (by omega), if_neg (by omega)]
theorem ce_line {G : GG} {z ad : Nat → Nat} {M : Mem} {n : Nat} (h : vL z n) : wd_cell G z ad M n = .inr (3, wd_line ad n (M n)) := by
  obtain ⟨i, h1, h2, rfl⟩ := h
  unfold wd_cell
  rw [if_neg (by omega), if_neg (by omega), if_pos (by omega), if_pos (by omega)]
theorem ce_lineA {G : GG} {z ad : Nat → Nat} {M : Mem} {n : Nat} (h : vL z n) : wd_cell G z ad M (n + 1) = .inl (G.2.2.1, 10, .inl (M (n + 1))) := by
  obtain ⟨i, h1, h2, rfl⟩ := h
  unfold wd_cell
  rw [if_neg (by omega), if_neg (by omega), if_pos (by omega), if_neg (by omega)]
theorem ce_flyer {G : GG} {z ad : Nat → Nat} {M : Mem} {n : Nat} (h : vF z n) : wd_cell G z ad M n = .inr (1, wd_4 (M n)) := by
  obtain ⟨i, h1, rfl⟩ := h
  unfold wd_cell
  rw [if_neg (by omega), if_neg (by omega), if_neg (by omega)]
theorem ce_cone {G : GG} {z ad : Nat → Nat} {M : Mem} {n : Nat} (h : vC n) : wd_cell G z ad M n = .inr (0, wd_4 (M n)) := by
  rcases h with rfl | rfl <;> rfl
/-- name n is an int array of len places -/
def IA (z : Nat → Nat) (n len : Nat) : Prop := n ∈ wd_nm z ∧ ∀ (G : GG) (ad : Nat → Nat) (M : Mem), wd_cell G z ad M n = .inl (G.2.2.1, len, .inl (M n))
def ZA (z : Nat → Nat) (n len : Nat) : Prop := n ∈ wd_nm z ∧ ∀ (G : GG) (ad : Nat → Nat) (M : Mem), wd_cell G z ad M n = .inl (G.2.2.2.1, len, .inl (M n))
/-- name n is an object of class ci; its fields are fs of its own ints -/
def OB (z : Nat → Nat) (n ci : Nat) (fs : (Nat → Nat) → (Nat → Int32) → List Value) : Prop := n ∈ wd_nm z ∧ ∀ (G : GG) (ad : Nat → Nat) (M : Mem), wd_cell G z ad M n = .inr (ci, fs ad (M n))
theorem ob_0 {z : Nat → Nat} : OB z 0 8 wd_model := ⟨in_fix (by decide), fun _ _ _ => rfl⟩
theorem ob_50 {z : Nat → Nat} : OB z 50 7 wd_book := ⟨in_fix (by decide), fun _ _ _ => rfl⟩
theorem ob_51 {z : Nat → Nat} : OB z 51 4 (fun ad _ => [.ref (ad 70), .ref (ad 71)]) := ⟨in_fix (by decide), fun _ _ _ => rfl⟩
theorem ob_57 {z : Nat → Nat} : OB z 57 5 (fun ad _ => [.ref (ad 72), .ref (ad 73)]) := ⟨in_fix (by decide), fun _ _ _ => rfl⟩
theorem ob_67 {z : Nat → Nat} : OB z 67 6 (fun ad g => [.ref (ad 74), .int (g 1)]) := ⟨in_fix (by decide), fun _ _ _ => rfl⟩
theorem ob_K {z : Nat → Nat} {n : Nat} (h : vK z n) : OB z n 2 (fun ad g => wd_kite ad n g) := ⟨in_kite h 0 (by decide), fun _ _ _ => ce_kite h⟩
theorem ob_L {z : Nat → Nat} {n : Nat} (h : vL z n) : OB z n 3 (fun ad g => wd_line ad n g) := ⟨in_line h 0 (by decide), fun _ _ _ => ce_line h⟩
theorem ob_F {z : Nat → Nat} {n : Nat} (h : vF z n) : OB z n 1 (fun _ g => wd_4 g) := ⟨in_flyer h, fun _ _ _ => ce_flyer h⟩
theorem ob_C {z : Nat → Nat} {n : Nat} (h : vC n) : OB z n 0 (fun _ g => wd_4 g) := ⟨in_cone h, fun _ _ _ => ce_cone h⟩
theorem ia_K1 {z : Nat → Nat} {n : Nat} (h : vK z n) : IA z (n + 1) 6 := ⟨in_kite h 1 (by decide), fun _ _ _ => ce_kiteA h 1 (by decide) (by decide)⟩
theorem ia_K2 {z : Nat → Nat} {n : Nat} (h : vK z n) : IA z (n + 2) 6 := ⟨in_kite h 2 (by decide), fun _ _ _ => ce_kiteA h 2 (by decide) (by decide)⟩
theorem ia_K3 {z : Nat → Nat} {n : Nat} (h : vK z n) : IA z (n + 3) 6 := ⟨in_kite h 3 (by decide), fun _ _ _ => ce_kiteA h 3 (by decide) (by decide)⟩
theorem ia_L1 {z : Nat → Nat} {n : Nat} (h : vL z n) : IA z (n + 1) 10 := ⟨in_line h 1 (by decide), fun _ _ _ => ce_lineA h⟩
theorem za_27 {z : Nat → Nat} : ZA z 27 10 := ⟨in_fix (by decide), fun _ _ _ => rfl⟩
theorem za_29 {z : Nat → Nat} : ZA z 29 100 := ⟨in_fix (by decide), fun _ _ _ => rfl⟩
theorem za_60 {z : Nat → Nat} : ZA z 60 100 := ⟨in_fix (by decide), fun _ _ _ => rfl⟩
theorem ia_2 {z : Nat → Nat} : IA z 2 20 := ⟨in_fix (by decide), fun _ _ _ => rfl⟩
theorem ia_3 {z : Nat → Nat} : IA z 3 120 := ⟨in_fix (by decide), fun _ _ _ => rfl⟩
theorem ia_4 {z : Nat → Nat} : IA z 4 120 := ⟨in_fix (by decide), fun _ _ _ => rfl⟩
theorem ia_5 {z : Nat → Nat} : IA z 5 120 := ⟨in_fix (by decide), fun _ _ _ => rfl⟩
theorem ia_6 {z : Nat → Nat} : IA z 6 20 := ⟨in_fix (by decide), fun _ _ _ => rfl⟩
theorem ia_7 {z : Nat → Nat} : IA z 7 20 := ⟨in_fix (by decide), fun _ _ _ => rfl⟩
theorem ia_8 {z : Nat → Nat} : IA z 8 20 := ⟨in_fix (by decide), fun _ _ _ => rfl⟩
theorem ia_9 {z : Nat → Nat} : IA z 9 18 := ⟨in_fix (by decide), fun _ _ _ => rfl⟩
theorem ia_10 {z : Nat → Nat} : IA z 10 18 := ⟨in_fix (by decide), fun _ _ _ => rfl⟩
theorem ia_11 {z : Nat → Nat} : IA z 11 20 := ⟨in_fix (by decide), fun _ _ _ => rfl⟩
theorem ia_13 {z : Nat → Nat} : IA z 13 10 := ⟨in_fix (by decide), fun _ _ _ => rfl⟩
theorem ia_14 {z : Nat → Nat} : IA z 14 10 := ⟨in_fix (by decide), fun _ _ _ => rfl⟩
theorem ia_15 {z : Nat → Nat} : IA z 15 10 := ⟨in_fix (by decide), fun _ _ _ => rfl⟩
theorem ia_16 {z : Nat → Nat} : IA z 16 10 := ⟨in_fix (by decide), fun _ _ _ => rfl⟩
theorem ia_17 {z : Nat → Nat} : IA z 17 100 := ⟨in_fix (by decide), fun _ _ _ => rfl⟩
theorem ia_18 {z : Nat → Nat} : IA z 18 201 := ⟨in_fix (by decide), fun _ _ _ => rfl⟩
theorem ia_19 {z : Nat → Nat} : IA z 19 201 := ⟨in_fix (by decide), fun _ _ _ => rfl⟩
theorem ia_20 {z : Nat → Nat} : IA z 20 201 := ⟨in_fix (by decide), fun _ _ _ => rfl⟩
theorem ia_21 {z : Nat → Nat} : IA z 21 201 := ⟨in_fix (by decide), fun _ _ _ => rfl⟩
theorem ia_22 {z : Nat → Nat} : IA z 22 201 := ⟨in_fix (by decide), fun _ _ _ => rfl⟩
theorem ia_24 {z : Nat → Nat} : IA z 24 10 := ⟨in_fix (by decide), fun _ _ _ => rfl⟩
theorem ia_25 {z : Nat → Nat} : IA z 25 10 := ⟨in_fix (by decide), fun _ _ _ => rfl⟩
theorem ia_26 {z : Nat → Nat} : IA z 26 10 := ⟨in_fix (by decide), fun _ _ _ => rfl⟩
theorem ia_28 {z : Nat → Nat} : IA z 28 10 := ⟨in_fix (by decide), fun _ _ _ => rfl⟩
theorem ia_33 {z : Nat → Nat} : IA z 33 20 := ⟨in_fix (by decide), fun _ _ _ => rfl⟩
theorem ia_35 {z : Nat → Nat} : IA z 35 200 := ⟨in_fix (by decide), fun _ _ _ => rfl⟩
theorem ia_36 {z : Nat → Nat} : IA z 36 200 := ⟨in_fix (by decide), fun _ _ _ => rfl⟩
theorem ia_37 {z : Nat → Nat} : IA z 37 200 := ⟨in_fix (by decide), fun _ _ _ => rfl⟩
theorem ia_54 {z : Nat → Nat} : IA z 54 20 := ⟨in_fix (by decide), fun _ _ _ => rfl⟩
theorem ia_61 {z : Nat → Nat} : IA z 61 20 := ⟨in_fix (by decide), fun _ _ _ => rfl⟩
theorem ia_70 {z : Nat → Nat} : IA z 70 18 := ⟨in_fix (by decide), fun _ _ _ => rfl⟩
theorem ia_71 {z : Nat → Nat} : IA z 71 18 := ⟨in_fix (by decide), fun _ _ _ => rfl⟩
theorem ia_72 {z : Nat → Nat} : IA z 72 202 := ⟨in_fix (by decide), fun _ _ _ => rfl⟩
theorem ia_73 {z : Nat → Nat} : IA z 73 202 := ⟨in_fix (by decide), fun _ _ _ => rfl⟩
theorem ia_74 {z : Nat → Nat} : IA z 74 200 := ⟨in_fix (by decide), fun _ _ _ => rfl⟩
end
section
/-! THE WALK: Go K nL a M pc lv st: the machine at pc with locals lv, stack st, any heap that holds the world of M, comes to the method's end -/
def nn_l : List (String × Nat × MethodName × String) := [("BridleBook", 41, yX5_init, "BridleBook"), ("BridleBook", 73, yX0_init, "BridleBook"), ("BridleBook", 83, yX6_init, "BridleBook"), ("BridleBook", 94, yX2_init, "BridleBook"), ("BridleBook$Tables", 18, yX7_isAngle, "BridleBook"), ("BridleBook$Train", 24, yX7_within, "BridleBook"), ("BridleBook$Cone", 42, yX7_within, "BridleBook")]
def NN (U : State) : Prop := ∀ q ∈ nn_l, va_Nw (.methodLinkNest q.1 q.2.1 q.2.2.1 q.2.2.2) U
theorem NN.warm {s U : State} (hW : s.WarmedH U.vm) (h : NN s) : NN U := fun q hq => va_Nw.warmM hW (h q hq)
theorem NN.same {s U : State} (e : s.vm = U.vm) (h : NN s) : NN U := fun q hq => va_Nw.same rfl e (h q hq)
abbrev KK : Type := Program × Launch × Env × Room × State × MethodId × Array Value × List Frame × Method × Code × (State → Prop) × (Nat → Prop) × GG × Nat × Nat
def kP (K : KK) : Program := K.1
def kL (K : KK) : Launch := K.2.1
def kE (K : KK) : Env := K.2.2.1
def kR (K : KK) : Room := K.2.2.2.1
def kS (K : KK) : State := K.2.2.2.2.1
def kM (K : KK) : MethodId := K.2.2.2.2.2.1
def kA (K : KK) : Array Value := K.2.2.2.2.2.2.1
def kB (K : KK) : List Frame := K.2.2.2.2.2.2.2.1
def kT (K : KK) : Method := K.2.2.2.2.2.2.2.2.1
def kC (K : KK) : Code := K.2.2.2.2.2.2.2.2.2.1
def kQ (K : KK) : State → Prop := K.2.2.2.2.2.2.2.2.2.2.1
def kF (K : KK) : Nat → Prop := K.2.2.2.2.2.2.2.2.2.2.2.1
def kG (K : KK) : GG := K.2.2.2.2.2.2.2.2.2.2.2.2.1
def kc (K : KK) : Nat := K.2.2.2.2.2.2.2.2.2.2.2.2.2.1
def ks (K : KK) : Nat := K.2.2.2.2.2.2.2.2.2.2.2.2.2.2
/-- the numbers of kites, lines, flyers made, the addresses -/
abbrev AA : Type := (Nat → Nat) × (Nat → Nat)
def go_W (K : KK) (H : Heap) (locs : List Loc) (g : JFrame) : Prop := W (kP K) (kL K) (kE K) (kR K) (kS K) (kM K) (kA K) (kB K) (kT K) (kC K) H locs (kc K) (ks K) (kQ K) g
def go_H (K : KK) (a : AA) (M : Mem) (H : Heap) (locs : List Loc) : Prop := va_P (Gd (kG K)) vwCl (wd_W (kG K) a.1 a.2 M) H ∧ va_D (kF K) (wd_W (kG K) a.1 a.2 M) ∧ va_S (kF K) (kS K).heap H locs
def Go (K : KK) (nL : Nat) (a : AA) (M : Mem) (pc : Nat) (lv : List (Nat × Value)) (st : List Value) : Prop := ∀ (H : Heap) (locs : List Loc) (ls : Array Slot), go_H K a M H locs → lv_has ls nL lv → go_W K H locs (F0 (kM K) pc ls st)
def Sx (K : KK) (own : String) (cc : ByteArray) (nL : Nat) (rm : Room) : Prop := (kP K).tables.exec = Jvm.exec ∧ (kC K).code = cc ∧ (kC K).maxLocals = nL ∧ (kS K).vm.findClass own = some (kM K).cls ∧ (∀ w ∈ lw_g, w.before (kA K) (kS K) = true) ∧ va_K (Gd (kG K)) vwCl (tyG (kG K)) (kS K) ∧ NN (kS K) ∧ (∀ q, (kS K).heap.size ≤ q → kF K q) ∧ kR K = rm ∧ kc K ≤ (kR K).cells ∧ ks K ≤ (kR K).slots
section SX
variable {K : KK} {own : String} {cc : ByteArray} {nL : Nat} {rm : Room} {a : AA} {M : Mem} {pc : Nat} {lv : List (Nat × Value)} {st : List Value}
theorem Go.sub {lv' : List (Nat × Value)} (ks : List Nat) (hl : lv_pick lv ks = lv') (k : Go K nL a M pc lv' st) : Go K nL a M pc lv st := fun H locs ls h1 h2 => k H locs ls h1 (lv_sub h2 ks hl)
theorem g_iconst {n : Int} {v : Int32} (S : Sx K own cc nL rm) (d : decode cc pc = .ok (.iconst n, 1)) (hv : Int32.ofInt n = v) (k : Go K nL a M (pc + 1) lv (.int v :: st)) : Go K nL a M pc lv st := fun H locs ls h1 h2 => lv_iconst S.1 S.2.1 d hv (k H locs ls h1 h2)
theorem g_bipush {n : Int} {v : Int32} (S : Sx K own cc nL rm) (d : decode cc pc = .ok (.bipush n, 2)) (hv : (Int8.ofInt n).toInt32 = v) (k : Go K nL a M (pc + 2) lv (.int v :: st)) : Go K nL a M pc lv st := fun H locs ls h1 h2 => lv_bipush S.1 S.2.1 d hv (k H locs ls h1 h2)
theorem g_sipush {n : Int} {v : Int32} (S : Sx K own cc nL rm) (d : decode cc pc = .ok (.sipush n, 3)) (hv : (Int16.ofInt n).toInt32 = v) (k : Go K nL a M (pc + 3) lv (.int v :: st)) : Go K nL a M pc lv st := fun H locs ls h1 h2 => lv_sipush S.1 S.2.1 d hv (k H locs ls h1 h2)
theorem g_lconst {n : Fin 2} {v : Int64} (S : Sx K own cc nL rm) (d : decode cc pc = .ok (.lconst n, 1)) (hv : Int64.ofNat (n : Nat) = v) (k : Go K nL a M (pc + 1) lv (.long v :: st)) : Go K nL a M pc lv st := fun H locs ls h1 h2 => lv_lconst S.1 S.2.1 d hv (k H locs ls h1 h2)
theorem g_null (S : Sx K own cc nL rm) (d : decode cc pc = .ok (.aconst_null, 1)) (k : Go K nL a M (pc + 1) lv (.null :: st)) : Go K nL a M pc lv st := fun H locs ls h1 h2 => lv_null S.1 S.2.1 d (k H locs ls h1 h2)
theorem g_ldc {index : Nat} {v : Int32} (S : Sx K own cc nL rm) (hc : Cond.constant own index v ∈ lw_g) (d : decode cc pc = .ok (.ldc index, 2)) (k : Go K nL a M (pc + 2) lv (.int v :: st)) : Go K nL a M pc lv st := fun H locs ls h1 h2 => lv_ldc S.1 S.2.1 S.2.2.2.1 (S.2.2.2.2.1 _ hc) d (k H locs ls h1 h2)
theorem g_ldcw {index : Nat} {v : Int32} (S : Sx K own cc nL rm) (hc : Cond.constant own index v ∈ lw_g) (d : decode cc pc = .ok (.ldc_w index, 3)) (k : Go K nL a M (pc + 3) lv (.int v :: st)) : Go K nL a M pc lv st := fun H locs ls h1 h2 => lv_ldcw S.1 S.2.1 S.2.2.2.1 (S.2.2.2.2.1 _ hc) d (k H locs ls h1 h2)
theorem g_ldc2 {index : Nat} {v : Int64} (S : Sx K own cc nL rm) (hc : Cond.constantLong own index v ∈ lw_g) (d : decode cc pc = .ok (.ldc2_w index, 3)) (k : Go K nL a M (pc + 3) lv (.long v :: st)) : Go K nL a M pc lv st := fun H locs ls h1 h2 => lv_ldc2 S.1 S.2.1 S.2.2.2.1 (S.2.2.2.2.1 _ hc) d (k H locs ls h1 h2)
theorem g_iload_n {k0 : Fin 4} {x : Int32} (q : Nat) (S : Sx K own cc nL rm) (d : decode cc pc = .ok (.iload_n k0, 1)) (hq : lv[q]? = some ((k0 : Nat), .int x)) (k : Go K nL a M (pc + 1) lv (.int x :: st)) : Go K nL a M pc lv st := fun H locs ls h1 h2 => lv_iload_n S.1 S.2.1 d rfl (lv_at h2 q hq) (k H locs ls h1 h2)
theorem g_iload {i : Nat} {x : Int32} (q : Nat) (S : Sx K own cc nL rm) (d : decode cc pc = .ok (.iload i, 2)) (hq : lv[q]? = some (i, .int x)) (k : Go K nL a M (pc + 2) lv (.int x :: st)) : Go K nL a M pc lv st := fun H locs ls h1 h2 => lv_iload S.1 S.2.1 d (lv_at h2 q hq) (k H locs ls h1 h2)
theorem g_lload_n {k0 : Fin 4} {x : Int64} (q : Nat) (S : Sx K own cc nL rm) (d : decode cc pc = .ok (.lload_n k0, 1)) (hq : lv[q]? = some ((k0 : Nat), .long x)) (k : Go K nL a M (pc + 1) lv (.long x :: st)) : Go K nL a M pc lv st := fun H locs ls h1 h2 => lv_lload_n S.1 S.2.1 d rfl (lv_at h2 q hq) (k H locs ls h1 h2)
theorem g_lload {i : Nat} {x : Int64} (q : Nat) (S : Sx K own cc nL rm) (d : decode cc pc = .ok (.lload i, 2)) (hq : lv[q]? = some (i, .long x)) (k : Go K nL a M (pc + 2) lv (.long x :: st)) : Go K nL a M pc lv st := fun H locs ls h1 h2 => lv_lload S.1 S.2.1 d (lv_at h2 q hq) (k H locs ls h1 h2)
theorem g_aload_n {k0 : Fin 4} {x : Nat} (q : Nat) (S : Sx K own cc nL rm) (d : decode cc pc = .ok (.aload_n k0, 1)) (hq : lv[q]? = some ((k0 : Nat), .ref x)) (k : Go K nL a M (pc + 1) lv (.ref x :: st)) : Go K nL a M pc lv st := fun H locs ls h1 h2 => lv_aload_n S.1 S.2.1 d rfl (lv_at h2 q hq) (k H locs ls h1 h2)
theorem g_aload {i : Nat} {x : Nat} (q : Nat) (S : Sx K own cc nL rm) (d : decode cc pc = .ok (.aload i, 2)) (hq : lv[q]? = some (i, .ref x)) (k : Go K nL a M (pc + 2) lv (.ref x :: st)) : Go K nL a M pc lv st := fun H locs ls h1 h2 => lv_aload S.1 S.2.1 d (lv_at h2 q hq) (k H locs ls h1 h2)
theorem g_aload_nN {k0 : Fin 4} (q : Nat) (S : Sx K own cc nL rm) (d : decode cc pc = .ok (.aload_n k0, 1)) (hq : lv[q]? = some ((k0 : Nat), .null)) (k : Go K nL a M (pc + 1) lv (.null :: st)) : Go K nL a M pc lv st := fun H locs ls h1 h2 => lv_aload_nN S.1 S.2.1 d rfl (lv_at h2 q hq) (k H locs ls h1 h2)
theorem g_aloadN {i : Nat} (q : Nat) (S : Sx K own cc nL rm) (d : decode cc pc = .ok (.aload i, 2)) (hq : lv[q]? = some (i, .null)) (k : Go K nL a M (pc + 2) lv (.null :: st)) : Go K nL a M pc lv st := fun H locs ls h1 h2 => lv_aloadN S.1 S.2.1 d (lv_at h2 q hq) (k H locs ls h1 h2)
theorem g_istore_n {k0 : Fin 4} {x : Int32} {lv' : List (Nat × Value)} (S : Sx K own cc nL rm) (d : decode cc pc = .ok (.istore_n k0, 1)) (hn : (k0 : Nat) < nL) (hl : ((k0 : Nat), Value.int x) :: lv.filter (fun q => !(q.1 == (k0 : Nat)) && !(q.1 + 1 == (k0 : Nat) && q.2.category == 2)) = lv') (k : Go K nL a M (pc + 1) lv' st) : Go K nL a M pc lv (.int x :: st) := fun H locs ls h1 h2 => lv_istore_n S.1 S.2.1 d rfl h2 hn hl (fun ls' h => k H locs ls' h1 h)
theorem g_istore {i : Nat} {x : Int32} {lv' : List (Nat × Value)} (S : Sx K own cc nL rm) (d : decode cc pc = .ok (.istore i, 2)) (hn : i < nL) (hl : (i, Value.int x) :: lv.filter (fun q => !(q.1 == i) && !(q.1 + 1 == i && q.2.category == 2)) = lv') (k : Go K nL a M (pc + 2) lv' st) : Go K nL a M pc lv (.int x :: st) := fun H locs ls h1 h2 => lv_istore S.1 S.2.1 d h2 hn hl (fun ls' h => k H locs ls' h1 h)
theorem g_lstore_n {k0 : Fin 4} {x : Int64} {lv' : List (Nat × Value)} (S : Sx K own cc nL rm) (d : decode cc pc = .ok (.lstore_n k0, 1)) (hn : (k0 : Nat) + 1 < nL) (hl : ((k0 : Nat), Value.long x) :: lv.filter (fun q => !(q.1 == (k0 : Nat)) && (!(q.1 == (k0 : Nat) + 1) && !(q.1 + 1 == (k0 : Nat) && q.2.category == 2))) = lv') (k : Go K nL a M (pc + 1) lv' st) : Go K nL a M pc lv (.long x :: st) := fun H locs ls h1 h2 => lv_lstore_n S.1 S.2.1 d rfl h2 hn hl (fun ls' h => k H locs ls' h1 h)
theorem g_lstore {i : Nat} {x : Int64} {lv' : List (Nat × Value)} (S : Sx K own cc nL rm) (d : decode cc pc = .ok (.lstore i, 2)) (hn : i + 1 < nL) (hl : (i, Value.long x) :: lv.filter (fun q => !(q.1 == i) && (!(q.1 == i + 1) && !(q.1 + 1 == i && q.2.category == 2))) = lv') (k : Go K nL a M (pc + 2) lv' st) : Go K nL a M pc lv (.long x :: st) := fun H locs ls h1 h2 => lv_lstore S.1 S.2.1 d h2 hn hl (fun ls' h => k H locs ls' h1 h)
theorem g_astore_n {k0 : Fin 4} {x : Nat} {lv' : List (Nat × Value)} (S : Sx K own cc nL rm) (d : decode cc pc = .ok (.astore_n k0, 1)) (hn : (k0 : Nat) < nL) (hl : ((k0 : Nat), Value.ref x) :: lv.filter (fun q => !(q.1 == (k0 : Nat)) && !(q.1 + 1 == (k0 : Nat) && q.2.category == 2)) = lv') (k : Go K nL a M (pc + 1) lv' st) : Go K nL a M pc lv (.ref x :: st) := fun H locs ls h1 h2 => lv_astore_n S.1 S.2.1 d rfl h2 hn hl (fun ls' h => k H locs ls' h1 h)
theorem g_astore {i : Nat} {x : Nat} {lv' : List (Nat × Value)} (S : Sx K own cc nL rm) (d : decode cc pc = .ok (.astore i, 2)) (hn : i < nL) (hl : (i, Value.ref x) :: lv.filter (fun q => !(q.1 == i) && !(q.1 + 1 == i && q.2.category == 2)) = lv') (k : Go K nL a M (pc + 2) lv' st) : Go K nL a M pc lv (.ref x :: st) := fun H locs ls h1 h2 => lv_astore S.1 S.2.1 d h2 hn hl (fun ls' h => k H locs ls' h1 h)
theorem g_astore_nN {k0 : Fin 4} {lv' : List (Nat × Value)} (S : Sx K own cc nL rm) (d : decode cc pc = .ok (.astore_n k0, 1)) (hn : (k0 : Nat) < nL) (hl : ((k0 : Nat), Value.null) :: lv.filter (fun q => !(q.1 == (k0 : Nat)) && !(q.1 + 1 == (k0 : Nat) && q.2.category == 2)) = lv') (k : Go K nL a M (pc + 1) lv' st) : Go K nL a M pc lv (.null :: st) := fun H locs ls h1 h2 => lv_astore_nN S.1 S.2.1 d rfl h2 hn hl (fun ls' h => k H locs ls' h1 h)
theorem g_astoreN {i : Nat} {lv' : List (Nat × Value)} (S : Sx K own cc nL rm) (d : decode cc pc = .ok (.astore i, 2)) (hn : i < nL) (hl : (i, Value.null) :: lv.filter (fun q => !(q.1 == i) && !(q.1 + 1 == i && q.2.category == 2)) = lv') (k : Go K nL a M (pc + 2) lv' st) : Go K nL a M pc lv (.null :: st) := fun H locs ls h1 h2 => lv_astoreN S.1 S.2.1 d h2 hn hl (fun ls' h => k H locs ls' h1 h)
theorem g_iinc {i : Nat} {n : Int} {x v : Int32} {lv' : List (Nat × Value)} (q : Nat) (S : Sx K own cc nL rm) (d : decode cc pc = .ok (.iinc i n, 3)) (hq : lv[q]? = some (i, .int x)) (hv : x + Int32.ofInt n = v) (hn : i < nL) (hl : (i, Value.int v) :: lv.filter (fun q => !(q.1 == i) && !(q.1 + 1 == i && q.2.category == 2)) = lv') (k : Go K nL a M (pc + 3) lv' st) : Go K nL a M pc lv st := fun H locs ls h1 h2 => lv_iinc S.1 S.2.1 d h2 hq hv hn hl (fun ls' h => k H locs ls' h1 h)
theorem g_iadd {x y : Int32} (S : Sx K own cc nL rm) (d : decode cc pc = .ok (.iadd, 1)) (k : Go K nL a M (pc + 1) lv (.int (x + y) :: st)) : Go K nL a M pc lv (.int y :: .int x :: st) := fun H locs ls h1 h2 => lv_iadd S.1 S.2.1 d (k H locs ls h1 h2)
theorem g_isub {x y : Int32} (S : Sx K own cc nL rm) (d : decode cc pc = .ok (.isub, 1)) (k : Go K nL a M (pc + 1) lv (.int (x - y) :: st)) : Go K nL a M pc lv (.int y :: .int x :: st) := fun H locs ls h1 h2 => lv_isub S.1 S.2.1 d (k H locs ls h1 h2)
theorem g_imul {x y : Int32} (S : Sx K own cc nL rm) (d : decode cc pc = .ok (.imul, 1)) (k : Go K nL a M (pc + 1) lv (.int (x * y) :: st)) : Go K nL a M pc lv (.int y :: .int x :: st) := fun H locs ls h1 h2 => lv_imul S.1 S.2.1 d (k H locs ls h1 h2)
theorem g_iand {x y : Int32} (S : Sx K own cc nL rm) (d : decode cc pc = .ok (.iand, 1)) (k : Go K nL a M (pc + 1) lv (.int (x &&& y) :: st)) : Go K nL a M pc lv (.int y :: .int x :: st) := fun H locs ls h1 h2 => lv_iand S.1 S.2.1 d (k H locs ls h1 h2)
theorem g_ineg {x : Int32} (S : Sx K own cc nL rm) (d : decode cc pc = .ok (.ineg, 1)) (k : Go K nL a M (pc + 1) lv (.int (-x) :: st)) : Go K nL a M pc lv (.int x :: st) := fun H locs ls h1 h2 => lv_ineg S.1 S.2.1 d (k H locs ls h1 h2)
theorem g_ladd {x y : Int64} (S : Sx K own cc nL rm) (d : decode cc pc = .ok (.ladd, 1)) (k : Go K nL a M (pc + 1) lv (.long (x + y) :: st)) : Go K nL a M pc lv (.long y :: .long x :: st) := fun H locs ls h1 h2 => lv_ladd S.1 S.2.1 d (k H locs ls h1 h2)
theorem g_lsub {x y : Int64} (S : Sx K own cc nL rm) (d : decode cc pc = .ok (.lsub, 1)) (k : Go K nL a M (pc + 1) lv (.long (x - y) :: st)) : Go K nL a M pc lv (.long y :: .long x :: st) := fun H locs ls h1 h2 => lv_lsub S.1 S.2.1 d (k H locs ls h1 h2)
theorem g_lmul {x y : Int64} (S : Sx K own cc nL rm) (d : decode cc pc = .ok (.lmul, 1)) (k : Go K nL a M (pc + 1) lv (.long (x * y) :: st)) : Go K nL a M pc lv (.long y :: .long x :: st) := fun H locs ls h1 h2 => lv_lmul S.1 S.2.1 d (k H locs ls h1 h2)
theorem g_lneg {x : Int64} (S : Sx K own cc nL rm) (d : decode cc pc = .ok (.lneg, 1)) (k : Go K nL a M (pc + 1) lv (.long (-x) :: st)) : Go K nL a M pc lv (.long x :: st) := fun H locs ls h1 h2 => lv_lneg S.1 S.2.1 d (k H locs ls h1 h2)
theorem g_i2l {x : Int32} (S : Sx K own cc nL rm) (d : decode cc pc = .ok (.i2l, 1)) (k : Go K nL a M (pc + 1) lv (.long x.toInt64 :: st)) : Go K nL a M pc lv (.int x :: st) := fun H locs ls h1 h2 => lv_i2l S.1 S.2.1 d rfl (k H locs ls h1 h2)
theorem g_l2i {x : Int64} (S : Sx K own cc nL rm) (d : decode cc pc = .ok (.l2i, 1)) (k : Go K nL a M (pc + 1) lv (.int x.toInt32 :: st)) : Go K nL a M pc lv (.long x :: st) := fun H locs ls h1 h2 => lv_l2i S.1 S.2.1 d rfl (k H locs ls h1 h2)
theorem g_lcmp {x y : Int64} (S : Sx K own cc nL rm) (d : decode cc pc = .ok (.lcmp, 1)) (k : Go K nL a M (pc + 1) lv (.int (lg_cmp x y) :: st)) : Go K nL a M pc lv (.long y :: .long x :: st) := fun H locs ls h1 h2 => W.lcmp S.1 S.2.1 d (k H locs ls h1 h2)
theorem g_dup {v : Value} (S : Sx K own cc nL rm) (d : decode cc pc = .ok (.dup, 1)) (hv : v.category = 1) (k : Go K nL a M (pc + 1) lv (v :: v :: st)) : Go K nL a M pc lv (v :: st) := fun H locs ls h1 h2 => lv_dup S.1 S.2.1 d hv (k H locs ls h1 h2)
theorem g_dup2 {v w : Value} (S : Sx K own cc nL rm) (d : decode cc pc = .ok (.dup2, 1)) (hv : v.category = 1) (hw : w.category = 1) (k : Go K nL a M (pc + 1) lv (v :: w :: v :: w :: st)) : Go K nL a M pc lv (v :: w :: st) := fun H locs ls h1 h2 => lv_dup2_11 S.1 S.2.1 d hv hw (k H locs ls h1 h2)
theorem g_pop {v : Value} (S : Sx K own cc nL rm) (d : decode cc pc = .ok (.pop, 1)) (hv : v.category = 1) (k : Go K nL a M (pc + 1) lv st) : Go K nL a M pc lv (v :: st) := fun H locs ls h1 h2 => lv_pop S.1 S.2.1 d hv (k H locs ls h1 h2)
theorem g_goto {off : Int} {tgt : Nat} (S : Sx K own cc nL rm) (d : decode cc pc = .ok (.goto off, 3)) (ht : (pc : Int) + off = (tgt : Int)) (k : Go K nL a M tgt lv st) : Go K nL a M pc lv st := fun H locs ls h1 h2 => lv_goto S.1 S.2.1 d ht (k H locs ls h1 h2)
theorem g_ifnull {x : Nat} {off : Int} (S : Sx K own cc nL rm) (d : decode cc pc = .ok (.ifnull off, 3)) (k : Go K nL a M (pc + 3) lv st) : Go K nL a M pc lv (.ref x :: st) := fun H locs ls h1 h2 => lv_ifnull S.1 S.2.1 d (k H locs ls h1 h2)
theorem g_ifnonnull {x : Nat} {off : Int} {tgt : Nat} (S : Sx K own cc nL rm) (d : decode cc pc = .ok (.ifnonnull off, 3)) (ht : (pc : Int) + off = (tgt : Int)) (k : Go K nL a M tgt lv st) : Go K nL a M pc lv (.ref x :: st) := fun H locs ls h1 h2 => lv_ifnonnull S.1 S.2.1 d ht (k H locs ls h1 h2)
theorem g_ifnullN {off : Int} {tgt : Nat} (S : Sx K own cc nL rm) (d : decode cc pc = .ok (.ifnull off, 3)) (ht : (pc : Int) + off = (tgt : Int)) (k : Go K nL a M tgt lv st) : Go K nL a M pc lv (.null :: st) := fun H locs ls h1 h2 => lv_ifnullN S.1 S.2.1 d ht (k H locs ls h1 h2)
theorem g_ifnonnullN {off : Int} (S : Sx K own cc nL rm) (d : decode cc pc = .ok (.ifnonnull off, 3)) (k : Go K nL a M (pc + 3) lv st) : Go K nL a M pc lv (.null :: st) := fun H locs ls h1 h2 => lv_ifnonnullN S.1 S.2.1 d (k H locs ls h1 h2)
end SX
end
section
/-! branches, checks, arrays, fields, calls, returns: each with the mirror's equation hf -/
def ck {α : Type} (b : Bool) (e : Option α) : Option α := if b = true then e else none
theorem ck_some {α : Type} {b : Bool} {e : Option α} {r : α} (h : ck b e = some r) : b = true ∧ e = some r := by
  cases b
  · simp [ck] at h
  · exact ⟨rfl, by simpa [ck] using h⟩
theorem ck_t {α : Type} {b : Bool} {e : Option α} (h : b = true) : ck b e = e := by simp [ck, h]
def bd1 {α β : Type} (f : Option α) (g : α → Option β) : Option β := match f with
  | some r => g r
  | none => none
def bd2 {α γ β : Type} (f : Option (α × γ)) (g : α → γ → Option β) : Option β := match f with
  | some r => g r.1 r.2
  | none => none
theorem bd1_some {α β : Type} {f : Option α} {g : α → Option β} {b : β} (h : bd1 f g = some b) : ∃ r, f = some r ∧ g r = some b := by
  cases f with
  | none => simp [bd1] at h
  | some r => exact ⟨r, rfl, h⟩
theorem bd2_some {α γ β : Type} {f : Option (α × γ)} {g : α → γ → Option β} {b : β} (h : bd2 f g = some b) : ∃ r t, f = some (r, t) ∧ g r t = some b := by
  cases f with
  | none => simp [bd2] at h
  | some r => exact ⟨r.1, r.2, rfl, h⟩
theorem bd1_t {α β : Type} {f : Option α} {g : α → Option β} {r : α} (h : f = some r) : bd1 f g = g r := by rw [h]; rfl
theorem bd2_t {α γ β : Type} {f : Option (α × γ)} {g : α → γ → Option β} {r : α} {t : γ} (h : f = some (r, t)) : bd2 f g = g r t := by rw [h]; rfl
theorem sp_if {α : Type} {c P : Prop} [Decidable c] {e1 e2 : Option α} {r : α} (h : (if c then e1 else e2) = some r) (k1 : c → e1 = some r → P) (k2 : ¬ c → e2 = some r → P) : P := by
  by_cases hc : c
  · rw [if_pos hc] at h
    exact k1 hc h
  · rw [if_neg hc] at h
    exact k2 hc h
def b2i (b : Bool) : Int32 := if b = true then 1 else 0
def inb (i : Int32) (n : Nat) : Bool := decide (0 ≤ i.toInt) && decide (i.toInt < (n : Int))
theorem inb_vp {i : Int32} {n : Nat} (h : inb i n = true) : vp_in i n := vp_in_iff.mpr (by simpa [inb] using h)
def irem (x y : Int32) : Int32 := x - x / y * y
theorem b2i_n (b : Bool) : narrow .boolean (.int (b2i b)) = .int (b2i b) := by cases b <;> rfl
def RtI (K : KK) (a : AA) (cc : ByteArray) (r : Int32) (M : Mem) : Prop := ∀ (pc : Nat) (H : Heap) (locs : List Loc) (ls : Array Slot), decode cc pc = .ok (.ireturn, 1) → go_H K a M H locs → go_W K H locs (F0 (kM K) pc ls [.int r])
def RtL (K : KK) (a : AA) (cc : ByteArray) (r : Int64) (M : Mem) : Prop := ∀ (pc : Nat) (H : Heap) (locs : List Loc) (ls : Array Slot), decode cc pc = .ok (.lreturn, 1) → go_H K a M H locs → go_W K H locs (F0 (kM K) pc ls [.long r])
def RtV (K : KK) (a : AA) (cc : ByteArray) (M : Mem) : Prop := ∀ (pc : Nat) (H : Heap) (locs : List Loc) (ls : Array Slot), decode cc pc = .ok (.return_, 1) → go_H K a M H locs → go_W K H locs (F0 (kM K) pc ls [])
def RtQ (K : KK) (a : AA) (cc : ByteArray) (r : Option Nat) (M : Mem) : Prop := ∀ (pc : Nat) (H : Heap) (locs : List Loc) (ls : Array Slot), decode cc pc = .ok (.areturn, 1) → go_H K a M H locs → go_W K H locs (F0 (kM K) pc ls [va_rf (r.map a.2)])
section SX
variable {K : KK} {own : String} {cc : ByteArray} {nL : Nat} {rm : Room} {a : AA} {M : Mem} {pc : Nat} {lv : List (Nat × Value)} {st : List Value} {α : Type} {res : α}
theorem g_iretP {r0 r : Int32} (rt : RtI K a cc r M) (hf : some r0 = some r) (d : decode cc pc = .ok (.ireturn, 1)) : Go K nL a M pc lv [.int r0] := fun H locs ls h1 _ => by cases hf; exact rt pc H locs ls d h1
theorem g_zretP {b0 b : Bool} (rt : RtI K a cc (b2i b) M) (hf : some b0 = some b) (d : decode cc pc = .ok (.ireturn, 1)) {v : Int32} (hv : v = b2i b0) : Go K nL a M pc lv [.int v] := fun H locs ls h1 _ => by cases hf; subst hv; exact rt pc H locs ls d h1
theorem g_lretP {r0 r : Int64} (rt : RtL K a cc r M) (hf : some r0 = some r) (d : decode cc pc = .ok (.lreturn, 1)) : Go K nL a M pc lv [.long r0] := fun H locs ls h1 _ => by cases hf; exact rt pc H locs ls d h1
theorem g_iretM {r0 r : Int32} {M' : Mem} (rt : RtI K a cc r M') (hf : some (r0, M) = some (r, M')) (d : decode cc pc = .ok (.ireturn, 1)) : Go K nL a M pc lv [.int r0] := fun H locs ls h1 _ => by cases hf; exact rt pc H locs ls d h1
theorem g_zretM {b0 b : Bool} {M' : Mem} (rt : RtI K a cc (b2i b) M') (hf : some (b0, M) = some (b, M')) (d : decode cc pc = .ok (.ireturn, 1)) {v : Int32} (hv : v = b2i b0) : Go K nL a M pc lv [.int v] := fun H locs ls h1 _ => by cases hf; subst hv; exact rt pc H locs ls d h1
theorem g_vretM {M' : Mem} (rt : RtV K a cc M') (hf : some M = some M') (d : decode cc pc = .ok (.return_, 1)) : Go K nL a M pc lv [] := fun H locs ls h1 _ => by cases hf; exact rt pc H locs ls d h1
theorem g_aretS {n : Nat} {r : Option Nat} (rt : RtQ K a cc r M) (hf : some (some n) = some r) (d : decode cc pc = .ok (.areturn, 1)) : Go K nL a M pc lv [.ref (a.2 n)] := fun H locs ls h1 _ => by cases hf; exact rt pc H locs ls d h1
theorem g_aretN {r : Option Nat} (rt : RtQ K a cc r M) (hf : some none = some r) (d : decode cc pc = .ok (.areturn, 1)) : Go K nL a M pc lv [.null] := fun H locs ls h1 _ => by cases hf; exact rt pc H locs ls d h1
theorem g_if_eq {x : Int32} {off : Int} {tgt : Nat} {et ef : Option α} (S : Sx K own cc nL rm) (d : decode cc pc = .ok (.ifCond .eq off, 3)) (ht : (pc : Int) + off = (tgt : Int)) (hf : (if x = 0 then et else ef) = some res) (k1 : x = 0 → et = some res → Go K nL a M tgt lv st) (k2 : ¬ x = 0 → ef = some res → Go K nL a M (pc + 3) lv st) : Go K nL a M pc lv (.int x :: st) := sp_if hf (fun c e H locs ls h1 h2 => lv_if_eq S.1 S.2.1 d ht (fun _ => k1 c e H locs ls h1 h2) (fun z => absurd c z)) (fun c e H locs ls h1 h2 => lv_if_eq S.1 S.2.1 d ht (fun z => absurd z c) (fun _ => k2 c e H locs ls h1 h2))
theorem g_if_ne {x : Int32} {off : Int} {tgt : Nat} {et ef : Option α} (S : Sx K own cc nL rm) (d : decode cc pc = .ok (.ifCond .ne off, 3)) (ht : (pc : Int) + off = (tgt : Int)) (hf : (if x = 0 then ef else et) = some res) (k1 : x = 0 → ef = some res → Go K nL a M (pc + 3) lv st) (k2 : ¬ x = 0 → et = some res → Go K nL a M tgt lv st) : Go K nL a M pc lv (.int x :: st) := sp_if hf (fun c e H locs ls h1 h2 => lv_if_ne S.1 S.2.1 d ht (fun z => absurd c z) (fun _ => k1 c e H locs ls h1 h2)) (fun c e H locs ls h1 h2 => lv_if_ne S.1 S.2.1 d ht (fun _ => k2 c e H locs ls h1 h2) (fun z => absurd z c))
theorem g_if_lt {x : Int32} {off : Int} {tgt : Nat} {et ef : Option α} (S : Sx K own cc nL rm) (d : decode cc pc = .ok (.ifCond .lt off, 3)) (ht : (pc : Int) + off = (tgt : Int)) (hf : (if x < 0 then et else ef) = some res) (k1 : x < 0 → et = some res → Go K nL a M tgt lv st) (k2 : ¬ x < 0 → ef = some res → Go K nL a M (pc + 3) lv st) : Go K nL a M pc lv (.int x :: st) := sp_if hf (fun c e H locs ls h1 h2 => lv_if_lt S.1 S.2.1 d ht (fun _ => k1 c e H locs ls h1 h2) (fun z => absurd c z)) (fun c e H locs ls h1 h2 => lv_if_lt S.1 S.2.1 d ht (fun z => absurd z c) (fun _ => k2 c e H locs ls h1 h2))
theorem g_if_ge {x : Int32} {off : Int} {tgt : Nat} {et ef : Option α} (S : Sx K own cc nL rm) (d : decode cc pc = .ok (.ifCond .ge off, 3)) (ht : (pc : Int) + off = (tgt : Int)) (hf : (if 0 ≤ x then et else ef) = some res) (k1 : 0 ≤ x → et = some res → Go K nL a M tgt lv st) (k2 : ¬ 0 ≤ x → ef = some res → Go K nL a M (pc + 3) lv st) : Go K nL a M pc lv (.int x :: st) := sp_if hf (fun c e H locs ls h1 h2 => lv_if_ge S.1 S.2.1 d ht (fun _ => k1 c e H locs ls h1 h2) (fun z => absurd c z)) (fun c e H locs ls h1 h2 => lv_if_ge S.1 S.2.1 d ht (fun z => absurd z c) (fun _ => k2 c e H locs ls h1 h2))
theorem g_if_gt {x : Int32} {off : Int} {tgt : Nat} {et ef : Option α} (S : Sx K own cc nL rm) (d : decode cc pc = .ok (.ifCond .gt off, 3)) (ht : (pc : Int) + off = (tgt : Int)) (hf : (if 0 < x then et else ef) = some res) (k1 : 0 < x → et = some res → Go K nL a M tgt lv st) (k2 : ¬ 0 < x → ef = some res → Go K nL a M (pc + 3) lv st) : Go K nL a M pc lv (.int x :: st) := sp_if hf (fun c e H locs ls h1 h2 => lv_if_gt S.1 S.2.1 d ht (fun _ => k1 c e H locs ls h1 h2) (fun z => absurd c z)) (fun c e H locs ls h1 h2 => lv_if_gt S.1 S.2.1 d ht (fun z => absurd z c) (fun _ => k2 c e H locs ls h1 h2))
theorem g_if_le {x : Int32} {off : Int} {tgt : Nat} {et ef : Option α} (S : Sx K own cc nL rm) (d : decode cc pc = .ok (.ifCond .le off, 3)) (ht : (pc : Int) + off = (tgt : Int)) (hf : (if x ≤ 0 then et else ef) = some res) (k1 : x ≤ 0 → et = some res → Go K nL a M tgt lv st) (k2 : ¬ x ≤ 0 → ef = some res → Go K nL a M (pc + 3) lv st) : Go K nL a M pc lv (.int x :: st) := sp_if hf (fun c e H locs ls h1 h2 => lv_if_le S.1 S.2.1 d ht (fun _ => k1 c e H locs ls h1 h2) (fun z => absurd c z)) (fun c e H locs ls h1 h2 => lv_if_le S.1 S.2.1 d ht (fun z => absurd z c) (fun _ => k2 c e H locs ls h1 h2))
theorem g_icmp_eq {x y : Int32} {off : Int} {tgt : Nat} {et ef : Option α} (S : Sx K own cc nL rm) (d : decode cc pc = .ok (.if_icmp .eq off, 3)) (ht : (pc : Int) + off = (tgt : Int)) (hf : (if x = y then et else ef) = some res) (k1 : x = y → et = some res → Go K nL a M tgt lv st) (k2 : ¬ x = y → ef = some res → Go K nL a M (pc + 3) lv st) : Go K nL a M pc lv (.int y :: .int x :: st) := sp_if hf (fun c e H locs ls h1 h2 => lv_icmp_eq S.1 S.2.1 d ht (fun _ => k1 c e H locs ls h1 h2) (fun z => absurd c z)) (fun c e H locs ls h1 h2 => lv_icmp_eq S.1 S.2.1 d ht (fun z => absurd z c) (fun _ => k2 c e H locs ls h1 h2))
theorem g_icmp_ne {x y : Int32} {off : Int} {tgt : Nat} {et ef : Option α} (S : Sx K own cc nL rm) (d : decode cc pc = .ok (.if_icmp .ne off, 3)) (ht : (pc : Int) + off = (tgt : Int)) (hf : (if x = y then ef else et) = some res) (k1 : x = y → ef = some res → Go K nL a M (pc + 3) lv st) (k2 : ¬ x = y → et = some res → Go K nL a M tgt lv st) : Go K nL a M pc lv (.int y :: .int x :: st) := sp_if hf (fun c e H locs ls h1 h2 => lv_icmp_ne S.1 S.2.1 d ht (fun z => absurd c z) (fun _ => k1 c e H locs ls h1 h2)) (fun c e H locs ls h1 h2 => lv_icmp_ne S.1 S.2.1 d ht (fun _ => k2 c e H locs ls h1 h2) (fun z => absurd z c))
theorem g_icmp_lt {x y : Int32} {off : Int} {tgt : Nat} {et ef : Option α} (S : Sx K own cc nL rm) (d : decode cc pc = .ok (.if_icmp .lt off, 3)) (ht : (pc : Int) + off = (tgt : Int)) (hf : (if x < y then et else ef) = some res) (k1 : x < y → et = some res → Go K nL a M tgt lv st) (k2 : ¬ x < y → ef = some res → Go K nL a M (pc + 3) lv st) : Go K nL a M pc lv (.int y :: .int x :: st) := sp_if hf (fun c e H locs ls h1 h2 => lv_icmp_lt S.1 S.2.1 d ht (fun _ => k1 c e H locs ls h1 h2) (fun z => absurd c z)) (fun c e H locs ls h1 h2 => lv_icmp_lt S.1 S.2.1 d ht (fun z => absurd z c) (fun _ => k2 c e H locs ls h1 h2))
theorem g_icmp_ge {x y : Int32} {off : Int} {tgt : Nat} {et ef : Option α} (S : Sx K own cc nL rm) (d : decode cc pc = .ok (.if_icmp .ge off, 3)) (ht : (pc : Int) + off = (tgt : Int)) (hf : (if y ≤ x then et else ef) = some res) (k1 : y ≤ x → et = some res → Go K nL a M tgt lv st) (k2 : ¬ y ≤ x → ef = some res → Go K nL a M (pc + 3) lv st) : Go K nL a M pc lv (.int y :: .int x :: st) := sp_if hf (fun c e H locs ls h1 h2 => lv_icmp_ge S.1 S.2.1 d ht (fun _ => k1 c e H locs ls h1 h2) (fun z => absurd c z)) (fun c e H locs ls h1 h2 => lv_icmp_ge S.1 S.2.1 d ht (fun z => absurd z c) (fun _ => k2 c e H locs ls h1 h2))
theorem g_icmp_gt {x y : Int32} {off : Int} {tgt : Nat} {et ef : Option α} (S : Sx K own cc nL rm) (d : decode cc pc = .ok (.if_icmp .gt off, 3)) (ht : (pc : Int) + off = (tgt : Int)) (hf : (if y < x then et else ef) = some res) (k1 : y < x → et = some res → Go K nL a M tgt lv st) (k2 : ¬ y < x → ef = some res → Go K nL a M (pc + 3) lv st) : Go K nL a M pc lv (.int y :: .int x :: st) := sp_if hf (fun c e H locs ls h1 h2 => lv_icmp_gt S.1 S.2.1 d ht (fun _ => k1 c e H locs ls h1 h2) (fun z => absurd c z)) (fun c e H locs ls h1 h2 => lv_icmp_gt S.1 S.2.1 d ht (fun z => absurd z c) (fun _ => k2 c e H locs ls h1 h2))
theorem g_icmp_le {x y : Int32} {off : Int} {tgt : Nat} {et ef : Option α} (S : Sx K own cc nL rm) (d : decode cc pc = .ok (.if_icmp .le off, 3)) (ht : (pc : Int) + off = (tgt : Int)) (hf : (if x ≤ y then et else ef) = some res) (k1 : x ≤ y → et = some res → Go K nL a M tgt lv st) (k2 : ¬ x ≤ y → ef = some res → Go K nL a M (pc + 3) lv st) : Go K nL a M pc lv (.int y :: .int x :: st) := sp_if hf (fun c e H locs ls h1 h2 => lv_icmp_le S.1 S.2.1 d ht (fun _ => k1 c e H locs ls h1 h2) (fun z => absurd c z)) (fun c e H locs ls h1 h2 => lv_icmp_le S.1 S.2.1 d ht (fun z => absurd z c) (fun _ => k2 c e H locs ls h1 h2))
/-- on a known number -/
theorem g_if_eqT {x : Int32} {off : Int} {tgt : Nat} (S : Sx K own cc nL rm) (d : decode cc pc = .ok (.ifCond .eq off, 3)) (ht : (pc : Int) + off = (tgt : Int)) (c : x = 0) (k : Go K nL a M tgt lv st) : Go K nL a M pc lv (.int x :: st) := fun H locs ls h1 h2 => lv_if_eq S.1 S.2.1 d ht (fun _ => k H locs ls h1 h2) (fun z => absurd c z)
theorem g_if_eqF {x : Int32} {off : Int} {tgt : Nat} (S : Sx K own cc nL rm) (d : decode cc pc = .ok (.ifCond .eq off, 3)) (ht : (pc : Int) + off = (tgt : Int)) (c : ¬ x = 0) (k : Go K nL a M (pc + 3) lv st) : Go K nL a M pc lv (.int x :: st) := fun H locs ls h1 h2 => lv_if_eq S.1 S.2.1 d ht (fun z => absurd z c) (fun _ => k H locs ls h1 h2)
theorem g_if_neF {x : Int32} {off : Int} {tgt : Nat} (S : Sx K own cc nL rm) (d : decode cc pc = .ok (.ifCond .ne off, 3)) (ht : (pc : Int) + off = (tgt : Int)) (c : x = 0) (k : Go K nL a M (pc + 3) lv st) : Go K nL a M pc lv (.int x :: st) := fun H locs ls h1 h2 => lv_if_ne S.1 S.2.1 d ht (fun z => absurd c z) (fun _ => k H locs ls h1 h2)
theorem g_if_neT {x : Int32} {off : Int} {tgt : Nat} (S : Sx K own cc nL rm) (d : decode cc pc = .ok (.ifCond .ne off, 3)) (ht : (pc : Int) + off = (tgt : Int)) (c : ¬ x = 0) (k : Go K nL a M tgt lv st) : Go K nL a M pc lv (.int x :: st) := fun H locs ls h1 h2 => lv_if_ne S.1 S.2.1 d ht (fun _ => k H locs ls h1 h2) (fun z => absurd z c)
theorem g_if_eqB {b : Bool} {off : Int} {tgt : Nat} {et ef : Option α} (S : Sx K own cc nL rm) (d : decode cc pc = .ok (.ifCond .eq off, 3)) (ht : (pc : Int) + off = (tgt : Int)) (hf : (if b = true then ef else et) = some res) (k1 : b = true → ef = some res → Go K nL a M (pc + 3) lv st) (k2 : ¬ b = true → et = some res → Go K nL a M tgt lv st) : Go K nL a M pc lv (.int (b2i b) :: st) := sp_if hf (fun c e => g_if_eqF S d ht (by rw [c]; decide) (k1 c e)) (fun c e => g_if_eqT S d ht (by rw [Bool.not_eq_true] at c; rw [c]; decide) (k2 c e))
theorem g_if_neB {b : Bool} {off : Int} {tgt : Nat} {et ef : Option α} (S : Sx K own cc nL rm) (d : decode cc pc = .ok (.ifCond .ne off, 3)) (ht : (pc : Int) + off = (tgt : Int)) (hf : (if b = true then et else ef) = some res) (k1 : b = true → et = some res → Go K nL a M tgt lv st) (k2 : ¬ b = true → ef = some res → Go K nL a M (pc + 3) lv st) : Go K nL a M pc lv (.int (b2i b) :: st) := sp_if hf (fun c e => g_if_neT S d ht (by rw [c]; decide) (k1 c e)) (fun c e => g_if_neF S d ht (by rw [Bool.not_eq_true] at c; rw [c]; decide) (k2 c e))
theorem lc_lt {x y : Int64} (h : x < y) : lg_cmp x y = -1 := by
  have h1 : ¬ y < x := by rw [Int64.lt_iff_toInt_lt] at h ⊢; omega
  have h2 : ¬ x = y := by intro e; subst e; rw [Int64.lt_iff_toInt_lt] at h; omega
  simp [lg_cmp, h1, h2]
theorem lc_gt {x y : Int64} (h : y < x) : lg_cmp x y = 1 := by
  have h1 : ¬ x < y := by rw [Int64.lt_iff_toInt_lt] at h ⊢; omega
  have h2 : ¬ x = y := by intro e; subst e; rw [Int64.lt_iff_toInt_lt] at h; omega
  simp [lg_cmp, h]
theorem lc_eq {x y : Int64} (h1 : ¬ x < y) (h2 : ¬ y < x) : lg_cmp x y = 0 := by
  have h3 : x = y := Int64.toInt_inj.mp (by rw [Int64.lt_iff_toInt_lt] at h1 h2; omega)
  subst h3
  simp [lg_cmp]
theorem lc_ge {x y : Int64} (h : ¬ x < y) : 0 ≤ lg_cmp x y := by
  by_cases h2 : y < x
  · rw [lc_gt h2]; decide
  · rw [lc_eq h h2]; decide
theorem lc_le {x y : Int64} (h : ¬ y < x) : lg_cmp x y ≤ 0 := by
  by_cases h2 : x < y
  · rw [lc_lt h2]; decide
  · rw [lc_eq h2 h]; decide
theorem g_ifl_ge {x y : Int64} {off : Int} {tgt : Nat} {et ef : Option α} (S : Sx K own cc nL rm) (d : decode cc pc = .ok (.ifCond .ge off, 3)) (ht : (pc : Int) + off = (tgt : Int)) (hf : (if x < y then ef else et) = some res) (k1 : x < y → ef = some res → Go K nL a M (pc + 3) lv st) (k2 : ¬ x < y → et = some res → Go K nL a M tgt lv st) : Go K nL a M pc lv (.int (lg_cmp x y) :: st) := sp_if hf (fun c e H locs ls h1 h2 => lv_if_ge S.1 S.2.1 d ht (fun z => absurd z (by rw [lc_lt c]; decide)) (fun _ => k1 c e H locs ls h1 h2)) (fun c e H locs ls h1 h2 => lv_if_ge S.1 S.2.1 d ht (fun _ => k2 c e H locs ls h1 h2) (fun z => absurd (lc_ge c) z))
theorem g_ifl_lt {x y : Int64} {off : Int} {tgt : Nat} {et ef : Option α} (S : Sx K own cc nL rm) (d : decode cc pc = .ok (.ifCond .lt off, 3)) (ht : (pc : Int) + off = (tgt : Int)) (hf : (if x < y then et else ef) = some res) (k1 : x < y → et = some res → Go K nL a M tgt lv st) (k2 : ¬ x < y → ef = some res → Go K nL a M (pc + 3) lv st) : Go K nL a M pc lv (.int (lg_cmp x y) :: st) := sp_if hf (fun c e H locs ls h1 h2 => lv_if_lt S.1 S.2.1 d ht (fun _ => k1 c e H locs ls h1 h2) (fun z => absurd (by rw [lc_lt c]; decide) z)) (fun c e H locs ls h1 h2 => lv_if_lt S.1 S.2.1 d ht (fun z => absurd (lc_ge c) (by rw [Int32.le_iff_toInt_le]; rw [Int32.lt_iff_toInt_lt] at z; omega)) (fun _ => k2 c e H locs ls h1 h2))
theorem g_ifl_le {x y : Int64} {off : Int} {tgt : Nat} {et ef : Option α} (S : Sx K own cc nL rm) (d : decode cc pc = .ok (.ifCond .le off, 3)) (ht : (pc : Int) + off = (tgt : Int)) (hf : (if y < x then ef else et) = some res) (k1 : y < x → ef = some res → Go K nL a M (pc + 3) lv st) (k2 : ¬ y < x → et = some res → Go K nL a M tgt lv st) : Go K nL a M pc lv (.int (lg_cmp x y) :: st) := sp_if hf (fun c e H locs ls h1 h2 => lv_if_le S.1 S.2.1 d ht (fun z => absurd z (by rw [lc_gt c]; decide)) (fun _ => k1 c e H locs ls h1 h2)) (fun c e H locs ls h1 h2 => lv_if_le S.1 S.2.1 d ht (fun _ => k2 c e H locs ls h1 h2) (fun z => absurd (lc_le c) z))
theorem g_ifl_gt {x y : Int64} {off : Int} {tgt : Nat} {et ef : Option α} (S : Sx K own cc nL rm) (d : decode cc pc = .ok (.ifCond .gt off, 3)) (ht : (pc : Int) + off = (tgt : Int)) (hf : (if y < x then et else ef) = some res) (k1 : y < x → et = some res → Go K nL a M tgt lv st) (k2 : ¬ y < x → ef = some res → Go K nL a M (pc + 3) lv st) : Go K nL a M pc lv (.int (lg_cmp x y) :: st) := sp_if hf (fun c e H locs ls h1 h2 => lv_if_gt S.1 S.2.1 d ht (fun _ => k1 c e H locs ls h1 h2) (fun z => absurd (by rw [lc_gt c]; decide) z)) (fun c e H locs ls h1 h2 => lv_if_gt S.1 S.2.1 d ht (fun z => absurd (lc_le c) (by rw [Int32.le_iff_toInt_le]; rw [Int32.lt_iff_toInt_lt] at z; omega)) (fun _ => k2 c e H locs ls h1 h2))
theorem g_idiv {x y : Int32} (S : Sx K own cc nL rm) (d : decode cc pc = .ok (.idiv, 1)) (hne : ¬ y = 0) (k : Go K nL a M (pc + 1) lv (.int (x / y) :: st)) : Go K nL a M pc lv (.int y :: .int x :: st) := fun H locs ls h1 h2 => lv_idiv S.1 S.2.1 d hne (k H locs ls h1 h2)
theorem g_irem {x y : Int32} (S : Sx K own cc nL rm) (d : decode cc pc = .ok (.irem, 1)) (hne : ¬ y = 0) (k : Go K nL a M (pc + 1) lv (.int (irem x y) :: st)) : Go K nL a M pc lv (.int y :: .int x :: st) := fun H locs ls h1 h2 => lv_irem S.1 S.2.1 d hne (k H locs ls h1 h2)
theorem g_ldiv {x y : Int64} (S : Sx K own cc nL rm) (d : decode cc pc = .ok (.ldiv, 1)) (hne : ¬ y = 0) (k : Go K nL a M (pc + 1) lv (.long (x / y) :: st)) : Go K nL a M pc lv (.long y :: .long x :: st) := fun H locs ls h1 h2 => lv_ldiv S.1 S.2.1 d hne (k H locs ls h1 h2)
theorem g_ldivC {x y : Int64} {e : Option α} (S : Sx K own cc nL rm) (d : decode cc pc = .ok (.ldiv, 1)) (hf : ck (decide (¬ y = 0)) e = some res) (k : e = some res → Go K nL a M (pc + 1) lv (.long (x / y) :: st)) : Go K nL a M pc lv (.long y :: .long x :: st) := g_ldiv S d (of_decide_eq_true (ck_some hf).1) (k (ck_some hf).2)
theorem g_iald {n len : Nat} {i : Int32} {e : Option α} (S : Sx K own cc nL rm) (o : IA a.1 n len) (d : decode cc pc = .ok (.iaload, 1)) (hf : ck (inb i len) e = some res) (k : e = some res → Go K nL a M (pc + 1) lv (.int (M n i.toNatClampNeg) :: st)) : Go K nL a M pc lv (.int i :: .ref (a.2 n) :: st) := fun H locs ls h1 h2 => by
  obtain ⟨q, -, hq⟩ := wd_at (G := kG K) (ad := a.2) (M := M) o.1
  rw [o.2] at hq
  exact va_iald S.1 S.2.1 S.2.2.2.2.2.1 h1.1 q 0 hq rfl (inb_vp (ck_some hf).1) d (k (ck_some hf).2 H locs ls h1 h2)
theorem g_zald {n len : Nat} {i : Int32} {e : Option α} (S : Sx K own cc nL rm) (o : ZA a.1 n len) (d : decode cc pc = .ok (.baload, 1)) (hf : ck (inb i len) e = some res) (k : e = some res → Go K nL a M (pc + 1) lv (.int (M n i.toNatClampNeg) :: st)) : Go K nL a M pc lv (.int i :: .ref (a.2 n) :: st) := fun H locs ls h1 h2 => by
  obtain ⟨q, -, hq⟩ := wd_at (G := kG K) (ad := a.2) (M := M) o.1
  rw [o.2] at hq
  exact va_zald S.1 S.2.1 S.2.2.2.2.2.1 h1.1 q 1 hq rfl (inb_vp (ck_some hf).1) d (k (ck_some hf).2 H locs ls h1 h2)
theorem g_iast {n len : Nat} {i x : Int32} {e : Option α} (S : Sx K own cc nL rm) (o : IA a.1 n len) (d : decode cc pc = .ok (.iastore, 1)) (hf : ck (inb i len) e = some res) (k : e = some res → Go K nL a (mu M n i.toNatClampNeg x) (pc + 1) lv st) : Go K nL a M pc lv (.int x :: .int i :: .ref (a.2 n) :: st) := fun H locs ls h1 h2 => by
  obtain ⟨q, hn, hq⟩ := wd_at (G := kG K) (ad := a.2) (M := M) o.1
  rw [o.2] at hq
  have e1 := wd_set (M' := mu M n i.toNatClampNeg x) (e := .inl ((kG K).2.2.1, len, .inl (upd (M n) i.toNatClampNeg x))) h1.2.1 hn (by rw [o.2, mu_eq]; rfl) (fun n' h => mu_ne n' h)
  refine va_iast S.1 S.2.1 S.2.2.2.2.2.1 h1.1 h1.2.1 h1.2.2 q 0 hq rfl (inb_vp (ck_some hf).1) d (fun H1 locs1 p1 p2 p3 => ?_)
  rw [e1] at p1 p2
  exact k (ck_some hf).2 H1 locs1 ls ⟨p1, p2, p3⟩ h2
theorem g_zast {n len : Nat} {i x : Int32} {e : Option α} (S : Sx K own cc nL rm) (o : ZA a.1 n len) (d : decode cc pc = .ok (.bastore, 1)) (hx : vp_nar .boolean x = x) (hf : ck (inb i len) e = some res) (k : e = some res → Go K nL a (mu M n i.toNatClampNeg x) (pc + 1) lv st) : Go K nL a M pc lv (.int x :: .int i :: .ref (a.2 n) :: st) := fun H locs ls h1 h2 => by
  obtain ⟨q, hn, hq⟩ := wd_at (G := kG K) (ad := a.2) (M := M) o.1
  rw [o.2] at hq
  have e1 := wd_set (M' := mu M n i.toNatClampNeg x) (e := .inl ((kG K).2.2.2.1, len, .inl (upd (M n) i.toNatClampNeg (vp_nar .boolean x)))) h1.2.1 hn (by rw [o.2, mu_eq, hx]; rfl) (fun n' h => mu_ne n' h)
  refine va_zast S.1 S.2.1 S.2.2.2.2.2.1 h1.1 h1.2.1 h1.2.2 q 1 hq rfl (inb_vp (ck_some hf).1) d (fun H1 locs1 p1 p2 p3 => ?_)
  rw [e1] at p1 p2
  exact k (ck_some hf).2 H1 locs1 ls ⟨p1, p2, p3⟩ h2
theorem g_alen {n len : Nat} {v : Int32} (S : Sx K own cc nL rm) (o : IA a.1 n len) (hv : Int32.ofNat len = v) (d : decode cc pc = .ok (.arraylength, 1)) (k : Go K nL a M (pc + 1) lv (.int v :: st)) : Go K nL a M pc lv (.ref (a.2 n) :: st) := fun H locs ls h1 h2 => by
  obtain ⟨q, -, hq⟩ := wd_at (G := kG K) (ad := a.2) (M := M) o.1
  rw [o.2] at hq
  exact va_alen S.1 S.2.1 S.2.2.2.2.2.1 h1.1 q 0 hq (ty := .int) rfl hv d (k H locs ls h1 h2)
theorem g_aald {n len t0 base step cnt : Nat} {C : String} {cA : ClassId} {i : Int32} {e1 e2 : Option α} (S : Sx K own cc nL rm) (hn : n ∈ wd_nm a.1) (hc : wd_cell (kG K) a.1 a.2 M n = .inl (cA, len, .inr (.inr (.inr (.inr (wd_rfs a.2 base step cnt)))))) (ht : (tyG (kG K))[t0]? = some (cA, .object C)) (d : decode cc pc = .ok (.aaload, 1)) (hf : ck (inb i len) (if i.toNatClampNeg < cnt then e1 else e2) = some res) (k1 : i.toNatClampNeg < cnt → e1 = some res → Go K nL a M (pc + 1) lv (.ref (a.2 (base + step * i.toNatClampNeg)) :: st)) (k2 : ¬ i.toNatClampNeg < cnt → e2 = some res → Go K nL a M (pc + 1) lv (.null :: st)) : Go K nL a M pc lv (.int i :: .ref (a.2 n) :: st) := fun H locs ls h1 h2 => by
  obtain ⟨q, -, hq⟩ := wd_at (G := kG K) (ad := a.2) (M := M) hn
  rw [hc] at hq
  refine va_aldq S.1 S.2.1 S.2.2.2.2.2.1 h1.1 q t0 hq ht (inb_vp (ck_some hf).1) d ?_
  refine sp_if (ck_some hf).2 (fun c e => ?_) (fun c e => ?_)
  · have e1 : wd_rfs a.2 base step cnt i.toNatClampNeg = some (a.2 (base + step * i.toNatClampNeg)) := by simp [wd_rfs, c]
    rw [e1]
    exact k1 c e H locs ls h1 h2
  · have e1 : wd_rfs a.2 base step cnt i.toNatClampNeg = none := by simp [wd_rfs, c]
    rw [e1]
    exact k2 c e H locs ls h1 h2
theorem g_get {n ci index N k : Nat} {fs : (Nat → Nat) → (Nat → Int32) → List Value} {C : String} {T : u_T} {v : Value} (S : Sx K own cc nL rm) (o : OB a.1 n ci fs) (hc : vwCl[ci]? = some (C, T, N)) (hin : ∀ w ∈ u_ws C T N, w ∈ lw_g) (hk : k < N) (hlink : Cond.fieldLink own index (T k).1 (T k).2.1 (T k).2.2.1 ∈ lw_g) (hv : (fs a.2 (M n))[k]? = some v) (d : decode cc pc = .ok (.getfield index, 3)) (kk : Go K nL a M (pc + 3) lv (v :: st)) : Go K nL a M pc lv (.ref (a.2 n) :: st) := fun H locs ls h1 h2 => by
  obtain ⟨q, -, hq⟩ := wd_at (G := kG K) (ad := a.2) (M := M) o.1
  rw [o.2] at hq
  exact va_get S.1 S.2.1 S.2.2.2.2.1 hin S.2.2.2.1 S.2.2.2.2.2.1 h1.1 q hq hc k hk (S.2.2.2.2.1 _ hlink) (fun _ h9 => h9) hv d (kk H locs ls h1 h2)
theorem g_put {n ci index N k : Nat} {fs : (Nat → Nat) → (Nat → Int32) → List Value} {C : String} {T : u_T} {x : Int32} {ty : FieldType} {ty0 : Nat → FieldType} (S : Sx K own cc nL rm) (o : OB a.1 n ci fs) (hc : vwCl[ci]? = some (C, T, N)) (hin : ∀ w ∈ u_ws C T N, w ∈ lw_g) (hty : ∀ k, k < N → parseFieldDescriptor (T k).2.2.1 = some (ty0 k)) (hnm : ∀ a, a < N → ∀ b, b < N → a ≠ b → (T a).2.1 ≠ (T b).2.1) (hk : k < N) (hlink : Cond.fieldLink own index (T k).1 (T k).2.1 (T k).2.2.1 ∈ lw_g) (hfin : (T k).2.2.2 = false) (hd : parseFieldDescriptor (T k).2.2.1 = some ty) (hx : narrow ty (.int x) = .int x) (hfit : fits ty (.int x) = true) (hl : k < (fs a.2 (M n)).length) (hs : (fs a.2 (M n)).set k (.int x) = fs a.2 (va_up (M n) k x)) (d : decode cc pc = .ok (.putfield index, 3)) (kk : Go K nL a (mu M n k x) (pc + 3) lv st) : Go K nL a M pc lv (.int x :: .ref (a.2 n) :: st) := fun H locs ls h1 h2 => by
  obtain ⟨q, hn, hq⟩ := wd_at (G := kG K) (ad := a.2) (M := M) o.1
  rw [o.2] at hq
  have e1 := wd_set (M' := mu M n k x) (e := .inr (ci, (fs a.2 (M n)).set k (.int x))) h1.2.1 hn (by rw [o.2, mu_eq, hs]) (fun n' h => mu_ne n' h)
  refine va_put S.1 S.2.1 S.2.2.2.2.1 hin ty0 hty hnm S.2.2.2.1 S.2.2.2.2.2.1 h1.1 h1.2.1 h1.2.2 q hq hc k hk (S.2.2.2.2.1 _ hlink) (fun _ h9 => h9) hfin hd hx hfit hl d (fun H1 locs1 p1 p2 p3 => ?_)
  rw [e1] at p1 p2
  exact kk H1 locs1 ls ⟨p1, p2, p3⟩ h2
theorem g_tabIn {dflt lo hi : Int} {offs : Array Int} {len : Nat} {x : Int32} {off : Int} {tgt : Nat} (v : Int32) (S : Sx K own cc nL rm) (d : decode cc pc = .ok (.tableswitch dflt lo hi offs, len)) (hx : x = v) (c1 : ¬ v.toInt < lo) (c2 : ¬ hi < v.toInt) (ho : offs[(v.toInt - lo).toNat]? = some off) (ht : (pc : Int) + off = (tgt : Int)) (k : Go K nL a M tgt lv st) : Go K nL a M pc lv (.int x :: st) := fun H locs ls h1 h2 => by
  subst hx
  exact lv_tableIn S.1 S.2.1 d c1 c2 ho ht (k H locs ls h1 h2)
theorem g_tabOut {dflt lo hi : Int} {offs : Array Int} {len : Nat} {x : Int32} {tgt : Nat} (S : Sx K own cc nL rm) (d : decode cc pc = .ok (.tableswitch dflt lo hi offs, len)) (h : x.toInt < lo ∨ hi < x.toInt) (ht : (pc : Int) + dflt = (tgt : Int)) (k : Go K nL a M tgt lv st) : Go K nL a M pc lv (.int x :: st) := fun H locs ls h1 h2 => lv_tableOut S.1 S.2.1 d h ht (k H locs ls h1 h2)
theorem sw_ne {x v : Int32} (h : ¬ x = v) : x.toInt ≠ v.toInt := fun e => h (Int32.toInt_inj.mp e)
end SX
end
section
/-! contracts, and calls by them -/
def Pc0 (G : GG) (a : AA) (M : Mem) (sz : Nat) (U : State) : Prop := U.heap.size = sz ∧ va_P (Gd G) vwCl (wd_W G a.1 a.2 M) U.heap ∧ va_K (Gd G) vwCl (tyG G) U ∧ va_D (fun _ => True) (wd_W G a.1 a.2 M) ∧ NN U
def B0 (G : GG) (a : AA) (A : Nat → Prop) (M : Mem) (t : State) : Prop := va_P (Gd G) vwCl (wd_W G a.1 a.2 M) t.heap ∧ va_D A (wd_W G a.1 a.2 M)
def CtI (l : Launch) (G : GG) (a : AA) (y : MethodName) (cc : ByteArray) (mL : Nat) (ty : FieldType) (rm : Room) (av : List Value) (M : Mem) (r : Int32) (M' : Mem) : Prop := ∀ sz : Nat, Met l y (.code y cc mL (some ty) :: lw_g) rm (va_Pc av (Pc0 G a M sz)) (va_Qi (fun r0 (u : Mem) => r0 = r ∧ u = M') (B0 G a (va_A (wd_W G a.1 a.2 M) sz)) (va_A (wd_W G a.1 a.2 M) sz)) 0 0 (va_A (wd_W G a.1 a.2 M) sz)
def CtL (l : Launch) (G : GG) (a : AA) (y : MethodName) (cc : ByteArray) (mL : Nat) (rm : Room) (av : List Value) (M : Mem) (r : Int64) (M' : Mem) : Prop := ∀ sz : Nat, Met l y (.code y cc mL (some .long) :: lw_g) rm (va_Pc av (Pc0 G a M sz)) (va_Ql (fun r0 (u : Mem) => r0 = r ∧ u = M') (B0 G a (va_A (wd_W G a.1 a.2 M) sz)) (va_A (wd_W G a.1 a.2 M) sz)) 0 0 (va_A (wd_W G a.1 a.2 M) sz)
def CtV (l : Launch) (G : GG) (a : AA) (y : MethodName) (cc : ByteArray) (mL : Nat) (rm : Room) (av : List Value) (M : Mem) (M' : Mem) : Prop := ∀ sz : Nat, Met l y (.code y cc mL none :: lw_g) rm (va_Pc av (Pc0 G a M sz)) (va_Qv (fun (u : Mem) => u = M') (B0 G a (va_A (wd_W G a.1 a.2 M) sz)) (va_A (wd_W G a.1 a.2 M) sz)) 0 0 (va_A (wd_W G a.1 a.2 M) sz)
def CtQ (l : Launch) (G : GG) (a : AA) (y : MethodName) (cc : ByteArray) (mL : Nat) (C : String) (rm : Room) (av : List Value) (M : Mem) (r : Option Nat) (M' : Mem) : Prop := ∀ sz : Nat, Met l y (.code y cc mL (some (.object C)) :: lw_g) rm (va_Pc av (Pc0 G a M sz)) (va_Qq (fun r0 (u : Mem) => r0 = r.map a.2 ∧ u = M') (B0 G a (va_A (wd_W G a.1 a.2 M) sz)) (va_A (wd_W G a.1 a.2 M) sz)) 0 0 (va_A (wd_W G a.1 a.2 M) sz)
theorem pc_blind {av : List Value} {G : GG} {a : AA} {M : Mem} {sz : Nat} : FrameBlind (va_Pc av (Pc0 G a M sz)) := by
  intro b U g mk q
  obtain ⟨q0, q1, qP, qK, qD, qN⟩ := q
  exact ⟨q0, q1, qP, va_K.moved (u := U) (U := U.calling g mk b) (Vm.Alike.refl U.vm) qK, qD, NN.same rfl qN⟩
section EN
variable {l : Launch} {G : GG} {a : AA} {y : MethodName} {cc : ByteArray} {mL : Nat} {rm : Room} {av : List Value} {M M' : Mem} {own : String}
theorem ct_I {ty : FieldType} {r : Int32} (hy : plainName y.cls = true) (hown : y.cls = own) (hn : narrow ty (.int r) = .int r) (hlen : (lg_sl av).length ≤ mL) (body : ∀ K : KK, kL K = l → kG K = G → Sx K own cc mL rm → RtI K a cc r M' → Go K mL a M 0 (lv_args 0 av) []) : CtI l G a y cc mL ty rm av M r M' := by
  intro sz
  refine Met.ofW (cc := cc) (maxL := mL) (ret := some ty) hy rfl ?_
  intro p e s m args below meth c s₁ B hml hv
  obtain ⟨rfl, hsz, hP, hK, hD0, hN⟩ := hv
  have hts := atoms_spec (ws := .code y cc mL (some ty) :: lw_g) B.pre
  have hf : s.vm.findClass y.cls = some m.cls := findClass_of_methodNamed B.named
  rw [hown] at hf
  subst hsz
  have hD := hD0.self (sz := s.heap.size)
  rw [lg_entry_eq]
  have hl := lv_entry av hlen
  have hlocks := B.notSynchronized
  exact body (p, l, e, rm, s, m, av.toArray, below, meth, c, MQ below (va_Qi (fun r0 (u : Mem) => r0 = r ∧ u = M') (B0 G a (va_A (wd_W G a.1 a.2 M) s.heap.size)) (va_A (wd_W G a.1 a.2 M) s.heap.size)) av.toArray s 0 0 (va_A (wd_W G a.1 a.2 M) s.heap.size), va_A (wd_W G a.1 a.2 M) s.heap.size, G, 0, 0) rfl rfl ⟨B.exec, B.bytes, hml, hf, fun w hw => hts w (List.mem_cons_of_mem _ hw), hK, hN, fun q hq => Or.inr hq, rfl, Nat.zero_le _, Nat.zero_le _⟩ (fun pc H locs ls d h => W.zret B.exec B.bytes B.returns hn (fun t ht hW => ⟨⟨r, M', rfl, ⟨rfl, rfl⟩, by rw [ht]; exact h.1, h.2.1⟩, h.2.2.F ht⟩) h.2.2.2.2 d hlocks) s.heap [] _ ⟨hP, hD, va_S.rf⟩ hl
theorem ct_L {r : Int64} (hy : plainName y.cls = true) (hown : y.cls = own) (hlen : (lg_sl av).length ≤ mL) (body : ∀ K : KK, kL K = l → kG K = G → Sx K own cc mL rm → RtL K a cc r M' → Go K mL a M 0 (lv_args 0 av) []) : CtL l G a y cc mL rm av M r M' := by
  intro sz
  refine Met.ofW (cc := cc) (maxL := mL) (ret := some .long) hy rfl ?_
  intro p e s m args below meth c s₁ B hml hv
  obtain ⟨rfl, hsz, hP, hK, hD0, hN⟩ := hv
  have hts := atoms_spec (ws := .code y cc mL (some .long) :: lw_g) B.pre
  have hf : s.vm.findClass y.cls = some m.cls := findClass_of_methodNamed B.named
  rw [hown] at hf
  subst hsz
  have hD := hD0.self (sz := s.heap.size)
  rw [lg_entry_eq]
  have hl := lv_entry av hlen
  have hlocks := B.notSynchronized
  exact body (p, l, e, rm, s, m, av.toArray, below, meth, c, MQ below (va_Ql (fun r0 (u : Mem) => r0 = r ∧ u = M') (B0 G a (va_A (wd_W G a.1 a.2 M) s.heap.size)) (va_A (wd_W G a.1 a.2 M) s.heap.size)) av.toArray s 0 0 (va_A (wd_W G a.1 a.2 M) s.heap.size), va_A (wd_W G a.1 a.2 M) s.heap.size, G, 0, 0) rfl rfl ⟨B.exec, B.bytes, hml, hf, fun w hw => hts w (List.mem_cons_of_mem _ hw), hK, hN, fun q hq => Or.inr hq, rfl, Nat.zero_le _, Nat.zero_le _⟩ (fun pc H locs ls d h => W.lret B.exec B.bytes B.returns (fun t ht hW => ⟨⟨r, M', rfl, ⟨rfl, rfl⟩, by rw [ht]; exact h.1, h.2.1⟩, h.2.2.F ht⟩) h.2.2.2.2 d hlocks) s.heap [] _ ⟨hP, hD, va_S.rf⟩ hl
theorem ct_V (hy : plainName y.cls = true) (hown : y.cls = own) (hlen : (lg_sl av).length ≤ mL) (body : ∀ K : KK, kL K = l → kG K = G → Sx K own cc mL rm → RtV K a cc M' → Go K mL a M 0 (lv_args 0 av) []) : CtV l G a y cc mL rm av M M' := by
  intro sz
  refine Met.ofW (cc := cc) (maxL := mL) (ret := none) hy rfl ?_
  intro p e s m args below meth c s₁ B hml hv
  obtain ⟨rfl, hsz, hP, hK, hD0, hN⟩ := hv
  have hts := atoms_spec (ws := .code y cc mL none :: lw_g) B.pre
  have hf : s.vm.findClass y.cls = some m.cls := findClass_of_methodNamed B.named
  rw [hown] at hf
  subst hsz
  have hD := hD0.self (sz := s.heap.size)
  rw [lg_entry_eq]
  have hl := lv_entry av hlen
  have hlocks := B.notSynchronized
  exact body (p, l, e, rm, s, m, av.toArray, below, meth, c, MQ below (va_Qv (fun (u : Mem) => u = M') (B0 G a (va_A (wd_W G a.1 a.2 M) s.heap.size)) (va_A (wd_W G a.1 a.2 M) s.heap.size)) av.toArray s 0 0 (va_A (wd_W G a.1 a.2 M) s.heap.size), va_A (wd_W G a.1 a.2 M) s.heap.size, G, 0, 0) rfl rfl ⟨B.exec, B.bytes, hml, hf, fun w hw => hts w (List.mem_cons_of_mem _ hw), hK, hN, fun q hq => Or.inr hq, rfl, Nat.zero_le _, Nat.zero_le _⟩ (fun pc H locs ls d h => W.vret B.exec B.bytes B.returns (fun t ht hW => ⟨⟨M', rfl, rfl, by rw [ht]; exact h.1, h.2.1⟩, h.2.2.F ht⟩) h.2.2.2.2 d hlocks) s.heap [] _ ⟨hP, hD, va_S.rf⟩ hl
theorem ct_Q {C : String} {r : Option Nat} (hy : plainName y.cls = true) (hown : y.cls = own) (hlen : (lg_sl av).length ≤ mL) (body : ∀ K : KK, kL K = l → kG K = G → Sx K own cc mL rm → RtQ K a cc r M' → Go K mL a M 0 (lv_args 0 av) []) : CtQ l G a y cc mL C rm av M r M' := by
  intro sz
  refine Met.ofW (cc := cc) (maxL := mL) (ret := some (.object C)) hy rfl ?_
  intro p e s m args below meth c s₁ B hml hv
  obtain ⟨rfl, hsz, hP, hK, hD0, hN⟩ := hv
  have hts := atoms_spec (ws := .code y cc mL (some (.object C)) :: lw_g) B.pre
  have hf : s.vm.findClass y.cls = some m.cls := findClass_of_methodNamed B.named
  rw [hown] at hf
  subst hsz
  have hD := hD0.self (sz := s.heap.size)
  rw [lg_entry_eq]
  have hl := lv_entry av hlen
  have hlocks := B.notSynchronized
  exact body (p, l, e, rm, s, m, av.toArray, below, meth, c, MQ below (va_Qq (fun r0 (u : Mem) => r0 = r.map a.2 ∧ u = M') (B0 G a (va_A (wd_W G a.1 a.2 M) s.heap.size)) (va_A (wd_W G a.1 a.2 M) s.heap.size)) av.toArray s 0 0 (va_A (wd_W G a.1 a.2 M) s.heap.size), va_A (wd_W G a.1 a.2 M) s.heap.size, G, 0, 0) rfl rfl ⟨B.exec, B.bytes, hml, hf, fun w hw => hts w (List.mem_cons_of_mem _ hw), hK, hN, fun q hq => Or.inr hq, rfl, Nat.zero_le _, Nat.zero_le _⟩ (fun pc H locs ls d h => W.aret B.exec B.bytes B.returns (Or.inl ⟨C, rfl⟩) (by cases r with | none => exact Or.inl rfl | some x => exact Or.inr ⟨a.2 x, rfl⟩) (fun t ht hW => ⟨⟨r.map a.2, M', rfl, ⟨rfl, rfl⟩, by rw [ht]; exact h.1, h.2.1⟩, h.2.2.F ht⟩) h.2.2.2.2 d hlocks) s.heap [] _ ⟨hP, hD, va_S.rf⟩ hl
end EN
/-- what a call needs to know of the method itself -/
def OkS (y : MethodName) (bytes : ByteArray) (maxL : Nat) (ret : Option FieldType) (n : Nat) : Prop := Cond.code y bytes maxL ret ∈ lw_g ∧ Cond.static y ∈ lw_g ∧ Cond.initialized y.cls ∈ lw_g ∧ (y.cls ≠ "java/lang/invoke/MethodHandle" ∧ y.cls ≠ "java/lang/invoke/VarHandle" ∧ (parseMethodDescriptor y.desc).map (fun d => d.parameters.length) = some n)
def OkV (y : MethodName) (bytes : ByteArray) (maxL : Nat) (ret : Option FieldType) (n : Nat) : Prop := Cond.code y bytes maxL ret ∈ lw_g ∧ Cond.instanceMethod y ∈ lw_g ∧ Cond.selects y.cls y y ∈ lw_g ∧ Cond.initialized y.cls ∈ lw_g ∧ (y.cls ≠ "java/lang/invoke/MethodHandle" ∧ y.cls ≠ "java/lang/invoke/VarHandle" ∧ (parseMethodDescriptor y.desc).map (fun d => d.parameters.length) = some n)
section CA
variable {K : KK} {own : String} {cc : ByteArray} {nL : Nat} {rm : Room} {a : AA} {M : Mem} {pc : Nat} {lv : List (Nat × Value)} {st stk : List Value} {M' : Mem} {y : MethodName} {bytes : ByteArray} {maxL n index : Nat} {rmc : Room} {As : List Value} {H : Heap} {locs : List Loc} {ls : Array Slot}
theorem pc_in (S : Sx K own cc nL rm) (h : go_H K a M H locs) {U : State} (hU : U.heap = H) (hW : (kS K).WarmedH U.vm) : va_Pc As (Pc0 (kG K) a M H.size) As.toArray U := ⟨rfl, by rw [hU], by rw [hU]; exact h.1, va_K.moved hW.alike S.2.2.2.2.2.1, h.2.1.weaken (fun _ _ _ _ => trivial), NN.warm hW S.2.2.2.2.2.2.1⟩
theorem fr_in (S : Sx K own cc nL rm) (h : go_H K a M H locs) : ∀ q, va_A (wd_W (kG K) a.1 a.2 M) H.size q → kF K q := by
  intro q hq
  rcases hq with ⟨k, e, hk⟩ | hq
  · exact h.2.1.2 k _ hk
  · exact S.2.2.2.2.2.2.2.1 q (Nat.le_trans h.2.2.1 hq)
theorem rm_in (S : Sx K own cc nL rm) (hR : rmc.frames + 1 ≤ rm.frames ∧ 8 + (maxL + 11) + rmc.locals ≤ rm.locals) : rmc.frames + 1 ≤ (kR K).frames ∧ 8 + (maxL + 11) + rmc.locals ≤ (kR K).locals := by rw [S.2.2.2.2.2.2.2.2.1]; exact hR
theorem ce_in (S : Sx K own cc nL rm) : kc K + 0 ≤ (kR K).cells ∧ ks K + 0 ≤ (kR K).slots := S.2.2.2.2.2.2.2.2.2
theorem rn_S {ret : Option FieldType} {Qc : Array Value → State → Outcome → State → Prop} {free : Addr → Prop} (S : Sx K own cc nL rm) (ok : OkS y bytes maxL ret n) (hl : Cond.methodLink own index y ∈ lw_g) (ct : Met (kL K) y (.code y bytes maxL ret :: lw_g) rmc (va_Pc As (Pc0 (kG K) a M H.size)) Qc 0 0 free) (h : go_H K a M H locs) (hz : lv_has ls nL lv) (hn : As.length = n) (hs : stk = As.reverse ++ st) (hR : rmc.frames + 1 ≤ rm.frames ∧ 8 + (maxL + 11) + rmc.locals ≤ rm.locals) (hrc : rmc.cells = 0 ∧ rmc.slots = 0) (hcat : (st.map fun v => v.category).sum ≤ 8) (d : decode cc pc = .ok (.invokestatic index, 3)) : va_Run (kP K) (kL K) (kE K) (kR K) (kS K) (kM K) (kA K) (kB K) (kT K) (kC K) H locs (kc K) (ks K) 0 0 (F0 (kM K) pc ls stk) st (Qc As.toArray) free :=
  va_runS (As := As) (rest := st) ⟨S.1, S.2.1, S.2.2.1, S.2.2.2.1, S.2.2.2.2.1⟩ ct ⟨callB_of n S.2.2.2.2.1 (lg_goodIn ok.1) rfl hrc.1 hrc.2 (S.2.2.2.2.1 _ ok.2.2.1) (S.2.2.2.2.1 _ hl) ok.2.2.2 (rm_in S hR), S.2.2.2.2.1 _ ok.2.1⟩ ⟨pc_blind, fun U hU hW => pc_in S h hU hW⟩ rfl hn hz.1 hs (lv_room hcat) d (ce_in S)
theorem rn_SN {host : String} {ret : Option FieldType} {Qc : Array Value → State → Outcome → State → Prop} {free : Addr → Prop} (S : Sx K own cc nL rm) (ok : OkS y bytes maxL ret n) (hl : (own, index, y, host) ∈ nn_l) (ct : Met (kL K) y (.code y bytes maxL ret :: lw_g) rmc (va_Pc As (Pc0 (kG K) a M H.size)) Qc 0 0 free) (h : go_H K a M H locs) (hz : lv_has ls nL lv) (hn : As.length = n) (hs : stk = As.reverse ++ st) (hR : rmc.frames + 1 ≤ rm.frames ∧ 8 + (maxL + 11) + rmc.locals ≤ rm.locals) (hrc : rmc.cells = 0 ∧ rmc.slots = 0) (hcat : (st.map fun v => v.category).sum ≤ 8) (d : decode cc pc = .ok (.invokestatic index, 3)) : va_Run (kP K) (kL K) (kE K) (kR K) (kS K) (kM K) (kA K) (kB K) (kT K) (kC K) H locs (kc K) (ks K) 0 0 (F0 (kM K) pc ls stk) st (Qc As.toArray) free :=
  va_runSN (As := As) (rest := st) ⟨S.1, S.2.1, S.2.2.1, S.2.2.2.1, S.2.2.2.2.1⟩ ct ⟨va_cnB n S.2.2.2.2.1 (lg_goodIn ok.1) rfl hrc.1 hrc.2 (S.2.2.2.2.2.2.1 _ hl) (S.2.2.2.2.1 _ ok.2.2.1) ok.2.2.2 (rm_in S hR), S.2.2.2.2.1 _ ok.2.1, trivial⟩ ⟨pc_blind, fun U hU hW => pc_in S h hU hW⟩ rfl hn hz.1 hs (lv_room hcat) d (ce_in S)
theorem rn_V {b ci N : Nat} {T : u_T} {fs : (Nat → Nat) → (Nat → Int32) → List Value} {ret : Option FieldType} {Qc : Array Value → State → Outcome → State → Prop} {free : Addr → Prop} (S : Sx K own cc nL rm) (o : OB a.1 b ci fs) (hcl : vwCl[ci]? = some (y.cls, T, N)) (ok : OkV y bytes maxL ret n) (hl : Cond.methodLink own index y ∈ lw_g) (ct : Met (kL K) y (.code y bytes maxL ret :: lw_g) rmc (va_Pc (.ref (a.2 b) :: As) (Pc0 (kG K) a M H.size)) Qc 0 0 free) (h : go_H K a M H locs) (hz : lv_has ls nL lv) (hn : As.length = n) (hs : stk = As.reverse ++ .ref (a.2 b) :: st) (hR : rmc.frames + 1 ≤ rm.frames ∧ 8 + (maxL + 11) + rmc.locals ≤ rm.locals) (hrc : rmc.cells = 0 ∧ rmc.slots = 0) (hcat : (st.map fun v => v.category).sum ≤ 8) (d : decode cc pc = .ok (.invokevirtual index, 3)) : va_Run (kP K) (kL K) (kE K) (kR K) (kS K) (kM K) (kA K) (kB K) (kT K) (kC K) H locs (kc K) (ks K) 0 0 (F0 (kM K) pc ls stk) st (Qc (Value.ref (a.2 b) :: As).toArray) free := by
  obtain ⟨q, -, hq⟩ := wd_at (G := kG K) (ad := a.2) (M := M) o.1
  rw [o.2] at hq
  exact va_runV (As := As) (rest := st) (C := y.cls) ⟨S.1, S.2.1, S.2.2.1, S.2.2.2.1, S.2.2.2.2.1⟩ ct ⟨callB_of n S.2.2.2.2.1 (lg_goodIn ok.1) rfl hrc.1 hrc.2 (S.2.2.2.2.1 _ ok.2.2.2.1) (S.2.2.2.2.1 _ hl) ok.2.2.2.2 (rm_in S hR), S.2.2.2.2.1 _ ok.2.1, S.2.2.2.2.1 _ ok.2.2.1⟩ ⟨pc_blind, va_recv S.2.2.2.2.2.1 h.1 (ci := ci) (q0 := q) hcl hq, fun U hU hW => pc_in S h hU hW⟩ rfl hn hz.1 hs (lv_room hcat) d (ce_in S)
end CA
end
section
/-! calls, by kind of answer and of call -/
def rmD (d : Nat) : Room := { frames := d, cells := 0, slots := 0, locals := 40 * d }
theorem rmD_z (d : Nat) : (rmD d).cells = 0 ∧ (rmD d).slots = 0 := ⟨rfl, rfl⟩
section CB
variable {K : KK} {own : String} {cc : ByteArray} {nL : Nat} {rm : Room} {a : AA} {M : Mem} {pc : Nat} {lv : List (Nat × Value)} {st stk : List Value} {M' : Mem} {y : MethodName} {bytes : ByteArray} {maxL n index : Nat} {rmc : Room} {As : List Value}
theorem g_cSI {r : Int32} {ty : FieldType} (S : Sx K own cc nL rm) (ok : OkS y bytes maxL (some ty) n) (hl : Cond.methodLink own index y ∈ lw_g) (ct : CtI (kL K) (kG K) a y bytes maxL ty rmc As M r M') (hn : As.length = n) (hs : stk = As.reverse ++ st) (hR : rmc.frames + 1 ≤ rm.frames ∧ 8 + (maxL + 11) + rmc.locals ≤ rm.locals) (hrc : rmc.cells = 0 ∧ rmc.slots = 0) (hcat : (st.map fun v => v.category).sum ≤ 8) (d : decode cc pc = .ok (.invokestatic index, 3)) (k : Go K nL a M' (pc + 3) lv (.int r :: st)) : Go K nL a M pc lv stk := fun H locs ls h1 h2 => by
  refine va_calli (rn_S S ok hl (ct H.size) h1 h2 hn hs hR hrc hcat d) h1.2.2 (fun q _ h => fr_in S h1 q h) (fr_in S h1) (fun r0 u t H1 locs1 e1 _ e3 e4 _ _ e7 => ?_)
  obtain ⟨p1, p2⟩ := e4
  rw [e1] at p1
  have e5 : u = M' := e3.2
  subst e5
  have e6 := e3.1
  subst e6
  exact k H1 locs1 ls ⟨p1, p2.weaken (fun _ q _ h => fr_in S h1 q.1 h), e7⟩ h2
theorem g_cSL {r : Int64} (S : Sx K own cc nL rm) (ok : OkS y bytes maxL (some .long) n) (hl : Cond.methodLink own index y ∈ lw_g) (ct : CtL (kL K) (kG K) a y bytes maxL rmc As M r M') (hn : As.length = n) (hs : stk = As.reverse ++ st) (hR : rmc.frames + 1 ≤ rm.frames ∧ 8 + (maxL + 11) + rmc.locals ≤ rm.locals) (hrc : rmc.cells = 0 ∧ rmc.slots = 0) (hcat : (st.map fun v => v.category).sum ≤ 8) (d : decode cc pc = .ok (.invokestatic index, 3)) (k : Go K nL a M' (pc + 3) lv (.long r :: st)) : Go K nL a M pc lv stk := fun H locs ls h1 h2 => by
  refine va_calll (rn_S S ok hl (ct H.size) h1 h2 hn hs hR hrc hcat d) h1.2.2 (fun q _ h => fr_in S h1 q h) (fr_in S h1) (fun r0 u t H1 locs1 e1 _ e3 e4 _ _ e7 => ?_)
  obtain ⟨p1, p2⟩ := e4
  rw [e1] at p1
  have e5 : u = M' := e3.2
  subst e5
  have e6 := e3.1
  subst e6
  exact k H1 locs1 ls ⟨p1, p2.weaken (fun _ q _ h => fr_in S h1 q.1 h), e7⟩ h2
theorem g_cSV  (S : Sx K own cc nL rm) (ok : OkS y bytes maxL (none) n) (hl : Cond.methodLink own index y ∈ lw_g) (ct : CtV (kL K) (kG K) a y bytes maxL rmc As M M') (hn : As.length = n) (hs : stk = As.reverse ++ st) (hR : rmc.frames + 1 ≤ rm.frames ∧ 8 + (maxL + 11) + rmc.locals ≤ rm.locals) (hrc : rmc.cells = 0 ∧ rmc.slots = 0) (hcat : (st.map fun v => v.category).sum ≤ 8) (d : decode cc pc = .ok (.invokestatic index, 3)) (k : Go K nL a M' (pc + 3) lv (st)) : Go K nL a M pc lv stk := fun H locs ls h1 h2 => by
  refine va_callv (rn_S S ok hl (ct H.size) h1 h2 hn hs hR hrc hcat d) h1.2.2 (fun q _ h => fr_in S h1 q h) (fr_in S h1) (fun u t H1 locs1 e1 _ e3 e4 _ _ e7 => ?_)
  obtain ⟨p1, p2⟩ := e4
  rw [e1] at p1
  have e5 : u = M' := e3
  subst e5
  exact k H1 locs1 ls ⟨p1, p2.weaken (fun _ q _ h => fr_in S h1 q.1 h), e7⟩ h2
theorem g_cSQ {r : Option Nat} {C : String} (S : Sx K own cc nL rm) (ok : OkS y bytes maxL (some (.object C)) n) (hl : Cond.methodLink own index y ∈ lw_g) (ct : CtQ (kL K) (kG K) a y bytes maxL C rmc As M r M') (hn : As.length = n) (hs : stk = As.reverse ++ st) (hR : rmc.frames + 1 ≤ rm.frames ∧ 8 + (maxL + 11) + rmc.locals ≤ rm.locals) (hrc : rmc.cells = 0 ∧ rmc.slots = 0) (hcat : (st.map fun v => v.category).sum ≤ 8) (d : decode cc pc = .ok (.invokestatic index, 3)) (k : Go K nL a M' (pc + 3) lv (va_rf (r.map a.2) :: st)) : Go K nL a M pc lv stk := fun H locs ls h1 h2 => by
  refine va_callq (rn_S S ok hl (ct H.size) h1 h2 hn hs hR hrc hcat d) h1.2.2 (fun q _ h => fr_in S h1 q h) (fr_in S h1) (fun r0 u t H1 locs1 e1 _ e3 e4 _ _ e7 => ?_)
  obtain ⟨p1, p2⟩ := e4
  rw [e1] at p1
  have e5 : u = M' := e3.2
  subst e5
  have e6 := e3.1
  subst e6
  exact k H1 locs1 ls ⟨p1, p2.weaken (fun _ q _ h => fr_in S h1 q.1 h), e7⟩ h2
theorem g_cNI {r : Int32} {ty : FieldType} (S : Sx K own cc nL rm) {host : String} (ok : OkS y bytes maxL (some ty) n) (hl : (own, index, y, host) ∈ nn_l) (ct : CtI (kL K) (kG K) a y bytes maxL ty rmc As M r M') (hn : As.length = n) (hs : stk = As.reverse ++ st) (hR : rmc.frames + 1 ≤ rm.frames ∧ 8 + (maxL + 11) + rmc.locals ≤ rm.locals) (hrc : rmc.cells = 0 ∧ rmc.slots = 0) (hcat : (st.map fun v => v.category).sum ≤ 8) (d : decode cc pc = .ok (.invokestatic index, 3)) (k : Go K nL a M' (pc + 3) lv (.int r :: st)) : Go K nL a M pc lv stk := fun H locs ls h1 h2 => by
  refine va_calli (rn_SN S ok hl (ct H.size) h1 h2 hn hs hR hrc hcat d) h1.2.2 (fun q _ h => fr_in S h1 q h) (fr_in S h1) (fun r0 u t H1 locs1 e1 _ e3 e4 _ _ e7 => ?_)
  obtain ⟨p1, p2⟩ := e4
  rw [e1] at p1
  have e5 : u = M' := e3.2
  subst e5
  have e6 := e3.1
  subst e6
  exact k H1 locs1 ls ⟨p1, p2.weaken (fun _ q _ h => fr_in S h1 q.1 h), e7⟩ h2
theorem g_cNL {r : Int64} (S : Sx K own cc nL rm) {host : String} (ok : OkS y bytes maxL (some .long) n) (hl : (own, index, y, host) ∈ nn_l) (ct : CtL (kL K) (kG K) a y bytes maxL rmc As M r M') (hn : As.length = n) (hs : stk = As.reverse ++ st) (hR : rmc.frames + 1 ≤ rm.frames ∧ 8 + (maxL + 11) + rmc.locals ≤ rm.locals) (hrc : rmc.cells = 0 ∧ rmc.slots = 0) (hcat : (st.map fun v => v.category).sum ≤ 8) (d : decode cc pc = .ok (.invokestatic index, 3)) (k : Go K nL a M' (pc + 3) lv (.long r :: st)) : Go K nL a M pc lv stk := fun H locs ls h1 h2 => by
  refine va_calll (rn_SN S ok hl (ct H.size) h1 h2 hn hs hR hrc hcat d) h1.2.2 (fun q _ h => fr_in S h1 q h) (fr_in S h1) (fun r0 u t H1 locs1 e1 _ e3 e4 _ _ e7 => ?_)
  obtain ⟨p1, p2⟩ := e4
  rw [e1] at p1
  have e5 : u = M' := e3.2
  subst e5
  have e6 := e3.1
  subst e6
  exact k H1 locs1 ls ⟨p1, p2.weaken (fun _ q _ h => fr_in S h1 q.1 h), e7⟩ h2
theorem g_cNV  (S : Sx K own cc nL rm) {host : String} (ok : OkS y bytes maxL (none) n) (hl : (own, index, y, host) ∈ nn_l) (ct : CtV (kL K) (kG K) a y bytes maxL rmc As M M') (hn : As.length = n) (hs : stk = As.reverse ++ st) (hR : rmc.frames + 1 ≤ rm.frames ∧ 8 + (maxL + 11) + rmc.locals ≤ rm.locals) (hrc : rmc.cells = 0 ∧ rmc.slots = 0) (hcat : (st.map fun v => v.category).sum ≤ 8) (d : decode cc pc = .ok (.invokestatic index, 3)) (k : Go K nL a M' (pc + 3) lv (st)) : Go K nL a M pc lv stk := fun H locs ls h1 h2 => by
  refine va_callv (rn_SN S ok hl (ct H.size) h1 h2 hn hs hR hrc hcat d) h1.2.2 (fun q _ h => fr_in S h1 q h) (fr_in S h1) (fun u t H1 locs1 e1 _ e3 e4 _ _ e7 => ?_)
  obtain ⟨p1, p2⟩ := e4
  rw [e1] at p1
  have e5 : u = M' := e3
  subst e5
  exact k H1 locs1 ls ⟨p1, p2.weaken (fun _ q _ h => fr_in S h1 q.1 h), e7⟩ h2
theorem g_cNQ {r : Option Nat} {C : String} (S : Sx K own cc nL rm) {host : String} (ok : OkS y bytes maxL (some (.object C)) n) (hl : (own, index, y, host) ∈ nn_l) (ct : CtQ (kL K) (kG K) a y bytes maxL C rmc As M r M') (hn : As.length = n) (hs : stk = As.reverse ++ st) (hR : rmc.frames + 1 ≤ rm.frames ∧ 8 + (maxL + 11) + rmc.locals ≤ rm.locals) (hrc : rmc.cells = 0 ∧ rmc.slots = 0) (hcat : (st.map fun v => v.category).sum ≤ 8) (d : decode cc pc = .ok (.invokestatic index, 3)) (k : Go K nL a M' (pc + 3) lv (va_rf (r.map a.2) :: st)) : Go K nL a M pc lv stk := fun H locs ls h1 h2 => by
  refine va_callq (rn_SN S ok hl (ct H.size) h1 h2 hn hs hR hrc hcat d) h1.2.2 (fun q _ h => fr_in S h1 q h) (fr_in S h1) (fun r0 u t H1 locs1 e1 _ e3 e4 _ _ e7 => ?_)
  obtain ⟨p1, p2⟩ := e4
  rw [e1] at p1
  have e5 : u = M' := e3.2
  subst e5
  have e6 := e3.1
  subst e6
  exact k H1 locs1 ls ⟨p1, p2.weaken (fun _ q _ h => fr_in S h1 q.1 h), e7⟩ h2
theorem g_cVI {r : Int32} {ty : FieldType} (S : Sx K own cc nL rm) {b ci N : Nat} {T : u_T} {fs : (Nat → Nat) → (Nat → Int32) → List Value} (o : OB a.1 b ci fs) (hcl : vwCl[ci]? = some (y.cls, T, N)) (ok : OkV y bytes maxL (some ty) n) (hl : Cond.methodLink own index y ∈ lw_g) (ct : CtI (kL K) (kG K) a y bytes maxL ty rmc (.ref (a.2 b) :: As) M r M') (hn : As.length = n) (hs : stk = As.reverse ++ .ref (a.2 b) :: st) (hR : rmc.frames + 1 ≤ rm.frames ∧ 8 + (maxL + 11) + rmc.locals ≤ rm.locals) (hrc : rmc.cells = 0 ∧ rmc.slots = 0) (hcat : (st.map fun v => v.category).sum ≤ 8) (d : decode cc pc = .ok (.invokevirtual index, 3)) (k : Go K nL a M' (pc + 3) lv (.int r :: st)) : Go K nL a M pc lv stk := fun H locs ls h1 h2 => by
  refine va_calli (rn_V S o hcl ok hl (ct H.size) h1 h2 hn hs hR hrc hcat d) h1.2.2 (fun q _ h => fr_in S h1 q h) (fr_in S h1) (fun r0 u t H1 locs1 e1 _ e3 e4 _ _ e7 => ?_)
  obtain ⟨p1, p2⟩ := e4
  rw [e1] at p1
  have e5 : u = M' := e3.2
  subst e5
  have e6 := e3.1
  subst e6
  exact k H1 locs1 ls ⟨p1, p2.weaken (fun _ q _ h => fr_in S h1 q.1 h), e7⟩ h2
theorem g_cVL {r : Int64} (S : Sx K own cc nL rm) {b ci N : Nat} {T : u_T} {fs : (Nat → Nat) → (Nat → Int32) → List Value} (o : OB a.1 b ci fs) (hcl : vwCl[ci]? = some (y.cls, T, N)) (ok : OkV y bytes maxL (some .long) n) (hl : Cond.methodLink own index y ∈ lw_g) (ct : CtL (kL K) (kG K) a y bytes maxL rmc (.ref (a.2 b) :: As) M r M') (hn : As.length = n) (hs : stk = As.reverse ++ .ref (a.2 b) :: st) (hR : rmc.frames + 1 ≤ rm.frames ∧ 8 + (maxL + 11) + rmc.locals ≤ rm.locals) (hrc : rmc.cells = 0 ∧ rmc.slots = 0) (hcat : (st.map fun v => v.category).sum ≤ 8) (d : decode cc pc = .ok (.invokevirtual index, 3)) (k : Go K nL a M' (pc + 3) lv (.long r :: st)) : Go K nL a M pc lv stk := fun H locs ls h1 h2 => by
  refine va_calll (rn_V S o hcl ok hl (ct H.size) h1 h2 hn hs hR hrc hcat d) h1.2.2 (fun q _ h => fr_in S h1 q h) (fr_in S h1) (fun r0 u t H1 locs1 e1 _ e3 e4 _ _ e7 => ?_)
  obtain ⟨p1, p2⟩ := e4
  rw [e1] at p1
  have e5 : u = M' := e3.2
  subst e5
  have e6 := e3.1
  subst e6
  exact k H1 locs1 ls ⟨p1, p2.weaken (fun _ q _ h => fr_in S h1 q.1 h), e7⟩ h2
theorem g_cVV  (S : Sx K own cc nL rm) {b ci N : Nat} {T : u_T} {fs : (Nat → Nat) → (Nat → Int32) → List Value} (o : OB a.1 b ci fs) (hcl : vwCl[ci]? = some (y.cls, T, N)) (ok : OkV y bytes maxL (none) n) (hl : Cond.methodLink own index y ∈ lw_g) (ct : CtV (kL K) (kG K) a y bytes maxL rmc (.ref (a.2 b) :: As) M M') (hn : As.length = n) (hs : stk = As.reverse ++ .ref (a.2 b) :: st) (hR : rmc.frames + 1 ≤ rm.frames ∧ 8 + (maxL + 11) + rmc.locals ≤ rm.locals) (hrc : rmc.cells = 0 ∧ rmc.slots = 0) (hcat : (st.map fun v => v.category).sum ≤ 8) (d : decode cc pc = .ok (.invokevirtual index, 3)) (k : Go K nL a M' (pc + 3) lv (st)) : Go K nL a M pc lv stk := fun H locs ls h1 h2 => by
  refine va_callv (rn_V S o hcl ok hl (ct H.size) h1 h2 hn hs hR hrc hcat d) h1.2.2 (fun q _ h => fr_in S h1 q h) (fr_in S h1) (fun u t H1 locs1 e1 _ e3 e4 _ _ e7 => ?_)
  obtain ⟨p1, p2⟩ := e4
  rw [e1] at p1
  have e5 : u = M' := e3
  subst e5
  exact k H1 locs1 ls ⟨p1, p2.weaken (fun _ q _ h => fr_in S h1 q.1 h), e7⟩ h2
theorem g_cVQ {r : Option Nat} {C : String} (S : Sx K own cc nL rm) {b ci N : Nat} {T : u_T} {fs : (Nat → Nat) → (Nat → Int32) → List Value} (o : OB a.1 b ci fs) (hcl : vwCl[ci]? = some (y.cls, T, N)) (ok : OkV y bytes maxL (some (.object C)) n) (hl : Cond.methodLink own index y ∈ lw_g) (ct : CtQ (kL K) (kG K) a y bytes maxL C rmc (.ref (a.2 b) :: As) M r M') (hn : As.length = n) (hs : stk = As.reverse ++ .ref (a.2 b) :: st) (hR : rmc.frames + 1 ≤ rm.frames ∧ 8 + (maxL + 11) + rmc.locals ≤ rm.locals) (hrc : rmc.cells = 0 ∧ rmc.slots = 0) (hcat : (st.map fun v => v.category).sum ≤ 8) (d : decode cc pc = .ok (.invokevirtual index, 3)) (k : Go K nL a M' (pc + 3) lv (va_rf (r.map a.2) :: st)) : Go K nL a M pc lv stk := fun H locs ls h1 h2 => by
  refine va_callq (rn_V S o hcl ok hl (ct H.size) h1 h2 hn hs hR hrc hcat d) h1.2.2 (fun q _ h => fr_in S h1 q h) (fr_in S h1) (fun r0 u t H1 locs1 e1 _ e3 e4 _ _ e7 => ?_)
  obtain ⟨p1, p2⟩ := e4
  rw [e1] at p1
  have e5 : u = M' := e3.2
  subst e5
  have e6 := e3.1
  subst e6
  exact k H1 locs1 ls ⟨p1, p2.weaken (fun _ q _ h => fr_in S h1 q.1 h), e7⟩ h2
end CB
end
section
/-! links and words of the tables -/
theorem Go.st {K : KK} {nL : Nat} {a : AA} {M : Mem} {pc : Nat} {lv : List (Nat × Value)} {st st' : List Value} (h : st = st') (k : Go K nL a M pc lv st') : Go K nL a M pc lv st := h ▸ k
def mq {α : Type} (q : Option Nat) (e1 : Option α) (e2 : Nat → Option α) : Option α := match q with
  | none => e1
  | some n => e2 n
theorem lg_mem (i : Nat) {w : Cond} (h : tables_1[i]? = some w) (hg : goodWord w = true) : w ∈ lw_g := List.mem_filter.mpr ⟨List.mem_append_right _ (List.mem_of_getElem? h), hg⟩
theorem lg_memP (i : Nat) {w : Cond} (h : (k2_sels lw_privs)[i]? = some w) (hg : goodWord w = true) : w ∈ lw_g := List.mem_filter.mpr ⟨List.mem_append_left _ (List.mem_of_getElem? h), hg⟩
theorem lg_all {ws : List Cond} (ps : List Nat) (h : ws = ps.filterMap (fun i => tables_1[i]?)) (hg : ws.all goodWord = true) : ∀ w ∈ ws, w ∈ lw_g := by
  intro w hw
  have h1 := List.all_eq_true.mp hg w hw
  rw [h] at hw
  obtain ⟨i, -, hi⟩ := List.mem_filterMap.mp hw
  exact lg_mem i hi h1
theorem gi_X0 : ∀ w ∈ u_ws RX0 TX0 4, w ∈ lw_g := lg_all [63, 65, 67, 69] (by decide +kernel) (by decide +kernel)
theorem gi_X1 : ∀ w ∈ u_ws RX1 TX1 4, w ∈ lw_g := lg_all [464, 466, 468, 470] (by decide +kernel) (by decide +kernel)
theorem gi_X2 : ∀ w ∈ u_ws RX2 TX2 7, w ∈ lw_g := lg_all [161, 163, 165, 167, 169, 171, 173] (by decide +kernel) (by decide +kernel)
theorem gi_X3 : ∀ w ∈ u_ws RX3 TX3 5, w ∈ lw_g := lg_all [300, 302, 304, 306, 308] (by decide +kernel) (by decide +kernel)
theorem gi_X4 : ∀ w ∈ u_ws RX4 TX4 2, w ∈ lw_g := lg_all [28, 30] (by decide +kernel) (by decide +kernel)
theorem gi_X5 : ∀ w ∈ u_ws RX5 TX5 2, w ∈ lw_g := lg_all [46, 48] (by decide +kernel) (by decide +kernel)
theorem gi_X6 : ∀ w ∈ u_ws RX6 TX6 2, w ∈ lw_g := lg_all [82, 84] (by decide +kernel) (by decide +kernel)
theorem gi_X7 : ∀ w ∈ u_ws RX7 TX7 17, w ∈ lw_g := lg_all [107, 109, 111, 113, 115, 117, 119, 121, 123, 125, 127, 129, 131, 133, 135, 137, 139] (by decide +kernel) (by decide +kernel)
theorem gi_X8 : ∀ w ∈ u_ws RX8 TX8 38, w ∈ lw_g := lg_all [642, 644, 646, 648, 650, 652, 654, 656, 658, 660, 662, 664, 666, 668, 670, 672, 674, 676, 678, 680, 682, 684, 686, 688, 690, 692, 694, 696, 698, 700, 702, 704, 706, 708, 710, 712, 714, 716] (by decide +kernel) (by decide +kernel)
theorem lf_X0_9 : Cond.fieldLink RX0 9 (TX0 0).1 (TX0 0).2.1 (TX0 0).2.2.1 ∈ lw_g := lg_mem 59 (by decide +kernel) rfl
theorem lf_X0_15 : Cond.fieldLink RX0 15 (TX0 1).1 (TX0 1).2.1 (TX0 1).2.2.1 ∈ lw_g := lg_mem 60 (by decide +kernel) rfl
theorem lf_X0_18 : Cond.fieldLink RX0 18 (TX0 2).1 (TX0 2).2.1 (TX0 2).2.2.1 ∈ lw_g := lg_mem 61 (by decide +kernel) rfl
theorem lf_X0_21 : Cond.fieldLink RX0 21 (TX0 3).1 (TX0 3).2.1 (TX0 3).2.2.1 ∈ lw_g := lg_mem 62 (by decide +kernel) rfl
theorem lf_X0_24 : Cond.fieldLink RX0 24 (TX1 0).1 (TX1 0).2.1 (TX1 0).2.2.1 ∈ lw_g := lg_mem 457 (by decide +kernel) rfl
theorem lf_X0_33 : Cond.fieldLink RX0 33 (TX1 1).1 (TX1 1).2.1 (TX1 1).2.2.1 ∈ lw_g := lg_mem 459 (by decide +kernel) rfl
theorem lf_X2_9 : Cond.fieldLink RX2 9 (TX2 0).1 (TX2 0).2.1 (TX2 0).2.2.1 ∈ lw_g := lg_mem 151 (by decide +kernel) rfl
theorem lf_X2_15 : Cond.fieldLink RX2 15 (TX2 1).1 (TX2 1).2.1 (TX2 1).2.2.1 ∈ lw_g := lg_mem 152 (by decide +kernel) rfl
theorem lf_X2_18 : Cond.fieldLink RX2 18 (TX2 2).1 (TX2 2).2.1 (TX2 2).2.2.1 ∈ lw_g := lg_mem 153 (by decide +kernel) rfl
theorem lf_X2_21 : Cond.fieldLink RX2 21 (TX2 3).1 (TX2 3).2.1 (TX2 3).2.2.1 ∈ lw_g := lg_mem 154 (by decide +kernel) rfl
theorem lf_X3_9 : Cond.fieldLink RX3 9 (TX3 3).1 (TX3 3).2.1 (TX3 3).2.2.1 ∈ lw_g := lg_mem 297 (by decide +kernel) rfl
theorem lf_X3_15 : Cond.fieldLink RX3 15 (TX3 4).1 (TX3 4).2.1 (TX3 4).2.2.1 ∈ lw_g := lg_mem 298 (by decide +kernel) rfl
theorem lf_X3_19 : Cond.fieldLink RX3 19 (TX3 0).1 (TX3 0).2.1 (TX3 0).2.2.1 ∈ lw_g := lg_mem 292 (by decide +kernel) rfl
theorem lf_X3_22 : Cond.fieldLink RX3 22 (TX3 1).1 (TX3 1).2.1 (TX3 1).2.2.1 ∈ lw_g := lg_mem 294 (by decide +kernel) rfl
theorem lf_X4_9 : Cond.fieldLink RX4 9 (TX4 0).1 (TX4 0).2.1 (TX4 0).2.2.1 ∈ lw_g := lg_mem 26 (by decide +kernel) rfl
theorem lf_X4_15 : Cond.fieldLink RX4 15 (TX4 1).1 (TX4 1).2.1 (TX4 1).2.2.1 ∈ lw_g := lg_mem 27 (by decide +kernel) rfl
theorem lf_X5_9 : Cond.fieldLink RX5 9 (TX5 0).1 (TX5 0).2.1 (TX5 0).2.2.1 ∈ lw_g := lg_mem 44 (by decide +kernel) rfl
theorem lf_X5_15 : Cond.fieldLink RX5 15 (TX5 1).1 (TX5 1).2.1 (TX5 1).2.2.1 ∈ lw_g := lg_mem 45 (by decide +kernel) rfl
theorem lf_X6_9 : Cond.fieldLink RX6 9 (TX6 0).1 (TX6 0).2.1 (TX6 0).2.2.1 ∈ lw_g := lg_mem 79 (by decide +kernel) rfl
theorem lf_X6_15 : Cond.fieldLink RX6 15 (TX6 1).1 (TX6 1).2.1 (TX6 1).2.2.1 ∈ lw_g := lg_mem 80 (by decide +kernel) rfl
theorem lf_X7_10 : Cond.fieldLink RX7 10 (TX7 0).1 (TX7 0).2.1 (TX7 0).2.2.1 ∈ lw_g := lg_mem 90 (by decide +kernel) rfl
theorem lf_X7_18 : Cond.fieldLink RX7 18 (TX7 1).1 (TX7 1).2.1 (TX7 1).2.2.1 ∈ lw_g := lg_mem 91 (by decide +kernel) rfl
theorem lf_X7_22 : Cond.fieldLink RX7 22 (TX7 2).1 (TX7 2).2.1 (TX7 2).2.2.1 ∈ lw_g := lg_mem 92 (by decide +kernel) rfl
theorem lf_X7_26 : Cond.fieldLink RX7 26 (TX7 3).1 (TX7 3).2.1 (TX7 3).2.2.1 ∈ lw_g := lg_mem 93 (by decide +kernel) rfl
theorem lf_X7_32 : Cond.fieldLink RX7 32 (TX7 4).1 (TX7 4).2.1 (TX7 4).2.2.1 ∈ lw_g := lg_mem 94 (by decide +kernel) rfl
theorem lf_X7_36 : Cond.fieldLink RX7 36 (TX7 5).1 (TX7 5).2.1 (TX7 5).2.2.1 ∈ lw_g := lg_mem 95 (by decide +kernel) rfl
theorem lf_X7_42 : Cond.fieldLink RX7 42 (TX7 6).1 (TX7 6).2.1 (TX7 6).2.2.1 ∈ lw_g := lg_mem 96 (by decide +kernel) rfl
theorem lf_X7_48 : Cond.fieldLink RX7 48 (TX7 7).1 (TX7 7).2.1 (TX7 7).2.2.1 ∈ lw_g := lg_mem 97 (by decide +kernel) rfl
theorem lf_X7_52 : Cond.fieldLink RX7 52 (TX7 8).1 (TX7 8).2.1 (TX7 8).2.2.1 ∈ lw_g := lg_mem 98 (by decide +kernel) rfl
theorem lf_X7_55 : Cond.fieldLink RX7 55 (TX7 9).1 (TX7 9).2.1 (TX7 9).2.2.1 ∈ lw_g := lg_mem 99 (by decide +kernel) rfl
theorem lf_X7_59 : Cond.fieldLink RX7 59 (TX7 10).1 (TX7 10).2.1 (TX7 10).2.2.1 ∈ lw_g := lg_mem 100 (by decide +kernel) rfl
theorem lf_X7_62 : Cond.fieldLink RX7 62 (TX7 11).1 (TX7 11).2.1 (TX7 11).2.2.1 ∈ lw_g := lg_mem 101 (by decide +kernel) rfl
theorem lf_X7_65 : Cond.fieldLink RX7 65 (TX7 12).1 (TX7 12).2.1 (TX7 12).2.2.1 ∈ lw_g := lg_mem 102 (by decide +kernel) rfl
theorem lf_X7_68 : Cond.fieldLink RX7 68 (TX7 13).1 (TX7 13).2.1 (TX7 13).2.2.1 ∈ lw_g := lg_mem 103 (by decide +kernel) rfl
theorem lf_X7_74 : Cond.fieldLink RX7 74 (TX7 14).1 (TX7 14).2.1 (TX7 14).2.2.1 ∈ lw_g := lg_mem 104 (by decide +kernel) rfl
theorem lf_X7_78 : Cond.fieldLink RX7 78 (TX7 15).1 (TX7 15).2.1 (TX7 15).2.2.1 ∈ lw_g := lg_mem 105 (by decide +kernel) rfl
theorem lf_X7_84 : Cond.fieldLink RX7 84 (TX7 16).1 (TX7 16).2.1 (TX7 16).2.2.1 ∈ lw_g := lg_mem 106 (by decide +kernel) rfl
theorem lf_X7_112 : Cond.fieldLink RX7 112 (TX2 4).1 (TX2 4).2.1 (TX2 4).2.2.1 ∈ lw_g := lg_mem 156 (by decide +kernel) rfl
theorem lf_X7_154 : Cond.fieldLink RX7 154 (TX3 0).1 (TX3 0).2.1 (TX3 0).2.2.1 ∈ lw_g := lg_mem 293 (by decide +kernel) rfl
theorem lf_X7_157 : Cond.fieldLink RX7 157 (TX2 5).1 (TX2 5).2.1 (TX2 5).2.2.1 ∈ lw_g := lg_mem 158 (by decide +kernel) rfl
theorem lf_X7_160 : Cond.fieldLink RX7 160 (TX2 6).1 (TX2 6).2.1 (TX2 6).2.2.1 ∈ lw_g := lg_mem 160 (by decide +kernel) rfl
theorem lf_X7_173 : Cond.fieldLink RX7 173 (TX3 4).1 (TX3 4).2.1 (TX3 4).2.2.1 ∈ lw_g := lg_mem 299 (by decide +kernel) rfl
theorem lf_X7_227 : Cond.fieldLink RX7 227 (TX1 3).1 (TX1 3).2.1 (TX1 3).2.2.1 ∈ lw_g := lg_mem 463 (by decide +kernel) rfl
theorem lf_X7_248 : Cond.fieldLink RX7 248 (TX6 1).1 (TX6 1).2.1 (TX6 1).2.2.1 ∈ lw_g := lg_mem 81 (by decide +kernel) rfl
theorem lf_X7_280 : Cond.fieldLink RX7 280 (TX3 2).1 (TX3 2).2.1 (TX3 2).2.2.1 ∈ lw_g := lg_mem 296 (by decide +kernel) rfl
theorem lf_X7_299 : Cond.fieldLink RX7 299 (TX1 2).1 (TX1 2).2.1 (TX1 2).2.2.1 ∈ lw_g := lg_mem 461 (by decide +kernel) rfl
theorem lf_X8_13 : Cond.fieldLink RX8 13 (TX8 2).1 (TX8 2).2.1 (TX8 2).2.2.1 ∈ lw_g := lg_mem 606 (by decide +kernel) rfl
theorem lf_X8_17 : Cond.fieldLink RX8 17 (TX8 3).1 (TX8 3).2.1 (TX8 3).2.2.1 ∈ lw_g := lg_mem 607 (by decide +kernel) rfl
theorem lf_X8_20 : Cond.fieldLink RX8 20 (TX8 4).1 (TX8 4).2.1 (TX8 4).2.2.1 ∈ lw_g := lg_mem 608 (by decide +kernel) rfl
theorem lf_X8_23 : Cond.fieldLink RX8 23 (TX8 5).1 (TX8 5).2.1 (TX8 5).2.2.1 ∈ lw_g := lg_mem 609 (by decide +kernel) rfl
theorem lf_X8_26 : Cond.fieldLink RX8 26 (TX8 6).1 (TX8 6).2.1 (TX8 6).2.2.1 ∈ lw_g := lg_mem 610 (by decide +kernel) rfl
theorem lf_X8_29 : Cond.fieldLink RX8 29 (TX8 7).1 (TX8 7).2.1 (TX8 7).2.2.1 ∈ lw_g := lg_mem 611 (by decide +kernel) rfl
theorem lf_X8_32 : Cond.fieldLink RX8 32 (TX8 8).1 (TX8 8).2.1 (TX8 8).2.2.1 ∈ lw_g := lg_mem 612 (by decide +kernel) rfl
theorem lf_X8_35 : Cond.fieldLink RX8 35 (TX8 9).1 (TX8 9).2.1 (TX8 9).2.2.1 ∈ lw_g := lg_mem 613 (by decide +kernel) rfl
theorem lf_X8_38 : Cond.fieldLink RX8 38 (TX8 10).1 (TX8 10).2.1 (TX8 10).2.2.1 ∈ lw_g := lg_mem 614 (by decide +kernel) rfl
theorem lf_X8_41 : Cond.fieldLink RX8 41 (TX8 11).1 (TX8 11).2.1 (TX8 11).2.2.1 ∈ lw_g := lg_mem 615 (by decide +kernel) rfl
theorem lf_X8_44 : Cond.fieldLink RX8 44 (TX8 13).1 (TX8 13).2.1 (TX8 13).2.2.1 ∈ lw_g := lg_mem 617 (by decide +kernel) rfl
theorem lf_X8_47 : Cond.fieldLink RX8 47 (TX8 14).1 (TX8 14).2.1 (TX8 14).2.2.1 ∈ lw_g := lg_mem 618 (by decide +kernel) rfl
theorem lf_X8_50 : Cond.fieldLink RX8 50 (TX8 15).1 (TX8 15).2.1 (TX8 15).2.2.1 ∈ lw_g := lg_mem 619 (by decide +kernel) rfl
theorem lf_X8_53 : Cond.fieldLink RX8 53 (TX8 16).1 (TX8 16).2.1 (TX8 16).2.2.1 ∈ lw_g := lg_mem 620 (by decide +kernel) rfl
theorem lf_X8_56 : Cond.fieldLink RX8 56 (TX8 17).1 (TX8 17).2.1 (TX8 17).2.2.1 ∈ lw_g := lg_mem 621 (by decide +kernel) rfl
theorem lf_X8_59 : Cond.fieldLink RX8 59 (TX8 18).1 (TX8 18).2.1 (TX8 18).2.2.1 ∈ lw_g := lg_mem 622 (by decide +kernel) rfl
theorem lf_X8_62 : Cond.fieldLink RX8 62 (TX8 19).1 (TX8 19).2.1 (TX8 19).2.2.1 ∈ lw_g := lg_mem 623 (by decide +kernel) rfl
theorem lf_X8_65 : Cond.fieldLink RX8 65 (TX8 20).1 (TX8 20).2.1 (TX8 20).2.2.1 ∈ lw_g := lg_mem 624 (by decide +kernel) rfl
theorem lf_X8_68 : Cond.fieldLink RX8 68 (TX8 21).1 (TX8 21).2.1 (TX8 21).2.2.1 ∈ lw_g := lg_mem 625 (by decide +kernel) rfl
theorem lf_X8_71 : Cond.fieldLink RX8 71 (TX8 22).1 (TX8 22).2.1 (TX8 22).2.2.1 ∈ lw_g := lg_mem 626 (by decide +kernel) rfl
theorem lf_X8_74 : Cond.fieldLink RX8 74 (TX8 24).1 (TX8 24).2.1 (TX8 24).2.2.1 ∈ lw_g := lg_mem 628 (by decide +kernel) rfl
theorem lf_X8_77 : Cond.fieldLink RX8 77 (TX8 25).1 (TX8 25).2.1 (TX8 25).2.2.1 ∈ lw_g := lg_mem 629 (by decide +kernel) rfl
theorem lf_X8_80 : Cond.fieldLink RX8 80 (TX8 26).1 (TX8 26).2.1 (TX8 26).2.2.1 ∈ lw_g := lg_mem 630 (by decide +kernel) rfl
theorem lf_X8_83 : Cond.fieldLink RX8 83 (TX8 27).1 (TX8 27).2.1 (TX8 27).2.2.1 ∈ lw_g := lg_mem 631 (by decide +kernel) rfl
theorem lf_X8_87 : Cond.fieldLink RX8 87 (TX8 28).1 (TX8 28).2.1 (TX8 28).2.2.1 ∈ lw_g := lg_mem 632 (by decide +kernel) rfl
theorem lf_X8_90 : Cond.fieldLink RX8 90 (TX8 29).1 (TX8 29).2.1 (TX8 29).2.2.1 ∈ lw_g := lg_mem 633 (by decide +kernel) rfl
theorem lf_X8_93 : Cond.fieldLink RX8 93 (TX8 31).1 (TX8 31).2.1 (TX8 31).2.2.1 ∈ lw_g := lg_mem 635 (by decide +kernel) rfl
theorem lf_X8_96 : Cond.fieldLink RX8 96 (TX8 33).1 (TX8 33).2.1 (TX8 33).2.2.1 ∈ lw_g := lg_mem 637 (by decide +kernel) rfl
theorem lf_X8_99 : Cond.fieldLink RX8 99 (TX8 35).1 (TX8 35).2.1 (TX8 35).2.2.1 ∈ lw_g := lg_mem 639 (by decide +kernel) rfl
theorem lf_X8_102 : Cond.fieldLink RX8 102 (TX8 36).1 (TX8 36).2.1 (TX8 36).2.2.1 ∈ lw_g := lg_mem 640 (by decide +kernel) rfl
theorem lf_X8_105 : Cond.fieldLink RX8 105 (TX8 37).1 (TX8 37).2.1 (TX8 37).2.2.1 ∈ lw_g := lg_mem 641 (by decide +kernel) rfl
theorem lf_X8_108 : Cond.fieldLink RX8 108 (TX8 1).1 (TX8 1).2.1 (TX8 1).2.2.1 ∈ lw_g := lg_mem 605 (by decide +kernel) rfl
theorem lf_X8_153 : Cond.fieldLink RX8 153 (TX8 12).1 (TX8 12).2.1 (TX8 12).2.2.1 ∈ lw_g := lg_mem 616 (by decide +kernel) rfl
theorem lf_X8_199 : Cond.fieldLink RX8 199 (TX8 23).1 (TX8 23).2.1 (TX8 23).2.2.1 ∈ lw_g := lg_mem 627 (by decide +kernel) rfl
theorem lf_X8_206 : Cond.fieldLink RX8 206 (TX8 30).1 (TX8 30).2.1 (TX8 30).2.2.1 ∈ lw_g := lg_mem 634 (by decide +kernel) rfl
theorem lf_X8_209 : Cond.fieldLink RX8 209 (TX8 32).1 (TX8 32).2.1 (TX8 32).2.2.1 ∈ lw_g := lg_mem 636 (by decide +kernel) rfl
theorem lf_X8_227 : Cond.fieldLink RX8 227 (TX8 34).1 (TX8 34).2.1 (TX8 34).2.2.1 ∈ lw_g := lg_mem 638 (by decide +kernel) rfl
theorem lk_X0_29 : Cond.methodLink RX0 29 yX0_reach ∈ lw_g := lg_mem 505 (by decide +kernel) rfl
theorem lk_X0_36 : Cond.methodLink RX0 36 yJ9_abs_0f7a4 ∈ lw_g := lg_mem 508 (by decide +kernel) rfl
theorem ln_X0_42 : (RX0, 42, yX7_within, "BridleBook") ∈ nn_l := by decide +kernel
theorem lk_X2_34 : Cond.methodLink RX2 34 yX4_liftAt ∈ lw_g := lg_mem 234 (by decide +kernel) rfl
theorem lk_X2_40 : Cond.methodLink RX2 40 yX2_pressure ∈ lw_g := lg_mem 235 (by decide +kernel) rfl
theorem lk_X2_44 : Cond.methodLink RX2 44 yX4_dragAt ∈ lw_g := lg_mem 242 (by decide +kernel) rfl
theorem lk_X2_47 : Cond.methodLink RX2 47 yX2_turningAt ∈ lw_g := lg_mem 255 (by decide +kernel) rfl
theorem lk_X2_51 : Cond.methodLink RX2 51 yJ9_max_7cf53 ∈ lw_g := lg_mem 264 (by decide +kernel) rfl
theorem lk_X2_57 : Cond.methodLink RX2 57 yJ9_min_7cf53 ∈ lw_g := lg_mem 267 (by decide +kernel) rfl
theorem lk_X3_28 : Cond.methodLink RX3 28 yX3_hasKnotAt ∈ lw_g := lg_mem 399 (by decide +kernel) rfl
theorem ln_X4_18 : (RX4, 18, yX7_isAngle, "BridleBook") ∈ nn_l := by decide +kernel
theorem lk_X4_22 : Cond.methodLink RX4 22 yX4_liftAt ∈ lw_g := lg_mem 210 (by decide +kernel) rfl
theorem lk_X4_26 : Cond.methodLink RX4 26 yX4_dragAt ∈ lw_g := lg_mem 219 (by decide +kernel) rfl
theorem lk_X5_18 : Cond.methodLink RX5 18 yJ7_fill_53178 ∈ lw_g := lg_mem 365 (by decide +kernel) rfl
theorem ln_X5_24 : (RX5, 24, yX7_within, "BridleBook") ∈ nn_l := by decide +kernel
theorem lk_X5_28 : Cond.methodLink RX5 28 yJ9_min_7cf53 ∈ lw_g := lg_mem 375 (by decide +kernel) rfl
theorem lk_X5_34 : Cond.methodLink RX5 34 yX5_acrossAt ∈ lw_g := lg_mem 380 (by decide +kernel) rfl
theorem lk_X5_38 : Cond.methodLink RX5 38 yX5_upAt ∈ lw_g := lg_mem 384 (by decide +kernel) rfl
theorem lk_X5_41 : Cond.methodLink RX5 41 yJ9_abs_067f4 ∈ lw_g := lg_mem 388 (by decide +kernel) rfl
theorem lk_X5_45 : Cond.methodLink RX5 45 yX5_rootFrom ∈ lw_g := lg_mem 391 (by decide +kernel) rfl
theorem lk_X5_53 : Cond.methodLink RX5 53 yX5_tensionAt ∈ lw_g := lg_mem 410 (by decide +kernel) rfl
theorem lk_X5_56 : Cond.methodLink RX5 56 yX5_hundredths ∈ lw_g := lg_mem 411 (by decide +kernel) rfl
theorem lk_X6_19 : Cond.methodLink RX6 19 yJ9_min_7cf53 ∈ lw_g := lg_mem 543 (by decide +kernel) rfl
theorem lk_X6_25 : Cond.methodLink RX6 25 yJ9_max_7cf53 ∈ lw_g := lg_mem 544 (by decide +kernel) rfl
theorem lk_X6_28 : Cond.methodLink RX6 28 yJ9_abs_0f7a4 ∈ lw_g := lg_mem 558 (by decide +kernel) rfl
theorem lk_X6_32 : Cond.methodLink RX6 32 yX6_codeOf ∈ lw_g := lg_mem 557 (by decide +kernel) rfl
theorem lk_X6_36 : Cond.methodLink RX6 36 yX6_isOfLine ∈ lw_g := lg_mem 567 (by decide +kernel) rfl
theorem lk_X6_40 : Cond.methodLink RX6 40 yX6_push ∈ lw_g := lg_mem 582 (by decide +kernel) rfl
theorem lk_X7_95 : Cond.methodLink RX7 95 yX7_kiteAt ∈ lw_g := lg_mem 180 (by decide +kernel) rfl
theorem lk_X7_99 : Cond.methodLink RX7 99 yX7_within ∈ lw_g := lg_mem 184 (by decide +kernel) rfl
theorem lk_X7_103 : Cond.methodLink RX7 103 yX7_isArm ∈ lw_g := lg_mem 187 (by decide +kernel) rfl
theorem lk_X7_107 : Cond.methodLink RX7 107 yX2_addPanel ∈ lw_g := lg_mem 190 (by decide +kernel) rfl
theorem lk_X7_115 : Cond.methodLink RX7 115 yX7_isAngle ∈ lw_g := lg_mem 203 (by decide +kernel) rfl
theorem lk_X7_118 : Cond.methodLink RX7 118 yX4_replaceLift ∈ lw_g := lg_mem 206 (by decide +kernel) rfl
theorem lk_X7_122 : Cond.methodLink RX7 122 yX4_replaceDrag ∈ lw_g := lg_mem 215 (by decide +kernel) rfl
theorem lk_X7_125 : Cond.methodLink RX7 125 yX7_isWind ∈ lw_g := lg_mem 227 (by decide +kernel) rfl
theorem lk_X7_128 : Cond.methodLink RX7 128 yX2_upAt ∈ lw_g := lg_mem 230 (by decide +kernel) rfl
theorem lk_X7_132 : Cond.methodLink RX7 132 yX2_backAt ∈ lw_g := lg_mem 238 (by decide +kernel) rfl
theorem lk_X7_135 : Cond.methodLink RX7 135 yX2_turningAt ∈ lw_g := lg_mem 243 (by decide +kernel) rfl
theorem lk_X7_139 : Cond.methodLink RX7 139 yX2_standingAngle ∈ lw_g := lg_mem 251 (by decide +kernel) rfl
theorem lk_X7_142 : Cond.methodLink RX7 142 yX2_isSteadyAt ∈ lw_g := lg_mem 260 (by decide +kernel) rfl
theorem lk_X7_150 : Cond.methodLink RX7 150 yX7_lineAt ∈ lw_g := lg_mem 315 (by decide +kernel) rfl
theorem lk_X7_163 : Cond.methodLink RX7 163 yX7_kitesOn ∈ lw_g := lg_mem 319 (by decide +kernel) rfl
theorem lk_X7_167 : Cond.methodLink RX7 167 yX3_hasKnotAt ∈ lw_g := lg_mem 331 (by decide +kernel) rfl
theorem lk_X7_170 : Cond.methodLink RX7 170 yX3_addKnot ∈ lw_g := lg_mem 335 (by decide +kernel) rfl
theorem lk_X7_176 : Cond.methodLink RX7 176 yX7_liftsOf ∈ lw_g := lg_mem 343 (by decide +kernel) rfl
theorem lk_X7_180 : Cond.methodLink RX7 180 yX7_partingStep ∈ lw_g := lg_mem 353 (by decide +kernel) rfl
theorem lk_X7_184 : Cond.methodLink RX7 184 yX3_strengthAt ∈ lw_g := lg_mem 395 (by decide +kernel) rfl
theorem lk_X7_187 : Cond.methodLink RX7 187 yX7_loadTrain ∈ lw_g := lg_mem 357 (by decide +kernel) rfl
theorem lk_X7_191 : Cond.methodLink RX7 191 yX5_acrossAt ∈ lw_g := lg_mem 404 (by decide +kernel) rfl
theorem lk_X7_194 : Cond.methodLink RX7 194 yX5_upAt ∈ lw_g := lg_mem 405 (by decide +kernel) rfl
theorem lk_X7_196 : Cond.methodLink RX7 196 yX5_tensionAt ∈ lw_g := lg_mem 376 (by decide +kernel) rfl
theorem lk_X7_199 : Cond.methodLink RX7 199 yX5_placeAcross ∈ lw_g := lg_mem 406 (by decide +kernel) rfl
theorem lk_X7_202 : Cond.methodLink RX7 202 yX5_placeUp ∈ lw_g := lg_mem 415 (by decide +kernel) rfl
theorem lk_X7_205 : Cond.methodLink RX7 205 yX7_sever ∈ lw_g := lg_mem 423 (by decide +kernel) rfl
theorem lk_X7_209 : Cond.methodLink RX7 209 yX7_isPlace ∈ lw_g := lg_mem 439 (by decide +kernel) rfl
theorem lk_X7_216 : Cond.methodLink RX7 216 yX7_hasTreeAt ∈ lw_g := lg_mem 481 (by decide +kernel) rfl
theorem lk_X7_219 : Cond.methodLink RX7 219 yX7_flyerAt ∈ lw_g := lg_mem 447 (by decide +kernel) rfl
theorem lk_X7_223 : Cond.methodLink RX7 223 yX7_reasonAgainst ∈ lw_g := lg_mem 493 (by decide +kernel) rfl
theorem lk_X7_231 : Cond.methodLink RX7 231 yX7_spreadCone ∈ lw_g := lg_mem 497 (by decide +kernel) rfl
theorem lk_X7_235 : Cond.methodLink RX7 235 yX0_holds ∈ lw_g := lg_mem 511 (by decide +kernel) rfl
theorem lk_X7_238 : Cond.methodLink RX7 238 yX7_areTwoLines ∈ lw_g := lg_mem 536 (by decide +kernel) rfl
theorem lk_X7_242 : Cond.methodLink RX7 242 yX6_codeOf ∈ lw_g := lg_mem 540 (by decide +kernel) rfl
theorem lk_X7_245 : Cond.methodLink RX7 245 yX6_push ∈ lw_g := lg_mem 545 (by decide +kernel) rfl
theorem lk_X7_251 : Cond.methodLink RX7 251 yX6_turnsOf ∈ lw_g := lg_mem 553 (by decide +kernel) rfl
theorem lk_X7_254 : Cond.methodLink RX7 254 yX6_undoneFor ∈ lw_g := lg_mem 563 (by decide +kernel) rfl
theorem lk_X7_257 : Cond.methodLink RX7 257 yX6_dropLine ∈ lw_g := lg_mem 578 (by decide +kernel) rfl
theorem lk_X7_261 : Cond.methodLink RX7 261 yX7_countFlying ∈ lw_g := lg_mem 587 (by decide +kernel) rfl
theorem lk_X7_265 : Cond.methodLink RX7 265 yX7_countTied ∈ lw_g := lg_mem 591 (by decide +kernel) rfl
theorem lk_X7_268 : Cond.methodLink RX7 268 yX7_countFree ∈ lw_g := lg_mem 595 (by decide +kernel) rfl
theorem lk_X7_272 : Cond.methodLink RX7 272 yJ9_min_7cf53 ∈ lw_g := lg_mem 351 (by decide +kernel) rfl
theorem lk_X7_277 : Cond.methodLink RX7 277 yJ9_max_7cf53 ∈ lw_g := lg_mem 352 (by decide +kernel) rfl
theorem lk_X7_283 : Cond.methodLink RX7 283 yX7_windAt ∈ lw_g := lg_mem 347 (by decide +kernel) rfl
theorem lk_X7_286 : Cond.methodLink RX7 286 yX5_clear ∈ lw_g := lg_mem 361 (by decide +kernel) rfl
theorem lk_X7_289 : Cond.methodLink RX7 289 yX5_hang ∈ lw_g := lg_mem 366 (by decide +kernel) rfl
theorem lk_X7_292 : Cond.methodLink RX7 292 yX5_sumFromEnd ∈ lw_g := lg_mem 371 (by decide +kernel) rfl
theorem lk_X7_296 : Cond.methodLink RX7 296 yX3_shortenTo ∈ lw_g := lg_mem 427 (by decide +kernel) rfl
theorem lk_X7_300 : Cond.methodLink RX7 300 yX0_spread ∈ lw_g := lg_mem 501 (by decide +kernel) rfl
theorem lk_X7_304 : Cond.methodLink RX7 304 yX7_isInTheWay ∈ lw_g := lg_mem 516 (by decide +kernel) rfl
theorem lk_X7_307 : Cond.methodLink RX7 307 yX0_meets ∈ lw_g := lg_mem 520 (by decide +kernel) rfl
theorem lk_X8_111 : Cond.methodLink RX8 111 yX8_in ∈ lw_g := lg_mem 731 (by decide +kernel) rfl
theorem lk_X8_115 : Cond.methodLink RX8 115 yX8_isKite ∈ lw_g := lg_mem 727 (by decide +kernel) rfl
theorem lk_X8_120 : Cond.methodLink RX8 120 yX8_isAngle ∈ lw_g := lg_mem 743 (by decide +kernel) rfl
theorem lk_X8_123 : Cond.methodLink RX8 123 yX8_weightOf ∈ lw_g := lg_mem 757 (by decide +kernel) rfl
theorem lk_X8_127 : Cond.methodLink RX8 127 yX8_isWind ∈ lw_g := lg_mem 750 (by decide +kernel) rfl
theorem lk_X8_130 : Cond.methodLink RX8 130 yX8_up ∈ lw_g := lg_mem 753 (by decide +kernel) rfl
theorem lk_X8_134 : Cond.methodLink RX8 134 yX8_back ∈ lw_g := lg_mem 761 (by decide +kernel) rfl
theorem lk_X8_137 : Cond.methodLink RX8 137 yX8_turns ∈ lw_g := lg_mem 765 (by decide +kernel) rfl
theorem lk_X8_140 : Cond.methodLink RX8 140 yX8_standsAt ∈ lw_g := lg_mem 773 (by decide +kernel) rfl
theorem lk_X8_144 : Cond.methodLink RX8 144 yX8_isSteady ∈ lw_g := lg_mem 781 (by decide +kernel) rfl
theorem lk_X8_147 : Cond.methodLink RX8 147 yX8_pullUp ∈ lw_g := lg_mem 789 (by decide +kernel) rfl
theorem lk_X8_150 : Cond.methodLink RX8 150 yX8_pullBack ∈ lw_g := lg_mem 793 (by decide +kernel) rfl
theorem lk_X8_157 : Cond.methodLink RX8 157 yX8_isLine ∈ lw_g := lg_mem 814 (by decide +kernel) rfl
theorem lk_X8_160 : Cond.methodLink RX8 160 yX8_isStep ∈ lw_g := lg_mem 818 (by decide +kernel) rfl
theorem lk_X8_164 : Cond.methodLink RX8 164 yX8_kitesOn ∈ lw_g := lg_mem 822 (by decide +kernel) rfl
theorem lk_X8_167 : Cond.methodLink RX8 167 yX8_isWeak ∈ lw_g := lg_mem 834 (by decide +kernel) rfl
theorem lk_X8_174 : Cond.methodLink RX8 174 yX8_windBand ∈ lw_g := lg_mem 850 (by decide +kernel) rfl
theorem lk_X8_177 : Cond.methodLink RX8 177 yX8_root ∈ lw_g := lg_mem 853 (by decide +kernel) rfl
theorem lk_X8_183 : Cond.methodLink RX8 183 yX8_stand ∈ lw_g := lg_mem 846 (by decide +kernel) rfl
theorem lk_X8_187 : Cond.methodLink RX8 187 yX8_strengthAt ∈ lw_g := lg_mem 863 (by decide +kernel) rfl
theorem lk_X8_190 : Cond.methodLink RX8 190 yX8_lifts ∈ lw_g := lg_mem 842 (by decide +kernel) rfl
theorem lk_X8_193 : Cond.methodLink RX8 193 yX8_partsAt ∈ lw_g := lg_mem 859 (by decide +kernel) rfl
theorem lk_X8_196 : Cond.methodLink RX8 196 yX8_end ∈ lw_g := lg_mem 875 (by decide +kernel) rfl
theorem lk_X8_203 : Cond.methodLink RX8 203 yX8_isPlace ∈ lw_g := lg_mem 887 (by decide +kernel) rfl
theorem lk_X8_212 : Cond.methodLink RX8 212 yX8_isFlyer ∈ lw_g := lg_mem 903 (by decide +kernel) rfl
theorem lk_X8_215 : Cond.methodLink RX8 215 yX8_endOf ∈ lw_g := lg_mem 919 (by decide +kernel) rfl
theorem lk_X8_218 : Cond.methodLink RX8 218 yX8_isInCone ∈ lw_g := lg_mem 915 (by decide +kernel) rfl
theorem lk_X8_221 : Cond.methodLink RX8 221 yX8_doMeet ∈ lw_g := lg_mem 923 (by decide +kernel) rfl
theorem lk_X8_224 : Cond.methodLink RX8 224 yX8_whyNot ∈ lw_g := lg_mem 911 (by decide +kernel) rfl
theorem lk_X8_230 : Cond.methodLink RX8 230 yX8_lesser ∈ lw_g := lg_mem 939 (by decide +kernel) rfl
theorem lk_X8_233 : Cond.methodLink RX8 233 yX8_greater ∈ lw_g := lg_mem 942 (by decide +kernel) rfl
theorem lk_X8_236 : Cond.methodLink RX8 236 yX8_wind0 ∈ lw_g := lg_mem 945 (by decide +kernel) rfl
theorem lk_X8_240 : Cond.methodLink RX8 240 yX8_turnsOf ∈ lw_g := lg_mem 953 (by decide +kernel) rfl
theorem lk_X8_243 : Cond.methodLink RX8 243 yX8_has ∈ lw_g := lg_mem 961 (by decide +kernel) rfl
theorem lk_X8_246 : Cond.methodLink RX8 246 yX8_undo ∈ lw_g := lg_mem 977 (by decide +kernel) rfl
theorem lc_X5_49 : Cond.constantLong RX5 49 2 ∈ lw_g := lg_mem 394 (by decide +kernel) rfl
theorem lc_X5_51 : Cond.constantLong RX5 51 100 ∈ lw_g := lg_mem 414 (by decide +kernel) rfl
theorem lc_X7_111 : Cond.constant RX7 111 (-2000000000) ∈ lw_g := lg_mem 198 (by decide +kernel) rfl
theorem lc_X7_146 : Cond.constant RX7 146 99999 ∈ lw_g := lg_mem 286 (by decide +kernel) rfl
theorem lc_X7_271 : Cond.constant RX7 271 39999 ∈ lw_g := lg_mem 442 (by decide +kernel) rfl
theorem lc_X8_119 : Cond.constant RX8 119 (-2000000000) ∈ lw_g := lg_mem 738 (by decide +kernel) rfl
theorem lc_X8_156 : Cond.constant RX8 156 99999 ∈ lw_g := lg_mem 809 (by decide +kernel) rfl
theorem lc_X8_170 : Cond.constantLong RX8 170 3000000000 ∈ lw_g := lg_mem 856 (by decide +kernel) rfl
theorem lc_X8_172 : Cond.constantLong RX8 172 2 ∈ lw_g := lg_mem 857 (by decide +kernel) rfl
theorem lc_X8_181 : Cond.constantLong RX8 181 100 ∈ lw_g := lg_mem 858 (by decide +kernel) rfl
theorem lc_X8_202 : Cond.constant RX8 202 39999 ∈ lw_g := lg_mem 890 (by decide +kernel) rfl
set_option maxRecDepth 100000 in
theorem ok_J9_abs_0f7a4 : OkS yJ9_abs_0f7a4 cJ9_abs_0f7a4 1 (some .int) 1 := ⟨lg_mem 510 rfl rfl, lg_mem 509 (by decide +kernel) rfl, lg_mem 9 (by decide +kernel) rfl, by decide, by decide, by decide +kernel⟩
set_option maxRecDepth 100000 in
theorem ok_X0_reach : OkS yX0_reach cX0_reach 4 (some .int) 4 := ⟨lg_mem 507 rfl rfl, lg_mem 506 (by decide +kernel) rfl, lg_mem 4 (by decide +kernel) rfl, by decide, by decide, by decide +kernel⟩
set_option maxRecDepth 100000 in
theorem ok_X0_spread : OkV yX0_spread cX0_spread 5 none 4 := ⟨lg_mem 504 rfl rfl, lg_mem 502 (by decide +kernel) rfl, lg_mem 503 (by decide +kernel) rfl, lg_mem 4 (by decide +kernel) rfl, by decide, by decide, by decide +kernel⟩
set_option maxRecDepth 100000 in
theorem ok_X7_within : OkS yX7_within cX7_within 3 (some .boolean) 3 := ⟨lg_mem 186 rfl rfl, lg_mem 185 (by decide +kernel) rfl, lg_mem 1 (by decide +kernel) rfl, by decide, by decide, by decide +kernel⟩
set_option maxRecDepth 100000 in
theorem ok_X0_holds : OkV yX0_holds cX0_holds 2 (some .boolean) 1 := ⟨lg_mem 514 rfl rfl, lg_mem 512 (by decide +kernel) rfl, lg_mem 513 (by decide +kernel) rfl, lg_mem 4 (by decide +kernel) rfl, by decide, by decide, by decide +kernel⟩
set_option maxRecDepth 100000 in
theorem ok_X0_meets : OkV yX0_meets cX0_meets 2 (some .boolean) 1 := ⟨lg_mem 523 rfl rfl, lg_mem 521 (by decide +kernel) rfl, lg_mem 522 (by decide +kernel) rfl, lg_mem 4 (by decide +kernel) rfl, by decide, by decide, by decide +kernel⟩
set_option maxRecDepth 100000 in
theorem ok_X2_addPanel : OkV yX2_addPanel cX2_addPanel 4 (some .int) 3 := ⟨lg_mem 193 rfl rfl, lg_mem 191 (by decide +kernel) rfl, lg_mem 192 (by decide +kernel) rfl, lg_mem 8 (by decide +kernel) rfl, by decide, by decide, by decide +kernel⟩
set_option maxRecDepth 100000 in
theorem ok_X2_pressure : OkS yX2_pressure cX2_pressure 3 (some .int) 3 := ⟨lg_mem 237 rfl rfl, lg_mem 236 (by decide +kernel) rfl, lg_mem 8 (by decide +kernel) rfl, by decide, by decide, by decide +kernel⟩
set_option maxRecDepth 100000 in
theorem ok_X7_isAngle : OkS yX7_isAngle cX7_isAngle 1 (some .boolean) 1 := ⟨lg_mem 205 rfl rfl, lg_mem 204 (by decide +kernel) rfl, lg_mem 1 (by decide +kernel) rfl, by decide, by decide, by decide +kernel⟩
set_option maxRecDepth 100000 in
theorem ok_X4_liftAt : OkV yX4_liftAt cX4_liftAt 2 (some .int) 1 := ⟨lg_mem 213 rfl rfl, lg_mem 211 (by decide +kernel) rfl, lg_mem 212 (by decide +kernel) rfl, lg_mem 2 (by decide +kernel) rfl, by decide, by decide, by decide +kernel⟩
set_option maxRecDepth 100000 in
theorem ok_X2_upAt : OkV yX2_upAt cX2_upAt 7 (some .int) 3 := ⟨lg_mem 233 rfl rfl, lg_mem 231 (by decide +kernel) rfl, lg_mem 232 (by decide +kernel) rfl, lg_mem 8 (by decide +kernel) rfl, by decide, by decide, by decide +kernel⟩
set_option maxRecDepth 100000 in
theorem ok_X4_dragAt : OkV yX4_dragAt cX4_dragAt 2 (some .int) 1 := ⟨lg_mem 222 rfl rfl, lg_mem 220 (by decide +kernel) rfl, lg_mem 221 (by decide +kernel) rfl, lg_mem 2 (by decide +kernel) rfl, by decide, by decide, by decide +kernel⟩
set_option maxRecDepth 100000 in
theorem ok_X2_backAt : OkV yX2_backAt cX2_backAt 7 (some .int) 3 := ⟨lg_mem 241 rfl rfl, lg_mem 239 (by decide +kernel) rfl, lg_mem 240 (by decide +kernel) rfl, lg_mem 8 (by decide +kernel) rfl, by decide, by decide, by decide +kernel⟩
set_option maxRecDepth 100000 in
theorem ok_X2_turningAt : OkV yX2_turningAt cX2_turningAt 8 (some .int) 4 := ⟨lg_mem 246 rfl rfl, lg_mem 244 (by decide +kernel) rfl, lg_mem 245 (by decide +kernel) rfl, lg_mem 8 (by decide +kernel) rfl, by decide, by decide, by decide +kernel⟩
set_option maxRecDepth 100000 in
theorem ok_X2_standingAngle : OkV yX2_standingAngle cX2_standingAngle 7 (some .int) 3 := ⟨lg_mem 254 rfl rfl, lg_mem 252 (by decide +kernel) rfl, lg_mem 253 (by decide +kernel) rfl, lg_mem 8 (by decide +kernel) rfl, by decide, by decide, by decide +kernel⟩
set_option maxRecDepth 100000 in
theorem ok_J9_max_7cf53 : OkS yJ9_max_7cf53 cJ9_max_7cf53 2 (some .int) 2 := ⟨lg_mem 266 rfl rfl, lg_mem 265 (by decide +kernel) rfl, lg_mem 9 (by decide +kernel) rfl, by decide, by decide, by decide +kernel⟩
set_option maxRecDepth 100000 in
theorem ok_J9_min_7cf53 : OkS yJ9_min_7cf53 cJ9_min_7cf53 2 (some .int) 2 := ⟨lg_mem 269 rfl rfl, lg_mem 268 (by decide +kernel) rfl, lg_mem 9 (by decide +kernel) rfl, by decide, by decide, by decide +kernel⟩
set_option maxRecDepth 100000 in
theorem ok_X2_isSteadyAt : OkV yX2_isSteadyAt cX2_isSteadyAt 7 (some .boolean) 4 := ⟨lg_mem 263 rfl rfl, lg_mem 261 (by decide +kernel) rfl, lg_mem 262 (by decide +kernel) rfl, lg_mem 8 (by decide +kernel) rfl, by decide, by decide, by decide +kernel⟩
set_option maxRecDepth 100000 in
theorem ok_X3_hasKnotAt : OkV yX3_hasKnotAt cX3_hasKnotAt 3 (some .boolean) 1 := ⟨lg_mem 334 rfl rfl, lg_mem 332 (by decide +kernel) rfl, lg_mem 333 (by decide +kernel) rfl, lg_mem 10 (by decide +kernel) rfl, by decide, by decide, by decide +kernel⟩
set_option maxRecDepth 100000 in
theorem ok_X3_addKnot : OkV yX3_addKnot cX3_addKnot 2 (some .int) 1 := ⟨lg_mem 338 rfl rfl, lg_mem 336 (by decide +kernel) rfl, lg_mem 337 (by decide +kernel) rfl, lg_mem 10 (by decide +kernel) rfl, by decide, by decide, by decide +kernel⟩
set_option maxRecDepth 100000 in
theorem ok_X3_strengthAt : OkV yX3_strengthAt cX3_strengthAt 2 (some .int) 1 := ⟨lg_mem 398 rfl rfl, lg_mem 396 (by decide +kernel) rfl, lg_mem 397 (by decide +kernel) rfl, lg_mem 10 (by decide +kernel) rfl, by decide, by decide, by decide +kernel⟩
set_option maxRecDepth 100000 in
theorem ok_X3_shortenTo : OkV yX3_shortenTo cX3_shortenTo 4 none 1 := ⟨lg_mem 430 rfl rfl, lg_mem 428 (by decide +kernel) rfl, lg_mem 429 (by decide +kernel) rfl, lg_mem 10 (by decide +kernel) rfl, by decide, by decide, by decide +kernel⟩
set_option maxRecDepth 100000 in
theorem ok_X4_replaceLift : OkV yX4_replaceLift cX4_replaceLift 4 (some .int) 2 := ⟨lg_mem 209 rfl rfl, lg_mem 207 (by decide +kernel) rfl, lg_mem 208 (by decide +kernel) rfl, lg_mem 2 (by decide +kernel) rfl, by decide, by decide, by decide +kernel⟩
set_option maxRecDepth 100000 in
theorem ok_X4_replaceDrag : OkV yX4_replaceDrag cX4_replaceDrag 4 (some .int) 2 := ⟨lg_mem 218 rfl rfl, lg_mem 216 (by decide +kernel) rfl, lg_mem 217 (by decide +kernel) rfl, lg_mem 2 (by decide +kernel) rfl, by decide, by decide, by decide +kernel⟩
set_option maxRecDepth 100000 in
theorem ok_J7_fill_53178 : OkS yJ7_fill_53178 cJ7_fill_53178 4 none 2 := ⟨lg_mem 89 rfl rfl, lg_mem 88 (by decide +kernel) rfl, lg_mem 6 (by decide +kernel) rfl, by decide, by decide, by decide +kernel⟩
set_option maxRecDepth 100000 in
theorem ok_X5_clear : OkV yX5_clear cX5_clear 1 none 0 := ⟨lg_mem 364 rfl rfl, lg_mem 362 (by decide +kernel) rfl, lg_mem 363 (by decide +kernel) rfl, lg_mem 3 (by decide +kernel) rfl, by decide, by decide, by decide +kernel⟩
set_option maxRecDepth 100000 in
theorem ok_X5_hang : OkV yX5_hang cX5_hang 4 none 3 := ⟨lg_mem 369 rfl rfl, lg_mem 367 (by decide +kernel) rfl, lg_mem 368 (by decide +kernel) rfl, lg_mem 3 (by decide +kernel) rfl, by decide, by decide, by decide +kernel⟩
set_option maxRecDepth 100000 in
theorem ok_X5_sumFromEnd : OkV yX5_sumFromEnd cX5_sumFromEnd 4 none 2 := ⟨lg_mem 374 rfl rfl, lg_mem 372 (by decide +kernel) rfl, lg_mem 373 (by decide +kernel) rfl, lg_mem 3 (by decide +kernel) rfl, by decide, by decide, by decide +kernel⟩
set_option maxRecDepth 100000 in
theorem ok_X5_acrossAt : OkV yX5_acrossAt cX5_acrossAt 2 (some .int) 1 := ⟨lg_mem 383 rfl rfl, lg_mem 381 (by decide +kernel) rfl, lg_mem 382 (by decide +kernel) rfl, lg_mem 3 (by decide +kernel) rfl, by decide, by decide, by decide +kernel⟩
set_option maxRecDepth 100000 in
theorem ok_X5_upAt : OkV yX5_upAt cX5_upAt 2 (some .int) 1 := ⟨lg_mem 387 rfl rfl, lg_mem 385 (by decide +kernel) rfl, lg_mem 386 (by decide +kernel) rfl, lg_mem 3 (by decide +kernel) rfl, by decide, by decide, by decide +kernel⟩
set_option maxRecDepth 100000 in
theorem ok_J9_abs_067f4 : OkS yJ9_abs_067f4 cJ9_abs_067f4 2 (some .long) 1 := ⟨lg_mem 390 rfl rfl, lg_mem 389 (by decide +kernel) rfl, lg_mem 9 (by decide +kernel) rfl, by decide, by decide, by decide +kernel⟩
set_option maxRecDepth 100000 in
theorem ok_X5_rootFrom : OkS yX5_rootFrom cX5_rootFrom 9 (some .long) 2 := ⟨lg_mem 393 rfl rfl, lg_mem 392 (by decide +kernel) rfl, lg_mem 3 (by decide +kernel) rfl, by decide, by decide, by decide +kernel⟩
set_option maxRecDepth 100000 in
theorem ok_X5_tensionAt : OkV yX5_tensionAt cX5_tensionAt 6 (some .int) 1 := ⟨lg_mem 379 rfl rfl, lg_mem 377 (by decide +kernel) rfl, lg_mem 378 (by decide +kernel) rfl, lg_mem 3 (by decide +kernel) rfl, by decide, by decide, by decide +kernel⟩
set_option maxRecDepth 100000 in
theorem ok_X5_hundredths : OkS yX5_hundredths cX5_hundredths 2 (some .int) 2 := ⟨lg_mem 413 rfl rfl, lg_mem 412 (by decide +kernel) rfl, lg_mem 3 (by decide +kernel) rfl, by decide, by decide, by decide +kernel⟩
set_option maxRecDepth 100000 in
theorem ok_X5_placeAcross : OkV yX5_placeAcross cX5_placeAcross 4 (some .int) 1 := ⟨lg_mem 409 rfl rfl, lg_mem 407 (by decide +kernel) rfl, lg_mem 408 (by decide +kernel) rfl, lg_mem 3 (by decide +kernel) rfl, by decide, by decide, by decide +kernel⟩
set_option maxRecDepth 100000 in
theorem ok_X5_placeUp : OkV yX5_placeUp cX5_placeUp 4 (some .int) 1 := ⟨lg_mem 418 rfl rfl, lg_mem 416 (by decide +kernel) rfl, lg_mem 417 (by decide +kernel) rfl, lg_mem 3 (by decide +kernel) rfl, by decide, by decide, by decide +kernel⟩
set_option maxRecDepth 100000 in
theorem ok_X6_codeOf : OkS yX6_codeOf cX6_codeOf 3 (some .int) 3 := ⟨lg_mem 542 rfl rfl, lg_mem 541 (by decide +kernel) rfl, lg_mem 5 (by decide +kernel) rfl, by decide, by decide, by decide +kernel⟩
set_option maxRecDepth 100000 in
theorem ok_X6_isOfLine : OkS yX6_isOfLine cX6_isOfLine 3 (some .boolean) 2 := ⟨lg_mem 569 rfl rfl, lg_mem 568 (by decide +kernel) rfl, lg_mem 5 (by decide +kernel) rfl, by decide, by decide, by decide +kernel⟩
set_option maxRecDepth 100000 in
theorem ok_X6_push : OkV yX6_push cX6_push 2 (some .boolean) 1 := ⟨lg_mem 548 rfl rfl, lg_mem 546 (by decide +kernel) rfl, lg_mem 547 (by decide +kernel) rfl, lg_mem 5 (by decide +kernel) rfl, by decide, by decide, by decide +kernel⟩
set_option maxRecDepth 100000 in
theorem ok_X6_turnsOf : OkV yX6_turnsOf cX6_turnsOf 6 (some .int) 2 := ⟨lg_mem 556 rfl rfl, lg_mem 554 (by decide +kernel) rfl, lg_mem 555 (by decide +kernel) rfl, lg_mem 5 (by decide +kernel) rfl, by decide, by decide, by decide +kernel⟩
set_option maxRecDepth 100000 in
theorem ok_X6_undoneFor : OkV yX6_undoneFor cX6_undoneFor 3 (some .int) 1 := ⟨lg_mem 566 rfl rfl, lg_mem 564 (by decide +kernel) rfl, lg_mem 565 (by decide +kernel) rfl, lg_mem 5 (by decide +kernel) rfl, by decide, by decide, by decide +kernel⟩
set_option maxRecDepth 100000 in
theorem ok_X6_dropLine : OkV yX6_dropLine cX6_dropLine 5 none 1 := ⟨lg_mem 581 rfl rfl, lg_mem 579 (by decide +kernel) rfl, lg_mem 580 (by decide +kernel) rfl, lg_mem 5 (by decide +kernel) rfl, by decide, by decide, by decide +kernel⟩
set_option maxRecDepth 100000 in
theorem ok_X7_kiteAt : OkV yX7_kiteAt cX7_kiteAt 2 (some (.object "BridleBook$Kite")) 1 := ⟨lg_mem 183 rfl rfl, lg_mem 182 (by decide +kernel) rfl, lg_memP 0 (by decide +kernel) rfl, lg_mem 1 (by decide +kernel) rfl, by decide, by decide, by decide +kernel⟩
set_option maxRecDepth 100000 in
theorem ok_X7_isArm : OkS yX7_isArm cX7_isArm 1 (some .boolean) 1 := ⟨lg_mem 189 rfl rfl, lg_mem 188 (by decide +kernel) rfl, lg_mem 1 (by decide +kernel) rfl, by decide, by decide, by decide +kernel⟩
set_option maxRecDepth 100000 in
theorem ok_X7_panel : OkV yX7_panel cX7_panel 6 (some .int) 4 := ⟨lg_mem 179 rfl rfl, lg_mem 177 (by decide +kernel) rfl, lg_mem 178 (by decide +kernel) rfl, lg_mem 1 (by decide +kernel) rfl, by decide, by decide, by decide +kernel⟩
set_option maxRecDepth 100000 in
theorem ok_X7_knot : OkV yX7_knot cX7_knot 5 (some .int) 2 := ⟨lg_mem 197 rfl rfl, lg_mem 195 (by decide +kernel) rfl, lg_mem 196 (by decide +kernel) rfl, lg_mem 1 (by decide +kernel) rfl, by decide, by decide, by decide +kernel⟩
set_option maxRecDepth 100000 in
theorem ok_X7_table : OkV yX7_table cX7_table 4 (some .int) 3 := ⟨lg_mem 202 rfl rfl, lg_mem 200 (by decide +kernel) rfl, lg_mem 201 (by decide +kernel) rfl, lg_mem 1 (by decide +kernel) rfl, by decide, by decide, by decide +kernel⟩
set_option maxRecDepth 100000 in
theorem ok_X7_isWind : OkS yX7_isWind cX7_isWind 1 (some .boolean) 1 := ⟨lg_mem 229 rfl rfl, lg_mem 228 (by decide +kernel) rfl, lg_mem 1 (by decide +kernel) rfl, by decide, by decide, by decide +kernel⟩
set_option maxRecDepth 100000 in
theorem ok_X7_force : OkV yX7_force cX7_force 6 (some .int) 4 := ⟨lg_mem 226 rfl rfl, lg_mem 224 (by decide +kernel) rfl, lg_mem 225 (by decide +kernel) rfl, lg_mem 1 (by decide +kernel) rfl, by decide, by decide, by decide +kernel⟩
set_option maxRecDepth 100000 in
theorem ok_X7_stands : OkV yX7_stands cX7_stands 4 (some .int) 2 := ⟨lg_mem 250 rfl rfl, lg_mem 248 (by decide +kernel) rfl, lg_mem 249 (by decide +kernel) rfl, lg_mem 1 (by decide +kernel) rfl, by decide, by decide, by decide +kernel⟩
set_option maxRecDepth 100000 in
theorem ok_X7_steady : OkV yX7_steady cX7_steady 5 (some .int) 2 := ⟨lg_mem 259 rfl rfl, lg_mem 257 (by decide +kernel) rfl, lg_mem 258 (by decide +kernel) rfl, lg_mem 1 (by decide +kernel) rfl, by decide, by decide, by decide +kernel⟩
set_option maxRecDepth 100000 in
theorem ok_X7_pull : OkV yX7_pull cX7_pull 6 (some .int) 3 := ⟨lg_mem 273 rfl rfl, lg_mem 271 (by decide +kernel) rfl, lg_mem 272 (by decide +kernel) rfl, lg_mem 1 (by decide +kernel) rfl, by decide, by decide, by decide +kernel⟩
set_option maxRecDepth 100000 in
theorem ok_X7_trim : OkV yX7_trim cX7_trim 8 (some .int) 4 := ⟨lg_mem 277 rfl rfl, lg_mem 275 (by decide +kernel) rfl, lg_mem 276 (by decide +kernel) rfl, lg_mem 1 (by decide +kernel) rfl, by decide, by decide, by decide +kernel⟩
set_option maxRecDepth 100000 in
theorem ok_X7_wind : OkV yX7_wind cX7_wind 4 (some .int) 2 := ⟨lg_mem 281 rfl rfl, lg_mem 279 (by decide +kernel) rfl, lg_mem 280 (by decide +kernel) rfl, lg_mem 1 (by decide +kernel) rfl, by decide, by decide, by decide +kernel⟩
set_option maxRecDepth 100000 in
theorem ok_X7_lineAt : OkV yX7_lineAt cX7_lineAt 2 (some (.object "BridleBook$Line")) 1 := ⟨lg_mem 318 rfl rfl, lg_mem 317 (by decide +kernel) rfl, lg_memP 1 (by decide +kernel) rfl, lg_mem 1 (by decide +kernel) rfl, by decide, by decide, by decide +kernel⟩
set_option maxRecDepth 100000 in
theorem ok_X7_kitesOn : OkV yX7_kitesOn cX7_kitesOn 5 (some .int) 1 := ⟨lg_mem 322 rfl rfl, lg_mem 321 (by decide +kernel) rfl, lg_memP 2 (by decide +kernel) rfl, lg_mem 1 (by decide +kernel) rfl, by decide, by decide, by decide +kernel⟩
set_option maxRecDepth 100000 in
theorem ok_X7_tie : OkV yX7_tie cX7_tie 6 (some .int) 3 := ⟨lg_mem 314 rfl rfl, lg_mem 312 (by decide +kernel) rfl, lg_mem 313 (by decide +kernel) rfl, lg_mem 1 (by decide +kernel) rfl, by decide, by decide, by decide +kernel⟩
set_option maxRecDepth 100000 in
theorem ok_X7_untie : OkV yX7_untie cX7_untie 4 (some .int) 1 := ⟨lg_mem 326 rfl rfl, lg_mem 324 (by decide +kernel) rfl, lg_mem 325 (by decide +kernel) rfl, lg_mem 1 (by decide +kernel) rfl, by decide, by decide, by decide +kernel⟩
set_option maxRecDepth 100000 in
theorem ok_X7_weaken : OkV yX7_weaken cX7_weaken 4 (some .int) 2 := ⟨lg_mem 330 rfl rfl, lg_mem 328 (by decide +kernel) rfl, lg_mem 329 (by decide +kernel) rfl, lg_mem 1 (by decide +kernel) rfl, by decide, by decide, by decide +kernel⟩
set_option maxRecDepth 100000 in
theorem ok_X7_windAt : OkV yX7_windAt cX7_windAt 3 (some .int) 1 := ⟨lg_mem 350 rfl rfl, lg_mem 349 (by decide +kernel) rfl, lg_memP 4 (by decide +kernel) rfl, lg_mem 1 (by decide +kernel) rfl, by decide, by decide, by decide +kernel⟩
set_option maxRecDepth 100000 in
theorem ok_X7_liftsOf : OkV yX7_liftsOf cX7_liftsOf 8 (some .int) 3 := ⟨lg_mem 346 rfl rfl, lg_mem 345 (by decide +kernel) rfl, lg_memP 3 (by decide +kernel) rfl, lg_mem 1 (by decide +kernel) rfl, by decide, by decide, by decide +kernel⟩
set_option maxRecDepth 100000 in
theorem ok_X7_loadTrain : OkV yX7_loadTrain cX7_loadTrain 7 none 2 := ⟨lg_mem 360 rfl rfl, lg_mem 359 (by decide +kernel) rfl, lg_memP 6 (by decide +kernel) rfl, lg_mem 1 (by decide +kernel) rfl, by decide, by decide, by decide +kernel⟩
set_option maxRecDepth 100000 in
theorem ok_X7_partingStep : OkV yX7_partingStep cX7_partingStep 7 (some .int) 2 := ⟨lg_mem 356 rfl rfl, lg_mem 355 (by decide +kernel) rfl, lg_memP 5 (by decide +kernel) rfl, lg_mem 1 (by decide +kernel) rfl, by decide, by decide, by decide +kernel⟩
set_option maxRecDepth 100000 in
theorem ok_X7_ofLine : OkV yX7_ofLine cX7_ofLine 4 (some .int) 2 := ⟨lg_mem 342 rfl rfl, lg_mem 340 (by decide +kernel) rfl, lg_mem 341 (by decide +kernel) rfl, lg_mem 1 (by decide +kernel) rfl, by decide, by decide, by decide +kernel⟩
set_option maxRecDepth 100000 in
theorem ok_X7_step : OkV yX7_step cX7_step 5 (some .int) 3 := ⟨lg_mem 403 rfl rfl, lg_mem 401 (by decide +kernel) rfl, lg_mem 402 (by decide +kernel) rfl, lg_mem 1 (by decide +kernel) rfl, by decide, by decide, by decide +kernel⟩
set_option maxRecDepth 100000 in
theorem ok_X7_sever : OkV yX7_sever cX7_sever 6 none 3 := ⟨lg_mem 426 rfl rfl, lg_mem 425 (by decide +kernel) rfl, lg_memP 7 (by decide +kernel) rfl, lg_mem 1 (by decide +kernel) rfl, by decide, by decide, by decide +kernel⟩
set_option maxRecDepth 100000 in
theorem ok_X7_part : OkV yX7_part cX7_part 4 (some .int) 1 := ⟨lg_mem 422 rfl rfl, lg_mem 420 (by decide +kernel) rfl, lg_mem 421 (by decide +kernel) rfl, lg_mem 1 (by decide +kernel) rfl, by decide, by decide, by decide +kernel⟩
set_option maxRecDepth 100000 in
theorem ok_X7_least : OkV yX7_least cX7_least 5 (some .int) 2 := ⟨lg_mem 434 rfl rfl, lg_mem 432 (by decide +kernel) rfl, lg_mem 433 (by decide +kernel) rfl, lg_mem 1 (by decide +kernel) rfl, by decide, by decide, by decide +kernel⟩
set_option maxRecDepth 100000 in
theorem ok_X7_blow : OkV yX7_blow cX7_blow 4 (some .int) 2 := ⟨lg_mem 476 rfl rfl, lg_mem 474 (by decide +kernel) rfl, lg_mem 475 (by decide +kernel) rfl, lg_mem 1 (by decide +kernel) rfl, by decide, by decide, by decide +kernel⟩
set_option maxRecDepth 100000 in
theorem ok_X7_isPlace : OkS yX7_isPlace cX7_isPlace 1 (some .boolean) 1 := ⟨lg_mem 441 rfl rfl, lg_mem 440 (by decide +kernel) rfl, lg_mem 1 (by decide +kernel) rfl, by decide, by decide, by decide +kernel⟩
set_option maxRecDepth 100000 in
theorem ok_X7_hasTreeAt : OkV yX7_hasTreeAt cX7_hasTreeAt 3 (some .boolean) 1 := ⟨lg_mem 484 rfl rfl, lg_mem 483 (by decide +kernel) rfl, lg_memP 10 (by decide +kernel) rfl, lg_mem 1 (by decide +kernel) rfl, by decide, by decide, by decide +kernel⟩
set_option maxRecDepth 100000 in
theorem ok_X7_tree : OkV yX7_tree cX7_tree 2 (some .int) 1 := ⟨lg_mem 480 rfl rfl, lg_mem 478 (by decide +kernel) rfl, lg_mem 479 (by decide +kernel) rfl, lg_mem 1 (by decide +kernel) rfl, by decide, by decide, by decide +kernel⟩
set_option maxRecDepth 100000 in
theorem ok_X7_flyerAt : OkV yX7_flyerAt cX7_flyerAt 2 (some (.object "BridleBook$Flyer")) 1 := ⟨lg_mem 450 rfl rfl, lg_mem 449 (by decide +kernel) rfl, lg_memP 9 (by decide +kernel) rfl, lg_mem 1 (by decide +kernel) rfl, by decide, by decide, by decide +kernel⟩
set_option maxRecDepth 100000 in
theorem ok_X7_agree : OkV yX7_agree cX7_agree 5 (some .int) 3 := ⟨lg_mem 488 rfl rfl, lg_mem 486 (by decide +kernel) rfl, lg_mem 487 (by decide +kernel) rfl, lg_mem 1 (by decide +kernel) rfl, by decide, by decide, by decide +kernel⟩
set_option maxRecDepth 100000 in
theorem ok_X7_spreadCone : OkV yX7_spreadCone cX7_spreadCone 5 none 2 := ⟨lg_mem 500 rfl rfl, lg_mem 499 (by decide +kernel) rfl, lg_memP 12 (by decide +kernel) rfl, lg_mem 1 (by decide +kernel) rfl, by decide, by decide, by decide +kernel⟩
set_option maxRecDepth 100000 in
theorem ok_X7_isInTheWay : OkV yX7_isInTheWay cX7_isInTheWay 4 (some .boolean) 2 := ⟨lg_mem 519 rfl rfl, lg_mem 518 (by decide +kernel) rfl, lg_memP 13 (by decide +kernel) rfl, lg_mem 1 (by decide +kernel) rfl, by decide, by decide, by decide +kernel⟩
set_option maxRecDepth 100000 in
theorem ok_X7_reasonAgainst : OkV yX7_reasonAgainst cX7_reasonAgainst 4 (some .int) 2 := ⟨lg_mem 496 rfl rfl, lg_mem 495 (by decide +kernel) rfl, lg_memP 11 (by decide +kernel) rfl, lg_mem 1 (by decide +kernel) rfl, by decide, by decide, by decide +kernel⟩
set_option maxRecDepth 100000 in
theorem ok_X7_fly : OkV yX7_fly cX7_fly 5 (some .int) 2 := ⟨lg_mem 492 rfl rfl, lg_mem 490 (by decide +kernel) rfl, lg_mem 491 (by decide +kernel) rfl, lg_mem 1 (by decide +kernel) rfl, by decide, by decide, by decide +kernel⟩
set_option maxRecDepth 100000 in
theorem ok_X7_why : OkV yX7_why cX7_why 3 (some .int) 1 := ⟨lg_mem 527 rfl rfl, lg_mem 525 (by decide +kernel) rfl, lg_mem 526 (by decide +kernel) rfl, lg_mem 1 (by decide +kernel) rfl, by decide, by decide, by decide +kernel⟩
set_option maxRecDepth 100000 in
theorem ok_X7_cone : OkV yX7_cone cX7_cone 4 (some .int) 2 := ⟨lg_mem 531 rfl rfl, lg_mem 529 (by decide +kernel) rfl, lg_mem 530 (by decide +kernel) rfl, lg_mem 1 (by decide +kernel) rfl, by decide, by decide, by decide +kernel⟩
set_option maxRecDepth 100000 in
theorem ok_X7_areTwoLines : OkV yX7_areTwoLines cX7_areTwoLines 3 (some .boolean) 2 := ⟨lg_mem 539 rfl rfl, lg_mem 538 (by decide +kernel) rfl, lg_memP 14 (by decide +kernel) rfl, lg_mem 1 (by decide +kernel) rfl, by decide, by decide, by decide +kernel⟩
set_option maxRecDepth 100000 in
theorem ok_X7_turn : OkV yX7_turn cX7_turn 4 (some .int) 3 := ⟨lg_mem 535 rfl rfl, lg_mem 533 (by decide +kernel) rfl, lg_mem 534 (by decide +kernel) rfl, lg_mem 1 (by decide +kernel) rfl, by decide, by decide, by decide +kernel⟩
set_option maxRecDepth 100000 in
theorem ok_X7_tangled : OkV yX7_tangled cX7_tangled 3 (some .int) 2 := ⟨lg_mem 552 rfl rfl, lg_mem 550 (by decide +kernel) rfl, lg_mem 551 (by decide +kernel) rfl, lg_mem 1 (by decide +kernel) rfl, by decide, by decide, by decide +kernel⟩
set_option maxRecDepth 100000 in
theorem ok_X7_undo : OkV yX7_undo cX7_undo 2 (some .int) 1 := ⟨lg_mem 562 rfl rfl, lg_mem 560 (by decide +kernel) rfl, lg_mem 561 (by decide +kernel) rfl, lg_mem 1 (by decide +kernel) rfl, by decide, by decide, by decide +kernel⟩
set_option maxRecDepth 100000 in
theorem ok_X7_unwind : OkV yX7_unwind cX7_unwind 2 (some .int) 1 := ⟨lg_mem 573 rfl rfl, lg_mem 571 (by decide +kernel) rfl, lg_mem 572 (by decide +kernel) rfl, lg_mem 1 (by decide +kernel) rfl, by decide, by decide, by decide +kernel⟩
set_option maxRecDepth 100000 in
theorem ok_X7_cut : OkV yX7_cut cX7_cut 5 (some .int) 3 := ⟨lg_mem 577 rfl rfl, lg_mem 575 (by decide +kernel) rfl, lg_mem 576 (by decide +kernel) rfl, lg_mem 1 (by decide +kernel) rfl, by decide, by decide, by decide +kernel⟩
set_option maxRecDepth 100000 in
theorem ok_X7_countFlying : OkV yX7_countFlying cX7_countFlying 4 (some .int) 0 := ⟨lg_mem 590 rfl rfl, lg_mem 589 (by decide +kernel) rfl, lg_memP 15 (by decide +kernel) rfl, lg_mem 1 (by decide +kernel) rfl, by decide, by decide, by decide +kernel⟩
set_option maxRecDepth 100000 in
theorem ok_X7_countTied : OkV yX7_countTied cX7_countTied 4 (some .int) 0 := ⟨lg_mem 594 rfl rfl, lg_mem 593 (by decide +kernel) rfl, lg_memP 16 (by decide +kernel) rfl, lg_mem 1 (by decide +kernel) rfl, by decide, by decide, by decide +kernel⟩
set_option maxRecDepth 100000 in
theorem ok_X7_countFree : OkV yX7_countFree cX7_countFree 3 (some .int) 0 := ⟨lg_mem 598 rfl rfl, lg_mem 597 (by decide +kernel) rfl, lg_memP 17 (by decide +kernel) rfl, lg_mem 1 (by decide +kernel) rfl, by decide, by decide, by decide +kernel⟩
set_option maxRecDepth 100000 in
theorem ok_X7_count : OkV yX7_count cX7_count 2 (some .int) 1 := ⟨lg_mem 586 rfl rfl, lg_mem 584 (by decide +kernel) rfl, lg_mem 585 (by decide +kernel) rfl, lg_mem 1 (by decide +kernel) rfl, by decide, by decide, by decide +kernel⟩
set_option maxRecDepth 100000 in
theorem ok_X7_hasFlyer : OkV yX7_hasFlyer cX7_hasFlyer 4 (some .boolean) 1 := ⟨lg_mem 446 rfl rfl, lg_mem 445 (by decide +kernel) rfl, lg_memP 8 (by decide +kernel) rfl, lg_mem 1 (by decide +kernel) rfl, by decide, by decide, by decide +kernel⟩
set_option maxRecDepth 100000 in
theorem ok_X8_in : OkS yX8_in cX8_in 3 (some .boolean) 3 := ⟨lg_mem 733 rfl rfl, lg_mem 732 (by decide +kernel) rfl, lg_mem 7 (by decide +kernel) rfl, by decide, by decide, by decide +kernel⟩
set_option maxRecDepth 100000 in
theorem ok_X8_isKite : OkV yX8_isKite cX8_isKite 2 (some .boolean) 1 := ⟨lg_mem 730 rfl rfl, lg_mem 729 (by decide +kernel) rfl, lg_memP 18 (by decide +kernel) rfl, lg_mem 7 (by decide +kernel) rfl, by decide, by decide, by decide +kernel⟩
set_option maxRecDepth 100000 in
theorem ok_X8_isWind : OkS yX8_isWind cX8_isWind 1 (some .boolean) 1 := ⟨lg_mem 752 rfl rfl, lg_mem 751 (by decide +kernel) rfl, lg_mem 7 (by decide +kernel) rfl, by decide, by decide, by decide +kernel⟩
set_option maxRecDepth 100000 in
theorem ok_X8_isAngle : OkS yX8_isAngle cX8_isAngle 1 (some .boolean) 1 := ⟨lg_mem 745 rfl rfl, lg_mem 744 (by decide +kernel) rfl, lg_mem 7 (by decide +kernel) rfl, by decide, by decide, by decide +kernel⟩
set_option maxRecDepth 100000 in
theorem ok_X8_kite : OkV yX8_kite cX8_kite 1 (some .int) 0 := ⟨lg_mem 722 rfl rfl, lg_mem 720 (by decide +kernel) rfl, lg_mem 721 (by decide +kernel) rfl, lg_mem 7 (by decide +kernel) rfl, by decide, by decide, by decide +kernel⟩
set_option maxRecDepth 100000 in
theorem ok_X8_panel : OkV yX8_panel cX8_panel 6 (some .int) 4 := ⟨lg_mem 726 rfl rfl, lg_mem 724 (by decide +kernel) rfl, lg_mem 725 (by decide +kernel) rfl, lg_mem 7 (by decide +kernel) rfl, by decide, by decide, by decide +kernel⟩
set_option maxRecDepth 100000 in
theorem ok_X8_knot : OkV yX8_knot cX8_knot 4 (some .int) 2 := ⟨lg_mem 737 rfl rfl, lg_mem 735 (by decide +kernel) rfl, lg_mem 736 (by decide +kernel) rfl, lg_mem 7 (by decide +kernel) rfl, by decide, by decide, by decide +kernel⟩
set_option maxRecDepth 100000 in
theorem ok_X8_table : OkV yX8_table cX8_table 5 (some .int) 3 := ⟨lg_mem 742 rfl rfl, lg_mem 740 (by decide +kernel) rfl, lg_mem 741 (by decide +kernel) rfl, lg_mem 7 (by decide +kernel) rfl, by decide, by decide, by decide +kernel⟩
set_option maxRecDepth 100000 in
theorem ok_X8_weightOf : OkV yX8_weightOf cX8_weightOf 4 (some .int) 1 := ⟨lg_mem 760 rfl rfl, lg_mem 759 (by decide +kernel) rfl, lg_memP 20 (by decide +kernel) rfl, lg_mem 7 (by decide +kernel) rfl, by decide, by decide, by decide +kernel⟩
set_option maxRecDepth 100000 in
theorem ok_X8_up : OkV yX8_up cX8_up 6 (some .int) 3 := ⟨lg_mem 756 rfl rfl, lg_mem 755 (by decide +kernel) rfl, lg_memP 19 (by decide +kernel) rfl, lg_mem 7 (by decide +kernel) rfl, by decide, by decide, by decide +kernel⟩
set_option maxRecDepth 100000 in
theorem ok_X8_back : OkV yX8_back cX8_back 6 (some .int) 3 := ⟨lg_mem 764 rfl rfl, lg_mem 763 (by decide +kernel) rfl, lg_memP 21 (by decide +kernel) rfl, lg_mem 7 (by decide +kernel) rfl, by decide, by decide, by decide +kernel⟩
set_option maxRecDepth 100000 in
theorem ok_X8_turns : OkV yX8_turns cX8_turns 6 (some .int) 3 := ⟨lg_mem 768 rfl rfl, lg_mem 767 (by decide +kernel) rfl, lg_memP 22 (by decide +kernel) rfl, lg_mem 7 (by decide +kernel) rfl, by decide, by decide, by decide +kernel⟩
set_option maxRecDepth 100000 in
theorem ok_X8_force : OkV yX8_force cX8_force 5 (some .int) 4 := ⟨lg_mem 749 rfl rfl, lg_mem 747 (by decide +kernel) rfl, lg_mem 748 (by decide +kernel) rfl, lg_mem 7 (by decide +kernel) rfl, by decide, by decide, by decide +kernel⟩
set_option maxRecDepth 100000 in
theorem ok_X8_standsAt : OkV yX8_standsAt cX8_standsAt 6 (some .int) 2 := ⟨lg_mem 776 rfl rfl, lg_mem 775 (by decide +kernel) rfl, lg_memP 23 (by decide +kernel) rfl, lg_mem 7 (by decide +kernel) rfl, by decide, by decide, by decide +kernel⟩
set_option maxRecDepth 100000 in
theorem ok_X8_isSteady : OkV yX8_isSteady cX8_isSteady 6 (some .boolean) 3 := ⟨lg_mem 784 rfl rfl, lg_mem 783 (by decide +kernel) rfl, lg_memP 24 (by decide +kernel) rfl, lg_mem 7 (by decide +kernel) rfl, by decide, by decide, by decide +kernel⟩
set_option maxRecDepth 100000 in
theorem ok_X8_stands : OkV yX8_stands cX8_stands 3 (some .int) 2 := ⟨lg_mem 772 rfl rfl, lg_mem 770 (by decide +kernel) rfl, lg_mem 771 (by decide +kernel) rfl, lg_mem 7 (by decide +kernel) rfl, by decide, by decide, by decide +kernel⟩
set_option maxRecDepth 100000 in
theorem ok_X8_steady : OkV yX8_steady cX8_steady 4 (some .int) 2 := ⟨lg_mem 780 rfl rfl, lg_mem 778 (by decide +kernel) rfl, lg_mem 779 (by decide +kernel) rfl, lg_mem 7 (by decide +kernel) rfl, by decide, by decide, by decide +kernel⟩
set_option maxRecDepth 100000 in
theorem ok_X8_pullUp : OkV yX8_pullUp cX8_pullUp 4 (some .int) 2 := ⟨lg_mem 792 rfl rfl, lg_mem 791 (by decide +kernel) rfl, lg_memP 25 (by decide +kernel) rfl, lg_mem 7 (by decide +kernel) rfl, by decide, by decide, by decide +kernel⟩
set_option maxRecDepth 100000 in
theorem ok_X8_pullBack : OkV yX8_pullBack cX8_pullBack 4 (some .int) 2 := ⟨lg_mem 796 rfl rfl, lg_mem 795 (by decide +kernel) rfl, lg_memP 26 (by decide +kernel) rfl, lg_mem 7 (by decide +kernel) rfl, by decide, by decide, by decide +kernel⟩
set_option maxRecDepth 100000 in
theorem ok_X8_pull : OkV yX8_pull cX8_pull 4 (some .int) 3 := ⟨lg_mem 788 rfl rfl, lg_mem 786 (by decide +kernel) rfl, lg_mem 787 (by decide +kernel) rfl, lg_mem 7 (by decide +kernel) rfl, by decide, by decide, by decide +kernel⟩
set_option maxRecDepth 100000 in
theorem ok_X8_trim : OkV yX8_trim cX8_trim 9 (some .int) 4 := ⟨lg_mem 800 rfl rfl, lg_mem 798 (by decide +kernel) rfl, lg_mem 799 (by decide +kernel) rfl, lg_mem 7 (by decide +kernel) rfl, by decide, by decide, by decide +kernel⟩
set_option maxRecDepth 100000 in
theorem ok_X8_isLine : OkV yX8_isLine cX8_isLine 2 (some .boolean) 1 := ⟨lg_mem 817 rfl rfl, lg_mem 816 (by decide +kernel) rfl, lg_memP 27 (by decide +kernel) rfl, lg_mem 7 (by decide +kernel) rfl, by decide, by decide, by decide +kernel⟩
set_option maxRecDepth 100000 in
theorem ok_X8_isStep : OkV yX8_isStep cX8_isStep 3 (some .boolean) 2 := ⟨lg_mem 821 rfl rfl, lg_mem 820 (by decide +kernel) rfl, lg_memP 28 (by decide +kernel) rfl, lg_mem 7 (by decide +kernel) rfl, by decide, by decide, by decide +kernel⟩
set_option maxRecDepth 100000 in
theorem ok_X8_wind : OkV yX8_wind cX8_wind 4 (some .int) 2 := ⟨lg_mem 804 rfl rfl, lg_mem 802 (by decide +kernel) rfl, lg_mem 803 (by decide +kernel) rfl, lg_mem 7 (by decide +kernel) rfl, by decide, by decide, by decide +kernel⟩
set_option maxRecDepth 100000 in
theorem ok_X8_line : OkV yX8_line cX8_line 4 (some .int) 3 := ⟨lg_mem 808 rfl rfl, lg_mem 806 (by decide +kernel) rfl, lg_mem 807 (by decide +kernel) rfl, lg_mem 7 (by decide +kernel) rfl, by decide, by decide, by decide +kernel⟩
set_option maxRecDepth 100000 in
theorem ok_X8_kitesOn : OkV yX8_kitesOn cX8_kitesOn 4 (some .int) 1 := ⟨lg_mem 825 rfl rfl, lg_mem 824 (by decide +kernel) rfl, lg_memP 29 (by decide +kernel) rfl, lg_mem 7 (by decide +kernel) rfl, by decide, by decide, by decide +kernel⟩
set_option maxRecDepth 100000 in
theorem ok_X8_tie : OkV yX8_tie cX8_tie 4 (some .int) 3 := ⟨lg_mem 813 rfl rfl, lg_mem 811 (by decide +kernel) rfl, lg_mem 812 (by decide +kernel) rfl, lg_mem 7 (by decide +kernel) rfl, by decide, by decide, by decide +kernel⟩
set_option maxRecDepth 100000 in
theorem ok_X8_untie : OkV yX8_untie cX8_untie 3 (some .int) 1 := ⟨lg_mem 829 rfl rfl, lg_mem 827 (by decide +kernel) rfl, lg_mem 828 (by decide +kernel) rfl, lg_mem 7 (by decide +kernel) rfl, by decide, by decide, by decide +kernel⟩
set_option maxRecDepth 100000 in
theorem ok_X8_isWeak : OkV yX8_isWeak cX8_isWeak 4 (some .boolean) 2 := ⟨lg_mem 837 rfl rfl, lg_mem 836 (by decide +kernel) rfl, lg_memP 30 (by decide +kernel) rfl, lg_mem 7 (by decide +kernel) rfl, by decide, by decide, by decide +kernel⟩
set_option maxRecDepth 100000 in
theorem ok_X8_weaken : OkV yX8_weaken cX8_weaken 3 (some .int) 2 := ⟨lg_mem 833 rfl rfl, lg_mem 831 (by decide +kernel) rfl, lg_mem 832 (by decide +kernel) rfl, lg_mem 7 (by decide +kernel) rfl, by decide, by decide, by decide +kernel⟩
set_option maxRecDepth 100000 in
theorem ok_X8_windBand : OkS yX8_windBand cX8_windBand 1 (some .int) 1 := ⟨lg_mem 852 rfl rfl, lg_mem 851 (by decide +kernel) rfl, lg_mem 7 (by decide +kernel) rfl, by decide, by decide, by decide +kernel⟩
set_option maxRecDepth 100000 in
theorem ok_X8_root : OkS yX8_root cX8_root 8 (some .int) 1 := ⟨lg_mem 855 rfl rfl, lg_mem 854 (by decide +kernel) rfl, lg_mem 7 (by decide +kernel) rfl, by decide, by decide, by decide +kernel⟩
set_option maxRecDepth 100000 in
theorem ok_X8_stand : OkV yX8_stand cX8_stand 5 none 2 := ⟨lg_mem 849 rfl rfl, lg_mem 848 (by decide +kernel) rfl, lg_memP 32 (by decide +kernel) rfl, lg_mem 7 (by decide +kernel) rfl, by decide, by decide, by decide +kernel⟩
set_option maxRecDepth 100000 in
theorem ok_X8_strengthAt : OkV yX8_strengthAt cX8_strengthAt 3 (some .int) 2 := ⟨lg_mem 866 rfl rfl, lg_mem 865 (by decide +kernel) rfl, lg_memP 34 (by decide +kernel) rfl, lg_mem 7 (by decide +kernel) rfl, by decide, by decide, by decide +kernel⟩
set_option maxRecDepth 100000 in
theorem ok_X8_partsAt : OkV yX8_partsAt cX8_partsAt 6 (some .int) 1 := ⟨lg_mem 862 rfl rfl, lg_mem 861 (by decide +kernel) rfl, lg_memP 33 (by decide +kernel) rfl, lg_mem 7 (by decide +kernel) rfl, by decide, by decide, by decide +kernel⟩
set_option maxRecDepth 100000 in
theorem ok_X8_lifts : OkV yX8_lifts cX8_lifts 3 (some .int) 2 := ⟨lg_mem 845 rfl rfl, lg_mem 844 (by decide +kernel) rfl, lg_memP 31 (by decide +kernel) rfl, lg_mem 7 (by decide +kernel) rfl, by decide, by decide, by decide +kernel⟩
set_option maxRecDepth 100000 in
theorem ok_X8_ofLine : OkV yX8_ofLine cX8_ofLine 3 (some .int) 2 := ⟨lg_mem 841 rfl rfl, lg_mem 839 (by decide +kernel) rfl, lg_mem 840 (by decide +kernel) rfl, lg_mem 7 (by decide +kernel) rfl, by decide, by decide, by decide +kernel⟩
set_option maxRecDepth 100000 in
theorem ok_X8_step : OkV yX8_step cX8_step 4 (some .int) 3 := ⟨lg_mem 870 rfl rfl, lg_mem 868 (by decide +kernel) rfl, lg_mem 869 (by decide +kernel) rfl, lg_mem 7 (by decide +kernel) rfl, by decide, by decide, by decide +kernel⟩
set_option maxRecDepth 100000 in
theorem ok_X8_end : OkV yX8_end cX8_end 5 none 2 := ⟨lg_mem 878 rfl rfl, lg_mem 877 (by decide +kernel) rfl, lg_memP 35 (by decide +kernel) rfl, lg_mem 7 (by decide +kernel) rfl, by decide, by decide, by decide +kernel⟩
set_option maxRecDepth 100000 in
theorem ok_X8_part : OkV yX8_part cX8_part 3 (some .int) 1 := ⟨lg_mem 874 rfl rfl, lg_mem 872 (by decide +kernel) rfl, lg_mem 873 (by decide +kernel) rfl, lg_mem 7 (by decide +kernel) rfl, by decide, by decide, by decide +kernel⟩
set_option maxRecDepth 100000 in
theorem ok_X8_least : OkV yX8_least cX8_least 4 (some .int) 2 := ⟨lg_mem 882 rfl rfl, lg_mem 880 (by decide +kernel) rfl, lg_mem 881 (by decide +kernel) rfl, lg_mem 7 (by decide +kernel) rfl, by decide, by decide, by decide +kernel⟩
set_option maxRecDepth 100000 in
theorem ok_X8_isFlyer : OkV yX8_isFlyer cX8_isFlyer 2 (some .boolean) 1 := ⟨lg_mem 906 rfl rfl, lg_mem 905 (by decide +kernel) rfl, lg_memP 36 (by decide +kernel) rfl, lg_mem 7 (by decide +kernel) rfl, by decide, by decide, by decide +kernel⟩
set_option maxRecDepth 100000 in
theorem ok_X8_isPlace : OkS yX8_isPlace cX8_isPlace 1 (some .boolean) 1 := ⟨lg_mem 889 rfl rfl, lg_mem 888 (by decide +kernel) rfl, lg_mem 7 (by decide +kernel) rfl, by decide, by decide, by decide +kernel⟩
set_option maxRecDepth 100000 in
theorem ok_X8_flyer : OkV yX8_flyer cX8_flyer 3 (some .int) 2 := ⟨lg_mem 886 rfl rfl, lg_mem 884 (by decide +kernel) rfl, lg_mem 885 (by decide +kernel) rfl, lg_mem 7 (by decide +kernel) rfl, by decide, by decide, by decide +kernel⟩
set_option maxRecDepth 100000 in
theorem ok_X8_blow : OkV yX8_blow cX8_blow 4 (some .int) 2 := ⟨lg_mem 894 rfl rfl, lg_mem 892 (by decide +kernel) rfl, lg_mem 893 (by decide +kernel) rfl, lg_mem 7 (by decide +kernel) rfl, by decide, by decide, by decide +kernel⟩
set_option maxRecDepth 100000 in
theorem ok_X8_tree : OkV yX8_tree cX8_tree 3 (some .int) 1 := ⟨lg_mem 898 rfl rfl, lg_mem 896 (by decide +kernel) rfl, lg_mem 897 (by decide +kernel) rfl, lg_mem 7 (by decide +kernel) rfl, by decide, by decide, by decide +kernel⟩
set_option maxRecDepth 100000 in
theorem ok_X8_agree : OkV yX8_agree cX8_agree 5 (some .int) 3 := ⟨lg_mem 902 rfl rfl, lg_mem 900 (by decide +kernel) rfl, lg_mem 901 (by decide +kernel) rfl, lg_mem 7 (by decide +kernel) rfl, by decide, by decide, by decide +kernel⟩
set_option maxRecDepth 100000 in
theorem ok_X8_endOf : OkV yX8_endOf cX8_endOf 9 (some .int) 3 := ⟨lg_mem 922 rfl rfl, lg_mem 921 (by decide +kernel) rfl, lg_memP 39 (by decide +kernel) rfl, lg_mem 7 (by decide +kernel) rfl, by decide, by decide, by decide +kernel⟩
set_option maxRecDepth 100000 in
theorem ok_X8_isInCone : OkV yX8_isInCone cX8_isInCone 3 (some .boolean) 2 := ⟨lg_mem 918 rfl rfl, lg_mem 917 (by decide +kernel) rfl, lg_memP 38 (by decide +kernel) rfl, lg_mem 7 (by decide +kernel) rfl, by decide, by decide, by decide +kernel⟩
set_option maxRecDepth 100000 in
theorem ok_X8_doMeet : OkV yX8_doMeet cX8_doMeet 4 (some .boolean) 2 := ⟨lg_mem 926 rfl rfl, lg_mem 925 (by decide +kernel) rfl, lg_memP 40 (by decide +kernel) rfl, lg_mem 7 (by decide +kernel) rfl, by decide, by decide, by decide +kernel⟩
set_option maxRecDepth 100000 in
theorem ok_X8_whyNot : OkV yX8_whyNot cX8_whyNot 3 (some .int) 1 := ⟨lg_mem 914 rfl rfl, lg_mem 913 (by decide +kernel) rfl, lg_memP 37 (by decide +kernel) rfl, lg_mem 7 (by decide +kernel) rfl, by decide, by decide, by decide +kernel⟩
set_option maxRecDepth 100000 in
theorem ok_X8_fly : OkV yX8_fly cX8_fly 3 (some .int) 2 := ⟨lg_mem 910 rfl rfl, lg_mem 908 (by decide +kernel) rfl, lg_mem 909 (by decide +kernel) rfl, lg_mem 7 (by decide +kernel) rfl, by decide, by decide, by decide +kernel⟩
set_option maxRecDepth 100000 in
theorem ok_X8_why : OkV yX8_why cX8_why 2 (some .int) 1 := ⟨lg_mem 930 rfl rfl, lg_mem 928 (by decide +kernel) rfl, lg_mem 929 (by decide +kernel) rfl, lg_mem 7 (by decide +kernel) rfl, by decide, by decide, by decide +kernel⟩
set_option maxRecDepth 100000 in
theorem ok_X8_cone : OkV yX8_cone cX8_cone 3 (some .int) 2 := ⟨lg_mem 934 rfl rfl, lg_mem 932 (by decide +kernel) rfl, lg_mem 933 (by decide +kernel) rfl, lg_mem 7 (by decide +kernel) rfl, by decide, by decide, by decide +kernel⟩
set_option maxRecDepth 100000 in
theorem ok_X8_wind0 : OkV yX8_wind0 cX8_wind0 5 none 3 := ⟨lg_mem 948 rfl rfl, lg_mem 947 (by decide +kernel) rfl, lg_memP 41 (by decide +kernel) rfl, lg_mem 7 (by decide +kernel) rfl, by decide, by decide, by decide +kernel⟩
set_option maxRecDepth 100000 in
theorem ok_X8_lesser : OkS yX8_lesser cX8_lesser 2 (some .int) 2 := ⟨lg_mem 941 rfl rfl, lg_mem 940 (by decide +kernel) rfl, lg_mem 7 (by decide +kernel) rfl, by decide, by decide, by decide +kernel⟩
set_option maxRecDepth 100000 in
theorem ok_X8_greater : OkS yX8_greater cX8_greater 2 (some .int) 2 := ⟨lg_mem 944 rfl rfl, lg_mem 943 (by decide +kernel) rfl, lg_mem 7 (by decide +kernel) rfl, by decide, by decide, by decide +kernel⟩
set_option maxRecDepth 100000 in
theorem ok_X8_turn : OkV yX8_turn cX8_turn 8 (some .int) 3 := ⟨lg_mem 938 rfl rfl, lg_mem 936 (by decide +kernel) rfl, lg_mem 937 (by decide +kernel) rfl, lg_mem 7 (by decide +kernel) rfl, by decide, by decide, by decide +kernel⟩
set_option maxRecDepth 100000 in
theorem ok_X8_turnsOf : OkV yX8_turnsOf cX8_turnsOf 5 (some .int) 2 := ⟨lg_mem 956 rfl rfl, lg_mem 955 (by decide +kernel) rfl, lg_memP 42 (by decide +kernel) rfl, lg_mem 7 (by decide +kernel) rfl, by decide, by decide, by decide +kernel⟩
set_option maxRecDepth 100000 in
theorem ok_X8_tangled : OkV yX8_tangled cX8_tangled 3 (some .int) 2 := ⟨lg_mem 952 rfl rfl, lg_mem 950 (by decide +kernel) rfl, lg_mem 951 (by decide +kernel) rfl, lg_mem 7 (by decide +kernel) rfl, by decide, by decide, by decide +kernel⟩
set_option maxRecDepth 100000 in
theorem ok_X8_has : OkV yX8_has cX8_has 3 (some .boolean) 2 := ⟨lg_mem 964 rfl rfl, lg_mem 963 (by decide +kernel) rfl, lg_memP 43 (by decide +kernel) rfl, lg_mem 7 (by decide +kernel) rfl, by decide, by decide, by decide +kernel⟩
set_option maxRecDepth 100000 in
theorem ok_X8_undo : OkV yX8_undo cX8_undo 3 (some .int) 1 := ⟨lg_mem 960 rfl rfl, lg_mem 958 (by decide +kernel) rfl, lg_mem 959 (by decide +kernel) rfl, lg_mem 7 (by decide +kernel) rfl, by decide, by decide, by decide +kernel⟩
set_option maxRecDepth 100000 in
theorem ok_X8_unwind : OkV yX8_unwind cX8_unwind 2 (some .int) 1 := ⟨lg_mem 968 rfl rfl, lg_mem 966 (by decide +kernel) rfl, lg_mem 967 (by decide +kernel) rfl, lg_mem 7 (by decide +kernel) rfl, by decide, by decide, by decide +kernel⟩
set_option maxRecDepth 100000 in
theorem ok_X8_cut : OkV yX8_cut cX8_cut 6 (some .int) 3 := ⟨lg_mem 972 rfl rfl, lg_mem 970 (by decide +kernel) rfl, lg_mem 971 (by decide +kernel) rfl, lg_mem 7 (by decide +kernel) rfl, by decide, by decide, by decide +kernel⟩
set_option maxRecDepth 100000 in
theorem ok_X8_count : OkV yX8_count cX8_count 4 (some .int) 1 := ⟨lg_mem 976 rfl rfl, lg_mem 974 (by decide +kernel) rfl, lg_mem 975 (by decide +kernel) rfl, lg_mem 7 (by decide +kernel) rfl, by decide, by decide, by decide +kernel⟩
end
section
/-! Math's own four -/
def imax (x y : Int32) : Int32 := if x < y then y else x
def imin (x y : Int32) : Int32 := if y < x then y else x
def iabs (x : Int32) : Int32 := if 0 ≤ x then x else 0 - x
def labs (x : Int64) : Int64 := if 0 < x then x else -x
section MA
variable {K : KK} {own : String} {cc : ByteArray} {nL : Nat} {rm : Room} {a : AA} {M : Mem} {pc : Nat} {lv : List (Nat × Value)} {st : List Value} {index : Nat}
theorem fr_1 (S : Sx K own cc nL rm) (h : 1 ≤ rm.frames) : 1 ≤ (kR K).frames := by rw [S.2.2.2.2.2.2.2.2.1]; exact h
theorem lo_1 (S : Sx K own cc nL rm) {n : Nat} (h : n ≤ rm.locals) : n ≤ (kR K).locals := by rw [S.2.2.2.2.2.2.2.2.1]; exact h
theorem g_mmax {x y : Int32} (S : Sx K own cc nL rm) (hl : Cond.methodLink own index yJ9_max_7cf53 ∈ lw_g) (h1 : 1 ≤ rm.frames) (h2 : (st.map fun v => v.category).sum + 13 ≤ rm.locals) (d : decode cc pc = .ok (.invokestatic index, 3)) (k : Go K nL a M (pc + 3) lv (.int (imax x y) :: st)) : Go K nL a M pc lv (.int y :: .int x :: st) := fun H locs ls w1 w2 => va_mmax S.1 S.2.1 (S.2.2.1.trans w2.1.symm) S.2.2.2.1 (S.2.2.2.2.1 _ hl) (S.2.2.2.2.1 _ ok_J9_max_7cf53.2.1) (S.2.2.2.2.1 _ ok_J9_max_7cf53.2.2.1) (S.2.2.2.2.1 _ ok_J9_max_7cf53.1) (fr_1 S h1) (lo_1 S h2) (ce_in S).1 (ce_in S).2 d (k H locs ls w1 w2)
theorem g_mmin {x y : Int32} (S : Sx K own cc nL rm) (hl : Cond.methodLink own index yJ9_min_7cf53 ∈ lw_g) (h1 : 1 ≤ rm.frames) (h2 : (st.map fun v => v.category).sum + 13 ≤ rm.locals) (d : decode cc pc = .ok (.invokestatic index, 3)) (k : Go K nL a M (pc + 3) lv (.int (imin x y) :: st)) : Go K nL a M pc lv (.int y :: .int x :: st) := fun H locs ls w1 w2 => va_mmin S.1 S.2.1 (S.2.2.1.trans w2.1.symm) S.2.2.2.1 (S.2.2.2.2.1 _ hl) (S.2.2.2.2.1 _ ok_J9_min_7cf53.2.1) (S.2.2.2.2.1 _ ok_J9_min_7cf53.2.2.1) (S.2.2.2.2.1 _ ok_J9_min_7cf53.1) (fr_1 S h1) (lo_1 S h2) (ce_in S).1 (ce_in S).2 d (k H locs ls w1 w2)
theorem g_mabs {x : Int32} (S : Sx K own cc nL rm) (hl : Cond.methodLink own index yJ9_abs_0f7a4 ∈ lw_g) (h1 : 1 ≤ rm.frames) (h2 : (st.map fun v => v.category).sum + 13 ≤ rm.locals) (d : decode cc pc = .ok (.invokestatic index, 3)) (k : Go K nL a M (pc + 3) lv (.int (iabs x) :: st)) : Go K nL a M pc lv (.int x :: st) := fun H locs ls w1 w2 => va_mabs S.1 S.2.1 (S.2.2.1.trans w2.1.symm) S.2.2.2.1 (S.2.2.2.2.1 _ hl) (S.2.2.2.2.1 _ ok_J9_abs_0f7a4.2.1) (S.2.2.2.2.1 _ ok_J9_abs_0f7a4.2.2.1) (S.2.2.2.2.1 _ ok_J9_abs_0f7a4.1) (fr_1 S h1) (lo_1 S h2) (ce_in S).1 (ce_in S).2 d (k H locs ls w1 w2)
theorem g_mabsL {x : Int64} (S : Sx K own cc nL rm) (hl : Cond.methodLink own index yJ9_abs_067f4 ∈ lw_g) (h1 : 1 ≤ rm.frames) (h2 : (st.map fun v => v.category).sum + 13 ≤ rm.locals) (d : decode cc pc = .ok (.invokestatic index, 3)) (k : Go K nL a M (pc + 3) lv (.long (labs x) :: st)) : Go K nL a M pc lv (.long x :: st) := fun H locs ls w1 w2 => va_mabs_long S.1 S.2.1 (S.2.2.1.trans w2.1.symm) S.2.2.2.1 (S.2.2.2.2.1 _ hl) (S.2.2.2.2.1 _ ok_J9_abs_067f4.2.1) (S.2.2.2.2.1 _ ok_J9_abs_067f4.2.2.1) (S.2.2.2.2.1 _ ok_J9_abs_067f4.1) (fr_1 S h1) (lo_1 S h2) (ce_in S).1 (ce_in S).2 d (k H locs ls w1 w2)
end MA
theorem in_lt {i : Int32} {n : Nat} (h : inb i n = true) : i.toNatClampNeg < n := by
  have := inb_vp h
  unfold vp_in at this
  omega
end
section
-- BridleBook$Cone.reach(IIII)I
theorem dX0_reach_0 : decode cX0_reach 0 = .ok (.iload_n 0, 1) := by decide +kernel
theorem dX0_reach_1 : decode cX0_reach 1 = .ok (.iload_n 1, 1) := by decide +kernel
theorem dX0_reach_2 : decode cX0_reach 2 = .ok (.if_icmp .ne 5, 3) := by decide +kernel
theorem dX0_reach_5 : decode cX0_reach 5 = .ok (.iload_n 2, 1) := by decide +kernel
theorem dX0_reach_6 : decode cX0_reach 6 = .ok (.ireturn, 1) := by decide +kernel
theorem dX0_reach_7 : decode cX0_reach 7 = .ok (.iload_n 0, 1) := by decide +kernel
theorem dX0_reach_8 : decode cX0_reach 8 = .ok (.iload_n 1, 1) := by decide +kernel
theorem dX0_reach_9 : decode cX0_reach 9 = .ok (.isub, 1) := by decide +kernel
theorem dX0_reach_10 : decode cX0_reach 10 = .ok (.invokestatic 36, 3) := by decide +kernel
theorem dX0_reach_13 : decode cX0_reach 13 = .ok (.iconst 2, 1) := by decide +kernel
theorem dX0_reach_14 : decode cX0_reach 14 = .ok (.if_icmp .ne 7, 3) := by decide +kernel
theorem dX0_reach_17 : decode cX0_reach 17 = .ok (.iconst 0, 1) := by decide +kernel
theorem dX0_reach_18 : decode cX0_reach 18 = .ok (.goto 4, 3) := by decide +kernel
theorem dX0_reach_21 : decode cX0_reach 21 = .ok (.iload_n 3, 1) := by decide +kernel
theorem dX0_reach_22 : decode cX0_reach 22 = .ok (.ireturn, 1) := by decide +kernel
def f_X0_reach (z : Nat → Nat) (M : Mem) (p1 : Int32) (p2 : Int32) (p3 : Int32) (p4 : Int32) : Option Int32 := if p1 = p2 then some p3 else if (iabs (p1 - p2)) = 2 then some 0 else some p4
theorem c_X0_reach {l : Launch} {G : GG} {a : AA} {M : Mem} {p1 : Int32} {p2 : Int32} {p3 : Int32} {p4 : Int32} {r : Int32} (hf : f_X0_reach a.1 M p1 p2 p3 p4 = some r) : CtI l G a yX0_reach cX0_reach 4 .int (rmD 1) [.int p1, .int p2, .int p3, .int p4] M r M := by
  refine ct_I (by decide) rfl rfl (own := RX0) (Nat.le_of_ble_eq_true rfl) (fun K hl hg S rt => ?_)
  subst hl; subst hg
  unfold f_X0_reach at hf
  show Go K 4 a M 0 [(0, .int p1), (1, .int p2), (2, .int p3), (3, .int p4)] []
  refine g_iload_n 0 S dX0_reach_0 rfl ?_
  refine g_iload_n 1 S dX0_reach_1 rfl ?_
  refine g_icmp_ne (tgt := 7) S dX0_reach_2 (by decide) hf (fun c hf => ?_) (fun c hf => ?_)
  · refine g_iload_n 2 S dX0_reach_5 rfl ?_
    exact g_iretP rt hf dX0_reach_6
  · refine g_iload_n 0 S dX0_reach_7 rfl ?_
    refine g_iload_n 1 S dX0_reach_8 rfl ?_
    refine g_isub S dX0_reach_9 ?_
    refine g_mabs S lk_X0_36 (by decide) (Nat.le_of_ble_eq_true rfl) dX0_reach_10 ?_
    refine g_iconst (v := 2) S dX0_reach_13 rfl ?_
    refine g_icmp_ne (tgt := 21) S dX0_reach_14 (by decide) hf (fun c hf => ?_) (fun c hf => ?_)
    · refine g_iconst (v := 0) S dX0_reach_17 rfl ?_
      refine g_goto (tgt := 22) S dX0_reach_18 (by decide) ?_
      exact g_iretP rt hf dX0_reach_22
    · refine g_iload_n 3 S dX0_reach_21 rfl ?_
      exact g_iretP rt hf dX0_reach_22
-- BridleBook$Cone.spread(LBridleBook$Flyer;III)V
theorem dX0_spread_0 : decode cX0_spread 0 = .ok (.aload_n 0, 1) := by decide +kernel
theorem dX0_spread_1 : decode cX0_spread 1 = .ok (.aload_n 1, 1) := by decide +kernel
theorem dX0_spread_2 : decode cX0_spread 2 = .ok (.getfield 24, 3) := by decide +kernel
theorem dX0_spread_5 : decode cX0_spread 5 = .ok (.iconst 0, 1) := by decide +kernel
theorem dX0_spread_6 : decode cX0_spread 6 = .ok (.iload_n 2, 1) := by decide +kernel
theorem dX0_spread_7 : decode cX0_spread 7 = .ok (.iload_n 3, 1) := by decide +kernel
theorem dX0_spread_8 : decode cX0_spread 8 = .ok (.iload 4, 2) := by decide +kernel
theorem dX0_spread_10 : decode cX0_spread 10 = .ok (.invokestatic 29, 3) := by decide +kernel
theorem dX0_spread_13 : decode cX0_spread 13 = .ok (.iadd, 1) := by decide +kernel
theorem dX0_spread_14 : decode cX0_spread 14 = .ok (.putfield 15, 3) := by decide +kernel
theorem dX0_spread_17 : decode cX0_spread 17 = .ok (.aload_n 0, 1) := by decide +kernel
theorem dX0_spread_18 : decode cX0_spread 18 = .ok (.aload_n 1, 1) := by decide +kernel
theorem dX0_spread_19 : decode cX0_spread 19 = .ok (.getfield 33, 3) := by decide +kernel
theorem dX0_spread_22 : decode cX0_spread 22 = .ok (.iconst 1, 1) := by decide +kernel
theorem dX0_spread_23 : decode cX0_spread 23 = .ok (.iload_n 2, 1) := by decide +kernel
theorem dX0_spread_24 : decode cX0_spread 24 = .ok (.iload_n 3, 1) := by decide +kernel
theorem dX0_spread_25 : decode cX0_spread 25 = .ok (.iload 4, 2) := by decide +kernel
theorem dX0_spread_27 : decode cX0_spread 27 = .ok (.invokestatic 29, 3) := by decide +kernel
theorem dX0_spread_30 : decode cX0_spread 30 = .ok (.iadd, 1) := by decide +kernel
theorem dX0_spread_31 : decode cX0_spread 31 = .ok (.putfield 21, 3) := by decide +kernel
theorem dX0_spread_34 : decode cX0_spread 34 = .ok (.aload_n 0, 1) := by decide +kernel
theorem dX0_spread_35 : decode cX0_spread 35 = .ok (.aload_n 1, 1) := by decide +kernel
theorem dX0_spread_36 : decode cX0_spread 36 = .ok (.getfield 24, 3) := by decide +kernel
theorem dX0_spread_39 : decode cX0_spread 39 = .ok (.iconst 2, 1) := by decide +kernel
theorem dX0_spread_40 : decode cX0_spread 40 = .ok (.iload_n 2, 1) := by decide +kernel
theorem dX0_spread_41 : decode cX0_spread 41 = .ok (.iload_n 3, 1) := by decide +kernel
theorem dX0_spread_42 : decode cX0_spread 42 = .ok (.iload 4, 2) := by decide +kernel
theorem dX0_spread_44 : decode cX0_spread 44 = .ok (.invokestatic 29, 3) := by decide +kernel
theorem dX0_spread_47 : decode cX0_spread 47 = .ok (.isub, 1) := by decide +kernel
theorem dX0_spread_48 : decode cX0_spread 48 = .ok (.putfield 9, 3) := by decide +kernel
theorem dX0_spread_51 : decode cX0_spread 51 = .ok (.aload_n 0, 1) := by decide +kernel
theorem dX0_spread_52 : decode cX0_spread 52 = .ok (.aload_n 1, 1) := by decide +kernel
theorem dX0_spread_53 : decode cX0_spread 53 = .ok (.getfield 33, 3) := by decide +kernel
theorem dX0_spread_56 : decode cX0_spread 56 = .ok (.iconst 3, 1) := by decide +kernel
theorem dX0_spread_57 : decode cX0_spread 57 = .ok (.iload_n 2, 1) := by decide +kernel
theorem dX0_spread_58 : decode cX0_spread 58 = .ok (.iload_n 3, 1) := by decide +kernel
theorem dX0_spread_59 : decode cX0_spread 59 = .ok (.iload 4, 2) := by decide +kernel
theorem dX0_spread_61 : decode cX0_spread 61 = .ok (.invokestatic 29, 3) := by decide +kernel
theorem dX0_spread_64 : decode cX0_spread 64 = .ok (.isub, 1) := by decide +kernel
theorem dX0_spread_65 : decode cX0_spread 65 = .ok (.putfield 18, 3) := by decide +kernel
theorem dX0_spread_68 : decode cX0_spread 68 = .ok (.return_, 1) := by decide +kernel
def f_X0_spread (z : Nat → Nat) (n0 : Nat) (n1 : Nat) (M : Mem) (p2 : Int32) (p3 : Int32) (p4 : Int32) : Option Mem := bd1 (f_X0_reach z M 0 p2 p3 p4) (fun r1 => bd1 (f_X0_reach z (mu M n0 1 ((M n1 0) + r1)) 1 p2 p3 p4) (fun r2 => bd1 (f_X0_reach z (mu (mu M n0 1 ((M n1 0) + r1)) n0 3 (((mu M n0 1 ((M n1 0) + r1)) n1 1) + r2)) 2 p2 p3 p4) (fun r3 => bd1 (f_X0_reach z (mu (mu (mu M n0 1 ((M n1 0) + r1)) n0 3 (((mu M n0 1 ((M n1 0) + r1)) n1 1) + r2)) n0 0 (((mu (mu M n0 1 ((M n1 0) + r1)) n0 3 (((mu M n0 1 ((M n1 0) + r1)) n1 1) + r2)) n1 0) - r3)) 3 p2 p3 p4) (fun r4 => some (mu (mu (mu (mu M n0 1 ((M n1 0) + r1)) n0 3 (((mu M n0 1 ((M n1 0) + r1)) n1 1) + r2)) n0 0 (((mu (mu M n0 1 ((M n1 0) + r1)) n0 3 (((mu M n0 1 ((M n1 0) + r1)) n1 1) + r2)) n1 0) - r3)) n0 2 (((mu (mu (mu M n0 1 ((M n1 0) + r1)) n0 3 (((mu M n0 1 ((M n1 0) + r1)) n1 1) + r2)) n0 0 (((mu (mu M n0 1 ((M n1 0) + r1)) n0 3 (((mu M n0 1 ((M n1 0) + r1)) n1 1) + r2)) n1 0) - r3)) n1 1) - r4))))))
theorem c_X0_spread {l : Launch} {G : GG} {a : AA} {n0 : Nat} (hn0 : vC n0) {n1 : Nat} (hn1 : vF a.1 n1) {M : Mem} {p2 : Int32} {p3 : Int32} {p4 : Int32}  {M' : Mem} (hf : f_X0_spread a.1 n0 n1 M p2 p3 p4 = some M') : CtV l G a yX0_spread cX0_spread 5 (rmD 2) [.ref (a.2 n0), .ref (a.2 n1), .int p2, .int p3, .int p4] M M' := by
  refine ct_V (by decide) rfl (own := RX0) (Nat.le_of_ble_eq_true rfl) (fun K hl hg S rt => ?_)
  subst hl; subst hg
  unfold f_X0_spread at hf
  show Go K 5 a M 0 [(0, .ref (a.2 n0)), (1, .ref (a.2 n1)), (2, .int p2), (3, .int p3), (4, .int p4)] []
  refine g_aload_n 0 S dX0_spread_0 rfl ?_
  refine g_aload_n 1 S dX0_spread_1 rfl ?_
  refine g_get (v := .int (M n1 0)) S (ob_F hn1) rfl gi_X1 (by decide) lf_X0_24 rfl dX0_spread_2 ?_
  refine g_iconst (v := 0) S dX0_spread_5 rfl ?_
  refine g_iload_n 2 S dX0_spread_6 rfl ?_
  refine g_iload_n 3 S dX0_spread_7 rfl ?_
  refine g_iload 4 S dX0_spread_8 rfl ?_
  obtain ⟨r1, hr1, hf⟩ := bd1_some hf
  refine g_cSI (st := [.int (M n1 0), .ref (a.2 n0)]) S ok_X0_reach lk_X0_29 (c_X0_reach hr1) rfl rfl ⟨by decide, by decide⟩ (rmD_z _) (Nat.le_of_ble_eq_true rfl) dX0_spread_10 ?_
  refine g_iadd S dX0_spread_13 ?_
  refine g_put (ty := .int) S (ob_C hn0) rfl gi_X0 tyX0_ok nmX0 (by decide) lf_X0_15 rfl (by decide +kernel) rfl rfl (Nat.le_of_ble_eq_true rfl) rfl dX0_spread_14 ?_
  refine g_aload_n 0 S dX0_spread_17 rfl ?_
  refine g_aload_n 1 S dX0_spread_18 rfl ?_
  refine g_get (v := .int ((mu M n0 1 ((M n1 0) + r1)) n1 1)) S (ob_F hn1) rfl gi_X1 (by decide) lf_X0_33 rfl dX0_spread_19 ?_
  refine g_iconst (v := 1) S dX0_spread_22 rfl ?_
  refine g_iload_n 2 S dX0_spread_23 rfl ?_
  refine g_iload_n 3 S dX0_spread_24 rfl ?_
  refine g_iload 4 S dX0_spread_25 rfl ?_
  obtain ⟨r2, hr2, hf⟩ := bd1_some hf
  refine g_cSI (st := [.int ((mu M n0 1 ((M n1 0) + r1)) n1 1), .ref (a.2 n0)]) S ok_X0_reach lk_X0_29 (c_X0_reach hr2) rfl rfl ⟨by decide, by decide⟩ (rmD_z _) (Nat.le_of_ble_eq_true rfl) dX0_spread_27 ?_
  refine g_iadd S dX0_spread_30 ?_
  refine g_put (ty := .int) S (ob_C hn0) rfl gi_X0 tyX0_ok nmX0 (by decide) lf_X0_21 rfl (by decide +kernel) rfl rfl (Nat.le_of_ble_eq_true rfl) rfl dX0_spread_31 ?_
  refine g_aload_n 0 S dX0_spread_34 rfl ?_
  refine g_aload_n 1 S dX0_spread_35 rfl ?_
  refine g_get (v := .int ((mu (mu M n0 1 ((M n1 0) + r1)) n0 3 (((mu M n0 1 ((M n1 0) + r1)) n1 1) + r2)) n1 0)) S (ob_F hn1) rfl gi_X1 (by decide) lf_X0_24 rfl dX0_spread_36 ?_
  refine g_iconst (v := 2) S dX0_spread_39 rfl ?_
  refine g_iload_n 2 S dX0_spread_40 rfl ?_
  refine g_iload_n 3 S dX0_spread_41 rfl ?_
  refine g_iload 4 S dX0_spread_42 rfl ?_
  obtain ⟨r3, hr3, hf⟩ := bd1_some hf
  refine g_cSI (st := [.int ((mu (mu M n0 1 ((M n1 0) + r1)) n0 3 (((mu M n0 1 ((M n1 0) + r1)) n1 1) + r2)) n1 0), .ref (a.2 n0)]) S ok_X0_reach lk_X0_29 (c_X0_reach hr3) rfl rfl ⟨by decide, by decide⟩ (rmD_z _) (Nat.le_of_ble_eq_true rfl) dX0_spread_44 ?_
  refine g_isub S dX0_spread_47 ?_
  refine g_put (ty := .int) S (ob_C hn0) rfl gi_X0 tyX0_ok nmX0 (by decide) lf_X0_9 rfl (by decide +kernel) rfl rfl (Nat.le_of_ble_eq_true rfl) rfl dX0_spread_48 ?_
  refine g_aload_n 0 S dX0_spread_51 rfl ?_
  refine g_aload_n 1 S dX0_spread_52 rfl ?_
  refine g_get (v := .int ((mu (mu (mu M n0 1 ((M n1 0) + r1)) n0 3 (((mu M n0 1 ((M n1 0) + r1)) n1 1) + r2)) n0 0 (((mu (mu M n0 1 ((M n1 0) + r1)) n0 3 (((mu M n0 1 ((M n1 0) + r1)) n1 1) + r2)) n1 0) - r3)) n1 1)) S (ob_F hn1) rfl gi_X1 (by decide) lf_X0_33 rfl dX0_spread_53 ?_
  refine g_iconst (v := 3) S dX0_spread_56 rfl ?_
  refine g_iload_n 2 S dX0_spread_57 rfl ?_
  refine g_iload_n 3 S dX0_spread_58 rfl ?_
  refine g_iload 4 S dX0_spread_59 rfl ?_
  obtain ⟨r4, hr4, hf⟩ := bd1_some hf
  refine g_cSI (st := [.int ((mu (mu (mu M n0 1 ((M n1 0) + r1)) n0 3 (((mu M n0 1 ((M n1 0) + r1)) n1 1) + r2)) n0 0 (((mu (mu M n0 1 ((M n1 0) + r1)) n0 3 (((mu M n0 1 ((M n1 0) + r1)) n1 1) + r2)) n1 0) - r3)) n1 1), .ref (a.2 n0)]) S ok_X0_reach lk_X0_29 (c_X0_reach hr4) rfl rfl ⟨by decide, by decide⟩ (rmD_z _) (Nat.le_of_ble_eq_true rfl) dX0_spread_61 ?_
  refine g_isub S dX0_spread_64 ?_
  refine g_put (ty := .int) S (ob_C hn0) rfl gi_X0 tyX0_ok nmX0 (by decide) lf_X0_18 rfl (by decide +kernel) rfl rfl (Nat.le_of_ble_eq_true rfl) rfl dX0_spread_65 ?_
  exact g_vretM rt hf dX0_spread_68
-- BridleBook.within(III)Z
theorem dX7_within_0 : decode cX7_within 0 = .ok (.iload_n 0, 1) := by decide +kernel
theorem dX7_within_1 : decode cX7_within 1 = .ok (.iload_n 1, 1) := by decide +kernel
theorem dX7_within_2 : decode cX7_within 2 = .ok (.if_icmp .lt 12, 3) := by decide +kernel
theorem dX7_within_5 : decode cX7_within 5 = .ok (.iload_n 0, 1) := by decide +kernel
theorem dX7_within_6 : decode cX7_within 6 = .ok (.iload_n 2, 1) := by decide +kernel
theorem dX7_within_7 : decode cX7_within 7 = .ok (.if_icmp .gt 7, 3) := by decide +kernel
theorem dX7_within_10 : decode cX7_within 10 = .ok (.iconst 1, 1) := by decide +kernel
theorem dX7_within_11 : decode cX7_within 11 = .ok (.goto 4, 3) := by decide +kernel
theorem dX7_within_14 : decode cX7_within 14 = .ok (.iconst 0, 1) := by decide +kernel
theorem dX7_within_15 : decode cX7_within 15 = .ok (.ireturn, 1) := by decide +kernel
def f_X7_within (z : Nat → Nat) (M : Mem) (p1 : Int32) (p2 : Int32) (p3 : Int32) : Option Bool := if p1 < p2 then some false else if p3 < p1 then some false else some true
theorem c_X7_within {l : Launch} {G : GG} {a : AA} {M : Mem} {p1 : Int32} {p2 : Int32} {p3 : Int32} {r : Bool} (hf : f_X7_within a.1 M p1 p2 p3 = some r) : CtI l G a yX7_within cX7_within 3 .boolean (rmD 0) [.int p1, .int p2, .int p3] M (b2i r) M := by
  refine ct_I (by decide) rfl (b2i_n _) (own := RX7) (Nat.le_of_ble_eq_true rfl) (fun K hl hg S rt => ?_)
  subst hl; subst hg
  unfold f_X7_within at hf
  show Go K 3 a M 0 [(0, .int p1), (1, .int p2), (2, .int p3)] []
  refine g_iload_n 0 S dX7_within_0 rfl ?_
  refine g_iload_n 1 S dX7_within_1 rfl ?_
  refine g_icmp_lt (tgt := 14) S dX7_within_2 (by decide) hf (fun c hf => ?_) (fun c hf => ?_)
  · refine g_iconst (v := 0) S dX7_within_14 rfl ?_
    exact g_zretP rt hf dX7_within_15 rfl
  · refine g_iload_n 0 S dX7_within_5 rfl ?_
    refine g_iload_n 2 S dX7_within_6 rfl ?_
    refine g_icmp_gt (tgt := 14) S dX7_within_7 (by decide) hf (fun c hf => ?_) (fun c hf => ?_)
    · refine g_iconst (v := 0) S dX7_within_14 rfl ?_
      exact g_zretP rt hf dX7_within_15 rfl
    · refine g_iconst (v := 1) S dX7_within_10 rfl ?_
      refine g_goto (tgt := 15) S dX7_within_11 (by decide) ?_
      exact g_zretP rt hf dX7_within_15 rfl
-- BridleBook$Cone.holds(I)Z
theorem dX0_holds_0 : decode cX0_holds 0 = .ok (.iload_n 1, 1) := by decide +kernel
theorem dX0_holds_1 : decode cX0_holds 1 = .ok (.sipush 200, 3) := by decide +kernel
theorem dX0_holds_4 : decode cX0_holds 4 = .ok (.idiv, 1) := by decide +kernel
theorem dX0_holds_5 : decode cX0_holds 5 = .ok (.aload_n 0, 1) := by decide +kernel
theorem dX0_holds_6 : decode cX0_holds 6 = .ok (.getfield 9, 3) := by decide +kernel
theorem dX0_holds_9 : decode cX0_holds 9 = .ok (.aload_n 0, 1) := by decide +kernel
theorem dX0_holds_10 : decode cX0_holds 10 = .ok (.getfield 15, 3) := by decide +kernel
theorem dX0_holds_13 : decode cX0_holds 13 = .ok (.invokestatic 42, 3) := by decide +kernel
theorem dX0_holds_16 : decode cX0_holds 16 = .ok (.ifCond .eq 26, 3) := by decide +kernel
theorem dX0_holds_19 : decode cX0_holds 19 = .ok (.iload_n 1, 1) := by decide +kernel
theorem dX0_holds_20 : decode cX0_holds 20 = .ok (.sipush 200, 3) := by decide +kernel
theorem dX0_holds_23 : decode cX0_holds 23 = .ok (.irem, 1) := by decide +kernel
theorem dX0_holds_24 : decode cX0_holds 24 = .ok (.aload_n 0, 1) := by decide +kernel
theorem dX0_holds_25 : decode cX0_holds 25 = .ok (.getfield 18, 3) := by decide +kernel
theorem dX0_holds_28 : decode cX0_holds 28 = .ok (.aload_n 0, 1) := by decide +kernel
theorem dX0_holds_29 : decode cX0_holds 29 = .ok (.getfield 21, 3) := by decide +kernel
theorem dX0_holds_32 : decode cX0_holds 32 = .ok (.invokestatic 42, 3) := by decide +kernel
theorem dX0_holds_35 : decode cX0_holds 35 = .ok (.ifCond .eq 7, 3) := by decide +kernel
theorem dX0_holds_38 : decode cX0_holds 38 = .ok (.iconst 1, 1) := by decide +kernel
theorem dX0_holds_39 : decode cX0_holds 39 = .ok (.goto 4, 3) := by decide +kernel
theorem dX0_holds_42 : decode cX0_holds 42 = .ok (.iconst 0, 1) := by decide +kernel
theorem dX0_holds_43 : decode cX0_holds 43 = .ok (.ireturn, 1) := by decide +kernel
def f_X0_holds (z : Nat → Nat) (n0 : Nat) (M : Mem) (p1 : Int32) : Option Bool := bd1 (f_X7_within z M (p1 / 200) (M n0 0) (M n0 1)) (fun r1 => if r1 = true then bd1 (f_X7_within z M (irem p1 200) (M n0 2) (M n0 3)) (fun r2 => if r2 = true then some true else some false) else some false)
theorem c_X0_holds {l : Launch} {G : GG} {a : AA} {n0 : Nat} (hn0 : vC n0) {M : Mem} {p1 : Int32} {r : Bool} (hf : f_X0_holds a.1 n0 M p1 = some r) : CtI l G a yX0_holds cX0_holds 2 .boolean (rmD 1) [.ref (a.2 n0), .int p1] M (b2i r) M := by
  refine ct_I (by decide) rfl (b2i_n _) (own := RX0) (Nat.le_of_ble_eq_true rfl) (fun K hl hg S rt => ?_)
  subst hl; subst hg
  unfold f_X0_holds at hf
  show Go K 2 a M 0 [(0, .ref (a.2 n0)), (1, .int p1)] []
  refine g_iload_n 1 S dX0_holds_0 rfl ?_
  refine g_sipush (v := 200) S dX0_holds_1 rfl ?_
  refine g_idiv S dX0_holds_4 (by decide) ?_
  refine g_aload_n 0 S dX0_holds_5 rfl ?_
  refine g_get (v := .int (M n0 0)) S (ob_C hn0) rfl gi_X0 (by decide) lf_X0_9 rfl dX0_holds_6 ?_
  refine g_aload_n 0 S dX0_holds_9 rfl ?_
  refine g_get (v := .int (M n0 1)) S (ob_C hn0) rfl gi_X0 (by decide) lf_X0_15 rfl dX0_holds_10 ?_
  obtain ⟨r1, hr1, hf⟩ := bd1_some hf
  refine g_cNI (st := []) S ok_X7_within ln_X0_42 (c_X7_within hr1) rfl rfl ⟨by decide, by decide⟩ (rmD_z _) (Nat.le_of_ble_eq_true rfl) dX0_holds_13 ?_
  refine g_if_eqB (tgt := 42) S dX0_holds_16 (by decide) hf (fun c hf => ?_) (fun c hf => ?_)
  · refine g_iload_n 1 S dX0_holds_19 rfl ?_
    refine g_sipush (v := 200) S dX0_holds_20 rfl ?_
    refine g_irem S dX0_holds_23 (by decide) ?_
    refine g_aload_n 0 S dX0_holds_24 rfl ?_
    refine g_get (v := .int (M n0 2)) S (ob_C hn0) rfl gi_X0 (by decide) lf_X0_18 rfl dX0_holds_25 ?_
    refine g_aload_n 0 S dX0_holds_28 rfl ?_
    refine g_get (v := .int (M n0 3)) S (ob_C hn0) rfl gi_X0 (by decide) lf_X0_21 rfl dX0_holds_29 ?_
    obtain ⟨r2, hr2, hf⟩ := bd1_some hf
    refine g_cNI (st := []) S ok_X7_within ln_X0_42 (c_X7_within hr2) rfl rfl ⟨by decide, by decide⟩ (rmD_z _) (Nat.le_of_ble_eq_true rfl) dX0_holds_32 ?_
    refine g_if_eqB (tgt := 42) S dX0_holds_35 (by decide) hf (fun c hf => ?_) (fun c hf => ?_)
    · refine g_iconst (v := 1) S dX0_holds_38 rfl ?_
      refine g_goto (tgt := 43) S dX0_holds_39 (by decide) ?_
      exact g_zretP rt hf dX0_holds_43 rfl
    · refine g_iconst (v := 0) S dX0_holds_42 rfl ?_
      exact g_zretP rt hf dX0_holds_43 rfl
  · refine g_iconst (v := 0) S dX0_holds_42 rfl ?_
    exact g_zretP rt hf dX0_holds_43 rfl
-- BridleBook$Cone.meets(LBridleBook$Cone;)Z
theorem dX0_meets_0 : decode cX0_meets 0 = .ok (.aload_n 0, 1) := by decide +kernel
theorem dX0_meets_1 : decode cX0_meets 1 = .ok (.getfield 9, 3) := by decide +kernel
theorem dX0_meets_4 : decode cX0_meets 4 = .ok (.aload_n 1, 1) := by decide +kernel
theorem dX0_meets_5 : decode cX0_meets 5 = .ok (.getfield 15, 3) := by decide +kernel
theorem dX0_meets_8 : decode cX0_meets 8 = .ok (.if_icmp .gt 40, 3) := by decide +kernel
theorem dX0_meets_11 : decode cX0_meets 11 = .ok (.aload_n 1, 1) := by decide +kernel
theorem dX0_meets_12 : decode cX0_meets 12 = .ok (.getfield 9, 3) := by decide +kernel
theorem dX0_meets_15 : decode cX0_meets 15 = .ok (.aload_n 0, 1) := by decide +kernel
theorem dX0_meets_16 : decode cX0_meets 16 = .ok (.getfield 15, 3) := by decide +kernel
theorem dX0_meets_19 : decode cX0_meets 19 = .ok (.if_icmp .gt 29, 3) := by decide +kernel
theorem dX0_meets_22 : decode cX0_meets 22 = .ok (.aload_n 0, 1) := by decide +kernel
theorem dX0_meets_23 : decode cX0_meets 23 = .ok (.getfield 18, 3) := by decide +kernel
theorem dX0_meets_26 : decode cX0_meets 26 = .ok (.aload_n 1, 1) := by decide +kernel
theorem dX0_meets_27 : decode cX0_meets 27 = .ok (.getfield 21, 3) := by decide +kernel
theorem dX0_meets_30 : decode cX0_meets 30 = .ok (.if_icmp .gt 18, 3) := by decide +kernel
theorem dX0_meets_33 : decode cX0_meets 33 = .ok (.aload_n 1, 1) := by decide +kernel
theorem dX0_meets_34 : decode cX0_meets 34 = .ok (.getfield 18, 3) := by decide +kernel
theorem dX0_meets_37 : decode cX0_meets 37 = .ok (.aload_n 0, 1) := by decide +kernel
theorem dX0_meets_38 : decode cX0_meets 38 = .ok (.getfield 21, 3) := by decide +kernel
theorem dX0_meets_41 : decode cX0_meets 41 = .ok (.if_icmp .gt 7, 3) := by decide +kernel
theorem dX0_meets_44 : decode cX0_meets 44 = .ok (.iconst 1, 1) := by decide +kernel
theorem dX0_meets_45 : decode cX0_meets 45 = .ok (.goto 4, 3) := by decide +kernel
theorem dX0_meets_48 : decode cX0_meets 48 = .ok (.iconst 0, 1) := by decide +kernel
theorem dX0_meets_49 : decode cX0_meets 49 = .ok (.ireturn, 1) := by decide +kernel
def f_X0_meets (z : Nat → Nat) (n0 : Nat) (n1 : Nat) (M : Mem) : Option Bool := if (M n1 1) < (M n0 0) then some false else if (M n0 1) < (M n1 0) then some false else if (M n1 3) < (M n0 2) then some false else if (M n0 3) < (M n1 2) then some false else some true
theorem c_X0_meets {l : Launch} {G : GG} {a : AA} {n0 : Nat} (hn0 : vC n0) {n1 : Nat} (hn1 : vC n1) {M : Mem} {r : Bool} (hf : f_X0_meets a.1 n0 n1 M = some r) : CtI l G a yX0_meets cX0_meets 2 .boolean (rmD 0) [.ref (a.2 n0), .ref (a.2 n1)] M (b2i r) M := by
  refine ct_I (by decide) rfl (b2i_n _) (own := RX0) (Nat.le_of_ble_eq_true rfl) (fun K hl hg S rt => ?_)
  subst hl; subst hg
  unfold f_X0_meets at hf
  show Go K 2 a M 0 [(0, .ref (a.2 n0)), (1, .ref (a.2 n1))] []
  refine g_aload_n 0 S dX0_meets_0 rfl ?_
  refine g_get (v := .int (M n0 0)) S (ob_C hn0) rfl gi_X0 (by decide) lf_X0_9 rfl dX0_meets_1 ?_
  refine g_aload_n 1 S dX0_meets_4 rfl ?_
  refine g_get (v := .int (M n1 1)) S (ob_C hn1) rfl gi_X0 (by decide) lf_X0_15 rfl dX0_meets_5 ?_
  refine g_icmp_gt (tgt := 48) S dX0_meets_8 (by decide) hf (fun c hf => ?_) (fun c hf => ?_)
  · refine g_iconst (v := 0) S dX0_meets_48 rfl ?_
    exact g_zretP rt hf dX0_meets_49 rfl
  · refine g_aload_n 1 S dX0_meets_11 rfl ?_
    refine g_get (v := .int (M n1 0)) S (ob_C hn1) rfl gi_X0 (by decide) lf_X0_9 rfl dX0_meets_12 ?_
    refine g_aload_n 0 S dX0_meets_15 rfl ?_
    refine g_get (v := .int (M n0 1)) S (ob_C hn0) rfl gi_X0 (by decide) lf_X0_15 rfl dX0_meets_16 ?_
    refine g_icmp_gt (tgt := 48) S dX0_meets_19 (by decide) hf (fun c hf => ?_) (fun c hf => ?_)
    · refine g_iconst (v := 0) S dX0_meets_48 rfl ?_
      exact g_zretP rt hf dX0_meets_49 rfl
    · refine g_aload_n 0 S dX0_meets_22 rfl ?_
      refine g_get (v := .int (M n0 2)) S (ob_C hn0) rfl gi_X0 (by decide) lf_X0_18 rfl dX0_meets_23 ?_
      refine g_aload_n 1 S dX0_meets_26 rfl ?_
      refine g_get (v := .int (M n1 3)) S (ob_C hn1) rfl gi_X0 (by decide) lf_X0_21 rfl dX0_meets_27 ?_
      refine g_icmp_gt (tgt := 48) S dX0_meets_30 (by decide) hf (fun c hf => ?_) (fun c hf => ?_)
      · refine g_iconst (v := 0) S dX0_meets_48 rfl ?_
        exact g_zretP rt hf dX0_meets_49 rfl
      · refine g_aload_n 1 S dX0_meets_33 rfl ?_
        refine g_get (v := .int (M n1 2)) S (ob_C hn1) rfl gi_X0 (by decide) lf_X0_18 rfl dX0_meets_34 ?_
        refine g_aload_n 0 S dX0_meets_37 rfl ?_
        refine g_get (v := .int (M n0 3)) S (ob_C hn0) rfl gi_X0 (by decide) lf_X0_21 rfl dX0_meets_38 ?_
        refine g_icmp_gt (tgt := 48) S dX0_meets_41 (by decide) hf (fun c hf => ?_) (fun c hf => ?_)
        · refine g_iconst (v := 0) S dX0_meets_48 rfl ?_
          exact g_zretP rt hf dX0_meets_49 rfl
        · refine g_iconst (v := 1) S dX0_meets_44 rfl ?_
          refine g_goto (tgt := 49) S dX0_meets_45 (by decide) ?_
          exact g_zretP rt hf dX0_meets_49 rfl
-- BridleBook$Kite.addPanel(III)I
theorem dX2_addPanel_0 : decode cX2_addPanel 0 = .ok (.aload_n 0, 1) := by decide +kernel
theorem dX2_addPanel_1 : decode cX2_addPanel 1 = .ok (.getfield 21, 3) := by decide +kernel
theorem dX2_addPanel_4 : decode cX2_addPanel 4 = .ok (.bipush 6, 2) := by decide +kernel
theorem dX2_addPanel_6 : decode cX2_addPanel 6 = .ok (.if_icmp .lt 6, 3) := by decide +kernel
theorem dX2_addPanel_9 : decode cX2_addPanel 9 = .ok (.bipush (-3), 2) := by decide +kernel
theorem dX2_addPanel_11 : decode cX2_addPanel 11 = .ok (.ireturn, 1) := by decide +kernel
theorem dX2_addPanel_12 : decode cX2_addPanel 12 = .ok (.aload_n 0, 1) := by decide +kernel
theorem dX2_addPanel_13 : decode cX2_addPanel 13 = .ok (.getfield 9, 3) := by decide +kernel
theorem dX2_addPanel_16 : decode cX2_addPanel 16 = .ok (.aload_n 0, 1) := by decide +kernel
theorem dX2_addPanel_17 : decode cX2_addPanel 17 = .ok (.getfield 21, 3) := by decide +kernel
theorem dX2_addPanel_20 : decode cX2_addPanel 20 = .ok (.iload_n 1, 1) := by decide +kernel
theorem dX2_addPanel_21 : decode cX2_addPanel 21 = .ok (.iastore, 1) := by decide +kernel
theorem dX2_addPanel_22 : decode cX2_addPanel 22 = .ok (.aload_n 0, 1) := by decide +kernel
theorem dX2_addPanel_23 : decode cX2_addPanel 23 = .ok (.getfield 15, 3) := by decide +kernel
theorem dX2_addPanel_26 : decode cX2_addPanel 26 = .ok (.aload_n 0, 1) := by decide +kernel
theorem dX2_addPanel_27 : decode cX2_addPanel 27 = .ok (.getfield 21, 3) := by decide +kernel
theorem dX2_addPanel_30 : decode cX2_addPanel 30 = .ok (.iload_n 2, 1) := by decide +kernel
theorem dX2_addPanel_31 : decode cX2_addPanel 31 = .ok (.iastore, 1) := by decide +kernel
theorem dX2_addPanel_32 : decode cX2_addPanel 32 = .ok (.aload_n 0, 1) := by decide +kernel
theorem dX2_addPanel_33 : decode cX2_addPanel 33 = .ok (.getfield 18, 3) := by decide +kernel
theorem dX2_addPanel_36 : decode cX2_addPanel 36 = .ok (.aload_n 0, 1) := by decide +kernel
theorem dX2_addPanel_37 : decode cX2_addPanel 37 = .ok (.getfield 21, 3) := by decide +kernel
theorem dX2_addPanel_40 : decode cX2_addPanel 40 = .ok (.iload_n 3, 1) := by decide +kernel
theorem dX2_addPanel_41 : decode cX2_addPanel 41 = .ok (.iastore, 1) := by decide +kernel
theorem dX2_addPanel_42 : decode cX2_addPanel 42 = .ok (.aload_n 0, 1) := by decide +kernel
theorem dX2_addPanel_43 : decode cX2_addPanel 43 = .ok (.dup, 1) := by decide +kernel
theorem dX2_addPanel_44 : decode cX2_addPanel 44 = .ok (.getfield 21, 3) := by decide +kernel
theorem dX2_addPanel_47 : decode cX2_addPanel 47 = .ok (.iconst 1, 1) := by decide +kernel
theorem dX2_addPanel_48 : decode cX2_addPanel 48 = .ok (.iadd, 1) := by decide +kernel
theorem dX2_addPanel_49 : decode cX2_addPanel 49 = .ok (.putfield 21, 3) := by decide +kernel
theorem dX2_addPanel_52 : decode cX2_addPanel 52 = .ok (.aload_n 0, 1) := by decide +kernel
theorem dX2_addPanel_53 : decode cX2_addPanel 53 = .ok (.getfield 21, 3) := by decide +kernel
theorem dX2_addPanel_56 : decode cX2_addPanel 56 = .ok (.iconst 1, 1) := by decide +kernel
theorem dX2_addPanel_57 : decode cX2_addPanel 57 = .ok (.isub, 1) := by decide +kernel
theorem dX2_addPanel_58 : decode cX2_addPanel 58 = .ok (.ireturn, 1) := by decide +kernel
def f_X2_addPanel (z : Nat → Nat) (n0 : Nat) (M : Mem) (p1 : Int32) (p2 : Int32) (p3 : Int32) : Option (Int32 × Mem) := if (M n0 3) < 6 then ck (inb (M n0 3) 6) (ck (inb ((mu M (n0 + 1) ((M n0 3)).toNatClampNeg p1) n0 3) 6) (ck (inb ((mu (mu M (n0 + 1) ((M n0 3)).toNatClampNeg p1) (n0 + 2) (((mu M (n0 + 1) ((M n0 3)).toNatClampNeg p1) n0 3)).toNatClampNeg p2) n0 3) 6) (some ((((mu (mu (mu (mu M (n0 + 1) ((M n0 3)).toNatClampNeg p1) (n0 + 2) (((mu M (n0 + 1) ((M n0 3)).toNatClampNeg p1) n0 3)).toNatClampNeg p2) (n0 + 3) (((mu (mu M (n0 + 1) ((M n0 3)).toNatClampNeg p1) (n0 + 2) (((mu M (n0 + 1) ((M n0 3)).toNatClampNeg p1) n0 3)).toNatClampNeg p2) n0 3)).toNatClampNeg p3) n0 3 (((mu (mu (mu M (n0 + 1) ((M n0 3)).toNatClampNeg p1) (n0 + 2) (((mu M (n0 + 1) ((M n0 3)).toNatClampNeg p1) n0 3)).toNatClampNeg p2) (n0 + 3) (((mu (mu M (n0 + 1) ((M n0 3)).toNatClampNeg p1) (n0 + 2) (((mu M (n0 + 1) ((M n0 3)).toNatClampNeg p1) n0 3)).toNatClampNeg p2) n0 3)).toNatClampNeg p3) n0 3) + 1)) n0 3) - 1), (mu (mu (mu (mu M (n0 + 1) ((M n0 3)).toNatClampNeg p1) (n0 + 2) (((mu M (n0 + 1) ((M n0 3)).toNatClampNeg p1) n0 3)).toNatClampNeg p2) (n0 + 3) (((mu (mu M (n0 + 1) ((M n0 3)).toNatClampNeg p1) (n0 + 2) (((mu M (n0 + 1) ((M n0 3)).toNatClampNeg p1) n0 3)).toNatClampNeg p2) n0 3)).toNatClampNeg p3) n0 3 (((mu (mu (mu M (n0 + 1) ((M n0 3)).toNatClampNeg p1) (n0 + 2) (((mu M (n0 + 1) ((M n0 3)).toNatClampNeg p1) n0 3)).toNatClampNeg p2) (n0 + 3) (((mu (mu M (n0 + 1) ((M n0 3)).toNatClampNeg p1) (n0 + 2) (((mu M (n0 + 1) ((M n0 3)).toNatClampNeg p1) n0 3)).toNatClampNeg p2) n0 3)).toNatClampNeg p3) n0 3) + 1)))))) else some ((-3), M)
theorem c_X2_addPanel {l : Launch} {G : GG} {a : AA} {n0 : Nat} (hn0 : vK a.1 n0) {M : Mem} {p1 : Int32} {p2 : Int32} {p3 : Int32} {r : Int32} {M' : Mem} (hf : f_X2_addPanel a.1 n0 M p1 p2 p3 = some (r, M')) : CtI l G a yX2_addPanel cX2_addPanel 4 .int (rmD 0) [.ref (a.2 n0), .int p1, .int p2, .int p3] M r M' := by
  refine ct_I (by decide) rfl rfl (own := RX2) (Nat.le_of_ble_eq_true rfl) (fun K hl hg S rt => ?_)
  subst hl; subst hg
  unfold f_X2_addPanel at hf
  show Go K 4 a M 0 [(0, .ref (a.2 n0)), (1, .int p1), (2, .int p2), (3, .int p3)] []
  refine g_aload_n 0 S dX2_addPanel_0 rfl ?_
  refine g_get (v := .int (M n0 3)) S (ob_K hn0) rfl gi_X2 (by decide) lf_X2_21 rfl dX2_addPanel_1 ?_
  refine g_bipush (v := 6) S dX2_addPanel_4 rfl ?_
  refine g_icmp_lt (tgt := 12) S dX2_addPanel_6 (by decide) hf (fun c hf => ?_) (fun c hf => ?_)
  · refine g_aload_n 0 S dX2_addPanel_12 rfl ?_
    refine g_get (v := .ref (a.2 (n0 + 1))) S (ob_K hn0) rfl gi_X2 (by decide) lf_X2_9 rfl dX2_addPanel_13 ?_
    refine g_aload_n 0 S dX2_addPanel_16 rfl ?_
    refine g_get (v := .int (M n0 3)) S (ob_K hn0) rfl gi_X2 (by decide) lf_X2_21 rfl dX2_addPanel_17 ?_
    refine g_iload_n 1 S dX2_addPanel_20 rfl ?_
    refine g_iast S (ia_K1 hn0) dX2_addPanel_21 hf (fun hf => ?_)
    refine g_aload_n 0 S dX2_addPanel_22 rfl ?_
    refine g_get (v := .ref (a.2 (n0 + 2))) S (ob_K hn0) rfl gi_X2 (by decide) lf_X2_15 rfl dX2_addPanel_23 ?_
    refine g_aload_n 0 S dX2_addPanel_26 rfl ?_
    refine g_get (v := .int ((mu M (n0 + 1) ((M n0 3)).toNatClampNeg p1) n0 3)) S (ob_K hn0) rfl gi_X2 (by decide) lf_X2_21 rfl dX2_addPanel_27 ?_
    refine g_iload_n 2 S dX2_addPanel_30 rfl ?_
    refine g_iast S (ia_K2 hn0) dX2_addPanel_31 hf (fun hf => ?_)
    refine g_aload_n 0 S dX2_addPanel_32 rfl ?_
    refine g_get (v := .ref (a.2 (n0 + 3))) S (ob_K hn0) rfl gi_X2 (by decide) lf_X2_18 rfl dX2_addPanel_33 ?_
    refine g_aload_n 0 S dX2_addPanel_36 rfl ?_
    refine g_get (v := .int ((mu (mu M (n0 + 1) ((M n0 3)).toNatClampNeg p1) (n0 + 2) (((mu M (n0 + 1) ((M n0 3)).toNatClampNeg p1) n0 3)).toNatClampNeg p2) n0 3)) S (ob_K hn0) rfl gi_X2 (by decide) lf_X2_21 rfl dX2_addPanel_37 ?_
    refine g_iload_n 3 S dX2_addPanel_40 rfl ?_
    refine g_iast S (ia_K3 hn0) dX2_addPanel_41 hf (fun hf => ?_)
    refine g_aload_n 0 S dX2_addPanel_42 rfl ?_
    refine g_dup S dX2_addPanel_43 rfl ?_
    refine g_get (v := .int ((mu (mu (mu M (n0 + 1) ((M n0 3)).toNatClampNeg p1) (n0 + 2) (((mu M (n0 + 1) ((M n0 3)).toNatClampNeg p1) n0 3)).toNatClampNeg p2) (n0 + 3) (((mu (mu M (n0 + 1) ((M n0 3)).toNatClampNeg p1) (n0 + 2) (((mu M (n0 + 1) ((M n0 3)).toNatClampNeg p1) n0 3)).toNatClampNeg p2) n0 3)).toNatClampNeg p3) n0 3)) S (ob_K hn0) rfl gi_X2 (by decide) lf_X2_21 rfl dX2_addPanel_44 ?_
    refine g_iconst (v := 1) S dX2_addPanel_47 rfl ?_
    refine g_iadd S dX2_addPanel_48 ?_
    refine g_put (ty := .int) S (ob_K hn0) rfl gi_X2 tyX2_ok nmX2 (by decide) lf_X2_21 rfl (by decide +kernel) rfl rfl (Nat.le_of_ble_eq_true rfl) rfl dX2_addPanel_49 ?_
    refine g_aload_n 0 S dX2_addPanel_52 rfl ?_
    refine g_get (v := .int ((mu (mu (mu (mu M (n0 + 1) ((M n0 3)).toNatClampNeg p1) (n0 + 2) (((mu M (n0 + 1) ((M n0 3)).toNatClampNeg p1) n0 3)).toNatClampNeg p2) (n0 + 3) (((mu (mu M (n0 + 1) ((M n0 3)).toNatClampNeg p1) (n0 + 2) (((mu M (n0 + 1) ((M n0 3)).toNatClampNeg p1) n0 3)).toNatClampNeg p2) n0 3)).toNatClampNeg p3) n0 3 (((mu (mu (mu M (n0 + 1) ((M n0 3)).toNatClampNeg p1) (n0 + 2) (((mu M (n0 + 1) ((M n0 3)).toNatClampNeg p1) n0 3)).toNatClampNeg p2) (n0 + 3) (((mu (mu M (n0 + 1) ((M n0 3)).toNatClampNeg p1) (n0 + 2) (((mu M (n0 + 1) ((M n0 3)).toNatClampNeg p1) n0 3)).toNatClampNeg p2) n0 3)).toNatClampNeg p3) n0 3) + 1)) n0 3)) S (ob_K hn0) rfl gi_X2 (by decide) lf_X2_21 rfl dX2_addPanel_53 ?_
    refine g_iconst (v := 1) S dX2_addPanel_56 rfl ?_
    refine g_isub S dX2_addPanel_57 ?_
    exact g_iretM rt hf dX2_addPanel_58
  · refine g_bipush (v := (-3)) S dX2_addPanel_9 rfl ?_
    exact g_iretM rt hf dX2_addPanel_11
-- BridleBook$Kite.pressure(III)I
theorem dX2_pressure_0 : decode cX2_pressure 0 = .ok (.iload_n 0, 1) := by decide +kernel
theorem dX2_pressure_1 : decode cX2_pressure 1 = .ok (.iload_n 1, 1) := by decide +kernel
theorem dX2_pressure_2 : decode cX2_pressure 2 = .ok (.imul, 1) := by decide +kernel
theorem dX2_pressure_3 : decode cX2_pressure 3 = .ok (.iload_n 2, 1) := by decide +kernel
theorem dX2_pressure_4 : decode cX2_pressure 4 = .ok (.imul, 1) := by decide +kernel
theorem dX2_pressure_5 : decode cX2_pressure 5 = .ok (.iload_n 2, 1) := by decide +kernel
theorem dX2_pressure_6 : decode cX2_pressure 6 = .ok (.imul, 1) := by decide +kernel
theorem dX2_pressure_7 : decode cX2_pressure 7 = .ok (.sipush 1000, 3) := by decide +kernel
theorem dX2_pressure_10 : decode cX2_pressure 10 = .ok (.idiv, 1) := by decide +kernel
theorem dX2_pressure_11 : decode cX2_pressure 11 = .ok (.ireturn, 1) := by decide +kernel
def f_X2_pressure (z : Nat → Nat) (M : Mem) (p1 : Int32) (p2 : Int32) (p3 : Int32) : Option Int32 := some ((((p1 * p2) * p3) * p3) / 1000)
theorem c_X2_pressure {l : Launch} {G : GG} {a : AA} {M : Mem} {p1 : Int32} {p2 : Int32} {p3 : Int32} {r : Int32} (hf : f_X2_pressure a.1 M p1 p2 p3 = some r) : CtI l G a yX2_pressure cX2_pressure 3 .int (rmD 0) [.int p1, .int p2, .int p3] M r M := by
  refine ct_I (by decide) rfl rfl (own := RX2) (Nat.le_of_ble_eq_true rfl) (fun K hl hg S rt => ?_)
  subst hl; subst hg
  unfold f_X2_pressure at hf
  show Go K 3 a M 0 [(0, .int p1), (1, .int p2), (2, .int p3)] []
  refine g_iload_n 0 S dX2_pressure_0 rfl ?_
  refine g_iload_n 1 S dX2_pressure_1 rfl ?_
  refine g_imul S dX2_pressure_2 ?_
  refine g_iload_n 2 S dX2_pressure_3 rfl ?_
  refine g_imul S dX2_pressure_4 ?_
  refine g_iload_n 2 S dX2_pressure_5 rfl ?_
  refine g_imul S dX2_pressure_6 ?_
  refine g_sipush (v := 1000) S dX2_pressure_7 rfl ?_
  refine g_idiv S dX2_pressure_10 (by decide) ?_
  exact g_iretP rt hf dX2_pressure_11
-- BridleBook.isAngle(I)Z
theorem dX7_isAngle_0 : decode cX7_isAngle 0 = .ok (.iload_n 0, 1) := by decide +kernel
theorem dX7_isAngle_1 : decode cX7_isAngle 1 = .ok (.iconst 0, 1) := by decide +kernel
theorem dX7_isAngle_2 : decode cX7_isAngle 2 = .ok (.bipush 17, 2) := by decide +kernel
theorem dX7_isAngle_4 : decode cX7_isAngle 4 = .ok (.invokestatic 99, 3) := by decide +kernel
theorem dX7_isAngle_7 : decode cX7_isAngle 7 = .ok (.ireturn, 1) := by decide +kernel
def f_X7_isAngle (z : Nat → Nat) (M : Mem) (p1 : Int32) : Option Bool := bd1 (f_X7_within z M p1 0 17) (fun r1 => some r1)
theorem c_X7_isAngle {l : Launch} {G : GG} {a : AA} {M : Mem} {p1 : Int32} {r : Bool} (hf : f_X7_isAngle a.1 M p1 = some r) : CtI l G a yX7_isAngle cX7_isAngle 1 .boolean (rmD 1) [.int p1] M (b2i r) M := by
  refine ct_I (by decide) rfl (b2i_n _) (own := RX7) (Nat.le_of_ble_eq_true rfl) (fun K hl hg S rt => ?_)
  subst hl; subst hg
  unfold f_X7_isAngle at hf
  show Go K 1 a M 0 [(0, .int p1)] []
  refine g_iload_n 0 S dX7_isAngle_0 rfl ?_
  refine g_iconst (v := 0) S dX7_isAngle_1 rfl ?_
  refine g_bipush (v := 17) S dX7_isAngle_2 rfl ?_
  obtain ⟨r1, hr1, hf⟩ := bd1_some hf
  refine g_cSI (st := []) S ok_X7_within lk_X7_99 (c_X7_within hr1) rfl rfl ⟨by decide, by decide⟩ (rmD_z _) (Nat.le_of_ble_eq_true rfl) dX7_isAngle_4 ?_
  exact g_zretP rt hf dX7_isAngle_7 rfl
-- BridleBook$Tables.liftAt(I)I
theorem dX4_liftAt_0 : decode cX4_liftAt 0 = .ok (.iload_n 1, 1) := by decide +kernel
theorem dX4_liftAt_1 : decode cX4_liftAt 1 = .ok (.invokestatic 18, 3) := by decide +kernel
theorem dX4_liftAt_4 : decode cX4_liftAt 4 = .ok (.ifCond .eq 12, 3) := by decide +kernel
theorem dX4_liftAt_7 : decode cX4_liftAt 7 = .ok (.aload_n 0, 1) := by decide +kernel
theorem dX4_liftAt_8 : decode cX4_liftAt 8 = .ok (.getfield 9, 3) := by decide +kernel
theorem dX4_liftAt_11 : decode cX4_liftAt 11 = .ok (.iload_n 1, 1) := by decide +kernel
theorem dX4_liftAt_12 : decode cX4_liftAt 12 = .ok (.iaload, 1) := by decide +kernel
theorem dX4_liftAt_13 : decode cX4_liftAt 13 = .ok (.goto 4, 3) := by decide +kernel
theorem dX4_liftAt_16 : decode cX4_liftAt 16 = .ok (.iconst 0, 1) := by decide +kernel
theorem dX4_liftAt_17 : decode cX4_liftAt 17 = .ok (.ireturn, 1) := by decide +kernel
def f_X4_liftAt (z : Nat → Nat) (M : Mem) (p1 : Int32) : Option Int32 := bd1 (f_X7_isAngle z M p1) (fun r1 => if r1 = true then ck (inb p1 18) (some (M 70 (p1).toNatClampNeg)) else some 0)
theorem c_X4_liftAt {l : Launch} {G : GG} {a : AA} {M : Mem} {p1 : Int32} {r : Int32} (hf : f_X4_liftAt a.1 M p1 = some r) : CtI l G a yX4_liftAt cX4_liftAt 2 .int (rmD 2) [.ref (a.2 51), .int p1] M r M := by
  refine ct_I (by decide) rfl rfl (own := RX4) (Nat.le_of_ble_eq_true rfl) (fun K hl hg S rt => ?_)
  subst hl; subst hg
  unfold f_X4_liftAt at hf
  show Go K 2 a M 0 [(0, .ref (a.2 51)), (1, .int p1)] []
  refine g_iload_n 1 S dX4_liftAt_0 rfl ?_
  obtain ⟨r1, hr1, hf⟩ := bd1_some hf
  refine g_cNI (st := []) S ok_X7_isAngle ln_X4_18 (c_X7_isAngle hr1) rfl rfl ⟨by decide, by decide⟩ (rmD_z _) (Nat.le_of_ble_eq_true rfl) dX4_liftAt_1 ?_
  refine g_if_eqB (tgt := 16) S dX4_liftAt_4 (by decide) hf (fun c hf => ?_) (fun c hf => ?_)
  · refine g_aload_n 0 S dX4_liftAt_7 rfl ?_
    refine g_get (v := .ref (a.2 70)) S ob_51 rfl gi_X4 (by decide) lf_X4_9 rfl dX4_liftAt_8 ?_
    refine g_iload_n 1 S dX4_liftAt_11 rfl ?_
    refine g_iald S ia_70 dX4_liftAt_12 hf (fun hf => ?_)
    refine g_goto (tgt := 17) S dX4_liftAt_13 (by decide) ?_
    exact g_iretP rt hf dX4_liftAt_17
  · refine g_iconst (v := 0) S dX4_liftAt_16 rfl ?_
    exact g_iretP rt hf dX4_liftAt_17
-- BridleBook$Kite.upAt(LBridleBook$Tables;II)I
theorem dX2_upAt_0 : decode cX2_upAt 0 = .ok (.aload_n 1, 1) := by decide +kernel
theorem dX2_upAt_1 : decode cX2_upAt 1 = .ok (.iload_n 3, 1) := by decide +kernel
theorem dX2_upAt_2 : decode cX2_upAt 2 = .ok (.invokevirtual 34, 3) := by decide +kernel
theorem dX2_upAt_5 : decode cX2_upAt 5 = .ok (.istore 4, 2) := by decide +kernel
theorem dX2_upAt_7 : decode cX2_upAt 7 = .ok (.iconst 0, 1) := by decide +kernel
theorem dX2_upAt_8 : decode cX2_upAt 8 = .ok (.istore 5, 2) := by decide +kernel
theorem dX2_upAt_10 : decode cX2_upAt 10 = .ok (.iconst 0, 1) := by decide +kernel
theorem dX2_upAt_11 : decode cX2_upAt 11 = .ok (.istore 6, 2) := by decide +kernel
theorem dX2_upAt_13 : decode cX2_upAt 13 = .ok (.iload 6, 2) := by decide +kernel
theorem dX2_upAt_15 : decode cX2_upAt 15 = .ok (.aload_n 0, 1) := by decide +kernel
theorem dX2_upAt_16 : decode cX2_upAt 16 = .ok (.getfield 21, 3) := by decide +kernel
theorem dX2_upAt_19 : decode cX2_upAt 19 = .ok (.if_icmp .ge 35, 3) := by decide +kernel
theorem dX2_upAt_22 : decode cX2_upAt 22 = .ok (.iload 5, 2) := by decide +kernel
theorem dX2_upAt_24 : decode cX2_upAt 24 = .ok (.aload_n 0, 1) := by decide +kernel
theorem dX2_upAt_25 : decode cX2_upAt 25 = .ok (.getfield 9, 3) := by decide +kernel
theorem dX2_upAt_28 : decode cX2_upAt 28 = .ok (.iload 6, 2) := by decide +kernel
theorem dX2_upAt_30 : decode cX2_upAt 30 = .ok (.iaload, 1) := by decide +kernel
theorem dX2_upAt_31 : decode cX2_upAt 31 = .ok (.iload 4, 2) := by decide +kernel
theorem dX2_upAt_33 : decode cX2_upAt 33 = .ok (.iload_n 2, 1) := by decide +kernel
theorem dX2_upAt_34 : decode cX2_upAt 34 = .ok (.invokestatic 40, 3) := by decide +kernel
theorem dX2_upAt_37 : decode cX2_upAt 37 = .ok (.aload_n 0, 1) := by decide +kernel
theorem dX2_upAt_38 : decode cX2_upAt 38 = .ok (.getfield 18, 3) := by decide +kernel
theorem dX2_upAt_41 : decode cX2_upAt 41 = .ok (.iload 6, 2) := by decide +kernel
theorem dX2_upAt_43 : decode cX2_upAt 43 = .ok (.iaload, 1) := by decide +kernel
theorem dX2_upAt_44 : decode cX2_upAt 44 = .ok (.isub, 1) := by decide +kernel
theorem dX2_upAt_45 : decode cX2_upAt 45 = .ok (.iadd, 1) := by decide +kernel
theorem dX2_upAt_46 : decode cX2_upAt 46 = .ok (.istore 5, 2) := by decide +kernel
theorem dX2_upAt_48 : decode cX2_upAt 48 = .ok (.iinc 6 1, 3) := by decide +kernel
theorem dX2_upAt_51 : decode cX2_upAt 51 = .ok (.goto (-38), 3) := by decide +kernel
theorem dX2_upAt_54 : decode cX2_upAt 54 = .ok (.iload 5, 2) := by decide +kernel
theorem dX2_upAt_56 : decode cX2_upAt 56 = .ok (.ireturn, 1) := by decide +kernel
def f_X2_upAt_13 (z : Nat → Nat) (n0 : Nat) (M : Mem) : Nat → Int32 → Int32 → Int32 → Int32 → Option Int32
  | 0, _, _, _, _ => none
  | fu + 1, x2, x4, x5, x6 => if (M n0 3) ≤ x6 then some x5 else ck (inb x6 6) (bd1 (f_X2_pressure z M (M (n0 + 1) (x6).toNatClampNeg) x4 x2) (fun r2 => ck (inb x6 6) (f_X2_upAt_13 z n0 M fu x2 x4 (x5 + (r2 - (M (n0 + 3) (x6).toNatClampNeg))) (x6 + 1))))
theorem t_X2_upAt_13 {K : KK} {a : AA} {n0 : Nat} (hn0 : vK a.1 n0) (S : Sx K RX2 cX2_upAt 7 (rmD 3)) {r : Int32} {M : Mem} (rt : RtI K a cX2_upAt r M) : ∀ (fu : Nat) (x2 : Int32) (x4 : Int32) (x5 : Int32) (x6 : Int32), f_X2_upAt_13 a.1 n0 M fu x2 x4 x5 x6 = some r → Go K 7 a M 13 [(0, .ref (a.2 n0)), (2, .int x2), (4, .int x4), (5, .int x5), (6, .int x6)] [] := by
  intro fu
  induction fu with
  | zero => intro x2 x4 x5 x6 hf; exact absurd hf (by simp [f_X2_upAt_13])
  | succ fu ih =>
    intro x2 x4 x5 x6 hf
    rw [f_X2_upAt_13] at hf
    refine g_iload 4 S dX2_upAt_13 rfl ?_
    refine g_aload_n 0 S dX2_upAt_15 rfl ?_
    refine g_get (v := .int (M n0 3)) S (ob_K hn0) rfl gi_X2 (by decide) lf_X2_21 rfl dX2_upAt_16 ?_
    refine g_icmp_ge (tgt := 54) S dX2_upAt_19 (by decide) hf (fun c hf => ?_) (fun c hf => ?_)
    · refine g_iload 3 S dX2_upAt_54 rfl ?_
      exact g_iretP rt hf dX2_upAt_56
    · refine g_iload 3 S dX2_upAt_22 rfl ?_
      refine g_aload_n 0 S dX2_upAt_24 rfl ?_
      refine g_get (v := .ref (a.2 (n0 + 1))) S (ob_K hn0) rfl gi_X2 (by decide) lf_X2_9 rfl dX2_upAt_25 ?_
      refine g_iload 4 S dX2_upAt_28 rfl ?_
      refine g_iald S (ia_K1 hn0) dX2_upAt_30 hf (fun hf => ?_)
      refine g_iload 2 S dX2_upAt_31 rfl ?_
      refine g_iload_n 1 S dX2_upAt_33 rfl ?_
      obtain ⟨r2, hr2, hf⟩ := bd1_some hf
      refine g_cSI (st := [.int x5]) S ok_X2_pressure lk_X2_40 (c_X2_pressure hr2) rfl rfl ⟨by decide, by decide⟩ (rmD_z _) (Nat.le_of_ble_eq_true rfl) dX2_upAt_34 ?_
      refine g_aload_n 0 S dX2_upAt_37 rfl ?_
      refine g_get (v := .ref (a.2 (n0 + 3))) S (ob_K hn0) rfl gi_X2 (by decide) lf_X2_18 rfl dX2_upAt_38 ?_
      refine g_iload 4 S dX2_upAt_41 rfl ?_
      refine g_iald S (ia_K3 hn0) dX2_upAt_43 hf (fun hf => ?_)
      refine g_isub S dX2_upAt_44 ?_
      refine g_iadd S dX2_upAt_45 ?_
      refine g_istore (lv' := [(5, .int (x5 + (r2 - (M (n0 + 3) (x6).toNatClampNeg)))), (0, .ref (a.2 n0)), (2, .int x2), (4, .int x4), (6, .int x6)]) S dX2_upAt_46 (by decide) rfl ?_
      refine g_iinc (v := (x6 + 1)) (lv' := [(6, .int (x6 + 1)), (5, .int (x5 + (r2 - (M (n0 + 3) (x6).toNatClampNeg)))), (0, .ref (a.2 n0)), (2, .int x2), (4, .int x4)]) 4 S dX2_upAt_48 rfl rfl (by decide) rfl ?_
      refine g_goto (tgt := 13) S dX2_upAt_51 (by decide) ?_
      refine Go.sub [2, 3, 4, 1, 0] rfl ?_
      exact ih _ _ _ _ hf
def f_X2_upAt (z : Nat → Nat) (n0 : Nat) (M : Mem) (p2 : Int32) (p3 : Int32) : Option Int32 := bd1 (f_X4_liftAt z M p3) (fun r1 => f_X2_upAt_13 z n0 M 1000 p2 r1 0 0)
theorem c_X2_upAt {l : Launch} {G : GG} {a : AA} {n0 : Nat} (hn0 : vK a.1 n0) {M : Mem} {p2 : Int32} {p3 : Int32} {r : Int32} (hf : f_X2_upAt a.1 n0 M p2 p3 = some r) : CtI l G a yX2_upAt cX2_upAt 7 .int (rmD 3) [.ref (a.2 n0), .ref (a.2 51), .int p2, .int p3] M r M := by
  refine ct_I (by decide) rfl rfl (own := RX2) (Nat.le_of_ble_eq_true rfl) (fun K hl hg S rt => ?_)
  subst hl; subst hg
  unfold f_X2_upAt at hf
  show Go K 7 a M 0 [(0, .ref (a.2 n0)), (1, .ref (a.2 51)), (2, .int p2), (3, .int p3)] []
  refine g_aload_n 1 S dX2_upAt_0 rfl ?_
  refine g_iload_n 3 S dX2_upAt_1 rfl ?_
  obtain ⟨r1, hr1, hf⟩ := bd1_some hf
  refine g_cVI (st := []) S ob_51 rfl ok_X4_liftAt lk_X2_34 (c_X4_liftAt hr1) rfl rfl ⟨by decide, by decide⟩ (rmD_z _) (Nat.le_of_ble_eq_true rfl) dX2_upAt_2 ?_
  refine g_istore (lv' := [(4, .int r1), (0, .ref (a.2 n0)), (1, .ref (a.2 51)), (2, .int p2), (3, .int p3)]) S dX2_upAt_5 (by decide) rfl ?_
  refine g_iconst (v := 0) S dX2_upAt_7 rfl ?_
  refine g_istore (lv' := [(5, .int 0), (4, .int r1), (0, .ref (a.2 n0)), (1, .ref (a.2 51)), (2, .int p2), (3, .int p3)]) S dX2_upAt_8 (by decide) rfl ?_
  refine g_iconst (v := 0) S dX2_upAt_10 rfl ?_
  refine g_istore (lv' := [(6, .int 0), (5, .int 0), (4, .int r1), (0, .ref (a.2 n0)), (1, .ref (a.2 51)), (2, .int p2), (3, .int p3)]) S dX2_upAt_11 (by decide) rfl ?_
  refine Go.sub [3, 5, 2, 1, 0] rfl ?_
  exact t_X2_upAt_13 hn0 S rt 1000 _ _ _ _ hf
-- BridleBook$Tables.dragAt(I)I
theorem dX4_dragAt_0 : decode cX4_dragAt 0 = .ok (.iload_n 1, 1) := by decide +kernel
theorem dX4_dragAt_1 : decode cX4_dragAt 1 = .ok (.invokestatic 18, 3) := by decide +kernel
theorem dX4_dragAt_4 : decode cX4_dragAt 4 = .ok (.ifCond .eq 12, 3) := by decide +kernel
theorem dX4_dragAt_7 : decode cX4_dragAt 7 = .ok (.aload_n 0, 1) := by decide +kernel
theorem dX4_dragAt_8 : decode cX4_dragAt 8 = .ok (.getfield 15, 3) := by decide +kernel
theorem dX4_dragAt_11 : decode cX4_dragAt 11 = .ok (.iload_n 1, 1) := by decide +kernel
theorem dX4_dragAt_12 : decode cX4_dragAt 12 = .ok (.iaload, 1) := by decide +kernel
theorem dX4_dragAt_13 : decode cX4_dragAt 13 = .ok (.goto 4, 3) := by decide +kernel
theorem dX4_dragAt_16 : decode cX4_dragAt 16 = .ok (.iconst 0, 1) := by decide +kernel
theorem dX4_dragAt_17 : decode cX4_dragAt 17 = .ok (.ireturn, 1) := by decide +kernel
def f_X4_dragAt (z : Nat → Nat) (M : Mem) (p1 : Int32) : Option Int32 := bd1 (f_X7_isAngle z M p1) (fun r1 => if r1 = true then ck (inb p1 18) (some (M 71 (p1).toNatClampNeg)) else some 0)
theorem c_X4_dragAt {l : Launch} {G : GG} {a : AA} {M : Mem} {p1 : Int32} {r : Int32} (hf : f_X4_dragAt a.1 M p1 = some r) : CtI l G a yX4_dragAt cX4_dragAt 2 .int (rmD 2) [.ref (a.2 51), .int p1] M r M := by
  refine ct_I (by decide) rfl rfl (own := RX4) (Nat.le_of_ble_eq_true rfl) (fun K hl hg S rt => ?_)
  subst hl; subst hg
  unfold f_X4_dragAt at hf
  show Go K 2 a M 0 [(0, .ref (a.2 51)), (1, .int p1)] []
  refine g_iload_n 1 S dX4_dragAt_0 rfl ?_
  obtain ⟨r1, hr1, hf⟩ := bd1_some hf
  refine g_cNI (st := []) S ok_X7_isAngle ln_X4_18 (c_X7_isAngle hr1) rfl rfl ⟨by decide, by decide⟩ (rmD_z _) (Nat.le_of_ble_eq_true rfl) dX4_dragAt_1 ?_
  refine g_if_eqB (tgt := 16) S dX4_dragAt_4 (by decide) hf (fun c hf => ?_) (fun c hf => ?_)
  · refine g_aload_n 0 S dX4_dragAt_7 rfl ?_
    refine g_get (v := .ref (a.2 71)) S ob_51 rfl gi_X4 (by decide) lf_X4_15 rfl dX4_dragAt_8 ?_
    refine g_iload_n 1 S dX4_dragAt_11 rfl ?_
    refine g_iald S ia_71 dX4_dragAt_12 hf (fun hf => ?_)
    refine g_goto (tgt := 17) S dX4_dragAt_13 (by decide) ?_
    exact g_iretP rt hf dX4_dragAt_17
  · refine g_iconst (v := 0) S dX4_dragAt_16 rfl ?_
    exact g_iretP rt hf dX4_dragAt_17
-- BridleBook$Kite.backAt(LBridleBook$Tables;II)I
theorem dX2_backAt_0 : decode cX2_backAt 0 = .ok (.aload_n 1, 1) := by decide +kernel
theorem dX2_backAt_1 : decode cX2_backAt 1 = .ok (.iload_n 3, 1) := by decide +kernel
theorem dX2_backAt_2 : decode cX2_backAt 2 = .ok (.invokevirtual 44, 3) := by decide +kernel
theorem dX2_backAt_5 : decode cX2_backAt 5 = .ok (.istore 4, 2) := by decide +kernel
theorem dX2_backAt_7 : decode cX2_backAt 7 = .ok (.iconst 0, 1) := by decide +kernel
theorem dX2_backAt_8 : decode cX2_backAt 8 = .ok (.istore 5, 2) := by decide +kernel
theorem dX2_backAt_10 : decode cX2_backAt 10 = .ok (.iconst 0, 1) := by decide +kernel
theorem dX2_backAt_11 : decode cX2_backAt 11 = .ok (.istore 6, 2) := by decide +kernel
theorem dX2_backAt_13 : decode cX2_backAt 13 = .ok (.iload 6, 2) := by decide +kernel
theorem dX2_backAt_15 : decode cX2_backAt 15 = .ok (.aload_n 0, 1) := by decide +kernel
theorem dX2_backAt_16 : decode cX2_backAt 16 = .ok (.getfield 21, 3) := by decide +kernel
theorem dX2_backAt_19 : decode cX2_backAt 19 = .ok (.if_icmp .ge 27, 3) := by decide +kernel
theorem dX2_backAt_22 : decode cX2_backAt 22 = .ok (.iload 5, 2) := by decide +kernel
theorem dX2_backAt_24 : decode cX2_backAt 24 = .ok (.aload_n 0, 1) := by decide +kernel
theorem dX2_backAt_25 : decode cX2_backAt 25 = .ok (.getfield 9, 3) := by decide +kernel
theorem dX2_backAt_28 : decode cX2_backAt 28 = .ok (.iload 6, 2) := by decide +kernel
theorem dX2_backAt_30 : decode cX2_backAt 30 = .ok (.iaload, 1) := by decide +kernel
theorem dX2_backAt_31 : decode cX2_backAt 31 = .ok (.iload 4, 2) := by decide +kernel
theorem dX2_backAt_33 : decode cX2_backAt 33 = .ok (.iload_n 2, 1) := by decide +kernel
theorem dX2_backAt_34 : decode cX2_backAt 34 = .ok (.invokestatic 40, 3) := by decide +kernel
theorem dX2_backAt_37 : decode cX2_backAt 37 = .ok (.iadd, 1) := by decide +kernel
theorem dX2_backAt_38 : decode cX2_backAt 38 = .ok (.istore 5, 2) := by decide +kernel
theorem dX2_backAt_40 : decode cX2_backAt 40 = .ok (.iinc 6 1, 3) := by decide +kernel
theorem dX2_backAt_43 : decode cX2_backAt 43 = .ok (.goto (-30), 3) := by decide +kernel
theorem dX2_backAt_46 : decode cX2_backAt 46 = .ok (.iload 5, 2) := by decide +kernel
theorem dX2_backAt_48 : decode cX2_backAt 48 = .ok (.ireturn, 1) := by decide +kernel
def f_X2_backAt_13 (z : Nat → Nat) (n0 : Nat) (M : Mem) : Nat → Int32 → Int32 → Int32 → Int32 → Option Int32
  | 0, _, _, _, _ => none
  | fu + 1, x2, x4, x5, x6 => if (M n0 3) ≤ x6 then some x5 else ck (inb x6 6) (bd1 (f_X2_pressure z M (M (n0 + 1) (x6).toNatClampNeg) x4 x2) (fun r2 => f_X2_backAt_13 z n0 M fu x2 x4 (x5 + r2) (x6 + 1)))
theorem t_X2_backAt_13 {K : KK} {a : AA} {n0 : Nat} (hn0 : vK a.1 n0) (S : Sx K RX2 cX2_backAt 7 (rmD 3)) {r : Int32} {M : Mem} (rt : RtI K a cX2_backAt r M) : ∀ (fu : Nat) (x2 : Int32) (x4 : Int32) (x5 : Int32) (x6 : Int32), f_X2_backAt_13 a.1 n0 M fu x2 x4 x5 x6 = some r → Go K 7 a M 13 [(0, .ref (a.2 n0)), (2, .int x2), (4, .int x4), (5, .int x5), (6, .int x6)] [] := by
  intro fu
  induction fu with
  | zero => intro x2 x4 x5 x6 hf; exact absurd hf (by simp [f_X2_backAt_13])
  | succ fu ih =>
    intro x2 x4 x5 x6 hf
    rw [f_X2_backAt_13] at hf
    refine g_iload 4 S dX2_backAt_13 rfl ?_
    refine g_aload_n 0 S dX2_backAt_15 rfl ?_
    refine g_get (v := .int (M n0 3)) S (ob_K hn0) rfl gi_X2 (by decide) lf_X2_21 rfl dX2_backAt_16 ?_
    refine g_icmp_ge (tgt := 46) S dX2_backAt_19 (by decide) hf (fun c hf => ?_) (fun c hf => ?_)
    · refine g_iload 3 S dX2_backAt_46 rfl ?_
      exact g_iretP rt hf dX2_backAt_48
    · refine g_iload 3 S dX2_backAt_22 rfl ?_
      refine g_aload_n 0 S dX2_backAt_24 rfl ?_
      refine g_get (v := .ref (a.2 (n0 + 1))) S (ob_K hn0) rfl gi_X2 (by decide) lf_X2_9 rfl dX2_backAt_25 ?_
      refine g_iload 4 S dX2_backAt_28 rfl ?_
      refine g_iald S (ia_K1 hn0) dX2_backAt_30 hf (fun hf => ?_)
      refine g_iload 2 S dX2_backAt_31 rfl ?_
      refine g_iload_n 1 S dX2_backAt_33 rfl ?_
      obtain ⟨r2, hr2, hf⟩ := bd1_some hf
      refine g_cSI (st := [.int x5]) S ok_X2_pressure lk_X2_40 (c_X2_pressure hr2) rfl rfl ⟨by decide, by decide⟩ (rmD_z _) (Nat.le_of_ble_eq_true rfl) dX2_backAt_34 ?_
      refine g_iadd S dX2_backAt_37 ?_
      refine g_istore (lv' := [(5, .int (x5 + r2)), (0, .ref (a.2 n0)), (2, .int x2), (4, .int x4), (6, .int x6)]) S dX2_backAt_38 (by decide) rfl ?_
      refine g_iinc (v := (x6 + 1)) (lv' := [(6, .int (x6 + 1)), (5, .int (x5 + r2)), (0, .ref (a.2 n0)), (2, .int x2), (4, .int x4)]) 4 S dX2_backAt_40 rfl rfl (by decide) rfl ?_
      refine g_goto (tgt := 13) S dX2_backAt_43 (by decide) ?_
      refine Go.sub [2, 3, 4, 1, 0] rfl ?_
      exact ih _ _ _ _ hf
def f_X2_backAt (z : Nat → Nat) (n0 : Nat) (M : Mem) (p2 : Int32) (p3 : Int32) : Option Int32 := bd1 (f_X4_dragAt z M p3) (fun r1 => f_X2_backAt_13 z n0 M 1000 p2 r1 0 0)
theorem c_X2_backAt {l : Launch} {G : GG} {a : AA} {n0 : Nat} (hn0 : vK a.1 n0) {M : Mem} {p2 : Int32} {p3 : Int32} {r : Int32} (hf : f_X2_backAt a.1 n0 M p2 p3 = some r) : CtI l G a yX2_backAt cX2_backAt 7 .int (rmD 3) [.ref (a.2 n0), .ref (a.2 51), .int p2, .int p3] M r M := by
  refine ct_I (by decide) rfl rfl (own := RX2) (Nat.le_of_ble_eq_true rfl) (fun K hl hg S rt => ?_)
  subst hl; subst hg
  unfold f_X2_backAt at hf
  show Go K 7 a M 0 [(0, .ref (a.2 n0)), (1, .ref (a.2 51)), (2, .int p2), (3, .int p3)] []
  refine g_aload_n 1 S dX2_backAt_0 rfl ?_
  refine g_iload_n 3 S dX2_backAt_1 rfl ?_
  obtain ⟨r1, hr1, hf⟩ := bd1_some hf
  refine g_cVI (st := []) S ob_51 rfl ok_X4_dragAt lk_X2_44 (c_X4_dragAt hr1) rfl rfl ⟨by decide, by decide⟩ (rmD_z _) (Nat.le_of_ble_eq_true rfl) dX2_backAt_2 ?_
  refine g_istore (lv' := [(4, .int r1), (0, .ref (a.2 n0)), (1, .ref (a.2 51)), (2, .int p2), (3, .int p3)]) S dX2_backAt_5 (by decide) rfl ?_
  refine g_iconst (v := 0) S dX2_backAt_7 rfl ?_
  refine g_istore (lv' := [(5, .int 0), (4, .int r1), (0, .ref (a.2 n0)), (1, .ref (a.2 51)), (2, .int p2), (3, .int p3)]) S dX2_backAt_8 (by decide) rfl ?_
  refine g_iconst (v := 0) S dX2_backAt_10 rfl ?_
  refine g_istore (lv' := [(6, .int 0), (5, .int 0), (4, .int r1), (0, .ref (a.2 n0)), (1, .ref (a.2 51)), (2, .int p2), (3, .int p3)]) S dX2_backAt_11 (by decide) rfl ?_
  refine Go.sub [3, 5, 2, 1, 0] rfl ?_
  exact t_X2_backAt_13 hn0 S rt 1000 _ _ _ _ hf
-- BridleBook$Kite.turningAt(LBridleBook$Tables;III)I
theorem dX2_turningAt_0 : decode cX2_turningAt 0 = .ok (.aload_n 1, 1) := by decide +kernel
theorem dX2_turningAt_1 : decode cX2_turningAt 1 = .ok (.iload_n 3, 1) := by decide +kernel
theorem dX2_turningAt_2 : decode cX2_turningAt 2 = .ok (.invokevirtual 34, 3) := by decide +kernel
theorem dX2_turningAt_5 : decode cX2_turningAt 5 = .ok (.istore 5, 2) := by decide +kernel
theorem dX2_turningAt_7 : decode cX2_turningAt 7 = .ok (.iconst 0, 1) := by decide +kernel
theorem dX2_turningAt_8 : decode cX2_turningAt 8 = .ok (.istore 6, 2) := by decide +kernel
theorem dX2_turningAt_10 : decode cX2_turningAt 10 = .ok (.iconst 0, 1) := by decide +kernel
theorem dX2_turningAt_11 : decode cX2_turningAt 11 = .ok (.istore 7, 2) := by decide +kernel
theorem dX2_turningAt_13 : decode cX2_turningAt 13 = .ok (.iload 7, 2) := by decide +kernel
theorem dX2_turningAt_15 : decode cX2_turningAt 15 = .ok (.aload_n 0, 1) := by decide +kernel
theorem dX2_turningAt_16 : decode cX2_turningAt 16 = .ok (.getfield 21, 3) := by decide +kernel
theorem dX2_turningAt_19 : decode cX2_turningAt 19 = .ok (.if_icmp .ge 46, 3) := by decide +kernel
theorem dX2_turningAt_22 : decode cX2_turningAt 22 = .ok (.iload 6, 2) := by decide +kernel
theorem dX2_turningAt_24 : decode cX2_turningAt 24 = .ok (.aload_n 0, 1) := by decide +kernel
theorem dX2_turningAt_25 : decode cX2_turningAt 25 = .ok (.getfield 9, 3) := by decide +kernel
theorem dX2_turningAt_28 : decode cX2_turningAt 28 = .ok (.iload 7, 2) := by decide +kernel
theorem dX2_turningAt_30 : decode cX2_turningAt 30 = .ok (.iaload, 1) := by decide +kernel
theorem dX2_turningAt_31 : decode cX2_turningAt 31 = .ok (.iload 5, 2) := by decide +kernel
theorem dX2_turningAt_33 : decode cX2_turningAt 33 = .ok (.iload_n 2, 1) := by decide +kernel
theorem dX2_turningAt_34 : decode cX2_turningAt 34 = .ok (.invokestatic 40, 3) := by decide +kernel
theorem dX2_turningAt_37 : decode cX2_turningAt 37 = .ok (.aload_n 0, 1) := by decide +kernel
theorem dX2_turningAt_38 : decode cX2_turningAt 38 = .ok (.getfield 18, 3) := by decide +kernel
theorem dX2_turningAt_41 : decode cX2_turningAt 41 = .ok (.iload 7, 2) := by decide +kernel
theorem dX2_turningAt_43 : decode cX2_turningAt 43 = .ok (.iaload, 1) := by decide +kernel
theorem dX2_turningAt_44 : decode cX2_turningAt 44 = .ok (.isub, 1) := by decide +kernel
theorem dX2_turningAt_45 : decode cX2_turningAt 45 = .ok (.aload_n 0, 1) := by decide +kernel
theorem dX2_turningAt_46 : decode cX2_turningAt 46 = .ok (.getfield 15, 3) := by decide +kernel
theorem dX2_turningAt_49 : decode cX2_turningAt 49 = .ok (.iload 7, 2) := by decide +kernel
theorem dX2_turningAt_51 : decode cX2_turningAt 51 = .ok (.iaload, 1) := by decide +kernel
theorem dX2_turningAt_52 : decode cX2_turningAt 52 = .ok (.iload 4, 2) := by decide +kernel
theorem dX2_turningAt_54 : decode cX2_turningAt 54 = .ok (.isub, 1) := by decide +kernel
theorem dX2_turningAt_55 : decode cX2_turningAt 55 = .ok (.imul, 1) := by decide +kernel
theorem dX2_turningAt_56 : decode cX2_turningAt 56 = .ok (.iadd, 1) := by decide +kernel
theorem dX2_turningAt_57 : decode cX2_turningAt 57 = .ok (.istore 6, 2) := by decide +kernel
theorem dX2_turningAt_59 : decode cX2_turningAt 59 = .ok (.iinc 7 1, 3) := by decide +kernel
theorem dX2_turningAt_62 : decode cX2_turningAt 62 = .ok (.goto (-49), 3) := by decide +kernel
theorem dX2_turningAt_65 : decode cX2_turningAt 65 = .ok (.iload 6, 2) := by decide +kernel
theorem dX2_turningAt_67 : decode cX2_turningAt 67 = .ok (.ireturn, 1) := by decide +kernel
def f_X2_turningAt_13 (z : Nat → Nat) (n0 : Nat) (M : Mem) : Nat → Int32 → Int32 → Int32 → Int32 → Int32 → Option Int32
  | 0, _, _, _, _, _ => none
  | fu + 1, x2, x4, x5, x6, x7 => if (M n0 3) ≤ x7 then some x6 else ck (inb x7 6) (bd1 (f_X2_pressure z M (M (n0 + 1) (x7).toNatClampNeg) x5 x2) (fun r2 => ck (inb x7 6) (ck (inb x7 6) (f_X2_turningAt_13 z n0 M fu x2 x4 x5 (x6 + ((r2 - (M (n0 + 3) (x7).toNatClampNeg)) * ((M (n0 + 2) (x7).toNatClampNeg) - x4))) (x7 + 1)))))
theorem t_X2_turningAt_13 {K : KK} {a : AA} {n0 : Nat} (hn0 : vK a.1 n0) (S : Sx K RX2 cX2_turningAt 8 (rmD 3)) {r : Int32} {M : Mem} (rt : RtI K a cX2_turningAt r M) : ∀ (fu : Nat) (x2 : Int32) (x4 : Int32) (x5 : Int32) (x6 : Int32) (x7 : Int32), f_X2_turningAt_13 a.1 n0 M fu x2 x4 x5 x6 x7 = some r → Go K 8 a M 13 [(0, .ref (a.2 n0)), (2, .int x2), (4, .int x4), (5, .int x5), (6, .int x6), (7, .int x7)] [] := by
  intro fu
  induction fu with
  | zero => intro x2 x4 x5 x6 x7 hf; exact absurd hf (by simp [f_X2_turningAt_13])
  | succ fu ih =>
    intro x2 x4 x5 x6 x7 hf
    rw [f_X2_turningAt_13] at hf
    refine g_iload 5 S dX2_turningAt_13 rfl ?_
    refine g_aload_n 0 S dX2_turningAt_15 rfl ?_
    refine g_get (v := .int (M n0 3)) S (ob_K hn0) rfl gi_X2 (by decide) lf_X2_21 rfl dX2_turningAt_16 ?_
    refine g_icmp_ge (tgt := 65) S dX2_turningAt_19 (by decide) hf (fun c hf => ?_) (fun c hf => ?_)
    · refine g_iload 4 S dX2_turningAt_65 rfl ?_
      exact g_iretP rt hf dX2_turningAt_67
    · refine g_iload 4 S dX2_turningAt_22 rfl ?_
      refine g_aload_n 0 S dX2_turningAt_24 rfl ?_
      refine g_get (v := .ref (a.2 (n0 + 1))) S (ob_K hn0) rfl gi_X2 (by decide) lf_X2_9 rfl dX2_turningAt_25 ?_
      refine g_iload 5 S dX2_turningAt_28 rfl ?_
      refine g_iald S (ia_K1 hn0) dX2_turningAt_30 hf (fun hf => ?_)
      refine g_iload 3 S dX2_turningAt_31 rfl ?_
      refine g_iload_n 1 S dX2_turningAt_33 rfl ?_
      obtain ⟨r2, hr2, hf⟩ := bd1_some hf
      refine g_cSI (st := [.int x6]) S ok_X2_pressure lk_X2_40 (c_X2_pressure hr2) rfl rfl ⟨by decide, by decide⟩ (rmD_z _) (Nat.le_of_ble_eq_true rfl) dX2_turningAt_34 ?_
      refine g_aload_n 0 S dX2_turningAt_37 rfl ?_
      refine g_get (v := .ref (a.2 (n0 + 3))) S (ob_K hn0) rfl gi_X2 (by decide) lf_X2_18 rfl dX2_turningAt_38 ?_
      refine g_iload 5 S dX2_turningAt_41 rfl ?_
      refine g_iald S (ia_K3 hn0) dX2_turningAt_43 hf (fun hf => ?_)
      refine g_isub S dX2_turningAt_44 ?_
      refine g_aload_n 0 S dX2_turningAt_45 rfl ?_
      refine g_get (v := .ref (a.2 (n0 + 2))) S (ob_K hn0) rfl gi_X2 (by decide) lf_X2_15 rfl dX2_turningAt_46 ?_
      refine g_iload 5 S dX2_turningAt_49 rfl ?_
      refine g_iald S (ia_K2 hn0) dX2_turningAt_51 hf (fun hf => ?_)
      refine g_iload 2 S dX2_turningAt_52 rfl ?_
      refine g_isub S dX2_turningAt_54 ?_
      refine g_imul S dX2_turningAt_55 ?_
      refine g_iadd S dX2_turningAt_56 ?_
      refine g_istore (lv' := [(6, .int (x6 + ((r2 - (M (n0 + 3) (x7).toNatClampNeg)) * ((M (n0 + 2) (x7).toNatClampNeg) - x4)))), (0, .ref (a.2 n0)), (2, .int x2), (4, .int x4), (5, .int x5), (7, .int x7)]) S dX2_turningAt_57 (by decide) rfl ?_
      refine g_iinc (v := (x7 + 1)) (lv' := [(7, .int (x7 + 1)), (6, .int (x6 + ((r2 - (M (n0 + 3) (x7).toNatClampNeg)) * ((M (n0 + 2) (x7).toNatClampNeg) - x4)))), (0, .ref (a.2 n0)), (2, .int x2), (4, .int x4), (5, .int x5)]) 5 S dX2_turningAt_59 rfl rfl (by decide) rfl ?_
      refine g_goto (tgt := 13) S dX2_turningAt_62 (by decide) ?_
      refine Go.sub [2, 3, 4, 5, 1, 0] rfl ?_
      exact ih _ _ _ _ _ hf
def f_X2_turningAt (z : Nat → Nat) (n0 : Nat) (M : Mem) (p2 : Int32) (p3 : Int32) (p4 : Int32) : Option Int32 := bd1 (f_X4_liftAt z M p3) (fun r1 => f_X2_turningAt_13 z n0 M 1000 p2 p4 r1 0 0)
theorem c_X2_turningAt {l : Launch} {G : GG} {a : AA} {n0 : Nat} (hn0 : vK a.1 n0) {M : Mem} {p2 : Int32} {p3 : Int32} {p4 : Int32} {r : Int32} (hf : f_X2_turningAt a.1 n0 M p2 p3 p4 = some r) : CtI l G a yX2_turningAt cX2_turningAt 8 .int (rmD 3) [.ref (a.2 n0), .ref (a.2 51), .int p2, .int p3, .int p4] M r M := by
  refine ct_I (by decide) rfl rfl (own := RX2) (Nat.le_of_ble_eq_true rfl) (fun K hl hg S rt => ?_)
  subst hl; subst hg
  unfold f_X2_turningAt at hf
  show Go K 8 a M 0 [(0, .ref (a.2 n0)), (1, .ref (a.2 51)), (2, .int p2), (3, .int p3), (4, .int p4)] []
  refine g_aload_n 1 S dX2_turningAt_0 rfl ?_
  refine g_iload_n 3 S dX2_turningAt_1 rfl ?_
  obtain ⟨r1, hr1, hf⟩ := bd1_some hf
  refine g_cVI (st := []) S ob_51 rfl ok_X4_liftAt lk_X2_34 (c_X4_liftAt hr1) rfl rfl ⟨by decide, by decide⟩ (rmD_z _) (Nat.le_of_ble_eq_true rfl) dX2_turningAt_2 ?_
  refine g_istore (lv' := [(5, .int r1), (0, .ref (a.2 n0)), (1, .ref (a.2 51)), (2, .int p2), (3, .int p3), (4, .int p4)]) S dX2_turningAt_5 (by decide) rfl ?_
  refine g_iconst (v := 0) S dX2_turningAt_7 rfl ?_
  refine g_istore (lv' := [(6, .int 0), (5, .int r1), (0, .ref (a.2 n0)), (1, .ref (a.2 51)), (2, .int p2), (3, .int p3), (4, .int p4)]) S dX2_turningAt_8 (by decide) rfl ?_
  refine g_iconst (v := 0) S dX2_turningAt_10 rfl ?_
  refine g_istore (lv' := [(7, .int 0), (6, .int 0), (5, .int r1), (0, .ref (a.2 n0)), (1, .ref (a.2 51)), (2, .int p2), (3, .int p3), (4, .int p4)]) S dX2_turningAt_11 (by decide) rfl ?_
  refine Go.sub [3, 5, 7, 2, 1, 0] rfl ?_
  exact t_X2_turningAt_13 hn0 S rt 1000 _ _ _ _ _ hf
-- BridleBook$Kite.standingAngle(LBridleBook$Tables;II)I
theorem dX2_standingAngle_0 : decode cX2_standingAngle 0 = .ok (.aload_n 0, 1) := by decide +kernel
theorem dX2_standingAngle_1 : decode cX2_standingAngle 1 = .ok (.getfield 21, 3) := by decide +kernel
theorem dX2_standingAngle_4 : decode cX2_standingAngle 4 = .ok (.ifCond .ne 6, 3) := by decide +kernel
theorem dX2_standingAngle_7 : decode cX2_standingAngle 7 = .ok (.bipush (-2), 2) := by decide +kernel
theorem dX2_standingAngle_9 : decode cX2_standingAngle 9 = .ok (.ireturn, 1) := by decide +kernel
theorem dX2_standingAngle_10 : decode cX2_standingAngle 10 = .ok (.aload_n 0, 1) := by decide +kernel
theorem dX2_standingAngle_11 : decode cX2_standingAngle 11 = .ok (.aload_n 1, 1) := by decide +kernel
theorem dX2_standingAngle_12 : decode cX2_standingAngle 12 = .ok (.iload_n 2, 1) := by decide +kernel
theorem dX2_standingAngle_13 : decode cX2_standingAngle 13 = .ok (.iconst 0, 1) := by decide +kernel
theorem dX2_standingAngle_14 : decode cX2_standingAngle 14 = .ok (.iload_n 3, 1) := by decide +kernel
theorem dX2_standingAngle_15 : decode cX2_standingAngle 15 = .ok (.invokevirtual 47, 3) := by decide +kernel
theorem dX2_standingAngle_18 : decode cX2_standingAngle 18 = .ok (.istore 4, 2) := by decide +kernel
theorem dX2_standingAngle_20 : decode cX2_standingAngle 20 = .ok (.iconst 0, 1) := by decide +kernel
theorem dX2_standingAngle_21 : decode cX2_standingAngle 21 = .ok (.istore 5, 2) := by decide +kernel
theorem dX2_standingAngle_23 : decode cX2_standingAngle 23 = .ok (.iload 5, 2) := by decide +kernel
theorem dX2_standingAngle_25 : decode cX2_standingAngle 25 = .ok (.bipush 17, 2) := by decide +kernel
theorem dX2_standingAngle_27 : decode cX2_standingAngle 27 = .ok (.if_icmp .ge 54, 3) := by decide +kernel
theorem dX2_standingAngle_30 : decode cX2_standingAngle 30 = .ok (.aload_n 0, 1) := by decide +kernel
theorem dX2_standingAngle_31 : decode cX2_standingAngle 31 = .ok (.aload_n 1, 1) := by decide +kernel
theorem dX2_standingAngle_32 : decode cX2_standingAngle 32 = .ok (.iload_n 2, 1) := by decide +kernel
theorem dX2_standingAngle_33 : decode cX2_standingAngle 33 = .ok (.iload 5, 2) := by decide +kernel
theorem dX2_standingAngle_35 : decode cX2_standingAngle 35 = .ok (.iconst 1, 1) := by decide +kernel
theorem dX2_standingAngle_36 : decode cX2_standingAngle 36 = .ok (.iadd, 1) := by decide +kernel
theorem dX2_standingAngle_37 : decode cX2_standingAngle 37 = .ok (.iload_n 3, 1) := by decide +kernel
theorem dX2_standingAngle_38 : decode cX2_standingAngle 38 = .ok (.invokevirtual 47, 3) := by decide +kernel
theorem dX2_standingAngle_41 : decode cX2_standingAngle 41 = .ok (.istore 6, 2) := by decide +kernel
theorem dX2_standingAngle_43 : decode cX2_standingAngle 43 = .ok (.iload 4, 2) := by decide +kernel
theorem dX2_standingAngle_45 : decode cX2_standingAngle 45 = .ok (.ifCond .eq 23, 3) := by decide +kernel
theorem dX2_standingAngle_48 : decode cX2_standingAngle 48 = .ok (.iload 4, 2) := by decide +kernel
theorem dX2_standingAngle_50 : decode cX2_standingAngle 50 = .ok (.ifCond .le 8, 3) := by decide +kernel
theorem dX2_standingAngle_53 : decode cX2_standingAngle 53 = .ok (.iload 6, 2) := by decide +kernel
theorem dX2_standingAngle_55 : decode cX2_standingAngle 55 = .ok (.ifCond .lt 13, 3) := by decide +kernel
theorem dX2_standingAngle_58 : decode cX2_standingAngle 58 = .ok (.iload 4, 2) := by decide +kernel
theorem dX2_standingAngle_60 : decode cX2_standingAngle 60 = .ok (.ifCond .ge 11, 3) := by decide +kernel
theorem dX2_standingAngle_63 : decode cX2_standingAngle 63 = .ok (.iload 6, 2) := by decide +kernel
theorem dX2_standingAngle_65 : decode cX2_standingAngle 65 = .ok (.ifCond .le 6, 3) := by decide +kernel
theorem dX2_standingAngle_68 : decode cX2_standingAngle 68 = .ok (.iload 5, 2) := by decide +kernel
theorem dX2_standingAngle_70 : decode cX2_standingAngle 70 = .ok (.ireturn, 1) := by decide +kernel
theorem dX2_standingAngle_71 : decode cX2_standingAngle 71 = .ok (.iload 6, 2) := by decide +kernel
theorem dX2_standingAngle_73 : decode cX2_standingAngle 73 = .ok (.istore 4, 2) := by decide +kernel
theorem dX2_standingAngle_75 : decode cX2_standingAngle 75 = .ok (.iinc 5 1, 3) := by decide +kernel
theorem dX2_standingAngle_78 : decode cX2_standingAngle 78 = .ok (.goto (-55), 3) := by decide +kernel
theorem dX2_standingAngle_81 : decode cX2_standingAngle 81 = .ok (.iload 4, 2) := by decide +kernel
theorem dX2_standingAngle_83 : decode cX2_standingAngle 83 = .ok (.ifCond .ne 8, 3) := by decide +kernel
theorem dX2_standingAngle_86 : decode cX2_standingAngle 86 = .ok (.bipush 17, 2) := by decide +kernel
theorem dX2_standingAngle_88 : decode cX2_standingAngle 88 = .ok (.goto 5, 3) := by decide +kernel
theorem dX2_standingAngle_91 : decode cX2_standingAngle 91 = .ok (.bipush (-2), 2) := by decide +kernel
theorem dX2_standingAngle_93 : decode cX2_standingAngle 93 = .ok (.ireturn, 1) := by decide +kernel
def f_X2_standingAngle_23 (z : Nat → Nat) (n0 : Nat) (M : Mem) : Nat → Int32 → Int32 → Int32 → Int32 → Option Int32
  | 0, _, _, _, _ => none
  | fu + 1, x2, x3, x4, x5 => if 17 ≤ x5 then if x4 = 0 then some 17 else some (-2) else bd1 (f_X2_turningAt z n0 M x2 (x5 + 1) x3) (fun r2 => if x4 = 0 then some x5 else if x4 ≤ 0 then if 0 ≤ x4 then f_X2_standingAngle_23 z n0 M fu x2 x3 r2 (x5 + 1) else if r2 ≤ 0 then f_X2_standingAngle_23 z n0 M fu x2 x3 r2 (x5 + 1) else some x5 else if r2 < 0 then some x5 else if 0 ≤ x4 then f_X2_standingAngle_23 z n0 M fu x2 x3 r2 (x5 + 1) else if r2 ≤ 0 then f_X2_standingAngle_23 z n0 M fu x2 x3 r2 (x5 + 1) else some x5)
theorem t_X2_standingAngle_23 {K : KK} {a : AA} {n0 : Nat} (hn0 : vK a.1 n0) (S : Sx K RX2 cX2_standingAngle 7 (rmD 4)) {r : Int32} {M : Mem} (rt : RtI K a cX2_standingAngle r M) : ∀ (fu : Nat) (x2 : Int32) (x3 : Int32) (x4 : Int32) (x5 : Int32), f_X2_standingAngle_23 a.1 n0 M fu x2 x3 x4 x5 = some r → Go K 7 a M 23 [(0, .ref (a.2 n0)), (1, .ref (a.2 51)), (2, .int x2), (3, .int x3), (4, .int x4), (5, .int x5)] [] := by
  intro fu
  induction fu with
  | zero => intro x2 x3 x4 x5 hf; exact absurd hf (by simp [f_X2_standingAngle_23])
  | succ fu ih =>
    intro x2 x3 x4 x5 hf
    rw [f_X2_standingAngle_23] at hf
    refine g_iload 5 S dX2_standingAngle_23 rfl ?_
    refine g_bipush (v := 17) S dX2_standingAngle_25 rfl ?_
    refine g_icmp_ge (tgt := 81) S dX2_standingAngle_27 (by decide) hf (fun c hf => ?_) (fun c hf => ?_)
    · refine g_iload 4 S dX2_standingAngle_81 rfl ?_
      refine g_if_ne (tgt := 91) S dX2_standingAngle_83 (by decide) hf (fun c hf => ?_) (fun c hf => ?_)
      · refine g_bipush (v := 17) S dX2_standingAngle_86 rfl ?_
        refine g_goto (tgt := 93) S dX2_standingAngle_88 (by decide) ?_
        exact g_iretP rt hf dX2_standingAngle_93
      · refine g_bipush (v := (-2)) S dX2_standingAngle_91 rfl ?_
        exact g_iretP rt hf dX2_standingAngle_93
    · refine g_aload_n 0 S dX2_standingAngle_30 rfl ?_
      refine g_aload_n 1 S dX2_standingAngle_31 rfl ?_
      refine g_iload_n 2 S dX2_standingAngle_32 rfl ?_
      refine g_iload 5 S dX2_standingAngle_33 rfl ?_
      refine g_iconst (v := 1) S dX2_standingAngle_35 rfl ?_
      refine g_iadd S dX2_standingAngle_36 ?_
      refine g_iload_n 3 S dX2_standingAngle_37 rfl ?_
      obtain ⟨r2, hr2, hf⟩ := bd1_some hf
      refine g_cVI (st := []) S (ob_K hn0) rfl ok_X2_turningAt lk_X2_47 (c_X2_turningAt hn0 hr2) rfl rfl ⟨by decide, by decide⟩ (rmD_z _) (Nat.le_of_ble_eq_true rfl) dX2_standingAngle_38 ?_
      refine g_istore (lv' := [(6, .int r2), (0, .ref (a.2 n0)), (1, .ref (a.2 51)), (2, .int x2), (3, .int x3), (4, .int x4), (5, .int x5)]) S dX2_standingAngle_41 (by decide) rfl ?_
      refine g_iload 5 S dX2_standingAngle_43 rfl ?_
      refine g_if_eq (tgt := 68) S dX2_standingAngle_45 (by decide) hf (fun c hf => ?_) (fun c hf => ?_)
      · refine g_iload 6 S dX2_standingAngle_68 rfl ?_
        exact g_iretP rt hf dX2_standingAngle_70
      · refine g_iload 5 S dX2_standingAngle_48 rfl ?_
        refine g_if_le (tgt := 58) S dX2_standingAngle_50 (by decide) hf (fun c hf => ?_) (fun c hf => ?_)
        · refine g_iload 5 S dX2_standingAngle_58 rfl ?_
          refine g_if_ge (tgt := 71) S dX2_standingAngle_60 (by decide) hf (fun c hf => ?_) (fun c hf => ?_)
          · refine g_iload 0 S dX2_standingAngle_71 rfl ?_
            refine g_istore (lv' := [(4, .int r2), (6, .int r2), (0, .ref (a.2 n0)), (1, .ref (a.2 51)), (2, .int x2), (3, .int x3), (5, .int x5)]) S dX2_standingAngle_73 (by decide) rfl ?_
            refine g_iinc (v := (x5 + 1)) (lv' := [(5, .int (x5 + 1)), (4, .int r2), (6, .int r2), (0, .ref (a.2 n0)), (1, .ref (a.2 51)), (2, .int x2), (3, .int x3)]) 6 S dX2_standingAngle_75 rfl rfl (by decide) rfl ?_
            refine g_goto (tgt := 23) S dX2_standingAngle_78 (by decide) ?_
            refine Go.sub [3, 4, 5, 6, 1, 0] rfl ?_
            exact ih _ _ _ _ hf
          · refine g_iload 0 S dX2_standingAngle_63 rfl ?_
            refine g_if_le (tgt := 71) S dX2_standingAngle_65 (by decide) hf (fun c hf => ?_) (fun c hf => ?_)
            · refine g_iload 0 S dX2_standingAngle_71 rfl ?_
              refine g_istore (lv' := [(4, .int r2), (6, .int r2), (0, .ref (a.2 n0)), (1, .ref (a.2 51)), (2, .int x2), (3, .int x3), (5, .int x5)]) S dX2_standingAngle_73 (by decide) rfl ?_
              refine g_iinc (v := (x5 + 1)) (lv' := [(5, .int (x5 + 1)), (4, .int r2), (6, .int r2), (0, .ref (a.2 n0)), (1, .ref (a.2 51)), (2, .int x2), (3, .int x3)]) 6 S dX2_standingAngle_75 rfl rfl (by decide) rfl ?_
              refine g_goto (tgt := 23) S dX2_standingAngle_78 (by decide) ?_
              refine Go.sub [3, 4, 5, 6, 1, 0] rfl ?_
              exact ih _ _ _ _ hf
            · refine g_iload 6 S dX2_standingAngle_68 rfl ?_
              exact g_iretP rt hf dX2_standingAngle_70
        · refine g_iload 0 S dX2_standingAngle_53 rfl ?_
          refine g_if_lt (tgt := 68) S dX2_standingAngle_55 (by decide) hf (fun c hf => ?_) (fun c hf => ?_)
          · refine g_iload 6 S dX2_standingAngle_68 rfl ?_
            exact g_iretP rt hf dX2_standingAngle_70
          · refine g_iload 5 S dX2_standingAngle_58 rfl ?_
            refine g_if_ge (tgt := 71) S dX2_standingAngle_60 (by decide) hf (fun c hf => ?_) (fun c hf => ?_)
            · refine g_iload 0 S dX2_standingAngle_71 rfl ?_
              refine g_istore (lv' := [(4, .int r2), (6, .int r2), (0, .ref (a.2 n0)), (1, .ref (a.2 51)), (2, .int x2), (3, .int x3), (5, .int x5)]) S dX2_standingAngle_73 (by decide) rfl ?_
              refine g_iinc (v := (x5 + 1)) (lv' := [(5, .int (x5 + 1)), (4, .int r2), (6, .int r2), (0, .ref (a.2 n0)), (1, .ref (a.2 51)), (2, .int x2), (3, .int x3)]) 6 S dX2_standingAngle_75 rfl rfl (by decide) rfl ?_
              refine g_goto (tgt := 23) S dX2_standingAngle_78 (by decide) ?_
              refine Go.sub [3, 4, 5, 6, 1, 0] rfl ?_
              exact ih _ _ _ _ hf
            · refine g_iload 0 S dX2_standingAngle_63 rfl ?_
              refine g_if_le (tgt := 71) S dX2_standingAngle_65 (by decide) hf (fun c hf => ?_) (fun c hf => ?_)
              · refine g_iload 0 S dX2_standingAngle_71 rfl ?_
                refine g_istore (lv' := [(4, .int r2), (6, .int r2), (0, .ref (a.2 n0)), (1, .ref (a.2 51)), (2, .int x2), (3, .int x3), (5, .int x5)]) S dX2_standingAngle_73 (by decide) rfl ?_
                refine g_iinc (v := (x5 + 1)) (lv' := [(5, .int (x5 + 1)), (4, .int r2), (6, .int r2), (0, .ref (a.2 n0)), (1, .ref (a.2 51)), (2, .int x2), (3, .int x3)]) 6 S dX2_standingAngle_75 rfl rfl (by decide) rfl ?_
                refine g_goto (tgt := 23) S dX2_standingAngle_78 (by decide) ?_
                refine Go.sub [3, 4, 5, 6, 1, 0] rfl ?_
                exact ih _ _ _ _ hf
              · refine g_iload 6 S dX2_standingAngle_68 rfl ?_
                exact g_iretP rt hf dX2_standingAngle_70
def f_X2_standingAngle (z : Nat → Nat) (n0 : Nat) (M : Mem) (p2 : Int32) (p3 : Int32) : Option Int32 := if (M n0 3) = 0 then some (-2) else bd1 (f_X2_turningAt z n0 M p2 0 p3) (fun r1 => f_X2_standingAngle_23 z n0 M 1000 p2 p3 r1 0)
theorem c_X2_standingAngle {l : Launch} {G : GG} {a : AA} {n0 : Nat} (hn0 : vK a.1 n0) {M : Mem} {p2 : Int32} {p3 : Int32} {r : Int32} (hf : f_X2_standingAngle a.1 n0 M p2 p3 = some r) : CtI l G a yX2_standingAngle cX2_standingAngle 7 .int (rmD 4) [.ref (a.2 n0), .ref (a.2 51), .int p2, .int p3] M r M := by
  refine ct_I (by decide) rfl rfl (own := RX2) (Nat.le_of_ble_eq_true rfl) (fun K hl hg S rt => ?_)
  subst hl; subst hg
  unfold f_X2_standingAngle at hf
  show Go K 7 a M 0 [(0, .ref (a.2 n0)), (1, .ref (a.2 51)), (2, .int p2), (3, .int p3)] []
  refine g_aload_n 0 S dX2_standingAngle_0 rfl ?_
  refine g_get (v := .int (M n0 3)) S (ob_K hn0) rfl gi_X2 (by decide) lf_X2_21 rfl dX2_standingAngle_1 ?_
  refine g_if_ne (tgt := 10) S dX2_standingAngle_4 (by decide) hf (fun c hf => ?_) (fun c hf => ?_)
  · refine g_bipush (v := (-2)) S dX2_standingAngle_7 rfl ?_
    exact g_iretP rt hf dX2_standingAngle_9
  · refine g_aload_n 0 S dX2_standingAngle_10 rfl ?_
    refine g_aload_n 1 S dX2_standingAngle_11 rfl ?_
    refine g_iload_n 2 S dX2_standingAngle_12 rfl ?_
    refine g_iconst (v := 0) S dX2_standingAngle_13 rfl ?_
    refine g_iload_n 3 S dX2_standingAngle_14 rfl ?_
    obtain ⟨r1, hr1, hf⟩ := bd1_some hf
    refine g_cVI (st := []) S (ob_K hn0) rfl ok_X2_turningAt lk_X2_47 (c_X2_turningAt hn0 hr1) rfl rfl ⟨by decide, by decide⟩ (rmD_z _) (Nat.le_of_ble_eq_true rfl) dX2_standingAngle_15 ?_
    refine g_istore (lv' := [(4, .int r1), (0, .ref (a.2 n0)), (1, .ref (a.2 51)), (2, .int p2), (3, .int p3)]) S dX2_standingAngle_18 (by decide) rfl ?_
    refine g_iconst (v := 0) S dX2_standingAngle_20 rfl ?_
    refine g_istore (lv' := [(5, .int 0), (4, .int r1), (0, .ref (a.2 n0)), (1, .ref (a.2 51)), (2, .int p2), (3, .int p3)]) S dX2_standingAngle_21 (by decide) rfl ?_
    refine Go.sub [2, 3, 4, 5, 1, 0] rfl ?_
    exact t_X2_standingAngle_23 hn0 S rt 1000 _ _ _ _ hf
-- BridleBook$Kite.isSteadyAt(LBridleBook$Tables;III)Z
theorem dX2_isSteadyAt_0 : decode cX2_isSteadyAt 0 = .ok (.iload_n 3, 1) := by decide +kernel
theorem dX2_isSteadyAt_1 : decode cX2_isSteadyAt 1 = .ok (.iconst 1, 1) := by decide +kernel
theorem dX2_isSteadyAt_2 : decode cX2_isSteadyAt 2 = .ok (.isub, 1) := by decide +kernel
theorem dX2_isSteadyAt_3 : decode cX2_isSteadyAt 3 = .ok (.iconst 0, 1) := by decide +kernel
theorem dX2_isSteadyAt_4 : decode cX2_isSteadyAt 4 = .ok (.invokestatic 51, 3) := by decide +kernel
theorem dX2_isSteadyAt_7 : decode cX2_isSteadyAt 7 = .ok (.istore 5, 2) := by decide +kernel
theorem dX2_isSteadyAt_9 : decode cX2_isSteadyAt 9 = .ok (.iload_n 3, 1) := by decide +kernel
theorem dX2_isSteadyAt_10 : decode cX2_isSteadyAt 10 = .ok (.iconst 1, 1) := by decide +kernel
theorem dX2_isSteadyAt_11 : decode cX2_isSteadyAt 11 = .ok (.iadd, 1) := by decide +kernel
theorem dX2_isSteadyAt_12 : decode cX2_isSteadyAt 12 = .ok (.bipush 17, 2) := by decide +kernel
theorem dX2_isSteadyAt_14 : decode cX2_isSteadyAt 14 = .ok (.invokestatic 57, 3) := by decide +kernel
theorem dX2_isSteadyAt_17 : decode cX2_isSteadyAt 17 = .ok (.istore 6, 2) := by decide +kernel
theorem dX2_isSteadyAt_19 : decode cX2_isSteadyAt 19 = .ok (.aload_n 0, 1) := by decide +kernel
theorem dX2_isSteadyAt_20 : decode cX2_isSteadyAt 20 = .ok (.aload_n 1, 1) := by decide +kernel
theorem dX2_isSteadyAt_21 : decode cX2_isSteadyAt 21 = .ok (.iload_n 2, 1) := by decide +kernel
theorem dX2_isSteadyAt_22 : decode cX2_isSteadyAt 22 = .ok (.iload 5, 2) := by decide +kernel
theorem dX2_isSteadyAt_24 : decode cX2_isSteadyAt 24 = .ok (.iload 4, 2) := by decide +kernel
theorem dX2_isSteadyAt_26 : decode cX2_isSteadyAt 26 = .ok (.invokevirtual 47, 3) := by decide +kernel
theorem dX2_isSteadyAt_29 : decode cX2_isSteadyAt 29 = .ok (.ifCond .lt 20, 3) := by decide +kernel
theorem dX2_isSteadyAt_32 : decode cX2_isSteadyAt 32 = .ok (.aload_n 0, 1) := by decide +kernel
theorem dX2_isSteadyAt_33 : decode cX2_isSteadyAt 33 = .ok (.aload_n 1, 1) := by decide +kernel
theorem dX2_isSteadyAt_34 : decode cX2_isSteadyAt 34 = .ok (.iload_n 2, 1) := by decide +kernel
theorem dX2_isSteadyAt_35 : decode cX2_isSteadyAt 35 = .ok (.iload 6, 2) := by decide +kernel
theorem dX2_isSteadyAt_37 : decode cX2_isSteadyAt 37 = .ok (.iload 4, 2) := by decide +kernel
theorem dX2_isSteadyAt_39 : decode cX2_isSteadyAt 39 = .ok (.invokevirtual 47, 3) := by decide +kernel
theorem dX2_isSteadyAt_42 : decode cX2_isSteadyAt 42 = .ok (.ifCond .gt 7, 3) := by decide +kernel
theorem dX2_isSteadyAt_45 : decode cX2_isSteadyAt 45 = .ok (.iconst 1, 1) := by decide +kernel
theorem dX2_isSteadyAt_46 : decode cX2_isSteadyAt 46 = .ok (.goto 4, 3) := by decide +kernel
theorem dX2_isSteadyAt_49 : decode cX2_isSteadyAt 49 = .ok (.iconst 0, 1) := by decide +kernel
theorem dX2_isSteadyAt_50 : decode cX2_isSteadyAt 50 = .ok (.ireturn, 1) := by decide +kernel
def f_X2_isSteadyAt (z : Nat → Nat) (n0 : Nat) (M : Mem) (p2 : Int32) (p3 : Int32) (p4 : Int32) : Option Bool := bd1 (f_X2_turningAt z n0 M p2 (imax (p3 - 1) 0) p4) (fun r1 => if r1 < 0 then some false else bd1 (f_X2_turningAt z n0 M p2 (imin (p3 + 1) 17) p4) (fun r2 => if 0 < r2 then some false else some true))
theorem c_X2_isSteadyAt {l : Launch} {G : GG} {a : AA} {n0 : Nat} (hn0 : vK a.1 n0) {M : Mem} {p2 : Int32} {p3 : Int32} {p4 : Int32} {r : Bool} (hf : f_X2_isSteadyAt a.1 n0 M p2 p3 p4 = some r) : CtI l G a yX2_isSteadyAt cX2_isSteadyAt 7 .boolean (rmD 4) [.ref (a.2 n0), .ref (a.2 51), .int p2, .int p3, .int p4] M (b2i r) M := by
  refine ct_I (by decide) rfl (b2i_n _) (own := RX2) (Nat.le_of_ble_eq_true rfl) (fun K hl hg S rt => ?_)
  subst hl; subst hg
  unfold f_X2_isSteadyAt at hf
  show Go K 7 a M 0 [(0, .ref (a.2 n0)), (1, .ref (a.2 51)), (2, .int p2), (3, .int p3), (4, .int p4)] []
  refine g_iload_n 3 S dX2_isSteadyAt_0 rfl ?_
  refine g_iconst (v := 1) S dX2_isSteadyAt_1 rfl ?_
  refine g_isub S dX2_isSteadyAt_2 ?_
  refine g_iconst (v := 0) S dX2_isSteadyAt_3 rfl ?_
  refine g_mmax S lk_X2_51 (by decide) (Nat.le_of_ble_eq_true rfl) dX2_isSteadyAt_4 ?_
  refine g_istore (lv' := [(5, .int (imax (p3 - 1) 0)), (0, .ref (a.2 n0)), (1, .ref (a.2 51)), (2, .int p2), (3, .int p3), (4, .int p4)]) S dX2_isSteadyAt_7 (by decide) rfl ?_
  refine g_iload_n 4 S dX2_isSteadyAt_9 rfl ?_
  refine g_iconst (v := 1) S dX2_isSteadyAt_10 rfl ?_
  refine g_iadd S dX2_isSteadyAt_11 ?_
  refine g_bipush (v := 17) S dX2_isSteadyAt_12 rfl ?_
  refine g_mmin S lk_X2_57 (by decide) (Nat.le_of_ble_eq_true rfl) dX2_isSteadyAt_14 ?_
  refine g_istore (lv' := [(6, .int (imin (p3 + 1) 17)), (5, .int (imax (p3 - 1) 0)), (0, .ref (a.2 n0)), (1, .ref (a.2 51)), (2, .int p2), (3, .int p3), (4, .int p4)]) S dX2_isSteadyAt_17 (by decide) rfl ?_
  refine g_aload_n 2 S dX2_isSteadyAt_19 rfl ?_
  refine g_aload_n 3 S dX2_isSteadyAt_20 rfl ?_
  refine g_iload_n 4 S dX2_isSteadyAt_21 rfl ?_
  refine g_iload 1 S dX2_isSteadyAt_22 rfl ?_
  refine g_iload 6 S dX2_isSteadyAt_24 rfl ?_
  obtain ⟨r1, hr1, hf⟩ := bd1_some hf
  refine g_cVI (st := []) S (ob_K hn0) rfl ok_X2_turningAt lk_X2_47 (c_X2_turningAt hn0 hr1) rfl rfl ⟨by decide, by decide⟩ (rmD_z _) (Nat.le_of_ble_eq_true rfl) dX2_isSteadyAt_26 ?_
  refine g_if_lt (tgt := 49) S dX2_isSteadyAt_29 (by decide) hf (fun c hf => ?_) (fun c hf => ?_)
  · refine g_iconst (v := 0) S dX2_isSteadyAt_49 rfl ?_
    exact g_zretP rt hf dX2_isSteadyAt_50 rfl
  · refine g_aload_n 2 S dX2_isSteadyAt_32 rfl ?_
    refine g_aload_n 3 S dX2_isSteadyAt_33 rfl ?_
    refine g_iload_n 4 S dX2_isSteadyAt_34 rfl ?_
    refine g_iload 0 S dX2_isSteadyAt_35 rfl ?_
    refine g_iload 6 S dX2_isSteadyAt_37 rfl ?_
    obtain ⟨r2, hr2, hf⟩ := bd1_some hf
    refine g_cVI (st := []) S (ob_K hn0) rfl ok_X2_turningAt lk_X2_47 (c_X2_turningAt hn0 hr2) rfl rfl ⟨by decide, by decide⟩ (rmD_z _) (Nat.le_of_ble_eq_true rfl) dX2_isSteadyAt_39 ?_
    refine g_if_gt (tgt := 49) S dX2_isSteadyAt_42 (by decide) hf (fun c hf => ?_) (fun c hf => ?_)
    · refine g_iconst (v := 0) S dX2_isSteadyAt_49 rfl ?_
      exact g_zretP rt hf dX2_isSteadyAt_50 rfl
    · refine g_iconst (v := 1) S dX2_isSteadyAt_45 rfl ?_
      refine g_goto (tgt := 50) S dX2_isSteadyAt_46 (by decide) ?_
      exact g_zretP rt hf dX2_isSteadyAt_50 rfl
end
section
-- BridleBook$Line.hasKnotAt(I)Z
theorem dX3_hasKnotAt_0 : decode cX3_hasKnotAt 0 = .ok (.iconst 0, 1) := by decide +kernel
theorem dX3_hasKnotAt_1 : decode cX3_hasKnotAt 1 = .ok (.istore_n 2, 1) := by decide +kernel
theorem dX3_hasKnotAt_2 : decode cX3_hasKnotAt 2 = .ok (.iload_n 2, 1) := by decide +kernel
theorem dX3_hasKnotAt_3 : decode cX3_hasKnotAt 3 = .ok (.aload_n 0, 1) := by decide +kernel
theorem dX3_hasKnotAt_4 : decode cX3_hasKnotAt 4 = .ok (.getfield 15, 3) := by decide +kernel
theorem dX3_hasKnotAt_7 : decode cX3_hasKnotAt 7 = .ok (.if_icmp .ge 21, 3) := by decide +kernel
theorem dX3_hasKnotAt_10 : decode cX3_hasKnotAt 10 = .ok (.aload_n 0, 1) := by decide +kernel
theorem dX3_hasKnotAt_11 : decode cX3_hasKnotAt 11 = .ok (.getfield 9, 3) := by decide +kernel
theorem dX3_hasKnotAt_14 : decode cX3_hasKnotAt 14 = .ok (.iload_n 2, 1) := by decide +kernel
theorem dX3_hasKnotAt_15 : decode cX3_hasKnotAt 15 = .ok (.iaload, 1) := by decide +kernel
theorem dX3_hasKnotAt_16 : decode cX3_hasKnotAt 16 = .ok (.iload_n 1, 1) := by decide +kernel
theorem dX3_hasKnotAt_17 : decode cX3_hasKnotAt 17 = .ok (.if_icmp .ne 5, 3) := by decide +kernel
theorem dX3_hasKnotAt_20 : decode cX3_hasKnotAt 20 = .ok (.iconst 1, 1) := by decide +kernel
theorem dX3_hasKnotAt_21 : decode cX3_hasKnotAt 21 = .ok (.ireturn, 1) := by decide +kernel
theorem dX3_hasKnotAt_22 : decode cX3_hasKnotAt 22 = .ok (.iinc 2 1, 3) := by decide +kernel
theorem dX3_hasKnotAt_25 : decode cX3_hasKnotAt 25 = .ok (.goto (-23), 3) := by decide +kernel
theorem dX3_hasKnotAt_28 : decode cX3_hasKnotAt 28 = .ok (.iconst 0, 1) := by decide +kernel
theorem dX3_hasKnotAt_29 : decode cX3_hasKnotAt 29 = .ok (.ireturn, 1) := by decide +kernel
def f_X3_hasKnotAt_2 (z : Nat → Nat) (n0 : Nat) (M : Mem) : Nat → Int32 → Int32 → Option Bool
  | 0, _, _ => none
  | fu + 1, x1, x2 => if (M n0 4) ≤ x2 then some false else ck (inb x2 10) (if (M (n0 + 1) (x2).toNatClampNeg) = x1 then some true else f_X3_hasKnotAt_2 z n0 M fu x1 (x2 + 1))
theorem t_X3_hasKnotAt_2 {K : KK} {a : AA} {n0 : Nat} (hn0 : vL a.1 n0) (S : Sx K RX3 cX3_hasKnotAt 3 (rmD 0)) {r : Bool} {M : Mem} (rt : RtI K a cX3_hasKnotAt (b2i r) M) : ∀ (fu : Nat) (x1 : Int32) (x2 : Int32), f_X3_hasKnotAt_2 a.1 n0 M fu x1 x2 = some r → Go K 3 a M 2 [(0, .ref (a.2 n0)), (1, .int x1), (2, .int x2)] [] := by
  intro fu
  induction fu with
  | zero => intro x1 x2 hf; exact absurd hf (by simp [f_X3_hasKnotAt_2])
  | succ fu ih =>
    intro x1 x2 hf
    rw [f_X3_hasKnotAt_2] at hf
    refine g_iload_n 2 S dX3_hasKnotAt_2 rfl ?_
    refine g_aload_n 0 S dX3_hasKnotAt_3 rfl ?_
    refine g_get (v := .int (M n0 4)) S (ob_L hn0) rfl gi_X3 (by decide) lf_X3_15 rfl dX3_hasKnotAt_4 ?_
    refine g_icmp_ge (tgt := 28) S dX3_hasKnotAt_7 (by decide) hf (fun c hf => ?_) (fun c hf => ?_)
    · refine g_iconst (v := 0) S dX3_hasKnotAt_28 rfl ?_
      exact g_zretP rt hf dX3_hasKnotAt_29 rfl
    · refine g_aload_n 0 S dX3_hasKnotAt_10 rfl ?_
      refine g_get (v := .ref (a.2 (n0 + 1))) S (ob_L hn0) rfl gi_X3 (by decide) lf_X3_9 rfl dX3_hasKnotAt_11 ?_
      refine g_iload_n 2 S dX3_hasKnotAt_14 rfl ?_
      refine g_iald S (ia_L1 hn0) dX3_hasKnotAt_15 hf (fun hf => ?_)
      refine g_iload_n 1 S dX3_hasKnotAt_16 rfl ?_
      refine g_icmp_ne (tgt := 22) S dX3_hasKnotAt_17 (by decide) hf (fun c hf => ?_) (fun c hf => ?_)
      · refine g_iconst (v := 1) S dX3_hasKnotAt_20 rfl ?_
        exact g_zretP rt hf dX3_hasKnotAt_21 rfl
      · refine g_iinc (v := (x2 + 1)) (lv' := [(2, .int (x2 + 1)), (0, .ref (a.2 n0)), (1, .int x1)]) 2 S dX3_hasKnotAt_22 rfl rfl (by decide) rfl ?_
        refine g_goto (tgt := 2) S dX3_hasKnotAt_25 (by decide) ?_
        refine Go.sub [1, 2, 0] rfl ?_
        exact ih _ _ hf
def f_X3_hasKnotAt (z : Nat → Nat) (n0 : Nat) (M : Mem) (p1 : Int32) : Option Bool := f_X3_hasKnotAt_2 z n0 M 1000 p1 0
theorem c_X3_hasKnotAt {l : Launch} {G : GG} {a : AA} {n0 : Nat} (hn0 : vL a.1 n0) {M : Mem} {p1 : Int32} {r : Bool} (hf : f_X3_hasKnotAt a.1 n0 M p1 = some r) : CtI l G a yX3_hasKnotAt cX3_hasKnotAt 3 .boolean (rmD 0) [.ref (a.2 n0), .int p1] M (b2i r) M := by
  refine ct_I (by decide) rfl (b2i_n _) (own := RX3) (Nat.le_of_ble_eq_true rfl) (fun K hl hg S rt => ?_)
  subst hl; subst hg
  unfold f_X3_hasKnotAt at hf
  show Go K 3 a M 0 [(0, .ref (a.2 n0)), (1, .int p1)] []
  refine g_iconst (v := 0) S dX3_hasKnotAt_0 rfl ?_
  refine g_istore_n (lv' := [(2, .int 0), (0, .ref (a.2 n0)), (1, .int p1)]) S dX3_hasKnotAt_1 (by decide) rfl ?_
  refine Go.sub [1, 2, 0] rfl ?_
  exact t_X3_hasKnotAt_2 hn0 S rt 1000 _ _ hf
-- BridleBook$Line.addKnot(I)I
theorem dX3_addKnot_0 : decode cX3_addKnot 0 = .ok (.aload_n 0, 1) := by decide +kernel
theorem dX3_addKnot_1 : decode cX3_addKnot 1 = .ok (.getfield 15, 3) := by decide +kernel
theorem dX3_addKnot_4 : decode cX3_addKnot 4 = .ok (.bipush 10, 2) := by decide +kernel
theorem dX3_addKnot_6 : decode cX3_addKnot 6 = .ok (.if_icmp .lt 6, 3) := by decide +kernel
theorem dX3_addKnot_9 : decode cX3_addKnot 9 = .ok (.bipush (-3), 2) := by decide +kernel
theorem dX3_addKnot_11 : decode cX3_addKnot 11 = .ok (.ireturn, 1) := by decide +kernel
theorem dX3_addKnot_12 : decode cX3_addKnot 12 = .ok (.aload_n 0, 1) := by decide +kernel
theorem dX3_addKnot_13 : decode cX3_addKnot 13 = .ok (.getfield 9, 3) := by decide +kernel
theorem dX3_addKnot_16 : decode cX3_addKnot 16 = .ok (.aload_n 0, 1) := by decide +kernel
theorem dX3_addKnot_17 : decode cX3_addKnot 17 = .ok (.getfield 15, 3) := by decide +kernel
theorem dX3_addKnot_20 : decode cX3_addKnot 20 = .ok (.iload_n 1, 1) := by decide +kernel
theorem dX3_addKnot_21 : decode cX3_addKnot 21 = .ok (.iastore, 1) := by decide +kernel
theorem dX3_addKnot_22 : decode cX3_addKnot 22 = .ok (.aload_n 0, 1) := by decide +kernel
theorem dX3_addKnot_23 : decode cX3_addKnot 23 = .ok (.dup, 1) := by decide +kernel
theorem dX3_addKnot_24 : decode cX3_addKnot 24 = .ok (.getfield 15, 3) := by decide +kernel
theorem dX3_addKnot_27 : decode cX3_addKnot 27 = .ok (.iconst 1, 1) := by decide +kernel
theorem dX3_addKnot_28 : decode cX3_addKnot 28 = .ok (.iadd, 1) := by decide +kernel
theorem dX3_addKnot_29 : decode cX3_addKnot 29 = .ok (.putfield 15, 3) := by decide +kernel
theorem dX3_addKnot_32 : decode cX3_addKnot 32 = .ok (.aload_n 0, 1) := by decide +kernel
theorem dX3_addKnot_33 : decode cX3_addKnot 33 = .ok (.getfield 15, 3) := by decide +kernel
theorem dX3_addKnot_36 : decode cX3_addKnot 36 = .ok (.ireturn, 1) := by decide +kernel
def f_X3_addKnot (z : Nat → Nat) (n0 : Nat) (M : Mem) (p1 : Int32) : Option (Int32 × Mem) := if (M n0 4) < 10 then ck (inb (M n0 4) 10) (some (((mu (mu M (n0 + 1) ((M n0 4)).toNatClampNeg p1) n0 4 (((mu M (n0 + 1) ((M n0 4)).toNatClampNeg p1) n0 4) + 1)) n0 4), (mu (mu M (n0 + 1) ((M n0 4)).toNatClampNeg p1) n0 4 (((mu M (n0 + 1) ((M n0 4)).toNatClampNeg p1) n0 4) + 1)))) else some ((-3), M)
theorem c_X3_addKnot {l : Launch} {G : GG} {a : AA} {n0 : Nat} (hn0 : vL a.1 n0) {M : Mem} {p1 : Int32} {r : Int32} {M' : Mem} (hf : f_X3_addKnot a.1 n0 M p1 = some (r, M')) : CtI l G a yX3_addKnot cX3_addKnot 2 .int (rmD 0) [.ref (a.2 n0), .int p1] M r M' := by
  refine ct_I (by decide) rfl rfl (own := RX3) (Nat.le_of_ble_eq_true rfl) (fun K hl hg S rt => ?_)
  subst hl; subst hg
  unfold f_X3_addKnot at hf
  show Go K 2 a M 0 [(0, .ref (a.2 n0)), (1, .int p1)] []
  refine g_aload_n 0 S dX3_addKnot_0 rfl ?_
  refine g_get (v := .int (M n0 4)) S (ob_L hn0) rfl gi_X3 (by decide) lf_X3_15 rfl dX3_addKnot_1 ?_
  refine g_bipush (v := 10) S dX3_addKnot_4 rfl ?_
  refine g_icmp_lt (tgt := 12) S dX3_addKnot_6 (by decide) hf (fun c hf => ?_) (fun c hf => ?_)
  · refine g_aload_n 0 S dX3_addKnot_12 rfl ?_
    refine g_get (v := .ref (a.2 (n0 + 1))) S (ob_L hn0) rfl gi_X3 (by decide) lf_X3_9 rfl dX3_addKnot_13 ?_
    refine g_aload_n 0 S dX3_addKnot_16 rfl ?_
    refine g_get (v := .int (M n0 4)) S (ob_L hn0) rfl gi_X3 (by decide) lf_X3_15 rfl dX3_addKnot_17 ?_
    refine g_iload_n 1 S dX3_addKnot_20 rfl ?_
    refine g_iast S (ia_L1 hn0) dX3_addKnot_21 hf (fun hf => ?_)
    refine g_aload_n 0 S dX3_addKnot_22 rfl ?_
    refine g_dup S dX3_addKnot_23 rfl ?_
    refine g_get (v := .int ((mu M (n0 + 1) ((M n0 4)).toNatClampNeg p1) n0 4)) S (ob_L hn0) rfl gi_X3 (by decide) lf_X3_15 rfl dX3_addKnot_24 ?_
    refine g_iconst (v := 1) S dX3_addKnot_27 rfl ?_
    refine g_iadd S dX3_addKnot_28 ?_
    refine g_put (ty := .int) S (ob_L hn0) rfl gi_X3 tyX3_ok nmX3 (by decide) lf_X3_15 rfl (by decide +kernel) rfl rfl (Nat.le_of_ble_eq_true rfl) rfl dX3_addKnot_29 ?_
    refine g_aload_n 0 S dX3_addKnot_32 rfl ?_
    refine g_get (v := .int ((mu (mu M (n0 + 1) ((M n0 4)).toNatClampNeg p1) n0 4 (((mu M (n0 + 1) ((M n0 4)).toNatClampNeg p1) n0 4) + 1)) n0 4)) S (ob_L hn0) rfl gi_X3 (by decide) lf_X3_15 rfl dX3_addKnot_33 ?_
    exact g_iretM rt hf dX3_addKnot_36
  · refine g_bipush (v := (-3)) S dX3_addKnot_9 rfl ?_
    exact g_iretM rt hf dX3_addKnot_11
-- BridleBook$Line.strengthAt(I)I
theorem dX3_strengthAt_0 : decode cX3_strengthAt 0 = .ok (.aload_n 0, 1) := by decide +kernel
theorem dX3_strengthAt_1 : decode cX3_strengthAt 1 = .ok (.iload_n 1, 1) := by decide +kernel
theorem dX3_strengthAt_2 : decode cX3_strengthAt 2 = .ok (.invokevirtual 28, 3) := by decide +kernel
theorem dX3_strengthAt_5 : decode cX3_strengthAt 5 = .ok (.ifCond .eq 14, 3) := by decide +kernel
theorem dX3_strengthAt_8 : decode cX3_strengthAt 8 = .ok (.aload_n 0, 1) := by decide +kernel
theorem dX3_strengthAt_9 : decode cX3_strengthAt 9 = .ok (.getfield 22, 3) := by decide +kernel
theorem dX3_strengthAt_12 : decode cX3_strengthAt 12 = .ok (.iconst 3, 1) := by decide +kernel
theorem dX3_strengthAt_13 : decode cX3_strengthAt 13 = .ok (.imul, 1) := by decide +kernel
theorem dX3_strengthAt_14 : decode cX3_strengthAt 14 = .ok (.iconst 4, 1) := by decide +kernel
theorem dX3_strengthAt_15 : decode cX3_strengthAt 15 = .ok (.idiv, 1) := by decide +kernel
theorem dX3_strengthAt_16 : decode cX3_strengthAt 16 = .ok (.goto 7, 3) := by decide +kernel
theorem dX3_strengthAt_19 : decode cX3_strengthAt 19 = .ok (.aload_n 0, 1) := by decide +kernel
theorem dX3_strengthAt_20 : decode cX3_strengthAt 20 = .ok (.getfield 22, 3) := by decide +kernel
theorem dX3_strengthAt_23 : decode cX3_strengthAt 23 = .ok (.ireturn, 1) := by decide +kernel
def f_X3_strengthAt (z : Nat → Nat) (n0 : Nat) (M : Mem) (p1 : Int32) : Option Int32 := bd1 (f_X3_hasKnotAt z n0 M p1) (fun r1 => if r1 = true then some (((M n0 1) * 3) / 4) else some (M n0 1))
theorem c_X3_strengthAt {l : Launch} {G : GG} {a : AA} {n0 : Nat} (hn0 : vL a.1 n0) {M : Mem} {p1 : Int32} {r : Int32} (hf : f_X3_strengthAt a.1 n0 M p1 = some r) : CtI l G a yX3_strengthAt cX3_strengthAt 2 .int (rmD 1) [.ref (a.2 n0), .int p1] M r M := by
  refine ct_I (by decide) rfl rfl (own := RX3) (Nat.le_of_ble_eq_true rfl) (fun K hl hg S rt => ?_)
  subst hl; subst hg
  unfold f_X3_strengthAt at hf
  show Go K 2 a M 0 [(0, .ref (a.2 n0)), (1, .int p1)] []
  refine g_aload_n 0 S dX3_strengthAt_0 rfl ?_
  refine g_iload_n 1 S dX3_strengthAt_1 rfl ?_
  obtain ⟨r1, hr1, hf⟩ := bd1_some hf
  refine g_cVI (st := []) S (ob_L hn0) rfl ok_X3_hasKnotAt lk_X3_28 (c_X3_hasKnotAt hn0 hr1) rfl rfl ⟨by decide, by decide⟩ (rmD_z _) (Nat.le_of_ble_eq_true rfl) dX3_strengthAt_2 ?_
  refine g_if_eqB (tgt := 19) S dX3_strengthAt_5 (by decide) hf (fun c hf => ?_) (fun c hf => ?_)
  · refine g_aload_n 0 S dX3_strengthAt_8 rfl ?_
    refine g_get (v := .int (M n0 1)) S (ob_L hn0) rfl gi_X3 (by decide) lf_X3_22 rfl dX3_strengthAt_9 ?_
    refine g_iconst (v := 3) S dX3_strengthAt_12 rfl ?_
    refine g_imul S dX3_strengthAt_13 ?_
    refine g_iconst (v := 4) S dX3_strengthAt_14 rfl ?_
    refine g_idiv S dX3_strengthAt_15 (by decide) ?_
    refine g_goto (tgt := 23) S dX3_strengthAt_16 (by decide) ?_
    exact g_iretP rt hf dX3_strengthAt_23
  · refine g_aload_n 0 S dX3_strengthAt_19 rfl ?_
    refine g_get (v := .int (M n0 1)) S (ob_L hn0) rfl gi_X3 (by decide) lf_X3_22 rfl dX3_strengthAt_20 ?_
    exact g_iretP rt hf dX3_strengthAt_23
-- BridleBook$Line.shortenTo(I)V
theorem dX3_shortenTo_0 : decode cX3_shortenTo 0 = .ok (.aload_n 0, 1) := by decide +kernel
theorem dX3_shortenTo_1 : decode cX3_shortenTo 1 = .ok (.iload_n 1, 1) := by decide +kernel
theorem dX3_shortenTo_2 : decode cX3_shortenTo 2 = .ok (.putfield 19, 3) := by decide +kernel
theorem dX3_shortenTo_5 : decode cX3_shortenTo 5 = .ok (.iconst 0, 1) := by decide +kernel
theorem dX3_shortenTo_6 : decode cX3_shortenTo 6 = .ok (.istore_n 2, 1) := by decide +kernel
theorem dX3_shortenTo_7 : decode cX3_shortenTo 7 = .ok (.iconst 0, 1) := by decide +kernel
theorem dX3_shortenTo_8 : decode cX3_shortenTo 8 = .ok (.istore_n 3, 1) := by decide +kernel
theorem dX3_shortenTo_9 : decode cX3_shortenTo 9 = .ok (.iload_n 3, 1) := by decide +kernel
theorem dX3_shortenTo_10 : decode cX3_shortenTo 10 = .ok (.aload_n 0, 1) := by decide +kernel
theorem dX3_shortenTo_11 : decode cX3_shortenTo 11 = .ok (.getfield 15, 3) := by decide +kernel
theorem dX3_shortenTo_14 : decode cX3_shortenTo 14 = .ok (.if_icmp .ge 34, 3) := by decide +kernel
theorem dX3_shortenTo_17 : decode cX3_shortenTo 17 = .ok (.aload_n 0, 1) := by decide +kernel
theorem dX3_shortenTo_18 : decode cX3_shortenTo 18 = .ok (.getfield 9, 3) := by decide +kernel
theorem dX3_shortenTo_21 : decode cX3_shortenTo 21 = .ok (.iload_n 3, 1) := by decide +kernel
theorem dX3_shortenTo_22 : decode cX3_shortenTo 22 = .ok (.iaload, 1) := by decide +kernel
theorem dX3_shortenTo_23 : decode cX3_shortenTo 23 = .ok (.iload_n 1, 1) := by decide +kernel
theorem dX3_shortenTo_24 : decode cX3_shortenTo 24 = .ok (.if_icmp .gt 18, 3) := by decide +kernel
theorem dX3_shortenTo_27 : decode cX3_shortenTo 27 = .ok (.aload_n 0, 1) := by decide +kernel
theorem dX3_shortenTo_28 : decode cX3_shortenTo 28 = .ok (.getfield 9, 3) := by decide +kernel
theorem dX3_shortenTo_31 : decode cX3_shortenTo 31 = .ok (.iload_n 2, 1) := by decide +kernel
theorem dX3_shortenTo_32 : decode cX3_shortenTo 32 = .ok (.aload_n 0, 1) := by decide +kernel
theorem dX3_shortenTo_33 : decode cX3_shortenTo 33 = .ok (.getfield 9, 3) := by decide +kernel
theorem dX3_shortenTo_36 : decode cX3_shortenTo 36 = .ok (.iload_n 3, 1) := by decide +kernel
theorem dX3_shortenTo_37 : decode cX3_shortenTo 37 = .ok (.iaload, 1) := by decide +kernel
theorem dX3_shortenTo_38 : decode cX3_shortenTo 38 = .ok (.iastore, 1) := by decide +kernel
theorem dX3_shortenTo_39 : decode cX3_shortenTo 39 = .ok (.iinc 2 1, 3) := by decide +kernel
theorem dX3_shortenTo_42 : decode cX3_shortenTo 42 = .ok (.iinc 3 1, 3) := by decide +kernel
theorem dX3_shortenTo_45 : decode cX3_shortenTo 45 = .ok (.goto (-36), 3) := by decide +kernel
theorem dX3_shortenTo_48 : decode cX3_shortenTo 48 = .ok (.aload_n 0, 1) := by decide +kernel
theorem dX3_shortenTo_49 : decode cX3_shortenTo 49 = .ok (.iload_n 2, 1) := by decide +kernel
theorem dX3_shortenTo_50 : decode cX3_shortenTo 50 = .ok (.putfield 15, 3) := by decide +kernel
theorem dX3_shortenTo_53 : decode cX3_shortenTo 53 = .ok (.return_, 1) := by decide +kernel
def f_X3_shortenTo_9 (z : Nat → Nat) (n0 : Nat) : Nat → Mem → Int32 → Int32 → Int32 → Option Mem
  | 0, _, _, _, _ => none
  | fu + 1, M, x1, x2, x3 => if (M n0 4) ≤ x3 then some (mu M n0 4 x2) else ck (inb x3 10) (if x1 < (M (n0 + 1) (x3).toNatClampNeg) then f_X3_shortenTo_9 z n0 fu M x1 x2 (x3 + 1) else ck (inb x3 10) (ck (inb x2 10) (f_X3_shortenTo_9 z n0 fu (mu M (n0 + 1) (x2).toNatClampNeg (M (n0 + 1) (x3).toNatClampNeg)) x1 (x2 + 1) (x3 + 1))))
theorem t_X3_shortenTo_9 {K : KK} {a : AA} {n0 : Nat} (hn0 : vL a.1 n0) (S : Sx K RX3 cX3_shortenTo 4 (rmD 0))  {M' : Mem} (rt : RtV K a cX3_shortenTo M') : ∀ (fu : Nat) (M : Mem) (x1 : Int32) (x2 : Int32) (x3 : Int32), f_X3_shortenTo_9 a.1 n0 fu M x1 x2 x3 = some M' → Go K 4 a M 9 [(0, .ref (a.2 n0)), (1, .int x1), (2, .int x2), (3, .int x3)] [] := by
  intro fu
  induction fu with
  | zero => intro M x1 x2 x3 hf; exact absurd hf (by simp [f_X3_shortenTo_9])
  | succ fu ih =>
    intro M x1 x2 x3 hf
    rw [f_X3_shortenTo_9] at hf
    refine g_iload_n 3 S dX3_shortenTo_9 rfl ?_
    refine g_aload_n 0 S dX3_shortenTo_10 rfl ?_
    refine g_get (v := .int (M n0 4)) S (ob_L hn0) rfl gi_X3 (by decide) lf_X3_15 rfl dX3_shortenTo_11 ?_
    refine g_icmp_ge (tgt := 48) S dX3_shortenTo_14 (by decide) hf (fun c hf => ?_) (fun c hf => ?_)
    · refine g_aload_n 0 S dX3_shortenTo_48 rfl ?_
      refine g_iload_n 2 S dX3_shortenTo_49 rfl ?_
      refine g_put (ty := .int) S (ob_L hn0) rfl gi_X3 tyX3_ok nmX3 (by decide) lf_X3_15 rfl (by decide +kernel) rfl rfl (Nat.le_of_ble_eq_true rfl) rfl dX3_shortenTo_50 ?_
      exact g_vretM rt hf dX3_shortenTo_53
    · refine g_aload_n 0 S dX3_shortenTo_17 rfl ?_
      refine g_get (v := .ref (a.2 (n0 + 1))) S (ob_L hn0) rfl gi_X3 (by decide) lf_X3_9 rfl dX3_shortenTo_18 ?_
      refine g_iload_n 3 S dX3_shortenTo_21 rfl ?_
      refine g_iald S (ia_L1 hn0) dX3_shortenTo_22 hf (fun hf => ?_)
      refine g_iload_n 1 S dX3_shortenTo_23 rfl ?_
      refine g_icmp_gt (tgt := 42) S dX3_shortenTo_24 (by decide) hf (fun c hf => ?_) (fun c hf => ?_)
      · refine g_iinc (v := (x3 + 1)) (lv' := [(3, .int (x3 + 1)), (0, .ref (a.2 n0)), (1, .int x1), (2, .int x2)]) 3 S dX3_shortenTo_42 rfl rfl (by decide) rfl ?_
        refine g_goto (tgt := 9) S dX3_shortenTo_45 (by decide) ?_
        refine Go.sub [1, 2, 3, 0] rfl ?_
        exact ih _ _ _ _ hf
      · refine g_aload_n 0 S dX3_shortenTo_27 rfl ?_
        refine g_get (v := .ref (a.2 (n0 + 1))) S (ob_L hn0) rfl gi_X3 (by decide) lf_X3_9 rfl dX3_shortenTo_28 ?_
        refine g_iload_n 2 S dX3_shortenTo_31 rfl ?_
        refine g_aload_n 0 S dX3_shortenTo_32 rfl ?_
        refine g_get (v := .ref (a.2 (n0 + 1))) S (ob_L hn0) rfl gi_X3 (by decide) lf_X3_9 rfl dX3_shortenTo_33 ?_
        refine g_iload_n 3 S dX3_shortenTo_36 rfl ?_
        refine g_iald S (ia_L1 hn0) dX3_shortenTo_37 hf (fun hf => ?_)
        refine g_iast S (ia_L1 hn0) dX3_shortenTo_38 hf (fun hf => ?_)
        refine g_iinc (v := (x2 + 1)) (lv' := [(2, .int (x2 + 1)), (0, .ref (a.2 n0)), (1, .int x1), (3, .int x3)]) 2 S dX3_shortenTo_39 rfl rfl (by decide) rfl ?_
        refine g_iinc (v := (x3 + 1)) (lv' := [(3, .int (x3 + 1)), (2, .int (x2 + 1)), (0, .ref (a.2 n0)), (1, .int x1)]) 3 S dX3_shortenTo_42 rfl rfl (by decide) rfl ?_
        refine g_goto (tgt := 9) S dX3_shortenTo_45 (by decide) ?_
        refine Go.sub [2, 3, 1, 0] rfl ?_
        exact ih _ _ _ _ hf
def f_X3_shortenTo (z : Nat → Nat) (n0 : Nat) (M : Mem) (p1 : Int32) : Option Mem := f_X3_shortenTo_9 z n0 1000 (mu M n0 0 p1) p1 0 0
theorem c_X3_shortenTo {l : Launch} {G : GG} {a : AA} {n0 : Nat} (hn0 : vL a.1 n0) {M : Mem} {p1 : Int32}  {M' : Mem} (hf : f_X3_shortenTo a.1 n0 M p1 = some M') : CtV l G a yX3_shortenTo cX3_shortenTo 4 (rmD 0) [.ref (a.2 n0), .int p1] M M' := by
  refine ct_V (by decide) rfl (own := RX3) (Nat.le_of_ble_eq_true rfl) (fun K hl hg S rt => ?_)
  subst hl; subst hg
  unfold f_X3_shortenTo at hf
  show Go K 4 a M 0 [(0, .ref (a.2 n0)), (1, .int p1)] []
  refine g_aload_n 0 S dX3_shortenTo_0 rfl ?_
  refine g_iload_n 1 S dX3_shortenTo_1 rfl ?_
  refine g_put (ty := .int) S (ob_L hn0) rfl gi_X3 tyX3_ok nmX3 (by decide) lf_X3_19 rfl (by decide +kernel) rfl rfl (Nat.le_of_ble_eq_true rfl) rfl dX3_shortenTo_2 ?_
  refine g_iconst (v := 0) S dX3_shortenTo_5 rfl ?_
  refine g_istore_n (lv' := [(2, .int 0), (0, .ref (a.2 n0)), (1, .int p1)]) S dX3_shortenTo_6 (by decide) rfl ?_
  refine g_iconst (v := 0) S dX3_shortenTo_7 rfl ?_
  refine g_istore_n (lv' := [(3, .int 0), (2, .int 0), (0, .ref (a.2 n0)), (1, .int p1)]) S dX3_shortenTo_8 (by decide) rfl ?_
  refine Go.sub [2, 3, 1, 0] rfl ?_
  exact t_X3_shortenTo_9 hn0 S rt 1000 _ _ _ _ hf
-- BridleBook$Tables.replaceLift(II)I
theorem dX4_replaceLift_0 : decode cX4_replaceLift 0 = .ok (.aload_n 0, 1) := by decide +kernel
theorem dX4_replaceLift_1 : decode cX4_replaceLift 1 = .ok (.iload_n 1, 1) := by decide +kernel
theorem dX4_replaceLift_2 : decode cX4_replaceLift 2 = .ok (.invokevirtual 22, 3) := by decide +kernel
theorem dX4_replaceLift_5 : decode cX4_replaceLift 5 = .ok (.istore_n 3, 1) := by decide +kernel
theorem dX4_replaceLift_6 : decode cX4_replaceLift 6 = .ok (.iload_n 1, 1) := by decide +kernel
theorem dX4_replaceLift_7 : decode cX4_replaceLift 7 = .ok (.invokestatic 18, 3) := by decide +kernel
theorem dX4_replaceLift_10 : decode cX4_replaceLift 10 = .ok (.ifCond .eq 10, 3) := by decide +kernel
theorem dX4_replaceLift_13 : decode cX4_replaceLift 13 = .ok (.aload_n 0, 1) := by decide +kernel
theorem dX4_replaceLift_14 : decode cX4_replaceLift 14 = .ok (.getfield 9, 3) := by decide +kernel
theorem dX4_replaceLift_17 : decode cX4_replaceLift 17 = .ok (.iload_n 1, 1) := by decide +kernel
theorem dX4_replaceLift_18 : decode cX4_replaceLift 18 = .ok (.iload_n 2, 1) := by decide +kernel
theorem dX4_replaceLift_19 : decode cX4_replaceLift 19 = .ok (.iastore, 1) := by decide +kernel
theorem dX4_replaceLift_20 : decode cX4_replaceLift 20 = .ok (.iload_n 3, 1) := by decide +kernel
theorem dX4_replaceLift_21 : decode cX4_replaceLift 21 = .ok (.ireturn, 1) := by decide +kernel
def f_X4_replaceLift (z : Nat → Nat) (M : Mem) (p1 : Int32) (p2 : Int32) : Option (Int32 × Mem) := bd1 (f_X4_liftAt z M p1) (fun r1 => bd1 (f_X7_isAngle z M p1) (fun r2 => if r2 = true then ck (inb p1 18) (some (r1, (mu M 70 (p1).toNatClampNeg p2))) else some (r1, M)))
theorem c_X4_replaceLift {l : Launch} {G : GG} {a : AA} {M : Mem} {p1 : Int32} {p2 : Int32} {r : Int32} {M' : Mem} (hf : f_X4_replaceLift a.1 M p1 p2 = some (r, M')) : CtI l G a yX4_replaceLift cX4_replaceLift 4 .int (rmD 3) [.ref (a.2 51), .int p1, .int p2] M r M' := by
  refine ct_I (by decide) rfl rfl (own := RX4) (Nat.le_of_ble_eq_true rfl) (fun K hl hg S rt => ?_)
  subst hl; subst hg
  unfold f_X4_replaceLift at hf
  show Go K 4 a M 0 [(0, .ref (a.2 51)), (1, .int p1), (2, .int p2)] []
  refine g_aload_n 0 S dX4_replaceLift_0 rfl ?_
  refine g_iload_n 1 S dX4_replaceLift_1 rfl ?_
  obtain ⟨r1, hr1, hf⟩ := bd1_some hf
  refine g_cVI (st := []) S ob_51 rfl ok_X4_liftAt lk_X4_22 (c_X4_liftAt hr1) rfl rfl ⟨by decide, by decide⟩ (rmD_z _) (Nat.le_of_ble_eq_true rfl) dX4_replaceLift_2 ?_
  refine g_istore_n (lv' := [(3, .int r1), (0, .ref (a.2 51)), (1, .int p1), (2, .int p2)]) S dX4_replaceLift_5 (by decide) rfl ?_
  refine g_iload_n 2 S dX4_replaceLift_6 rfl ?_
  obtain ⟨r2, hr2, hf⟩ := bd1_some hf
  refine g_cNI (st := []) S ok_X7_isAngle ln_X4_18 (c_X7_isAngle hr2) rfl rfl ⟨by decide, by decide⟩ (rmD_z _) (Nat.le_of_ble_eq_true rfl) dX4_replaceLift_7 ?_
  refine g_if_eqB (tgt := 20) S dX4_replaceLift_10 (by decide) hf (fun c hf => ?_) (fun c hf => ?_)
  · refine g_aload_n 1 S dX4_replaceLift_13 rfl ?_
    refine g_get (v := .ref (a.2 70)) S ob_51 rfl gi_X4 (by decide) lf_X4_9 rfl dX4_replaceLift_14 ?_
    refine g_iload_n 2 S dX4_replaceLift_17 rfl ?_
    refine g_iload_n 3 S dX4_replaceLift_18 rfl ?_
    refine g_iast S ia_70 dX4_replaceLift_19 hf (fun hf => ?_)
    refine g_iload_n 0 S dX4_replaceLift_20 rfl ?_
    exact g_iretM rt hf dX4_replaceLift_21
  · refine g_iload_n 0 S dX4_replaceLift_20 rfl ?_
    exact g_iretM rt hf dX4_replaceLift_21
-- BridleBook$Tables.replaceDrag(II)I
theorem dX4_replaceDrag_0 : decode cX4_replaceDrag 0 = .ok (.aload_n 0, 1) := by decide +kernel
theorem dX4_replaceDrag_1 : decode cX4_replaceDrag 1 = .ok (.iload_n 1, 1) := by decide +kernel
theorem dX4_replaceDrag_2 : decode cX4_replaceDrag 2 = .ok (.invokevirtual 26, 3) := by decide +kernel
theorem dX4_replaceDrag_5 : decode cX4_replaceDrag 5 = .ok (.istore_n 3, 1) := by decide +kernel
theorem dX4_replaceDrag_6 : decode cX4_replaceDrag 6 = .ok (.iload_n 1, 1) := by decide +kernel
theorem dX4_replaceDrag_7 : decode cX4_replaceDrag 7 = .ok (.invokestatic 18, 3) := by decide +kernel
theorem dX4_replaceDrag_10 : decode cX4_replaceDrag 10 = .ok (.ifCond .eq 10, 3) := by decide +kernel
theorem dX4_replaceDrag_13 : decode cX4_replaceDrag 13 = .ok (.aload_n 0, 1) := by decide +kernel
theorem dX4_replaceDrag_14 : decode cX4_replaceDrag 14 = .ok (.getfield 15, 3) := by decide +kernel
theorem dX4_replaceDrag_17 : decode cX4_replaceDrag 17 = .ok (.iload_n 1, 1) := by decide +kernel
theorem dX4_replaceDrag_18 : decode cX4_replaceDrag 18 = .ok (.iload_n 2, 1) := by decide +kernel
theorem dX4_replaceDrag_19 : decode cX4_replaceDrag 19 = .ok (.iastore, 1) := by decide +kernel
theorem dX4_replaceDrag_20 : decode cX4_replaceDrag 20 = .ok (.iload_n 3, 1) := by decide +kernel
theorem dX4_replaceDrag_21 : decode cX4_replaceDrag 21 = .ok (.ireturn, 1) := by decide +kernel
def f_X4_replaceDrag (z : Nat → Nat) (M : Mem) (p1 : Int32) (p2 : Int32) : Option (Int32 × Mem) := bd1 (f_X4_dragAt z M p1) (fun r1 => bd1 (f_X7_isAngle z M p1) (fun r2 => if r2 = true then ck (inb p1 18) (some (r1, (mu M 71 (p1).toNatClampNeg p2))) else some (r1, M)))
theorem c_X4_replaceDrag {l : Launch} {G : GG} {a : AA} {M : Mem} {p1 : Int32} {p2 : Int32} {r : Int32} {M' : Mem} (hf : f_X4_replaceDrag a.1 M p1 p2 = some (r, M')) : CtI l G a yX4_replaceDrag cX4_replaceDrag 4 .int (rmD 3) [.ref (a.2 51), .int p1, .int p2] M r M' := by
  refine ct_I (by decide) rfl rfl (own := RX4) (Nat.le_of_ble_eq_true rfl) (fun K hl hg S rt => ?_)
  subst hl; subst hg
  unfold f_X4_replaceDrag at hf
  show Go K 4 a M 0 [(0, .ref (a.2 51)), (1, .int p1), (2, .int p2)] []
  refine g_aload_n 0 S dX4_replaceDrag_0 rfl ?_
  refine g_iload_n 1 S dX4_replaceDrag_1 rfl ?_
  obtain ⟨r1, hr1, hf⟩ := bd1_some hf
  refine g_cVI (st := []) S ob_51 rfl ok_X4_dragAt lk_X4_26 (c_X4_dragAt hr1) rfl rfl ⟨by decide, by decide⟩ (rmD_z _) (Nat.le_of_ble_eq_true rfl) dX4_replaceDrag_2 ?_
  refine g_istore_n (lv' := [(3, .int r1), (0, .ref (a.2 51)), (1, .int p1), (2, .int p2)]) S dX4_replaceDrag_5 (by decide) rfl ?_
  refine g_iload_n 2 S dX4_replaceDrag_6 rfl ?_
  obtain ⟨r2, hr2, hf⟩ := bd1_some hf
  refine g_cNI (st := []) S ok_X7_isAngle ln_X4_18 (c_X7_isAngle hr2) rfl rfl ⟨by decide, by decide⟩ (rmD_z _) (Nat.le_of_ble_eq_true rfl) dX4_replaceDrag_7 ?_
  refine g_if_eqB (tgt := 20) S dX4_replaceDrag_10 (by decide) hf (fun c hf => ?_) (fun c hf => ?_)
  · refine g_aload_n 1 S dX4_replaceDrag_13 rfl ?_
    refine g_get (v := .ref (a.2 71)) S ob_51 rfl gi_X4 (by decide) lf_X4_15 rfl dX4_replaceDrag_14 ?_
    refine g_iload_n 2 S dX4_replaceDrag_17 rfl ?_
    refine g_iload_n 3 S dX4_replaceDrag_18 rfl ?_
    refine g_iast S ia_71 dX4_replaceDrag_19 hf (fun hf => ?_)
    refine g_iload_n 0 S dX4_replaceDrag_20 rfl ?_
    exact g_iretM rt hf dX4_replaceDrag_21
  · refine g_iload_n 0 S dX4_replaceDrag_20 rfl ?_
    exact g_iretM rt hf dX4_replaceDrag_21
-- java/util/Arrays.fill([II)V
theorem dJ7_fill_53178_0 : decode cJ7_fill_53178 0 = .ok (.iconst 0, 1) := by decide +kernel
theorem dJ7_fill_53178_1 : decode cJ7_fill_53178 1 = .ok (.istore_n 2, 1) := by decide +kernel
theorem dJ7_fill_53178_2 : decode cJ7_fill_53178 2 = .ok (.aload_n 0, 1) := by decide +kernel
theorem dJ7_fill_53178_3 : decode cJ7_fill_53178 3 = .ok (.arraylength, 1) := by decide +kernel
theorem dJ7_fill_53178_4 : decode cJ7_fill_53178 4 = .ok (.istore_n 3, 1) := by decide +kernel
theorem dJ7_fill_53178_5 : decode cJ7_fill_53178 5 = .ok (.iload_n 2, 1) := by decide +kernel
theorem dJ7_fill_53178_6 : decode cJ7_fill_53178 6 = .ok (.iload_n 3, 1) := by decide +kernel
theorem dJ7_fill_53178_7 : decode cJ7_fill_53178 7 = .ok (.if_icmp .ge 13, 3) := by decide +kernel
theorem dJ7_fill_53178_10 : decode cJ7_fill_53178 10 = .ok (.aload_n 0, 1) := by decide +kernel
theorem dJ7_fill_53178_11 : decode cJ7_fill_53178 11 = .ok (.iload_n 2, 1) := by decide +kernel
theorem dJ7_fill_53178_12 : decode cJ7_fill_53178 12 = .ok (.iload_n 1, 1) := by decide +kernel
theorem dJ7_fill_53178_13 : decode cJ7_fill_53178 13 = .ok (.iastore, 1) := by decide +kernel
theorem dJ7_fill_53178_14 : decode cJ7_fill_53178 14 = .ok (.iinc 2 1, 3) := by decide +kernel
theorem dJ7_fill_53178_17 : decode cJ7_fill_53178 17 = .ok (.goto (-12), 3) := by decide +kernel
theorem dJ7_fill_53178_20 : decode cJ7_fill_53178 20 = .ok (.return_, 1) := by decide +kernel
def f_J7_fill_53178_5 (z : Nat → Nat) (n1 len : Nat) : Nat → Mem → Int32 → Int32 → Int32 → Option Mem
  | 0, _, _, _, _ => none
  | fu + 1, M, x1, x2, x3 => if x3 ≤ x2 then some M else ck (inb x2 len) (f_J7_fill_53178_5 z n1 len fu (mu M n1 (x2).toNatClampNeg x1) x1 (x2 + 1) x3)
theorem t_J7_fill_53178_5 {K : KK} {a : AA} {n1 len : Nat} (hn1 : IA a.1 n1 len) (S : Sx K RJ7 cJ7_fill_53178 4 (rmD 0))  {M' : Mem} (rt : RtV K a cJ7_fill_53178 M') : ∀ (fu : Nat) (M : Mem) (x1 : Int32) (x2 : Int32) (x3 : Int32), f_J7_fill_53178_5 a.1 n1 len fu M x1 x2 x3 = some M' → Go K 4 a M 5 [(0, .ref (a.2 n1)), (1, .int x1), (2, .int x2), (3, .int x3)] [] := by
  intro fu
  induction fu with
  | zero => intro M x1 x2 x3 hf; exact absurd hf (by simp [f_J7_fill_53178_5])
  | succ fu ih =>
    intro M x1 x2 x3 hf
    rw [f_J7_fill_53178_5] at hf
    refine g_iload_n 2 S dJ7_fill_53178_5 rfl ?_
    refine g_iload_n 3 S dJ7_fill_53178_6 rfl ?_
    refine g_icmp_ge (tgt := 20) S dJ7_fill_53178_7 (by decide) hf (fun c hf => ?_) (fun c hf => ?_)
    · exact g_vretM rt hf dJ7_fill_53178_20
    · refine g_aload_n 0 S dJ7_fill_53178_10 rfl ?_
      refine g_iload_n 2 S dJ7_fill_53178_11 rfl ?_
      refine g_iload_n 1 S dJ7_fill_53178_12 rfl ?_
      refine g_iast S hn1 dJ7_fill_53178_13 hf (fun hf => ?_)
      refine g_iinc (v := (x2 + 1)) (lv' := [(2, .int (x2 + 1)), (0, .ref (a.2 n1)), (1, .int x1), (3, .int x3)]) 2 S dJ7_fill_53178_14 rfl rfl (by decide) rfl ?_
      refine g_goto (tgt := 5) S dJ7_fill_53178_17 (by decide) ?_
      refine Go.sub [1, 2, 0, 3] rfl ?_
      exact ih _ _ _ _ hf
def f_J7_fill_53178 (z : Nat → Nat) (n1 len : Nat) (M : Mem) (p2 : Int32) : Option Mem := f_J7_fill_53178_5 z n1 len 1000 M p2 0 (Int32.ofNat len)
theorem c_J7_fill_53178 {l : Launch} {G : GG} {a : AA} {n1 len : Nat} (hn1 : IA a.1 n1 len) {M : Mem} {p2 : Int32}  {M' : Mem} (hf : f_J7_fill_53178 a.1 n1 len M p2 = some M') : CtV l G a yJ7_fill_53178 cJ7_fill_53178 4 (rmD 0) [.ref (a.2 n1), .int p2] M M' := by
  refine ct_V (by decide) rfl (own := RJ7) (Nat.le_of_ble_eq_true rfl) (fun K hl hg S rt => ?_)
  subst hl; subst hg
  unfold f_J7_fill_53178 at hf
  show Go K 4 a M 0 [(0, .ref (a.2 n1)), (1, .int p2)] []
  refine g_iconst (v := 0) S dJ7_fill_53178_0 rfl ?_
  refine g_istore_n (lv' := [(2, .int 0), (0, .ref (a.2 n1)), (1, .int p2)]) S dJ7_fill_53178_1 (by decide) rfl ?_
  refine g_aload_n 1 S dJ7_fill_53178_2 rfl ?_
  refine g_alen (v := Int32.ofNat len) S hn1 rfl dJ7_fill_53178_3 ?_
  refine g_istore_n (lv' := [(3, .int (Int32.ofNat len)), (2, .int 0), (0, .ref (a.2 n1)), (1, .int p2)]) S dJ7_fill_53178_4 (by decide) rfl ?_
  refine Go.sub [2, 3, 1, 0] rfl ?_
  exact t_J7_fill_53178_5 hn1 S rt 1000 _ _ _ _ hf
-- BridleBook$Train.clear()V
theorem dX5_clear_0 : decode cX5_clear 0 = .ok (.aload_n 0, 1) := by decide +kernel
theorem dX5_clear_1 : decode cX5_clear 1 = .ok (.getfield 9, 3) := by decide +kernel
theorem dX5_clear_4 : decode cX5_clear 4 = .ok (.iconst 0, 1) := by decide +kernel
theorem dX5_clear_5 : decode cX5_clear 5 = .ok (.invokestatic 18, 3) := by decide +kernel
theorem dX5_clear_8 : decode cX5_clear 8 = .ok (.aload_n 0, 1) := by decide +kernel
theorem dX5_clear_9 : decode cX5_clear 9 = .ok (.getfield 15, 3) := by decide +kernel
theorem dX5_clear_12 : decode cX5_clear 12 = .ok (.iconst 0, 1) := by decide +kernel
theorem dX5_clear_13 : decode cX5_clear 13 = .ok (.invokestatic 18, 3) := by decide +kernel
theorem dX5_clear_16 : decode cX5_clear 16 = .ok (.return_, 1) := by decide +kernel
def f_X5_clear (z : Nat → Nat) (M : Mem) : Option Mem := bd1 (f_J7_fill_53178 z 72 202 M 0) (fun M1 => bd1 (f_J7_fill_53178 z 73 202 M1 0) (fun M2 => some M2))
theorem c_X5_clear {l : Launch} {G : GG} {a : AA} {M : Mem}  {M' : Mem} (hf : f_X5_clear a.1 M = some M') : CtV l G a yX5_clear cX5_clear 1 (rmD 1) [.ref (a.2 57)] M M' := by
  refine ct_V (by decide) rfl (own := RX5) (Nat.le_of_ble_eq_true rfl) (fun K hl hg S rt => ?_)
  subst hl; subst hg
  unfold f_X5_clear at hf
  show Go K 1 a M 0 [(0, .ref (a.2 57))] []
  refine g_aload_n 0 S dX5_clear_0 rfl ?_
  refine g_get (v := .ref (a.2 72)) S ob_57 rfl gi_X5 (by decide) lf_X5_9 rfl dX5_clear_1 ?_
  refine g_iconst (v := 0) S dX5_clear_4 rfl ?_
  obtain ⟨M1, hM1, hf⟩ := bd1_some hf
  refine g_cSV (st := []) S ok_J7_fill_53178 lk_X5_18 (c_J7_fill_53178 ia_72 hM1) rfl rfl ⟨by decide, by decide⟩ (rmD_z _) (Nat.le_of_ble_eq_true rfl) dX5_clear_5 ?_
  refine g_aload_n 0 S dX5_clear_8 rfl ?_
  refine g_get (v := .ref (a.2 73)) S ob_57 rfl gi_X5 (by decide) lf_X5_15 rfl dX5_clear_9 ?_
  refine g_iconst (v := 0) S dX5_clear_12 rfl ?_
  obtain ⟨M2, hM2, hf⟩ := bd1_some hf
  refine g_cSV (st := []) S ok_J7_fill_53178 lk_X5_18 (c_J7_fill_53178 ia_73 hM2) rfl rfl ⟨by decide, by decide⟩ (rmD_z _) (Nat.le_of_ble_eq_true rfl) dX5_clear_13 ?_
  exact g_vretM rt hf dX5_clear_16
-- BridleBook$Train.hang(III)V
theorem dX5_hang_0 : decode cX5_hang 0 = .ok (.iload_n 1, 1) := by decide +kernel
theorem dX5_hang_1 : decode cX5_hang 1 = .ok (.iconst 1, 1) := by decide +kernel
theorem dX5_hang_2 : decode cX5_hang 2 = .ok (.sipush 200, 3) := by decide +kernel
theorem dX5_hang_5 : decode cX5_hang 5 = .ok (.invokestatic 24, 3) := by decide +kernel
theorem dX5_hang_8 : decode cX5_hang 8 = .ok (.ifCond .eq 23, 3) := by decide +kernel
theorem dX5_hang_11 : decode cX5_hang 11 = .ok (.aload_n 0, 1) := by decide +kernel
theorem dX5_hang_12 : decode cX5_hang 12 = .ok (.getfield 15, 3) := by decide +kernel
theorem dX5_hang_15 : decode cX5_hang 15 = .ok (.iload_n 1, 1) := by decide +kernel
theorem dX5_hang_16 : decode cX5_hang 16 = .ok (.dup2, 1) := by decide +kernel
theorem dX5_hang_17 : decode cX5_hang 17 = .ok (.iaload, 1) := by decide +kernel
theorem dX5_hang_18 : decode cX5_hang 18 = .ok (.iload_n 2, 1) := by decide +kernel
theorem dX5_hang_19 : decode cX5_hang 19 = .ok (.iadd, 1) := by decide +kernel
theorem dX5_hang_20 : decode cX5_hang 20 = .ok (.iastore, 1) := by decide +kernel
theorem dX5_hang_21 : decode cX5_hang 21 = .ok (.aload_n 0, 1) := by decide +kernel
theorem dX5_hang_22 : decode cX5_hang 22 = .ok (.getfield 9, 3) := by decide +kernel
theorem dX5_hang_25 : decode cX5_hang 25 = .ok (.iload_n 1, 1) := by decide +kernel
theorem dX5_hang_26 : decode cX5_hang 26 = .ok (.dup2, 1) := by decide +kernel
theorem dX5_hang_27 : decode cX5_hang 27 = .ok (.iaload, 1) := by decide +kernel
theorem dX5_hang_28 : decode cX5_hang 28 = .ok (.iload_n 3, 1) := by decide +kernel
theorem dX5_hang_29 : decode cX5_hang 29 = .ok (.iadd, 1) := by decide +kernel
theorem dX5_hang_30 : decode cX5_hang 30 = .ok (.iastore, 1) := by decide +kernel
theorem dX5_hang_31 : decode cX5_hang 31 = .ok (.return_, 1) := by decide +kernel
def f_X5_hang (z : Nat → Nat) (M : Mem) (p1 : Int32) (p2 : Int32) (p3 : Int32) : Option Mem := bd1 (f_X7_within z M p1 1 200) (fun r1 => if r1 = true then ck (inb p1 202) (ck (inb p1 202) (ck (inb p1 202) (ck (inb p1 202) (some (mu (mu M 73 (p1).toNatClampNeg ((M 73 (p1).toNatClampNeg) + p2)) 72 (p1).toNatClampNeg (((mu M 73 (p1).toNatClampNeg ((M 73 (p1).toNatClampNeg) + p2)) 72 (p1).toNatClampNeg) + p3)))))) else some M)
theorem c_X5_hang {l : Launch} {G : GG} {a : AA} {M : Mem} {p1 : Int32} {p2 : Int32} {p3 : Int32}  {M' : Mem} (hf : f_X5_hang a.1 M p1 p2 p3 = some M') : CtV l G a yX5_hang cX5_hang 4 (rmD 1) [.ref (a.2 57), .int p1, .int p2, .int p3] M M' := by
  refine ct_V (by decide) rfl (own := RX5) (Nat.le_of_ble_eq_true rfl) (fun K hl hg S rt => ?_)
  subst hl; subst hg
  unfold f_X5_hang at hf
  show Go K 4 a M 0 [(0, .ref (a.2 57)), (1, .int p1), (2, .int p2), (3, .int p3)] []
  refine g_iload_n 1 S dX5_hang_0 rfl ?_
  refine g_iconst (v := 1) S dX5_hang_1 rfl ?_
  refine g_sipush (v := 200) S dX5_hang_2 rfl ?_
  obtain ⟨r1, hr1, hf⟩ := bd1_some hf
  refine g_cNI (st := []) S ok_X7_within ln_X5_24 (c_X7_within hr1) rfl rfl ⟨by decide, by decide⟩ (rmD_z _) (Nat.le_of_ble_eq_true rfl) dX5_hang_5 ?_
  refine g_if_eqB (tgt := 31) S dX5_hang_8 (by decide) hf (fun c hf => ?_) (fun c hf => ?_)
  · refine g_aload_n 0 S dX5_hang_11 rfl ?_
    refine g_get (v := .ref (a.2 73)) S ob_57 rfl gi_X5 (by decide) lf_X5_15 rfl dX5_hang_12 ?_
    refine g_iload_n 1 S dX5_hang_15 rfl ?_
    refine g_dup2 S dX5_hang_16 rfl rfl ?_
    refine g_iald S ia_73 dX5_hang_17 hf (fun hf => ?_)
    refine g_iload_n 2 S dX5_hang_18 rfl ?_
    refine g_iadd S dX5_hang_19 ?_
    refine g_iast S ia_73 dX5_hang_20 hf (fun hf => ?_)
    refine g_aload_n 0 S dX5_hang_21 rfl ?_
    refine g_get (v := .ref (a.2 72)) S ob_57 rfl gi_X5 (by decide) lf_X5_9 rfl dX5_hang_22 ?_
    refine g_iload_n 1 S dX5_hang_25 rfl ?_
    refine g_dup2 S dX5_hang_26 rfl rfl ?_
    refine g_iald S ia_72 dX5_hang_27 hf (fun hf => ?_)
    refine g_iload_n 3 S dX5_hang_28 rfl ?_
    refine g_iadd S dX5_hang_29 ?_
    refine g_iast S ia_72 dX5_hang_30 hf (fun hf => ?_)
    exact g_vretM rt hf dX5_hang_31
  · exact g_vretM rt hf dX5_hang_31
-- BridleBook$Train.sumFromEnd(II)V
theorem dX5_sumFromEnd_0 : decode cX5_sumFromEnd 0 = .ok (.iload_n 1, 1) := by decide +kernel
theorem dX5_sumFromEnd_1 : decode cX5_sumFromEnd 1 = .ok (.sipush 200, 3) := by decide +kernel
theorem dX5_sumFromEnd_4 : decode cX5_sumFromEnd 4 = .ok (.invokestatic 28, 3) := by decide +kernel
theorem dX5_sumFromEnd_7 : decode cX5_sumFromEnd 7 = .ok (.istore_n 3, 1) := by decide +kernel
theorem dX5_sumFromEnd_8 : decode cX5_sumFromEnd 8 = .ok (.iload_n 3, 1) := by decide +kernel
theorem dX5_sumFromEnd_9 : decode cX5_sumFromEnd 9 = .ok (.iconst 1, 1) := by decide +kernel
theorem dX5_sumFromEnd_10 : decode cX5_sumFromEnd 10 = .ok (.if_icmp .lt 45, 3) := by decide +kernel
theorem dX5_sumFromEnd_13 : decode cX5_sumFromEnd 13 = .ok (.aload_n 0, 1) := by decide +kernel
theorem dX5_sumFromEnd_14 : decode cX5_sumFromEnd 14 = .ok (.getfield 15, 3) := by decide +kernel
theorem dX5_sumFromEnd_17 : decode cX5_sumFromEnd 17 = .ok (.iload_n 3, 1) := by decide +kernel
theorem dX5_sumFromEnd_18 : decode cX5_sumFromEnd 18 = .ok (.dup2, 1) := by decide +kernel
theorem dX5_sumFromEnd_19 : decode cX5_sumFromEnd 19 = .ok (.iaload, 1) := by decide +kernel
theorem dX5_sumFromEnd_20 : decode cX5_sumFromEnd 20 = .ok (.aload_n 0, 1) := by decide +kernel
theorem dX5_sumFromEnd_21 : decode cX5_sumFromEnd 21 = .ok (.getfield 15, 3) := by decide +kernel
theorem dX5_sumFromEnd_24 : decode cX5_sumFromEnd 24 = .ok (.iload_n 3, 1) := by decide +kernel
theorem dX5_sumFromEnd_25 : decode cX5_sumFromEnd 25 = .ok (.iconst 1, 1) := by decide +kernel
theorem dX5_sumFromEnd_26 : decode cX5_sumFromEnd 26 = .ok (.iadd, 1) := by decide +kernel
theorem dX5_sumFromEnd_27 : decode cX5_sumFromEnd 27 = .ok (.iaload, 1) := by decide +kernel
theorem dX5_sumFromEnd_28 : decode cX5_sumFromEnd 28 = .ok (.iload_n 2, 1) := by decide +kernel
theorem dX5_sumFromEnd_29 : decode cX5_sumFromEnd 29 = .ok (.isub, 1) := by decide +kernel
theorem dX5_sumFromEnd_30 : decode cX5_sumFromEnd 30 = .ok (.iadd, 1) := by decide +kernel
theorem dX5_sumFromEnd_31 : decode cX5_sumFromEnd 31 = .ok (.iastore, 1) := by decide +kernel
theorem dX5_sumFromEnd_32 : decode cX5_sumFromEnd 32 = .ok (.aload_n 0, 1) := by decide +kernel
theorem dX5_sumFromEnd_33 : decode cX5_sumFromEnd 33 = .ok (.getfield 9, 3) := by decide +kernel
theorem dX5_sumFromEnd_36 : decode cX5_sumFromEnd 36 = .ok (.iload_n 3, 1) := by decide +kernel
theorem dX5_sumFromEnd_37 : decode cX5_sumFromEnd 37 = .ok (.dup2, 1) := by decide +kernel
theorem dX5_sumFromEnd_38 : decode cX5_sumFromEnd 38 = .ok (.iaload, 1) := by decide +kernel
theorem dX5_sumFromEnd_39 : decode cX5_sumFromEnd 39 = .ok (.aload_n 0, 1) := by decide +kernel
theorem dX5_sumFromEnd_40 : decode cX5_sumFromEnd 40 = .ok (.getfield 9, 3) := by decide +kernel
theorem dX5_sumFromEnd_43 : decode cX5_sumFromEnd 43 = .ok (.iload_n 3, 1) := by decide +kernel
theorem dX5_sumFromEnd_44 : decode cX5_sumFromEnd 44 = .ok (.iconst 1, 1) := by decide +kernel
theorem dX5_sumFromEnd_45 : decode cX5_sumFromEnd 45 = .ok (.iadd, 1) := by decide +kernel
theorem dX5_sumFromEnd_46 : decode cX5_sumFromEnd 46 = .ok (.iaload, 1) := by decide +kernel
theorem dX5_sumFromEnd_47 : decode cX5_sumFromEnd 47 = .ok (.iadd, 1) := by decide +kernel
theorem dX5_sumFromEnd_48 : decode cX5_sumFromEnd 48 = .ok (.iastore, 1) := by decide +kernel
theorem dX5_sumFromEnd_49 : decode cX5_sumFromEnd 49 = .ok (.iinc 3 (-1), 3) := by decide +kernel
theorem dX5_sumFromEnd_52 : decode cX5_sumFromEnd 52 = .ok (.goto (-44), 3) := by decide +kernel
theorem dX5_sumFromEnd_55 : decode cX5_sumFromEnd 55 = .ok (.return_, 1) := by decide +kernel
def f_X5_sumFromEnd_8 (z : Nat → Nat) : Nat → Mem → Int32 → Int32 → Option Mem
  | 0, _, _, _ => none
  | fu + 1, M, x2, x3 => if x3 < 1 then some M else ck (inb x3 202) (ck (inb (x3 + 1) 202) (ck (inb x3 202) (ck (inb x3 202) (ck (inb (x3 + 1) 202) (ck (inb x3 202) (f_X5_sumFromEnd_8 z fu (mu (mu M 73 (x3).toNatClampNeg ((M 73 (x3).toNatClampNeg) + ((M 73 ((x3 + 1)).toNatClampNeg) - x2))) 72 (x3).toNatClampNeg (((mu M 73 (x3).toNatClampNeg ((M 73 (x3).toNatClampNeg) + ((M 73 ((x3 + 1)).toNatClampNeg) - x2))) 72 (x3).toNatClampNeg) + ((mu M 73 (x3).toNatClampNeg ((M 73 (x3).toNatClampNeg) + ((M 73 ((x3 + 1)).toNatClampNeg) - x2))) 72 ((x3 + 1)).toNatClampNeg))) x2 (x3 + (-1))))))))
theorem t_X5_sumFromEnd_8 {K : KK} {a : AA} (S : Sx K RX5 cX5_sumFromEnd 4 (rmD 1))  {M' : Mem} (rt : RtV K a cX5_sumFromEnd M') : ∀ (fu : Nat) (M : Mem) (x2 : Int32) (x3 : Int32), f_X5_sumFromEnd_8 a.1 fu M x2 x3 = some M' → Go K 4 a M 8 [(0, .ref (a.2 57)), (2, .int x2), (3, .int x3)] [] := by
  intro fu
  induction fu with
  | zero => intro M x2 x3 hf; exact absurd hf (by simp [f_X5_sumFromEnd_8])
  | succ fu ih =>
    intro M x2 x3 hf
    rw [f_X5_sumFromEnd_8] at hf
    refine g_iload_n 2 S dX5_sumFromEnd_8 rfl ?_
    refine g_iconst (v := 1) S dX5_sumFromEnd_9 rfl ?_
    refine g_icmp_lt (tgt := 55) S dX5_sumFromEnd_10 (by decide) hf (fun c hf => ?_) (fun c hf => ?_)
    · exact g_vretM rt hf dX5_sumFromEnd_55
    · refine g_aload_n 0 S dX5_sumFromEnd_13 rfl ?_
      refine g_get (v := .ref (a.2 73)) S ob_57 rfl gi_X5 (by decide) lf_X5_15 rfl dX5_sumFromEnd_14 ?_
      refine g_iload_n 2 S dX5_sumFromEnd_17 rfl ?_
      refine g_dup2 S dX5_sumFromEnd_18 rfl rfl ?_
      refine g_iald S ia_73 dX5_sumFromEnd_19 hf (fun hf => ?_)
      refine g_aload_n 0 S dX5_sumFromEnd_20 rfl ?_
      refine g_get (v := .ref (a.2 73)) S ob_57 rfl gi_X5 (by decide) lf_X5_15 rfl dX5_sumFromEnd_21 ?_
      refine g_iload_n 2 S dX5_sumFromEnd_24 rfl ?_
      refine g_iconst (v := 1) S dX5_sumFromEnd_25 rfl ?_
      refine g_iadd S dX5_sumFromEnd_26 ?_
      refine g_iald S ia_73 dX5_sumFromEnd_27 hf (fun hf => ?_)
      refine g_iload_n 1 S dX5_sumFromEnd_28 rfl ?_
      refine g_isub S dX5_sumFromEnd_29 ?_
      refine g_iadd S dX5_sumFromEnd_30 ?_
      refine g_iast S ia_73 dX5_sumFromEnd_31 hf (fun hf => ?_)
      refine g_aload_n 0 S dX5_sumFromEnd_32 rfl ?_
      refine g_get (v := .ref (a.2 72)) S ob_57 rfl gi_X5 (by decide) lf_X5_9 rfl dX5_sumFromEnd_33 ?_
      refine g_iload_n 2 S dX5_sumFromEnd_36 rfl ?_
      refine g_dup2 S dX5_sumFromEnd_37 rfl rfl ?_
      refine g_iald S ia_72 dX5_sumFromEnd_38 hf (fun hf => ?_)
      refine g_aload_n 0 S dX5_sumFromEnd_39 rfl ?_
      refine g_get (v := .ref (a.2 72)) S ob_57 rfl gi_X5 (by decide) lf_X5_9 rfl dX5_sumFromEnd_40 ?_
      refine g_iload_n 2 S dX5_sumFromEnd_43 rfl ?_
      refine g_iconst (v := 1) S dX5_sumFromEnd_44 rfl ?_
      refine g_iadd S dX5_sumFromEnd_45 ?_
      refine g_iald S ia_72 dX5_sumFromEnd_46 hf (fun hf => ?_)
      refine g_iadd S dX5_sumFromEnd_47 ?_
      refine g_iast S ia_72 dX5_sumFromEnd_48 hf (fun hf => ?_)
      refine g_iinc (v := (x3 + (-1))) (lv' := [(3, .int (x3 + (-1))), (0, .ref (a.2 57)), (2, .int x2)]) 2 S dX5_sumFromEnd_49 rfl rfl (by decide) rfl ?_
      refine g_goto (tgt := 8) S dX5_sumFromEnd_52 (by decide) ?_
      refine Go.sub [1, 2, 0] rfl ?_
      exact ih _ _ _ hf
def f_X5_sumFromEnd (z : Nat → Nat) (M : Mem) (p1 : Int32) (p2 : Int32) : Option Mem := f_X5_sumFromEnd_8 z 1000 M p2 (imin p1 200)
theorem c_X5_sumFromEnd {l : Launch} {G : GG} {a : AA} {M : Mem} {p1 : Int32} {p2 : Int32}  {M' : Mem} (hf : f_X5_sumFromEnd a.1 M p1 p2 = some M') : CtV l G a yX5_sumFromEnd cX5_sumFromEnd 4 (rmD 1) [.ref (a.2 57), .int p1, .int p2] M M' := by
  refine ct_V (by decide) rfl (own := RX5) (Nat.le_of_ble_eq_true rfl) (fun K hl hg S rt => ?_)
  subst hl; subst hg
  unfold f_X5_sumFromEnd at hf
  show Go K 4 a M 0 [(0, .ref (a.2 57)), (1, .int p1), (2, .int p2)] []
  refine g_iload_n 1 S dX5_sumFromEnd_0 rfl ?_
  refine g_sipush (v := 200) S dX5_sumFromEnd_1 rfl ?_
  refine g_mmin S lk_X5_28 (by decide) (Nat.le_of_ble_eq_true rfl) dX5_sumFromEnd_4 ?_
  refine g_istore_n (lv' := [(3, .int (imin p1 200)), (0, .ref (a.2 57)), (1, .int p1), (2, .int p2)]) S dX5_sumFromEnd_7 (by decide) rfl ?_
  refine Go.sub [1, 3, 0] rfl ?_
  exact t_X5_sumFromEnd_8  S rt 1000 _ _ _ hf
-- BridleBook$Train.acrossAt(I)I
theorem dX5_acrossAt_0 : decode cX5_acrossAt 0 = .ok (.iload_n 1, 1) := by decide +kernel
theorem dX5_acrossAt_1 : decode cX5_acrossAt 1 = .ok (.iconst 1, 1) := by decide +kernel
theorem dX5_acrossAt_2 : decode cX5_acrossAt 2 = .ok (.sipush 200, 3) := by decide +kernel
theorem dX5_acrossAt_5 : decode cX5_acrossAt 5 = .ok (.invokestatic 24, 3) := by decide +kernel
theorem dX5_acrossAt_8 : decode cX5_acrossAt 8 = .ok (.ifCond .eq 12, 3) := by decide +kernel
theorem dX5_acrossAt_11 : decode cX5_acrossAt 11 = .ok (.aload_n 0, 1) := by decide +kernel
theorem dX5_acrossAt_12 : decode cX5_acrossAt 12 = .ok (.getfield 9, 3) := by decide +kernel
theorem dX5_acrossAt_15 : decode cX5_acrossAt 15 = .ok (.iload_n 1, 1) := by decide +kernel
theorem dX5_acrossAt_16 : decode cX5_acrossAt 16 = .ok (.iaload, 1) := by decide +kernel
theorem dX5_acrossAt_17 : decode cX5_acrossAt 17 = .ok (.goto 4, 3) := by decide +kernel
theorem dX5_acrossAt_20 : decode cX5_acrossAt 20 = .ok (.iconst 0, 1) := by decide +kernel
theorem dX5_acrossAt_21 : decode cX5_acrossAt 21 = .ok (.ireturn, 1) := by decide +kernel
def f_X5_acrossAt (z : Nat → Nat) (M : Mem) (p1 : Int32) : Option Int32 := bd1 (f_X7_within z M p1 1 200) (fun r1 => if r1 = true then ck (inb p1 202) (some (M 72 (p1).toNatClampNeg)) else some 0)
theorem c_X5_acrossAt {l : Launch} {G : GG} {a : AA} {M : Mem} {p1 : Int32} {r : Int32} (hf : f_X5_acrossAt a.1 M p1 = some r) : CtI l G a yX5_acrossAt cX5_acrossAt 2 .int (rmD 1) [.ref (a.2 57), .int p1] M r M := by
  refine ct_I (by decide) rfl rfl (own := RX5) (Nat.le_of_ble_eq_true rfl) (fun K hl hg S rt => ?_)
  subst hl; subst hg
  unfold f_X5_acrossAt at hf
  show Go K 2 a M 0 [(0, .ref (a.2 57)), (1, .int p1)] []
  refine g_iload_n 1 S dX5_acrossAt_0 rfl ?_
  refine g_iconst (v := 1) S dX5_acrossAt_1 rfl ?_
  refine g_sipush (v := 200) S dX5_acrossAt_2 rfl ?_
  obtain ⟨r1, hr1, hf⟩ := bd1_some hf
  refine g_cNI (st := []) S ok_X7_within ln_X5_24 (c_X7_within hr1) rfl rfl ⟨by decide, by decide⟩ (rmD_z _) (Nat.le_of_ble_eq_true rfl) dX5_acrossAt_5 ?_
  refine g_if_eqB (tgt := 20) S dX5_acrossAt_8 (by decide) hf (fun c hf => ?_) (fun c hf => ?_)
  · refine g_aload_n 0 S dX5_acrossAt_11 rfl ?_
    refine g_get (v := .ref (a.2 72)) S ob_57 rfl gi_X5 (by decide) lf_X5_9 rfl dX5_acrossAt_12 ?_
    refine g_iload_n 1 S dX5_acrossAt_15 rfl ?_
    refine g_iald S ia_72 dX5_acrossAt_16 hf (fun hf => ?_)
    refine g_goto (tgt := 21) S dX5_acrossAt_17 (by decide) ?_
    exact g_iretP rt hf dX5_acrossAt_21
  · refine g_iconst (v := 0) S dX5_acrossAt_20 rfl ?_
    exact g_iretP rt hf dX5_acrossAt_21
-- BridleBook$Train.upAt(I)I
theorem dX5_upAt_0 : decode cX5_upAt 0 = .ok (.iload_n 1, 1) := by decide +kernel
theorem dX5_upAt_1 : decode cX5_upAt 1 = .ok (.iconst 1, 1) := by decide +kernel
theorem dX5_upAt_2 : decode cX5_upAt 2 = .ok (.sipush 200, 3) := by decide +kernel
theorem dX5_upAt_5 : decode cX5_upAt 5 = .ok (.invokestatic 24, 3) := by decide +kernel
theorem dX5_upAt_8 : decode cX5_upAt 8 = .ok (.ifCond .eq 12, 3) := by decide +kernel
theorem dX5_upAt_11 : decode cX5_upAt 11 = .ok (.aload_n 0, 1) := by decide +kernel
theorem dX5_upAt_12 : decode cX5_upAt 12 = .ok (.getfield 15, 3) := by decide +kernel
theorem dX5_upAt_15 : decode cX5_upAt 15 = .ok (.iload_n 1, 1) := by decide +kernel
theorem dX5_upAt_16 : decode cX5_upAt 16 = .ok (.iaload, 1) := by decide +kernel
theorem dX5_upAt_17 : decode cX5_upAt 17 = .ok (.goto 4, 3) := by decide +kernel
theorem dX5_upAt_20 : decode cX5_upAt 20 = .ok (.iconst 0, 1) := by decide +kernel
theorem dX5_upAt_21 : decode cX5_upAt 21 = .ok (.ireturn, 1) := by decide +kernel
def f_X5_upAt (z : Nat → Nat) (M : Mem) (p1 : Int32) : Option Int32 := bd1 (f_X7_within z M p1 1 200) (fun r1 => if r1 = true then ck (inb p1 202) (some (M 73 (p1).toNatClampNeg)) else some 0)
theorem c_X5_upAt {l : Launch} {G : GG} {a : AA} {M : Mem} {p1 : Int32} {r : Int32} (hf : f_X5_upAt a.1 M p1 = some r) : CtI l G a yX5_upAt cX5_upAt 2 .int (rmD 1) [.ref (a.2 57), .int p1] M r M := by
  refine ct_I (by decide) rfl rfl (own := RX5) (Nat.le_of_ble_eq_true rfl) (fun K hl hg S rt => ?_)
  subst hl; subst hg
  unfold f_X5_upAt at hf
  show Go K 2 a M 0 [(0, .ref (a.2 57)), (1, .int p1)] []
  refine g_iload_n 1 S dX5_upAt_0 rfl ?_
  refine g_iconst (v := 1) S dX5_upAt_1 rfl ?_
  refine g_sipush (v := 200) S dX5_upAt_2 rfl ?_
  obtain ⟨r1, hr1, hf⟩ := bd1_some hf
  refine g_cNI (st := []) S ok_X7_within ln_X5_24 (c_X7_within hr1) rfl rfl ⟨by decide, by decide⟩ (rmD_z _) (Nat.le_of_ble_eq_true rfl) dX5_upAt_5 ?_
  refine g_if_eqB (tgt := 20) S dX5_upAt_8 (by decide) hf (fun c hf => ?_) (fun c hf => ?_)
  · refine g_aload_n 0 S dX5_upAt_11 rfl ?_
    refine g_get (v := .ref (a.2 73)) S ob_57 rfl gi_X5 (by decide) lf_X5_15 rfl dX5_upAt_12 ?_
    refine g_iload_n 1 S dX5_upAt_15 rfl ?_
    refine g_iald S ia_73 dX5_upAt_16 hf (fun hf => ?_)
    refine g_goto (tgt := 21) S dX5_upAt_17 (by decide) ?_
    exact g_iretP rt hf dX5_upAt_21
  · refine g_iconst (v := 0) S dX5_upAt_20 rfl ?_
    exact g_iretP rt hf dX5_upAt_21
-- BridleBook$Train.rootFrom(JJ)J
theorem dX5_rootFrom_0 : decode cX5_rootFrom 0 = .ok (.lload_n 0, 1) := by decide +kernel
theorem dX5_rootFrom_1 : decode cX5_rootFrom 1 = .ok (.lstore 4, 2) := by decide +kernel
theorem dX5_rootFrom_3 : decode cX5_rootFrom 3 = .ok (.iconst 0, 1) := by decide +kernel
theorem dX5_rootFrom_4 : decode cX5_rootFrom 4 = .ok (.istore 6, 2) := by decide +kernel
theorem dX5_rootFrom_6 : decode cX5_rootFrom 6 = .ok (.iload 6, 2) := by decide +kernel
theorem dX5_rootFrom_8 : decode cX5_rootFrom 8 = .ok (.bipush 64, 2) := by decide +kernel
theorem dX5_rootFrom_10 : decode cX5_rootFrom 10 = .ok (.if_icmp .ge 44, 3) := by decide +kernel
theorem dX5_rootFrom_13 : decode cX5_rootFrom 13 = .ok (.lload 4, 2) := by decide +kernel
theorem dX5_rootFrom_15 : decode cX5_rootFrom 15 = .ok (.lconst 0, 1) := by decide +kernel
theorem dX5_rootFrom_16 : decode cX5_rootFrom 16 = .ok (.lcmp, 1) := by decide +kernel
theorem dX5_rootFrom_17 : decode cX5_rootFrom 17 = .ok (.ifCond .le 37, 3) := by decide +kernel
theorem dX5_rootFrom_20 : decode cX5_rootFrom 20 = .ok (.lload 4, 2) := by decide +kernel
theorem dX5_rootFrom_22 : decode cX5_rootFrom 22 = .ok (.lload_n 2, 1) := by decide +kernel
theorem dX5_rootFrom_23 : decode cX5_rootFrom 23 = .ok (.lload 4, 2) := by decide +kernel
theorem dX5_rootFrom_25 : decode cX5_rootFrom 25 = .ok (.ldiv, 1) := by decide +kernel
theorem dX5_rootFrom_26 : decode cX5_rootFrom 26 = .ok (.ladd, 1) := by decide +kernel
theorem dX5_rootFrom_27 : decode cX5_rootFrom 27 = .ok (.ldc2_w 49, 3) := by decide +kernel
theorem dX5_rootFrom_30 : decode cX5_rootFrom 30 = .ok (.ldiv, 1) := by decide +kernel
theorem dX5_rootFrom_31 : decode cX5_rootFrom 31 = .ok (.lstore 7, 2) := by decide +kernel
theorem dX5_rootFrom_33 : decode cX5_rootFrom 33 = .ok (.lload 7, 2) := by decide +kernel
theorem dX5_rootFrom_35 : decode cX5_rootFrom 35 = .ok (.lload 4, 2) := by decide +kernel
theorem dX5_rootFrom_37 : decode cX5_rootFrom 37 = .ok (.lcmp, 1) := by decide +kernel
theorem dX5_rootFrom_38 : decode cX5_rootFrom 38 = .ok (.ifCond .lt 6, 3) := by decide +kernel
theorem dX5_rootFrom_41 : decode cX5_rootFrom 41 = .ok (.lload 4, 2) := by decide +kernel
theorem dX5_rootFrom_43 : decode cX5_rootFrom 43 = .ok (.lreturn, 1) := by decide +kernel
theorem dX5_rootFrom_44 : decode cX5_rootFrom 44 = .ok (.lload 7, 2) := by decide +kernel
theorem dX5_rootFrom_46 : decode cX5_rootFrom 46 = .ok (.lstore 4, 2) := by decide +kernel
theorem dX5_rootFrom_48 : decode cX5_rootFrom 48 = .ok (.iinc 6 1, 3) := by decide +kernel
theorem dX5_rootFrom_51 : decode cX5_rootFrom 51 = .ok (.goto (-45), 3) := by decide +kernel
theorem dX5_rootFrom_54 : decode cX5_rootFrom 54 = .ok (.lload 4, 2) := by decide +kernel
theorem dX5_rootFrom_56 : decode cX5_rootFrom 56 = .ok (.lreturn, 1) := by decide +kernel
def f_X5_rootFrom_6 (z : Nat → Nat) (M : Mem) : Nat → Int64 → Int64 → Int32 → Option Int64
  | 0, _, _, _ => none
  | fu + 1, x2, x4, x6 => if 64 ≤ x6 then some x4 else if 0 < x4 then ck (decide (¬ x4 = 0)) (if ((x4 + (x2 / x4)) / 2) < x4 then f_X5_rootFrom_6 z M fu x2 ((x4 + (x2 / x4)) / 2) (x6 + 1) else some x4) else some x4
theorem t_X5_rootFrom_6 {K : KK} {a : AA} (S : Sx K RX5 cX5_rootFrom 9 (rmD 0)) {r : Int64} {M : Mem} (rt : RtL K a cX5_rootFrom r M) : ∀ (fu : Nat) (x2 : Int64) (x4 : Int64) (x6 : Int32), f_X5_rootFrom_6 a.1 M fu x2 x4 x6 = some r → Go K 9 a M 6 [(2, .long x2), (4, .long x4), (6, .int x6)] [] := by
  intro fu
  induction fu with
  | zero => intro x2 x4 x6 hf; exact absurd hf (by simp [f_X5_rootFrom_6])
  | succ fu ih =>
    intro x2 x4 x6 hf
    rw [f_X5_rootFrom_6] at hf
    refine g_iload 2 S dX5_rootFrom_6 rfl ?_
    refine g_bipush (v := 64) S dX5_rootFrom_8 rfl ?_
    refine g_icmp_ge (tgt := 54) S dX5_rootFrom_10 (by decide) hf (fun c hf => ?_) (fun c hf => ?_)
    · refine g_lload 1 S dX5_rootFrom_54 rfl ?_
      exact g_lretP rt hf dX5_rootFrom_56
    · refine g_lload 1 S dX5_rootFrom_13 rfl ?_
      refine g_lconst (v := 0) S dX5_rootFrom_15 rfl ?_
      refine g_lcmp S dX5_rootFrom_16 ?_
      refine g_ifl_le (tgt := 54) S dX5_rootFrom_17 (by decide) hf (fun c hf => ?_) (fun c hf => ?_)
      · refine g_lload 1 S dX5_rootFrom_20 rfl ?_
        refine g_lload_n 0 S dX5_rootFrom_22 rfl ?_
        refine g_lload 1 S dX5_rootFrom_23 rfl ?_
        refine g_ldivC S dX5_rootFrom_25 hf (fun hf => ?_)
        refine g_ladd S dX5_rootFrom_26 ?_
        refine g_ldc2 S lc_X5_49 dX5_rootFrom_27 ?_
        refine g_ldiv S dX5_rootFrom_30 (by decide) ?_
        refine g_lstore (lv' := [(7, .long ((x4 + (x2 / x4)) / 2)), (2, .long x2), (4, .long x4), (6, .int x6)]) S dX5_rootFrom_31 (by decide) rfl ?_
        refine g_lload 0 S dX5_rootFrom_33 rfl ?_
        refine g_lload 2 S dX5_rootFrom_35 rfl ?_
        refine g_lcmp S dX5_rootFrom_37 ?_
        refine g_ifl_lt (tgt := 44) S dX5_rootFrom_38 (by decide) hf (fun c hf => ?_) (fun c hf => ?_)
        · refine g_lload 0 S dX5_rootFrom_44 rfl ?_
          refine g_lstore (lv' := [(4, .long ((x4 + (x2 / x4)) / 2)), (7, .long ((x4 + (x2 / x4)) / 2)), (2, .long x2), (6, .int x6)]) S dX5_rootFrom_46 (by decide) rfl ?_
          refine g_iinc (v := (x6 + 1)) (lv' := [(6, .int (x6 + 1)), (4, .long ((x4 + (x2 / x4)) / 2)), (7, .long ((x4 + (x2 / x4)) / 2)), (2, .long x2)]) 3 S dX5_rootFrom_48 rfl rfl (by decide) rfl ?_
          refine g_goto (tgt := 6) S dX5_rootFrom_51 (by decide) ?_
          refine Go.sub [3, 1, 0] rfl ?_
          exact ih _ _ _ hf
        · refine g_lload 2 S dX5_rootFrom_41 rfl ?_
          exact g_lretP rt hf dX5_rootFrom_43
      · refine g_lload 1 S dX5_rootFrom_54 rfl ?_
        exact g_lretP rt hf dX5_rootFrom_56
def f_X5_rootFrom (z : Nat → Nat) (M : Mem) (p1 : Int64) (p2 : Int64) : Option Int64 := f_X5_rootFrom_6 z M 1000 p2 p1 0
theorem c_X5_rootFrom {l : Launch} {G : GG} {a : AA} {M : Mem} {p1 : Int64} {p2 : Int64} {r : Int64} (hf : f_X5_rootFrom a.1 M p1 p2 = some r) : CtL l G a yX5_rootFrom cX5_rootFrom 9 (rmD 0) [.long p1, .long p2] M r M := by
  refine ct_L (by decide) rfl (own := RX5) (Nat.le_of_ble_eq_true rfl) (fun K hl hg S rt => ?_)
  subst hl; subst hg
  unfold f_X5_rootFrom at hf
  show Go K 9 a M 0 [(0, .long p1), (2, .long p2)] []
  refine g_lload_n 0 S dX5_rootFrom_0 rfl ?_
  refine g_lstore (lv' := [(4, .long p1), (0, .long p1), (2, .long p2)]) S dX5_rootFrom_1 (by decide) rfl ?_
  refine g_iconst (v := 0) S dX5_rootFrom_3 rfl ?_
  refine g_istore (lv' := [(6, .int 0), (4, .long p1), (0, .long p1), (2, .long p2)]) S dX5_rootFrom_4 (by decide) rfl ?_
  refine Go.sub [3, 1, 0] rfl ?_
  exact t_X5_rootFrom_6  S rt 1000 _ _ _ hf
-- BridleBook$Train.tensionAt(I)I
theorem dX5_tensionAt_0 : decode cX5_tensionAt 0 = .ok (.aload_n 0, 1) := by decide +kernel
theorem dX5_tensionAt_1 : decode cX5_tensionAt 1 = .ok (.iload_n 1, 1) := by decide +kernel
theorem dX5_tensionAt_2 : decode cX5_tensionAt 2 = .ok (.invokevirtual 34, 3) := by decide +kernel
theorem dX5_tensionAt_5 : decode cX5_tensionAt 5 = .ok (.i2l, 1) := by decide +kernel
theorem dX5_tensionAt_6 : decode cX5_tensionAt 6 = .ok (.lstore_n 2, 1) := by decide +kernel
theorem dX5_tensionAt_7 : decode cX5_tensionAt 7 = .ok (.aload_n 0, 1) := by decide +kernel
theorem dX5_tensionAt_8 : decode cX5_tensionAt 8 = .ok (.iload_n 1, 1) := by decide +kernel
theorem dX5_tensionAt_9 : decode cX5_tensionAt 9 = .ok (.invokevirtual 38, 3) := by decide +kernel
theorem dX5_tensionAt_12 : decode cX5_tensionAt 12 = .ok (.i2l, 1) := by decide +kernel
theorem dX5_tensionAt_13 : decode cX5_tensionAt 13 = .ok (.lstore 4, 2) := by decide +kernel
theorem dX5_tensionAt_15 : decode cX5_tensionAt 15 = .ok (.lload_n 2, 1) := by decide +kernel
theorem dX5_tensionAt_16 : decode cX5_tensionAt 16 = .ok (.invokestatic 41, 3) := by decide +kernel
theorem dX5_tensionAt_19 : decode cX5_tensionAt 19 = .ok (.lload 4, 2) := by decide +kernel
theorem dX5_tensionAt_21 : decode cX5_tensionAt 21 = .ok (.invokestatic 41, 3) := by decide +kernel
theorem dX5_tensionAt_24 : decode cX5_tensionAt 24 = .ok (.ladd, 1) := by decide +kernel
theorem dX5_tensionAt_25 : decode cX5_tensionAt 25 = .ok (.lload_n 2, 1) := by decide +kernel
theorem dX5_tensionAt_26 : decode cX5_tensionAt 26 = .ok (.lload_n 2, 1) := by decide +kernel
theorem dX5_tensionAt_27 : decode cX5_tensionAt 27 = .ok (.lmul, 1) := by decide +kernel
theorem dX5_tensionAt_28 : decode cX5_tensionAt 28 = .ok (.lload 4, 2) := by decide +kernel
theorem dX5_tensionAt_30 : decode cX5_tensionAt 30 = .ok (.lload 4, 2) := by decide +kernel
theorem dX5_tensionAt_32 : decode cX5_tensionAt 32 = .ok (.lmul, 1) := by decide +kernel
theorem dX5_tensionAt_33 : decode cX5_tensionAt 33 = .ok (.ladd, 1) := by decide +kernel
theorem dX5_tensionAt_34 : decode cX5_tensionAt 34 = .ok (.invokestatic 45, 3) := by decide +kernel
theorem dX5_tensionAt_37 : decode cX5_tensionAt 37 = .ok (.l2i, 1) := by decide +kernel
theorem dX5_tensionAt_38 : decode cX5_tensionAt 38 = .ok (.ireturn, 1) := by decide +kernel
def f_X5_tensionAt (z : Nat → Nat) (M : Mem) (p1 : Int32) : Option Int32 := bd1 (f_X5_acrossAt z M p1) (fun r1 => bd1 (f_X5_upAt z M p1) (fun r2 => bd1 (f_X5_rootFrom z M ((labs (r1).toInt64) + (labs (r2).toInt64)) (((r1).toInt64 * (r1).toInt64) + ((r2).toInt64 * (r2).toInt64))) (fun r3 => some (r3).toInt32)))
theorem c_X5_tensionAt {l : Launch} {G : GG} {a : AA} {M : Mem} {p1 : Int32} {r : Int32} (hf : f_X5_tensionAt a.1 M p1 = some r) : CtI l G a yX5_tensionAt cX5_tensionAt 6 .int (rmD 2) [.ref (a.2 57), .int p1] M r M := by
  refine ct_I (by decide) rfl rfl (own := RX5) (Nat.le_of_ble_eq_true rfl) (fun K hl hg S rt => ?_)
  subst hl; subst hg
  unfold f_X5_tensionAt at hf
  show Go K 6 a M 0 [(0, .ref (a.2 57)), (1, .int p1)] []
  refine g_aload_n 0 S dX5_tensionAt_0 rfl ?_
  refine g_iload_n 1 S dX5_tensionAt_1 rfl ?_
  obtain ⟨r1, hr1, hf⟩ := bd1_some hf
  refine g_cVI (st := []) S ob_57 rfl ok_X5_acrossAt lk_X5_34 (c_X5_acrossAt hr1) rfl rfl ⟨by decide, by decide⟩ (rmD_z _) (Nat.le_of_ble_eq_true rfl) dX5_tensionAt_2 ?_
  refine g_i2l S dX5_tensionAt_5 ?_
  refine g_lstore_n (lv' := [(2, .long (r1).toInt64), (0, .ref (a.2 57)), (1, .int p1)]) S dX5_tensionAt_6 (by decide) rfl ?_
  refine g_aload_n 1 S dX5_tensionAt_7 rfl ?_
  refine g_iload_n 2 S dX5_tensionAt_8 rfl ?_
  obtain ⟨r2, hr2, hf⟩ := bd1_some hf
  refine g_cVI (st := []) S ob_57 rfl ok_X5_upAt lk_X5_38 (c_X5_upAt hr2) rfl rfl ⟨by decide, by decide⟩ (rmD_z _) (Nat.le_of_ble_eq_true rfl) dX5_tensionAt_9 ?_
  refine g_i2l S dX5_tensionAt_12 ?_
  refine g_lstore (lv' := [(4, .long (r2).toInt64), (2, .long (r1).toInt64), (0, .ref (a.2 57)), (1, .int p1)]) S dX5_tensionAt_13 (by decide) rfl ?_
  refine g_lload_n 1 S dX5_tensionAt_15 rfl ?_
  refine g_mabsL S lk_X5_41 (by decide) (Nat.le_of_ble_eq_true rfl) dX5_tensionAt_16 ?_
  refine g_lload 0 S dX5_tensionAt_19 rfl ?_
  refine g_mabsL S lk_X5_41 (by decide) (Nat.le_of_ble_eq_true rfl) dX5_tensionAt_21 ?_
  refine g_ladd S dX5_tensionAt_24 ?_
  refine g_lload_n 1 S dX5_tensionAt_25 rfl ?_
  refine g_lload_n 1 S dX5_tensionAt_26 rfl ?_
  refine g_lmul S dX5_tensionAt_27 ?_
  refine g_lload 0 S dX5_tensionAt_28 rfl ?_
  refine g_lload 0 S dX5_tensionAt_30 rfl ?_
  refine g_lmul S dX5_tensionAt_32 ?_
  refine g_ladd S dX5_tensionAt_33 ?_
  obtain ⟨r3, hr3, hf⟩ := bd1_some hf
  refine g_cSL (st := []) S ok_X5_rootFrom lk_X5_45 (c_X5_rootFrom hr3) rfl rfl ⟨by decide, by decide⟩ (rmD_z _) (Nat.le_of_ble_eq_true rfl) dX5_tensionAt_34 ?_
  refine g_l2i S dX5_tensionAt_37 ?_
  exact g_iretP rt hf dX5_tensionAt_38
-- BridleBook$Train.hundredths(II)I
theorem dX5_hundredths_0 : decode cX5_hundredths 0 = .ok (.iload_n 1, 1) := by decide +kernel
theorem dX5_hundredths_1 : decode cX5_hundredths 1 = .ok (.ifCond .ne 7, 3) := by decide +kernel
theorem dX5_hundredths_4 : decode cX5_hundredths 4 = .ok (.iconst 0, 1) := by decide +kernel
theorem dX5_hundredths_5 : decode cX5_hundredths 5 = .ok (.goto 13, 3) := by decide +kernel
theorem dX5_hundredths_8 : decode cX5_hundredths 8 = .ok (.ldc2_w 51, 3) := by decide +kernel
theorem dX5_hundredths_11 : decode cX5_hundredths 11 = .ok (.iload_n 0, 1) := by decide +kernel
theorem dX5_hundredths_12 : decode cX5_hundredths 12 = .ok (.i2l, 1) := by decide +kernel
theorem dX5_hundredths_13 : decode cX5_hundredths 13 = .ok (.lmul, 1) := by decide +kernel
theorem dX5_hundredths_14 : decode cX5_hundredths 14 = .ok (.iload_n 1, 1) := by decide +kernel
theorem dX5_hundredths_15 : decode cX5_hundredths 15 = .ok (.i2l, 1) := by decide +kernel
theorem dX5_hundredths_16 : decode cX5_hundredths 16 = .ok (.ldiv, 1) := by decide +kernel
theorem dX5_hundredths_17 : decode cX5_hundredths 17 = .ok (.l2i, 1) := by decide +kernel
theorem dX5_hundredths_18 : decode cX5_hundredths 18 = .ok (.ireturn, 1) := by decide +kernel
def f_X5_hundredths (z : Nat → Nat) (M : Mem) (p1 : Int32) (p2 : Int32) : Option Int32 := if p2 = 0 then some 0 else ck (decide (¬ (p2).toInt64 = 0)) (some (((100 * (p1).toInt64) / (p2).toInt64)).toInt32)
theorem c_X5_hundredths {l : Launch} {G : GG} {a : AA} {M : Mem} {p1 : Int32} {p2 : Int32} {r : Int32} (hf : f_X5_hundredths a.1 M p1 p2 = some r) : CtI l G a yX5_hundredths cX5_hundredths 2 .int (rmD 0) [.int p1, .int p2] M r M := by
  refine ct_I (by decide) rfl rfl (own := RX5) (Nat.le_of_ble_eq_true rfl) (fun K hl hg S rt => ?_)
  subst hl; subst hg
  unfold f_X5_hundredths at hf
  show Go K 2 a M 0 [(0, .int p1), (1, .int p2)] []
  refine g_iload_n 1 S dX5_hundredths_0 rfl ?_
  refine g_if_ne (tgt := 8) S dX5_hundredths_1 (by decide) hf (fun c hf => ?_) (fun c hf => ?_)
  · refine g_iconst (v := 0) S dX5_hundredths_4 rfl ?_
    refine g_goto (tgt := 18) S dX5_hundredths_5 (by decide) ?_
    exact g_iretP rt hf dX5_hundredths_18
  · refine g_ldc2 S lc_X5_51 dX5_hundredths_8 ?_
    refine g_iload_n 0 S dX5_hundredths_11 rfl ?_
    refine g_i2l S dX5_hundredths_12 ?_
    refine g_lmul S dX5_hundredths_13 ?_
    refine g_iload_n 1 S dX5_hundredths_14 rfl ?_
    refine g_i2l S dX5_hundredths_15 ?_
    refine g_ldivC S dX5_hundredths_16 hf (fun hf => ?_)
    refine g_l2i S dX5_hundredths_17 ?_
    exact g_iretP rt hf dX5_hundredths_18
-- BridleBook$Train.placeAcross(I)I
theorem dX5_placeAcross_0 : decode cX5_placeAcross 0 = .ok (.iconst 0, 1) := by decide +kernel
theorem dX5_placeAcross_1 : decode cX5_placeAcross 1 = .ok (.istore_n 2, 1) := by decide +kernel
theorem dX5_placeAcross_2 : decode cX5_placeAcross 2 = .ok (.iconst 1, 1) := by decide +kernel
theorem dX5_placeAcross_3 : decode cX5_placeAcross 3 = .ok (.istore_n 3, 1) := by decide +kernel
theorem dX5_placeAcross_4 : decode cX5_placeAcross 4 = .ok (.iload_n 3, 1) := by decide +kernel
theorem dX5_placeAcross_5 : decode cX5_placeAcross 5 = .ok (.iload_n 1, 1) := by decide +kernel
theorem dX5_placeAcross_6 : decode cX5_placeAcross 6 = .ok (.if_icmp .gt 25, 3) := by decide +kernel
theorem dX5_placeAcross_9 : decode cX5_placeAcross 9 = .ok (.iload_n 2, 1) := by decide +kernel
theorem dX5_placeAcross_10 : decode cX5_placeAcross 10 = .ok (.aload_n 0, 1) := by decide +kernel
theorem dX5_placeAcross_11 : decode cX5_placeAcross 11 = .ok (.iload_n 3, 1) := by decide +kernel
theorem dX5_placeAcross_12 : decode cX5_placeAcross 12 = .ok (.invokevirtual 34, 3) := by decide +kernel
theorem dX5_placeAcross_15 : decode cX5_placeAcross 15 = .ok (.aload_n 0, 1) := by decide +kernel
theorem dX5_placeAcross_16 : decode cX5_placeAcross 16 = .ok (.iload_n 3, 1) := by decide +kernel
theorem dX5_placeAcross_17 : decode cX5_placeAcross 17 = .ok (.invokevirtual 53, 3) := by decide +kernel
theorem dX5_placeAcross_20 : decode cX5_placeAcross 20 = .ok (.invokestatic 56, 3) := by decide +kernel
theorem dX5_placeAcross_23 : decode cX5_placeAcross 23 = .ok (.iadd, 1) := by decide +kernel
theorem dX5_placeAcross_24 : decode cX5_placeAcross 24 = .ok (.istore_n 2, 1) := by decide +kernel
theorem dX5_placeAcross_25 : decode cX5_placeAcross 25 = .ok (.iinc 3 1, 3) := by decide +kernel
theorem dX5_placeAcross_28 : decode cX5_placeAcross 28 = .ok (.goto (-24), 3) := by decide +kernel
theorem dX5_placeAcross_31 : decode cX5_placeAcross 31 = .ok (.iload_n 2, 1) := by decide +kernel
theorem dX5_placeAcross_32 : decode cX5_placeAcross 32 = .ok (.ireturn, 1) := by decide +kernel
def f_X5_placeAcross_4 (z : Nat → Nat) (M : Mem) : Nat → Int32 → Int32 → Int32 → Option Int32
  | 0, _, _, _ => none
  | fu + 1, x1, x2, x3 => if x1 < x3 then some x2 else bd1 (f_X5_acrossAt z M x3) (fun r1 => bd1 (f_X5_tensionAt z M x3) (fun r2 => bd1 (f_X5_hundredths z M r1 r2) (fun r3 => f_X5_placeAcross_4 z M fu x1 (x2 + r3) (x3 + 1))))
theorem t_X5_placeAcross_4 {K : KK} {a : AA} (S : Sx K RX5 cX5_placeAcross 4 (rmD 3)) {r : Int32} {M : Mem} (rt : RtI K a cX5_placeAcross r M) : ∀ (fu : Nat) (x1 : Int32) (x2 : Int32) (x3 : Int32), f_X5_placeAcross_4 a.1 M fu x1 x2 x3 = some r → Go K 4 a M 4 [(0, .ref (a.2 57)), (1, .int x1), (2, .int x2), (3, .int x3)] [] := by
  intro fu
  induction fu with
  | zero => intro x1 x2 x3 hf; exact absurd hf (by simp [f_X5_placeAcross_4])
  | succ fu ih =>
    intro x1 x2 x3 hf
    rw [f_X5_placeAcross_4] at hf
    refine g_iload_n 3 S dX5_placeAcross_4 rfl ?_
    refine g_iload_n 1 S dX5_placeAcross_5 rfl ?_
    refine g_icmp_gt (tgt := 31) S dX5_placeAcross_6 (by decide) hf (fun c hf => ?_) (fun c hf => ?_)
    · refine g_iload_n 2 S dX5_placeAcross_31 rfl ?_
      exact g_iretP rt hf dX5_placeAcross_32
    · refine g_iload_n 2 S dX5_placeAcross_9 rfl ?_
      refine g_aload_n 0 S dX5_placeAcross_10 rfl ?_
      refine g_iload_n 3 S dX5_placeAcross_11 rfl ?_
      obtain ⟨r1, hr1, hf⟩ := bd1_some hf
      refine g_cVI (st := [.int x2]) S ob_57 rfl ok_X5_acrossAt lk_X5_34 (c_X5_acrossAt hr1) rfl rfl ⟨by decide, by decide⟩ (rmD_z _) (Nat.le_of_ble_eq_true rfl) dX5_placeAcross_12 ?_
      refine g_aload_n 0 S dX5_placeAcross_15 rfl ?_
      refine g_iload_n 3 S dX5_placeAcross_16 rfl ?_
      obtain ⟨r2, hr2, hf⟩ := bd1_some hf
      refine g_cVI (st := [.int r1, .int x2]) S ob_57 rfl ok_X5_tensionAt lk_X5_53 (c_X5_tensionAt hr2) rfl rfl ⟨by decide, by decide⟩ (rmD_z _) (Nat.le_of_ble_eq_true rfl) dX5_placeAcross_17 ?_
      obtain ⟨r3, hr3, hf⟩ := bd1_some hf
      refine g_cSI (st := [.int x2]) S ok_X5_hundredths lk_X5_56 (c_X5_hundredths hr3) rfl rfl ⟨by decide, by decide⟩ (rmD_z _) (Nat.le_of_ble_eq_true rfl) dX5_placeAcross_20 ?_
      refine g_iadd S dX5_placeAcross_23 ?_
      refine g_istore_n (lv' := [(2, .int (x2 + r3)), (0, .ref (a.2 57)), (1, .int x1), (3, .int x3)]) S dX5_placeAcross_24 (by decide) rfl ?_
      refine g_iinc (v := (x3 + 1)) (lv' := [(3, .int (x3 + 1)), (2, .int (x2 + r3)), (0, .ref (a.2 57)), (1, .int x1)]) 3 S dX5_placeAcross_25 rfl rfl (by decide) rfl ?_
      refine g_goto (tgt := 4) S dX5_placeAcross_28 (by decide) ?_
      refine Go.sub [2, 3, 1, 0] rfl ?_
      exact ih _ _ _ hf
def f_X5_placeAcross (z : Nat → Nat) (M : Mem) (p1 : Int32) : Option Int32 := f_X5_placeAcross_4 z M 1000 p1 0 1
theorem c_X5_placeAcross {l : Launch} {G : GG} {a : AA} {M : Mem} {p1 : Int32} {r : Int32} (hf : f_X5_placeAcross a.1 M p1 = some r) : CtI l G a yX5_placeAcross cX5_placeAcross 4 .int (rmD 3) [.ref (a.2 57), .int p1] M r M := by
  refine ct_I (by decide) rfl rfl (own := RX5) (Nat.le_of_ble_eq_true rfl) (fun K hl hg S rt => ?_)
  subst hl; subst hg
  unfold f_X5_placeAcross at hf
  show Go K 4 a M 0 [(0, .ref (a.2 57)), (1, .int p1)] []
  refine g_iconst (v := 0) S dX5_placeAcross_0 rfl ?_
  refine g_istore_n (lv' := [(2, .int 0), (0, .ref (a.2 57)), (1, .int p1)]) S dX5_placeAcross_1 (by decide) rfl ?_
  refine g_iconst (v := 1) S dX5_placeAcross_2 rfl ?_
  refine g_istore_n (lv' := [(3, .int 1), (2, .int 0), (0, .ref (a.2 57)), (1, .int p1)]) S dX5_placeAcross_3 (by decide) rfl ?_
  refine Go.sub [2, 3, 1, 0] rfl ?_
  exact t_X5_placeAcross_4  S rt 1000 _ _ _ hf
-- BridleBook$Train.placeUp(I)I
theorem dX5_placeUp_0 : decode cX5_placeUp 0 = .ok (.iconst 0, 1) := by decide +kernel
theorem dX5_placeUp_1 : decode cX5_placeUp 1 = .ok (.istore_n 2, 1) := by decide +kernel
theorem dX5_placeUp_2 : decode cX5_placeUp 2 = .ok (.iconst 1, 1) := by decide +kernel
theorem dX5_placeUp_3 : decode cX5_placeUp 3 = .ok (.istore_n 3, 1) := by decide +kernel
theorem dX5_placeUp_4 : decode cX5_placeUp 4 = .ok (.iload_n 3, 1) := by decide +kernel
theorem dX5_placeUp_5 : decode cX5_placeUp 5 = .ok (.iload_n 1, 1) := by decide +kernel
theorem dX5_placeUp_6 : decode cX5_placeUp 6 = .ok (.if_icmp .gt 25, 3) := by decide +kernel
theorem dX5_placeUp_9 : decode cX5_placeUp 9 = .ok (.iload_n 2, 1) := by decide +kernel
theorem dX5_placeUp_10 : decode cX5_placeUp 10 = .ok (.aload_n 0, 1) := by decide +kernel
theorem dX5_placeUp_11 : decode cX5_placeUp 11 = .ok (.iload_n 3, 1) := by decide +kernel
theorem dX5_placeUp_12 : decode cX5_placeUp 12 = .ok (.invokevirtual 38, 3) := by decide +kernel
theorem dX5_placeUp_15 : decode cX5_placeUp 15 = .ok (.aload_n 0, 1) := by decide +kernel
theorem dX5_placeUp_16 : decode cX5_placeUp 16 = .ok (.iload_n 3, 1) := by decide +kernel
theorem dX5_placeUp_17 : decode cX5_placeUp 17 = .ok (.invokevirtual 53, 3) := by decide +kernel
theorem dX5_placeUp_20 : decode cX5_placeUp 20 = .ok (.invokestatic 56, 3) := by decide +kernel
theorem dX5_placeUp_23 : decode cX5_placeUp 23 = .ok (.iadd, 1) := by decide +kernel
theorem dX5_placeUp_24 : decode cX5_placeUp 24 = .ok (.istore_n 2, 1) := by decide +kernel
theorem dX5_placeUp_25 : decode cX5_placeUp 25 = .ok (.iinc 3 1, 3) := by decide +kernel
theorem dX5_placeUp_28 : decode cX5_placeUp 28 = .ok (.goto (-24), 3) := by decide +kernel
theorem dX5_placeUp_31 : decode cX5_placeUp 31 = .ok (.iload_n 2, 1) := by decide +kernel
theorem dX5_placeUp_32 : decode cX5_placeUp 32 = .ok (.ireturn, 1) := by decide +kernel
def f_X5_placeUp_4 (z : Nat → Nat) (M : Mem) : Nat → Int32 → Int32 → Int32 → Option Int32
  | 0, _, _, _ => none
  | fu + 1, x1, x2, x3 => if x1 < x3 then some x2 else bd1 (f_X5_upAt z M x3) (fun r1 => bd1 (f_X5_tensionAt z M x3) (fun r2 => bd1 (f_X5_hundredths z M r1 r2) (fun r3 => f_X5_placeUp_4 z M fu x1 (x2 + r3) (x3 + 1))))
theorem t_X5_placeUp_4 {K : KK} {a : AA} (S : Sx K RX5 cX5_placeUp 4 (rmD 3)) {r : Int32} {M : Mem} (rt : RtI K a cX5_placeUp r M) : ∀ (fu : Nat) (x1 : Int32) (x2 : Int32) (x3 : Int32), f_X5_placeUp_4 a.1 M fu x1 x2 x3 = some r → Go K 4 a M 4 [(0, .ref (a.2 57)), (1, .int x1), (2, .int x2), (3, .int x3)] [] := by
  intro fu
  induction fu with
  | zero => intro x1 x2 x3 hf; exact absurd hf (by simp [f_X5_placeUp_4])
  | succ fu ih =>
    intro x1 x2 x3 hf
    rw [f_X5_placeUp_4] at hf
    refine g_iload_n 3 S dX5_placeUp_4 rfl ?_
    refine g_iload_n 1 S dX5_placeUp_5 rfl ?_
    refine g_icmp_gt (tgt := 31) S dX5_placeUp_6 (by decide) hf (fun c hf => ?_) (fun c hf => ?_)
    · refine g_iload_n 2 S dX5_placeUp_31 rfl ?_
      exact g_iretP rt hf dX5_placeUp_32
    · refine g_iload_n 2 S dX5_placeUp_9 rfl ?_
      refine g_aload_n 0 S dX5_placeUp_10 rfl ?_
      refine g_iload_n 3 S dX5_placeUp_11 rfl ?_
      obtain ⟨r1, hr1, hf⟩ := bd1_some hf
      refine g_cVI (st := [.int x2]) S ob_57 rfl ok_X5_upAt lk_X5_38 (c_X5_upAt hr1) rfl rfl ⟨by decide, by decide⟩ (rmD_z _) (Nat.le_of_ble_eq_true rfl) dX5_placeUp_12 ?_
      refine g_aload_n 0 S dX5_placeUp_15 rfl ?_
      refine g_iload_n 3 S dX5_placeUp_16 rfl ?_
      obtain ⟨r2, hr2, hf⟩ := bd1_some hf
      refine g_cVI (st := [.int r1, .int x2]) S ob_57 rfl ok_X5_tensionAt lk_X5_53 (c_X5_tensionAt hr2) rfl rfl ⟨by decide, by decide⟩ (rmD_z _) (Nat.le_of_ble_eq_true rfl) dX5_placeUp_17 ?_
      obtain ⟨r3, hr3, hf⟩ := bd1_some hf
      refine g_cSI (st := [.int x2]) S ok_X5_hundredths lk_X5_56 (c_X5_hundredths hr3) rfl rfl ⟨by decide, by decide⟩ (rmD_z _) (Nat.le_of_ble_eq_true rfl) dX5_placeUp_20 ?_
      refine g_iadd S dX5_placeUp_23 ?_
      refine g_istore_n (lv' := [(2, .int (x2 + r3)), (0, .ref (a.2 57)), (1, .int x1), (3, .int x3)]) S dX5_placeUp_24 (by decide) rfl ?_
      refine g_iinc (v := (x3 + 1)) (lv' := [(3, .int (x3 + 1)), (2, .int (x2 + r3)), (0, .ref (a.2 57)), (1, .int x1)]) 3 S dX5_placeUp_25 rfl rfl (by decide) rfl ?_
      refine g_goto (tgt := 4) S dX5_placeUp_28 (by decide) ?_
      refine Go.sub [2, 3, 1, 0] rfl ?_
      exact ih _ _ _ hf
def f_X5_placeUp (z : Nat → Nat) (M : Mem) (p1 : Int32) : Option Int32 := f_X5_placeUp_4 z M 1000 p1 0 1
theorem c_X5_placeUp {l : Launch} {G : GG} {a : AA} {M : Mem} {p1 : Int32} {r : Int32} (hf : f_X5_placeUp a.1 M p1 = some r) : CtI l G a yX5_placeUp cX5_placeUp 4 .int (rmD 3) [.ref (a.2 57), .int p1] M r M := by
  refine ct_I (by decide) rfl rfl (own := RX5) (Nat.le_of_ble_eq_true rfl) (fun K hl hg S rt => ?_)
  subst hl; subst hg
  unfold f_X5_placeUp at hf
  show Go K 4 a M 0 [(0, .ref (a.2 57)), (1, .int p1)] []
  refine g_iconst (v := 0) S dX5_placeUp_0 rfl ?_
  refine g_istore_n (lv' := [(2, .int 0), (0, .ref (a.2 57)), (1, .int p1)]) S dX5_placeUp_1 (by decide) rfl ?_
  refine g_iconst (v := 1) S dX5_placeUp_2 rfl ?_
  refine g_istore_n (lv' := [(3, .int 1), (2, .int 0), (0, .ref (a.2 57)), (1, .int p1)]) S dX5_placeUp_3 (by decide) rfl ?_
  refine Go.sub [2, 3, 1, 0] rfl ?_
  exact t_X5_placeUp_4  S rt 1000 _ _ _ hf
-- BridleBook$TurnRow.codeOf(III)I
theorem dX6_codeOf_0 : decode cX6_codeOf 0 = .ok (.iload_n 2, 1) := by decide +kernel
theorem dX6_codeOf_1 : decode cX6_codeOf 1 = .ok (.bipush 10, 2) := by decide +kernel
theorem dX6_codeOf_3 : decode cX6_codeOf 3 = .ok (.iload_n 0, 1) := by decide +kernel
theorem dX6_codeOf_4 : decode cX6_codeOf 4 = .ok (.iload_n 1, 1) := by decide +kernel
theorem dX6_codeOf_5 : decode cX6_codeOf 5 = .ok (.invokestatic 19, 3) := by decide +kernel
theorem dX6_codeOf_8 : decode cX6_codeOf 8 = .ok (.imul, 1) := by decide +kernel
theorem dX6_codeOf_9 : decode cX6_codeOf 9 = .ok (.iload_n 0, 1) := by decide +kernel
theorem dX6_codeOf_10 : decode cX6_codeOf 10 = .ok (.iload_n 1, 1) := by decide +kernel
theorem dX6_codeOf_11 : decode cX6_codeOf 11 = .ok (.invokestatic 25, 3) := by decide +kernel
theorem dX6_codeOf_14 : decode cX6_codeOf 14 = .ok (.iadd, 1) := by decide +kernel
theorem dX6_codeOf_15 : decode cX6_codeOf 15 = .ok (.imul, 1) := by decide +kernel
theorem dX6_codeOf_16 : decode cX6_codeOf 16 = .ok (.ireturn, 1) := by decide +kernel
def f_X6_codeOf (z : Nat → Nat) (M : Mem) (p1 : Int32) (p2 : Int32) (p3 : Int32) : Option Int32 := some (p3 * ((10 * (imin p1 p2)) + (imax p1 p2)))
theorem c_X6_codeOf {l : Launch} {G : GG} {a : AA} {M : Mem} {p1 : Int32} {p2 : Int32} {p3 : Int32} {r : Int32} (hf : f_X6_codeOf a.1 M p1 p2 p3 = some r) : CtI l G a yX6_codeOf cX6_codeOf 3 .int (rmD 1) [.int p1, .int p2, .int p3] M r M := by
  refine ct_I (by decide) rfl rfl (own := RX6) (Nat.le_of_ble_eq_true rfl) (fun K hl hg S rt => ?_)
  subst hl; subst hg
  unfold f_X6_codeOf at hf
  show Go K 3 a M 0 [(0, .int p1), (1, .int p2), (2, .int p3)] []
  refine g_iload_n 2 S dX6_codeOf_0 rfl ?_
  refine g_bipush (v := 10) S dX6_codeOf_1 rfl ?_
  refine g_iload_n 0 S dX6_codeOf_3 rfl ?_
  refine g_iload_n 1 S dX6_codeOf_4 rfl ?_
  refine g_mmin S lk_X6_19 (by decide) (Nat.le_of_ble_eq_true rfl) dX6_codeOf_5 ?_
  refine g_imul S dX6_codeOf_8 ?_
  refine g_iload_n 0 S dX6_codeOf_9 rfl ?_
  refine g_iload_n 1 S dX6_codeOf_10 rfl ?_
  refine g_mmax S lk_X6_25 (by decide) (Nat.le_of_ble_eq_true rfl) dX6_codeOf_11 ?_
  refine g_iadd S dX6_codeOf_14 ?_
  refine g_imul S dX6_codeOf_15 ?_
  exact g_iretP rt hf dX6_codeOf_16
end
