section
/-- a private method of a class that the tables say can be made, by its rows of tables_1 -/
def lw_okq (q : MethodName × Nat) : Prop := (q.1.cls ≠ "java/lang/invoke/MethodHandle" ∧ q.1.cls ≠ "java/lang/invoke/VarHandle") ∧ Cond.instantiable q.1.cls q.2 ∈ tables_1 ∧ Cond.privateMethod q.1 ∈ tables_1 ∧ Cond.instanceMethod q.1 ∈ tables_1
theorem lw_p0 : lw_okq (⟨"BottledViews", "error", "(I)I"⟩, 9) := ⟨⟨by decide +kernel, by decide +kernel⟩, List.mem_of_getElem? (i := 14) (by decide +kernel), List.mem_of_getElem? (i := 251) (by decide +kernel), List.mem_of_getElem? (i := 252) (by decide +kernel)⟩
theorem lw_p1 : lw_okq (⟨"BottledViews", "isVillage", "(I)Z"⟩, 9) := ⟨⟨by decide +kernel, by decide +kernel⟩, List.mem_of_getElem? (i := 14) (by decide +kernel), List.mem_of_getElem? (i := 298) (by decide +kernel), List.mem_of_getElem? (i := 299) (by decide +kernel)⟩
theorem lw_p2 : lw_okq (⟨"BottledViews", "takeOut", "(II)V"⟩, 9) := ⟨⟨by decide +kernel, by decide +kernel⟩, List.mem_of_getElem? (i := 14) (by decide +kernel), List.mem_of_getElem? (i := 320) (by decide +kernel), List.mem_of_getElem? (i := 321) (by decide +kernel)⟩
theorem lw_p3 : lw_okq (⟨"BottledViews", "lawGives", "(IIII)I"⟩, 9) := ⟨⟨by decide +kernel, by decide +kernel⟩, List.mem_of_getElem? (i := 14) (by decide +kernel), List.mem_of_getElem? (i := 325) (by decide +kernel), List.mem_of_getElem? (i := 326) (by decide +kernel)⟩
theorem lw_p4 : lw_okq (⟨"BottledViews$Reader", "step", "()V"⟩, 6) := ⟨⟨by decide +kernel, by decide +kernel⟩, List.mem_of_getElem? (i := 142) (by decide +kernel), List.mem_of_getElem? (i := 337) (by decide +kernel), List.mem_of_getElem? (i := 338) (by decide +kernel)⟩
theorem lw_p5 : lw_okq (⟨"BottledViews$Reader", "readJoined", "(II)I"⟩, 6) := ⟨⟨by decide +kernel, by decide +kernel⟩, List.mem_of_getElem? (i := 142) (by decide +kernel), List.mem_of_getElem? (i := 341) (by decide +kernel), List.mem_of_getElem? (i := 342) (by decide +kernel)⟩
theorem lw_p6 : lw_okq (⟨"BottledViews$Reader", "readSingle", "(I)I"⟩, 6) := ⟨⟨by decide +kernel, by decide +kernel⟩, List.mem_of_getElem? (i := 142) (by decide +kernel), List.mem_of_getElem? (i := 345) (by decide +kernel), List.mem_of_getElem? (i := 346) (by decide +kernel)⟩
theorem lw_p7 : lw_okq (⟨"BottledViews$Reader", "refuse", "()V"⟩, 6) := ⟨⟨by decide +kernel, by decide +kernel⟩, List.mem_of_getElem? (i := 142) (by decide +kernel), List.mem_of_getElem? (i := 351) (by decide +kernel), List.mem_of_getElem? (i := 352) (by decide +kernel)⟩
theorem lw_p8 : lw_okq (⟨"BottledViews", "isBottle", "(I)Z"⟩, 9) := ⟨⟨by decide +kernel, by decide +kernel⟩, List.mem_of_getElem? (i := 14) (by decide +kernel), List.mem_of_getElem? (i := 382) (by decide +kernel), List.mem_of_getElem? (i := 383) (by decide +kernel)⟩
theorem lw_p9 : lw_okq (⟨"BottledViews$Bottle", "heldBetween", "(II)I"⟩, 6) := ⟨⟨by decide +kernel, by decide +kernel⟩, List.mem_of_getElem? (i := 63) (by decide +kernel), List.mem_of_getElem? (i := 393) (by decide +kernel), List.mem_of_getElem? (i := 394) (by decide +kernel)⟩
theorem lw_p10 : lw_okq (⟨"BottledViews", "priceOf", "(LBottledViews$Bottle;)I"⟩, 9) := ⟨⟨by decide +kernel, by decide +kernel⟩, List.mem_of_getElem? (i := 14) (by decide +kernel), List.mem_of_getElem? (i := 405) (by decide +kernel), List.mem_of_getElem? (i := 406) (by decide +kernel)⟩
theorem lw_p11 : lw_okq (⟨"BottledViews", "missingBehind", "(I)I"⟩, 9) := ⟨⟨by decide +kernel, by decide +kernel⟩, List.mem_of_getElem? (i := 14) (by decide +kernel), List.mem_of_getElem? (i := 485) (by decide +kernel), List.mem_of_getElem? (i := 486) (by decide +kernel)⟩
theorem lw_p12 : lw_okq (⟨"BottledViews$Town", "draw", "()I"⟩, 12) := ⟨⟨by decide +kernel, by decide +kernel⟩, List.mem_of_getElem? (i := 22) (by decide +kernel), List.mem_of_getElem? (i := 497) (by decide +kernel), List.mem_of_getElem? (i := 498) (by decide +kernel)⟩
theorem lw_p13 : lw_okq (⟨"BottledViews", "workOutLefts", "()V"⟩, 9) := ⟨⟨by decide +kernel, by decide +kernel⟩, List.mem_of_getElem? (i := 14) (by decide +kernel), List.mem_of_getElem? (i := 538) (by decide +kernel), List.mem_of_getElem? (i := 539) (by decide +kernel)⟩
theorem lw_p14 : lw_okq (⟨"BottledViews", "leftInAny", "(I)I"⟩, 9) := ⟨⟨by decide +kernel, by decide +kernel⟩, List.mem_of_getElem? (i := 14) (by decide +kernel), List.mem_of_getElem? (i := 542) (by decide +kernel), List.mem_of_getElem? (i := 543) (by decide +kernel)⟩
theorem lw_p15 : lw_okq (⟨"BottledViews", "workOutPrices", "()V"⟩, 9) := ⟨⟨by decide +kernel, by decide +kernel⟩, List.mem_of_getElem? (i := 14) (by decide +kernel), List.mem_of_getElem? (i := 550) (by decide +kernel), List.mem_of_getElem? (i := 551) (by decide +kernel)⟩
def lw_privs_1 : List (MethodName × Nat) := [(⟨"BottledViews", "error", "(I)I"⟩, 9), (⟨"BottledViews", "isVillage", "(I)Z"⟩, 9), (⟨"BottledViews", "takeOut", "(II)V"⟩, 9), (⟨"BottledViews", "lawGives", "(IIII)I"⟩, 9), (⟨"BottledViews$Reader", "step", "()V"⟩, 6), (⟨"BottledViews$Reader", "readJoined", "(II)I"⟩, 6), (⟨"BottledViews$Reader", "readSingle", "(I)I"⟩, 6), (⟨"BottledViews$Reader", "refuse", "()V"⟩, 6), (⟨"BottledViews", "isBottle", "(I)Z"⟩, 9), (⟨"BottledViews$Bottle", "heldBetween", "(II)I"⟩, 6), (⟨"BottledViews", "priceOf", "(LBottledViews$Bottle;)I"⟩, 9), (⟨"BottledViews", "missingBehind", "(I)I"⟩, 9), (⟨"BottledViews$Town", "draw", "()I"⟩, 12), (⟨"BottledViews", "workOutLefts", "()V"⟩, 9), (⟨"BottledViews", "leftInAny", "(I)I"⟩, 9), (⟨"BottledViews", "workOutPrices", "()V"⟩, 9)]
theorem lw_r1 : ∀ q ∈ lw_privs_1, lw_okq q := List.forall_mem_cons.mpr ⟨lw_p0, List.forall_mem_cons.mpr ⟨lw_p1, List.forall_mem_cons.mpr ⟨lw_p2, List.forall_mem_cons.mpr ⟨lw_p3, List.forall_mem_cons.mpr ⟨lw_p4, List.forall_mem_cons.mpr ⟨lw_p5, List.forall_mem_cons.mpr ⟨lw_p6, List.forall_mem_cons.mpr ⟨lw_p7, List.forall_mem_cons.mpr ⟨lw_p8, List.forall_mem_cons.mpr ⟨lw_p9, List.forall_mem_cons.mpr ⟨lw_p10, List.forall_mem_cons.mpr ⟨lw_p11, List.forall_mem_cons.mpr ⟨lw_p12, List.forall_mem_cons.mpr ⟨lw_p13, List.forall_mem_cons.mpr ⟨lw_p14, List.forall_mem_cons.mpr ⟨lw_p15, fun _ h => absurd h List.not_mem_nil⟩⟩⟩⟩⟩⟩⟩⟩⟩⟩⟩⟩⟩⟩⟩⟩
theorem lw_p16 : lw_okq (⟨"BottledViews", "priceTogether", "(I)I"⟩, 9) := ⟨⟨by decide +kernel, by decide +kernel⟩, List.mem_of_getElem? (i := 14) (by decide +kernel), List.mem_of_getElem? (i := 554) (by decide +kernel), List.mem_of_getElem? (i := 555) (by decide +kernel)⟩
theorem lw_p17 : lw_okq (⟨"BottledViews", "isApart", "(I)Z"⟩, 9) := ⟨⟨by decide +kernel, by decide +kernel⟩, List.mem_of_getElem? (i := 14) (by decide +kernel), List.mem_of_getElem? (i := 558) (by decide +kernel), List.mem_of_getElem? (i := 559) (by decide +kernel)⟩
theorem lw_p18 : lw_okq (⟨"BottledViews$Voices", "own", "(III)I"⟩, 5) := ⟨⟨by decide +kernel, by decide +kernel⟩, List.mem_of_getElem? (i := 169) (by decide +kernel), List.mem_of_getElem? (i := 586) (by decide +kernel), List.mem_of_getElem? (i := 587) (by decide +kernel)⟩
theorem lw_p19 : lw_okq (⟨"BottledViews$Voices", "work", "(III)I"⟩, 5) := ⟨⟨by decide +kernel, by decide +kernel⟩, List.mem_of_getElem? (i := 169) (by decide +kernel), List.mem_of_getElem? (i := 596) (by decide +kernel), List.mem_of_getElem? (i := 597) (by decide +kernel)⟩
theorem lw_p20 : lw_okq (⟨"BottledViews$Voices", "begin", "(I)V"⟩, 5) := ⟨⟨by decide +kernel, by decide +kernel⟩, List.mem_of_getElem? (i := 169) (by decide +kernel), List.mem_of_getElem? (i := 600) (by decide +kernel), List.mem_of_getElem? (i := 601) (by decide +kernel)⟩
theorem lw_p21 : lw_okq (⟨"BottledViews$Voices", "above", "(IIII)I"⟩, 5) := ⟨⟨by decide +kernel, by decide +kernel⟩, List.mem_of_getElem? (i := 169) (by decide +kernel), List.mem_of_getElem? (i := 604) (by decide +kernel), List.mem_of_getElem? (i := 605) (by decide +kernel)⟩
theorem lw_p22 : lw_okq (⟨"BottledViewsModel", "error", "(I)I"⟩, 19) := ⟨⟨by decide +kernel, by decide +kernel⟩, List.mem_of_getElem? (i := 693) (by decide +kernel), List.mem_of_getElem? (i := 768) (by decide +kernel), List.mem_of_getElem? (i := 769) (by decide +kernel)⟩
theorem lw_p23 : lw_okq (⟨"BottledViewsModel", "becomes", "(II)I"⟩, 19) := ⟨⟨by decide +kernel, by decide +kernel⟩, List.mem_of_getElem? (i := 693) (by decide +kernel), List.mem_of_getElem? (i := 773) (by decide +kernel), List.mem_of_getElem? (i := 774) (by decide +kernel)⟩
theorem lw_p24 : lw_okq (⟨"BottledViewsModel", "viewOf", "(II)I"⟩, 19) := ⟨⟨by decide +kernel, by decide +kernel⟩, List.mem_of_getElem? (i := 693) (by decide +kernel), List.mem_of_getElem? (i := 781) (by decide +kernel), List.mem_of_getElem? (i := 782) (by decide +kernel)⟩
theorem lw_p25 : lw_okq (⟨"BottledViewsModel", "isSeen", "(III)Z"⟩, 19) := ⟨⟨by decide +kernel, by decide +kernel⟩, List.mem_of_getElem? (i := 693) (by decide +kernel), List.mem_of_getElem? (i := 785) (by decide +kernel), List.mem_of_getElem? (i := 786) (by decide +kernel)⟩
theorem lw_p26 : lw_okq (⟨"BottledViewsModel", "isThere", "(I)Z"⟩, 19) := ⟨⟨by decide +kernel, by decide +kernel⟩, List.mem_of_getElem? (i := 693) (by decide +kernel), List.mem_of_getElem? (i := 789) (by decide +kernel), List.mem_of_getElem? (i := 790) (by decide +kernel)⟩
theorem lw_p27 : lw_okq (⟨"BottledViewsModel", "sightsOf", "(I)I"⟩, 19) := ⟨⟨by decide +kernel, by decide +kernel⟩, List.mem_of_getElem? (i := 693) (by decide +kernel), List.mem_of_getElem? (i := 796) (by decide +kernel), List.mem_of_getElem? (i := 797) (by decide +kernel)⟩
theorem lw_p28 : lw_okq (⟨"BottledViewsModel", "villagesAt", "(I)I"⟩, 19) := ⟨⟨by decide +kernel, by decide +kernel⟩, List.mem_of_getElem? (i := 693) (by decide +kernel), List.mem_of_getElem? (i := 803) (by decide +kernel), List.mem_of_getElem? (i := 804) (by decide +kernel)⟩
theorem lw_p29 : lw_okq (⟨"BottledViewsModel", "isVillage", "(I)Z"⟩, 19) := ⟨⟨by decide +kernel, by decide +kernel⟩, List.mem_of_getElem? (i := 693) (by decide +kernel), List.mem_of_getElem? (i := 816) (by decide +kernel), List.mem_of_getElem? (i := 817) (by decide +kernel)⟩
theorem lw_p30 : lw_okq (⟨"BottledViewsModel", "lay", "(III)V"⟩, 19) := ⟨⟨by decide +kernel, by decide +kernel⟩, List.mem_of_getElem? (i := 693) (by decide +kernel), List.mem_of_getElem? (i := 833) (by decide +kernel), List.mem_of_getElem? (i := 834) (by decide +kernel)⟩
theorem lw_p31 : lw_okq (⟨"BottledViewsModel", "gives", "(IIII)I"⟩, 19) := ⟨⟨by decide +kernel, by decide +kernel⟩, List.mem_of_getElem? (i := 693) (by decide +kernel), List.mem_of_getElem? (i := 837) (by decide +kernel), List.mem_of_getElem? (i := 838) (by decide +kernel)⟩
def lw_privs_2 : List (MethodName × Nat) := [(⟨"BottledViews", "priceTogether", "(I)I"⟩, 9), (⟨"BottledViews", "isApart", "(I)Z"⟩, 9), (⟨"BottledViews$Voices", "own", "(III)I"⟩, 5), (⟨"BottledViews$Voices", "work", "(III)I"⟩, 5), (⟨"BottledViews$Voices", "begin", "(I)V"⟩, 5), (⟨"BottledViews$Voices", "above", "(IIII)I"⟩, 5), (⟨"BottledViewsModel", "error", "(I)I"⟩, 19), (⟨"BottledViewsModel", "becomes", "(II)I"⟩, 19), (⟨"BottledViewsModel", "viewOf", "(II)I"⟩, 19), (⟨"BottledViewsModel", "isSeen", "(III)Z"⟩, 19), (⟨"BottledViewsModel", "isThere", "(I)Z"⟩, 19), (⟨"BottledViewsModel", "sightsOf", "(I)I"⟩, 19), (⟨"BottledViewsModel", "villagesAt", "(I)I"⟩, 19), (⟨"BottledViewsModel", "isVillage", "(I)Z"⟩, 19), (⟨"BottledViewsModel", "lay", "(III)V"⟩, 19), (⟨"BottledViewsModel", "gives", "(IIII)I"⟩, 19)]
theorem lw_r2 : ∀ q ∈ lw_privs_2, lw_okq q := List.forall_mem_cons.mpr ⟨lw_p16, List.forall_mem_cons.mpr ⟨lw_p17, List.forall_mem_cons.mpr ⟨lw_p18, List.forall_mem_cons.mpr ⟨lw_p19, List.forall_mem_cons.mpr ⟨lw_p20, List.forall_mem_cons.mpr ⟨lw_p21, List.forall_mem_cons.mpr ⟨lw_p22, List.forall_mem_cons.mpr ⟨lw_p23, List.forall_mem_cons.mpr ⟨lw_p24, List.forall_mem_cons.mpr ⟨lw_p25, List.forall_mem_cons.mpr ⟨lw_p26, List.forall_mem_cons.mpr ⟨lw_p27, List.forall_mem_cons.mpr ⟨lw_p28, List.forall_mem_cons.mpr ⟨lw_p29, List.forall_mem_cons.mpr ⟨lw_p30, List.forall_mem_cons.mpr ⟨lw_p31, fun _ h => absurd h List.not_mem_nil⟩⟩⟩⟩⟩⟩⟩⟩⟩⟩⟩⟩⟩⟩⟩⟩
theorem lw_p32 : lw_okq (⟨"BottledViewsModel", "works", "(I)I"⟩, 19) := ⟨⟨by decide +kernel, by decide +kernel⟩, List.mem_of_getElem? (i := 693) (by decide +kernel), List.mem_of_getElem? (i := 841) (by decide +kernel), List.mem_of_getElem? (i := 842) (by decide +kernel)⟩
theorem lw_p33 : lw_okq (⟨"BottledViewsModel", "isBottle", "(I)Z"⟩, 19) := ⟨⟨by decide +kernel, by decide +kernel⟩, List.mem_of_getElem? (i := 693) (by decide +kernel), List.mem_of_getElem? (i := 855) (by decide +kernel), List.mem_of_getElem? (i := 856) (by decide +kernel)⟩
theorem lw_p34 : lw_okq (⟨"BottledViewsModel", "of", "(II)I"⟩, 19) := ⟨⟨by decide +kernel, by decide +kernel⟩, List.mem_of_getElem? (i := 693) (by decide +kernel), List.mem_of_getElem? (i := 859) (by decide +kernel), List.mem_of_getElem? (i := 860) (by decide +kernel)⟩
theorem lw_p35 : lw_okq (⟨"BottledViewsModel", "leftIn", "(I)I"⟩, 19) := ⟨⟨by decide +kernel, by decide +kernel⟩, List.mem_of_getElem? (i := 693) (by decide +kernel), List.mem_of_getElem? (i := 863) (by decide +kernel), List.mem_of_getElem? (i := 864) (by decide +kernel)⟩
theorem lw_p36 : lw_okq (⟨"BottledViewsModel", "between", "(III)I"⟩, 19) := ⟨⟨by decide +kernel, by decide +kernel⟩, List.mem_of_getElem? (i := 693) (by decide +kernel), List.mem_of_getElem? (i := 867) (by decide +kernel), List.mem_of_getElem? (i := 868) (by decide +kernel)⟩
theorem lw_p37 : lw_okq (⟨"BottledViewsModel", "leaguesOf", "(I)I"⟩, 19) := ⟨⟨by decide +kernel, by decide +kernel⟩, List.mem_of_getElem? (i := 693) (by decide +kernel), List.mem_of_getElem? (i := 871) (by decide +kernel), List.mem_of_getElem? (i := 872) (by decide +kernel)⟩
theorem lw_p38 : lw_okq (⟨"BottledViewsModel", "costsOf", "(I)I"⟩, 19) := ⟨⟨by decide +kernel, by decide +kernel⟩, List.mem_of_getElem? (i := 693) (by decide +kernel), List.mem_of_getElem? (i := 875) (by decide +kernel), List.mem_of_getElem? (i := 876) (by decide +kernel)⟩
theorem lw_p39 : lw_okq (⟨"BottledViewsModel", "any", "()V"⟩, 19) := ⟨⟨by decide +kernel, by decide +kernel⟩, List.mem_of_getElem? (i := 693) (by decide +kernel), List.mem_of_getElem? (i := 904) (by decide +kernel), List.mem_of_getElem? (i := 905) (by decide +kernel)⟩
theorem lw_p40 : lw_okq (⟨"BottledViewsModel", "all", "()V"⟩, 19) := ⟨⟨by decide +kernel, by decide +kernel⟩, List.mem_of_getElem? (i := 693) (by decide +kernel), List.mem_of_getElem? (i := 908) (by decide +kernel), List.mem_of_getElem? (i := 909) (by decide +kernel)⟩
theorem lw_p41 : lw_okq (⟨"BottledViewsModel", "compares", "()V"⟩, 19) := ⟨⟨by decide +kernel, by decide +kernel⟩, List.mem_of_getElem? (i := 693) (by decide +kernel), List.mem_of_getElem? (i := 912) (by decide +kernel), List.mem_of_getElem? (i := 913) (by decide +kernel)⟩
theorem lw_p42 : lw_okq (⟨"BottledViewsModel", "sum", "()V"⟩, 19) := ⟨⟨by decide +kernel, by decide +kernel⟩, List.mem_of_getElem? (i := 693) (by decide +kernel), List.mem_of_getElem? (i := 916) (by decide +kernel), List.mem_of_getElem? (i := 917) (by decide +kernel)⟩
theorem lw_p43 : lw_okq (⟨"BottledViewsModel", "times", "()V"⟩, 19) := ⟨⟨by decide +kernel, by decide +kernel⟩, List.mem_of_getElem? (i := 693) (by decide +kernel), List.mem_of_getElem? (i := 920) (by decide +kernel), List.mem_of_getElem? (i := 921) (by decide +kernel)⟩
theorem lw_p44 : lw_okq (⟨"BottledViewsModel", "one", "()V"⟩, 19) := ⟨⟨by decide +kernel, by decide +kernel⟩, List.mem_of_getElem? (i := 693) (by decide +kernel), List.mem_of_getElem? (i := 924) (by decide +kernel), List.mem_of_getElem? (i := 925) (by decide +kernel)⟩
theorem lw_p45 : lw_okq (⟨"BottledViewsModel", "look", "()I"⟩, 19) := ⟨⟨by decide +kernel, by decide +kernel⟩, List.mem_of_getElem? (i := 693) (by decide +kernel), List.mem_of_getElem? (i := 928) (by decide +kernel), List.mem_of_getElem? (i := 929) (by decide +kernel)⟩
theorem lw_p46 : lw_okq (⟨"BottledViewsModel", "nameOf", "(I)I"⟩, 19) := ⟨⟨by decide +kernel, by decide +kernel⟩, List.mem_of_getElem? (i := 693) (by decide +kernel), List.mem_of_getElem? (i := 932) (by decide +kernel), List.mem_of_getElem? (i := 933) (by decide +kernel)⟩
theorem lw_p47 : lw_okq (⟨"BottledViewsModel", "step", "(II)V"⟩, 19) := ⟨⟨by decide +kernel, by decide +kernel⟩, List.mem_of_getElem? (i := 693) (by decide +kernel), List.mem_of_getElem? (i := 936) (by decide +kernel), List.mem_of_getElem? (i := 937) (by decide +kernel)⟩
def lw_privs_3 : List (MethodName × Nat) := [(⟨"BottledViewsModel", "works", "(I)I"⟩, 19), (⟨"BottledViewsModel", "isBottle", "(I)Z"⟩, 19), (⟨"BottledViewsModel", "of", "(II)I"⟩, 19), (⟨"BottledViewsModel", "leftIn", "(I)I"⟩, 19), (⟨"BottledViewsModel", "between", "(III)I"⟩, 19), (⟨"BottledViewsModel", "leaguesOf", "(I)I"⟩, 19), (⟨"BottledViewsModel", "costsOf", "(I)I"⟩, 19), (⟨"BottledViewsModel", "any", "()V"⟩, 19), (⟨"BottledViewsModel", "all", "()V"⟩, 19), (⟨"BottledViewsModel", "compares", "()V"⟩, 19), (⟨"BottledViewsModel", "sum", "()V"⟩, 19), (⟨"BottledViewsModel", "times", "()V"⟩, 19), (⟨"BottledViewsModel", "one", "()V"⟩, 19), (⟨"BottledViewsModel", "look", "()I"⟩, 19), (⟨"BottledViewsModel", "nameOf", "(I)I"⟩, 19), (⟨"BottledViewsModel", "step", "(II)V"⟩, 19)]
theorem lw_r3 : ∀ q ∈ lw_privs_3, lw_okq q := List.forall_mem_cons.mpr ⟨lw_p32, List.forall_mem_cons.mpr ⟨lw_p33, List.forall_mem_cons.mpr ⟨lw_p34, List.forall_mem_cons.mpr ⟨lw_p35, List.forall_mem_cons.mpr ⟨lw_p36, List.forall_mem_cons.mpr ⟨lw_p37, List.forall_mem_cons.mpr ⟨lw_p38, List.forall_mem_cons.mpr ⟨lw_p39, List.forall_mem_cons.mpr ⟨lw_p40, List.forall_mem_cons.mpr ⟨lw_p41, List.forall_mem_cons.mpr ⟨lw_p42, List.forall_mem_cons.mpr ⟨lw_p43, List.forall_mem_cons.mpr ⟨lw_p44, List.forall_mem_cons.mpr ⟨lw_p45, List.forall_mem_cons.mpr ⟨lw_p46, List.forall_mem_cons.mpr ⟨lw_p47, fun _ h => absurd h List.not_mem_nil⟩⟩⟩⟩⟩⟩⟩⟩⟩⟩⟩⟩⟩⟩⟩⟩
theorem lw_p48 : lw_okq (⟨"BottledViewsModel", "opens", "(I)V"⟩, 19) := ⟨⟨by decide +kernel, by decide +kernel⟩, List.mem_of_getElem? (i := 693) (by decide +kernel), List.mem_of_getElem? (i := 940) (by decide +kernel), List.mem_of_getElem? (i := 941) (by decide +kernel)⟩
theorem lw_p49 : lw_okq (⟨"BottledViewsModel", "number", "()V"⟩, 19) := ⟨⟨by decide +kernel, by decide +kernel⟩, List.mem_of_getElem? (i := 693) (by decide +kernel), List.mem_of_getElem? (i := 944) (by decide +kernel), List.mem_of_getElem? (i := 945) (by decide +kernel)⟩
theorem lw_p50 : lw_okq (⟨"BottledViewsModel", "goesOn", "(I)V"⟩, 19) := ⟨⟨by decide +kernel, by decide +kernel⟩, List.mem_of_getElem? (i := 693) (by decide +kernel), List.mem_of_getElem? (i := 956) (by decide +kernel), List.mem_of_getElem? (i := 957) (by decide +kernel)⟩
theorem lw_p51 : lw_okq (⟨"BottledViewsModel", "day", "()V"⟩, 19) := ⟨⟨by decide +kernel, by decide +kernel⟩, List.mem_of_getElem? (i := 693) (by decide +kernel), List.mem_of_getElem? (i := 960) (by decide +kernel), List.mem_of_getElem? (i := 961) (by decide +kernel)⟩
theorem lw_p52 : lw_okq (⟨"BottledViewsModel", "missing", "()I"⟩, 19) := ⟨⟨by decide +kernel, by decide +kernel⟩, List.mem_of_getElem? (i := 693) (by decide +kernel), List.mem_of_getElem? (i := 964) (by decide +kernel), List.mem_of_getElem? (i := 965) (by decide +kernel)⟩
theorem lw_p53 : lw_okq (⟨"BottledViewsModel", "draw", "()I"⟩, 19) := ⟨⟨by decide +kernel, by decide +kernel⟩, List.mem_of_getElem? (i := 693) (by decide +kernel), List.mem_of_getElem? (i := 972) (by decide +kernel), List.mem_of_getElem? (i := 973) (by decide +kernel)⟩
theorem lw_p54 : lw_okq (⟨"BottledViewsModel", "thinks", "()V"⟩, 19) := ⟨⟨by decide +kernel, by decide +kernel⟩, List.mem_of_getElem? (i := 693) (by decide +kernel), List.mem_of_getElem? (i := 981) (by decide +kernel), List.mem_of_getElem? (i := 982) (by decide +kernel)⟩
theorem lw_p55 : lw_okq (⟨"BottledViewsModel", "putsBack", "()V"⟩, 19) := ⟨⟨by decide +kernel, by decide +kernel⟩, List.mem_of_getElem? (i := 693) (by decide +kernel), List.mem_of_getElem? (i := 988) (by decide +kernel), List.mem_of_getElem? (i := 989) (by decide +kernel)⟩
theorem lw_p56 : lw_okq (⟨"BottledViewsModel", "sees", "(II)Z"⟩, 19) := ⟨⟨by decide +kernel, by decide +kernel⟩, List.mem_of_getElem? (i := 693) (by decide +kernel), List.mem_of_getElem? (i := 1009) (by decide +kernel), List.mem_of_getElem? (i := 1010) (by decide +kernel)⟩
theorem lw_p57 : lw_okq (⟨"BottledViewsModel", "worth", "(I)I"⟩, 19) := ⟨⟨by decide +kernel, by decide +kernel⟩, List.mem_of_getElem? (i := 693) (by decide +kernel), List.mem_of_getElem? (i := 1025) (by decide +kernel), List.mem_of_getElem? (i := 1026) (by decide +kernel)⟩
theorem lw_p58 : lw_okq (⟨"BottledViewsModel", "pours", "(II)I"⟩, 19) := ⟨⟨by decide +kernel, by decide +kernel⟩, List.mem_of_getElem? (i := 693) (by decide +kernel), List.mem_of_getElem? (i := 1049) (by decide +kernel), List.mem_of_getElem? (i := 1050) (by decide +kernel)⟩
theorem lw_p59 : lw_okq (⟨"BottledViewsModel", "begins", "(I)V"⟩, 19) := ⟨⟨by decide +kernel, by decide +kernel⟩, List.mem_of_getElem? (i := 693) (by decide +kernel), List.mem_of_getElem? (i := 1053) (by decide +kernel), List.mem_of_getElem? (i := 1054) (by decide +kernel)⟩
theorem lw_p60 : lw_okq (⟨"BottledViewsModel", "plainPours", "(II)I"⟩, 19) := ⟨⟨by decide +kernel, by decide +kernel⟩, List.mem_of_getElem? (i := 693) (by decide +kernel), List.mem_of_getElem? (i := 1057) (by decide +kernel), List.mem_of_getElem? (i := 1058) (by decide +kernel)⟩
theorem lw_p61 : lw_okq (⟨"BottledViewsModel", "costs", "(II)I"⟩, 19) := ⟨⟨by decide +kernel, by decide +kernel⟩, List.mem_of_getElem? (i := 693) (by decide +kernel), List.mem_of_getElem? (i := 1061) (by decide +kernel), List.mem_of_getElem? (i := 1062) (by decide +kernel)⟩
theorem lw_p62 : lw_okq (⟨"BottledViewsModel", "cutCosts", "(II)I"⟩, 19) := ⟨⟨by decide +kernel, by decide +kernel⟩, List.mem_of_getElem? (i := 693) (by decide +kernel), List.mem_of_getElem? (i := 1065) (by decide +kernel), List.mem_of_getElem? (i := 1066) (by decide +kernel)⟩
theorem lw_p63 : lw_okq (⟨"BottledViewsModel", "plainCosts", "(II)I"⟩, 19) := ⟨⟨by decide +kernel, by decide +kernel⟩, List.mem_of_getElem? (i := 693) (by decide +kernel), List.mem_of_getElem? (i := 1069) (by decide +kernel), List.mem_of_getElem? (i := 1070) (by decide +kernel)⟩
def lw_privs_4 : List (MethodName × Nat) := [(⟨"BottledViewsModel", "opens", "(I)V"⟩, 19), (⟨"BottledViewsModel", "number", "()V"⟩, 19), (⟨"BottledViewsModel", "goesOn", "(I)V"⟩, 19), (⟨"BottledViewsModel", "day", "()V"⟩, 19), (⟨"BottledViewsModel", "missing", "()I"⟩, 19), (⟨"BottledViewsModel", "draw", "()I"⟩, 19), (⟨"BottledViewsModel", "thinks", "()V"⟩, 19), (⟨"BottledViewsModel", "putsBack", "()V"⟩, 19), (⟨"BottledViewsModel", "sees", "(II)Z"⟩, 19), (⟨"BottledViewsModel", "worth", "(I)I"⟩, 19), (⟨"BottledViewsModel", "pours", "(II)I"⟩, 19), (⟨"BottledViewsModel", "begins", "(I)V"⟩, 19), (⟨"BottledViewsModel", "plainPours", "(II)I"⟩, 19), (⟨"BottledViewsModel", "costs", "(II)I"⟩, 19), (⟨"BottledViewsModel", "cutCosts", "(II)I"⟩, 19), (⟨"BottledViewsModel", "plainCosts", "(II)I"⟩, 19)]
theorem lw_r4 : ∀ q ∈ lw_privs_4, lw_okq q := List.forall_mem_cons.mpr ⟨lw_p48, List.forall_mem_cons.mpr ⟨lw_p49, List.forall_mem_cons.mpr ⟨lw_p50, List.forall_mem_cons.mpr ⟨lw_p51, List.forall_mem_cons.mpr ⟨lw_p52, List.forall_mem_cons.mpr ⟨lw_p53, List.forall_mem_cons.mpr ⟨lw_p54, List.forall_mem_cons.mpr ⟨lw_p55, List.forall_mem_cons.mpr ⟨lw_p56, List.forall_mem_cons.mpr ⟨lw_p57, List.forall_mem_cons.mpr ⟨lw_p58, List.forall_mem_cons.mpr ⟨lw_p59, List.forall_mem_cons.mpr ⟨lw_p60, List.forall_mem_cons.mpr ⟨lw_p61, List.forall_mem_cons.mpr ⟨lw_p62, List.forall_mem_cons.mpr ⟨lw_p63, fun _ h => absurd h List.not_mem_nil⟩⟩⟩⟩⟩⟩⟩⟩⟩⟩⟩⟩⟩⟩⟩⟩
theorem lw_p64 : lw_okq (⟨"BottledViewsModel", "ages", "(II)I"⟩, 19) := ⟨⟨by decide +kernel, by decide +kernel⟩, List.mem_of_getElem? (i := 693) (by decide +kernel), List.mem_of_getElem? (i := 1073) (by decide +kernel), List.mem_of_getElem? (i := 1074) (by decide +kernel)⟩
theorem lw_p65 : lw_okq (⟨"BottledViewsModel", "oldAges", "(II)I"⟩, 19) := ⟨⟨by decide +kernel, by decide +kernel⟩, List.mem_of_getElem? (i := 693) (by decide +kernel), List.mem_of_getElem? (i := 1077) (by decide +kernel), List.mem_of_getElem? (i := 1078) (by decide +kernel)⟩
theorem lw_p66 : lw_okq (⟨"BottledViewsModel", "plainAges", "(II)I"⟩, 19) := ⟨⟨by decide +kernel, by decide +kernel⟩, List.mem_of_getElem? (i := 693) (by decide +kernel), List.mem_of_getElem? (i := 1081) (by decide +kernel), List.mem_of_getElem? (i := 1082) (by decide +kernel)⟩
theorem lw_p67 : lw_okq (⟨"BottledViewsModel", "tells", "(II)I"⟩, 19) := ⟨⟨by decide +kernel, by decide +kernel⟩, List.mem_of_getElem? (i := 693) (by decide +kernel), List.mem_of_getElem? (i := 1085) (by decide +kernel), List.mem_of_getElem? (i := 1086) (by decide +kernel)⟩
theorem lw_p68 : lw_okq (⟨"BottledViewsModel", "plainTells", "(II)I"⟩, 19) := ⟨⟨by decide +kernel, by decide +kernel⟩, List.mem_of_getElem? (i := 693) (by decide +kernel), List.mem_of_getElem? (i := 1089) (by decide +kernel), List.mem_of_getElem? (i := 1090) (by decide +kernel)⟩
theorem lw_p69 : lw_okq (⟨"BottledViewsModel", "notThere", "(I)I"⟩, 19) := ⟨⟨by decide +kernel, by decide +kernel⟩, List.mem_of_getElem? (i := 693) (by decide +kernel), List.mem_of_getElem? (i := 1108) (by decide +kernel), List.mem_of_getElem? (i := 1109) (by decide +kernel)⟩
theorem lw_p70 : lw_okq (⟨"BottledViewsModel", "notMoved", "(IIIII)I"⟩, 19) := ⟨⟨by decide +kernel, by decide +kernel⟩, List.mem_of_getElem? (i := 693) (by decide +kernel), List.mem_of_getElem? (i := 1116) (by decide +kernel), List.mem_of_getElem? (i := 1117) (by decide +kernel)⟩
def lw_privs_5 : List (MethodName × Nat) := [(⟨"BottledViewsModel", "ages", "(II)I"⟩, 19), (⟨"BottledViewsModel", "oldAges", "(II)I"⟩, 19), (⟨"BottledViewsModel", "plainAges", "(II)I"⟩, 19), (⟨"BottledViewsModel", "tells", "(II)I"⟩, 19), (⟨"BottledViewsModel", "plainTells", "(II)I"⟩, 19), (⟨"BottledViewsModel", "notThere", "(I)I"⟩, 19), (⟨"BottledViewsModel", "notMoved", "(IIIII)I"⟩, 19)]
theorem lw_r5 : ∀ q ∈ lw_privs_5, lw_okq q := List.forall_mem_cons.mpr ⟨lw_p64, List.forall_mem_cons.mpr ⟨lw_p65, List.forall_mem_cons.mpr ⟨lw_p66, List.forall_mem_cons.mpr ⟨lw_p67, List.forall_mem_cons.mpr ⟨lw_p68, List.forall_mem_cons.mpr ⟨lw_p69, List.forall_mem_cons.mpr ⟨lw_p70, fun _ h => absurd h List.not_mem_nil⟩⟩⟩⟩⟩⟩⟩
def lw_privs : List (MethodName × Nat) := lw_privs_1 ++ (lw_privs_2 ++ (lw_privs_3 ++ (lw_privs_4 ++ (lw_privs_5))))
def lw_tbl : List Cond := k2_sels lw_privs ++ tables_1
theorem lw_privs_ok : ∀ q ∈ lw_privs, lw_okq q := by
  show ∀ q ∈ lw_privs_1 ++ (lw_privs_2 ++ (lw_privs_3 ++ (lw_privs_4 ++ (lw_privs_5)))), lw_okq q
  exact List.forall_mem_append.mpr ⟨lw_r1, List.forall_mem_append.mpr ⟨lw_r2, List.forall_mem_append.mpr ⟨lw_r3, List.forall_mem_append.mpr ⟨lw_r4, lw_r5⟩⟩⟩⟩
end
section
def RX0 : String := "BottledViews$Bottle"
def TX0 : u_T := fun k => match k with
  | 0 => ("BottledViews$Bottle", "kind", "I", false)
  | 1 => ("BottledViews$Bottle", "m", "I", false)
  | 2 => ("BottledViews$Bottle", "from", "I", false)
  | 3 => ("BottledViews$Bottle", "holds", "I", false)
  | 4 => ("BottledViews$Bottle", "age", "I", false)
  | _ => ("BottledViews$Bottle", "opened", "Z", false)
def tyX0 : Nat → FieldType := fun k => match k with
  | 0 => .int
  | 1 => .int
  | 2 => .int
  | 3 => .int
  | 4 => .int
  | _ => .boolean
abbrev wsX00 : List Cond := u_ws RX0 TX0 6
theorem nmX0 : ∀ a, a < 6 → ∀ b, b < 6 → a ≠ b → (TX0 a).2.1 ≠ (TX0 b).2.1 := by decide +kernel
theorem tyX0_ok : ∀ k, k < 6 → parseFieldDescriptor (TX0 k).2.2.1 = some (tyX0 k) := by decide +kernel
abbrev cX0_init : ByteArray := prog_2_method_1_code
def yX0_init : MethodName := ⟨RX0, "<init>", "()V"⟩
abbrev cX0_startAs : ByteArray := prog_2_method_2_code
def yX0_startAs : MethodName := ⟨RX0, "startAs", "(III)V"⟩
abbrev cX0_turnInto : ByteArray := prog_2_method_3_code
def yX0_turnInto : MethodName := ⟨RX0, "turnInto", "(I)V"⟩
abbrev cX0_isOfKind : ByteArray := prog_2_method_4_code
def yX0_isOfKind : MethodName := ⟨RX0, "isOfKind", "(I)Z"⟩
abbrev cX0_left : ByteArray := prog_2_method_5_code
def yX0_left : MethodName := ⟨RX0, "left", "()I"⟩
abbrev cX0_heldBetween : ByteArray := prog_2_method_6_code
def yX0_heldBetween : MethodName := ⟨RX0, "heldBetween", "(II)I"⟩
abbrev cX0_leagues : ByteArray := prog_2_method_7_code
def yX0_leagues : MethodName := ⟨RX0, "leagues", "()I"⟩
abbrev cX0_priceBy : ByteArray := prog_2_method_8_code
def yX0_priceBy : MethodName := ⟨RX0, "priceBy", "(I)I"⟩
abbrev cX0_ageDay : ByteArray := prog_2_method_9_code
def yX0_ageDay : MethodName := ⟨RX0, "ageDay", "()V"⟩
abbrev cX0_copyBottle : ByteArray := prog_2_method_10_code
def yX0_copyBottle : MethodName := ⟨RX0, "copyBottle", "(LBottledViews$Bottle;)V"⟩
def RX1 : String := "BottledViews$Land"
def TX1 : u_T := fun k => match k with
  | 0 => ("BottledViews$Land", "height", "[I", true)
  | _ => ("BottledViews$Land", "missing", "[I", true)
def tyX1 : Nat → FieldType := fun k => match k with
  | 0 => .array .int
  | _ => .array .int
abbrev wsX10 : List Cond := u_ws RX1 TX1 2
theorem nmX1 : ∀ a, a < 2 → ∀ b, b < 2 → a ≠ b → (TX1 a).2.1 ≠ (TX1 b).2.1 := by decide +kernel
theorem tyX1_ok : ∀ k, k < 2 → parseFieldDescriptor (TX1 k).2.2.1 = some (tyX1 k) := by decide +kernel
abbrev cX1_init : ByteArray := prog_3_method_1_code
def yX1_init : MethodName := ⟨RX1, "<init>", "()V"⟩
abbrev cX1_goneBehind : ByteArray := prog_3_method_2_code
def yX1_goneBehind : MethodName := ⟨RX1, "goneBehind", "(I)I"⟩
abbrev cX1_sees : ByteArray := prog_3_method_3_code
def yX1_sees : MethodName := ⟨RX1, "sees", "(IIII)Z"⟩
abbrev cX1_seenFrom : ByteArray := prog_3_method_4_code
def yX1_seenFrom : MethodName := ⟨RX1, "seenFrom", "(III)I"⟩
abbrev cX1_seenAround : ByteArray := prog_3_method_5_code
def yX1_seenAround : MethodName := ⟨RX1, "seenAround", "(II)I"⟩
abbrev cX1_bringBack : ByteArray := prog_3_method_6_code
def yX1_bringBack : MethodName := ⟨RX1, "bringBack", "(I)V"⟩
abbrev cX1_growDay : ByteArray := prog_3_method_7_code
def yX1_growDay : MethodName := ⟨RX1, "growDay", "()V"⟩
abbrev cX1_copyLand : ByteArray := prog_3_method_8_code
def yX1_copyLand : MethodName := ⟨RX1, "copyLand", "(LBottledViews$Land;)V"⟩
def RX2 : String := "BottledViews$Reader"
def TX2 : u_T := fun k => match k with
  | 0 => ("BottledViews$Reader", "tape", "LBottledViews$Tape;", false)
  | 1 => ("BottledViews$Reader", "use", "I", false)
  | 2 => ("BottledViews$Reader", "named", "[I", true)
  | 3 => ("BottledViews$Reader", "next", "I", false)
  | 4 => ("BottledViews$Reader", "sign", "I", false)
  | _ => ("BottledViews$Reader", "fault", "I", false)
def tyX2 : Nat → FieldType := fun k => match k with
  | 0 => .object "BottledViews$Tape"
  | 1 => .int
  | 2 => .array .int
  | 3 => .int
  | 4 => .int
  | _ => .int
abbrev wsX20 : List Cond := u_ws RX2 TX2 6
theorem nmX2 : ∀ a, a < 6 → ∀ b, b < 6 → a ≠ b → (TX2 a).2.1 ≠ (TX2 b).2.1 := by decide +kernel
theorem tyX2_ok : ∀ k, k < 6 → parseFieldDescriptor (TX2 k).2.2.1 = some (tyX2 k) := by decide +kernel
abbrev cX2_init : ByteArray := prog_4_method_1_code
def yX2_init : MethodName := ⟨RX2, "<init>", "()V"⟩
abbrev cX2_faultOf : ByteArray := prog_4_method_2_code
def yX2_faultOf : MethodName := ⟨RX2, "faultOf", "(LBottledViews$Tape;I)I"⟩
abbrev cX2_worth : ByteArray := prog_4_method_3_code
def yX2_worth : MethodName := ⟨RX2, "worth", "(LBottledViews$Tape;IIII)I"⟩
abbrev cX2_step : ByteArray := prog_4_method_4_code
def yX2_step : MethodName := ⟨RX2, "step", "()V"⟩
abbrev cX2_refuse : ByteArray := prog_4_method_5_code
def yX2_refuse : MethodName := ⟨RX2, "refuse", "()V"⟩
abbrev cX2_readJoined : ByteArray := prog_4_method_6_code
def yX2_readJoined : MethodName := ⟨RX2, "readJoined", "(II)I"⟩
abbrev cX2_readSingle : ByteArray := prog_4_method_7_code
def yX2_readSingle : MethodName := ⟨RX2, "readSingle", "(I)I"⟩
abbrev cX2_levelOf : ByteArray := prog_4_method_8_code
def yX2_levelOf : MethodName := ⟨RX2, "levelOf", "(I)I"⟩
abbrev cX2_joined : ByteArray := prog_4_method_9_code
def yX2_joined : MethodName := ⟨RX2, "joined", "(III)I"⟩
def RX3 : String := "BottledViews$Sheet"
def TX3 : u_T := fun k => match k with
  | 0 => ("BottledViews$Sheet", "bits", "I", false)
  | 1 => ("BottledViews$Sheet", "size", "I", false)
  | _ => ("BottledViews$Sheet", "numbers", "[I", true)
def tyX3 : Nat → FieldType := fun k => match k with
  | 0 => .int
  | 1 => .int
  | _ => .array .int
abbrev wsX30 : List Cond := u_ws RX3 TX3 3
theorem nmX3 : ∀ a, a < 3 → ∀ b, b < 3 → a ≠ b → (TX3 a).2.1 ≠ (TX3 b).2.1 := by decide +kernel
theorem tyX3_ok : ∀ k, k < 3 → parseFieldDescriptor (TX3 k).2.2.1 = some (tyX3 k) := by decide +kernel
abbrev cX3_init : ByteArray := prog_5_method_1_code
def yX3_init : MethodName := ⟨RX3, "<init>", "()V"⟩
abbrev cX3_startWith : ByteArray := prog_5_method_2_code
def yX3_startWith : MethodName := ⟨RX3, "startWith", "(II)V"⟩
abbrev cX3_cut : ByteArray := prog_5_method_3_code
def yX3_cut : MethodName := ⟨RX3, "cut", "(I)I"⟩
abbrev cX3_hasRun : ByteArray := prog_5_method_4_code
def yX3_hasRun : MethodName := ⟨RX3, "hasRun", "(II)Z"⟩
def RX4 : String := "BottledViews$Tape"
def TX4 : u_T := fun k => match k with
  | 0 => ("BottledViews$Tape", "bytes", "[B", true)
  | _ => ("BottledViews$Tape", "length", "I", false)
def tyX4 : Nat → FieldType := fun k => match k with
  | 0 => .array .byte
  | _ => .int
abbrev wsX40 : List Cond := u_ws RX4 TX4 2
theorem nmX4 : ∀ a, a < 2 → ∀ b, b < 2 → a ≠ b → (TX4 a).2.1 ≠ (TX4 b).2.1 := by decide +kernel
theorem tyX4_ok : ∀ k, k < 2 → parseFieldDescriptor (TX4 k).2.2.1 = some (tyX4 k) := by decide +kernel
abbrev cX4_init : ByteArray := prog_6_method_1_code
def yX4_init : MethodName := ⟨RX4, "<init>", "()V"⟩
abbrev cX4_append : ByteArray := prog_6_method_2_code
def yX4_append : MethodName := ⟨RX4, "append", "(I)V"⟩
abbrev cX4_copyTape : ByteArray := prog_6_method_3_code
def yX4_copyTape : MethodName := ⟨RX4, "copyTape", "(LBottledViews$Tape;)V"⟩
def RX5 : String := "BottledViews$Town"
def TX5 : u_T := fun k => match k with
  | 0 => ("BottledViews$Town", "ground", "LBottledViews$Land;", true)
  | 1 => ("BottledViews$Town", "home", "[I", true)
  | 2 => ("BottledViews$Town", "villages", "I", false)
  | 3 => ("BottledViews$Town", "bottles", "[LBottledViews$Bottle;", true)
  | 4 => ("BottledViews$Town", "filled", "I", false)
  | 5 => ("BottledViews$Town", "day", "I", false)
  | 6 => ("BottledViews$Town", "z", "I", false)
  | 7 => ("BottledViews$Town", "tape", "LBottledViews$Tape;", true)
  | 8 => ("BottledViews$Town", "growsText", "LBottledViews$Tape;", true)
  | 9 => ("BottledViews$Town", "costsText", "LBottledViews$Tape;", true)
  | 10 => ("BottledViews$Town", "waiting", "[I", true)
  | _ => ("BottledViews$Town", "waits", "I", false)
def tyX5 : Nat → FieldType := fun k => match k with
  | 0 => .object "BottledViews$Land"
  | 1 => .array .int
  | 2 => .int
  | 3 => .array (.object "BottledViews$Bottle")
  | 4 => .int
  | 5 => .int
  | 6 => .int
  | 7 => .object "BottledViews$Tape"
  | 8 => .object "BottledViews$Tape"
  | 9 => .object "BottledViews$Tape"
  | 10 => .array .int
  | _ => .int
abbrev wsX50 : List Cond := u_ws RX5 TX5 12
theorem nmX5 : ∀ a, a < 12 → ∀ b, b < 12 → a ≠ b → (TX5 a).2.1 ≠ (TX5 b).2.1 := by decide +kernel
theorem tyX5_ok : ∀ k, k < 12 → parseFieldDescriptor (TX5 k).2.2.1 = some (tyX5 k) := by decide +kernel
abbrev cX5_init : ByteArray := prog_7_method_1_code
def yX5_init : MethodName := ⟨RX5, "<init>", "()V"⟩
abbrev cX5_textOf : ByteArray := prog_7_method_2_code
def yX5_textOf : MethodName := ⟨RX5, "textOf", "(I)LBottledViews$Tape;"⟩
abbrev cX5_villagesOn : ByteArray := prog_7_method_3_code
def yX5_villagesOn : MethodName := ⟨RX5, "villagesOn", "(I)I"⟩
abbrev cX5_seenByAll : ByteArray := prog_7_method_4_code
def yX5_seenByAll : MethodName := ⟨RX5, "seenByAll", "(I)I"⟩
abbrev cX5_openBottles : ByteArray := prog_7_method_5_code
def yX5_openBottles : MethodName := ⟨RX5, "openBottles", "()I"⟩
abbrev cX5_passDay : ByteArray := prog_7_method_6_code
def yX5_passDay : MethodName := ⟨RX5, "passDay", "()V"⟩
abbrev cX5_passLooseDay : ByteArray := prog_7_method_7_code
def yX5_passLooseDay : MethodName := ⟨RX5, "passLooseDay", "()V"⟩
abbrev cX5_draw : ByteArray := prog_7_method_8_code
def yX5_draw : MethodName := ⟨RX5, "draw", "()I"⟩
abbrev cX5_copyTown : ByteArray := prog_7_method_9_code
def yX5_copyTown : MethodName := ⟨RX5, "copyTown", "(LBottledViews$Town;)V"⟩
def RX6 : String := "BottledViews$Voices"
def TX6 : u_T := fun k => match k with
  | 0 => ("BottledViews$Voices", "row", "[I", true)
  | 1 => ("BottledViews$Voices", "begun", "I", false)
  | 2 => ("BottledViews$Voices", "kind", "I", false)
  | 3 => ("BottledViews$Voices", "n", "I", false)
  | _ => ("BottledViews$Voices", "m", "I", false)
def tyX6 : Nat → FieldType := fun k => match k with
  | 0 => .array .int
  | 1 => .int
  | 2 => .int
  | 3 => .int
  | _ => .int
abbrev wsX60 : List Cond := u_ws RX6 TX6 5
theorem nmX6 : ∀ a, a < 5 → ∀ b, b < 5 → a ≠ b → (TX6 a).2.1 ≠ (TX6 b).2.1 := by decide +kernel
theorem tyX6_ok : ∀ k, k < 5 → parseFieldDescriptor (TX6 k).2.2.1 = some (tyX6 k) := by decide +kernel
abbrev cX6_init : ByteArray := prog_8_method_1_code
def yX6_init : MethodName := ⟨RX6, "<init>", "()V"⟩
abbrev cX6_speak : ByteArray := prog_8_method_2_code
def yX6_speak : MethodName := ⟨RX6, "speak", "(IIIII)I"⟩
abbrev cX6_own : ByteArray := prog_8_method_3_code
def yX6_own : MethodName := ⟨RX6, "own", "(III)I"⟩
abbrev cX6_above : ByteArray := prog_8_method_4_code
def yX6_above : MethodName := ⟨RX6, "above", "(IIII)I"⟩
abbrev cX6_bodyFrom : ByteArray := prog_8_method_5_code
def yX6_bodyFrom : MethodName := ⟨RX6, "bodyFrom", "(II)I"⟩
abbrev cX6_begin : ByteArray := prog_8_method_6_code
def yX6_begin : MethodName := ⟨RX6, "begin", "(I)V"⟩
abbrev cX6_work : ByteArray := prog_8_method_7_code
def yX6_work : MethodName := ⟨RX6, "work", "(III)I"⟩
def RX7 : String := "BottledViews"
def TX7 : u_T := fun k => match k with
  | 0 => ("BottledViews", "town", "LBottledViews$Town;", true)
  | 1 => ("BottledViews", "kept", "LBottledViews$Town;", true)
  | 2 => ("BottledViews", "imagesMade", "I", false)
  | 3 => ("BottledViews", "reader", "LBottledViews$Reader;", true)
  | 4 => ("BottledViews", "voices", "LBottledViews$Voices;", true)
  | 5 => ("BottledViews", "sheets", "[LBottledViews$Sheet;", true)
  | 6 => ("BottledViews", "errorsTold", "[I", true)
  | 7 => ("BottledViews", "lefts", "[I", true)
  | _ => ("BottledViews", "prices", "[I", true)
def tyX7 : Nat → FieldType := fun k => match k with
  | 0 => .object "BottledViews$Town"
  | 1 => .object "BottledViews$Town"
  | 2 => .int
  | 3 => .object "BottledViews$Reader"
  | 4 => .object "BottledViews$Voices"
  | 5 => .array (.object "BottledViews$Sheet")
  | 6 => .array .int
  | 7 => .array .int
  | _ => .array .int
abbrev wsX70 : List Cond := u_ws RX7 TX7 9
theorem nmX7 : ∀ a, a < 9 → ∀ b, b < 9 → a ≠ b → (TX7 a).2.1 ≠ (TX7 b).2.1 := by decide +kernel
theorem tyX7_ok : ∀ k, k < 9 → parseFieldDescriptor (TX7 k).2.2.1 = some (tyX7 k) := by decide +kernel
abbrev cX7_init : ByteArray := prog_1_method_1_code
def yX7_init : MethodName := ⟨RX7, "<init>", "()V"⟩
abbrev cX7_land : ByteArray := prog_1_method_2_code
def yX7_land : MethodName := ⟨RX7, "land", "(III)I"⟩
abbrev cX7_ofPlace : ByteArray := prog_1_method_3_code
def yX7_ofPlace : MethodName := ⟨RX7, "ofPlace", "(II)I"⟩
abbrev cX7_village : ByteArray := prog_1_method_4_code
def yX7_village : MethodName := ⟨RX7, "village", "(I)I"⟩
abbrev cX7_moves : ByteArray := prog_1_method_5_code
def yX7_moves : MethodName := ⟨RX7, "moves", "(II)I"⟩
abbrev cX7_at : ByteArray := prog_1_method_6_code
def yX7_at : MethodName := ⟨RX7, "at", "(I)I"⟩
abbrev cX7_fill : ByteArray := prog_1_method_7_code
def yX7_fill : MethodName := ⟨RX7, "fill", "(IIII)I"⟩
abbrev cX7_ofBottle : ByteArray := prog_1_method_8_code
def yX7_ofBottle : MethodName := ⟨RX7, "ofBottle", "(II)I"⟩
abbrev cX7_become : ByteArray := prog_1_method_9_code
def yX7_become : MethodName := ⟨RX7, "become", "(II)I"⟩
abbrev cX7_as : ByteArray := prog_1_method_10_code
def yX7_as : MethodName := ⟨RX7, "as", "(II)I"⟩
abbrev cX7_open : ByteArray := prog_1_method_11_code
def yX7_open : MethodName := ⟨RX7, "open", "(I)I"⟩
abbrev cX7_feed : ByteArray := prog_1_method_12_code
def yX7_feed : MethodName := ⟨RX7, "feed", "(JI)I"⟩
abbrev cX7_text : ByteArray := prog_1_method_13_code
def yX7_text : MethodName := ⟨RX7, "text", "(I)I"⟩
abbrev cX7_law : ByteArray := prog_1_method_14_code
def yX7_law : MethodName := ⟨RX7, "law", "(IIII)I"⟩
abbrev cX7_days : ByteArray := prog_1_method_15_code
def yX7_days : MethodName := ⟨RX7, "days", "(I)I"⟩
abbrev cX7_loose : ByteArray := prog_1_method_16_code
def yX7_loose : MethodName := ⟨RX7, "loose", "(I)I"⟩
abbrev cX7_view : ByteArray := prog_1_method_17_code
def yX7_view : MethodName := ⟨RX7, "view", "(III)I"⟩
abbrev cX7_again : ByteArray := prog_1_method_18_code
def yX7_again : MethodName := ⟨RX7, "again", "(II)I"⟩
abbrev cX7_best : ByteArray := prog_1_method_19_code
def yX7_best : MethodName := ⟨RX7, "best", "(I)I"⟩
abbrev cX7_tower : ByteArray := prog_1_method_20_code
def yX7_tower : MethodName := ⟨RX7, "tower", "(II)I"⟩
abbrev cX7_mutual : ByteArray := prog_1_method_21_code
def yX7_mutual : MethodName := ⟨RX7, "mutual", "()I"⟩
abbrev cX7_unseen : ByteArray := prog_1_method_22_code
def yX7_unseen : MethodName := ⟨RX7, "unseen", "()I"⟩
abbrev cX7_cover : ByteArray := prog_1_method_23_code
def yX7_cover : MethodName := ⟨RX7, "cover", "(I)I"⟩
abbrev cX7_keeps : ByteArray := prog_1_method_24_code
def yX7_keeps : MethodName := ⟨RX7, "keeps", "(I)I"⟩
abbrev cX7_blend : ByteArray := prog_1_method_25_code
def yX7_blend : MethodName := ⟨RX7, "blend", "(II)I"⟩
abbrev cX7_thief : ByteArray := prog_1_method_26_code
def yX7_thief : MethodName := ⟨RX7, "thief", "(I)I"⟩
abbrev cX7_both : ByteArray := prog_1_method_27_code
def yX7_both : MethodName := ⟨RX7, "both", "()I"⟩
abbrev cX7_seed : ByteArray := prog_1_method_28_code
def yX7_seed : MethodName := ⟨RX7, "seed", "(I)I"⟩
abbrev cX7_voice : ByteArray := prog_1_method_29_code
def yX7_voice : MethodName := ⟨RX7, "voice", "(III)I"⟩
abbrev cX7_trace : ByteArray := prog_1_method_30_code
def yX7_trace : MethodName := ⟨RX7, "trace", "(I)I"⟩
abbrev cX7_sheet : ByteArray := prog_1_method_31_code
def yX7_sheet : MethodName := ⟨RX7, "sheet", "(III)I"⟩
abbrev cX7_put : ByteArray := prog_1_method_32_code
def yX7_put : MethodName := ⟨RX7, "put", "(III)I"⟩
abbrev cX7_move : ByteArray := prog_1_method_33_code
def yX7_move : MethodName := ⟨RX7, "move", "(IIIII)I"⟩
abbrev cX7_heights : ByteArray := prog_1_method_34_code
def yX7_heights : MethodName := ⟨RX7, "heights", "(I)I"⟩
abbrev cX7_judge : ByteArray := prog_1_method_35_code
def yX7_judge : MethodName := ⟨RX7, "judge", "(I)I"⟩
abbrev cX7_image : ByteArray := prog_1_method_36_code
def yX7_image : MethodName := ⟨RX7, "image", "()I"⟩
abbrev cX7_restore : ByteArray := prog_1_method_37_code
def yX7_restore : MethodName := ⟨RX7, "restore", "()I"⟩
abbrev cX7_tell : ByteArray := prog_1_method_38_code
def yX7_tell : MethodName := ⟨RX7, "tell", "(I)I"⟩
abbrev cX7_check : ByteArray := prog_1_method_39_code
def yX7_check : MethodName := ⟨RX7, "check", "()I"⟩
abbrev cX7_count : ByteArray := prog_1_method_40_code
def yX7_count : MethodName := ⟨RX7, "count", "(I)I"⟩
abbrev cX7_told : ByteArray := prog_1_method_41_code
def yX7_told : MethodName := ⟨RX7, "told", "(I)I"⟩
abbrev cX7_error : ByteArray := prog_1_method_42_code
def yX7_error : MethodName := ⟨RX7, "error", "(I)I"⟩
abbrev cX7_isWithin : ByteArray := prog_1_method_43_code
def yX7_isWithin : MethodName := ⟨RX7, "isWithin", "(III)Z"⟩
abbrev cX7_held : ByteArray := prog_1_method_44_code
def yX7_held : MethodName := ⟨RX7, "held", "(III)I"⟩
abbrev cX7_oneIf : ByteArray := prog_1_method_45_code
def yX7_oneIf : MethodName := ⟨RX7, "oneIf", "(Z)I"⟩
abbrev cX7_isPlace : ByteArray := prog_1_method_46_code
def yX7_isPlace : MethodName := ⟨RX7, "isPlace", "(I)Z"⟩
abbrev cX7_isSomePlaces : ByteArray := prog_1_method_47_code
def yX7_isSomePlaces : MethodName := ⟨RX7, "isSomePlaces", "(I)Z"⟩
abbrev cX7_isSide : ByteArray := prog_1_method_48_code
def yX7_isSide : MethodName := ⟨RX7, "isSide", "(I)Z"⟩
abbrev cX7_isKindWithNumber : ByteArray := prog_1_method_49_code
def yX7_isKindWithNumber : MethodName := ⟨RX7, "isKindWithNumber", "(I)Z"⟩
abbrev cX7_isUse : ByteArray := prog_1_method_50_code
def yX7_isUse : MethodName := ⟨RX7, "isUse", "(I)Z"⟩
abbrev cX7_isSheet : ByteArray := prog_1_method_51_code
def yX7_isSheet : MethodName := ⟨RX7, "isSheet", "(I)Z"⟩
abbrev cX7_isVillage : ByteArray := prog_1_method_52_code
def yX7_isVillage : MethodName := ⟨RX7, "isVillage", "(I)Z"⟩
abbrev cX7_isBottle : ByteArray := prog_1_method_53_code
def yX7_isBottle : MethodName := ⟨RX7, "isBottle", "(I)Z"⟩
abbrev cX7_missingBehind : ByteArray := prog_1_method_54_code
def yX7_missingBehind : MethodName := ⟨RX7, "missingBehind", "(I)I"⟩
abbrev cX7_lawGives : ByteArray := prog_1_method_55_code
def yX7_lawGives : MethodName := ⟨RX7, "lawGives", "(IIII)I"⟩
abbrev cX7_takeOut : ByteArray := prog_1_method_56_code
def yX7_takeOut : MethodName := ⟨RX7, "takeOut", "(II)V"⟩
abbrev cX7_priceOf : ByteArray := prog_1_method_57_code
def yX7_priceOf : MethodName := ⟨RX7, "priceOf", "(LBottledViews$Bottle;)I"⟩
abbrev cX7_workOutLefts : ByteArray := prog_1_method_58_code
def yX7_workOutLefts : MethodName := ⟨RX7, "workOutLefts", "()V"⟩
abbrev cX7_workOutPrices : ByteArray := prog_1_method_59_code
def yX7_workOutPrices : MethodName := ⟨RX7, "workOutPrices", "()V"⟩
abbrev cX7_leftInAny : ByteArray := prog_1_method_60_code
def yX7_leftInAny : MethodName := ⟨RX7, "leftInAny", "(I)I"⟩
abbrev cX7_isApart : ByteArray := prog_1_method_61_code
def yX7_isApart : MethodName := ⟨RX7, "isApart", "(I)Z"⟩
abbrev cX7_priceTogether : ByteArray := prog_1_method_62_code
def yX7_priceTogether : MethodName := ⟨RX7, "priceTogether", "(I)I"⟩
def RX8 : String := "BottledViewsModel"
def TX8 : u_T := fun k => match k with
  | 0 => ("BottledViewsModel", "row", "[I", true)
  | 1 => ("BottledViewsModel", "kept", "[I", true)
  | 2 => ("BottledViewsModel", "before", "[I", true)
  | 3 => ("BottledViewsModel", "images", "I", false)
  | 4 => ("BottledViewsModel", "errors", "[I", true)
  | 5 => ("BottledViewsModel", "act", "[I", true)
  | 6 => ("BottledViewsModel", "with", "[I", true)
  | 7 => ("BottledViewsModel", "facts", "[I", true)
  | 8 => ("BottledViewsModel", "pile", "[I", true)
  | 9 => ("BottledViewsModel", "laid", "I", false)
  | 10 => ("BottledViewsModel", "here", "I", false)
  | 11 => ("BottledViewsModel", "opened", "I", false)
  | 12 => ("BottledViewsModel", "bad", "Z", false)
  | 13 => ("BottledViewsModel", "using", "I", false)
  | 14 => ("BottledViewsModel", "trace", "[I", true)
  | 15 => ("BottledViewsModel", "traced", "I", false)
  | 16 => ("BottledViewsModel", "bitsOf", "[I", true)
  | 17 => ("BottledViewsModel", "sizeOf", "[I", true)
  | _ => ("BottledViewsModel", "cells", "[I", true)
def tyX8 : Nat → FieldType := fun k => match k with
  | 0 => .array .int
  | 1 => .array .int
  | 2 => .array .int
  | 3 => .int
  | 4 => .array .int
  | 5 => .array .int
  | 6 => .array .int
  | 7 => .array .int
  | 8 => .array .int
  | 9 => .int
  | 10 => .int
  | 11 => .int
  | 12 => .boolean
  | 13 => .int
  | 14 => .array .int
  | 15 => .int
  | 16 => .array .int
  | 17 => .array .int
  | _ => .array .int
abbrev wsX80 : List Cond := u_ws RX8 TX8 19
theorem nmX8 : ∀ a, a < 19 → ∀ b, b < 19 → a ≠ b → (TX8 a).2.1 ≠ (TX8 b).2.1 := by decide +kernel
theorem tyX8_ok : ∀ k, k < 19 → parseFieldDescriptor (TX8 k).2.2.1 = some (tyX8 k) := by decide +kernel
abbrev cX8_init : ByteArray := prog_10_method_1_code
def yX8_init : MethodName := ⟨RX8, "<init>", "()V"⟩
abbrev cX8_error : ByteArray := prog_10_method_2_code
def yX8_error : MethodName := ⟨RX8, "error", "(I)I"⟩
abbrev cX8_in : ByteArray := prog_10_method_3_code
def yX8_in : MethodName := ⟨RX8, "in", "(III)Z"⟩
abbrev cX8_held : ByteArray := prog_10_method_4_code
def yX8_held : MethodName := ⟨RX8, "held", "(III)I"⟩
abbrev cX8_copyAll : ByteArray := prog_10_method_5_code
def yX8_copyAll : MethodName := ⟨RX8, "copyAll", "([I[I)V"⟩
abbrev cX8_isPlace : ByteArray := prog_10_method_6_code
def yX8_isPlace : MethodName := ⟨RX8, "isPlace", "(I)Z"⟩
abbrev cX8_isVillage : ByteArray := prog_10_method_7_code
def yX8_isVillage : MethodName := ⟨RX8, "isVillage", "(I)Z"⟩
abbrev cX8_isBottle : ByteArray := prog_10_method_8_code
def yX8_isBottle : MethodName := ⟨RX8, "isBottle", "(I)Z"⟩
abbrev cX8_becomes : ByteArray := prog_10_method_9_code
def yX8_becomes : MethodName := ⟨RX8, "becomes", "(II)I"⟩
abbrev cX8_bits : ByteArray := prog_10_method_10_code
def yX8_bits : MethodName := ⟨RX8, "bits", "(I)I"⟩
abbrev cX8_steps : ByteArray := prog_10_method_11_code
def yX8_steps : MethodName := ⟨RX8, "steps", "(II)I"⟩
abbrev cX8_isThere : ByteArray := prog_10_method_12_code
def yX8_isThere : MethodName := ⟨RX8, "isThere", "(I)Z"⟩
abbrev cX8_isSeen : ByteArray := prog_10_method_13_code
def yX8_isSeen : MethodName := ⟨RX8, "isSeen", "(III)Z"⟩
abbrev cX8_viewOf : ByteArray := prog_10_method_14_code
def yX8_viewOf : MethodName := ⟨RX8, "viewOf", "(II)I"⟩
abbrev cX8_sightsOf : ByteArray := prog_10_method_15_code
def yX8_sightsOf : MethodName := ⟨RX8, "sightsOf", "(I)I"⟩
abbrev cX8_land : ByteArray := prog_10_method_16_code
def yX8_land : MethodName := ⟨RX8, "land", "(III)I"⟩
abbrev cX8_villagesAt : ByteArray := prog_10_method_17_code
def yX8_villagesAt : MethodName := ⟨RX8, "villagesAt", "(I)I"⟩
abbrev cX8_ofPlace : ByteArray := prog_10_method_18_code
def yX8_ofPlace : MethodName := ⟨RX8, "ofPlace", "(II)I"⟩
abbrev cX8_village : ByteArray := prog_10_method_19_code
def yX8_village : MethodName := ⟨RX8, "village", "(I)I"⟩
abbrev cX8_moves : ByteArray := prog_10_method_20_code
def yX8_moves : MethodName := ⟨RX8, "moves", "(II)I"⟩
abbrev cX8_at : ByteArray := prog_10_method_21_code
def yX8_at : MethodName := ⟨RX8, "at", "(I)I"⟩
abbrev cX8_of : ByteArray := prog_10_method_22_code
def yX8_of : MethodName := ⟨RX8, "of", "(II)I"⟩
abbrev cX8_lay : ByteArray := prog_10_method_23_code
def yX8_lay : MethodName := ⟨RX8, "lay", "(III)V"⟩
abbrev cX8_between : ByteArray := prog_10_method_24_code
def yX8_between : MethodName := ⟨RX8, "between", "(III)I"⟩
abbrev cX8_leftIn : ByteArray := prog_10_method_25_code
def yX8_leftIn : MethodName := ⟨RX8, "leftIn", "(I)I"⟩
abbrev cX8_leaguesOf : ByteArray := prog_10_method_26_code
def yX8_leaguesOf : MethodName := ⟨RX8, "leaguesOf", "(I)I"⟩
abbrev cX8_costsOf : ByteArray := prog_10_method_27_code
def yX8_costsOf : MethodName := ⟨RX8, "costsOf", "(I)I"⟩
abbrev cX8_isKm : ByteArray := prog_10_method_28_code
def yX8_isKm : MethodName := ⟨RX8, "isKm", "(I)Z"⟩
abbrev cX8_fill : ByteArray := prog_10_method_29_code
def yX8_fill : MethodName := ⟨RX8, "fill", "(IIII)I"⟩
abbrev cX8_ofBottle : ByteArray := prog_10_method_30_code
def yX8_ofBottle : MethodName := ⟨RX8, "ofBottle", "(II)I"⟩
abbrev cX8_become : ByteArray := prog_10_method_31_code
def yX8_become : MethodName := ⟨RX8, "become", "(II)I"⟩
abbrev cX8_isUnder : ByteArray := prog_10_method_32_code
def yX8_isUnder : MethodName := ⟨RX8, "isUnder", "(II)Z"⟩
abbrev cX8_as : ByteArray := prog_10_method_33_code
def yX8_as : MethodName := ⟨RX8, "as", "(II)I"⟩
abbrev cX8_open : ByteArray := prog_10_method_34_code
def yX8_open : MethodName := ⟨RX8, "open", "(I)I"⟩
abbrev cX8_feed : ByteArray := prog_10_method_35_code
def yX8_feed : MethodName := ⟨RX8, "feed", "(JI)I"⟩
abbrev cX8_look : ByteArray := prog_10_method_36_code
def yX8_look : MethodName := ⟨RX8, "look", "()I"⟩
abbrev cX8_step : ByteArray := prog_10_method_37_code
def yX8_step : MethodName := ⟨RX8, "step", "(II)V"⟩
abbrev cX8_nameOf : ByteArray := prog_10_method_38_code
def yX8_nameOf : MethodName := ⟨RX8, "nameOf", "(I)I"⟩
abbrev cX8_number : ByteArray := prog_10_method_39_code
def yX8_number : MethodName := ⟨RX8, "number", "()V"⟩
abbrev cX8_opens : ByteArray := prog_10_method_40_code
def yX8_opens : MethodName := ⟨RX8, "opens", "(I)V"⟩
abbrev cX8_one : ByteArray := prog_10_method_41_code
def yX8_one : MethodName := ⟨RX8, "one", "()V"⟩
abbrev cX8_times : ByteArray := prog_10_method_42_code
def yX8_times : MethodName := ⟨RX8, "times", "()V"⟩
abbrev cX8_sum : ByteArray := prog_10_method_43_code
def yX8_sum : MethodName := ⟨RX8, "sum", "()V"⟩
abbrev cX8_compares : ByteArray := prog_10_method_44_code
def yX8_compares : MethodName := ⟨RX8, "compares", "()V"⟩
abbrev cX8_all : ByteArray := prog_10_method_45_code
def yX8_all : MethodName := ⟨RX8, "all", "()V"⟩
abbrev cX8_any : ByteArray := prog_10_method_46_code
def yX8_any : MethodName := ⟨RX8, "any", "()V"⟩
abbrev cX8_text : ByteArray := prog_10_method_47_code
def yX8_text : MethodName := ⟨RX8, "text", "(I)I"⟩
abbrev cX8_twoOf : ByteArray := prog_10_method_48_code
def yX8_twoOf : MethodName := ⟨RX8, "twoOf", "(III)I"⟩
abbrev cX8_works : ByteArray := prog_10_method_49_code
def yX8_works : MethodName := ⟨RX8, "works", "(I)I"⟩
abbrev cX8_gives : ByteArray := prog_10_method_50_code
def yX8_gives : MethodName := ⟨RX8, "gives", "(IIII)I"⟩
abbrev cX8_law : ByteArray := prog_10_method_51_code
def yX8_law : MethodName := ⟨RX8, "law", "(IIII)I"⟩
abbrev cX8_day : ByteArray := prog_10_method_52_code
def yX8_day : MethodName := ⟨RX8, "day", "()V"⟩
abbrev cX8_goesOn : ByteArray := prog_10_method_53_code
def yX8_goesOn : MethodName := ⟨RX8, "goesOn", "(I)V"⟩
abbrev cX8_missing : ByteArray := prog_10_method_54_code
def yX8_missing : MethodName := ⟨RX8, "missing", "()I"⟩
abbrev cX8_days : ByteArray := prog_10_method_55_code
def yX8_days : MethodName := ⟨RX8, "days", "(I)I"⟩
abbrev cX8_draw : ByteArray := prog_10_method_56_code
def yX8_draw : MethodName := ⟨RX8, "draw", "()I"⟩
abbrev cX8_loose : ByteArray := prog_10_method_57_code
def yX8_loose : MethodName := ⟨RX8, "loose", "(I)I"⟩
abbrev cX8_thinks : ByteArray := prog_10_method_58_code
def yX8_thinks : MethodName := ⟨RX8, "thinks", "()V"⟩
abbrev cX8_putsBack : ByteArray := prog_10_method_59_code
def yX8_putsBack : MethodName := ⟨RX8, "putsBack", "()V"⟩
abbrev cX8_view : ByteArray := prog_10_method_60_code
def yX8_view : MethodName := ⟨RX8, "view", "(III)I"⟩
abbrev cX8_again : ByteArray := prog_10_method_61_code
def yX8_again : MethodName := ⟨RX8, "again", "(II)I"⟩
abbrev cX8_best : ByteArray := prog_10_method_62_code
def yX8_best : MethodName := ⟨RX8, "best", "(I)I"⟩
abbrev cX8_tower : ByteArray := prog_10_method_63_code
def yX8_tower : MethodName := ⟨RX8, "tower", "(II)I"⟩
abbrev cX8_sees : ByteArray := prog_10_method_64_code
def yX8_sees : MethodName := ⟨RX8, "sees", "(II)Z"⟩
abbrev cX8_mutual : ByteArray := prog_10_method_65_code
def yX8_mutual : MethodName := ⟨RX8, "mutual", "()I"⟩
abbrev cX8_unseen : ByteArray := prog_10_method_66_code
def yX8_unseen : MethodName := ⟨RX8, "unseen", "()I"⟩
abbrev cX8_cover : ByteArray := prog_10_method_67_code
def yX8_cover : MethodName := ⟨RX8, "cover", "(I)I"⟩
abbrev cX8_worth : ByteArray := prog_10_method_68_code
def yX8_worth : MethodName := ⟨RX8, "worth", "(I)I"⟩
abbrev cX8_keeps : ByteArray := prog_10_method_69_code
def yX8_keeps : MethodName := ⟨RX8, "keeps", "(I)I"⟩
abbrev cX8_blend : ByteArray := prog_10_method_70_code
def yX8_blend : MethodName := ⟨RX8, "blend", "(II)I"⟩
abbrev cX8_thief : ByteArray := prog_10_method_71_code
def yX8_thief : MethodName := ⟨RX8, "thief", "(I)I"⟩
abbrev cX8_both : ByteArray := prog_10_method_72_code
def yX8_both : MethodName := ⟨RX8, "both", "()I"⟩
abbrev cX8_seed : ByteArray := prog_10_method_73_code
def yX8_seed : MethodName := ⟨RX8, "seed", "(I)I"⟩
abbrev cX8_begins : ByteArray := prog_10_method_74_code
def yX8_begins : MethodName := ⟨RX8, "begins", "(I)V"⟩
abbrev cX8_plainPours : ByteArray := prog_10_method_75_code
def yX8_plainPours : MethodName := ⟨RX8, "plainPours", "(II)I"⟩
abbrev cX8_pours : ByteArray := prog_10_method_76_code
def yX8_pours : MethodName := ⟨RX8, "pours", "(II)I"⟩
abbrev cX8_plainCosts : ByteArray := prog_10_method_77_code
def yX8_plainCosts : MethodName := ⟨RX8, "plainCosts", "(II)I"⟩
abbrev cX8_cutCosts : ByteArray := prog_10_method_78_code
def yX8_cutCosts : MethodName := ⟨RX8, "cutCosts", "(II)I"⟩
abbrev cX8_costs : ByteArray := prog_10_method_79_code
def yX8_costs : MethodName := ⟨RX8, "costs", "(II)I"⟩
abbrev cX8_plainAges : ByteArray := prog_10_method_80_code
def yX8_plainAges : MethodName := ⟨RX8, "plainAges", "(II)I"⟩
abbrev cX8_oldAges : ByteArray := prog_10_method_81_code
def yX8_oldAges : MethodName := ⟨RX8, "oldAges", "(II)I"⟩
abbrev cX8_ages : ByteArray := prog_10_method_82_code
def yX8_ages : MethodName := ⟨RX8, "ages", "(II)I"⟩
abbrev cX8_plainTells : ByteArray := prog_10_method_83_code
def yX8_plainTells : MethodName := ⟨RX8, "plainTells", "(II)I"⟩
abbrev cX8_tells : ByteArray := prog_10_method_84_code
def yX8_tells : MethodName := ⟨RX8, "tells", "(II)I"⟩
abbrev cX8_voice : ByteArray := prog_10_method_85_code
def yX8_voice : MethodName := ⟨RX8, "voice", "(III)I"⟩
abbrev cX8_trace : ByteArray := prog_10_method_86_code
def yX8_trace : MethodName := ⟨RX8, "trace", "(I)I"⟩
abbrev cX8_isSheet : ByteArray := prog_10_method_87_code
def yX8_isSheet : MethodName := ⟨RX8, "isSheet", "(I)Z"⟩
abbrev cX8_sheet : ByteArray := prog_10_method_88_code
def yX8_sheet : MethodName := ⟨RX8, "sheet", "(III)I"⟩
abbrev cX8_notThere : ByteArray := prog_10_method_89_code
def yX8_notThere : MethodName := ⟨RX8, "notThere", "(I)I"⟩
abbrev cX8_put : ByteArray := prog_10_method_90_code
def yX8_put : MethodName := ⟨RX8, "put", "(III)I"⟩
abbrev cX8_notMoved : ByteArray := prog_10_method_91_code
def yX8_notMoved : MethodName := ⟨RX8, "notMoved", "(IIIII)I"⟩
abbrev cX8_move : ByteArray := prog_10_method_92_code
def yX8_move : MethodName := ⟨RX8, "move", "(IIIII)I"⟩
abbrev cX8_heights : ByteArray := prog_10_method_93_code
def yX8_heights : MethodName := ⟨RX8, "heights", "(I)I"⟩
abbrev cX8_judge : ByteArray := prog_10_method_94_code
def yX8_judge : MethodName := ⟨RX8, "judge", "(I)I"⟩
abbrev cX8_image : ByteArray := prog_10_method_95_code
def yX8_image : MethodName := ⟨RX8, "image", "()I"⟩
abbrev cX8_restore : ByteArray := prog_10_method_96_code
def yX8_restore : MethodName := ⟨RX8, "restore", "()I"⟩
abbrev cX8_tell : ByteArray := prog_10_method_97_code
def yX8_tell : MethodName := ⟨RX8, "tell", "(I)I"⟩
abbrev cX8_check : ByteArray := prog_10_method_98_code
def yX8_check : MethodName := ⟨RX8, "check", "()I"⟩
abbrev cX8_count : ByteArray := prog_10_method_99_code
def yX8_count : MethodName := ⟨RX8, "count", "(I)I"⟩
abbrev cX8_told : ByteArray := prog_10_method_100_code
def yX8_told : MethodName := ⟨RX8, "told", "(I)I"⟩
def RJ6 : String := "java/lang/Integer"
abbrev cJ6_bitCount_0f7a4 : ByteArray := prog_11_method_49_code
def yJ6_bitCount_0f7a4 : MethodName := ⟨RJ6, "bitCount", "(I)I"⟩
def RJ9 : String := "java/lang/Math"
abbrev cJ9_abs_0f7a4 : ByteArray := prog_12_method_59_code
def yJ9_abs_0f7a4 : MethodName := ⟨RJ9, "abs", "(I)I"⟩
abbrev cJ9_max_7cf53 : ByteArray := prog_12_method_65_code
def yJ9_max_7cf53 : MethodName := ⟨RJ9, "max", "(II)I"⟩
abbrev cJ9_min_7cf53 : ByteArray := prog_12_method_69_code
def yJ9_min_7cf53 : MethodName := ⟨RJ9, "min", "(II)I"⟩
def RJ10 : String := "java/lang/System"
def RL : String := "BottledViewsLaw"
abbrev cL_law : ByteArray := code
def yL_law : MethodName := ⟨RL, "law", "([I)Z"⟩
abbrev vwCl : List vw_C := [(RX0, TX0, 6), (RX1, TX1, 2), (RX2, TX2, 6), (RX3, TX3, 3), (RX4, TX4, 2), (RX5, TX5, 12), (RX6, TX6, 5), (RX7, TX7, 9), (RX8, TX8, 19)]
end
section
theorem dX0_init_0 : decode cX0_init 0 = .ok (.aload_n 0, 1) := by decide +kernel
theorem dX0_init_1 : decode cX0_init 1 = .ok (.invokespecial 3, 3) := by decide +kernel
theorem dX0_init_4 : decode cX0_init 4 = .ok (.return_, 1) := by decide +kernel
theorem dX0_startAs_0 : decode cX0_startAs 0 = .ok (.aload_n 0, 1) := by decide +kernel
theorem dX0_startAs_1 : decode cX0_startAs 1 = .ok (.iload_n 1, 1) := by decide +kernel
theorem dX0_startAs_2 : decode cX0_startAs 2 = .ok (.invokevirtual 9, 3) := by decide +kernel
theorem dX0_startAs_5 : decode cX0_startAs 5 = .ok (.aload_n 0, 1) := by decide +kernel
theorem dX0_startAs_6 : decode cX0_startAs 6 = .ok (.iload_n 2, 1) := by decide +kernel
theorem dX0_startAs_7 : decode cX0_startAs 7 = .ok (.putfield 15, 3) := by decide +kernel
theorem dX0_startAs_10 : decode cX0_startAs 10 = .ok (.aload_n 0, 1) := by decide +kernel
theorem dX0_startAs_11 : decode cX0_startAs 11 = .ok (.iload_n 3, 1) := by decide +kernel
theorem dX0_startAs_12 : decode cX0_startAs 12 = .ok (.putfield 19, 3) := by decide +kernel
theorem dX0_startAs_15 : decode cX0_startAs 15 = .ok (.aload_n 0, 1) := by decide +kernel
theorem dX0_startAs_16 : decode cX0_startAs 16 = .ok (.iconst 0, 1) := by decide +kernel
theorem dX0_startAs_17 : decode cX0_startAs 17 = .ok (.putfield 22, 3) := by decide +kernel
theorem dX0_startAs_20 : decode cX0_startAs 20 = .ok (.aload_n 0, 1) := by decide +kernel
theorem dX0_startAs_21 : decode cX0_startAs 21 = .ok (.iconst 0, 1) := by decide +kernel
theorem dX0_startAs_22 : decode cX0_startAs 22 = .ok (.putfield 25, 3) := by decide +kernel
theorem dX0_startAs_25 : decode cX0_startAs 25 = .ok (.return_, 1) := by decide +kernel
theorem dX0_turnInto_0 : decode cX0_turnInto 0 = .ok (.aload_n 0, 1) := by decide +kernel
theorem dX0_turnInto_1 : decode cX0_turnInto 1 = .ok (.iload_n 1, 1) := by decide +kernel
theorem dX0_turnInto_2 : decode cX0_turnInto 2 = .ok (.bipush 10, 2) := by decide +kernel
theorem dX0_turnInto_4 : decode cX0_turnInto 4 = .ok (.idiv, 1) := by decide +kernel
theorem dX0_turnInto_5 : decode cX0_turnInto 5 = .ok (.putfield 29, 3) := by decide +kernel
theorem dX0_turnInto_8 : decode cX0_turnInto 8 = .ok (.aload_n 0, 1) := by decide +kernel
theorem dX0_turnInto_9 : decode cX0_turnInto 9 = .ok (.iload_n 1, 1) := by decide +kernel
theorem dX0_turnInto_10 : decode cX0_turnInto 10 = .ok (.bipush 10, 2) := by decide +kernel
theorem dX0_turnInto_12 : decode cX0_turnInto 12 = .ok (.irem, 1) := by decide +kernel
theorem dX0_turnInto_13 : decode cX0_turnInto 13 = .ok (.putfield 32, 3) := by decide +kernel
theorem dX0_turnInto_16 : decode cX0_turnInto 16 = .ok (.return_, 1) := by decide +kernel
theorem dX0_isOfKind_0 : decode cX0_isOfKind 0 = .ok (.aload_n 0, 1) := by decide +kernel
theorem dX0_isOfKind_1 : decode cX0_isOfKind 1 = .ok (.getfield 29, 3) := by decide +kernel
theorem dX0_isOfKind_4 : decode cX0_isOfKind 4 = .ok (.istore_n 2, 1) := by decide +kernel
theorem dX0_isOfKind_5 : decode cX0_isOfKind 5 = .ok (.iconst 0, 1) := by decide +kernel
theorem dX0_isOfKind_6 : decode cX0_isOfKind 6 = .ok (.istore_n 3, 1) := by decide +kernel
theorem dX0_isOfKind_7 : decode cX0_isOfKind 7 = .ok (.iload_n 3, 1) := by decide +kernel
theorem dX0_isOfKind_8 : decode cX0_isOfKind 8 = .ok (.iconst 3, 1) := by decide +kernel
theorem dX0_isOfKind_9 : decode cX0_isOfKind 9 = .ok (.if_icmp .ge 22, 3) := by decide +kernel
theorem dX0_isOfKind_12 : decode cX0_isOfKind 12 = .ok (.iload_n 2, 1) := by decide +kernel
theorem dX0_isOfKind_13 : decode cX0_isOfKind 13 = .ok (.iload_n 1, 1) := by decide +kernel
theorem dX0_isOfKind_14 : decode cX0_isOfKind 14 = .ok (.if_icmp .ne 5, 3) := by decide +kernel
theorem dX0_isOfKind_17 : decode cX0_isOfKind 17 = .ok (.iconst 1, 1) := by decide +kernel
theorem dX0_isOfKind_18 : decode cX0_isOfKind 18 = .ok (.ireturn, 1) := by decide +kernel
theorem dX0_isOfKind_19 : decode cX0_isOfKind 19 = .ok (.getstatic 35, 3) := by decide +kernel
theorem dX0_isOfKind_22 : decode cX0_isOfKind 22 = .ok (.iload_n 2, 1) := by decide +kernel
theorem dX0_isOfKind_23 : decode cX0_isOfKind 23 = .ok (.iaload, 1) := by decide +kernel
theorem dX0_isOfKind_24 : decode cX0_isOfKind 24 = .ok (.istore_n 2, 1) := by decide +kernel
theorem dX0_isOfKind_25 : decode cX0_isOfKind 25 = .ok (.iinc 3 1, 3) := by decide +kernel
theorem dX0_isOfKind_28 : decode cX0_isOfKind 28 = .ok (.goto (-21), 3) := by decide +kernel
theorem dX0_isOfKind_31 : decode cX0_isOfKind 31 = .ok (.iconst 0, 1) := by decide +kernel
theorem dX0_isOfKind_32 : decode cX0_isOfKind 32 = .ok (.ireturn, 1) := by decide +kernel
theorem dX0_left_0 : decode cX0_left 0 = .ok (.aload_n 0, 1) := by decide +kernel
theorem dX0_left_1 : decode cX0_left 1 = .ok (.getfield 25, 3) := by decide +kernel
theorem dX0_left_4 : decode cX0_left 4 = .ok (.ifCond .eq 5, 3) := by decide +kernel
theorem dX0_left_7 : decode cX0_left 7 = .ok (.iconst 0, 1) := by decide +kernel
theorem dX0_left_8 : decode cX0_left 8 = .ok (.ireturn, 1) := by decide +kernel
theorem dX0_left_9 : decode cX0_left 9 = .ok (.aload_n 0, 1) := by decide +kernel
theorem dX0_left_10 : decode cX0_left 10 = .ok (.getfield 29, 3) := by decide +kernel
theorem dX0_left_13 : decode cX0_left 13 = .ok (.tableswitch 87 1 6 #[39, 47, 59, 39, 47, 72], 39) := by decide +kernel
theorem dX0_left_52 : decode cX0_left 52 = .ok (.aload_n 0, 1) := by decide +kernel
theorem dX0_left_53 : decode cX0_left 53 = .ok (.iconst 3, 1) := by decide +kernel
theorem dX0_left_54 : decode cX0_left 54 = .ok (.bipush 20, 2) := by decide +kernel
theorem dX0_left_56 : decode cX0_left 56 = .ok (.invokevirtual 39, 3) := by decide +kernel
theorem dX0_left_59 : decode cX0_left 59 = .ok (.ireturn, 1) := by decide +kernel
theorem dX0_left_60 : decode cX0_left 60 = .ok (.aload_n 0, 1) := by decide +kernel
theorem dX0_left_61 : decode cX0_left 61 = .ok (.getfield 19, 3) := by decide +kernel
theorem dX0_left_64 : decode cX0_left 64 = .ok (.iconst 1, 1) := by decide +kernel
theorem dX0_left_65 : decode cX0_left 65 = .ok (.aload_n 0, 1) := by decide +kernel
theorem dX0_left_66 : decode cX0_left 66 = .ok (.getfield 32, 3) := by decide +kernel
theorem dX0_left_69 : decode cX0_left 69 = .ok (.ishl, 1) := by decide +kernel
theorem dX0_left_70 : decode cX0_left 70 = .ok (.ior, 1) := by decide +kernel
theorem dX0_left_71 : decode cX0_left 71 = .ok (.ireturn, 1) := by decide +kernel
theorem dX0_left_72 : decode cX0_left 72 = .ok (.aload_n 0, 1) := by decide +kernel
theorem dX0_left_73 : decode cX0_left 73 = .ok (.iconst 0, 1) := by decide +kernel
theorem dX0_left_74 : decode cX0_left 74 = .ok (.bipush 19, 2) := by decide +kernel
theorem dX0_left_76 : decode cX0_left 76 = .ok (.aload_n 0, 1) := by decide +kernel
theorem dX0_left_77 : decode cX0_left 77 = .ok (.getfield 22, 3) := by decide +kernel
theorem dX0_left_80 : decode cX0_left 80 = .ok (.isub, 1) := by decide +kernel
theorem dX0_left_81 : decode cX0_left 81 = .ok (.invokevirtual 39, 3) := by decide +kernel
theorem dX0_left_84 : decode cX0_left 84 = .ok (.ireturn, 1) := by decide +kernel
theorem dX0_left_85 : decode cX0_left 85 = .ok (.aload_n 0, 1) := by decide +kernel
theorem dX0_left_86 : decode cX0_left 86 = .ok (.iconst 0, 1) := by decide +kernel
theorem dX0_left_87 : decode cX0_left 87 = .ok (.bipush 19, 2) := by decide +kernel
theorem dX0_left_89 : decode cX0_left 89 = .ok (.aload_n 0, 1) := by decide +kernel
theorem dX0_left_90 : decode cX0_left 90 = .ok (.getfield 22, 3) := by decide +kernel
theorem dX0_left_93 : decode cX0_left 93 = .ok (.iconst 2, 1) := by decide +kernel
theorem dX0_left_94 : decode cX0_left 94 = .ok (.idiv, 1) := by decide +kernel
theorem dX0_left_95 : decode cX0_left 95 = .ok (.isub, 1) := by decide +kernel
theorem dX0_left_96 : decode cX0_left 96 = .ok (.invokevirtual 39, 3) := by decide +kernel
theorem dX0_left_99 : decode cX0_left 99 = .ok (.ireturn, 1) := by decide +kernel
theorem dX0_left_100 : decode cX0_left 100 = .ok (.aload_n 0, 1) := by decide +kernel
theorem dX0_left_101 : decode cX0_left 101 = .ok (.getfield 19, 3) := by decide +kernel
theorem dX0_left_104 : decode cX0_left 104 = .ok (.ireturn, 1) := by decide +kernel
theorem dX0_heldBetween_0 : decode cX0_heldBetween 0 = .ok (.iconst 0, 1) := by decide +kernel
theorem dX0_heldBetween_1 : decode cX0_heldBetween 1 = .ok (.istore_n 3, 1) := by decide +kernel
theorem dX0_heldBetween_2 : decode cX0_heldBetween 2 = .ok (.iconst 0, 1) := by decide +kernel
theorem dX0_heldBetween_3 : decode cX0_heldBetween 3 = .ok (.istore 4, 2) := by decide +kernel
theorem dX0_heldBetween_5 : decode cX0_heldBetween 5 = .ok (.iload 4, 2) := by decide +kernel
theorem dX0_heldBetween_7 : decode cX0_heldBetween 7 = .ok (.bipush 20, 2) := by decide +kernel
theorem dX0_heldBetween_9 : decode cX0_heldBetween 9 = .ok (.if_icmp .ge 34, 3) := by decide +kernel
theorem dX0_heldBetween_12 : decode cX0_heldBetween 12 = .ok (.iload 4, 2) := by decide +kernel
theorem dX0_heldBetween_14 : decode cX0_heldBetween 14 = .ok (.aload_n 0, 1) := by decide +kernel
theorem dX0_heldBetween_15 : decode cX0_heldBetween 15 = .ok (.getfield 15, 3) := by decide +kernel
theorem dX0_heldBetween_18 : decode cX0_heldBetween 18 = .ok (.isub, 1) := by decide +kernel
theorem dX0_heldBetween_19 : decode cX0_heldBetween 19 = .ok (.invokestatic 43, 3) := by decide +kernel
theorem dX0_heldBetween_22 : decode cX0_heldBetween 22 = .ok (.iload_n 1, 1) := by decide +kernel
theorem dX0_heldBetween_23 : decode cX0_heldBetween 23 = .ok (.iload_n 2, 1) := by decide +kernel
theorem dX0_heldBetween_24 : decode cX0_heldBetween 24 = .ok (.invokestatic 49, 3) := by decide +kernel
theorem dX0_heldBetween_27 : decode cX0_heldBetween 27 = .ok (.ifCond .eq 10, 3) := by decide +kernel
theorem dX0_heldBetween_30 : decode cX0_heldBetween 30 = .ok (.iload_n 3, 1) := by decide +kernel
theorem dX0_heldBetween_31 : decode cX0_heldBetween 31 = .ok (.iconst 1, 1) := by decide +kernel
theorem dX0_heldBetween_32 : decode cX0_heldBetween 32 = .ok (.iload 4, 2) := by decide +kernel
theorem dX0_heldBetween_34 : decode cX0_heldBetween 34 = .ok (.ishl, 1) := by decide +kernel
theorem dX0_heldBetween_35 : decode cX0_heldBetween 35 = .ok (.ior, 1) := by decide +kernel
theorem dX0_heldBetween_36 : decode cX0_heldBetween 36 = .ok (.istore_n 3, 1) := by decide +kernel
theorem dX0_heldBetween_37 : decode cX0_heldBetween 37 = .ok (.iinc 4 1, 3) := by decide +kernel
theorem dX0_heldBetween_40 : decode cX0_heldBetween 40 = .ok (.goto (-35), 3) := by decide +kernel
theorem dX0_heldBetween_43 : decode cX0_heldBetween 43 = .ok (.iload_n 3, 1) := by decide +kernel
theorem dX0_heldBetween_44 : decode cX0_heldBetween 44 = .ok (.aload_n 0, 1) := by decide +kernel
theorem dX0_heldBetween_45 : decode cX0_heldBetween 45 = .ok (.getfield 19, 3) := by decide +kernel
theorem dX0_heldBetween_48 : decode cX0_heldBetween 48 = .ok (.iand, 1) := by decide +kernel
theorem dX0_heldBetween_49 : decode cX0_heldBetween 49 = .ok (.ireturn, 1) := by decide +kernel
theorem dX0_leagues_0 : decode cX0_leagues 0 = .ok (.aload_n 0, 1) := by decide +kernel
theorem dX0_leagues_1 : decode cX0_leagues 1 = .ok (.invokevirtual 53, 3) := by decide +kernel
theorem dX0_leagues_4 : decode cX0_leagues 4 = .ok (.istore_n 1, 1) := by decide +kernel
theorem dX0_leagues_5 : decode cX0_leagues 5 = .ok (.iconst 0, 1) := by decide +kernel
theorem dX0_leagues_6 : decode cX0_leagues 6 = .ok (.istore_n 2, 1) := by decide +kernel
theorem dX0_leagues_7 : decode cX0_leagues 7 = .ok (.iconst 0, 1) := by decide +kernel
theorem dX0_leagues_8 : decode cX0_leagues 8 = .ok (.istore_n 3, 1) := by decide +kernel
theorem dX0_leagues_9 : decode cX0_leagues 9 = .ok (.iload_n 3, 1) := by decide +kernel
theorem dX0_leagues_10 : decode cX0_leagues 10 = .ok (.bipush 20, 2) := by decide +kernel
theorem dX0_leagues_12 : decode cX0_leagues 12 = .ok (.if_icmp .ge 31, 3) := by decide +kernel
theorem dX0_leagues_15 : decode cX0_leagues 15 = .ok (.iload_n 1, 1) := by decide +kernel
theorem dX0_leagues_16 : decode cX0_leagues 16 = .ok (.iload_n 3, 1) := by decide +kernel
theorem dX0_leagues_17 : decode cX0_leagues 17 = .ok (.ishr, 1) := by decide +kernel
theorem dX0_leagues_18 : decode cX0_leagues 18 = .ok (.iconst 1, 1) := by decide +kernel
theorem dX0_leagues_19 : decode cX0_leagues 19 = .ok (.iand, 1) := by decide +kernel
theorem dX0_leagues_20 : decode cX0_leagues 20 = .ok (.ifCond .eq 17, 3) := by decide +kernel
theorem dX0_leagues_23 : decode cX0_leagues 23 = .ok (.iload_n 2, 1) := by decide +kernel
theorem dX0_leagues_24 : decode cX0_leagues 24 = .ok (.iload_n 3, 1) := by decide +kernel
theorem dX0_leagues_25 : decode cX0_leagues 25 = .ok (.aload_n 0, 1) := by decide +kernel
theorem dX0_leagues_26 : decode cX0_leagues 26 = .ok (.getfield 15, 3) := by decide +kernel
theorem dX0_leagues_29 : decode cX0_leagues 29 = .ok (.isub, 1) := by decide +kernel
theorem dX0_leagues_30 : decode cX0_leagues 30 = .ok (.invokestatic 43, 3) := by decide +kernel
theorem dX0_leagues_33 : decode cX0_leagues 33 = .ok (.invokestatic 57, 3) := by decide +kernel
theorem dX0_leagues_36 : decode cX0_leagues 36 = .ok (.istore_n 2, 1) := by decide +kernel
theorem dX0_leagues_37 : decode cX0_leagues 37 = .ok (.iinc 3 1, 3) := by decide +kernel
theorem dX0_leagues_40 : decode cX0_leagues 40 = .ok (.goto (-31), 3) := by decide +kernel
theorem dX0_leagues_43 : decode cX0_leagues 43 = .ok (.iload_n 2, 1) := by decide +kernel
theorem dX0_leagues_44 : decode cX0_leagues 44 = .ok (.ireturn, 1) := by decide +kernel
theorem dX0_priceBy_0 : decode cX0_priceBy 0 = .ok (.aload_n 0, 1) := by decide +kernel
theorem dX0_priceBy_1 : decode cX0_priceBy 1 = .ok (.getfield 29, 3) := by decide +kernel
theorem dX0_priceBy_4 : decode cX0_priceBy 4 = .ok (.tableswitch 87 1 6 #[40, 55, 61, 44, 59, 68], 40) := by decide +kernel
theorem dX0_priceBy_44 : decode cX0_priceBy 44 = .ok (.iconst 2, 1) := by decide +kernel
theorem dX0_priceBy_45 : decode cX0_priceBy 45 = .ok (.iload_n 1, 1) := by decide +kernel
theorem dX0_priceBy_46 : decode cX0_priceBy 46 = .ok (.imul, 1) := by decide +kernel
theorem dX0_priceBy_47 : decode cX0_priceBy 47 = .ok (.ireturn, 1) := by decide +kernel
theorem dX0_priceBy_48 : decode cX0_priceBy 48 = .ok (.iconst 2, 1) := by decide +kernel
theorem dX0_priceBy_49 : decode cX0_priceBy 49 = .ok (.iload_n 1, 1) := by decide +kernel
theorem dX0_priceBy_50 : decode cX0_priceBy 50 = .ok (.imul, 1) := by decide +kernel
theorem dX0_priceBy_51 : decode cX0_priceBy 51 = .ok (.iconst 5, 1) := by decide +kernel
theorem dX0_priceBy_52 : decode cX0_priceBy 52 = .ok (.aload_n 0, 1) := by decide +kernel
theorem dX0_priceBy_53 : decode cX0_priceBy 53 = .ok (.getfield 32, 3) := by decide +kernel
theorem dX0_priceBy_56 : decode cX0_priceBy 56 = .ok (.imul, 1) := by decide +kernel
theorem dX0_priceBy_57 : decode cX0_priceBy 57 = .ok (.iadd, 1) := by decide +kernel
theorem dX0_priceBy_58 : decode cX0_priceBy 58 = .ok (.ireturn, 1) := by decide +kernel
theorem dX0_priceBy_59 : decode cX0_priceBy 59 = .ok (.iload_n 1, 1) := by decide +kernel
theorem dX0_priceBy_60 : decode cX0_priceBy 60 = .ok (.iconst 2, 1) := by decide +kernel
theorem dX0_priceBy_61 : decode cX0_priceBy 61 = .ok (.idiv, 1) := by decide +kernel
theorem dX0_priceBy_62 : decode cX0_priceBy 62 = .ok (.ireturn, 1) := by decide +kernel
theorem dX0_priceBy_63 : decode cX0_priceBy 63 = .ok (.iconst 1, 1) := by decide +kernel
theorem dX0_priceBy_64 : decode cX0_priceBy 64 = .ok (.ireturn, 1) := by decide +kernel
theorem dX0_priceBy_65 : decode cX0_priceBy 65 = .ok (.iload_n 1, 1) := by decide +kernel
theorem dX0_priceBy_66 : decode cX0_priceBy 66 = .ok (.aload_n 0, 1) := by decide +kernel
theorem dX0_priceBy_67 : decode cX0_priceBy 67 = .ok (.getfield 22, 3) := by decide +kernel
theorem dX0_priceBy_70 : decode cX0_priceBy 70 = .ok (.iadd, 1) := by decide +kernel
theorem dX0_priceBy_71 : decode cX0_priceBy 71 = .ok (.ireturn, 1) := by decide +kernel
theorem dX0_priceBy_72 : decode cX0_priceBy 72 = .ok (.iload_n 1, 1) := by decide +kernel
theorem dX0_priceBy_73 : decode cX0_priceBy 73 = .ok (.aload_n 0, 1) := by decide +kernel
theorem dX0_priceBy_74 : decode cX0_priceBy 74 = .ok (.getfield 22, 3) := by decide +kernel
theorem dX0_priceBy_77 : decode cX0_priceBy 77 = .ok (.iadd, 1) := by decide +kernel
theorem dX0_priceBy_78 : decode cX0_priceBy 78 = .ok (.aload_n 0, 1) := by decide +kernel
theorem dX0_priceBy_79 : decode cX0_priceBy 79 = .ok (.getfield 22, 3) := by decide +kernel
theorem dX0_priceBy_82 : decode cX0_priceBy 82 = .ok (.aload_n 0, 1) := by decide +kernel
theorem dX0_priceBy_83 : decode cX0_priceBy 83 = .ok (.getfield 32, 3) := by decide +kernel
theorem dX0_priceBy_86 : decode cX0_priceBy 86 = .ok (.iconst 1, 1) := by decide +kernel
theorem dX0_priceBy_87 : decode cX0_priceBy 87 = .ok (.iadd, 1) := by decide +kernel
theorem dX0_priceBy_88 : decode cX0_priceBy 88 = .ok (.idiv, 1) := by decide +kernel
theorem dX0_priceBy_89 : decode cX0_priceBy 89 = .ok (.iadd, 1) := by decide +kernel
theorem dX0_priceBy_90 : decode cX0_priceBy 90 = .ok (.ireturn, 1) := by decide +kernel
theorem dX0_priceBy_91 : decode cX0_priceBy 91 = .ok (.iload_n 1, 1) := by decide +kernel
theorem dX0_priceBy_92 : decode cX0_priceBy 92 = .ok (.ireturn, 1) := by decide +kernel
theorem dX0_ageDay_0 : decode cX0_ageDay 0 = .ok (.aload_n 0, 1) := by decide +kernel
theorem dX0_ageDay_1 : decode cX0_ageDay 1 = .ok (.getfield 25, 3) := by decide +kernel
theorem dX0_ageDay_4 : decode cX0_ageDay 4 = .ok (.ifCond .ne 18, 3) := by decide +kernel
theorem dX0_ageDay_7 : decode cX0_ageDay 7 = .ok (.aload_n 0, 1) := by decide +kernel
theorem dX0_ageDay_8 : decode cX0_ageDay 8 = .ok (.bipush 99, 2) := by decide +kernel
theorem dX0_ageDay_10 : decode cX0_ageDay 10 = .ok (.aload_n 0, 1) := by decide +kernel
theorem dX0_ageDay_11 : decode cX0_ageDay 11 = .ok (.getfield 22, 3) := by decide +kernel
theorem dX0_ageDay_14 : decode cX0_ageDay 14 = .ok (.iconst 1, 1) := by decide +kernel
theorem dX0_ageDay_15 : decode cX0_ageDay 15 = .ok (.iadd, 1) := by decide +kernel
theorem dX0_ageDay_16 : decode cX0_ageDay 16 = .ok (.invokestatic 60, 3) := by decide +kernel
theorem dX0_ageDay_19 : decode cX0_ageDay 19 = .ok (.putfield 22, 3) := by decide +kernel
theorem dX0_ageDay_22 : decode cX0_ageDay 22 = .ok (.return_, 1) := by decide +kernel
theorem dX0_copyBottle_0 : decode cX0_copyBottle 0 = .ok (.aload_n 0, 1) := by decide +kernel
theorem dX0_copyBottle_1 : decode cX0_copyBottle 1 = .ok (.aload_n 1, 1) := by decide +kernel
theorem dX0_copyBottle_2 : decode cX0_copyBottle 2 = .ok (.getfield 29, 3) := by decide +kernel
theorem dX0_copyBottle_5 : decode cX0_copyBottle 5 = .ok (.putfield 29, 3) := by decide +kernel
theorem dX0_copyBottle_8 : decode cX0_copyBottle 8 = .ok (.aload_n 0, 1) := by decide +kernel
theorem dX0_copyBottle_9 : decode cX0_copyBottle 9 = .ok (.aload_n 1, 1) := by decide +kernel
theorem dX0_copyBottle_10 : decode cX0_copyBottle 10 = .ok (.getfield 32, 3) := by decide +kernel
theorem dX0_copyBottle_13 : decode cX0_copyBottle 13 = .ok (.putfield 32, 3) := by decide +kernel
theorem dX0_copyBottle_16 : decode cX0_copyBottle 16 = .ok (.aload_n 0, 1) := by decide +kernel
theorem dX0_copyBottle_17 : decode cX0_copyBottle 17 = .ok (.aload_n 1, 1) := by decide +kernel
theorem dX0_copyBottle_18 : decode cX0_copyBottle 18 = .ok (.getfield 15, 3) := by decide +kernel
theorem dX0_copyBottle_21 : decode cX0_copyBottle 21 = .ok (.putfield 15, 3) := by decide +kernel
theorem dX0_copyBottle_24 : decode cX0_copyBottle 24 = .ok (.aload_n 0, 1) := by decide +kernel
theorem dX0_copyBottle_25 : decode cX0_copyBottle 25 = .ok (.aload_n 1, 1) := by decide +kernel
theorem dX0_copyBottle_26 : decode cX0_copyBottle 26 = .ok (.getfield 19, 3) := by decide +kernel
theorem dX0_copyBottle_29 : decode cX0_copyBottle 29 = .ok (.putfield 19, 3) := by decide +kernel
theorem dX0_copyBottle_32 : decode cX0_copyBottle 32 = .ok (.aload_n 0, 1) := by decide +kernel
theorem dX0_copyBottle_33 : decode cX0_copyBottle 33 = .ok (.aload_n 1, 1) := by decide +kernel
theorem dX0_copyBottle_34 : decode cX0_copyBottle 34 = .ok (.getfield 22, 3) := by decide +kernel
theorem dX0_copyBottle_37 : decode cX0_copyBottle 37 = .ok (.putfield 22, 3) := by decide +kernel
theorem dX0_copyBottle_40 : decode cX0_copyBottle 40 = .ok (.aload_n 0, 1) := by decide +kernel
theorem dX0_copyBottle_41 : decode cX0_copyBottle 41 = .ok (.aload_n 1, 1) := by decide +kernel
theorem dX0_copyBottle_42 : decode cX0_copyBottle 42 = .ok (.getfield 25, 3) := by decide +kernel
theorem dX0_copyBottle_45 : decode cX0_copyBottle 45 = .ok (.putfield 25, 3) := by decide +kernel
theorem dX0_copyBottle_48 : decode cX0_copyBottle 48 = .ok (.return_, 1) := by decide +kernel
theorem dX1_init_0 : decode cX1_init 0 = .ok (.aload_n 0, 1) := by decide +kernel
theorem dX1_init_1 : decode cX1_init 1 = .ok (.invokespecial 3, 3) := by decide +kernel
theorem dX1_init_4 : decode cX1_init 4 = .ok (.aload_n 0, 1) := by decide +kernel
theorem dX1_init_5 : decode cX1_init 5 = .ok (.bipush 20, 2) := by decide +kernel
theorem dX1_init_7 : decode cX1_init 7 = .ok (.newarray .int, 2) := by decide +kernel
theorem dX1_init_9 : decode cX1_init 9 = .ok (.putfield 9, 3) := by decide +kernel
theorem dX1_init_12 : decode cX1_init 12 = .ok (.aload_n 0, 1) := by decide +kernel
theorem dX1_init_13 : decode cX1_init 13 = .ok (.bipush 20, 2) := by decide +kernel
theorem dX1_init_15 : decode cX1_init 15 = .ok (.newarray .int, 2) := by decide +kernel
theorem dX1_init_17 : decode cX1_init 17 = .ok (.putfield 15, 3) := by decide +kernel
theorem dX1_init_20 : decode cX1_init 20 = .ok (.iconst 0, 1) := by decide +kernel
theorem dX1_init_21 : decode cX1_init 21 = .ok (.istore_n 1, 1) := by decide +kernel
theorem dX1_init_22 : decode cX1_init 22 = .ok (.iload_n 1, 1) := by decide +kernel
theorem dX1_init_23 : decode cX1_init 23 = .ok (.bipush 20, 2) := by decide +kernel
theorem dX1_init_25 : decode cX1_init 25 = .ok (.if_icmp .ge 16, 3) := by decide +kernel
theorem dX1_init_28 : decode cX1_init 28 = .ok (.aload_n 0, 1) := by decide +kernel
theorem dX1_init_29 : decode cX1_init 29 = .ok (.getfield 9, 3) := by decide +kernel
theorem dX1_init_32 : decode cX1_init 32 = .ok (.iload_n 1, 1) := by decide +kernel
theorem dX1_init_33 : decode cX1_init 33 = .ok (.iconst 5, 1) := by decide +kernel
theorem dX1_init_34 : decode cX1_init 34 = .ok (.iastore, 1) := by decide +kernel
theorem dX1_init_35 : decode cX1_init 35 = .ok (.iinc 1 1, 3) := by decide +kernel
theorem dX1_init_38 : decode cX1_init 38 = .ok (.goto (-16), 3) := by decide +kernel
theorem dX1_init_41 : decode cX1_init 41 = .ok (.return_, 1) := by decide +kernel
theorem dX1_goneBehind_0 : decode cX1_goneBehind 0 = .ok (.iconst 0, 1) := by decide +kernel
theorem dX1_goneBehind_1 : decode cX1_goneBehind 1 = .ok (.istore_n 2, 1) := by decide +kernel
theorem dX1_goneBehind_2 : decode cX1_goneBehind 2 = .ok (.iconst 0, 1) := by decide +kernel
theorem dX1_goneBehind_3 : decode cX1_goneBehind 3 = .ok (.istore_n 3, 1) := by decide +kernel
theorem dX1_goneBehind_4 : decode cX1_goneBehind 4 = .ok (.iload_n 3, 1) := by decide +kernel
theorem dX1_goneBehind_5 : decode cX1_goneBehind 5 = .ok (.bipush 20, 2) := by decide +kernel
theorem dX1_goneBehind_7 : decode cX1_goneBehind 7 = .ok (.if_icmp .ge 25, 3) := by decide +kernel
theorem dX1_goneBehind_10 : decode cX1_goneBehind 10 = .ok (.aload_n 0, 1) := by decide +kernel
theorem dX1_goneBehind_11 : decode cX1_goneBehind 11 = .ok (.getfield 15, 3) := by decide +kernel
theorem dX1_goneBehind_14 : decode cX1_goneBehind 14 = .ok (.iload_n 3, 1) := by decide +kernel
theorem dX1_goneBehind_15 : decode cX1_goneBehind 15 = .ok (.iaload, 1) := by decide +kernel
theorem dX1_goneBehind_16 : decode cX1_goneBehind 16 = .ok (.iload_n 1, 1) := by decide +kernel
theorem dX1_goneBehind_17 : decode cX1_goneBehind 17 = .ok (.if_icmp .le 9, 3) := by decide +kernel
theorem dX1_goneBehind_20 : decode cX1_goneBehind 20 = .ok (.iload_n 2, 1) := by decide +kernel
theorem dX1_goneBehind_21 : decode cX1_goneBehind 21 = .ok (.iconst 1, 1) := by decide +kernel
theorem dX1_goneBehind_22 : decode cX1_goneBehind 22 = .ok (.iload_n 3, 1) := by decide +kernel
theorem dX1_goneBehind_23 : decode cX1_goneBehind 23 = .ok (.ishl, 1) := by decide +kernel
theorem dX1_goneBehind_24 : decode cX1_goneBehind 24 = .ok (.ior, 1) := by decide +kernel
theorem dX1_goneBehind_25 : decode cX1_goneBehind 25 = .ok (.istore_n 2, 1) := by decide +kernel
theorem dX1_goneBehind_26 : decode cX1_goneBehind 26 = .ok (.iinc 3 1, 3) := by decide +kernel
theorem dX1_goneBehind_29 : decode cX1_goneBehind 29 = .ok (.goto (-25), 3) := by decide +kernel
theorem dX1_goneBehind_32 : decode cX1_goneBehind 32 = .ok (.iload_n 2, 1) := by decide +kernel
theorem dX1_goneBehind_33 : decode cX1_goneBehind 33 = .ok (.ireturn, 1) := by decide +kernel
theorem dX1_sees_0 : decode cX1_sees 0 = .ok (.iload_n 1, 1) := by decide +kernel
theorem dX1_sees_1 : decode cX1_sees 1 = .ok (.iload_n 2, 1) := by decide +kernel
theorem dX1_sees_2 : decode cX1_sees 2 = .ok (.if_icmp .eq 12, 3) := by decide +kernel
theorem dX1_sees_5 : decode cX1_sees 5 = .ok (.iload 4, 2) := by decide +kernel
theorem dX1_sees_7 : decode cX1_sees 7 = .ok (.iload_n 2, 1) := by decide +kernel
theorem dX1_sees_8 : decode cX1_sees 8 = .ok (.ishr, 1) := by decide +kernel
theorem dX1_sees_9 : decode cX1_sees 9 = .ok (.iconst 1, 1) := by decide +kernel
theorem dX1_sees_10 : decode cX1_sees 10 = .ok (.iand, 1) := by decide +kernel
theorem dX1_sees_11 : decode cX1_sees 11 = .ok (.ifCond .eq 5, 3) := by decide +kernel
theorem dX1_sees_14 : decode cX1_sees 14 = .ok (.iconst 0, 1) := by decide +kernel
theorem dX1_sees_15 : decode cX1_sees 15 = .ok (.ireturn, 1) := by decide +kernel
theorem dX1_sees_16 : decode cX1_sees 16 = .ok (.iload_n 2, 1) := by decide +kernel
theorem dX1_sees_17 : decode cX1_sees 17 = .ok (.iload_n 1, 1) := by decide +kernel
theorem dX1_sees_18 : decode cX1_sees 18 = .ok (.if_icmp .le 7, 3) := by decide +kernel
theorem dX1_sees_21 : decode cX1_sees 21 = .ok (.iconst 1, 1) := by decide +kernel
theorem dX1_sees_22 : decode cX1_sees 22 = .ok (.goto 4, 3) := by decide +kernel
theorem dX1_sees_25 : decode cX1_sees 25 = .ok (.iconst (-1), 1) := by decide +kernel
theorem dX1_sees_26 : decode cX1_sees 26 = .ok (.istore 5, 2) := by decide +kernel
theorem dX1_sees_28 : decode cX1_sees 28 = .ok (.iload_n 2, 1) := by decide +kernel
theorem dX1_sees_29 : decode cX1_sees 29 = .ok (.iload_n 1, 1) := by decide +kernel
theorem dX1_sees_30 : decode cX1_sees 30 = .ok (.isub, 1) := by decide +kernel
theorem dX1_sees_31 : decode cX1_sees 31 = .ok (.invokestatic 18, 3) := by decide +kernel
theorem dX1_sees_34 : decode cX1_sees 34 = .ok (.istore 6, 2) := by decide +kernel
theorem dX1_sees_36 : decode cX1_sees 36 = .ok (.aload_n 0, 1) := by decide +kernel
theorem dX1_sees_37 : decode cX1_sees 37 = .ok (.getfield 9, 3) := by decide +kernel
theorem dX1_sees_40 : decode cX1_sees 40 = .ok (.iload_n 1, 1) := by decide +kernel
theorem dX1_sees_41 : decode cX1_sees 41 = .ok (.iaload, 1) := by decide +kernel
theorem dX1_sees_42 : decode cX1_sees 42 = .ok (.iload_n 3, 1) := by decide +kernel
theorem dX1_sees_43 : decode cX1_sees 43 = .ok (.iadd, 1) := by decide +kernel
theorem dX1_sees_44 : decode cX1_sees 44 = .ok (.istore 7, 2) := by decide +kernel
theorem dX1_sees_46 : decode cX1_sees 46 = .ok (.aload_n 0, 1) := by decide +kernel
theorem dX1_sees_47 : decode cX1_sees 47 = .ok (.getfield 9, 3) := by decide +kernel
theorem dX1_sees_50 : decode cX1_sees 50 = .ok (.iload_n 2, 1) := by decide +kernel
theorem dX1_sees_51 : decode cX1_sees 51 = .ok (.iaload, 1) := by decide +kernel
theorem dX1_sees_52 : decode cX1_sees 52 = .ok (.iload 7, 2) := by decide +kernel
theorem dX1_sees_54 : decode cX1_sees 54 = .ok (.isub, 1) := by decide +kernel
theorem dX1_sees_55 : decode cX1_sees 55 = .ok (.istore 8, 2) := by decide +kernel
theorem dX1_sees_57 : decode cX1_sees 57 = .ok (.iconst 1, 1) := by decide +kernel
theorem dX1_sees_58 : decode cX1_sees 58 = .ok (.istore 9, 2) := by decide +kernel
theorem dX1_sees_60 : decode cX1_sees 60 = .ok (.iload 9, 2) := by decide +kernel
theorem dX1_sees_62 : decode cX1_sees 62 = .ok (.iload 6, 2) := by decide +kernel
theorem dX1_sees_64 : decode cX1_sees 64 = .ok (.if_icmp .ge 63, 3) := by decide +kernel
theorem dX1_sees_67 : decode cX1_sees 67 = .ok (.iload_n 1, 1) := by decide +kernel
theorem dX1_sees_68 : decode cX1_sees 68 = .ok (.iload 5, 2) := by decide +kernel
theorem dX1_sees_70 : decode cX1_sees 70 = .ok (.iload 9, 2) := by decide +kernel
theorem dX1_sees_72 : decode cX1_sees 72 = .ok (.imul, 1) := by decide +kernel
theorem dX1_sees_73 : decode cX1_sees 73 = .ok (.iadd, 1) := by decide +kernel
theorem dX1_sees_74 : decode cX1_sees 74 = .ok (.istore 10, 2) := by decide +kernel
theorem dX1_sees_76 : decode cX1_sees 76 = .ok (.iload 4, 2) := by decide +kernel
theorem dX1_sees_78 : decode cX1_sees 78 = .ok (.iload 10, 2) := by decide +kernel
theorem dX1_sees_80 : decode cX1_sees 80 = .ok (.ishr, 1) := by decide +kernel
theorem dX1_sees_81 : decode cX1_sees 81 = .ok (.iconst 1, 1) := by decide +kernel
theorem dX1_sees_82 : decode cX1_sees 82 = .ok (.iand, 1) := by decide +kernel
theorem dX1_sees_83 : decode cX1_sees 83 = .ok (.ifCond .ne 7, 3) := by decide +kernel
theorem dX1_sees_86 : decode cX1_sees 86 = .ok (.iconst 1, 1) := by decide +kernel
theorem dX1_sees_87 : decode cX1_sees 87 = .ok (.goto 4, 3) := by decide +kernel
theorem dX1_sees_90 : decode cX1_sees 90 = .ok (.iconst 0, 1) := by decide +kernel
theorem dX1_sees_91 : decode cX1_sees 91 = .ok (.istore 11, 2) := by decide +kernel
theorem dX1_sees_93 : decode cX1_sees 93 = .ok (.iload 11, 2) := by decide +kernel
theorem dX1_sees_95 : decode cX1_sees 95 = .ok (.ifCond .eq 26, 3) := by decide +kernel
theorem dX1_sees_98 : decode cX1_sees 98 = .ok (.aload_n 0, 1) := by decide +kernel
theorem dX1_sees_99 : decode cX1_sees 99 = .ok (.getfield 9, 3) := by decide +kernel
theorem dX1_sees_102 : decode cX1_sees 102 = .ok (.iload 10, 2) := by decide +kernel
theorem dX1_sees_104 : decode cX1_sees 104 = .ok (.iaload, 1) := by decide +kernel
theorem dX1_sees_105 : decode cX1_sees 105 = .ok (.iload 7, 2) := by decide +kernel
theorem dX1_sees_107 : decode cX1_sees 107 = .ok (.isub, 1) := by decide +kernel
theorem dX1_sees_108 : decode cX1_sees 108 = .ok (.iload 6, 2) := by decide +kernel
theorem dX1_sees_110 : decode cX1_sees 110 = .ok (.imul, 1) := by decide +kernel
theorem dX1_sees_111 : decode cX1_sees 111 = .ok (.iload 8, 2) := by decide +kernel
theorem dX1_sees_113 : decode cX1_sees 113 = .ok (.iload 9, 2) := by decide +kernel
theorem dX1_sees_115 : decode cX1_sees 115 = .ok (.imul, 1) := by decide +kernel
theorem dX1_sees_116 : decode cX1_sees 116 = .ok (.if_icmp .lt 5, 3) := by decide +kernel
theorem dX1_sees_119 : decode cX1_sees 119 = .ok (.iconst 0, 1) := by decide +kernel
theorem dX1_sees_120 : decode cX1_sees 120 = .ok (.ireturn, 1) := by decide +kernel
theorem dX1_sees_121 : decode cX1_sees 121 = .ok (.iinc 9 1, 3) := by decide +kernel
theorem dX1_sees_124 : decode cX1_sees 124 = .ok (.goto (-64), 3) := by decide +kernel
theorem dX1_sees_127 : decode cX1_sees 127 = .ok (.iconst 1, 1) := by decide +kernel
theorem dX1_sees_128 : decode cX1_sees 128 = .ok (.ireturn, 1) := by decide +kernel
theorem dX1_seenFrom_0 : decode cX1_seenFrom 0 = .ok (.iload_n 2, 1) := by decide +kernel
theorem dX1_seenFrom_1 : decode cX1_seenFrom 1 = .ok (.ifCond .ne 7, 3) := by decide +kernel
theorem dX1_seenFrom_4 : decode cX1_seenFrom 4 = .ok (.iconst 0, 1) := by decide +kernel
theorem dX1_seenFrom_5 : decode cX1_seenFrom 5 = .ok (.goto 6, 3) := by decide +kernel
theorem dX1_seenFrom_8 : decode cX1_seenFrom 8 = .ok (.iload_n 1, 1) := by decide +kernel
theorem dX1_seenFrom_9 : decode cX1_seenFrom 9 = .ok (.iconst 1, 1) := by decide +kernel
theorem dX1_seenFrom_10 : decode cX1_seenFrom 10 = .ok (.iadd, 1) := by decide +kernel
theorem dX1_seenFrom_11 : decode cX1_seenFrom 11 = .ok (.istore 4, 2) := by decide +kernel
theorem dX1_seenFrom_13 : decode cX1_seenFrom 13 = .ok (.iload_n 2, 1) := by decide +kernel
theorem dX1_seenFrom_14 : decode cX1_seenFrom 14 = .ok (.ifCond .ne 7, 3) := by decide +kernel
theorem dX1_seenFrom_17 : decode cX1_seenFrom 17 = .ok (.iload_n 1, 1) := by decide +kernel
theorem dX1_seenFrom_18 : decode cX1_seenFrom 18 = .ok (.goto 5, 3) := by decide +kernel
theorem dX1_seenFrom_21 : decode cX1_seenFrom 21 = .ok (.bipush 20, 2) := by decide +kernel
theorem dX1_seenFrom_23 : decode cX1_seenFrom 23 = .ok (.istore 5, 2) := by decide +kernel
theorem dX1_seenFrom_25 : decode cX1_seenFrom 25 = .ok (.iconst 0, 1) := by decide +kernel
theorem dX1_seenFrom_26 : decode cX1_seenFrom 26 = .ok (.istore 6, 2) := by decide +kernel
theorem dX1_seenFrom_28 : decode cX1_seenFrom 28 = .ok (.iload 4, 2) := by decide +kernel
theorem dX1_seenFrom_30 : decode cX1_seenFrom 30 = .ok (.istore 7, 2) := by decide +kernel
theorem dX1_seenFrom_32 : decode cX1_seenFrom 32 = .ok (.iload 7, 2) := by decide +kernel
theorem dX1_seenFrom_34 : decode cX1_seenFrom 34 = .ok (.iload 5, 2) := by decide +kernel
theorem dX1_seenFrom_36 : decode cX1_seenFrom 36 = .ok (.if_icmp .ge 30, 3) := by decide +kernel
theorem dX1_seenFrom_39 : decode cX1_seenFrom 39 = .ok (.aload_n 0, 1) := by decide +kernel
theorem dX1_seenFrom_40 : decode cX1_seenFrom 40 = .ok (.iload_n 1, 1) := by decide +kernel
theorem dX1_seenFrom_41 : decode cX1_seenFrom 41 = .ok (.iload 7, 2) := by decide +kernel
theorem dX1_seenFrom_43 : decode cX1_seenFrom 43 = .ok (.iconst 0, 1) := by decide +kernel
theorem dX1_seenFrom_44 : decode cX1_seenFrom 44 = .ok (.iload_n 3, 1) := by decide +kernel
theorem dX1_seenFrom_45 : decode cX1_seenFrom 45 = .ok (.invokevirtual 24, 3) := by decide +kernel
theorem dX1_seenFrom_48 : decode cX1_seenFrom 48 = .ok (.ifCond .eq 12, 3) := by decide +kernel
theorem dX1_seenFrom_51 : decode cX1_seenFrom 51 = .ok (.iload 6, 2) := by decide +kernel
theorem dX1_seenFrom_53 : decode cX1_seenFrom 53 = .ok (.iconst 1, 1) := by decide +kernel
theorem dX1_seenFrom_54 : decode cX1_seenFrom 54 = .ok (.iload 7, 2) := by decide +kernel
theorem dX1_seenFrom_56 : decode cX1_seenFrom 56 = .ok (.ishl, 1) := by decide +kernel
theorem dX1_seenFrom_57 : decode cX1_seenFrom 57 = .ok (.ior, 1) := by decide +kernel
theorem dX1_seenFrom_58 : decode cX1_seenFrom 58 = .ok (.istore 6, 2) := by decide +kernel
theorem dX1_seenFrom_60 : decode cX1_seenFrom 60 = .ok (.iinc 7 1, 3) := by decide +kernel
theorem dX1_seenFrom_63 : decode cX1_seenFrom 63 = .ok (.goto (-31), 3) := by decide +kernel
theorem dX1_seenFrom_66 : decode cX1_seenFrom 66 = .ok (.iload 6, 2) := by decide +kernel
theorem dX1_seenFrom_68 : decode cX1_seenFrom 68 = .ok (.ireturn, 1) := by decide +kernel
theorem dX1_seenAround_0 : decode cX1_seenAround 0 = .ok (.aload_n 0, 1) := by decide +kernel
theorem dX1_seenAround_1 : decode cX1_seenAround 1 = .ok (.iload_n 1, 1) := by decide +kernel
theorem dX1_seenAround_2 : decode cX1_seenAround 2 = .ok (.iconst 0, 1) := by decide +kernel
theorem dX1_seenAround_3 : decode cX1_seenAround 3 = .ok (.iload_n 2, 1) := by decide +kernel
theorem dX1_seenAround_4 : decode cX1_seenAround 4 = .ok (.invokevirtual 28, 3) := by decide +kernel
theorem dX1_seenAround_7 : decode cX1_seenAround 7 = .ok (.aload_n 0, 1) := by decide +kernel
theorem dX1_seenAround_8 : decode cX1_seenAround 8 = .ok (.iload_n 1, 1) := by decide +kernel
theorem dX1_seenAround_9 : decode cX1_seenAround 9 = .ok (.iconst 1, 1) := by decide +kernel
theorem dX1_seenAround_10 : decode cX1_seenAround 10 = .ok (.iload_n 2, 1) := by decide +kernel
theorem dX1_seenAround_11 : decode cX1_seenAround 11 = .ok (.invokevirtual 28, 3) := by decide +kernel
theorem dX1_seenAround_14 : decode cX1_seenAround 14 = .ok (.ior, 1) := by decide +kernel
theorem dX1_seenAround_15 : decode cX1_seenAround 15 = .ok (.ireturn, 1) := by decide +kernel
theorem dX1_bringBack_0 : decode cX1_bringBack 0 = .ok (.iconst 0, 1) := by decide +kernel
theorem dX1_bringBack_1 : decode cX1_bringBack 1 = .ok (.istore_n 2, 1) := by decide +kernel
theorem dX1_bringBack_2 : decode cX1_bringBack 2 = .ok (.iload_n 2, 1) := by decide +kernel
theorem dX1_bringBack_3 : decode cX1_bringBack 3 = .ok (.bipush 20, 2) := by decide +kernel
theorem dX1_bringBack_5 : decode cX1_bringBack 5 = .ok (.if_icmp .ge 24, 3) := by decide +kernel
theorem dX1_bringBack_8 : decode cX1_bringBack 8 = .ok (.iload_n 1, 1) := by decide +kernel
theorem dX1_bringBack_9 : decode cX1_bringBack 9 = .ok (.iload_n 2, 1) := by decide +kernel
theorem dX1_bringBack_10 : decode cX1_bringBack 10 = .ok (.ishr, 1) := by decide +kernel
theorem dX1_bringBack_11 : decode cX1_bringBack 11 = .ok (.iconst 1, 1) := by decide +kernel
theorem dX1_bringBack_12 : decode cX1_bringBack 12 = .ok (.iand, 1) := by decide +kernel
theorem dX1_bringBack_13 : decode cX1_bringBack 13 = .ok (.ifCond .eq 10, 3) := by decide +kernel
theorem dX1_bringBack_16 : decode cX1_bringBack 16 = .ok (.aload_n 0, 1) := by decide +kernel
theorem dX1_bringBack_17 : decode cX1_bringBack 17 = .ok (.getfield 15, 3) := by decide +kernel
theorem dX1_bringBack_20 : decode cX1_bringBack 20 = .ok (.iload_n 2, 1) := by decide +kernel
theorem dX1_bringBack_21 : decode cX1_bringBack 21 = .ok (.iconst 0, 1) := by decide +kernel
theorem dX1_bringBack_22 : decode cX1_bringBack 22 = .ok (.iastore, 1) := by decide +kernel
theorem dX1_bringBack_23 : decode cX1_bringBack 23 = .ok (.iinc 2 1, 3) := by decide +kernel
theorem dX1_bringBack_26 : decode cX1_bringBack 26 = .ok (.goto (-24), 3) := by decide +kernel
theorem dX1_bringBack_29 : decode cX1_bringBack 29 = .ok (.return_, 1) := by decide +kernel
theorem dX1_growDay_0 : decode cX1_growDay 0 = .ok (.iconst 0, 1) := by decide +kernel
theorem dX1_growDay_1 : decode cX1_growDay 1 = .ok (.istore_n 1, 1) := by decide +kernel
theorem dX1_growDay_2 : decode cX1_growDay 2 = .ok (.iload_n 1, 1) := by decide +kernel
theorem dX1_growDay_3 : decode cX1_growDay 3 = .ok (.bipush 20, 2) := by decide +kernel
theorem dX1_growDay_5 : decode cX1_growDay 5 = .ok (.if_icmp .ge 27, 3) := by decide +kernel
theorem dX1_growDay_8 : decode cX1_growDay 8 = .ok (.aload_n 0, 1) := by decide +kernel
theorem dX1_growDay_9 : decode cX1_growDay 9 = .ok (.getfield 15, 3) := by decide +kernel
theorem dX1_growDay_12 : decode cX1_growDay 12 = .ok (.iload_n 1, 1) := by decide +kernel
theorem dX1_growDay_13 : decode cX1_growDay 13 = .ok (.iconst 0, 1) := by decide +kernel
theorem dX1_growDay_14 : decode cX1_growDay 14 = .ok (.aload_n 0, 1) := by decide +kernel
theorem dX1_growDay_15 : decode cX1_growDay 15 = .ok (.getfield 15, 3) := by decide +kernel
theorem dX1_growDay_18 : decode cX1_growDay 18 = .ok (.iload_n 1, 1) := by decide +kernel
theorem dX1_growDay_19 : decode cX1_growDay 19 = .ok (.iaload, 1) := by decide +kernel
theorem dX1_growDay_20 : decode cX1_growDay 20 = .ok (.iconst 1, 1) := by decide +kernel
theorem dX1_growDay_21 : decode cX1_growDay 21 = .ok (.isub, 1) := by decide +kernel
theorem dX1_growDay_22 : decode cX1_growDay 22 = .ok (.invokestatic 32, 3) := by decide +kernel
theorem dX1_growDay_25 : decode cX1_growDay 25 = .ok (.iastore, 1) := by decide +kernel
theorem dX1_growDay_26 : decode cX1_growDay 26 = .ok (.iinc 1 1, 3) := by decide +kernel
theorem dX1_growDay_29 : decode cX1_growDay 29 = .ok (.goto (-27), 3) := by decide +kernel
theorem dX1_growDay_32 : decode cX1_growDay 32 = .ok (.return_, 1) := by decide +kernel
theorem dX1_copyLand_0 : decode cX1_copyLand 0 = .ok (.aload_n 1, 1) := by decide +kernel
theorem dX1_copyLand_1 : decode cX1_copyLand 1 = .ok (.getfield 9, 3) := by decide +kernel
theorem dX1_copyLand_4 : decode cX1_copyLand 4 = .ok (.iconst 0, 1) := by decide +kernel
theorem dX1_copyLand_5 : decode cX1_copyLand 5 = .ok (.aload_n 0, 1) := by decide +kernel
theorem dX1_copyLand_6 : decode cX1_copyLand 6 = .ok (.getfield 9, 3) := by decide +kernel
theorem dX1_copyLand_9 : decode cX1_copyLand 9 = .ok (.iconst 0, 1) := by decide +kernel
theorem dX1_copyLand_10 : decode cX1_copyLand 10 = .ok (.bipush 20, 2) := by decide +kernel
theorem dX1_copyLand_12 : decode cX1_copyLand 12 = .ok (.invokestatic 36, 3) := by decide +kernel
theorem dX1_copyLand_15 : decode cX1_copyLand 15 = .ok (.aload_n 1, 1) := by decide +kernel
theorem dX1_copyLand_16 : decode cX1_copyLand 16 = .ok (.getfield 15, 3) := by decide +kernel
theorem dX1_copyLand_19 : decode cX1_copyLand 19 = .ok (.iconst 0, 1) := by decide +kernel
theorem dX1_copyLand_20 : decode cX1_copyLand 20 = .ok (.aload_n 0, 1) := by decide +kernel
theorem dX1_copyLand_21 : decode cX1_copyLand 21 = .ok (.getfield 15, 3) := by decide +kernel
theorem dX1_copyLand_24 : decode cX1_copyLand 24 = .ok (.iconst 0, 1) := by decide +kernel
theorem dX1_copyLand_25 : decode cX1_copyLand 25 = .ok (.bipush 20, 2) := by decide +kernel
theorem dX1_copyLand_27 : decode cX1_copyLand 27 = .ok (.invokestatic 36, 3) := by decide +kernel
theorem dX1_copyLand_30 : decode cX1_copyLand 30 = .ok (.return_, 1) := by decide +kernel
theorem dX2_init_0 : decode cX2_init 0 = .ok (.aload_n 0, 1) := by decide +kernel
theorem dX2_init_1 : decode cX2_init 1 = .ok (.invokespecial 3, 3) := by decide +kernel
theorem dX2_init_4 : decode cX2_init 4 = .ok (.aload_n 0, 1) := by decide +kernel
theorem dX2_init_5 : decode cX2_init 5 = .ok (.new 9, 3) := by decide +kernel
theorem dX2_init_8 : decode cX2_init 8 = .ok (.dup, 1) := by decide +kernel
theorem dX2_init_9 : decode cX2_init 9 = .ok (.invokespecial 11, 3) := by decide +kernel
theorem dX2_init_12 : decode cX2_init 12 = .ok (.putfield 12, 3) := by decide +kernel
theorem dX2_init_15 : decode cX2_init 15 = .ok (.aload_n 0, 1) := by decide +kernel
theorem dX2_init_16 : decode cX2_init 16 = .ok (.iconst 0, 1) := by decide +kernel
theorem dX2_init_17 : decode cX2_init 17 = .ok (.putfield 18, 3) := by decide +kernel
theorem dX2_init_20 : decode cX2_init 20 = .ok (.aload_n 0, 1) := by decide +kernel
theorem dX2_init_21 : decode cX2_init 21 = .ok (.iconst 3, 1) := by decide +kernel
theorem dX2_init_22 : decode cX2_init 22 = .ok (.newarray .int, 2) := by decide +kernel
theorem dX2_init_24 : decode cX2_init 24 = .ok (.putfield 22, 3) := by decide +kernel
theorem dX2_init_27 : decode cX2_init 27 = .ok (.aload_n 0, 1) := by decide +kernel
theorem dX2_init_28 : decode cX2_init 28 = .ok (.iconst 0, 1) := by decide +kernel
theorem dX2_init_29 : decode cX2_init 29 = .ok (.putfield 26, 3) := by decide +kernel
theorem dX2_init_32 : decode cX2_init 32 = .ok (.aload_n 0, 1) := by decide +kernel
theorem dX2_init_33 : decode cX2_init 33 = .ok (.iconst (-1), 1) := by decide +kernel
theorem dX2_init_34 : decode cX2_init 34 = .ok (.putfield 29, 3) := by decide +kernel
theorem dX2_init_37 : decode cX2_init 37 = .ok (.aload_n 0, 1) := by decide +kernel
theorem dX2_init_38 : decode cX2_init 38 = .ok (.iconst (-1), 1) := by decide +kernel
theorem dX2_init_39 : decode cX2_init 39 = .ok (.putfield 32, 3) := by decide +kernel
theorem dX2_init_42 : decode cX2_init 42 = .ok (.return_, 1) := by decide +kernel
theorem dX2_faultOf_0 : decode cX2_faultOf 0 = .ok (.aload_n 0, 1) := by decide +kernel
theorem dX2_faultOf_1 : decode cX2_faultOf 1 = .ok (.aload_n 1, 1) := by decide +kernel
theorem dX2_faultOf_2 : decode cX2_faultOf 2 = .ok (.iload_n 2, 1) := by decide +kernel
theorem dX2_faultOf_3 : decode cX2_faultOf 3 = .ok (.iconst 0, 1) := by decide +kernel
theorem dX2_faultOf_4 : decode cX2_faultOf 4 = .ok (.iconst 0, 1) := by decide +kernel
theorem dX2_faultOf_5 : decode cX2_faultOf 5 = .ok (.iconst 0, 1) := by decide +kernel
theorem dX2_faultOf_6 : decode cX2_faultOf 6 = .ok (.invokevirtual 35, 3) := by decide +kernel
theorem dX2_faultOf_9 : decode cX2_faultOf 9 = .ok (.pop, 1) := by decide +kernel
theorem dX2_faultOf_10 : decode cX2_faultOf 10 = .ok (.aload_n 0, 1) := by decide +kernel
theorem dX2_faultOf_11 : decode cX2_faultOf 11 = .ok (.getfield 32, 3) := by decide +kernel
theorem dX2_faultOf_14 : decode cX2_faultOf 14 = .ok (.ireturn, 1) := by decide +kernel
theorem dX2_worth_0 : decode cX2_worth 0 = .ok (.aload_n 0, 1) := by decide +kernel
theorem dX2_worth_1 : decode cX2_worth 1 = .ok (.aload_n 1, 1) := by decide +kernel
theorem dX2_worth_2 : decode cX2_worth 2 = .ok (.putfield 12, 3) := by decide +kernel
theorem dX2_worth_5 : decode cX2_worth 5 = .ok (.aload_n 0, 1) := by decide +kernel
theorem dX2_worth_6 : decode cX2_worth 6 = .ok (.iload_n 2, 1) := by decide +kernel
theorem dX2_worth_7 : decode cX2_worth 7 = .ok (.putfield 18, 3) := by decide +kernel
theorem dX2_worth_10 : decode cX2_worth 10 = .ok (.aload_n 0, 1) := by decide +kernel
theorem dX2_worth_11 : decode cX2_worth 11 = .ok (.getfield 22, 3) := by decide +kernel
theorem dX2_worth_14 : decode cX2_worth 14 = .ok (.iconst 0, 1) := by decide +kernel
theorem dX2_worth_15 : decode cX2_worth 15 = .ok (.iload_n 3, 1) := by decide +kernel
theorem dX2_worth_16 : decode cX2_worth 16 = .ok (.iastore, 1) := by decide +kernel
theorem dX2_worth_17 : decode cX2_worth 17 = .ok (.aload_n 0, 1) := by decide +kernel
theorem dX2_worth_18 : decode cX2_worth 18 = .ok (.getfield 22, 3) := by decide +kernel
theorem dX2_worth_21 : decode cX2_worth 21 = .ok (.iconst 1, 1) := by decide +kernel
theorem dX2_worth_22 : decode cX2_worth 22 = .ok (.iload 4, 2) := by decide +kernel
theorem dX2_worth_24 : decode cX2_worth 24 = .ok (.iastore, 1) := by decide +kernel
theorem dX2_worth_25 : decode cX2_worth 25 = .ok (.aload_n 0, 1) := by decide +kernel
theorem dX2_worth_26 : decode cX2_worth 26 = .ok (.getfield 22, 3) := by decide +kernel
theorem dX2_worth_29 : decode cX2_worth 29 = .ok (.iconst 2, 1) := by decide +kernel
theorem dX2_worth_30 : decode cX2_worth 30 = .ok (.iload 5, 2) := by decide +kernel
theorem dX2_worth_32 : decode cX2_worth 32 = .ok (.iastore, 1) := by decide +kernel
theorem dX2_worth_33 : decode cX2_worth 33 = .ok (.aload_n 0, 1) := by decide +kernel
theorem dX2_worth_34 : decode cX2_worth 34 = .ok (.iconst (-1), 1) := by decide +kernel
theorem dX2_worth_35 : decode cX2_worth 35 = .ok (.putfield 26, 3) := by decide +kernel
theorem dX2_worth_38 : decode cX2_worth 38 = .ok (.aload_n 0, 1) := by decide +kernel
theorem dX2_worth_39 : decode cX2_worth 39 = .ok (.iconst (-1), 1) := by decide +kernel
theorem dX2_worth_40 : decode cX2_worth 40 = .ok (.putfield 32, 3) := by decide +kernel
theorem dX2_worth_43 : decode cX2_worth 43 = .ok (.aload_n 0, 1) := by decide +kernel
theorem dX2_worth_44 : decode cX2_worth 44 = .ok (.invokevirtual 39, 3) := by decide +kernel
theorem dX2_worth_47 : decode cX2_worth 47 = .ok (.aload_n 0, 1) := by decide +kernel
theorem dX2_worth_48 : decode cX2_worth 48 = .ok (.iconst 0, 1) := by decide +kernel
theorem dX2_worth_49 : decode cX2_worth 49 = .ok (.iconst 0, 1) := by decide +kernel
theorem dX2_worth_50 : decode cX2_worth 50 = .ok (.invokevirtual 42, 3) := by decide +kernel
theorem dX2_worth_53 : decode cX2_worth 53 = .ok (.istore 6, 2) := by decide +kernel
theorem dX2_worth_55 : decode cX2_worth 55 = .ok (.aload_n 0, 1) := by decide +kernel
theorem dX2_worth_56 : decode cX2_worth 56 = .ok (.getfield 26, 3) := by decide +kernel
theorem dX2_worth_59 : decode cX2_worth 59 = .ok (.aload_n 0, 1) := by decide +kernel
theorem dX2_worth_60 : decode cX2_worth 60 = .ok (.getfield 12, 3) := by decide +kernel
theorem dX2_worth_63 : decode cX2_worth 63 = .ok (.getfield 46, 3) := by decide +kernel
theorem dX2_worth_66 : decode cX2_worth 66 = .ok (.if_icmp .ge 7, 3) := by decide +kernel
theorem dX2_worth_69 : decode cX2_worth 69 = .ok (.aload_n 0, 1) := by decide +kernel
theorem dX2_worth_70 : decode cX2_worth 70 = .ok (.invokevirtual 49, 3) := by decide +kernel
theorem dX2_worth_73 : decode cX2_worth 73 = .ok (.iload 6, 2) := by decide +kernel
theorem dX2_worth_75 : decode cX2_worth 75 = .ok (.ireturn, 1) := by decide +kernel
theorem dX2_step_0 : decode cX2_step 0 = .ok (.aload_n 0, 1) := by decide +kernel
theorem dX2_step_1 : decode cX2_step 1 = .ok (.dup, 1) := by decide +kernel
theorem dX2_step_2 : decode cX2_step 2 = .ok (.getfield 26, 3) := by decide +kernel
theorem dX2_step_5 : decode cX2_step 5 = .ok (.iconst 1, 1) := by decide +kernel
theorem dX2_step_6 : decode cX2_step 6 = .ok (.iadd, 1) := by decide +kernel
theorem dX2_step_7 : decode cX2_step 7 = .ok (.putfield 26, 3) := by decide +kernel
theorem dX2_step_10 : decode cX2_step 10 = .ok (.aload_n 0, 1) := by decide +kernel
theorem dX2_step_11 : decode cX2_step 11 = .ok (.aload_n 0, 1) := by decide +kernel
theorem dX2_step_12 : decode cX2_step 12 = .ok (.getfield 26, 3) := by decide +kernel
theorem dX2_step_15 : decode cX2_step 15 = .ok (.aload_n 0, 1) := by decide +kernel
theorem dX2_step_16 : decode cX2_step 16 = .ok (.getfield 12, 3) := by decide +kernel
theorem dX2_step_19 : decode cX2_step 19 = .ok (.getfield 46, 3) := by decide +kernel
theorem dX2_step_22 : decode cX2_step 22 = .ok (.if_icmp .ge 22, 3) := by decide +kernel
theorem dX2_step_25 : decode cX2_step 25 = .ok (.aload_n 0, 1) := by decide +kernel
theorem dX2_step_26 : decode cX2_step 26 = .ok (.getfield 12, 3) := by decide +kernel
theorem dX2_step_29 : decode cX2_step 29 = .ok (.getfield 52, 3) := by decide +kernel
theorem dX2_step_32 : decode cX2_step 32 = .ok (.aload_n 0, 1) := by decide +kernel
theorem dX2_step_33 : decode cX2_step 33 = .ok (.getfield 26, 3) := by decide +kernel
theorem dX2_step_36 : decode cX2_step 36 = .ok (.baload, 1) := by decide +kernel
theorem dX2_step_37 : decode cX2_step 37 = .ok (.sipush 255, 3) := by decide +kernel
theorem dX2_step_40 : decode cX2_step 40 = .ok (.iand, 1) := by decide +kernel
theorem dX2_step_41 : decode cX2_step 41 = .ok (.goto 4, 3) := by decide +kernel
theorem dX2_step_44 : decode cX2_step 44 = .ok (.iconst (-1), 1) := by decide +kernel
theorem dX2_step_45 : decode cX2_step 45 = .ok (.putfield 29, 3) := by decide +kernel
theorem dX2_step_48 : decode cX2_step 48 = .ok (.return_, 1) := by decide +kernel
theorem dX2_refuse_0 : decode cX2_refuse 0 = .ok (.aload_n 0, 1) := by decide +kernel
theorem dX2_refuse_1 : decode cX2_refuse 1 = .ok (.aload_n 0, 1) := by decide +kernel
theorem dX2_refuse_2 : decode cX2_refuse 2 = .ok (.getfield 26, 3) := by decide +kernel
theorem dX2_refuse_5 : decode cX2_refuse 5 = .ok (.putfield 32, 3) := by decide +kernel
theorem dX2_refuse_8 : decode cX2_refuse 8 = .ok (.aload_n 0, 1) := by decide +kernel
theorem dX2_refuse_9 : decode cX2_refuse 9 = .ok (.iconst (-1), 1) := by decide +kernel
theorem dX2_refuse_10 : decode cX2_refuse 10 = .ok (.putfield 29, 3) := by decide +kernel
theorem dX2_refuse_13 : decode cX2_refuse 13 = .ok (.return_, 1) := by decide +kernel
theorem dX2_readJoined_0 : decode cX2_readJoined 0 = .ok (.iload_n 1, 1) := by decide +kernel
theorem dX2_readJoined_1 : decode cX2_readJoined 1 = .ok (.iconst 4, 1) := by decide +kernel
theorem dX2_readJoined_2 : decode cX2_readJoined 2 = .ok (.if_icmp .lt 7, 3) := by decide +kernel
theorem dX2_readJoined_5 : decode cX2_readJoined 5 = .ok (.iconst 1, 1) := by decide +kernel
theorem dX2_readJoined_6 : decode cX2_readJoined 6 = .ok (.goto 4, 3) := by decide +kernel
theorem dX2_readJoined_9 : decode cX2_readJoined 9 = .ok (.iconst 0, 1) := by decide +kernel
theorem dX2_readJoined_10 : decode cX2_readJoined 10 = .ok (.istore_n 3, 1) := by decide +kernel
theorem dX2_readJoined_11 : decode cX2_readJoined 11 = .ok (.iload_n 3, 1) := by decide +kernel
theorem dX2_readJoined_12 : decode cX2_readJoined 12 = .ok (.ifCond .eq 11, 3) := by decide +kernel
theorem dX2_readJoined_15 : decode cX2_readJoined 15 = .ok (.aload_n 0, 1) := by decide +kernel
theorem dX2_readJoined_16 : decode cX2_readJoined 16 = .ok (.iload_n 2, 1) := by decide +kernel
theorem dX2_readJoined_17 : decode cX2_readJoined 17 = .ok (.invokevirtual 56, 3) := by decide +kernel
theorem dX2_readJoined_20 : decode cX2_readJoined 20 = .ok (.goto 11, 3) := by decide +kernel
theorem dX2_readJoined_23 : decode cX2_readJoined 23 = .ok (.aload_n 0, 1) := by decide +kernel
theorem dX2_readJoined_24 : decode cX2_readJoined 24 = .ok (.iload_n 1, 1) := by decide +kernel
theorem dX2_readJoined_25 : decode cX2_readJoined 25 = .ok (.iconst 1, 1) := by decide +kernel
theorem dX2_readJoined_26 : decode cX2_readJoined 26 = .ok (.iadd, 1) := by decide +kernel
theorem dX2_readJoined_27 : decode cX2_readJoined 27 = .ok (.iload_n 2, 1) := by decide +kernel
theorem dX2_readJoined_28 : decode cX2_readJoined 28 = .ok (.invokevirtual 42, 3) := by decide +kernel
theorem dX2_readJoined_31 : decode cX2_readJoined 31 = .ok (.istore 4, 2) := by decide +kernel
theorem dX2_readJoined_33 : decode cX2_readJoined 33 = .ok (.iload_n 1, 1) := by decide +kernel
theorem dX2_readJoined_34 : decode cX2_readJoined 34 = .ok (.iconst 2, 1) := by decide +kernel
theorem dX2_readJoined_35 : decode cX2_readJoined 35 = .ok (.if_icmp .ne 7, 3) := by decide +kernel
theorem dX2_readJoined_38 : decode cX2_readJoined 38 = .ok (.iconst 1, 1) := by decide +kernel
theorem dX2_readJoined_39 : decode cX2_readJoined 39 = .ok (.goto 5, 3) := by decide +kernel
theorem dX2_readJoined_42 : decode cX2_readJoined 42 = .ok (.bipush 50, 2) := by decide +kernel
theorem dX2_readJoined_44 : decode cX2_readJoined 44 = .ok (.istore 5, 2) := by decide +kernel
theorem dX2_readJoined_46 : decode cX2_readJoined 46 = .ok (.iconst 0, 1) := by decide +kernel
theorem dX2_readJoined_47 : decode cX2_readJoined 47 = .ok (.istore 6, 2) := by decide +kernel
theorem dX2_readJoined_49 : decode cX2_readJoined 49 = .ok (.iload 6, 2) := by decide +kernel
theorem dX2_readJoined_51 : decode cX2_readJoined 51 = .ok (.iload 5, 2) := by decide +kernel
theorem dX2_readJoined_53 : decode cX2_readJoined 53 = .ok (.if_icmp .ge 63, 3) := by decide +kernel
theorem dX2_readJoined_56 : decode cX2_readJoined 56 = .ok (.aload_n 0, 1) := by decide +kernel
theorem dX2_readJoined_57 : decode cX2_readJoined 57 = .ok (.getfield 29, 3) := by decide +kernel
theorem dX2_readJoined_60 : decode cX2_readJoined 60 = .ok (.invokestatic 60, 3) := by decide +kernel
theorem dX2_readJoined_63 : decode cX2_readJoined 63 = .ok (.iload_n 1, 1) := by decide +kernel
theorem dX2_readJoined_64 : decode cX2_readJoined 64 = .ok (.if_icmp .ne 52, 3) := by decide +kernel
theorem dX2_readJoined_67 : decode cX2_readJoined 67 = .ok (.aload_n 0, 1) := by decide +kernel
theorem dX2_readJoined_68 : decode cX2_readJoined 68 = .ok (.getfield 29, 3) := by decide +kernel
theorem dX2_readJoined_71 : decode cX2_readJoined 71 = .ok (.istore 7, 2) := by decide +kernel
theorem dX2_readJoined_73 : decode cX2_readJoined 73 = .ok (.aload_n 0, 1) := by decide +kernel
theorem dX2_readJoined_74 : decode cX2_readJoined 74 = .ok (.invokevirtual 39, 3) := by decide +kernel
theorem dX2_readJoined_77 : decode cX2_readJoined 77 = .ok (.iload_n 3, 1) := by decide +kernel
theorem dX2_readJoined_78 : decode cX2_readJoined 78 = .ok (.ifCond .eq 11, 3) := by decide +kernel
theorem dX2_readJoined_81 : decode cX2_readJoined 81 = .ok (.aload_n 0, 1) := by decide +kernel
theorem dX2_readJoined_82 : decode cX2_readJoined 82 = .ok (.iload_n 2, 1) := by decide +kernel
theorem dX2_readJoined_83 : decode cX2_readJoined 83 = .ok (.invokevirtual 56, 3) := by decide +kernel
theorem dX2_readJoined_86 : decode cX2_readJoined 86 = .ok (.goto 11, 3) := by decide +kernel
theorem dX2_readJoined_89 : decode cX2_readJoined 89 = .ok (.aload_n 0, 1) := by decide +kernel
theorem dX2_readJoined_90 : decode cX2_readJoined 90 = .ok (.iload_n 1, 1) := by decide +kernel
theorem dX2_readJoined_91 : decode cX2_readJoined 91 = .ok (.iconst 1, 1) := by decide +kernel
theorem dX2_readJoined_92 : decode cX2_readJoined 92 = .ok (.iadd, 1) := by decide +kernel
theorem dX2_readJoined_93 : decode cX2_readJoined 93 = .ok (.iload_n 2, 1) := by decide +kernel
theorem dX2_readJoined_94 : decode cX2_readJoined 94 = .ok (.invokevirtual 42, 3) := by decide +kernel
theorem dX2_readJoined_97 : decode cX2_readJoined 97 = .ok (.istore 8, 2) := by decide +kernel
theorem dX2_readJoined_99 : decode cX2_readJoined 99 = .ok (.iload 4, 2) := by decide +kernel
theorem dX2_readJoined_101 : decode cX2_readJoined 101 = .ok (.iload 7, 2) := by decide +kernel
theorem dX2_readJoined_103 : decode cX2_readJoined 103 = .ok (.iload 8, 2) := by decide +kernel
theorem dX2_readJoined_105 : decode cX2_readJoined 105 = .ok (.invokestatic 63, 3) := by decide +kernel
theorem dX2_readJoined_108 : decode cX2_readJoined 108 = .ok (.istore 4, 2) := by decide +kernel
theorem dX2_readJoined_110 : decode cX2_readJoined 110 = .ok (.iinc 6 1, 3) := by decide +kernel
theorem dX2_readJoined_113 : decode cX2_readJoined 113 = .ok (.goto (-64), 3) := by decide +kernel
theorem dX2_readJoined_116 : decode cX2_readJoined 116 = .ok (.iload 4, 2) := by decide +kernel
theorem dX2_readJoined_118 : decode cX2_readJoined 118 = .ok (.ireturn, 1) := by decide +kernel
theorem dX2_readSingle_0 : decode cX2_readSingle 0 = .ok (.iconst 0, 1) := by decide +kernel
theorem dX2_readSingle_1 : decode cX2_readSingle 1 = .ok (.istore_n 2, 1) := by decide +kernel
theorem dX2_readSingle_2 : decode cX2_readSingle 2 = .ok (.iconst 0, 1) := by decide +kernel
theorem dX2_readSingle_3 : decode cX2_readSingle 3 = .ok (.istore_n 3, 1) := by decide +kernel
theorem dX2_readSingle_4 : decode cX2_readSingle 4 = .ok (.iload_n 3, 1) := by decide +kernel
theorem dX2_readSingle_5 : decode cX2_readSingle 5 = .ok (.iconst 4, 1) := by decide +kernel
theorem dX2_readSingle_6 : decode cX2_readSingle 6 = .ok (.if_icmp .ge 44, 3) := by decide +kernel
theorem dX2_readSingle_9 : decode cX2_readSingle 9 = .ok (.aload_n 0, 1) := by decide +kernel
theorem dX2_readSingle_10 : decode cX2_readSingle 10 = .ok (.getfield 29, 3) := by decide +kernel
theorem dX2_readSingle_13 : decode cX2_readSingle 13 = .ok (.bipush 48, 2) := by decide +kernel
theorem dX2_readSingle_15 : decode cX2_readSingle 15 = .ok (.if_icmp .lt 35, 3) := by decide +kernel
theorem dX2_readSingle_18 : decode cX2_readSingle 18 = .ok (.aload_n 0, 1) := by decide +kernel
theorem dX2_readSingle_19 : decode cX2_readSingle 19 = .ok (.getfield 29, 3) := by decide +kernel
theorem dX2_readSingle_22 : decode cX2_readSingle 22 = .ok (.bipush 57, 2) := by decide +kernel
theorem dX2_readSingle_24 : decode cX2_readSingle 24 = .ok (.if_icmp .gt 26, 3) := by decide +kernel
theorem dX2_readSingle_27 : decode cX2_readSingle 27 = .ok (.iload_n 2, 1) := by decide +kernel
theorem dX2_readSingle_28 : decode cX2_readSingle 28 = .ok (.bipush 10, 2) := by decide +kernel
theorem dX2_readSingle_30 : decode cX2_readSingle 30 = .ok (.imul, 1) := by decide +kernel
theorem dX2_readSingle_31 : decode cX2_readSingle 31 = .ok (.aload_n 0, 1) := by decide +kernel
theorem dX2_readSingle_32 : decode cX2_readSingle 32 = .ok (.getfield 29, 3) := by decide +kernel
theorem dX2_readSingle_35 : decode cX2_readSingle 35 = .ok (.iadd, 1) := by decide +kernel
theorem dX2_readSingle_36 : decode cX2_readSingle 36 = .ok (.bipush 48, 2) := by decide +kernel
theorem dX2_readSingle_38 : decode cX2_readSingle 38 = .ok (.isub, 1) := by decide +kernel
theorem dX2_readSingle_39 : decode cX2_readSingle 39 = .ok (.istore_n 2, 1) := by decide +kernel
theorem dX2_readSingle_40 : decode cX2_readSingle 40 = .ok (.iinc 3 1, 3) := by decide +kernel
theorem dX2_readSingle_43 : decode cX2_readSingle 43 = .ok (.aload_n 0, 1) := by decide +kernel
theorem dX2_readSingle_44 : decode cX2_readSingle 44 = .ok (.invokevirtual 39, 3) := by decide +kernel
theorem dX2_readSingle_47 : decode cX2_readSingle 47 = .ok (.goto (-43), 3) := by decide +kernel
theorem dX2_readSingle_50 : decode cX2_readSingle 50 = .ok (.iload_n 3, 1) := by decide +kernel
theorem dX2_readSingle_51 : decode cX2_readSingle 51 = .ok (.ifCond .le 5, 3) := by decide +kernel
theorem dX2_readSingle_54 : decode cX2_readSingle 54 = .ok (.iload_n 2, 1) := by decide +kernel
theorem dX2_readSingle_55 : decode cX2_readSingle 55 = .ok (.ireturn, 1) := by decide +kernel
theorem dX2_readSingle_56 : decode cX2_readSingle 56 = .ok (.iconst 0, 1) := by decide +kernel
theorem dX2_readSingle_57 : decode cX2_readSingle 57 = .ok (.istore 4, 2) := by decide +kernel
theorem dX2_readSingle_59 : decode cX2_readSingle 59 = .ok (.iload 4, 2) := by decide +kernel
theorem dX2_readSingle_61 : decode cX2_readSingle 61 = .ok (.iconst 3, 1) := by decide +kernel
theorem dX2_readSingle_62 : decode cX2_readSingle 62 = .ok (.if_icmp .ge 41, 3) := by decide +kernel
theorem dX2_readSingle_65 : decode cX2_readSingle 65 = .ok (.aload_n 0, 1) := by decide +kernel
theorem dX2_readSingle_66 : decode cX2_readSingle 66 = .ok (.getfield 29, 3) := by decide +kernel
theorem dX2_readSingle_69 : decode cX2_readSingle 69 = .ok (.getstatic 67, 3) := by decide +kernel
theorem dX2_readSingle_72 : decode cX2_readSingle 72 = .ok (.aload_n 0, 1) := by decide +kernel
theorem dX2_readSingle_73 : decode cX2_readSingle 73 = .ok (.getfield 18, 3) := by decide +kernel
theorem dX2_readSingle_76 : decode cX2_readSingle 76 = .ok (.iconst 3, 1) := by decide +kernel
theorem dX2_readSingle_77 : decode cX2_readSingle 77 = .ok (.imul, 1) := by decide +kernel
theorem dX2_readSingle_78 : decode cX2_readSingle 78 = .ok (.iload 4, 2) := by decide +kernel
theorem dX2_readSingle_80 : decode cX2_readSingle 80 = .ok (.iadd, 1) := by decide +kernel
theorem dX2_readSingle_81 : decode cX2_readSingle 81 = .ok (.caload, 1) := by decide +kernel
theorem dX2_readSingle_82 : decode cX2_readSingle 82 = .ok (.if_icmp .ne 15, 3) := by decide +kernel
theorem dX2_readSingle_85 : decode cX2_readSingle 85 = .ok (.aload_n 0, 1) := by decide +kernel
theorem dX2_readSingle_86 : decode cX2_readSingle 86 = .ok (.invokevirtual 39, 3) := by decide +kernel
theorem dX2_readSingle_89 : decode cX2_readSingle 89 = .ok (.aload_n 0, 1) := by decide +kernel
theorem dX2_readSingle_90 : decode cX2_readSingle 90 = .ok (.getfield 22, 3) := by decide +kernel
theorem dX2_readSingle_93 : decode cX2_readSingle 93 = .ok (.iload 4, 2) := by decide +kernel
theorem dX2_readSingle_95 : decode cX2_readSingle 95 = .ok (.iaload, 1) := by decide +kernel
theorem dX2_readSingle_96 : decode cX2_readSingle 96 = .ok (.ireturn, 1) := by decide +kernel
theorem dX2_readSingle_97 : decode cX2_readSingle 97 = .ok (.iinc 4 1, 3) := by decide +kernel
theorem dX2_readSingle_100 : decode cX2_readSingle 100 = .ok (.goto (-41), 3) := by decide +kernel
theorem dX2_readSingle_103 : decode cX2_readSingle 103 = .ok (.iload_n 1, 1) := by decide +kernel
theorem dX2_readSingle_104 : decode cX2_readSingle 104 = .ok (.iconst 5, 1) := by decide +kernel
theorem dX2_readSingle_105 : decode cX2_readSingle 105 = .ok (.if_icmp .ge 32, 3) := by decide +kernel
theorem dX2_readSingle_108 : decode cX2_readSingle 108 = .ok (.aload_n 0, 1) := by decide +kernel
theorem dX2_readSingle_109 : decode cX2_readSingle 109 = .ok (.getfield 29, 3) := by decide +kernel
theorem dX2_readSingle_112 : decode cX2_readSingle 112 = .ok (.bipush 33, 2) := by decide +kernel
theorem dX2_readSingle_114 : decode cX2_readSingle 114 = .ok (.if_icmp .ne 23, 3) := by decide +kernel
theorem dX2_readSingle_117 : decode cX2_readSingle 117 = .ok (.aload_n 0, 1) := by decide +kernel
theorem dX2_readSingle_118 : decode cX2_readSingle 118 = .ok (.invokevirtual 39, 3) := by decide +kernel
theorem dX2_readSingle_121 : decode cX2_readSingle 121 = .ok (.aload_n 0, 1) := by decide +kernel
theorem dX2_readSingle_122 : decode cX2_readSingle 122 = .ok (.iload_n 1, 1) := by decide +kernel
theorem dX2_readSingle_123 : decode cX2_readSingle 123 = .ok (.iconst 1, 1) := by decide +kernel
theorem dX2_readSingle_124 : decode cX2_readSingle 124 = .ok (.iadd, 1) := by decide +kernel
theorem dX2_readSingle_125 : decode cX2_readSingle 125 = .ok (.invokevirtual 56, 3) := by decide +kernel
theorem dX2_readSingle_128 : decode cX2_readSingle 128 = .ok (.ifCond .ne 7, 3) := by decide +kernel
theorem dX2_readSingle_131 : decode cX2_readSingle 131 = .ok (.iconst 1, 1) := by decide +kernel
theorem dX2_readSingle_132 : decode cX2_readSingle 132 = .ok (.goto 4, 3) := by decide +kernel
theorem dX2_readSingle_135 : decode cX2_readSingle 135 = .ok (.iconst 0, 1) := by decide +kernel
theorem dX2_readSingle_136 : decode cX2_readSingle 136 = .ok (.ireturn, 1) := by decide +kernel
theorem dX2_readSingle_137 : decode cX2_readSingle 137 = .ok (.iload_n 1, 1) := by decide +kernel
theorem dX2_readSingle_138 : decode cX2_readSingle 138 = .ok (.iconst 5, 1) := by decide +kernel
theorem dX2_readSingle_139 : decode cX2_readSingle 139 = .ok (.if_icmp .ge 40, 3) := by decide +kernel
theorem dX2_readSingle_142 : decode cX2_readSingle 142 = .ok (.aload_n 0, 1) := by decide +kernel
theorem dX2_readSingle_143 : decode cX2_readSingle 143 = .ok (.getfield 29, 3) := by decide +kernel
theorem dX2_readSingle_146 : decode cX2_readSingle 146 = .ok (.bipush 40, 2) := by decide +kernel
theorem dX2_readSingle_148 : decode cX2_readSingle 148 = .ok (.if_icmp .ne 31, 3) := by decide +kernel
theorem dX2_readSingle_151 : decode cX2_readSingle 151 = .ok (.aload_n 0, 1) := by decide +kernel
theorem dX2_readSingle_152 : decode cX2_readSingle 152 = .ok (.invokevirtual 39, 3) := by decide +kernel
theorem dX2_readSingle_155 : decode cX2_readSingle 155 = .ok (.aload_n 0, 1) := by decide +kernel
theorem dX2_readSingle_156 : decode cX2_readSingle 156 = .ok (.iconst 0, 1) := by decide +kernel
theorem dX2_readSingle_157 : decode cX2_readSingle 157 = .ok (.iload_n 1, 1) := by decide +kernel
theorem dX2_readSingle_158 : decode cX2_readSingle 158 = .ok (.iconst 1, 1) := by decide +kernel
theorem dX2_readSingle_159 : decode cX2_readSingle 159 = .ok (.iadd, 1) := by decide +kernel
theorem dX2_readSingle_160 : decode cX2_readSingle 160 = .ok (.invokevirtual 42, 3) := by decide +kernel
theorem dX2_readSingle_163 : decode cX2_readSingle 163 = .ok (.istore_n 2, 1) := by decide +kernel
theorem dX2_readSingle_164 : decode cX2_readSingle 164 = .ok (.aload_n 0, 1) := by decide +kernel
theorem dX2_readSingle_165 : decode cX2_readSingle 165 = .ok (.getfield 29, 3) := by decide +kernel
theorem dX2_readSingle_168 : decode cX2_readSingle 168 = .ok (.bipush 41, 2) := by decide +kernel
theorem dX2_readSingle_170 : decode cX2_readSingle 170 = .ok (.if_icmp .ne 9, 3) := by decide +kernel
theorem dX2_readSingle_173 : decode cX2_readSingle 173 = .ok (.aload_n 0, 1) := by decide +kernel
theorem dX2_readSingle_174 : decode cX2_readSingle 174 = .ok (.invokevirtual 39, 3) := by decide +kernel
theorem dX2_readSingle_177 : decode cX2_readSingle 177 = .ok (.iload_n 2, 1) := by decide +kernel
theorem dX2_readSingle_178 : decode cX2_readSingle 178 = .ok (.ireturn, 1) := by decide +kernel
theorem dX2_readSingle_179 : decode cX2_readSingle 179 = .ok (.aload_n 0, 1) := by decide +kernel
theorem dX2_readSingle_180 : decode cX2_readSingle 180 = .ok (.invokevirtual 49, 3) := by decide +kernel
theorem dX2_readSingle_183 : decode cX2_readSingle 183 = .ok (.iconst 0, 1) := by decide +kernel
theorem dX2_readSingle_184 : decode cX2_readSingle 184 = .ok (.ireturn, 1) := by decide +kernel
theorem dX2_levelOf_0 : decode cX2_levelOf 0 = .ok (.iload_n 0, 1) := by decide +kernel
theorem dX2_levelOf_1 : decode cX2_levelOf 1 = .ok (.lookupswitch 101 #[(37, 99), (38, 93), (42, 99), (43, 97), (45, 97), (47, 99), (60, 95), (61, 95), (62, 95), (124, 91)], 91) := by decide +kernel
theorem dX2_levelOf_92 : decode cX2_levelOf 92 = .ok (.iconst 0, 1) := by decide +kernel
theorem dX2_levelOf_93 : decode cX2_levelOf 93 = .ok (.ireturn, 1) := by decide +kernel
theorem dX2_levelOf_94 : decode cX2_levelOf 94 = .ok (.iconst 1, 1) := by decide +kernel
theorem dX2_levelOf_95 : decode cX2_levelOf 95 = .ok (.ireturn, 1) := by decide +kernel
theorem dX2_levelOf_96 : decode cX2_levelOf 96 = .ok (.iconst 2, 1) := by decide +kernel
theorem dX2_levelOf_97 : decode cX2_levelOf 97 = .ok (.ireturn, 1) := by decide +kernel
theorem dX2_levelOf_98 : decode cX2_levelOf 98 = .ok (.iconst 3, 1) := by decide +kernel
theorem dX2_levelOf_99 : decode cX2_levelOf 99 = .ok (.ireturn, 1) := by decide +kernel
theorem dX2_levelOf_100 : decode cX2_levelOf 100 = .ok (.iconst 4, 1) := by decide +kernel
theorem dX2_levelOf_101 : decode cX2_levelOf 101 = .ok (.ireturn, 1) := by decide +kernel
theorem dX2_levelOf_102 : decode cX2_levelOf 102 = .ok (.iconst (-1), 1) := by decide +kernel
theorem dX2_levelOf_103 : decode cX2_levelOf 103 = .ok (.ireturn, 1) := by decide +kernel
theorem dX2_joined_0 : decode cX2_joined 0 = .ok (.iload_n 1, 1) := by decide +kernel
theorem dX2_joined_1 : decode cX2_joined 1 = .ok (.lookupswitch 168 #[(38, 97), (42, 152), (43, 144), (45, 148), (47, 156), (60, 111), (61, 122), (62, 133), (124, 83)], 83) := by decide +kernel
theorem dX2_joined_84 : decode cX2_joined 84 = .ok (.iload_n 0, 1) := by decide +kernel
theorem dX2_joined_85 : decode cX2_joined 85 = .ok (.ifCond .ne 7, 3) := by decide +kernel
theorem dX2_joined_88 : decode cX2_joined 88 = .ok (.iload_n 2, 1) := by decide +kernel
theorem dX2_joined_89 : decode cX2_joined 89 = .ok (.ifCond .eq 7, 3) := by decide +kernel
theorem dX2_joined_92 : decode cX2_joined 92 = .ok (.iconst 1, 1) := by decide +kernel
theorem dX2_joined_93 : decode cX2_joined 93 = .ok (.goto 4, 3) := by decide +kernel
theorem dX2_joined_96 : decode cX2_joined 96 = .ok (.iconst 0, 1) := by decide +kernel
theorem dX2_joined_97 : decode cX2_joined 97 = .ok (.ireturn, 1) := by decide +kernel
theorem dX2_joined_98 : decode cX2_joined 98 = .ok (.iload_n 0, 1) := by decide +kernel
theorem dX2_joined_99 : decode cX2_joined 99 = .ok (.ifCond .eq 11, 3) := by decide +kernel
theorem dX2_joined_102 : decode cX2_joined 102 = .ok (.iload_n 2, 1) := by decide +kernel
theorem dX2_joined_103 : decode cX2_joined 103 = .ok (.ifCond .eq 7, 3) := by decide +kernel
theorem dX2_joined_106 : decode cX2_joined 106 = .ok (.iconst 1, 1) := by decide +kernel
theorem dX2_joined_107 : decode cX2_joined 107 = .ok (.goto 4, 3) := by decide +kernel
theorem dX2_joined_110 : decode cX2_joined 110 = .ok (.iconst 0, 1) := by decide +kernel
theorem dX2_joined_111 : decode cX2_joined 111 = .ok (.ireturn, 1) := by decide +kernel
theorem dX2_joined_112 : decode cX2_joined 112 = .ok (.iload_n 0, 1) := by decide +kernel
theorem dX2_joined_113 : decode cX2_joined 113 = .ok (.iload_n 2, 1) := by decide +kernel
theorem dX2_joined_114 : decode cX2_joined 114 = .ok (.if_icmp .ge 7, 3) := by decide +kernel
theorem dX2_joined_117 : decode cX2_joined 117 = .ok (.iconst 1, 1) := by decide +kernel
theorem dX2_joined_118 : decode cX2_joined 118 = .ok (.goto 4, 3) := by decide +kernel
theorem dX2_joined_121 : decode cX2_joined 121 = .ok (.iconst 0, 1) := by decide +kernel
theorem dX2_joined_122 : decode cX2_joined 122 = .ok (.ireturn, 1) := by decide +kernel
theorem dX2_joined_123 : decode cX2_joined 123 = .ok (.iload_n 0, 1) := by decide +kernel
theorem dX2_joined_124 : decode cX2_joined 124 = .ok (.iload_n 2, 1) := by decide +kernel
theorem dX2_joined_125 : decode cX2_joined 125 = .ok (.if_icmp .ne 7, 3) := by decide +kernel
theorem dX2_joined_128 : decode cX2_joined 128 = .ok (.iconst 1, 1) := by decide +kernel
theorem dX2_joined_129 : decode cX2_joined 129 = .ok (.goto 4, 3) := by decide +kernel
theorem dX2_joined_132 : decode cX2_joined 132 = .ok (.iconst 0, 1) := by decide +kernel
theorem dX2_joined_133 : decode cX2_joined 133 = .ok (.ireturn, 1) := by decide +kernel
theorem dX2_joined_134 : decode cX2_joined 134 = .ok (.iload_n 0, 1) := by decide +kernel
theorem dX2_joined_135 : decode cX2_joined 135 = .ok (.iload_n 2, 1) := by decide +kernel
theorem dX2_joined_136 : decode cX2_joined 136 = .ok (.if_icmp .le 7, 3) := by decide +kernel
theorem dX2_joined_139 : decode cX2_joined 139 = .ok (.iconst 1, 1) := by decide +kernel
theorem dX2_joined_140 : decode cX2_joined 140 = .ok (.goto 4, 3) := by decide +kernel
theorem dX2_joined_143 : decode cX2_joined 143 = .ok (.iconst 0, 1) := by decide +kernel
theorem dX2_joined_144 : decode cX2_joined 144 = .ok (.ireturn, 1) := by decide +kernel
theorem dX2_joined_145 : decode cX2_joined 145 = .ok (.iload_n 0, 1) := by decide +kernel
theorem dX2_joined_146 : decode cX2_joined 146 = .ok (.iload_n 2, 1) := by decide +kernel
theorem dX2_joined_147 : decode cX2_joined 147 = .ok (.iadd, 1) := by decide +kernel
theorem dX2_joined_148 : decode cX2_joined 148 = .ok (.ireturn, 1) := by decide +kernel
theorem dX2_joined_149 : decode cX2_joined 149 = .ok (.iload_n 0, 1) := by decide +kernel
theorem dX2_joined_150 : decode cX2_joined 150 = .ok (.iload_n 2, 1) := by decide +kernel
theorem dX2_joined_151 : decode cX2_joined 151 = .ok (.isub, 1) := by decide +kernel
theorem dX2_joined_152 : decode cX2_joined 152 = .ok (.ireturn, 1) := by decide +kernel
theorem dX2_joined_153 : decode cX2_joined 153 = .ok (.iload_n 0, 1) := by decide +kernel
theorem dX2_joined_154 : decode cX2_joined 154 = .ok (.iload_n 2, 1) := by decide +kernel
theorem dX2_joined_155 : decode cX2_joined 155 = .ok (.imul, 1) := by decide +kernel
theorem dX2_joined_156 : decode cX2_joined 156 = .ok (.ireturn, 1) := by decide +kernel
theorem dX2_joined_157 : decode cX2_joined 157 = .ok (.iload_n 2, 1) := by decide +kernel
theorem dX2_joined_158 : decode cX2_joined 158 = .ok (.ifCond .ne 7, 3) := by decide +kernel
theorem dX2_joined_161 : decode cX2_joined 161 = .ok (.iconst 0, 1) := by decide +kernel
theorem dX2_joined_162 : decode cX2_joined 162 = .ok (.goto 6, 3) := by decide +kernel
theorem dX2_joined_165 : decode cX2_joined 165 = .ok (.iload_n 0, 1) := by decide +kernel
theorem dX2_joined_166 : decode cX2_joined 166 = .ok (.iload_n 2, 1) := by decide +kernel
theorem dX2_joined_167 : decode cX2_joined 167 = .ok (.idiv, 1) := by decide +kernel
theorem dX2_joined_168 : decode cX2_joined 168 = .ok (.ireturn, 1) := by decide +kernel
theorem dX2_joined_169 : decode cX2_joined 169 = .ok (.iload_n 2, 1) := by decide +kernel
theorem dX2_joined_170 : decode cX2_joined 170 = .ok (.ifCond .ne 7, 3) := by decide +kernel
theorem dX2_joined_173 : decode cX2_joined 173 = .ok (.iconst 0, 1) := by decide +kernel
theorem dX2_joined_174 : decode cX2_joined 174 = .ok (.goto 6, 3) := by decide +kernel
theorem dX2_joined_177 : decode cX2_joined 177 = .ok (.iload_n 0, 1) := by decide +kernel
theorem dX2_joined_178 : decode cX2_joined 178 = .ok (.iload_n 2, 1) := by decide +kernel
theorem dX2_joined_179 : decode cX2_joined 179 = .ok (.irem, 1) := by decide +kernel
theorem dX2_joined_180 : decode cX2_joined 180 = .ok (.ireturn, 1) := by decide +kernel
theorem dX3_init_0 : decode cX3_init 0 = .ok (.aload_n 0, 1) := by decide +kernel
theorem dX3_init_1 : decode cX3_init 1 = .ok (.invokespecial 3, 3) := by decide +kernel
theorem dX3_init_4 : decode cX3_init 4 = .ok (.aload_n 0, 1) := by decide +kernel
theorem dX3_init_5 : decode cX3_init 5 = .ok (.iconst 0, 1) := by decide +kernel
theorem dX3_init_6 : decode cX3_init 6 = .ok (.putfield 9, 3) := by decide +kernel
theorem dX3_init_9 : decode cX3_init 9 = .ok (.aload_n 0, 1) := by decide +kernel
theorem dX3_init_10 : decode cX3_init 10 = .ok (.iconst 0, 1) := by decide +kernel
theorem dX3_init_11 : decode cX3_init 11 = .ok (.putfield 15, 3) := by decide +kernel
theorem dX3_init_14 : decode cX3_init 14 = .ok (.aload_n 0, 1) := by decide +kernel
theorem dX3_init_15 : decode cX3_init 15 = .ok (.bipush 40, 2) := by decide +kernel
theorem dX3_init_17 : decode cX3_init 17 = .ok (.newarray .int, 2) := by decide +kernel
theorem dX3_init_19 : decode cX3_init 19 = .ok (.putfield 18, 3) := by decide +kernel
theorem dX3_init_22 : decode cX3_init 22 = .ok (.return_, 1) := by decide +kernel
theorem dX3_startWith_0 : decode cX3_startWith 0 = .ok (.aload_n 0, 1) := by decide +kernel
theorem dX3_startWith_1 : decode cX3_startWith 1 = .ok (.iload_n 1, 1) := by decide +kernel
theorem dX3_startWith_2 : decode cX3_startWith 2 = .ok (.putfield 9, 3) := by decide +kernel
theorem dX3_startWith_5 : decode cX3_startWith 5 = .ok (.aload_n 0, 1) := by decide +kernel
theorem dX3_startWith_6 : decode cX3_startWith 6 = .ok (.iload_n 1, 1) := by decide +kernel
theorem dX3_startWith_7 : decode cX3_startWith 7 = .ok (.ifCond .ne 7, 3) := by decide +kernel
theorem dX3_startWith_10 : decode cX3_startWith 10 = .ok (.iconst 0, 1) := by decide +kernel
theorem dX3_startWith_11 : decode cX3_startWith 11 = .ok (.goto 4, 3) := by decide +kernel
theorem dX3_startWith_14 : decode cX3_startWith 14 = .ok (.iload_n 2, 1) := by decide +kernel
theorem dX3_startWith_15 : decode cX3_startWith 15 = .ok (.putfield 15, 3) := by decide +kernel
theorem dX3_startWith_18 : decode cX3_startWith 18 = .ok (.iconst 0, 1) := by decide +kernel
theorem dX3_startWith_19 : decode cX3_startWith 19 = .ok (.istore_n 3, 1) := by decide +kernel
theorem dX3_startWith_20 : decode cX3_startWith 20 = .ok (.iload_n 3, 1) := by decide +kernel
theorem dX3_startWith_21 : decode cX3_startWith 21 = .ok (.bipush 40, 2) := by decide +kernel
theorem dX3_startWith_23 : decode cX3_startWith 23 = .ok (.if_icmp .ge 16, 3) := by decide +kernel
theorem dX3_startWith_26 : decode cX3_startWith 26 = .ok (.aload_n 0, 1) := by decide +kernel
theorem dX3_startWith_27 : decode cX3_startWith 27 = .ok (.getfield 18, 3) := by decide +kernel
theorem dX3_startWith_30 : decode cX3_startWith 30 = .ok (.iload_n 3, 1) := by decide +kernel
theorem dX3_startWith_31 : decode cX3_startWith 31 = .ok (.iconst 0, 1) := by decide +kernel
theorem dX3_startWith_32 : decode cX3_startWith 32 = .ok (.iastore, 1) := by decide +kernel
theorem dX3_startWith_33 : decode cX3_startWith 33 = .ok (.iinc 3 1, 3) := by decide +kernel
theorem dX3_startWith_36 : decode cX3_startWith 36 = .ok (.goto (-16), 3) := by decide +kernel
theorem dX3_startWith_39 : decode cX3_startWith 39 = .ok (.return_, 1) := by decide +kernel
theorem dX3_cut_0 : decode cX3_cut 0 = .ok (.aload_n 0, 1) := by decide +kernel
theorem dX3_cut_1 : decode cX3_cut 1 = .ok (.getfield 9, 3) := by decide +kernel
theorem dX3_cut_4 : decode cX3_cut 4 = .ok (.bipush 8, 2) := by decide +kernel
theorem dX3_cut_6 : decode cX3_cut 6 = .ok (.if_icmp .ne 11, 3) := by decide +kernel
theorem dX3_cut_9 : decode cX3_cut 9 = .ok (.iload_n 1, 1) := by decide +kernel
theorem dX3_cut_10 : decode cX3_cut 10 = .ok (.sipush 255, 3) := by decide +kernel
theorem dX3_cut_13 : decode cX3_cut 13 = .ok (.iand, 1) := by decide +kernel
theorem dX3_cut_14 : decode cX3_cut 14 = .ok (.goto 20, 3) := by decide +kernel
theorem dX3_cut_17 : decode cX3_cut 17 = .ok (.aload_n 0, 1) := by decide +kernel
theorem dX3_cut_18 : decode cX3_cut 18 = .ok (.getfield 9, 3) := by decide +kernel
theorem dX3_cut_21 : decode cX3_cut 21 = .ok (.bipush 16, 2) := by decide +kernel
theorem dX3_cut_23 : decode cX3_cut 23 = .ok (.if_icmp .ne 10, 3) := by decide +kernel
theorem dX3_cut_26 : decode cX3_cut 26 = .ok (.iload_n 1, 1) := by decide +kernel
theorem dX3_cut_27 : decode cX3_cut 27 = .ok (.ldc 22, 2) := by decide +kernel
theorem dX3_cut_29 : decode cX3_cut 29 = .ok (.iand, 1) := by decide +kernel
theorem dX3_cut_30 : decode cX3_cut 30 = .ok (.goto 4, 3) := by decide +kernel
theorem dX3_cut_33 : decode cX3_cut 33 = .ok (.iload_n 1, 1) := by decide +kernel
theorem dX3_cut_34 : decode cX3_cut 34 = .ok (.ireturn, 1) := by decide +kernel
theorem dX3_hasRun_0 : decode cX3_hasRun 0 = .ok (.iload_n 1, 1) := by decide +kernel
theorem dX3_hasRun_1 : decode cX3_hasRun 1 = .ok (.ifCond .lt 21, 3) := by decide +kernel
theorem dX3_hasRun_4 : decode cX3_hasRun 4 = .ok (.iload_n 2, 1) := by decide +kernel
theorem dX3_hasRun_5 : decode cX3_hasRun 5 = .ok (.ifCond .lt 17, 3) := by decide +kernel
theorem dX3_hasRun_8 : decode cX3_hasRun 8 = .ok (.iload_n 1, 1) := by decide +kernel
theorem dX3_hasRun_9 : decode cX3_hasRun 9 = .ok (.aload_n 0, 1) := by decide +kernel
theorem dX3_hasRun_10 : decode cX3_hasRun 10 = .ok (.getfield 15, 3) := by decide +kernel
theorem dX3_hasRun_13 : decode cX3_hasRun 13 = .ok (.iload_n 2, 1) := by decide +kernel
theorem dX3_hasRun_14 : decode cX3_hasRun 14 = .ok (.isub, 1) := by decide +kernel
theorem dX3_hasRun_15 : decode cX3_hasRun 15 = .ok (.if_icmp .gt 7, 3) := by decide +kernel
theorem dX3_hasRun_18 : decode cX3_hasRun 18 = .ok (.iconst 1, 1) := by decide +kernel
theorem dX3_hasRun_19 : decode cX3_hasRun 19 = .ok (.goto 4, 3) := by decide +kernel
theorem dX3_hasRun_22 : decode cX3_hasRun 22 = .ok (.iconst 0, 1) := by decide +kernel
theorem dX3_hasRun_23 : decode cX3_hasRun 23 = .ok (.ireturn, 1) := by decide +kernel
theorem dX4_init_0 : decode cX4_init 0 = .ok (.aload_n 0, 1) := by decide +kernel
theorem dX4_init_1 : decode cX4_init 1 = .ok (.invokespecial 3, 3) := by decide +kernel
theorem dX4_init_4 : decode cX4_init 4 = .ok (.aload_n 0, 1) := by decide +kernel
theorem dX4_init_5 : decode cX4_init 5 = .ok (.bipush 50, 2) := by decide +kernel
theorem dX4_init_7 : decode cX4_init 7 = .ok (.newarray .byte, 2) := by decide +kernel
theorem dX4_init_9 : decode cX4_init 9 = .ok (.putfield 9, 3) := by decide +kernel
theorem dX4_init_12 : decode cX4_init 12 = .ok (.aload_n 0, 1) := by decide +kernel
theorem dX4_init_13 : decode cX4_init 13 = .ok (.iconst 0, 1) := by decide +kernel
theorem dX4_init_14 : decode cX4_init 14 = .ok (.putfield 15, 3) := by decide +kernel
theorem dX4_init_17 : decode cX4_init 17 = .ok (.return_, 1) := by decide +kernel
theorem dX4_append_0 : decode cX4_append 0 = .ok (.aload_n 0, 1) := by decide +kernel
theorem dX4_append_1 : decode cX4_append 1 = .ok (.getfield 15, 3) := by decide +kernel
theorem dX4_append_4 : decode cX4_append 4 = .ok (.bipush 50, 2) := by decide +kernel
theorem dX4_append_6 : decode cX4_append 6 = .ok (.if_icmp .ge 24, 3) := by decide +kernel
theorem dX4_append_9 : decode cX4_append 9 = .ok (.aload_n 0, 1) := by decide +kernel
theorem dX4_append_10 : decode cX4_append 10 = .ok (.getfield 9, 3) := by decide +kernel
theorem dX4_append_13 : decode cX4_append 13 = .ok (.aload_n 0, 1) := by decide +kernel
theorem dX4_append_14 : decode cX4_append 14 = .ok (.getfield 15, 3) := by decide +kernel
theorem dX4_append_17 : decode cX4_append 17 = .ok (.iload_n 1, 1) := by decide +kernel
theorem dX4_append_18 : decode cX4_append 18 = .ok (.i2b, 1) := by decide +kernel
theorem dX4_append_19 : decode cX4_append 19 = .ok (.bastore, 1) := by decide +kernel
theorem dX4_append_20 : decode cX4_append 20 = .ok (.aload_n 0, 1) := by decide +kernel
theorem dX4_append_21 : decode cX4_append 21 = .ok (.dup, 1) := by decide +kernel
theorem dX4_append_22 : decode cX4_append 22 = .ok (.getfield 15, 3) := by decide +kernel
theorem dX4_append_25 : decode cX4_append 25 = .ok (.iconst 1, 1) := by decide +kernel
theorem dX4_append_26 : decode cX4_append 26 = .ok (.iadd, 1) := by decide +kernel
theorem dX4_append_27 : decode cX4_append 27 = .ok (.putfield 15, 3) := by decide +kernel
theorem dX4_append_30 : decode cX4_append 30 = .ok (.return_, 1) := by decide +kernel
theorem dX4_copyTape_0 : decode cX4_copyTape 0 = .ok (.aload_n 1, 1) := by decide +kernel
theorem dX4_copyTape_1 : decode cX4_copyTape 1 = .ok (.getfield 9, 3) := by decide +kernel
theorem dX4_copyTape_4 : decode cX4_copyTape 4 = .ok (.iconst 0, 1) := by decide +kernel
theorem dX4_copyTape_5 : decode cX4_copyTape 5 = .ok (.aload_n 0, 1) := by decide +kernel
theorem dX4_copyTape_6 : decode cX4_copyTape 6 = .ok (.getfield 9, 3) := by decide +kernel
theorem dX4_copyTape_9 : decode cX4_copyTape 9 = .ok (.iconst 0, 1) := by decide +kernel
theorem dX4_copyTape_10 : decode cX4_copyTape 10 = .ok (.bipush 50, 2) := by decide +kernel
theorem dX4_copyTape_12 : decode cX4_copyTape 12 = .ok (.invokestatic 19, 3) := by decide +kernel
theorem dX4_copyTape_15 : decode cX4_copyTape 15 = .ok (.aload_n 0, 1) := by decide +kernel
theorem dX4_copyTape_16 : decode cX4_copyTape 16 = .ok (.aload_n 1, 1) := by decide +kernel
theorem dX4_copyTape_17 : decode cX4_copyTape 17 = .ok (.getfield 15, 3) := by decide +kernel
theorem dX4_copyTape_20 : decode cX4_copyTape 20 = .ok (.putfield 15, 3) := by decide +kernel
theorem dX4_copyTape_23 : decode cX4_copyTape 23 = .ok (.return_, 1) := by decide +kernel
theorem dX5_init_0 : decode cX5_init 0 = .ok (.aload_n 0, 1) := by decide +kernel
theorem dX5_init_1 : decode cX5_init 1 = .ok (.invokespecial 3, 3) := by decide +kernel
theorem dX5_init_4 : decode cX5_init 4 = .ok (.aload_n 0, 1) := by decide +kernel
theorem dX5_init_5 : decode cX5_init 5 = .ok (.new 9, 3) := by decide +kernel
theorem dX5_init_8 : decode cX5_init 8 = .ok (.dup, 1) := by decide +kernel
theorem dX5_init_9 : decode cX5_init 9 = .ok (.invokespecial 11, 3) := by decide +kernel
theorem dX5_init_12 : decode cX5_init 12 = .ok (.putfield 12, 3) := by decide +kernel
theorem dX5_init_15 : decode cX5_init 15 = .ok (.aload_n 0, 1) := by decide +kernel
theorem dX5_init_16 : decode cX5_init 16 = .ok (.iconst 5, 1) := by decide +kernel
theorem dX5_init_17 : decode cX5_init 17 = .ok (.newarray .int, 2) := by decide +kernel
theorem dX5_init_19 : decode cX5_init 19 = .ok (.putfield 18, 3) := by decide +kernel
theorem dX5_init_22 : decode cX5_init 22 = .ok (.aload_n 0, 1) := by decide +kernel
theorem dX5_init_23 : decode cX5_init 23 = .ok (.iconst 0, 1) := by decide +kernel
theorem dX5_init_24 : decode cX5_init 24 = .ok (.putfield 22, 3) := by decide +kernel
theorem dX5_init_27 : decode cX5_init 27 = .ok (.aload_n 0, 1) := by decide +kernel
theorem dX5_init_28 : decode cX5_init 28 = .ok (.bipush 8, 2) := by decide +kernel
theorem dX5_init_30 : decode cX5_init 30 = .ok (.anewarray 26, 3) := by decide +kernel
theorem dX5_init_33 : decode cX5_init 33 = .ok (.putfield 28, 3) := by decide +kernel
theorem dX5_init_36 : decode cX5_init 36 = .ok (.aload_n 0, 1) := by decide +kernel
theorem dX5_init_37 : decode cX5_init 37 = .ok (.iconst 0, 1) := by decide +kernel
theorem dX5_init_38 : decode cX5_init 38 = .ok (.putfield 32, 3) := by decide +kernel
theorem dX5_init_41 : decode cX5_init 41 = .ok (.aload_n 0, 1) := by decide +kernel
theorem dX5_init_42 : decode cX5_init 42 = .ok (.iconst 0, 1) := by decide +kernel
theorem dX5_init_43 : decode cX5_init 43 = .ok (.putfield 35, 3) := by decide +kernel
theorem dX5_init_46 : decode cX5_init 46 = .ok (.aload_n 0, 1) := by decide +kernel
theorem dX5_init_47 : decode cX5_init 47 = .ok (.iconst 1, 1) := by decide +kernel
theorem dX5_init_48 : decode cX5_init 48 = .ok (.putfield 38, 3) := by decide +kernel
theorem dX5_init_51 : decode cX5_init 51 = .ok (.aload_n 0, 1) := by decide +kernel
theorem dX5_init_52 : decode cX5_init 52 = .ok (.new 41, 3) := by decide +kernel
theorem dX5_init_55 : decode cX5_init 55 = .ok (.dup, 1) := by decide +kernel
theorem dX5_init_56 : decode cX5_init 56 = .ok (.invokespecial 43, 3) := by decide +kernel
theorem dX5_init_59 : decode cX5_init 59 = .ok (.putfield 44, 3) := by decide +kernel
theorem dX5_init_62 : decode cX5_init 62 = .ok (.aload_n 0, 1) := by decide +kernel
theorem dX5_init_63 : decode cX5_init 63 = .ok (.new 41, 3) := by decide +kernel
theorem dX5_init_66 : decode cX5_init 66 = .ok (.dup, 1) := by decide +kernel
theorem dX5_init_67 : decode cX5_init 67 = .ok (.invokespecial 43, 3) := by decide +kernel
theorem dX5_init_70 : decode cX5_init 70 = .ok (.putfield 48, 3) := by decide +kernel
theorem dX5_init_73 : decode cX5_init 73 = .ok (.aload_n 0, 1) := by decide +kernel
theorem dX5_init_74 : decode cX5_init 74 = .ok (.new 41, 3) := by decide +kernel
theorem dX5_init_77 : decode cX5_init 77 = .ok (.dup, 1) := by decide +kernel
theorem dX5_init_78 : decode cX5_init 78 = .ok (.invokespecial 43, 3) := by decide +kernel
theorem dX5_init_81 : decode cX5_init 81 = .ok (.putfield 51, 3) := by decide +kernel
theorem dX5_init_84 : decode cX5_init 84 = .ok (.aload_n 0, 1) := by decide +kernel
theorem dX5_init_85 : decode cX5_init 85 = .ok (.bipush 20, 2) := by decide +kernel
theorem dX5_init_87 : decode cX5_init 87 = .ok (.newarray .int, 2) := by decide +kernel
theorem dX5_init_89 : decode cX5_init 89 = .ok (.putfield 54, 3) := by decide +kernel
theorem dX5_init_92 : decode cX5_init 92 = .ok (.aload_n 0, 1) := by decide +kernel
theorem dX5_init_93 : decode cX5_init 93 = .ok (.iconst 0, 1) := by decide +kernel
theorem dX5_init_94 : decode cX5_init 94 = .ok (.putfield 57, 3) := by decide +kernel
theorem dX5_init_97 : decode cX5_init 97 = .ok (.iconst 0, 1) := by decide +kernel
theorem dX5_init_98 : decode cX5_init 98 = .ok (.istore_n 1, 1) := by decide +kernel
theorem dX5_init_99 : decode cX5_init 99 = .ok (.iload_n 1, 1) := by decide +kernel
theorem dX5_init_100 : decode cX5_init 100 = .ok (.bipush 8, 2) := by decide +kernel
theorem dX5_init_102 : decode cX5_init 102 = .ok (.if_icmp .ge 22, 3) := by decide +kernel
theorem dX5_init_105 : decode cX5_init 105 = .ok (.aload_n 0, 1) := by decide +kernel
theorem dX5_init_106 : decode cX5_init 106 = .ok (.getfield 28, 3) := by decide +kernel
theorem dX5_init_109 : decode cX5_init 109 = .ok (.iload_n 1, 1) := by decide +kernel
theorem dX5_init_110 : decode cX5_init 110 = .ok (.new 26, 3) := by decide +kernel
theorem dX5_init_113 : decode cX5_init 113 = .ok (.dup, 1) := by decide +kernel
theorem dX5_init_114 : decode cX5_init 114 = .ok (.invokespecial 60, 3) := by decide +kernel
theorem dX5_init_117 : decode cX5_init 117 = .ok (.aastore, 1) := by decide +kernel
theorem dX5_init_118 : decode cX5_init 118 = .ok (.iinc 1 1, 3) := by decide +kernel
theorem dX5_init_121 : decode cX5_init 121 = .ok (.goto (-22), 3) := by decide +kernel
theorem dX5_init_124 : decode cX5_init 124 = .ok (.return_, 1) := by decide +kernel
theorem dX5_textOf_0 : decode cX5_textOf 0 = .ok (.iload_n 1, 1) := by decide +kernel
theorem dX5_textOf_1 : decode cX5_textOf 1 = .ok (.ifCond .ne 10, 3) := by decide +kernel
theorem dX5_textOf_4 : decode cX5_textOf 4 = .ok (.aload_n 0, 1) := by decide +kernel
theorem dX5_textOf_5 : decode cX5_textOf 5 = .ok (.getfield 48, 3) := by decide +kernel
theorem dX5_textOf_8 : decode cX5_textOf 8 = .ok (.goto 7, 3) := by decide +kernel
theorem dX5_textOf_11 : decode cX5_textOf 11 = .ok (.aload_n 0, 1) := by decide +kernel
theorem dX5_textOf_12 : decode cX5_textOf 12 = .ok (.getfield 51, 3) := by decide +kernel
theorem dX5_textOf_15 : decode cX5_textOf 15 = .ok (.areturn, 1) := by decide +kernel
theorem dX5_villagesOn_0 : decode cX5_villagesOn 0 = .ok (.iconst 0, 1) := by decide +kernel
theorem dX5_villagesOn_1 : decode cX5_villagesOn 1 = .ok (.istore_n 2, 1) := by decide +kernel
theorem dX5_villagesOn_2 : decode cX5_villagesOn 2 = .ok (.iconst 0, 1) := by decide +kernel
theorem dX5_villagesOn_3 : decode cX5_villagesOn 3 = .ok (.istore_n 3, 1) := by decide +kernel
theorem dX5_villagesOn_4 : decode cX5_villagesOn 4 = .ok (.iload_n 3, 1) := by decide +kernel
theorem dX5_villagesOn_5 : decode cX5_villagesOn 5 = .ok (.aload_n 0, 1) := by decide +kernel
theorem dX5_villagesOn_6 : decode cX5_villagesOn 6 = .ok (.getfield 22, 3) := by decide +kernel
theorem dX5_villagesOn_9 : decode cX5_villagesOn 9 = .ok (.if_icmp .ge 25, 3) := by decide +kernel
theorem dX5_villagesOn_12 : decode cX5_villagesOn 12 = .ok (.aload_n 0, 1) := by decide +kernel
theorem dX5_villagesOn_13 : decode cX5_villagesOn 13 = .ok (.getfield 18, 3) := by decide +kernel
theorem dX5_villagesOn_16 : decode cX5_villagesOn 16 = .ok (.iload_n 3, 1) := by decide +kernel
theorem dX5_villagesOn_17 : decode cX5_villagesOn 17 = .ok (.iaload, 1) := by decide +kernel
theorem dX5_villagesOn_18 : decode cX5_villagesOn 18 = .ok (.iload_n 1, 1) := by decide +kernel
theorem dX5_villagesOn_19 : decode cX5_villagesOn 19 = .ok (.if_icmp .ne 9, 3) := by decide +kernel
theorem dX5_villagesOn_22 : decode cX5_villagesOn 22 = .ok (.iload_n 2, 1) := by decide +kernel
theorem dX5_villagesOn_23 : decode cX5_villagesOn 23 = .ok (.iconst 1, 1) := by decide +kernel
theorem dX5_villagesOn_24 : decode cX5_villagesOn 24 = .ok (.iload_n 3, 1) := by decide +kernel
theorem dX5_villagesOn_25 : decode cX5_villagesOn 25 = .ok (.ishl, 1) := by decide +kernel
theorem dX5_villagesOn_26 : decode cX5_villagesOn 26 = .ok (.ior, 1) := by decide +kernel
theorem dX5_villagesOn_27 : decode cX5_villagesOn 27 = .ok (.istore_n 2, 1) := by decide +kernel
theorem dX5_villagesOn_28 : decode cX5_villagesOn 28 = .ok (.iinc 3 1, 3) := by decide +kernel
theorem dX5_villagesOn_31 : decode cX5_villagesOn 31 = .ok (.goto (-27), 3) := by decide +kernel
theorem dX5_villagesOn_34 : decode cX5_villagesOn 34 = .ok (.iload_n 2, 1) := by decide +kernel
theorem dX5_villagesOn_35 : decode cX5_villagesOn 35 = .ok (.ireturn, 1) := by decide +kernel
theorem dX5_seenByAll_0 : decode cX5_seenByAll 0 = .ok (.aload_n 0, 1) := by decide +kernel
theorem dX5_seenByAll_1 : decode cX5_seenByAll 1 = .ok (.getfield 12, 3) := by decide +kernel
theorem dX5_seenByAll_4 : decode cX5_seenByAll 4 = .ok (.iconst 0, 1) := by decide +kernel
theorem dX5_seenByAll_5 : decode cX5_seenByAll 5 = .ok (.invokevirtual 61, 3) := by decide +kernel
theorem dX5_seenByAll_8 : decode cX5_seenByAll 8 = .ok (.istore_n 2, 1) := by decide +kernel
theorem dX5_seenByAll_9 : decode cX5_seenByAll 9 = .ok (.iconst 0, 1) := by decide +kernel
theorem dX5_seenByAll_10 : decode cX5_seenByAll 10 = .ok (.istore_n 3, 1) := by decide +kernel
theorem dX5_seenByAll_11 : decode cX5_seenByAll 11 = .ok (.iconst 0, 1) := by decide +kernel
theorem dX5_seenByAll_12 : decode cX5_seenByAll 12 = .ok (.istore 4, 2) := by decide +kernel
theorem dX5_seenByAll_14 : decode cX5_seenByAll 14 = .ok (.iload 4, 2) := by decide +kernel
theorem dX5_seenByAll_16 : decode cX5_seenByAll 16 = .ok (.aload_n 0, 1) := by decide +kernel
theorem dX5_seenByAll_17 : decode cX5_seenByAll 17 = .ok (.getfield 22, 3) := by decide +kernel
theorem dX5_seenByAll_20 : decode cX5_seenByAll 20 = .ok (.if_icmp .ge 28, 3) := by decide +kernel
theorem dX5_seenByAll_23 : decode cX5_seenByAll 23 = .ok (.iload_n 3, 1) := by decide +kernel
theorem dX5_seenByAll_24 : decode cX5_seenByAll 24 = .ok (.aload_n 0, 1) := by decide +kernel
theorem dX5_seenByAll_25 : decode cX5_seenByAll 25 = .ok (.getfield 12, 3) := by decide +kernel
theorem dX5_seenByAll_28 : decode cX5_seenByAll 28 = .ok (.aload_n 0, 1) := by decide +kernel
theorem dX5_seenByAll_29 : decode cX5_seenByAll 29 = .ok (.getfield 18, 3) := by decide +kernel
theorem dX5_seenByAll_32 : decode cX5_seenByAll 32 = .ok (.iload 4, 2) := by decide +kernel
theorem dX5_seenByAll_34 : decode cX5_seenByAll 34 = .ok (.iaload, 1) := by decide +kernel
theorem dX5_seenByAll_35 : decode cX5_seenByAll 35 = .ok (.iload_n 1, 1) := by decide +kernel
theorem dX5_seenByAll_36 : decode cX5_seenByAll 36 = .ok (.iload_n 2, 1) := by decide +kernel
theorem dX5_seenByAll_37 : decode cX5_seenByAll 37 = .ok (.invokevirtual 65, 3) := by decide +kernel
theorem dX5_seenByAll_40 : decode cX5_seenByAll 40 = .ok (.ior, 1) := by decide +kernel
theorem dX5_seenByAll_41 : decode cX5_seenByAll 41 = .ok (.istore_n 3, 1) := by decide +kernel
theorem dX5_seenByAll_42 : decode cX5_seenByAll 42 = .ok (.iinc 4 1, 3) := by decide +kernel
theorem dX5_seenByAll_45 : decode cX5_seenByAll 45 = .ok (.goto (-31), 3) := by decide +kernel
theorem dX5_seenByAll_48 : decode cX5_seenByAll 48 = .ok (.iload_n 3, 1) := by decide +kernel
theorem dX5_seenByAll_49 : decode cX5_seenByAll 49 = .ok (.ireturn, 1) := by decide +kernel
theorem dX5_openBottles_0 : decode cX5_openBottles 0 = .ok (.iconst 0, 1) := by decide +kernel
theorem dX5_openBottles_1 : decode cX5_openBottles 1 = .ok (.istore_n 1, 1) := by decide +kernel
theorem dX5_openBottles_2 : decode cX5_openBottles 2 = .ok (.iconst 0, 1) := by decide +kernel
theorem dX5_openBottles_3 : decode cX5_openBottles 3 = .ok (.istore_n 2, 1) := by decide +kernel
theorem dX5_openBottles_4 : decode cX5_openBottles 4 = .ok (.iload_n 2, 1) := by decide +kernel
theorem dX5_openBottles_5 : decode cX5_openBottles 5 = .ok (.aload_n 0, 1) := by decide +kernel
theorem dX5_openBottles_6 : decode cX5_openBottles 6 = .ok (.getfield 32, 3) := by decide +kernel
theorem dX5_openBottles_9 : decode cX5_openBottles 9 = .ok (.if_icmp .ge 24, 3) := by decide +kernel
theorem dX5_openBottles_12 : decode cX5_openBottles 12 = .ok (.iload_n 1, 1) := by decide +kernel
theorem dX5_openBottles_13 : decode cX5_openBottles 13 = .ok (.aload_n 0, 1) := by decide +kernel
theorem dX5_openBottles_14 : decode cX5_openBottles 14 = .ok (.getfield 28, 3) := by decide +kernel
theorem dX5_openBottles_17 : decode cX5_openBottles 17 = .ok (.iload_n 2, 1) := by decide +kernel
theorem dX5_openBottles_18 : decode cX5_openBottles 18 = .ok (.aaload, 1) := by decide +kernel
theorem dX5_openBottles_19 : decode cX5_openBottles 19 = .ok (.getfield 69, 3) := by decide +kernel
theorem dX5_openBottles_22 : decode cX5_openBottles 22 = .ok (.invokestatic 73, 3) := by decide +kernel
theorem dX5_openBottles_25 : decode cX5_openBottles 25 = .ok (.iadd, 1) := by decide +kernel
theorem dX5_openBottles_26 : decode cX5_openBottles 26 = .ok (.istore_n 1, 1) := by decide +kernel
theorem dX5_openBottles_27 : decode cX5_openBottles 27 = .ok (.iinc 2 1, 3) := by decide +kernel
theorem dX5_openBottles_30 : decode cX5_openBottles 30 = .ok (.goto (-26), 3) := by decide +kernel
theorem dX5_openBottles_33 : decode cX5_openBottles 33 = .ok (.iload_n 1, 1) := by decide +kernel
theorem dX5_openBottles_34 : decode cX5_openBottles 34 = .ok (.ireturn, 1) := by decide +kernel
theorem dX5_passDay_0 : decode cX5_passDay 0 = .ok (.aload_n 0, 1) := by decide +kernel
theorem dX5_passDay_1 : decode cX5_passDay 1 = .ok (.getfield 12, 3) := by decide +kernel
theorem dX5_passDay_4 : decode cX5_passDay 4 = .ok (.invokevirtual 77, 3) := by decide +kernel
theorem dX5_passDay_7 : decode cX5_passDay 7 = .ok (.iconst 0, 1) := by decide +kernel
theorem dX5_passDay_8 : decode cX5_passDay 8 = .ok (.istore_n 1, 1) := by decide +kernel
theorem dX5_passDay_9 : decode cX5_passDay 9 = .ok (.iload_n 1, 1) := by decide +kernel
theorem dX5_passDay_10 : decode cX5_passDay 10 = .ok (.aload_n 0, 1) := by decide +kernel
theorem dX5_passDay_11 : decode cX5_passDay 11 = .ok (.getfield 32, 3) := by decide +kernel
theorem dX5_passDay_14 : decode cX5_passDay 14 = .ok (.if_icmp .ge 18, 3) := by decide +kernel
theorem dX5_passDay_17 : decode cX5_passDay 17 = .ok (.aload_n 0, 1) := by decide +kernel
theorem dX5_passDay_18 : decode cX5_passDay 18 = .ok (.getfield 28, 3) := by decide +kernel
theorem dX5_passDay_21 : decode cX5_passDay 21 = .ok (.iload_n 1, 1) := by decide +kernel
theorem dX5_passDay_22 : decode cX5_passDay 22 = .ok (.aaload, 1) := by decide +kernel
theorem dX5_passDay_23 : decode cX5_passDay 23 = .ok (.invokevirtual 80, 3) := by decide +kernel
theorem dX5_passDay_26 : decode cX5_passDay 26 = .ok (.iinc 1 1, 3) := by decide +kernel
theorem dX5_passDay_29 : decode cX5_passDay 29 = .ok (.goto (-20), 3) := by decide +kernel
theorem dX5_passDay_32 : decode cX5_passDay 32 = .ok (.aload_n 0, 1) := by decide +kernel
theorem dX5_passDay_33 : decode cX5_passDay 33 = .ok (.dup, 1) := by decide +kernel
theorem dX5_passDay_34 : decode cX5_passDay 34 = .ok (.getfield 35, 3) := by decide +kernel
theorem dX5_passDay_37 : decode cX5_passDay 37 = .ok (.iconst 1, 1) := by decide +kernel
theorem dX5_passDay_38 : decode cX5_passDay 38 = .ok (.iadd, 1) := by decide +kernel
theorem dX5_passDay_39 : decode cX5_passDay 39 = .ok (.putfield 35, 3) := by decide +kernel
theorem dX5_passDay_42 : decode cX5_passDay 42 = .ok (.return_, 1) := by decide +kernel
theorem dX5_passLooseDay_0 : decode cX5_passLooseDay 0 = .ok (.aload_n 0, 1) := by decide +kernel
theorem dX5_passLooseDay_1 : decode cX5_passLooseDay 1 = .ok (.invokevirtual 83, 3) := by decide +kernel
theorem dX5_passLooseDay_4 : decode cX5_passLooseDay 4 = .ok (.bipush 20, 2) := by decide +kernel
theorem dX5_passLooseDay_6 : decode cX5_passLooseDay 6 = .ok (.irem, 1) := by decide +kernel
theorem dX5_passLooseDay_7 : decode cX5_passLooseDay 7 = .ok (.istore_n 1, 1) := by decide +kernel
theorem dX5_passLooseDay_8 : decode cX5_passLooseDay 8 = .ok (.aload_n 0, 1) := by decide +kernel
theorem dX5_passLooseDay_9 : decode cX5_passLooseDay 9 = .ok (.getfield 12, 3) := by decide +kernel
theorem dX5_passLooseDay_12 : decode cX5_passLooseDay 12 = .ok (.getfield 87, 3) := by decide +kernel
theorem dX5_passLooseDay_15 : decode cX5_passLooseDay 15 = .ok (.iload_n 1, 1) := by decide +kernel
theorem dX5_passLooseDay_16 : decode cX5_passLooseDay 16 = .ok (.aload_n 0, 1) := by decide +kernel
theorem dX5_passLooseDay_17 : decode cX5_passLooseDay 17 = .ok (.invokevirtual 83, 3) := by decide +kernel
theorem dX5_passLooseDay_20 : decode cX5_passLooseDay 20 = .ok (.bipush 10, 2) := by decide +kernel
theorem dX5_passLooseDay_22 : decode cX5_passLooseDay 22 = .ok (.irem, 1) := by decide +kernel
theorem dX5_passLooseDay_23 : decode cX5_passLooseDay 23 = .ok (.iastore, 1) := by decide +kernel
theorem dX5_passLooseDay_24 : decode cX5_passLooseDay 24 = .ok (.aload_n 0, 1) := by decide +kernel
theorem dX5_passLooseDay_25 : decode cX5_passLooseDay 25 = .ok (.invokevirtual 90, 3) := by decide +kernel
theorem dX5_passLooseDay_28 : decode cX5_passLooseDay 28 = .ok (.return_, 1) := by decide +kernel
theorem dX5_draw_0 : decode cX5_draw 0 = .ok (.aload_n 0, 1) := by decide +kernel
theorem dX5_draw_1 : decode cX5_draw 1 = .ok (.aload_n 0, 1) := by decide +kernel
theorem dX5_draw_2 : decode cX5_draw 2 = .ok (.getfield 38, 3) := by decide +kernel
theorem dX5_draw_5 : decode cX5_draw 5 = .ok (.ldc 93, 2) := by decide +kernel
theorem dX5_draw_7 : decode cX5_draw 7 = .ok (.imul, 1) := by decide +kernel
theorem dX5_draw_8 : decode cX5_draw 8 = .ok (.sipush 12345, 3) := by decide +kernel
theorem dX5_draw_11 : decode cX5_draw 11 = .ok (.iadd, 1) := by decide +kernel
theorem dX5_draw_12 : decode cX5_draw 12 = .ok (.putfield 38, 3) := by decide +kernel
theorem dX5_draw_15 : decode cX5_draw 15 = .ok (.aload_n 0, 1) := by decide +kernel
theorem dX5_draw_16 : decode cX5_draw 16 = .ok (.getfield 38, 3) := by decide +kernel
theorem dX5_draw_19 : decode cX5_draw 19 = .ok (.bipush 8, 2) := by decide +kernel
theorem dX5_draw_21 : decode cX5_draw 21 = .ok (.iushr, 1) := by decide +kernel
theorem dX5_draw_22 : decode cX5_draw 22 = .ok (.ireturn, 1) := by decide +kernel
theorem dX5_copyTown_0 : decode cX5_copyTown 0 = .ok (.aload_n 0, 1) := by decide +kernel
theorem dX5_copyTown_1 : decode cX5_copyTown 1 = .ok (.getfield 12, 3) := by decide +kernel
theorem dX5_copyTown_4 : decode cX5_copyTown 4 = .ok (.aload_n 1, 1) := by decide +kernel
theorem dX5_copyTown_5 : decode cX5_copyTown 5 = .ok (.getfield 12, 3) := by decide +kernel
theorem dX5_copyTown_8 : decode cX5_copyTown 8 = .ok (.invokevirtual 94, 3) := by decide +kernel
theorem dX5_copyTown_11 : decode cX5_copyTown 11 = .ok (.aload_n 1, 1) := by decide +kernel
theorem dX5_copyTown_12 : decode cX5_copyTown 12 = .ok (.getfield 18, 3) := by decide +kernel
theorem dX5_copyTown_15 : decode cX5_copyTown 15 = .ok (.iconst 0, 1) := by decide +kernel
theorem dX5_copyTown_16 : decode cX5_copyTown 16 = .ok (.aload_n 0, 1) := by decide +kernel
theorem dX5_copyTown_17 : decode cX5_copyTown 17 = .ok (.getfield 18, 3) := by decide +kernel
theorem dX5_copyTown_20 : decode cX5_copyTown 20 = .ok (.iconst 0, 1) := by decide +kernel
theorem dX5_copyTown_21 : decode cX5_copyTown 21 = .ok (.iconst 5, 1) := by decide +kernel
theorem dX5_copyTown_22 : decode cX5_copyTown 22 = .ok (.invokestatic 98, 3) := by decide +kernel
theorem dX5_copyTown_25 : decode cX5_copyTown 25 = .ok (.aload_n 0, 1) := by decide +kernel
theorem dX5_copyTown_26 : decode cX5_copyTown 26 = .ok (.aload_n 1, 1) := by decide +kernel
theorem dX5_copyTown_27 : decode cX5_copyTown 27 = .ok (.getfield 22, 3) := by decide +kernel
theorem dX5_copyTown_30 : decode cX5_copyTown 30 = .ok (.putfield 22, 3) := by decide +kernel
theorem dX5_copyTown_33 : decode cX5_copyTown 33 = .ok (.iconst 0, 1) := by decide +kernel
theorem dX5_copyTown_34 : decode cX5_copyTown 34 = .ok (.istore_n 2, 1) := by decide +kernel
theorem dX5_copyTown_35 : decode cX5_copyTown 35 = .ok (.iload_n 2, 1) := by decide +kernel
theorem dX5_copyTown_36 : decode cX5_copyTown 36 = .ok (.bipush 8, 2) := by decide +kernel
theorem dX5_copyTown_38 : decode cX5_copyTown 38 = .ok (.if_icmp .ge 24, 3) := by decide +kernel
theorem dX5_copyTown_41 : decode cX5_copyTown 41 = .ok (.aload_n 0, 1) := by decide +kernel
theorem dX5_copyTown_42 : decode cX5_copyTown 42 = .ok (.getfield 28, 3) := by decide +kernel
theorem dX5_copyTown_45 : decode cX5_copyTown 45 = .ok (.iload_n 2, 1) := by decide +kernel
theorem dX5_copyTown_46 : decode cX5_copyTown 46 = .ok (.aaload, 1) := by decide +kernel
theorem dX5_copyTown_47 : decode cX5_copyTown 47 = .ok (.aload_n 1, 1) := by decide +kernel
theorem dX5_copyTown_48 : decode cX5_copyTown 48 = .ok (.getfield 28, 3) := by decide +kernel
theorem dX5_copyTown_51 : decode cX5_copyTown 51 = .ok (.iload_n 2, 1) := by decide +kernel
theorem dX5_copyTown_52 : decode cX5_copyTown 52 = .ok (.aaload, 1) := by decide +kernel
theorem dX5_copyTown_53 : decode cX5_copyTown 53 = .ok (.invokevirtual 104, 3) := by decide +kernel
theorem dX5_copyTown_56 : decode cX5_copyTown 56 = .ok (.iinc 2 1, 3) := by decide +kernel
theorem dX5_copyTown_59 : decode cX5_copyTown 59 = .ok (.goto (-24), 3) := by decide +kernel
theorem dX5_copyTown_62 : decode cX5_copyTown 62 = .ok (.aload_n 0, 1) := by decide +kernel
theorem dX5_copyTown_63 : decode cX5_copyTown 63 = .ok (.aload_n 1, 1) := by decide +kernel
theorem dX5_copyTown_64 : decode cX5_copyTown 64 = .ok (.getfield 32, 3) := by decide +kernel
theorem dX5_copyTown_67 : decode cX5_copyTown 67 = .ok (.putfield 32, 3) := by decide +kernel
theorem dX5_copyTown_70 : decode cX5_copyTown 70 = .ok (.aload_n 0, 1) := by decide +kernel
theorem dX5_copyTown_71 : decode cX5_copyTown 71 = .ok (.aload_n 1, 1) := by decide +kernel
theorem dX5_copyTown_72 : decode cX5_copyTown 72 = .ok (.getfield 35, 3) := by decide +kernel
theorem dX5_copyTown_75 : decode cX5_copyTown 75 = .ok (.putfield 35, 3) := by decide +kernel
theorem dX5_copyTown_78 : decode cX5_copyTown 78 = .ok (.aload_n 0, 1) := by decide +kernel
theorem dX5_copyTown_79 : decode cX5_copyTown 79 = .ok (.aload_n 1, 1) := by decide +kernel
theorem dX5_copyTown_80 : decode cX5_copyTown 80 = .ok (.getfield 38, 3) := by decide +kernel
theorem dX5_copyTown_83 : decode cX5_copyTown 83 = .ok (.putfield 38, 3) := by decide +kernel
theorem dX5_copyTown_86 : decode cX5_copyTown 86 = .ok (.aload_n 0, 1) := by decide +kernel
theorem dX5_copyTown_87 : decode cX5_copyTown 87 = .ok (.getfield 44, 3) := by decide +kernel
theorem dX5_copyTown_90 : decode cX5_copyTown 90 = .ok (.aload_n 1, 1) := by decide +kernel
theorem dX5_copyTown_91 : decode cX5_copyTown 91 = .ok (.getfield 44, 3) := by decide +kernel
theorem dX5_copyTown_94 : decode cX5_copyTown 94 = .ok (.invokevirtual 108, 3) := by decide +kernel
theorem dX5_copyTown_97 : decode cX5_copyTown 97 = .ok (.aload_n 0, 1) := by decide +kernel
theorem dX5_copyTown_98 : decode cX5_copyTown 98 = .ok (.getfield 48, 3) := by decide +kernel
theorem dX5_copyTown_101 : decode cX5_copyTown 101 = .ok (.aload_n 1, 1) := by decide +kernel
theorem dX5_copyTown_102 : decode cX5_copyTown 102 = .ok (.getfield 48, 3) := by decide +kernel
theorem dX5_copyTown_105 : decode cX5_copyTown 105 = .ok (.invokevirtual 108, 3) := by decide +kernel
theorem dX5_copyTown_108 : decode cX5_copyTown 108 = .ok (.aload_n 0, 1) := by decide +kernel
theorem dX5_copyTown_109 : decode cX5_copyTown 109 = .ok (.getfield 51, 3) := by decide +kernel
theorem dX5_copyTown_112 : decode cX5_copyTown 112 = .ok (.aload_n 1, 1) := by decide +kernel
theorem dX5_copyTown_113 : decode cX5_copyTown 113 = .ok (.getfield 51, 3) := by decide +kernel
theorem dX5_copyTown_116 : decode cX5_copyTown 116 = .ok (.invokevirtual 108, 3) := by decide +kernel
theorem dX5_copyTown_119 : decode cX5_copyTown 119 = .ok (.aload_n 1, 1) := by decide +kernel
theorem dX5_copyTown_120 : decode cX5_copyTown 120 = .ok (.getfield 54, 3) := by decide +kernel
theorem dX5_copyTown_123 : decode cX5_copyTown 123 = .ok (.iconst 0, 1) := by decide +kernel
theorem dX5_copyTown_124 : decode cX5_copyTown 124 = .ok (.aload_n 0, 1) := by decide +kernel
theorem dX5_copyTown_125 : decode cX5_copyTown 125 = .ok (.getfield 54, 3) := by decide +kernel
theorem dX5_copyTown_128 : decode cX5_copyTown 128 = .ok (.iconst 0, 1) := by decide +kernel
theorem dX5_copyTown_129 : decode cX5_copyTown 129 = .ok (.bipush 20, 2) := by decide +kernel
theorem dX5_copyTown_131 : decode cX5_copyTown 131 = .ok (.invokestatic 98, 3) := by decide +kernel
theorem dX5_copyTown_134 : decode cX5_copyTown 134 = .ok (.aload_n 0, 1) := by decide +kernel
theorem dX5_copyTown_135 : decode cX5_copyTown 135 = .ok (.aload_n 1, 1) := by decide +kernel
theorem dX5_copyTown_136 : decode cX5_copyTown 136 = .ok (.getfield 57, 3) := by decide +kernel
theorem dX5_copyTown_139 : decode cX5_copyTown 139 = .ok (.putfield 57, 3) := by decide +kernel
end
section
theorem dX5_copyTown_142 : decode cX5_copyTown 142 = .ok (.return_, 1) := by decide +kernel
theorem dX6_init_0 : decode cX6_init 0 = .ok (.aload_n 0, 1) := by decide +kernel
theorem dX6_init_1 : decode cX6_init 1 = .ok (.invokespecial 3, 3) := by decide +kernel
theorem dX6_init_4 : decode cX6_init 4 = .ok (.aload_n 0, 1) := by decide +kernel
theorem dX6_init_5 : decode cX6_init 5 = .ok (.bipush 40, 2) := by decide +kernel
theorem dX6_init_7 : decode cX6_init 7 = .ok (.newarray .int, 2) := by decide +kernel
theorem dX6_init_9 : decode cX6_init 9 = .ok (.putfield 9, 3) := by decide +kernel
theorem dX6_init_12 : decode cX6_init 12 = .ok (.aload_n 0, 1) := by decide +kernel
theorem dX6_init_13 : decode cX6_init 13 = .ok (.iconst 0, 1) := by decide +kernel
theorem dX6_init_14 : decode cX6_init 14 = .ok (.putfield 15, 3) := by decide +kernel
theorem dX6_init_17 : decode cX6_init 17 = .ok (.aload_n 0, 1) := by decide +kernel
theorem dX6_init_18 : decode cX6_init 18 = .ok (.iconst 0, 1) := by decide +kernel
theorem dX6_init_19 : decode cX6_init 19 = .ok (.putfield 19, 3) := by decide +kernel
theorem dX6_init_22 : decode cX6_init 22 = .ok (.aload_n 0, 1) := by decide +kernel
theorem dX6_init_23 : decode cX6_init 23 = .ok (.iconst 0, 1) := by decide +kernel
theorem dX6_init_24 : decode cX6_init 24 = .ok (.putfield 22, 3) := by decide +kernel
theorem dX6_init_27 : decode cX6_init 27 = .ok (.aload_n 0, 1) := by decide +kernel
theorem dX6_init_28 : decode cX6_init 28 = .ok (.iconst 0, 1) := by decide +kernel
theorem dX6_init_29 : decode cX6_init 29 = .ok (.putfield 25, 3) := by decide +kernel
theorem dX6_init_32 : decode cX6_init 32 = .ok (.return_, 1) := by decide +kernel
theorem dX6_speak_0 : decode cX6_speak 0 = .ok (.aload_n 0, 1) := by decide +kernel
theorem dX6_speak_1 : decode cX6_speak 1 = .ok (.iconst 0, 1) := by decide +kernel
theorem dX6_speak_2 : decode cX6_speak 2 = .ok (.putfield 15, 3) := by decide +kernel
theorem dX6_speak_5 : decode cX6_speak 5 = .ok (.aload_n 0, 1) := by decide +kernel
theorem dX6_speak_6 : decode cX6_speak 6 = .ok (.iload_n 1, 1) := by decide +kernel
theorem dX6_speak_7 : decode cX6_speak 7 = .ok (.putfield 19, 3) := by decide +kernel
theorem dX6_speak_10 : decode cX6_speak 10 = .ok (.aload_n 0, 1) := by decide +kernel
theorem dX6_speak_11 : decode cX6_speak 11 = .ok (.iload_n 2, 1) := by decide +kernel
theorem dX6_speak_12 : decode cX6_speak 12 = .ok (.putfield 22, 3) := by decide +kernel
theorem dX6_speak_15 : decode cX6_speak 15 = .ok (.aload_n 0, 1) := by decide +kernel
theorem dX6_speak_16 : decode cX6_speak 16 = .ok (.iload_n 3, 1) := by decide +kernel
theorem dX6_speak_17 : decode cX6_speak 17 = .ok (.putfield 25, 3) := by decide +kernel
theorem dX6_speak_20 : decode cX6_speak 20 = .ok (.aload_n 0, 1) := by decide +kernel
theorem dX6_speak_21 : decode cX6_speak 21 = .ok (.iload 4, 2) := by decide +kernel
theorem dX6_speak_23 : decode cX6_speak 23 = .ok (.iload 5, 2) := by decide +kernel
theorem dX6_speak_25 : decode cX6_speak 25 = .ok (.iconst 0, 1) := by decide +kernel
theorem dX6_speak_26 : decode cX6_speak 26 = .ok (.invokevirtual 28, 3) := by decide +kernel
theorem dX6_speak_29 : decode cX6_speak 29 = .ok (.ireturn, 1) := by decide +kernel
theorem dX6_own_0 : decode cX6_own 0 = .ok (.aload_n 0, 1) := by decide +kernel
theorem dX6_own_1 : decode cX6_own 1 = .ok (.aload_n 0, 1) := by decide +kernel
theorem dX6_own_2 : decode cX6_own 2 = .ok (.getfield 19, 3) := by decide +kernel
theorem dX6_own_5 : decode cX6_own 5 = .ok (.iload_n 1, 1) := by decide +kernel
theorem dX6_own_6 : decode cX6_own 6 = .ok (.invokestatic 32, 3) := by decide +kernel
theorem dX6_own_9 : decode cX6_own 9 = .ok (.iload_n 2, 1) := by decide +kernel
theorem dX6_own_10 : decode cX6_own 10 = .ok (.iload_n 3, 1) := by decide +kernel
theorem dX6_own_11 : decode cX6_own 11 = .ok (.invokevirtual 36, 3) := by decide +kernel
theorem dX6_own_14 : decode cX6_own 14 = .ok (.ireturn, 1) := by decide +kernel
theorem dX6_above_0 : decode cX6_above 0 = .ok (.aload_n 0, 1) := by decide +kernel
theorem dX6_above_1 : decode cX6_above 1 = .ok (.getstatic 39, 3) := by decide +kernel
theorem dX6_above_4 : decode cX6_above 4 = .ok (.iload_n 1, 1) := by decide +kernel
theorem dX6_above_5 : decode cX6_above 5 = .ok (.bipush 10, 2) := by decide +kernel
theorem dX6_above_7 : decode cX6_above 7 = .ok (.idiv, 1) := by decide +kernel
theorem dX6_above_8 : decode cX6_above 8 = .ok (.iconst 1, 1) := by decide +kernel
theorem dX6_above_9 : decode cX6_above 9 = .ok (.isub, 1) := by decide +kernel
theorem dX6_above_10 : decode cX6_above 10 = .ok (.iaload, 1) := by decide +kernel
theorem dX6_above_11 : decode cX6_above 11 = .ok (.iload_n 2, 1) := by decide +kernel
theorem dX6_above_12 : decode cX6_above 12 = .ok (.invokestatic 32, 3) := by decide +kernel
theorem dX6_above_15 : decode cX6_above 15 = .ok (.iload_n 3, 1) := by decide +kernel
theorem dX6_above_16 : decode cX6_above 16 = .ok (.iload 4, 2) := by decide +kernel
theorem dX6_above_18 : decode cX6_above 18 = .ok (.invokevirtual 36, 3) := by decide +kernel
theorem dX6_above_21 : decode cX6_above 21 = .ok (.ireturn, 1) := by decide +kernel
theorem dX6_bodyFrom_0 : decode cX6_bodyFrom 0 = .ok (.iload_n 0, 1) := by decide +kernel
theorem dX6_bodyFrom_1 : decode cX6_bodyFrom 1 = .ok (.istore_n 2, 1) := by decide +kernel
theorem dX6_bodyFrom_2 : decode cX6_bodyFrom 2 = .ok (.iconst 0, 1) := by decide +kernel
theorem dX6_bodyFrom_3 : decode cX6_bodyFrom 3 = .ok (.istore_n 3, 1) := by decide +kernel
theorem dX6_bodyFrom_4 : decode cX6_bodyFrom 4 = .ok (.iload_n 3, 1) := by decide +kernel
theorem dX6_bodyFrom_5 : decode cX6_bodyFrom 5 = .ok (.bipush 7, 2) := by decide +kernel
theorem dX6_bodyFrom_7 : decode cX6_bodyFrom 7 = .ok (.if_icmp .ge 27, 3) := by decide +kernel
theorem dX6_bodyFrom_10 : decode cX6_bodyFrom 10 = .ok (.getstatic 42, 3) := by decide +kernel
theorem dX6_bodyFrom_13 : decode cX6_bodyFrom 13 = .ok (.iload_n 2, 1) := by decide +kernel
theorem dX6_bodyFrom_14 : decode cX6_bodyFrom 14 = .ok (.iconst 4, 1) := by decide +kernel
theorem dX6_bodyFrom_15 : decode cX6_bodyFrom 15 = .ok (.imul, 1) := by decide +kernel
theorem dX6_bodyFrom_16 : decode cX6_bodyFrom 16 = .ok (.iload_n 1, 1) := by decide +kernel
theorem dX6_bodyFrom_17 : decode cX6_bodyFrom 17 = .ok (.iadd, 1) := by decide +kernel
theorem dX6_bodyFrom_18 : decode cX6_bodyFrom 18 = .ok (.iaload, 1) := by decide +kernel
theorem dX6_bodyFrom_19 : decode cX6_bodyFrom 19 = .ok (.ifCond .ne 15, 3) := by decide +kernel
theorem dX6_bodyFrom_22 : decode cX6_bodyFrom 22 = .ok (.getstatic 39, 3) := by decide +kernel
theorem dX6_bodyFrom_25 : decode cX6_bodyFrom 25 = .ok (.iload_n 2, 1) := by decide +kernel
theorem dX6_bodyFrom_26 : decode cX6_bodyFrom 26 = .ok (.iaload, 1) := by decide +kernel
theorem dX6_bodyFrom_27 : decode cX6_bodyFrom 27 = .ok (.istore_n 2, 1) := by decide +kernel
theorem dX6_bodyFrom_28 : decode cX6_bodyFrom 28 = .ok (.iinc 3 1, 3) := by decide +kernel
theorem dX6_bodyFrom_31 : decode cX6_bodyFrom 31 = .ok (.goto (-27), 3) := by decide +kernel
theorem dX6_bodyFrom_34 : decode cX6_bodyFrom 34 = .ok (.getstatic 42, 3) := by decide +kernel
theorem dX6_bodyFrom_37 : decode cX6_bodyFrom 37 = .ok (.iload_n 2, 1) := by decide +kernel
theorem dX6_bodyFrom_38 : decode cX6_bodyFrom 38 = .ok (.iconst 4, 1) := by decide +kernel
theorem dX6_bodyFrom_39 : decode cX6_bodyFrom 39 = .ok (.imul, 1) := by decide +kernel
theorem dX6_bodyFrom_40 : decode cX6_bodyFrom 40 = .ok (.iload_n 1, 1) := by decide +kernel
theorem dX6_bodyFrom_41 : decode cX6_bodyFrom 41 = .ok (.iadd, 1) := by decide +kernel
theorem dX6_bodyFrom_42 : decode cX6_bodyFrom 42 = .ok (.iaload, 1) := by decide +kernel
theorem dX6_bodyFrom_43 : decode cX6_bodyFrom 43 = .ok (.ireturn, 1) := by decide +kernel
theorem dX6_begin_0 : decode cX6_begin 0 = .ok (.aload_n 0, 1) := by decide +kernel
theorem dX6_begin_1 : decode cX6_begin 1 = .ok (.getfield 15, 3) := by decide +kernel
theorem dX6_begin_4 : decode cX6_begin 4 = .ok (.bipush 40, 2) := by decide +kernel
theorem dX6_begin_6 : decode cX6_begin 6 = .ok (.if_icmp .ge 23, 3) := by decide +kernel
theorem dX6_begin_9 : decode cX6_begin 9 = .ok (.aload_n 0, 1) := by decide +kernel
theorem dX6_begin_10 : decode cX6_begin 10 = .ok (.getfield 9, 3) := by decide +kernel
theorem dX6_begin_13 : decode cX6_begin 13 = .ok (.aload_n 0, 1) := by decide +kernel
theorem dX6_begin_14 : decode cX6_begin 14 = .ok (.getfield 15, 3) := by decide +kernel
theorem dX6_begin_17 : decode cX6_begin 17 = .ok (.iload_n 1, 1) := by decide +kernel
theorem dX6_begin_18 : decode cX6_begin 18 = .ok (.iastore, 1) := by decide +kernel
theorem dX6_begin_19 : decode cX6_begin 19 = .ok (.aload_n 0, 1) := by decide +kernel
theorem dX6_begin_20 : decode cX6_begin 20 = .ok (.dup, 1) := by decide +kernel
theorem dX6_begin_21 : decode cX6_begin 21 = .ok (.getfield 15, 3) := by decide +kernel
theorem dX6_begin_24 : decode cX6_begin 24 = .ok (.iconst 1, 1) := by decide +kernel
theorem dX6_begin_25 : decode cX6_begin 25 = .ok (.iadd, 1) := by decide +kernel
theorem dX6_begin_26 : decode cX6_begin 26 = .ok (.putfield 15, 3) := by decide +kernel
theorem dX6_begin_29 : decode cX6_begin 29 = .ok (.return_, 1) := by decide +kernel
theorem dX6_work_0 : decode cX6_work 0 = .ok (.iload_n 3, 1) := by decide +kernel
theorem dX6_work_1 : decode cX6_work 1 = .ok (.bipush 20, 2) := by decide +kernel
theorem dX6_work_3 : decode cX6_work 3 = .ok (.if_icmp .le 5, 3) := by decide +kernel
theorem dX6_work_6 : decode cX6_work 6 = .ok (.iconst 0, 1) := by decide +kernel
theorem dX6_work_7 : decode cX6_work 7 = .ok (.ireturn, 1) := by decide +kernel
theorem dX6_work_8 : decode cX6_work 8 = .ok (.aload_n 0, 1) := by decide +kernel
theorem dX6_work_9 : decode cX6_work 9 = .ok (.iload_n 1, 1) := by decide +kernel
theorem dX6_work_10 : decode cX6_work 10 = .ok (.invokevirtual 45, 3) := by decide +kernel
theorem dX6_work_13 : decode cX6_work 13 = .ok (.iload_n 3, 1) := by decide +kernel
theorem dX6_work_14 : decode cX6_work 14 = .ok (.iconst 1, 1) := by decide +kernel
theorem dX6_work_15 : decode cX6_work 15 = .ok (.iadd, 1) := by decide +kernel
theorem dX6_work_16 : decode cX6_work 16 = .ok (.istore 4, 2) := by decide +kernel
theorem dX6_work_18 : decode cX6_work 18 = .ok (.iload_n 1, 1) := by decide +kernel
theorem dX6_work_19 : decode cX6_work 19 = .ok (.lookupswitch 247 #[(10, 97), (11, 104), (12, 115), (13, 122), (20, 140), (30, 152), (40, 171), (50, 182), (60, 201), (70, 213), (71, 228)], 97) := by decide +kernel
theorem dX6_work_116 : decode cX6_work 116 = .ok (.iload_n 2, 1) := by decide +kernel
theorem dX6_work_117 : decode cX6_work 117 = .ok (.aload_n 0, 1) := by decide +kernel
theorem dX6_work_118 : decode cX6_work 118 = .ok (.getfield 22, 3) := by decide +kernel
theorem dX6_work_121 : decode cX6_work 121 = .ok (.iadd, 1) := by decide +kernel
theorem dX6_work_122 : decode cX6_work 122 = .ok (.ireturn, 1) := by decide +kernel
theorem dX6_work_123 : decode cX6_work 123 = .ok (.aload_n 0, 1) := by decide +kernel
theorem dX6_work_124 : decode cX6_work 124 = .ok (.iconst 0, 1) := by decide +kernel
theorem dX6_work_125 : decode cX6_work 125 = .ok (.iload_n 2, 1) := by decide +kernel
theorem dX6_work_126 : decode cX6_work 126 = .ok (.iload 4, 2) := by decide +kernel
theorem dX6_work_128 : decode cX6_work 128 = .ok (.invokevirtual 28, 3) := by decide +kernel
theorem dX6_work_131 : decode cX6_work 131 = .ok (.iconst 2, 1) := by decide +kernel
theorem dX6_work_132 : decode cX6_work 132 = .ok (.imul, 1) := by decide +kernel
theorem dX6_work_133 : decode cX6_work 133 = .ok (.ireturn, 1) := by decide +kernel
theorem dX6_work_134 : decode cX6_work 134 = .ok (.iload_n 2, 1) := by decide +kernel
theorem dX6_work_135 : decode cX6_work 135 = .ok (.aload_n 0, 1) := by decide +kernel
theorem dX6_work_136 : decode cX6_work 136 = .ok (.getfield 25, 3) := by decide +kernel
theorem dX6_work_139 : decode cX6_work 139 = .ok (.isub, 1) := by decide +kernel
theorem dX6_work_140 : decode cX6_work 140 = .ok (.ireturn, 1) := by decide +kernel
theorem dX6_work_141 : decode cX6_work 141 = .ok (.aload_n 0, 1) := by decide +kernel
theorem dX6_work_142 : decode cX6_work 142 = .ok (.iconst 1, 1) := by decide +kernel
theorem dX6_work_143 : decode cX6_work 143 = .ok (.iload_n 2, 1) := by decide +kernel
theorem dX6_work_144 : decode cX6_work 144 = .ok (.iload 4, 2) := by decide +kernel
theorem dX6_work_146 : decode cX6_work 146 = .ok (.invokevirtual 28, 3) := by decide +kernel
theorem dX6_work_149 : decode cX6_work 149 = .ok (.aload_n 0, 1) := by decide +kernel
theorem dX6_work_150 : decode cX6_work 150 = .ok (.iconst 2, 1) := by decide +kernel
theorem dX6_work_151 : decode cX6_work 151 = .ok (.iload_n 2, 1) := by decide +kernel
theorem dX6_work_152 : decode cX6_work 152 = .ok (.iload 4, 2) := by decide +kernel
theorem dX6_work_154 : decode cX6_work 154 = .ok (.invokevirtual 28, 3) := by decide +kernel
theorem dX6_work_157 : decode cX6_work 157 = .ok (.ixor, 1) := by decide +kernel
theorem dX6_work_158 : decode cX6_work 158 = .ok (.ireturn, 1) := by decide +kernel
theorem dX6_work_159 : decode cX6_work 159 = .ok (.aload_n 0, 1) := by decide +kernel
theorem dX6_work_160 : decode cX6_work 160 = .ok (.iload_n 1, 1) := by decide +kernel
theorem dX6_work_161 : decode cX6_work 161 = .ok (.iconst 0, 1) := by decide +kernel
theorem dX6_work_162 : decode cX6_work 162 = .ok (.iload_n 2, 1) := by decide +kernel
theorem dX6_work_163 : decode cX6_work 163 = .ok (.iload 4, 2) := by decide +kernel
theorem dX6_work_165 : decode cX6_work 165 = .ok (.invokevirtual 49, 3) := by decide +kernel
theorem dX6_work_168 : decode cX6_work 168 = .ok (.iconst 3, 1) := by decide +kernel
theorem dX6_work_169 : decode cX6_work 169 = .ok (.imul, 1) := by decide +kernel
theorem dX6_work_170 : decode cX6_work 170 = .ok (.ireturn, 1) := by decide +kernel
theorem dX6_work_171 : decode cX6_work 171 = .ok (.aload_n 0, 1) := by decide +kernel
theorem dX6_work_172 : decode cX6_work 172 = .ok (.iload_n 1, 1) := by decide +kernel
theorem dX6_work_173 : decode cX6_work 173 = .ok (.iconst 1, 1) := by decide +kernel
theorem dX6_work_174 : decode cX6_work 174 = .ok (.iload_n 2, 1) := by decide +kernel
theorem dX6_work_175 : decode cX6_work 175 = .ok (.iload 4, 2) := by decide +kernel
theorem dX6_work_177 : decode cX6_work 177 = .ok (.invokevirtual 49, 3) := by decide +kernel
theorem dX6_work_180 : decode cX6_work 180 = .ok (.aload_n 0, 1) := by decide +kernel
theorem dX6_work_181 : decode cX6_work 181 = .ok (.iconst 2, 1) := by decide +kernel
theorem dX6_work_182 : decode cX6_work 182 = .ok (.iconst 1, 1) := by decide +kernel
theorem dX6_work_183 : decode cX6_work 183 = .ok (.iload 4, 2) := by decide +kernel
theorem dX6_work_185 : decode cX6_work 185 = .ok (.invokevirtual 28, 3) := by decide +kernel
theorem dX6_work_188 : decode cX6_work 188 = .ok (.isub, 1) := by decide +kernel
theorem dX6_work_189 : decode cX6_work 189 = .ok (.ireturn, 1) := by decide +kernel
theorem dX6_work_190 : decode cX6_work 190 = .ok (.aload_n 0, 1) := by decide +kernel
theorem dX6_work_191 : decode cX6_work 191 = .ok (.iload_n 1, 1) := by decide +kernel
theorem dX6_work_192 : decode cX6_work 192 = .ok (.iconst 2, 1) := by decide +kernel
theorem dX6_work_193 : decode cX6_work 193 = .ok (.iload_n 2, 1) := by decide +kernel
theorem dX6_work_194 : decode cX6_work 194 = .ok (.iload 4, 2) := by decide +kernel
theorem dX6_work_196 : decode cX6_work 196 = .ok (.invokevirtual 49, 3) := by decide +kernel
theorem dX6_work_199 : decode cX6_work 199 = .ok (.ineg, 1) := by decide +kernel
theorem dX6_work_200 : decode cX6_work 200 = .ok (.ireturn, 1) := by decide +kernel
theorem dX6_work_201 : decode cX6_work 201 = .ok (.aload_n 0, 1) := by decide +kernel
theorem dX6_work_202 : decode cX6_work 202 = .ok (.iload_n 1, 1) := by decide +kernel
theorem dX6_work_203 : decode cX6_work 203 = .ok (.iconst 3, 1) := by decide +kernel
theorem dX6_work_204 : decode cX6_work 204 = .ok (.iload_n 2, 1) := by decide +kernel
theorem dX6_work_205 : decode cX6_work 205 = .ok (.iload 4, 2) := by decide +kernel
theorem dX6_work_207 : decode cX6_work 207 = .ok (.invokevirtual 49, 3) := by decide +kernel
theorem dX6_work_210 : decode cX6_work 210 = .ok (.aload_n 0, 1) := by decide +kernel
theorem dX6_work_211 : decode cX6_work 211 = .ok (.iconst 0, 1) := by decide +kernel
theorem dX6_work_212 : decode cX6_work 212 = .ok (.iconst 2, 1) := by decide +kernel
theorem dX6_work_213 : decode cX6_work 213 = .ok (.iload 4, 2) := by decide +kernel
theorem dX6_work_215 : decode cX6_work 215 = .ok (.invokevirtual 28, 3) := by decide +kernel
theorem dX6_work_218 : decode cX6_work 218 = .ok (.isub, 1) := by decide +kernel
theorem dX6_work_219 : decode cX6_work 219 = .ok (.ireturn, 1) := by decide +kernel
theorem dX6_work_220 : decode cX6_work 220 = .ok (.aload_n 0, 1) := by decide +kernel
theorem dX6_work_221 : decode cX6_work 221 = .ok (.iload_n 1, 1) := by decide +kernel
theorem dX6_work_222 : decode cX6_work 222 = .ok (.iconst 1, 1) := by decide +kernel
theorem dX6_work_223 : decode cX6_work 223 = .ok (.iload_n 2, 1) := by decide +kernel
theorem dX6_work_224 : decode cX6_work 224 = .ok (.iconst 1, 1) := by decide +kernel
theorem dX6_work_225 : decode cX6_work 225 = .ok (.iadd, 1) := by decide +kernel
theorem dX6_work_226 : decode cX6_work 226 = .ok (.iload 4, 2) := by decide +kernel
theorem dX6_work_228 : decode cX6_work 228 = .ok (.invokevirtual 49, 3) := by decide +kernel
theorem dX6_work_231 : decode cX6_work 231 = .ok (.ireturn, 1) := by decide +kernel
theorem dX6_work_232 : decode cX6_work 232 = .ok (.aload_n 0, 1) := by decide +kernel
theorem dX6_work_233 : decode cX6_work 233 = .ok (.iload_n 1, 1) := by decide +kernel
theorem dX6_work_234 : decode cX6_work 234 = .ok (.iconst 2, 1) := by decide +kernel
theorem dX6_work_235 : decode cX6_work 235 = .ok (.iload_n 2, 1) := by decide +kernel
theorem dX6_work_236 : decode cX6_work 236 = .ok (.iload 4, 2) := by decide +kernel
theorem dX6_work_238 : decode cX6_work 238 = .ok (.invokevirtual 49, 3) := by decide +kernel
theorem dX6_work_241 : decode cX6_work 241 = .ok (.aload_n 0, 1) := by decide +kernel
theorem dX6_work_242 : decode cX6_work 242 = .ok (.getfield 22, 3) := by decide +kernel
theorem dX6_work_245 : decode cX6_work 245 = .ok (.ixor, 1) := by decide +kernel
theorem dX6_work_246 : decode cX6_work 246 = .ok (.ireturn, 1) := by decide +kernel
theorem dX6_work_247 : decode cX6_work 247 = .ok (.aload_n 0, 1) := by decide +kernel
theorem dX6_work_248 : decode cX6_work 248 = .ok (.iconst 1, 1) := by decide +kernel
theorem dX6_work_249 : decode cX6_work 249 = .ok (.iload_n 2, 1) := by decide +kernel
theorem dX6_work_250 : decode cX6_work 250 = .ok (.iload 4, 2) := by decide +kernel
theorem dX6_work_252 : decode cX6_work 252 = .ok (.invokevirtual 28, 3) := by decide +kernel
theorem dX6_work_255 : decode cX6_work 255 = .ok (.aload_n 0, 1) := by decide +kernel
theorem dX6_work_256 : decode cX6_work 256 = .ok (.iload_n 1, 1) := by decide +kernel
theorem dX6_work_257 : decode cX6_work 257 = .ok (.iconst 3, 1) := by decide +kernel
theorem dX6_work_258 : decode cX6_work 258 = .ok (.iload_n 2, 1) := by decide +kernel
theorem dX6_work_259 : decode cX6_work 259 = .ok (.iload 4, 2) := by decide +kernel
theorem dX6_work_261 : decode cX6_work 261 = .ok (.invokevirtual 49, 3) := by decide +kernel
theorem dX6_work_264 : decode cX6_work 264 = .ok (.isub, 1) := by decide +kernel
theorem dX6_work_265 : decode cX6_work 265 = .ok (.ireturn, 1) := by decide +kernel
theorem dX6_work_266 : decode cX6_work 266 = .ok (.iconst 0, 1) := by decide +kernel
theorem dX6_work_267 : decode cX6_work 267 = .ok (.ireturn, 1) := by decide +kernel
theorem dX7_init_0 : decode cX7_init 0 = .ok (.aload_n 0, 1) := by decide +kernel
theorem dX7_init_1 : decode cX7_init 1 = .ok (.invokespecial 1, 3) := by decide +kernel
theorem dX7_init_4 : decode cX7_init 4 = .ok (.aload_n 0, 1) := by decide +kernel
theorem dX7_init_5 : decode cX7_init 5 = .ok (.new 7, 3) := by decide +kernel
theorem dX7_init_8 : decode cX7_init 8 = .ok (.dup, 1) := by decide +kernel
theorem dX7_init_9 : decode cX7_init 9 = .ok (.invokespecial 9, 3) := by decide +kernel
theorem dX7_init_12 : decode cX7_init 12 = .ok (.putfield 10, 3) := by decide +kernel
theorem dX7_init_15 : decode cX7_init 15 = .ok (.aload_n 0, 1) := by decide +kernel
theorem dX7_init_16 : decode cX7_init 16 = .ok (.new 7, 3) := by decide +kernel
theorem dX7_init_19 : decode cX7_init 19 = .ok (.dup, 1) := by decide +kernel
theorem dX7_init_20 : decode cX7_init 20 = .ok (.invokespecial 9, 3) := by decide +kernel
theorem dX7_init_23 : decode cX7_init 23 = .ok (.putfield 16, 3) := by decide +kernel
theorem dX7_init_26 : decode cX7_init 26 = .ok (.aload_n 0, 1) := by decide +kernel
theorem dX7_init_27 : decode cX7_init 27 = .ok (.iconst 0, 1) := by decide +kernel
theorem dX7_init_28 : decode cX7_init 28 = .ok (.putfield 19, 3) := by decide +kernel
theorem dX7_init_31 : decode cX7_init 31 = .ok (.aload_n 0, 1) := by decide +kernel
theorem dX7_init_32 : decode cX7_init 32 = .ok (.new 23, 3) := by decide +kernel
theorem dX7_init_35 : decode cX7_init 35 = .ok (.dup, 1) := by decide +kernel
theorem dX7_init_36 : decode cX7_init 36 = .ok (.invokespecial 25, 3) := by decide +kernel
theorem dX7_init_39 : decode cX7_init 39 = .ok (.putfield 26, 3) := by decide +kernel
theorem dX7_init_42 : decode cX7_init 42 = .ok (.aload_n 0, 1) := by decide +kernel
theorem dX7_init_43 : decode cX7_init 43 = .ok (.new 30, 3) := by decide +kernel
theorem dX7_init_46 : decode cX7_init 46 = .ok (.dup, 1) := by decide +kernel
theorem dX7_init_47 : decode cX7_init 47 = .ok (.invokespecial 32, 3) := by decide +kernel
theorem dX7_init_50 : decode cX7_init 50 = .ok (.putfield 33, 3) := by decide +kernel
theorem dX7_init_53 : decode cX7_init 53 = .ok (.aload_n 0, 1) := by decide +kernel
theorem dX7_init_54 : decode cX7_init 54 = .ok (.iconst 4, 1) := by decide +kernel
theorem dX7_init_55 : decode cX7_init 55 = .ok (.anewarray 37, 3) := by decide +kernel
theorem dX7_init_58 : decode cX7_init 58 = .ok (.putfield 39, 3) := by decide +kernel
theorem dX7_init_61 : decode cX7_init 61 = .ok (.aload_n 0, 1) := by decide +kernel
theorem dX7_init_62 : decode cX7_init 62 = .ok (.bipush 6, 2) := by decide +kernel
theorem dX7_init_64 : decode cX7_init 64 = .ok (.newarray .int, 2) := by decide +kernel
theorem dX7_init_66 : decode cX7_init 66 = .ok (.putfield 43, 3) := by decide +kernel
theorem dX7_init_69 : decode cX7_init 69 = .ok (.aload_n 0, 1) := by decide +kernel
theorem dX7_init_70 : decode cX7_init 70 = .ok (.bipush 8, 2) := by decide +kernel
theorem dX7_init_72 : decode cX7_init 72 = .ok (.newarray .int, 2) := by decide +kernel
theorem dX7_init_74 : decode cX7_init 74 = .ok (.putfield 47, 3) := by decide +kernel
theorem dX7_init_77 : decode cX7_init 77 = .ok (.aload_n 0, 1) := by decide +kernel
theorem dX7_init_78 : decode cX7_init 78 = .ok (.bipush 8, 2) := by decide +kernel
theorem dX7_init_80 : decode cX7_init 80 = .ok (.newarray .int, 2) := by decide +kernel
theorem dX7_init_82 : decode cX7_init 82 = .ok (.putfield 50, 3) := by decide +kernel
theorem dX7_init_85 : decode cX7_init 85 = .ok (.iconst 0, 1) := by decide +kernel
theorem dX7_init_86 : decode cX7_init 86 = .ok (.istore_n 1, 1) := by decide +kernel
theorem dX7_init_87 : decode cX7_init 87 = .ok (.iload_n 1, 1) := by decide +kernel
theorem dX7_init_88 : decode cX7_init 88 = .ok (.iconst 4, 1) := by decide +kernel
theorem dX7_init_89 : decode cX7_init 89 = .ok (.if_icmp .ge 22, 3) := by decide +kernel
theorem dX7_init_92 : decode cX7_init 92 = .ok (.aload_n 0, 1) := by decide +kernel
theorem dX7_init_93 : decode cX7_init 93 = .ok (.getfield 39, 3) := by decide +kernel
theorem dX7_init_96 : decode cX7_init 96 = .ok (.iload_n 1, 1) := by decide +kernel
theorem dX7_init_97 : decode cX7_init 97 = .ok (.new 37, 3) := by decide +kernel
theorem dX7_init_100 : decode cX7_init 100 = .ok (.dup, 1) := by decide +kernel
theorem dX7_init_101 : decode cX7_init 101 = .ok (.invokespecial 53, 3) := by decide +kernel
theorem dX7_init_104 : decode cX7_init 104 = .ok (.aastore, 1) := by decide +kernel
theorem dX7_init_105 : decode cX7_init 105 = .ok (.iinc 1 1, 3) := by decide +kernel
theorem dX7_init_108 : decode cX7_init 108 = .ok (.goto (-21), 3) := by decide +kernel
theorem dX7_init_111 : decode cX7_init 111 = .ok (.return_, 1) := by decide +kernel
theorem dX7_land_0 : decode cX7_land 0 = .ok (.iload_n 2, 1) := by decide +kernel
theorem dX7_land_1 : decode cX7_land 1 = .ok (.ifCond .ne 8, 3) := by decide +kernel
theorem dX7_land_4 : decode cX7_land 4 = .ok (.bipush 20, 2) := by decide +kernel
theorem dX7_land_6 : decode cX7_land 6 = .ok (.goto 5, 3) := by decide +kernel
theorem dX7_land_9 : decode cX7_land 9 = .ok (.bipush 99, 2) := by decide +kernel
theorem dX7_land_11 : decode cX7_land 11 = .ok (.istore 4, 2) := by decide +kernel
theorem dX7_land_13 : decode cX7_land 13 = .ok (.iload_n 1, 1) := by decide +kernel
theorem dX7_land_14 : decode cX7_land 14 = .ok (.invokestatic 54, 3) := by decide +kernel
theorem dX7_land_17 : decode cX7_land 17 = .ok (.ifCond .eq 22, 3) := by decide +kernel
theorem dX7_land_20 : decode cX7_land 20 = .ok (.iload_n 2, 1) := by decide +kernel
theorem dX7_land_21 : decode cX7_land 21 = .ok (.iconst 0, 1) := by decide +kernel
theorem dX7_land_22 : decode cX7_land 22 = .ok (.iconst 1, 1) := by decide +kernel
theorem dX7_land_23 : decode cX7_land 23 = .ok (.invokestatic 58, 3) := by decide +kernel
theorem dX7_land_26 : decode cX7_land 26 = .ok (.ifCond .eq 13, 3) := by decide +kernel
theorem dX7_land_29 : decode cX7_land 29 = .ok (.iload_n 3, 1) := by decide +kernel
theorem dX7_land_30 : decode cX7_land 30 = .ok (.iconst 0, 1) := by decide +kernel
theorem dX7_land_31 : decode cX7_land 31 = .ok (.iload 4, 2) := by decide +kernel
theorem dX7_land_33 : decode cX7_land 33 = .ok (.invokestatic 58, 3) := by decide +kernel
theorem dX7_land_36 : decode cX7_land 36 = .ok (.ifCond .ne 9, 3) := by decide +kernel
theorem dX7_land_39 : decode cX7_land 39 = .ok (.aload_n 0, 1) := by decide +kernel
theorem dX7_land_40 : decode cX7_land 40 = .ok (.iconst 1, 1) := by decide +kernel
theorem dX7_land_41 : decode cX7_land 41 = .ok (.invokevirtual 62, 3) := by decide +kernel
theorem dX7_land_44 : decode cX7_land 44 = .ok (.ireturn, 1) := by decide +kernel
theorem dX7_land_45 : decode cX7_land 45 = .ok (.iload_n 2, 1) := by decide +kernel
theorem dX7_land_46 : decode cX7_land 46 = .ok (.ifCond .ne 16, 3) := by decide +kernel
theorem dX7_land_49 : decode cX7_land 49 = .ok (.aload_n 0, 1) := by decide +kernel
theorem dX7_land_50 : decode cX7_land 50 = .ok (.getfield 10, 3) := by decide +kernel
theorem dX7_land_53 : decode cX7_land 53 = .ok (.getfield 66, 3) := by decide +kernel
theorem dX7_land_56 : decode cX7_land 56 = .ok (.getfield 70, 3) := by decide +kernel
theorem dX7_land_59 : decode cX7_land 59 = .ok (.goto 13, 3) := by decide +kernel
theorem dX7_land_62 : decode cX7_land 62 = .ok (.aload_n 0, 1) := by decide +kernel
theorem dX7_land_63 : decode cX7_land 63 = .ok (.getfield 10, 3) := by decide +kernel
theorem dX7_land_66 : decode cX7_land 66 = .ok (.getfield 66, 3) := by decide +kernel
theorem dX7_land_69 : decode cX7_land 69 = .ok (.getfield 75, 3) := by decide +kernel
theorem dX7_land_72 : decode cX7_land 72 = .ok (.astore 5, 2) := by decide +kernel
theorem dX7_land_74 : decode cX7_land 74 = .ok (.aload 5, 2) := by decide +kernel
theorem dX7_land_76 : decode cX7_land 76 = .ok (.iload_n 1, 1) := by decide +kernel
theorem dX7_land_77 : decode cX7_land 77 = .ok (.iaload, 1) := by decide +kernel
theorem dX7_land_78 : decode cX7_land 78 = .ok (.istore 6, 2) := by decide +kernel
theorem dX7_land_80 : decode cX7_land 80 = .ok (.aload 5, 2) := by decide +kernel
theorem dX7_land_82 : decode cX7_land 82 = .ok (.iload_n 1, 1) := by decide +kernel
theorem dX7_land_83 : decode cX7_land 83 = .ok (.iload_n 3, 1) := by decide +kernel
theorem dX7_land_84 : decode cX7_land 84 = .ok (.iastore, 1) := by decide +kernel
theorem dX7_land_85 : decode cX7_land 85 = .ok (.iload 6, 2) := by decide +kernel
theorem dX7_land_87 : decode cX7_land 87 = .ok (.ireturn, 1) := by decide +kernel
theorem dX7_ofPlace_0 : decode cX7_ofPlace 0 = .ok (.iload_n 1, 1) := by decide +kernel
theorem dX7_ofPlace_1 : decode cX7_ofPlace 1 = .ok (.invokestatic 54, 3) := by decide +kernel
theorem dX7_ofPlace_4 : decode cX7_ofPlace 4 = .ok (.ifCond .eq 12, 3) := by decide +kernel
theorem dX7_ofPlace_7 : decode cX7_ofPlace 7 = .ok (.iload_n 2, 1) := by decide +kernel
theorem dX7_ofPlace_8 : decode cX7_ofPlace 8 = .ok (.iconst 0, 1) := by decide +kernel
theorem dX7_ofPlace_9 : decode cX7_ofPlace 9 = .ok (.iconst 5, 1) := by decide +kernel
theorem dX7_ofPlace_10 : decode cX7_ofPlace 10 = .ok (.invokestatic 58, 3) := by decide +kernel
theorem dX7_ofPlace_13 : decode cX7_ofPlace 13 = .ok (.ifCond .ne 9, 3) := by decide +kernel
theorem dX7_ofPlace_16 : decode cX7_ofPlace 16 = .ok (.aload_n 0, 1) := by decide +kernel
theorem dX7_ofPlace_17 : decode cX7_ofPlace 17 = .ok (.iconst 1, 1) := by decide +kernel
theorem dX7_ofPlace_18 : decode cX7_ofPlace 18 = .ok (.invokevirtual 62, 3) := by decide +kernel
theorem dX7_ofPlace_21 : decode cX7_ofPlace 21 = .ok (.ireturn, 1) := by decide +kernel
theorem dX7_ofPlace_22 : decode cX7_ofPlace 22 = .ok (.aload_n 0, 1) := by decide +kernel
theorem dX7_ofPlace_23 : decode cX7_ofPlace 23 = .ok (.getfield 10, 3) := by decide +kernel
theorem dX7_ofPlace_26 : decode cX7_ofPlace 26 = .ok (.getfield 66, 3) := by decide +kernel
theorem dX7_ofPlace_29 : decode cX7_ofPlace 29 = .ok (.astore_n 3, 1) := by decide +kernel
theorem dX7_ofPlace_30 : decode cX7_ofPlace 30 = .ok (.iload_n 2, 1) := by decide +kernel
theorem dX7_ofPlace_31 : decode cX7_ofPlace 31 = .ok (.tableswitch 85 0 4 #[33, 40, 47, 59, 71], 33) := by decide +kernel
theorem dX7_ofPlace_64 : decode cX7_ofPlace 64 = .ok (.aload_n 3, 1) := by decide +kernel
theorem dX7_ofPlace_65 : decode cX7_ofPlace 65 = .ok (.getfield 70, 3) := by decide +kernel
theorem dX7_ofPlace_68 : decode cX7_ofPlace 68 = .ok (.iload_n 1, 1) := by decide +kernel
theorem dX7_ofPlace_69 : decode cX7_ofPlace 69 = .ok (.iaload, 1) := by decide +kernel
theorem dX7_ofPlace_70 : decode cX7_ofPlace 70 = .ok (.ireturn, 1) := by decide +kernel
theorem dX7_ofPlace_71 : decode cX7_ofPlace 71 = .ok (.aload_n 3, 1) := by decide +kernel
theorem dX7_ofPlace_72 : decode cX7_ofPlace 72 = .ok (.getfield 75, 3) := by decide +kernel
theorem dX7_ofPlace_75 : decode cX7_ofPlace 75 = .ok (.iload_n 1, 1) := by decide +kernel
theorem dX7_ofPlace_76 : decode cX7_ofPlace 76 = .ok (.iaload, 1) := by decide +kernel
theorem dX7_ofPlace_77 : decode cX7_ofPlace 77 = .ok (.ireturn, 1) := by decide +kernel
theorem dX7_ofPlace_78 : decode cX7_ofPlace 78 = .ok (.aload_n 3, 1) := by decide +kernel
theorem dX7_ofPlace_79 : decode cX7_ofPlace 79 = .ok (.iload_n 1, 1) := by decide +kernel
theorem dX7_ofPlace_80 : decode cX7_ofPlace 80 = .ok (.iconst 0, 1) := by decide +kernel
theorem dX7_ofPlace_81 : decode cX7_ofPlace 81 = .ok (.aload_n 3, 1) := by decide +kernel
theorem dX7_ofPlace_82 : decode cX7_ofPlace 82 = .ok (.iconst 0, 1) := by decide +kernel
theorem dX7_ofPlace_83 : decode cX7_ofPlace 83 = .ok (.invokevirtual 78, 3) := by decide +kernel
theorem dX7_ofPlace_86 : decode cX7_ofPlace 86 = .ok (.invokevirtual 81, 3) := by decide +kernel
theorem dX7_ofPlace_89 : decode cX7_ofPlace 89 = .ok (.ireturn, 1) := by decide +kernel
theorem dX7_ofPlace_90 : decode cX7_ofPlace 90 = .ok (.aload_n 3, 1) := by decide +kernel
theorem dX7_ofPlace_91 : decode cX7_ofPlace 91 = .ok (.iload_n 1, 1) := by decide +kernel
theorem dX7_ofPlace_92 : decode cX7_ofPlace 92 = .ok (.iconst 1, 1) := by decide +kernel
theorem dX7_ofPlace_93 : decode cX7_ofPlace 93 = .ok (.aload_n 3, 1) := by decide +kernel
theorem dX7_ofPlace_94 : decode cX7_ofPlace 94 = .ok (.iconst 0, 1) := by decide +kernel
theorem dX7_ofPlace_95 : decode cX7_ofPlace 95 = .ok (.invokevirtual 78, 3) := by decide +kernel
theorem dX7_ofPlace_98 : decode cX7_ofPlace 98 = .ok (.invokevirtual 81, 3) := by decide +kernel
theorem dX7_ofPlace_101 : decode cX7_ofPlace 101 = .ok (.ireturn, 1) := by decide +kernel
theorem dX7_ofPlace_102 : decode cX7_ofPlace 102 = .ok (.aload_n 3, 1) := by decide +kernel
theorem dX7_ofPlace_103 : decode cX7_ofPlace 103 = .ok (.iload_n 1, 1) := by decide +kernel
theorem dX7_ofPlace_104 : decode cX7_ofPlace 104 = .ok (.aload_n 3, 1) := by decide +kernel
theorem dX7_ofPlace_105 : decode cX7_ofPlace 105 = .ok (.iconst 0, 1) := by decide +kernel
theorem dX7_ofPlace_106 : decode cX7_ofPlace 106 = .ok (.invokevirtual 78, 3) := by decide +kernel
theorem dX7_ofPlace_109 : decode cX7_ofPlace 109 = .ok (.invokevirtual 85, 3) := by decide +kernel
theorem dX7_ofPlace_112 : decode cX7_ofPlace 112 = .ok (.invokestatic 89, 3) := by decide +kernel
theorem dX7_ofPlace_115 : decode cX7_ofPlace 115 = .ok (.ireturn, 1) := by decide +kernel
theorem dX7_ofPlace_116 : decode cX7_ofPlace 116 = .ok (.aload_n 0, 1) := by decide +kernel
theorem dX7_ofPlace_117 : decode cX7_ofPlace 117 = .ok (.getfield 10, 3) := by decide +kernel
theorem dX7_ofPlace_120 : decode cX7_ofPlace 120 = .ok (.iload_n 1, 1) := by decide +kernel
theorem dX7_ofPlace_121 : decode cX7_ofPlace 121 = .ok (.invokevirtual 94, 3) := by decide +kernel
theorem dX7_ofPlace_124 : decode cX7_ofPlace 124 = .ok (.ireturn, 1) := by decide +kernel
theorem dX7_village_0 : decode cX7_village 0 = .ok (.iload_n 1, 1) := by decide +kernel
theorem dX7_village_1 : decode cX7_village 1 = .ok (.invokestatic 54, 3) := by decide +kernel
theorem dX7_village_4 : decode cX7_village 4 = .ok (.ifCond .ne 9, 3) := by decide +kernel
theorem dX7_village_7 : decode cX7_village 7 = .ok (.aload_n 0, 1) := by decide +kernel
theorem dX7_village_8 : decode cX7_village 8 = .ok (.iconst 1, 1) := by decide +kernel
theorem dX7_village_9 : decode cX7_village 9 = .ok (.invokevirtual 62, 3) := by decide +kernel
theorem dX7_village_12 : decode cX7_village 12 = .ok (.ireturn, 1) := by decide +kernel
theorem dX7_village_13 : decode cX7_village 13 = .ok (.aload_n 0, 1) := by decide +kernel
theorem dX7_village_14 : decode cX7_village 14 = .ok (.getfield 10, 3) := by decide +kernel
theorem dX7_village_17 : decode cX7_village 17 = .ok (.getfield 97, 3) := by decide +kernel
theorem dX7_village_20 : decode cX7_village 20 = .ok (.iconst 5, 1) := by decide +kernel
theorem dX7_village_21 : decode cX7_village 21 = .ok (.if_icmp .lt 9, 3) := by decide +kernel
theorem dX7_village_24 : decode cX7_village 24 = .ok (.aload_n 0, 1) := by decide +kernel
theorem dX7_village_25 : decode cX7_village 25 = .ok (.iconst 4, 1) := by decide +kernel
theorem dX7_village_26 : decode cX7_village 26 = .ok (.invokevirtual 62, 3) := by decide +kernel
theorem dX7_village_29 : decode cX7_village 29 = .ok (.ireturn, 1) := by decide +kernel
theorem dX7_village_30 : decode cX7_village 30 = .ok (.aload_n 0, 1) := by decide +kernel
theorem dX7_village_31 : decode cX7_village 31 = .ok (.getfield 10, 3) := by decide +kernel
theorem dX7_village_34 : decode cX7_village 34 = .ok (.getfield 100, 3) := by decide +kernel
theorem dX7_village_37 : decode cX7_village 37 = .ok (.aload_n 0, 1) := by decide +kernel
theorem dX7_village_38 : decode cX7_village 38 = .ok (.getfield 10, 3) := by decide +kernel
theorem dX7_village_41 : decode cX7_village 41 = .ok (.getfield 97, 3) := by decide +kernel
theorem dX7_village_44 : decode cX7_village 44 = .ok (.iload_n 1, 1) := by decide +kernel
theorem dX7_village_45 : decode cX7_village 45 = .ok (.iastore, 1) := by decide +kernel
theorem dX7_village_46 : decode cX7_village 46 = .ok (.aload_n 0, 1) := by decide +kernel
theorem dX7_village_47 : decode cX7_village 47 = .ok (.getfield 10, 3) := by decide +kernel
theorem dX7_village_50 : decode cX7_village 50 = .ok (.dup, 1) := by decide +kernel
theorem dX7_village_51 : decode cX7_village 51 = .ok (.getfield 97, 3) := by decide +kernel
theorem dX7_village_54 : decode cX7_village 54 = .ok (.iconst 1, 1) := by decide +kernel
theorem dX7_village_55 : decode cX7_village 55 = .ok (.iadd, 1) := by decide +kernel
theorem dX7_village_56 : decode cX7_village 56 = .ok (.putfield 97, 3) := by decide +kernel
theorem dX7_village_59 : decode cX7_village 59 = .ok (.aload_n 0, 1) := by decide +kernel
theorem dX7_village_60 : decode cX7_village 60 = .ok (.getfield 10, 3) := by decide +kernel
theorem dX7_village_63 : decode cX7_village 63 = .ok (.getfield 97, 3) := by decide +kernel
theorem dX7_village_66 : decode cX7_village 66 = .ok (.iconst 1, 1) := by decide +kernel
theorem dX7_village_67 : decode cX7_village 67 = .ok (.isub, 1) := by decide +kernel
theorem dX7_village_68 : decode cX7_village 68 = .ok (.ireturn, 1) := by decide +kernel
theorem dX7_moves_0 : decode cX7_moves 0 = .ok (.aload_n 0, 1) := by decide +kernel
theorem dX7_moves_1 : decode cX7_moves 1 = .ok (.iload_n 1, 1) := by decide +kernel
theorem dX7_moves_2 : decode cX7_moves 2 = .ok (.invokevirtual 103, 3) := by decide +kernel
theorem dX7_moves_5 : decode cX7_moves 5 = .ok (.ifCond .eq 10, 3) := by decide +kernel
theorem dX7_moves_8 : decode cX7_moves 8 = .ok (.iload_n 2, 1) := by decide +kernel
theorem dX7_moves_9 : decode cX7_moves 9 = .ok (.invokestatic 54, 3) := by decide +kernel
theorem dX7_moves_12 : decode cX7_moves 12 = .ok (.ifCond .ne 9, 3) := by decide +kernel
theorem dX7_moves_15 : decode cX7_moves 15 = .ok (.aload_n 0, 1) := by decide +kernel
theorem dX7_moves_16 : decode cX7_moves 16 = .ok (.iconst 1, 1) := by decide +kernel
theorem dX7_moves_17 : decode cX7_moves 17 = .ok (.invokevirtual 62, 3) := by decide +kernel
theorem dX7_moves_20 : decode cX7_moves 20 = .ok (.ireturn, 1) := by decide +kernel
theorem dX7_moves_21 : decode cX7_moves 21 = .ok (.aload_n 0, 1) := by decide +kernel
theorem dX7_moves_22 : decode cX7_moves 22 = .ok (.getfield 10, 3) := by decide +kernel
theorem dX7_moves_25 : decode cX7_moves 25 = .ok (.getfield 100, 3) := by decide +kernel
theorem dX7_moves_28 : decode cX7_moves 28 = .ok (.iload_n 1, 1) := by decide +kernel
theorem dX7_moves_29 : decode cX7_moves 29 = .ok (.iaload, 1) := by decide +kernel
theorem dX7_moves_30 : decode cX7_moves 30 = .ok (.istore_n 3, 1) := by decide +kernel
theorem dX7_moves_31 : decode cX7_moves 31 = .ok (.aload_n 0, 1) := by decide +kernel
theorem dX7_moves_32 : decode cX7_moves 32 = .ok (.getfield 10, 3) := by decide +kernel
theorem dX7_moves_35 : decode cX7_moves 35 = .ok (.getfield 100, 3) := by decide +kernel
theorem dX7_moves_38 : decode cX7_moves 38 = .ok (.iload_n 1, 1) := by decide +kernel
theorem dX7_moves_39 : decode cX7_moves 39 = .ok (.iload_n 2, 1) := by decide +kernel
theorem dX7_moves_40 : decode cX7_moves 40 = .ok (.iastore, 1) := by decide +kernel
theorem dX7_moves_41 : decode cX7_moves 41 = .ok (.iload_n 3, 1) := by decide +kernel
theorem dX7_moves_42 : decode cX7_moves 42 = .ok (.ireturn, 1) := by decide +kernel
theorem dX7_at_0 : decode cX7_at 0 = .ok (.aload_n 0, 1) := by decide +kernel
theorem dX7_at_1 : decode cX7_at 1 = .ok (.iload_n 1, 1) := by decide +kernel
theorem dX7_at_2 : decode cX7_at 2 = .ok (.invokevirtual 103, 3) := by decide +kernel
theorem dX7_at_5 : decode cX7_at 5 = .ok (.ifCond .ne 9, 3) := by decide +kernel
theorem dX7_at_8 : decode cX7_at 8 = .ok (.aload_n 0, 1) := by decide +kernel
theorem dX7_at_9 : decode cX7_at 9 = .ok (.iconst 1, 1) := by decide +kernel
theorem dX7_at_10 : decode cX7_at 10 = .ok (.invokevirtual 62, 3) := by decide +kernel
theorem dX7_at_13 : decode cX7_at 13 = .ok (.ireturn, 1) := by decide +kernel
theorem dX7_at_14 : decode cX7_at 14 = .ok (.aload_n 0, 1) := by decide +kernel
theorem dX7_at_15 : decode cX7_at 15 = .ok (.getfield 10, 3) := by decide +kernel
theorem dX7_at_18 : decode cX7_at 18 = .ok (.getfield 100, 3) := by decide +kernel
theorem dX7_at_21 : decode cX7_at 21 = .ok (.iload_n 1, 1) := by decide +kernel
theorem dX7_at_22 : decode cX7_at 22 = .ok (.iaload, 1) := by decide +kernel
theorem dX7_at_23 : decode cX7_at 23 = .ok (.ireturn, 1) := by decide +kernel
theorem dX7_fill_0 : decode cX7_fill 0 = .ok (.iload_n 1, 1) := by decide +kernel
theorem dX7_fill_1 : decode cX7_fill 1 = .ok (.invokestatic 106, 3) := by decide +kernel
theorem dX7_fill_4 : decode cX7_fill 4 = .ok (.ifCond .eq 26, 3) := by decide +kernel
theorem dX7_fill_7 : decode cX7_fill 7 = .ok (.aload_n 0, 1) := by decide +kernel
theorem dX7_fill_8 : decode cX7_fill 8 = .ok (.iload_n 2, 1) := by decide +kernel
theorem dX7_fill_9 : decode cX7_fill 9 = .ok (.invokevirtual 103, 3) := by decide +kernel
theorem dX7_fill_12 : decode cX7_fill 12 = .ok (.ifCond .eq 18, 3) := by decide +kernel
theorem dX7_fill_15 : decode cX7_fill 15 = .ok (.iload_n 3, 1) := by decide +kernel
theorem dX7_fill_16 : decode cX7_fill 16 = .ok (.invokestatic 109, 3) := by decide +kernel
theorem dX7_fill_19 : decode cX7_fill 19 = .ok (.ifCond .eq 11, 3) := by decide +kernel
theorem dX7_fill_22 : decode cX7_fill 22 = .ok (.iload 4, 2) := by decide +kernel
theorem dX7_fill_24 : decode cX7_fill 24 = .ok (.invokestatic 112, 3) := by decide +kernel
theorem dX7_fill_27 : decode cX7_fill 27 = .ok (.ifCond .ne 9, 3) := by decide +kernel
theorem dX7_fill_30 : decode cX7_fill 30 = .ok (.aload_n 0, 1) := by decide +kernel
theorem dX7_fill_31 : decode cX7_fill 31 = .ok (.iconst 1, 1) := by decide +kernel
theorem dX7_fill_32 : decode cX7_fill 32 = .ok (.invokevirtual 62, 3) := by decide +kernel
theorem dX7_fill_35 : decode cX7_fill 35 = .ok (.ireturn, 1) := by decide +kernel
theorem dX7_fill_36 : decode cX7_fill 36 = .ok (.aload_n 0, 1) := by decide +kernel
theorem dX7_fill_37 : decode cX7_fill 37 = .ok (.getfield 10, 3) := by decide +kernel
theorem dX7_fill_40 : decode cX7_fill 40 = .ok (.getfield 100, 3) := by decide +kernel
theorem dX7_fill_43 : decode cX7_fill 43 = .ok (.iload_n 2, 1) := by decide +kernel
theorem dX7_fill_44 : decode cX7_fill 44 = .ok (.iaload, 1) := by decide +kernel
theorem dX7_fill_45 : decode cX7_fill 45 = .ok (.istore 5, 2) := by decide +kernel
theorem dX7_fill_47 : decode cX7_fill 47 = .ok (.aload_n 0, 1) := by decide +kernel
theorem dX7_fill_48 : decode cX7_fill 48 = .ok (.getfield 10, 3) := by decide +kernel
theorem dX7_fill_51 : decode cX7_fill 51 = .ok (.getfield 66, 3) := by decide +kernel
theorem dX7_fill_54 : decode cX7_fill 54 = .ok (.iload 5, 2) := by decide +kernel
theorem dX7_fill_56 : decode cX7_fill 56 = .ok (.iload_n 3, 1) := by decide +kernel
theorem dX7_fill_57 : decode cX7_fill 57 = .ok (.aload_n 0, 1) := by decide +kernel
theorem dX7_fill_58 : decode cX7_fill 58 = .ok (.getfield 10, 3) := by decide +kernel
theorem dX7_fill_61 : decode cX7_fill 61 = .ok (.getfield 66, 3) := by decide +kernel
theorem dX7_fill_64 : decode cX7_fill 64 = .ok (.iconst 0, 1) := by decide +kernel
theorem dX7_fill_65 : decode cX7_fill 65 = .ok (.invokevirtual 78, 3) := by decide +kernel
theorem dX7_fill_68 : decode cX7_fill 68 = .ok (.invokevirtual 81, 3) := by decide +kernel
theorem dX7_fill_71 : decode cX7_fill 71 = .ok (.istore 6, 2) := by decide +kernel
theorem dX7_fill_73 : decode cX7_fill 73 = .ok (.iload 4, 2) := by decide +kernel
theorem dX7_fill_75 : decode cX7_fill 75 = .ok (.iload 6, 2) := by decide +kernel
theorem dX7_fill_77 : decode cX7_fill 77 = .ok (.iconst (-1), 1) := by decide +kernel
theorem dX7_fill_78 : decode cX7_fill 78 = .ok (.ixor, 1) := by decide +kernel
theorem dX7_fill_79 : decode cX7_fill 79 = .ok (.iand, 1) := by decide +kernel
theorem dX7_fill_80 : decode cX7_fill 80 = .ok (.ifCond .eq 9, 3) := by decide +kernel
theorem dX7_fill_83 : decode cX7_fill 83 = .ok (.aload_n 0, 1) := by decide +kernel
theorem dX7_fill_84 : decode cX7_fill 84 = .ok (.iconst 3, 1) := by decide +kernel
theorem dX7_fill_85 : decode cX7_fill 85 = .ok (.invokevirtual 62, 3) := by decide +kernel
theorem dX7_fill_88 : decode cX7_fill 88 = .ok (.ireturn, 1) := by decide +kernel
theorem dX7_fill_89 : decode cX7_fill 89 = .ok (.aload_n 0, 1) := by decide +kernel
theorem dX7_fill_90 : decode cX7_fill 90 = .ok (.getfield 10, 3) := by decide +kernel
theorem dX7_fill_93 : decode cX7_fill 93 = .ok (.getfield 115, 3) := by decide +kernel
theorem dX7_fill_96 : decode cX7_fill 96 = .ok (.bipush 8, 2) := by decide +kernel
theorem dX7_fill_98 : decode cX7_fill 98 = .ok (.if_icmp .lt 9, 3) := by decide +kernel
theorem dX7_fill_101 : decode cX7_fill 101 = .ok (.aload_n 0, 1) := by decide +kernel
theorem dX7_fill_102 : decode cX7_fill 102 = .ok (.iconst 4, 1) := by decide +kernel
theorem dX7_fill_103 : decode cX7_fill 103 = .ok (.invokevirtual 62, 3) := by decide +kernel
theorem dX7_fill_106 : decode cX7_fill 106 = .ok (.ireturn, 1) := by decide +kernel
theorem dX7_fill_107 : decode cX7_fill 107 = .ok (.aload_n 0, 1) := by decide +kernel
theorem dX7_fill_108 : decode cX7_fill 108 = .ok (.iload 4, 2) := by decide +kernel
theorem dX7_fill_110 : decode cX7_fill 110 = .ok (.iload 5, 2) := by decide +kernel
theorem dX7_fill_112 : decode cX7_fill 112 = .ok (.invokevirtual 118, 3) := by decide +kernel
theorem dX7_fill_115 : decode cX7_fill 115 = .ok (.aload_n 0, 1) := by decide +kernel
theorem dX7_fill_116 : decode cX7_fill 116 = .ok (.getfield 10, 3) := by decide +kernel
theorem dX7_fill_119 : decode cX7_fill 119 = .ok (.getfield 122, 3) := by decide +kernel
theorem dX7_fill_122 : decode cX7_fill 122 = .ok (.aload_n 0, 1) := by decide +kernel
theorem dX7_fill_123 : decode cX7_fill 123 = .ok (.getfield 10, 3) := by decide +kernel
theorem dX7_fill_126 : decode cX7_fill 126 = .ok (.getfield 115, 3) := by decide +kernel
theorem dX7_fill_129 : decode cX7_fill 129 = .ok (.aaload, 1) := by decide +kernel
theorem dX7_fill_130 : decode cX7_fill 130 = .ok (.iload_n 1, 1) := by decide +kernel
theorem dX7_fill_131 : decode cX7_fill 131 = .ok (.iload 5, 2) := by decide +kernel
theorem dX7_fill_133 : decode cX7_fill 133 = .ok (.iload 4, 2) := by decide +kernel
theorem dX7_fill_135 : decode cX7_fill 135 = .ok (.invokevirtual 126, 3) := by decide +kernel
theorem dX7_fill_138 : decode cX7_fill 138 = .ok (.aload_n 0, 1) := by decide +kernel
theorem dX7_fill_139 : decode cX7_fill 139 = .ok (.getfield 10, 3) := by decide +kernel
theorem dX7_fill_142 : decode cX7_fill 142 = .ok (.dup, 1) := by decide +kernel
theorem dX7_fill_143 : decode cX7_fill 143 = .ok (.getfield 115, 3) := by decide +kernel
theorem dX7_fill_146 : decode cX7_fill 146 = .ok (.iconst 1, 1) := by decide +kernel
theorem dX7_fill_147 : decode cX7_fill 147 = .ok (.iadd, 1) := by decide +kernel
theorem dX7_fill_148 : decode cX7_fill 148 = .ok (.putfield 115, 3) := by decide +kernel
theorem dX7_fill_151 : decode cX7_fill 151 = .ok (.aload_n 0, 1) := by decide +kernel
theorem dX7_fill_152 : decode cX7_fill 152 = .ok (.getfield 10, 3) := by decide +kernel
theorem dX7_fill_155 : decode cX7_fill 155 = .ok (.getfield 115, 3) := by decide +kernel
theorem dX7_fill_158 : decode cX7_fill 158 = .ok (.iconst 1, 1) := by decide +kernel
theorem dX7_fill_159 : decode cX7_fill 159 = .ok (.isub, 1) := by decide +kernel
theorem dX7_fill_160 : decode cX7_fill 160 = .ok (.ireturn, 1) := by decide +kernel
theorem dX7_ofBottle_0 : decode cX7_ofBottle 0 = .ok (.aload_n 0, 1) := by decide +kernel
theorem dX7_ofBottle_1 : decode cX7_ofBottle 1 = .ok (.iload_n 1, 1) := by decide +kernel
theorem dX7_ofBottle_2 : decode cX7_ofBottle 2 = .ok (.invokevirtual 132, 3) := by decide +kernel
theorem dX7_ofBottle_5 : decode cX7_ofBottle 5 = .ok (.ifCond .eq 13, 3) := by decide +kernel
theorem dX7_ofBottle_8 : decode cX7_ofBottle 8 = .ok (.iload_n 2, 1) := by decide +kernel
theorem dX7_ofBottle_9 : decode cX7_ofBottle 9 = .ok (.iconst 0, 1) := by decide +kernel
theorem dX7_ofBottle_10 : decode cX7_ofBottle 10 = .ok (.bipush 8, 2) := by decide +kernel
theorem dX7_ofBottle_12 : decode cX7_ofBottle 12 = .ok (.invokestatic 58, 3) := by decide +kernel
theorem dX7_ofBottle_15 : decode cX7_ofBottle 15 = .ok (.ifCond .ne 9, 3) := by decide +kernel
theorem dX7_ofBottle_18 : decode cX7_ofBottle 18 = .ok (.aload_n 0, 1) := by decide +kernel
theorem dX7_ofBottle_19 : decode cX7_ofBottle 19 = .ok (.iconst 1, 1) := by decide +kernel
theorem dX7_ofBottle_20 : decode cX7_ofBottle 20 = .ok (.invokevirtual 62, 3) := by decide +kernel
theorem dX7_ofBottle_23 : decode cX7_ofBottle 23 = .ok (.ireturn, 1) := by decide +kernel
theorem dX7_ofBottle_24 : decode cX7_ofBottle 24 = .ok (.aload_n 0, 1) := by decide +kernel
theorem dX7_ofBottle_25 : decode cX7_ofBottle 25 = .ok (.getfield 10, 3) := by decide +kernel
theorem dX7_ofBottle_28 : decode cX7_ofBottle 28 = .ok (.getfield 122, 3) := by decide +kernel
theorem dX7_ofBottle_31 : decode cX7_ofBottle 31 = .ok (.iload_n 1, 1) := by decide +kernel
theorem dX7_ofBottle_32 : decode cX7_ofBottle 32 = .ok (.aaload, 1) := by decide +kernel
theorem dX7_ofBottle_33 : decode cX7_ofBottle 33 = .ok (.astore_n 3, 1) := by decide +kernel
theorem dX7_ofBottle_34 : decode cX7_ofBottle 34 = .ok (.iload_n 2, 1) := by decide +kernel
theorem dX7_ofBottle_35 : decode cX7_ofBottle 35 = .ok (.tableswitch 88 0 7 #[45, 50, 55, 60, 65, 70, 78, 83], 45) := by decide +kernel
theorem dX7_ofBottle_80 : decode cX7_ofBottle 80 = .ok (.aload_n 3, 1) := by decide +kernel
theorem dX7_ofBottle_81 : decode cX7_ofBottle 81 = .ok (.getfield 135, 3) := by decide +kernel
theorem dX7_ofBottle_84 : decode cX7_ofBottle 84 = .ok (.ireturn, 1) := by decide +kernel
theorem dX7_ofBottle_85 : decode cX7_ofBottle 85 = .ok (.aload_n 3, 1) := by decide +kernel
theorem dX7_ofBottle_86 : decode cX7_ofBottle 86 = .ok (.getfield 138, 3) := by decide +kernel
theorem dX7_ofBottle_89 : decode cX7_ofBottle 89 = .ok (.ireturn, 1) := by decide +kernel
theorem dX7_ofBottle_90 : decode cX7_ofBottle 90 = .ok (.aload_n 3, 1) := by decide +kernel
theorem dX7_ofBottle_91 : decode cX7_ofBottle 91 = .ok (.getfield 141, 3) := by decide +kernel
theorem dX7_ofBottle_94 : decode cX7_ofBottle 94 = .ok (.ireturn, 1) := by decide +kernel
theorem dX7_ofBottle_95 : decode cX7_ofBottle 95 = .ok (.aload_n 3, 1) := by decide +kernel
theorem dX7_ofBottle_96 : decode cX7_ofBottle 96 = .ok (.getfield 144, 3) := by decide +kernel
theorem dX7_ofBottle_99 : decode cX7_ofBottle 99 = .ok (.ireturn, 1) := by decide +kernel
theorem dX7_ofBottle_100 : decode cX7_ofBottle 100 = .ok (.aload_n 3, 1) := by decide +kernel
theorem dX7_ofBottle_101 : decode cX7_ofBottle 101 = .ok (.getfield 147, 3) := by decide +kernel
theorem dX7_ofBottle_104 : decode cX7_ofBottle 104 = .ok (.ireturn, 1) := by decide +kernel
theorem dX7_ofBottle_105 : decode cX7_ofBottle 105 = .ok (.aload_n 3, 1) := by decide +kernel
theorem dX7_ofBottle_106 : decode cX7_ofBottle 106 = .ok (.getfield 150, 3) := by decide +kernel
theorem dX7_ofBottle_109 : decode cX7_ofBottle 109 = .ok (.invokestatic 154, 3) := by decide +kernel
theorem dX7_ofBottle_112 : decode cX7_ofBottle 112 = .ok (.ireturn, 1) := by decide +kernel
theorem dX7_ofBottle_113 : decode cX7_ofBottle 113 = .ok (.aload_n 3, 1) := by decide +kernel
theorem dX7_ofBottle_114 : decode cX7_ofBottle 114 = .ok (.invokevirtual 158, 3) := by decide +kernel
theorem dX7_ofBottle_117 : decode cX7_ofBottle 117 = .ok (.ireturn, 1) := by decide +kernel
theorem dX7_ofBottle_118 : decode cX7_ofBottle 118 = .ok (.aload_n 3, 1) := by decide +kernel
theorem dX7_ofBottle_119 : decode cX7_ofBottle 119 = .ok (.invokevirtual 162, 3) := by decide +kernel
theorem dX7_ofBottle_122 : decode cX7_ofBottle 122 = .ok (.ireturn, 1) := by decide +kernel
theorem dX7_ofBottle_123 : decode cX7_ofBottle 123 = .ok (.aload_n 0, 1) := by decide +kernel
theorem dX7_ofBottle_124 : decode cX7_ofBottle 124 = .ok (.aload_n 3, 1) := by decide +kernel
theorem dX7_ofBottle_125 : decode cX7_ofBottle 125 = .ok (.invokevirtual 165, 3) := by decide +kernel
theorem dX7_ofBottle_128 : decode cX7_ofBottle 128 = .ok (.ireturn, 1) := by decide +kernel
theorem dX7_become_0 : decode cX7_become 0 = .ok (.aload_n 0, 1) := by decide +kernel
theorem dX7_become_1 : decode cX7_become 1 = .ok (.iload_n 1, 1) := by decide +kernel
theorem dX7_become_2 : decode cX7_become 2 = .ok (.invokevirtual 132, 3) := by decide +kernel
theorem dX7_become_5 : decode cX7_become 5 = .ok (.ifCond .eq 10, 3) := by decide +kernel
theorem dX7_become_8 : decode cX7_become 8 = .ok (.iload_n 2, 1) := by decide +kernel
theorem dX7_become_9 : decode cX7_become 9 = .ok (.invokestatic 106, 3) := by decide +kernel
theorem dX7_become_12 : decode cX7_become 12 = .ok (.ifCond .ne 9, 3) := by decide +kernel
theorem dX7_become_15 : decode cX7_become 15 = .ok (.aload_n 0, 1) := by decide +kernel
theorem dX7_become_16 : decode cX7_become 16 = .ok (.iconst 1, 1) := by decide +kernel
theorem dX7_become_17 : decode cX7_become 17 = .ok (.invokevirtual 62, 3) := by decide +kernel
theorem dX7_become_20 : decode cX7_become 20 = .ok (.ireturn, 1) := by decide +kernel
theorem dX7_become_21 : decode cX7_become 21 = .ok (.aload_n 0, 1) := by decide +kernel
theorem dX7_become_22 : decode cX7_become 22 = .ok (.getfield 10, 3) := by decide +kernel
theorem dX7_become_25 : decode cX7_become 25 = .ok (.getfield 122, 3) := by decide +kernel
theorem dX7_become_28 : decode cX7_become 28 = .ok (.iload_n 1, 1) := by decide +kernel
theorem dX7_become_29 : decode cX7_become 29 = .ok (.aaload, 1) := by decide +kernel
theorem dX7_become_30 : decode cX7_become 30 = .ok (.getfield 135, 3) := by decide +kernel
theorem dX7_become_33 : decode cX7_become 33 = .ok (.istore_n 3, 1) := by decide +kernel
theorem dX7_become_34 : decode cX7_become 34 = .ok (.aload_n 0, 1) := by decide +kernel
theorem dX7_become_35 : decode cX7_become 35 = .ok (.getfield 10, 3) := by decide +kernel
theorem dX7_become_38 : decode cX7_become 38 = .ok (.getfield 122, 3) := by decide +kernel
theorem dX7_become_41 : decode cX7_become 41 = .ok (.iload_n 1, 1) := by decide +kernel
theorem dX7_become_42 : decode cX7_become 42 = .ok (.aaload, 1) := by decide +kernel
theorem dX7_become_43 : decode cX7_become 43 = .ok (.iload_n 2, 1) := by decide +kernel
theorem dX7_become_44 : decode cX7_become 44 = .ok (.invokevirtual 169, 3) := by decide +kernel
theorem dX7_become_47 : decode cX7_become 47 = .ok (.iload_n 3, 1) := by decide +kernel
theorem dX7_become_48 : decode cX7_become 48 = .ok (.ireturn, 1) := by decide +kernel
theorem dX7_as_0 : decode cX7_as 0 = .ok (.aload_n 0, 1) := by decide +kernel
theorem dX7_as_1 : decode cX7_as 1 = .ok (.iload_n 1, 1) := by decide +kernel
theorem dX7_as_2 : decode cX7_as 2 = .ok (.invokevirtual 132, 3) := by decide +kernel
theorem dX7_as_5 : decode cX7_as 5 = .ok (.ifCond .eq 13, 3) := by decide +kernel
theorem dX7_as_8 : decode cX7_as 8 = .ok (.iload_n 2, 1) := by decide +kernel
theorem dX7_as_9 : decode cX7_as 9 = .ok (.iconst 0, 1) := by decide +kernel
theorem dX7_as_10 : decode cX7_as 10 = .ok (.bipush 6, 2) := by decide +kernel
theorem dX7_as_12 : decode cX7_as 12 = .ok (.invokestatic 58, 3) := by decide +kernel
theorem dX7_as_15 : decode cX7_as 15 = .ok (.ifCond .ne 9, 3) := by decide +kernel
theorem dX7_as_18 : decode cX7_as 18 = .ok (.aload_n 0, 1) := by decide +kernel
theorem dX7_as_19 : decode cX7_as 19 = .ok (.iconst 1, 1) := by decide +kernel
theorem dX7_as_20 : decode cX7_as 20 = .ok (.invokevirtual 62, 3) := by decide +kernel
theorem dX7_as_23 : decode cX7_as 23 = .ok (.ireturn, 1) := by decide +kernel
theorem dX7_as_24 : decode cX7_as 24 = .ok (.aload_n 0, 1) := by decide +kernel
theorem dX7_as_25 : decode cX7_as 25 = .ok (.getfield 10, 3) := by decide +kernel
theorem dX7_as_28 : decode cX7_as 28 = .ok (.getfield 122, 3) := by decide +kernel
theorem dX7_as_31 : decode cX7_as 31 = .ok (.iload_n 1, 1) := by decide +kernel
theorem dX7_as_32 : decode cX7_as 32 = .ok (.aaload, 1) := by decide +kernel
theorem dX7_as_33 : decode cX7_as 33 = .ok (.iload_n 2, 1) := by decide +kernel
theorem dX7_as_34 : decode cX7_as 34 = .ok (.invokevirtual 173, 3) := by decide +kernel
theorem dX7_as_37 : decode cX7_as 37 = .ok (.ifCond .ne 9, 3) := by decide +kernel
theorem dX7_as_40 : decode cX7_as 40 = .ok (.aload_n 0, 1) := by decide +kernel
theorem dX7_as_41 : decode cX7_as 41 = .ok (.iconst 5, 1) := by decide +kernel
theorem dX7_as_42 : decode cX7_as 42 = .ok (.invokevirtual 62, 3) := by decide +kernel
theorem dX7_as_45 : decode cX7_as 45 = .ok (.ireturn, 1) := by decide +kernel
theorem dX7_as_46 : decode cX7_as 46 = .ok (.aload_n 0, 1) := by decide +kernel
theorem dX7_as_47 : decode cX7_as 47 = .ok (.getfield 10, 3) := by decide +kernel
theorem dX7_as_50 : decode cX7_as 50 = .ok (.getfield 122, 3) := by decide +kernel
theorem dX7_as_53 : decode cX7_as 53 = .ok (.iload_n 1, 1) := by decide +kernel
theorem dX7_as_54 : decode cX7_as 54 = .ok (.aaload, 1) := by decide +kernel
theorem dX7_as_55 : decode cX7_as 55 = .ok (.getfield 138, 3) := by decide +kernel
theorem dX7_as_58 : decode cX7_as 58 = .ok (.ireturn, 1) := by decide +kernel
theorem dX7_open_0 : decode cX7_open 0 = .ok (.aload_n 0, 1) := by decide +kernel
theorem dX7_open_1 : decode cX7_open 1 = .ok (.iload_n 1, 1) := by decide +kernel
theorem dX7_open_2 : decode cX7_open 2 = .ok (.invokevirtual 132, 3) := by decide +kernel
theorem dX7_open_5 : decode cX7_open 5 = .ok (.ifCond .ne 9, 3) := by decide +kernel
theorem dX7_open_8 : decode cX7_open 8 = .ok (.aload_n 0, 1) := by decide +kernel
theorem dX7_open_9 : decode cX7_open 9 = .ok (.iconst 1, 1) := by decide +kernel
theorem dX7_open_10 : decode cX7_open 10 = .ok (.invokevirtual 62, 3) := by decide +kernel
theorem dX7_open_13 : decode cX7_open 13 = .ok (.ireturn, 1) := by decide +kernel
theorem dX7_open_14 : decode cX7_open 14 = .ok (.aload_n 0, 1) := by decide +kernel
theorem dX7_open_15 : decode cX7_open 15 = .ok (.getfield 10, 3) := by decide +kernel
theorem dX7_open_18 : decode cX7_open 18 = .ok (.getfield 122, 3) := by decide +kernel
theorem dX7_open_21 : decode cX7_open 21 = .ok (.iload_n 1, 1) := by decide +kernel
theorem dX7_open_22 : decode cX7_open 22 = .ok (.aaload, 1) := by decide +kernel
theorem dX7_open_23 : decode cX7_open 23 = .ok (.astore_n 2, 1) := by decide +kernel
theorem dX7_open_24 : decode cX7_open 24 = .ok (.aload_n 2, 1) := by decide +kernel
theorem dX7_open_25 : decode cX7_open 25 = .ok (.getfield 150, 3) := by decide +kernel
theorem dX7_open_28 : decode cX7_open 28 = .ok (.ifCond .eq 9, 3) := by decide +kernel
theorem dX7_open_31 : decode cX7_open 31 = .ok (.aload_n 0, 1) := by decide +kernel
theorem dX7_open_32 : decode cX7_open 32 = .ok (.iconst 3, 1) := by decide +kernel
theorem dX7_open_33 : decode cX7_open 33 = .ok (.invokevirtual 62, 3) := by decide +kernel
theorem dX7_open_36 : decode cX7_open 36 = .ok (.ireturn, 1) := by decide +kernel
theorem dX7_open_37 : decode cX7_open 37 = .ok (.aload_n 2, 1) := by decide +kernel
theorem dX7_open_38 : decode cX7_open 38 = .ok (.invokevirtual 158, 3) := by decide +kernel
theorem dX7_open_41 : decode cX7_open 41 = .ok (.aload_n 0, 1) := by decide +kernel
theorem dX7_open_42 : decode cX7_open 42 = .ok (.getfield 10, 3) := by decide +kernel
theorem dX7_open_45 : decode cX7_open 45 = .ok (.getfield 66, 3) := by decide +kernel
theorem dX7_open_48 : decode cX7_open 48 = .ok (.iconst 0, 1) := by decide +kernel
theorem dX7_open_49 : decode cX7_open 49 = .ok (.invokevirtual 78, 3) := by decide +kernel
theorem dX7_open_52 : decode cX7_open 52 = .ok (.iand, 1) := by decide +kernel
theorem dX7_open_53 : decode cX7_open 53 = .ok (.istore_n 3, 1) := by decide +kernel
theorem dX7_open_54 : decode cX7_open 54 = .ok (.aload_n 0, 1) := by decide +kernel
theorem dX7_open_55 : decode cX7_open 55 = .ok (.getfield 10, 3) := by decide +kernel
theorem dX7_open_58 : decode cX7_open 58 = .ok (.getfield 66, 3) := by decide +kernel
theorem dX7_open_61 : decode cX7_open 61 = .ok (.iload_n 3, 1) := by decide +kernel
theorem dX7_open_62 : decode cX7_open 62 = .ok (.invokevirtual 176, 3) := by decide +kernel
theorem dX7_open_65 : decode cX7_open 65 = .ok (.aload_n 2, 1) := by decide +kernel
theorem dX7_open_66 : decode cX7_open 66 = .ok (.iconst 0, 1) := by decide +kernel
theorem dX7_open_67 : decode cX7_open 67 = .ok (.putfield 144, 3) := by decide +kernel
theorem dX7_open_70 : decode cX7_open 70 = .ok (.aload_n 2, 1) := by decide +kernel
theorem dX7_open_71 : decode cX7_open 71 = .ok (.iconst 1, 1) := by decide +kernel
theorem dX7_open_72 : decode cX7_open 72 = .ok (.putfield 150, 3) := by decide +kernel
theorem dX7_open_75 : decode cX7_open 75 = .ok (.iload_n 3, 1) := by decide +kernel
theorem dX7_open_76 : decode cX7_open 76 = .ok (.invokestatic 89, 3) := by decide +kernel
theorem dX7_open_79 : decode cX7_open 79 = .ok (.ireturn, 1) := by decide +kernel
theorem dX7_feed_0 : decode cX7_feed 0 = .ok (.iload_n 3, 1) := by decide +kernel
theorem dX7_feed_1 : decode cX7_feed 1 = .ok (.iconst 1, 1) := by decide +kernel
theorem dX7_feed_2 : decode cX7_feed 2 = .ok (.bipush 8, 2) := by decide +kernel
theorem dX7_feed_4 : decode cX7_feed 4 = .ok (.invokestatic 58, 3) := by decide +kernel
theorem dX7_feed_7 : decode cX7_feed 7 = .ok (.ifCond .ne 9, 3) := by decide +kernel
theorem dX7_feed_10 : decode cX7_feed 10 = .ok (.aload_n 0, 1) := by decide +kernel
theorem dX7_feed_11 : decode cX7_feed 11 = .ok (.iconst 1, 1) := by decide +kernel
theorem dX7_feed_12 : decode cX7_feed 12 = .ok (.invokevirtual 62, 3) := by decide +kernel
theorem dX7_feed_15 : decode cX7_feed 15 = .ok (.ireturn, 1) := by decide +kernel
theorem dX7_feed_16 : decode cX7_feed 16 = .ok (.aload_n 0, 1) := by decide +kernel
theorem dX7_feed_17 : decode cX7_feed 17 = .ok (.getfield 10, 3) := by decide +kernel
theorem dX7_feed_20 : decode cX7_feed 20 = .ok (.getfield 179, 3) := by decide +kernel
theorem dX7_feed_23 : decode cX7_feed 23 = .ok (.getfield 183, 3) := by decide +kernel
theorem dX7_feed_26 : decode cX7_feed 26 = .ok (.iload_n 3, 1) := by decide +kernel
theorem dX7_feed_27 : decode cX7_feed 27 = .ok (.iadd, 1) := by decide +kernel
theorem dX7_feed_28 : decode cX7_feed 28 = .ok (.bipush 50, 2) := by decide +kernel
theorem dX7_feed_30 : decode cX7_feed 30 = .ok (.if_icmp .le 9, 3) := by decide +kernel
theorem dX7_feed_33 : decode cX7_feed 33 = .ok (.aload_n 0, 1) := by decide +kernel
theorem dX7_feed_34 : decode cX7_feed 34 = .ok (.iconst 4, 1) := by decide +kernel
theorem dX7_feed_35 : decode cX7_feed 35 = .ok (.invokevirtual 62, 3) := by decide +kernel
theorem dX7_feed_38 : decode cX7_feed 38 = .ok (.ireturn, 1) := by decide +kernel
theorem dX7_feed_39 : decode cX7_feed 39 = .ok (.iconst 0, 1) := by decide +kernel
theorem dX7_feed_40 : decode cX7_feed 40 = .ok (.istore 4, 2) := by decide +kernel
theorem dX7_feed_42 : decode cX7_feed 42 = .ok (.iload 4, 2) := by decide +kernel
theorem dX7_feed_44 : decode cX7_feed 44 = .ok (.iload_n 3, 1) := by decide +kernel
theorem dX7_feed_45 : decode cX7_feed 45 = .ok (.if_icmp .ge 31, 3) := by decide +kernel
theorem dX7_feed_48 : decode cX7_feed 48 = .ok (.aload_n 0, 1) := by decide +kernel
theorem dX7_feed_49 : decode cX7_feed 49 = .ok (.getfield 10, 3) := by decide +kernel
theorem dX7_feed_52 : decode cX7_feed 52 = .ok (.getfield 179, 3) := by decide +kernel
theorem dX7_feed_55 : decode cX7_feed 55 = .ok (.lload_n 1, 1) := by decide +kernel
theorem dX7_feed_56 : decode cX7_feed 56 = .ok (.bipush 8, 2) := by decide +kernel
theorem dX7_feed_58 : decode cX7_feed 58 = .ok (.iload 4, 2) := by decide +kernel
theorem dX7_feed_60 : decode cX7_feed 60 = .ok (.imul, 1) := by decide +kernel
theorem dX7_feed_61 : decode cX7_feed 61 = .ok (.lushr, 1) := by decide +kernel
theorem dX7_feed_62 : decode cX7_feed 62 = .ok (.l2i, 1) := by decide +kernel
theorem dX7_feed_63 : decode cX7_feed 63 = .ok (.sipush 255, 3) := by decide +kernel
theorem dX7_feed_66 : decode cX7_feed 66 = .ok (.iand, 1) := by decide +kernel
theorem dX7_feed_67 : decode cX7_feed 67 = .ok (.invokevirtual 188, 3) := by decide +kernel
theorem dX7_feed_70 : decode cX7_feed 70 = .ok (.iinc 4 1, 3) := by decide +kernel
theorem dX7_feed_73 : decode cX7_feed 73 = .ok (.goto (-31), 3) := by decide +kernel
theorem dX7_feed_76 : decode cX7_feed 76 = .ok (.aload_n 0, 1) := by decide +kernel
theorem dX7_feed_77 : decode cX7_feed 77 = .ok (.getfield 10, 3) := by decide +kernel
theorem dX7_feed_80 : decode cX7_feed 80 = .ok (.getfield 179, 3) := by decide +kernel
theorem dX7_feed_83 : decode cX7_feed 83 = .ok (.getfield 183, 3) := by decide +kernel
theorem dX7_feed_86 : decode cX7_feed 86 = .ok (.ireturn, 1) := by decide +kernel
theorem dX7_text_0 : decode cX7_text 0 = .ok (.iload_n 1, 1) := by decide +kernel
theorem dX7_text_1 : decode cX7_text 1 = .ok (.invokestatic 191, 3) := by decide +kernel
theorem dX7_text_4 : decode cX7_text 4 = .ok (.ifCond .ne 9, 3) := by decide +kernel
theorem dX7_text_7 : decode cX7_text 7 = .ok (.aload_n 0, 1) := by decide +kernel
theorem dX7_text_8 : decode cX7_text 8 = .ok (.iconst 1, 1) := by decide +kernel
theorem dX7_text_9 : decode cX7_text 9 = .ok (.invokevirtual 62, 3) := by decide +kernel
theorem dX7_text_12 : decode cX7_text 12 = .ok (.ireturn, 1) := by decide +kernel
theorem dX7_text_13 : decode cX7_text 13 = .ok (.aload_n 0, 1) := by decide +kernel
theorem dX7_text_14 : decode cX7_text 14 = .ok (.getfield 26, 3) := by decide +kernel
theorem dX7_text_17 : decode cX7_text 17 = .ok (.aload_n 0, 1) := by decide +kernel
theorem dX7_text_18 : decode cX7_text 18 = .ok (.getfield 10, 3) := by decide +kernel
theorem dX7_text_21 : decode cX7_text 21 = .ok (.getfield 179, 3) := by decide +kernel
theorem dX7_text_24 : decode cX7_text 24 = .ok (.iload_n 1, 1) := by decide +kernel
theorem dX7_text_25 : decode cX7_text 25 = .ok (.invokevirtual 194, 3) := by decide +kernel
theorem dX7_text_28 : decode cX7_text 28 = .ok (.istore_n 2, 1) := by decide +kernel
theorem dX7_text_29 : decode cX7_text 29 = .ok (.iload_n 2, 1) := by decide +kernel
theorem dX7_text_30 : decode cX7_text 30 = .ok (.ifCond .ge 21, 3) := by decide +kernel
theorem dX7_text_33 : decode cX7_text 33 = .ok (.aload_n 0, 1) := by decide +kernel
theorem dX7_text_34 : decode cX7_text 34 = .ok (.getfield 10, 3) := by decide +kernel
theorem dX7_text_37 : decode cX7_text 37 = .ok (.iload_n 1, 1) := by decide +kernel
theorem dX7_text_38 : decode cX7_text 38 = .ok (.invokevirtual 198, 3) := by decide +kernel
theorem dX7_text_41 : decode cX7_text 41 = .ok (.aload_n 0, 1) := by decide +kernel
theorem dX7_text_42 : decode cX7_text 42 = .ok (.getfield 10, 3) := by decide +kernel
theorem dX7_text_45 : decode cX7_text 45 = .ok (.getfield 179, 3) := by decide +kernel
theorem dX7_text_48 : decode cX7_text 48 = .ok (.invokevirtual 202, 3) := by decide +kernel
theorem dX7_text_51 : decode cX7_text 51 = .ok (.aload_n 0, 1) := by decide +kernel
theorem dX7_text_52 : decode cX7_text 52 = .ok (.getfield 10, 3) := by decide +kernel
theorem dX7_text_55 : decode cX7_text 55 = .ok (.getfield 179, 3) := by decide +kernel
theorem dX7_text_58 : decode cX7_text 58 = .ok (.iconst 0, 1) := by decide +kernel
theorem dX7_text_59 : decode cX7_text 59 = .ok (.putfield 183, 3) := by decide +kernel
theorem dX7_text_62 : decode cX7_text 62 = .ok (.iload_n 2, 1) := by decide +kernel
theorem dX7_text_63 : decode cX7_text 63 = .ok (.ifCond .ge 7, 3) := by decide +kernel
theorem dX7_text_66 : decode cX7_text 66 = .ok (.iconst 1, 1) := by decide +kernel
theorem dX7_text_67 : decode cX7_text 67 = .ok (.goto 7, 3) := by decide +kernel
theorem dX7_text_70 : decode cX7_text 70 = .ok (.bipush (-10), 2) := by decide +kernel
theorem dX7_text_72 : decode cX7_text 72 = .ok (.iload_n 2, 1) := by decide +kernel
theorem dX7_text_73 : decode cX7_text 73 = .ok (.isub, 1) := by decide +kernel
theorem dX7_text_74 : decode cX7_text 74 = .ok (.ireturn, 1) := by decide +kernel
theorem dX7_law_0 : decode cX7_law 0 = .ok (.iload_n 1, 1) := by decide +kernel
theorem dX7_law_1 : decode cX7_law 1 = .ok (.invokestatic 191, 3) := by decide +kernel
theorem dX7_law_4 : decode cX7_law 4 = .ok (.ifCond .ne 9, 3) := by decide +kernel
theorem dX7_law_7 : decode cX7_law 7 = .ok (.aload_n 0, 1) := by decide +kernel
theorem dX7_law_8 : decode cX7_law 8 = .ok (.iconst 1, 1) := by decide +kernel
theorem dX7_law_9 : decode cX7_law 9 = .ok (.invokevirtual 62, 3) := by decide +kernel
theorem dX7_law_12 : decode cX7_law 12 = .ok (.ireturn, 1) := by decide +kernel
theorem dX7_law_13 : decode cX7_law 13 = .ok (.aload_n 0, 1) := by decide +kernel
theorem dX7_law_14 : decode cX7_law 14 = .ok (.iload_n 1, 1) := by decide +kernel
theorem dX7_law_15 : decode cX7_law 15 = .ok (.iload_n 2, 1) := by decide +kernel
theorem dX7_law_16 : decode cX7_law 16 = .ok (.iload_n 3, 1) := by decide +kernel
theorem dX7_law_17 : decode cX7_law 17 = .ok (.iload 4, 2) := by decide +kernel
theorem dX7_law_19 : decode cX7_law 19 = .ok (.invokevirtual 206, 3) := by decide +kernel
theorem dX7_law_22 : decode cX7_law 22 = .ok (.ireturn, 1) := by decide +kernel
theorem dX7_days_0 : decode cX7_days 0 = .ok (.iload_n 1, 1) := by decide +kernel
theorem dX7_days_1 : decode cX7_days 1 = .ok (.iconst 1, 1) := by decide +kernel
theorem dX7_days_2 : decode cX7_days 2 = .ok (.bipush 100, 2) := by decide +kernel
theorem dX7_days_4 : decode cX7_days 4 = .ok (.invokestatic 58, 3) := by decide +kernel
theorem dX7_days_7 : decode cX7_days 7 = .ok (.ifCond .ne 9, 3) := by decide +kernel
theorem dX7_days_10 : decode cX7_days 10 = .ok (.aload_n 0, 1) := by decide +kernel
theorem dX7_days_11 : decode cX7_days 11 = .ok (.iconst 1, 1) := by decide +kernel
theorem dX7_days_12 : decode cX7_days 12 = .ok (.invokevirtual 62, 3) := by decide +kernel
theorem dX7_days_15 : decode cX7_days 15 = .ok (.ireturn, 1) := by decide +kernel
theorem dX7_days_16 : decode cX7_days 16 = .ok (.aload_n 0, 1) := by decide +kernel
theorem dX7_days_17 : decode cX7_days 17 = .ok (.getfield 10, 3) := by decide +kernel
theorem dX7_days_20 : decode cX7_days 20 = .ok (.getfield 210, 3) := by decide +kernel
theorem dX7_days_23 : decode cX7_days 23 = .ok (.iload_n 1, 1) := by decide +kernel
theorem dX7_days_24 : decode cX7_days 24 = .ok (.iadd, 1) := by decide +kernel
theorem dX7_days_25 : decode cX7_days 25 = .ok (.sipush 9999, 3) := by decide +kernel
theorem dX7_days_28 : decode cX7_days 28 = .ok (.if_icmp .le 9, 3) := by decide +kernel
theorem dX7_days_31 : decode cX7_days 31 = .ok (.aload_n 0, 1) := by decide +kernel
theorem dX7_days_32 : decode cX7_days 32 = .ok (.iconst 3, 1) := by decide +kernel
theorem dX7_days_33 : decode cX7_days 33 = .ok (.invokevirtual 62, 3) := by decide +kernel
theorem dX7_days_36 : decode cX7_days 36 = .ok (.ireturn, 1) := by decide +kernel
theorem dX7_days_37 : decode cX7_days 37 = .ok (.iconst 0, 1) := by decide +kernel
theorem dX7_days_38 : decode cX7_days 38 = .ok (.istore_n 2, 1) := by decide +kernel
theorem dX7_days_39 : decode cX7_days 39 = .ok (.iload_n 2, 1) := by decide +kernel
theorem dX7_days_40 : decode cX7_days 40 = .ok (.iload_n 1, 1) := by decide +kernel
theorem dX7_days_41 : decode cX7_days 41 = .ok (.if_icmp .ge 16, 3) := by decide +kernel
theorem dX7_days_44 : decode cX7_days 44 = .ok (.aload_n 0, 1) := by decide +kernel
theorem dX7_days_45 : decode cX7_days 45 = .ok (.getfield 10, 3) := by decide +kernel
theorem dX7_days_48 : decode cX7_days 48 = .ok (.invokevirtual 213, 3) := by decide +kernel
theorem dX7_days_51 : decode cX7_days 51 = .ok (.iinc 2 1, 3) := by decide +kernel
theorem dX7_days_54 : decode cX7_days 54 = .ok (.goto (-15), 3) := by decide +kernel
theorem dX7_days_57 : decode cX7_days 57 = .ok (.aload_n 0, 1) := by decide +kernel
theorem dX7_days_58 : decode cX7_days 58 = .ok (.iconst 0, 1) := by decide +kernel
theorem dX7_days_59 : decode cX7_days 59 = .ok (.invokevirtual 216, 3) := by decide +kernel
theorem dX7_days_62 : decode cX7_days 62 = .ok (.ireturn, 1) := by decide +kernel
theorem dX7_loose_0 : decode cX7_loose 0 = .ok (.iload_n 1, 1) := by decide +kernel
theorem dX7_loose_1 : decode cX7_loose 1 = .ok (.iconst 1, 1) := by decide +kernel
theorem dX7_loose_2 : decode cX7_loose 2 = .ok (.bipush 40, 2) := by decide +kernel
theorem dX7_loose_4 : decode cX7_loose 4 = .ok (.invokestatic 58, 3) := by decide +kernel
theorem dX7_loose_7 : decode cX7_loose 7 = .ok (.ifCond .ne 9, 3) := by decide +kernel
theorem dX7_loose_10 : decode cX7_loose 10 = .ok (.aload_n 0, 1) := by decide +kernel
theorem dX7_loose_11 : decode cX7_loose 11 = .ok (.iconst 1, 1) := by decide +kernel
theorem dX7_loose_12 : decode cX7_loose 12 = .ok (.invokevirtual 62, 3) := by decide +kernel
theorem dX7_loose_15 : decode cX7_loose 15 = .ok (.ireturn, 1) := by decide +kernel
theorem dX7_loose_16 : decode cX7_loose 16 = .ok (.aload_n 0, 1) := by decide +kernel
theorem dX7_loose_17 : decode cX7_loose 17 = .ok (.getfield 10, 3) := by decide +kernel
theorem dX7_loose_20 : decode cX7_loose 20 = .ok (.getfield 210, 3) := by decide +kernel
theorem dX7_loose_23 : decode cX7_loose 23 = .ok (.iload_n 1, 1) := by decide +kernel
theorem dX7_loose_24 : decode cX7_loose 24 = .ok (.iadd, 1) := by decide +kernel
theorem dX7_loose_25 : decode cX7_loose 25 = .ok (.sipush 9999, 3) := by decide +kernel
theorem dX7_loose_28 : decode cX7_loose 28 = .ok (.if_icmp .le 9, 3) := by decide +kernel
theorem dX7_loose_31 : decode cX7_loose 31 = .ok (.aload_n 0, 1) := by decide +kernel
theorem dX7_loose_32 : decode cX7_loose 32 = .ok (.iconst 3, 1) := by decide +kernel
theorem dX7_loose_33 : decode cX7_loose 33 = .ok (.invokevirtual 62, 3) := by decide +kernel
theorem dX7_loose_36 : decode cX7_loose 36 = .ok (.ireturn, 1) := by decide +kernel
theorem dX7_loose_37 : decode cX7_loose 37 = .ok (.iconst 0, 1) := by decide +kernel
theorem dX7_loose_38 : decode cX7_loose 38 = .ok (.istore_n 2, 1) := by decide +kernel
theorem dX7_loose_39 : decode cX7_loose 39 = .ok (.iload_n 2, 1) := by decide +kernel
theorem dX7_loose_40 : decode cX7_loose 40 = .ok (.iload_n 1, 1) := by decide +kernel
theorem dX7_loose_41 : decode cX7_loose 41 = .ok (.if_icmp .ge 16, 3) := by decide +kernel
theorem dX7_loose_44 : decode cX7_loose 44 = .ok (.aload_n 0, 1) := by decide +kernel
theorem dX7_loose_45 : decode cX7_loose 45 = .ok (.getfield 10, 3) := by decide +kernel
theorem dX7_loose_48 : decode cX7_loose 48 = .ok (.invokevirtual 219, 3) := by decide +kernel
theorem dX7_loose_51 : decode cX7_loose 51 = .ok (.iinc 2 1, 3) := by decide +kernel
theorem dX7_loose_54 : decode cX7_loose 54 = .ok (.goto (-15), 3) := by decide +kernel
theorem dX7_loose_57 : decode cX7_loose 57 = .ok (.aload_n 0, 1) := by decide +kernel
theorem dX7_loose_58 : decode cX7_loose 58 = .ok (.iconst 0, 1) := by decide +kernel
theorem dX7_loose_59 : decode cX7_loose 59 = .ok (.invokevirtual 216, 3) := by decide +kernel
theorem dX7_loose_62 : decode cX7_loose 62 = .ok (.ireturn, 1) := by decide +kernel
theorem dX7_view_0 : decode cX7_view 0 = .ok (.aload_n 0, 1) := by decide +kernel
theorem dX7_view_1 : decode cX7_view 1 = .ok (.iload_n 1, 1) := by decide +kernel
theorem dX7_view_2 : decode cX7_view 2 = .ok (.invokevirtual 103, 3) := by decide +kernel
theorem dX7_view_5 : decode cX7_view 5 = .ok (.ifCond .eq 20, 3) := by decide +kernel
theorem dX7_view_8 : decode cX7_view 8 = .ok (.iload_n 2, 1) := by decide +kernel
theorem dX7_view_9 : decode cX7_view 9 = .ok (.invokestatic 109, 3) := by decide +kernel
theorem dX7_view_12 : decode cX7_view 12 = .ok (.ifCond .eq 13, 3) := by decide +kernel
theorem dX7_view_15 : decode cX7_view 15 = .ok (.iload_n 3, 1) := by decide +kernel
theorem dX7_view_16 : decode cX7_view 16 = .ok (.iconst 0, 1) := by decide +kernel
theorem dX7_view_17 : decode cX7_view 17 = .ok (.bipush 100, 2) := by decide +kernel
theorem dX7_view_19 : decode cX7_view 19 = .ok (.invokestatic 58, 3) := by decide +kernel
theorem dX7_view_22 : decode cX7_view 22 = .ok (.ifCond .ne 9, 3) := by decide +kernel
theorem dX7_view_25 : decode cX7_view 25 = .ok (.aload_n 0, 1) := by decide +kernel
theorem dX7_view_26 : decode cX7_view 26 = .ok (.iconst 1, 1) := by decide +kernel
theorem dX7_view_27 : decode cX7_view 27 = .ok (.invokevirtual 62, 3) := by decide +kernel
theorem dX7_view_30 : decode cX7_view 30 = .ok (.ireturn, 1) := by decide +kernel
theorem dX7_view_31 : decode cX7_view 31 = .ok (.aload_n 0, 1) := by decide +kernel
theorem dX7_view_32 : decode cX7_view 32 = .ok (.getfield 10, 3) := by decide +kernel
theorem dX7_view_35 : decode cX7_view 35 = .ok (.getfield 66, 3) := by decide +kernel
theorem dX7_view_38 : decode cX7_view 38 = .ok (.aload_n 0, 1) := by decide +kernel
theorem dX7_view_39 : decode cX7_view 39 = .ok (.getfield 10, 3) := by decide +kernel
theorem dX7_view_42 : decode cX7_view 42 = .ok (.getfield 100, 3) := by decide +kernel
theorem dX7_view_45 : decode cX7_view 45 = .ok (.iload_n 1, 1) := by decide +kernel
theorem dX7_view_46 : decode cX7_view 46 = .ok (.iaload, 1) := by decide +kernel
theorem dX7_view_47 : decode cX7_view 47 = .ok (.iload_n 2, 1) := by decide +kernel
theorem dX7_view_48 : decode cX7_view 48 = .ok (.aload_n 0, 1) := by decide +kernel
theorem dX7_view_49 : decode cX7_view 49 = .ok (.getfield 10, 3) := by decide +kernel
theorem dX7_view_52 : decode cX7_view 52 = .ok (.getfield 66, 3) := by decide +kernel
theorem dX7_view_55 : decode cX7_view 55 = .ok (.iload_n 3, 1) := by decide +kernel
theorem dX7_view_56 : decode cX7_view 56 = .ok (.invokevirtual 78, 3) := by decide +kernel
theorem dX7_view_59 : decode cX7_view 59 = .ok (.invokevirtual 81, 3) := by decide +kernel
theorem dX7_view_62 : decode cX7_view 62 = .ok (.ireturn, 1) := by decide +kernel
theorem dX7_again_0 : decode cX7_again 0 = .ok (.aload_n 0, 1) := by decide +kernel
theorem dX7_again_1 : decode cX7_again 1 = .ok (.iload_n 1, 1) := by decide +kernel
theorem dX7_again_2 : decode cX7_again 2 = .ok (.invokevirtual 103, 3) := by decide +kernel
theorem dX7_again_5 : decode cX7_again 5 = .ok (.ifCond .eq 23, 3) := by decide +kernel
theorem dX7_again_8 : decode cX7_again 8 = .ok (.iload_n 2, 1) := by decide +kernel
theorem dX7_again_9 : decode cX7_again 9 = .ok (.invokestatic 54, 3) := by decide +kernel
theorem dX7_again_12 : decode cX7_again 12 = .ok (.ifCond .eq 16, 3) := by decide +kernel
theorem dX7_again_15 : decode cX7_again 15 = .ok (.aload_n 0, 1) := by decide +kernel
theorem dX7_again_16 : decode cX7_again 16 = .ok (.getfield 10, 3) := by decide +kernel
theorem dX7_again_19 : decode cX7_again 19 = .ok (.getfield 100, 3) := by decide +kernel
theorem dX7_again_22 : decode cX7_again 22 = .ok (.iload_n 1, 1) := by decide +kernel
theorem dX7_again_23 : decode cX7_again 23 = .ok (.iaload, 1) := by decide +kernel
theorem dX7_again_24 : decode cX7_again 24 = .ok (.iload_n 2, 1) := by decide +kernel
theorem dX7_again_25 : decode cX7_again 25 = .ok (.if_icmp .ne 9, 3) := by decide +kernel
theorem dX7_again_28 : decode cX7_again 28 = .ok (.aload_n 0, 1) := by decide +kernel
theorem dX7_again_29 : decode cX7_again 29 = .ok (.iconst 1, 1) := by decide +kernel
theorem dX7_again_30 : decode cX7_again 30 = .ok (.invokevirtual 62, 3) := by decide +kernel
theorem dX7_again_33 : decode cX7_again 33 = .ok (.ireturn, 1) := by decide +kernel
theorem dX7_again_34 : decode cX7_again 34 = .ok (.iconst 0, 1) := by decide +kernel
theorem dX7_again_35 : decode cX7_again 35 = .ok (.istore_n 3, 1) := by decide +kernel
theorem dX7_again_36 : decode cX7_again 36 = .ok (.iload_n 3, 1) := by decide +kernel
theorem dX7_again_37 : decode cX7_again 37 = .ok (.bipush 100, 2) := by decide +kernel
theorem dX7_again_39 : decode cX7_again 39 = .ok (.if_icmp .gt 46, 3) := by decide +kernel
theorem dX7_again_42 : decode cX7_again 42 = .ok (.aload_n 0, 1) := by decide +kernel
theorem dX7_again_43 : decode cX7_again 43 = .ok (.getfield 10, 3) := by decide +kernel
theorem dX7_again_46 : decode cX7_again 46 = .ok (.getfield 66, 3) := by decide +kernel
theorem dX7_again_49 : decode cX7_again 49 = .ok (.aload_n 0, 1) := by decide +kernel
theorem dX7_again_50 : decode cX7_again 50 = .ok (.getfield 10, 3) := by decide +kernel
theorem dX7_again_53 : decode cX7_again 53 = .ok (.getfield 100, 3) := by decide +kernel
theorem dX7_again_56 : decode cX7_again 56 = .ok (.iload_n 1, 1) := by decide +kernel
theorem dX7_again_57 : decode cX7_again 57 = .ok (.iaload, 1) := by decide +kernel
theorem dX7_again_58 : decode cX7_again 58 = .ok (.iload_n 2, 1) := by decide +kernel
theorem dX7_again_59 : decode cX7_again 59 = .ok (.iconst 0, 1) := by decide +kernel
theorem dX7_again_60 : decode cX7_again 60 = .ok (.aload_n 0, 1) := by decide +kernel
theorem dX7_again_61 : decode cX7_again 61 = .ok (.getfield 10, 3) := by decide +kernel
theorem dX7_again_64 : decode cX7_again 64 = .ok (.getfield 66, 3) := by decide +kernel
theorem dX7_again_67 : decode cX7_again 67 = .ok (.iload_n 3, 1) := by decide +kernel
theorem dX7_again_68 : decode cX7_again 68 = .ok (.invokevirtual 78, 3) := by decide +kernel
theorem dX7_again_71 : decode cX7_again 71 = .ok (.invokevirtual 222, 3) := by decide +kernel
theorem dX7_again_74 : decode cX7_again 74 = .ok (.ifCond .eq 5, 3) := by decide +kernel
theorem dX7_again_77 : decode cX7_again 77 = .ok (.iload_n 3, 1) := by decide +kernel
theorem dX7_again_78 : decode cX7_again 78 = .ok (.ireturn, 1) := by decide +kernel
theorem dX7_again_79 : decode cX7_again 79 = .ok (.iinc 3 1, 3) := by decide +kernel
theorem dX7_again_82 : decode cX7_again 82 = .ok (.goto (-46), 3) := by decide +kernel
theorem dX7_again_85 : decode cX7_again 85 = .ok (.aload_n 0, 1) := by decide +kernel
theorem dX7_again_86 : decode cX7_again 86 = .ok (.iconst 2, 1) := by decide +kernel
theorem dX7_again_87 : decode cX7_again 87 = .ok (.invokevirtual 62, 3) := by decide +kernel
theorem dX7_again_90 : decode cX7_again 90 = .ok (.ireturn, 1) := by decide +kernel
theorem dX7_best_0 : decode cX7_best 0 = .ok (.iload_n 1, 1) := by decide +kernel
theorem dX7_best_1 : decode cX7_best 1 = .ok (.iconst 0, 1) := by decide +kernel
theorem dX7_best_2 : decode cX7_best 2 = .ok (.iconst 1, 1) := by decide +kernel
theorem dX7_best_3 : decode cX7_best 3 = .ok (.invokestatic 58, 3) := by decide +kernel
theorem dX7_best_6 : decode cX7_best 6 = .ok (.ifCond .ne 9, 3) := by decide +kernel
theorem dX7_best_9 : decode cX7_best 9 = .ok (.aload_n 0, 1) := by decide +kernel
theorem dX7_best_10 : decode cX7_best 10 = .ok (.iconst 1, 1) := by decide +kernel
theorem dX7_best_11 : decode cX7_best 11 = .ok (.invokevirtual 62, 3) := by decide +kernel
theorem dX7_best_14 : decode cX7_best 14 = .ok (.ireturn, 1) := by decide +kernel
theorem dX7_best_15 : decode cX7_best 15 = .ok (.aload_n 0, 1) := by decide +kernel
theorem dX7_best_16 : decode cX7_best 16 = .ok (.getfield 10, 3) := by decide +kernel
theorem dX7_best_19 : decode cX7_best 19 = .ok (.getfield 66, 3) := by decide +kernel
theorem dX7_best_22 : decode cX7_best 22 = .ok (.iconst 0, 1) := by decide +kernel
theorem dX7_best_23 : decode cX7_best 23 = .ok (.invokevirtual 78, 3) := by decide +kernel
theorem dX7_best_26 : decode cX7_best 26 = .ok (.istore_n 2, 1) := by decide +kernel
theorem dX7_best_27 : decode cX7_best 27 = .ok (.iconst 0, 1) := by decide +kernel
theorem dX7_best_28 : decode cX7_best 28 = .ok (.istore_n 3, 1) := by decide +kernel
theorem dX7_best_29 : decode cX7_best 29 = .ok (.iconst (-1), 1) := by decide +kernel
theorem dX7_best_30 : decode cX7_best 30 = .ok (.istore 4, 2) := by decide +kernel
theorem dX7_best_32 : decode cX7_best 32 = .ok (.iconst 0, 1) := by decide +kernel
theorem dX7_best_33 : decode cX7_best 33 = .ok (.istore 5, 2) := by decide +kernel
theorem dX7_best_35 : decode cX7_best 35 = .ok (.iload 5, 2) := by decide +kernel
theorem dX7_best_37 : decode cX7_best 37 = .ok (.bipush 20, 2) := by decide +kernel
theorem dX7_best_39 : decode cX7_best 39 = .ok (.if_icmp .ge 41, 3) := by decide +kernel
theorem dX7_best_42 : decode cX7_best 42 = .ok (.aload_n 0, 1) := by decide +kernel
theorem dX7_best_43 : decode cX7_best 43 = .ok (.getfield 10, 3) := by decide +kernel
theorem dX7_best_46 : decode cX7_best 46 = .ok (.getfield 66, 3) := by decide +kernel
theorem dX7_best_49 : decode cX7_best 49 = .ok (.iload 5, 2) := by decide +kernel
theorem dX7_best_51 : decode cX7_best 51 = .ok (.iload_n 2, 1) := by decide +kernel
theorem dX7_best_52 : decode cX7_best 52 = .ok (.invokevirtual 85, 3) := by decide +kernel
theorem dX7_best_55 : decode cX7_best 55 = .ok (.invokestatic 89, 3) := by decide +kernel
theorem dX7_best_58 : decode cX7_best 58 = .ok (.istore 6, 2) := by decide +kernel
theorem dX7_best_60 : decode cX7_best 60 = .ok (.iload 6, 2) := by decide +kernel
theorem dX7_best_62 : decode cX7_best 62 = .ok (.iload 4, 2) := by decide +kernel
theorem dX7_best_64 : decode cX7_best 64 = .ok (.if_icmp .le 10, 3) := by decide +kernel
theorem dX7_best_67 : decode cX7_best 67 = .ok (.iload 6, 2) := by decide +kernel
theorem dX7_best_69 : decode cX7_best 69 = .ok (.istore 4, 2) := by decide +kernel
theorem dX7_best_71 : decode cX7_best 71 = .ok (.iload 5, 2) := by decide +kernel
theorem dX7_best_73 : decode cX7_best 73 = .ok (.istore_n 3, 1) := by decide +kernel
theorem dX7_best_74 : decode cX7_best 74 = .ok (.iinc 5 1, 3) := by decide +kernel
theorem dX7_best_77 : decode cX7_best 77 = .ok (.goto (-42), 3) := by decide +kernel
theorem dX7_best_80 : decode cX7_best 80 = .ok (.iload_n 1, 1) := by decide +kernel
theorem dX7_best_81 : decode cX7_best 81 = .ok (.ifCond .ne 7, 3) := by decide +kernel
theorem dX7_best_84 : decode cX7_best 84 = .ok (.iload_n 3, 1) := by decide +kernel
theorem dX7_best_85 : decode cX7_best 85 = .ok (.goto 5, 3) := by decide +kernel
theorem dX7_best_88 : decode cX7_best 88 = .ok (.iload 4, 2) := by decide +kernel
theorem dX7_best_90 : decode cX7_best 90 = .ok (.ireturn, 1) := by decide +kernel
theorem dX7_tower_0 : decode cX7_tower 0 = .ok (.iload_n 1, 1) := by decide +kernel
theorem dX7_tower_1 : decode cX7_tower 1 = .ok (.invokestatic 54, 3) := by decide +kernel
theorem dX7_tower_4 : decode cX7_tower 4 = .ok (.ifCond .eq 15, 3) := by decide +kernel
theorem dX7_tower_7 : decode cX7_tower 7 = .ok (.iload_n 2, 1) := by decide +kernel
theorem dX7_tower_8 : decode cX7_tower 8 = .ok (.invokestatic 54, 3) := by decide +kernel
theorem dX7_tower_11 : decode cX7_tower 11 = .ok (.ifCond .eq 8, 3) := by decide +kernel
theorem dX7_tower_14 : decode cX7_tower 14 = .ok (.iload_n 1, 1) := by decide +kernel
theorem dX7_tower_15 : decode cX7_tower 15 = .ok (.iload_n 2, 1) := by decide +kernel
theorem dX7_tower_16 : decode cX7_tower 16 = .ok (.if_icmp .ne 9, 3) := by decide +kernel
theorem dX7_tower_19 : decode cX7_tower 19 = .ok (.aload_n 0, 1) := by decide +kernel
theorem dX7_tower_20 : decode cX7_tower 20 = .ok (.iconst 1, 1) := by decide +kernel
theorem dX7_tower_21 : decode cX7_tower 21 = .ok (.invokevirtual 62, 3) := by decide +kernel
theorem dX7_tower_24 : decode cX7_tower 24 = .ok (.ireturn, 1) := by decide +kernel
theorem dX7_tower_25 : decode cX7_tower 25 = .ok (.aload_n 0, 1) := by decide +kernel
theorem dX7_tower_26 : decode cX7_tower 26 = .ok (.getfield 10, 3) := by decide +kernel
theorem dX7_tower_29 : decode cX7_tower 29 = .ok (.getfield 66, 3) := by decide +kernel
theorem dX7_tower_32 : decode cX7_tower 32 = .ok (.iconst 0, 1) := by decide +kernel
theorem dX7_tower_33 : decode cX7_tower 33 = .ok (.invokevirtual 78, 3) := by decide +kernel
theorem dX7_tower_36 : decode cX7_tower 36 = .ok (.istore_n 3, 1) := by decide +kernel
theorem dX7_tower_37 : decode cX7_tower 37 = .ok (.iconst 0, 1) := by decide +kernel
theorem dX7_tower_38 : decode cX7_tower 38 = .ok (.istore 4, 2) := by decide +kernel
theorem dX7_tower_40 : decode cX7_tower 40 = .ok (.iload 4, 2) := by decide +kernel
theorem dX7_tower_42 : decode cX7_tower 42 = .ok (.bipush 40, 2) := by decide +kernel
theorem dX7_tower_44 : decode cX7_tower 44 = .ok (.if_icmp .gt 30, 3) := by decide +kernel
theorem dX7_tower_47 : decode cX7_tower 47 = .ok (.aload_n 0, 1) := by decide +kernel
theorem dX7_tower_48 : decode cX7_tower 48 = .ok (.getfield 10, 3) := by decide +kernel
theorem dX7_tower_51 : decode cX7_tower 51 = .ok (.getfield 66, 3) := by decide +kernel
theorem dX7_tower_54 : decode cX7_tower 54 = .ok (.iload_n 1, 1) := by decide +kernel
theorem dX7_tower_55 : decode cX7_tower 55 = .ok (.iload_n 2, 1) := by decide +kernel
theorem dX7_tower_56 : decode cX7_tower 56 = .ok (.iload 4, 2) := by decide +kernel
theorem dX7_tower_58 : decode cX7_tower 58 = .ok (.iload_n 3, 1) := by decide +kernel
theorem dX7_tower_59 : decode cX7_tower 59 = .ok (.invokevirtual 222, 3) := by decide +kernel
theorem dX7_tower_62 : decode cX7_tower 62 = .ok (.ifCond .eq 6, 3) := by decide +kernel
theorem dX7_tower_65 : decode cX7_tower 65 = .ok (.iload 4, 2) := by decide +kernel
theorem dX7_tower_67 : decode cX7_tower 67 = .ok (.ireturn, 1) := by decide +kernel
theorem dX7_tower_68 : decode cX7_tower 68 = .ok (.iinc 4 1, 3) := by decide +kernel
theorem dX7_tower_71 : decode cX7_tower 71 = .ok (.goto (-31), 3) := by decide +kernel
theorem dX7_tower_74 : decode cX7_tower 74 = .ok (.aload_n 0, 1) := by decide +kernel
theorem dX7_tower_75 : decode cX7_tower 75 = .ok (.iconst 2, 1) := by decide +kernel
theorem dX7_tower_76 : decode cX7_tower 76 = .ok (.invokevirtual 62, 3) := by decide +kernel
theorem dX7_tower_79 : decode cX7_tower 79 = .ok (.ireturn, 1) := by decide +kernel
theorem dX7_mutual_0 : decode cX7_mutual 0 = .ok (.aload_n 0, 1) := by decide +kernel
theorem dX7_mutual_1 : decode cX7_mutual 1 = .ok (.getfield 10, 3) := by decide +kernel
theorem dX7_mutual_4 : decode cX7_mutual 4 = .ok (.getfield 66, 3) := by decide +kernel
theorem dX7_mutual_7 : decode cX7_mutual 7 = .ok (.iconst 0, 1) := by decide +kernel
theorem dX7_mutual_8 : decode cX7_mutual 8 = .ok (.invokevirtual 78, 3) := by decide +kernel
theorem dX7_mutual_11 : decode cX7_mutual 11 = .ok (.istore_n 1, 1) := by decide +kernel
theorem dX7_mutual_12 : decode cX7_mutual 12 = .ok (.iconst 0, 1) := by decide +kernel
theorem dX7_mutual_13 : decode cX7_mutual 13 = .ok (.istore_n 2, 1) := by decide +kernel
theorem dX7_mutual_14 : decode cX7_mutual 14 = .ok (.iconst 0, 1) := by decide +kernel
theorem dX7_mutual_15 : decode cX7_mutual 15 = .ok (.istore_n 3, 1) := by decide +kernel
theorem dX7_mutual_16 : decode cX7_mutual 16 = .ok (.iload_n 3, 1) := by decide +kernel
theorem dX7_mutual_17 : decode cX7_mutual 17 = .ok (.aload_n 0, 1) := by decide +kernel
theorem dX7_mutual_18 : decode cX7_mutual 18 = .ok (.getfield 10, 3) := by decide +kernel
theorem dX7_mutual_21 : decode cX7_mutual 21 = .ok (.getfield 97, 3) := by decide +kernel
theorem dX7_mutual_24 : decode cX7_mutual 24 = .ok (.if_icmp .ge 96, 3) := by decide +kernel
theorem dX7_mutual_27 : decode cX7_mutual 27 = .ok (.iload_n 3, 1) := by decide +kernel
theorem dX7_mutual_28 : decode cX7_mutual 28 = .ok (.iconst 1, 1) := by decide +kernel
theorem dX7_mutual_29 : decode cX7_mutual 29 = .ok (.iadd, 1) := by decide +kernel
theorem dX7_mutual_30 : decode cX7_mutual 30 = .ok (.istore 4, 2) := by decide +kernel
theorem dX7_mutual_32 : decode cX7_mutual 32 = .ok (.iload 4, 2) := by decide +kernel
theorem dX7_mutual_34 : decode cX7_mutual 34 = .ok (.aload_n 0, 1) := by decide +kernel
theorem dX7_mutual_35 : decode cX7_mutual 35 = .ok (.getfield 10, 3) := by decide +kernel
theorem dX7_mutual_38 : decode cX7_mutual 38 = .ok (.getfield 97, 3) := by decide +kernel
theorem dX7_mutual_41 : decode cX7_mutual 41 = .ok (.if_icmp .ge 73, 3) := by decide +kernel
theorem dX7_mutual_44 : decode cX7_mutual 44 = .ok (.aload_n 0, 1) := by decide +kernel
theorem dX7_mutual_45 : decode cX7_mutual 45 = .ok (.getfield 10, 3) := by decide +kernel
theorem dX7_mutual_48 : decode cX7_mutual 48 = .ok (.getfield 100, 3) := by decide +kernel
theorem dX7_mutual_51 : decode cX7_mutual 51 = .ok (.iload_n 3, 1) := by decide +kernel
theorem dX7_mutual_52 : decode cX7_mutual 52 = .ok (.iaload, 1) := by decide +kernel
theorem dX7_mutual_53 : decode cX7_mutual 53 = .ok (.istore 5, 2) := by decide +kernel
theorem dX7_mutual_55 : decode cX7_mutual 55 = .ok (.aload_n 0, 1) := by decide +kernel
theorem dX7_mutual_56 : decode cX7_mutual 56 = .ok (.getfield 10, 3) := by decide +kernel
theorem dX7_mutual_59 : decode cX7_mutual 59 = .ok (.getfield 100, 3) := by decide +kernel
theorem dX7_mutual_62 : decode cX7_mutual 62 = .ok (.iload 4, 2) := by decide +kernel
theorem dX7_mutual_64 : decode cX7_mutual 64 = .ok (.iaload, 1) := by decide +kernel
theorem dX7_mutual_65 : decode cX7_mutual 65 = .ok (.istore 6, 2) := by decide +kernel
theorem dX7_mutual_67 : decode cX7_mutual 67 = .ok (.aload_n 0, 1) := by decide +kernel
theorem dX7_mutual_68 : decode cX7_mutual 68 = .ok (.getfield 10, 3) := by decide +kernel
theorem dX7_mutual_71 : decode cX7_mutual 71 = .ok (.getfield 66, 3) := by decide +kernel
theorem dX7_mutual_74 : decode cX7_mutual 74 = .ok (.iload 5, 2) := by decide +kernel
theorem dX7_mutual_76 : decode cX7_mutual 76 = .ok (.iload 6, 2) := by decide +kernel
theorem dX7_mutual_78 : decode cX7_mutual 78 = .ok (.iconst 0, 1) := by decide +kernel
theorem dX7_mutual_79 : decode cX7_mutual 79 = .ok (.iload_n 1, 1) := by decide +kernel
theorem dX7_mutual_80 : decode cX7_mutual 80 = .ok (.invokevirtual 222, 3) := by decide +kernel
theorem dX7_mutual_83 : decode cX7_mutual 83 = .ok (.ifCond .eq 25, 3) := by decide +kernel
theorem dX7_mutual_86 : decode cX7_mutual 86 = .ok (.aload_n 0, 1) := by decide +kernel
theorem dX7_mutual_87 : decode cX7_mutual 87 = .ok (.getfield 10, 3) := by decide +kernel
theorem dX7_mutual_90 : decode cX7_mutual 90 = .ok (.getfield 66, 3) := by decide +kernel
theorem dX7_mutual_93 : decode cX7_mutual 93 = .ok (.iload 6, 2) := by decide +kernel
theorem dX7_mutual_95 : decode cX7_mutual 95 = .ok (.iload 5, 2) := by decide +kernel
theorem dX7_mutual_97 : decode cX7_mutual 97 = .ok (.iconst 0, 1) := by decide +kernel
theorem dX7_mutual_98 : decode cX7_mutual 98 = .ok (.iload_n 1, 1) := by decide +kernel
theorem dX7_mutual_99 : decode cX7_mutual 99 = .ok (.invokevirtual 222, 3) := by decide +kernel
theorem dX7_mutual_102 : decode cX7_mutual 102 = .ok (.ifCond .eq 6, 3) := by decide +kernel
theorem dX7_mutual_105 : decode cX7_mutual 105 = .ok (.iinc 2 1, 3) := by decide +kernel
theorem dX7_mutual_108 : decode cX7_mutual 108 = .ok (.iinc 4 1, 3) := by decide +kernel
theorem dX7_mutual_111 : decode cX7_mutual 111 = .ok (.goto (-79), 3) := by decide +kernel
theorem dX7_mutual_114 : decode cX7_mutual 114 = .ok (.iinc 3 1, 3) := by decide +kernel
theorem dX7_mutual_117 : decode cX7_mutual 117 = .ok (.goto (-101), 3) := by decide +kernel
theorem dX7_mutual_120 : decode cX7_mutual 120 = .ok (.iload_n 2, 1) := by decide +kernel
theorem dX7_mutual_121 : decode cX7_mutual 121 = .ok (.ireturn, 1) := by decide +kernel
theorem dX7_unseen_0 : decode cX7_unseen 0 = .ok (.aload_n 0, 1) := by decide +kernel
theorem dX7_unseen_1 : decode cX7_unseen 1 = .ok (.getfield 10, 3) := by decide +kernel
theorem dX7_unseen_4 : decode cX7_unseen 4 = .ok (.iconst 0, 1) := by decide +kernel
theorem dX7_unseen_5 : decode cX7_unseen 5 = .ok (.invokevirtual 226, 3) := by decide +kernel
theorem dX7_unseen_8 : decode cX7_unseen 8 = .ok (.aload_n 0, 1) := by decide +kernel
theorem dX7_unseen_9 : decode cX7_unseen 9 = .ok (.getfield 10, 3) := by decide +kernel
theorem dX7_unseen_12 : decode cX7_unseen 12 = .ok (.iconst 1, 1) := by decide +kernel
theorem dX7_unseen_13 : decode cX7_unseen 13 = .ok (.invokevirtual 226, 3) := by decide +kernel
theorem dX7_unseen_16 : decode cX7_unseen 16 = .ok (.ior, 1) := by decide +kernel
theorem dX7_unseen_17 : decode cX7_unseen 17 = .ok (.istore_n 1, 1) := by decide +kernel
theorem dX7_unseen_18 : decode cX7_unseen 18 = .ok (.iconst 0, 1) := by decide +kernel
theorem dX7_unseen_19 : decode cX7_unseen 19 = .ok (.istore_n 2, 1) := by decide +kernel
theorem dX7_unseen_20 : decode cX7_unseen 20 = .ok (.iload_n 2, 1) := by decide +kernel
theorem dX7_unseen_21 : decode cX7_unseen 21 = .ok (.aload_n 0, 1) := by decide +kernel
theorem dX7_unseen_22 : decode cX7_unseen 22 = .ok (.getfield 10, 3) := by decide +kernel
theorem dX7_unseen_25 : decode cX7_unseen 25 = .ok (.getfield 97, 3) := by decide +kernel
theorem dX7_unseen_28 : decode cX7_unseen 28 = .ok (.if_icmp .ge 23, 3) := by decide +kernel
theorem dX7_unseen_31 : decode cX7_unseen 31 = .ok (.iload_n 1, 1) := by decide +kernel
theorem dX7_unseen_32 : decode cX7_unseen 32 = .ok (.iconst 1, 1) := by decide +kernel
theorem dX7_unseen_33 : decode cX7_unseen 33 = .ok (.aload_n 0, 1) := by decide +kernel
theorem dX7_unseen_34 : decode cX7_unseen 34 = .ok (.getfield 10, 3) := by decide +kernel
theorem dX7_unseen_37 : decode cX7_unseen 37 = .ok (.getfield 100, 3) := by decide +kernel
theorem dX7_unseen_40 : decode cX7_unseen 40 = .ok (.iload_n 2, 1) := by decide +kernel
theorem dX7_unseen_41 : decode cX7_unseen 41 = .ok (.iaload, 1) := by decide +kernel
theorem dX7_unseen_42 : decode cX7_unseen 42 = .ok (.ishl, 1) := by decide +kernel
theorem dX7_unseen_43 : decode cX7_unseen 43 = .ok (.ior, 1) := by decide +kernel
theorem dX7_unseen_44 : decode cX7_unseen 44 = .ok (.istore_n 1, 1) := by decide +kernel
theorem dX7_unseen_45 : decode cX7_unseen 45 = .ok (.iinc 2 1, 3) := by decide +kernel
theorem dX7_unseen_48 : decode cX7_unseen 48 = .ok (.goto (-28), 3) := by decide +kernel
theorem dX7_unseen_51 : decode cX7_unseen 51 = .ok (.ldc 229, 2) := by decide +kernel
theorem dX7_unseen_53 : decode cX7_unseen 53 = .ok (.iload_n 1, 1) := by decide +kernel
theorem dX7_unseen_54 : decode cX7_unseen 54 = .ok (.iconst (-1), 1) := by decide +kernel
theorem dX7_unseen_55 : decode cX7_unseen 55 = .ok (.ixor, 1) := by decide +kernel
theorem dX7_unseen_56 : decode cX7_unseen 56 = .ok (.iand, 1) := by decide +kernel
theorem dX7_unseen_57 : decode cX7_unseen 57 = .ok (.ireturn, 1) := by decide +kernel
theorem dX7_cover_0 : decode cX7_cover 0 = .ok (.iload_n 1, 1) := by decide +kernel
theorem dX7_cover_1 : decode cX7_cover 1 = .ok (.iconst 0, 1) := by decide +kernel
theorem dX7_cover_2 : decode cX7_cover 2 = .ok (.ldc 229, 2) := by decide +kernel
theorem dX7_cover_4 : decode cX7_cover 4 = .ok (.invokestatic 58, 3) := by decide +kernel
theorem dX7_cover_7 : decode cX7_cover 7 = .ok (.ifCond .ne 9, 3) := by decide +kernel
theorem dX7_cover_10 : decode cX7_cover 10 = .ok (.aload_n 0, 1) := by decide +kernel
theorem dX7_cover_11 : decode cX7_cover 11 = .ok (.iconst 1, 1) := by decide +kernel
theorem dX7_cover_12 : decode cX7_cover 12 = .ok (.invokevirtual 62, 3) := by decide +kernel
theorem dX7_cover_15 : decode cX7_cover 15 = .ok (.ireturn, 1) := by decide +kernel
theorem dX7_cover_16 : decode cX7_cover 16 = .ok (.aload_n 0, 1) := by decide +kernel
theorem dX7_cover_17 : decode cX7_cover 17 = .ok (.invokevirtual 230, 3) := by decide +kernel
theorem dX7_cover_20 : decode cX7_cover 20 = .ok (.iconst (-1), 1) := by decide +kernel
theorem dX7_cover_21 : decode cX7_cover 21 = .ok (.istore_n 2, 1) := by decide +kernel
theorem dX7_cover_22 : decode cX7_cover 22 = .ok (.iconst 0, 1) := by decide +kernel
theorem dX7_cover_23 : decode cX7_cover 23 = .ok (.istore_n 3, 1) := by decide +kernel
theorem dX7_cover_24 : decode cX7_cover 24 = .ok (.iload_n 3, 1) := by decide +kernel
theorem dX7_cover_25 : decode cX7_cover 25 = .ok (.iconst 1, 1) := by decide +kernel
theorem dX7_cover_26 : decode cX7_cover 26 = .ok (.aload_n 0, 1) := by decide +kernel
theorem dX7_cover_27 : decode cX7_cover 27 = .ok (.getfield 10, 3) := by decide +kernel
theorem dX7_cover_30 : decode cX7_cover 30 = .ok (.getfield 115, 3) := by decide +kernel
theorem dX7_cover_33 : decode cX7_cover 33 = .ok (.ishl, 1) := by decide +kernel
theorem dX7_cover_34 : decode cX7_cover 34 = .ok (.if_icmp .ge 50, 3) := by decide +kernel
theorem dX7_cover_37 : decode cX7_cover 37 = .ok (.iload_n 2, 1) := by decide +kernel
theorem dX7_cover_38 : decode cX7_cover 38 = .ok (.ifCond .lt 14, 3) := by decide +kernel
theorem dX7_cover_41 : decode cX7_cover 41 = .ok (.iload_n 3, 1) := by decide +kernel
theorem dX7_cover_42 : decode cX7_cover 42 = .ok (.invokestatic 89, 3) := by decide +kernel
theorem dX7_cover_45 : decode cX7_cover 45 = .ok (.iload_n 2, 1) := by decide +kernel
theorem dX7_cover_46 : decode cX7_cover 46 = .ok (.invokestatic 89, 3) := by decide +kernel
theorem dX7_cover_49 : decode cX7_cover 49 = .ok (.if_icmp .ge 7, 3) := by decide +kernel
theorem dX7_cover_52 : decode cX7_cover 52 = .ok (.iconst 1, 1) := by decide +kernel
theorem dX7_cover_53 : decode cX7_cover 53 = .ok (.goto 4, 3) := by decide +kernel
theorem dX7_cover_56 : decode cX7_cover 56 = .ok (.iconst 0, 1) := by decide +kernel
theorem dX7_cover_57 : decode cX7_cover 57 = .ok (.istore 4, 2) := by decide +kernel
theorem dX7_cover_59 : decode cX7_cover 59 = .ok (.iload 4, 2) := by decide +kernel
theorem dX7_cover_61 : decode cX7_cover 61 = .ok (.ifCond .eq 17, 3) := by decide +kernel
theorem dX7_cover_64 : decode cX7_cover 64 = .ok (.iload_n 1, 1) := by decide +kernel
theorem dX7_cover_65 : decode cX7_cover 65 = .ok (.aload_n 0, 1) := by decide +kernel
theorem dX7_cover_66 : decode cX7_cover 66 = .ok (.iload_n 3, 1) := by decide +kernel
theorem dX7_cover_67 : decode cX7_cover 67 = .ok (.invokevirtual 233, 3) := by decide +kernel
theorem dX7_cover_70 : decode cX7_cover 70 = .ok (.iconst (-1), 1) := by decide +kernel
theorem dX7_cover_71 : decode cX7_cover 71 = .ok (.ixor, 1) := by decide +kernel
theorem dX7_cover_72 : decode cX7_cover 72 = .ok (.iand, 1) := by decide +kernel
theorem dX7_cover_73 : decode cX7_cover 73 = .ok (.ifCond .ne 5, 3) := by decide +kernel
theorem dX7_cover_76 : decode cX7_cover 76 = .ok (.iload_n 3, 1) := by decide +kernel
theorem dX7_cover_77 : decode cX7_cover 77 = .ok (.istore_n 2, 1) := by decide +kernel
theorem dX7_cover_78 : decode cX7_cover 78 = .ok (.iinc 3 1, 3) := by decide +kernel
theorem dX7_cover_81 : decode cX7_cover 81 = .ok (.goto (-57), 3) := by decide +kernel
theorem dX7_cover_84 : decode cX7_cover 84 = .ok (.iload_n 2, 1) := by decide +kernel
theorem dX7_cover_85 : decode cX7_cover 85 = .ok (.ifCond .ge 11, 3) := by decide +kernel
theorem dX7_cover_88 : decode cX7_cover 88 = .ok (.aload_n 0, 1) := by decide +kernel
theorem dX7_cover_89 : decode cX7_cover 89 = .ok (.iconst 2, 1) := by decide +kernel
theorem dX7_cover_90 : decode cX7_cover 90 = .ok (.invokevirtual 62, 3) := by decide +kernel
theorem dX7_cover_93 : decode cX7_cover 93 = .ok (.goto 4, 3) := by decide +kernel
theorem dX7_cover_96 : decode cX7_cover 96 = .ok (.iload_n 2, 1) := by decide +kernel
theorem dX7_cover_97 : decode cX7_cover 97 = .ok (.ireturn, 1) := by decide +kernel
theorem dX7_keeps_0 : decode cX7_keeps 0 = .ok (.iload_n 1, 1) := by decide +kernel
theorem dX7_keeps_1 : decode cX7_keeps 1 = .ok (.iconst 0, 1) := by decide +kernel
theorem dX7_keeps_2 : decode cX7_keeps 2 = .ok (.iconst 1, 1) := by decide +kernel
theorem dX7_keeps_3 : decode cX7_keeps 3 = .ok (.invokestatic 58, 3) := by decide +kernel
theorem dX7_keeps_6 : decode cX7_keeps 6 = .ok (.ifCond .ne 9, 3) := by decide +kernel
theorem dX7_keeps_9 : decode cX7_keeps 9 = .ok (.aload_n 0, 1) := by decide +kernel
theorem dX7_keeps_10 : decode cX7_keeps 10 = .ok (.iconst 1, 1) := by decide +kernel
theorem dX7_keeps_11 : decode cX7_keeps 11 = .ok (.invokevirtual 62, 3) := by decide +kernel
theorem dX7_keeps_14 : decode cX7_keeps 14 = .ok (.ireturn, 1) := by decide +kernel
theorem dX7_keeps_15 : decode cX7_keeps 15 = .ok (.aload_n 0, 1) := by decide +kernel
theorem dX7_keeps_16 : decode cX7_keeps 16 = .ok (.invokevirtual 230, 3) := by decide +kernel
theorem dX7_keeps_19 : decode cX7_keeps 19 = .ok (.aload_n 0, 1) := by decide +kernel
theorem dX7_keeps_20 : decode cX7_keeps 20 = .ok (.invokevirtual 236, 3) := by decide +kernel
theorem dX7_keeps_23 : decode cX7_keeps 23 = .ok (.iconst 0, 1) := by decide +kernel
theorem dX7_keeps_24 : decode cX7_keeps 24 = .ok (.istore_n 2, 1) := by decide +kernel
theorem dX7_keeps_25 : decode cX7_keeps 25 = .ok (.iconst 0, 1) := by decide +kernel
theorem dX7_keeps_26 : decode cX7_keeps 26 = .ok (.istore_n 3, 1) := by decide +kernel
theorem dX7_keeps_27 : decode cX7_keeps 27 = .ok (.iconst 0, 1) := by decide +kernel
theorem dX7_keeps_28 : decode cX7_keeps 28 = .ok (.istore 4, 2) := by decide +kernel
end
section
theorem dX7_keeps_30 : decode cX7_keeps 30 = .ok (.iload 4, 2) := by decide +kernel
theorem dX7_keeps_32 : decode cX7_keeps 32 = .ok (.iconst 1, 1) := by decide +kernel
theorem dX7_keeps_33 : decode cX7_keeps 33 = .ok (.aload_n 0, 1) := by decide +kernel
theorem dX7_keeps_34 : decode cX7_keeps 34 = .ok (.getfield 10, 3) := by decide +kernel
theorem dX7_keeps_37 : decode cX7_keeps 37 = .ok (.getfield 115, 3) := by decide +kernel
theorem dX7_keeps_40 : decode cX7_keeps 40 = .ok (.ishl, 1) := by decide +kernel
theorem dX7_keeps_41 : decode cX7_keeps 41 = .ok (.if_icmp .ge 38, 3) := by decide +kernel
theorem dX7_keeps_44 : decode cX7_keeps 44 = .ok (.aload_n 0, 1) := by decide +kernel
theorem dX7_keeps_45 : decode cX7_keeps 45 = .ok (.iload 4, 2) := by decide +kernel
theorem dX7_keeps_47 : decode cX7_keeps 47 = .ok (.invokevirtual 239, 3) := by decide +kernel
theorem dX7_keeps_50 : decode cX7_keeps 50 = .ok (.istore 5, 2) := by decide +kernel
theorem dX7_keeps_52 : decode cX7_keeps 52 = .ok (.iload 5, 2) := by decide +kernel
theorem dX7_keeps_54 : decode cX7_keeps 54 = .ok (.iload_n 3, 1) := by decide +kernel
theorem dX7_keeps_55 : decode cX7_keeps 55 = .ok (.if_icmp .le 18, 3) := by decide +kernel
theorem dX7_keeps_58 : decode cX7_keeps 58 = .ok (.aload_n 0, 1) := by decide +kernel
theorem dX7_keeps_59 : decode cX7_keeps 59 = .ok (.iload 4, 2) := by decide +kernel
theorem dX7_keeps_61 : decode cX7_keeps 61 = .ok (.invokevirtual 242, 3) := by decide +kernel
theorem dX7_keeps_64 : decode cX7_keeps 64 = .ok (.ifCond .eq 9, 3) := by decide +kernel
theorem dX7_keeps_67 : decode cX7_keeps 67 = .ok (.iload 4, 2) := by decide +kernel
theorem dX7_keeps_69 : decode cX7_keeps 69 = .ok (.istore_n 2, 1) := by decide +kernel
theorem dX7_keeps_70 : decode cX7_keeps 70 = .ok (.iload 5, 2) := by decide +kernel
theorem dX7_keeps_72 : decode cX7_keeps 72 = .ok (.istore_n 3, 1) := by decide +kernel
theorem dX7_keeps_73 : decode cX7_keeps 73 = .ok (.iinc 4 1, 3) := by decide +kernel
theorem dX7_keeps_76 : decode cX7_keeps 76 = .ok (.goto (-46), 3) := by decide +kernel
theorem dX7_keeps_79 : decode cX7_keeps 79 = .ok (.iload_n 1, 1) := by decide +kernel
theorem dX7_keeps_80 : decode cX7_keeps 80 = .ok (.ifCond .ne 7, 3) := by decide +kernel
theorem dX7_keeps_83 : decode cX7_keeps 83 = .ok (.iload_n 2, 1) := by decide +kernel
theorem dX7_keeps_84 : decode cX7_keeps 84 = .ok (.goto 4, 3) := by decide +kernel
theorem dX7_keeps_87 : decode cX7_keeps 87 = .ok (.iload_n 3, 1) := by decide +kernel
theorem dX7_keeps_88 : decode cX7_keeps 88 = .ok (.ireturn, 1) := by decide +kernel
theorem dX7_blend_0 : decode cX7_blend 0 = .ok (.aload_n 0, 1) := by decide +kernel
theorem dX7_blend_1 : decode cX7_blend 1 = .ok (.iload_n 1, 1) := by decide +kernel
theorem dX7_blend_2 : decode cX7_blend 2 = .ok (.invokevirtual 132, 3) := by decide +kernel
theorem dX7_blend_5 : decode cX7_blend 5 = .ok (.ifCond .eq 16, 3) := by decide +kernel
theorem dX7_blend_8 : decode cX7_blend 8 = .ok (.aload_n 0, 1) := by decide +kernel
theorem dX7_blend_9 : decode cX7_blend 9 = .ok (.iload_n 2, 1) := by decide +kernel
theorem dX7_blend_10 : decode cX7_blend 10 = .ok (.invokevirtual 132, 3) := by decide +kernel
theorem dX7_blend_13 : decode cX7_blend 13 = .ok (.ifCond .eq 8, 3) := by decide +kernel
theorem dX7_blend_16 : decode cX7_blend 16 = .ok (.iload_n 1, 1) := by decide +kernel
theorem dX7_blend_17 : decode cX7_blend 17 = .ok (.iload_n 2, 1) := by decide +kernel
theorem dX7_blend_18 : decode cX7_blend 18 = .ok (.if_icmp .ne 9, 3) := by decide +kernel
theorem dX7_blend_21 : decode cX7_blend 21 = .ok (.aload_n 0, 1) := by decide +kernel
theorem dX7_blend_22 : decode cX7_blend 22 = .ok (.iconst 1, 1) := by decide +kernel
theorem dX7_blend_23 : decode cX7_blend 23 = .ok (.invokevirtual 62, 3) := by decide +kernel
theorem dX7_blend_26 : decode cX7_blend 26 = .ok (.ireturn, 1) := by decide +kernel
theorem dX7_blend_27 : decode cX7_blend 27 = .ok (.aload_n 0, 1) := by decide +kernel
theorem dX7_blend_28 : decode cX7_blend 28 = .ok (.getfield 10, 3) := by decide +kernel
theorem dX7_blend_31 : decode cX7_blend 31 = .ok (.getfield 122, 3) := by decide +kernel
theorem dX7_blend_34 : decode cX7_blend 34 = .ok (.iload_n 1, 1) := by decide +kernel
theorem dX7_blend_35 : decode cX7_blend 35 = .ok (.aaload, 1) := by decide +kernel
theorem dX7_blend_36 : decode cX7_blend 36 = .ok (.invokevirtual 158, 3) := by decide +kernel
theorem dX7_blend_39 : decode cX7_blend 39 = .ok (.istore_n 3, 1) := by decide +kernel
theorem dX7_blend_40 : decode cX7_blend 40 = .ok (.aload_n 0, 1) := by decide +kernel
theorem dX7_blend_41 : decode cX7_blend 41 = .ok (.getfield 10, 3) := by decide +kernel
theorem dX7_blend_44 : decode cX7_blend 44 = .ok (.getfield 122, 3) := by decide +kernel
theorem dX7_blend_47 : decode cX7_blend 47 = .ok (.iload_n 2, 1) := by decide +kernel
theorem dX7_blend_48 : decode cX7_blend 48 = .ok (.aaload, 1) := by decide +kernel
theorem dX7_blend_49 : decode cX7_blend 49 = .ok (.invokevirtual 158, 3) := by decide +kernel
theorem dX7_blend_52 : decode cX7_blend 52 = .ok (.istore 4, 2) := by decide +kernel
theorem dX7_blend_54 : decode cX7_blend 54 = .ok (.iload_n 3, 1) := by decide +kernel
theorem dX7_blend_55 : decode cX7_blend 55 = .ok (.iconst 1, 1) := by decide +kernel
theorem dX7_blend_56 : decode cX7_blend 56 = .ok (.ishl, 1) := by decide +kernel
theorem dX7_blend_57 : decode cX7_blend 57 = .ok (.iload 4, 2) := by decide +kernel
theorem dX7_blend_59 : decode cX7_blend 59 = .ok (.iand, 1) := by decide +kernel
theorem dX7_blend_60 : decode cX7_blend 60 = .ok (.ifCond .ne 12, 3) := by decide +kernel
theorem dX7_blend_63 : decode cX7_blend 63 = .ok (.iload 4, 2) := by decide +kernel
theorem dX7_blend_65 : decode cX7_blend 65 = .ok (.iconst 1, 1) := by decide +kernel
theorem dX7_blend_66 : decode cX7_blend 66 = .ok (.ishl, 1) := by decide +kernel
theorem dX7_blend_67 : decode cX7_blend 67 = .ok (.iload_n 3, 1) := by decide +kernel
theorem dX7_blend_68 : decode cX7_blend 68 = .ok (.iand, 1) := by decide +kernel
theorem dX7_blend_69 : decode cX7_blend 69 = .ok (.ifCond .eq 7, 3) := by decide +kernel
theorem dX7_blend_72 : decode cX7_blend 72 = .ok (.iconst 1, 1) := by decide +kernel
theorem dX7_blend_73 : decode cX7_blend 73 = .ok (.goto 4, 3) := by decide +kernel
theorem dX7_blend_76 : decode cX7_blend 76 = .ok (.iconst 0, 1) := by decide +kernel
theorem dX7_blend_77 : decode cX7_blend 77 = .ok (.istore 5, 2) := by decide +kernel
theorem dX7_blend_79 : decode cX7_blend 79 = .ok (.iload_n 3, 1) := by decide +kernel
theorem dX7_blend_80 : decode cX7_blend 80 = .ok (.iload 4, 2) := by decide +kernel
theorem dX7_blend_82 : decode cX7_blend 82 = .ok (.iand, 1) := by decide +kernel
theorem dX7_blend_83 : decode cX7_blend 83 = .ok (.ifCond .ne 8, 3) := by decide +kernel
theorem dX7_blend_86 : decode cX7_blend 86 = .ok (.iload 5, 2) := by decide +kernel
theorem dX7_blend_88 : decode cX7_blend 88 = .ok (.ifCond .ne 9, 3) := by decide +kernel
theorem dX7_blend_91 : decode cX7_blend 91 = .ok (.aload_n 0, 1) := by decide +kernel
theorem dX7_blend_92 : decode cX7_blend 92 = .ok (.iconst 3, 1) := by decide +kernel
theorem dX7_blend_93 : decode cX7_blend 93 = .ok (.invokevirtual 62, 3) := by decide +kernel
theorem dX7_blend_96 : decode cX7_blend 96 = .ok (.ireturn, 1) := by decide +kernel
theorem dX7_blend_97 : decode cX7_blend 97 = .ok (.iload_n 3, 1) := by decide +kernel
theorem dX7_blend_98 : decode cX7_blend 98 = .ok (.iload 4, 2) := by decide +kernel
theorem dX7_blend_100 : decode cX7_blend 100 = .ok (.ior, 1) := by decide +kernel
theorem dX7_blend_101 : decode cX7_blend 101 = .ok (.ireturn, 1) := by decide +kernel
theorem dX7_thief_0 : decode cX7_thief 0 = .ok (.iload_n 1, 1) := by decide +kernel
theorem dX7_thief_1 : decode cX7_thief 1 = .ok (.invokestatic 112, 3) := by decide +kernel
theorem dX7_thief_4 : decode cX7_thief 4 = .ok (.ifCond .ne 9, 3) := by decide +kernel
theorem dX7_thief_7 : decode cX7_thief 7 = .ok (.aload_n 0, 1) := by decide +kernel
theorem dX7_thief_8 : decode cX7_thief 8 = .ok (.iconst 1, 1) := by decide +kernel
theorem dX7_thief_9 : decode cX7_thief 9 = .ok (.invokevirtual 62, 3) := by decide +kernel
theorem dX7_thief_12 : decode cX7_thief 12 = .ok (.ireturn, 1) := by decide +kernel
theorem dX7_thief_13 : decode cX7_thief 13 = .ok (.aload_n 0, 1) := by decide +kernel
theorem dX7_thief_14 : decode cX7_thief 14 = .ok (.getfield 10, 3) := by decide +kernel
theorem dX7_thief_17 : decode cX7_thief 17 = .ok (.getfield 66, 3) := by decide +kernel
theorem dX7_thief_20 : decode cX7_thief 20 = .ok (.iconst 0, 1) := by decide +kernel
theorem dX7_thief_21 : decode cX7_thief 21 = .ok (.invokevirtual 78, 3) := by decide +kernel
theorem dX7_thief_24 : decode cX7_thief 24 = .ok (.iload_n 1, 1) := by decide +kernel
theorem dX7_thief_25 : decode cX7_thief 25 = .ok (.iconst (-1), 1) := by decide +kernel
theorem dX7_thief_26 : decode cX7_thief 26 = .ok (.ixor, 1) := by decide +kernel
theorem dX7_thief_27 : decode cX7_thief 27 = .ok (.iand, 1) := by decide +kernel
theorem dX7_thief_28 : decode cX7_thief 28 = .ok (.istore_n 2, 1) := by decide +kernel
theorem dX7_thief_29 : decode cX7_thief 29 = .ok (.iconst 0, 1) := by decide +kernel
theorem dX7_thief_30 : decode cX7_thief 30 = .ok (.istore_n 3, 1) := by decide +kernel
theorem dX7_thief_31 : decode cX7_thief 31 = .ok (.iconst 0, 1) := by decide +kernel
theorem dX7_thief_32 : decode cX7_thief 32 = .ok (.istore 4, 2) := by decide +kernel
theorem dX7_thief_34 : decode cX7_thief 34 = .ok (.iload 4, 2) := by decide +kernel
theorem dX7_thief_36 : decode cX7_thief 36 = .ok (.bipush 20, 2) := by decide +kernel
theorem dX7_thief_38 : decode cX7_thief 38 = .ok (.if_icmp .ge 66, 3) := by decide +kernel
theorem dX7_thief_41 : decode cX7_thief 41 = .ok (.aload_n 0, 1) := by decide +kernel
theorem dX7_thief_42 : decode cX7_thief 42 = .ok (.getfield 10, 3) := by decide +kernel
theorem dX7_thief_45 : decode cX7_thief 45 = .ok (.getfield 66, 3) := by decide +kernel
theorem dX7_thief_48 : decode cX7_thief 48 = .ok (.iload 4, 2) := by decide +kernel
theorem dX7_thief_50 : decode cX7_thief 50 = .ok (.iconst 0, 1) := by decide +kernel
theorem dX7_thief_51 : decode cX7_thief 51 = .ok (.iload_n 2, 1) := by decide +kernel
theorem dX7_thief_52 : decode cX7_thief 52 = .ok (.invokevirtual 81, 3) := by decide +kernel
theorem dX7_thief_55 : decode cX7_thief 55 = .ok (.istore 5, 2) := by decide +kernel
theorem dX7_thief_57 : decode cX7_thief 57 = .ok (.aload_n 0, 1) := by decide +kernel
theorem dX7_thief_58 : decode cX7_thief 58 = .ok (.getfield 10, 3) := by decide +kernel
theorem dX7_thief_61 : decode cX7_thief 61 = .ok (.getfield 66, 3) := by decide +kernel
theorem dX7_thief_64 : decode cX7_thief 64 = .ok (.iload 4, 2) := by decide +kernel
theorem dX7_thief_66 : decode cX7_thief 66 = .ok (.iconst 1, 1) := by decide +kernel
theorem dX7_thief_67 : decode cX7_thief 67 = .ok (.iload_n 2, 1) := by decide +kernel
theorem dX7_thief_68 : decode cX7_thief 68 = .ok (.invokevirtual 81, 3) := by decide +kernel
theorem dX7_thief_71 : decode cX7_thief 71 = .ok (.istore 6, 2) := by decide +kernel
theorem dX7_thief_73 : decode cX7_thief 73 = .ok (.iload_n 1, 1) := by decide +kernel
theorem dX7_thief_74 : decode cX7_thief 74 = .ok (.iload 5, 2) := by decide +kernel
theorem dX7_thief_76 : decode cX7_thief 76 = .ok (.iconst (-1), 1) := by decide +kernel
theorem dX7_thief_77 : decode cX7_thief 77 = .ok (.ixor, 1) := by decide +kernel
theorem dX7_thief_78 : decode cX7_thief 78 = .ok (.iand, 1) := by decide +kernel
theorem dX7_thief_79 : decode cX7_thief 79 = .ok (.ifCond .eq 12, 3) := by decide +kernel
theorem dX7_thief_82 : decode cX7_thief 82 = .ok (.iload_n 1, 1) := by decide +kernel
theorem dX7_thief_83 : decode cX7_thief 83 = .ok (.iload 6, 2) := by decide +kernel
theorem dX7_thief_85 : decode cX7_thief 85 = .ok (.iconst (-1), 1) := by decide +kernel
theorem dX7_thief_86 : decode cX7_thief 86 = .ok (.ixor, 1) := by decide +kernel
theorem dX7_thief_87 : decode cX7_thief 87 = .ok (.iand, 1) := by decide +kernel
theorem dX7_thief_88 : decode cX7_thief 88 = .ok (.ifCond .ne 10, 3) := by decide +kernel
theorem dX7_thief_91 : decode cX7_thief 91 = .ok (.iload_n 3, 1) := by decide +kernel
theorem dX7_thief_92 : decode cX7_thief 92 = .ok (.iconst 1, 1) := by decide +kernel
theorem dX7_thief_93 : decode cX7_thief 93 = .ok (.iload 4, 2) := by decide +kernel
theorem dX7_thief_95 : decode cX7_thief 95 = .ok (.ishl, 1) := by decide +kernel
theorem dX7_thief_96 : decode cX7_thief 96 = .ok (.ior, 1) := by decide +kernel
theorem dX7_thief_97 : decode cX7_thief 97 = .ok (.istore_n 3, 1) := by decide +kernel
theorem dX7_thief_98 : decode cX7_thief 98 = .ok (.iinc 4 1, 3) := by decide +kernel
theorem dX7_thief_101 : decode cX7_thief 101 = .ok (.goto (-67), 3) := by decide +kernel
theorem dX7_thief_104 : decode cX7_thief 104 = .ok (.iload_n 3, 1) := by decide +kernel
theorem dX7_thief_105 : decode cX7_thief 105 = .ok (.ireturn, 1) := by decide +kernel
theorem dX7_both_0 : decode cX7_both 0 = .ok (.aload_n 0, 1) := by decide +kernel
theorem dX7_both_1 : decode cX7_both 1 = .ok (.getfield 10, 3) := by decide +kernel
theorem dX7_both_4 : decode cX7_both 4 = .ok (.iconst 0, 1) := by decide +kernel
theorem dX7_both_5 : decode cX7_both 5 = .ok (.invokevirtual 226, 3) := by decide +kernel
theorem dX7_both_8 : decode cX7_both 8 = .ok (.aload_n 0, 1) := by decide +kernel
theorem dX7_both_9 : decode cX7_both 9 = .ok (.getfield 10, 3) := by decide +kernel
theorem dX7_both_12 : decode cX7_both 12 = .ok (.iconst 1, 1) := by decide +kernel
theorem dX7_both_13 : decode cX7_both 13 = .ok (.invokevirtual 226, 3) := by decide +kernel
theorem dX7_both_16 : decode cX7_both 16 = .ok (.iand, 1) := by decide +kernel
theorem dX7_both_17 : decode cX7_both 17 = .ok (.ireturn, 1) := by decide +kernel
theorem dX7_seed_0 : decode cX7_seed 0 = .ok (.aload_n 0, 1) := by decide +kernel
theorem dX7_seed_1 : decode cX7_seed 1 = .ok (.getfield 10, 3) := by decide +kernel
theorem dX7_seed_4 : decode cX7_seed 4 = .ok (.getfield 245, 3) := by decide +kernel
theorem dX7_seed_7 : decode cX7_seed 7 = .ok (.istore_n 2, 1) := by decide +kernel
theorem dX7_seed_8 : decode cX7_seed 8 = .ok (.aload_n 0, 1) := by decide +kernel
theorem dX7_seed_9 : decode cX7_seed 9 = .ok (.getfield 10, 3) := by decide +kernel
theorem dX7_seed_12 : decode cX7_seed 12 = .ok (.iload_n 1, 1) := by decide +kernel
theorem dX7_seed_13 : decode cX7_seed 13 = .ok (.putfield 245, 3) := by decide +kernel
theorem dX7_seed_16 : decode cX7_seed 16 = .ok (.iload_n 2, 1) := by decide +kernel
theorem dX7_seed_17 : decode cX7_seed 17 = .ok (.ireturn, 1) := by decide +kernel
theorem dX7_voice_0 : decode cX7_voice 0 = .ok (.aload_n 0, 1) := by decide +kernel
theorem dX7_voice_1 : decode cX7_voice 1 = .ok (.iload_n 1, 1) := by decide +kernel
theorem dX7_voice_2 : decode cX7_voice 2 = .ok (.invokevirtual 132, 3) := by decide +kernel
theorem dX7_voice_5 : decode cX7_voice 5 = .ok (.ifCond .eq 12, 3) := by decide +kernel
theorem dX7_voice_8 : decode cX7_voice 8 = .ok (.iload_n 2, 1) := by decide +kernel
theorem dX7_voice_9 : decode cX7_voice 9 = .ok (.iconst 0, 1) := by decide +kernel
theorem dX7_voice_10 : decode cX7_voice 10 = .ok (.iconst 3, 1) := by decide +kernel
theorem dX7_voice_11 : decode cX7_voice 11 = .ok (.invokestatic 58, 3) := by decide +kernel
theorem dX7_voice_14 : decode cX7_voice 14 = .ok (.ifCond .ne 9, 3) := by decide +kernel
theorem dX7_voice_17 : decode cX7_voice 17 = .ok (.aload_n 0, 1) := by decide +kernel
theorem dX7_voice_18 : decode cX7_voice 18 = .ok (.iconst 1, 1) := by decide +kernel
theorem dX7_voice_19 : decode cX7_voice 19 = .ok (.invokevirtual 62, 3) := by decide +kernel
theorem dX7_voice_22 : decode cX7_voice 22 = .ok (.ireturn, 1) := by decide +kernel
theorem dX7_voice_23 : decode cX7_voice 23 = .ok (.aload_n 0, 1) := by decide +kernel
theorem dX7_voice_24 : decode cX7_voice 24 = .ok (.getfield 10, 3) := by decide +kernel
theorem dX7_voice_27 : decode cX7_voice 27 = .ok (.getfield 122, 3) := by decide +kernel
theorem dX7_voice_30 : decode cX7_voice 30 = .ok (.iload_n 1, 1) := by decide +kernel
theorem dX7_voice_31 : decode cX7_voice 31 = .ok (.aaload, 1) := by decide +kernel
theorem dX7_voice_32 : decode cX7_voice 32 = .ok (.astore 4, 2) := by decide +kernel
theorem dX7_voice_34 : decode cX7_voice 34 = .ok (.aload_n 0, 1) := by decide +kernel
theorem dX7_voice_35 : decode cX7_voice 35 = .ok (.getfield 33, 3) := by decide +kernel
theorem dX7_voice_38 : decode cX7_voice 38 = .ok (.aload 4, 2) := by decide +kernel
theorem dX7_voice_40 : decode cX7_voice 40 = .ok (.getfield 135, 3) := by decide +kernel
theorem dX7_voice_43 : decode cX7_voice 43 = .ok (.iload_n 1, 1) := by decide +kernel
theorem dX7_voice_44 : decode cX7_voice 44 = .ok (.aload 4, 2) := by decide +kernel
theorem dX7_voice_46 : decode cX7_voice 46 = .ok (.getfield 138, 3) := by decide +kernel
theorem dX7_voice_49 : decode cX7_voice 49 = .ok (.iload_n 2, 1) := by decide +kernel
theorem dX7_voice_50 : decode cX7_voice 50 = .ok (.iload_n 3, 1) := by decide +kernel
theorem dX7_voice_51 : decode cX7_voice 51 = .ok (.invokevirtual 248, 3) := by decide +kernel
theorem dX7_voice_54 : decode cX7_voice 54 = .ok (.ireturn, 1) := by decide +kernel
theorem dX7_trace_0 : decode cX7_trace 0 = .ok (.iload_n 1, 1) := by decide +kernel
theorem dX7_trace_1 : decode cX7_trace 1 = .ok (.iconst 0, 1) := by decide +kernel
theorem dX7_trace_2 : decode cX7_trace 2 = .ok (.aload_n 0, 1) := by decide +kernel
theorem dX7_trace_3 : decode cX7_trace 3 = .ok (.getfield 33, 3) := by decide +kernel
theorem dX7_trace_6 : decode cX7_trace 6 = .ok (.getfield 252, 3) := by decide +kernel
theorem dX7_trace_9 : decode cX7_trace 9 = .ok (.iconst 1, 1) := by decide +kernel
theorem dX7_trace_10 : decode cX7_trace 10 = .ok (.isub, 1) := by decide +kernel
theorem dX7_trace_11 : decode cX7_trace 11 = .ok (.invokestatic 58, 3) := by decide +kernel
theorem dX7_trace_14 : decode cX7_trace 14 = .ok (.ifCond .ne 9, 3) := by decide +kernel
theorem dX7_trace_17 : decode cX7_trace 17 = .ok (.aload_n 0, 1) := by decide +kernel
theorem dX7_trace_18 : decode cX7_trace 18 = .ok (.iconst 2, 1) := by decide +kernel
theorem dX7_trace_19 : decode cX7_trace 19 = .ok (.invokevirtual 62, 3) := by decide +kernel
theorem dX7_trace_22 : decode cX7_trace 22 = .ok (.ireturn, 1) := by decide +kernel
theorem dX7_trace_23 : decode cX7_trace 23 = .ok (.aload_n 0, 1) := by decide +kernel
theorem dX7_trace_24 : decode cX7_trace 24 = .ok (.getfield 33, 3) := by decide +kernel
theorem dX7_trace_27 : decode cX7_trace 27 = .ok (.getfield 255, 3) := by decide +kernel
theorem dX7_trace_30 : decode cX7_trace 30 = .ok (.iload_n 1, 1) := by decide +kernel
theorem dX7_trace_31 : decode cX7_trace 31 = .ok (.iaload, 1) := by decide +kernel
theorem dX7_trace_32 : decode cX7_trace 32 = .ok (.ireturn, 1) := by decide +kernel
theorem dX7_sheet_0 : decode cX7_sheet 0 = .ok (.iload_n 1, 1) := by decide +kernel
theorem dX7_sheet_1 : decode cX7_sheet 1 = .ok (.invokestatic 258, 3) := by decide +kernel
theorem dX7_sheet_4 : decode cX7_sheet 4 = .ok (.ifCond .eq 25, 3) := by decide +kernel
theorem dX7_sheet_7 : decode cX7_sheet 7 = .ok (.iload_n 2, 1) := by decide +kernel
theorem dX7_sheet_8 : decode cX7_sheet 8 = .ok (.ifCond .eq 27, 3) := by decide +kernel
theorem dX7_sheet_11 : decode cX7_sheet 11 = .ok (.iload_n 2, 1) := by decide +kernel
theorem dX7_sheet_12 : decode cX7_sheet 12 = .ok (.bipush 8, 2) := by decide +kernel
theorem dX7_sheet_14 : decode cX7_sheet 14 = .ok (.if_icmp .eq 21, 3) := by decide +kernel
theorem dX7_sheet_17 : decode cX7_sheet 17 = .ok (.iload_n 2, 1) := by decide +kernel
theorem dX7_sheet_18 : decode cX7_sheet 18 = .ok (.bipush 16, 2) := by decide +kernel
theorem dX7_sheet_20 : decode cX7_sheet 20 = .ok (.if_icmp .eq 15, 3) := by decide +kernel
theorem dX7_sheet_23 : decode cX7_sheet 23 = .ok (.iload_n 2, 1) := by decide +kernel
theorem dX7_sheet_24 : decode cX7_sheet 24 = .ok (.bipush 32, 2) := by decide +kernel
theorem dX7_sheet_26 : decode cX7_sheet 26 = .ok (.if_icmp .eq 9, 3) := by decide +kernel
theorem dX7_sheet_29 : decode cX7_sheet 29 = .ok (.aload_n 0, 1) := by decide +kernel
theorem dX7_sheet_30 : decode cX7_sheet 30 = .ok (.iconst 1, 1) := by decide +kernel
theorem dX7_sheet_31 : decode cX7_sheet 31 = .ok (.invokevirtual 62, 3) := by decide +kernel
theorem dX7_sheet_34 : decode cX7_sheet 34 = .ok (.ireturn, 1) := by decide +kernel
theorem dX7_sheet_35 : decode cX7_sheet 35 = .ok (.iload_n 2, 1) := by decide +kernel
theorem dX7_sheet_36 : decode cX7_sheet 36 = .ok (.ifCond .eq 13, 3) := by decide +kernel
theorem dX7_sheet_39 : decode cX7_sheet 39 = .ok (.iload_n 3, 1) := by decide +kernel
theorem dX7_sheet_40 : decode cX7_sheet 40 = .ok (.ifCond .ge 9, 3) := by decide +kernel
theorem dX7_sheet_43 : decode cX7_sheet 43 = .ok (.aload_n 0, 1) := by decide +kernel
theorem dX7_sheet_44 : decode cX7_sheet 44 = .ok (.iconst 3, 1) := by decide +kernel
theorem dX7_sheet_45 : decode cX7_sheet 45 = .ok (.invokevirtual 62, 3) := by decide +kernel
theorem dX7_sheet_48 : decode cX7_sheet 48 = .ok (.ireturn, 1) := by decide +kernel
theorem dX7_sheet_49 : decode cX7_sheet 49 = .ok (.iload_n 2, 1) := by decide +kernel
theorem dX7_sheet_50 : decode cX7_sheet 50 = .ok (.ifCond .eq 15, 3) := by decide +kernel
theorem dX7_sheet_53 : decode cX7_sheet 53 = .ok (.iload_n 3, 1) := by decide +kernel
theorem dX7_sheet_54 : decode cX7_sheet 54 = .ok (.bipush 40, 2) := by decide +kernel
theorem dX7_sheet_56 : decode cX7_sheet 56 = .ok (.if_icmp .le 9, 3) := by decide +kernel
theorem dX7_sheet_59 : decode cX7_sheet 59 = .ok (.aload_n 0, 1) := by decide +kernel
theorem dX7_sheet_60 : decode cX7_sheet 60 = .ok (.iconst 1, 1) := by decide +kernel
theorem dX7_sheet_61 : decode cX7_sheet 61 = .ok (.invokevirtual 62, 3) := by decide +kernel
theorem dX7_sheet_64 : decode cX7_sheet 64 = .ok (.ireturn, 1) := by decide +kernel
theorem dX7_sheet_65 : decode cX7_sheet 65 = .ok (.aload_n 0, 1) := by decide +kernel
theorem dX7_sheet_66 : decode cX7_sheet 66 = .ok (.getfield 39, 3) := by decide +kernel
theorem dX7_sheet_69 : decode cX7_sheet 69 = .ok (.iload_n 1, 1) := by decide +kernel
theorem dX7_sheet_70 : decode cX7_sheet 70 = .ok (.aaload, 1) := by decide +kernel
theorem dX7_sheet_71 : decode cX7_sheet 71 = .ok (.iload_n 2, 1) := by decide +kernel
theorem dX7_sheet_72 : decode cX7_sheet 72 = .ok (.iload_n 3, 1) := by decide +kernel
theorem dX7_sheet_73 : decode cX7_sheet 73 = .ok (.invokevirtual 261, 3) := by decide +kernel
theorem dX7_sheet_76 : decode cX7_sheet 76 = .ok (.iconst 1, 1) := by decide +kernel
theorem dX7_sheet_77 : decode cX7_sheet 77 = .ok (.ireturn, 1) := by decide +kernel
theorem dX7_put_0 : decode cX7_put 0 = .ok (.iload_n 1, 1) := by decide +kernel
theorem dX7_put_1 : decode cX7_put 1 = .ok (.invokestatic 258, 3) := by decide +kernel
theorem dX7_put_4 : decode cX7_put 4 = .ok (.ifCond .ne 9, 3) := by decide +kernel
theorem dX7_put_7 : decode cX7_put 7 = .ok (.aload_n 0, 1) := by decide +kernel
theorem dX7_put_8 : decode cX7_put 8 = .ok (.iconst 1, 1) := by decide +kernel
theorem dX7_put_9 : decode cX7_put 9 = .ok (.invokevirtual 62, 3) := by decide +kernel
theorem dX7_put_12 : decode cX7_put 12 = .ok (.ireturn, 1) := by decide +kernel
theorem dX7_put_13 : decode cX7_put 13 = .ok (.aload_n 0, 1) := by decide +kernel
theorem dX7_put_14 : decode cX7_put 14 = .ok (.getfield 39, 3) := by decide +kernel
theorem dX7_put_17 : decode cX7_put 17 = .ok (.iload_n 1, 1) := by decide +kernel
theorem dX7_put_18 : decode cX7_put 18 = .ok (.aaload, 1) := by decide +kernel
theorem dX7_put_19 : decode cX7_put 19 = .ok (.astore 4, 2) := by decide +kernel
theorem dX7_put_21 : decode cX7_put 21 = .ok (.aload 4, 2) := by decide +kernel
theorem dX7_put_23 : decode cX7_put 23 = .ok (.getfield 264, 3) := by decide +kernel
theorem dX7_put_26 : decode cX7_put 26 = .ok (.ifCond .ne 9, 3) := by decide +kernel
theorem dX7_put_29 : decode cX7_put 29 = .ok (.aload_n 0, 1) := by decide +kernel
theorem dX7_put_30 : decode cX7_put 30 = .ok (.iconst 2, 1) := by decide +kernel
theorem dX7_put_31 : decode cX7_put 31 = .ok (.invokevirtual 62, 3) := by decide +kernel
theorem dX7_put_34 : decode cX7_put 34 = .ok (.ireturn, 1) := by decide +kernel
theorem dX7_put_35 : decode cX7_put 35 = .ok (.iload_n 2, 1) := by decide +kernel
theorem dX7_put_36 : decode cX7_put 36 = .ok (.iconst 0, 1) := by decide +kernel
theorem dX7_put_37 : decode cX7_put 37 = .ok (.aload 4, 2) := by decide +kernel
theorem dX7_put_39 : decode cX7_put 39 = .ok (.getfield 267, 3) := by decide +kernel
theorem dX7_put_42 : decode cX7_put 42 = .ok (.iconst 1, 1) := by decide +kernel
theorem dX7_put_43 : decode cX7_put 43 = .ok (.isub, 1) := by decide +kernel
theorem dX7_put_44 : decode cX7_put 44 = .ok (.invokestatic 58, 3) := by decide +kernel
theorem dX7_put_47 : decode cX7_put 47 = .ok (.ifCond .ne 9, 3) := by decide +kernel
theorem dX7_put_50 : decode cX7_put 50 = .ok (.aload_n 0, 1) := by decide +kernel
theorem dX7_put_51 : decode cX7_put 51 = .ok (.iconst 1, 1) := by decide +kernel
theorem dX7_put_52 : decode cX7_put 52 = .ok (.invokevirtual 62, 3) := by decide +kernel
theorem dX7_put_55 : decode cX7_put 55 = .ok (.ireturn, 1) := by decide +kernel
theorem dX7_put_56 : decode cX7_put 56 = .ok (.aload 4, 2) := by decide +kernel
theorem dX7_put_58 : decode cX7_put 58 = .ok (.getfield 270, 3) := by decide +kernel
theorem dX7_put_61 : decode cX7_put 61 = .ok (.iload_n 2, 1) := by decide +kernel
theorem dX7_put_62 : decode cX7_put 62 = .ok (.aload 4, 2) := by decide +kernel
theorem dX7_put_64 : decode cX7_put 64 = .ok (.iload_n 3, 1) := by decide +kernel
theorem dX7_put_65 : decode cX7_put 65 = .ok (.invokevirtual 273, 3) := by decide +kernel
theorem dX7_put_68 : decode cX7_put 68 = .ok (.iastore, 1) := by decide +kernel
theorem dX7_put_69 : decode cX7_put 69 = .ok (.iconst 1, 1) := by decide +kernel
theorem dX7_put_70 : decode cX7_put 70 = .ok (.ireturn, 1) := by decide +kernel
theorem dX7_move_0 : decode cX7_move 0 = .ok (.iload_n 1, 1) := by decide +kernel
theorem dX7_move_1 : decode cX7_move 1 = .ok (.invokestatic 258, 3) := by decide +kernel
theorem dX7_move_4 : decode cX7_move 4 = .ok (.ifCond .eq 10, 3) := by decide +kernel
theorem dX7_move_7 : decode cX7_move 7 = .ok (.iload_n 3, 1) := by decide +kernel
theorem dX7_move_8 : decode cX7_move 8 = .ok (.invokestatic 258, 3) := by decide +kernel
theorem dX7_move_11 : decode cX7_move 11 = .ok (.ifCond .ne 9, 3) := by decide +kernel
theorem dX7_move_14 : decode cX7_move 14 = .ok (.aload_n 0, 1) := by decide +kernel
theorem dX7_move_15 : decode cX7_move 15 = .ok (.iconst 1, 1) := by decide +kernel
theorem dX7_move_16 : decode cX7_move 16 = .ok (.invokevirtual 62, 3) := by decide +kernel
theorem dX7_move_19 : decode cX7_move 19 = .ok (.ireturn, 1) := by decide +kernel
theorem dX7_move_20 : decode cX7_move 20 = .ok (.aload_n 0, 1) := by decide +kernel
theorem dX7_move_21 : decode cX7_move 21 = .ok (.getfield 39, 3) := by decide +kernel
theorem dX7_move_24 : decode cX7_move 24 = .ok (.iload_n 1, 1) := by decide +kernel
theorem dX7_move_25 : decode cX7_move 25 = .ok (.aaload, 1) := by decide +kernel
theorem dX7_move_26 : decode cX7_move 26 = .ok (.astore 6, 2) := by decide +kernel
theorem dX7_move_28 : decode cX7_move 28 = .ok (.aload_n 0, 1) := by decide +kernel
theorem dX7_move_29 : decode cX7_move 29 = .ok (.getfield 39, 3) := by decide +kernel
theorem dX7_move_32 : decode cX7_move 32 = .ok (.iload_n 3, 1) := by decide +kernel
theorem dX7_move_33 : decode cX7_move 33 = .ok (.aaload, 1) := by decide +kernel
theorem dX7_move_34 : decode cX7_move 34 = .ok (.astore 7, 2) := by decide +kernel
theorem dX7_move_36 : decode cX7_move 36 = .ok (.aload 6, 2) := by decide +kernel
theorem dX7_move_38 : decode cX7_move 38 = .ok (.getfield 264, 3) := by decide +kernel
theorem dX7_move_41 : decode cX7_move 41 = .ok (.ifCond .eq 11, 3) := by decide +kernel
theorem dX7_move_44 : decode cX7_move 44 = .ok (.aload 7, 2) := by decide +kernel
theorem dX7_move_46 : decode cX7_move 46 = .ok (.getfield 264, 3) := by decide +kernel
theorem dX7_move_49 : decode cX7_move 49 = .ok (.ifCond .ne 9, 3) := by decide +kernel
theorem dX7_move_52 : decode cX7_move 52 = .ok (.aload_n 0, 1) := by decide +kernel
theorem dX7_move_53 : decode cX7_move 53 = .ok (.iconst 2, 1) := by decide +kernel
theorem dX7_move_54 : decode cX7_move 54 = .ok (.invokevirtual 62, 3) := by decide +kernel
theorem dX7_move_57 : decode cX7_move 57 = .ok (.ireturn, 1) := by decide +kernel
theorem dX7_move_58 : decode cX7_move 58 = .ok (.aload 6, 2) := by decide +kernel
theorem dX7_move_60 : decode cX7_move 60 = .ok (.getfield 264, 3) := by decide +kernel
theorem dX7_move_63 : decode cX7_move 63 = .ok (.aload 7, 2) := by decide +kernel
theorem dX7_move_65 : decode cX7_move 65 = .ok (.getfield 264, 3) := by decide +kernel
theorem dX7_move_68 : decode cX7_move 68 = .ok (.if_icmp .eq 9, 3) := by decide +kernel
theorem dX7_move_71 : decode cX7_move 71 = .ok (.aload_n 0, 1) := by decide +kernel
theorem dX7_move_72 : decode cX7_move 72 = .ok (.iconst 5, 1) := by decide +kernel
theorem dX7_move_73 : decode cX7_move 73 = .ok (.invokevirtual 62, 3) := by decide +kernel
theorem dX7_move_76 : decode cX7_move 76 = .ok (.ireturn, 1) := by decide +kernel
theorem dX7_move_77 : decode cX7_move 77 = .ok (.aload 6, 2) := by decide +kernel
theorem dX7_move_79 : decode cX7_move 79 = .ok (.iload_n 2, 1) := by decide +kernel
theorem dX7_move_80 : decode cX7_move 80 = .ok (.iload 5, 2) := by decide +kernel
theorem dX7_move_82 : decode cX7_move 82 = .ok (.invokevirtual 276, 3) := by decide +kernel
theorem dX7_move_85 : decode cX7_move 85 = .ok (.ifCond .eq 15, 3) := by decide +kernel
theorem dX7_move_88 : decode cX7_move 88 = .ok (.aload 7, 2) := by decide +kernel
theorem dX7_move_90 : decode cX7_move 90 = .ok (.iload 4, 2) := by decide +kernel
theorem dX7_move_92 : decode cX7_move 92 = .ok (.iload 5, 2) := by decide +kernel
theorem dX7_move_94 : decode cX7_move 94 = .ok (.invokevirtual 276, 3) := by decide +kernel
theorem dX7_move_97 : decode cX7_move 97 = .ok (.ifCond .ne 9, 3) := by decide +kernel
theorem dX7_move_100 : decode cX7_move 100 = .ok (.aload_n 0, 1) := by decide +kernel
theorem dX7_move_101 : decode cX7_move 101 = .ok (.iconst 1, 1) := by decide +kernel
theorem dX7_move_102 : decode cX7_move 102 = .ok (.invokevirtual 62, 3) := by decide +kernel
theorem dX7_move_105 : decode cX7_move 105 = .ok (.ireturn, 1) := by decide +kernel
theorem dX7_move_106 : decode cX7_move 106 = .ok (.aload 6, 2) := by decide +kernel
theorem dX7_move_108 : decode cX7_move 108 = .ok (.getfield 270, 3) := by decide +kernel
theorem dX7_move_111 : decode cX7_move 111 = .ok (.iload_n 2, 1) := by decide +kernel
theorem dX7_move_112 : decode cX7_move 112 = .ok (.aload 7, 2) := by decide +kernel
theorem dX7_move_114 : decode cX7_move 114 = .ok (.getfield 270, 3) := by decide +kernel
theorem dX7_move_117 : decode cX7_move 117 = .ok (.iload 4, 2) := by decide +kernel
theorem dX7_move_119 : decode cX7_move 119 = .ok (.iload 5, 2) := by decide +kernel
theorem dX7_move_121 : decode cX7_move 121 = .ok (.invokestatic 280, 3) := by decide +kernel
theorem dX7_move_124 : decode cX7_move 124 = .ok (.iload 5, 2) := by decide +kernel
theorem dX7_move_126 : decode cX7_move 126 = .ok (.ireturn, 1) := by decide +kernel
theorem dX7_heights_0 : decode cX7_heights 0 = .ok (.iload_n 1, 1) := by decide +kernel
theorem dX7_heights_1 : decode cX7_heights 1 = .ok (.invokestatic 258, 3) := by decide +kernel
theorem dX7_heights_4 : decode cX7_heights 4 = .ok (.ifCond .ne 9, 3) := by decide +kernel
theorem dX7_heights_7 : decode cX7_heights 7 = .ok (.aload_n 0, 1) := by decide +kernel
theorem dX7_heights_8 : decode cX7_heights 8 = .ok (.iconst 1, 1) := by decide +kernel
theorem dX7_heights_9 : decode cX7_heights 9 = .ok (.invokevirtual 62, 3) := by decide +kernel
theorem dX7_heights_12 : decode cX7_heights 12 = .ok (.ireturn, 1) := by decide +kernel
theorem dX7_heights_13 : decode cX7_heights 13 = .ok (.aload_n 0, 1) := by decide +kernel
theorem dX7_heights_14 : decode cX7_heights 14 = .ok (.getfield 39, 3) := by decide +kernel
theorem dX7_heights_17 : decode cX7_heights 17 = .ok (.iload_n 1, 1) := by decide +kernel
theorem dX7_heights_18 : decode cX7_heights 18 = .ok (.aaload, 1) := by decide +kernel
theorem dX7_heights_19 : decode cX7_heights 19 = .ok (.astore_n 2, 1) := by decide +kernel
theorem dX7_heights_20 : decode cX7_heights 20 = .ok (.aload_n 2, 1) := by decide +kernel
theorem dX7_heights_21 : decode cX7_heights 21 = .ok (.getfield 264, 3) := by decide +kernel
theorem dX7_heights_24 : decode cX7_heights 24 = .ok (.ifCond .ne 9, 3) := by decide +kernel
theorem dX7_heights_27 : decode cX7_heights 27 = .ok (.aload_n 0, 1) := by decide +kernel
theorem dX7_heights_28 : decode cX7_heights 28 = .ok (.iconst 2, 1) := by decide +kernel
theorem dX7_heights_29 : decode cX7_heights 29 = .ok (.invokevirtual 62, 3) := by decide +kernel
theorem dX7_heights_32 : decode cX7_heights 32 = .ok (.ireturn, 1) := by decide +kernel
theorem dX7_heights_33 : decode cX7_heights 33 = .ok (.iconst 0, 1) := by decide +kernel
theorem dX7_heights_34 : decode cX7_heights 34 = .ok (.istore_n 3, 1) := by decide +kernel
theorem dX7_heights_35 : decode cX7_heights 35 = .ok (.iload_n 3, 1) := by decide +kernel
theorem dX7_heights_36 : decode cX7_heights 36 = .ok (.bipush 20, 2) := by decide +kernel
theorem dX7_heights_38 : decode cX7_heights 38 = .ok (.if_icmp .ge 50, 3) := by decide +kernel
theorem dX7_heights_41 : decode cX7_heights 41 = .ok (.iload_n 3, 1) := by decide +kernel
theorem dX7_heights_42 : decode cX7_heights 42 = .ok (.aload_n 2, 1) := by decide +kernel
theorem dX7_heights_43 : decode cX7_heights 43 = .ok (.getfield 267, 3) := by decide +kernel
theorem dX7_heights_46 : decode cX7_heights 46 = .ok (.if_icmp .ge 42, 3) := by decide +kernel
theorem dX7_heights_49 : decode cX7_heights 49 = .ok (.aload_n 2, 1) := by decide +kernel
theorem dX7_heights_50 : decode cX7_heights 50 = .ok (.getfield 270, 3) := by decide +kernel
theorem dX7_heights_53 : decode cX7_heights 53 = .ok (.iload_n 3, 1) := by decide +kernel
theorem dX7_heights_54 : decode cX7_heights 54 = .ok (.iaload, 1) := by decide +kernel
theorem dX7_heights_55 : decode cX7_heights 55 = .ok (.iconst 0, 1) := by decide +kernel
theorem dX7_heights_56 : decode cX7_heights 56 = .ok (.bipush 20, 2) := by decide +kernel
theorem dX7_heights_58 : decode cX7_heights 58 = .ok (.invokestatic 58, 3) := by decide +kernel
theorem dX7_heights_61 : decode cX7_heights 61 = .ok (.ifCond .eq 27, 3) := by decide +kernel
theorem dX7_heights_64 : decode cX7_heights 64 = .ok (.aload_n 0, 1) := by decide +kernel
theorem dX7_heights_65 : decode cX7_heights 65 = .ok (.getfield 10, 3) := by decide +kernel
theorem dX7_heights_68 : decode cX7_heights 68 = .ok (.getfield 66, 3) := by decide +kernel
theorem dX7_heights_71 : decode cX7_heights 71 = .ok (.getfield 70, 3) := by decide +kernel
theorem dX7_heights_74 : decode cX7_heights 74 = .ok (.iload_n 3, 1) := by decide +kernel
theorem dX7_heights_75 : decode cX7_heights 75 = .ok (.aload_n 2, 1) := by decide +kernel
theorem dX7_heights_76 : decode cX7_heights 76 = .ok (.getfield 270, 3) := by decide +kernel
theorem dX7_heights_79 : decode cX7_heights 79 = .ok (.iload_n 3, 1) := by decide +kernel
theorem dX7_heights_80 : decode cX7_heights 80 = .ok (.iaload, 1) := by decide +kernel
theorem dX7_heights_81 : decode cX7_heights 81 = .ok (.iastore, 1) := by decide +kernel
theorem dX7_heights_82 : decode cX7_heights 82 = .ok (.iinc 3 1, 3) := by decide +kernel
theorem dX7_heights_85 : decode cX7_heights 85 = .ok (.goto (-50), 3) := by decide +kernel
theorem dX7_heights_88 : decode cX7_heights 88 = .ok (.iload_n 3, 1) := by decide +kernel
theorem dX7_heights_89 : decode cX7_heights 89 = .ok (.ireturn, 1) := by decide +kernel
theorem dX7_judge_0 : decode cX7_judge 0 = .ok (.iload_n 1, 1) := by decide +kernel
theorem dX7_judge_1 : decode cX7_judge 1 = .ok (.invokestatic 258, 3) := by decide +kernel
theorem dX7_judge_4 : decode cX7_judge 4 = .ok (.ifCond .ne 9, 3) := by decide +kernel
theorem dX7_judge_7 : decode cX7_judge 7 = .ok (.aload_n 0, 1) := by decide +kernel
theorem dX7_judge_8 : decode cX7_judge 8 = .ok (.iconst 1, 1) := by decide +kernel
theorem dX7_judge_9 : decode cX7_judge 9 = .ok (.invokevirtual 62, 3) := by decide +kernel
theorem dX7_judge_12 : decode cX7_judge 12 = .ok (.ireturn, 1) := by decide +kernel
theorem dX7_judge_13 : decode cX7_judge 13 = .ok (.aload_n 0, 1) := by decide +kernel
theorem dX7_judge_14 : decode cX7_judge 14 = .ok (.getfield 39, 3) := by decide +kernel
theorem dX7_judge_17 : decode cX7_judge 17 = .ok (.iload_n 1, 1) := by decide +kernel
theorem dX7_judge_18 : decode cX7_judge 18 = .ok (.aaload, 1) := by decide +kernel
theorem dX7_judge_19 : decode cX7_judge 19 = .ok (.astore_n 2, 1) := by decide +kernel
theorem dX7_judge_20 : decode cX7_judge 20 = .ok (.aload_n 2, 1) := by decide +kernel
theorem dX7_judge_21 : decode cX7_judge 21 = .ok (.getfield 264, 3) := by decide +kernel
theorem dX7_judge_24 : decode cX7_judge 24 = .ok (.ifCond .ne 9, 3) := by decide +kernel
theorem dX7_judge_27 : decode cX7_judge 27 = .ok (.aload_n 0, 1) := by decide +kernel
theorem dX7_judge_28 : decode cX7_judge 28 = .ok (.iconst 2, 1) := by decide +kernel
theorem dX7_judge_29 : decode cX7_judge 29 = .ok (.invokevirtual 62, 3) := by decide +kernel
theorem dX7_judge_32 : decode cX7_judge 32 = .ok (.ireturn, 1) := by decide +kernel
theorem dX7_judge_33 : decode cX7_judge 33 = .ok (.iconst 0, 1) := by decide +kernel
theorem dX7_judge_34 : decode cX7_judge 34 = .ok (.istore_n 3, 1) := by decide +kernel
theorem dX7_judge_35 : decode cX7_judge 35 = .ok (.iload_n 3, 1) := by decide +kernel
theorem dX7_judge_36 : decode cX7_judge 36 = .ok (.bipush 20, 2) := by decide +kernel
theorem dX7_judge_38 : decode cX7_judge 38 = .ok (.if_icmp .ge 38, 3) := by decide +kernel
theorem dX7_judge_41 : decode cX7_judge 41 = .ok (.iload_n 3, 1) := by decide +kernel
theorem dX7_judge_42 : decode cX7_judge 42 = .ok (.aload_n 2, 1) := by decide +kernel
theorem dX7_judge_43 : decode cX7_judge 43 = .ok (.getfield 267, 3) := by decide +kernel
theorem dX7_judge_46 : decode cX7_judge 46 = .ok (.if_icmp .ge 30, 3) := by decide +kernel
theorem dX7_judge_49 : decode cX7_judge 49 = .ok (.aload_n 2, 1) := by decide +kernel
theorem dX7_judge_50 : decode cX7_judge 50 = .ok (.getfield 270, 3) := by decide +kernel
theorem dX7_judge_53 : decode cX7_judge 53 = .ok (.iload_n 3, 1) := by decide +kernel
theorem dX7_judge_54 : decode cX7_judge 54 = .ok (.iaload, 1) := by decide +kernel
theorem dX7_judge_55 : decode cX7_judge 55 = .ok (.aload_n 0, 1) := by decide +kernel
theorem dX7_judge_56 : decode cX7_judge 56 = .ok (.getfield 10, 3) := by decide +kernel
theorem dX7_judge_59 : decode cX7_judge 59 = .ok (.getfield 66, 3) := by decide +kernel
theorem dX7_judge_62 : decode cX7_judge 62 = .ok (.getfield 75, 3) := by decide +kernel
theorem dX7_judge_65 : decode cX7_judge 65 = .ok (.iload_n 3, 1) := by decide +kernel
theorem dX7_judge_66 : decode cX7_judge 66 = .ok (.iaload, 1) := by decide +kernel
theorem dX7_judge_67 : decode cX7_judge 67 = .ok (.if_icmp .ne 9, 3) := by decide +kernel
theorem dX7_judge_70 : decode cX7_judge 70 = .ok (.iinc 3 1, 3) := by decide +kernel
theorem dX7_judge_73 : decode cX7_judge 73 = .ok (.goto (-38), 3) := by decide +kernel
theorem dX7_judge_76 : decode cX7_judge 76 = .ok (.iload_n 3, 1) := by decide +kernel
theorem dX7_judge_77 : decode cX7_judge 77 = .ok (.bipush 20, 2) := by decide +kernel
theorem dX7_judge_79 : decode cX7_judge 79 = .ok (.if_icmp .ne 15, 3) := by decide +kernel
theorem dX7_judge_82 : decode cX7_judge 82 = .ok (.iload_n 3, 1) := by decide +kernel
theorem dX7_judge_83 : decode cX7_judge 83 = .ok (.aload_n 2, 1) := by decide +kernel
theorem dX7_judge_84 : decode cX7_judge 84 = .ok (.getfield 267, 3) := by decide +kernel
theorem dX7_judge_87 : decode cX7_judge 87 = .ok (.if_icmp .ne 7, 3) := by decide +kernel
theorem dX7_judge_90 : decode cX7_judge 90 = .ok (.iconst (-1), 1) := by decide +kernel
theorem dX7_judge_91 : decode cX7_judge 91 = .ok (.goto 4, 3) := by decide +kernel
theorem dX7_judge_94 : decode cX7_judge 94 = .ok (.iload_n 3, 1) := by decide +kernel
theorem dX7_judge_95 : decode cX7_judge 95 = .ok (.ireturn, 1) := by decide +kernel
theorem dX7_image_0 : decode cX7_image 0 = .ok (.aload_n 0, 1) := by decide +kernel
theorem dX7_image_1 : decode cX7_image 1 = .ok (.getfield 16, 3) := by decide +kernel
theorem dX7_image_4 : decode cX7_image 4 = .ok (.aload_n 0, 1) := by decide +kernel
theorem dX7_image_5 : decode cX7_image 5 = .ok (.getfield 10, 3) := by decide +kernel
theorem dX7_image_8 : decode cX7_image 8 = .ok (.invokevirtual 286, 3) := by decide +kernel
theorem dX7_image_11 : decode cX7_image 11 = .ok (.aload_n 0, 1) := by decide +kernel
theorem dX7_image_12 : decode cX7_image 12 = .ok (.dup, 1) := by decide +kernel
theorem dX7_image_13 : decode cX7_image 13 = .ok (.getfield 19, 3) := by decide +kernel
theorem dX7_image_16 : decode cX7_image 16 = .ok (.iconst 1, 1) := by decide +kernel
theorem dX7_image_17 : decode cX7_image 17 = .ok (.iadd, 1) := by decide +kernel
theorem dX7_image_18 : decode cX7_image 18 = .ok (.putfield 19, 3) := by decide +kernel
theorem dX7_image_21 : decode cX7_image 21 = .ok (.aload_n 0, 1) := by decide +kernel
theorem dX7_image_22 : decode cX7_image 22 = .ok (.getfield 19, 3) := by decide +kernel
theorem dX7_image_25 : decode cX7_image 25 = .ok (.ireturn, 1) := by decide +kernel
theorem dX7_restore_0 : decode cX7_restore 0 = .ok (.aload_n 0, 1) := by decide +kernel
theorem dX7_restore_1 : decode cX7_restore 1 = .ok (.getfield 19, 3) := by decide +kernel
theorem dX7_restore_4 : decode cX7_restore 4 = .ok (.ifCond .ne 9, 3) := by decide +kernel
theorem dX7_restore_7 : decode cX7_restore 7 = .ok (.aload_n 0, 1) := by decide +kernel
theorem dX7_restore_8 : decode cX7_restore 8 = .ok (.iconst 2, 1) := by decide +kernel
theorem dX7_restore_9 : decode cX7_restore 9 = .ok (.invokevirtual 62, 3) := by decide +kernel
theorem dX7_restore_12 : decode cX7_restore 12 = .ok (.ireturn, 1) := by decide +kernel
theorem dX7_restore_13 : decode cX7_restore 13 = .ok (.aload_n 0, 1) := by decide +kernel
theorem dX7_restore_14 : decode cX7_restore 14 = .ok (.getfield 10, 3) := by decide +kernel
theorem dX7_restore_17 : decode cX7_restore 17 = .ok (.aload_n 0, 1) := by decide +kernel
theorem dX7_restore_18 : decode cX7_restore 18 = .ok (.getfield 16, 3) := by decide +kernel
theorem dX7_restore_21 : decode cX7_restore 21 = .ok (.invokevirtual 286, 3) := by decide +kernel
theorem dX7_restore_24 : decode cX7_restore 24 = .ok (.aload_n 0, 1) := by decide +kernel
theorem dX7_restore_25 : decode cX7_restore 25 = .ok (.getfield 10, 3) := by decide +kernel
theorem dX7_restore_28 : decode cX7_restore 28 = .ok (.getfield 210, 3) := by decide +kernel
theorem dX7_restore_31 : decode cX7_restore 31 = .ok (.ireturn, 1) := by decide +kernel
theorem dX7_tell_0 : decode cX7_tell 0 = .ok (.aload_n 0, 1) := by decide +kernel
theorem dX7_tell_1 : decode cX7_tell 1 = .ok (.getfield 10, 3) := by decide +kernel
theorem dX7_tell_4 : decode cX7_tell 4 = .ok (.getfield 290, 3) := by decide +kernel
theorem dX7_tell_7 : decode cX7_tell 7 = .ok (.bipush 20, 2) := by decide +kernel
theorem dX7_tell_9 : decode cX7_tell 9 = .ok (.if_icmp .lt 9, 3) := by decide +kernel
theorem dX7_tell_12 : decode cX7_tell 12 = .ok (.aload_n 0, 1) := by decide +kernel
theorem dX7_tell_13 : decode cX7_tell 13 = .ok (.iconst 4, 1) := by decide +kernel
theorem dX7_tell_14 : decode cX7_tell 14 = .ok (.invokevirtual 62, 3) := by decide +kernel
theorem dX7_tell_17 : decode cX7_tell 17 = .ok (.ireturn, 1) := by decide +kernel
theorem dX7_tell_18 : decode cX7_tell 18 = .ok (.aload_n 0, 1) := by decide +kernel
theorem dX7_tell_19 : decode cX7_tell 19 = .ok (.getfield 10, 3) := by decide +kernel
theorem dX7_tell_22 : decode cX7_tell 22 = .ok (.getfield 293, 3) := by decide +kernel
theorem dX7_tell_25 : decode cX7_tell 25 = .ok (.aload_n 0, 1) := by decide +kernel
theorem dX7_tell_26 : decode cX7_tell 26 = .ok (.getfield 10, 3) := by decide +kernel
theorem dX7_tell_29 : decode cX7_tell 29 = .ok (.getfield 290, 3) := by decide +kernel
theorem dX7_tell_32 : decode cX7_tell 32 = .ok (.iload_n 1, 1) := by decide +kernel
theorem dX7_tell_33 : decode cX7_tell 33 = .ok (.iastore, 1) := by decide +kernel
theorem dX7_tell_34 : decode cX7_tell 34 = .ok (.aload_n 0, 1) := by decide +kernel
theorem dX7_tell_35 : decode cX7_tell 35 = .ok (.getfield 10, 3) := by decide +kernel
theorem dX7_tell_38 : decode cX7_tell 38 = .ok (.dup, 1) := by decide +kernel
theorem dX7_tell_39 : decode cX7_tell 39 = .ok (.getfield 290, 3) := by decide +kernel
theorem dX7_tell_42 : decode cX7_tell 42 = .ok (.iconst 1, 1) := by decide +kernel
theorem dX7_tell_43 : decode cX7_tell 43 = .ok (.iadd, 1) := by decide +kernel
theorem dX7_tell_44 : decode cX7_tell 44 = .ok (.putfield 290, 3) := by decide +kernel
theorem dX7_tell_47 : decode cX7_tell 47 = .ok (.aload_n 0, 1) := by decide +kernel
theorem dX7_tell_48 : decode cX7_tell 48 = .ok (.getfield 10, 3) := by decide +kernel
theorem dX7_tell_51 : decode cX7_tell 51 = .ok (.getfield 290, 3) := by decide +kernel
theorem dX7_tell_54 : decode cX7_tell 54 = .ok (.ireturn, 1) := by decide +kernel
theorem dX7_check_0 : decode cX7_check 0 = .ok (.aload_n 0, 1) := by decide +kernel
theorem dX7_check_1 : decode cX7_check 1 = .ok (.getfield 10, 3) := by decide +kernel
theorem dX7_check_4 : decode cX7_check 4 = .ok (.getfield 290, 3) := by decide +kernel
theorem dX7_check_7 : decode cX7_check 7 = .ok (.istore_n 1, 1) := by decide +kernel
theorem dX7_check_8 : decode cX7_check 8 = .ok (.aload_n 0, 1) := by decide +kernel
theorem dX7_check_9 : decode cX7_check 9 = .ok (.getfield 10, 3) := by decide +kernel
theorem dX7_check_12 : decode cX7_check 12 = .ok (.iconst 0, 1) := by decide +kernel
theorem dX7_check_13 : decode cX7_check 13 = .ok (.putfield 290, 3) := by decide +kernel
theorem dX7_check_16 : decode cX7_check 16 = .ok (.iconst 0, 1) := by decide +kernel
theorem dX7_check_17 : decode cX7_check 17 = .ok (.istore_n 2, 1) := by decide +kernel
theorem dX7_check_18 : decode cX7_check 18 = .ok (.iload_n 2, 1) := by decide +kernel
theorem dX7_check_19 : decode cX7_check 19 = .ok (.iload_n 1, 1) := by decide +kernel
theorem dX7_check_20 : decode cX7_check 20 = .ok (.if_icmp .ge 32, 3) := by decide +kernel
theorem dX7_check_23 : decode cX7_check 23 = .ok (.aload_n 0, 1) := by decide +kernel
theorem dX7_check_24 : decode cX7_check 24 = .ok (.getfield 10, 3) := by decide +kernel
theorem dX7_check_27 : decode cX7_check 27 = .ok (.getfield 293, 3) := by decide +kernel
theorem dX7_check_30 : decode cX7_check 30 = .ok (.iload_n 2, 1) := by decide +kernel
theorem dX7_check_31 : decode cX7_check 31 = .ok (.iaload, 1) := by decide +kernel
theorem dX7_check_32 : decode cX7_check 32 = .ok (.aload_n 0, 1) := by decide +kernel
theorem dX7_check_33 : decode cX7_check 33 = .ok (.iload_n 2, 1) := by decide +kernel
theorem dX7_check_34 : decode cX7_check 34 = .ok (.iconst 1, 1) := by decide +kernel
theorem dX7_check_35 : decode cX7_check 35 = .ok (.iadd, 1) := by decide +kernel
theorem dX7_check_36 : decode cX7_check 36 = .ok (.invokevirtual 216, 3) := by decide +kernel
theorem dX7_check_39 : decode cX7_check 39 = .ok (.if_icmp .eq 7, 3) := by decide +kernel
theorem dX7_check_42 : decode cX7_check 42 = .ok (.iconst 1, 1) := by decide +kernel
theorem dX7_check_43 : decode cX7_check 43 = .ok (.iload_n 2, 1) := by decide +kernel
theorem dX7_check_44 : decode cX7_check 44 = .ok (.iadd, 1) := by decide +kernel
theorem dX7_check_45 : decode cX7_check 45 = .ok (.ireturn, 1) := by decide +kernel
theorem dX7_check_46 : decode cX7_check 46 = .ok (.iinc 2 1, 3) := by decide +kernel
theorem dX7_check_49 : decode cX7_check 49 = .ok (.goto (-31), 3) := by decide +kernel
theorem dX7_check_52 : decode cX7_check 52 = .ok (.iconst 0, 1) := by decide +kernel
theorem dX7_check_53 : decode cX7_check 53 = .ok (.ireturn, 1) := by decide +kernel
theorem dX7_count_0 : decode cX7_count 0 = .ok (.iload_n 1, 1) := by decide +kernel
theorem dX7_count_1 : decode cX7_count 1 = .ok (.tableswitch 148 0 9 #[55, 63, 71, 79, 85, 93, 113, 124, 132, 140], 55) := by decide +kernel
theorem dX7_count_56 : decode cX7_count 56 = .ok (.aload_n 0, 1) := by decide +kernel
theorem dX7_count_57 : decode cX7_count 57 = .ok (.getfield 10, 3) := by decide +kernel
theorem dX7_count_60 : decode cX7_count 60 = .ok (.getfield 97, 3) := by decide +kernel
theorem dX7_count_63 : decode cX7_count 63 = .ok (.ireturn, 1) := by decide +kernel
theorem dX7_count_64 : decode cX7_count 64 = .ok (.aload_n 0, 1) := by decide +kernel
theorem dX7_count_65 : decode cX7_count 65 = .ok (.getfield 10, 3) := by decide +kernel
theorem dX7_count_68 : decode cX7_count 68 = .ok (.getfield 115, 3) := by decide +kernel
theorem dX7_count_71 : decode cX7_count 71 = .ok (.ireturn, 1) := by decide +kernel
theorem dX7_count_72 : decode cX7_count 72 = .ok (.aload_n 0, 1) := by decide +kernel
theorem dX7_count_73 : decode cX7_count 73 = .ok (.getfield 10, 3) := by decide +kernel
theorem dX7_count_76 : decode cX7_count 76 = .ok (.getfield 210, 3) := by decide +kernel
theorem dX7_count_79 : decode cX7_count 79 = .ok (.ireturn, 1) := by decide +kernel
theorem dX7_count_80 : decode cX7_count 80 = .ok (.aload_n 0, 1) := by decide +kernel
theorem dX7_count_81 : decode cX7_count 81 = .ok (.iconst 0, 1) := by decide +kernel
theorem dX7_count_82 : decode cX7_count 82 = .ok (.invokevirtual 216, 3) := by decide +kernel
theorem dX7_count_85 : decode cX7_count 85 = .ok (.ireturn, 1) := by decide +kernel
theorem dX7_count_86 : decode cX7_count 86 = .ok (.aload_n 0, 1) := by decide +kernel
theorem dX7_count_87 : decode cX7_count 87 = .ok (.getfield 10, 3) := by decide +kernel
theorem dX7_count_90 : decode cX7_count 90 = .ok (.invokevirtual 296, 3) := by decide +kernel
theorem dX7_count_93 : decode cX7_count 93 = .ok (.ireturn, 1) := by decide +kernel
theorem dX7_count_94 : decode cX7_count 94 = .ok (.aload_n 0, 1) := by decide +kernel
theorem dX7_count_95 : decode cX7_count 95 = .ok (.invokevirtual 236, 3) := by decide +kernel
theorem dX7_count_98 : decode cX7_count 98 = .ok (.aload_n 0, 1) := by decide +kernel
theorem dX7_count_99 : decode cX7_count 99 = .ok (.iconst 1, 1) := by decide +kernel
theorem dX7_count_100 : decode cX7_count 100 = .ok (.aload_n 0, 1) := by decide +kernel
theorem dX7_count_101 : decode cX7_count 101 = .ok (.getfield 10, 3) := by decide +kernel
theorem dX7_count_104 : decode cX7_count 104 = .ok (.getfield 115, 3) := by decide +kernel
theorem dX7_count_107 : decode cX7_count 107 = .ok (.ishl, 1) := by decide +kernel
theorem dX7_count_108 : decode cX7_count 108 = .ok (.iconst 1, 1) := by decide +kernel
theorem dX7_count_109 : decode cX7_count 109 = .ok (.isub, 1) := by decide +kernel
theorem dX7_count_110 : decode cX7_count 110 = .ok (.invokevirtual 239, 3) := by decide +kernel
theorem dX7_count_113 : decode cX7_count 113 = .ok (.ireturn, 1) := by decide +kernel
theorem dX7_count_114 : decode cX7_count 114 = .ok (.aload_n 0, 1) := by decide +kernel
theorem dX7_count_115 : decode cX7_count 115 = .ok (.getfield 10, 3) := by decide +kernel
theorem dX7_count_118 : decode cX7_count 118 = .ok (.getfield 179, 3) := by decide +kernel
theorem dX7_count_121 : decode cX7_count 121 = .ok (.getfield 183, 3) := by decide +kernel
theorem dX7_count_124 : decode cX7_count 124 = .ok (.ireturn, 1) := by decide +kernel
theorem dX7_count_125 : decode cX7_count 125 = .ok (.aload_n 0, 1) := by decide +kernel
theorem dX7_count_126 : decode cX7_count 126 = .ok (.getfield 10, 3) := by decide +kernel
theorem dX7_count_129 : decode cX7_count 129 = .ok (.getfield 290, 3) := by decide +kernel
theorem dX7_count_132 : decode cX7_count 132 = .ok (.ireturn, 1) := by decide +kernel
theorem dX7_count_133 : decode cX7_count 133 = .ok (.aload_n 0, 1) := by decide +kernel
theorem dX7_count_134 : decode cX7_count 134 = .ok (.getfield 33, 3) := by decide +kernel
theorem dX7_count_137 : decode cX7_count 137 = .ok (.getfield 252, 3) := by decide +kernel
theorem dX7_count_140 : decode cX7_count 140 = .ok (.ireturn, 1) := by decide +kernel
theorem dX7_count_141 : decode cX7_count 141 = .ok (.aload_n 0, 1) := by decide +kernel
theorem dX7_count_142 : decode cX7_count 142 = .ok (.getfield 10, 3) := by decide +kernel
theorem dX7_count_145 : decode cX7_count 145 = .ok (.getfield 245, 3) := by decide +kernel
theorem dX7_count_148 : decode cX7_count 148 = .ok (.ireturn, 1) := by decide +kernel
theorem dX7_count_149 : decode cX7_count 149 = .ok (.aload_n 0, 1) := by decide +kernel
theorem dX7_count_150 : decode cX7_count 150 = .ok (.iconst 1, 1) := by decide +kernel
theorem dX7_count_151 : decode cX7_count 151 = .ok (.invokevirtual 62, 3) := by decide +kernel
theorem dX7_count_154 : decode cX7_count 154 = .ok (.ireturn, 1) := by decide +kernel
theorem dX7_told_0 : decode cX7_told 0 = .ok (.iload_n 1, 1) := by decide +kernel
theorem dX7_told_1 : decode cX7_told 1 = .ok (.iconst 1, 1) := by decide +kernel
theorem dX7_told_2 : decode cX7_told 2 = .ok (.iconst 5, 1) := by decide +kernel
theorem dX7_told_3 : decode cX7_told 3 = .ok (.invokestatic 58, 3) := by decide +kernel
theorem dX7_told_6 : decode cX7_told 6 = .ok (.ifCond .ne 9, 3) := by decide +kernel
theorem dX7_told_9 : decode cX7_told 9 = .ok (.aload_n 0, 1) := by decide +kernel
theorem dX7_told_10 : decode cX7_told 10 = .ok (.iconst 1, 1) := by decide +kernel
theorem dX7_told_11 : decode cX7_told 11 = .ok (.invokevirtual 62, 3) := by decide +kernel
theorem dX7_told_14 : decode cX7_told 14 = .ok (.ireturn, 1) := by decide +kernel
theorem dX7_told_15 : decode cX7_told 15 = .ok (.aload_n 0, 1) := by decide +kernel
theorem dX7_told_16 : decode cX7_told 16 = .ok (.getfield 43, 3) := by decide +kernel
theorem dX7_told_19 : decode cX7_told 19 = .ok (.iload_n 1, 1) := by decide +kernel
theorem dX7_told_20 : decode cX7_told 20 = .ok (.iaload, 1) := by decide +kernel
theorem dX7_told_21 : decode cX7_told 21 = .ok (.ireturn, 1) := by decide +kernel
theorem dX7_error_0 : decode cX7_error 0 = .ok (.aload_n 0, 1) := by decide +kernel
theorem dX7_error_1 : decode cX7_error 1 = .ok (.getfield 43, 3) := by decide +kernel
theorem dX7_error_4 : decode cX7_error 4 = .ok (.iload_n 1, 1) := by decide +kernel
theorem dX7_error_5 : decode cX7_error 5 = .ok (.dup2, 1) := by decide +kernel
theorem dX7_error_6 : decode cX7_error 6 = .ok (.iaload, 1) := by decide +kernel
theorem dX7_error_7 : decode cX7_error 7 = .ok (.iconst 1, 1) := by decide +kernel
theorem dX7_error_8 : decode cX7_error 8 = .ok (.iadd, 1) := by decide +kernel
theorem dX7_error_9 : decode cX7_error 9 = .ok (.iastore, 1) := by decide +kernel
theorem dX7_error_10 : decode cX7_error 10 = .ok (.ldc_w 299, 3) := by decide +kernel
theorem dX7_error_13 : decode cX7_error 13 = .ok (.iload_n 1, 1) := by decide +kernel
theorem dX7_error_14 : decode cX7_error 14 = .ok (.isub, 1) := by decide +kernel
theorem dX7_error_15 : decode cX7_error 15 = .ok (.ireturn, 1) := by decide +kernel
theorem dX7_isWithin_0 : decode cX7_isWithin 0 = .ok (.iload_n 0, 1) := by decide +kernel
theorem dX7_isWithin_1 : decode cX7_isWithin 1 = .ok (.iload_n 1, 1) := by decide +kernel
theorem dX7_isWithin_2 : decode cX7_isWithin 2 = .ok (.if_icmp .lt 12, 3) := by decide +kernel
theorem dX7_isWithin_5 : decode cX7_isWithin 5 = .ok (.iload_n 0, 1) := by decide +kernel
theorem dX7_isWithin_6 : decode cX7_isWithin 6 = .ok (.iload_n 2, 1) := by decide +kernel
theorem dX7_isWithin_7 : decode cX7_isWithin 7 = .ok (.if_icmp .gt 7, 3) := by decide +kernel
theorem dX7_isWithin_10 : decode cX7_isWithin 10 = .ok (.iconst 1, 1) := by decide +kernel
theorem dX7_isWithin_11 : decode cX7_isWithin 11 = .ok (.goto 4, 3) := by decide +kernel
theorem dX7_isWithin_14 : decode cX7_isWithin 14 = .ok (.iconst 0, 1) := by decide +kernel
theorem dX7_isWithin_15 : decode cX7_isWithin 15 = .ok (.ireturn, 1) := by decide +kernel
theorem dX7_held_0 : decode cX7_held 0 = .ok (.iload_n 1, 1) := by decide +kernel
theorem dX7_held_1 : decode cX7_held 1 = .ok (.iload_n 2, 1) := by decide +kernel
theorem dX7_held_2 : decode cX7_held 2 = .ok (.iload_n 0, 1) := by decide +kernel
theorem dX7_held_3 : decode cX7_held 3 = .ok (.invokestatic 300, 3) := by decide +kernel
theorem dX7_held_6 : decode cX7_held 6 = .ok (.invokestatic 305, 3) := by decide +kernel
theorem dX7_held_9 : decode cX7_held 9 = .ok (.ireturn, 1) := by decide +kernel
theorem dX7_oneIf_0 : decode cX7_oneIf 0 = .ok (.iload_n 0, 1) := by decide +kernel
theorem dX7_oneIf_1 : decode cX7_oneIf 1 = .ok (.ifCond .eq 7, 3) := by decide +kernel
theorem dX7_oneIf_4 : decode cX7_oneIf 4 = .ok (.iconst 1, 1) := by decide +kernel
theorem dX7_oneIf_5 : decode cX7_oneIf 5 = .ok (.goto 4, 3) := by decide +kernel
theorem dX7_oneIf_8 : decode cX7_oneIf 8 = .ok (.iconst 0, 1) := by decide +kernel
theorem dX7_oneIf_9 : decode cX7_oneIf 9 = .ok (.ireturn, 1) := by decide +kernel
theorem dX7_isPlace_0 : decode cX7_isPlace 0 = .ok (.iload_n 0, 1) := by decide +kernel
theorem dX7_isPlace_1 : decode cX7_isPlace 1 = .ok (.iconst 0, 1) := by decide +kernel
theorem dX7_isPlace_2 : decode cX7_isPlace 2 = .ok (.bipush 19, 2) := by decide +kernel
theorem dX7_isPlace_4 : decode cX7_isPlace 4 = .ok (.invokestatic 58, 3) := by decide +kernel
theorem dX7_isPlace_7 : decode cX7_isPlace 7 = .ok (.ireturn, 1) := by decide +kernel
theorem dX7_isSomePlaces_0 : decode cX7_isSomePlaces 0 = .ok (.iload_n 0, 1) := by decide +kernel
theorem dX7_isSomePlaces_1 : decode cX7_isSomePlaces 1 = .ok (.iconst 1, 1) := by decide +kernel
theorem dX7_isSomePlaces_2 : decode cX7_isSomePlaces 2 = .ok (.ldc 229, 2) := by decide +kernel
theorem dX7_isSomePlaces_4 : decode cX7_isSomePlaces 4 = .ok (.invokestatic 58, 3) := by decide +kernel
theorem dX7_isSomePlaces_7 : decode cX7_isSomePlaces 7 = .ok (.ireturn, 1) := by decide +kernel
theorem dX7_isSide_0 : decode cX7_isSide 0 = .ok (.iload_n 0, 1) := by decide +kernel
theorem dX7_isSide_1 : decode cX7_isSide 1 = .ok (.ifCond .eq 8, 3) := by decide +kernel
theorem dX7_isSide_4 : decode cX7_isSide 4 = .ok (.iload_n 0, 1) := by decide +kernel
theorem dX7_isSide_5 : decode cX7_isSide 5 = .ok (.iconst 1, 1) := by decide +kernel
theorem dX7_isSide_6 : decode cX7_isSide 6 = .ok (.if_icmp .ne 7, 3) := by decide +kernel
theorem dX7_isSide_9 : decode cX7_isSide 9 = .ok (.iconst 1, 1) := by decide +kernel
theorem dX7_isSide_10 : decode cX7_isSide 10 = .ok (.goto 4, 3) := by decide +kernel
theorem dX7_isSide_13 : decode cX7_isSide 13 = .ok (.iconst 0, 1) := by decide +kernel
theorem dX7_isSide_14 : decode cX7_isSide 14 = .ok (.ireturn, 1) := by decide +kernel
theorem dX7_isKindWithNumber_0 : decode cX7_isKindWithNumber 0 = .ok (.iload_n 0, 1) := by decide +kernel
theorem dX7_isKindWithNumber_1 : decode cX7_isKindWithNumber 1 = .ok (.iconst 0, 1) := by decide +kernel
theorem dX7_isKindWithNumber_2 : decode cX7_isKindWithNumber 2 = .ok (.bipush 69, 2) := by decide +kernel
theorem dX7_isKindWithNumber_4 : decode cX7_isKindWithNumber 4 = .ok (.invokestatic 58, 3) := by decide +kernel
theorem dX7_isKindWithNumber_7 : decode cX7_isKindWithNumber 7 = .ok (.ireturn, 1) := by decide +kernel
theorem dX7_isUse_0 : decode cX7_isUse 0 = .ok (.iload_n 0, 1) := by decide +kernel
theorem dX7_isUse_1 : decode cX7_isUse 1 = .ok (.ifCond .eq 8, 3) := by decide +kernel
theorem dX7_isUse_4 : decode cX7_isUse 4 = .ok (.iload_n 0, 1) := by decide +kernel
theorem dX7_isUse_5 : decode cX7_isUse 5 = .ok (.iconst 1, 1) := by decide +kernel
theorem dX7_isUse_6 : decode cX7_isUse 6 = .ok (.if_icmp .ne 7, 3) := by decide +kernel
theorem dX7_isUse_9 : decode cX7_isUse 9 = .ok (.iconst 1, 1) := by decide +kernel
theorem dX7_isUse_10 : decode cX7_isUse 10 = .ok (.goto 4, 3) := by decide +kernel
theorem dX7_isUse_13 : decode cX7_isUse 13 = .ok (.iconst 0, 1) := by decide +kernel
theorem dX7_isUse_14 : decode cX7_isUse 14 = .ok (.ireturn, 1) := by decide +kernel
theorem dX7_isSheet_0 : decode cX7_isSheet 0 = .ok (.iload_n 0, 1) := by decide +kernel
theorem dX7_isSheet_1 : decode cX7_isSheet 1 = .ok (.iconst 0, 1) := by decide +kernel
theorem dX7_isSheet_2 : decode cX7_isSheet 2 = .ok (.iconst 3, 1) := by decide +kernel
theorem dX7_isSheet_3 : decode cX7_isSheet 3 = .ok (.invokestatic 58, 3) := by decide +kernel
theorem dX7_isSheet_6 : decode cX7_isSheet 6 = .ok (.ireturn, 1) := by decide +kernel
theorem dX7_isVillage_0 : decode cX7_isVillage 0 = .ok (.iload_n 1, 1) := by decide +kernel
theorem dX7_isVillage_1 : decode cX7_isVillage 1 = .ok (.iconst 0, 1) := by decide +kernel
theorem dX7_isVillage_2 : decode cX7_isVillage 2 = .ok (.aload_n 0, 1) := by decide +kernel
theorem dX7_isVillage_3 : decode cX7_isVillage 3 = .ok (.getfield 10, 3) := by decide +kernel
theorem dX7_isVillage_6 : decode cX7_isVillage 6 = .ok (.getfield 97, 3) := by decide +kernel
theorem dX7_isVillage_9 : decode cX7_isVillage 9 = .ok (.iconst 1, 1) := by decide +kernel
theorem dX7_isVillage_10 : decode cX7_isVillage 10 = .ok (.isub, 1) := by decide +kernel
theorem dX7_isVillage_11 : decode cX7_isVillage 11 = .ok (.invokestatic 58, 3) := by decide +kernel
theorem dX7_isVillage_14 : decode cX7_isVillage 14 = .ok (.ireturn, 1) := by decide +kernel
theorem dX7_isBottle_0 : decode cX7_isBottle 0 = .ok (.iload_n 1, 1) := by decide +kernel
theorem dX7_isBottle_1 : decode cX7_isBottle 1 = .ok (.iconst 0, 1) := by decide +kernel
theorem dX7_isBottle_2 : decode cX7_isBottle 2 = .ok (.aload_n 0, 1) := by decide +kernel
theorem dX7_isBottle_3 : decode cX7_isBottle 3 = .ok (.getfield 10, 3) := by decide +kernel
theorem dX7_isBottle_6 : decode cX7_isBottle 6 = .ok (.getfield 115, 3) := by decide +kernel
theorem dX7_isBottle_9 : decode cX7_isBottle 9 = .ok (.iconst 1, 1) := by decide +kernel
theorem dX7_isBottle_10 : decode cX7_isBottle 10 = .ok (.isub, 1) := by decide +kernel
theorem dX7_isBottle_11 : decode cX7_isBottle 11 = .ok (.invokestatic 58, 3) := by decide +kernel
theorem dX7_isBottle_14 : decode cX7_isBottle 14 = .ok (.ireturn, 1) := by decide +kernel
theorem dX7_missingBehind_0 : decode cX7_missingBehind 0 = .ok (.aload_n 0, 1) := by decide +kernel
theorem dX7_missingBehind_1 : decode cX7_missingBehind 1 = .ok (.getfield 10, 3) := by decide +kernel
theorem dX7_missingBehind_4 : decode cX7_missingBehind 4 = .ok (.getfield 66, 3) := by decide +kernel
theorem dX7_missingBehind_7 : decode cX7_missingBehind 7 = .ok (.iload_n 1, 1) := by decide +kernel
theorem dX7_missingBehind_8 : decode cX7_missingBehind 8 = .ok (.invokevirtual 78, 3) := by decide +kernel
theorem dX7_missingBehind_11 : decode cX7_missingBehind 11 = .ok (.invokestatic 89, 3) := by decide +kernel
theorem dX7_missingBehind_14 : decode cX7_missingBehind 14 = .ok (.ireturn, 1) := by decide +kernel
theorem dX7_lawGives_0 : decode cX7_lawGives 0 = .ok (.aload_n 0, 1) := by decide +kernel
theorem dX7_lawGives_1 : decode cX7_lawGives 1 = .ok (.getfield 10, 3) := by decide +kernel
theorem dX7_lawGives_4 : decode cX7_lawGives 4 = .ok (.iload_n 1, 1) := by decide +kernel
theorem dX7_lawGives_5 : decode cX7_lawGives 5 = .ok (.invokevirtual 198, 3) := by decide +kernel
theorem dX7_lawGives_8 : decode cX7_lawGives 8 = .ok (.astore 5, 2) := by decide +kernel
theorem dX7_lawGives_10 : decode cX7_lawGives 10 = .ok (.iload_n 1, 1) := by decide +kernel
theorem dX7_lawGives_11 : decode cX7_lawGives 11 = .ok (.ifCond .ne 42, 3) := by decide +kernel
theorem dX7_lawGives_14 : decode cX7_lawGives 14 = .ok (.aload 5, 2) := by decide +kernel
theorem dX7_lawGives_16 : decode cX7_lawGives 16 = .ok (.getfield 183, 3) := by decide +kernel
theorem dX7_lawGives_19 : decode cX7_lawGives 19 = .ok (.ifCond .le 20, 3) := by decide +kernel
theorem dX7_lawGives_22 : decode cX7_lawGives 22 = .ok (.aload_n 0, 1) := by decide +kernel
theorem dX7_lawGives_23 : decode cX7_lawGives 23 = .ok (.getfield 26, 3) := by decide +kernel
theorem dX7_lawGives_26 : decode cX7_lawGives 26 = .ok (.aload 5, 2) := by decide +kernel
theorem dX7_lawGives_28 : decode cX7_lawGives 28 = .ok (.iload_n 1, 1) := by decide +kernel
theorem dX7_lawGives_29 : decode cX7_lawGives 29 = .ok (.iload_n 2, 1) := by decide +kernel
theorem dX7_lawGives_30 : decode cX7_lawGives 30 = .ok (.iload_n 3, 1) := by decide +kernel
theorem dX7_lawGives_31 : decode cX7_lawGives 31 = .ok (.iload 4, 2) := by decide +kernel
theorem dX7_lawGives_33 : decode cX7_lawGives 33 = .ok (.invokevirtual 308, 3) := by decide +kernel
theorem dX7_lawGives_36 : decode cX7_lawGives 36 = .ok (.goto 6, 3) := by decide +kernel
theorem dX7_lawGives_39 : decode cX7_lawGives 39 = .ok (.iconst 3, 1) := by decide +kernel
theorem dX7_lawGives_40 : decode cX7_lawGives 40 = .ok (.iload_n 2, 1) := by decide +kernel
theorem dX7_lawGives_41 : decode cX7_lawGives 41 = .ok (.iadd, 1) := by decide +kernel
theorem dX7_lawGives_42 : decode cX7_lawGives 42 = .ok (.istore 6, 2) := by decide +kernel
theorem dX7_lawGives_44 : decode cX7_lawGives 44 = .ok (.iload 6, 2) := by decide +kernel
theorem dX7_lawGives_46 : decode cX7_lawGives 46 = .ok (.iconst 1, 1) := by decide +kernel
theorem dX7_lawGives_47 : decode cX7_lawGives 47 = .ok (.bipush 99, 2) := by decide +kernel
theorem dX7_lawGives_49 : decode cX7_lawGives 49 = .ok (.invokestatic 312, 3) := by decide +kernel
theorem dX7_lawGives_52 : decode cX7_lawGives 52 = .ok (.ireturn, 1) := by decide +kernel
theorem dX7_lawGives_53 : decode cX7_lawGives 53 = .ok (.aload 5, 2) := by decide +kernel
theorem dX7_lawGives_55 : decode cX7_lawGives 55 = .ok (.getfield 183, 3) := by decide +kernel
theorem dX7_lawGives_58 : decode cX7_lawGives 58 = .ok (.ifCond .le 20, 3) := by decide +kernel
theorem dX7_lawGives_61 : decode cX7_lawGives 61 = .ok (.aload_n 0, 1) := by decide +kernel
theorem dX7_lawGives_62 : decode cX7_lawGives 62 = .ok (.getfield 26, 3) := by decide +kernel
theorem dX7_lawGives_65 : decode cX7_lawGives 65 = .ok (.aload 5, 2) := by decide +kernel
theorem dX7_lawGives_67 : decode cX7_lawGives 67 = .ok (.iload_n 1, 1) := by decide +kernel
theorem dX7_lawGives_68 : decode cX7_lawGives 68 = .ok (.iload_n 2, 1) := by decide +kernel
theorem dX7_lawGives_69 : decode cX7_lawGives 69 = .ok (.iload_n 3, 1) := by decide +kernel
theorem dX7_lawGives_70 : decode cX7_lawGives 70 = .ok (.iload 4, 2) := by decide +kernel
theorem dX7_lawGives_72 : decode cX7_lawGives 72 = .ok (.invokevirtual 308, 3) := by decide +kernel
theorem dX7_lawGives_75 : decode cX7_lawGives 75 = .ok (.goto 8, 3) := by decide +kernel
theorem dX7_lawGives_78 : decode cX7_lawGives 78 = .ok (.iload_n 2, 1) := by decide +kernel
theorem dX7_lawGives_79 : decode cX7_lawGives 79 = .ok (.iconst 2, 1) := by decide +kernel
theorem dX7_lawGives_80 : decode cX7_lawGives 80 = .ok (.imul, 1) := by decide +kernel
theorem dX7_lawGives_81 : decode cX7_lawGives 81 = .ok (.iload_n 3, 1) := by decide +kernel
theorem dX7_lawGives_82 : decode cX7_lawGives 82 = .ok (.iadd, 1) := by decide +kernel
theorem dX7_lawGives_83 : decode cX7_lawGives 83 = .ok (.istore 6, 2) := by decide +kernel
theorem dX7_lawGives_85 : decode cX7_lawGives 85 = .ok (.iload 6, 2) := by decide +kernel
theorem dX7_lawGives_87 : decode cX7_lawGives 87 = .ok (.iconst 0, 1) := by decide +kernel
theorem dX7_lawGives_88 : decode cX7_lawGives 88 = .ok (.sipush 999, 3) := by decide +kernel
theorem dX7_lawGives_91 : decode cX7_lawGives 91 = .ok (.invokestatic 312, 3) := by decide +kernel
theorem dX7_lawGives_94 : decode cX7_lawGives 94 = .ok (.ireturn, 1) := by decide +kernel
theorem dX7_takeOut_0 : decode cX7_takeOut 0 = .ok (.iconst 0, 1) := by decide +kernel
theorem dX7_takeOut_1 : decode cX7_takeOut 1 = .ok (.istore_n 3, 1) := by decide +kernel
theorem dX7_takeOut_2 : decode cX7_takeOut 2 = .ok (.iload_n 3, 1) := by decide +kernel
theorem dX7_takeOut_3 : decode cX7_takeOut 3 = .ok (.bipush 20, 2) := by decide +kernel
theorem dX7_takeOut_5 : decode cX7_takeOut 5 = .ok (.if_icmp .ge 63, 3) := by decide +kernel
theorem dX7_takeOut_8 : decode cX7_takeOut 8 = .ok (.iload_n 1, 1) := by decide +kernel
theorem dX7_takeOut_9 : decode cX7_takeOut 9 = .ok (.iload_n 3, 1) := by decide +kernel
theorem dX7_takeOut_10 : decode cX7_takeOut 10 = .ok (.ishr, 1) := by decide +kernel
theorem dX7_takeOut_11 : decode cX7_takeOut 11 = .ok (.iconst 1, 1) := by decide +kernel
theorem dX7_takeOut_12 : decode cX7_takeOut 12 = .ok (.iand, 1) := by decide +kernel
theorem dX7_takeOut_13 : decode cX7_takeOut 13 = .ok (.ifCond .eq 49, 3) := by decide +kernel
theorem dX7_takeOut_16 : decode cX7_takeOut 16 = .ok (.aload_n 0, 1) := by decide +kernel
theorem dX7_takeOut_17 : decode cX7_takeOut 17 = .ok (.getfield 10, 3) := by decide +kernel
theorem dX7_takeOut_20 : decode cX7_takeOut 20 = .ok (.getfield 66, 3) := by decide +kernel
theorem dX7_takeOut_23 : decode cX7_takeOut 23 = .ok (.getfield 70, 3) := by decide +kernel
theorem dX7_takeOut_26 : decode cX7_takeOut 26 = .ok (.iload_n 3, 1) := by decide +kernel
theorem dX7_takeOut_27 : decode cX7_takeOut 27 = .ok (.iaload, 1) := by decide +kernel
theorem dX7_takeOut_28 : decode cX7_takeOut 28 = .ok (.istore 4, 2) := by decide +kernel
theorem dX7_takeOut_30 : decode cX7_takeOut 30 = .ok (.aload_n 0, 1) := by decide +kernel
theorem dX7_takeOut_31 : decode cX7_takeOut 31 = .ok (.getfield 10, 3) := by decide +kernel
theorem dX7_takeOut_34 : decode cX7_takeOut 34 = .ok (.getfield 66, 3) := by decide +kernel
theorem dX7_takeOut_37 : decode cX7_takeOut 37 = .ok (.getfield 75, 3) := by decide +kernel
theorem dX7_takeOut_40 : decode cX7_takeOut 40 = .ok (.iload_n 3, 1) := by decide +kernel
theorem dX7_takeOut_41 : decode cX7_takeOut 41 = .ok (.aload_n 0, 1) := by decide +kernel
theorem dX7_takeOut_42 : decode cX7_takeOut 42 = .ok (.iconst 0, 1) := by decide +kernel
theorem dX7_takeOut_43 : decode cX7_takeOut 43 = .ok (.iload 4, 2) := by decide +kernel
theorem dX7_takeOut_45 : decode cX7_takeOut 45 = .ok (.iload_n 3, 1) := by decide +kernel
theorem dX7_takeOut_46 : decode cX7_takeOut 46 = .ok (.iload_n 2, 1) := by decide +kernel
theorem dX7_takeOut_47 : decode cX7_takeOut 47 = .ok (.isub, 1) := by decide +kernel
theorem dX7_takeOut_48 : decode cX7_takeOut 48 = .ok (.invokestatic 315, 3) := by decide +kernel
theorem dX7_takeOut_51 : decode cX7_takeOut 51 = .ok (.aload_n 0, 1) := by decide +kernel
theorem dX7_takeOut_52 : decode cX7_takeOut 52 = .ok (.getfield 10, 3) := by decide +kernel
theorem dX7_takeOut_55 : decode cX7_takeOut 55 = .ok (.getfield 210, 3) := by decide +kernel
theorem dX7_takeOut_58 : decode cX7_takeOut 58 = .ok (.invokevirtual 206, 3) := by decide +kernel
theorem dX7_takeOut_61 : decode cX7_takeOut 61 = .ok (.iastore, 1) := by decide +kernel
theorem dX7_takeOut_62 : decode cX7_takeOut 62 = .ok (.iinc 3 1, 3) := by decide +kernel
theorem dX7_takeOut_65 : decode cX7_takeOut 65 = .ok (.goto (-63), 3) := by decide +kernel
theorem dX7_takeOut_68 : decode cX7_takeOut 68 = .ok (.return_, 1) := by decide +kernel
theorem dX7_priceOf_0 : decode cX7_priceOf 0 = .ok (.aload_n 0, 1) := by decide +kernel
theorem dX7_priceOf_1 : decode cX7_priceOf 1 = .ok (.iconst 1, 1) := by decide +kernel
theorem dX7_priceOf_2 : decode cX7_priceOf 2 = .ok (.aload_n 1, 1) := by decide +kernel
theorem dX7_priceOf_3 : decode cX7_priceOf 3 = .ok (.invokevirtual 158, 3) := by decide +kernel
theorem dX7_priceOf_6 : decode cX7_priceOf 6 = .ok (.invokestatic 89, 3) := by decide +kernel
theorem dX7_priceOf_9 : decode cX7_priceOf 9 = .ok (.aload_n 1, 1) := by decide +kernel
theorem dX7_priceOf_10 : decode cX7_priceOf 10 = .ok (.invokevirtual 162, 3) := by decide +kernel
theorem dX7_priceOf_13 : decode cX7_priceOf 13 = .ok (.aload_n 1, 1) := by decide +kernel
theorem dX7_priceOf_14 : decode cX7_priceOf 14 = .ok (.getfield 147, 3) := by decide +kernel
theorem dX7_priceOf_17 : decode cX7_priceOf 17 = .ok (.invokevirtual 206, 3) := by decide +kernel
theorem dX7_priceOf_20 : decode cX7_priceOf 20 = .ok (.istore_n 2, 1) := by decide +kernel
theorem dX7_priceOf_21 : decode cX7_priceOf 21 = .ok (.aload_n 1, 1) := by decide +kernel
theorem dX7_priceOf_22 : decode cX7_priceOf 22 = .ok (.iload_n 2, 1) := by decide +kernel
theorem dX7_priceOf_23 : decode cX7_priceOf 23 = .ok (.invokevirtual 318, 3) := by decide +kernel
theorem dX7_priceOf_26 : decode cX7_priceOf 26 = .ok (.ireturn, 1) := by decide +kernel
theorem dX7_workOutLefts_0 : decode cX7_workOutLefts 0 = .ok (.iconst 0, 1) := by decide +kernel
theorem dX7_workOutLefts_1 : decode cX7_workOutLefts 1 = .ok (.istore_n 1, 1) := by decide +kernel
theorem dX7_workOutLefts_2 : decode cX7_workOutLefts 2 = .ok (.iload_n 1, 1) := by decide +kernel
theorem dX7_workOutLefts_3 : decode cX7_workOutLefts 3 = .ok (.aload_n 0, 1) := by decide +kernel
theorem dX7_workOutLefts_4 : decode cX7_workOutLefts 4 = .ok (.getfield 10, 3) := by decide +kernel
theorem dX7_workOutLefts_7 : decode cX7_workOutLefts 7 = .ok (.getfield 115, 3) := by decide +kernel
theorem dX7_workOutLefts_10 : decode cX7_workOutLefts 10 = .ok (.if_icmp .ge 27, 3) := by decide +kernel
theorem dX7_workOutLefts_13 : decode cX7_workOutLefts 13 = .ok (.aload_n 0, 1) := by decide +kernel
theorem dX7_workOutLefts_14 : decode cX7_workOutLefts 14 = .ok (.getfield 47, 3) := by decide +kernel
theorem dX7_workOutLefts_17 : decode cX7_workOutLefts 17 = .ok (.iload_n 1, 1) := by decide +kernel
theorem dX7_workOutLefts_18 : decode cX7_workOutLefts 18 = .ok (.aload_n 0, 1) := by decide +kernel
theorem dX7_workOutLefts_19 : decode cX7_workOutLefts 19 = .ok (.getfield 10, 3) := by decide +kernel
theorem dX7_workOutLefts_22 : decode cX7_workOutLefts 22 = .ok (.getfield 122, 3) := by decide +kernel
theorem dX7_workOutLefts_25 : decode cX7_workOutLefts 25 = .ok (.iload_n 1, 1) := by decide +kernel
theorem dX7_workOutLefts_26 : decode cX7_workOutLefts 26 = .ok (.aaload, 1) := by decide +kernel
theorem dX7_workOutLefts_27 : decode cX7_workOutLefts 27 = .ok (.invokevirtual 158, 3) := by decide +kernel
theorem dX7_workOutLefts_30 : decode cX7_workOutLefts 30 = .ok (.iastore, 1) := by decide +kernel
theorem dX7_workOutLefts_31 : decode cX7_workOutLefts 31 = .ok (.iinc 1 1, 3) := by decide +kernel
theorem dX7_workOutLefts_34 : decode cX7_workOutLefts 34 = .ok (.goto (-32), 3) := by decide +kernel
theorem dX7_workOutLefts_37 : decode cX7_workOutLefts 37 = .ok (.return_, 1) := by decide +kernel
theorem dX7_workOutPrices_0 : decode cX7_workOutPrices 0 = .ok (.iconst 0, 1) := by decide +kernel
theorem dX7_workOutPrices_1 : decode cX7_workOutPrices 1 = .ok (.istore_n 1, 1) := by decide +kernel
theorem dX7_workOutPrices_2 : decode cX7_workOutPrices 2 = .ok (.iload_n 1, 1) := by decide +kernel
theorem dX7_workOutPrices_3 : decode cX7_workOutPrices 3 = .ok (.aload_n 0, 1) := by decide +kernel
theorem dX7_workOutPrices_4 : decode cX7_workOutPrices 4 = .ok (.getfield 10, 3) := by decide +kernel
theorem dX7_workOutPrices_7 : decode cX7_workOutPrices 7 = .ok (.getfield 115, 3) := by decide +kernel
theorem dX7_workOutPrices_10 : decode cX7_workOutPrices 10 = .ok (.if_icmp .ge 28, 3) := by decide +kernel
theorem dX7_workOutPrices_13 : decode cX7_workOutPrices 13 = .ok (.aload_n 0, 1) := by decide +kernel
theorem dX7_workOutPrices_14 : decode cX7_workOutPrices 14 = .ok (.getfield 50, 3) := by decide +kernel
theorem dX7_workOutPrices_17 : decode cX7_workOutPrices 17 = .ok (.iload_n 1, 1) := by decide +kernel
theorem dX7_workOutPrices_18 : decode cX7_workOutPrices 18 = .ok (.aload_n 0, 1) := by decide +kernel
theorem dX7_workOutPrices_19 : decode cX7_workOutPrices 19 = .ok (.aload_n 0, 1) := by decide +kernel
theorem dX7_workOutPrices_20 : decode cX7_workOutPrices 20 = .ok (.getfield 10, 3) := by decide +kernel
theorem dX7_workOutPrices_23 : decode cX7_workOutPrices 23 = .ok (.getfield 122, 3) := by decide +kernel
theorem dX7_workOutPrices_26 : decode cX7_workOutPrices 26 = .ok (.iload_n 1, 1) := by decide +kernel
theorem dX7_workOutPrices_27 : decode cX7_workOutPrices 27 = .ok (.aaload, 1) := by decide +kernel
theorem dX7_workOutPrices_28 : decode cX7_workOutPrices 28 = .ok (.invokevirtual 165, 3) := by decide +kernel
theorem dX7_workOutPrices_31 : decode cX7_workOutPrices 31 = .ok (.iastore, 1) := by decide +kernel
theorem dX7_workOutPrices_32 : decode cX7_workOutPrices 32 = .ok (.iinc 1 1, 3) := by decide +kernel
theorem dX7_workOutPrices_35 : decode cX7_workOutPrices 35 = .ok (.goto (-33), 3) := by decide +kernel
theorem dX7_workOutPrices_38 : decode cX7_workOutPrices 38 = .ok (.return_, 1) := by decide +kernel
theorem dX7_leftInAny_0 : decode cX7_leftInAny 0 = .ok (.iconst 0, 1) := by decide +kernel
theorem dX7_leftInAny_1 : decode cX7_leftInAny 1 = .ok (.istore_n 2, 1) := by decide +kernel
theorem dX7_leftInAny_2 : decode cX7_leftInAny 2 = .ok (.iconst 0, 1) := by decide +kernel
theorem dX7_leftInAny_3 : decode cX7_leftInAny 3 = .ok (.istore_n 3, 1) := by decide +kernel
theorem dX7_leftInAny_4 : decode cX7_leftInAny 4 = .ok (.iload_n 3, 1) := by decide +kernel
theorem dX7_leftInAny_5 : decode cX7_leftInAny 5 = .ok (.aload_n 0, 1) := by decide +kernel
theorem dX7_leftInAny_6 : decode cX7_leftInAny 6 = .ok (.getfield 10, 3) := by decide +kernel
theorem dX7_leftInAny_9 : decode cX7_leftInAny 9 = .ok (.getfield 115, 3) := by decide +kernel
theorem dX7_leftInAny_12 : decode cX7_leftInAny 12 = .ok (.if_icmp .ge 26, 3) := by decide +kernel
theorem dX7_leftInAny_15 : decode cX7_leftInAny 15 = .ok (.iload_n 1, 1) := by decide +kernel
theorem dX7_leftInAny_16 : decode cX7_leftInAny 16 = .ok (.iload_n 3, 1) := by decide +kernel
theorem dX7_leftInAny_17 : decode cX7_leftInAny 17 = .ok (.ishr, 1) := by decide +kernel
theorem dX7_leftInAny_18 : decode cX7_leftInAny 18 = .ok (.iconst 1, 1) := by decide +kernel
theorem dX7_leftInAny_19 : decode cX7_leftInAny 19 = .ok (.iand, 1) := by decide +kernel
theorem dX7_leftInAny_20 : decode cX7_leftInAny 20 = .ok (.ifCond .eq 12, 3) := by decide +kernel
theorem dX7_leftInAny_23 : decode cX7_leftInAny 23 = .ok (.iload_n 2, 1) := by decide +kernel
theorem dX7_leftInAny_24 : decode cX7_leftInAny 24 = .ok (.aload_n 0, 1) := by decide +kernel
theorem dX7_leftInAny_25 : decode cX7_leftInAny 25 = .ok (.getfield 47, 3) := by decide +kernel
theorem dX7_leftInAny_28 : decode cX7_leftInAny 28 = .ok (.iload_n 3, 1) := by decide +kernel
theorem dX7_leftInAny_29 : decode cX7_leftInAny 29 = .ok (.iaload, 1) := by decide +kernel
theorem dX7_leftInAny_30 : decode cX7_leftInAny 30 = .ok (.ior, 1) := by decide +kernel
theorem dX7_leftInAny_31 : decode cX7_leftInAny 31 = .ok (.istore_n 2, 1) := by decide +kernel
theorem dX7_leftInAny_32 : decode cX7_leftInAny 32 = .ok (.iinc 3 1, 3) := by decide +kernel
theorem dX7_leftInAny_35 : decode cX7_leftInAny 35 = .ok (.goto (-31), 3) := by decide +kernel
theorem dX7_leftInAny_38 : decode cX7_leftInAny 38 = .ok (.iload_n 2, 1) := by decide +kernel
theorem dX7_leftInAny_39 : decode cX7_leftInAny 39 = .ok (.ireturn, 1) := by decide +kernel
theorem dX7_isApart_0 : decode cX7_isApart 0 = .ok (.iconst 0, 1) := by decide +kernel
theorem dX7_isApart_1 : decode cX7_isApart 1 = .ok (.istore_n 2, 1) := by decide +kernel
theorem dX7_isApart_2 : decode cX7_isApart 2 = .ok (.iconst 0, 1) := by decide +kernel
theorem dX7_isApart_3 : decode cX7_isApart 3 = .ok (.istore_n 3, 1) := by decide +kernel
theorem dX7_isApart_4 : decode cX7_isApart 4 = .ok (.iload_n 3, 1) := by decide +kernel
theorem dX7_isApart_5 : decode cX7_isApart 5 = .ok (.aload_n 0, 1) := by decide +kernel
theorem dX7_isApart_6 : decode cX7_isApart 6 = .ok (.getfield 10, 3) := by decide +kernel
theorem dX7_isApart_9 : decode cX7_isApart 9 = .ok (.getfield 115, 3) := by decide +kernel
theorem dX7_isApart_12 : decode cX7_isApart 12 = .ok (.if_icmp .ge 39, 3) := by decide +kernel
theorem dX7_isApart_15 : decode cX7_isApart 15 = .ok (.iload_n 1, 1) := by decide +kernel
theorem dX7_isApart_16 : decode cX7_isApart 16 = .ok (.iload_n 3, 1) := by decide +kernel
theorem dX7_isApart_17 : decode cX7_isApart 17 = .ok (.ishr, 1) := by decide +kernel
theorem dX7_isApart_18 : decode cX7_isApart 18 = .ok (.iconst 1, 1) := by decide +kernel
theorem dX7_isApart_19 : decode cX7_isApart 19 = .ok (.iand, 1) := by decide +kernel
theorem dX7_isApart_20 : decode cX7_isApart 20 = .ok (.ifCond .eq 25, 3) := by decide +kernel
theorem dX7_isApart_23 : decode cX7_isApart 23 = .ok (.iload_n 2, 1) := by decide +kernel
theorem dX7_isApart_24 : decode cX7_isApart 24 = .ok (.aload_n 0, 1) := by decide +kernel
theorem dX7_isApart_25 : decode cX7_isApart 25 = .ok (.getfield 47, 3) := by decide +kernel
theorem dX7_isApart_28 : decode cX7_isApart 28 = .ok (.iload_n 3, 1) := by decide +kernel
theorem dX7_isApart_29 : decode cX7_isApart 29 = .ok (.iaload, 1) := by decide +kernel
theorem dX7_isApart_30 : decode cX7_isApart 30 = .ok (.iand, 1) := by decide +kernel
theorem dX7_isApart_31 : decode cX7_isApart 31 = .ok (.ifCond .eq 5, 3) := by decide +kernel
theorem dX7_isApart_34 : decode cX7_isApart 34 = .ok (.iconst 0, 1) := by decide +kernel
theorem dX7_isApart_35 : decode cX7_isApart 35 = .ok (.ireturn, 1) := by decide +kernel
theorem dX7_isApart_36 : decode cX7_isApart 36 = .ok (.iload_n 2, 1) := by decide +kernel
theorem dX7_isApart_37 : decode cX7_isApart 37 = .ok (.aload_n 0, 1) := by decide +kernel
theorem dX7_isApart_38 : decode cX7_isApart 38 = .ok (.getfield 47, 3) := by decide +kernel
theorem dX7_isApart_41 : decode cX7_isApart 41 = .ok (.iload_n 3, 1) := by decide +kernel
theorem dX7_isApart_42 : decode cX7_isApart 42 = .ok (.iaload, 1) := by decide +kernel
theorem dX7_isApart_43 : decode cX7_isApart 43 = .ok (.ior, 1) := by decide +kernel
theorem dX7_isApart_44 : decode cX7_isApart 44 = .ok (.istore_n 2, 1) := by decide +kernel
theorem dX7_isApart_45 : decode cX7_isApart 45 = .ok (.iinc 3 1, 3) := by decide +kernel
theorem dX7_isApart_48 : decode cX7_isApart 48 = .ok (.goto (-44), 3) := by decide +kernel
theorem dX7_isApart_51 : decode cX7_isApart 51 = .ok (.iconst 1, 1) := by decide +kernel
theorem dX7_isApart_52 : decode cX7_isApart 52 = .ok (.ireturn, 1) := by decide +kernel
theorem dX7_priceTogether_0 : decode cX7_priceTogether 0 = .ok (.iconst 0, 1) := by decide +kernel
theorem dX7_priceTogether_1 : decode cX7_priceTogether 1 = .ok (.istore_n 2, 1) := by decide +kernel
theorem dX7_priceTogether_2 : decode cX7_priceTogether 2 = .ok (.iconst 0, 1) := by decide +kernel
theorem dX7_priceTogether_3 : decode cX7_priceTogether 3 = .ok (.istore_n 3, 1) := by decide +kernel
theorem dX7_priceTogether_4 : decode cX7_priceTogether 4 = .ok (.iload_n 3, 1) := by decide +kernel
theorem dX7_priceTogether_5 : decode cX7_priceTogether 5 = .ok (.aload_n 0, 1) := by decide +kernel
theorem dX7_priceTogether_6 : decode cX7_priceTogether 6 = .ok (.getfield 10, 3) := by decide +kernel
theorem dX7_priceTogether_9 : decode cX7_priceTogether 9 = .ok (.getfield 115, 3) := by decide +kernel
theorem dX7_priceTogether_12 : decode cX7_priceTogether 12 = .ok (.if_icmp .ge 26, 3) := by decide +kernel
theorem dX7_priceTogether_15 : decode cX7_priceTogether 15 = .ok (.iload_n 1, 1) := by decide +kernel
theorem dX7_priceTogether_16 : decode cX7_priceTogether 16 = .ok (.iload_n 3, 1) := by decide +kernel
theorem dX7_priceTogether_17 : decode cX7_priceTogether 17 = .ok (.ishr, 1) := by decide +kernel
theorem dX7_priceTogether_18 : decode cX7_priceTogether 18 = .ok (.iconst 1, 1) := by decide +kernel
theorem dX7_priceTogether_19 : decode cX7_priceTogether 19 = .ok (.iand, 1) := by decide +kernel
theorem dX7_priceTogether_20 : decode cX7_priceTogether 20 = .ok (.ifCond .eq 12, 3) := by decide +kernel
theorem dX7_priceTogether_23 : decode cX7_priceTogether 23 = .ok (.iload_n 2, 1) := by decide +kernel
theorem dX7_priceTogether_24 : decode cX7_priceTogether 24 = .ok (.aload_n 0, 1) := by decide +kernel
theorem dX7_priceTogether_25 : decode cX7_priceTogether 25 = .ok (.getfield 50, 3) := by decide +kernel
theorem dX7_priceTogether_28 : decode cX7_priceTogether 28 = .ok (.iload_n 3, 1) := by decide +kernel
theorem dX7_priceTogether_29 : decode cX7_priceTogether 29 = .ok (.iaload, 1) := by decide +kernel
theorem dX7_priceTogether_30 : decode cX7_priceTogether 30 = .ok (.iadd, 1) := by decide +kernel
theorem dX7_priceTogether_31 : decode cX7_priceTogether 31 = .ok (.istore_n 2, 1) := by decide +kernel
theorem dX7_priceTogether_32 : decode cX7_priceTogether 32 = .ok (.iinc 3 1, 3) := by decide +kernel
theorem dX7_priceTogether_35 : decode cX7_priceTogether 35 = .ok (.goto (-31), 3) := by decide +kernel
theorem dX7_priceTogether_38 : decode cX7_priceTogether 38 = .ok (.iload_n 2, 1) := by decide +kernel
theorem dX7_priceTogether_39 : decode cX7_priceTogether 39 = .ok (.ireturn, 1) := by decide +kernel
theorem dX8_init_0 : decode cX8_init 0 = .ok (.aload_n 0, 1) := by decide +kernel
theorem dX8_init_1 : decode cX8_init 1 = .ok (.invokespecial 3, 3) := by decide +kernel
theorem dX8_init_4 : decode cX8_init 4 = .ok (.aload_n 0, 1) := by decide +kernel
theorem dX8_init_5 : decode cX8_init 5 = .ok (.sipush 371, 3) := by decide +kernel
theorem dX8_init_8 : decode cX8_init 8 = .ok (.newarray .int, 2) := by decide +kernel
theorem dX8_init_10 : decode cX8_init 10 = .ok (.putfield 9, 3) := by decide +kernel
theorem dX8_init_13 : decode cX8_init 13 = .ok (.aload_n 0, 1) := by decide +kernel
theorem dX8_init_14 : decode cX8_init 14 = .ok (.sipush 371, 3) := by decide +kernel
theorem dX8_init_17 : decode cX8_init 17 = .ok (.newarray .int, 2) := by decide +kernel
theorem dX8_init_19 : decode cX8_init 19 = .ok (.putfield 13, 3) := by decide +kernel
theorem dX8_init_22 : decode cX8_init 22 = .ok (.aload_n 0, 1) := by decide +kernel
theorem dX8_init_23 : decode cX8_init 23 = .ok (.sipush 371, 3) := by decide +kernel
theorem dX8_init_26 : decode cX8_init 26 = .ok (.newarray .int, 2) := by decide +kernel
theorem dX8_init_28 : decode cX8_init 28 = .ok (.putfield 16, 3) := by decide +kernel
theorem dX8_init_31 : decode cX8_init 31 = .ok (.aload_n 0, 1) := by decide +kernel
theorem dX8_init_32 : decode cX8_init 32 = .ok (.bipush 6, 2) := by decide +kernel
theorem dX8_init_34 : decode cX8_init 34 = .ok (.newarray .int, 2) := by decide +kernel
theorem dX8_init_36 : decode cX8_init 36 = .ok (.putfield 19, 3) := by decide +kernel
theorem dX8_init_39 : decode cX8_init 39 = .ok (.aload_n 0, 1) := by decide +kernel
theorem dX8_init_40 : decode cX8_init 40 = .ok (.bipush 50, 2) := by decide +kernel
theorem dX8_init_42 : decode cX8_init 42 = .ok (.newarray .int, 2) := by decide +kernel
theorem dX8_init_44 : decode cX8_init 44 = .ok (.putfield 22, 3) := by decide +kernel
theorem dX8_init_47 : decode cX8_init 47 = .ok (.aload_n 0, 1) := by decide +kernel
theorem dX8_init_48 : decode cX8_init 48 = .ok (.bipush 50, 2) := by decide +kernel
theorem dX8_init_50 : decode cX8_init 50 = .ok (.newarray .int, 2) := by decide +kernel
theorem dX8_init_52 : decode cX8_init 52 = .ok (.putfield 25, 3) := by decide +kernel
theorem dX8_init_55 : decode cX8_init 55 = .ok (.aload_n 0, 1) := by decide +kernel
theorem dX8_init_56 : decode cX8_init 56 = .ok (.iconst 3, 1) := by decide +kernel
theorem dX8_init_57 : decode cX8_init 57 = .ok (.newarray .int, 2) := by decide +kernel
theorem dX8_init_59 : decode cX8_init 59 = .ok (.putfield 28, 3) := by decide +kernel
theorem dX8_init_62 : decode cX8_init 62 = .ok (.aload_n 0, 1) := by decide +kernel
theorem dX8_init_63 : decode cX8_init 63 = .ok (.bipush 50, 2) := by decide +kernel
theorem dX8_init_65 : decode cX8_init 65 = .ok (.newarray .int, 2) := by decide +kernel
theorem dX8_init_67 : decode cX8_init 67 = .ok (.putfield 31, 3) := by decide +kernel
theorem dX8_init_70 : decode cX8_init 70 = .ok (.aload_n 0, 1) := by decide +kernel
theorem dX8_init_71 : decode cX8_init 71 = .ok (.bipush 40, 2) := by decide +kernel
theorem dX8_init_73 : decode cX8_init 73 = .ok (.newarray .int, 2) := by decide +kernel
theorem dX8_init_75 : decode cX8_init 75 = .ok (.putfield 34, 3) := by decide +kernel
theorem dX8_init_78 : decode cX8_init 78 = .ok (.aload_n 0, 1) := by decide +kernel
theorem dX8_init_79 : decode cX8_init 79 = .ok (.iconst 4, 1) := by decide +kernel
theorem dX8_init_80 : decode cX8_init 80 = .ok (.newarray .int, 2) := by decide +kernel
theorem dX8_init_82 : decode cX8_init 82 = .ok (.putfield 37, 3) := by decide +kernel
theorem dX8_init_85 : decode cX8_init 85 = .ok (.aload_n 0, 1) := by decide +kernel
theorem dX8_init_86 : decode cX8_init 86 = .ok (.iconst 4, 1) := by decide +kernel
theorem dX8_init_87 : decode cX8_init 87 = .ok (.newarray .int, 2) := by decide +kernel
theorem dX8_init_89 : decode cX8_init 89 = .ok (.putfield 40, 3) := by decide +kernel
theorem dX8_init_92 : decode cX8_init 92 = .ok (.aload_n 0, 1) := by decide +kernel
theorem dX8_init_93 : decode cX8_init 93 = .ok (.sipush 160, 3) := by decide +kernel
theorem dX8_init_96 : decode cX8_init 96 = .ok (.newarray .int, 2) := by decide +kernel
theorem dX8_init_98 : decode cX8_init 98 = .ok (.putfield 43, 3) := by decide +kernel
theorem dX8_init_101 : decode cX8_init 101 = .ok (.aload_n 0, 1) := by decide +kernel
theorem dX8_init_102 : decode cX8_init 102 = .ok (.getfield 9, 3) := by decide +kernel
theorem dX8_init_105 : decode cX8_init 105 = .ok (.iconst 1, 1) := by decide +kernel
theorem dX8_init_106 : decode cX8_init 106 = .ok (.iconst 1, 1) := by decide +kernel
theorem dX8_init_107 : decode cX8_init 107 = .ok (.iastore, 1) := by decide +kernel
theorem dX8_init_108 : decode cX8_init 108 = .ok (.iconst 0, 1) := by decide +kernel
theorem dX8_init_109 : decode cX8_init 109 = .ok (.istore_n 1, 1) := by decide +kernel
theorem dX8_init_110 : decode cX8_init 110 = .ok (.iload_n 1, 1) := by decide +kernel
theorem dX8_init_111 : decode cX8_init 111 = .ok (.bipush 20, 2) := by decide +kernel
theorem dX8_init_113 : decode cX8_init 113 = .ok (.if_icmp .ge 19, 3) := by decide +kernel
theorem dX8_init_116 : decode cX8_init 116 = .ok (.aload_n 0, 1) := by decide +kernel
theorem dX8_init_117 : decode cX8_init 117 = .ok (.getfield 9, 3) := by decide +kernel
theorem dX8_init_120 : decode cX8_init 120 = .ok (.bipush 11, 2) := by decide +kernel
theorem dX8_init_122 : decode cX8_init 122 = .ok (.iload_n 1, 1) := by decide +kernel
theorem dX8_init_123 : decode cX8_init 123 = .ok (.iadd, 1) := by decide +kernel
theorem dX8_init_124 : decode cX8_init 124 = .ok (.iconst 5, 1) := by decide +kernel
theorem dX8_init_125 : decode cX8_init 125 = .ok (.iastore, 1) := by decide +kernel
theorem dX8_init_126 : decode cX8_init 126 = .ok (.iinc 1 1, 3) := by decide +kernel
theorem dX8_init_129 : decode cX8_init 129 = .ok (.goto (-19), 3) := by decide +kernel
theorem dX8_init_132 : decode cX8_init 132 = .ok (.return_, 1) := by decide +kernel
theorem dX8_error_0 : decode cX8_error 0 = .ok (.aload_n 0, 1) := by decide +kernel
theorem dX8_error_1 : decode cX8_error 1 = .ok (.getfield 19, 3) := by decide +kernel
theorem dX8_error_4 : decode cX8_error 4 = .ok (.ldc 46, 2) := by decide +kernel
theorem dX8_error_6 : decode cX8_error 6 = .ok (.iload_n 1, 1) := by decide +kernel
theorem dX8_error_7 : decode cX8_error 7 = .ok (.isub, 1) := by decide +kernel
theorem dX8_error_8 : decode cX8_error 8 = .ok (.dup2, 1) := by decide +kernel
theorem dX8_error_9 : decode cX8_error 9 = .ok (.iaload, 1) := by decide +kernel
theorem dX8_error_10 : decode cX8_error 10 = .ok (.iconst 1, 1) := by decide +kernel
theorem dX8_error_11 : decode cX8_error 11 = .ok (.iadd, 1) := by decide +kernel
theorem dX8_error_12 : decode cX8_error 12 = .ok (.iastore, 1) := by decide +kernel
theorem dX8_error_13 : decode cX8_error 13 = .ok (.iload_n 1, 1) := by decide +kernel
theorem dX8_error_14 : decode cX8_error 14 = .ok (.ireturn, 1) := by decide +kernel
theorem dX8_in_0 : decode cX8_in 0 = .ok (.iload_n 0, 1) := by decide +kernel
theorem dX8_in_1 : decode cX8_in 1 = .ok (.iload_n 1, 1) := by decide +kernel
theorem dX8_in_2 : decode cX8_in 2 = .ok (.if_icmp .lt 12, 3) := by decide +kernel
theorem dX8_in_5 : decode cX8_in 5 = .ok (.iload_n 0, 1) := by decide +kernel
theorem dX8_in_6 : decode cX8_in 6 = .ok (.iload_n 2, 1) := by decide +kernel
theorem dX8_in_7 : decode cX8_in 7 = .ok (.if_icmp .gt 7, 3) := by decide +kernel
theorem dX8_in_10 : decode cX8_in 10 = .ok (.iconst 1, 1) := by decide +kernel
theorem dX8_in_11 : decode cX8_in 11 = .ok (.goto 4, 3) := by decide +kernel
theorem dX8_in_14 : decode cX8_in 14 = .ok (.iconst 0, 1) := by decide +kernel
theorem dX8_in_15 : decode cX8_in 15 = .ok (.ireturn, 1) := by decide +kernel
theorem dX8_held_0 : decode cX8_held 0 = .ok (.iload_n 0, 1) := by decide +kernel
theorem dX8_held_1 : decode cX8_held 1 = .ok (.iload_n 1, 1) := by decide +kernel
theorem dX8_held_2 : decode cX8_held 2 = .ok (.if_icmp .ge 7, 3) := by decide +kernel
theorem dX8_held_5 : decode cX8_held 5 = .ok (.iload_n 1, 1) := by decide +kernel
theorem dX8_held_6 : decode cX8_held 6 = .ok (.goto 13, 3) := by decide +kernel
theorem dX8_held_9 : decode cX8_held 9 = .ok (.iload_n 0, 1) := by decide +kernel
theorem dX8_held_10 : decode cX8_held 10 = .ok (.iload_n 2, 1) := by decide +kernel
theorem dX8_held_11 : decode cX8_held 11 = .ok (.if_icmp .le 7, 3) := by decide +kernel
theorem dX8_held_14 : decode cX8_held 14 = .ok (.iload_n 2, 1) := by decide +kernel
theorem dX8_held_15 : decode cX8_held 15 = .ok (.goto 4, 3) := by decide +kernel
theorem dX8_held_18 : decode cX8_held 18 = .ok (.iload_n 0, 1) := by decide +kernel
theorem dX8_held_19 : decode cX8_held 19 = .ok (.ireturn, 1) := by decide +kernel
theorem dX8_copyAll_0 : decode cX8_copyAll 0 = .ok (.iconst 0, 1) := by decide +kernel
theorem dX8_copyAll_1 : decode cX8_copyAll 1 = .ok (.istore_n 2, 1) := by decide +kernel
theorem dX8_copyAll_2 : decode cX8_copyAll 2 = .ok (.iload_n 2, 1) := by decide +kernel
theorem dX8_copyAll_3 : decode cX8_copyAll 3 = .ok (.sipush 371, 3) := by decide +kernel
theorem dX8_copyAll_6 : decode cX8_copyAll 6 = .ok (.if_icmp .ge 15, 3) := by decide +kernel
theorem dX8_copyAll_9 : decode cX8_copyAll 9 = .ok (.aload_n 1, 1) := by decide +kernel
theorem dX8_copyAll_10 : decode cX8_copyAll 10 = .ok (.iload_n 2, 1) := by decide +kernel
theorem dX8_copyAll_11 : decode cX8_copyAll 11 = .ok (.aload_n 0, 1) := by decide +kernel
theorem dX8_copyAll_12 : decode cX8_copyAll 12 = .ok (.iload_n 2, 1) := by decide +kernel
theorem dX8_copyAll_13 : decode cX8_copyAll 13 = .ok (.iaload, 1) := by decide +kernel
theorem dX8_copyAll_14 : decode cX8_copyAll 14 = .ok (.iastore, 1) := by decide +kernel
theorem dX8_copyAll_15 : decode cX8_copyAll 15 = .ok (.iinc 2 1, 3) := by decide +kernel
theorem dX8_copyAll_18 : decode cX8_copyAll 18 = .ok (.goto (-16), 3) := by decide +kernel
theorem dX8_copyAll_21 : decode cX8_copyAll 21 = .ok (.return_, 1) := by decide +kernel
theorem dX8_isPlace_0 : decode cX8_isPlace 0 = .ok (.iload_n 0, 1) := by decide +kernel
theorem dX8_isPlace_1 : decode cX8_isPlace 1 = .ok (.iconst 0, 1) := by decide +kernel
theorem dX8_isPlace_2 : decode cX8_isPlace 2 = .ok (.bipush 19, 2) := by decide +kernel
theorem dX8_isPlace_4 : decode cX8_isPlace 4 = .ok (.invokestatic 47, 3) := by decide +kernel
theorem dX8_isPlace_7 : decode cX8_isPlace 7 = .ok (.ireturn, 1) := by decide +kernel
theorem dX8_isVillage_0 : decode cX8_isVillage 0 = .ok (.iload_n 1, 1) := by decide +kernel
theorem dX8_isVillage_1 : decode cX8_isVillage 1 = .ok (.iconst 0, 1) := by decide +kernel
theorem dX8_isVillage_2 : decode cX8_isVillage 2 = .ok (.aload_n 0, 1) := by decide +kernel
theorem dX8_isVillage_3 : decode cX8_isVillage 3 = .ok (.getfield 9, 3) := by decide +kernel
theorem dX8_isVillage_6 : decode cX8_isVillage 6 = .ok (.iconst 2, 1) := by decide +kernel
theorem dX8_isVillage_7 : decode cX8_isVillage 7 = .ok (.iaload, 1) := by decide +kernel
theorem dX8_isVillage_8 : decode cX8_isVillage 8 = .ok (.iconst 1, 1) := by decide +kernel
theorem dX8_isVillage_9 : decode cX8_isVillage 9 = .ok (.isub, 1) := by decide +kernel
theorem dX8_isVillage_10 : decode cX8_isVillage 10 = .ok (.invokestatic 47, 3) := by decide +kernel
theorem dX8_isVillage_13 : decode cX8_isVillage 13 = .ok (.ireturn, 1) := by decide +kernel
theorem dX8_isBottle_0 : decode cX8_isBottle 0 = .ok (.iload_n 1, 1) := by decide +kernel
theorem dX8_isBottle_1 : decode cX8_isBottle 1 = .ok (.iconst 0, 1) := by decide +kernel
theorem dX8_isBottle_2 : decode cX8_isBottle 2 = .ok (.aload_n 0, 1) := by decide +kernel
theorem dX8_isBottle_3 : decode cX8_isBottle 3 = .ok (.getfield 9, 3) := by decide +kernel
theorem dX8_isBottle_6 : decode cX8_isBottle 6 = .ok (.iconst 3, 1) := by decide +kernel
theorem dX8_isBottle_7 : decode cX8_isBottle 7 = .ok (.iaload, 1) := by decide +kernel
theorem dX8_isBottle_8 : decode cX8_isBottle 8 = .ok (.iconst 1, 1) := by decide +kernel
theorem dX8_isBottle_9 : decode cX8_isBottle 9 = .ok (.isub, 1) := by decide +kernel
theorem dX8_isBottle_10 : decode cX8_isBottle 10 = .ok (.invokestatic 47, 3) := by decide +kernel
theorem dX8_isBottle_13 : decode cX8_isBottle 13 = .ok (.ireturn, 1) := by decide +kernel
theorem dX8_becomes_0 : decode cX8_becomes 0 = .ok (.aload_n 0, 1) := by decide +kernel
theorem dX8_becomes_1 : decode cX8_becomes 1 = .ok (.getfield 9, 3) := by decide +kernel
theorem dX8_becomes_4 : decode cX8_becomes 4 = .ok (.iload_n 1, 1) := by decide +kernel
theorem dX8_becomes_5 : decode cX8_becomes 5 = .ok (.iaload, 1) := by decide +kernel
theorem dX8_becomes_6 : decode cX8_becomes 6 = .ok (.istore_n 3, 1) := by decide +kernel
theorem dX8_becomes_7 : decode cX8_becomes 7 = .ok (.aload_n 0, 1) := by decide +kernel
theorem dX8_becomes_8 : decode cX8_becomes 8 = .ok (.getfield 9, 3) := by decide +kernel
theorem dX8_becomes_11 : decode cX8_becomes 11 = .ok (.iload_n 1, 1) := by decide +kernel
theorem dX8_becomes_12 : decode cX8_becomes 12 = .ok (.iload_n 2, 1) := by decide +kernel
theorem dX8_becomes_13 : decode cX8_becomes 13 = .ok (.iastore, 1) := by decide +kernel
theorem dX8_becomes_14 : decode cX8_becomes 14 = .ok (.iload_n 3, 1) := by decide +kernel
theorem dX8_becomes_15 : decode cX8_becomes 15 = .ok (.ireturn, 1) := by decide +kernel
theorem dX8_bits_0 : decode cX8_bits 0 = .ok (.iconst 0, 1) := by decide +kernel
theorem dX8_bits_1 : decode cX8_bits 1 = .ok (.istore_n 1, 1) := by decide +kernel
theorem dX8_bits_2 : decode cX8_bits 2 = .ok (.iload_n 0, 1) := by decide +kernel
theorem dX8_bits_3 : decode cX8_bits 3 = .ok (.istore_n 2, 1) := by decide +kernel
theorem dX8_bits_4 : decode cX8_bits 4 = .ok (.iload_n 2, 1) := by decide +kernel
theorem dX8_bits_5 : decode cX8_bits 5 = .ok (.ifCond .eq 15, 3) := by decide +kernel
theorem dX8_bits_8 : decode cX8_bits 8 = .ok (.iinc 1 1, 3) := by decide +kernel
theorem dX8_bits_11 : decode cX8_bits 11 = .ok (.iload_n 2, 1) := by decide +kernel
theorem dX8_bits_12 : decode cX8_bits 12 = .ok (.iload_n 2, 1) := by decide +kernel
theorem dX8_bits_13 : decode cX8_bits 13 = .ok (.iconst 1, 1) := by decide +kernel
theorem dX8_bits_14 : decode cX8_bits 14 = .ok (.isub, 1) := by decide +kernel
theorem dX8_bits_15 : decode cX8_bits 15 = .ok (.iand, 1) := by decide +kernel
theorem dX8_bits_16 : decode cX8_bits 16 = .ok (.istore_n 2, 1) := by decide +kernel
theorem dX8_bits_17 : decode cX8_bits 17 = .ok (.goto (-13), 3) := by decide +kernel
theorem dX8_bits_20 : decode cX8_bits 20 = .ok (.iload_n 1, 1) := by decide +kernel
theorem dX8_bits_21 : decode cX8_bits 21 = .ok (.ireturn, 1) := by decide +kernel
theorem dX8_steps_0 : decode cX8_steps 0 = .ok (.iload_n 0, 1) := by decide +kernel
theorem dX8_steps_1 : decode cX8_steps 1 = .ok (.iload_n 1, 1) := by decide +kernel
theorem dX8_steps_2 : decode cX8_steps 2 = .ok (.if_icmp .ge 9, 3) := by decide +kernel
theorem dX8_steps_5 : decode cX8_steps 5 = .ok (.iload_n 1, 1) := by decide +kernel
theorem dX8_steps_6 : decode cX8_steps 6 = .ok (.iload_n 0, 1) := by decide +kernel
theorem dX8_steps_7 : decode cX8_steps 7 = .ok (.isub, 1) := by decide +kernel
theorem dX8_steps_8 : decode cX8_steps 8 = .ok (.goto 6, 3) := by decide +kernel
theorem dX8_steps_11 : decode cX8_steps 11 = .ok (.iload_n 0, 1) := by decide +kernel
theorem dX8_steps_12 : decode cX8_steps 12 = .ok (.iload_n 1, 1) := by decide +kernel
theorem dX8_steps_13 : decode cX8_steps 13 = .ok (.isub, 1) := by decide +kernel
theorem dX8_steps_14 : decode cX8_steps 14 = .ok (.ireturn, 1) := by decide +kernel
theorem dX8_isThere_0 : decode cX8_isThere 0 = .ok (.aload_n 0, 1) := by decide +kernel
theorem dX8_isThere_1 : decode cX8_isThere 1 = .ok (.getfield 9, 3) := by decide +kernel
theorem dX8_isThere_4 : decode cX8_isThere 4 = .ok (.bipush 31, 2) := by decide +kernel
theorem dX8_isThere_6 : decode cX8_isThere 6 = .ok (.iload_n 1, 1) := by decide +kernel
theorem dX8_isThere_7 : decode cX8_isThere 7 = .ok (.iadd, 1) := by decide +kernel
theorem dX8_isThere_8 : decode cX8_isThere 8 = .ok (.iaload, 1) := by decide +kernel
theorem dX8_isThere_9 : decode cX8_isThere 9 = .ok (.ifCond .ne 7, 3) := by decide +kernel
theorem dX8_isThere_12 : decode cX8_isThere 12 = .ok (.iconst 1, 1) := by decide +kernel
theorem dX8_isThere_13 : decode cX8_isThere 13 = .ok (.goto 4, 3) := by decide +kernel
theorem dX8_isThere_16 : decode cX8_isThere 16 = .ok (.iconst 0, 1) := by decide +kernel
theorem dX8_isThere_17 : decode cX8_isThere 17 = .ok (.ireturn, 1) := by decide +kernel
theorem dX8_isSeen_0 : decode cX8_isSeen 0 = .ok (.iload_n 1, 1) := by decide +kernel
theorem dX8_isSeen_1 : decode cX8_isSeen 1 = .ok (.iload_n 3, 1) := by decide +kernel
theorem dX8_isSeen_2 : decode cX8_isSeen 2 = .ok (.if_icmp .eq 11, 3) := by decide +kernel
theorem dX8_isSeen_5 : decode cX8_isSeen 5 = .ok (.aload_n 0, 1) := by decide +kernel
theorem dX8_isSeen_6 : decode cX8_isSeen 6 = .ok (.iload_n 3, 1) := by decide +kernel
theorem dX8_isSeen_7 : decode cX8_isSeen 7 = .ok (.invokevirtual 51, 3) := by decide +kernel
theorem dX8_isSeen_10 : decode cX8_isSeen 10 = .ok (.ifCond .ne 5, 3) := by decide +kernel
theorem dX8_isSeen_13 : decode cX8_isSeen 13 = .ok (.iconst 0, 1) := by decide +kernel
theorem dX8_isSeen_14 : decode cX8_isSeen 14 = .ok (.ireturn, 1) := by decide +kernel
theorem dX8_isSeen_15 : decode cX8_isSeen 15 = .ok (.aload_n 0, 1) := by decide +kernel
theorem dX8_isSeen_16 : decode cX8_isSeen 16 = .ok (.getfield 9, 3) := by decide +kernel
theorem dX8_isSeen_19 : decode cX8_isSeen 19 = .ok (.bipush 11, 2) := by decide +kernel
theorem dX8_isSeen_21 : decode cX8_isSeen 21 = .ok (.iload_n 3, 1) := by decide +kernel
theorem dX8_isSeen_22 : decode cX8_isSeen 22 = .ok (.iadd, 1) := by decide +kernel
theorem dX8_isSeen_23 : decode cX8_isSeen 23 = .ok (.iaload, 1) := by decide +kernel
theorem dX8_isSeen_24 : decode cX8_isSeen 24 = .ok (.iload_n 2, 1) := by decide +kernel
theorem dX8_isSeen_25 : decode cX8_isSeen 25 = .ok (.isub, 1) := by decide +kernel
theorem dX8_isSeen_26 : decode cX8_isSeen 26 = .ok (.istore 4, 2) := by decide +kernel
theorem dX8_isSeen_28 : decode cX8_isSeen 28 = .ok (.iload_n 1, 1) := by decide +kernel
theorem dX8_isSeen_29 : decode cX8_isSeen 29 = .ok (.iload_n 3, 1) := by decide +kernel
theorem dX8_isSeen_30 : decode cX8_isSeen 30 = .ok (.invokestatic 55, 3) := by decide +kernel
theorem dX8_isSeen_33 : decode cX8_isSeen 33 = .ok (.istore 5, 2) := by decide +kernel
theorem dX8_isSeen_35 : decode cX8_isSeen 35 = .ok (.iconst 1, 1) := by decide +kernel
theorem dX8_isSeen_36 : decode cX8_isSeen 36 = .ok (.istore 6, 2) := by decide +kernel
theorem dX8_isSeen_38 : decode cX8_isSeen 38 = .ok (.iload 6, 2) := by decide +kernel
theorem dX8_isSeen_40 : decode cX8_isSeen 40 = .ok (.iload 5, 2) := by decide +kernel
theorem dX8_isSeen_42 : decode cX8_isSeen 42 = .ok (.if_icmp .ge 61, 3) := by decide +kernel
theorem dX8_isSeen_45 : decode cX8_isSeen 45 = .ok (.iload_n 1, 1) := by decide +kernel
theorem dX8_isSeen_46 : decode cX8_isSeen 46 = .ok (.iload_n 3, 1) := by decide +kernel
theorem dX8_isSeen_47 : decode cX8_isSeen 47 = .ok (.if_icmp .ge 10, 3) := by decide +kernel
theorem dX8_isSeen_50 : decode cX8_isSeen 50 = .ok (.iload_n 1, 1) := by decide +kernel
theorem dX8_isSeen_51 : decode cX8_isSeen 51 = .ok (.iload 6, 2) := by decide +kernel
theorem dX8_isSeen_53 : decode cX8_isSeen 53 = .ok (.iadd, 1) := by decide +kernel
theorem dX8_isSeen_54 : decode cX8_isSeen 54 = .ok (.goto 7, 3) := by decide +kernel
theorem dX8_isSeen_57 : decode cX8_isSeen 57 = .ok (.iload_n 1, 1) := by decide +kernel
theorem dX8_isSeen_58 : decode cX8_isSeen 58 = .ok (.iload 6, 2) := by decide +kernel
theorem dX8_isSeen_60 : decode cX8_isSeen 60 = .ok (.isub, 1) := by decide +kernel
theorem dX8_isSeen_61 : decode cX8_isSeen 61 = .ok (.istore 7, 2) := by decide +kernel
theorem dX8_isSeen_63 : decode cX8_isSeen 63 = .ok (.aload_n 0, 1) := by decide +kernel
theorem dX8_isSeen_64 : decode cX8_isSeen 64 = .ok (.iload 7, 2) := by decide +kernel
theorem dX8_isSeen_66 : decode cX8_isSeen 66 = .ok (.invokevirtual 51, 3) := by decide +kernel
theorem dX8_isSeen_69 : decode cX8_isSeen 69 = .ok (.ifCond .eq 28, 3) := by decide +kernel
theorem dX8_isSeen_72 : decode cX8_isSeen 72 = .ok (.aload_n 0, 1) := by decide +kernel
theorem dX8_isSeen_73 : decode cX8_isSeen 73 = .ok (.getfield 9, 3) := by decide +kernel
theorem dX8_isSeen_76 : decode cX8_isSeen 76 = .ok (.bipush 11, 2) := by decide +kernel
theorem dX8_isSeen_78 : decode cX8_isSeen 78 = .ok (.iload 7, 2) := by decide +kernel
theorem dX8_isSeen_80 : decode cX8_isSeen 80 = .ok (.iadd, 1) := by decide +kernel
theorem dX8_isSeen_81 : decode cX8_isSeen 81 = .ok (.iaload, 1) := by decide +kernel
theorem dX8_isSeen_82 : decode cX8_isSeen 82 = .ok (.iload_n 2, 1) := by decide +kernel
theorem dX8_isSeen_83 : decode cX8_isSeen 83 = .ok (.isub, 1) := by decide +kernel
end
section
theorem dX8_isSeen_84 : decode cX8_isSeen 84 = .ok (.iload 5, 2) := by decide +kernel
theorem dX8_isSeen_86 : decode cX8_isSeen 86 = .ok (.imul, 1) := by decide +kernel
theorem dX8_isSeen_87 : decode cX8_isSeen 87 = .ok (.iload 4, 2) := by decide +kernel
theorem dX8_isSeen_89 : decode cX8_isSeen 89 = .ok (.iload 6, 2) := by decide +kernel
theorem dX8_isSeen_91 : decode cX8_isSeen 91 = .ok (.imul, 1) := by decide +kernel
theorem dX8_isSeen_92 : decode cX8_isSeen 92 = .ok (.if_icmp .lt 5, 3) := by decide +kernel
theorem dX8_isSeen_95 : decode cX8_isSeen 95 = .ok (.iconst 0, 1) := by decide +kernel
theorem dX8_isSeen_96 : decode cX8_isSeen 96 = .ok (.ireturn, 1) := by decide +kernel
theorem dX8_isSeen_97 : decode cX8_isSeen 97 = .ok (.iinc 6 1, 3) := by decide +kernel
theorem dX8_isSeen_100 : decode cX8_isSeen 100 = .ok (.goto (-62), 3) := by decide +kernel
theorem dX8_isSeen_103 : decode cX8_isSeen 103 = .ok (.iconst 1, 1) := by decide +kernel
theorem dX8_isSeen_104 : decode cX8_isSeen 104 = .ok (.ireturn, 1) := by decide +kernel
theorem dX8_viewOf_0 : decode cX8_viewOf 0 = .ok (.iconst 0, 1) := by decide +kernel
theorem dX8_viewOf_1 : decode cX8_viewOf 1 = .ok (.istore_n 3, 1) := by decide +kernel
theorem dX8_viewOf_2 : decode cX8_viewOf 2 = .ok (.iload_n 2, 1) := by decide +kernel
theorem dX8_viewOf_3 : decode cX8_viewOf 3 = .ok (.ifCond .ne 7, 3) := by decide +kernel
theorem dX8_viewOf_6 : decode cX8_viewOf 6 = .ok (.iconst 0, 1) := by decide +kernel
theorem dX8_viewOf_7 : decode cX8_viewOf 7 = .ok (.goto 6, 3) := by decide +kernel
theorem dX8_viewOf_10 : decode cX8_viewOf 10 = .ok (.iload_n 1, 1) := by decide +kernel
theorem dX8_viewOf_11 : decode cX8_viewOf 11 = .ok (.iconst 1, 1) := by decide +kernel
theorem dX8_viewOf_12 : decode cX8_viewOf 12 = .ok (.iadd, 1) := by decide +kernel
theorem dX8_viewOf_13 : decode cX8_viewOf 13 = .ok (.istore 4, 2) := by decide +kernel
theorem dX8_viewOf_15 : decode cX8_viewOf 15 = .ok (.iload_n 2, 1) := by decide +kernel
theorem dX8_viewOf_16 : decode cX8_viewOf 16 = .ok (.ifCond .ne 7, 3) := by decide +kernel
theorem dX8_viewOf_19 : decode cX8_viewOf 19 = .ok (.iload_n 1, 1) := by decide +kernel
theorem dX8_viewOf_20 : decode cX8_viewOf 20 = .ok (.goto 5, 3) := by decide +kernel
theorem dX8_viewOf_23 : decode cX8_viewOf 23 = .ok (.bipush 20, 2) := by decide +kernel
theorem dX8_viewOf_25 : decode cX8_viewOf 25 = .ok (.istore 5, 2) := by decide +kernel
theorem dX8_viewOf_27 : decode cX8_viewOf 27 = .ok (.iload 4, 2) := by decide +kernel
theorem dX8_viewOf_29 : decode cX8_viewOf 29 = .ok (.istore 6, 2) := by decide +kernel
theorem dX8_viewOf_31 : decode cX8_viewOf 31 = .ok (.iload 6, 2) := by decide +kernel
theorem dX8_viewOf_33 : decode cX8_viewOf 33 = .ok (.iload 5, 2) := by decide +kernel
theorem dX8_viewOf_35 : decode cX8_viewOf 35 = .ok (.if_icmp .ge 39, 3) := by decide +kernel
theorem dX8_viewOf_38 : decode cX8_viewOf 38 = .ok (.iload_n 3, 1) := by decide +kernel
theorem dX8_viewOf_39 : decode cX8_viewOf 39 = .ok (.aload_n 0, 1) := by decide +kernel
theorem dX8_viewOf_40 : decode cX8_viewOf 40 = .ok (.iload_n 1, 1) := by decide +kernel
theorem dX8_viewOf_41 : decode cX8_viewOf 41 = .ok (.aload_n 0, 1) := by decide +kernel
theorem dX8_viewOf_42 : decode cX8_viewOf 42 = .ok (.getfield 9, 3) := by decide +kernel
theorem dX8_viewOf_45 : decode cX8_viewOf 45 = .ok (.bipush 11, 2) := by decide +kernel
theorem dX8_viewOf_47 : decode cX8_viewOf 47 = .ok (.iload_n 1, 1) := by decide +kernel
theorem dX8_viewOf_48 : decode cX8_viewOf 48 = .ok (.iadd, 1) := by decide +kernel
theorem dX8_viewOf_49 : decode cX8_viewOf 49 = .ok (.iaload, 1) := by decide +kernel
theorem dX8_viewOf_50 : decode cX8_viewOf 50 = .ok (.iload 6, 2) := by decide +kernel
theorem dX8_viewOf_52 : decode cX8_viewOf 52 = .ok (.invokevirtual 59, 3) := by decide +kernel
theorem dX8_viewOf_55 : decode cX8_viewOf 55 = .ok (.ifCond .eq 10, 3) := by decide +kernel
theorem dX8_viewOf_58 : decode cX8_viewOf 58 = .ok (.iconst 1, 1) := by decide +kernel
theorem dX8_viewOf_59 : decode cX8_viewOf 59 = .ok (.iload 6, 2) := by decide +kernel
theorem dX8_viewOf_61 : decode cX8_viewOf 61 = .ok (.ishl, 1) := by decide +kernel
theorem dX8_viewOf_62 : decode cX8_viewOf 62 = .ok (.goto 4, 3) := by decide +kernel
theorem dX8_viewOf_65 : decode cX8_viewOf 65 = .ok (.iconst 0, 1) := by decide +kernel
theorem dX8_viewOf_66 : decode cX8_viewOf 66 = .ok (.ior, 1) := by decide +kernel
theorem dX8_viewOf_67 : decode cX8_viewOf 67 = .ok (.istore_n 3, 1) := by decide +kernel
theorem dX8_viewOf_68 : decode cX8_viewOf 68 = .ok (.iinc 6 1, 3) := by decide +kernel
theorem dX8_viewOf_71 : decode cX8_viewOf 71 = .ok (.goto (-40), 3) := by decide +kernel
theorem dX8_viewOf_74 : decode cX8_viewOf 74 = .ok (.iload_n 3, 1) := by decide +kernel
theorem dX8_viewOf_75 : decode cX8_viewOf 75 = .ok (.ireturn, 1) := by decide +kernel
theorem dX8_sightsOf_0 : decode cX8_sightsOf 0 = .ok (.aload_n 0, 1) := by decide +kernel
theorem dX8_sightsOf_1 : decode cX8_sightsOf 1 = .ok (.iload_n 1, 1) := by decide +kernel
theorem dX8_sightsOf_2 : decode cX8_sightsOf 2 = .ok (.iconst 0, 1) := by decide +kernel
theorem dX8_sightsOf_3 : decode cX8_sightsOf 3 = .ok (.invokevirtual 62, 3) := by decide +kernel
theorem dX8_sightsOf_6 : decode cX8_sightsOf 6 = .ok (.invokestatic 65, 3) := by decide +kernel
theorem dX8_sightsOf_9 : decode cX8_sightsOf 9 = .ok (.aload_n 0, 1) := by decide +kernel
theorem dX8_sightsOf_10 : decode cX8_sightsOf 10 = .ok (.iload_n 1, 1) := by decide +kernel
theorem dX8_sightsOf_11 : decode cX8_sightsOf 11 = .ok (.iconst 1, 1) := by decide +kernel
theorem dX8_sightsOf_12 : decode cX8_sightsOf 12 = .ok (.invokevirtual 62, 3) := by decide +kernel
theorem dX8_sightsOf_15 : decode cX8_sightsOf 15 = .ok (.invokestatic 65, 3) := by decide +kernel
theorem dX8_sightsOf_18 : decode cX8_sightsOf 18 = .ok (.iadd, 1) := by decide +kernel
theorem dX8_sightsOf_19 : decode cX8_sightsOf 19 = .ok (.ireturn, 1) := by decide +kernel
theorem dX8_land_0 : decode cX8_land 0 = .ok (.iload_n 1, 1) := by decide +kernel
theorem dX8_land_1 : decode cX8_land 1 = .ok (.invokestatic 69, 3) := by decide +kernel
theorem dX8_land_4 : decode cX8_land 4 = .ok (.ifCond .eq 31, 3) := by decide +kernel
theorem dX8_land_7 : decode cX8_land 7 = .ok (.iload_n 2, 1) := by decide +kernel
theorem dX8_land_8 : decode cX8_land 8 = .ok (.iconst 0, 1) := by decide +kernel
theorem dX8_land_9 : decode cX8_land 9 = .ok (.iconst 1, 1) := by decide +kernel
theorem dX8_land_10 : decode cX8_land 10 = .ok (.invokestatic 47, 3) := by decide +kernel
theorem dX8_land_13 : decode cX8_land 13 = .ok (.ifCond .eq 22, 3) := by decide +kernel
theorem dX8_land_16 : decode cX8_land 16 = .ok (.iload_n 3, 1) := by decide +kernel
theorem dX8_land_17 : decode cX8_land 17 = .ok (.iconst 0, 1) := by decide +kernel
theorem dX8_land_18 : decode cX8_land 18 = .ok (.iload_n 2, 1) := by decide +kernel
theorem dX8_land_19 : decode cX8_land 19 = .ok (.ifCond .ne 8, 3) := by decide +kernel
theorem dX8_land_22 : decode cX8_land 22 = .ok (.bipush 20, 2) := by decide +kernel
theorem dX8_land_24 : decode cX8_land 24 = .ok (.goto 5, 3) := by decide +kernel
theorem dX8_land_27 : decode cX8_land 27 = .ok (.bipush 99, 2) := by decide +kernel
theorem dX8_land_29 : decode cX8_land 29 = .ok (.invokestatic 47, 3) := by decide +kernel
theorem dX8_land_32 : decode cX8_land 32 = .ok (.ifCond .ne 10, 3) := by decide +kernel
theorem dX8_land_35 : decode cX8_land 35 = .ok (.aload_n 0, 1) := by decide +kernel
theorem dX8_land_36 : decode cX8_land 36 = .ok (.ldc 72, 2) := by decide +kernel
theorem dX8_land_38 : decode cX8_land 38 = .ok (.invokevirtual 73, 3) := by decide +kernel
theorem dX8_land_41 : decode cX8_land 41 = .ok (.ireturn, 1) := by decide +kernel
theorem dX8_land_42 : decode cX8_land 42 = .ok (.aload_n 0, 1) := by decide +kernel
theorem dX8_land_43 : decode cX8_land 43 = .ok (.iload_n 2, 1) := by decide +kernel
theorem dX8_land_44 : decode cX8_land 44 = .ok (.ifCond .ne 8, 3) := by decide +kernel
theorem dX8_land_47 : decode cX8_land 47 = .ok (.bipush 11, 2) := by decide +kernel
theorem dX8_land_49 : decode cX8_land 49 = .ok (.goto 5, 3) := by decide +kernel
theorem dX8_land_52 : decode cX8_land 52 = .ok (.bipush 31, 2) := by decide +kernel
theorem dX8_land_54 : decode cX8_land 54 = .ok (.iload_n 1, 1) := by decide +kernel
theorem dX8_land_55 : decode cX8_land 55 = .ok (.iadd, 1) := by decide +kernel
theorem dX8_land_56 : decode cX8_land 56 = .ok (.iload_n 3, 1) := by decide +kernel
theorem dX8_land_57 : decode cX8_land 57 = .ok (.invokevirtual 76, 3) := by decide +kernel
theorem dX8_land_60 : decode cX8_land 60 = .ok (.ireturn, 1) := by decide +kernel
theorem dX8_villagesAt_0 : decode cX8_villagesAt 0 = .ok (.iconst 0, 1) := by decide +kernel
theorem dX8_villagesAt_1 : decode cX8_villagesAt 1 = .ok (.istore_n 2, 1) := by decide +kernel
theorem dX8_villagesAt_2 : decode cX8_villagesAt 2 = .ok (.iconst 0, 1) := by decide +kernel
theorem dX8_villagesAt_3 : decode cX8_villagesAt 3 = .ok (.istore_n 3, 1) := by decide +kernel
theorem dX8_villagesAt_4 : decode cX8_villagesAt 4 = .ok (.iload_n 3, 1) := by decide +kernel
theorem dX8_villagesAt_5 : decode cX8_villagesAt 5 = .ok (.aload_n 0, 1) := by decide +kernel
theorem dX8_villagesAt_6 : decode cX8_villagesAt 6 = .ok (.getfield 9, 3) := by decide +kernel
theorem dX8_villagesAt_9 : decode cX8_villagesAt 9 = .ok (.iconst 2, 1) := by decide +kernel
theorem dX8_villagesAt_10 : decode cX8_villagesAt 10 = .ok (.iaload, 1) := by decide +kernel
theorem dX8_villagesAt_11 : decode cX8_villagesAt 11 = .ok (.if_icmp .ge 32, 3) := by decide +kernel
theorem dX8_villagesAt_14 : decode cX8_villagesAt 14 = .ok (.iload_n 2, 1) := by decide +kernel
theorem dX8_villagesAt_15 : decode cX8_villagesAt 15 = .ok (.aload_n 0, 1) := by decide +kernel
theorem dX8_villagesAt_16 : decode cX8_villagesAt 16 = .ok (.getfield 9, 3) := by decide +kernel
theorem dX8_villagesAt_19 : decode cX8_villagesAt 19 = .ok (.bipush 6, 2) := by decide +kernel
theorem dX8_villagesAt_21 : decode cX8_villagesAt 21 = .ok (.iload_n 3, 1) := by decide +kernel
theorem dX8_villagesAt_22 : decode cX8_villagesAt 22 = .ok (.iadd, 1) := by decide +kernel
theorem dX8_villagesAt_23 : decode cX8_villagesAt 23 = .ok (.iaload, 1) := by decide +kernel
theorem dX8_villagesAt_24 : decode cX8_villagesAt 24 = .ok (.iload_n 1, 1) := by decide +kernel
theorem dX8_villagesAt_25 : decode cX8_villagesAt 25 = .ok (.if_icmp .ne 9, 3) := by decide +kernel
theorem dX8_villagesAt_28 : decode cX8_villagesAt 28 = .ok (.iconst 1, 1) := by decide +kernel
theorem dX8_villagesAt_29 : decode cX8_villagesAt 29 = .ok (.iload_n 3, 1) := by decide +kernel
theorem dX8_villagesAt_30 : decode cX8_villagesAt 30 = .ok (.ishl, 1) := by decide +kernel
theorem dX8_villagesAt_31 : decode cX8_villagesAt 31 = .ok (.goto 4, 3) := by decide +kernel
theorem dX8_villagesAt_34 : decode cX8_villagesAt 34 = .ok (.iconst 0, 1) := by decide +kernel
theorem dX8_villagesAt_35 : decode cX8_villagesAt 35 = .ok (.ior, 1) := by decide +kernel
theorem dX8_villagesAt_36 : decode cX8_villagesAt 36 = .ok (.istore_n 2, 1) := by decide +kernel
theorem dX8_villagesAt_37 : decode cX8_villagesAt 37 = .ok (.iinc 3 1, 3) := by decide +kernel
theorem dX8_villagesAt_40 : decode cX8_villagesAt 40 = .ok (.goto (-36), 3) := by decide +kernel
theorem dX8_villagesAt_43 : decode cX8_villagesAt 43 = .ok (.iload_n 2, 1) := by decide +kernel
theorem dX8_villagesAt_44 : decode cX8_villagesAt 44 = .ok (.ireturn, 1) := by decide +kernel
theorem dX8_ofPlace_0 : decode cX8_ofPlace 0 = .ok (.iload_n 1, 1) := by decide +kernel
theorem dX8_ofPlace_1 : decode cX8_ofPlace 1 = .ok (.invokestatic 69, 3) := by decide +kernel
theorem dX8_ofPlace_4 : decode cX8_ofPlace 4 = .ok (.ifCond .ne 10, 3) := by decide +kernel
theorem dX8_ofPlace_7 : decode cX8_ofPlace 7 = .ok (.aload_n 0, 1) := by decide +kernel
theorem dX8_ofPlace_8 : decode cX8_ofPlace 8 = .ok (.ldc 72, 2) := by decide +kernel
theorem dX8_ofPlace_10 : decode cX8_ofPlace 10 = .ok (.invokevirtual 73, 3) := by decide +kernel
theorem dX8_ofPlace_13 : decode cX8_ofPlace 13 = .ok (.ireturn, 1) := by decide +kernel
theorem dX8_ofPlace_14 : decode cX8_ofPlace 14 = .ok (.iload_n 2, 1) := by decide +kernel
theorem dX8_ofPlace_15 : decode cX8_ofPlace 15 = .ok (.tableswitch 78 0 5 #[37, 47, 57, 57, 66, 72], 37) := by decide +kernel
theorem dX8_ofPlace_52 : decode cX8_ofPlace 52 = .ok (.aload_n 0, 1) := by decide +kernel
theorem dX8_ofPlace_53 : decode cX8_ofPlace 53 = .ok (.getfield 9, 3) := by decide +kernel
theorem dX8_ofPlace_56 : decode cX8_ofPlace 56 = .ok (.bipush 11, 2) := by decide +kernel
theorem dX8_ofPlace_58 : decode cX8_ofPlace 58 = .ok (.iload_n 1, 1) := by decide +kernel
theorem dX8_ofPlace_59 : decode cX8_ofPlace 59 = .ok (.iadd, 1) := by decide +kernel
theorem dX8_ofPlace_60 : decode cX8_ofPlace 60 = .ok (.iaload, 1) := by decide +kernel
theorem dX8_ofPlace_61 : decode cX8_ofPlace 61 = .ok (.ireturn, 1) := by decide +kernel
theorem dX8_ofPlace_62 : decode cX8_ofPlace 62 = .ok (.aload_n 0, 1) := by decide +kernel
theorem dX8_ofPlace_63 : decode cX8_ofPlace 63 = .ok (.getfield 9, 3) := by decide +kernel
theorem dX8_ofPlace_66 : decode cX8_ofPlace 66 = .ok (.bipush 31, 2) := by decide +kernel
theorem dX8_ofPlace_68 : decode cX8_ofPlace 68 = .ok (.iload_n 1, 1) := by decide +kernel
theorem dX8_ofPlace_69 : decode cX8_ofPlace 69 = .ok (.iadd, 1) := by decide +kernel
theorem dX8_ofPlace_70 : decode cX8_ofPlace 70 = .ok (.iaload, 1) := by decide +kernel
theorem dX8_ofPlace_71 : decode cX8_ofPlace 71 = .ok (.ireturn, 1) := by decide +kernel
theorem dX8_ofPlace_72 : decode cX8_ofPlace 72 = .ok (.aload_n 0, 1) := by decide +kernel
theorem dX8_ofPlace_73 : decode cX8_ofPlace 73 = .ok (.iload_n 1, 1) := by decide +kernel
theorem dX8_ofPlace_74 : decode cX8_ofPlace 74 = .ok (.iload_n 2, 1) := by decide +kernel
theorem dX8_ofPlace_75 : decode cX8_ofPlace 75 = .ok (.iconst 2, 1) := by decide +kernel
theorem dX8_ofPlace_76 : decode cX8_ofPlace 76 = .ok (.isub, 1) := by decide +kernel
theorem dX8_ofPlace_77 : decode cX8_ofPlace 77 = .ok (.invokevirtual 62, 3) := by decide +kernel
theorem dX8_ofPlace_80 : decode cX8_ofPlace 80 = .ok (.ireturn, 1) := by decide +kernel
theorem dX8_ofPlace_81 : decode cX8_ofPlace 81 = .ok (.aload_n 0, 1) := by decide +kernel
theorem dX8_ofPlace_82 : decode cX8_ofPlace 82 = .ok (.iload_n 1, 1) := by decide +kernel
theorem dX8_ofPlace_83 : decode cX8_ofPlace 83 = .ok (.invokevirtual 79, 3) := by decide +kernel
theorem dX8_ofPlace_86 : decode cX8_ofPlace 86 = .ok (.ireturn, 1) := by decide +kernel
theorem dX8_ofPlace_87 : decode cX8_ofPlace 87 = .ok (.aload_n 0, 1) := by decide +kernel
theorem dX8_ofPlace_88 : decode cX8_ofPlace 88 = .ok (.iload_n 1, 1) := by decide +kernel
theorem dX8_ofPlace_89 : decode cX8_ofPlace 89 = .ok (.invokevirtual 82, 3) := by decide +kernel
theorem dX8_ofPlace_92 : decode cX8_ofPlace 92 = .ok (.ireturn, 1) := by decide +kernel
theorem dX8_ofPlace_93 : decode cX8_ofPlace 93 = .ok (.aload_n 0, 1) := by decide +kernel
theorem dX8_ofPlace_94 : decode cX8_ofPlace 94 = .ok (.ldc 72, 2) := by decide +kernel
theorem dX8_ofPlace_96 : decode cX8_ofPlace 96 = .ok (.invokevirtual 73, 3) := by decide +kernel
theorem dX8_ofPlace_99 : decode cX8_ofPlace 99 = .ok (.ireturn, 1) := by decide +kernel
theorem dX8_village_0 : decode cX8_village 0 = .ok (.iload_n 1, 1) := by decide +kernel
theorem dX8_village_1 : decode cX8_village 1 = .ok (.invokestatic 69, 3) := by decide +kernel
theorem dX8_village_4 : decode cX8_village 4 = .ok (.ifCond .ne 10, 3) := by decide +kernel
theorem dX8_village_7 : decode cX8_village 7 = .ok (.aload_n 0, 1) := by decide +kernel
theorem dX8_village_8 : decode cX8_village 8 = .ok (.ldc 72, 2) := by decide +kernel
theorem dX8_village_10 : decode cX8_village 10 = .ok (.invokevirtual 73, 3) := by decide +kernel
theorem dX8_village_13 : decode cX8_village 13 = .ok (.ireturn, 1) := by decide +kernel
theorem dX8_village_14 : decode cX8_village 14 = .ok (.aload_n 0, 1) := by decide +kernel
theorem dX8_village_15 : decode cX8_village 15 = .ok (.getfield 9, 3) := by decide +kernel
theorem dX8_village_18 : decode cX8_village 18 = .ok (.iconst 2, 1) := by decide +kernel
theorem dX8_village_19 : decode cX8_village 19 = .ok (.iaload, 1) := by decide +kernel
theorem dX8_village_20 : decode cX8_village 20 = .ok (.iconst 5, 1) := by decide +kernel
theorem dX8_village_21 : decode cX8_village 21 = .ok (.if_icmp .ne 10, 3) := by decide +kernel
theorem dX8_village_24 : decode cX8_village 24 = .ok (.aload_n 0, 1) := by decide +kernel
theorem dX8_village_25 : decode cX8_village 25 = .ok (.ldc 85, 2) := by decide +kernel
theorem dX8_village_27 : decode cX8_village 27 = .ok (.invokevirtual 73, 3) := by decide +kernel
theorem dX8_village_30 : decode cX8_village 30 = .ok (.ireturn, 1) := by decide +kernel
theorem dX8_village_31 : decode cX8_village 31 = .ok (.aload_n 0, 1) := by decide +kernel
theorem dX8_village_32 : decode cX8_village 32 = .ok (.getfield 9, 3) := by decide +kernel
theorem dX8_village_35 : decode cX8_village 35 = .ok (.bipush 6, 2) := by decide +kernel
theorem dX8_village_37 : decode cX8_village 37 = .ok (.aload_n 0, 1) := by decide +kernel
theorem dX8_village_38 : decode cX8_village 38 = .ok (.getfield 9, 3) := by decide +kernel
theorem dX8_village_41 : decode cX8_village 41 = .ok (.iconst 2, 1) := by decide +kernel
theorem dX8_village_42 : decode cX8_village 42 = .ok (.iaload, 1) := by decide +kernel
theorem dX8_village_43 : decode cX8_village 43 = .ok (.iadd, 1) := by decide +kernel
theorem dX8_village_44 : decode cX8_village 44 = .ok (.iload_n 1, 1) := by decide +kernel
theorem dX8_village_45 : decode cX8_village 45 = .ok (.iastore, 1) := by decide +kernel
theorem dX8_village_46 : decode cX8_village 46 = .ok (.aload_n 0, 1) := by decide +kernel
theorem dX8_village_47 : decode cX8_village 47 = .ok (.getfield 9, 3) := by decide +kernel
theorem dX8_village_50 : decode cX8_village 50 = .ok (.iconst 2, 1) := by decide +kernel
theorem dX8_village_51 : decode cX8_village 51 = .ok (.dup2, 1) := by decide +kernel
theorem dX8_village_52 : decode cX8_village 52 = .ok (.iaload, 1) := by decide +kernel
theorem dX8_village_53 : decode cX8_village 53 = .ok (.iconst 1, 1) := by decide +kernel
theorem dX8_village_54 : decode cX8_village 54 = .ok (.iadd, 1) := by decide +kernel
theorem dX8_village_55 : decode cX8_village 55 = .ok (.iastore, 1) := by decide +kernel
theorem dX8_village_56 : decode cX8_village 56 = .ok (.aload_n 0, 1) := by decide +kernel
theorem dX8_village_57 : decode cX8_village 57 = .ok (.getfield 9, 3) := by decide +kernel
theorem dX8_village_60 : decode cX8_village 60 = .ok (.iconst 2, 1) := by decide +kernel
theorem dX8_village_61 : decode cX8_village 61 = .ok (.iaload, 1) := by decide +kernel
theorem dX8_village_62 : decode cX8_village 62 = .ok (.iconst 1, 1) := by decide +kernel
theorem dX8_village_63 : decode cX8_village 63 = .ok (.isub, 1) := by decide +kernel
theorem dX8_village_64 : decode cX8_village 64 = .ok (.ireturn, 1) := by decide +kernel
theorem dX8_moves_0 : decode cX8_moves 0 = .ok (.aload_n 0, 1) := by decide +kernel
theorem dX8_moves_1 : decode cX8_moves 1 = .ok (.iload_n 1, 1) := by decide +kernel
theorem dX8_moves_2 : decode cX8_moves 2 = .ok (.invokevirtual 86, 3) := by decide +kernel
theorem dX8_moves_5 : decode cX8_moves 5 = .ok (.ifCond .eq 22, 3) := by decide +kernel
theorem dX8_moves_8 : decode cX8_moves 8 = .ok (.iload_n 2, 1) := by decide +kernel
theorem dX8_moves_9 : decode cX8_moves 9 = .ok (.invokestatic 69, 3) := by decide +kernel
theorem dX8_moves_12 : decode cX8_moves 12 = .ok (.ifCond .eq 15, 3) := by decide +kernel
theorem dX8_moves_15 : decode cX8_moves 15 = .ok (.aload_n 0, 1) := by decide +kernel
theorem dX8_moves_16 : decode cX8_moves 16 = .ok (.bipush 6, 2) := by decide +kernel
theorem dX8_moves_18 : decode cX8_moves 18 = .ok (.iload_n 1, 1) := by decide +kernel
theorem dX8_moves_19 : decode cX8_moves 19 = .ok (.iadd, 1) := by decide +kernel
theorem dX8_moves_20 : decode cX8_moves 20 = .ok (.iload_n 2, 1) := by decide +kernel
theorem dX8_moves_21 : decode cX8_moves 21 = .ok (.invokevirtual 76, 3) := by decide +kernel
theorem dX8_moves_24 : decode cX8_moves 24 = .ok (.goto 9, 3) := by decide +kernel
theorem dX8_moves_27 : decode cX8_moves 27 = .ok (.aload_n 0, 1) := by decide +kernel
theorem dX8_moves_28 : decode cX8_moves 28 = .ok (.ldc 72, 2) := by decide +kernel
theorem dX8_moves_30 : decode cX8_moves 30 = .ok (.invokevirtual 73, 3) := by decide +kernel
theorem dX8_moves_33 : decode cX8_moves 33 = .ok (.ireturn, 1) := by decide +kernel
theorem dX8_at_0 : decode cX8_at 0 = .ok (.aload_n 0, 1) := by decide +kernel
theorem dX8_at_1 : decode cX8_at 1 = .ok (.iload_n 1, 1) := by decide +kernel
theorem dX8_at_2 : decode cX8_at 2 = .ok (.invokevirtual 86, 3) := by decide +kernel
theorem dX8_at_5 : decode cX8_at 5 = .ok (.ifCond .eq 15, 3) := by decide +kernel
theorem dX8_at_8 : decode cX8_at 8 = .ok (.aload_n 0, 1) := by decide +kernel
theorem dX8_at_9 : decode cX8_at 9 = .ok (.getfield 9, 3) := by decide +kernel
theorem dX8_at_12 : decode cX8_at 12 = .ok (.bipush 6, 2) := by decide +kernel
theorem dX8_at_14 : decode cX8_at 14 = .ok (.iload_n 1, 1) := by decide +kernel
theorem dX8_at_15 : decode cX8_at 15 = .ok (.iadd, 1) := by decide +kernel
theorem dX8_at_16 : decode cX8_at 16 = .ok (.iaload, 1) := by decide +kernel
theorem dX8_at_17 : decode cX8_at 17 = .ok (.goto 9, 3) := by decide +kernel
theorem dX8_at_20 : decode cX8_at 20 = .ok (.aload_n 0, 1) := by decide +kernel
theorem dX8_at_21 : decode cX8_at 21 = .ok (.ldc 72, 2) := by decide +kernel
theorem dX8_at_23 : decode cX8_at 23 = .ok (.invokevirtual 73, 3) := by decide +kernel
theorem dX8_at_26 : decode cX8_at 26 = .ok (.ireturn, 1) := by decide +kernel
theorem dX8_of_0 : decode cX8_of 0 = .ok (.aload_n 0, 1) := by decide +kernel
theorem dX8_of_1 : decode cX8_of 1 = .ok (.getfield 9, 3) := by decide +kernel
theorem dX8_of_4 : decode cX8_of 4 = .ok (.bipush 51, 2) := by decide +kernel
theorem dX8_of_6 : decode cX8_of 6 = .ok (.bipush 6, 2) := by decide +kernel
theorem dX8_of_8 : decode cX8_of 8 = .ok (.iload_n 1, 1) := by decide +kernel
theorem dX8_of_9 : decode cX8_of 9 = .ok (.imul, 1) := by decide +kernel
theorem dX8_of_10 : decode cX8_of 10 = .ok (.iadd, 1) := by decide +kernel
theorem dX8_of_11 : decode cX8_of 11 = .ok (.iload_n 2, 1) := by decide +kernel
theorem dX8_of_12 : decode cX8_of 12 = .ok (.iadd, 1) := by decide +kernel
theorem dX8_of_13 : decode cX8_of 13 = .ok (.iaload, 1) := by decide +kernel
theorem dX8_of_14 : decode cX8_of 14 = .ok (.ireturn, 1) := by decide +kernel
theorem dX8_lay_0 : decode cX8_lay 0 = .ok (.aload_n 0, 1) := by decide +kernel
theorem dX8_lay_1 : decode cX8_lay 1 = .ok (.getfield 9, 3) := by decide +kernel
theorem dX8_lay_4 : decode cX8_lay 4 = .ok (.bipush 51, 2) := by decide +kernel
theorem dX8_lay_6 : decode cX8_lay 6 = .ok (.bipush 6, 2) := by decide +kernel
theorem dX8_lay_8 : decode cX8_lay 8 = .ok (.iload_n 1, 1) := by decide +kernel
theorem dX8_lay_9 : decode cX8_lay 9 = .ok (.imul, 1) := by decide +kernel
theorem dX8_lay_10 : decode cX8_lay 10 = .ok (.iadd, 1) := by decide +kernel
theorem dX8_lay_11 : decode cX8_lay 11 = .ok (.iload_n 2, 1) := by decide +kernel
theorem dX8_lay_12 : decode cX8_lay 12 = .ok (.iadd, 1) := by decide +kernel
theorem dX8_lay_13 : decode cX8_lay 13 = .ok (.iload_n 3, 1) := by decide +kernel
theorem dX8_lay_14 : decode cX8_lay 14 = .ok (.iastore, 1) := by decide +kernel
theorem dX8_lay_15 : decode cX8_lay 15 = .ok (.return_, 1) := by decide +kernel
theorem dX8_between_0 : decode cX8_between 0 = .ok (.iconst 0, 1) := by decide +kernel
theorem dX8_between_1 : decode cX8_between 1 = .ok (.istore 4, 2) := by decide +kernel
theorem dX8_between_3 : decode cX8_between 3 = .ok (.iconst 0, 1) := by decide +kernel
theorem dX8_between_4 : decode cX8_between 4 = .ok (.istore 5, 2) := by decide +kernel
theorem dX8_between_6 : decode cX8_between 6 = .ok (.iload 5, 2) := by decide +kernel
theorem dX8_between_8 : decode cX8_between 8 = .ok (.bipush 20, 2) := by decide +kernel
theorem dX8_between_10 : decode cX8_between 10 = .ok (.if_icmp .ge 56, 3) := by decide +kernel
theorem dX8_between_13 : decode cX8_between 13 = .ok (.iload 4, 2) := by decide +kernel
theorem dX8_between_15 : decode cX8_between 15 = .ok (.aload_n 0, 1) := by decide +kernel
theorem dX8_between_16 : decode cX8_between 16 = .ok (.iload_n 1, 1) := by decide +kernel
theorem dX8_between_17 : decode cX8_between 17 = .ok (.iconst 3, 1) := by decide +kernel
theorem dX8_between_18 : decode cX8_between 18 = .ok (.invokevirtual 89, 3) := by decide +kernel
theorem dX8_between_21 : decode cX8_between 21 = .ok (.iload 5, 2) := by decide +kernel
theorem dX8_between_23 : decode cX8_between 23 = .ok (.ishr, 1) := by decide +kernel
theorem dX8_between_24 : decode cX8_between 24 = .ok (.iconst 1, 1) := by decide +kernel
theorem dX8_between_25 : decode cX8_between 25 = .ok (.iand, 1) := by decide +kernel
theorem dX8_between_26 : decode cX8_between 26 = .ok (.iconst 1, 1) := by decide +kernel
theorem dX8_between_27 : decode cX8_between 27 = .ok (.if_icmp .ne 29, 3) := by decide +kernel
theorem dX8_between_30 : decode cX8_between 30 = .ok (.aload_n 0, 1) := by decide +kernel
theorem dX8_between_31 : decode cX8_between 31 = .ok (.iload_n 1, 1) := by decide +kernel
theorem dX8_between_32 : decode cX8_between 32 = .ok (.iconst 2, 1) := by decide +kernel
theorem dX8_between_33 : decode cX8_between 33 = .ok (.invokevirtual 89, 3) := by decide +kernel
theorem dX8_between_36 : decode cX8_between 36 = .ok (.iload 5, 2) := by decide +kernel
theorem dX8_between_38 : decode cX8_between 38 = .ok (.invokestatic 55, 3) := by decide +kernel
theorem dX8_between_41 : decode cX8_between 41 = .ok (.iload_n 2, 1) := by decide +kernel
theorem dX8_between_42 : decode cX8_between 42 = .ok (.iload_n 3, 1) := by decide +kernel
theorem dX8_between_43 : decode cX8_between 43 = .ok (.invokestatic 47, 3) := by decide +kernel
theorem dX8_between_46 : decode cX8_between 46 = .ok (.ifCond .eq 10, 3) := by decide +kernel
theorem dX8_between_49 : decode cX8_between 49 = .ok (.iconst 1, 1) := by decide +kernel
theorem dX8_between_50 : decode cX8_between 50 = .ok (.iload 5, 2) := by decide +kernel
theorem dX8_between_52 : decode cX8_between 52 = .ok (.ishl, 1) := by decide +kernel
theorem dX8_between_53 : decode cX8_between 53 = .ok (.goto 4, 3) := by decide +kernel
theorem dX8_between_56 : decode cX8_between 56 = .ok (.iconst 0, 1) := by decide +kernel
theorem dX8_between_57 : decode cX8_between 57 = .ok (.ior, 1) := by decide +kernel
theorem dX8_between_58 : decode cX8_between 58 = .ok (.istore 4, 2) := by decide +kernel
theorem dX8_between_60 : decode cX8_between 60 = .ok (.iinc 5 1, 3) := by decide +kernel
theorem dX8_between_63 : decode cX8_between 63 = .ok (.goto (-57), 3) := by decide +kernel
theorem dX8_between_66 : decode cX8_between 66 = .ok (.iload 4, 2) := by decide +kernel
theorem dX8_between_68 : decode cX8_between 68 = .ok (.ireturn, 1) := by decide +kernel
theorem dX8_leftIn_0 : decode cX8_leftIn 0 = .ok (.aload_n 0, 1) := by decide +kernel
theorem dX8_leftIn_1 : decode cX8_leftIn 1 = .ok (.iload_n 1, 1) := by decide +kernel
theorem dX8_leftIn_2 : decode cX8_leftIn 2 = .ok (.iconst 5, 1) := by decide +kernel
theorem dX8_leftIn_3 : decode cX8_leftIn 3 = .ok (.invokevirtual 89, 3) := by decide +kernel
theorem dX8_leftIn_6 : decode cX8_leftIn 6 = .ok (.iconst 1, 1) := by decide +kernel
theorem dX8_leftIn_7 : decode cX8_leftIn 7 = .ok (.if_icmp .ne 5, 3) := by decide +kernel
theorem dX8_leftIn_10 : decode cX8_leftIn 10 = .ok (.iconst 0, 1) := by decide +kernel
theorem dX8_leftIn_11 : decode cX8_leftIn 11 = .ok (.ireturn, 1) := by decide +kernel
theorem dX8_leftIn_12 : decode cX8_leftIn 12 = .ok (.aload_n 0, 1) := by decide +kernel
theorem dX8_leftIn_13 : decode cX8_leftIn 13 = .ok (.iload_n 1, 1) := by decide +kernel
theorem dX8_leftIn_14 : decode cX8_leftIn 14 = .ok (.iconst 0, 1) := by decide +kernel
theorem dX8_leftIn_15 : decode cX8_leftIn 15 = .ok (.invokevirtual 89, 3) := by decide +kernel
theorem dX8_leftIn_18 : decode cX8_leftIn 18 = .ok (.tableswitch 97 1 6 #[38, 47, 63, 38, 47, 79], 38) := by decide +kernel
theorem dX8_leftIn_56 : decode cX8_leftIn 56 = .ok (.aload_n 0, 1) := by decide +kernel
theorem dX8_leftIn_57 : decode cX8_leftIn 57 = .ok (.iload_n 1, 1) := by decide +kernel
theorem dX8_leftIn_58 : decode cX8_leftIn 58 = .ok (.iconst 3, 1) := by decide +kernel
theorem dX8_leftIn_59 : decode cX8_leftIn 59 = .ok (.bipush 20, 2) := by decide +kernel
theorem dX8_leftIn_61 : decode cX8_leftIn 61 = .ok (.invokevirtual 92, 3) := by decide +kernel
theorem dX8_leftIn_64 : decode cX8_leftIn 64 = .ok (.ireturn, 1) := by decide +kernel
theorem dX8_leftIn_65 : decode cX8_leftIn 65 = .ok (.aload_n 0, 1) := by decide +kernel
theorem dX8_leftIn_66 : decode cX8_leftIn 66 = .ok (.iload_n 1, 1) := by decide +kernel
theorem dX8_leftIn_67 : decode cX8_leftIn 67 = .ok (.iconst 3, 1) := by decide +kernel
theorem dX8_leftIn_68 : decode cX8_leftIn 68 = .ok (.invokevirtual 89, 3) := by decide +kernel
theorem dX8_leftIn_71 : decode cX8_leftIn 71 = .ok (.iconst 1, 1) := by decide +kernel
theorem dX8_leftIn_72 : decode cX8_leftIn 72 = .ok (.aload_n 0, 1) := by decide +kernel
theorem dX8_leftIn_73 : decode cX8_leftIn 73 = .ok (.iload_n 1, 1) := by decide +kernel
theorem dX8_leftIn_74 : decode cX8_leftIn 74 = .ok (.iconst 1, 1) := by decide +kernel
theorem dX8_leftIn_75 : decode cX8_leftIn 75 = .ok (.invokevirtual 89, 3) := by decide +kernel
theorem dX8_leftIn_78 : decode cX8_leftIn 78 = .ok (.ishl, 1) := by decide +kernel
theorem dX8_leftIn_79 : decode cX8_leftIn 79 = .ok (.ior, 1) := by decide +kernel
theorem dX8_leftIn_80 : decode cX8_leftIn 80 = .ok (.ireturn, 1) := by decide +kernel
theorem dX8_leftIn_81 : decode cX8_leftIn 81 = .ok (.aload_n 0, 1) := by decide +kernel
theorem dX8_leftIn_82 : decode cX8_leftIn 82 = .ok (.iload_n 1, 1) := by decide +kernel
theorem dX8_leftIn_83 : decode cX8_leftIn 83 = .ok (.iconst 0, 1) := by decide +kernel
theorem dX8_leftIn_84 : decode cX8_leftIn 84 = .ok (.bipush 19, 2) := by decide +kernel
theorem dX8_leftIn_86 : decode cX8_leftIn 86 = .ok (.aload_n 0, 1) := by decide +kernel
theorem dX8_leftIn_87 : decode cX8_leftIn 87 = .ok (.iload_n 1, 1) := by decide +kernel
theorem dX8_leftIn_88 : decode cX8_leftIn 88 = .ok (.iconst 4, 1) := by decide +kernel
theorem dX8_leftIn_89 : decode cX8_leftIn 89 = .ok (.invokevirtual 89, 3) := by decide +kernel
theorem dX8_leftIn_92 : decode cX8_leftIn 92 = .ok (.isub, 1) := by decide +kernel
theorem dX8_leftIn_93 : decode cX8_leftIn 93 = .ok (.invokevirtual 92, 3) := by decide +kernel
theorem dX8_leftIn_96 : decode cX8_leftIn 96 = .ok (.ireturn, 1) := by decide +kernel
theorem dX8_leftIn_97 : decode cX8_leftIn 97 = .ok (.aload_n 0, 1) := by decide +kernel
theorem dX8_leftIn_98 : decode cX8_leftIn 98 = .ok (.iload_n 1, 1) := by decide +kernel
theorem dX8_leftIn_99 : decode cX8_leftIn 99 = .ok (.iconst 0, 1) := by decide +kernel
theorem dX8_leftIn_100 : decode cX8_leftIn 100 = .ok (.bipush 19, 2) := by decide +kernel
theorem dX8_leftIn_102 : decode cX8_leftIn 102 = .ok (.aload_n 0, 1) := by decide +kernel
theorem dX8_leftIn_103 : decode cX8_leftIn 103 = .ok (.iload_n 1, 1) := by decide +kernel
theorem dX8_leftIn_104 : decode cX8_leftIn 104 = .ok (.iconst 4, 1) := by decide +kernel
theorem dX8_leftIn_105 : decode cX8_leftIn 105 = .ok (.invokevirtual 89, 3) := by decide +kernel
theorem dX8_leftIn_108 : decode cX8_leftIn 108 = .ok (.iconst 2, 1) := by decide +kernel
theorem dX8_leftIn_109 : decode cX8_leftIn 109 = .ok (.idiv, 1) := by decide +kernel
theorem dX8_leftIn_110 : decode cX8_leftIn 110 = .ok (.isub, 1) := by decide +kernel
theorem dX8_leftIn_111 : decode cX8_leftIn 111 = .ok (.invokevirtual 92, 3) := by decide +kernel
theorem dX8_leftIn_114 : decode cX8_leftIn 114 = .ok (.ireturn, 1) := by decide +kernel
theorem dX8_leftIn_115 : decode cX8_leftIn 115 = .ok (.aload_n 0, 1) := by decide +kernel
theorem dX8_leftIn_116 : decode cX8_leftIn 116 = .ok (.iload_n 1, 1) := by decide +kernel
theorem dX8_leftIn_117 : decode cX8_leftIn 117 = .ok (.iconst 3, 1) := by decide +kernel
theorem dX8_leftIn_118 : decode cX8_leftIn 118 = .ok (.invokevirtual 89, 3) := by decide +kernel
theorem dX8_leftIn_121 : decode cX8_leftIn 121 = .ok (.ireturn, 1) := by decide +kernel
theorem dX8_leaguesOf_0 : decode cX8_leaguesOf 0 = .ok (.iconst 0, 1) := by decide +kernel
theorem dX8_leaguesOf_1 : decode cX8_leaguesOf 1 = .ok (.istore_n 2, 1) := by decide +kernel
theorem dX8_leaguesOf_2 : decode cX8_leaguesOf 2 = .ok (.aload_n 0, 1) := by decide +kernel
theorem dX8_leaguesOf_3 : decode cX8_leaguesOf 3 = .ok (.iload_n 1, 1) := by decide +kernel
theorem dX8_leaguesOf_4 : decode cX8_leaguesOf 4 = .ok (.invokevirtual 96, 3) := by decide +kernel
theorem dX8_leaguesOf_7 : decode cX8_leaguesOf 7 = .ok (.istore_n 3, 1) := by decide +kernel
theorem dX8_leaguesOf_8 : decode cX8_leaguesOf 8 = .ok (.iconst 0, 1) := by decide +kernel
theorem dX8_leaguesOf_9 : decode cX8_leaguesOf 9 = .ok (.istore 4, 2) := by decide +kernel
theorem dX8_leaguesOf_11 : decode cX8_leaguesOf 11 = .ok (.iload 4, 2) := by decide +kernel
theorem dX8_leaguesOf_13 : decode cX8_leaguesOf 13 = .ok (.bipush 20, 2) := by decide +kernel
theorem dX8_leaguesOf_15 : decode cX8_leaguesOf 15 = .ok (.if_icmp .ge 45, 3) := by decide +kernel
theorem dX8_leaguesOf_18 : decode cX8_leaguesOf 18 = .ok (.aload_n 0, 1) := by decide +kernel
theorem dX8_leaguesOf_19 : decode cX8_leaguesOf 19 = .ok (.iload_n 1, 1) := by decide +kernel
theorem dX8_leaguesOf_20 : decode cX8_leaguesOf 20 = .ok (.iconst 2, 1) := by decide +kernel
theorem dX8_leaguesOf_21 : decode cX8_leaguesOf 21 = .ok (.invokevirtual 89, 3) := by decide +kernel
theorem dX8_leaguesOf_24 : decode cX8_leaguesOf 24 = .ok (.iload 4, 2) := by decide +kernel
theorem dX8_leaguesOf_26 : decode cX8_leaguesOf 26 = .ok (.invokestatic 55, 3) := by decide +kernel
theorem dX8_leaguesOf_29 : decode cX8_leaguesOf 29 = .ok (.istore 5, 2) := by decide +kernel
theorem dX8_leaguesOf_31 : decode cX8_leaguesOf 31 = .ok (.iload_n 3, 1) := by decide +kernel
theorem dX8_leaguesOf_32 : decode cX8_leaguesOf 32 = .ok (.iload 4, 2) := by decide +kernel
theorem dX8_leaguesOf_34 : decode cX8_leaguesOf 34 = .ok (.ishr, 1) := by decide +kernel
theorem dX8_leaguesOf_35 : decode cX8_leaguesOf 35 = .ok (.iconst 1, 1) := by decide +kernel
theorem dX8_leaguesOf_36 : decode cX8_leaguesOf 36 = .ok (.iand, 1) := by decide +kernel
theorem dX8_leaguesOf_37 : decode cX8_leaguesOf 37 = .ok (.iconst 1, 1) := by decide +kernel
theorem dX8_leaguesOf_38 : decode cX8_leaguesOf 38 = .ok (.if_icmp .ne 14, 3) := by decide +kernel
theorem dX8_leaguesOf_41 : decode cX8_leaguesOf 41 = .ok (.iload 5, 2) := by decide +kernel
theorem dX8_leaguesOf_43 : decode cX8_leaguesOf 43 = .ok (.iload_n 2, 1) := by decide +kernel
theorem dX8_leaguesOf_44 : decode cX8_leaguesOf 44 = .ok (.if_icmp .le 8, 3) := by decide +kernel
theorem dX8_leaguesOf_47 : decode cX8_leaguesOf 47 = .ok (.iload 5, 2) := by decide +kernel
theorem dX8_leaguesOf_49 : decode cX8_leaguesOf 49 = .ok (.goto 4, 3) := by decide +kernel
theorem dX8_leaguesOf_52 : decode cX8_leaguesOf 52 = .ok (.iload_n 2, 1) := by decide +kernel
theorem dX8_leaguesOf_53 : decode cX8_leaguesOf 53 = .ok (.istore_n 2, 1) := by decide +kernel
theorem dX8_leaguesOf_54 : decode cX8_leaguesOf 54 = .ok (.iinc 4 1, 3) := by decide +kernel
theorem dX8_leaguesOf_57 : decode cX8_leaguesOf 57 = .ok (.goto (-46), 3) := by decide +kernel
theorem dX8_leaguesOf_60 : decode cX8_leaguesOf 60 = .ok (.iload_n 2, 1) := by decide +kernel
theorem dX8_leaguesOf_61 : decode cX8_leaguesOf 61 = .ok (.ireturn, 1) := by decide +kernel
theorem dX8_costsOf_0 : decode cX8_costsOf 0 = .ok (.aload_n 0, 1) := by decide +kernel
theorem dX8_costsOf_1 : decode cX8_costsOf 1 = .ok (.iconst 1, 1) := by decide +kernel
theorem dX8_costsOf_2 : decode cX8_costsOf 2 = .ok (.aload_n 0, 1) := by decide +kernel
theorem dX8_costsOf_3 : decode cX8_costsOf 3 = .ok (.iload_n 1, 1) := by decide +kernel
theorem dX8_costsOf_4 : decode cX8_costsOf 4 = .ok (.invokevirtual 96, 3) := by decide +kernel
theorem dX8_costsOf_7 : decode cX8_costsOf 7 = .ok (.invokestatic 65, 3) := by decide +kernel
theorem dX8_costsOf_10 : decode cX8_costsOf 10 = .ok (.aload_n 0, 1) := by decide +kernel
theorem dX8_costsOf_11 : decode cX8_costsOf 11 = .ok (.iload_n 1, 1) := by decide +kernel
theorem dX8_costsOf_12 : decode cX8_costsOf 12 = .ok (.invokevirtual 99, 3) := by decide +kernel
theorem dX8_costsOf_15 : decode cX8_costsOf 15 = .ok (.aload_n 0, 1) := by decide +kernel
theorem dX8_costsOf_16 : decode cX8_costsOf 16 = .ok (.iload_n 1, 1) := by decide +kernel
theorem dX8_costsOf_17 : decode cX8_costsOf 17 = .ok (.iconst 4, 1) := by decide +kernel
theorem dX8_costsOf_18 : decode cX8_costsOf 18 = .ok (.invokevirtual 89, 3) := by decide +kernel
theorem dX8_costsOf_21 : decode cX8_costsOf 21 = .ok (.invokevirtual 102, 3) := by decide +kernel
theorem dX8_costsOf_24 : decode cX8_costsOf 24 = .ok (.istore_n 2, 1) := by decide +kernel
theorem dX8_costsOf_25 : decode cX8_costsOf 25 = .ok (.aload_n 0, 1) := by decide +kernel
theorem dX8_costsOf_26 : decode cX8_costsOf 26 = .ok (.iload_n 1, 1) := by decide +kernel
theorem dX8_costsOf_27 : decode cX8_costsOf 27 = .ok (.iconst 0, 1) := by decide +kernel
theorem dX8_costsOf_28 : decode cX8_costsOf 28 = .ok (.invokevirtual 89, 3) := by decide +kernel
theorem dX8_costsOf_31 : decode cX8_costsOf 31 = .ok (.tableswitch 94 1 6 #[37, 41, 45, 54, 67, 69], 37) := by decide +kernel
theorem dX8_costsOf_68 : decode cX8_costsOf 68 = .ok (.iconst 2, 1) := by decide +kernel
theorem dX8_costsOf_69 : decode cX8_costsOf 69 = .ok (.iload_n 2, 1) := by decide +kernel
theorem dX8_costsOf_70 : decode cX8_costsOf 70 = .ok (.imul, 1) := by decide +kernel
theorem dX8_costsOf_71 : decode cX8_costsOf 71 = .ok (.ireturn, 1) := by decide +kernel
theorem dX8_costsOf_72 : decode cX8_costsOf 72 = .ok (.iload_n 2, 1) := by decide +kernel
theorem dX8_costsOf_73 : decode cX8_costsOf 73 = .ok (.iconst 2, 1) := by decide +kernel
theorem dX8_costsOf_74 : decode cX8_costsOf 74 = .ok (.idiv, 1) := by decide +kernel
theorem dX8_costsOf_75 : decode cX8_costsOf 75 = .ok (.ireturn, 1) := by decide +kernel
theorem dX8_costsOf_76 : decode cX8_costsOf 76 = .ok (.iload_n 2, 1) := by decide +kernel
theorem dX8_costsOf_77 : decode cX8_costsOf 77 = .ok (.aload_n 0, 1) := by decide +kernel
theorem dX8_costsOf_78 : decode cX8_costsOf 78 = .ok (.iload_n 1, 1) := by decide +kernel
theorem dX8_costsOf_79 : decode cX8_costsOf 79 = .ok (.iconst 4, 1) := by decide +kernel
theorem dX8_costsOf_80 : decode cX8_costsOf 80 = .ok (.invokevirtual 89, 3) := by decide +kernel
theorem dX8_costsOf_83 : decode cX8_costsOf 83 = .ok (.iadd, 1) := by decide +kernel
theorem dX8_costsOf_84 : decode cX8_costsOf 84 = .ok (.ireturn, 1) := by decide +kernel
theorem dX8_costsOf_85 : decode cX8_costsOf 85 = .ok (.iconst 2, 1) := by decide +kernel
theorem dX8_costsOf_86 : decode cX8_costsOf 86 = .ok (.iload_n 2, 1) := by decide +kernel
theorem dX8_costsOf_87 : decode cX8_costsOf 87 = .ok (.imul, 1) := by decide +kernel
theorem dX8_costsOf_88 : decode cX8_costsOf 88 = .ok (.iconst 5, 1) := by decide +kernel
theorem dX8_costsOf_89 : decode cX8_costsOf 89 = .ok (.aload_n 0, 1) := by decide +kernel
theorem dX8_costsOf_90 : decode cX8_costsOf 90 = .ok (.iload_n 1, 1) := by decide +kernel
theorem dX8_costsOf_91 : decode cX8_costsOf 91 = .ok (.iconst 1, 1) := by decide +kernel
theorem dX8_costsOf_92 : decode cX8_costsOf 92 = .ok (.invokevirtual 89, 3) := by decide +kernel
theorem dX8_costsOf_95 : decode cX8_costsOf 95 = .ok (.imul, 1) := by decide +kernel
theorem dX8_costsOf_96 : decode cX8_costsOf 96 = .ok (.iadd, 1) := by decide +kernel
theorem dX8_costsOf_97 : decode cX8_costsOf 97 = .ok (.ireturn, 1) := by decide +kernel
theorem dX8_costsOf_98 : decode cX8_costsOf 98 = .ok (.iconst 1, 1) := by decide +kernel
theorem dX8_costsOf_99 : decode cX8_costsOf 99 = .ok (.ireturn, 1) := by decide +kernel
theorem dX8_costsOf_100 : decode cX8_costsOf 100 = .ok (.iload_n 2, 1) := by decide +kernel
theorem dX8_costsOf_101 : decode cX8_costsOf 101 = .ok (.aload_n 0, 1) := by decide +kernel
theorem dX8_costsOf_102 : decode cX8_costsOf 102 = .ok (.iload_n 1, 1) := by decide +kernel
theorem dX8_costsOf_103 : decode cX8_costsOf 103 = .ok (.iconst 4, 1) := by decide +kernel
theorem dX8_costsOf_104 : decode cX8_costsOf 104 = .ok (.invokevirtual 89, 3) := by decide +kernel
theorem dX8_costsOf_107 : decode cX8_costsOf 107 = .ok (.iadd, 1) := by decide +kernel
theorem dX8_costsOf_108 : decode cX8_costsOf 108 = .ok (.aload_n 0, 1) := by decide +kernel
theorem dX8_costsOf_109 : decode cX8_costsOf 109 = .ok (.iload_n 1, 1) := by decide +kernel
theorem dX8_costsOf_110 : decode cX8_costsOf 110 = .ok (.iconst 4, 1) := by decide +kernel
theorem dX8_costsOf_111 : decode cX8_costsOf 111 = .ok (.invokevirtual 89, 3) := by decide +kernel
theorem dX8_costsOf_114 : decode cX8_costsOf 114 = .ok (.aload_n 0, 1) := by decide +kernel
theorem dX8_costsOf_115 : decode cX8_costsOf 115 = .ok (.iload_n 1, 1) := by decide +kernel
theorem dX8_costsOf_116 : decode cX8_costsOf 116 = .ok (.iconst 1, 1) := by decide +kernel
theorem dX8_costsOf_117 : decode cX8_costsOf 117 = .ok (.invokevirtual 89, 3) := by decide +kernel
theorem dX8_costsOf_120 : decode cX8_costsOf 120 = .ok (.iconst 1, 1) := by decide +kernel
theorem dX8_costsOf_121 : decode cX8_costsOf 121 = .ok (.iadd, 1) := by decide +kernel
theorem dX8_costsOf_122 : decode cX8_costsOf 122 = .ok (.idiv, 1) := by decide +kernel
theorem dX8_costsOf_123 : decode cX8_costsOf 123 = .ok (.iadd, 1) := by decide +kernel
theorem dX8_costsOf_124 : decode cX8_costsOf 124 = .ok (.ireturn, 1) := by decide +kernel
theorem dX8_costsOf_125 : decode cX8_costsOf 125 = .ok (.iload_n 2, 1) := by decide +kernel
theorem dX8_costsOf_126 : decode cX8_costsOf 126 = .ok (.ireturn, 1) := by decide +kernel
theorem dX8_isKm_0 : decode cX8_isKm 0 = .ok (.iload_n 0, 1) := by decide +kernel
theorem dX8_isKm_1 : decode cX8_isKm 1 = .ok (.iconst 0, 1) := by decide +kernel
theorem dX8_isKm_2 : decode cX8_isKm 2 = .ok (.bipush 69, 2) := by decide +kernel
theorem dX8_isKm_4 : decode cX8_isKm 4 = .ok (.invokestatic 47, 3) := by decide +kernel
theorem dX8_isKm_7 : decode cX8_isKm 7 = .ok (.ireturn, 1) := by decide +kernel
theorem dX8_fill_0 : decode cX8_fill 0 = .ok (.iload_n 1, 1) := by decide +kernel
theorem dX8_fill_1 : decode cX8_fill 1 = .ok (.invokestatic 106, 3) := by decide +kernel
theorem dX8_fill_4 : decode cX8_fill 4 = .ok (.ifCond .eq 31, 3) := by decide +kernel
theorem dX8_fill_7 : decode cX8_fill 7 = .ok (.aload_n 0, 1) := by decide +kernel
theorem dX8_fill_8 : decode cX8_fill 8 = .ok (.iload_n 2, 1) := by decide +kernel
theorem dX8_fill_9 : decode cX8_fill 9 = .ok (.invokevirtual 86, 3) := by decide +kernel
theorem dX8_fill_12 : decode cX8_fill 12 = .ok (.ifCond .eq 23, 3) := by decide +kernel
theorem dX8_fill_15 : decode cX8_fill 15 = .ok (.iload_n 3, 1) := by decide +kernel
theorem dX8_fill_16 : decode cX8_fill 16 = .ok (.iconst 0, 1) := by decide +kernel
theorem dX8_fill_17 : decode cX8_fill 17 = .ok (.iconst 1, 1) := by decide +kernel
theorem dX8_fill_18 : decode cX8_fill 18 = .ok (.invokestatic 47, 3) := by decide +kernel
theorem dX8_fill_21 : decode cX8_fill 21 = .ok (.ifCond .eq 14, 3) := by decide +kernel
theorem dX8_fill_24 : decode cX8_fill 24 = .ok (.iload 4, 2) := by decide +kernel
theorem dX8_fill_26 : decode cX8_fill 26 = .ok (.iconst 1, 1) := by decide +kernel
theorem dX8_fill_27 : decode cX8_fill 27 = .ok (.ldc 109, 2) := by decide +kernel
theorem dX8_fill_29 : decode cX8_fill 29 = .ok (.invokestatic 47, 3) := by decide +kernel
theorem dX8_fill_32 : decode cX8_fill 32 = .ok (.ifCond .ne 10, 3) := by decide +kernel
theorem dX8_fill_35 : decode cX8_fill 35 = .ok (.aload_n 0, 1) := by decide +kernel
theorem dX8_fill_36 : decode cX8_fill 36 = .ok (.ldc 72, 2) := by decide +kernel
theorem dX8_fill_38 : decode cX8_fill 38 = .ok (.invokevirtual 73, 3) := by decide +kernel
theorem dX8_fill_41 : decode cX8_fill 41 = .ok (.ireturn, 1) := by decide +kernel
theorem dX8_fill_42 : decode cX8_fill 42 = .ok (.aload_n 0, 1) := by decide +kernel
theorem dX8_fill_43 : decode cX8_fill 43 = .ok (.getfield 9, 3) := by decide +kernel
theorem dX8_fill_46 : decode cX8_fill 46 = .ok (.bipush 6, 2) := by decide +kernel
theorem dX8_fill_48 : decode cX8_fill 48 = .ok (.iload_n 2, 1) := by decide +kernel
theorem dX8_fill_49 : decode cX8_fill 49 = .ok (.iadd, 1) := by decide +kernel
theorem dX8_fill_50 : decode cX8_fill 50 = .ok (.iaload, 1) := by decide +kernel
theorem dX8_fill_51 : decode cX8_fill 51 = .ok (.istore 5, 2) := by decide +kernel
theorem dX8_fill_53 : decode cX8_fill 53 = .ok (.iload 4, 2) := by decide +kernel
theorem dX8_fill_55 : decode cX8_fill 55 = .ok (.aload_n 0, 1) := by decide +kernel
theorem dX8_fill_56 : decode cX8_fill 56 = .ok (.iload 5, 2) := by decide +kernel
theorem dX8_fill_58 : decode cX8_fill 58 = .ok (.iload_n 3, 1) := by decide +kernel
theorem dX8_fill_59 : decode cX8_fill 59 = .ok (.invokevirtual 62, 3) := by decide +kernel
theorem dX8_fill_62 : decode cX8_fill 62 = .ok (.iconst (-1), 1) := by decide +kernel
theorem dX8_fill_63 : decode cX8_fill 63 = .ok (.ixor, 1) := by decide +kernel
theorem dX8_fill_64 : decode cX8_fill 64 = .ok (.iand, 1) := by decide +kernel
theorem dX8_fill_65 : decode cX8_fill 65 = .ok (.ifCond .eq 10, 3) := by decide +kernel
theorem dX8_fill_68 : decode cX8_fill 68 = .ok (.aload_n 0, 1) := by decide +kernel
theorem dX8_fill_69 : decode cX8_fill 69 = .ok (.ldc 110, 2) := by decide +kernel
theorem dX8_fill_71 : decode cX8_fill 71 = .ok (.invokevirtual 73, 3) := by decide +kernel
theorem dX8_fill_74 : decode cX8_fill 74 = .ok (.ireturn, 1) := by decide +kernel
theorem dX8_fill_75 : decode cX8_fill 75 = .ok (.aload_n 0, 1) := by decide +kernel
theorem dX8_fill_76 : decode cX8_fill 76 = .ok (.getfield 9, 3) := by decide +kernel
theorem dX8_fill_79 : decode cX8_fill 79 = .ok (.iconst 3, 1) := by decide +kernel
theorem dX8_fill_80 : decode cX8_fill 80 = .ok (.iaload, 1) := by decide +kernel
theorem dX8_fill_81 : decode cX8_fill 81 = .ok (.istore 6, 2) := by decide +kernel
theorem dX8_fill_83 : decode cX8_fill 83 = .ok (.iload 6, 2) := by decide +kernel
theorem dX8_fill_85 : decode cX8_fill 85 = .ok (.bipush 8, 2) := by decide +kernel
theorem dX8_fill_87 : decode cX8_fill 87 = .ok (.if_icmp .ne 10, 3) := by decide +kernel
theorem dX8_fill_90 : decode cX8_fill 90 = .ok (.aload_n 0, 1) := by decide +kernel
theorem dX8_fill_91 : decode cX8_fill 91 = .ok (.ldc 85, 2) := by decide +kernel
theorem dX8_fill_93 : decode cX8_fill 93 = .ok (.invokevirtual 73, 3) := by decide +kernel
theorem dX8_fill_96 : decode cX8_fill 96 = .ok (.ireturn, 1) := by decide +kernel
theorem dX8_fill_97 : decode cX8_fill 97 = .ok (.aload_n 0, 1) := by decide +kernel
theorem dX8_fill_98 : decode cX8_fill 98 = .ok (.getfield 9, 3) := by decide +kernel
theorem dX8_fill_101 : decode cX8_fill 101 = .ok (.iconst 3, 1) := by decide +kernel
theorem dX8_fill_102 : decode cX8_fill 102 = .ok (.dup2, 1) := by decide +kernel
theorem dX8_fill_103 : decode cX8_fill 103 = .ok (.iaload, 1) := by decide +kernel
theorem dX8_fill_104 : decode cX8_fill 104 = .ok (.iconst 1, 1) := by decide +kernel
theorem dX8_fill_105 : decode cX8_fill 105 = .ok (.iadd, 1) := by decide +kernel
theorem dX8_fill_106 : decode cX8_fill 106 = .ok (.iastore, 1) := by decide +kernel
theorem dX8_fill_107 : decode cX8_fill 107 = .ok (.aload_n 0, 1) := by decide +kernel
theorem dX8_fill_108 : decode cX8_fill 108 = .ok (.iload 6, 2) := by decide +kernel
theorem dX8_fill_110 : decode cX8_fill 110 = .ok (.iconst 0, 1) := by decide +kernel
theorem dX8_fill_111 : decode cX8_fill 111 = .ok (.iload_n 1, 1) := by decide +kernel
theorem dX8_fill_112 : decode cX8_fill 112 = .ok (.bipush 10, 2) := by decide +kernel
theorem dX8_fill_114 : decode cX8_fill 114 = .ok (.idiv, 1) := by decide +kernel
theorem dX8_fill_115 : decode cX8_fill 115 = .ok (.invokevirtual 111, 3) := by decide +kernel
theorem dX8_fill_118 : decode cX8_fill 118 = .ok (.aload_n 0, 1) := by decide +kernel
theorem dX8_fill_119 : decode cX8_fill 119 = .ok (.iload 6, 2) := by decide +kernel
theorem dX8_fill_121 : decode cX8_fill 121 = .ok (.iconst 1, 1) := by decide +kernel
theorem dX8_fill_122 : decode cX8_fill 122 = .ok (.iload_n 1, 1) := by decide +kernel
theorem dX8_fill_123 : decode cX8_fill 123 = .ok (.bipush 10, 2) := by decide +kernel
theorem dX8_fill_125 : decode cX8_fill 125 = .ok (.irem, 1) := by decide +kernel
theorem dX8_fill_126 : decode cX8_fill 126 = .ok (.invokevirtual 111, 3) := by decide +kernel
theorem dX8_fill_129 : decode cX8_fill 129 = .ok (.aload_n 0, 1) := by decide +kernel
theorem dX8_fill_130 : decode cX8_fill 130 = .ok (.iload 6, 2) := by decide +kernel
theorem dX8_fill_132 : decode cX8_fill 132 = .ok (.iconst 2, 1) := by decide +kernel
theorem dX8_fill_133 : decode cX8_fill 133 = .ok (.iload 5, 2) := by decide +kernel
theorem dX8_fill_135 : decode cX8_fill 135 = .ok (.invokevirtual 111, 3) := by decide +kernel
theorem dX8_fill_138 : decode cX8_fill 138 = .ok (.aload_n 0, 1) := by decide +kernel
theorem dX8_fill_139 : decode cX8_fill 139 = .ok (.iload 6, 2) := by decide +kernel
theorem dX8_fill_141 : decode cX8_fill 141 = .ok (.iconst 3, 1) := by decide +kernel
theorem dX8_fill_142 : decode cX8_fill 142 = .ok (.iload 4, 2) := by decide +kernel
theorem dX8_fill_144 : decode cX8_fill 144 = .ok (.invokevirtual 111, 3) := by decide +kernel
theorem dX8_fill_147 : decode cX8_fill 147 = .ok (.aload_n 0, 1) := by decide +kernel
theorem dX8_fill_148 : decode cX8_fill 148 = .ok (.iload 6, 2) := by decide +kernel
theorem dX8_fill_150 : decode cX8_fill 150 = .ok (.iconst 4, 1) := by decide +kernel
theorem dX8_fill_151 : decode cX8_fill 151 = .ok (.iconst 0, 1) := by decide +kernel
theorem dX8_fill_152 : decode cX8_fill 152 = .ok (.invokevirtual 111, 3) := by decide +kernel
theorem dX8_fill_155 : decode cX8_fill 155 = .ok (.aload_n 0, 1) := by decide +kernel
theorem dX8_fill_156 : decode cX8_fill 156 = .ok (.iload 6, 2) := by decide +kernel
theorem dX8_fill_158 : decode cX8_fill 158 = .ok (.iconst 5, 1) := by decide +kernel
theorem dX8_fill_159 : decode cX8_fill 159 = .ok (.iconst 0, 1) := by decide +kernel
theorem dX8_fill_160 : decode cX8_fill 160 = .ok (.invokevirtual 111, 3) := by decide +kernel
theorem dX8_fill_163 : decode cX8_fill 163 = .ok (.iconst 0, 1) := by decide +kernel
theorem dX8_fill_164 : decode cX8_fill 164 = .ok (.istore 7, 2) := by decide +kernel
theorem dX8_fill_166 : decode cX8_fill 166 = .ok (.iload 7, 2) := by decide +kernel
theorem dX8_fill_168 : decode cX8_fill 168 = .ok (.bipush 20, 2) := by decide +kernel
theorem dX8_fill_170 : decode cX8_fill 170 = .ok (.if_icmp .ge 58, 3) := by decide +kernel
theorem dX8_fill_173 : decode cX8_fill 173 = .ok (.iload 4, 2) := by decide +kernel
theorem dX8_fill_175 : decode cX8_fill 175 = .ok (.iload 7, 2) := by decide +kernel
theorem dX8_fill_177 : decode cX8_fill 177 = .ok (.ishr, 1) := by decide +kernel
theorem dX8_fill_178 : decode cX8_fill 178 = .ok (.iconst 1, 1) := by decide +kernel
theorem dX8_fill_179 : decode cX8_fill 179 = .ok (.iand, 1) := by decide +kernel
theorem dX8_fill_180 : decode cX8_fill 180 = .ok (.iconst 1, 1) := by decide +kernel
theorem dX8_fill_181 : decode cX8_fill 181 = .ok (.if_icmp .ne 41, 3) := by decide +kernel
theorem dX8_fill_184 : decode cX8_fill 184 = .ok (.aload_n 0, 1) := by decide +kernel
theorem dX8_fill_185 : decode cX8_fill 185 = .ok (.getfield 9, 3) := by decide +kernel
theorem dX8_fill_188 : decode cX8_fill 188 = .ok (.bipush 31, 2) := by decide +kernel
theorem dX8_fill_190 : decode cX8_fill 190 = .ok (.iload 7, 2) := by decide +kernel
theorem dX8_fill_192 : decode cX8_fill 192 = .ok (.iadd, 1) := by decide +kernel
theorem dX8_fill_193 : decode cX8_fill 193 = .ok (.aload_n 0, 1) := by decide +kernel
theorem dX8_fill_194 : decode cX8_fill 194 = .ok (.iconst 0, 1) := by decide +kernel
theorem dX8_fill_195 : decode cX8_fill 195 = .ok (.aload_n 0, 1) := by decide +kernel
theorem dX8_fill_196 : decode cX8_fill 196 = .ok (.getfield 9, 3) := by decide +kernel
theorem dX8_fill_199 : decode cX8_fill 199 = .ok (.bipush 11, 2) := by decide +kernel
theorem dX8_fill_201 : decode cX8_fill 201 = .ok (.iload 7, 2) := by decide +kernel
theorem dX8_fill_203 : decode cX8_fill 203 = .ok (.iadd, 1) := by decide +kernel
theorem dX8_fill_204 : decode cX8_fill 204 = .ok (.iaload, 1) := by decide +kernel
theorem dX8_fill_205 : decode cX8_fill 205 = .ok (.iload 5, 2) := by decide +kernel
theorem dX8_fill_207 : decode cX8_fill 207 = .ok (.iload 7, 2) := by decide +kernel
theorem dX8_fill_209 : decode cX8_fill 209 = .ok (.invokestatic 55, 3) := by decide +kernel
theorem dX8_fill_212 : decode cX8_fill 212 = .ok (.aload_n 0, 1) := by decide +kernel
theorem dX8_fill_213 : decode cX8_fill 213 = .ok (.getfield 9, 3) := by decide +kernel
theorem dX8_fill_216 : decode cX8_fill 216 = .ok (.iconst 0, 1) := by decide +kernel
theorem dX8_fill_217 : decode cX8_fill 217 = .ok (.iaload, 1) := by decide +kernel
theorem dX8_fill_218 : decode cX8_fill 218 = .ok (.invokevirtual 102, 3) := by decide +kernel
theorem dX8_fill_221 : decode cX8_fill 221 = .ok (.iastore, 1) := by decide +kernel
theorem dX8_fill_222 : decode cX8_fill 222 = .ok (.iinc 7 1, 3) := by decide +kernel
theorem dX8_fill_225 : decode cX8_fill 225 = .ok (.goto (-59), 3) := by decide +kernel
theorem dX8_fill_228 : decode cX8_fill 228 = .ok (.iload 6, 2) := by decide +kernel
theorem dX8_fill_230 : decode cX8_fill 230 = .ok (.ireturn, 1) := by decide +kernel
theorem dX8_ofBottle_0 : decode cX8_ofBottle 0 = .ok (.aload_n 0, 1) := by decide +kernel
theorem dX8_ofBottle_1 : decode cX8_ofBottle 1 = .ok (.iload_n 1, 1) := by decide +kernel
theorem dX8_ofBottle_2 : decode cX8_ofBottle 2 = .ok (.invokevirtual 115, 3) := by decide +kernel
theorem dX8_ofBottle_5 : decode cX8_ofBottle 5 = .ok (.ifCond .eq 13, 3) := by decide +kernel
theorem dX8_ofBottle_8 : decode cX8_ofBottle 8 = .ok (.iload_n 2, 1) := by decide +kernel
theorem dX8_ofBottle_9 : decode cX8_ofBottle 9 = .ok (.iconst 0, 1) := by decide +kernel
theorem dX8_ofBottle_10 : decode cX8_ofBottle 10 = .ok (.bipush 8, 2) := by decide +kernel
theorem dX8_ofBottle_12 : decode cX8_ofBottle 12 = .ok (.invokestatic 47, 3) := by decide +kernel
theorem dX8_ofBottle_15 : decode cX8_ofBottle 15 = .ok (.ifCond .ne 10, 3) := by decide +kernel
theorem dX8_ofBottle_18 : decode cX8_ofBottle 18 = .ok (.aload_n 0, 1) := by decide +kernel
theorem dX8_ofBottle_19 : decode cX8_ofBottle 19 = .ok (.ldc 72, 2) := by decide +kernel
theorem dX8_ofBottle_21 : decode cX8_ofBottle 21 = .ok (.invokevirtual 73, 3) := by decide +kernel
theorem dX8_ofBottle_24 : decode cX8_ofBottle 24 = .ok (.ireturn, 1) := by decide +kernel
theorem dX8_ofBottle_25 : decode cX8_ofBottle 25 = .ok (.iload_n 2, 1) := by decide +kernel
theorem dX8_ofBottle_26 : decode cX8_ofBottle 26 = .ok (.bipush 6, 2) := by decide +kernel
theorem dX8_ofBottle_28 : decode cX8_ofBottle 28 = .ok (.if_icmp .ge 12, 3) := by decide +kernel
theorem dX8_ofBottle_31 : decode cX8_ofBottle 31 = .ok (.aload_n 0, 1) := by decide +kernel
theorem dX8_ofBottle_32 : decode cX8_ofBottle 32 = .ok (.iload_n 1, 1) := by decide +kernel
theorem dX8_ofBottle_33 : decode cX8_ofBottle 33 = .ok (.iload_n 2, 1) := by decide +kernel
theorem dX8_ofBottle_34 : decode cX8_ofBottle 34 = .ok (.invokevirtual 89, 3) := by decide +kernel
theorem dX8_ofBottle_37 : decode cX8_ofBottle 37 = .ok (.goto 36, 3) := by decide +kernel
theorem dX8_ofBottle_40 : decode cX8_ofBottle 40 = .ok (.iload_n 2, 1) := by decide +kernel
theorem dX8_ofBottle_41 : decode cX8_ofBottle 41 = .ok (.bipush 6, 2) := by decide +kernel
theorem dX8_ofBottle_43 : decode cX8_ofBottle 43 = .ok (.if_icmp .ne 11, 3) := by decide +kernel
theorem dX8_ofBottle_46 : decode cX8_ofBottle 46 = .ok (.aload_n 0, 1) := by decide +kernel
theorem dX8_ofBottle_47 : decode cX8_ofBottle 47 = .ok (.iload_n 1, 1) := by decide +kernel
theorem dX8_ofBottle_48 : decode cX8_ofBottle 48 = .ok (.invokevirtual 96, 3) := by decide +kernel
theorem dX8_ofBottle_51 : decode cX8_ofBottle 51 = .ok (.goto 22, 3) := by decide +kernel
theorem dX8_ofBottle_54 : decode cX8_ofBottle 54 = .ok (.iload_n 2, 1) := by decide +kernel
theorem dX8_ofBottle_55 : decode cX8_ofBottle 55 = .ok (.bipush 7, 2) := by decide +kernel
theorem dX8_ofBottle_57 : decode cX8_ofBottle 57 = .ok (.if_icmp .ne 11, 3) := by decide +kernel
theorem dX8_ofBottle_60 : decode cX8_ofBottle 60 = .ok (.aload_n 0, 1) := by decide +kernel
theorem dX8_ofBottle_61 : decode cX8_ofBottle 61 = .ok (.iload_n 1, 1) := by decide +kernel
theorem dX8_ofBottle_62 : decode cX8_ofBottle 62 = .ok (.invokevirtual 99, 3) := by decide +kernel
theorem dX8_ofBottle_65 : decode cX8_ofBottle 65 = .ok (.goto 8, 3) := by decide +kernel
theorem dX8_ofBottle_68 : decode cX8_ofBottle 68 = .ok (.aload_n 0, 1) := by decide +kernel
theorem dX8_ofBottle_69 : decode cX8_ofBottle 69 = .ok (.iload_n 1, 1) := by decide +kernel
theorem dX8_ofBottle_70 : decode cX8_ofBottle 70 = .ok (.invokevirtual 118, 3) := by decide +kernel
theorem dX8_ofBottle_73 : decode cX8_ofBottle 73 = .ok (.ireturn, 1) := by decide +kernel
theorem dX8_become_0 : decode cX8_become 0 = .ok (.aload_n 0, 1) := by decide +kernel
theorem dX8_become_1 : decode cX8_become 1 = .ok (.iload_n 1, 1) := by decide +kernel
theorem dX8_become_2 : decode cX8_become 2 = .ok (.invokevirtual 115, 3) := by decide +kernel
theorem dX8_become_5 : decode cX8_become 5 = .ok (.ifCond .eq 10, 3) := by decide +kernel
theorem dX8_become_8 : decode cX8_become 8 = .ok (.iload_n 2, 1) := by decide +kernel
theorem dX8_become_9 : decode cX8_become 9 = .ok (.invokestatic 106, 3) := by decide +kernel
theorem dX8_become_12 : decode cX8_become 12 = .ok (.ifCond .ne 10, 3) := by decide +kernel
theorem dX8_become_15 : decode cX8_become 15 = .ok (.aload_n 0, 1) := by decide +kernel
theorem dX8_become_16 : decode cX8_become 16 = .ok (.ldc 72, 2) := by decide +kernel
theorem dX8_become_18 : decode cX8_become 18 = .ok (.invokevirtual 73, 3) := by decide +kernel
theorem dX8_become_21 : decode cX8_become 21 = .ok (.ireturn, 1) := by decide +kernel
theorem dX8_become_22 : decode cX8_become 22 = .ok (.aload_n 0, 1) := by decide +kernel
theorem dX8_become_23 : decode cX8_become 23 = .ok (.iload_n 1, 1) := by decide +kernel
theorem dX8_become_24 : decode cX8_become 24 = .ok (.iconst 1, 1) := by decide +kernel
theorem dX8_become_25 : decode cX8_become 25 = .ok (.iload_n 2, 1) := by decide +kernel
theorem dX8_become_26 : decode cX8_become 26 = .ok (.bipush 10, 2) := by decide +kernel
theorem dX8_become_28 : decode cX8_become 28 = .ok (.irem, 1) := by decide +kernel
theorem dX8_become_29 : decode cX8_become 29 = .ok (.invokevirtual 111, 3) := by decide +kernel
theorem dX8_become_32 : decode cX8_become 32 = .ok (.aload_n 0, 1) := by decide +kernel
theorem dX8_become_33 : decode cX8_become 33 = .ok (.bipush 51, 2) := by decide +kernel
theorem dX8_become_35 : decode cX8_become 35 = .ok (.bipush 6, 2) := by decide +kernel
theorem dX8_become_37 : decode cX8_become 37 = .ok (.iload_n 1, 1) := by decide +kernel
theorem dX8_become_38 : decode cX8_become 38 = .ok (.imul, 1) := by decide +kernel
theorem dX8_become_39 : decode cX8_become 39 = .ok (.iadd, 1) := by decide +kernel
theorem dX8_become_40 : decode cX8_become 40 = .ok (.iload_n 2, 1) := by decide +kernel
theorem dX8_become_41 : decode cX8_become 41 = .ok (.bipush 10, 2) := by decide +kernel
theorem dX8_become_43 : decode cX8_become 43 = .ok (.idiv, 1) := by decide +kernel
theorem dX8_become_44 : decode cX8_become 44 = .ok (.invokevirtual 76, 3) := by decide +kernel
theorem dX8_become_47 : decode cX8_become 47 = .ok (.ireturn, 1) := by decide +kernel
theorem dX8_isUnder_0 : decode cX8_isUnder 0 = .ok (.iload_n 1, 1) := by decide +kernel
theorem dX8_isUnder_1 : decode cX8_isUnder 1 = .ok (.ifCond .eq 39, 3) := by decide +kernel
theorem dX8_isUnder_4 : decode cX8_isUnder 4 = .ok (.iload_n 0, 1) := by decide +kernel
theorem dX8_isUnder_5 : decode cX8_isUnder 5 = .ok (.iload_n 1, 1) := by decide +kernel
theorem dX8_isUnder_6 : decode cX8_isUnder 6 = .ok (.if_icmp .eq 34, 3) := by decide +kernel
theorem dX8_isUnder_9 : decode cX8_isUnder 9 = .ok (.iload_n 1, 1) := by decide +kernel
theorem dX8_isUnder_10 : decode cX8_isUnder 10 = .ok (.iconst 1, 1) := by decide +kernel
theorem dX8_isUnder_11 : decode cX8_isUnder 11 = .ok (.if_icmp .ne 8, 3) := by decide +kernel
theorem dX8_isUnder_14 : decode cX8_isUnder 14 = .ok (.iload_n 0, 1) := by decide +kernel
theorem dX8_isUnder_15 : decode cX8_isUnder 15 = .ok (.iconst 4, 1) := by decide +kernel
theorem dX8_isUnder_16 : decode cX8_isUnder 16 = .ok (.if_icmp .eq 24, 3) := by decide +kernel
theorem dX8_isUnder_19 : decode cX8_isUnder 19 = .ok (.iload_n 1, 1) := by decide +kernel
theorem dX8_isUnder_20 : decode cX8_isUnder 20 = .ok (.iconst 2, 1) := by decide +kernel
theorem dX8_isUnder_21 : decode cX8_isUnder 21 = .ok (.if_icmp .ne 8, 3) := by decide +kernel
theorem dX8_isUnder_24 : decode cX8_isUnder 24 = .ok (.iload_n 0, 1) := by decide +kernel
theorem dX8_isUnder_25 : decode cX8_isUnder 25 = .ok (.iconst 5, 1) := by decide +kernel
theorem dX8_isUnder_26 : decode cX8_isUnder 26 = .ok (.if_icmp .eq 14, 3) := by decide +kernel
theorem dX8_isUnder_29 : decode cX8_isUnder 29 = .ok (.iload_n 1, 1) := by decide +kernel
theorem dX8_isUnder_30 : decode cX8_isUnder 30 = .ok (.iconst 3, 1) := by decide +kernel
theorem dX8_isUnder_31 : decode cX8_isUnder 31 = .ok (.if_icmp .ne 13, 3) := by decide +kernel
theorem dX8_isUnder_34 : decode cX8_isUnder 34 = .ok (.iload_n 0, 1) := by decide +kernel
theorem dX8_isUnder_35 : decode cX8_isUnder 35 = .ok (.bipush 6, 2) := by decide +kernel
theorem dX8_isUnder_37 : decode cX8_isUnder 37 = .ok (.if_icmp .ne 7, 3) := by decide +kernel
theorem dX8_isUnder_40 : decode cX8_isUnder 40 = .ok (.iconst 1, 1) := by decide +kernel
theorem dX8_isUnder_41 : decode cX8_isUnder 41 = .ok (.goto 4, 3) := by decide +kernel
theorem dX8_isUnder_44 : decode cX8_isUnder 44 = .ok (.iconst 0, 1) := by decide +kernel
theorem dX8_isUnder_45 : decode cX8_isUnder 45 = .ok (.ireturn, 1) := by decide +kernel
theorem dX8_as_0 : decode cX8_as 0 = .ok (.aload_n 0, 1) := by decide +kernel
theorem dX8_as_1 : decode cX8_as 1 = .ok (.iload_n 1, 1) := by decide +kernel
theorem dX8_as_2 : decode cX8_as 2 = .ok (.invokevirtual 115, 3) := by decide +kernel
theorem dX8_as_5 : decode cX8_as 5 = .ok (.ifCond .eq 13, 3) := by decide +kernel
theorem dX8_as_8 : decode cX8_as 8 = .ok (.iload_n 2, 1) := by decide +kernel
theorem dX8_as_9 : decode cX8_as 9 = .ok (.iconst 0, 1) := by decide +kernel
theorem dX8_as_10 : decode cX8_as 10 = .ok (.bipush 6, 2) := by decide +kernel
theorem dX8_as_12 : decode cX8_as 12 = .ok (.invokestatic 47, 3) := by decide +kernel
theorem dX8_as_15 : decode cX8_as 15 = .ok (.ifCond .ne 10, 3) := by decide +kernel
theorem dX8_as_18 : decode cX8_as 18 = .ok (.aload_n 0, 1) := by decide +kernel
theorem dX8_as_19 : decode cX8_as 19 = .ok (.ldc 72, 2) := by decide +kernel
theorem dX8_as_21 : decode cX8_as 21 = .ok (.invokevirtual 73, 3) := by decide +kernel
theorem dX8_as_24 : decode cX8_as 24 = .ok (.ireturn, 1) := by decide +kernel
theorem dX8_as_25 : decode cX8_as 25 = .ok (.aload_n 0, 1) := by decide +kernel
theorem dX8_as_26 : decode cX8_as 26 = .ok (.iload_n 1, 1) := by decide +kernel
theorem dX8_as_27 : decode cX8_as 27 = .ok (.iconst 0, 1) := by decide +kernel
theorem dX8_as_28 : decode cX8_as 28 = .ok (.invokevirtual 89, 3) := by decide +kernel
theorem dX8_as_31 : decode cX8_as 31 = .ok (.iload_n 2, 1) := by decide +kernel
theorem dX8_as_32 : decode cX8_as 32 = .ok (.invokestatic 121, 3) := by decide +kernel
theorem dX8_as_35 : decode cX8_as 35 = .ok (.ifCond .eq 12, 3) := by decide +kernel
theorem dX8_as_38 : decode cX8_as 38 = .ok (.aload_n 0, 1) := by decide +kernel
theorem dX8_as_39 : decode cX8_as 39 = .ok (.iload_n 1, 1) := by decide +kernel
theorem dX8_as_40 : decode cX8_as 40 = .ok (.iconst 1, 1) := by decide +kernel
theorem dX8_as_41 : decode cX8_as 41 = .ok (.invokevirtual 89, 3) := by decide +kernel
theorem dX8_as_44 : decode cX8_as 44 = .ok (.goto 9, 3) := by decide +kernel
theorem dX8_as_47 : decode cX8_as 47 = .ok (.aload_n 0, 1) := by decide +kernel
theorem dX8_as_48 : decode cX8_as 48 = .ok (.ldc 125, 2) := by decide +kernel
theorem dX8_as_50 : decode cX8_as 50 = .ok (.invokevirtual 73, 3) := by decide +kernel
theorem dX8_as_53 : decode cX8_as 53 = .ok (.ireturn, 1) := by decide +kernel
theorem dX8_open_0 : decode cX8_open 0 = .ok (.aload_n 0, 1) := by decide +kernel
theorem dX8_open_1 : decode cX8_open 1 = .ok (.iload_n 1, 1) := by decide +kernel
theorem dX8_open_2 : decode cX8_open 2 = .ok (.invokevirtual 115, 3) := by decide +kernel
theorem dX8_open_5 : decode cX8_open 5 = .ok (.ifCond .ne 10, 3) := by decide +kernel
theorem dX8_open_8 : decode cX8_open 8 = .ok (.aload_n 0, 1) := by decide +kernel
theorem dX8_open_9 : decode cX8_open 9 = .ok (.ldc 72, 2) := by decide +kernel
theorem dX8_open_11 : decode cX8_open 11 = .ok (.invokevirtual 73, 3) := by decide +kernel
theorem dX8_open_14 : decode cX8_open 14 = .ok (.ireturn, 1) := by decide +kernel
theorem dX8_open_15 : decode cX8_open 15 = .ok (.aload_n 0, 1) := by decide +kernel
theorem dX8_open_16 : decode cX8_open 16 = .ok (.iload_n 1, 1) := by decide +kernel
theorem dX8_open_17 : decode cX8_open 17 = .ok (.iconst 5, 1) := by decide +kernel
theorem dX8_open_18 : decode cX8_open 18 = .ok (.invokevirtual 89, 3) := by decide +kernel
theorem dX8_open_21 : decode cX8_open 21 = .ok (.iconst 1, 1) := by decide +kernel
theorem dX8_open_22 : decode cX8_open 22 = .ok (.if_icmp .ne 10, 3) := by decide +kernel
theorem dX8_open_25 : decode cX8_open 25 = .ok (.aload_n 0, 1) := by decide +kernel
theorem dX8_open_26 : decode cX8_open 26 = .ok (.ldc 110, 2) := by decide +kernel
theorem dX8_open_28 : decode cX8_open 28 = .ok (.invokevirtual 73, 3) := by decide +kernel
theorem dX8_open_31 : decode cX8_open 31 = .ok (.ireturn, 1) := by decide +kernel
theorem dX8_open_32 : decode cX8_open 32 = .ok (.aload_n 0, 1) := by decide +kernel
theorem dX8_open_33 : decode cX8_open 33 = .ok (.iload_n 1, 1) := by decide +kernel
theorem dX8_open_34 : decode cX8_open 34 = .ok (.invokevirtual 96, 3) := by decide +kernel
theorem dX8_open_37 : decode cX8_open 37 = .ok (.istore_n 2, 1) := by decide +kernel
theorem dX8_open_38 : decode cX8_open 38 = .ok (.iconst 0, 1) := by decide +kernel
theorem dX8_open_39 : decode cX8_open 39 = .ok (.istore_n 3, 1) := by decide +kernel
theorem dX8_open_40 : decode cX8_open 40 = .ok (.iconst 0, 1) := by decide +kernel
theorem dX8_open_41 : decode cX8_open 41 = .ok (.istore 4, 2) := by decide +kernel
theorem dX8_open_43 : decode cX8_open 43 = .ok (.iload 4, 2) := by decide +kernel
theorem dX8_open_45 : decode cX8_open 45 = .ok (.bipush 20, 2) := by decide +kernel
theorem dX8_open_47 : decode cX8_open 47 = .ok (.if_icmp .ge 77, 3) := by decide +kernel
theorem dX8_open_50 : decode cX8_open 50 = .ok (.iload_n 2, 1) := by decide +kernel
theorem dX8_open_51 : decode cX8_open 51 = .ok (.iload 4, 2) := by decide +kernel
theorem dX8_open_53 : decode cX8_open 53 = .ok (.ishr, 1) := by decide +kernel
theorem dX8_open_54 : decode cX8_open 54 = .ok (.iconst 1, 1) := by decide +kernel
theorem dX8_open_55 : decode cX8_open 55 = .ok (.iand, 1) := by decide +kernel
theorem dX8_open_56 : decode cX8_open 56 = .ok (.iconst 1, 1) := by decide +kernel
theorem dX8_open_57 : decode cX8_open 57 = .ok (.if_icmp .ne 16, 3) := by decide +kernel
theorem dX8_open_60 : decode cX8_open 60 = .ok (.aload_n 0, 1) := by decide +kernel
theorem dX8_open_61 : decode cX8_open 61 = .ok (.iload 4, 2) := by decide +kernel
theorem dX8_open_63 : decode cX8_open 63 = .ok (.invokevirtual 51, 3) := by decide +kernel
theorem dX8_open_66 : decode cX8_open 66 = .ok (.ifCond .ne 7, 3) := by decide +kernel
theorem dX8_open_69 : decode cX8_open 69 = .ok (.iconst 1, 1) := by decide +kernel
theorem dX8_open_70 : decode cX8_open 70 = .ok (.goto 4, 3) := by decide +kernel
theorem dX8_open_73 : decode cX8_open 73 = .ok (.iconst 0, 1) := by decide +kernel
theorem dX8_open_74 : decode cX8_open 74 = .ok (.istore 5, 2) := by decide +kernel
theorem dX8_open_76 : decode cX8_open 76 = .ok (.iload_n 3, 1) := by decide +kernel
theorem dX8_open_77 : decode cX8_open 77 = .ok (.iload 5, 2) := by decide +kernel
theorem dX8_open_79 : decode cX8_open 79 = .ok (.ifCond .eq 7, 3) := by decide +kernel
theorem dX8_open_82 : decode cX8_open 82 = .ok (.iconst 1, 1) := by decide +kernel
theorem dX8_open_83 : decode cX8_open 83 = .ok (.goto 4, 3) := by decide +kernel
theorem dX8_open_86 : decode cX8_open 86 = .ok (.iconst 0, 1) := by decide +kernel
theorem dX8_open_87 : decode cX8_open 87 = .ok (.iadd, 1) := by decide +kernel
theorem dX8_open_88 : decode cX8_open 88 = .ok (.istore_n 3, 1) := by decide +kernel
theorem dX8_open_89 : decode cX8_open 89 = .ok (.aload_n 0, 1) := by decide +kernel
theorem dX8_open_90 : decode cX8_open 90 = .ok (.getfield 9, 3) := by decide +kernel
theorem dX8_open_93 : decode cX8_open 93 = .ok (.bipush 31, 2) := by decide +kernel
theorem dX8_open_95 : decode cX8_open 95 = .ok (.iload 4, 2) := by decide +kernel
theorem dX8_open_97 : decode cX8_open 97 = .ok (.iadd, 1) := by decide +kernel
theorem dX8_open_98 : decode cX8_open 98 = .ok (.iload 5, 2) := by decide +kernel
theorem dX8_open_100 : decode cX8_open 100 = .ok (.ifCond .eq 7, 3) := by decide +kernel
theorem dX8_open_103 : decode cX8_open 103 = .ok (.iconst 0, 1) := by decide +kernel
theorem dX8_open_104 : decode cX8_open 104 = .ok (.goto 13, 3) := by decide +kernel
theorem dX8_open_107 : decode cX8_open 107 = .ok (.aload_n 0, 1) := by decide +kernel
theorem dX8_open_108 : decode cX8_open 108 = .ok (.getfield 9, 3) := by decide +kernel
theorem dX8_open_111 : decode cX8_open 111 = .ok (.bipush 31, 2) := by decide +kernel
theorem dX8_open_113 : decode cX8_open 113 = .ok (.iload 4, 2) := by decide +kernel
theorem dX8_open_115 : decode cX8_open 115 = .ok (.iadd, 1) := by decide +kernel
theorem dX8_open_116 : decode cX8_open 116 = .ok (.iaload, 1) := by decide +kernel
theorem dX8_open_117 : decode cX8_open 117 = .ok (.iastore, 1) := by decide +kernel
theorem dX8_open_118 : decode cX8_open 118 = .ok (.iinc 4 1, 3) := by decide +kernel
theorem dX8_open_121 : decode cX8_open 121 = .ok (.goto (-78), 3) := by decide +kernel
theorem dX8_open_124 : decode cX8_open 124 = .ok (.aload_n 0, 1) := by decide +kernel
theorem dX8_open_125 : decode cX8_open 125 = .ok (.iload_n 1, 1) := by decide +kernel
theorem dX8_open_126 : decode cX8_open 126 = .ok (.iconst 3, 1) := by decide +kernel
theorem dX8_open_127 : decode cX8_open 127 = .ok (.iconst 0, 1) := by decide +kernel
theorem dX8_open_128 : decode cX8_open 128 = .ok (.invokevirtual 111, 3) := by decide +kernel
theorem dX8_open_131 : decode cX8_open 131 = .ok (.aload_n 0, 1) := by decide +kernel
theorem dX8_open_132 : decode cX8_open 132 = .ok (.iload_n 1, 1) := by decide +kernel
theorem dX8_open_133 : decode cX8_open 133 = .ok (.iconst 5, 1) := by decide +kernel
theorem dX8_open_134 : decode cX8_open 134 = .ok (.iconst 1, 1) := by decide +kernel
theorem dX8_open_135 : decode cX8_open 135 = .ok (.invokevirtual 111, 3) := by decide +kernel
theorem dX8_open_138 : decode cX8_open 138 = .ok (.iload_n 3, 1) := by decide +kernel
theorem dX8_open_139 : decode cX8_open 139 = .ok (.ireturn, 1) := by decide +kernel
theorem dX8_feed_0 : decode cX8_feed 0 = .ok (.iload_n 3, 1) := by decide +kernel
theorem dX8_feed_1 : decode cX8_feed 1 = .ok (.iconst 1, 1) := by decide +kernel
theorem dX8_feed_2 : decode cX8_feed 2 = .ok (.bipush 8, 2) := by decide +kernel
theorem dX8_feed_4 : decode cX8_feed 4 = .ok (.invokestatic 47, 3) := by decide +kernel
theorem dX8_feed_7 : decode cX8_feed 7 = .ok (.ifCond .ne 10, 3) := by decide +kernel
theorem dX8_feed_10 : decode cX8_feed 10 = .ok (.aload_n 0, 1) := by decide +kernel
theorem dX8_feed_11 : decode cX8_feed 11 = .ok (.ldc 72, 2) := by decide +kernel
theorem dX8_feed_13 : decode cX8_feed 13 = .ok (.invokevirtual 73, 3) := by decide +kernel
theorem dX8_feed_16 : decode cX8_feed 16 = .ok (.ireturn, 1) := by decide +kernel
theorem dX8_feed_17 : decode cX8_feed 17 = .ok (.aload_n 0, 1) := by decide +kernel
theorem dX8_feed_18 : decode cX8_feed 18 = .ok (.getfield 9, 3) := by decide +kernel
theorem dX8_feed_21 : decode cX8_feed 21 = .ok (.iconst 4, 1) := by decide +kernel
theorem dX8_feed_22 : decode cX8_feed 22 = .ok (.iaload, 1) := by decide +kernel
theorem dX8_feed_23 : decode cX8_feed 23 = .ok (.iload_n 3, 1) := by decide +kernel
theorem dX8_feed_24 : decode cX8_feed 24 = .ok (.iadd, 1) := by decide +kernel
theorem dX8_feed_25 : decode cX8_feed 25 = .ok (.bipush 50, 2) := by decide +kernel
theorem dX8_feed_27 : decode cX8_feed 27 = .ok (.if_icmp .le 10, 3) := by decide +kernel
theorem dX8_feed_30 : decode cX8_feed 30 = .ok (.aload_n 0, 1) := by decide +kernel
theorem dX8_feed_31 : decode cX8_feed 31 = .ok (.ldc 85, 2) := by decide +kernel
theorem dX8_feed_33 : decode cX8_feed 33 = .ok (.invokevirtual 73, 3) := by decide +kernel
theorem dX8_feed_36 : decode cX8_feed 36 = .ok (.ireturn, 1) := by decide +kernel
theorem dX8_feed_37 : decode cX8_feed 37 = .ok (.iconst 0, 1) := by decide +kernel
theorem dX8_feed_38 : decode cX8_feed 38 = .ok (.istore 4, 2) := by decide +kernel
theorem dX8_feed_40 : decode cX8_feed 40 = .ok (.iload 4, 2) := by decide +kernel
theorem dX8_feed_42 : decode cX8_feed 42 = .ok (.iload_n 3, 1) := by decide +kernel
theorem dX8_feed_43 : decode cX8_feed 43 = .ok (.if_icmp .ge 45, 3) := by decide +kernel
theorem dX8_feed_46 : decode cX8_feed 46 = .ok (.aload_n 0, 1) := by decide +kernel
theorem dX8_feed_47 : decode cX8_feed 47 = .ok (.getfield 9, 3) := by decide +kernel
theorem dX8_feed_50 : decode cX8_feed 50 = .ok (.bipush 99, 2) := by decide +kernel
theorem dX8_feed_52 : decode cX8_feed 52 = .ok (.aload_n 0, 1) := by decide +kernel
theorem dX8_feed_53 : decode cX8_feed 53 = .ok (.getfield 9, 3) := by decide +kernel
theorem dX8_feed_56 : decode cX8_feed 56 = .ok (.iconst 4, 1) := by decide +kernel
theorem dX8_feed_57 : decode cX8_feed 57 = .ok (.iaload, 1) := by decide +kernel
theorem dX8_feed_58 : decode cX8_feed 58 = .ok (.iadd, 1) := by decide +kernel
theorem dX8_feed_59 : decode cX8_feed 59 = .ok (.lload_n 1, 1) := by decide +kernel
theorem dX8_feed_60 : decode cX8_feed 60 = .ok (.bipush 8, 2) := by decide +kernel
theorem dX8_feed_62 : decode cX8_feed 62 = .ok (.iload 4, 2) := by decide +kernel
theorem dX8_feed_64 : decode cX8_feed 64 = .ok (.imul, 1) := by decide +kernel
theorem dX8_feed_65 : decode cX8_feed 65 = .ok (.lshr, 1) := by decide +kernel
theorem dX8_feed_66 : decode cX8_feed 66 = .ok (.ldc2_w 126, 3) := by decide +kernel
theorem dX8_feed_69 : decode cX8_feed 69 = .ok (.land, 1) := by decide +kernel
theorem dX8_feed_70 : decode cX8_feed 70 = .ok (.l2i, 1) := by decide +kernel
theorem dX8_feed_71 : decode cX8_feed 71 = .ok (.iastore, 1) := by decide +kernel
theorem dX8_feed_72 : decode cX8_feed 72 = .ok (.aload_n 0, 1) := by decide +kernel
theorem dX8_feed_73 : decode cX8_feed 73 = .ok (.getfield 9, 3) := by decide +kernel
theorem dX8_feed_76 : decode cX8_feed 76 = .ok (.iconst 4, 1) := by decide +kernel
theorem dX8_feed_77 : decode cX8_feed 77 = .ok (.dup2, 1) := by decide +kernel
theorem dX8_feed_78 : decode cX8_feed 78 = .ok (.iaload, 1) := by decide +kernel
theorem dX8_feed_79 : decode cX8_feed 79 = .ok (.iconst 1, 1) := by decide +kernel
theorem dX8_feed_80 : decode cX8_feed 80 = .ok (.iadd, 1) := by decide +kernel
theorem dX8_feed_81 : decode cX8_feed 81 = .ok (.iastore, 1) := by decide +kernel
theorem dX8_feed_82 : decode cX8_feed 82 = .ok (.iinc 4 1, 3) := by decide +kernel
theorem dX8_feed_85 : decode cX8_feed 85 = .ok (.goto (-45), 3) := by decide +kernel
theorem dX8_feed_88 : decode cX8_feed 88 = .ok (.aload_n 0, 1) := by decide +kernel
theorem dX8_feed_89 : decode cX8_feed 89 = .ok (.getfield 9, 3) := by decide +kernel
theorem dX8_feed_92 : decode cX8_feed 92 = .ok (.iconst 4, 1) := by decide +kernel
theorem dX8_feed_93 : decode cX8_feed 93 = .ok (.iaload, 1) := by decide +kernel
theorem dX8_feed_94 : decode cX8_feed 94 = .ok (.ireturn, 1) := by decide +kernel
theorem dX8_look_0 : decode cX8_look 0 = .ok (.aload_n 0, 1) := by decide +kernel
theorem dX8_look_1 : decode cX8_look 1 = .ok (.getfield 128, 3) := by decide +kernel
theorem dX8_look_4 : decode cX8_look 4 = .ok (.aload_n 0, 1) := by decide +kernel
theorem dX8_look_5 : decode cX8_look 5 = .ok (.getfield 9, 3) := by decide +kernel
theorem dX8_look_8 : decode cX8_look 8 = .ok (.iconst 4, 1) := by decide +kernel
theorem dX8_look_9 : decode cX8_look 9 = .ok (.iaload, 1) := by decide +kernel
theorem dX8_look_10 : decode cX8_look 10 = .ok (.if_icmp .ge 18, 3) := by decide +kernel
theorem dX8_look_13 : decode cX8_look 13 = .ok (.aload_n 0, 1) := by decide +kernel
theorem dX8_look_14 : decode cX8_look 14 = .ok (.getfield 9, 3) := by decide +kernel
theorem dX8_look_17 : decode cX8_look 17 = .ok (.bipush 99, 2) := by decide +kernel
theorem dX8_look_19 : decode cX8_look 19 = .ok (.aload_n 0, 1) := by decide +kernel
theorem dX8_look_20 : decode cX8_look 20 = .ok (.getfield 128, 3) := by decide +kernel
theorem dX8_look_23 : decode cX8_look 23 = .ok (.iadd, 1) := by decide +kernel
theorem dX8_look_24 : decode cX8_look 24 = .ok (.iaload, 1) := by decide +kernel
theorem dX8_look_25 : decode cX8_look 25 = .ok (.goto 4, 3) := by decide +kernel
theorem dX8_look_28 : decode cX8_look 28 = .ok (.iconst (-1), 1) := by decide +kernel
theorem dX8_look_29 : decode cX8_look 29 = .ok (.ireturn, 1) := by decide +kernel
theorem dX8_step_0 : decode cX8_step 0 = .ok (.aload_n 0, 1) := by decide +kernel
theorem dX8_step_1 : decode cX8_step 1 = .ok (.getfield 132, 3) := by decide +kernel
theorem dX8_step_4 : decode cX8_step 4 = .ok (.aload_n 0, 1) := by decide +kernel
theorem dX8_step_5 : decode cX8_step 5 = .ok (.getfield 22, 3) := by decide +kernel
theorem dX8_step_8 : decode cX8_step 8 = .ok (.arraylength, 1) := by decide +kernel
theorem dX8_step_9 : decode cX8_step 9 = .ok (.if_icmp .ge 33, 3) := by decide +kernel
theorem dX8_step_12 : decode cX8_step 12 = .ok (.aload_n 0, 1) := by decide +kernel
theorem dX8_step_13 : decode cX8_step 13 = .ok (.getfield 22, 3) := by decide +kernel
theorem dX8_step_16 : decode cX8_step 16 = .ok (.aload_n 0, 1) := by decide +kernel
theorem dX8_step_17 : decode cX8_step 17 = .ok (.getfield 132, 3) := by decide +kernel
theorem dX8_step_20 : decode cX8_step 20 = .ok (.iload_n 1, 1) := by decide +kernel
theorem dX8_step_21 : decode cX8_step 21 = .ok (.iastore, 1) := by decide +kernel
theorem dX8_step_22 : decode cX8_step 22 = .ok (.aload_n 0, 1) := by decide +kernel
theorem dX8_step_23 : decode cX8_step 23 = .ok (.getfield 25, 3) := by decide +kernel
theorem dX8_step_26 : decode cX8_step 26 = .ok (.aload_n 0, 1) := by decide +kernel
theorem dX8_step_27 : decode cX8_step 27 = .ok (.getfield 132, 3) := by decide +kernel
theorem dX8_step_30 : decode cX8_step 30 = .ok (.iload_n 2, 1) := by decide +kernel
theorem dX8_step_31 : decode cX8_step 31 = .ok (.iastore, 1) := by decide +kernel
theorem dX8_step_32 : decode cX8_step 32 = .ok (.aload_n 0, 1) := by decide +kernel
theorem dX8_step_33 : decode cX8_step 33 = .ok (.dup, 1) := by decide +kernel
theorem dX8_step_34 : decode cX8_step 34 = .ok (.getfield 132, 3) := by decide +kernel
theorem dX8_step_37 : decode cX8_step 37 = .ok (.iconst 1, 1) := by decide +kernel
theorem dX8_step_38 : decode cX8_step 38 = .ok (.iadd, 1) := by decide +kernel
theorem dX8_step_39 : decode cX8_step 39 = .ok (.putfield 132, 3) := by decide +kernel
theorem dX8_step_42 : decode cX8_step 42 = .ok (.return_, 1) := by decide +kernel
theorem dX8_nameOf_0 : decode cX8_nameOf 0 = .ok (.iload_n 1, 1) := by decide +kernel
theorem dX8_nameOf_1 : decode cX8_nameOf 1 = .ok (.tableswitch 158 97 115 #[124, 158, 158, 91, 158, 158, 158, 91, 158, 158, 124, 124, 158, 158, 158, 158, 158, 158, 91], 91) := by decide +kernel
theorem dX8_nameOf_92 : decode cX8_nameOf 92 = .ok (.aload_n 0, 1) := by decide +kernel
theorem dX8_nameOf_93 : decode cX8_nameOf 93 = .ok (.getfield 135, 3) := by decide +kernel
theorem dX8_nameOf_96 : decode cX8_nameOf 96 = .ok (.ifCond .eq 7, 3) := by decide +kernel
theorem dX8_nameOf_99 : decode cX8_nameOf 99 = .ok (.iconst (-1), 1) := by decide +kernel
theorem dX8_nameOf_100 : decode cX8_nameOf 100 = .ok (.goto 24, 3) := by decide +kernel
theorem dX8_nameOf_103 : decode cX8_nameOf 103 = .ok (.iload_n 1, 1) := by decide +kernel
theorem dX8_nameOf_104 : decode cX8_nameOf 104 = .ok (.bipush 104, 2) := by decide +kernel
theorem dX8_nameOf_106 : decode cX8_nameOf 106 = .ok (.if_icmp .ne 7, 3) := by decide +kernel
theorem dX8_nameOf_109 : decode cX8_nameOf 109 = .ok (.iconst 0, 1) := by decide +kernel
theorem dX8_nameOf_110 : decode cX8_nameOf 110 = .ok (.goto 14, 3) := by decide +kernel
theorem dX8_nameOf_113 : decode cX8_nameOf 113 = .ok (.iload_n 1, 1) := by decide +kernel
theorem dX8_nameOf_114 : decode cX8_nameOf 114 = .ok (.bipush 115, 2) := by decide +kernel
theorem dX8_nameOf_116 : decode cX8_nameOf 116 = .ok (.if_icmp .ne 7, 3) := by decide +kernel
theorem dX8_nameOf_119 : decode cX8_nameOf 119 = .ok (.iconst 1, 1) := by decide +kernel
theorem dX8_nameOf_120 : decode cX8_nameOf 120 = .ok (.goto 4, 3) := by decide +kernel
theorem dX8_nameOf_123 : decode cX8_nameOf 123 = .ok (.iconst 2, 1) := by decide +kernel
theorem dX8_nameOf_124 : decode cX8_nameOf 124 = .ok (.ireturn, 1) := by decide +kernel
theorem dX8_nameOf_125 : decode cX8_nameOf 125 = .ok (.aload_n 0, 1) := by decide +kernel
theorem dX8_nameOf_126 : decode cX8_nameOf 126 = .ok (.getfield 135, 3) := by decide +kernel
theorem dX8_nameOf_129 : decode cX8_nameOf 129 = .ok (.iconst 1, 1) := by decide +kernel
theorem dX8_nameOf_130 : decode cX8_nameOf 130 = .ok (.if_icmp .eq 7, 3) := by decide +kernel
theorem dX8_nameOf_133 : decode cX8_nameOf 133 = .ok (.iconst (-1), 1) := by decide +kernel
theorem dX8_nameOf_134 : decode cX8_nameOf 134 = .ok (.goto 24, 3) := by decide +kernel
theorem dX8_nameOf_137 : decode cX8_nameOf 137 = .ok (.iload_n 1, 1) := by decide +kernel
theorem dX8_nameOf_138 : decode cX8_nameOf 138 = .ok (.bipush 107, 2) := by decide +kernel
theorem dX8_nameOf_140 : decode cX8_nameOf 140 = .ok (.if_icmp .ne 7, 3) := by decide +kernel
theorem dX8_nameOf_143 : decode cX8_nameOf 143 = .ok (.iconst 0, 1) := by decide +kernel
theorem dX8_nameOf_144 : decode cX8_nameOf 144 = .ok (.goto 14, 3) := by decide +kernel
theorem dX8_nameOf_147 : decode cX8_nameOf 147 = .ok (.iload_n 1, 1) := by decide +kernel
theorem dX8_nameOf_148 : decode cX8_nameOf 148 = .ok (.bipush 108, 2) := by decide +kernel
theorem dX8_nameOf_150 : decode cX8_nameOf 150 = .ok (.if_icmp .ne 7, 3) := by decide +kernel
theorem dX8_nameOf_153 : decode cX8_nameOf 153 = .ok (.iconst 1, 1) := by decide +kernel
theorem dX8_nameOf_154 : decode cX8_nameOf 154 = .ok (.goto 4, 3) := by decide +kernel
theorem dX8_nameOf_157 : decode cX8_nameOf 157 = .ok (.iconst 2, 1) := by decide +kernel
theorem dX8_nameOf_158 : decode cX8_nameOf 158 = .ok (.ireturn, 1) := by decide +kernel
theorem dX8_nameOf_159 : decode cX8_nameOf 159 = .ok (.iconst (-1), 1) := by decide +kernel
theorem dX8_nameOf_160 : decode cX8_nameOf 160 = .ok (.ireturn, 1) := by decide +kernel
theorem dX8_number_0 : decode cX8_number 0 = .ok (.iconst 0, 1) := by decide +kernel
theorem dX8_number_1 : decode cX8_number 1 = .ok (.istore_n 1, 1) := by decide +kernel
theorem dX8_number_2 : decode cX8_number 2 = .ok (.iconst 0, 1) := by decide +kernel
theorem dX8_number_3 : decode cX8_number 3 = .ok (.istore_n 2, 1) := by decide +kernel
theorem dX8_number_4 : decode cX8_number 4 = .ok (.iload_n 2, 1) := by decide +kernel
theorem dX8_number_5 : decode cX8_number 5 = .ok (.iconst 4, 1) := by decide +kernel
theorem dX8_number_6 : decode cX8_number 6 = .ok (.if_icmp .ge 46, 3) := by decide +kernel
theorem dX8_number_9 : decode cX8_number 9 = .ok (.aload_n 0, 1) := by decide +kernel
theorem dX8_number_10 : decode cX8_number 10 = .ok (.invokevirtual 138, 3) := by decide +kernel
theorem dX8_number_13 : decode cX8_number 13 = .ok (.bipush 48, 2) := by decide +kernel
theorem dX8_number_15 : decode cX8_number 15 = .ok (.bipush 57, 2) := by decide +kernel
theorem dX8_number_17 : decode cX8_number 17 = .ok (.invokestatic 47, 3) := by decide +kernel
theorem dX8_number_20 : decode cX8_number 20 = .ok (.ifCond .eq 32, 3) := by decide +kernel
theorem dX8_number_23 : decode cX8_number 23 = .ok (.bipush 10, 2) := by decide +kernel
theorem dX8_number_25 : decode cX8_number 25 = .ok (.iload_n 1, 1) := by decide +kernel
theorem dX8_number_26 : decode cX8_number 26 = .ok (.imul, 1) := by decide +kernel
theorem dX8_number_27 : decode cX8_number 27 = .ok (.aload_n 0, 1) := by decide +kernel
theorem dX8_number_28 : decode cX8_number 28 = .ok (.invokevirtual 138, 3) := by decide +kernel
theorem dX8_number_31 : decode cX8_number 31 = .ok (.iadd, 1) := by decide +kernel
theorem dX8_number_32 : decode cX8_number 32 = .ok (.bipush 48, 2) := by decide +kernel
theorem dX8_number_34 : decode cX8_number 34 = .ok (.isub, 1) := by decide +kernel
theorem dX8_number_35 : decode cX8_number 35 = .ok (.istore_n 1, 1) := by decide +kernel
theorem dX8_number_36 : decode cX8_number 36 = .ok (.aload_n 0, 1) := by decide +kernel
theorem dX8_number_37 : decode cX8_number 37 = .ok (.dup, 1) := by decide +kernel
theorem dX8_number_38 : decode cX8_number 38 = .ok (.getfield 128, 3) := by decide +kernel
theorem dX8_number_41 : decode cX8_number 41 = .ok (.iconst 1, 1) := by decide +kernel
theorem dX8_number_42 : decode cX8_number 42 = .ok (.iadd, 1) := by decide +kernel
theorem dX8_number_43 : decode cX8_number 43 = .ok (.putfield 128, 3) := by decide +kernel
theorem dX8_number_46 : decode cX8_number 46 = .ok (.iinc 2 1, 3) := by decide +kernel
theorem dX8_number_49 : decode cX8_number 49 = .ok (.goto (-45), 3) := by decide +kernel
theorem dX8_number_52 : decode cX8_number 52 = .ok (.aload_n 0, 1) := by decide +kernel
theorem dX8_number_53 : decode cX8_number 53 = .ok (.iload_n 2, 1) := by decide +kernel
theorem dX8_number_54 : decode cX8_number 54 = .ok (.ifCond .ne 7, 3) := by decide +kernel
theorem dX8_number_57 : decode cX8_number 57 = .ok (.iconst 1, 1) := by decide +kernel
theorem dX8_number_58 : decode cX8_number 58 = .ok (.goto 4, 3) := by decide +kernel
theorem dX8_number_61 : decode cX8_number 61 = .ok (.iconst 0, 1) := by decide +kernel
theorem dX8_number_62 : decode cX8_number 62 = .ok (.putfield 142, 3) := by decide +kernel
theorem dX8_number_65 : decode cX8_number 65 = .ok (.aload_n 0, 1) := by decide +kernel
theorem dX8_number_66 : decode cX8_number 66 = .ok (.iconst 1, 1) := by decide +kernel
theorem dX8_number_67 : decode cX8_number 67 = .ok (.iload_n 1, 1) := by decide +kernel
theorem dX8_number_68 : decode cX8_number 68 = .ok (.invokevirtual 146, 3) := by decide +kernel
theorem dX8_number_71 : decode cX8_number 71 = .ok (.return_, 1) := by decide +kernel
theorem dX8_opens_0 : decode cX8_opens 0 = .ok (.aload_n 0, 1) := by decide +kernel
theorem dX8_opens_1 : decode cX8_opens 1 = .ok (.getfield 150, 3) := by decide +kernel
theorem dX8_opens_4 : decode cX8_opens 4 = .ok (.iconst 5, 1) := by decide +kernel
theorem dX8_opens_5 : decode cX8_opens 5 = .ok (.if_icmp .ne 9, 3) := by decide +kernel
theorem dX8_opens_8 : decode cX8_opens 8 = .ok (.aload_n 0, 1) := by decide +kernel
theorem dX8_opens_9 : decode cX8_opens 9 = .ok (.iconst 1, 1) := by decide +kernel
theorem dX8_opens_10 : decode cX8_opens 10 = .ok (.putfield 142, 3) := by decide +kernel
theorem dX8_opens_13 : decode cX8_opens 13 = .ok (.return_, 1) := by decide +kernel
theorem dX8_opens_14 : decode cX8_opens 14 = .ok (.aload_n 0, 1) := by decide +kernel
theorem dX8_opens_15 : decode cX8_opens 15 = .ok (.dup, 1) := by decide +kernel
theorem dX8_opens_16 : decode cX8_opens 16 = .ok (.getfield 150, 3) := by decide +kernel
theorem dX8_opens_19 : decode cX8_opens 19 = .ok (.iconst 1, 1) := by decide +kernel
theorem dX8_opens_20 : decode cX8_opens 20 = .ok (.iadd, 1) := by decide +kernel
theorem dX8_opens_21 : decode cX8_opens 21 = .ok (.putfield 150, 3) := by decide +kernel
theorem dX8_opens_24 : decode cX8_opens 24 = .ok (.aload_n 0, 1) := by decide +kernel
theorem dX8_opens_25 : decode cX8_opens 25 = .ok (.dup, 1) := by decide +kernel
theorem dX8_opens_26 : decode cX8_opens 26 = .ok (.getfield 128, 3) := by decide +kernel
theorem dX8_opens_29 : decode cX8_opens 29 = .ok (.iconst 1, 1) := by decide +kernel
theorem dX8_opens_30 : decode cX8_opens 30 = .ok (.iadd, 1) := by decide +kernel
theorem dX8_opens_31 : decode cX8_opens 31 = .ok (.putfield 128, 3) := by decide +kernel
theorem dX8_opens_34 : decode cX8_opens 34 = .ok (.iload_n 1, 1) := by decide +kernel
theorem dX8_opens_35 : decode cX8_opens 35 = .ok (.bipush 33, 2) := by decide +kernel
theorem dX8_opens_37 : decode cX8_opens 37 = .ok (.if_icmp .ne 16, 3) := by decide +kernel
theorem dX8_opens_40 : decode cX8_opens 40 = .ok (.aload_n 0, 1) := by decide +kernel
theorem dX8_opens_41 : decode cX8_opens 41 = .ok (.invokevirtual 153, 3) := by decide +kernel
theorem dX8_opens_44 : decode cX8_opens 44 = .ok (.aload_n 0, 1) := by decide +kernel
theorem dX8_opens_45 : decode cX8_opens 45 = .ok (.iconst 3, 1) := by decide +kernel
theorem dX8_opens_46 : decode cX8_opens 46 = .ok (.iconst 0, 1) := by decide +kernel
theorem dX8_opens_47 : decode cX8_opens 47 = .ok (.invokevirtual 146, 3) := by decide +kernel
theorem dX8_opens_50 : decode cX8_opens 50 = .ok (.goto 53, 3) := by decide +kernel
theorem dX8_opens_53 : decode cX8_opens 53 = .ok (.aload_n 0, 1) := by decide +kernel
theorem dX8_opens_54 : decode cX8_opens 54 = .ok (.invokevirtual 156, 3) := by decide +kernel
theorem dX8_opens_57 : decode cX8_opens 57 = .ok (.aload_n 0, 1) := by decide +kernel
theorem dX8_opens_58 : decode cX8_opens 58 = .ok (.aload_n 0, 1) := by decide +kernel
theorem dX8_opens_59 : decode cX8_opens 59 = .ok (.getfield 142, 3) := by decide +kernel
theorem dX8_opens_62 : decode cX8_opens 62 = .ok (.ifCond .ne 12, 3) := by decide +kernel
theorem dX8_opens_65 : decode cX8_opens 65 = .ok (.aload_n 0, 1) := by decide +kernel
theorem dX8_opens_66 : decode cX8_opens 66 = .ok (.invokevirtual 138, 3) := by decide +kernel
theorem dX8_opens_69 : decode cX8_opens 69 = .ok (.bipush 41, 2) := by decide +kernel
theorem dX8_opens_71 : decode cX8_opens 71 = .ok (.if_icmp .eq 7, 3) := by decide +kernel
theorem dX8_opens_74 : decode cX8_opens 74 = .ok (.iconst 1, 1) := by decide +kernel
theorem dX8_opens_75 : decode cX8_opens 75 = .ok (.goto 4, 3) := by decide +kernel
theorem dX8_opens_78 : decode cX8_opens 78 = .ok (.iconst 0, 1) := by decide +kernel
theorem dX8_opens_79 : decode cX8_opens 79 = .ok (.putfield 142, 3) := by decide +kernel
theorem dX8_opens_82 : decode cX8_opens 82 = .ok (.aload_n 0, 1) := by decide +kernel
theorem dX8_opens_83 : decode cX8_opens 83 = .ok (.dup, 1) := by decide +kernel
theorem dX8_opens_84 : decode cX8_opens 84 = .ok (.getfield 128, 3) := by decide +kernel
theorem dX8_opens_87 : decode cX8_opens 87 = .ok (.aload_n 0, 1) := by decide +kernel
theorem dX8_opens_88 : decode cX8_opens 88 = .ok (.getfield 142, 3) := by decide +kernel
theorem dX8_opens_91 : decode cX8_opens 91 = .ok (.ifCond .eq 7, 3) := by decide +kernel
theorem dX8_opens_94 : decode cX8_opens 94 = .ok (.iconst 0, 1) := by decide +kernel
theorem dX8_opens_95 : decode cX8_opens 95 = .ok (.goto 4, 3) := by decide +kernel
theorem dX8_opens_98 : decode cX8_opens 98 = .ok (.iconst 1, 1) := by decide +kernel
theorem dX8_opens_99 : decode cX8_opens 99 = .ok (.iadd, 1) := by decide +kernel
theorem dX8_opens_100 : decode cX8_opens 100 = .ok (.putfield 128, 3) := by decide +kernel
theorem dX8_opens_103 : decode cX8_opens 103 = .ok (.aload_n 0, 1) := by decide +kernel
theorem dX8_opens_104 : decode cX8_opens 104 = .ok (.dup, 1) := by decide +kernel
theorem dX8_opens_105 : decode cX8_opens 105 = .ok (.getfield 150, 3) := by decide +kernel
theorem dX8_opens_108 : decode cX8_opens 108 = .ok (.iconst 1, 1) := by decide +kernel
theorem dX8_opens_109 : decode cX8_opens 109 = .ok (.isub, 1) := by decide +kernel
theorem dX8_opens_110 : decode cX8_opens 110 = .ok (.putfield 150, 3) := by decide +kernel
theorem dX8_opens_113 : decode cX8_opens 113 = .ok (.return_, 1) := by decide +kernel
theorem dX8_one_0 : decode cX8_one 0 = .ok (.aload_n 0, 1) := by decide +kernel
theorem dX8_one_1 : decode cX8_one 1 = .ok (.invokevirtual 138, 3) := by decide +kernel
theorem dX8_one_4 : decode cX8_one 4 = .ok (.istore_n 1, 1) := by decide +kernel
theorem dX8_one_5 : decode cX8_one 5 = .ok (.aload_n 0, 1) := by decide +kernel
theorem dX8_one_6 : decode cX8_one 6 = .ok (.iload_n 1, 1) := by decide +kernel
theorem dX8_one_7 : decode cX8_one 7 = .ok (.invokevirtual 159, 3) := by decide +kernel
theorem dX8_one_10 : decode cX8_one 10 = .ok (.istore_n 2, 1) := by decide +kernel
theorem dX8_one_11 : decode cX8_one 11 = .ok (.iload_n 2, 1) := by decide +kernel
theorem dX8_one_12 : decode cX8_one 12 = .ok (.ifCond .lt 22, 3) := by decide +kernel
theorem dX8_one_15 : decode cX8_one 15 = .ok (.aload_n 0, 1) := by decide +kernel
theorem dX8_one_16 : decode cX8_one 16 = .ok (.dup, 1) := by decide +kernel
theorem dX8_one_17 : decode cX8_one 17 = .ok (.getfield 128, 3) := by decide +kernel
theorem dX8_one_20 : decode cX8_one 20 = .ok (.iconst 1, 1) := by decide +kernel
theorem dX8_one_21 : decode cX8_one 21 = .ok (.iadd, 1) := by decide +kernel
theorem dX8_one_22 : decode cX8_one 22 = .ok (.putfield 128, 3) := by decide +kernel
theorem dX8_one_25 : decode cX8_one 25 = .ok (.aload_n 0, 1) := by decide +kernel
theorem dX8_one_26 : decode cX8_one 26 = .ok (.iconst 2, 1) := by decide +kernel
theorem dX8_one_27 : decode cX8_one 27 = .ok (.iload_n 2, 1) := by decide +kernel
theorem dX8_one_28 : decode cX8_one 28 = .ok (.invokevirtual 146, 3) := by decide +kernel
theorem dX8_one_31 : decode cX8_one 31 = .ok (.goto 27, 3) := by decide +kernel
theorem dX8_one_34 : decode cX8_one 34 = .ok (.iload_n 1, 1) := by decide +kernel
theorem dX8_one_35 : decode cX8_one 35 = .ok (.bipush 33, 2) := by decide +kernel
theorem dX8_one_37 : decode cX8_one 37 = .ok (.if_icmp .eq 9, 3) := by decide +kernel
theorem dX8_one_40 : decode cX8_one 40 = .ok (.iload_n 1, 1) := by decide +kernel
theorem dX8_one_41 : decode cX8_one 41 = .ok (.bipush 40, 2) := by decide +kernel
theorem dX8_one_43 : decode cX8_one 43 = .ok (.if_icmp .ne 11, 3) := by decide +kernel
theorem dX8_one_46 : decode cX8_one 46 = .ok (.aload_n 0, 1) := by decide +kernel
theorem dX8_one_47 : decode cX8_one 47 = .ok (.iload_n 1, 1) := by decide +kernel
theorem dX8_one_48 : decode cX8_one 48 = .ok (.invokevirtual 162, 3) := by decide +kernel
theorem dX8_one_51 : decode cX8_one 51 = .ok (.goto 7, 3) := by decide +kernel
theorem dX8_one_54 : decode cX8_one 54 = .ok (.aload_n 0, 1) := by decide +kernel
theorem dX8_one_55 : decode cX8_one 55 = .ok (.invokevirtual 166, 3) := by decide +kernel
theorem dX8_one_58 : decode cX8_one 58 = .ok (.return_, 1) := by decide +kernel
theorem dX8_times_0 : decode cX8_times 0 = .ok (.aload_n 0, 1) := by decide +kernel
theorem dX8_times_1 : decode cX8_times 1 = .ok (.invokevirtual 153, 3) := by decide +kernel
theorem dX8_times_4 : decode cX8_times 4 = .ok (.aload_n 0, 1) := by decide +kernel
theorem dX8_times_5 : decode cX8_times 5 = .ok (.getfield 142, 3) := by decide +kernel
theorem dX8_times_8 : decode cX8_times 8 = .ok (.ifCond .ne 58, 3) := by decide +kernel
theorem dX8_times_11 : decode cX8_times 11 = .ok (.aload_n 0, 1) := by decide +kernel
theorem dX8_times_12 : decode cX8_times 12 = .ok (.invokevirtual 138, 3) := by decide +kernel
theorem dX8_times_15 : decode cX8_times 15 = .ok (.bipush 42, 2) := by decide +kernel
theorem dX8_times_17 : decode cX8_times 17 = .ok (.if_icmp .eq 21, 3) := by decide +kernel
theorem dX8_times_20 : decode cX8_times 20 = .ok (.aload_n 0, 1) := by decide +kernel
theorem dX8_times_21 : decode cX8_times 21 = .ok (.invokevirtual 138, 3) := by decide +kernel
theorem dX8_times_24 : decode cX8_times 24 = .ok (.bipush 47, 2) := by decide +kernel
theorem dX8_times_26 : decode cX8_times 26 = .ok (.if_icmp .eq 12, 3) := by decide +kernel
theorem dX8_times_29 : decode cX8_times 29 = .ok (.aload_n 0, 1) := by decide +kernel
theorem dX8_times_30 : decode cX8_times 30 = .ok (.invokevirtual 138, 3) := by decide +kernel
theorem dX8_times_33 : decode cX8_times 33 = .ok (.bipush 37, 2) := by decide +kernel
theorem dX8_times_35 : decode cX8_times 35 = .ok (.if_icmp .ne 31, 3) := by decide +kernel
theorem dX8_times_38 : decode cX8_times 38 = .ok (.aload_n 0, 1) := by decide +kernel
theorem dX8_times_39 : decode cX8_times 39 = .ok (.invokevirtual 138, 3) := by decide +kernel
theorem dX8_times_42 : decode cX8_times 42 = .ok (.istore_n 1, 1) := by decide +kernel
theorem dX8_times_43 : decode cX8_times 43 = .ok (.aload_n 0, 1) := by decide +kernel
theorem dX8_times_44 : decode cX8_times 44 = .ok (.dup, 1) := by decide +kernel
theorem dX8_times_45 : decode cX8_times 45 = .ok (.getfield 128, 3) := by decide +kernel
theorem dX8_times_48 : decode cX8_times 48 = .ok (.iconst 1, 1) := by decide +kernel
theorem dX8_times_49 : decode cX8_times 49 = .ok (.iadd, 1) := by decide +kernel
theorem dX8_times_50 : decode cX8_times 50 = .ok (.putfield 128, 3) := by decide +kernel
theorem dX8_times_53 : decode cX8_times 53 = .ok (.aload_n 0, 1) := by decide +kernel
theorem dX8_times_54 : decode cX8_times 54 = .ok (.invokevirtual 153, 3) := by decide +kernel
theorem dX8_times_57 : decode cX8_times 57 = .ok (.aload_n 0, 1) := by decide +kernel
theorem dX8_times_58 : decode cX8_times 58 = .ok (.iload_n 1, 1) := by decide +kernel
theorem dX8_times_59 : decode cX8_times 59 = .ok (.iconst 0, 1) := by decide +kernel
theorem dX8_times_60 : decode cX8_times 60 = .ok (.invokevirtual 146, 3) := by decide +kernel
theorem dX8_times_63 : decode cX8_times 63 = .ok (.goto (-59), 3) := by decide +kernel
theorem dX8_times_66 : decode cX8_times 66 = .ok (.return_, 1) := by decide +kernel
theorem dX8_sum_0 : decode cX8_sum 0 = .ok (.aload_n 0, 1) := by decide +kernel
theorem dX8_sum_1 : decode cX8_sum 1 = .ok (.invokevirtual 169, 3) := by decide +kernel
theorem dX8_sum_4 : decode cX8_sum 4 = .ok (.aload_n 0, 1) := by decide +kernel
theorem dX8_sum_5 : decode cX8_sum 5 = .ok (.getfield 142, 3) := by decide +kernel
theorem dX8_sum_8 : decode cX8_sum 8 = .ok (.ifCond .ne 49, 3) := by decide +kernel
theorem dX8_sum_11 : decode cX8_sum 11 = .ok (.aload_n 0, 1) := by decide +kernel
theorem dX8_sum_12 : decode cX8_sum 12 = .ok (.invokevirtual 138, 3) := by decide +kernel
theorem dX8_sum_15 : decode cX8_sum 15 = .ok (.bipush 43, 2) := by decide +kernel
theorem dX8_sum_17 : decode cX8_sum 17 = .ok (.if_icmp .eq 12, 3) := by decide +kernel
theorem dX8_sum_20 : decode cX8_sum 20 = .ok (.aload_n 0, 1) := by decide +kernel
theorem dX8_sum_21 : decode cX8_sum 21 = .ok (.invokevirtual 138, 3) := by decide +kernel
theorem dX8_sum_24 : decode cX8_sum 24 = .ok (.bipush 45, 2) := by decide +kernel
theorem dX8_sum_26 : decode cX8_sum 26 = .ok (.if_icmp .ne 31, 3) := by decide +kernel
theorem dX8_sum_29 : decode cX8_sum 29 = .ok (.aload_n 0, 1) := by decide +kernel
theorem dX8_sum_30 : decode cX8_sum 30 = .ok (.invokevirtual 138, 3) := by decide +kernel
theorem dX8_sum_33 : decode cX8_sum 33 = .ok (.istore_n 1, 1) := by decide +kernel
theorem dX8_sum_34 : decode cX8_sum 34 = .ok (.aload_n 0, 1) := by decide +kernel
theorem dX8_sum_35 : decode cX8_sum 35 = .ok (.dup, 1) := by decide +kernel
theorem dX8_sum_36 : decode cX8_sum 36 = .ok (.getfield 128, 3) := by decide +kernel
theorem dX8_sum_39 : decode cX8_sum 39 = .ok (.iconst 1, 1) := by decide +kernel
theorem dX8_sum_40 : decode cX8_sum 40 = .ok (.iadd, 1) := by decide +kernel
theorem dX8_sum_41 : decode cX8_sum 41 = .ok (.putfield 128, 3) := by decide +kernel
theorem dX8_sum_44 : decode cX8_sum 44 = .ok (.aload_n 0, 1) := by decide +kernel
theorem dX8_sum_45 : decode cX8_sum 45 = .ok (.invokevirtual 169, 3) := by decide +kernel
theorem dX8_sum_48 : decode cX8_sum 48 = .ok (.aload_n 0, 1) := by decide +kernel
theorem dX8_sum_49 : decode cX8_sum 49 = .ok (.iload_n 1, 1) := by decide +kernel
theorem dX8_sum_50 : decode cX8_sum 50 = .ok (.iconst 0, 1) := by decide +kernel
theorem dX8_sum_51 : decode cX8_sum 51 = .ok (.invokevirtual 146, 3) := by decide +kernel
theorem dX8_sum_54 : decode cX8_sum 54 = .ok (.goto (-50), 3) := by decide +kernel
theorem dX8_sum_57 : decode cX8_sum 57 = .ok (.return_, 1) := by decide +kernel
theorem dX8_compares_0 : decode cX8_compares 0 = .ok (.aload_n 0, 1) := by decide +kernel
theorem dX8_compares_1 : decode cX8_compares 1 = .ok (.invokevirtual 172, 3) := by decide +kernel
theorem dX8_compares_4 : decode cX8_compares 4 = .ok (.aload_n 0, 1) := by decide +kernel
theorem dX8_compares_5 : decode cX8_compares 5 = .ok (.invokevirtual 138, 3) := by decide +kernel
theorem dX8_compares_8 : decode cX8_compares 8 = .ok (.istore_n 1, 1) := by decide +kernel
theorem dX8_compares_9 : decode cX8_compares 9 = .ok (.aload_n 0, 1) := by decide +kernel
theorem dX8_compares_10 : decode cX8_compares 10 = .ok (.getfield 142, 3) := by decide +kernel
theorem dX8_compares_13 : decode cX8_compares 13 = .ok (.ifCond .ne 41, 3) := by decide +kernel
theorem dX8_compares_16 : decode cX8_compares 16 = .ok (.iload_n 1, 1) := by decide +kernel
theorem dX8_compares_17 : decode cX8_compares 17 = .ok (.bipush 60, 2) := by decide +kernel
theorem dX8_compares_19 : decode cX8_compares 19 = .ok (.if_icmp .eq 15, 3) := by decide +kernel
theorem dX8_compares_22 : decode cX8_compares 22 = .ok (.iload_n 1, 1) := by decide +kernel
theorem dX8_compares_23 : decode cX8_compares 23 = .ok (.bipush 61, 2) := by decide +kernel
theorem dX8_compares_25 : decode cX8_compares 25 = .ok (.if_icmp .eq 9, 3) := by decide +kernel
theorem dX8_compares_28 : decode cX8_compares 28 = .ok (.iload_n 1, 1) := by decide +kernel
theorem dX8_compares_29 : decode cX8_compares 29 = .ok (.bipush 62, 2) := by decide +kernel
theorem dX8_compares_31 : decode cX8_compares 31 = .ok (.if_icmp .ne 23, 3) := by decide +kernel
theorem dX8_compares_34 : decode cX8_compares 34 = .ok (.aload_n 0, 1) := by decide +kernel
theorem dX8_compares_35 : decode cX8_compares 35 = .ok (.dup, 1) := by decide +kernel
theorem dX8_compares_36 : decode cX8_compares 36 = .ok (.getfield 128, 3) := by decide +kernel
theorem dX8_compares_39 : decode cX8_compares 39 = .ok (.iconst 1, 1) := by decide +kernel
theorem dX8_compares_40 : decode cX8_compares 40 = .ok (.iadd, 1) := by decide +kernel
theorem dX8_compares_41 : decode cX8_compares 41 = .ok (.putfield 128, 3) := by decide +kernel
theorem dX8_compares_44 : decode cX8_compares 44 = .ok (.aload_n 0, 1) := by decide +kernel
theorem dX8_compares_45 : decode cX8_compares 45 = .ok (.invokevirtual 172, 3) := by decide +kernel
theorem dX8_compares_48 : decode cX8_compares 48 = .ok (.aload_n 0, 1) := by decide +kernel
theorem dX8_compares_49 : decode cX8_compares 49 = .ok (.iload_n 1, 1) := by decide +kernel
theorem dX8_compares_50 : decode cX8_compares 50 = .ok (.iconst 0, 1) := by decide +kernel
theorem dX8_compares_51 : decode cX8_compares 51 = .ok (.invokevirtual 146, 3) := by decide +kernel
theorem dX8_compares_54 : decode cX8_compares 54 = .ok (.return_, 1) := by decide +kernel
theorem dX8_all_0 : decode cX8_all 0 = .ok (.aload_n 0, 1) := by decide +kernel
theorem dX8_all_1 : decode cX8_all 1 = .ok (.invokevirtual 175, 3) := by decide +kernel
theorem dX8_all_4 : decode cX8_all 4 = .ok (.aload_n 0, 1) := by decide +kernel
theorem dX8_all_5 : decode cX8_all 5 = .ok (.getfield 142, 3) := by decide +kernel
theorem dX8_all_8 : decode cX8_all 8 = .ok (.ifCond .ne 36, 3) := by decide +kernel
theorem dX8_all_11 : decode cX8_all 11 = .ok (.aload_n 0, 1) := by decide +kernel
theorem dX8_all_12 : decode cX8_all 12 = .ok (.invokevirtual 138, 3) := by decide +kernel
theorem dX8_all_15 : decode cX8_all 15 = .ok (.bipush 38, 2) := by decide +kernel
theorem dX8_all_17 : decode cX8_all 17 = .ok (.if_icmp .ne 27, 3) := by decide +kernel
theorem dX8_all_20 : decode cX8_all 20 = .ok (.aload_n 0, 1) := by decide +kernel
theorem dX8_all_21 : decode cX8_all 21 = .ok (.dup, 1) := by decide +kernel
theorem dX8_all_22 : decode cX8_all 22 = .ok (.getfield 128, 3) := by decide +kernel
end
section
theorem dX8_all_25 : decode cX8_all 25 = .ok (.iconst 1, 1) := by decide +kernel
theorem dX8_all_26 : decode cX8_all 26 = .ok (.iadd, 1) := by decide +kernel
theorem dX8_all_27 : decode cX8_all 27 = .ok (.putfield 128, 3) := by decide +kernel
theorem dX8_all_30 : decode cX8_all 30 = .ok (.aload_n 0, 1) := by decide +kernel
theorem dX8_all_31 : decode cX8_all 31 = .ok (.invokevirtual 175, 3) := by decide +kernel
theorem dX8_all_34 : decode cX8_all 34 = .ok (.aload_n 0, 1) := by decide +kernel
theorem dX8_all_35 : decode cX8_all 35 = .ok (.bipush 38, 2) := by decide +kernel
theorem dX8_all_37 : decode cX8_all 37 = .ok (.iconst 0, 1) := by decide +kernel
theorem dX8_all_38 : decode cX8_all 38 = .ok (.invokevirtual 146, 3) := by decide +kernel
theorem dX8_all_41 : decode cX8_all 41 = .ok (.goto (-37), 3) := by decide +kernel
theorem dX8_all_44 : decode cX8_all 44 = .ok (.return_, 1) := by decide +kernel
theorem dX8_any_0 : decode cX8_any 0 = .ok (.aload_n 0, 1) := by decide +kernel
theorem dX8_any_1 : decode cX8_any 1 = .ok (.invokevirtual 178, 3) := by decide +kernel
theorem dX8_any_4 : decode cX8_any 4 = .ok (.aload_n 0, 1) := by decide +kernel
theorem dX8_any_5 : decode cX8_any 5 = .ok (.getfield 142, 3) := by decide +kernel
theorem dX8_any_8 : decode cX8_any 8 = .ok (.ifCond .ne 36, 3) := by decide +kernel
theorem dX8_any_11 : decode cX8_any 11 = .ok (.aload_n 0, 1) := by decide +kernel
theorem dX8_any_12 : decode cX8_any 12 = .ok (.invokevirtual 138, 3) := by decide +kernel
theorem dX8_any_15 : decode cX8_any 15 = .ok (.bipush 124, 2) := by decide +kernel
theorem dX8_any_17 : decode cX8_any 17 = .ok (.if_icmp .ne 27, 3) := by decide +kernel
theorem dX8_any_20 : decode cX8_any 20 = .ok (.aload_n 0, 1) := by decide +kernel
theorem dX8_any_21 : decode cX8_any 21 = .ok (.dup, 1) := by decide +kernel
theorem dX8_any_22 : decode cX8_any 22 = .ok (.getfield 128, 3) := by decide +kernel
theorem dX8_any_25 : decode cX8_any 25 = .ok (.iconst 1, 1) := by decide +kernel
theorem dX8_any_26 : decode cX8_any 26 = .ok (.iadd, 1) := by decide +kernel
theorem dX8_any_27 : decode cX8_any 27 = .ok (.putfield 128, 3) := by decide +kernel
theorem dX8_any_30 : decode cX8_any 30 = .ok (.aload_n 0, 1) := by decide +kernel
theorem dX8_any_31 : decode cX8_any 31 = .ok (.invokevirtual 178, 3) := by decide +kernel
theorem dX8_any_34 : decode cX8_any 34 = .ok (.aload_n 0, 1) := by decide +kernel
theorem dX8_any_35 : decode cX8_any 35 = .ok (.bipush 124, 2) := by decide +kernel
theorem dX8_any_37 : decode cX8_any 37 = .ok (.iconst 0, 1) := by decide +kernel
theorem dX8_any_38 : decode cX8_any 38 = .ok (.invokevirtual 146, 3) := by decide +kernel
theorem dX8_any_41 : decode cX8_any 41 = .ok (.goto (-37), 3) := by decide +kernel
theorem dX8_any_44 : decode cX8_any 44 = .ok (.return_, 1) := by decide +kernel
theorem dX8_text_0 : decode cX8_text 0 = .ok (.iload_n 1, 1) := by decide +kernel
theorem dX8_text_1 : decode cX8_text 1 = .ok (.iconst 0, 1) := by decide +kernel
theorem dX8_text_2 : decode cX8_text 2 = .ok (.iconst 1, 1) := by decide +kernel
theorem dX8_text_3 : decode cX8_text 3 = .ok (.invokestatic 47, 3) := by decide +kernel
theorem dX8_text_6 : decode cX8_text 6 = .ok (.ifCond .ne 10, 3) := by decide +kernel
theorem dX8_text_9 : decode cX8_text 9 = .ok (.aload_n 0, 1) := by decide +kernel
theorem dX8_text_10 : decode cX8_text 10 = .ok (.ldc 72, 2) := by decide +kernel
theorem dX8_text_12 : decode cX8_text 12 = .ok (.invokevirtual 73, 3) := by decide +kernel
theorem dX8_text_15 : decode cX8_text 15 = .ok (.ireturn, 1) := by decide +kernel
theorem dX8_text_16 : decode cX8_text 16 = .ok (.aload_n 0, 1) := by decide +kernel
theorem dX8_text_17 : decode cX8_text 17 = .ok (.iload_n 1, 1) := by decide +kernel
theorem dX8_text_18 : decode cX8_text 18 = .ok (.putfield 135, 3) := by decide +kernel
theorem dX8_text_21 : decode cX8_text 21 = .ok (.aload_n 0, 1) := by decide +kernel
theorem dX8_text_22 : decode cX8_text 22 = .ok (.iconst 0, 1) := by decide +kernel
theorem dX8_text_23 : decode cX8_text 23 = .ok (.putfield 132, 3) := by decide +kernel
theorem dX8_text_26 : decode cX8_text 26 = .ok (.aload_n 0, 1) := by decide +kernel
theorem dX8_text_27 : decode cX8_text 27 = .ok (.iconst 0, 1) := by decide +kernel
theorem dX8_text_28 : decode cX8_text 28 = .ok (.putfield 128, 3) := by decide +kernel
theorem dX8_text_31 : decode cX8_text 31 = .ok (.aload_n 0, 1) := by decide +kernel
theorem dX8_text_32 : decode cX8_text 32 = .ok (.iconst 0, 1) := by decide +kernel
theorem dX8_text_33 : decode cX8_text 33 = .ok (.putfield 150, 3) := by decide +kernel
theorem dX8_text_36 : decode cX8_text 36 = .ok (.aload_n 0, 1) := by decide +kernel
theorem dX8_text_37 : decode cX8_text 37 = .ok (.iconst 0, 1) := by decide +kernel
theorem dX8_text_38 : decode cX8_text 38 = .ok (.putfield 142, 3) := by decide +kernel
theorem dX8_text_41 : decode cX8_text 41 = .ok (.aload_n 0, 1) := by decide +kernel
theorem dX8_text_42 : decode cX8_text 42 = .ok (.invokevirtual 156, 3) := by decide +kernel
theorem dX8_text_45 : decode cX8_text 45 = .ok (.aload_n 0, 1) := by decide +kernel
theorem dX8_text_46 : decode cX8_text 46 = .ok (.aload_n 0, 1) := by decide +kernel
theorem dX8_text_47 : decode cX8_text 47 = .ok (.getfield 142, 3) := by decide +kernel
theorem dX8_text_50 : decode cX8_text 50 = .ok (.ifCond .ne 16, 3) := by decide +kernel
theorem dX8_text_53 : decode cX8_text 53 = .ok (.aload_n 0, 1) := by decide +kernel
theorem dX8_text_54 : decode cX8_text 54 = .ok (.getfield 128, 3) := by decide +kernel
theorem dX8_text_57 : decode cX8_text 57 = .ok (.aload_n 0, 1) := by decide +kernel
theorem dX8_text_58 : decode cX8_text 58 = .ok (.getfield 9, 3) := by decide +kernel
theorem dX8_text_61 : decode cX8_text 61 = .ok (.iconst 4, 1) := by decide +kernel
theorem dX8_text_62 : decode cX8_text 62 = .ok (.iaload, 1) := by decide +kernel
theorem dX8_text_63 : decode cX8_text 63 = .ok (.if_icmp .ge 7, 3) := by decide +kernel
theorem dX8_text_66 : decode cX8_text 66 = .ok (.iconst 1, 1) := by decide +kernel
theorem dX8_text_67 : decode cX8_text 67 = .ok (.goto 4, 3) := by decide +kernel
theorem dX8_text_70 : decode cX8_text 70 = .ok (.iconst 0, 1) := by decide +kernel
theorem dX8_text_71 : decode cX8_text 71 = .ok (.putfield 142, 3) := by decide +kernel
theorem dX8_text_74 : decode cX8_text 74 = .ok (.aload_n 0, 1) := by decide +kernel
theorem dX8_text_75 : decode cX8_text 75 = .ok (.getfield 9, 3) := by decide +kernel
theorem dX8_text_78 : decode cX8_text 78 = .ok (.iconst 4, 1) := by decide +kernel
theorem dX8_text_79 : decode cX8_text 79 = .ok (.iconst 0, 1) := by decide +kernel
theorem dX8_text_80 : decode cX8_text 80 = .ok (.iastore, 1) := by decide +kernel
theorem dX8_text_81 : decode cX8_text 81 = .ok (.aload_n 0, 1) := by decide +kernel
theorem dX8_text_82 : decode cX8_text 82 = .ok (.getfield 142, 3) := by decide +kernel
theorem dX8_text_85 : decode cX8_text 85 = .ok (.ifCond .eq 11, 3) := by decide +kernel
theorem dX8_text_88 : decode cX8_text 88 = .ok (.bipush (-10), 2) := by decide +kernel
theorem dX8_text_90 : decode cX8_text 90 = .ok (.aload_n 0, 1) := by decide +kernel
theorem dX8_text_91 : decode cX8_text 91 = .ok (.getfield 128, 3) := by decide +kernel
theorem dX8_text_94 : decode cX8_text 94 = .ok (.isub, 1) := by decide +kernel
theorem dX8_text_95 : decode cX8_text 95 = .ok (.ireturn, 1) := by decide +kernel
theorem dX8_text_96 : decode cX8_text 96 = .ok (.sipush 169, 3) := by decide +kernel
theorem dX8_text_99 : decode cX8_text 99 = .ok (.bipush 101, 2) := by decide +kernel
theorem dX8_text_101 : decode cX8_text 101 = .ok (.iload_n 1, 1) := by decide +kernel
theorem dX8_text_102 : decode cX8_text 102 = .ok (.imul, 1) := by decide +kernel
theorem dX8_text_103 : decode cX8_text 103 = .ok (.iadd, 1) := by decide +kernel
theorem dX8_text_104 : decode cX8_text 104 = .ok (.istore_n 2, 1) := by decide +kernel
theorem dX8_text_105 : decode cX8_text 105 = .ok (.aload_n 0, 1) := by decide +kernel
theorem dX8_text_106 : decode cX8_text 106 = .ok (.getfield 9, 3) := by decide +kernel
theorem dX8_text_109 : decode cX8_text 109 = .ok (.iload_n 2, 1) := by decide +kernel
theorem dX8_text_110 : decode cX8_text 110 = .ok (.aload_n 0, 1) := by decide +kernel
theorem dX8_text_111 : decode cX8_text 111 = .ok (.getfield 132, 3) := by decide +kernel
theorem dX8_text_114 : decode cX8_text 114 = .ok (.iastore, 1) := by decide +kernel
theorem dX8_text_115 : decode cX8_text 115 = .ok (.iconst 0, 1) := by decide +kernel
theorem dX8_text_116 : decode cX8_text 116 = .ok (.istore_n 3, 1) := by decide +kernel
theorem dX8_text_117 : decode cX8_text 117 = .ok (.iload_n 3, 1) := by decide +kernel
theorem dX8_text_118 : decode cX8_text 118 = .ok (.aload_n 0, 1) := by decide +kernel
theorem dX8_text_119 : decode cX8_text 119 = .ok (.getfield 132, 3) := by decide +kernel
theorem dX8_text_122 : decode cX8_text 122 = .ok (.if_icmp .ge 42, 3) := by decide +kernel
theorem dX8_text_125 : decode cX8_text 125 = .ok (.aload_n 0, 1) := by decide +kernel
theorem dX8_text_126 : decode cX8_text 126 = .ok (.getfield 9, 3) := by decide +kernel
theorem dX8_text_129 : decode cX8_text 129 = .ok (.iload_n 2, 1) := by decide +kernel
theorem dX8_text_130 : decode cX8_text 130 = .ok (.iconst 1, 1) := by decide +kernel
theorem dX8_text_131 : decode cX8_text 131 = .ok (.iadd, 1) := by decide +kernel
theorem dX8_text_132 : decode cX8_text 132 = .ok (.iload_n 3, 1) := by decide +kernel
theorem dX8_text_133 : decode cX8_text 133 = .ok (.iadd, 1) := by decide +kernel
theorem dX8_text_134 : decode cX8_text 134 = .ok (.aload_n 0, 1) := by decide +kernel
theorem dX8_text_135 : decode cX8_text 135 = .ok (.getfield 22, 3) := by decide +kernel
theorem dX8_text_138 : decode cX8_text 138 = .ok (.iload_n 3, 1) := by decide +kernel
theorem dX8_text_139 : decode cX8_text 139 = .ok (.iaload, 1) := by decide +kernel
theorem dX8_text_140 : decode cX8_text 140 = .ok (.iastore, 1) := by decide +kernel
theorem dX8_text_141 : decode cX8_text 141 = .ok (.aload_n 0, 1) := by decide +kernel
theorem dX8_text_142 : decode cX8_text 142 = .ok (.getfield 9, 3) := by decide +kernel
theorem dX8_text_145 : decode cX8_text 145 = .ok (.iload_n 2, 1) := by decide +kernel
theorem dX8_text_146 : decode cX8_text 146 = .ok (.bipush 51, 2) := by decide +kernel
theorem dX8_text_148 : decode cX8_text 148 = .ok (.iadd, 1) := by decide +kernel
theorem dX8_text_149 : decode cX8_text 149 = .ok (.iload_n 3, 1) := by decide +kernel
theorem dX8_text_150 : decode cX8_text 150 = .ok (.iadd, 1) := by decide +kernel
theorem dX8_text_151 : decode cX8_text 151 = .ok (.aload_n 0, 1) := by decide +kernel
theorem dX8_text_152 : decode cX8_text 152 = .ok (.getfield 25, 3) := by decide +kernel
theorem dX8_text_155 : decode cX8_text 155 = .ok (.iload_n 3, 1) := by decide +kernel
theorem dX8_text_156 : decode cX8_text 156 = .ok (.iaload, 1) := by decide +kernel
theorem dX8_text_157 : decode cX8_text 157 = .ok (.iastore, 1) := by decide +kernel
theorem dX8_text_158 : decode cX8_text 158 = .ok (.iinc 3 1, 3) := by decide +kernel
theorem dX8_text_161 : decode cX8_text 161 = .ok (.goto (-44), 3) := by decide +kernel
theorem dX8_text_164 : decode cX8_text 164 = .ok (.iconst 1, 1) := by decide +kernel
theorem dX8_text_165 : decode cX8_text 165 = .ok (.ireturn, 1) := by decide +kernel
theorem dX8_twoOf_0 : decode cX8_twoOf 0 = .ok (.iload_n 0, 1) := by decide +kernel
theorem dX8_twoOf_1 : decode cX8_twoOf 1 = .ok (.tableswitch 202 37 62 #[143, 188, 202, 202, 202, 127, 119, 202, 123, 202, 131, 202, 202, 202, 202, 202, 202, 202, 202, 202, 202, 202, 202, 155, 166, 177], 119) := by decide +kernel
theorem dX8_twoOf_120 : decode cX8_twoOf 120 = .ok (.iload_n 1, 1) := by decide +kernel
theorem dX8_twoOf_121 : decode cX8_twoOf 121 = .ok (.iload_n 2, 1) := by decide +kernel
theorem dX8_twoOf_122 : decode cX8_twoOf 122 = .ok (.iadd, 1) := by decide +kernel
theorem dX8_twoOf_123 : decode cX8_twoOf 123 = .ok (.ireturn, 1) := by decide +kernel
theorem dX8_twoOf_124 : decode cX8_twoOf 124 = .ok (.iload_n 1, 1) := by decide +kernel
theorem dX8_twoOf_125 : decode cX8_twoOf 125 = .ok (.iload_n 2, 1) := by decide +kernel
theorem dX8_twoOf_126 : decode cX8_twoOf 126 = .ok (.isub, 1) := by decide +kernel
theorem dX8_twoOf_127 : decode cX8_twoOf 127 = .ok (.ireturn, 1) := by decide +kernel
theorem dX8_twoOf_128 : decode cX8_twoOf 128 = .ok (.iload_n 1, 1) := by decide +kernel
theorem dX8_twoOf_129 : decode cX8_twoOf 129 = .ok (.iload_n 2, 1) := by decide +kernel
theorem dX8_twoOf_130 : decode cX8_twoOf 130 = .ok (.imul, 1) := by decide +kernel
theorem dX8_twoOf_131 : decode cX8_twoOf 131 = .ok (.ireturn, 1) := by decide +kernel
theorem dX8_twoOf_132 : decode cX8_twoOf 132 = .ok (.iload_n 2, 1) := by decide +kernel
theorem dX8_twoOf_133 : decode cX8_twoOf 133 = .ok (.ifCond .ne 7, 3) := by decide +kernel
theorem dX8_twoOf_136 : decode cX8_twoOf 136 = .ok (.iconst 0, 1) := by decide +kernel
theorem dX8_twoOf_137 : decode cX8_twoOf 137 = .ok (.goto 6, 3) := by decide +kernel
theorem dX8_twoOf_140 : decode cX8_twoOf 140 = .ok (.iload_n 1, 1) := by decide +kernel
theorem dX8_twoOf_141 : decode cX8_twoOf 141 = .ok (.iload_n 2, 1) := by decide +kernel
theorem dX8_twoOf_142 : decode cX8_twoOf 142 = .ok (.idiv, 1) := by decide +kernel
theorem dX8_twoOf_143 : decode cX8_twoOf 143 = .ok (.ireturn, 1) := by decide +kernel
theorem dX8_twoOf_144 : decode cX8_twoOf 144 = .ok (.iload_n 2, 1) := by decide +kernel
theorem dX8_twoOf_145 : decode cX8_twoOf 145 = .ok (.ifCond .ne 7, 3) := by decide +kernel
theorem dX8_twoOf_148 : decode cX8_twoOf 148 = .ok (.iconst 0, 1) := by decide +kernel
theorem dX8_twoOf_149 : decode cX8_twoOf 149 = .ok (.goto 6, 3) := by decide +kernel
theorem dX8_twoOf_152 : decode cX8_twoOf 152 = .ok (.iload_n 1, 1) := by decide +kernel
theorem dX8_twoOf_153 : decode cX8_twoOf 153 = .ok (.iload_n 2, 1) := by decide +kernel
theorem dX8_twoOf_154 : decode cX8_twoOf 154 = .ok (.irem, 1) := by decide +kernel
theorem dX8_twoOf_155 : decode cX8_twoOf 155 = .ok (.ireturn, 1) := by decide +kernel
theorem dX8_twoOf_156 : decode cX8_twoOf 156 = .ok (.iload_n 1, 1) := by decide +kernel
theorem dX8_twoOf_157 : decode cX8_twoOf 157 = .ok (.iload_n 2, 1) := by decide +kernel
theorem dX8_twoOf_158 : decode cX8_twoOf 158 = .ok (.if_icmp .ge 7, 3) := by decide +kernel
theorem dX8_twoOf_161 : decode cX8_twoOf 161 = .ok (.iconst 1, 1) := by decide +kernel
theorem dX8_twoOf_162 : decode cX8_twoOf 162 = .ok (.goto 4, 3) := by decide +kernel
theorem dX8_twoOf_165 : decode cX8_twoOf 165 = .ok (.iconst 0, 1) := by decide +kernel
theorem dX8_twoOf_166 : decode cX8_twoOf 166 = .ok (.ireturn, 1) := by decide +kernel
theorem dX8_twoOf_167 : decode cX8_twoOf 167 = .ok (.iload_n 1, 1) := by decide +kernel
theorem dX8_twoOf_168 : decode cX8_twoOf 168 = .ok (.iload_n 2, 1) := by decide +kernel
theorem dX8_twoOf_169 : decode cX8_twoOf 169 = .ok (.if_icmp .ne 7, 3) := by decide +kernel
theorem dX8_twoOf_172 : decode cX8_twoOf 172 = .ok (.iconst 1, 1) := by decide +kernel
theorem dX8_twoOf_173 : decode cX8_twoOf 173 = .ok (.goto 4, 3) := by decide +kernel
theorem dX8_twoOf_176 : decode cX8_twoOf 176 = .ok (.iconst 0, 1) := by decide +kernel
theorem dX8_twoOf_177 : decode cX8_twoOf 177 = .ok (.ireturn, 1) := by decide +kernel
theorem dX8_twoOf_178 : decode cX8_twoOf 178 = .ok (.iload_n 1, 1) := by decide +kernel
theorem dX8_twoOf_179 : decode cX8_twoOf 179 = .ok (.iload_n 2, 1) := by decide +kernel
theorem dX8_twoOf_180 : decode cX8_twoOf 180 = .ok (.if_icmp .le 7, 3) := by decide +kernel
theorem dX8_twoOf_183 : decode cX8_twoOf 183 = .ok (.iconst 1, 1) := by decide +kernel
theorem dX8_twoOf_184 : decode cX8_twoOf 184 = .ok (.goto 4, 3) := by decide +kernel
theorem dX8_twoOf_187 : decode cX8_twoOf 187 = .ok (.iconst 0, 1) := by decide +kernel
theorem dX8_twoOf_188 : decode cX8_twoOf 188 = .ok (.ireturn, 1) := by decide +kernel
theorem dX8_twoOf_189 : decode cX8_twoOf 189 = .ok (.iload_n 1, 1) := by decide +kernel
theorem dX8_twoOf_190 : decode cX8_twoOf 190 = .ok (.ifCond .eq 11, 3) := by decide +kernel
theorem dX8_twoOf_193 : decode cX8_twoOf 193 = .ok (.iload_n 2, 1) := by decide +kernel
theorem dX8_twoOf_194 : decode cX8_twoOf 194 = .ok (.ifCond .eq 7, 3) := by decide +kernel
theorem dX8_twoOf_197 : decode cX8_twoOf 197 = .ok (.iconst 1, 1) := by decide +kernel
theorem dX8_twoOf_198 : decode cX8_twoOf 198 = .ok (.goto 4, 3) := by decide +kernel
theorem dX8_twoOf_201 : decode cX8_twoOf 201 = .ok (.iconst 0, 1) := by decide +kernel
theorem dX8_twoOf_202 : decode cX8_twoOf 202 = .ok (.ireturn, 1) := by decide +kernel
theorem dX8_twoOf_203 : decode cX8_twoOf 203 = .ok (.iload_n 1, 1) := by decide +kernel
theorem dX8_twoOf_204 : decode cX8_twoOf 204 = .ok (.ifCond .ne 7, 3) := by decide +kernel
theorem dX8_twoOf_207 : decode cX8_twoOf 207 = .ok (.iload_n 2, 1) := by decide +kernel
theorem dX8_twoOf_208 : decode cX8_twoOf 208 = .ok (.ifCond .eq 7, 3) := by decide +kernel
theorem dX8_twoOf_211 : decode cX8_twoOf 211 = .ok (.iconst 1, 1) := by decide +kernel
theorem dX8_twoOf_212 : decode cX8_twoOf 212 = .ok (.goto 4, 3) := by decide +kernel
theorem dX8_twoOf_215 : decode cX8_twoOf 215 = .ok (.iconst 0, 1) := by decide +kernel
theorem dX8_twoOf_216 : decode cX8_twoOf 216 = .ok (.ireturn, 1) := by decide +kernel
theorem dX8_works_0 : decode cX8_works 0 = .ok (.iconst 0, 1) := by decide +kernel
theorem dX8_works_1 : decode cX8_works 1 = .ok (.istore_n 2, 1) := by decide +kernel
theorem dX8_works_2 : decode cX8_works 2 = .ok (.iconst 0, 1) := by decide +kernel
theorem dX8_works_3 : decode cX8_works 3 = .ok (.istore_n 3, 1) := by decide +kernel
theorem dX8_works_4 : decode cX8_works 4 = .ok (.iload_n 3, 1) := by decide +kernel
theorem dX8_works_5 : decode cX8_works 5 = .ok (.aload_n 0, 1) := by decide +kernel
theorem dX8_works_6 : decode cX8_works 6 = .ok (.getfield 9, 3) := by decide +kernel
theorem dX8_works_9 : decode cX8_works 9 = .ok (.iload_n 1, 1) := by decide +kernel
theorem dX8_works_10 : decode cX8_works 10 = .ok (.iaload, 1) := by decide +kernel
theorem dX8_works_11 : decode cX8_works 11 = .ok (.if_icmp .ge 144, 3) := by decide +kernel
theorem dX8_works_14 : decode cX8_works 14 = .ok (.aload_n 0, 1) := by decide +kernel
theorem dX8_works_15 : decode cX8_works 15 = .ok (.getfield 9, 3) := by decide +kernel
theorem dX8_works_18 : decode cX8_works 18 = .ok (.iload_n 1, 1) := by decide +kernel
theorem dX8_works_19 : decode cX8_works 19 = .ok (.iconst 1, 1) := by decide +kernel
theorem dX8_works_20 : decode cX8_works 20 = .ok (.iadd, 1) := by decide +kernel
theorem dX8_works_21 : decode cX8_works 21 = .ok (.iload_n 3, 1) := by decide +kernel
theorem dX8_works_22 : decode cX8_works 22 = .ok (.iadd, 1) := by decide +kernel
theorem dX8_works_23 : decode cX8_works 23 = .ok (.iaload, 1) := by decide +kernel
theorem dX8_works_24 : decode cX8_works 24 = .ok (.istore 4, 2) := by decide +kernel
theorem dX8_works_26 : decode cX8_works 26 = .ok (.iload 4, 2) := by decide +kernel
theorem dX8_works_28 : decode cX8_works 28 = .ok (.iconst 1, 1) := by decide +kernel
theorem dX8_works_29 : decode cX8_works 29 = .ok (.if_icmp .eq 9, 3) := by decide +kernel
theorem dX8_works_32 : decode cX8_works 32 = .ok (.iload 4, 2) := by decide +kernel
theorem dX8_works_34 : decode cX8_works 34 = .ok (.iconst 2, 1) := by decide +kernel
theorem dX8_works_35 : decode cX8_works 35 = .ok (.if_icmp .ne 51, 3) := by decide +kernel
theorem dX8_works_38 : decode cX8_works 38 = .ok (.aload_n 0, 1) := by decide +kernel
theorem dX8_works_39 : decode cX8_works 39 = .ok (.getfield 31, 3) := by decide +kernel
theorem dX8_works_42 : decode cX8_works 42 = .ok (.iload_n 2, 1) := by decide +kernel
theorem dX8_works_43 : decode cX8_works 43 = .ok (.iload 4, 2) := by decide +kernel
theorem dX8_works_45 : decode cX8_works 45 = .ok (.iconst 1, 1) := by decide +kernel
theorem dX8_works_46 : decode cX8_works 46 = .ok (.if_icmp .ne 17, 3) := by decide +kernel
theorem dX8_works_49 : decode cX8_works 49 = .ok (.aload_n 0, 1) := by decide +kernel
theorem dX8_works_50 : decode cX8_works 50 = .ok (.getfield 9, 3) := by decide +kernel
theorem dX8_works_53 : decode cX8_works 53 = .ok (.iload_n 1, 1) := by decide +kernel
theorem dX8_works_54 : decode cX8_works 54 = .ok (.bipush 51, 2) := by decide +kernel
theorem dX8_works_56 : decode cX8_works 56 = .ok (.iadd, 1) := by decide +kernel
theorem dX8_works_57 : decode cX8_works 57 = .ok (.iload_n 3, 1) := by decide +kernel
theorem dX8_works_58 : decode cX8_works 58 = .ok (.iadd, 1) := by decide +kernel
theorem dX8_works_59 : decode cX8_works 59 = .ok (.iaload, 1) := by decide +kernel
theorem dX8_works_60 : decode cX8_works 60 = .ok (.goto 19, 3) := by decide +kernel
theorem dX8_works_63 : decode cX8_works 63 = .ok (.aload_n 0, 1) := by decide +kernel
theorem dX8_works_64 : decode cX8_works 64 = .ok (.getfield 28, 3) := by decide +kernel
theorem dX8_works_67 : decode cX8_works 67 = .ok (.aload_n 0, 1) := by decide +kernel
theorem dX8_works_68 : decode cX8_works 68 = .ok (.getfield 9, 3) := by decide +kernel
theorem dX8_works_71 : decode cX8_works 71 = .ok (.iload_n 1, 1) := by decide +kernel
theorem dX8_works_72 : decode cX8_works 72 = .ok (.bipush 51, 2) := by decide +kernel
theorem dX8_works_74 : decode cX8_works 74 = .ok (.iadd, 1) := by decide +kernel
theorem dX8_works_75 : decode cX8_works 75 = .ok (.iload_n 3, 1) := by decide +kernel
theorem dX8_works_76 : decode cX8_works 76 = .ok (.iadd, 1) := by decide +kernel
theorem dX8_works_77 : decode cX8_works 77 = .ok (.iaload, 1) := by decide +kernel
theorem dX8_works_78 : decode cX8_works 78 = .ok (.iaload, 1) := by decide +kernel
theorem dX8_works_79 : decode cX8_works 79 = .ok (.iastore, 1) := by decide +kernel
theorem dX8_works_80 : decode cX8_works 80 = .ok (.iinc 2 1, 3) := by decide +kernel
theorem dX8_works_83 : decode cX8_works 83 = .ok (.goto 66, 3) := by decide +kernel
theorem dX8_works_86 : decode cX8_works 86 = .ok (.iload 4, 2) := by decide +kernel
theorem dX8_works_88 : decode cX8_works 88 = .ok (.iconst 3, 1) := by decide +kernel
theorem dX8_works_89 : decode cX8_works 89 = .ok (.if_icmp .ne 30, 3) := by decide +kernel
theorem dX8_works_92 : decode cX8_works 92 = .ok (.aload_n 0, 1) := by decide +kernel
theorem dX8_works_93 : decode cX8_works 93 = .ok (.getfield 31, 3) := by decide +kernel
theorem dX8_works_96 : decode cX8_works 96 = .ok (.iload_n 2, 1) := by decide +kernel
theorem dX8_works_97 : decode cX8_works 97 = .ok (.iconst 1, 1) := by decide +kernel
theorem dX8_works_98 : decode cX8_works 98 = .ok (.isub, 1) := by decide +kernel
theorem dX8_works_99 : decode cX8_works 99 = .ok (.aload_n 0, 1) := by decide +kernel
theorem dX8_works_100 : decode cX8_works 100 = .ok (.getfield 31, 3) := by decide +kernel
theorem dX8_works_103 : decode cX8_works 103 = .ok (.iload_n 2, 1) := by decide +kernel
theorem dX8_works_104 : decode cX8_works 104 = .ok (.iconst 1, 1) := by decide +kernel
theorem dX8_works_105 : decode cX8_works 105 = .ok (.isub, 1) := by decide +kernel
theorem dX8_works_106 : decode cX8_works 106 = .ok (.iaload, 1) := by decide +kernel
theorem dX8_works_107 : decode cX8_works 107 = .ok (.ifCond .ne 7, 3) := by decide +kernel
theorem dX8_works_110 : decode cX8_works 110 = .ok (.iconst 1, 1) := by decide +kernel
theorem dX8_works_111 : decode cX8_works 111 = .ok (.goto 4, 3) := by decide +kernel
theorem dX8_works_114 : decode cX8_works 114 = .ok (.iconst 0, 1) := by decide +kernel
theorem dX8_works_115 : decode cX8_works 115 = .ok (.iastore, 1) := by decide +kernel
theorem dX8_works_116 : decode cX8_works 116 = .ok (.goto 33, 3) := by decide +kernel
theorem dX8_works_119 : decode cX8_works 119 = .ok (.iinc 2 (-1), 3) := by decide +kernel
theorem dX8_works_122 : decode cX8_works 122 = .ok (.aload_n 0, 1) := by decide +kernel
theorem dX8_works_123 : decode cX8_works 123 = .ok (.getfield 31, 3) := by decide +kernel
theorem dX8_works_126 : decode cX8_works 126 = .ok (.iload_n 2, 1) := by decide +kernel
theorem dX8_works_127 : decode cX8_works 127 = .ok (.iconst 1, 1) := by decide +kernel
theorem dX8_works_128 : decode cX8_works 128 = .ok (.isub, 1) := by decide +kernel
theorem dX8_works_129 : decode cX8_works 129 = .ok (.iload 4, 2) := by decide +kernel
theorem dX8_works_131 : decode cX8_works 131 = .ok (.aload_n 0, 1) := by decide +kernel
theorem dX8_works_132 : decode cX8_works 132 = .ok (.getfield 31, 3) := by decide +kernel
theorem dX8_works_135 : decode cX8_works 135 = .ok (.iload_n 2, 1) := by decide +kernel
theorem dX8_works_136 : decode cX8_works 136 = .ok (.iconst 1, 1) := by decide +kernel
theorem dX8_works_137 : decode cX8_works 137 = .ok (.isub, 1) := by decide +kernel
theorem dX8_works_138 : decode cX8_works 138 = .ok (.iaload, 1) := by decide +kernel
theorem dX8_works_139 : decode cX8_works 139 = .ok (.aload_n 0, 1) := by decide +kernel
theorem dX8_works_140 : decode cX8_works 140 = .ok (.getfield 31, 3) := by decide +kernel
theorem dX8_works_143 : decode cX8_works 143 = .ok (.iload_n 2, 1) := by decide +kernel
theorem dX8_works_144 : decode cX8_works 144 = .ok (.iaload, 1) := by decide +kernel
theorem dX8_works_145 : decode cX8_works 145 = .ok (.invokestatic 181, 3) := by decide +kernel
theorem dX8_works_148 : decode cX8_works 148 = .ok (.iastore, 1) := by decide +kernel
theorem dX8_works_149 : decode cX8_works 149 = .ok (.iinc 3 1, 3) := by decide +kernel
theorem dX8_works_152 : decode cX8_works 152 = .ok (.goto (-148), 3) := by decide +kernel
theorem dX8_works_155 : decode cX8_works 155 = .ok (.aload_n 0, 1) := by decide +kernel
theorem dX8_works_156 : decode cX8_works 156 = .ok (.getfield 31, 3) := by decide +kernel
theorem dX8_works_159 : decode cX8_works 159 = .ok (.iconst 0, 1) := by decide +kernel
theorem dX8_works_160 : decode cX8_works 160 = .ok (.iaload, 1) := by decide +kernel
theorem dX8_works_161 : decode cX8_works 161 = .ok (.ireturn, 1) := by decide +kernel
theorem dX8_gives_0 : decode cX8_gives 0 = .ok (.sipush 169, 3) := by decide +kernel
theorem dX8_gives_3 : decode cX8_gives 3 = .ok (.bipush 101, 2) := by decide +kernel
theorem dX8_gives_5 : decode cX8_gives 5 = .ok (.iload_n 1, 1) := by decide +kernel
theorem dX8_gives_6 : decode cX8_gives 6 = .ok (.imul, 1) := by decide +kernel
theorem dX8_gives_7 : decode cX8_gives 7 = .ok (.iadd, 1) := by decide +kernel
theorem dX8_gives_8 : decode cX8_gives 8 = .ok (.istore 5, 2) := by decide +kernel
theorem dX8_gives_10 : decode cX8_gives 10 = .ok (.aload_n 0, 1) := by decide +kernel
theorem dX8_gives_11 : decode cX8_gives 11 = .ok (.getfield 28, 3) := by decide +kernel
theorem dX8_gives_14 : decode cX8_gives 14 = .ok (.iconst 0, 1) := by decide +kernel
theorem dX8_gives_15 : decode cX8_gives 15 = .ok (.iload_n 2, 1) := by decide +kernel
theorem dX8_gives_16 : decode cX8_gives 16 = .ok (.iastore, 1) := by decide +kernel
theorem dX8_gives_17 : decode cX8_gives 17 = .ok (.aload_n 0, 1) := by decide +kernel
theorem dX8_gives_18 : decode cX8_gives 18 = .ok (.getfield 28, 3) := by decide +kernel
theorem dX8_gives_21 : decode cX8_gives 21 = .ok (.iconst 1, 1) := by decide +kernel
theorem dX8_gives_22 : decode cX8_gives 22 = .ok (.iload_n 3, 1) := by decide +kernel
theorem dX8_gives_23 : decode cX8_gives 23 = .ok (.iastore, 1) := by decide +kernel
theorem dX8_gives_24 : decode cX8_gives 24 = .ok (.aload_n 0, 1) := by decide +kernel
theorem dX8_gives_25 : decode cX8_gives 25 = .ok (.getfield 28, 3) := by decide +kernel
theorem dX8_gives_28 : decode cX8_gives 28 = .ok (.iconst 2, 1) := by decide +kernel
theorem dX8_gives_29 : decode cX8_gives 29 = .ok (.iload 4, 2) := by decide +kernel
theorem dX8_gives_31 : decode cX8_gives 31 = .ok (.iastore, 1) := by decide +kernel
theorem dX8_gives_32 : decode cX8_gives 32 = .ok (.aload_n 0, 1) := by decide +kernel
theorem dX8_gives_33 : decode cX8_gives 33 = .ok (.getfield 9, 3) := by decide +kernel
theorem dX8_gives_36 : decode cX8_gives 36 = .ok (.iload 5, 2) := by decide +kernel
theorem dX8_gives_38 : decode cX8_gives 38 = .ok (.iaload, 1) := by decide +kernel
theorem dX8_gives_39 : decode cX8_gives 39 = .ok (.ifCond .le 12, 3) := by decide +kernel
theorem dX8_gives_42 : decode cX8_gives 42 = .ok (.aload_n 0, 1) := by decide +kernel
theorem dX8_gives_43 : decode cX8_gives 43 = .ok (.iload 5, 2) := by decide +kernel
theorem dX8_gives_45 : decode cX8_gives 45 = .ok (.invokevirtual 184, 3) := by decide +kernel
theorem dX8_gives_48 : decode cX8_gives 48 = .ok (.goto 18, 3) := by decide +kernel
theorem dX8_gives_51 : decode cX8_gives 51 = .ok (.iload_n 1, 1) := by decide +kernel
theorem dX8_gives_52 : decode cX8_gives 52 = .ok (.ifCond .ne 9, 3) := by decide +kernel
theorem dX8_gives_55 : decode cX8_gives 55 = .ok (.iconst 3, 1) := by decide +kernel
theorem dX8_gives_56 : decode cX8_gives 56 = .ok (.iload_n 2, 1) := by decide +kernel
theorem dX8_gives_57 : decode cX8_gives 57 = .ok (.iadd, 1) := by decide +kernel
theorem dX8_gives_58 : decode cX8_gives 58 = .ok (.goto 8, 3) := by decide +kernel
theorem dX8_gives_61 : decode cX8_gives 61 = .ok (.iconst 2, 1) := by decide +kernel
theorem dX8_gives_62 : decode cX8_gives 62 = .ok (.iload_n 2, 1) := by decide +kernel
theorem dX8_gives_63 : decode cX8_gives 63 = .ok (.imul, 1) := by decide +kernel
theorem dX8_gives_64 : decode cX8_gives 64 = .ok (.iload_n 3, 1) := by decide +kernel
theorem dX8_gives_65 : decode cX8_gives 65 = .ok (.iadd, 1) := by decide +kernel
theorem dX8_gives_66 : decode cX8_gives 66 = .ok (.istore 6, 2) := by decide +kernel
theorem dX8_gives_68 : decode cX8_gives 68 = .ok (.iload_n 1, 1) := by decide +kernel
theorem dX8_gives_69 : decode cX8_gives 69 = .ok (.ifCond .ne 14, 3) := by decide +kernel
theorem dX8_gives_72 : decode cX8_gives 72 = .ok (.iload 6, 2) := by decide +kernel
theorem dX8_gives_74 : decode cX8_gives 74 = .ok (.iconst 1, 1) := by decide +kernel
theorem dX8_gives_75 : decode cX8_gives 75 = .ok (.bipush 99, 2) := by decide +kernel
theorem dX8_gives_77 : decode cX8_gives 77 = .ok (.invokestatic 187, 3) := by decide +kernel
theorem dX8_gives_80 : decode cX8_gives 80 = .ok (.goto 12, 3) := by decide +kernel
theorem dX8_gives_83 : decode cX8_gives 83 = .ok (.iload 6, 2) := by decide +kernel
theorem dX8_gives_85 : decode cX8_gives 85 = .ok (.iconst 0, 1) := by decide +kernel
theorem dX8_gives_86 : decode cX8_gives 86 = .ok (.sipush 999, 3) := by decide +kernel
theorem dX8_gives_89 : decode cX8_gives 89 = .ok (.invokestatic 187, 3) := by decide +kernel
theorem dX8_gives_92 : decode cX8_gives 92 = .ok (.ireturn, 1) := by decide +kernel
theorem dX8_law_0 : decode cX8_law 0 = .ok (.iload_n 1, 1) := by decide +kernel
theorem dX8_law_1 : decode cX8_law 1 = .ok (.iconst 0, 1) := by decide +kernel
theorem dX8_law_2 : decode cX8_law 2 = .ok (.iconst 1, 1) := by decide +kernel
theorem dX8_law_3 : decode cX8_law 3 = .ok (.invokestatic 47, 3) := by decide +kernel
theorem dX8_law_6 : decode cX8_law 6 = .ok (.ifCond .eq 15, 3) := by decide +kernel
theorem dX8_law_9 : decode cX8_law 9 = .ok (.aload_n 0, 1) := by decide +kernel
theorem dX8_law_10 : decode cX8_law 10 = .ok (.iload_n 1, 1) := by decide +kernel
theorem dX8_law_11 : decode cX8_law 11 = .ok (.iload_n 2, 1) := by decide +kernel
theorem dX8_law_12 : decode cX8_law 12 = .ok (.iload_n 3, 1) := by decide +kernel
theorem dX8_law_13 : decode cX8_law 13 = .ok (.iload 4, 2) := by decide +kernel
theorem dX8_law_15 : decode cX8_law 15 = .ok (.invokevirtual 102, 3) := by decide +kernel
theorem dX8_law_18 : decode cX8_law 18 = .ok (.goto 9, 3) := by decide +kernel
theorem dX8_law_21 : decode cX8_law 21 = .ok (.aload_n 0, 1) := by decide +kernel
theorem dX8_law_22 : decode cX8_law 22 = .ok (.ldc 72, 2) := by decide +kernel
theorem dX8_law_24 : decode cX8_law 24 = .ok (.invokevirtual 73, 3) := by decide +kernel
theorem dX8_law_27 : decode cX8_law 27 = .ok (.ireturn, 1) := by decide +kernel
theorem dX8_day_0 : decode cX8_day 0 = .ok (.iconst 0, 1) := by decide +kernel
theorem dX8_day_1 : decode cX8_day 1 = .ok (.istore_n 1, 1) := by decide +kernel
theorem dX8_day_2 : decode cX8_day 2 = .ok (.iload_n 1, 1) := by decide +kernel
theorem dX8_day_3 : decode cX8_day 3 = .ok (.bipush 20, 2) := by decide +kernel
theorem dX8_day_5 : decode cX8_day 5 = .ok (.if_icmp .ge 34, 3) := by decide +kernel
theorem dX8_day_8 : decode cX8_day 8 = .ok (.aload_n 0, 1) := by decide +kernel
theorem dX8_day_9 : decode cX8_day 9 = .ok (.getfield 9, 3) := by decide +kernel
theorem dX8_day_12 : decode cX8_day 12 = .ok (.bipush 31, 2) := by decide +kernel
theorem dX8_day_14 : decode cX8_day 14 = .ok (.iload_n 1, 1) := by decide +kernel
theorem dX8_day_15 : decode cX8_day 15 = .ok (.iadd, 1) := by decide +kernel
theorem dX8_day_16 : decode cX8_day 16 = .ok (.dup2, 1) := by decide +kernel
theorem dX8_day_17 : decode cX8_day 17 = .ok (.iaload, 1) := by decide +kernel
theorem dX8_day_18 : decode cX8_day 18 = .ok (.aload_n 0, 1) := by decide +kernel
theorem dX8_day_19 : decode cX8_day 19 = .ok (.iload_n 1, 1) := by decide +kernel
theorem dX8_day_20 : decode cX8_day 20 = .ok (.invokevirtual 51, 3) := by decide +kernel
theorem dX8_day_23 : decode cX8_day 23 = .ok (.ifCond .eq 7, 3) := by decide +kernel
theorem dX8_day_26 : decode cX8_day 26 = .ok (.iconst 0, 1) := by decide +kernel
theorem dX8_day_27 : decode cX8_day 27 = .ok (.goto 4, 3) := by decide +kernel
theorem dX8_day_30 : decode cX8_day 30 = .ok (.iconst 1, 1) := by decide +kernel
theorem dX8_day_31 : decode cX8_day 31 = .ok (.isub, 1) := by decide +kernel
theorem dX8_day_32 : decode cX8_day 32 = .ok (.iastore, 1) := by decide +kernel
theorem dX8_day_33 : decode cX8_day 33 = .ok (.iinc 1 1, 3) := by decide +kernel
theorem dX8_day_36 : decode cX8_day 36 = .ok (.goto (-34), 3) := by decide +kernel
theorem dX8_day_39 : decode cX8_day 39 = .ok (.iconst 0, 1) := by decide +kernel
theorem dX8_day_40 : decode cX8_day 40 = .ok (.istore_n 1, 1) := by decide +kernel
theorem dX8_day_41 : decode cX8_day 41 = .ok (.iload_n 1, 1) := by decide +kernel
theorem dX8_day_42 : decode cX8_day 42 = .ok (.aload_n 0, 1) := by decide +kernel
theorem dX8_day_43 : decode cX8_day 43 = .ok (.getfield 9, 3) := by decide +kernel
theorem dX8_day_46 : decode cX8_day 46 = .ok (.iconst 3, 1) := by decide +kernel
theorem dX8_day_47 : decode cX8_day 47 = .ok (.iaload, 1) := by decide +kernel
theorem dX8_day_48 : decode cX8_day 48 = .ok (.if_icmp .ge 38, 3) := by decide +kernel
theorem dX8_day_51 : decode cX8_day 51 = .ok (.aload_n 0, 1) := by decide +kernel
theorem dX8_day_52 : decode cX8_day 52 = .ok (.iload_n 1, 1) := by decide +kernel
theorem dX8_day_53 : decode cX8_day 53 = .ok (.iconst 5, 1) := by decide +kernel
theorem dX8_day_54 : decode cX8_day 54 = .ok (.invokevirtual 89, 3) := by decide +kernel
theorem dX8_day_57 : decode cX8_day 57 = .ok (.ifCond .ne 23, 3) := by decide +kernel
theorem dX8_day_60 : decode cX8_day 60 = .ok (.aload_n 0, 1) := by decide +kernel
theorem dX8_day_61 : decode cX8_day 61 = .ok (.iload_n 1, 1) := by decide +kernel
theorem dX8_day_62 : decode cX8_day 62 = .ok (.iconst 4, 1) := by decide +kernel
theorem dX8_day_63 : decode cX8_day 63 = .ok (.aload_n 0, 1) := by decide +kernel
theorem dX8_day_64 : decode cX8_day 64 = .ok (.iload_n 1, 1) := by decide +kernel
theorem dX8_day_65 : decode cX8_day 65 = .ok (.iconst 4, 1) := by decide +kernel
theorem dX8_day_66 : decode cX8_day 66 = .ok (.invokevirtual 89, 3) := by decide +kernel
theorem dX8_day_69 : decode cX8_day 69 = .ok (.iconst 1, 1) := by decide +kernel
theorem dX8_day_70 : decode cX8_day 70 = .ok (.iadd, 1) := by decide +kernel
theorem dX8_day_71 : decode cX8_day 71 = .ok (.iconst 0, 1) := by decide +kernel
theorem dX8_day_72 : decode cX8_day 72 = .ok (.bipush 99, 2) := by decide +kernel
theorem dX8_day_74 : decode cX8_day 74 = .ok (.invokestatic 187, 3) := by decide +kernel
theorem dX8_day_77 : decode cX8_day 77 = .ok (.invokevirtual 111, 3) := by decide +kernel
theorem dX8_day_80 : decode cX8_day 80 = .ok (.iinc 1 1, 3) := by decide +kernel
theorem dX8_day_83 : decode cX8_day 83 = .ok (.goto (-42), 3) := by decide +kernel
theorem dX8_day_86 : decode cX8_day 86 = .ok (.aload_n 0, 1) := by decide +kernel
theorem dX8_day_87 : decode cX8_day 87 = .ok (.getfield 9, 3) := by decide +kernel
theorem dX8_day_90 : decode cX8_day 90 = .ok (.iconst 0, 1) := by decide +kernel
theorem dX8_day_91 : decode cX8_day 91 = .ok (.dup2, 1) := by decide +kernel
theorem dX8_day_92 : decode cX8_day 92 = .ok (.iaload, 1) := by decide +kernel
theorem dX8_day_93 : decode cX8_day 93 = .ok (.iconst 1, 1) := by decide +kernel
theorem dX8_day_94 : decode cX8_day 94 = .ok (.iadd, 1) := by decide +kernel
theorem dX8_day_95 : decode cX8_day 95 = .ok (.iastore, 1) := by decide +kernel
theorem dX8_day_96 : decode cX8_day 96 = .ok (.return_, 1) := by decide +kernel
theorem dX8_goesOn_0 : decode cX8_goesOn 0 = .ok (.iconst 0, 1) := by decide +kernel
theorem dX8_goesOn_1 : decode cX8_goesOn 1 = .ok (.istore_n 2, 1) := by decide +kernel
theorem dX8_goesOn_2 : decode cX8_goesOn 2 = .ok (.iload_n 2, 1) := by decide +kernel
theorem dX8_goesOn_3 : decode cX8_goesOn 3 = .ok (.iload_n 1, 1) := by decide +kernel
theorem dX8_goesOn_4 : decode cX8_goesOn 4 = .ok (.if_icmp .ge 13, 3) := by decide +kernel
theorem dX8_goesOn_7 : decode cX8_goesOn 7 = .ok (.aload_n 0, 1) := by decide +kernel
theorem dX8_goesOn_8 : decode cX8_goesOn 8 = .ok (.invokevirtual 190, 3) := by decide +kernel
theorem dX8_goesOn_11 : decode cX8_goesOn 11 = .ok (.iinc 2 1, 3) := by decide +kernel
theorem dX8_goesOn_14 : decode cX8_goesOn 14 = .ok (.goto (-12), 3) := by decide +kernel
theorem dX8_goesOn_17 : decode cX8_goesOn 17 = .ok (.return_, 1) := by decide +kernel
theorem dX8_missing_0 : decode cX8_missing 0 = .ok (.iconst 0, 1) := by decide +kernel
theorem dX8_missing_1 : decode cX8_missing 1 = .ok (.istore_n 1, 1) := by decide +kernel
theorem dX8_missing_2 : decode cX8_missing 2 = .ok (.iconst 0, 1) := by decide +kernel
theorem dX8_missing_3 : decode cX8_missing 3 = .ok (.istore_n 2, 1) := by decide +kernel
theorem dX8_missing_4 : decode cX8_missing 4 = .ok (.iload_n 2, 1) := by decide +kernel
theorem dX8_missing_5 : decode cX8_missing 5 = .ok (.bipush 20, 2) := by decide +kernel
theorem dX8_missing_7 : decode cX8_missing 7 = .ok (.if_icmp .ge 25, 3) := by decide +kernel
theorem dX8_missing_10 : decode cX8_missing 10 = .ok (.iload_n 1, 1) := by decide +kernel
theorem dX8_missing_11 : decode cX8_missing 11 = .ok (.aload_n 0, 1) := by decide +kernel
theorem dX8_missing_12 : decode cX8_missing 12 = .ok (.iload_n 2, 1) := by decide +kernel
theorem dX8_missing_13 : decode cX8_missing 13 = .ok (.invokevirtual 51, 3) := by decide +kernel
theorem dX8_missing_16 : decode cX8_missing 16 = .ok (.ifCond .eq 7, 3) := by decide +kernel
theorem dX8_missing_19 : decode cX8_missing 19 = .ok (.iconst 0, 1) := by decide +kernel
theorem dX8_missing_20 : decode cX8_missing 20 = .ok (.goto 4, 3) := by decide +kernel
theorem dX8_missing_23 : decode cX8_missing 23 = .ok (.iconst 1, 1) := by decide +kernel
theorem dX8_missing_24 : decode cX8_missing 24 = .ok (.iadd, 1) := by decide +kernel
theorem dX8_missing_25 : decode cX8_missing 25 = .ok (.istore_n 1, 1) := by decide +kernel
theorem dX8_missing_26 : decode cX8_missing 26 = .ok (.iinc 2 1, 3) := by decide +kernel
theorem dX8_missing_29 : decode cX8_missing 29 = .ok (.goto (-25), 3) := by decide +kernel
theorem dX8_missing_32 : decode cX8_missing 32 = .ok (.iload_n 1, 1) := by decide +kernel
theorem dX8_missing_33 : decode cX8_missing 33 = .ok (.ireturn, 1) := by decide +kernel
theorem dX8_days_0 : decode cX8_days 0 = .ok (.iload_n 1, 1) := by decide +kernel
theorem dX8_days_1 : decode cX8_days 1 = .ok (.iconst 1, 1) := by decide +kernel
theorem dX8_days_2 : decode cX8_days 2 = .ok (.bipush 100, 2) := by decide +kernel
theorem dX8_days_4 : decode cX8_days 4 = .ok (.invokestatic 47, 3) := by decide +kernel
theorem dX8_days_7 : decode cX8_days 7 = .ok (.ifCond .ne 10, 3) := by decide +kernel
theorem dX8_days_10 : decode cX8_days 10 = .ok (.aload_n 0, 1) := by decide +kernel
theorem dX8_days_11 : decode cX8_days 11 = .ok (.ldc 72, 2) := by decide +kernel
theorem dX8_days_13 : decode cX8_days 13 = .ok (.invokevirtual 73, 3) := by decide +kernel
theorem dX8_days_16 : decode cX8_days 16 = .ok (.ireturn, 1) := by decide +kernel
theorem dX8_days_17 : decode cX8_days 17 = .ok (.aload_n 0, 1) := by decide +kernel
theorem dX8_days_18 : decode cX8_days 18 = .ok (.getfield 9, 3) := by decide +kernel
theorem dX8_days_21 : decode cX8_days 21 = .ok (.iconst 0, 1) := by decide +kernel
theorem dX8_days_22 : decode cX8_days 22 = .ok (.iaload, 1) := by decide +kernel
theorem dX8_days_23 : decode cX8_days 23 = .ok (.iload_n 1, 1) := by decide +kernel
theorem dX8_days_24 : decode cX8_days 24 = .ok (.iadd, 1) := by decide +kernel
theorem dX8_days_25 : decode cX8_days 25 = .ok (.sipush 9999, 3) := by decide +kernel
theorem dX8_days_28 : decode cX8_days 28 = .ok (.if_icmp .le 10, 3) := by decide +kernel
theorem dX8_days_31 : decode cX8_days 31 = .ok (.aload_n 0, 1) := by decide +kernel
theorem dX8_days_32 : decode cX8_days 32 = .ok (.ldc 110, 2) := by decide +kernel
theorem dX8_days_34 : decode cX8_days 34 = .ok (.invokevirtual 73, 3) := by decide +kernel
theorem dX8_days_37 : decode cX8_days 37 = .ok (.ireturn, 1) := by decide +kernel
theorem dX8_days_38 : decode cX8_days 38 = .ok (.aload_n 0, 1) := by decide +kernel
theorem dX8_days_39 : decode cX8_days 39 = .ok (.iload_n 1, 1) := by decide +kernel
theorem dX8_days_40 : decode cX8_days 40 = .ok (.invokevirtual 193, 3) := by decide +kernel
theorem dX8_days_43 : decode cX8_days 43 = .ok (.aload_n 0, 1) := by decide +kernel
theorem dX8_days_44 : decode cX8_days 44 = .ok (.invokevirtual 196, 3) := by decide +kernel
theorem dX8_days_47 : decode cX8_days 47 = .ok (.ireturn, 1) := by decide +kernel
theorem dX8_draw_0 : decode cX8_draw 0 = .ok (.aload_n 0, 1) := by decide +kernel
theorem dX8_draw_1 : decode cX8_draw 1 = .ok (.getfield 9, 3) := by decide +kernel
theorem dX8_draw_4 : decode cX8_draw 4 = .ok (.iconst 1, 1) := by decide +kernel
theorem dX8_draw_5 : decode cX8_draw 5 = .ok (.aload_n 0, 1) := by decide +kernel
theorem dX8_draw_6 : decode cX8_draw 6 = .ok (.getfield 9, 3) := by decide +kernel
theorem dX8_draw_9 : decode cX8_draw 9 = .ok (.iconst 1, 1) := by decide +kernel
theorem dX8_draw_10 : decode cX8_draw 10 = .ok (.iaload, 1) := by decide +kernel
theorem dX8_draw_11 : decode cX8_draw 11 = .ok (.ldc 199, 2) := by decide +kernel
theorem dX8_draw_13 : decode cX8_draw 13 = .ok (.imul, 1) := by decide +kernel
theorem dX8_draw_14 : decode cX8_draw 14 = .ok (.sipush 12345, 3) := by decide +kernel
theorem dX8_draw_17 : decode cX8_draw 17 = .ok (.iadd, 1) := by decide +kernel
theorem dX8_draw_18 : decode cX8_draw 18 = .ok (.iastore, 1) := by decide +kernel
theorem dX8_draw_19 : decode cX8_draw 19 = .ok (.aload_n 0, 1) := by decide +kernel
theorem dX8_draw_20 : decode cX8_draw 20 = .ok (.getfield 9, 3) := by decide +kernel
theorem dX8_draw_23 : decode cX8_draw 23 = .ok (.iconst 1, 1) := by decide +kernel
theorem dX8_draw_24 : decode cX8_draw 24 = .ok (.iaload, 1) := by decide +kernel
theorem dX8_draw_25 : decode cX8_draw 25 = .ok (.bipush 8, 2) := by decide +kernel
theorem dX8_draw_27 : decode cX8_draw 27 = .ok (.iushr, 1) := by decide +kernel
theorem dX8_draw_28 : decode cX8_draw 28 = .ok (.ireturn, 1) := by decide +kernel
theorem dX8_loose_0 : decode cX8_loose 0 = .ok (.iload_n 1, 1) := by decide +kernel
theorem dX8_loose_1 : decode cX8_loose 1 = .ok (.iconst 1, 1) := by decide +kernel
theorem dX8_loose_2 : decode cX8_loose 2 = .ok (.bipush 40, 2) := by decide +kernel
theorem dX8_loose_4 : decode cX8_loose 4 = .ok (.invokestatic 47, 3) := by decide +kernel
theorem dX8_loose_7 : decode cX8_loose 7 = .ok (.ifCond .ne 10, 3) := by decide +kernel
theorem dX8_loose_10 : decode cX8_loose 10 = .ok (.aload_n 0, 1) := by decide +kernel
theorem dX8_loose_11 : decode cX8_loose 11 = .ok (.ldc 72, 2) := by decide +kernel
theorem dX8_loose_13 : decode cX8_loose 13 = .ok (.invokevirtual 73, 3) := by decide +kernel
theorem dX8_loose_16 : decode cX8_loose 16 = .ok (.ireturn, 1) := by decide +kernel
theorem dX8_loose_17 : decode cX8_loose 17 = .ok (.aload_n 0, 1) := by decide +kernel
theorem dX8_loose_18 : decode cX8_loose 18 = .ok (.getfield 9, 3) := by decide +kernel
theorem dX8_loose_21 : decode cX8_loose 21 = .ok (.iconst 0, 1) := by decide +kernel
theorem dX8_loose_22 : decode cX8_loose 22 = .ok (.iaload, 1) := by decide +kernel
theorem dX8_loose_23 : decode cX8_loose 23 = .ok (.iload_n 1, 1) := by decide +kernel
theorem dX8_loose_24 : decode cX8_loose 24 = .ok (.iadd, 1) := by decide +kernel
theorem dX8_loose_25 : decode cX8_loose 25 = .ok (.sipush 9999, 3) := by decide +kernel
theorem dX8_loose_28 : decode cX8_loose 28 = .ok (.if_icmp .le 10, 3) := by decide +kernel
theorem dX8_loose_31 : decode cX8_loose 31 = .ok (.aload_n 0, 1) := by decide +kernel
theorem dX8_loose_32 : decode cX8_loose 32 = .ok (.ldc 110, 2) := by decide +kernel
theorem dX8_loose_34 : decode cX8_loose 34 = .ok (.invokevirtual 73, 3) := by decide +kernel
theorem dX8_loose_37 : decode cX8_loose 37 = .ok (.ireturn, 1) := by decide +kernel
theorem dX8_loose_38 : decode cX8_loose 38 = .ok (.iconst 0, 1) := by decide +kernel
theorem dX8_loose_39 : decode cX8_loose 39 = .ok (.istore_n 2, 1) := by decide +kernel
theorem dX8_loose_40 : decode cX8_loose 40 = .ok (.iload_n 2, 1) := by decide +kernel
theorem dX8_loose_41 : decode cX8_loose 41 = .ok (.iload_n 1, 1) := by decide +kernel
theorem dX8_loose_42 : decode cX8_loose 42 = .ok (.if_icmp .ge 37, 3) := by decide +kernel
theorem dX8_loose_45 : decode cX8_loose 45 = .ok (.aload_n 0, 1) := by decide +kernel
theorem dX8_loose_46 : decode cX8_loose 46 = .ok (.invokevirtual 200, 3) := by decide +kernel
theorem dX8_loose_49 : decode cX8_loose 49 = .ok (.bipush 20, 2) := by decide +kernel
theorem dX8_loose_51 : decode cX8_loose 51 = .ok (.irem, 1) := by decide +kernel
theorem dX8_loose_52 : decode cX8_loose 52 = .ok (.istore_n 3, 1) := by decide +kernel
theorem dX8_loose_53 : decode cX8_loose 53 = .ok (.aload_n 0, 1) := by decide +kernel
theorem dX8_loose_54 : decode cX8_loose 54 = .ok (.getfield 9, 3) := by decide +kernel
theorem dX8_loose_57 : decode cX8_loose 57 = .ok (.bipush 31, 2) := by decide +kernel
theorem dX8_loose_59 : decode cX8_loose 59 = .ok (.iload_n 3, 1) := by decide +kernel
theorem dX8_loose_60 : decode cX8_loose 60 = .ok (.iadd, 1) := by decide +kernel
theorem dX8_loose_61 : decode cX8_loose 61 = .ok (.aload_n 0, 1) := by decide +kernel
theorem dX8_loose_62 : decode cX8_loose 62 = .ok (.invokevirtual 200, 3) := by decide +kernel
theorem dX8_loose_65 : decode cX8_loose 65 = .ok (.bipush 10, 2) := by decide +kernel
theorem dX8_loose_67 : decode cX8_loose 67 = .ok (.irem, 1) := by decide +kernel
theorem dX8_loose_68 : decode cX8_loose 68 = .ok (.iastore, 1) := by decide +kernel
theorem dX8_loose_69 : decode cX8_loose 69 = .ok (.aload_n 0, 1) := by decide +kernel
theorem dX8_loose_70 : decode cX8_loose 70 = .ok (.invokevirtual 190, 3) := by decide +kernel
theorem dX8_loose_73 : decode cX8_loose 73 = .ok (.iinc 2 1, 3) := by decide +kernel
theorem dX8_loose_76 : decode cX8_loose 76 = .ok (.goto (-36), 3) := by decide +kernel
theorem dX8_loose_79 : decode cX8_loose 79 = .ok (.aload_n 0, 1) := by decide +kernel
theorem dX8_loose_80 : decode cX8_loose 80 = .ok (.invokevirtual 196, 3) := by decide +kernel
theorem dX8_loose_83 : decode cX8_loose 83 = .ok (.ireturn, 1) := by decide +kernel
theorem dX8_thinks_0 : decode cX8_thinks 0 = .ok (.aload_n 0, 1) := by decide +kernel
theorem dX8_thinks_1 : decode cX8_thinks 1 = .ok (.getfield 9, 3) := by decide +kernel
theorem dX8_thinks_4 : decode cX8_thinks 4 = .ok (.aload_n 0, 1) := by decide +kernel
theorem dX8_thinks_5 : decode cX8_thinks 5 = .ok (.getfield 16, 3) := by decide +kernel
theorem dX8_thinks_8 : decode cX8_thinks 8 = .ok (.invokestatic 203, 3) := by decide +kernel
theorem dX8_thinks_11 : decode cX8_thinks 11 = .ok (.return_, 1) := by decide +kernel
theorem dX8_putsBack_0 : decode cX8_putsBack 0 = .ok (.aload_n 0, 1) := by decide +kernel
theorem dX8_putsBack_1 : decode cX8_putsBack 1 = .ok (.getfield 16, 3) := by decide +kernel
theorem dX8_putsBack_4 : decode cX8_putsBack 4 = .ok (.aload_n 0, 1) := by decide +kernel
theorem dX8_putsBack_5 : decode cX8_putsBack 5 = .ok (.getfield 9, 3) := by decide +kernel
theorem dX8_putsBack_8 : decode cX8_putsBack 8 = .ok (.invokestatic 203, 3) := by decide +kernel
theorem dX8_putsBack_11 : decode cX8_putsBack 11 = .ok (.return_, 1) := by decide +kernel
theorem dX8_view_0 : decode cX8_view 0 = .ok (.aload_n 0, 1) := by decide +kernel
theorem dX8_view_1 : decode cX8_view 1 = .ok (.iload_n 1, 1) := by decide +kernel
theorem dX8_view_2 : decode cX8_view 2 = .ok (.invokevirtual 86, 3) := by decide +kernel
theorem dX8_view_5 : decode cX8_view 5 = .ok (.ifCond .eq 22, 3) := by decide +kernel
theorem dX8_view_8 : decode cX8_view 8 = .ok (.iload_n 2, 1) := by decide +kernel
theorem dX8_view_9 : decode cX8_view 9 = .ok (.iconst 0, 1) := by decide +kernel
theorem dX8_view_10 : decode cX8_view 10 = .ok (.iconst 1, 1) := by decide +kernel
theorem dX8_view_11 : decode cX8_view 11 = .ok (.invokestatic 47, 3) := by decide +kernel
theorem dX8_view_14 : decode cX8_view 14 = .ok (.ifCond .eq 13, 3) := by decide +kernel
theorem dX8_view_17 : decode cX8_view 17 = .ok (.iload_n 3, 1) := by decide +kernel
theorem dX8_view_18 : decode cX8_view 18 = .ok (.iconst 0, 1) := by decide +kernel
theorem dX8_view_19 : decode cX8_view 19 = .ok (.bipush 100, 2) := by decide +kernel
theorem dX8_view_21 : decode cX8_view 21 = .ok (.invokestatic 47, 3) := by decide +kernel
theorem dX8_view_24 : decode cX8_view 24 = .ok (.ifCond .ne 10, 3) := by decide +kernel
theorem dX8_view_27 : decode cX8_view 27 = .ok (.aload_n 0, 1) := by decide +kernel
theorem dX8_view_28 : decode cX8_view 28 = .ok (.ldc 72, 2) := by decide +kernel
theorem dX8_view_30 : decode cX8_view 30 = .ok (.invokevirtual 73, 3) := by decide +kernel
theorem dX8_view_33 : decode cX8_view 33 = .ok (.ireturn, 1) := by decide +kernel
theorem dX8_view_34 : decode cX8_view 34 = .ok (.aload_n 0, 1) := by decide +kernel
theorem dX8_view_35 : decode cX8_view 35 = .ok (.invokevirtual 207, 3) := by decide +kernel
theorem dX8_view_38 : decode cX8_view 38 = .ok (.aload_n 0, 1) := by decide +kernel
theorem dX8_view_39 : decode cX8_view 39 = .ok (.iload_n 3, 1) := by decide +kernel
theorem dX8_view_40 : decode cX8_view 40 = .ok (.invokevirtual 193, 3) := by decide +kernel
theorem dX8_view_43 : decode cX8_view 43 = .ok (.aload_n 0, 1) := by decide +kernel
theorem dX8_view_44 : decode cX8_view 44 = .ok (.aload_n 0, 1) := by decide +kernel
theorem dX8_view_45 : decode cX8_view 45 = .ok (.getfield 9, 3) := by decide +kernel
theorem dX8_view_48 : decode cX8_view 48 = .ok (.bipush 6, 2) := by decide +kernel
theorem dX8_view_50 : decode cX8_view 50 = .ok (.iload_n 1, 1) := by decide +kernel
theorem dX8_view_51 : decode cX8_view 51 = .ok (.iadd, 1) := by decide +kernel
theorem dX8_view_52 : decode cX8_view 52 = .ok (.iaload, 1) := by decide +kernel
theorem dX8_view_53 : decode cX8_view 53 = .ok (.iload_n 2, 1) := by decide +kernel
theorem dX8_view_54 : decode cX8_view 54 = .ok (.invokevirtual 62, 3) := by decide +kernel
theorem dX8_view_57 : decode cX8_view 57 = .ok (.istore 4, 2) := by decide +kernel
theorem dX8_view_59 : decode cX8_view 59 = .ok (.aload_n 0, 1) := by decide +kernel
theorem dX8_view_60 : decode cX8_view 60 = .ok (.invokevirtual 210, 3) := by decide +kernel
theorem dX8_view_63 : decode cX8_view 63 = .ok (.iload 4, 2) := by decide +kernel
theorem dX8_view_65 : decode cX8_view 65 = .ok (.ireturn, 1) := by decide +kernel
theorem dX8_again_0 : decode cX8_again 0 = .ok (.aload_n 0, 1) := by decide +kernel
theorem dX8_again_1 : decode cX8_again 1 = .ok (.iload_n 1, 1) := by decide +kernel
theorem dX8_again_2 : decode cX8_again 2 = .ok (.invokevirtual 86, 3) := by decide +kernel
theorem dX8_again_5 : decode cX8_again 5 = .ok (.ifCond .eq 23, 3) := by decide +kernel
theorem dX8_again_8 : decode cX8_again 8 = .ok (.iload_n 2, 1) := by decide +kernel
theorem dX8_again_9 : decode cX8_again 9 = .ok (.invokestatic 69, 3) := by decide +kernel
theorem dX8_again_12 : decode cX8_again 12 = .ok (.ifCond .eq 16, 3) := by decide +kernel
theorem dX8_again_15 : decode cX8_again 15 = .ok (.aload_n 0, 1) := by decide +kernel
theorem dX8_again_16 : decode cX8_again 16 = .ok (.getfield 9, 3) := by decide +kernel
theorem dX8_again_19 : decode cX8_again 19 = .ok (.bipush 6, 2) := by decide +kernel
theorem dX8_again_21 : decode cX8_again 21 = .ok (.iload_n 1, 1) := by decide +kernel
theorem dX8_again_22 : decode cX8_again 22 = .ok (.iadd, 1) := by decide +kernel
theorem dX8_again_23 : decode cX8_again 23 = .ok (.iaload, 1) := by decide +kernel
theorem dX8_again_24 : decode cX8_again 24 = .ok (.iload_n 2, 1) := by decide +kernel
theorem dX8_again_25 : decode cX8_again 25 = .ok (.if_icmp .ne 10, 3) := by decide +kernel
theorem dX8_again_28 : decode cX8_again 28 = .ok (.aload_n 0, 1) := by decide +kernel
theorem dX8_again_29 : decode cX8_again 29 = .ok (.ldc 72, 2) := by decide +kernel
theorem dX8_again_31 : decode cX8_again 31 = .ok (.invokevirtual 73, 3) := by decide +kernel
theorem dX8_again_34 : decode cX8_again 34 = .ok (.ireturn, 1) := by decide +kernel
theorem dX8_again_35 : decode cX8_again 35 = .ok (.aload_n 0, 1) := by decide +kernel
theorem dX8_again_36 : decode cX8_again 36 = .ok (.invokevirtual 207, 3) := by decide +kernel
theorem dX8_again_39 : decode cX8_again 39 = .ok (.aload_n 0, 1) := by decide +kernel
theorem dX8_again_40 : decode cX8_again 40 = .ok (.getfield 9, 3) := by decide +kernel
theorem dX8_again_43 : decode cX8_again 43 = .ok (.bipush 6, 2) := by decide +kernel
theorem dX8_again_45 : decode cX8_again 45 = .ok (.iload_n 1, 1) := by decide +kernel
theorem dX8_again_46 : decode cX8_again 46 = .ok (.iadd, 1) := by decide +kernel
theorem dX8_again_47 : decode cX8_again 47 = .ok (.iaload, 1) := by decide +kernel
theorem dX8_again_48 : decode cX8_again 48 = .ok (.istore_n 3, 1) := by decide +kernel
theorem dX8_again_49 : decode cX8_again 49 = .ok (.iconst 0, 1) := by decide +kernel
theorem dX8_again_50 : decode cX8_again 50 = .ok (.istore 4, 2) := by decide +kernel
theorem dX8_again_52 : decode cX8_again 52 = .ok (.iload 4, 2) := by decide +kernel
theorem dX8_again_54 : decode cX8_again 54 = .ok (.bipush 100, 2) := by decide +kernel
theorem dX8_again_56 : decode cX8_again 56 = .ok (.if_icmp .gt 31, 3) := by decide +kernel
theorem dX8_again_59 : decode cX8_again 59 = .ok (.aload_n 0, 1) := by decide +kernel
theorem dX8_again_60 : decode cX8_again 60 = .ok (.iload_n 3, 1) := by decide +kernel
theorem dX8_again_61 : decode cX8_again 61 = .ok (.aload_n 0, 1) := by decide +kernel
theorem dX8_again_62 : decode cX8_again 62 = .ok (.getfield 9, 3) := by decide +kernel
theorem dX8_again_65 : decode cX8_again 65 = .ok (.bipush 11, 2) := by decide +kernel
theorem dX8_again_67 : decode cX8_again 67 = .ok (.iload_n 3, 1) := by decide +kernel
theorem dX8_again_68 : decode cX8_again 68 = .ok (.iadd, 1) := by decide +kernel
theorem dX8_again_69 : decode cX8_again 69 = .ok (.iaload, 1) := by decide +kernel
theorem dX8_again_70 : decode cX8_again 70 = .ok (.iload_n 2, 1) := by decide +kernel
theorem dX8_again_71 : decode cX8_again 71 = .ok (.invokevirtual 59, 3) := by decide +kernel
theorem dX8_again_74 : decode cX8_again 74 = .ok (.ifCond .ne 13, 3) := by decide +kernel
theorem dX8_again_77 : decode cX8_again 77 = .ok (.aload_n 0, 1) := by decide +kernel
theorem dX8_again_78 : decode cX8_again 78 = .ok (.invokevirtual 190, 3) := by decide +kernel
theorem dX8_again_81 : decode cX8_again 81 = .ok (.iinc 4 1, 3) := by decide +kernel
theorem dX8_again_84 : decode cX8_again 84 = .ok (.goto (-32), 3) := by decide +kernel
theorem dX8_again_87 : decode cX8_again 87 = .ok (.aload_n 0, 1) := by decide +kernel
theorem dX8_again_88 : decode cX8_again 88 = .ok (.invokevirtual 210, 3) := by decide +kernel
theorem dX8_again_91 : decode cX8_again 91 = .ok (.iload 4, 2) := by decide +kernel
theorem dX8_again_93 : decode cX8_again 93 = .ok (.bipush 100, 2) := by decide +kernel
theorem dX8_again_95 : decode cX8_again 95 = .ok (.if_icmp .le 12, 3) := by decide +kernel
theorem dX8_again_98 : decode cX8_again 98 = .ok (.aload_n 0, 1) := by decide +kernel
theorem dX8_again_99 : decode cX8_again 99 = .ok (.ldc 213, 2) := by decide +kernel
theorem dX8_again_101 : decode cX8_again 101 = .ok (.invokevirtual 73, 3) := by decide +kernel
theorem dX8_again_104 : decode cX8_again 104 = .ok (.goto 5, 3) := by decide +kernel
theorem dX8_again_107 : decode cX8_again 107 = .ok (.iload 4, 2) := by decide +kernel
theorem dX8_again_109 : decode cX8_again 109 = .ok (.ireturn, 1) := by decide +kernel
theorem dX8_best_0 : decode cX8_best 0 = .ok (.iload_n 1, 1) := by decide +kernel
theorem dX8_best_1 : decode cX8_best 1 = .ok (.iconst 0, 1) := by decide +kernel
theorem dX8_best_2 : decode cX8_best 2 = .ok (.iconst 1, 1) := by decide +kernel
theorem dX8_best_3 : decode cX8_best 3 = .ok (.invokestatic 47, 3) := by decide +kernel
theorem dX8_best_6 : decode cX8_best 6 = .ok (.ifCond .ne 10, 3) := by decide +kernel
theorem dX8_best_9 : decode cX8_best 9 = .ok (.aload_n 0, 1) := by decide +kernel
theorem dX8_best_10 : decode cX8_best 10 = .ok (.ldc 72, 2) := by decide +kernel
theorem dX8_best_12 : decode cX8_best 12 = .ok (.invokevirtual 73, 3) := by decide +kernel
theorem dX8_best_15 : decode cX8_best 15 = .ok (.ireturn, 1) := by decide +kernel
theorem dX8_best_16 : decode cX8_best 16 = .ok (.iconst 0, 1) := by decide +kernel
theorem dX8_best_17 : decode cX8_best 17 = .ok (.istore_n 2, 1) := by decide +kernel
theorem dX8_best_18 : decode cX8_best 18 = .ok (.iconst (-1), 1) := by decide +kernel
theorem dX8_best_19 : decode cX8_best 19 = .ok (.istore_n 3, 1) := by decide +kernel
theorem dX8_best_20 : decode cX8_best 20 = .ok (.iconst 0, 1) := by decide +kernel
theorem dX8_best_21 : decode cX8_best 21 = .ok (.istore 4, 2) := by decide +kernel
theorem dX8_best_23 : decode cX8_best 23 = .ok (.iload 4, 2) := by decide +kernel
theorem dX8_best_25 : decode cX8_best 25 = .ok (.bipush 20, 2) := by decide +kernel
theorem dX8_best_27 : decode cX8_best 27 = .ok (.if_icmp .ge 43, 3) := by decide +kernel
theorem dX8_best_30 : decode cX8_best 30 = .ok (.aload_n 0, 1) := by decide +kernel
theorem dX8_best_31 : decode cX8_best 31 = .ok (.iload 4, 2) := by decide +kernel
theorem dX8_best_33 : decode cX8_best 33 = .ok (.invokevirtual 79, 3) := by decide +kernel
theorem dX8_best_36 : decode cX8_best 36 = .ok (.istore 5, 2) := by decide +kernel
theorem dX8_best_38 : decode cX8_best 38 = .ok (.iload 5, 2) := by decide +kernel
theorem dX8_best_40 : decode cX8_best 40 = .ok (.iload_n 3, 1) := by decide +kernel
theorem dX8_best_41 : decode cX8_best 41 = .ok (.if_icmp .le 8, 3) := by decide +kernel
theorem dX8_best_44 : decode cX8_best 44 = .ok (.iload 4, 2) := by decide +kernel
theorem dX8_best_46 : decode cX8_best 46 = .ok (.goto 4, 3) := by decide +kernel
theorem dX8_best_49 : decode cX8_best 49 = .ok (.iload_n 2, 1) := by decide +kernel
theorem dX8_best_50 : decode cX8_best 50 = .ok (.istore_n 2, 1) := by decide +kernel
theorem dX8_best_51 : decode cX8_best 51 = .ok (.iload 5, 2) := by decide +kernel
theorem dX8_best_53 : decode cX8_best 53 = .ok (.iload_n 3, 1) := by decide +kernel
theorem dX8_best_54 : decode cX8_best 54 = .ok (.if_icmp .le 8, 3) := by decide +kernel
theorem dX8_best_57 : decode cX8_best 57 = .ok (.iload 5, 2) := by decide +kernel
theorem dX8_best_59 : decode cX8_best 59 = .ok (.goto 4, 3) := by decide +kernel
theorem dX8_best_62 : decode cX8_best 62 = .ok (.iload_n 3, 1) := by decide +kernel
theorem dX8_best_63 : decode cX8_best 63 = .ok (.istore_n 3, 1) := by decide +kernel
theorem dX8_best_64 : decode cX8_best 64 = .ok (.iinc 4 1, 3) := by decide +kernel
theorem dX8_best_67 : decode cX8_best 67 = .ok (.goto (-44), 3) := by decide +kernel
theorem dX8_best_70 : decode cX8_best 70 = .ok (.iload_n 1, 1) := by decide +kernel
theorem dX8_best_71 : decode cX8_best 71 = .ok (.ifCond .ne 7, 3) := by decide +kernel
theorem dX8_best_74 : decode cX8_best 74 = .ok (.iload_n 2, 1) := by decide +kernel
theorem dX8_best_75 : decode cX8_best 75 = .ok (.goto 4, 3) := by decide +kernel
theorem dX8_best_78 : decode cX8_best 78 = .ok (.iload_n 3, 1) := by decide +kernel
theorem dX8_best_79 : decode cX8_best 79 = .ok (.ireturn, 1) := by decide +kernel
theorem dX8_tower_0 : decode cX8_tower 0 = .ok (.iload_n 1, 1) := by decide +kernel
theorem dX8_tower_1 : decode cX8_tower 1 = .ok (.invokestatic 69, 3) := by decide +kernel
theorem dX8_tower_4 : decode cX8_tower 4 = .ok (.ifCond .eq 15, 3) := by decide +kernel
theorem dX8_tower_7 : decode cX8_tower 7 = .ok (.iload_n 2, 1) := by decide +kernel
theorem dX8_tower_8 : decode cX8_tower 8 = .ok (.invokestatic 69, 3) := by decide +kernel
theorem dX8_tower_11 : decode cX8_tower 11 = .ok (.ifCond .eq 8, 3) := by decide +kernel
theorem dX8_tower_14 : decode cX8_tower 14 = .ok (.iload_n 1, 1) := by decide +kernel
theorem dX8_tower_15 : decode cX8_tower 15 = .ok (.iload_n 2, 1) := by decide +kernel
theorem dX8_tower_16 : decode cX8_tower 16 = .ok (.if_icmp .ne 10, 3) := by decide +kernel
theorem dX8_tower_19 : decode cX8_tower 19 = .ok (.aload_n 0, 1) := by decide +kernel
theorem dX8_tower_20 : decode cX8_tower 20 = .ok (.ldc 72, 2) := by decide +kernel
theorem dX8_tower_22 : decode cX8_tower 22 = .ok (.invokevirtual 73, 3) := by decide +kernel
theorem dX8_tower_25 : decode cX8_tower 25 = .ok (.ireturn, 1) := by decide +kernel
theorem dX8_tower_26 : decode cX8_tower 26 = .ok (.iconst 0, 1) := by decide +kernel
theorem dX8_tower_27 : decode cX8_tower 27 = .ok (.istore_n 3, 1) := by decide +kernel
theorem dX8_tower_28 : decode cX8_tower 28 = .ok (.iload_n 3, 1) := by decide +kernel
theorem dX8_tower_29 : decode cX8_tower 29 = .ok (.bipush 40, 2) := by decide +kernel
theorem dX8_tower_31 : decode cX8_tower 31 = .ok (.if_icmp .gt 31, 3) := by decide +kernel
theorem dX8_tower_34 : decode cX8_tower 34 = .ok (.aload_n 0, 1) := by decide +kernel
theorem dX8_tower_35 : decode cX8_tower 35 = .ok (.iload_n 1, 1) := by decide +kernel
theorem dX8_tower_36 : decode cX8_tower 36 = .ok (.aload_n 0, 1) := by decide +kernel
theorem dX8_tower_37 : decode cX8_tower 37 = .ok (.getfield 9, 3) := by decide +kernel
theorem dX8_tower_40 : decode cX8_tower 40 = .ok (.bipush 11, 2) := by decide +kernel
theorem dX8_tower_42 : decode cX8_tower 42 = .ok (.iload_n 1, 1) := by decide +kernel
theorem dX8_tower_43 : decode cX8_tower 43 = .ok (.iadd, 1) := by decide +kernel
theorem dX8_tower_44 : decode cX8_tower 44 = .ok (.iaload, 1) := by decide +kernel
theorem dX8_tower_45 : decode cX8_tower 45 = .ok (.iload_n 3, 1) := by decide +kernel
theorem dX8_tower_46 : decode cX8_tower 46 = .ok (.iadd, 1) := by decide +kernel
theorem dX8_tower_47 : decode cX8_tower 47 = .ok (.iload_n 2, 1) := by decide +kernel
theorem dX8_tower_48 : decode cX8_tower 48 = .ok (.invokevirtual 59, 3) := by decide +kernel
theorem dX8_tower_51 : decode cX8_tower 51 = .ok (.ifCond .eq 5, 3) := by decide +kernel
theorem dX8_tower_54 : decode cX8_tower 54 = .ok (.iload_n 3, 1) := by decide +kernel
theorem dX8_tower_55 : decode cX8_tower 55 = .ok (.ireturn, 1) := by decide +kernel
theorem dX8_tower_56 : decode cX8_tower 56 = .ok (.iinc 3 1, 3) := by decide +kernel
theorem dX8_tower_59 : decode cX8_tower 59 = .ok (.goto (-31), 3) := by decide +kernel
theorem dX8_tower_62 : decode cX8_tower 62 = .ok (.aload_n 0, 1) := by decide +kernel
theorem dX8_tower_63 : decode cX8_tower 63 = .ok (.ldc 213, 2) := by decide +kernel
theorem dX8_tower_65 : decode cX8_tower 65 = .ok (.invokevirtual 73, 3) := by decide +kernel
theorem dX8_tower_68 : decode cX8_tower 68 = .ok (.ireturn, 1) := by decide +kernel
theorem dX8_sees_0 : decode cX8_sees 0 = .ok (.aload_n 0, 1) := by decide +kernel
theorem dX8_sees_1 : decode cX8_sees 1 = .ok (.getfield 9, 3) := by decide +kernel
theorem dX8_sees_4 : decode cX8_sees 4 = .ok (.bipush 6, 2) := by decide +kernel
theorem dX8_sees_6 : decode cX8_sees 6 = .ok (.iload_n 1, 1) := by decide +kernel
theorem dX8_sees_7 : decode cX8_sees 7 = .ok (.iadd, 1) := by decide +kernel
theorem dX8_sees_8 : decode cX8_sees 8 = .ok (.iaload, 1) := by decide +kernel
theorem dX8_sees_9 : decode cX8_sees 9 = .ok (.istore_n 3, 1) := by decide +kernel
theorem dX8_sees_10 : decode cX8_sees 10 = .ok (.aload_n 0, 1) := by decide +kernel
theorem dX8_sees_11 : decode cX8_sees 11 = .ok (.iload_n 3, 1) := by decide +kernel
theorem dX8_sees_12 : decode cX8_sees 12 = .ok (.aload_n 0, 1) := by decide +kernel
theorem dX8_sees_13 : decode cX8_sees 13 = .ok (.getfield 9, 3) := by decide +kernel
theorem dX8_sees_16 : decode cX8_sees 16 = .ok (.bipush 11, 2) := by decide +kernel
theorem dX8_sees_18 : decode cX8_sees 18 = .ok (.iload_n 3, 1) := by decide +kernel
theorem dX8_sees_19 : decode cX8_sees 19 = .ok (.iadd, 1) := by decide +kernel
theorem dX8_sees_20 : decode cX8_sees 20 = .ok (.iaload, 1) := by decide +kernel
theorem dX8_sees_21 : decode cX8_sees 21 = .ok (.iload_n 2, 1) := by decide +kernel
theorem dX8_sees_22 : decode cX8_sees 22 = .ok (.invokevirtual 59, 3) := by decide +kernel
theorem dX8_sees_25 : decode cX8_sees 25 = .ok (.ireturn, 1) := by decide +kernel
theorem dX8_mutual_0 : decode cX8_mutual 0 = .ok (.iconst 0, 1) := by decide +kernel
theorem dX8_mutual_1 : decode cX8_mutual 1 = .ok (.istore_n 1, 1) := by decide +kernel
theorem dX8_mutual_2 : decode cX8_mutual 2 = .ok (.iconst 0, 1) := by decide +kernel
theorem dX8_mutual_3 : decode cX8_mutual 3 = .ok (.istore_n 2, 1) := by decide +kernel
theorem dX8_mutual_4 : decode cX8_mutual 4 = .ok (.iload_n 2, 1) := by decide +kernel
theorem dX8_mutual_5 : decode cX8_mutual 5 = .ok (.aload_n 0, 1) := by decide +kernel
theorem dX8_mutual_6 : decode cX8_mutual 6 = .ok (.getfield 9, 3) := by decide +kernel
theorem dX8_mutual_9 : decode cX8_mutual 9 = .ok (.iconst 2, 1) := by decide +kernel
theorem dX8_mutual_10 : decode cX8_mutual 10 = .ok (.iaload, 1) := by decide +kernel
theorem dX8_mutual_11 : decode cX8_mutual 11 = .ok (.if_icmp .ge 71, 3) := by decide +kernel
theorem dX8_mutual_14 : decode cX8_mutual 14 = .ok (.iload_n 2, 1) := by decide +kernel
theorem dX8_mutual_15 : decode cX8_mutual 15 = .ok (.iconst 1, 1) := by decide +kernel
theorem dX8_mutual_16 : decode cX8_mutual 16 = .ok (.iadd, 1) := by decide +kernel
theorem dX8_mutual_17 : decode cX8_mutual 17 = .ok (.istore_n 3, 1) := by decide +kernel
theorem dX8_mutual_18 : decode cX8_mutual 18 = .ok (.iload_n 3, 1) := by decide +kernel
theorem dX8_mutual_19 : decode cX8_mutual 19 = .ok (.aload_n 0, 1) := by decide +kernel
theorem dX8_mutual_20 : decode cX8_mutual 20 = .ok (.getfield 9, 3) := by decide +kernel
theorem dX8_mutual_23 : decode cX8_mutual 23 = .ok (.iconst 2, 1) := by decide +kernel
theorem dX8_mutual_24 : decode cX8_mutual 24 = .ok (.iaload, 1) := by decide +kernel
theorem dX8_mutual_25 : decode cX8_mutual 25 = .ok (.if_icmp .ge 51, 3) := by decide +kernel
theorem dX8_mutual_28 : decode cX8_mutual 28 = .ok (.iload_n 1, 1) := by decide +kernel
theorem dX8_mutual_29 : decode cX8_mutual 29 = .ok (.aload_n 0, 1) := by decide +kernel
theorem dX8_mutual_30 : decode cX8_mutual 30 = .ok (.iload_n 2, 1) := by decide +kernel
theorem dX8_mutual_31 : decode cX8_mutual 31 = .ok (.aload_n 0, 1) := by decide +kernel
theorem dX8_mutual_32 : decode cX8_mutual 32 = .ok (.getfield 9, 3) := by decide +kernel
theorem dX8_mutual_35 : decode cX8_mutual 35 = .ok (.bipush 6, 2) := by decide +kernel
theorem dX8_mutual_37 : decode cX8_mutual 37 = .ok (.iload_n 3, 1) := by decide +kernel
theorem dX8_mutual_38 : decode cX8_mutual 38 = .ok (.iadd, 1) := by decide +kernel
theorem dX8_mutual_39 : decode cX8_mutual 39 = .ok (.iaload, 1) := by decide +kernel
theorem dX8_mutual_40 : decode cX8_mutual 40 = .ok (.invokevirtual 214, 3) := by decide +kernel
theorem dX8_mutual_43 : decode cX8_mutual 43 = .ok (.ifCond .eq 24, 3) := by decide +kernel
theorem dX8_mutual_46 : decode cX8_mutual 46 = .ok (.aload_n 0, 1) := by decide +kernel
theorem dX8_mutual_47 : decode cX8_mutual 47 = .ok (.iload_n 3, 1) := by decide +kernel
theorem dX8_mutual_48 : decode cX8_mutual 48 = .ok (.aload_n 0, 1) := by decide +kernel
theorem dX8_mutual_49 : decode cX8_mutual 49 = .ok (.getfield 9, 3) := by decide +kernel
theorem dX8_mutual_52 : decode cX8_mutual 52 = .ok (.bipush 6, 2) := by decide +kernel
theorem dX8_mutual_54 : decode cX8_mutual 54 = .ok (.iload_n 2, 1) := by decide +kernel
theorem dX8_mutual_55 : decode cX8_mutual 55 = .ok (.iadd, 1) := by decide +kernel
theorem dX8_mutual_56 : decode cX8_mutual 56 = .ok (.iaload, 1) := by decide +kernel
theorem dX8_mutual_57 : decode cX8_mutual 57 = .ok (.invokevirtual 214, 3) := by decide +kernel
theorem dX8_mutual_60 : decode cX8_mutual 60 = .ok (.ifCond .eq 7, 3) := by decide +kernel
theorem dX8_mutual_63 : decode cX8_mutual 63 = .ok (.iconst 1, 1) := by decide +kernel
theorem dX8_mutual_64 : decode cX8_mutual 64 = .ok (.goto 4, 3) := by decide +kernel
theorem dX8_mutual_67 : decode cX8_mutual 67 = .ok (.iconst 0, 1) := by decide +kernel
theorem dX8_mutual_68 : decode cX8_mutual 68 = .ok (.iadd, 1) := by decide +kernel
theorem dX8_mutual_69 : decode cX8_mutual 69 = .ok (.istore_n 1, 1) := by decide +kernel
theorem dX8_mutual_70 : decode cX8_mutual 70 = .ok (.iinc 3 1, 3) := by decide +kernel
theorem dX8_mutual_73 : decode cX8_mutual 73 = .ok (.goto (-55), 3) := by decide +kernel
theorem dX8_mutual_76 : decode cX8_mutual 76 = .ok (.iinc 2 1, 3) := by decide +kernel
theorem dX8_mutual_79 : decode cX8_mutual 79 = .ok (.goto (-75), 3) := by decide +kernel
theorem dX8_mutual_82 : decode cX8_mutual 82 = .ok (.iload_n 1, 1) := by decide +kernel
theorem dX8_mutual_83 : decode cX8_mutual 83 = .ok (.ireturn, 1) := by decide +kernel
theorem dX8_unseen_0 : decode cX8_unseen 0 = .ok (.iconst 0, 1) := by decide +kernel
theorem dX8_unseen_1 : decode cX8_unseen 1 = .ok (.istore_n 1, 1) := by decide +kernel
theorem dX8_unseen_2 : decode cX8_unseen 2 = .ok (.iconst 0, 1) := by decide +kernel
theorem dX8_unseen_3 : decode cX8_unseen 3 = .ok (.istore_n 2, 1) := by decide +kernel
theorem dX8_unseen_4 : decode cX8_unseen 4 = .ok (.iload_n 2, 1) := by decide +kernel
theorem dX8_unseen_5 : decode cX8_unseen 5 = .ok (.aload_n 0, 1) := by decide +kernel
theorem dX8_unseen_6 : decode cX8_unseen 6 = .ok (.getfield 9, 3) := by decide +kernel
theorem dX8_unseen_9 : decode cX8_unseen 9 = .ok (.iconst 2, 1) := by decide +kernel
theorem dX8_unseen_10 : decode cX8_unseen 10 = .ok (.iaload, 1) := by decide +kernel
theorem dX8_unseen_11 : decode cX8_unseen 11 = .ok (.if_icmp .ge 39, 3) := by decide +kernel
theorem dX8_unseen_14 : decode cX8_unseen 14 = .ok (.aload_n 0, 1) := by decide +kernel
theorem dX8_unseen_15 : decode cX8_unseen 15 = .ok (.getfield 9, 3) := by decide +kernel
theorem dX8_unseen_18 : decode cX8_unseen 18 = .ok (.bipush 6, 2) := by decide +kernel
theorem dX8_unseen_20 : decode cX8_unseen 20 = .ok (.iload_n 2, 1) := by decide +kernel
theorem dX8_unseen_21 : decode cX8_unseen 21 = .ok (.iadd, 1) := by decide +kernel
theorem dX8_unseen_22 : decode cX8_unseen 22 = .ok (.iaload, 1) := by decide +kernel
theorem dX8_unseen_23 : decode cX8_unseen 23 = .ok (.istore_n 3, 1) := by decide +kernel
theorem dX8_unseen_24 : decode cX8_unseen 24 = .ok (.iload_n 1, 1) := by decide +kernel
theorem dX8_unseen_25 : decode cX8_unseen 25 = .ok (.iconst 1, 1) := by decide +kernel
theorem dX8_unseen_26 : decode cX8_unseen 26 = .ok (.iload_n 3, 1) := by decide +kernel
theorem dX8_unseen_27 : decode cX8_unseen 27 = .ok (.ishl, 1) := by decide +kernel
theorem dX8_unseen_28 : decode cX8_unseen 28 = .ok (.aload_n 0, 1) := by decide +kernel
theorem dX8_unseen_29 : decode cX8_unseen 29 = .ok (.iload_n 3, 1) := by decide +kernel
theorem dX8_unseen_30 : decode cX8_unseen 30 = .ok (.iconst 0, 1) := by decide +kernel
theorem dX8_unseen_31 : decode cX8_unseen 31 = .ok (.invokevirtual 62, 3) := by decide +kernel
theorem dX8_unseen_34 : decode cX8_unseen 34 = .ok (.ior, 1) := by decide +kernel
theorem dX8_unseen_35 : decode cX8_unseen 35 = .ok (.aload_n 0, 1) := by decide +kernel
theorem dX8_unseen_36 : decode cX8_unseen 36 = .ok (.iload_n 3, 1) := by decide +kernel
theorem dX8_unseen_37 : decode cX8_unseen 37 = .ok (.iconst 1, 1) := by decide +kernel
theorem dX8_unseen_38 : decode cX8_unseen 38 = .ok (.invokevirtual 62, 3) := by decide +kernel
theorem dX8_unseen_41 : decode cX8_unseen 41 = .ok (.ior, 1) := by decide +kernel
theorem dX8_unseen_42 : decode cX8_unseen 42 = .ok (.ior, 1) := by decide +kernel
theorem dX8_unseen_43 : decode cX8_unseen 43 = .ok (.istore_n 1, 1) := by decide +kernel
theorem dX8_unseen_44 : decode cX8_unseen 44 = .ok (.iinc 2 1, 3) := by decide +kernel
theorem dX8_unseen_47 : decode cX8_unseen 47 = .ok (.goto (-43), 3) := by decide +kernel
theorem dX8_unseen_50 : decode cX8_unseen 50 = .ok (.ldc 109, 2) := by decide +kernel
theorem dX8_unseen_52 : decode cX8_unseen 52 = .ok (.iload_n 1, 1) := by decide +kernel
theorem dX8_unseen_53 : decode cX8_unseen 53 = .ok (.iconst (-1), 1) := by decide +kernel
theorem dX8_unseen_54 : decode cX8_unseen 54 = .ok (.ixor, 1) := by decide +kernel
theorem dX8_unseen_55 : decode cX8_unseen 55 = .ok (.iand, 1) := by decide +kernel
theorem dX8_unseen_56 : decode cX8_unseen 56 = .ok (.ireturn, 1) := by decide +kernel
theorem dX8_cover_0 : decode cX8_cover 0 = .ok (.iload_n 1, 1) := by decide +kernel
theorem dX8_cover_1 : decode cX8_cover 1 = .ok (.iconst 0, 1) := by decide +kernel
theorem dX8_cover_2 : decode cX8_cover 2 = .ok (.ldc 109, 2) := by decide +kernel
theorem dX8_cover_4 : decode cX8_cover 4 = .ok (.invokestatic 47, 3) := by decide +kernel
theorem dX8_cover_7 : decode cX8_cover 7 = .ok (.ifCond .ne 10, 3) := by decide +kernel
theorem dX8_cover_10 : decode cX8_cover 10 = .ok (.aload_n 0, 1) := by decide +kernel
theorem dX8_cover_11 : decode cX8_cover 11 = .ok (.ldc 72, 2) := by decide +kernel
theorem dX8_cover_13 : decode cX8_cover 13 = .ok (.invokevirtual 73, 3) := by decide +kernel
theorem dX8_cover_16 : decode cX8_cover 16 = .ok (.ireturn, 1) := by decide +kernel
theorem dX8_cover_17 : decode cX8_cover 17 = .ok (.iconst (-1), 1) := by decide +kernel
theorem dX8_cover_18 : decode cX8_cover 18 = .ok (.istore_n 2, 1) := by decide +kernel
theorem dX8_cover_19 : decode cX8_cover 19 = .ok (.iconst 0, 1) := by decide +kernel
theorem dX8_cover_20 : decode cX8_cover 20 = .ok (.istore_n 3, 1) := by decide +kernel
theorem dX8_cover_21 : decode cX8_cover 21 = .ok (.iload_n 3, 1) := by decide +kernel
theorem dX8_cover_22 : decode cX8_cover 22 = .ok (.iconst 1, 1) := by decide +kernel
theorem dX8_cover_23 : decode cX8_cover 23 = .ok (.aload_n 0, 1) := by decide +kernel
theorem dX8_cover_24 : decode cX8_cover 24 = .ok (.getfield 9, 3) := by decide +kernel
theorem dX8_cover_27 : decode cX8_cover 27 = .ok (.iconst 3, 1) := by decide +kernel
theorem dX8_cover_28 : decode cX8_cover 28 = .ok (.iaload, 1) := by decide +kernel
theorem dX8_cover_29 : decode cX8_cover 29 = .ok (.ishl, 1) := by decide +kernel
theorem dX8_cover_30 : decode cX8_cover 30 = .ok (.if_icmp .ge 99, 3) := by decide +kernel
theorem dX8_cover_33 : decode cX8_cover 33 = .ok (.iconst 0, 1) := by decide +kernel
theorem dX8_cover_34 : decode cX8_cover 34 = .ok (.istore 4, 2) := by decide +kernel
theorem dX8_cover_36 : decode cX8_cover 36 = .ok (.iconst 0, 1) := by decide +kernel
theorem dX8_cover_37 : decode cX8_cover 37 = .ok (.istore 5, 2) := by decide +kernel
theorem dX8_cover_39 : decode cX8_cover 39 = .ok (.iload 5, 2) := by decide +kernel
theorem dX8_cover_41 : decode cX8_cover 41 = .ok (.aload_n 0, 1) := by decide +kernel
theorem dX8_cover_42 : decode cX8_cover 42 = .ok (.getfield 9, 3) := by decide +kernel
theorem dX8_cover_45 : decode cX8_cover 45 = .ok (.iconst 3, 1) := by decide +kernel
theorem dX8_cover_46 : decode cX8_cover 46 = .ok (.iaload, 1) := by decide +kernel
theorem dX8_cover_47 : decode cX8_cover 47 = .ok (.if_icmp .ge 34, 3) := by decide +kernel
theorem dX8_cover_50 : decode cX8_cover 50 = .ok (.iload 4, 2) := by decide +kernel
theorem dX8_cover_52 : decode cX8_cover 52 = .ok (.iload_n 3, 1) := by decide +kernel
theorem dX8_cover_53 : decode cX8_cover 53 = .ok (.iload 5, 2) := by decide +kernel
theorem dX8_cover_55 : decode cX8_cover 55 = .ok (.ishr, 1) := by decide +kernel
theorem dX8_cover_56 : decode cX8_cover 56 = .ok (.iconst 1, 1) := by decide +kernel
theorem dX8_cover_57 : decode cX8_cover 57 = .ok (.iand, 1) := by decide +kernel
theorem dX8_cover_58 : decode cX8_cover 58 = .ok (.iconst 1, 1) := by decide +kernel
theorem dX8_cover_59 : decode cX8_cover 59 = .ok (.if_icmp .ne 12, 3) := by decide +kernel
theorem dX8_cover_62 : decode cX8_cover 62 = .ok (.aload_n 0, 1) := by decide +kernel
theorem dX8_cover_63 : decode cX8_cover 63 = .ok (.iload 5, 2) := by decide +kernel
theorem dX8_cover_65 : decode cX8_cover 65 = .ok (.invokevirtual 96, 3) := by decide +kernel
theorem dX8_cover_68 : decode cX8_cover 68 = .ok (.goto 4, 3) := by decide +kernel
theorem dX8_cover_71 : decode cX8_cover 71 = .ok (.iconst 0, 1) := by decide +kernel
theorem dX8_cover_72 : decode cX8_cover 72 = .ok (.ior, 1) := by decide +kernel
theorem dX8_cover_73 : decode cX8_cover 73 = .ok (.istore 4, 2) := by decide +kernel
theorem dX8_cover_75 : decode cX8_cover 75 = .ok (.iinc 5 1, 3) := by decide +kernel
theorem dX8_cover_78 : decode cX8_cover 78 = .ok (.goto (-39), 3) := by decide +kernel
theorem dX8_cover_81 : decode cX8_cover 81 = .ok (.iload_n 1, 1) := by decide +kernel
theorem dX8_cover_82 : decode cX8_cover 82 = .ok (.iload 4, 2) := by decide +kernel
theorem dX8_cover_84 : decode cX8_cover 84 = .ok (.iconst (-1), 1) := by decide +kernel
theorem dX8_cover_85 : decode cX8_cover 85 = .ok (.ixor, 1) := by decide +kernel
theorem dX8_cover_86 : decode cX8_cover 86 = .ok (.iand, 1) := by decide +kernel
theorem dX8_cover_87 : decode cX8_cover 87 = .ok (.ifCond .ne 22, 3) := by decide +kernel
theorem dX8_cover_90 : decode cX8_cover 90 = .ok (.iload_n 2, 1) := by decide +kernel
theorem dX8_cover_91 : decode cX8_cover 91 = .ok (.ifCond .lt 14, 3) := by decide +kernel
theorem dX8_cover_94 : decode cX8_cover 94 = .ok (.iload_n 3, 1) := by decide +kernel
theorem dX8_cover_95 : decode cX8_cover 95 = .ok (.invokestatic 65, 3) := by decide +kernel
theorem dX8_cover_98 : decode cX8_cover 98 = .ok (.iload_n 2, 1) := by decide +kernel
theorem dX8_cover_99 : decode cX8_cover 99 = .ok (.invokestatic 65, 3) := by decide +kernel
theorem dX8_cover_102 : decode cX8_cover 102 = .ok (.if_icmp .ge 7, 3) := by decide +kernel
theorem dX8_cover_105 : decode cX8_cover 105 = .ok (.iconst 1, 1) := by decide +kernel
theorem dX8_cover_106 : decode cX8_cover 106 = .ok (.goto 4, 3) := by decide +kernel
theorem dX8_cover_109 : decode cX8_cover 109 = .ok (.iconst 0, 1) := by decide +kernel
theorem dX8_cover_110 : decode cX8_cover 110 = .ok (.istore 5, 2) := by decide +kernel
theorem dX8_cover_112 : decode cX8_cover 112 = .ok (.iload 5, 2) := by decide +kernel
theorem dX8_cover_114 : decode cX8_cover 114 = .ok (.ifCond .eq 7, 3) := by decide +kernel
theorem dX8_cover_117 : decode cX8_cover 117 = .ok (.iload_n 3, 1) := by decide +kernel
theorem dX8_cover_118 : decode cX8_cover 118 = .ok (.goto 4, 3) := by decide +kernel
theorem dX8_cover_121 : decode cX8_cover 121 = .ok (.iload_n 2, 1) := by decide +kernel
theorem dX8_cover_122 : decode cX8_cover 122 = .ok (.istore_n 2, 1) := by decide +kernel
theorem dX8_cover_123 : decode cX8_cover 123 = .ok (.iinc 3 1, 3) := by decide +kernel
theorem dX8_cover_126 : decode cX8_cover 126 = .ok (.goto (-105), 3) := by decide +kernel
theorem dX8_cover_129 : decode cX8_cover 129 = .ok (.iload_n 2, 1) := by decide +kernel
theorem dX8_cover_130 : decode cX8_cover 130 = .ok (.ifCond .ge 12, 3) := by decide +kernel
theorem dX8_cover_133 : decode cX8_cover 133 = .ok (.aload_n 0, 1) := by decide +kernel
theorem dX8_cover_134 : decode cX8_cover 134 = .ok (.ldc 213, 2) := by decide +kernel
theorem dX8_cover_136 : decode cX8_cover 136 = .ok (.invokevirtual 73, 3) := by decide +kernel
theorem dX8_cover_139 : decode cX8_cover 139 = .ok (.goto 4, 3) := by decide +kernel
theorem dX8_cover_142 : decode cX8_cover 142 = .ok (.iload_n 2, 1) := by decide +kernel
theorem dX8_cover_143 : decode cX8_cover 143 = .ok (.ireturn, 1) := by decide +kernel
theorem dX8_worth_0 : decode cX8_worth 0 = .ok (.iconst 0, 1) := by decide +kernel
theorem dX8_worth_1 : decode cX8_worth 1 = .ok (.istore_n 2, 1) := by decide +kernel
theorem dX8_worth_2 : decode cX8_worth 2 = .ok (.iconst 0, 1) := by decide +kernel
theorem dX8_worth_3 : decode cX8_worth 3 = .ok (.istore_n 3, 1) := by decide +kernel
theorem dX8_worth_4 : decode cX8_worth 4 = .ok (.iconst 0, 1) := by decide +kernel
theorem dX8_worth_5 : decode cX8_worth 5 = .ok (.istore 4, 2) := by decide +kernel
theorem dX8_worth_7 : decode cX8_worth 7 = .ok (.iload 4, 2) := by decide +kernel
theorem dX8_worth_9 : decode cX8_worth 9 = .ok (.aload_n 0, 1) := by decide +kernel
theorem dX8_worth_10 : decode cX8_worth 10 = .ok (.getfield 9, 3) := by decide +kernel
theorem dX8_worth_13 : decode cX8_worth 13 = .ok (.iconst 3, 1) := by decide +kernel
theorem dX8_worth_14 : decode cX8_worth 14 = .ok (.iaload, 1) := by decide +kernel
theorem dX8_worth_15 : decode cX8_worth 15 = .ok (.if_icmp .ge 50, 3) := by decide +kernel
theorem dX8_worth_18 : decode cX8_worth 18 = .ok (.iload_n 1, 1) := by decide +kernel
theorem dX8_worth_19 : decode cX8_worth 19 = .ok (.iload 4, 2) := by decide +kernel
theorem dX8_worth_21 : decode cX8_worth 21 = .ok (.ishr, 1) := by decide +kernel
theorem dX8_worth_22 : decode cX8_worth 22 = .ok (.iconst 1, 1) := by decide +kernel
theorem dX8_worth_23 : decode cX8_worth 23 = .ok (.iand, 1) := by decide +kernel
theorem dX8_worth_24 : decode cX8_worth 24 = .ok (.iconst 1, 1) := by decide +kernel
theorem dX8_worth_25 : decode cX8_worth 25 = .ok (.if_icmp .ne 34, 3) := by decide +kernel
theorem dX8_worth_28 : decode cX8_worth 28 = .ok (.aload_n 0, 1) := by decide +kernel
theorem dX8_worth_29 : decode cX8_worth 29 = .ok (.iload 4, 2) := by decide +kernel
theorem dX8_worth_31 : decode cX8_worth 31 = .ok (.invokevirtual 96, 3) := by decide +kernel
theorem dX8_worth_34 : decode cX8_worth 34 = .ok (.istore 5, 2) := by decide +kernel
theorem dX8_worth_36 : decode cX8_worth 36 = .ok (.iload_n 2, 1) := by decide +kernel
theorem dX8_worth_37 : decode cX8_worth 37 = .ok (.iload 5, 2) := by decide +kernel
theorem dX8_worth_39 : decode cX8_worth 39 = .ok (.iand, 1) := by decide +kernel
theorem dX8_worth_40 : decode cX8_worth 40 = .ok (.ifCond .eq 5, 3) := by decide +kernel
theorem dX8_worth_43 : decode cX8_worth 43 = .ok (.iconst (-1), 1) := by decide +kernel
theorem dX8_worth_44 : decode cX8_worth 44 = .ok (.ireturn, 1) := by decide +kernel
theorem dX8_worth_45 : decode cX8_worth 45 = .ok (.iload_n 2, 1) := by decide +kernel
theorem dX8_worth_46 : decode cX8_worth 46 = .ok (.iload 5, 2) := by decide +kernel
theorem dX8_worth_48 : decode cX8_worth 48 = .ok (.ior, 1) := by decide +kernel
theorem dX8_worth_49 : decode cX8_worth 49 = .ok (.istore_n 2, 1) := by decide +kernel
theorem dX8_worth_50 : decode cX8_worth 50 = .ok (.iload_n 3, 1) := by decide +kernel
theorem dX8_worth_51 : decode cX8_worth 51 = .ok (.aload_n 0, 1) := by decide +kernel
theorem dX8_worth_52 : decode cX8_worth 52 = .ok (.iload 4, 2) := by decide +kernel
theorem dX8_worth_54 : decode cX8_worth 54 = .ok (.invokevirtual 118, 3) := by decide +kernel
theorem dX8_worth_57 : decode cX8_worth 57 = .ok (.iadd, 1) := by decide +kernel
theorem dX8_worth_58 : decode cX8_worth 58 = .ok (.istore_n 3, 1) := by decide +kernel
theorem dX8_worth_59 : decode cX8_worth 59 = .ok (.iinc 4 1, 3) := by decide +kernel
theorem dX8_worth_62 : decode cX8_worth 62 = .ok (.goto (-55), 3) := by decide +kernel
theorem dX8_worth_65 : decode cX8_worth 65 = .ok (.iload_n 3, 1) := by decide +kernel
theorem dX8_worth_66 : decode cX8_worth 66 = .ok (.ireturn, 1) := by decide +kernel
theorem dX8_keeps_0 : decode cX8_keeps 0 = .ok (.iload_n 1, 1) := by decide +kernel
theorem dX8_keeps_1 : decode cX8_keeps 1 = .ok (.iconst 0, 1) := by decide +kernel
theorem dX8_keeps_2 : decode cX8_keeps 2 = .ok (.iconst 1, 1) := by decide +kernel
theorem dX8_keeps_3 : decode cX8_keeps 3 = .ok (.invokestatic 47, 3) := by decide +kernel
theorem dX8_keeps_6 : decode cX8_keeps 6 = .ok (.ifCond .ne 10, 3) := by decide +kernel
theorem dX8_keeps_9 : decode cX8_keeps 9 = .ok (.aload_n 0, 1) := by decide +kernel
theorem dX8_keeps_10 : decode cX8_keeps 10 = .ok (.ldc 72, 2) := by decide +kernel
theorem dX8_keeps_12 : decode cX8_keeps 12 = .ok (.invokevirtual 73, 3) := by decide +kernel
theorem dX8_keeps_15 : decode cX8_keeps 15 = .ok (.ireturn, 1) := by decide +kernel
theorem dX8_keeps_16 : decode cX8_keeps 16 = .ok (.iconst 0, 1) := by decide +kernel
theorem dX8_keeps_17 : decode cX8_keeps 17 = .ok (.istore_n 2, 1) := by decide +kernel
theorem dX8_keeps_18 : decode cX8_keeps 18 = .ok (.iconst 0, 1) := by decide +kernel
theorem dX8_keeps_19 : decode cX8_keeps 19 = .ok (.istore_n 3, 1) := by decide +kernel
theorem dX8_keeps_20 : decode cX8_keeps 20 = .ok (.iconst 1, 1) := by decide +kernel
theorem dX8_keeps_21 : decode cX8_keeps 21 = .ok (.istore 4, 2) := by decide +kernel
theorem dX8_keeps_23 : decode cX8_keeps 23 = .ok (.iload 4, 2) := by decide +kernel
theorem dX8_keeps_25 : decode cX8_keeps 25 = .ok (.iconst 1, 1) := by decide +kernel
theorem dX8_keeps_26 : decode cX8_keeps 26 = .ok (.aload_n 0, 1) := by decide +kernel
theorem dX8_keeps_27 : decode cX8_keeps 27 = .ok (.getfield 9, 3) := by decide +kernel
theorem dX8_keeps_30 : decode cX8_keeps 30 = .ok (.iconst 3, 1) := by decide +kernel
theorem dX8_keeps_31 : decode cX8_keeps 31 = .ok (.iaload, 1) := by decide +kernel
theorem dX8_keeps_32 : decode cX8_keeps 32 = .ok (.ishl, 1) := by decide +kernel
theorem dX8_keeps_33 : decode cX8_keeps 33 = .ok (.if_icmp .ge 43, 3) := by decide +kernel
theorem dX8_keeps_36 : decode cX8_keeps 36 = .ok (.aload_n 0, 1) := by decide +kernel
theorem dX8_keeps_37 : decode cX8_keeps 37 = .ok (.iload 4, 2) := by decide +kernel
theorem dX8_keeps_39 : decode cX8_keeps 39 = .ok (.invokevirtual 217, 3) := by decide +kernel
theorem dX8_keeps_42 : decode cX8_keeps 42 = .ok (.istore 5, 2) := by decide +kernel
theorem dX8_keeps_44 : decode cX8_keeps 44 = .ok (.iload 5, 2) := by decide +kernel
theorem dX8_keeps_46 : decode cX8_keeps 46 = .ok (.iload_n 3, 1) := by decide +kernel
theorem dX8_keeps_47 : decode cX8_keeps 47 = .ok (.if_icmp .le 8, 3) := by decide +kernel
theorem dX8_keeps_50 : decode cX8_keeps 50 = .ok (.iload 4, 2) := by decide +kernel
theorem dX8_keeps_52 : decode cX8_keeps 52 = .ok (.goto 4, 3) := by decide +kernel
theorem dX8_keeps_55 : decode cX8_keeps 55 = .ok (.iload_n 2, 1) := by decide +kernel
theorem dX8_keeps_56 : decode cX8_keeps 56 = .ok (.istore_n 2, 1) := by decide +kernel
theorem dX8_keeps_57 : decode cX8_keeps 57 = .ok (.iload 5, 2) := by decide +kernel
theorem dX8_keeps_59 : decode cX8_keeps 59 = .ok (.iload_n 3, 1) := by decide +kernel
theorem dX8_keeps_60 : decode cX8_keeps 60 = .ok (.if_icmp .le 8, 3) := by decide +kernel
theorem dX8_keeps_63 : decode cX8_keeps 63 = .ok (.iload 5, 2) := by decide +kernel
theorem dX8_keeps_65 : decode cX8_keeps 65 = .ok (.goto 4, 3) := by decide +kernel
theorem dX8_keeps_68 : decode cX8_keeps 68 = .ok (.iload_n 3, 1) := by decide +kernel
theorem dX8_keeps_69 : decode cX8_keeps 69 = .ok (.istore_n 3, 1) := by decide +kernel
theorem dX8_keeps_70 : decode cX8_keeps 70 = .ok (.iinc 4 1, 3) := by decide +kernel
theorem dX8_keeps_73 : decode cX8_keeps 73 = .ok (.goto (-50), 3) := by decide +kernel
theorem dX8_keeps_76 : decode cX8_keeps 76 = .ok (.iload_n 1, 1) := by decide +kernel
theorem dX8_keeps_77 : decode cX8_keeps 77 = .ok (.ifCond .ne 7, 3) := by decide +kernel
theorem dX8_keeps_80 : decode cX8_keeps 80 = .ok (.iload_n 2, 1) := by decide +kernel
theorem dX8_keeps_81 : decode cX8_keeps 81 = .ok (.goto 4, 3) := by decide +kernel
theorem dX8_keeps_84 : decode cX8_keeps 84 = .ok (.iload_n 3, 1) := by decide +kernel
theorem dX8_keeps_85 : decode cX8_keeps 85 = .ok (.ireturn, 1) := by decide +kernel
theorem dX8_blend_0 : decode cX8_blend 0 = .ok (.aload_n 0, 1) := by decide +kernel
theorem dX8_blend_1 : decode cX8_blend 1 = .ok (.iload_n 1, 1) := by decide +kernel
theorem dX8_blend_2 : decode cX8_blend 2 = .ok (.invokevirtual 115, 3) := by decide +kernel
theorem dX8_blend_5 : decode cX8_blend 5 = .ok (.ifCond .eq 16, 3) := by decide +kernel
theorem dX8_blend_8 : decode cX8_blend 8 = .ok (.aload_n 0, 1) := by decide +kernel
theorem dX8_blend_9 : decode cX8_blend 9 = .ok (.iload_n 2, 1) := by decide +kernel
theorem dX8_blend_10 : decode cX8_blend 10 = .ok (.invokevirtual 115, 3) := by decide +kernel
theorem dX8_blend_13 : decode cX8_blend 13 = .ok (.ifCond .eq 8, 3) := by decide +kernel
theorem dX8_blend_16 : decode cX8_blend 16 = .ok (.iload_n 1, 1) := by decide +kernel
theorem dX8_blend_17 : decode cX8_blend 17 = .ok (.iload_n 2, 1) := by decide +kernel
theorem dX8_blend_18 : decode cX8_blend 18 = .ok (.if_icmp .ne 10, 3) := by decide +kernel
theorem dX8_blend_21 : decode cX8_blend 21 = .ok (.aload_n 0, 1) := by decide +kernel
theorem dX8_blend_22 : decode cX8_blend 22 = .ok (.ldc 72, 2) := by decide +kernel
theorem dX8_blend_24 : decode cX8_blend 24 = .ok (.invokevirtual 73, 3) := by decide +kernel
theorem dX8_blend_27 : decode cX8_blend 27 = .ok (.ireturn, 1) := by decide +kernel
theorem dX8_blend_28 : decode cX8_blend 28 = .ok (.aload_n 0, 1) := by decide +kernel
theorem dX8_blend_29 : decode cX8_blend 29 = .ok (.iload_n 1, 1) := by decide +kernel
theorem dX8_blend_30 : decode cX8_blend 30 = .ok (.invokevirtual 96, 3) := by decide +kernel
theorem dX8_blend_33 : decode cX8_blend 33 = .ok (.istore_n 3, 1) := by decide +kernel
theorem dX8_blend_34 : decode cX8_blend 34 = .ok (.aload_n 0, 1) := by decide +kernel
theorem dX8_blend_35 : decode cX8_blend 35 = .ok (.iload_n 2, 1) := by decide +kernel
theorem dX8_blend_36 : decode cX8_blend 36 = .ok (.invokevirtual 96, 3) := by decide +kernel
theorem dX8_blend_39 : decode cX8_blend 39 = .ok (.istore 4, 2) := by decide +kernel
theorem dX8_blend_41 : decode cX8_blend 41 = .ok (.iload_n 3, 1) := by decide +kernel
theorem dX8_blend_42 : decode cX8_blend 42 = .ok (.iload 4, 2) := by decide +kernel
theorem dX8_blend_44 : decode cX8_blend 44 = .ok (.iand, 1) := by decide +kernel
theorem dX8_blend_45 : decode cX8_blend 45 = .ok (.ifCond .ne 20, 3) := by decide +kernel
theorem dX8_blend_48 : decode cX8_blend 48 = .ok (.iload_n 3, 1) := by decide +kernel
theorem dX8_blend_49 : decode cX8_blend 49 = .ok (.iconst 1, 1) := by decide +kernel
theorem dX8_blend_50 : decode cX8_blend 50 = .ok (.ishl, 1) := by decide +kernel
theorem dX8_blend_51 : decode cX8_blend 51 = .ok (.iload_n 3, 1) := by decide +kernel
theorem dX8_blend_52 : decode cX8_blend 52 = .ok (.iconst 1, 1) := by decide +kernel
theorem dX8_blend_53 : decode cX8_blend 53 = .ok (.ishr, 1) := by decide +kernel
theorem dX8_blend_54 : decode cX8_blend 54 = .ok (.ior, 1) := by decide +kernel
theorem dX8_blend_55 : decode cX8_blend 55 = .ok (.iload 4, 2) := by decide +kernel
theorem dX8_blend_57 : decode cX8_blend 57 = .ok (.iand, 1) := by decide +kernel
theorem dX8_blend_58 : decode cX8_blend 58 = .ok (.ifCond .eq 7, 3) := by decide +kernel
theorem dX8_blend_61 : decode cX8_blend 61 = .ok (.iconst 1, 1) := by decide +kernel
theorem dX8_blend_62 : decode cX8_blend 62 = .ok (.goto 4, 3) := by decide +kernel
theorem dX8_blend_65 : decode cX8_blend 65 = .ok (.iconst 0, 1) := by decide +kernel
theorem dX8_blend_66 : decode cX8_blend 66 = .ok (.istore 5, 2) := by decide +kernel
theorem dX8_blend_68 : decode cX8_blend 68 = .ok (.iload 5, 2) := by decide +kernel
theorem dX8_blend_70 : decode cX8_blend 70 = .ok (.ifCond .eq 10, 3) := by decide +kernel
theorem dX8_blend_73 : decode cX8_blend 73 = .ok (.iload_n 3, 1) := by decide +kernel
theorem dX8_blend_74 : decode cX8_blend 74 = .ok (.iload 4, 2) := by decide +kernel
theorem dX8_blend_76 : decode cX8_blend 76 = .ok (.ior, 1) := by decide +kernel
theorem dX8_blend_77 : decode cX8_blend 77 = .ok (.goto 9, 3) := by decide +kernel
theorem dX8_blend_80 : decode cX8_blend 80 = .ok (.aload_n 0, 1) := by decide +kernel
theorem dX8_blend_81 : decode cX8_blend 81 = .ok (.ldc 110, 2) := by decide +kernel
theorem dX8_blend_83 : decode cX8_blend 83 = .ok (.invokevirtual 73, 3) := by decide +kernel
theorem dX8_blend_86 : decode cX8_blend 86 = .ok (.ireturn, 1) := by decide +kernel
theorem dX8_thief_0 : decode cX8_thief 0 = .ok (.iload_n 1, 1) := by decide +kernel
theorem dX8_thief_1 : decode cX8_thief 1 = .ok (.iconst 1, 1) := by decide +kernel
theorem dX8_thief_2 : decode cX8_thief 2 = .ok (.ldc 109, 2) := by decide +kernel
theorem dX8_thief_4 : decode cX8_thief 4 = .ok (.invokestatic 47, 3) := by decide +kernel
theorem dX8_thief_7 : decode cX8_thief 7 = .ok (.ifCond .ne 10, 3) := by decide +kernel
theorem dX8_thief_10 : decode cX8_thief 10 = .ok (.aload_n 0, 1) := by decide +kernel
theorem dX8_thief_11 : decode cX8_thief 11 = .ok (.ldc 72, 2) := by decide +kernel
theorem dX8_thief_13 : decode cX8_thief 13 = .ok (.invokevirtual 73, 3) := by decide +kernel
theorem dX8_thief_16 : decode cX8_thief 16 = .ok (.ireturn, 1) := by decide +kernel
theorem dX8_thief_17 : decode cX8_thief 17 = .ok (.aload_n 0, 1) := by decide +kernel
theorem dX8_thief_18 : decode cX8_thief 18 = .ok (.invokevirtual 207, 3) := by decide +kernel
theorem dX8_thief_21 : decode cX8_thief 21 = .ok (.iconst 0, 1) := by decide +kernel
theorem dX8_thief_22 : decode cX8_thief 22 = .ok (.istore_n 2, 1) := by decide +kernel
theorem dX8_thief_23 : decode cX8_thief 23 = .ok (.iload_n 2, 1) := by decide +kernel
theorem dX8_thief_24 : decode cX8_thief 24 = .ok (.bipush 20, 2) := by decide +kernel
theorem dX8_thief_26 : decode cX8_thief 26 = .ok (.if_icmp .ge 40, 3) := by decide +kernel
theorem dX8_thief_29 : decode cX8_thief 29 = .ok (.aload_n 0, 1) := by decide +kernel
theorem dX8_thief_30 : decode cX8_thief 30 = .ok (.getfield 9, 3) := by decide +kernel
theorem dX8_thief_33 : decode cX8_thief 33 = .ok (.bipush 31, 2) := by decide +kernel
theorem dX8_thief_35 : decode cX8_thief 35 = .ok (.iload_n 2, 1) := by decide +kernel
theorem dX8_thief_36 : decode cX8_thief 36 = .ok (.iadd, 1) := by decide +kernel
theorem dX8_thief_37 : decode cX8_thief 37 = .ok (.iload_n 1, 1) := by decide +kernel
theorem dX8_thief_38 : decode cX8_thief 38 = .ok (.iload_n 2, 1) := by decide +kernel
theorem dX8_thief_39 : decode cX8_thief 39 = .ok (.ishr, 1) := by decide +kernel
theorem dX8_thief_40 : decode cX8_thief 40 = .ok (.iconst 1, 1) := by decide +kernel
theorem dX8_thief_41 : decode cX8_thief 41 = .ok (.iand, 1) := by decide +kernel
theorem dX8_thief_42 : decode cX8_thief 42 = .ok (.iconst 1, 1) := by decide +kernel
theorem dX8_thief_43 : decode cX8_thief 43 = .ok (.if_icmp .ne 7, 3) := by decide +kernel
theorem dX8_thief_46 : decode cX8_thief 46 = .ok (.iconst 0, 1) := by decide +kernel
theorem dX8_thief_47 : decode cX8_thief 47 = .ok (.goto 12, 3) := by decide +kernel
theorem dX8_thief_50 : decode cX8_thief 50 = .ok (.aload_n 0, 1) := by decide +kernel
theorem dX8_thief_51 : decode cX8_thief 51 = .ok (.getfield 9, 3) := by decide +kernel
theorem dX8_thief_54 : decode cX8_thief 54 = .ok (.bipush 31, 2) := by decide +kernel
theorem dX8_thief_56 : decode cX8_thief 56 = .ok (.iload_n 2, 1) := by decide +kernel
theorem dX8_thief_57 : decode cX8_thief 57 = .ok (.iadd, 1) := by decide +kernel
theorem dX8_thief_58 : decode cX8_thief 58 = .ok (.iaload, 1) := by decide +kernel
theorem dX8_thief_59 : decode cX8_thief 59 = .ok (.iastore, 1) := by decide +kernel
theorem dX8_thief_60 : decode cX8_thief 60 = .ok (.iinc 2 1, 3) := by decide +kernel
theorem dX8_thief_63 : decode cX8_thief 63 = .ok (.goto (-40), 3) := by decide +kernel
theorem dX8_thief_66 : decode cX8_thief 66 = .ok (.iconst 0, 1) := by decide +kernel
theorem dX8_thief_67 : decode cX8_thief 67 = .ok (.istore_n 2, 1) := by decide +kernel
theorem dX8_thief_68 : decode cX8_thief 68 = .ok (.iconst 0, 1) := by decide +kernel
theorem dX8_thief_69 : decode cX8_thief 69 = .ok (.istore_n 3, 1) := by decide +kernel
theorem dX8_thief_70 : decode cX8_thief 70 = .ok (.iload_n 3, 1) := by decide +kernel
theorem dX8_thief_71 : decode cX8_thief 71 = .ok (.bipush 20, 2) := by decide +kernel
theorem dX8_thief_73 : decode cX8_thief 73 = .ok (.if_icmp .ge 45, 3) := by decide +kernel
theorem dX8_thief_76 : decode cX8_thief 76 = .ok (.iload_n 2, 1) := by decide +kernel
theorem dX8_thief_77 : decode cX8_thief 77 = .ok (.iload_n 1, 1) := by decide +kernel
theorem dX8_thief_78 : decode cX8_thief 78 = .ok (.aload_n 0, 1) := by decide +kernel
theorem dX8_thief_79 : decode cX8_thief 79 = .ok (.iload_n 3, 1) := by decide +kernel
theorem dX8_thief_80 : decode cX8_thief 80 = .ok (.iconst 0, 1) := by decide +kernel
theorem dX8_thief_81 : decode cX8_thief 81 = .ok (.invokevirtual 62, 3) := by decide +kernel
theorem dX8_thief_84 : decode cX8_thief 84 = .ok (.iconst (-1), 1) := by decide +kernel
theorem dX8_thief_85 : decode cX8_thief 85 = .ok (.ixor, 1) := by decide +kernel
theorem dX8_thief_86 : decode cX8_thief 86 = .ok (.iand, 1) := by decide +kernel
theorem dX8_thief_87 : decode cX8_thief 87 = .ok (.ifCond .eq 16, 3) := by decide +kernel
theorem dX8_thief_90 : decode cX8_thief 90 = .ok (.iload_n 1, 1) := by decide +kernel
theorem dX8_thief_91 : decode cX8_thief 91 = .ok (.aload_n 0, 1) := by decide +kernel
theorem dX8_thief_92 : decode cX8_thief 92 = .ok (.iload_n 3, 1) := by decide +kernel
theorem dX8_thief_93 : decode cX8_thief 93 = .ok (.iconst 1, 1) := by decide +kernel
theorem dX8_thief_94 : decode cX8_thief 94 = .ok (.invokevirtual 62, 3) := by decide +kernel
theorem dX8_thief_97 : decode cX8_thief 97 = .ok (.iconst (-1), 1) := by decide +kernel
theorem dX8_thief_98 : decode cX8_thief 98 = .ok (.ixor, 1) := by decide +kernel
theorem dX8_thief_99 : decode cX8_thief 99 = .ok (.iand, 1) := by decide +kernel
theorem dX8_thief_100 : decode cX8_thief 100 = .ok (.ifCond .ne 9, 3) := by decide +kernel
theorem dX8_thief_103 : decode cX8_thief 103 = .ok (.iconst 1, 1) := by decide +kernel
theorem dX8_thief_104 : decode cX8_thief 104 = .ok (.iload_n 3, 1) := by decide +kernel
theorem dX8_thief_105 : decode cX8_thief 105 = .ok (.ishl, 1) := by decide +kernel
theorem dX8_thief_106 : decode cX8_thief 106 = .ok (.goto 4, 3) := by decide +kernel
theorem dX8_thief_109 : decode cX8_thief 109 = .ok (.iconst 0, 1) := by decide +kernel
theorem dX8_thief_110 : decode cX8_thief 110 = .ok (.ior, 1) := by decide +kernel
theorem dX8_thief_111 : decode cX8_thief 111 = .ok (.istore_n 2, 1) := by decide +kernel
theorem dX8_thief_112 : decode cX8_thief 112 = .ok (.iinc 3 1, 3) := by decide +kernel
theorem dX8_thief_115 : decode cX8_thief 115 = .ok (.goto (-45), 3) := by decide +kernel
theorem dX8_thief_118 : decode cX8_thief 118 = .ok (.aload_n 0, 1) := by decide +kernel
theorem dX8_thief_119 : decode cX8_thief 119 = .ok (.invokevirtual 210, 3) := by decide +kernel
theorem dX8_thief_122 : decode cX8_thief 122 = .ok (.iload_n 2, 1) := by decide +kernel
theorem dX8_thief_123 : decode cX8_thief 123 = .ok (.ireturn, 1) := by decide +kernel
theorem dX8_both_0 : decode cX8_both 0 = .ok (.iconst 0, 1) := by decide +kernel
theorem dX8_both_1 : decode cX8_both 1 = .ok (.istore_n 1, 1) := by decide +kernel
theorem dX8_both_2 : decode cX8_both 2 = .ok (.iconst 0, 1) := by decide +kernel
theorem dX8_both_3 : decode cX8_both 3 = .ok (.istore_n 2, 1) := by decide +kernel
theorem dX8_both_4 : decode cX8_both 4 = .ok (.iconst 0, 1) := by decide +kernel
theorem dX8_both_5 : decode cX8_both 5 = .ok (.istore_n 3, 1) := by decide +kernel
theorem dX8_both_6 : decode cX8_both 6 = .ok (.iload_n 3, 1) := by decide +kernel
theorem dX8_both_7 : decode cX8_both 7 = .ok (.aload_n 0, 1) := by decide +kernel
theorem dX8_both_8 : decode cX8_both 8 = .ok (.getfield 9, 3) := by decide +kernel
theorem dX8_both_11 : decode cX8_both 11 = .ok (.iconst 2, 1) := by decide +kernel
theorem dX8_both_12 : decode cX8_both 12 = .ok (.iaload, 1) := by decide +kernel
theorem dX8_both_13 : decode cX8_both 13 = .ok (.if_icmp .ge 43, 3) := by decide +kernel
theorem dX8_both_16 : decode cX8_both 16 = .ok (.iload_n 1, 1) := by decide +kernel
theorem dX8_both_17 : decode cX8_both 17 = .ok (.aload_n 0, 1) := by decide +kernel
theorem dX8_both_18 : decode cX8_both 18 = .ok (.aload_n 0, 1) := by decide +kernel
theorem dX8_both_19 : decode cX8_both 19 = .ok (.getfield 9, 3) := by decide +kernel
theorem dX8_both_22 : decode cX8_both 22 = .ok (.bipush 6, 2) := by decide +kernel
theorem dX8_both_24 : decode cX8_both 24 = .ok (.iload_n 3, 1) := by decide +kernel
theorem dX8_both_25 : decode cX8_both 25 = .ok (.iadd, 1) := by decide +kernel
theorem dX8_both_26 : decode cX8_both 26 = .ok (.iaload, 1) := by decide +kernel
theorem dX8_both_27 : decode cX8_both 27 = .ok (.iconst 0, 1) := by decide +kernel
theorem dX8_both_28 : decode cX8_both 28 = .ok (.invokevirtual 62, 3) := by decide +kernel
theorem dX8_both_31 : decode cX8_both 31 = .ok (.ior, 1) := by decide +kernel
theorem dX8_both_32 : decode cX8_both 32 = .ok (.istore_n 1, 1) := by decide +kernel
theorem dX8_both_33 : decode cX8_both 33 = .ok (.iload_n 2, 1) := by decide +kernel
theorem dX8_both_34 : decode cX8_both 34 = .ok (.aload_n 0, 1) := by decide +kernel
theorem dX8_both_35 : decode cX8_both 35 = .ok (.aload_n 0, 1) := by decide +kernel
theorem dX8_both_36 : decode cX8_both 36 = .ok (.getfield 9, 3) := by decide +kernel
theorem dX8_both_39 : decode cX8_both 39 = .ok (.bipush 6, 2) := by decide +kernel
theorem dX8_both_41 : decode cX8_both 41 = .ok (.iload_n 3, 1) := by decide +kernel
theorem dX8_both_42 : decode cX8_both 42 = .ok (.iadd, 1) := by decide +kernel
theorem dX8_both_43 : decode cX8_both 43 = .ok (.iaload, 1) := by decide +kernel
theorem dX8_both_44 : decode cX8_both 44 = .ok (.iconst 1, 1) := by decide +kernel
theorem dX8_both_45 : decode cX8_both 45 = .ok (.invokevirtual 62, 3) := by decide +kernel
theorem dX8_both_48 : decode cX8_both 48 = .ok (.ior, 1) := by decide +kernel
theorem dX8_both_49 : decode cX8_both 49 = .ok (.istore_n 2, 1) := by decide +kernel
theorem dX8_both_50 : decode cX8_both 50 = .ok (.iinc 3 1, 3) := by decide +kernel
theorem dX8_both_53 : decode cX8_both 53 = .ok (.goto (-47), 3) := by decide +kernel
theorem dX8_both_56 : decode cX8_both 56 = .ok (.iload_n 1, 1) := by decide +kernel
theorem dX8_both_57 : decode cX8_both 57 = .ok (.iload_n 2, 1) := by decide +kernel
end
section
theorem dX8_both_58 : decode cX8_both 58 = .ok (.iand, 1) := by decide +kernel
theorem dX8_both_59 : decode cX8_both 59 = .ok (.ireturn, 1) := by decide +kernel
theorem dX8_seed_0 : decode cX8_seed 0 = .ok (.aload_n 0, 1) := by decide +kernel
theorem dX8_seed_1 : decode cX8_seed 1 = .ok (.iconst 1, 1) := by decide +kernel
theorem dX8_seed_2 : decode cX8_seed 2 = .ok (.iload_n 1, 1) := by decide +kernel
theorem dX8_seed_3 : decode cX8_seed 3 = .ok (.invokevirtual 76, 3) := by decide +kernel
theorem dX8_seed_6 : decode cX8_seed 6 = .ok (.ireturn, 1) := by decide +kernel
theorem dX8_begins_0 : decode cX8_begins 0 = .ok (.aload_n 0, 1) := by decide +kernel
theorem dX8_begins_1 : decode cX8_begins 1 = .ok (.getfield 220, 3) := by decide +kernel
theorem dX8_begins_4 : decode cX8_begins 4 = .ok (.bipush 40, 2) := by decide +kernel
theorem dX8_begins_6 : decode cX8_begins 6 = .ok (.if_icmp .ge 23, 3) := by decide +kernel
theorem dX8_begins_9 : decode cX8_begins 9 = .ok (.aload_n 0, 1) := by decide +kernel
theorem dX8_begins_10 : decode cX8_begins 10 = .ok (.getfield 34, 3) := by decide +kernel
theorem dX8_begins_13 : decode cX8_begins 13 = .ok (.aload_n 0, 1) := by decide +kernel
theorem dX8_begins_14 : decode cX8_begins 14 = .ok (.getfield 220, 3) := by decide +kernel
theorem dX8_begins_17 : decode cX8_begins 17 = .ok (.iload_n 1, 1) := by decide +kernel
theorem dX8_begins_18 : decode cX8_begins 18 = .ok (.iastore, 1) := by decide +kernel
theorem dX8_begins_19 : decode cX8_begins 19 = .ok (.aload_n 0, 1) := by decide +kernel
theorem dX8_begins_20 : decode cX8_begins 20 = .ok (.dup, 1) := by decide +kernel
theorem dX8_begins_21 : decode cX8_begins 21 = .ok (.getfield 220, 3) := by decide +kernel
theorem dX8_begins_24 : decode cX8_begins 24 = .ok (.iconst 1, 1) := by decide +kernel
theorem dX8_begins_25 : decode cX8_begins 25 = .ok (.iadd, 1) := by decide +kernel
theorem dX8_begins_26 : decode cX8_begins 26 = .ok (.putfield 220, 3) := by decide +kernel
theorem dX8_begins_29 : decode cX8_begins 29 = .ok (.return_, 1) := by decide +kernel
theorem dX8_plainPours_0 : decode cX8_plainPours 0 = .ok (.aload_n 0, 1) := by decide +kernel
theorem dX8_plainPours_1 : decode cX8_plainPours 1 = .ok (.bipush 10, 2) := by decide +kernel
theorem dX8_plainPours_3 : decode cX8_plainPours 3 = .ok (.invokevirtual 223, 3) := by decide +kernel
theorem dX8_plainPours_6 : decode cX8_plainPours 6 = .ok (.iload_n 2, 1) := by decide +kernel
theorem dX8_plainPours_7 : decode cX8_plainPours 7 = .ok (.iload_n 1, 1) := by decide +kernel
theorem dX8_plainPours_8 : decode cX8_plainPours 8 = .ok (.iadd, 1) := by decide +kernel
theorem dX8_plainPours_9 : decode cX8_plainPours 9 = .ok (.ireturn, 1) := by decide +kernel
theorem dX8_pours_0 : decode cX8_pours 0 = .ok (.aload_n 0, 1) := by decide +kernel
theorem dX8_pours_1 : decode cX8_pours 1 = .ok (.iload_n 1, 1) := by decide +kernel
theorem dX8_pours_2 : decode cX8_pours 2 = .ok (.iconst 0, 1) := by decide +kernel
theorem dX8_pours_3 : decode cX8_pours 3 = .ok (.invokevirtual 89, 3) := by decide +kernel
theorem dX8_pours_6 : decode cX8_pours 6 = .ok (.istore_n 3, 1) := by decide +kernel
theorem dX8_pours_7 : decode cX8_pours 7 = .ok (.iload_n 3, 1) := by decide +kernel
theorem dX8_pours_8 : decode cX8_pours 8 = .ok (.iconst 1, 1) := by decide +kernel
theorem dX8_pours_9 : decode cX8_pours 9 = .ok (.if_icmp .eq 8, 3) := by decide +kernel
theorem dX8_pours_12 : decode cX8_pours 12 = .ok (.iload_n 3, 1) := by decide +kernel
theorem dX8_pours_13 : decode cX8_pours 13 = .ok (.iconst 4, 1) := by decide +kernel
theorem dX8_pours_14 : decode cX8_pours 14 = .ok (.if_icmp .ne 18, 3) := by decide +kernel
theorem dX8_pours_17 : decode cX8_pours 17 = .ok (.aload_n 0, 1) := by decide +kernel
theorem dX8_pours_18 : decode cX8_pours 18 = .ok (.bipush 20, 2) := by decide +kernel
theorem dX8_pours_20 : decode cX8_pours 20 = .ok (.invokevirtual 223, 3) := by decide +kernel
theorem dX8_pours_23 : decode cX8_pours 23 = .ok (.aload_n 0, 1) := by decide +kernel
theorem dX8_pours_24 : decode cX8_pours 24 = .ok (.iload_n 1, 1) := by decide +kernel
theorem dX8_pours_25 : decode cX8_pours 25 = .ok (.iload_n 2, 1) := by decide +kernel
theorem dX8_pours_26 : decode cX8_pours 26 = .ok (.invokevirtual 226, 3) := by decide +kernel
theorem dX8_pours_29 : decode cX8_pours 29 = .ok (.iconst 3, 1) := by decide +kernel
theorem dX8_pours_30 : decode cX8_pours 30 = .ok (.imul, 1) := by decide +kernel
theorem dX8_pours_31 : decode cX8_pours 31 = .ok (.ireturn, 1) := by decide +kernel
theorem dX8_pours_32 : decode cX8_pours 32 = .ok (.aload_n 0, 1) := by decide +kernel
theorem dX8_pours_33 : decode cX8_pours 33 = .ok (.iload_n 1, 1) := by decide +kernel
theorem dX8_pours_34 : decode cX8_pours 34 = .ok (.iload_n 2, 1) := by decide +kernel
theorem dX8_pours_35 : decode cX8_pours 35 = .ok (.invokevirtual 226, 3) := by decide +kernel
theorem dX8_pours_38 : decode cX8_pours 38 = .ok (.ireturn, 1) := by decide +kernel
theorem dX8_plainCosts_0 : decode cX8_plainCosts 0 = .ok (.aload_n 0, 1) := by decide +kernel
theorem dX8_plainCosts_1 : decode cX8_plainCosts 1 = .ok (.bipush 11, 2) := by decide +kernel
theorem dX8_plainCosts_3 : decode cX8_plainCosts 3 = .ok (.invokevirtual 223, 3) := by decide +kernel
theorem dX8_plainCosts_6 : decode cX8_plainCosts 6 = .ok (.aload_n 0, 1) := by decide +kernel
theorem dX8_plainCosts_7 : decode cX8_plainCosts 7 = .ok (.iload_n 1, 1) := by decide +kernel
theorem dX8_plainCosts_8 : decode cX8_plainCosts 8 = .ok (.iload_n 2, 1) := by decide +kernel
theorem dX8_plainCosts_9 : decode cX8_plainCosts 9 = .ok (.invokevirtual 229, 3) := by decide +kernel
theorem dX8_plainCosts_12 : decode cX8_plainCosts 12 = .ok (.iconst 2, 1) := by decide +kernel
theorem dX8_plainCosts_13 : decode cX8_plainCosts 13 = .ok (.imul, 1) := by decide +kernel
theorem dX8_plainCosts_14 : decode cX8_plainCosts 14 = .ok (.ireturn, 1) := by decide +kernel
theorem dX8_cutCosts_0 : decode cX8_cutCosts 0 = .ok (.aload_n 0, 1) := by decide +kernel
theorem dX8_cutCosts_1 : decode cX8_cutCosts 1 = .ok (.bipush 30, 2) := by decide +kernel
theorem dX8_cutCosts_3 : decode cX8_cutCosts 3 = .ok (.invokevirtual 223, 3) := by decide +kernel
theorem dX8_cutCosts_6 : decode cX8_cutCosts 6 = .ok (.aload_n 0, 1) := by decide +kernel
theorem dX8_cutCosts_7 : decode cX8_cutCosts 7 = .ok (.iload_n 1, 1) := by decide +kernel
theorem dX8_cutCosts_8 : decode cX8_cutCosts 8 = .ok (.iload_n 2, 1) := by decide +kernel
theorem dX8_cutCosts_9 : decode cX8_cutCosts 9 = .ok (.invokevirtual 232, 3) := by decide +kernel
theorem dX8_cutCosts_12 : decode cX8_cutCosts 12 = .ok (.istore_n 3, 1) := by decide +kernel
theorem dX8_cutCosts_13 : decode cX8_cutCosts 13 = .ok (.iload_n 3, 1) := by decide +kernel
theorem dX8_cutCosts_14 : decode cX8_cutCosts 14 = .ok (.aload_n 0, 1) := by decide +kernel
theorem dX8_cutCosts_15 : decode cX8_cutCosts 15 = .ok (.iload_n 1, 1) := by decide +kernel
theorem dX8_cutCosts_16 : decode cX8_cutCosts 16 = .ok (.iconst 1, 1) := by decide +kernel
theorem dX8_cutCosts_17 : decode cX8_cutCosts 17 = .ok (.invokevirtual 235, 3) := by decide +kernel
theorem dX8_cutCosts_20 : decode cX8_cutCosts 20 = .ok (.isub, 1) := by decide +kernel
theorem dX8_cutCosts_21 : decode cX8_cutCosts 21 = .ok (.ireturn, 1) := by decide +kernel
theorem dX8_costs_0 : decode cX8_costs 0 = .ok (.aload_n 0, 1) := by decide +kernel
theorem dX8_costs_1 : decode cX8_costs 1 = .ok (.iload_n 1, 1) := by decide +kernel
theorem dX8_costs_2 : decode cX8_costs 2 = .ok (.iconst 0, 1) := by decide +kernel
theorem dX8_costs_3 : decode cX8_costs 3 = .ok (.invokevirtual 89, 3) := by decide +kernel
theorem dX8_costs_6 : decode cX8_costs 6 = .ok (.istore_n 3, 1) := by decide +kernel
theorem dX8_costs_7 : decode cX8_costs 7 = .ok (.iload_n 3, 1) := by decide +kernel
theorem dX8_costs_8 : decode cX8_costs 8 = .ok (.iconst 5, 1) := by decide +kernel
theorem dX8_costs_9 : decode cX8_costs 9 = .ok (.if_icmp .ne 18, 3) := by decide +kernel
theorem dX8_costs_12 : decode cX8_costs 12 = .ok (.aload_n 0, 1) := by decide +kernel
theorem dX8_costs_13 : decode cX8_costs 13 = .ok (.bipush 60, 2) := by decide +kernel
theorem dX8_costs_15 : decode cX8_costs 15 = .ok (.invokevirtual 223, 3) := by decide +kernel
theorem dX8_costs_18 : decode cX8_costs 18 = .ok (.aload_n 0, 1) := by decide +kernel
theorem dX8_costs_19 : decode cX8_costs 19 = .ok (.iload_n 1, 1) := by decide +kernel
theorem dX8_costs_20 : decode cX8_costs 20 = .ok (.iload_n 2, 1) := by decide +kernel
theorem dX8_costs_21 : decode cX8_costs 21 = .ok (.iconst 1, 1) := by decide +kernel
theorem dX8_costs_22 : decode cX8_costs 22 = .ok (.iadd, 1) := by decide +kernel
theorem dX8_costs_23 : decode cX8_costs 23 = .ok (.invokevirtual 238, 3) := by decide +kernel
theorem dX8_costs_26 : decode cX8_costs 26 = .ok (.ireturn, 1) := by decide +kernel
theorem dX8_costs_27 : decode cX8_costs 27 = .ok (.iload_n 3, 1) := by decide +kernel
theorem dX8_costs_28 : decode cX8_costs 28 = .ok (.iconst 2, 1) := by decide +kernel
theorem dX8_costs_29 : decode cX8_costs 29 = .ok (.if_icmp .ne 12, 3) := by decide +kernel
theorem dX8_costs_32 : decode cX8_costs 32 = .ok (.aload_n 0, 1) := by decide +kernel
theorem dX8_costs_33 : decode cX8_costs 33 = .ok (.iload_n 1, 1) := by decide +kernel
theorem dX8_costs_34 : decode cX8_costs 34 = .ok (.iload_n 2, 1) := by decide +kernel
theorem dX8_costs_35 : decode cX8_costs 35 = .ok (.invokevirtual 238, 3) := by decide +kernel
theorem dX8_costs_38 : decode cX8_costs 38 = .ok (.goto 9, 3) := by decide +kernel
theorem dX8_costs_41 : decode cX8_costs 41 = .ok (.aload_n 0, 1) := by decide +kernel
theorem dX8_costs_42 : decode cX8_costs 42 = .ok (.iload_n 1, 1) := by decide +kernel
theorem dX8_costs_43 : decode cX8_costs 43 = .ok (.iload_n 2, 1) := by decide +kernel
theorem dX8_costs_44 : decode cX8_costs 44 = .ok (.invokevirtual 232, 3) := by decide +kernel
theorem dX8_costs_47 : decode cX8_costs 47 = .ok (.ireturn, 1) := by decide +kernel
theorem dX8_plainAges_0 : decode cX8_plainAges 0 = .ok (.aload_n 0, 1) := by decide +kernel
theorem dX8_plainAges_1 : decode cX8_plainAges 1 = .ok (.bipush 12, 2) := by decide +kernel
theorem dX8_plainAges_3 : decode cX8_plainAges 3 = .ok (.invokevirtual 223, 3) := by decide +kernel
theorem dX8_plainAges_6 : decode cX8_plainAges 6 = .ok (.iload_n 2, 1) := by decide +kernel
theorem dX8_plainAges_7 : decode cX8_plainAges 7 = .ok (.aload_n 0, 1) := by decide +kernel
theorem dX8_plainAges_8 : decode cX8_plainAges 8 = .ok (.iload_n 1, 1) := by decide +kernel
theorem dX8_plainAges_9 : decode cX8_plainAges 9 = .ok (.iconst 1, 1) := by decide +kernel
theorem dX8_plainAges_10 : decode cX8_plainAges 10 = .ok (.invokevirtual 89, 3) := by decide +kernel
theorem dX8_plainAges_13 : decode cX8_plainAges 13 = .ok (.isub, 1) := by decide +kernel
theorem dX8_plainAges_14 : decode cX8_plainAges 14 = .ok (.ireturn, 1) := by decide +kernel
theorem dX8_oldAges_0 : decode cX8_oldAges 0 = .ok (.aload_n 0, 1) := by decide +kernel
theorem dX8_oldAges_1 : decode cX8_oldAges 1 = .ok (.bipush 40, 2) := by decide +kernel
theorem dX8_oldAges_3 : decode cX8_oldAges 3 = .ok (.invokevirtual 223, 3) := by decide +kernel
theorem dX8_oldAges_6 : decode cX8_oldAges 6 = .ok (.aload_n 0, 1) := by decide +kernel
theorem dX8_oldAges_7 : decode cX8_oldAges 7 = .ok (.iload_n 1, 1) := by decide +kernel
theorem dX8_oldAges_8 : decode cX8_oldAges 8 = .ok (.iload_n 2, 1) := by decide +kernel
theorem dX8_oldAges_9 : decode cX8_oldAges 9 = .ok (.invokevirtual 241, 3) := by decide +kernel
theorem dX8_oldAges_12 : decode cX8_oldAges 12 = .ok (.ineg, 1) := by decide +kernel
theorem dX8_oldAges_13 : decode cX8_oldAges 13 = .ok (.ireturn, 1) := by decide +kernel
theorem dX8_ages_0 : decode cX8_ages 0 = .ok (.aload_n 0, 1) := by decide +kernel
theorem dX8_ages_1 : decode cX8_ages 1 = .ok (.iload_n 1, 1) := by decide +kernel
theorem dX8_ages_2 : decode cX8_ages 2 = .ok (.iconst 0, 1) := by decide +kernel
theorem dX8_ages_3 : decode cX8_ages 3 = .ok (.invokevirtual 89, 3) := by decide +kernel
theorem dX8_ages_6 : decode cX8_ages 6 = .ok (.istore_n 3, 1) := by decide +kernel
theorem dX8_ages_7 : decode cX8_ages 7 = .ok (.iload_n 3, 1) := by decide +kernel
theorem dX8_ages_8 : decode cX8_ages 8 = .ok (.bipush 6, 2) := by decide +kernel
theorem dX8_ages_10 : decode cX8_ages 10 = .ok (.if_icmp .ne 18, 3) := by decide +kernel
theorem dX8_ages_13 : decode cX8_ages 13 = .ok (.aload_n 0, 1) := by decide +kernel
theorem dX8_ages_14 : decode cX8_ages 14 = .ok (.bipush 70, 2) := by decide +kernel
theorem dX8_ages_16 : decode cX8_ages 16 = .ok (.invokevirtual 223, 3) := by decide +kernel
theorem dX8_ages_19 : decode cX8_ages 19 = .ok (.aload_n 0, 1) := by decide +kernel
theorem dX8_ages_20 : decode cX8_ages 20 = .ok (.iload_n 1, 1) := by decide +kernel
theorem dX8_ages_21 : decode cX8_ages 21 = .ok (.iload_n 2, 1) := by decide +kernel
theorem dX8_ages_22 : decode cX8_ages 22 = .ok (.invokevirtual 244, 3) := by decide +kernel
theorem dX8_ages_25 : decode cX8_ages 25 = .ok (.iload_n 1, 1) := by decide +kernel
theorem dX8_ages_26 : decode cX8_ages 26 = .ok (.ixor, 1) := by decide +kernel
theorem dX8_ages_27 : decode cX8_ages 27 = .ok (.ireturn, 1) := by decide +kernel
theorem dX8_ages_28 : decode cX8_ages 28 = .ok (.iload_n 3, 1) := by decide +kernel
theorem dX8_ages_29 : decode cX8_ages 29 = .ok (.iconst 3, 1) := by decide +kernel
theorem dX8_ages_30 : decode cX8_ages 30 = .ok (.if_icmp .ne 12, 3) := by decide +kernel
theorem dX8_ages_33 : decode cX8_ages 33 = .ok (.aload_n 0, 1) := by decide +kernel
theorem dX8_ages_34 : decode cX8_ages 34 = .ok (.iload_n 1, 1) := by decide +kernel
theorem dX8_ages_35 : decode cX8_ages 35 = .ok (.iload_n 2, 1) := by decide +kernel
theorem dX8_ages_36 : decode cX8_ages 36 = .ok (.invokevirtual 244, 3) := by decide +kernel
theorem dX8_ages_39 : decode cX8_ages 39 = .ok (.goto 9, 3) := by decide +kernel
theorem dX8_ages_42 : decode cX8_ages 42 = .ok (.aload_n 0, 1) := by decide +kernel
theorem dX8_ages_43 : decode cX8_ages 43 = .ok (.iload_n 1, 1) := by decide +kernel
theorem dX8_ages_44 : decode cX8_ages 44 = .ok (.iload_n 2, 1) := by decide +kernel
theorem dX8_ages_45 : decode cX8_ages 45 = .ok (.invokevirtual 241, 3) := by decide +kernel
theorem dX8_ages_48 : decode cX8_ages 48 = .ok (.ireturn, 1) := by decide +kernel
theorem dX8_plainTells_0 : decode cX8_plainTells 0 = .ok (.aload_n 0, 1) := by decide +kernel
theorem dX8_plainTells_1 : decode cX8_plainTells 1 = .ok (.bipush 13, 2) := by decide +kernel
theorem dX8_plainTells_3 : decode cX8_plainTells 3 = .ok (.invokevirtual 223, 3) := by decide +kernel
theorem dX8_plainTells_6 : decode cX8_plainTells 6 = .ok (.aload_n 0, 1) := by decide +kernel
theorem dX8_plainTells_7 : decode cX8_plainTells 7 = .ok (.iload_n 1, 1) := by decide +kernel
theorem dX8_plainTells_8 : decode cX8_plainTells 8 = .ok (.iload_n 2, 1) := by decide +kernel
theorem dX8_plainTells_9 : decode cX8_plainTells 9 = .ok (.invokevirtual 247, 3) := by decide +kernel
theorem dX8_plainTells_12 : decode cX8_plainTells 12 = .ok (.istore_n 3, 1) := by decide +kernel
theorem dX8_plainTells_13 : decode cX8_plainTells 13 = .ok (.iload_n 3, 1) := by decide +kernel
theorem dX8_plainTells_14 : decode cX8_plainTells 14 = .ok (.aload_n 0, 1) := by decide +kernel
theorem dX8_plainTells_15 : decode cX8_plainTells 15 = .ok (.iload_n 1, 1) := by decide +kernel
theorem dX8_plainTells_16 : decode cX8_plainTells 16 = .ok (.iload_n 2, 1) := by decide +kernel
theorem dX8_plainTells_17 : decode cX8_plainTells 17 = .ok (.invokevirtual 235, 3) := by decide +kernel
theorem dX8_plainTells_20 : decode cX8_plainTells 20 = .ok (.ixor, 1) := by decide +kernel
theorem dX8_plainTells_21 : decode cX8_plainTells 21 = .ok (.ireturn, 1) := by decide +kernel
theorem dX8_tells_0 : decode cX8_tells 0 = .ok (.aload_n 0, 1) := by decide +kernel
theorem dX8_tells_1 : decode cX8_tells 1 = .ok (.iload_n 1, 1) := by decide +kernel
theorem dX8_tells_2 : decode cX8_tells 2 = .ok (.iconst 0, 1) := by decide +kernel
theorem dX8_tells_3 : decode cX8_tells 3 = .ok (.invokevirtual 89, 3) := by decide +kernel
theorem dX8_tells_6 : decode cX8_tells 6 = .ok (.istore_n 3, 1) := by decide +kernel
theorem dX8_tells_7 : decode cX8_tells 7 = .ok (.iload_n 3, 1) := by decide +kernel
theorem dX8_tells_8 : decode cX8_tells 8 = .ok (.iconst 4, 1) := by decide +kernel
theorem dX8_tells_9 : decode cX8_tells 9 = .ok (.if_icmp .ne 27, 3) := by decide +kernel
theorem dX8_tells_12 : decode cX8_tells 12 = .ok (.aload_n 0, 1) := by decide +kernel
theorem dX8_tells_13 : decode cX8_tells 13 = .ok (.bipush 50, 2) := by decide +kernel
theorem dX8_tells_15 : decode cX8_tells 15 = .ok (.invokevirtual 223, 3) := by decide +kernel
theorem dX8_tells_18 : decode cX8_tells 18 = .ok (.aload_n 0, 1) := by decide +kernel
theorem dX8_tells_19 : decode cX8_tells 19 = .ok (.iload_n 1, 1) := by decide +kernel
theorem dX8_tells_20 : decode cX8_tells 20 = .ok (.iload_n 2, 1) := by decide +kernel
theorem dX8_tells_21 : decode cX8_tells 21 = .ok (.invokevirtual 250, 3) := by decide +kernel
theorem dX8_tells_24 : decode cX8_tells 24 = .ok (.istore 4, 2) := by decide +kernel
theorem dX8_tells_26 : decode cX8_tells 26 = .ok (.iload 4, 2) := by decide +kernel
theorem dX8_tells_28 : decode cX8_tells 28 = .ok (.aload_n 0, 1) := by decide +kernel
theorem dX8_tells_29 : decode cX8_tells 29 = .ok (.iload_n 1, 1) := by decide +kernel
theorem dX8_tells_30 : decode cX8_tells 30 = .ok (.iconst 2, 1) := by decide +kernel
theorem dX8_tells_31 : decode cX8_tells 31 = .ok (.invokevirtual 229, 3) := by decide +kernel
theorem dX8_tells_34 : decode cX8_tells 34 = .ok (.isub, 1) := by decide +kernel
theorem dX8_tells_35 : decode cX8_tells 35 = .ok (.ireturn, 1) := by decide +kernel
theorem dX8_tells_36 : decode cX8_tells 36 = .ok (.iload_n 3, 1) := by decide +kernel
theorem dX8_tells_37 : decode cX8_tells 37 = .ok (.bipush 6, 2) := by decide +kernel
theorem dX8_tells_39 : decode cX8_tells 39 = .ok (.if_icmp .ne 27, 3) := by decide +kernel
theorem dX8_tells_42 : decode cX8_tells 42 = .ok (.aload_n 0, 1) := by decide +kernel
theorem dX8_tells_43 : decode cX8_tells 43 = .ok (.bipush 71, 2) := by decide +kernel
theorem dX8_tells_45 : decode cX8_tells 45 = .ok (.invokevirtual 223, 3) := by decide +kernel
theorem dX8_tells_48 : decode cX8_tells 48 = .ok (.aload_n 0, 1) := by decide +kernel
theorem dX8_tells_49 : decode cX8_tells 49 = .ok (.iload_n 1, 1) := by decide +kernel
theorem dX8_tells_50 : decode cX8_tells 50 = .ok (.iload_n 2, 1) := by decide +kernel
theorem dX8_tells_51 : decode cX8_tells 51 = .ok (.invokevirtual 247, 3) := by decide +kernel
theorem dX8_tells_54 : decode cX8_tells 54 = .ok (.istore 4, 2) := by decide +kernel
theorem dX8_tells_56 : decode cX8_tells 56 = .ok (.iload 4, 2) := by decide +kernel
theorem dX8_tells_58 : decode cX8_tells 58 = .ok (.aload_n 0, 1) := by decide +kernel
theorem dX8_tells_59 : decode cX8_tells 59 = .ok (.iload_n 1, 1) := by decide +kernel
theorem dX8_tells_60 : decode cX8_tells 60 = .ok (.iload_n 2, 1) := by decide +kernel
theorem dX8_tells_61 : decode cX8_tells 61 = .ok (.invokevirtual 250, 3) := by decide +kernel
theorem dX8_tells_64 : decode cX8_tells 64 = .ok (.isub, 1) := by decide +kernel
theorem dX8_tells_65 : decode cX8_tells 65 = .ok (.ireturn, 1) := by decide +kernel
theorem dX8_tells_66 : decode cX8_tells 66 = .ok (.aload_n 0, 1) := by decide +kernel
theorem dX8_tells_67 : decode cX8_tells 67 = .ok (.iload_n 1, 1) := by decide +kernel
theorem dX8_tells_68 : decode cX8_tells 68 = .ok (.iload_n 2, 1) := by decide +kernel
theorem dX8_tells_69 : decode cX8_tells 69 = .ok (.invokevirtual 250, 3) := by decide +kernel
theorem dX8_tells_72 : decode cX8_tells 72 = .ok (.ireturn, 1) := by decide +kernel
theorem dX8_voice_0 : decode cX8_voice 0 = .ok (.aload_n 0, 1) := by decide +kernel
theorem dX8_voice_1 : decode cX8_voice 1 = .ok (.iload_n 1, 1) := by decide +kernel
theorem dX8_voice_2 : decode cX8_voice 2 = .ok (.invokevirtual 115, 3) := by decide +kernel
theorem dX8_voice_5 : decode cX8_voice 5 = .ok (.ifCond .eq 12, 3) := by decide +kernel
theorem dX8_voice_8 : decode cX8_voice 8 = .ok (.iload_n 2, 1) := by decide +kernel
theorem dX8_voice_9 : decode cX8_voice 9 = .ok (.iconst 0, 1) := by decide +kernel
theorem dX8_voice_10 : decode cX8_voice 10 = .ok (.iconst 3, 1) := by decide +kernel
theorem dX8_voice_11 : decode cX8_voice 11 = .ok (.invokestatic 47, 3) := by decide +kernel
theorem dX8_voice_14 : decode cX8_voice 14 = .ok (.ifCond .ne 10, 3) := by decide +kernel
theorem dX8_voice_17 : decode cX8_voice 17 = .ok (.aload_n 0, 1) := by decide +kernel
theorem dX8_voice_18 : decode cX8_voice 18 = .ok (.ldc 72, 2) := by decide +kernel
theorem dX8_voice_20 : decode cX8_voice 20 = .ok (.invokevirtual 73, 3) := by decide +kernel
theorem dX8_voice_23 : decode cX8_voice 23 = .ok (.ireturn, 1) := by decide +kernel
theorem dX8_voice_24 : decode cX8_voice 24 = .ok (.aload_n 0, 1) := by decide +kernel
theorem dX8_voice_25 : decode cX8_voice 25 = .ok (.iconst 0, 1) := by decide +kernel
theorem dX8_voice_26 : decode cX8_voice 26 = .ok (.putfield 220, 3) := by decide +kernel
theorem dX8_voice_29 : decode cX8_voice 29 = .ok (.iload_n 2, 1) := by decide +kernel
theorem dX8_voice_30 : decode cX8_voice 30 = .ok (.tableswitch 47 0 2 #[26, 33, 40], 26) := by decide +kernel
theorem dX8_voice_56 : decode cX8_voice 56 = .ok (.aload_n 0, 1) := by decide +kernel
theorem dX8_voice_57 : decode cX8_voice 57 = .ok (.iload_n 1, 1) := by decide +kernel
theorem dX8_voice_58 : decode cX8_voice 58 = .ok (.iload_n 3, 1) := by decide +kernel
theorem dX8_voice_59 : decode cX8_voice 59 = .ok (.invokevirtual 229, 3) := by decide +kernel
theorem dX8_voice_62 : decode cX8_voice 62 = .ok (.ireturn, 1) := by decide +kernel
theorem dX8_voice_63 : decode cX8_voice 63 = .ok (.aload_n 0, 1) := by decide +kernel
theorem dX8_voice_64 : decode cX8_voice 64 = .ok (.iload_n 1, 1) := by decide +kernel
theorem dX8_voice_65 : decode cX8_voice 65 = .ok (.iload_n 3, 1) := by decide +kernel
theorem dX8_voice_66 : decode cX8_voice 66 = .ok (.invokevirtual 247, 3) := by decide +kernel
theorem dX8_voice_69 : decode cX8_voice 69 = .ok (.ireturn, 1) := by decide +kernel
theorem dX8_voice_70 : decode cX8_voice 70 = .ok (.aload_n 0, 1) := by decide +kernel
theorem dX8_voice_71 : decode cX8_voice 71 = .ok (.iload_n 1, 1) := by decide +kernel
theorem dX8_voice_72 : decode cX8_voice 72 = .ok (.iload_n 3, 1) := by decide +kernel
theorem dX8_voice_73 : decode cX8_voice 73 = .ok (.invokevirtual 235, 3) := by decide +kernel
theorem dX8_voice_76 : decode cX8_voice 76 = .ok (.ireturn, 1) := by decide +kernel
theorem dX8_voice_77 : decode cX8_voice 77 = .ok (.aload_n 0, 1) := by decide +kernel
theorem dX8_voice_78 : decode cX8_voice 78 = .ok (.iload_n 1, 1) := by decide +kernel
theorem dX8_voice_79 : decode cX8_voice 79 = .ok (.iload_n 3, 1) := by decide +kernel
theorem dX8_voice_80 : decode cX8_voice 80 = .ok (.invokevirtual 253, 3) := by decide +kernel
theorem dX8_voice_83 : decode cX8_voice 83 = .ok (.ireturn, 1) := by decide +kernel
theorem dX8_trace_0 : decode cX8_trace 0 = .ok (.iload_n 1, 1) := by decide +kernel
theorem dX8_trace_1 : decode cX8_trace 1 = .ok (.iconst 0, 1) := by decide +kernel
theorem dX8_trace_2 : decode cX8_trace 2 = .ok (.aload_n 0, 1) := by decide +kernel
theorem dX8_trace_3 : decode cX8_trace 3 = .ok (.getfield 220, 3) := by decide +kernel
theorem dX8_trace_6 : decode cX8_trace 6 = .ok (.iconst 1, 1) := by decide +kernel
theorem dX8_trace_7 : decode cX8_trace 7 = .ok (.isub, 1) := by decide +kernel
theorem dX8_trace_8 : decode cX8_trace 8 = .ok (.invokestatic 47, 3) := by decide +kernel
theorem dX8_trace_11 : decode cX8_trace 11 = .ok (.ifCond .eq 12, 3) := by decide +kernel
theorem dX8_trace_14 : decode cX8_trace 14 = .ok (.aload_n 0, 1) := by decide +kernel
theorem dX8_trace_15 : decode cX8_trace 15 = .ok (.getfield 34, 3) := by decide +kernel
theorem dX8_trace_18 : decode cX8_trace 18 = .ok (.iload_n 1, 1) := by decide +kernel
theorem dX8_trace_19 : decode cX8_trace 19 = .ok (.iaload, 1) := by decide +kernel
theorem dX8_trace_20 : decode cX8_trace 20 = .ok (.goto 9, 3) := by decide +kernel
theorem dX8_trace_23 : decode cX8_trace 23 = .ok (.aload_n 0, 1) := by decide +kernel
theorem dX8_trace_24 : decode cX8_trace 24 = .ok (.ldc 213, 2) := by decide +kernel
theorem dX8_trace_26 : decode cX8_trace 26 = .ok (.invokevirtual 73, 3) := by decide +kernel
theorem dX8_trace_29 : decode cX8_trace 29 = .ok (.ireturn, 1) := by decide +kernel
theorem dX8_isSheet_0 : decode cX8_isSheet 0 = .ok (.iload_n 0, 1) := by decide +kernel
theorem dX8_isSheet_1 : decode cX8_isSheet 1 = .ok (.iconst 0, 1) := by decide +kernel
theorem dX8_isSheet_2 : decode cX8_isSheet 2 = .ok (.iconst 3, 1) := by decide +kernel
theorem dX8_isSheet_3 : decode cX8_isSheet 3 = .ok (.invokestatic 47, 3) := by decide +kernel
theorem dX8_isSheet_6 : decode cX8_isSheet 6 = .ok (.ireturn, 1) := by decide +kernel
theorem dX8_sheet_0 : decode cX8_sheet 0 = .ok (.iload_n 1, 1) := by decide +kernel
theorem dX8_sheet_1 : decode cX8_sheet 1 = .ok (.invokestatic 256, 3) := by decide +kernel
theorem dX8_sheet_4 : decode cX8_sheet 4 = .ok (.ifCond .eq 25, 3) := by decide +kernel
theorem dX8_sheet_7 : decode cX8_sheet 7 = .ok (.iload_n 2, 1) := by decide +kernel
theorem dX8_sheet_8 : decode cX8_sheet 8 = .ok (.ifCond .eq 28, 3) := by decide +kernel
theorem dX8_sheet_11 : decode cX8_sheet 11 = .ok (.iload_n 2, 1) := by decide +kernel
theorem dX8_sheet_12 : decode cX8_sheet 12 = .ok (.bipush 8, 2) := by decide +kernel
theorem dX8_sheet_14 : decode cX8_sheet 14 = .ok (.if_icmp .eq 22, 3) := by decide +kernel
theorem dX8_sheet_17 : decode cX8_sheet 17 = .ok (.iload_n 2, 1) := by decide +kernel
theorem dX8_sheet_18 : decode cX8_sheet 18 = .ok (.bipush 16, 2) := by decide +kernel
theorem dX8_sheet_20 : decode cX8_sheet 20 = .ok (.if_icmp .eq 16, 3) := by decide +kernel
theorem dX8_sheet_23 : decode cX8_sheet 23 = .ok (.iload_n 2, 1) := by decide +kernel
theorem dX8_sheet_24 : decode cX8_sheet 24 = .ok (.bipush 32, 2) := by decide +kernel
theorem dX8_sheet_26 : decode cX8_sheet 26 = .ok (.if_icmp .eq 10, 3) := by decide +kernel
theorem dX8_sheet_29 : decode cX8_sheet 29 = .ok (.aload_n 0, 1) := by decide +kernel
theorem dX8_sheet_30 : decode cX8_sheet 30 = .ok (.ldc 72, 2) := by decide +kernel
theorem dX8_sheet_32 : decode cX8_sheet 32 = .ok (.invokevirtual 73, 3) := by decide +kernel
theorem dX8_sheet_35 : decode cX8_sheet 35 = .ok (.ireturn, 1) := by decide +kernel
theorem dX8_sheet_36 : decode cX8_sheet 36 = .ok (.iload_n 2, 1) := by decide +kernel
theorem dX8_sheet_37 : decode cX8_sheet 37 = .ok (.ifCond .le 14, 3) := by decide +kernel
theorem dX8_sheet_40 : decode cX8_sheet 40 = .ok (.iload_n 3, 1) := by decide +kernel
theorem dX8_sheet_41 : decode cX8_sheet 41 = .ok (.ifCond .ge 10, 3) := by decide +kernel
theorem dX8_sheet_44 : decode cX8_sheet 44 = .ok (.aload_n 0, 1) := by decide +kernel
theorem dX8_sheet_45 : decode cX8_sheet 45 = .ok (.ldc 110, 2) := by decide +kernel
theorem dX8_sheet_47 : decode cX8_sheet 47 = .ok (.invokevirtual 73, 3) := by decide +kernel
theorem dX8_sheet_50 : decode cX8_sheet 50 = .ok (.ireturn, 1) := by decide +kernel
theorem dX8_sheet_51 : decode cX8_sheet 51 = .ok (.iload_n 2, 1) := by decide +kernel
theorem dX8_sheet_52 : decode cX8_sheet 52 = .ok (.ifCond .le 16, 3) := by decide +kernel
theorem dX8_sheet_55 : decode cX8_sheet 55 = .ok (.iload_n 3, 1) := by decide +kernel
theorem dX8_sheet_56 : decode cX8_sheet 56 = .ok (.bipush 40, 2) := by decide +kernel
theorem dX8_sheet_58 : decode cX8_sheet 58 = .ok (.if_icmp .le 10, 3) := by decide +kernel
theorem dX8_sheet_61 : decode cX8_sheet 61 = .ok (.aload_n 0, 1) := by decide +kernel
theorem dX8_sheet_62 : decode cX8_sheet 62 = .ok (.ldc 72, 2) := by decide +kernel
theorem dX8_sheet_64 : decode cX8_sheet 64 = .ok (.invokevirtual 73, 3) := by decide +kernel
theorem dX8_sheet_67 : decode cX8_sheet 67 = .ok (.ireturn, 1) := by decide +kernel
theorem dX8_sheet_68 : decode cX8_sheet 68 = .ok (.aload_n 0, 1) := by decide +kernel
theorem dX8_sheet_69 : decode cX8_sheet 69 = .ok (.getfield 37, 3) := by decide +kernel
theorem dX8_sheet_72 : decode cX8_sheet 72 = .ok (.iload_n 1, 1) := by decide +kernel
theorem dX8_sheet_73 : decode cX8_sheet 73 = .ok (.iload_n 2, 1) := by decide +kernel
theorem dX8_sheet_74 : decode cX8_sheet 74 = .ok (.iastore, 1) := by decide +kernel
theorem dX8_sheet_75 : decode cX8_sheet 75 = .ok (.aload_n 0, 1) := by decide +kernel
theorem dX8_sheet_76 : decode cX8_sheet 76 = .ok (.getfield 40, 3) := by decide +kernel
theorem dX8_sheet_79 : decode cX8_sheet 79 = .ok (.iload_n 1, 1) := by decide +kernel
theorem dX8_sheet_80 : decode cX8_sheet 80 = .ok (.iload_n 2, 1) := by decide +kernel
theorem dX8_sheet_81 : decode cX8_sheet 81 = .ok (.ifCond .ne 7, 3) := by decide +kernel
theorem dX8_sheet_84 : decode cX8_sheet 84 = .ok (.iconst 0, 1) := by decide +kernel
theorem dX8_sheet_85 : decode cX8_sheet 85 = .ok (.goto 4, 3) := by decide +kernel
theorem dX8_sheet_88 : decode cX8_sheet 88 = .ok (.iload_n 3, 1) := by decide +kernel
theorem dX8_sheet_89 : decode cX8_sheet 89 = .ok (.iastore, 1) := by decide +kernel
theorem dX8_sheet_90 : decode cX8_sheet 90 = .ok (.iconst 0, 1) := by decide +kernel
theorem dX8_sheet_91 : decode cX8_sheet 91 = .ok (.istore 4, 2) := by decide +kernel
theorem dX8_sheet_93 : decode cX8_sheet 93 = .ok (.iload 4, 2) := by decide +kernel
theorem dX8_sheet_95 : decode cX8_sheet 95 = .ok (.bipush 40, 2) := by decide +kernel
theorem dX8_sheet_97 : decode cX8_sheet 97 = .ok (.if_icmp .ge 22, 3) := by decide +kernel
theorem dX8_sheet_100 : decode cX8_sheet 100 = .ok (.aload_n 0, 1) := by decide +kernel
theorem dX8_sheet_101 : decode cX8_sheet 101 = .ok (.getfield 43, 3) := by decide +kernel
theorem dX8_sheet_104 : decode cX8_sheet 104 = .ok (.bipush 40, 2) := by decide +kernel
theorem dX8_sheet_106 : decode cX8_sheet 106 = .ok (.iload_n 1, 1) := by decide +kernel
theorem dX8_sheet_107 : decode cX8_sheet 107 = .ok (.imul, 1) := by decide +kernel
theorem dX8_sheet_108 : decode cX8_sheet 108 = .ok (.iload 4, 2) := by decide +kernel
theorem dX8_sheet_110 : decode cX8_sheet 110 = .ok (.iadd, 1) := by decide +kernel
theorem dX8_sheet_111 : decode cX8_sheet 111 = .ok (.iconst 0, 1) := by decide +kernel
theorem dX8_sheet_112 : decode cX8_sheet 112 = .ok (.iastore, 1) := by decide +kernel
theorem dX8_sheet_113 : decode cX8_sheet 113 = .ok (.iinc 4 1, 3) := by decide +kernel
theorem dX8_sheet_116 : decode cX8_sheet 116 = .ok (.goto (-23), 3) := by decide +kernel
theorem dX8_sheet_119 : decode cX8_sheet 119 = .ok (.iconst 1, 1) := by decide +kernel
theorem dX8_sheet_120 : decode cX8_sheet 120 = .ok (.ireturn, 1) := by decide +kernel
theorem dX8_notThere_0 : decode cX8_notThere 0 = .ok (.iload_n 1, 1) := by decide +kernel
theorem dX8_notThere_1 : decode cX8_notThere 1 = .ok (.invokestatic 256, 3) := by decide +kernel
theorem dX8_notThere_4 : decode cX8_notThere 4 = .ok (.ifCond .ne 8, 3) := by decide +kernel
theorem dX8_notThere_7 : decode cX8_notThere 7 = .ok (.ldc 72, 2) := by decide +kernel
theorem dX8_notThere_9 : decode cX8_notThere 9 = .ok (.goto 18, 3) := by decide +kernel
theorem dX8_notThere_12 : decode cX8_notThere 12 = .ok (.aload_n 0, 1) := by decide +kernel
theorem dX8_notThere_13 : decode cX8_notThere 13 = .ok (.getfield 37, 3) := by decide +kernel
theorem dX8_notThere_16 : decode cX8_notThere 16 = .ok (.iload_n 1, 1) := by decide +kernel
theorem dX8_notThere_17 : decode cX8_notThere 17 = .ok (.iaload, 1) := by decide +kernel
theorem dX8_notThere_18 : decode cX8_notThere 18 = .ok (.ifCond .ne 8, 3) := by decide +kernel
theorem dX8_notThere_21 : decode cX8_notThere 21 = .ok (.ldc 213, 2) := by decide +kernel
theorem dX8_notThere_23 : decode cX8_notThere 23 = .ok (.goto 4, 3) := by decide +kernel
theorem dX8_notThere_26 : decode cX8_notThere 26 = .ok (.iconst 0, 1) := by decide +kernel
theorem dX8_notThere_27 : decode cX8_notThere 27 = .ok (.ireturn, 1) := by decide +kernel
theorem dX8_put_0 : decode cX8_put 0 = .ok (.aload_n 0, 1) := by decide +kernel
theorem dX8_put_1 : decode cX8_put 1 = .ok (.iload_n 1, 1) := by decide +kernel
theorem dX8_put_2 : decode cX8_put 2 = .ok (.invokevirtual 259, 3) := by decide +kernel
theorem dX8_put_5 : decode cX8_put 5 = .ok (.istore 4, 2) := by decide +kernel
theorem dX8_put_7 : decode cX8_put 7 = .ok (.iload 4, 2) := by decide +kernel
theorem dX8_put_9 : decode cX8_put 9 = .ok (.ifCond .ne 24, 3) := by decide +kernel
theorem dX8_put_12 : decode cX8_put 12 = .ok (.iload_n 2, 1) := by decide +kernel
theorem dX8_put_13 : decode cX8_put 13 = .ok (.iconst 0, 1) := by decide +kernel
theorem dX8_put_14 : decode cX8_put 14 = .ok (.aload_n 0, 1) := by decide +kernel
theorem dX8_put_15 : decode cX8_put 15 = .ok (.getfield 40, 3) := by decide +kernel
theorem dX8_put_18 : decode cX8_put 18 = .ok (.iload_n 1, 1) := by decide +kernel
theorem dX8_put_19 : decode cX8_put 19 = .ok (.iaload, 1) := by decide +kernel
theorem dX8_put_20 : decode cX8_put 20 = .ok (.iconst 1, 1) := by decide +kernel
theorem dX8_put_21 : decode cX8_put 21 = .ok (.isub, 1) := by decide +kernel
theorem dX8_put_22 : decode cX8_put 22 = .ok (.invokestatic 47, 3) := by decide +kernel
theorem dX8_put_25 : decode cX8_put 25 = .ok (.ifCond .ne 8, 3) := by decide +kernel
theorem dX8_put_28 : decode cX8_put 28 = .ok (.ldc 72, 2) := by decide +kernel
theorem dX8_put_30 : decode cX8_put 30 = .ok (.goto 5, 3) := by decide +kernel
theorem dX8_put_33 : decode cX8_put 33 = .ok (.iload 4, 2) := by decide +kernel
theorem dX8_put_35 : decode cX8_put 35 = .ok (.istore 4, 2) := by decide +kernel
theorem dX8_put_37 : decode cX8_put 37 = .ok (.iload 4, 2) := by decide +kernel
theorem dX8_put_39 : decode cX8_put 39 = .ok (.ifCond .eq 10, 3) := by decide +kernel
theorem dX8_put_42 : decode cX8_put 42 = .ok (.aload_n 0, 1) := by decide +kernel
theorem dX8_put_43 : decode cX8_put 43 = .ok (.iload 4, 2) := by decide +kernel
theorem dX8_put_45 : decode cX8_put 45 = .ok (.invokevirtual 73, 3) := by decide +kernel
theorem dX8_put_48 : decode cX8_put 48 = .ok (.ireturn, 1) := by decide +kernel
theorem dX8_put_49 : decode cX8_put 49 = .ok (.aload_n 0, 1) := by decide +kernel
theorem dX8_put_50 : decode cX8_put 50 = .ok (.getfield 43, 3) := by decide +kernel
theorem dX8_put_53 : decode cX8_put 53 = .ok (.bipush 40, 2) := by decide +kernel
theorem dX8_put_55 : decode cX8_put 55 = .ok (.iload_n 1, 1) := by decide +kernel
theorem dX8_put_56 : decode cX8_put 56 = .ok (.imul, 1) := by decide +kernel
theorem dX8_put_57 : decode cX8_put 57 = .ok (.iload_n 2, 1) := by decide +kernel
theorem dX8_put_58 : decode cX8_put 58 = .ok (.iadd, 1) := by decide +kernel
theorem dX8_put_59 : decode cX8_put 59 = .ok (.aload_n 0, 1) := by decide +kernel
theorem dX8_put_60 : decode cX8_put 60 = .ok (.getfield 37, 3) := by decide +kernel
theorem dX8_put_63 : decode cX8_put 63 = .ok (.iload_n 1, 1) := by decide +kernel
theorem dX8_put_64 : decode cX8_put 64 = .ok (.iaload, 1) := by decide +kernel
theorem dX8_put_65 : decode cX8_put 65 = .ok (.bipush 8, 2) := by decide +kernel
theorem dX8_put_67 : decode cX8_put 67 = .ok (.if_icmp .ne 8, 3) := by decide +kernel
theorem dX8_put_70 : decode cX8_put 70 = .ok (.iload_n 3, 1) := by decide +kernel
theorem dX8_put_71 : decode cX8_put 71 = .ok (.i2b, 1) := by decide +kernel
theorem dX8_put_72 : decode cX8_put 72 = .ok (.goto 20, 3) := by decide +kernel
theorem dX8_put_75 : decode cX8_put 75 = .ok (.aload_n 0, 1) := by decide +kernel
theorem dX8_put_76 : decode cX8_put 76 = .ok (.getfield 37, 3) := by decide +kernel
theorem dX8_put_79 : decode cX8_put 79 = .ok (.iload_n 1, 1) := by decide +kernel
theorem dX8_put_80 : decode cX8_put 80 = .ok (.iaload, 1) := by decide +kernel
theorem dX8_put_81 : decode cX8_put 81 = .ok (.bipush 16, 2) := by decide +kernel
theorem dX8_put_83 : decode cX8_put 83 = .ok (.if_icmp .ne 8, 3) := by decide +kernel
theorem dX8_put_86 : decode cX8_put 86 = .ok (.iload_n 3, 1) := by decide +kernel
theorem dX8_put_87 : decode cX8_put 87 = .ok (.i2s, 1) := by decide +kernel
theorem dX8_put_88 : decode cX8_put 88 = .ok (.goto 4, 3) := by decide +kernel
theorem dX8_put_91 : decode cX8_put 91 = .ok (.iload_n 3, 1) := by decide +kernel
theorem dX8_put_92 : decode cX8_put 92 = .ok (.iastore, 1) := by decide +kernel
theorem dX8_put_93 : decode cX8_put 93 = .ok (.iconst 1, 1) := by decide +kernel
theorem dX8_put_94 : decode cX8_put 94 = .ok (.ireturn, 1) := by decide +kernel
theorem dX8_notMoved_0 : decode cX8_notMoved 0 = .ok (.iload_n 1, 1) := by decide +kernel
theorem dX8_notMoved_1 : decode cX8_notMoved 1 = .ok (.invokestatic 256, 3) := by decide +kernel
theorem dX8_notMoved_4 : decode cX8_notMoved 4 = .ok (.ifCond .eq 10, 3) := by decide +kernel
theorem dX8_notMoved_7 : decode cX8_notMoved 7 = .ok (.iload_n 3, 1) := by decide +kernel
theorem dX8_notMoved_8 : decode cX8_notMoved 8 = .ok (.invokestatic 256, 3) := by decide +kernel
theorem dX8_notMoved_11 : decode cX8_notMoved 11 = .ok (.ifCond .ne 6, 3) := by decide +kernel
theorem dX8_notMoved_14 : decode cX8_notMoved 14 = .ok (.ldc 72, 2) := by decide +kernel
theorem dX8_notMoved_16 : decode cX8_notMoved 16 = .ok (.ireturn, 1) := by decide +kernel
theorem dX8_notMoved_17 : decode cX8_notMoved 17 = .ok (.aload_n 0, 1) := by decide +kernel
theorem dX8_notMoved_18 : decode cX8_notMoved 18 = .ok (.getfield 37, 3) := by decide +kernel
theorem dX8_notMoved_21 : decode cX8_notMoved 21 = .ok (.iload_n 1, 1) := by decide +kernel
theorem dX8_notMoved_22 : decode cX8_notMoved 22 = .ok (.iaload, 1) := by decide +kernel
theorem dX8_notMoved_23 : decode cX8_notMoved 23 = .ok (.ifCond .eq 12, 3) := by decide +kernel
theorem dX8_notMoved_26 : decode cX8_notMoved 26 = .ok (.aload_n 0, 1) := by decide +kernel
theorem dX8_notMoved_27 : decode cX8_notMoved 27 = .ok (.getfield 37, 3) := by decide +kernel
theorem dX8_notMoved_30 : decode cX8_notMoved 30 = .ok (.iload_n 3, 1) := by decide +kernel
theorem dX8_notMoved_31 : decode cX8_notMoved 31 = .ok (.iaload, 1) := by decide +kernel
theorem dX8_notMoved_32 : decode cX8_notMoved 32 = .ok (.ifCond .ne 6, 3) := by decide +kernel
theorem dX8_notMoved_35 : decode cX8_notMoved 35 = .ok (.ldc 213, 2) := by decide +kernel
theorem dX8_notMoved_37 : decode cX8_notMoved 37 = .ok (.ireturn, 1) := by decide +kernel
theorem dX8_notMoved_38 : decode cX8_notMoved 38 = .ok (.aload_n 0, 1) := by decide +kernel
theorem dX8_notMoved_39 : decode cX8_notMoved 39 = .ok (.getfield 37, 3) := by decide +kernel
theorem dX8_notMoved_42 : decode cX8_notMoved 42 = .ok (.iload_n 1, 1) := by decide +kernel
theorem dX8_notMoved_43 : decode cX8_notMoved 43 = .ok (.iaload, 1) := by decide +kernel
theorem dX8_notMoved_44 : decode cX8_notMoved 44 = .ok (.aload_n 0, 1) := by decide +kernel
theorem dX8_notMoved_45 : decode cX8_notMoved 45 = .ok (.getfield 37, 3) := by decide +kernel
theorem dX8_notMoved_48 : decode cX8_notMoved 48 = .ok (.iload_n 3, 1) := by decide +kernel
theorem dX8_notMoved_49 : decode cX8_notMoved 49 = .ok (.iaload, 1) := by decide +kernel
theorem dX8_notMoved_50 : decode cX8_notMoved 50 = .ok (.if_icmp .eq 6, 3) := by decide +kernel
theorem dX8_notMoved_53 : decode cX8_notMoved 53 = .ok (.ldc 125, 2) := by decide +kernel
theorem dX8_notMoved_55 : decode cX8_notMoved 55 = .ok (.ireturn, 1) := by decide +kernel
theorem dX8_notMoved_56 : decode cX8_notMoved 56 = .ok (.iload 5, 2) := by decide +kernel
theorem dX8_notMoved_58 : decode cX8_notMoved 58 = .ok (.ifCond .lt 43, 3) := by decide +kernel
theorem dX8_notMoved_61 : decode cX8_notMoved 61 = .ok (.iload_n 2, 1) := by decide +kernel
theorem dX8_notMoved_62 : decode cX8_notMoved 62 = .ok (.ifCond .lt 39, 3) := by decide +kernel
theorem dX8_notMoved_65 : decode cX8_notMoved 65 = .ok (.iload 4, 2) := by decide +kernel
theorem dX8_notMoved_67 : decode cX8_notMoved 67 = .ok (.ifCond .lt 34, 3) := by decide +kernel
theorem dX8_notMoved_70 : decode cX8_notMoved 70 = .ok (.iload 5, 2) := by decide +kernel
theorem dX8_notMoved_72 : decode cX8_notMoved 72 = .ok (.aload_n 0, 1) := by decide +kernel
theorem dX8_notMoved_73 : decode cX8_notMoved 73 = .ok (.getfield 40, 3) := by decide +kernel
theorem dX8_notMoved_76 : decode cX8_notMoved 76 = .ok (.iload_n 1, 1) := by decide +kernel
theorem dX8_notMoved_77 : decode cX8_notMoved 77 = .ok (.iaload, 1) := by decide +kernel
theorem dX8_notMoved_78 : decode cX8_notMoved 78 = .ok (.iload_n 2, 1) := by decide +kernel
theorem dX8_notMoved_79 : decode cX8_notMoved 79 = .ok (.isub, 1) := by decide +kernel
theorem dX8_notMoved_80 : decode cX8_notMoved 80 = .ok (.if_icmp .gt 21, 3) := by decide +kernel
theorem dX8_notMoved_83 : decode cX8_notMoved 83 = .ok (.iload 5, 2) := by decide +kernel
theorem dX8_notMoved_85 : decode cX8_notMoved 85 = .ok (.aload_n 0, 1) := by decide +kernel
theorem dX8_notMoved_86 : decode cX8_notMoved 86 = .ok (.getfield 40, 3) := by decide +kernel
theorem dX8_notMoved_89 : decode cX8_notMoved 89 = .ok (.iload_n 3, 1) := by decide +kernel
theorem dX8_notMoved_90 : decode cX8_notMoved 90 = .ok (.iaload, 1) := by decide +kernel
theorem dX8_notMoved_91 : decode cX8_notMoved 91 = .ok (.iload 4, 2) := by decide +kernel
theorem dX8_notMoved_93 : decode cX8_notMoved 93 = .ok (.isub, 1) := by decide +kernel
theorem dX8_notMoved_94 : decode cX8_notMoved 94 = .ok (.if_icmp .gt 7, 3) := by decide +kernel
theorem dX8_notMoved_97 : decode cX8_notMoved 97 = .ok (.iconst 1, 1) := by decide +kernel
theorem dX8_notMoved_98 : decode cX8_notMoved 98 = .ok (.goto 4, 3) := by decide +kernel
theorem dX8_notMoved_101 : decode cX8_notMoved 101 = .ok (.iconst 0, 1) := by decide +kernel
theorem dX8_notMoved_102 : decode cX8_notMoved 102 = .ok (.istore 6, 2) := by decide +kernel
theorem dX8_notMoved_104 : decode cX8_notMoved 104 = .ok (.iload 6, 2) := by decide +kernel
theorem dX8_notMoved_106 : decode cX8_notMoved 106 = .ok (.ifCond .eq 7, 3) := by decide +kernel
theorem dX8_notMoved_109 : decode cX8_notMoved 109 = .ok (.iconst 0, 1) := by decide +kernel
theorem dX8_notMoved_110 : decode cX8_notMoved 110 = .ok (.goto 5, 3) := by decide +kernel
theorem dX8_notMoved_113 : decode cX8_notMoved 113 = .ok (.ldc 72, 2) := by decide +kernel
theorem dX8_notMoved_115 : decode cX8_notMoved 115 = .ok (.ireturn, 1) := by decide +kernel
theorem dX8_move_0 : decode cX8_move 0 = .ok (.aload_n 0, 1) := by decide +kernel
theorem dX8_move_1 : decode cX8_move 1 = .ok (.iload_n 1, 1) := by decide +kernel
theorem dX8_move_2 : decode cX8_move 2 = .ok (.iload_n 2, 1) := by decide +kernel
theorem dX8_move_3 : decode cX8_move 3 = .ok (.iload_n 3, 1) := by decide +kernel
theorem dX8_move_4 : decode cX8_move 4 = .ok (.iload 4, 2) := by decide +kernel
theorem dX8_move_6 : decode cX8_move 6 = .ok (.iload 5, 2) := by decide +kernel
theorem dX8_move_8 : decode cX8_move 8 = .ok (.invokevirtual 262, 3) := by decide +kernel
theorem dX8_move_11 : decode cX8_move 11 = .ok (.istore 6, 2) := by decide +kernel
theorem dX8_move_13 : decode cX8_move 13 = .ok (.iload 6, 2) := by decide +kernel
theorem dX8_move_15 : decode cX8_move 15 = .ok (.ifCond .eq 10, 3) := by decide +kernel
theorem dX8_move_18 : decode cX8_move 18 = .ok (.aload_n 0, 1) := by decide +kernel
theorem dX8_move_19 : decode cX8_move 19 = .ok (.iload 6, 2) := by decide +kernel
theorem dX8_move_21 : decode cX8_move 21 = .ok (.invokevirtual 73, 3) := by decide +kernel
theorem dX8_move_24 : decode cX8_move 24 = .ok (.ireturn, 1) := by decide +kernel
theorem dX8_move_25 : decode cX8_move 25 = .ok (.iconst 0, 1) := by decide +kernel
theorem dX8_move_26 : decode cX8_move 26 = .ok (.istore 7, 2) := by decide +kernel
theorem dX8_move_28 : decode cX8_move 28 = .ok (.iload 7, 2) := by decide +kernel
theorem dX8_move_30 : decode cX8_move 30 = .ok (.iload 5, 2) := by decide +kernel
theorem dX8_move_32 : decode cX8_move 32 = .ok (.if_icmp .ge 58, 3) := by decide +kernel
theorem dX8_move_35 : decode cX8_move 35 = .ok (.iload_n 2, 1) := by decide +kernel
theorem dX8_move_36 : decode cX8_move 36 = .ok (.iload 4, 2) := by decide +kernel
theorem dX8_move_38 : decode cX8_move 38 = .ok (.if_icmp .ge 13, 3) := by decide +kernel
theorem dX8_move_41 : decode cX8_move 41 = .ok (.iload 5, 2) := by decide +kernel
theorem dX8_move_43 : decode cX8_move 43 = .ok (.iconst 1, 1) := by decide +kernel
theorem dX8_move_44 : decode cX8_move 44 = .ok (.isub, 1) := by decide +kernel
theorem dX8_move_45 : decode cX8_move 45 = .ok (.iload 7, 2) := by decide +kernel
theorem dX8_move_47 : decode cX8_move 47 = .ok (.isub, 1) := by decide +kernel
theorem dX8_move_48 : decode cX8_move 48 = .ok (.goto 5, 3) := by decide +kernel
theorem dX8_move_51 : decode cX8_move 51 = .ok (.iload 7, 2) := by decide +kernel
theorem dX8_move_53 : decode cX8_move 53 = .ok (.istore 8, 2) := by decide +kernel
theorem dX8_move_55 : decode cX8_move 55 = .ok (.aload_n 0, 1) := by decide +kernel
theorem dX8_move_56 : decode cX8_move 56 = .ok (.getfield 43, 3) := by decide +kernel
theorem dX8_move_59 : decode cX8_move 59 = .ok (.bipush 40, 2) := by decide +kernel
theorem dX8_move_61 : decode cX8_move 61 = .ok (.iload_n 3, 1) := by decide +kernel
theorem dX8_move_62 : decode cX8_move 62 = .ok (.imul, 1) := by decide +kernel
theorem dX8_move_63 : decode cX8_move 63 = .ok (.iload 4, 2) := by decide +kernel
theorem dX8_move_65 : decode cX8_move 65 = .ok (.iadd, 1) := by decide +kernel
theorem dX8_move_66 : decode cX8_move 66 = .ok (.iload 8, 2) := by decide +kernel
theorem dX8_move_68 : decode cX8_move 68 = .ok (.iadd, 1) := by decide +kernel
theorem dX8_move_69 : decode cX8_move 69 = .ok (.aload_n 0, 1) := by decide +kernel
theorem dX8_move_70 : decode cX8_move 70 = .ok (.getfield 43, 3) := by decide +kernel
theorem dX8_move_73 : decode cX8_move 73 = .ok (.bipush 40, 2) := by decide +kernel
theorem dX8_move_75 : decode cX8_move 75 = .ok (.iload_n 1, 1) := by decide +kernel
theorem dX8_move_76 : decode cX8_move 76 = .ok (.imul, 1) := by decide +kernel
theorem dX8_move_77 : decode cX8_move 77 = .ok (.iload_n 2, 1) := by decide +kernel
theorem dX8_move_78 : decode cX8_move 78 = .ok (.iadd, 1) := by decide +kernel
theorem dX8_move_79 : decode cX8_move 79 = .ok (.iload 8, 2) := by decide +kernel
theorem dX8_move_81 : decode cX8_move 81 = .ok (.iadd, 1) := by decide +kernel
theorem dX8_move_82 : decode cX8_move 82 = .ok (.iaload, 1) := by decide +kernel
theorem dX8_move_83 : decode cX8_move 83 = .ok (.iastore, 1) := by decide +kernel
theorem dX8_move_84 : decode cX8_move 84 = .ok (.iinc 7 1, 3) := by decide +kernel
theorem dX8_move_87 : decode cX8_move 87 = .ok (.goto (-59), 3) := by decide +kernel
theorem dX8_move_90 : decode cX8_move 90 = .ok (.iload 5, 2) := by decide +kernel
theorem dX8_move_92 : decode cX8_move 92 = .ok (.ireturn, 1) := by decide +kernel
theorem dX8_heights_0 : decode cX8_heights 0 = .ok (.aload_n 0, 1) := by decide +kernel
theorem dX8_heights_1 : decode cX8_heights 1 = .ok (.iload_n 1, 1) := by decide +kernel
theorem dX8_heights_2 : decode cX8_heights 2 = .ok (.invokevirtual 259, 3) := by decide +kernel
theorem dX8_heights_5 : decode cX8_heights 5 = .ok (.istore_n 2, 1) := by decide +kernel
theorem dX8_heights_6 : decode cX8_heights 6 = .ok (.iload_n 2, 1) := by decide +kernel
theorem dX8_heights_7 : decode cX8_heights 7 = .ok (.ifCond .eq 9, 3) := by decide +kernel
theorem dX8_heights_10 : decode cX8_heights 10 = .ok (.aload_n 0, 1) := by decide +kernel
theorem dX8_heights_11 : decode cX8_heights 11 = .ok (.iload_n 2, 1) := by decide +kernel
theorem dX8_heights_12 : decode cX8_heights 12 = .ok (.invokevirtual 73, 3) := by decide +kernel
theorem dX8_heights_15 : decode cX8_heights 15 = .ok (.ireturn, 1) := by decide +kernel
theorem dX8_heights_16 : decode cX8_heights 16 = .ok (.iconst 0, 1) := by decide +kernel
theorem dX8_heights_17 : decode cX8_heights 17 = .ok (.istore_n 3, 1) := by decide +kernel
theorem dX8_heights_18 : decode cX8_heights 18 = .ok (.iload_n 3, 1) := by decide +kernel
theorem dX8_heights_19 : decode cX8_heights 19 = .ok (.aload_n 0, 1) := by decide +kernel
theorem dX8_heights_20 : decode cX8_heights 20 = .ok (.getfield 40, 3) := by decide +kernel
theorem dX8_heights_23 : decode cX8_heights 23 = .ok (.iload_n 1, 1) := by decide +kernel
theorem dX8_heights_24 : decode cX8_heights 24 = .ok (.iaload, 1) := by decide +kernel
theorem dX8_heights_25 : decode cX8_heights 25 = .ok (.if_icmp .ge 55, 3) := by decide +kernel
theorem dX8_heights_28 : decode cX8_heights 28 = .ok (.iload_n 3, 1) := by decide +kernel
theorem dX8_heights_29 : decode cX8_heights 29 = .ok (.bipush 20, 2) := by decide +kernel
theorem dX8_heights_31 : decode cX8_heights 31 = .ok (.if_icmp .ge 49, 3) := by decide +kernel
theorem dX8_heights_34 : decode cX8_heights 34 = .ok (.aload_n 0, 1) := by decide +kernel
theorem dX8_heights_35 : decode cX8_heights 35 = .ok (.getfield 43, 3) := by decide +kernel
theorem dX8_heights_38 : decode cX8_heights 38 = .ok (.bipush 40, 2) := by decide +kernel
theorem dX8_heights_40 : decode cX8_heights 40 = .ok (.iload_n 1, 1) := by decide +kernel
theorem dX8_heights_41 : decode cX8_heights 41 = .ok (.imul, 1) := by decide +kernel
theorem dX8_heights_42 : decode cX8_heights 42 = .ok (.iload_n 3, 1) := by decide +kernel
theorem dX8_heights_43 : decode cX8_heights 43 = .ok (.iadd, 1) := by decide +kernel
theorem dX8_heights_44 : decode cX8_heights 44 = .ok (.iaload, 1) := by decide +kernel
theorem dX8_heights_45 : decode cX8_heights 45 = .ok (.iconst 0, 1) := by decide +kernel
theorem dX8_heights_46 : decode cX8_heights 46 = .ok (.bipush 20, 2) := by decide +kernel
theorem dX8_heights_48 : decode cX8_heights 48 = .ok (.invokestatic 47, 3) := by decide +kernel
theorem dX8_heights_51 : decode cX8_heights 51 = .ok (.ifCond .eq 29, 3) := by decide +kernel
theorem dX8_heights_54 : decode cX8_heights 54 = .ok (.aload_n 0, 1) := by decide +kernel
theorem dX8_heights_55 : decode cX8_heights 55 = .ok (.getfield 9, 3) := by decide +kernel
theorem dX8_heights_58 : decode cX8_heights 58 = .ok (.bipush 11, 2) := by decide +kernel
theorem dX8_heights_60 : decode cX8_heights 60 = .ok (.iload_n 3, 1) := by decide +kernel
theorem dX8_heights_61 : decode cX8_heights 61 = .ok (.iadd, 1) := by decide +kernel
theorem dX8_heights_62 : decode cX8_heights 62 = .ok (.aload_n 0, 1) := by decide +kernel
theorem dX8_heights_63 : decode cX8_heights 63 = .ok (.getfield 43, 3) := by decide +kernel
theorem dX8_heights_66 : decode cX8_heights 66 = .ok (.bipush 40, 2) := by decide +kernel
theorem dX8_heights_68 : decode cX8_heights 68 = .ok (.iload_n 1, 1) := by decide +kernel
theorem dX8_heights_69 : decode cX8_heights 69 = .ok (.imul, 1) := by decide +kernel
theorem dX8_heights_70 : decode cX8_heights 70 = .ok (.iload_n 3, 1) := by decide +kernel
theorem dX8_heights_71 : decode cX8_heights 71 = .ok (.iadd, 1) := by decide +kernel
theorem dX8_heights_72 : decode cX8_heights 72 = .ok (.iaload, 1) := by decide +kernel
theorem dX8_heights_73 : decode cX8_heights 73 = .ok (.iastore, 1) := by decide +kernel
theorem dX8_heights_74 : decode cX8_heights 74 = .ok (.iinc 3 1, 3) := by decide +kernel
theorem dX8_heights_77 : decode cX8_heights 77 = .ok (.goto (-59), 3) := by decide +kernel
theorem dX8_heights_80 : decode cX8_heights 80 = .ok (.iload_n 3, 1) := by decide +kernel
theorem dX8_heights_81 : decode cX8_heights 81 = .ok (.ireturn, 1) := by decide +kernel
theorem dX8_judge_0 : decode cX8_judge 0 = .ok (.aload_n 0, 1) := by decide +kernel
theorem dX8_judge_1 : decode cX8_judge 1 = .ok (.iload_n 1, 1) := by decide +kernel
theorem dX8_judge_2 : decode cX8_judge 2 = .ok (.invokevirtual 259, 3) := by decide +kernel
theorem dX8_judge_5 : decode cX8_judge 5 = .ok (.istore_n 2, 1) := by decide +kernel
theorem dX8_judge_6 : decode cX8_judge 6 = .ok (.iload_n 2, 1) := by decide +kernel
theorem dX8_judge_7 : decode cX8_judge 7 = .ok (.ifCond .eq 9, 3) := by decide +kernel
theorem dX8_judge_10 : decode cX8_judge 10 = .ok (.aload_n 0, 1) := by decide +kernel
theorem dX8_judge_11 : decode cX8_judge 11 = .ok (.iload_n 2, 1) := by decide +kernel
theorem dX8_judge_12 : decode cX8_judge 12 = .ok (.invokevirtual 73, 3) := by decide +kernel
theorem dX8_judge_15 : decode cX8_judge 15 = .ok (.ireturn, 1) := by decide +kernel
theorem dX8_judge_16 : decode cX8_judge 16 = .ok (.iconst 0, 1) := by decide +kernel
theorem dX8_judge_17 : decode cX8_judge 17 = .ok (.istore_n 3, 1) := by decide +kernel
theorem dX8_judge_18 : decode cX8_judge 18 = .ok (.iload_n 3, 1) := by decide +kernel
theorem dX8_judge_19 : decode cX8_judge 19 = .ok (.aload_n 0, 1) := by decide +kernel
theorem dX8_judge_20 : decode cX8_judge 20 = .ok (.getfield 40, 3) := by decide +kernel
theorem dX8_judge_23 : decode cX8_judge 23 = .ok (.iload_n 1, 1) := by decide +kernel
theorem dX8_judge_24 : decode cX8_judge 24 = .ok (.iaload, 1) := by decide +kernel
theorem dX8_judge_25 : decode cX8_judge 25 = .ok (.if_icmp .ge 38, 3) := by decide +kernel
theorem dX8_judge_28 : decode cX8_judge 28 = .ok (.iload_n 3, 1) := by decide +kernel
theorem dX8_judge_29 : decode cX8_judge 29 = .ok (.bipush 20, 2) := by decide +kernel
theorem dX8_judge_31 : decode cX8_judge 31 = .ok (.if_icmp .ge 32, 3) := by decide +kernel
theorem dX8_judge_34 : decode cX8_judge 34 = .ok (.aload_n 0, 1) := by decide +kernel
theorem dX8_judge_35 : decode cX8_judge 35 = .ok (.getfield 43, 3) := by decide +kernel
theorem dX8_judge_38 : decode cX8_judge 38 = .ok (.bipush 40, 2) := by decide +kernel
theorem dX8_judge_40 : decode cX8_judge 40 = .ok (.iload_n 1, 1) := by decide +kernel
theorem dX8_judge_41 : decode cX8_judge 41 = .ok (.imul, 1) := by decide +kernel
theorem dX8_judge_42 : decode cX8_judge 42 = .ok (.iload_n 3, 1) := by decide +kernel
theorem dX8_judge_43 : decode cX8_judge 43 = .ok (.iadd, 1) := by decide +kernel
theorem dX8_judge_44 : decode cX8_judge 44 = .ok (.iaload, 1) := by decide +kernel
theorem dX8_judge_45 : decode cX8_judge 45 = .ok (.aload_n 0, 1) := by decide +kernel
theorem dX8_judge_46 : decode cX8_judge 46 = .ok (.getfield 9, 3) := by decide +kernel
theorem dX8_judge_49 : decode cX8_judge 49 = .ok (.bipush 31, 2) := by decide +kernel
theorem dX8_judge_51 : decode cX8_judge 51 = .ok (.iload_n 3, 1) := by decide +kernel
theorem dX8_judge_52 : decode cX8_judge 52 = .ok (.iadd, 1) := by decide +kernel
theorem dX8_judge_53 : decode cX8_judge 53 = .ok (.iaload, 1) := by decide +kernel
theorem dX8_judge_54 : decode cX8_judge 54 = .ok (.if_icmp .ne 9, 3) := by decide +kernel
theorem dX8_judge_57 : decode cX8_judge 57 = .ok (.iinc 3 1, 3) := by decide +kernel
theorem dX8_judge_60 : decode cX8_judge 60 = .ok (.goto (-42), 3) := by decide +kernel
theorem dX8_judge_63 : decode cX8_judge 63 = .ok (.iload_n 3, 1) := by decide +kernel
theorem dX8_judge_64 : decode cX8_judge 64 = .ok (.bipush 20, 2) := by decide +kernel
theorem dX8_judge_66 : decode cX8_judge 66 = .ok (.if_icmp .ne 18, 3) := by decide +kernel
theorem dX8_judge_69 : decode cX8_judge 69 = .ok (.aload_n 0, 1) := by decide +kernel
theorem dX8_judge_70 : decode cX8_judge 70 = .ok (.getfield 40, 3) := by decide +kernel
theorem dX8_judge_73 : decode cX8_judge 73 = .ok (.iload_n 1, 1) := by decide +kernel
theorem dX8_judge_74 : decode cX8_judge 74 = .ok (.iaload, 1) := by decide +kernel
theorem dX8_judge_75 : decode cX8_judge 75 = .ok (.bipush 20, 2) := by decide +kernel
theorem dX8_judge_77 : decode cX8_judge 77 = .ok (.if_icmp .ne 7, 3) := by decide +kernel
theorem dX8_judge_80 : decode cX8_judge 80 = .ok (.iconst (-1), 1) := by decide +kernel
theorem dX8_judge_81 : decode cX8_judge 81 = .ok (.goto 4, 3) := by decide +kernel
theorem dX8_judge_84 : decode cX8_judge 84 = .ok (.iload_n 3, 1) := by decide +kernel
theorem dX8_judge_85 : decode cX8_judge 85 = .ok (.ireturn, 1) := by decide +kernel
theorem dX8_image_0 : decode cX8_image 0 = .ok (.aload_n 0, 1) := by decide +kernel
theorem dX8_image_1 : decode cX8_image 1 = .ok (.getfield 9, 3) := by decide +kernel
theorem dX8_image_4 : decode cX8_image 4 = .ok (.aload_n 0, 1) := by decide +kernel
theorem dX8_image_5 : decode cX8_image 5 = .ok (.getfield 13, 3) := by decide +kernel
theorem dX8_image_8 : decode cX8_image 8 = .ok (.invokestatic 203, 3) := by decide +kernel
theorem dX8_image_11 : decode cX8_image 11 = .ok (.aload_n 0, 1) := by decide +kernel
theorem dX8_image_12 : decode cX8_image 12 = .ok (.dup, 1) := by decide +kernel
theorem dX8_image_13 : decode cX8_image 13 = .ok (.getfield 266, 3) := by decide +kernel
theorem dX8_image_16 : decode cX8_image 16 = .ok (.iconst 1, 1) := by decide +kernel
theorem dX8_image_17 : decode cX8_image 17 = .ok (.iadd, 1) := by decide +kernel
theorem dX8_image_18 : decode cX8_image 18 = .ok (.putfield 266, 3) := by decide +kernel
theorem dX8_image_21 : decode cX8_image 21 = .ok (.aload_n 0, 1) := by decide +kernel
theorem dX8_image_22 : decode cX8_image 22 = .ok (.getfield 266, 3) := by decide +kernel
theorem dX8_image_25 : decode cX8_image 25 = .ok (.ireturn, 1) := by decide +kernel
theorem dX8_restore_0 : decode cX8_restore 0 = .ok (.aload_n 0, 1) := by decide +kernel
theorem dX8_restore_1 : decode cX8_restore 1 = .ok (.getfield 266, 3) := by decide +kernel
theorem dX8_restore_4 : decode cX8_restore 4 = .ok (.ifCond .ne 10, 3) := by decide +kernel
theorem dX8_restore_7 : decode cX8_restore 7 = .ok (.aload_n 0, 1) := by decide +kernel
theorem dX8_restore_8 : decode cX8_restore 8 = .ok (.ldc 213, 2) := by decide +kernel
theorem dX8_restore_10 : decode cX8_restore 10 = .ok (.invokevirtual 73, 3) := by decide +kernel
theorem dX8_restore_13 : decode cX8_restore 13 = .ok (.ireturn, 1) := by decide +kernel
theorem dX8_restore_14 : decode cX8_restore 14 = .ok (.aload_n 0, 1) := by decide +kernel
theorem dX8_restore_15 : decode cX8_restore 15 = .ok (.getfield 13, 3) := by decide +kernel
theorem dX8_restore_18 : decode cX8_restore 18 = .ok (.aload_n 0, 1) := by decide +kernel
theorem dX8_restore_19 : decode cX8_restore 19 = .ok (.getfield 9, 3) := by decide +kernel
theorem dX8_restore_22 : decode cX8_restore 22 = .ok (.invokestatic 203, 3) := by decide +kernel
theorem dX8_restore_25 : decode cX8_restore 25 = .ok (.aload_n 0, 1) := by decide +kernel
theorem dX8_restore_26 : decode cX8_restore 26 = .ok (.getfield 9, 3) := by decide +kernel
theorem dX8_restore_29 : decode cX8_restore 29 = .ok (.iconst 0, 1) := by decide +kernel
theorem dX8_restore_30 : decode cX8_restore 30 = .ok (.iaload, 1) := by decide +kernel
theorem dX8_restore_31 : decode cX8_restore 31 = .ok (.ireturn, 1) := by decide +kernel
theorem dX8_tell_0 : decode cX8_tell 0 = .ok (.aload_n 0, 1) := by decide +kernel
theorem dX8_tell_1 : decode cX8_tell 1 = .ok (.getfield 9, 3) := by decide +kernel
theorem dX8_tell_4 : decode cX8_tell 4 = .ok (.iconst 5, 1) := by decide +kernel
theorem dX8_tell_5 : decode cX8_tell 5 = .ok (.iaload, 1) := by decide +kernel
theorem dX8_tell_6 : decode cX8_tell 6 = .ok (.bipush 20, 2) := by decide +kernel
theorem dX8_tell_8 : decode cX8_tell 8 = .ok (.if_icmp .ne 10, 3) := by decide +kernel
theorem dX8_tell_11 : decode cX8_tell 11 = .ok (.aload_n 0, 1) := by decide +kernel
theorem dX8_tell_12 : decode cX8_tell 12 = .ok (.ldc 85, 2) := by decide +kernel
theorem dX8_tell_14 : decode cX8_tell 14 = .ok (.invokevirtual 73, 3) := by decide +kernel
theorem dX8_tell_17 : decode cX8_tell 17 = .ok (.ireturn, 1) := by decide +kernel
theorem dX8_tell_18 : decode cX8_tell 18 = .ok (.aload_n 0, 1) := by decide +kernel
theorem dX8_tell_19 : decode cX8_tell 19 = .ok (.getfield 9, 3) := by decide +kernel
theorem dX8_tell_22 : decode cX8_tell 22 = .ok (.sipush 149, 3) := by decide +kernel
theorem dX8_tell_25 : decode cX8_tell 25 = .ok (.aload_n 0, 1) := by decide +kernel
theorem dX8_tell_26 : decode cX8_tell 26 = .ok (.getfield 9, 3) := by decide +kernel
theorem dX8_tell_29 : decode cX8_tell 29 = .ok (.iconst 5, 1) := by decide +kernel
theorem dX8_tell_30 : decode cX8_tell 30 = .ok (.iaload, 1) := by decide +kernel
theorem dX8_tell_31 : decode cX8_tell 31 = .ok (.iadd, 1) := by decide +kernel
theorem dX8_tell_32 : decode cX8_tell 32 = .ok (.iload_n 1, 1) := by decide +kernel
theorem dX8_tell_33 : decode cX8_tell 33 = .ok (.iastore, 1) := by decide +kernel
theorem dX8_tell_34 : decode cX8_tell 34 = .ok (.aload_n 0, 1) := by decide +kernel
theorem dX8_tell_35 : decode cX8_tell 35 = .ok (.getfield 9, 3) := by decide +kernel
theorem dX8_tell_38 : decode cX8_tell 38 = .ok (.iconst 5, 1) := by decide +kernel
theorem dX8_tell_39 : decode cX8_tell 39 = .ok (.dup2, 1) := by decide +kernel
theorem dX8_tell_40 : decode cX8_tell 40 = .ok (.iaload, 1) := by decide +kernel
theorem dX8_tell_41 : decode cX8_tell 41 = .ok (.iconst 1, 1) := by decide +kernel
theorem dX8_tell_42 : decode cX8_tell 42 = .ok (.iadd, 1) := by decide +kernel
theorem dX8_tell_43 : decode cX8_tell 43 = .ok (.iastore, 1) := by decide +kernel
theorem dX8_tell_44 : decode cX8_tell 44 = .ok (.aload_n 0, 1) := by decide +kernel
theorem dX8_tell_45 : decode cX8_tell 45 = .ok (.getfield 9, 3) := by decide +kernel
theorem dX8_tell_48 : decode cX8_tell 48 = .ok (.iconst 5, 1) := by decide +kernel
theorem dX8_tell_49 : decode cX8_tell 49 = .ok (.iaload, 1) := by decide +kernel
theorem dX8_tell_50 : decode cX8_tell 50 = .ok (.ireturn, 1) := by decide +kernel
theorem dX8_check_0 : decode cX8_check 0 = .ok (.aload_n 0, 1) := by decide +kernel
theorem dX8_check_1 : decode cX8_check 1 = .ok (.getfield 9, 3) := by decide +kernel
theorem dX8_check_4 : decode cX8_check 4 = .ok (.iconst 5, 1) := by decide +kernel
theorem dX8_check_5 : decode cX8_check 5 = .ok (.iaload, 1) := by decide +kernel
theorem dX8_check_6 : decode cX8_check 6 = .ok (.istore_n 1, 1) := by decide +kernel
theorem dX8_check_7 : decode cX8_check 7 = .ok (.aload_n 0, 1) := by decide +kernel
theorem dX8_check_8 : decode cX8_check 8 = .ok (.getfield 9, 3) := by decide +kernel
theorem dX8_check_11 : decode cX8_check 11 = .ok (.iconst 5, 1) := by decide +kernel
theorem dX8_check_12 : decode cX8_check 12 = .ok (.iconst 0, 1) := by decide +kernel
theorem dX8_check_13 : decode cX8_check 13 = .ok (.iastore, 1) := by decide +kernel
theorem dX8_check_14 : decode cX8_check 14 = .ok (.aload_n 0, 1) := by decide +kernel
theorem dX8_check_15 : decode cX8_check 15 = .ok (.invokevirtual 207, 3) := by decide +kernel
theorem dX8_check_18 : decode cX8_check 18 = .ok (.iconst 0, 1) := by decide +kernel
theorem dX8_check_19 : decode cX8_check 19 = .ok (.istore_n 2, 1) := by decide +kernel
theorem dX8_check_20 : decode cX8_check 20 = .ok (.iconst 0, 1) := by decide +kernel
theorem dX8_check_21 : decode cX8_check 21 = .ok (.istore_n 3, 1) := by decide +kernel
theorem dX8_check_22 : decode cX8_check 22 = .ok (.iload_n 3, 1) := by decide +kernel
theorem dX8_check_23 : decode cX8_check 23 = .ok (.iload_n 1, 1) := by decide +kernel
theorem dX8_check_24 : decode cX8_check 24 = .ok (.if_icmp .ge 42, 3) := by decide +kernel
theorem dX8_check_27 : decode cX8_check 27 = .ok (.iload_n 2, 1) := by decide +kernel
theorem dX8_check_28 : decode cX8_check 28 = .ok (.ifCond .ne 38, 3) := by decide +kernel
theorem dX8_check_31 : decode cX8_check 31 = .ok (.aload_n 0, 1) := by decide +kernel
theorem dX8_check_32 : decode cX8_check 32 = .ok (.invokevirtual 190, 3) := by decide +kernel
theorem dX8_check_35 : decode cX8_check 35 = .ok (.aload_n 0, 1) := by decide +kernel
theorem dX8_check_36 : decode cX8_check 36 = .ok (.getfield 9, 3) := by decide +kernel
theorem dX8_check_39 : decode cX8_check 39 = .ok (.sipush 149, 3) := by decide +kernel
theorem dX8_check_42 : decode cX8_check 42 = .ok (.iload_n 3, 1) := by decide +kernel
theorem dX8_check_43 : decode cX8_check 43 = .ok (.iadd, 1) := by decide +kernel
theorem dX8_check_44 : decode cX8_check 44 = .ok (.iaload, 1) := by decide +kernel
theorem dX8_check_45 : decode cX8_check 45 = .ok (.aload_n 0, 1) := by decide +kernel
theorem dX8_check_46 : decode cX8_check 46 = .ok (.invokevirtual 196, 3) := by decide +kernel
theorem dX8_check_49 : decode cX8_check 49 = .ok (.if_icmp .ne 7, 3) := by decide +kernel
theorem dX8_check_52 : decode cX8_check 52 = .ok (.iconst 0, 1) := by decide +kernel
theorem dX8_check_53 : decode cX8_check 53 = .ok (.goto 6, 3) := by decide +kernel
theorem dX8_check_56 : decode cX8_check 56 = .ok (.iconst 1, 1) := by decide +kernel
theorem dX8_check_57 : decode cX8_check 57 = .ok (.iload_n 3, 1) := by decide +kernel
theorem dX8_check_58 : decode cX8_check 58 = .ok (.iadd, 1) := by decide +kernel
theorem dX8_check_59 : decode cX8_check 59 = .ok (.istore_n 2, 1) := by decide +kernel
theorem dX8_check_60 : decode cX8_check 60 = .ok (.iinc 3 1, 3) := by decide +kernel
theorem dX8_check_63 : decode cX8_check 63 = .ok (.goto (-41), 3) := by decide +kernel
theorem dX8_check_66 : decode cX8_check 66 = .ok (.aload_n 0, 1) := by decide +kernel
theorem dX8_check_67 : decode cX8_check 67 = .ok (.invokevirtual 210, 3) := by decide +kernel
theorem dX8_check_70 : decode cX8_check 70 = .ok (.iload_n 2, 1) := by decide +kernel
theorem dX8_check_71 : decode cX8_check 71 = .ok (.ireturn, 1) := by decide +kernel
theorem dX8_count_0 : decode cX8_count 0 = .ok (.iconst 0, 1) := by decide +kernel
theorem dX8_count_1 : decode cX8_count 1 = .ok (.istore_n 2, 1) := by decide +kernel
theorem dX8_count_2 : decode cX8_count 2 = .ok (.iload_n 1, 1) := by decide +kernel
theorem dX8_count_3 : decode cX8_count 3 = .ok (.tableswitch 162 0 9 #[53, 60, 67, 74, 79, 108, 136, 143, 150, 155], 53) := by decide +kernel
theorem dX8_count_56 : decode cX8_count 56 = .ok (.aload_n 0, 1) := by decide +kernel
theorem dX8_count_57 : decode cX8_count 57 = .ok (.getfield 9, 3) := by decide +kernel
theorem dX8_count_60 : decode cX8_count 60 = .ok (.iconst 2, 1) := by decide +kernel
theorem dX8_count_61 : decode cX8_count 61 = .ok (.iaload, 1) := by decide +kernel
theorem dX8_count_62 : decode cX8_count 62 = .ok (.ireturn, 1) := by decide +kernel
theorem dX8_count_63 : decode cX8_count 63 = .ok (.aload_n 0, 1) := by decide +kernel
theorem dX8_count_64 : decode cX8_count 64 = .ok (.getfield 9, 3) := by decide +kernel
theorem dX8_count_67 : decode cX8_count 67 = .ok (.iconst 3, 1) := by decide +kernel
theorem dX8_count_68 : decode cX8_count 68 = .ok (.iaload, 1) := by decide +kernel
theorem dX8_count_69 : decode cX8_count 69 = .ok (.ireturn, 1) := by decide +kernel
theorem dX8_count_70 : decode cX8_count 70 = .ok (.aload_n 0, 1) := by decide +kernel
theorem dX8_count_71 : decode cX8_count 71 = .ok (.getfield 9, 3) := by decide +kernel
theorem dX8_count_74 : decode cX8_count 74 = .ok (.iconst 0, 1) := by decide +kernel
theorem dX8_count_75 : decode cX8_count 75 = .ok (.iaload, 1) := by decide +kernel
theorem dX8_count_76 : decode cX8_count 76 = .ok (.ireturn, 1) := by decide +kernel
theorem dX8_count_77 : decode cX8_count 77 = .ok (.aload_n 0, 1) := by decide +kernel
theorem dX8_count_78 : decode cX8_count 78 = .ok (.invokevirtual 196, 3) := by decide +kernel
theorem dX8_count_81 : decode cX8_count 81 = .ok (.ireturn, 1) := by decide +kernel
theorem dX8_count_82 : decode cX8_count 82 = .ok (.iconst 0, 1) := by decide +kernel
theorem dX8_count_83 : decode cX8_count 83 = .ok (.istore_n 3, 1) := by decide +kernel
theorem dX8_count_84 : decode cX8_count 84 = .ok (.iload_n 3, 1) := by decide +kernel
theorem dX8_count_85 : decode cX8_count 85 = .ok (.aload_n 0, 1) := by decide +kernel
theorem dX8_count_86 : decode cX8_count 86 = .ok (.getfield 9, 3) := by decide +kernel
theorem dX8_count_89 : decode cX8_count 89 = .ok (.iconst 3, 1) := by decide +kernel
theorem dX8_count_90 : decode cX8_count 90 = .ok (.iaload, 1) := by decide +kernel
theorem dX8_count_91 : decode cX8_count 91 = .ok (.if_icmp .ge 18, 3) := by decide +kernel
theorem dX8_count_94 : decode cX8_count 94 = .ok (.iload_n 2, 1) := by decide +kernel
theorem dX8_count_95 : decode cX8_count 95 = .ok (.aload_n 0, 1) := by decide +kernel
theorem dX8_count_96 : decode cX8_count 96 = .ok (.iload_n 3, 1) := by decide +kernel
theorem dX8_count_97 : decode cX8_count 97 = .ok (.iconst 5, 1) := by decide +kernel
theorem dX8_count_98 : decode cX8_count 98 = .ok (.invokevirtual 89, 3) := by decide +kernel
theorem dX8_count_101 : decode cX8_count 101 = .ok (.iadd, 1) := by decide +kernel
theorem dX8_count_102 : decode cX8_count 102 = .ok (.istore_n 2, 1) := by decide +kernel
theorem dX8_count_103 : decode cX8_count 103 = .ok (.iinc 3 1, 3) := by decide +kernel
theorem dX8_count_106 : decode cX8_count 106 = .ok (.goto (-22), 3) := by decide +kernel
theorem dX8_count_109 : decode cX8_count 109 = .ok (.iload_n 2, 1) := by decide +kernel
theorem dX8_count_110 : decode cX8_count 110 = .ok (.ireturn, 1) := by decide +kernel
theorem dX8_count_111 : decode cX8_count 111 = .ok (.iconst 0, 1) := by decide +kernel
theorem dX8_count_112 : decode cX8_count 112 = .ok (.istore_n 3, 1) := by decide +kernel
theorem dX8_count_113 : decode cX8_count 113 = .ok (.iload_n 3, 1) := by decide +kernel
theorem dX8_count_114 : decode cX8_count 114 = .ok (.aload_n 0, 1) := by decide +kernel
theorem dX8_count_115 : decode cX8_count 115 = .ok (.getfield 9, 3) := by decide +kernel
theorem dX8_count_118 : decode cX8_count 118 = .ok (.iconst 3, 1) := by decide +kernel
theorem dX8_count_119 : decode cX8_count 119 = .ok (.iaload, 1) := by decide +kernel
theorem dX8_count_120 : decode cX8_count 120 = .ok (.if_icmp .ge 17, 3) := by decide +kernel
theorem dX8_count_123 : decode cX8_count 123 = .ok (.iload_n 2, 1) := by decide +kernel
theorem dX8_count_124 : decode cX8_count 124 = .ok (.aload_n 0, 1) := by decide +kernel
theorem dX8_count_125 : decode cX8_count 125 = .ok (.iload_n 3, 1) := by decide +kernel
theorem dX8_count_126 : decode cX8_count 126 = .ok (.invokevirtual 118, 3) := by decide +kernel
theorem dX8_count_129 : decode cX8_count 129 = .ok (.iadd, 1) := by decide +kernel
theorem dX8_count_130 : decode cX8_count 130 = .ok (.istore_n 2, 1) := by decide +kernel
theorem dX8_count_131 : decode cX8_count 131 = .ok (.iinc 3 1, 3) := by decide +kernel
theorem dX8_count_134 : decode cX8_count 134 = .ok (.goto (-21), 3) := by decide +kernel
theorem dX8_count_137 : decode cX8_count 137 = .ok (.iload_n 2, 1) := by decide +kernel
theorem dX8_count_138 : decode cX8_count 138 = .ok (.ireturn, 1) := by decide +kernel
theorem dX8_count_139 : decode cX8_count 139 = .ok (.aload_n 0, 1) := by decide +kernel
theorem dX8_count_140 : decode cX8_count 140 = .ok (.getfield 9, 3) := by decide +kernel
theorem dX8_count_143 : decode cX8_count 143 = .ok (.iconst 4, 1) := by decide +kernel
theorem dX8_count_144 : decode cX8_count 144 = .ok (.iaload, 1) := by decide +kernel
theorem dX8_count_145 : decode cX8_count 145 = .ok (.ireturn, 1) := by decide +kernel
theorem dX8_count_146 : decode cX8_count 146 = .ok (.aload_n 0, 1) := by decide +kernel
theorem dX8_count_147 : decode cX8_count 147 = .ok (.getfield 9, 3) := by decide +kernel
theorem dX8_count_150 : decode cX8_count 150 = .ok (.iconst 5, 1) := by decide +kernel
theorem dX8_count_151 : decode cX8_count 151 = .ok (.iaload, 1) := by decide +kernel
theorem dX8_count_152 : decode cX8_count 152 = .ok (.ireturn, 1) := by decide +kernel
theorem dX8_count_153 : decode cX8_count 153 = .ok (.aload_n 0, 1) := by decide +kernel
theorem dX8_count_154 : decode cX8_count 154 = .ok (.getfield 220, 3) := by decide +kernel
theorem dX8_count_157 : decode cX8_count 157 = .ok (.ireturn, 1) := by decide +kernel
theorem dX8_count_158 : decode cX8_count 158 = .ok (.aload_n 0, 1) := by decide +kernel
theorem dX8_count_159 : decode cX8_count 159 = .ok (.getfield 9, 3) := by decide +kernel
theorem dX8_count_162 : decode cX8_count 162 = .ok (.iconst 1, 1) := by decide +kernel
theorem dX8_count_163 : decode cX8_count 163 = .ok (.iaload, 1) := by decide +kernel
theorem dX8_count_164 : decode cX8_count 164 = .ok (.ireturn, 1) := by decide +kernel
theorem dX8_count_165 : decode cX8_count 165 = .ok (.aload_n 0, 1) := by decide +kernel
theorem dX8_count_166 : decode cX8_count 166 = .ok (.ldc 72, 2) := by decide +kernel
theorem dX8_count_168 : decode cX8_count 168 = .ok (.invokevirtual 73, 3) := by decide +kernel
theorem dX8_count_171 : decode cX8_count 171 = .ok (.ireturn, 1) := by decide +kernel
theorem dX8_told_0 : decode cX8_told 0 = .ok (.iload_n 1, 1) := by decide +kernel
theorem dX8_told_1 : decode cX8_told 1 = .ok (.iconst 1, 1) := by decide +kernel
theorem dX8_told_2 : decode cX8_told 2 = .ok (.iconst 5, 1) := by decide +kernel
theorem dX8_told_3 : decode cX8_told 3 = .ok (.invokestatic 47, 3) := by decide +kernel
theorem dX8_told_6 : decode cX8_told 6 = .ok (.ifCond .eq 12, 3) := by decide +kernel
theorem dX8_told_9 : decode cX8_told 9 = .ok (.aload_n 0, 1) := by decide +kernel
theorem dX8_told_10 : decode cX8_told 10 = .ok (.getfield 19, 3) := by decide +kernel
theorem dX8_told_13 : decode cX8_told 13 = .ok (.iload_n 1, 1) := by decide +kernel
theorem dX8_told_14 : decode cX8_told 14 = .ok (.iaload, 1) := by decide +kernel
theorem dX8_told_15 : decode cX8_told 15 = .ok (.goto 9, 3) := by decide +kernel
theorem dX8_told_18 : decode cX8_told 18 = .ok (.aload_n 0, 1) := by decide +kernel
theorem dX8_told_19 : decode cX8_told 19 = .ok (.ldc 72, 2) := by decide +kernel
theorem dX8_told_21 : decode cX8_told 21 = .ok (.invokevirtual 73, 3) := by decide +kernel
theorem dX8_told_24 : decode cX8_told 24 = .ok (.ireturn, 1) := by decide +kernel
theorem dJ6_bitCount_0f7a4_0 : decode cJ6_bitCount_0f7a4 0 = .ok (.iload_n 0, 1) := by decide +kernel
theorem dJ6_bitCount_0f7a4_1 : decode cJ6_bitCount_0f7a4 1 = .ok (.iload_n 0, 1) := by decide +kernel
theorem dJ6_bitCount_0f7a4_2 : decode cJ6_bitCount_0f7a4 2 = .ok (.iconst 1, 1) := by decide +kernel
theorem dJ6_bitCount_0f7a4_3 : decode cJ6_bitCount_0f7a4 3 = .ok (.iushr, 1) := by decide +kernel
theorem dJ6_bitCount_0f7a4_4 : decode cJ6_bitCount_0f7a4 4 = .ok (.ldc_w 265, 3) := by decide +kernel
theorem dJ6_bitCount_0f7a4_7 : decode cJ6_bitCount_0f7a4 7 = .ok (.iand, 1) := by decide +kernel
theorem dJ6_bitCount_0f7a4_8 : decode cJ6_bitCount_0f7a4 8 = .ok (.isub, 1) := by decide +kernel
theorem dJ6_bitCount_0f7a4_9 : decode cJ6_bitCount_0f7a4 9 = .ok (.istore_n 0, 1) := by decide +kernel
theorem dJ6_bitCount_0f7a4_10 : decode cJ6_bitCount_0f7a4 10 = .ok (.iload_n 0, 1) := by decide +kernel
theorem dJ6_bitCount_0f7a4_11 : decode cJ6_bitCount_0f7a4 11 = .ok (.ldc_w 266, 3) := by decide +kernel
theorem dJ6_bitCount_0f7a4_14 : decode cJ6_bitCount_0f7a4 14 = .ok (.iand, 1) := by decide +kernel
theorem dJ6_bitCount_0f7a4_15 : decode cJ6_bitCount_0f7a4 15 = .ok (.iload_n 0, 1) := by decide +kernel
theorem dJ6_bitCount_0f7a4_16 : decode cJ6_bitCount_0f7a4 16 = .ok (.iconst 2, 1) := by decide +kernel
theorem dJ6_bitCount_0f7a4_17 : decode cJ6_bitCount_0f7a4 17 = .ok (.iushr, 1) := by decide +kernel
theorem dJ6_bitCount_0f7a4_18 : decode cJ6_bitCount_0f7a4 18 = .ok (.ldc_w 266, 3) := by decide +kernel
theorem dJ6_bitCount_0f7a4_21 : decode cJ6_bitCount_0f7a4 21 = .ok (.iand, 1) := by decide +kernel
theorem dJ6_bitCount_0f7a4_22 : decode cJ6_bitCount_0f7a4 22 = .ok (.iadd, 1) := by decide +kernel
theorem dJ6_bitCount_0f7a4_23 : decode cJ6_bitCount_0f7a4 23 = .ok (.istore_n 0, 1) := by decide +kernel
theorem dJ6_bitCount_0f7a4_24 : decode cJ6_bitCount_0f7a4 24 = .ok (.iload_n 0, 1) := by decide +kernel
theorem dJ6_bitCount_0f7a4_25 : decode cJ6_bitCount_0f7a4 25 = .ok (.iload_n 0, 1) := by decide +kernel
theorem dJ6_bitCount_0f7a4_26 : decode cJ6_bitCount_0f7a4 26 = .ok (.iconst 4, 1) := by decide +kernel
theorem dJ6_bitCount_0f7a4_27 : decode cJ6_bitCount_0f7a4 27 = .ok (.iushr, 1) := by decide +kernel
theorem dJ6_bitCount_0f7a4_28 : decode cJ6_bitCount_0f7a4 28 = .ok (.iadd, 1) := by decide +kernel
theorem dJ6_bitCount_0f7a4_29 : decode cJ6_bitCount_0f7a4 29 = .ok (.ldc_w 267, 3) := by decide +kernel
theorem dJ6_bitCount_0f7a4_32 : decode cJ6_bitCount_0f7a4 32 = .ok (.iand, 1) := by decide +kernel
theorem dJ6_bitCount_0f7a4_33 : decode cJ6_bitCount_0f7a4 33 = .ok (.istore_n 0, 1) := by decide +kernel
theorem dJ6_bitCount_0f7a4_34 : decode cJ6_bitCount_0f7a4 34 = .ok (.iload_n 0, 1) := by decide +kernel
theorem dJ6_bitCount_0f7a4_35 : decode cJ6_bitCount_0f7a4 35 = .ok (.iload_n 0, 1) := by decide +kernel
theorem dJ6_bitCount_0f7a4_36 : decode cJ6_bitCount_0f7a4 36 = .ok (.bipush 8, 2) := by decide +kernel
theorem dJ6_bitCount_0f7a4_38 : decode cJ6_bitCount_0f7a4 38 = .ok (.iushr, 1) := by decide +kernel
theorem dJ6_bitCount_0f7a4_39 : decode cJ6_bitCount_0f7a4 39 = .ok (.iadd, 1) := by decide +kernel
theorem dJ6_bitCount_0f7a4_40 : decode cJ6_bitCount_0f7a4 40 = .ok (.istore_n 0, 1) := by decide +kernel
theorem dJ6_bitCount_0f7a4_41 : decode cJ6_bitCount_0f7a4 41 = .ok (.iload_n 0, 1) := by decide +kernel
theorem dJ6_bitCount_0f7a4_42 : decode cJ6_bitCount_0f7a4 42 = .ok (.iload_n 0, 1) := by decide +kernel
theorem dJ6_bitCount_0f7a4_43 : decode cJ6_bitCount_0f7a4 43 = .ok (.bipush 16, 2) := by decide +kernel
theorem dJ6_bitCount_0f7a4_45 : decode cJ6_bitCount_0f7a4 45 = .ok (.iushr, 1) := by decide +kernel
theorem dJ6_bitCount_0f7a4_46 : decode cJ6_bitCount_0f7a4 46 = .ok (.iadd, 1) := by decide +kernel
theorem dJ6_bitCount_0f7a4_47 : decode cJ6_bitCount_0f7a4 47 = .ok (.istore_n 0, 1) := by decide +kernel
theorem dJ6_bitCount_0f7a4_48 : decode cJ6_bitCount_0f7a4 48 = .ok (.iload_n 0, 1) := by decide +kernel
theorem dJ6_bitCount_0f7a4_49 : decode cJ6_bitCount_0f7a4 49 = .ok (.bipush 63, 2) := by decide +kernel
theorem dJ6_bitCount_0f7a4_51 : decode cJ6_bitCount_0f7a4 51 = .ok (.iand, 1) := by decide +kernel
theorem dJ6_bitCount_0f7a4_52 : decode cJ6_bitCount_0f7a4 52 = .ok (.ireturn, 1) := by decide +kernel
theorem dJ9_abs_0f7a4_0 : decode cJ9_abs_0f7a4 0 = .ok (.iload_n 0, 1) := by decide +kernel
theorem dJ9_abs_0f7a4_1 : decode cJ9_abs_0f7a4 1 = .ok (.ifCond .ge 8, 3) := by decide +kernel
theorem dJ9_abs_0f7a4_4 : decode cJ9_abs_0f7a4 4 = .ok (.iload_n 0, 1) := by decide +kernel
theorem dJ9_abs_0f7a4_5 : decode cJ9_abs_0f7a4 5 = .ok (.ineg, 1) := by decide +kernel
theorem dJ9_abs_0f7a4_6 : decode cJ9_abs_0f7a4 6 = .ok (.goto 4, 3) := by decide +kernel
theorem dJ9_abs_0f7a4_9 : decode cJ9_abs_0f7a4 9 = .ok (.iload_n 0, 1) := by decide +kernel
theorem dJ9_abs_0f7a4_10 : decode cJ9_abs_0f7a4 10 = .ok (.ireturn, 1) := by decide +kernel
theorem dJ9_max_7cf53_0 : decode cJ9_max_7cf53 0 = .ok (.iload_n 0, 1) := by decide +kernel
theorem dJ9_max_7cf53_1 : decode cJ9_max_7cf53 1 = .ok (.iload_n 1, 1) := by decide +kernel
theorem dJ9_max_7cf53_2 : decode cJ9_max_7cf53 2 = .ok (.if_icmp .lt 7, 3) := by decide +kernel
theorem dJ9_max_7cf53_5 : decode cJ9_max_7cf53 5 = .ok (.iload_n 0, 1) := by decide +kernel
theorem dJ9_max_7cf53_6 : decode cJ9_max_7cf53 6 = .ok (.goto 4, 3) := by decide +kernel
theorem dJ9_max_7cf53_9 : decode cJ9_max_7cf53 9 = .ok (.iload_n 1, 1) := by decide +kernel
theorem dJ9_max_7cf53_10 : decode cJ9_max_7cf53 10 = .ok (.ireturn, 1) := by decide +kernel
theorem dJ9_min_7cf53_0 : decode cJ9_min_7cf53 0 = .ok (.iload_n 0, 1) := by decide +kernel
theorem dJ9_min_7cf53_1 : decode cJ9_min_7cf53 1 = .ok (.iload_n 1, 1) := by decide +kernel
theorem dJ9_min_7cf53_2 : decode cJ9_min_7cf53 2 = .ok (.if_icmp .gt 7, 3) := by decide +kernel
theorem dJ9_min_7cf53_5 : decode cJ9_min_7cf53 5 = .ok (.iload_n 0, 1) := by decide +kernel
theorem dJ9_min_7cf53_6 : decode cJ9_min_7cf53 6 = .ok (.goto 4, 3) := by decide +kernel
theorem dJ9_min_7cf53_9 : decode cJ9_min_7cf53 9 = .ok (.iload_n 1, 1) := by decide +kernel
theorem dJ9_min_7cf53_10 : decode cJ9_min_7cf53 10 = .ok (.ireturn, 1) := by decide +kernel
end
section
theorem dL_law_0 : decode cL_law 0 = .ok (.new 7, 3) := by decide +kernel
theorem dL_law_3 : decode cL_law 3 = .ok (.dup, 1) := by decide +kernel
theorem dL_law_4 : decode cL_law 4 = .ok (.invokespecial 9, 3) := by decide +kernel
theorem dL_law_7 : decode cL_law 7 = .ok (.astore_n 1, 1) := by decide +kernel
theorem dL_law_8 : decode cL_law 8 = .ok (.new 10, 3) := by decide +kernel
theorem dL_law_11 : decode cL_law 11 = .ok (.dup, 1) := by decide +kernel
theorem dL_law_12 : decode cL_law 12 = .ok (.invokespecial 12, 3) := by decide +kernel
theorem dL_law_15 : decode cL_law 15 = .ok (.astore_n 2, 1) := by decide +kernel
theorem dL_law_16 : decode cL_law 16 = .ok (.iconst 0, 1) := by decide +kernel
theorem dL_law_17 : decode cL_law 17 = .ok (.istore_n 3, 1) := by decide +kernel
theorem dL_law_18 : decode cL_law 18 = .ok (.iload_n 3, 1) := by decide +kernel
theorem dL_law_19 : decode cL_law 19 = .ok (.aload_n 0, 1) := by decide +kernel
theorem dL_law_20 : decode cL_law 20 = .ok (.arraylength, 1) := by decide +kernel
theorem dL_law_21 : decode cL_law 21 = .ok (.bipush 6, 2) := by decide +kernel
theorem dL_law_23 : decode cL_law 23 = .ok (.isub, 1) := by decide +kernel
theorem dL_law_24 : decode cL_law 24 = .ok (.if_icmp .gt 1370, 3) := by decide +kernel
theorem dL_law_27 : decode cL_law 27 = .ok (.aload_n 0, 1) := by decide +kernel
theorem dL_law_28 : decode cL_law 28 = .ok (.iload_n 3, 1) := by decide +kernel
theorem dL_law_29 : decode cL_law 29 = .ok (.iaload, 1) := by decide +kernel
theorem dL_law_30 : decode cL_law 30 = .ok (.bipush 63, 2) := by decide +kernel
theorem dL_law_32 : decode cL_law 32 = .ok (.iand, 1) := by decide +kernel
theorem dL_law_33 : decode cL_law 33 = .ok (.tableswitch 1355 0 39 #[175, 218, 251, 274, 307, 330, 383, 416, 449, 482, 505, 568, 591, 644, 667, 690, 733, 766, 789, 822, 835, 848, 871, 894, 927, 950, 963, 986, 1029, 1052, 1095, 1138, 1201, 1224, 1247, 1260, 1273, 1296, 1309, 1332], 175) := by decide +kernel
theorem dL_law_208 : decode cL_law 208 = .ok (.aload_n 1, 1) := by decide +kernel
theorem dL_law_209 : decode cL_law 209 = .ok (.aload_n 0, 1) := by decide +kernel
theorem dL_law_210 : decode cL_law 210 = .ok (.iload_n 3, 1) := by decide +kernel
theorem dL_law_211 : decode cL_law 211 = .ok (.iconst 1, 1) := by decide +kernel
theorem dL_law_212 : decode cL_law 212 = .ok (.iadd, 1) := by decide +kernel
theorem dL_law_213 : decode cL_law 213 = .ok (.iaload, 1) := by decide +kernel
theorem dL_law_214 : decode cL_law 214 = .ok (.aload_n 0, 1) := by decide +kernel
theorem dL_law_215 : decode cL_law 215 = .ok (.iload_n 3, 1) := by decide +kernel
theorem dL_law_216 : decode cL_law 216 = .ok (.iconst 2, 1) := by decide +kernel
theorem dL_law_217 : decode cL_law 217 = .ok (.iadd, 1) := by decide +kernel
theorem dL_law_218 : decode cL_law 218 = .ok (.iaload, 1) := by decide +kernel
theorem dL_law_219 : decode cL_law 219 = .ok (.aload_n 0, 1) := by decide +kernel
theorem dL_law_220 : decode cL_law 220 = .ok (.iload_n 3, 1) := by decide +kernel
theorem dL_law_221 : decode cL_law 221 = .ok (.iconst 3, 1) := by decide +kernel
theorem dL_law_222 : decode cL_law 222 = .ok (.iadd, 1) := by decide +kernel
theorem dL_law_223 : decode cL_law 223 = .ok (.iaload, 1) := by decide +kernel
theorem dL_law_224 : decode cL_law 224 = .ok (.invokevirtual 13, 3) := by decide +kernel
theorem dL_law_227 : decode cL_law 227 = .ok (.aload_n 2, 1) := by decide +kernel
theorem dL_law_228 : decode cL_law 228 = .ok (.aload_n 0, 1) := by decide +kernel
theorem dL_law_229 : decode cL_law 229 = .ok (.iload_n 3, 1) := by decide +kernel
theorem dL_law_230 : decode cL_law 230 = .ok (.iconst 1, 1) := by decide +kernel
theorem dL_law_231 : decode cL_law 231 = .ok (.iadd, 1) := by decide +kernel
theorem dL_law_232 : decode cL_law 232 = .ok (.iaload, 1) := by decide +kernel
theorem dL_law_233 : decode cL_law 233 = .ok (.aload_n 0, 1) := by decide +kernel
theorem dL_law_234 : decode cL_law 234 = .ok (.iload_n 3, 1) := by decide +kernel
theorem dL_law_235 : decode cL_law 235 = .ok (.iconst 2, 1) := by decide +kernel
theorem dL_law_236 : decode cL_law 236 = .ok (.iadd, 1) := by decide +kernel
theorem dL_law_237 : decode cL_law 237 = .ok (.iaload, 1) := by decide +kernel
theorem dL_law_238 : decode cL_law 238 = .ok (.aload_n 0, 1) := by decide +kernel
theorem dL_law_239 : decode cL_law 239 = .ok (.iload_n 3, 1) := by decide +kernel
theorem dL_law_240 : decode cL_law 240 = .ok (.iconst 3, 1) := by decide +kernel
theorem dL_law_241 : decode cL_law 241 = .ok (.iadd, 1) := by decide +kernel
theorem dL_law_242 : decode cL_law 242 = .ok (.iaload, 1) := by decide +kernel
theorem dL_law_243 : decode cL_law 243 = .ok (.invokevirtual 17, 3) := by decide +kernel
theorem dL_law_246 : decode cL_law 246 = .ok (.if_icmp .eq 1142, 3) := by decide +kernel
theorem dL_law_249 : decode cL_law 249 = .ok (.iconst 0, 1) := by decide +kernel
theorem dL_law_250 : decode cL_law 250 = .ok (.ireturn, 1) := by decide +kernel
theorem dL_law_251 : decode cL_law 251 = .ok (.aload_n 1, 1) := by decide +kernel
theorem dL_law_252 : decode cL_law 252 = .ok (.aload_n 0, 1) := by decide +kernel
theorem dL_law_253 : decode cL_law 253 = .ok (.iload_n 3, 1) := by decide +kernel
theorem dL_law_254 : decode cL_law 254 = .ok (.iconst 1, 1) := by decide +kernel
theorem dL_law_255 : decode cL_law 255 = .ok (.iadd, 1) := by decide +kernel
theorem dL_law_256 : decode cL_law 256 = .ok (.iaload, 1) := by decide +kernel
theorem dL_law_257 : decode cL_law 257 = .ok (.aload_n 0, 1) := by decide +kernel
theorem dL_law_258 : decode cL_law 258 = .ok (.iload_n 3, 1) := by decide +kernel
theorem dL_law_259 : decode cL_law 259 = .ok (.iconst 2, 1) := by decide +kernel
theorem dL_law_260 : decode cL_law 260 = .ok (.iadd, 1) := by decide +kernel
theorem dL_law_261 : decode cL_law 261 = .ok (.iaload, 1) := by decide +kernel
theorem dL_law_262 : decode cL_law 262 = .ok (.invokevirtual 18, 3) := by decide +kernel
theorem dL_law_265 : decode cL_law 265 = .ok (.aload_n 2, 1) := by decide +kernel
theorem dL_law_266 : decode cL_law 266 = .ok (.aload_n 0, 1) := by decide +kernel
theorem dL_law_267 : decode cL_law 267 = .ok (.iload_n 3, 1) := by decide +kernel
theorem dL_law_268 : decode cL_law 268 = .ok (.iconst 1, 1) := by decide +kernel
theorem dL_law_269 : decode cL_law 269 = .ok (.iadd, 1) := by decide +kernel
theorem dL_law_270 : decode cL_law 270 = .ok (.iaload, 1) := by decide +kernel
theorem dL_law_271 : decode cL_law 271 = .ok (.aload_n 0, 1) := by decide +kernel
theorem dL_law_272 : decode cL_law 272 = .ok (.iload_n 3, 1) := by decide +kernel
theorem dL_law_273 : decode cL_law 273 = .ok (.iconst 2, 1) := by decide +kernel
theorem dL_law_274 : decode cL_law 274 = .ok (.iadd, 1) := by decide +kernel
theorem dL_law_275 : decode cL_law 275 = .ok (.iaload, 1) := by decide +kernel
theorem dL_law_276 : decode cL_law 276 = .ok (.invokevirtual 22, 3) := by decide +kernel
theorem dL_law_279 : decode cL_law 279 = .ok (.if_icmp .eq 1109, 3) := by decide +kernel
theorem dL_law_282 : decode cL_law 282 = .ok (.iconst 0, 1) := by decide +kernel
theorem dL_law_283 : decode cL_law 283 = .ok (.ireturn, 1) := by decide +kernel
theorem dL_law_284 : decode cL_law 284 = .ok (.aload_n 1, 1) := by decide +kernel
theorem dL_law_285 : decode cL_law 285 = .ok (.aload_n 0, 1) := by decide +kernel
theorem dL_law_286 : decode cL_law 286 = .ok (.iload_n 3, 1) := by decide +kernel
theorem dL_law_287 : decode cL_law 287 = .ok (.iconst 1, 1) := by decide +kernel
theorem dL_law_288 : decode cL_law 288 = .ok (.iadd, 1) := by decide +kernel
theorem dL_law_289 : decode cL_law 289 = .ok (.iaload, 1) := by decide +kernel
theorem dL_law_290 : decode cL_law 290 = .ok (.invokevirtual 23, 3) := by decide +kernel
theorem dL_law_293 : decode cL_law 293 = .ok (.aload_n 2, 1) := by decide +kernel
theorem dL_law_294 : decode cL_law 294 = .ok (.aload_n 0, 1) := by decide +kernel
theorem dL_law_295 : decode cL_law 295 = .ok (.iload_n 3, 1) := by decide +kernel
theorem dL_law_296 : decode cL_law 296 = .ok (.iconst 1, 1) := by decide +kernel
theorem dL_law_297 : decode cL_law 297 = .ok (.iadd, 1) := by decide +kernel
theorem dL_law_298 : decode cL_law 298 = .ok (.iaload, 1) := by decide +kernel
theorem dL_law_299 : decode cL_law 299 = .ok (.invokevirtual 27, 3) := by decide +kernel
theorem dL_law_302 : decode cL_law 302 = .ok (.if_icmp .eq 1086, 3) := by decide +kernel
theorem dL_law_305 : decode cL_law 305 = .ok (.iconst 0, 1) := by decide +kernel
theorem dL_law_306 : decode cL_law 306 = .ok (.ireturn, 1) := by decide +kernel
theorem dL_law_307 : decode cL_law 307 = .ok (.aload_n 1, 1) := by decide +kernel
theorem dL_law_308 : decode cL_law 308 = .ok (.aload_n 0, 1) := by decide +kernel
theorem dL_law_309 : decode cL_law 309 = .ok (.iload_n 3, 1) := by decide +kernel
theorem dL_law_310 : decode cL_law 310 = .ok (.iconst 1, 1) := by decide +kernel
theorem dL_law_311 : decode cL_law 311 = .ok (.iadd, 1) := by decide +kernel
theorem dL_law_312 : decode cL_law 312 = .ok (.iaload, 1) := by decide +kernel
theorem dL_law_313 : decode cL_law 313 = .ok (.aload_n 0, 1) := by decide +kernel
theorem dL_law_314 : decode cL_law 314 = .ok (.iload_n 3, 1) := by decide +kernel
theorem dL_law_315 : decode cL_law 315 = .ok (.iconst 2, 1) := by decide +kernel
theorem dL_law_316 : decode cL_law 316 = .ok (.iadd, 1) := by decide +kernel
theorem dL_law_317 : decode cL_law 317 = .ok (.iaload, 1) := by decide +kernel
theorem dL_law_318 : decode cL_law 318 = .ok (.invokevirtual 28, 3) := by decide +kernel
theorem dL_law_321 : decode cL_law 321 = .ok (.aload_n 2, 1) := by decide +kernel
theorem dL_law_322 : decode cL_law 322 = .ok (.aload_n 0, 1) := by decide +kernel
theorem dL_law_323 : decode cL_law 323 = .ok (.iload_n 3, 1) := by decide +kernel
theorem dL_law_324 : decode cL_law 324 = .ok (.iconst 1, 1) := by decide +kernel
theorem dL_law_325 : decode cL_law 325 = .ok (.iadd, 1) := by decide +kernel
theorem dL_law_326 : decode cL_law 326 = .ok (.iaload, 1) := by decide +kernel
theorem dL_law_327 : decode cL_law 327 = .ok (.aload_n 0, 1) := by decide +kernel
theorem dL_law_328 : decode cL_law 328 = .ok (.iload_n 3, 1) := by decide +kernel
theorem dL_law_329 : decode cL_law 329 = .ok (.iconst 2, 1) := by decide +kernel
theorem dL_law_330 : decode cL_law 330 = .ok (.iadd, 1) := by decide +kernel
theorem dL_law_331 : decode cL_law 331 = .ok (.iaload, 1) := by decide +kernel
theorem dL_law_332 : decode cL_law 332 = .ok (.invokevirtual 31, 3) := by decide +kernel
theorem dL_law_335 : decode cL_law 335 = .ok (.if_icmp .eq 1053, 3) := by decide +kernel
theorem dL_law_338 : decode cL_law 338 = .ok (.iconst 0, 1) := by decide +kernel
theorem dL_law_339 : decode cL_law 339 = .ok (.ireturn, 1) := by decide +kernel
theorem dL_law_340 : decode cL_law 340 = .ok (.aload_n 1, 1) := by decide +kernel
theorem dL_law_341 : decode cL_law 341 = .ok (.aload_n 0, 1) := by decide +kernel
theorem dL_law_342 : decode cL_law 342 = .ok (.iload_n 3, 1) := by decide +kernel
theorem dL_law_343 : decode cL_law 343 = .ok (.iconst 1, 1) := by decide +kernel
theorem dL_law_344 : decode cL_law 344 = .ok (.iadd, 1) := by decide +kernel
theorem dL_law_345 : decode cL_law 345 = .ok (.iaload, 1) := by decide +kernel
theorem dL_law_346 : decode cL_law 346 = .ok (.invokevirtual 32, 3) := by decide +kernel
theorem dL_law_349 : decode cL_law 349 = .ok (.aload_n 2, 1) := by decide +kernel
theorem dL_law_350 : decode cL_law 350 = .ok (.aload_n 0, 1) := by decide +kernel
theorem dL_law_351 : decode cL_law 351 = .ok (.iload_n 3, 1) := by decide +kernel
theorem dL_law_352 : decode cL_law 352 = .ok (.iconst 1, 1) := by decide +kernel
theorem dL_law_353 : decode cL_law 353 = .ok (.iadd, 1) := by decide +kernel
theorem dL_law_354 : decode cL_law 354 = .ok (.iaload, 1) := by decide +kernel
theorem dL_law_355 : decode cL_law 355 = .ok (.invokevirtual 35, 3) := by decide +kernel
theorem dL_law_358 : decode cL_law 358 = .ok (.if_icmp .eq 1030, 3) := by decide +kernel
theorem dL_law_361 : decode cL_law 361 = .ok (.iconst 0, 1) := by decide +kernel
theorem dL_law_362 : decode cL_law 362 = .ok (.ireturn, 1) := by decide +kernel
theorem dL_law_363 : decode cL_law 363 = .ok (.aload_n 1, 1) := by decide +kernel
theorem dL_law_364 : decode cL_law 364 = .ok (.aload_n 0, 1) := by decide +kernel
theorem dL_law_365 : decode cL_law 365 = .ok (.iload_n 3, 1) := by decide +kernel
theorem dL_law_366 : decode cL_law 366 = .ok (.iconst 1, 1) := by decide +kernel
theorem dL_law_367 : decode cL_law 367 = .ok (.iadd, 1) := by decide +kernel
theorem dL_law_368 : decode cL_law 368 = .ok (.iaload, 1) := by decide +kernel
theorem dL_law_369 : decode cL_law 369 = .ok (.aload_n 0, 1) := by decide +kernel
theorem dL_law_370 : decode cL_law 370 = .ok (.iload_n 3, 1) := by decide +kernel
theorem dL_law_371 : decode cL_law 371 = .ok (.iconst 2, 1) := by decide +kernel
theorem dL_law_372 : decode cL_law 372 = .ok (.iadd, 1) := by decide +kernel
theorem dL_law_373 : decode cL_law 373 = .ok (.iaload, 1) := by decide +kernel
theorem dL_law_374 : decode cL_law 374 = .ok (.aload_n 0, 1) := by decide +kernel
theorem dL_law_375 : decode cL_law 375 = .ok (.iload_n 3, 1) := by decide +kernel
theorem dL_law_376 : decode cL_law 376 = .ok (.iconst 3, 1) := by decide +kernel
theorem dL_law_377 : decode cL_law 377 = .ok (.iadd, 1) := by decide +kernel
theorem dL_law_378 : decode cL_law 378 = .ok (.iaload, 1) := by decide +kernel
theorem dL_law_379 : decode cL_law 379 = .ok (.aload_n 0, 1) := by decide +kernel
theorem dL_law_380 : decode cL_law 380 = .ok (.iload_n 3, 1) := by decide +kernel
theorem dL_law_381 : decode cL_law 381 = .ok (.iconst 4, 1) := by decide +kernel
theorem dL_law_382 : decode cL_law 382 = .ok (.iadd, 1) := by decide +kernel
theorem dL_law_383 : decode cL_law 383 = .ok (.iaload, 1) := by decide +kernel
theorem dL_law_384 : decode cL_law 384 = .ok (.invokevirtual 36, 3) := by decide +kernel
theorem dL_law_387 : decode cL_law 387 = .ok (.aload_n 2, 1) := by decide +kernel
theorem dL_law_388 : decode cL_law 388 = .ok (.aload_n 0, 1) := by decide +kernel
theorem dL_law_389 : decode cL_law 389 = .ok (.iload_n 3, 1) := by decide +kernel
theorem dL_law_390 : decode cL_law 390 = .ok (.iconst 1, 1) := by decide +kernel
theorem dL_law_391 : decode cL_law 391 = .ok (.iadd, 1) := by decide +kernel
theorem dL_law_392 : decode cL_law 392 = .ok (.iaload, 1) := by decide +kernel
theorem dL_law_393 : decode cL_law 393 = .ok (.aload_n 0, 1) := by decide +kernel
theorem dL_law_394 : decode cL_law 394 = .ok (.iload_n 3, 1) := by decide +kernel
theorem dL_law_395 : decode cL_law 395 = .ok (.iconst 2, 1) := by decide +kernel
theorem dL_law_396 : decode cL_law 396 = .ok (.iadd, 1) := by decide +kernel
theorem dL_law_397 : decode cL_law 397 = .ok (.iaload, 1) := by decide +kernel
theorem dL_law_398 : decode cL_law 398 = .ok (.aload_n 0, 1) := by decide +kernel
theorem dL_law_399 : decode cL_law 399 = .ok (.iload_n 3, 1) := by decide +kernel
theorem dL_law_400 : decode cL_law 400 = .ok (.iconst 3, 1) := by decide +kernel
theorem dL_law_401 : decode cL_law 401 = .ok (.iadd, 1) := by decide +kernel
theorem dL_law_402 : decode cL_law 402 = .ok (.iaload, 1) := by decide +kernel
theorem dL_law_403 : decode cL_law 403 = .ok (.aload_n 0, 1) := by decide +kernel
theorem dL_law_404 : decode cL_law 404 = .ok (.iload_n 3, 1) := by decide +kernel
theorem dL_law_405 : decode cL_law 405 = .ok (.iconst 4, 1) := by decide +kernel
theorem dL_law_406 : decode cL_law 406 = .ok (.iadd, 1) := by decide +kernel
theorem dL_law_407 : decode cL_law 407 = .ok (.iaload, 1) := by decide +kernel
theorem dL_law_408 : decode cL_law 408 = .ok (.invokevirtual 40, 3) := by decide +kernel
theorem dL_law_411 : decode cL_law 411 = .ok (.if_icmp .eq 977, 3) := by decide +kernel
theorem dL_law_414 : decode cL_law 414 = .ok (.iconst 0, 1) := by decide +kernel
theorem dL_law_415 : decode cL_law 415 = .ok (.ireturn, 1) := by decide +kernel
theorem dL_law_416 : decode cL_law 416 = .ok (.aload_n 1, 1) := by decide +kernel
theorem dL_law_417 : decode cL_law 417 = .ok (.aload_n 0, 1) := by decide +kernel
theorem dL_law_418 : decode cL_law 418 = .ok (.iload_n 3, 1) := by decide +kernel
theorem dL_law_419 : decode cL_law 419 = .ok (.iconst 1, 1) := by decide +kernel
theorem dL_law_420 : decode cL_law 420 = .ok (.iadd, 1) := by decide +kernel
theorem dL_law_421 : decode cL_law 421 = .ok (.iaload, 1) := by decide +kernel
theorem dL_law_422 : decode cL_law 422 = .ok (.aload_n 0, 1) := by decide +kernel
theorem dL_law_423 : decode cL_law 423 = .ok (.iload_n 3, 1) := by decide +kernel
theorem dL_law_424 : decode cL_law 424 = .ok (.iconst 2, 1) := by decide +kernel
theorem dL_law_425 : decode cL_law 425 = .ok (.iadd, 1) := by decide +kernel
theorem dL_law_426 : decode cL_law 426 = .ok (.iaload, 1) := by decide +kernel
theorem dL_law_427 : decode cL_law 427 = .ok (.invokevirtual 41, 3) := by decide +kernel
theorem dL_law_430 : decode cL_law 430 = .ok (.aload_n 2, 1) := by decide +kernel
theorem dL_law_431 : decode cL_law 431 = .ok (.aload_n 0, 1) := by decide +kernel
theorem dL_law_432 : decode cL_law 432 = .ok (.iload_n 3, 1) := by decide +kernel
theorem dL_law_433 : decode cL_law 433 = .ok (.iconst 1, 1) := by decide +kernel
theorem dL_law_434 : decode cL_law 434 = .ok (.iadd, 1) := by decide +kernel
theorem dL_law_435 : decode cL_law 435 = .ok (.iaload, 1) := by decide +kernel
theorem dL_law_436 : decode cL_law 436 = .ok (.aload_n 0, 1) := by decide +kernel
theorem dL_law_437 : decode cL_law 437 = .ok (.iload_n 3, 1) := by decide +kernel
theorem dL_law_438 : decode cL_law 438 = .ok (.iconst 2, 1) := by decide +kernel
theorem dL_law_439 : decode cL_law 439 = .ok (.iadd, 1) := by decide +kernel
theorem dL_law_440 : decode cL_law 440 = .ok (.iaload, 1) := by decide +kernel
theorem dL_law_441 : decode cL_law 441 = .ok (.invokevirtual 44, 3) := by decide +kernel
theorem dL_law_444 : decode cL_law 444 = .ok (.if_icmp .eq 944, 3) := by decide +kernel
theorem dL_law_447 : decode cL_law 447 = .ok (.iconst 0, 1) := by decide +kernel
theorem dL_law_448 : decode cL_law 448 = .ok (.ireturn, 1) := by decide +kernel
theorem dL_law_449 : decode cL_law 449 = .ok (.aload_n 1, 1) := by decide +kernel
theorem dL_law_450 : decode cL_law 450 = .ok (.aload_n 0, 1) := by decide +kernel
theorem dL_law_451 : decode cL_law 451 = .ok (.iload_n 3, 1) := by decide +kernel
theorem dL_law_452 : decode cL_law 452 = .ok (.iconst 1, 1) := by decide +kernel
theorem dL_law_453 : decode cL_law 453 = .ok (.iadd, 1) := by decide +kernel
theorem dL_law_454 : decode cL_law 454 = .ok (.iaload, 1) := by decide +kernel
theorem dL_law_455 : decode cL_law 455 = .ok (.aload_n 0, 1) := by decide +kernel
theorem dL_law_456 : decode cL_law 456 = .ok (.iload_n 3, 1) := by decide +kernel
theorem dL_law_457 : decode cL_law 457 = .ok (.iconst 2, 1) := by decide +kernel
theorem dL_law_458 : decode cL_law 458 = .ok (.iadd, 1) := by decide +kernel
theorem dL_law_459 : decode cL_law 459 = .ok (.iaload, 1) := by decide +kernel
theorem dL_law_460 : decode cL_law 460 = .ok (.invokevirtual 45, 3) := by decide +kernel
theorem dL_law_463 : decode cL_law 463 = .ok (.aload_n 2, 1) := by decide +kernel
theorem dL_law_464 : decode cL_law 464 = .ok (.aload_n 0, 1) := by decide +kernel
theorem dL_law_465 : decode cL_law 465 = .ok (.iload_n 3, 1) := by decide +kernel
theorem dL_law_466 : decode cL_law 466 = .ok (.iconst 1, 1) := by decide +kernel
theorem dL_law_467 : decode cL_law 467 = .ok (.iadd, 1) := by decide +kernel
theorem dL_law_468 : decode cL_law 468 = .ok (.iaload, 1) := by decide +kernel
theorem dL_law_469 : decode cL_law 469 = .ok (.aload_n 0, 1) := by decide +kernel
theorem dL_law_470 : decode cL_law 470 = .ok (.iload_n 3, 1) := by decide +kernel
theorem dL_law_471 : decode cL_law 471 = .ok (.iconst 2, 1) := by decide +kernel
theorem dL_law_472 : decode cL_law 472 = .ok (.iadd, 1) := by decide +kernel
theorem dL_law_473 : decode cL_law 473 = .ok (.iaload, 1) := by decide +kernel
theorem dL_law_474 : decode cL_law 474 = .ok (.invokevirtual 48, 3) := by decide +kernel
theorem dL_law_477 : decode cL_law 477 = .ok (.if_icmp .eq 911, 3) := by decide +kernel
theorem dL_law_480 : decode cL_law 480 = .ok (.iconst 0, 1) := by decide +kernel
theorem dL_law_481 : decode cL_law 481 = .ok (.ireturn, 1) := by decide +kernel
theorem dL_law_482 : decode cL_law 482 = .ok (.aload_n 1, 1) := by decide +kernel
theorem dL_law_483 : decode cL_law 483 = .ok (.aload_n 0, 1) := by decide +kernel
theorem dL_law_484 : decode cL_law 484 = .ok (.iload_n 3, 1) := by decide +kernel
theorem dL_law_485 : decode cL_law 485 = .ok (.iconst 1, 1) := by decide +kernel
theorem dL_law_486 : decode cL_law 486 = .ok (.iadd, 1) := by decide +kernel
theorem dL_law_487 : decode cL_law 487 = .ok (.iaload, 1) := by decide +kernel
theorem dL_law_488 : decode cL_law 488 = .ok (.aload_n 0, 1) := by decide +kernel
theorem dL_law_489 : decode cL_law 489 = .ok (.iload_n 3, 1) := by decide +kernel
theorem dL_law_490 : decode cL_law 490 = .ok (.iconst 2, 1) := by decide +kernel
theorem dL_law_491 : decode cL_law 491 = .ok (.iadd, 1) := by decide +kernel
theorem dL_law_492 : decode cL_law 492 = .ok (.iaload, 1) := by decide +kernel
theorem dL_law_493 : decode cL_law 493 = .ok (.invokevirtual 49, 3) := by decide +kernel
theorem dL_law_496 : decode cL_law 496 = .ok (.aload_n 2, 1) := by decide +kernel
theorem dL_law_497 : decode cL_law 497 = .ok (.aload_n 0, 1) := by decide +kernel
theorem dL_law_498 : decode cL_law 498 = .ok (.iload_n 3, 1) := by decide +kernel
theorem dL_law_499 : decode cL_law 499 = .ok (.iconst 1, 1) := by decide +kernel
theorem dL_law_500 : decode cL_law 500 = .ok (.iadd, 1) := by decide +kernel
theorem dL_law_501 : decode cL_law 501 = .ok (.iaload, 1) := by decide +kernel
theorem dL_law_502 : decode cL_law 502 = .ok (.aload_n 0, 1) := by decide +kernel
theorem dL_law_503 : decode cL_law 503 = .ok (.iload_n 3, 1) := by decide +kernel
theorem dL_law_504 : decode cL_law 504 = .ok (.iconst 2, 1) := by decide +kernel
theorem dL_law_505 : decode cL_law 505 = .ok (.iadd, 1) := by decide +kernel
theorem dL_law_506 : decode cL_law 506 = .ok (.iaload, 1) := by decide +kernel
theorem dL_law_507 : decode cL_law 507 = .ok (.invokevirtual 52, 3) := by decide +kernel
theorem dL_law_510 : decode cL_law 510 = .ok (.if_icmp .eq 878, 3) := by decide +kernel
theorem dL_law_513 : decode cL_law 513 = .ok (.iconst 0, 1) := by decide +kernel
theorem dL_law_514 : decode cL_law 514 = .ok (.ireturn, 1) := by decide +kernel
theorem dL_law_515 : decode cL_law 515 = .ok (.aload_n 1, 1) := by decide +kernel
theorem dL_law_516 : decode cL_law 516 = .ok (.aload_n 0, 1) := by decide +kernel
theorem dL_law_517 : decode cL_law 517 = .ok (.iload_n 3, 1) := by decide +kernel
theorem dL_law_518 : decode cL_law 518 = .ok (.iconst 1, 1) := by decide +kernel
theorem dL_law_519 : decode cL_law 519 = .ok (.iadd, 1) := by decide +kernel
theorem dL_law_520 : decode cL_law 520 = .ok (.iaload, 1) := by decide +kernel
theorem dL_law_521 : decode cL_law 521 = .ok (.invokevirtual 53, 3) := by decide +kernel
theorem dL_law_524 : decode cL_law 524 = .ok (.aload_n 2, 1) := by decide +kernel
theorem dL_law_525 : decode cL_law 525 = .ok (.aload_n 0, 1) := by decide +kernel
theorem dL_law_526 : decode cL_law 526 = .ok (.iload_n 3, 1) := by decide +kernel
theorem dL_law_527 : decode cL_law 527 = .ok (.iconst 1, 1) := by decide +kernel
theorem dL_law_528 : decode cL_law 528 = .ok (.iadd, 1) := by decide +kernel
theorem dL_law_529 : decode cL_law 529 = .ok (.iaload, 1) := by decide +kernel
theorem dL_law_530 : decode cL_law 530 = .ok (.invokevirtual 56, 3) := by decide +kernel
theorem dL_law_533 : decode cL_law 533 = .ok (.if_icmp .eq 855, 3) := by decide +kernel
theorem dL_law_536 : decode cL_law 536 = .ok (.iconst 0, 1) := by decide +kernel
theorem dL_law_537 : decode cL_law 537 = .ok (.ireturn, 1) := by decide +kernel
theorem dL_law_538 : decode cL_law 538 = .ok (.aload_n 1, 1) := by decide +kernel
theorem dL_law_539 : decode cL_law 539 = .ok (.aload_n 0, 1) := by decide +kernel
theorem dL_law_540 : decode cL_law 540 = .ok (.iload_n 3, 1) := by decide +kernel
theorem dL_law_541 : decode cL_law 541 = .ok (.iconst 1, 1) := by decide +kernel
theorem dL_law_542 : decode cL_law 542 = .ok (.iadd, 1) := by decide +kernel
theorem dL_law_543 : decode cL_law 543 = .ok (.iaload, 1) := by decide +kernel
theorem dL_law_544 : decode cL_law 544 = .ok (.i2l, 1) := by decide +kernel
theorem dL_law_545 : decode cL_law 545 = .ok (.bipush 32, 2) := by decide +kernel
theorem dL_law_547 : decode cL_law 547 = .ok (.lshl, 1) := by decide +kernel
theorem dL_law_548 : decode cL_law 548 = .ok (.aload_n 0, 1) := by decide +kernel
theorem dL_law_549 : decode cL_law 549 = .ok (.iload_n 3, 1) := by decide +kernel
theorem dL_law_550 : decode cL_law 550 = .ok (.iconst 2, 1) := by decide +kernel
theorem dL_law_551 : decode cL_law 551 = .ok (.iadd, 1) := by decide +kernel
theorem dL_law_552 : decode cL_law 552 = .ok (.iaload, 1) := by decide +kernel
theorem dL_law_553 : decode cL_law 553 = .ok (.i2l, 1) := by decide +kernel
theorem dL_law_554 : decode cL_law 554 = .ok (.ldc2_w 57, 3) := by decide +kernel
theorem dL_law_557 : decode cL_law 557 = .ok (.land, 1) := by decide +kernel
theorem dL_law_558 : decode cL_law 558 = .ok (.lor, 1) := by decide +kernel
theorem dL_law_559 : decode cL_law 559 = .ok (.aload_n 0, 1) := by decide +kernel
theorem dL_law_560 : decode cL_law 560 = .ok (.iload_n 3, 1) := by decide +kernel
theorem dL_law_561 : decode cL_law 561 = .ok (.iconst 3, 1) := by decide +kernel
theorem dL_law_562 : decode cL_law 562 = .ok (.iadd, 1) := by decide +kernel
theorem dL_law_563 : decode cL_law 563 = .ok (.iaload, 1) := by decide +kernel
theorem dL_law_564 : decode cL_law 564 = .ok (.invokevirtual 59, 3) := by decide +kernel
theorem dL_law_567 : decode cL_law 567 = .ok (.aload_n 2, 1) := by decide +kernel
theorem dL_law_568 : decode cL_law 568 = .ok (.aload_n 0, 1) := by decide +kernel
theorem dL_law_569 : decode cL_law 569 = .ok (.iload_n 3, 1) := by decide +kernel
theorem dL_law_570 : decode cL_law 570 = .ok (.iconst 1, 1) := by decide +kernel
end
section
theorem dL_law_571 : decode cL_law 571 = .ok (.iadd, 1) := by decide +kernel
theorem dL_law_572 : decode cL_law 572 = .ok (.iaload, 1) := by decide +kernel
theorem dL_law_573 : decode cL_law 573 = .ok (.i2l, 1) := by decide +kernel
theorem dL_law_574 : decode cL_law 574 = .ok (.bipush 32, 2) := by decide +kernel
theorem dL_law_576 : decode cL_law 576 = .ok (.lshl, 1) := by decide +kernel
theorem dL_law_577 : decode cL_law 577 = .ok (.aload_n 0, 1) := by decide +kernel
theorem dL_law_578 : decode cL_law 578 = .ok (.iload_n 3, 1) := by decide +kernel
theorem dL_law_579 : decode cL_law 579 = .ok (.iconst 2, 1) := by decide +kernel
theorem dL_law_580 : decode cL_law 580 = .ok (.iadd, 1) := by decide +kernel
theorem dL_law_581 : decode cL_law 581 = .ok (.iaload, 1) := by decide +kernel
theorem dL_law_582 : decode cL_law 582 = .ok (.i2l, 1) := by decide +kernel
theorem dL_law_583 : decode cL_law 583 = .ok (.ldc2_w 57, 3) := by decide +kernel
theorem dL_law_586 : decode cL_law 586 = .ok (.land, 1) := by decide +kernel
theorem dL_law_587 : decode cL_law 587 = .ok (.lor, 1) := by decide +kernel
theorem dL_law_588 : decode cL_law 588 = .ok (.aload_n 0, 1) := by decide +kernel
theorem dL_law_589 : decode cL_law 589 = .ok (.iload_n 3, 1) := by decide +kernel
theorem dL_law_590 : decode cL_law 590 = .ok (.iconst 3, 1) := by decide +kernel
theorem dL_law_591 : decode cL_law 591 = .ok (.iadd, 1) := by decide +kernel
theorem dL_law_592 : decode cL_law 592 = .ok (.iaload, 1) := by decide +kernel
theorem dL_law_593 : decode cL_law 593 = .ok (.invokevirtual 63, 3) := by decide +kernel
theorem dL_law_596 : decode cL_law 596 = .ok (.if_icmp .eq 792, 3) := by decide +kernel
theorem dL_law_599 : decode cL_law 599 = .ok (.iconst 0, 1) := by decide +kernel
theorem dL_law_600 : decode cL_law 600 = .ok (.ireturn, 1) := by decide +kernel
theorem dL_law_601 : decode cL_law 601 = .ok (.aload_n 1, 1) := by decide +kernel
theorem dL_law_602 : decode cL_law 602 = .ok (.aload_n 0, 1) := by decide +kernel
theorem dL_law_603 : decode cL_law 603 = .ok (.iload_n 3, 1) := by decide +kernel
theorem dL_law_604 : decode cL_law 604 = .ok (.iconst 1, 1) := by decide +kernel
theorem dL_law_605 : decode cL_law 605 = .ok (.iadd, 1) := by decide +kernel
theorem dL_law_606 : decode cL_law 606 = .ok (.iaload, 1) := by decide +kernel
theorem dL_law_607 : decode cL_law 607 = .ok (.invokevirtual 64, 3) := by decide +kernel
theorem dL_law_610 : decode cL_law 610 = .ok (.aload_n 2, 1) := by decide +kernel
theorem dL_law_611 : decode cL_law 611 = .ok (.aload_n 0, 1) := by decide +kernel
theorem dL_law_612 : decode cL_law 612 = .ok (.iload_n 3, 1) := by decide +kernel
theorem dL_law_613 : decode cL_law 613 = .ok (.iconst 1, 1) := by decide +kernel
theorem dL_law_614 : decode cL_law 614 = .ok (.iadd, 1) := by decide +kernel
theorem dL_law_615 : decode cL_law 615 = .ok (.iaload, 1) := by decide +kernel
theorem dL_law_616 : decode cL_law 616 = .ok (.invokevirtual 67, 3) := by decide +kernel
theorem dL_law_619 : decode cL_law 619 = .ok (.if_icmp .eq 769, 3) := by decide +kernel
theorem dL_law_622 : decode cL_law 622 = .ok (.iconst 0, 1) := by decide +kernel
theorem dL_law_623 : decode cL_law 623 = .ok (.ireturn, 1) := by decide +kernel
theorem dL_law_624 : decode cL_law 624 = .ok (.aload_n 1, 1) := by decide +kernel
theorem dL_law_625 : decode cL_law 625 = .ok (.aload_n 0, 1) := by decide +kernel
theorem dL_law_626 : decode cL_law 626 = .ok (.iload_n 3, 1) := by decide +kernel
theorem dL_law_627 : decode cL_law 627 = .ok (.iconst 1, 1) := by decide +kernel
theorem dL_law_628 : decode cL_law 628 = .ok (.iadd, 1) := by decide +kernel
theorem dL_law_629 : decode cL_law 629 = .ok (.iaload, 1) := by decide +kernel
theorem dL_law_630 : decode cL_law 630 = .ok (.aload_n 0, 1) := by decide +kernel
theorem dL_law_631 : decode cL_law 631 = .ok (.iload_n 3, 1) := by decide +kernel
theorem dL_law_632 : decode cL_law 632 = .ok (.iconst 2, 1) := by decide +kernel
theorem dL_law_633 : decode cL_law 633 = .ok (.iadd, 1) := by decide +kernel
theorem dL_law_634 : decode cL_law 634 = .ok (.iaload, 1) := by decide +kernel
theorem dL_law_635 : decode cL_law 635 = .ok (.aload_n 0, 1) := by decide +kernel
theorem dL_law_636 : decode cL_law 636 = .ok (.iload_n 3, 1) := by decide +kernel
theorem dL_law_637 : decode cL_law 637 = .ok (.iconst 3, 1) := by decide +kernel
theorem dL_law_638 : decode cL_law 638 = .ok (.iadd, 1) := by decide +kernel
theorem dL_law_639 : decode cL_law 639 = .ok (.iaload, 1) := by decide +kernel
theorem dL_law_640 : decode cL_law 640 = .ok (.aload_n 0, 1) := by decide +kernel
theorem dL_law_641 : decode cL_law 641 = .ok (.iload_n 3, 1) := by decide +kernel
theorem dL_law_642 : decode cL_law 642 = .ok (.iconst 4, 1) := by decide +kernel
theorem dL_law_643 : decode cL_law 643 = .ok (.iadd, 1) := by decide +kernel
theorem dL_law_644 : decode cL_law 644 = .ok (.iaload, 1) := by decide +kernel
theorem dL_law_645 : decode cL_law 645 = .ok (.invokevirtual 68, 3) := by decide +kernel
theorem dL_law_648 : decode cL_law 648 = .ok (.aload_n 2, 1) := by decide +kernel
theorem dL_law_649 : decode cL_law 649 = .ok (.aload_n 0, 1) := by decide +kernel
theorem dL_law_650 : decode cL_law 650 = .ok (.iload_n 3, 1) := by decide +kernel
theorem dL_law_651 : decode cL_law 651 = .ok (.iconst 1, 1) := by decide +kernel
theorem dL_law_652 : decode cL_law 652 = .ok (.iadd, 1) := by decide +kernel
theorem dL_law_653 : decode cL_law 653 = .ok (.iaload, 1) := by decide +kernel
theorem dL_law_654 : decode cL_law 654 = .ok (.aload_n 0, 1) := by decide +kernel
theorem dL_law_655 : decode cL_law 655 = .ok (.iload_n 3, 1) := by decide +kernel
theorem dL_law_656 : decode cL_law 656 = .ok (.iconst 2, 1) := by decide +kernel
theorem dL_law_657 : decode cL_law 657 = .ok (.iadd, 1) := by decide +kernel
theorem dL_law_658 : decode cL_law 658 = .ok (.iaload, 1) := by decide +kernel
theorem dL_law_659 : decode cL_law 659 = .ok (.aload_n 0, 1) := by decide +kernel
theorem dL_law_660 : decode cL_law 660 = .ok (.iload_n 3, 1) := by decide +kernel
theorem dL_law_661 : decode cL_law 661 = .ok (.iconst 3, 1) := by decide +kernel
theorem dL_law_662 : decode cL_law 662 = .ok (.iadd, 1) := by decide +kernel
theorem dL_law_663 : decode cL_law 663 = .ok (.iaload, 1) := by decide +kernel
theorem dL_law_664 : decode cL_law 664 = .ok (.aload_n 0, 1) := by decide +kernel
theorem dL_law_665 : decode cL_law 665 = .ok (.iload_n 3, 1) := by decide +kernel
theorem dL_law_666 : decode cL_law 666 = .ok (.iconst 4, 1) := by decide +kernel
theorem dL_law_667 : decode cL_law 667 = .ok (.iadd, 1) := by decide +kernel
theorem dL_law_668 : decode cL_law 668 = .ok (.iaload, 1) := by decide +kernel
theorem dL_law_669 : decode cL_law 669 = .ok (.invokevirtual 71, 3) := by decide +kernel
theorem dL_law_672 : decode cL_law 672 = .ok (.if_icmp .eq 716, 3) := by decide +kernel
theorem dL_law_675 : decode cL_law 675 = .ok (.iconst 0, 1) := by decide +kernel
theorem dL_law_676 : decode cL_law 676 = .ok (.ireturn, 1) := by decide +kernel
theorem dL_law_677 : decode cL_law 677 = .ok (.aload_n 1, 1) := by decide +kernel
theorem dL_law_678 : decode cL_law 678 = .ok (.aload_n 0, 1) := by decide +kernel
theorem dL_law_679 : decode cL_law 679 = .ok (.iload_n 3, 1) := by decide +kernel
theorem dL_law_680 : decode cL_law 680 = .ok (.iconst 1, 1) := by decide +kernel
theorem dL_law_681 : decode cL_law 681 = .ok (.iadd, 1) := by decide +kernel
theorem dL_law_682 : decode cL_law 682 = .ok (.iaload, 1) := by decide +kernel
theorem dL_law_683 : decode cL_law 683 = .ok (.invokevirtual 72, 3) := by decide +kernel
theorem dL_law_686 : decode cL_law 686 = .ok (.aload_n 2, 1) := by decide +kernel
theorem dL_law_687 : decode cL_law 687 = .ok (.aload_n 0, 1) := by decide +kernel
theorem dL_law_688 : decode cL_law 688 = .ok (.iload_n 3, 1) := by decide +kernel
theorem dL_law_689 : decode cL_law 689 = .ok (.iconst 1, 1) := by decide +kernel
theorem dL_law_690 : decode cL_law 690 = .ok (.iadd, 1) := by decide +kernel
theorem dL_law_691 : decode cL_law 691 = .ok (.iaload, 1) := by decide +kernel
theorem dL_law_692 : decode cL_law 692 = .ok (.invokevirtual 75, 3) := by decide +kernel
theorem dL_law_695 : decode cL_law 695 = .ok (.if_icmp .eq 693, 3) := by decide +kernel
theorem dL_law_698 : decode cL_law 698 = .ok (.iconst 0, 1) := by decide +kernel
theorem dL_law_699 : decode cL_law 699 = .ok (.ireturn, 1) := by decide +kernel
theorem dL_law_700 : decode cL_law 700 = .ok (.aload_n 1, 1) := by decide +kernel
theorem dL_law_701 : decode cL_law 701 = .ok (.aload_n 0, 1) := by decide +kernel
theorem dL_law_702 : decode cL_law 702 = .ok (.iload_n 3, 1) := by decide +kernel
theorem dL_law_703 : decode cL_law 703 = .ok (.iconst 1, 1) := by decide +kernel
theorem dL_law_704 : decode cL_law 704 = .ok (.iadd, 1) := by decide +kernel
theorem dL_law_705 : decode cL_law 705 = .ok (.iaload, 1) := by decide +kernel
theorem dL_law_706 : decode cL_law 706 = .ok (.invokevirtual 76, 3) := by decide +kernel
theorem dL_law_709 : decode cL_law 709 = .ok (.aload_n 2, 1) := by decide +kernel
theorem dL_law_710 : decode cL_law 710 = .ok (.aload_n 0, 1) := by decide +kernel
theorem dL_law_711 : decode cL_law 711 = .ok (.iload_n 3, 1) := by decide +kernel
theorem dL_law_712 : decode cL_law 712 = .ok (.iconst 1, 1) := by decide +kernel
theorem dL_law_713 : decode cL_law 713 = .ok (.iadd, 1) := by decide +kernel
theorem dL_law_714 : decode cL_law 714 = .ok (.iaload, 1) := by decide +kernel
theorem dL_law_715 : decode cL_law 715 = .ok (.invokevirtual 79, 3) := by decide +kernel
theorem dL_law_718 : decode cL_law 718 = .ok (.if_icmp .eq 670, 3) := by decide +kernel
theorem dL_law_721 : decode cL_law 721 = .ok (.iconst 0, 1) := by decide +kernel
theorem dL_law_722 : decode cL_law 722 = .ok (.ireturn, 1) := by decide +kernel
theorem dL_law_723 : decode cL_law 723 = .ok (.aload_n 1, 1) := by decide +kernel
theorem dL_law_724 : decode cL_law 724 = .ok (.aload_n 0, 1) := by decide +kernel
theorem dL_law_725 : decode cL_law 725 = .ok (.iload_n 3, 1) := by decide +kernel
theorem dL_law_726 : decode cL_law 726 = .ok (.iconst 1, 1) := by decide +kernel
theorem dL_law_727 : decode cL_law 727 = .ok (.iadd, 1) := by decide +kernel
theorem dL_law_728 : decode cL_law 728 = .ok (.iaload, 1) := by decide +kernel
theorem dL_law_729 : decode cL_law 729 = .ok (.aload_n 0, 1) := by decide +kernel
theorem dL_law_730 : decode cL_law 730 = .ok (.iload_n 3, 1) := by decide +kernel
theorem dL_law_731 : decode cL_law 731 = .ok (.iconst 2, 1) := by decide +kernel
theorem dL_law_732 : decode cL_law 732 = .ok (.iadd, 1) := by decide +kernel
theorem dL_law_733 : decode cL_law 733 = .ok (.iaload, 1) := by decide +kernel
theorem dL_law_734 : decode cL_law 734 = .ok (.aload_n 0, 1) := by decide +kernel
theorem dL_law_735 : decode cL_law 735 = .ok (.iload_n 3, 1) := by decide +kernel
theorem dL_law_736 : decode cL_law 736 = .ok (.iconst 3, 1) := by decide +kernel
theorem dL_law_737 : decode cL_law 737 = .ok (.iadd, 1) := by decide +kernel
theorem dL_law_738 : decode cL_law 738 = .ok (.iaload, 1) := by decide +kernel
theorem dL_law_739 : decode cL_law 739 = .ok (.invokevirtual 80, 3) := by decide +kernel
theorem dL_law_742 : decode cL_law 742 = .ok (.aload_n 2, 1) := by decide +kernel
theorem dL_law_743 : decode cL_law 743 = .ok (.aload_n 0, 1) := by decide +kernel
theorem dL_law_744 : decode cL_law 744 = .ok (.iload_n 3, 1) := by decide +kernel
theorem dL_law_745 : decode cL_law 745 = .ok (.iconst 1, 1) := by decide +kernel
theorem dL_law_746 : decode cL_law 746 = .ok (.iadd, 1) := by decide +kernel
theorem dL_law_747 : decode cL_law 747 = .ok (.iaload, 1) := by decide +kernel
theorem dL_law_748 : decode cL_law 748 = .ok (.aload_n 0, 1) := by decide +kernel
theorem dL_law_749 : decode cL_law 749 = .ok (.iload_n 3, 1) := by decide +kernel
theorem dL_law_750 : decode cL_law 750 = .ok (.iconst 2, 1) := by decide +kernel
theorem dL_law_751 : decode cL_law 751 = .ok (.iadd, 1) := by decide +kernel
theorem dL_law_752 : decode cL_law 752 = .ok (.iaload, 1) := by decide +kernel
theorem dL_law_753 : decode cL_law 753 = .ok (.aload_n 0, 1) := by decide +kernel
theorem dL_law_754 : decode cL_law 754 = .ok (.iload_n 3, 1) := by decide +kernel
theorem dL_law_755 : decode cL_law 755 = .ok (.iconst 3, 1) := by decide +kernel
theorem dL_law_756 : decode cL_law 756 = .ok (.iadd, 1) := by decide +kernel
theorem dL_law_757 : decode cL_law 757 = .ok (.iaload, 1) := by decide +kernel
theorem dL_law_758 : decode cL_law 758 = .ok (.invokevirtual 83, 3) := by decide +kernel
theorem dL_law_761 : decode cL_law 761 = .ok (.if_icmp .eq 627, 3) := by decide +kernel
theorem dL_law_764 : decode cL_law 764 = .ok (.iconst 0, 1) := by decide +kernel
theorem dL_law_765 : decode cL_law 765 = .ok (.ireturn, 1) := by decide +kernel
theorem dL_law_766 : decode cL_law 766 = .ok (.aload_n 1, 1) := by decide +kernel
theorem dL_law_767 : decode cL_law 767 = .ok (.aload_n 0, 1) := by decide +kernel
theorem dL_law_768 : decode cL_law 768 = .ok (.iload_n 3, 1) := by decide +kernel
theorem dL_law_769 : decode cL_law 769 = .ok (.iconst 1, 1) := by decide +kernel
theorem dL_law_770 : decode cL_law 770 = .ok (.iadd, 1) := by decide +kernel
theorem dL_law_771 : decode cL_law 771 = .ok (.iaload, 1) := by decide +kernel
theorem dL_law_772 : decode cL_law 772 = .ok (.aload_n 0, 1) := by decide +kernel
theorem dL_law_773 : decode cL_law 773 = .ok (.iload_n 3, 1) := by decide +kernel
theorem dL_law_774 : decode cL_law 774 = .ok (.iconst 2, 1) := by decide +kernel
theorem dL_law_775 : decode cL_law 775 = .ok (.iadd, 1) := by decide +kernel
theorem dL_law_776 : decode cL_law 776 = .ok (.iaload, 1) := by decide +kernel
theorem dL_law_777 : decode cL_law 777 = .ok (.invokevirtual 84, 3) := by decide +kernel
theorem dL_law_780 : decode cL_law 780 = .ok (.aload_n 2, 1) := by decide +kernel
theorem dL_law_781 : decode cL_law 781 = .ok (.aload_n 0, 1) := by decide +kernel
theorem dL_law_782 : decode cL_law 782 = .ok (.iload_n 3, 1) := by decide +kernel
theorem dL_law_783 : decode cL_law 783 = .ok (.iconst 1, 1) := by decide +kernel
theorem dL_law_784 : decode cL_law 784 = .ok (.iadd, 1) := by decide +kernel
theorem dL_law_785 : decode cL_law 785 = .ok (.iaload, 1) := by decide +kernel
theorem dL_law_786 : decode cL_law 786 = .ok (.aload_n 0, 1) := by decide +kernel
theorem dL_law_787 : decode cL_law 787 = .ok (.iload_n 3, 1) := by decide +kernel
theorem dL_law_788 : decode cL_law 788 = .ok (.iconst 2, 1) := by decide +kernel
theorem dL_law_789 : decode cL_law 789 = .ok (.iadd, 1) := by decide +kernel
theorem dL_law_790 : decode cL_law 790 = .ok (.iaload, 1) := by decide +kernel
theorem dL_law_791 : decode cL_law 791 = .ok (.invokevirtual 87, 3) := by decide +kernel
theorem dL_law_794 : decode cL_law 794 = .ok (.if_icmp .eq 594, 3) := by decide +kernel
theorem dL_law_797 : decode cL_law 797 = .ok (.iconst 0, 1) := by decide +kernel
theorem dL_law_798 : decode cL_law 798 = .ok (.ireturn, 1) := by decide +kernel
theorem dL_law_799 : decode cL_law 799 = .ok (.aload_n 1, 1) := by decide +kernel
theorem dL_law_800 : decode cL_law 800 = .ok (.aload_n 0, 1) := by decide +kernel
theorem dL_law_801 : decode cL_law 801 = .ok (.iload_n 3, 1) := by decide +kernel
theorem dL_law_802 : decode cL_law 802 = .ok (.iconst 1, 1) := by decide +kernel
theorem dL_law_803 : decode cL_law 803 = .ok (.iadd, 1) := by decide +kernel
theorem dL_law_804 : decode cL_law 804 = .ok (.iaload, 1) := by decide +kernel
theorem dL_law_805 : decode cL_law 805 = .ok (.invokevirtual 88, 3) := by decide +kernel
theorem dL_law_808 : decode cL_law 808 = .ok (.aload_n 2, 1) := by decide +kernel
theorem dL_law_809 : decode cL_law 809 = .ok (.aload_n 0, 1) := by decide +kernel
theorem dL_law_810 : decode cL_law 810 = .ok (.iload_n 3, 1) := by decide +kernel
theorem dL_law_811 : decode cL_law 811 = .ok (.iconst 1, 1) := by decide +kernel
theorem dL_law_812 : decode cL_law 812 = .ok (.iadd, 1) := by decide +kernel
theorem dL_law_813 : decode cL_law 813 = .ok (.iaload, 1) := by decide +kernel
theorem dL_law_814 : decode cL_law 814 = .ok (.invokevirtual 91, 3) := by decide +kernel
theorem dL_law_817 : decode cL_law 817 = .ok (.if_icmp .eq 571, 3) := by decide +kernel
theorem dL_law_820 : decode cL_law 820 = .ok (.iconst 0, 1) := by decide +kernel
theorem dL_law_821 : decode cL_law 821 = .ok (.ireturn, 1) := by decide +kernel
theorem dL_law_822 : decode cL_law 822 = .ok (.aload_n 1, 1) := by decide +kernel
theorem dL_law_823 : decode cL_law 823 = .ok (.aload_n 0, 1) := by decide +kernel
theorem dL_law_824 : decode cL_law 824 = .ok (.iload_n 3, 1) := by decide +kernel
theorem dL_law_825 : decode cL_law 825 = .ok (.iconst 1, 1) := by decide +kernel
theorem dL_law_826 : decode cL_law 826 = .ok (.iadd, 1) := by decide +kernel
theorem dL_law_827 : decode cL_law 827 = .ok (.iaload, 1) := by decide +kernel
theorem dL_law_828 : decode cL_law 828 = .ok (.aload_n 0, 1) := by decide +kernel
theorem dL_law_829 : decode cL_law 829 = .ok (.iload_n 3, 1) := by decide +kernel
theorem dL_law_830 : decode cL_law 830 = .ok (.iconst 2, 1) := by decide +kernel
theorem dL_law_831 : decode cL_law 831 = .ok (.iadd, 1) := by decide +kernel
theorem dL_law_832 : decode cL_law 832 = .ok (.iaload, 1) := by decide +kernel
theorem dL_law_833 : decode cL_law 833 = .ok (.invokevirtual 92, 3) := by decide +kernel
theorem dL_law_836 : decode cL_law 836 = .ok (.aload_n 2, 1) := by decide +kernel
theorem dL_law_837 : decode cL_law 837 = .ok (.aload_n 0, 1) := by decide +kernel
theorem dL_law_838 : decode cL_law 838 = .ok (.iload_n 3, 1) := by decide +kernel
theorem dL_law_839 : decode cL_law 839 = .ok (.iconst 1, 1) := by decide +kernel
theorem dL_law_840 : decode cL_law 840 = .ok (.iadd, 1) := by decide +kernel
theorem dL_law_841 : decode cL_law 841 = .ok (.iaload, 1) := by decide +kernel
theorem dL_law_842 : decode cL_law 842 = .ok (.aload_n 0, 1) := by decide +kernel
theorem dL_law_843 : decode cL_law 843 = .ok (.iload_n 3, 1) := by decide +kernel
theorem dL_law_844 : decode cL_law 844 = .ok (.iconst 2, 1) := by decide +kernel
theorem dL_law_845 : decode cL_law 845 = .ok (.iadd, 1) := by decide +kernel
theorem dL_law_846 : decode cL_law 846 = .ok (.iaload, 1) := by decide +kernel
theorem dL_law_847 : decode cL_law 847 = .ok (.invokevirtual 95, 3) := by decide +kernel
theorem dL_law_850 : decode cL_law 850 = .ok (.if_icmp .eq 538, 3) := by decide +kernel
theorem dL_law_853 : decode cL_law 853 = .ok (.iconst 0, 1) := by decide +kernel
theorem dL_law_854 : decode cL_law 854 = .ok (.ireturn, 1) := by decide +kernel
theorem dL_law_855 : decode cL_law 855 = .ok (.aload_n 1, 1) := by decide +kernel
theorem dL_law_856 : decode cL_law 856 = .ok (.invokevirtual 96, 3) := by decide +kernel
theorem dL_law_859 : decode cL_law 859 = .ok (.aload_n 2, 1) := by decide +kernel
theorem dL_law_860 : decode cL_law 860 = .ok (.invokevirtual 100, 3) := by decide +kernel
theorem dL_law_863 : decode cL_law 863 = .ok (.if_icmp .eq 525, 3) := by decide +kernel
theorem dL_law_866 : decode cL_law 866 = .ok (.iconst 0, 1) := by decide +kernel
theorem dL_law_867 : decode cL_law 867 = .ok (.ireturn, 1) := by decide +kernel
theorem dL_law_868 : decode cL_law 868 = .ok (.aload_n 1, 1) := by decide +kernel
theorem dL_law_869 : decode cL_law 869 = .ok (.invokevirtual 101, 3) := by decide +kernel
theorem dL_law_872 : decode cL_law 872 = .ok (.aload_n 2, 1) := by decide +kernel
theorem dL_law_873 : decode cL_law 873 = .ok (.invokevirtual 104, 3) := by decide +kernel
theorem dL_law_876 : decode cL_law 876 = .ok (.if_icmp .eq 512, 3) := by decide +kernel
theorem dL_law_879 : decode cL_law 879 = .ok (.iconst 0, 1) := by decide +kernel
theorem dL_law_880 : decode cL_law 880 = .ok (.ireturn, 1) := by decide +kernel
theorem dL_law_881 : decode cL_law 881 = .ok (.aload_n 1, 1) := by decide +kernel
theorem dL_law_882 : decode cL_law 882 = .ok (.aload_n 0, 1) := by decide +kernel
theorem dL_law_883 : decode cL_law 883 = .ok (.iload_n 3, 1) := by decide +kernel
theorem dL_law_884 : decode cL_law 884 = .ok (.iconst 1, 1) := by decide +kernel
theorem dL_law_885 : decode cL_law 885 = .ok (.iadd, 1) := by decide +kernel
theorem dL_law_886 : decode cL_law 886 = .ok (.iaload, 1) := by decide +kernel
theorem dL_law_887 : decode cL_law 887 = .ok (.invokevirtual 105, 3) := by decide +kernel
theorem dL_law_890 : decode cL_law 890 = .ok (.aload_n 2, 1) := by decide +kernel
theorem dL_law_891 : decode cL_law 891 = .ok (.aload_n 0, 1) := by decide +kernel
theorem dL_law_892 : decode cL_law 892 = .ok (.iload_n 3, 1) := by decide +kernel
theorem dL_law_893 : decode cL_law 893 = .ok (.iconst 1, 1) := by decide +kernel
theorem dL_law_894 : decode cL_law 894 = .ok (.iadd, 1) := by decide +kernel
theorem dL_law_895 : decode cL_law 895 = .ok (.iaload, 1) := by decide +kernel
theorem dL_law_896 : decode cL_law 896 = .ok (.invokevirtual 108, 3) := by decide +kernel
theorem dL_law_899 : decode cL_law 899 = .ok (.if_icmp .eq 489, 3) := by decide +kernel
theorem dL_law_902 : decode cL_law 902 = .ok (.iconst 0, 1) := by decide +kernel
theorem dL_law_903 : decode cL_law 903 = .ok (.ireturn, 1) := by decide +kernel
theorem dL_law_904 : decode cL_law 904 = .ok (.aload_n 1, 1) := by decide +kernel
theorem dL_law_905 : decode cL_law 905 = .ok (.aload_n 0, 1) := by decide +kernel
theorem dL_law_906 : decode cL_law 906 = .ok (.iload_n 3, 1) := by decide +kernel
theorem dL_law_907 : decode cL_law 907 = .ok (.iconst 1, 1) := by decide +kernel
theorem dL_law_908 : decode cL_law 908 = .ok (.iadd, 1) := by decide +kernel
theorem dL_law_909 : decode cL_law 909 = .ok (.iaload, 1) := by decide +kernel
theorem dL_law_910 : decode cL_law 910 = .ok (.invokevirtual 109, 3) := by decide +kernel
theorem dL_law_913 : decode cL_law 913 = .ok (.aload_n 2, 1) := by decide +kernel
theorem dL_law_914 : decode cL_law 914 = .ok (.aload_n 0, 1) := by decide +kernel
theorem dL_law_915 : decode cL_law 915 = .ok (.iload_n 3, 1) := by decide +kernel
theorem dL_law_916 : decode cL_law 916 = .ok (.iconst 1, 1) := by decide +kernel
theorem dL_law_917 : decode cL_law 917 = .ok (.iadd, 1) := by decide +kernel
theorem dL_law_918 : decode cL_law 918 = .ok (.iaload, 1) := by decide +kernel
theorem dL_law_919 : decode cL_law 919 = .ok (.invokevirtual 112, 3) := by decide +kernel
theorem dL_law_922 : decode cL_law 922 = .ok (.if_icmp .eq 466, 3) := by decide +kernel
theorem dL_law_925 : decode cL_law 925 = .ok (.iconst 0, 1) := by decide +kernel
theorem dL_law_926 : decode cL_law 926 = .ok (.ireturn, 1) := by decide +kernel
theorem dL_law_927 : decode cL_law 927 = .ok (.aload_n 1, 1) := by decide +kernel
theorem dL_law_928 : decode cL_law 928 = .ok (.aload_n 0, 1) := by decide +kernel
theorem dL_law_929 : decode cL_law 929 = .ok (.iload_n 3, 1) := by decide +kernel
theorem dL_law_930 : decode cL_law 930 = .ok (.iconst 1, 1) := by decide +kernel
theorem dL_law_931 : decode cL_law 931 = .ok (.iadd, 1) := by decide +kernel
theorem dL_law_932 : decode cL_law 932 = .ok (.iaload, 1) := by decide +kernel
theorem dL_law_933 : decode cL_law 933 = .ok (.aload_n 0, 1) := by decide +kernel
theorem dL_law_934 : decode cL_law 934 = .ok (.iload_n 3, 1) := by decide +kernel
theorem dL_law_935 : decode cL_law 935 = .ok (.iconst 2, 1) := by decide +kernel
theorem dL_law_936 : decode cL_law 936 = .ok (.iadd, 1) := by decide +kernel
theorem dL_law_937 : decode cL_law 937 = .ok (.iaload, 1) := by decide +kernel
theorem dL_law_938 : decode cL_law 938 = .ok (.invokevirtual 113, 3) := by decide +kernel
theorem dL_law_941 : decode cL_law 941 = .ok (.aload_n 2, 1) := by decide +kernel
theorem dL_law_942 : decode cL_law 942 = .ok (.aload_n 0, 1) := by decide +kernel
theorem dL_law_943 : decode cL_law 943 = .ok (.iload_n 3, 1) := by decide +kernel
theorem dL_law_944 : decode cL_law 944 = .ok (.iconst 1, 1) := by decide +kernel
theorem dL_law_945 : decode cL_law 945 = .ok (.iadd, 1) := by decide +kernel
theorem dL_law_946 : decode cL_law 946 = .ok (.iaload, 1) := by decide +kernel
theorem dL_law_947 : decode cL_law 947 = .ok (.aload_n 0, 1) := by decide +kernel
theorem dL_law_948 : decode cL_law 948 = .ok (.iload_n 3, 1) := by decide +kernel
theorem dL_law_949 : decode cL_law 949 = .ok (.iconst 2, 1) := by decide +kernel
theorem dL_law_950 : decode cL_law 950 = .ok (.iadd, 1) := by decide +kernel
theorem dL_law_951 : decode cL_law 951 = .ok (.iaload, 1) := by decide +kernel
theorem dL_law_952 : decode cL_law 952 = .ok (.invokevirtual 116, 3) := by decide +kernel
theorem dL_law_955 : decode cL_law 955 = .ok (.if_icmp .eq 433, 3) := by decide +kernel
theorem dL_law_958 : decode cL_law 958 = .ok (.iconst 0, 1) := by decide +kernel
theorem dL_law_959 : decode cL_law 959 = .ok (.ireturn, 1) := by decide +kernel
theorem dL_law_960 : decode cL_law 960 = .ok (.aload_n 1, 1) := by decide +kernel
theorem dL_law_961 : decode cL_law 961 = .ok (.aload_n 0, 1) := by decide +kernel
theorem dL_law_962 : decode cL_law 962 = .ok (.iload_n 3, 1) := by decide +kernel
theorem dL_law_963 : decode cL_law 963 = .ok (.iconst 1, 1) := by decide +kernel
theorem dL_law_964 : decode cL_law 964 = .ok (.iadd, 1) := by decide +kernel
theorem dL_law_965 : decode cL_law 965 = .ok (.iaload, 1) := by decide +kernel
theorem dL_law_966 : decode cL_law 966 = .ok (.invokevirtual 117, 3) := by decide +kernel
theorem dL_law_969 : decode cL_law 969 = .ok (.aload_n 2, 1) := by decide +kernel
theorem dL_law_970 : decode cL_law 970 = .ok (.aload_n 0, 1) := by decide +kernel
theorem dL_law_971 : decode cL_law 971 = .ok (.iload_n 3, 1) := by decide +kernel
theorem dL_law_972 : decode cL_law 972 = .ok (.iconst 1, 1) := by decide +kernel
theorem dL_law_973 : decode cL_law 973 = .ok (.iadd, 1) := by decide +kernel
theorem dL_law_974 : decode cL_law 974 = .ok (.iaload, 1) := by decide +kernel
theorem dL_law_975 : decode cL_law 975 = .ok (.invokevirtual 120, 3) := by decide +kernel
theorem dL_law_978 : decode cL_law 978 = .ok (.if_icmp .eq 410, 3) := by decide +kernel
theorem dL_law_981 : decode cL_law 981 = .ok (.iconst 0, 1) := by decide +kernel
end
section
theorem dL_law_982 : decode cL_law 982 = .ok (.ireturn, 1) := by decide +kernel
theorem dL_law_983 : decode cL_law 983 = .ok (.aload_n 1, 1) := by decide +kernel
theorem dL_law_984 : decode cL_law 984 = .ok (.invokevirtual 121, 3) := by decide +kernel
theorem dL_law_987 : decode cL_law 987 = .ok (.aload_n 2, 1) := by decide +kernel
theorem dL_law_988 : decode cL_law 988 = .ok (.invokevirtual 124, 3) := by decide +kernel
theorem dL_law_991 : decode cL_law 991 = .ok (.if_icmp .eq 397, 3) := by decide +kernel
theorem dL_law_994 : decode cL_law 994 = .ok (.iconst 0, 1) := by decide +kernel
theorem dL_law_995 : decode cL_law 995 = .ok (.ireturn, 1) := by decide +kernel
theorem dL_law_996 : decode cL_law 996 = .ok (.aload_n 1, 1) := by decide +kernel
theorem dL_law_997 : decode cL_law 997 = .ok (.aload_n 0, 1) := by decide +kernel
theorem dL_law_998 : decode cL_law 998 = .ok (.iload_n 3, 1) := by decide +kernel
theorem dL_law_999 : decode cL_law 999 = .ok (.iconst 1, 1) := by decide +kernel
theorem dL_law_1000 : decode cL_law 1000 = .ok (.iadd, 1) := by decide +kernel
theorem dL_law_1001 : decode cL_law 1001 = .ok (.iaload, 1) := by decide +kernel
theorem dL_law_1002 : decode cL_law 1002 = .ok (.invokevirtual 125, 3) := by decide +kernel
theorem dL_law_1005 : decode cL_law 1005 = .ok (.aload_n 2, 1) := by decide +kernel
theorem dL_law_1006 : decode cL_law 1006 = .ok (.aload_n 0, 1) := by decide +kernel
theorem dL_law_1007 : decode cL_law 1007 = .ok (.iload_n 3, 1) := by decide +kernel
theorem dL_law_1008 : decode cL_law 1008 = .ok (.iconst 1, 1) := by decide +kernel
theorem dL_law_1009 : decode cL_law 1009 = .ok (.iadd, 1) := by decide +kernel
theorem dL_law_1010 : decode cL_law 1010 = .ok (.iaload, 1) := by decide +kernel
theorem dL_law_1011 : decode cL_law 1011 = .ok (.invokevirtual 128, 3) := by decide +kernel
theorem dL_law_1014 : decode cL_law 1014 = .ok (.if_icmp .eq 374, 3) := by decide +kernel
theorem dL_law_1017 : decode cL_law 1017 = .ok (.iconst 0, 1) := by decide +kernel
theorem dL_law_1018 : decode cL_law 1018 = .ok (.ireturn, 1) := by decide +kernel
theorem dL_law_1019 : decode cL_law 1019 = .ok (.aload_n 1, 1) := by decide +kernel
theorem dL_law_1020 : decode cL_law 1020 = .ok (.aload_n 0, 1) := by decide +kernel
theorem dL_law_1021 : decode cL_law 1021 = .ok (.iload_n 3, 1) := by decide +kernel
theorem dL_law_1022 : decode cL_law 1022 = .ok (.iconst 1, 1) := by decide +kernel
theorem dL_law_1023 : decode cL_law 1023 = .ok (.iadd, 1) := by decide +kernel
theorem dL_law_1024 : decode cL_law 1024 = .ok (.iaload, 1) := by decide +kernel
theorem dL_law_1025 : decode cL_law 1025 = .ok (.aload_n 0, 1) := by decide +kernel
theorem dL_law_1026 : decode cL_law 1026 = .ok (.iload_n 3, 1) := by decide +kernel
theorem dL_law_1027 : decode cL_law 1027 = .ok (.iconst 2, 1) := by decide +kernel
theorem dL_law_1028 : decode cL_law 1028 = .ok (.iadd, 1) := by decide +kernel
theorem dL_law_1029 : decode cL_law 1029 = .ok (.iaload, 1) := by decide +kernel
theorem dL_law_1030 : decode cL_law 1030 = .ok (.aload_n 0, 1) := by decide +kernel
theorem dL_law_1031 : decode cL_law 1031 = .ok (.iload_n 3, 1) := by decide +kernel
theorem dL_law_1032 : decode cL_law 1032 = .ok (.iconst 3, 1) := by decide +kernel
theorem dL_law_1033 : decode cL_law 1033 = .ok (.iadd, 1) := by decide +kernel
theorem dL_law_1034 : decode cL_law 1034 = .ok (.iaload, 1) := by decide +kernel
theorem dL_law_1035 : decode cL_law 1035 = .ok (.invokevirtual 129, 3) := by decide +kernel
theorem dL_law_1038 : decode cL_law 1038 = .ok (.aload_n 2, 1) := by decide +kernel
theorem dL_law_1039 : decode cL_law 1039 = .ok (.aload_n 0, 1) := by decide +kernel
theorem dL_law_1040 : decode cL_law 1040 = .ok (.iload_n 3, 1) := by decide +kernel
theorem dL_law_1041 : decode cL_law 1041 = .ok (.iconst 1, 1) := by decide +kernel
theorem dL_law_1042 : decode cL_law 1042 = .ok (.iadd, 1) := by decide +kernel
theorem dL_law_1043 : decode cL_law 1043 = .ok (.iaload, 1) := by decide +kernel
theorem dL_law_1044 : decode cL_law 1044 = .ok (.aload_n 0, 1) := by decide +kernel
theorem dL_law_1045 : decode cL_law 1045 = .ok (.iload_n 3, 1) := by decide +kernel
theorem dL_law_1046 : decode cL_law 1046 = .ok (.iconst 2, 1) := by decide +kernel
theorem dL_law_1047 : decode cL_law 1047 = .ok (.iadd, 1) := by decide +kernel
theorem dL_law_1048 : decode cL_law 1048 = .ok (.iaload, 1) := by decide +kernel
theorem dL_law_1049 : decode cL_law 1049 = .ok (.aload_n 0, 1) := by decide +kernel
theorem dL_law_1050 : decode cL_law 1050 = .ok (.iload_n 3, 1) := by decide +kernel
theorem dL_law_1051 : decode cL_law 1051 = .ok (.iconst 3, 1) := by decide +kernel
theorem dL_law_1052 : decode cL_law 1052 = .ok (.iadd, 1) := by decide +kernel
theorem dL_law_1053 : decode cL_law 1053 = .ok (.iaload, 1) := by decide +kernel
theorem dL_law_1054 : decode cL_law 1054 = .ok (.invokevirtual 132, 3) := by decide +kernel
theorem dL_law_1057 : decode cL_law 1057 = .ok (.if_icmp .eq 331, 3) := by decide +kernel
theorem dL_law_1060 : decode cL_law 1060 = .ok (.iconst 0, 1) := by decide +kernel
theorem dL_law_1061 : decode cL_law 1061 = .ok (.ireturn, 1) := by decide +kernel
theorem dL_law_1062 : decode cL_law 1062 = .ok (.aload_n 1, 1) := by decide +kernel
theorem dL_law_1063 : decode cL_law 1063 = .ok (.aload_n 0, 1) := by decide +kernel
theorem dL_law_1064 : decode cL_law 1064 = .ok (.iload_n 3, 1) := by decide +kernel
theorem dL_law_1065 : decode cL_law 1065 = .ok (.iconst 1, 1) := by decide +kernel
theorem dL_law_1066 : decode cL_law 1066 = .ok (.iadd, 1) := by decide +kernel
theorem dL_law_1067 : decode cL_law 1067 = .ok (.iaload, 1) := by decide +kernel
theorem dL_law_1068 : decode cL_law 1068 = .ok (.invokevirtual 133, 3) := by decide +kernel
theorem dL_law_1071 : decode cL_law 1071 = .ok (.aload_n 2, 1) := by decide +kernel
theorem dL_law_1072 : decode cL_law 1072 = .ok (.aload_n 0, 1) := by decide +kernel
theorem dL_law_1073 : decode cL_law 1073 = .ok (.iload_n 3, 1) := by decide +kernel
theorem dL_law_1074 : decode cL_law 1074 = .ok (.iconst 1, 1) := by decide +kernel
theorem dL_law_1075 : decode cL_law 1075 = .ok (.iadd, 1) := by decide +kernel
theorem dL_law_1076 : decode cL_law 1076 = .ok (.iaload, 1) := by decide +kernel
theorem dL_law_1077 : decode cL_law 1077 = .ok (.invokevirtual 136, 3) := by decide +kernel
theorem dL_law_1080 : decode cL_law 1080 = .ok (.if_icmp .eq 308, 3) := by decide +kernel
theorem dL_law_1083 : decode cL_law 1083 = .ok (.iconst 0, 1) := by decide +kernel
theorem dL_law_1084 : decode cL_law 1084 = .ok (.ireturn, 1) := by decide +kernel
theorem dL_law_1085 : decode cL_law 1085 = .ok (.aload_n 1, 1) := by decide +kernel
theorem dL_law_1086 : decode cL_law 1086 = .ok (.aload_n 0, 1) := by decide +kernel
theorem dL_law_1087 : decode cL_law 1087 = .ok (.iload_n 3, 1) := by decide +kernel
theorem dL_law_1088 : decode cL_law 1088 = .ok (.iconst 1, 1) := by decide +kernel
theorem dL_law_1089 : decode cL_law 1089 = .ok (.iadd, 1) := by decide +kernel
theorem dL_law_1090 : decode cL_law 1090 = .ok (.iaload, 1) := by decide +kernel
theorem dL_law_1091 : decode cL_law 1091 = .ok (.aload_n 0, 1) := by decide +kernel
theorem dL_law_1092 : decode cL_law 1092 = .ok (.iload_n 3, 1) := by decide +kernel
theorem dL_law_1093 : decode cL_law 1093 = .ok (.iconst 2, 1) := by decide +kernel
theorem dL_law_1094 : decode cL_law 1094 = .ok (.iadd, 1) := by decide +kernel
theorem dL_law_1095 : decode cL_law 1095 = .ok (.iaload, 1) := by decide +kernel
theorem dL_law_1096 : decode cL_law 1096 = .ok (.aload_n 0, 1) := by decide +kernel
theorem dL_law_1097 : decode cL_law 1097 = .ok (.iload_n 3, 1) := by decide +kernel
theorem dL_law_1098 : decode cL_law 1098 = .ok (.iconst 3, 1) := by decide +kernel
theorem dL_law_1099 : decode cL_law 1099 = .ok (.iadd, 1) := by decide +kernel
theorem dL_law_1100 : decode cL_law 1100 = .ok (.iaload, 1) := by decide +kernel
theorem dL_law_1101 : decode cL_law 1101 = .ok (.invokevirtual 137, 3) := by decide +kernel
theorem dL_law_1104 : decode cL_law 1104 = .ok (.aload_n 2, 1) := by decide +kernel
theorem dL_law_1105 : decode cL_law 1105 = .ok (.aload_n 0, 1) := by decide +kernel
theorem dL_law_1106 : decode cL_law 1106 = .ok (.iload_n 3, 1) := by decide +kernel
theorem dL_law_1107 : decode cL_law 1107 = .ok (.iconst 1, 1) := by decide +kernel
theorem dL_law_1108 : decode cL_law 1108 = .ok (.iadd, 1) := by decide +kernel
theorem dL_law_1109 : decode cL_law 1109 = .ok (.iaload, 1) := by decide +kernel
theorem dL_law_1110 : decode cL_law 1110 = .ok (.aload_n 0, 1) := by decide +kernel
theorem dL_law_1111 : decode cL_law 1111 = .ok (.iload_n 3, 1) := by decide +kernel
theorem dL_law_1112 : decode cL_law 1112 = .ok (.iconst 2, 1) := by decide +kernel
theorem dL_law_1113 : decode cL_law 1113 = .ok (.iadd, 1) := by decide +kernel
theorem dL_law_1114 : decode cL_law 1114 = .ok (.iaload, 1) := by decide +kernel
theorem dL_law_1115 : decode cL_law 1115 = .ok (.aload_n 0, 1) := by decide +kernel
theorem dL_law_1116 : decode cL_law 1116 = .ok (.iload_n 3, 1) := by decide +kernel
theorem dL_law_1117 : decode cL_law 1117 = .ok (.iconst 3, 1) := by decide +kernel
theorem dL_law_1118 : decode cL_law 1118 = .ok (.iadd, 1) := by decide +kernel
theorem dL_law_1119 : decode cL_law 1119 = .ok (.iaload, 1) := by decide +kernel
theorem dL_law_1120 : decode cL_law 1120 = .ok (.invokevirtual 140, 3) := by decide +kernel
theorem dL_law_1123 : decode cL_law 1123 = .ok (.if_icmp .eq 265, 3) := by decide +kernel
theorem dL_law_1126 : decode cL_law 1126 = .ok (.iconst 0, 1) := by decide +kernel
theorem dL_law_1127 : decode cL_law 1127 = .ok (.ireturn, 1) := by decide +kernel
theorem dL_law_1128 : decode cL_law 1128 = .ok (.aload_n 1, 1) := by decide +kernel
theorem dL_law_1129 : decode cL_law 1129 = .ok (.aload_n 0, 1) := by decide +kernel
theorem dL_law_1130 : decode cL_law 1130 = .ok (.iload_n 3, 1) := by decide +kernel
theorem dL_law_1131 : decode cL_law 1131 = .ok (.iconst 1, 1) := by decide +kernel
theorem dL_law_1132 : decode cL_law 1132 = .ok (.iadd, 1) := by decide +kernel
theorem dL_law_1133 : decode cL_law 1133 = .ok (.iaload, 1) := by decide +kernel
theorem dL_law_1134 : decode cL_law 1134 = .ok (.aload_n 0, 1) := by decide +kernel
theorem dL_law_1135 : decode cL_law 1135 = .ok (.iload_n 3, 1) := by decide +kernel
theorem dL_law_1136 : decode cL_law 1136 = .ok (.iconst 2, 1) := by decide +kernel
theorem dL_law_1137 : decode cL_law 1137 = .ok (.iadd, 1) := by decide +kernel
theorem dL_law_1138 : decode cL_law 1138 = .ok (.iaload, 1) := by decide +kernel
theorem dL_law_1139 : decode cL_law 1139 = .ok (.aload_n 0, 1) := by decide +kernel
theorem dL_law_1140 : decode cL_law 1140 = .ok (.iload_n 3, 1) := by decide +kernel
theorem dL_law_1141 : decode cL_law 1141 = .ok (.iconst 3, 1) := by decide +kernel
theorem dL_law_1142 : decode cL_law 1142 = .ok (.iadd, 1) := by decide +kernel
theorem dL_law_1143 : decode cL_law 1143 = .ok (.iaload, 1) := by decide +kernel
theorem dL_law_1144 : decode cL_law 1144 = .ok (.invokevirtual 141, 3) := by decide +kernel
theorem dL_law_1147 : decode cL_law 1147 = .ok (.aload_n 2, 1) := by decide +kernel
theorem dL_law_1148 : decode cL_law 1148 = .ok (.aload_n 0, 1) := by decide +kernel
theorem dL_law_1149 : decode cL_law 1149 = .ok (.iload_n 3, 1) := by decide +kernel
theorem dL_law_1150 : decode cL_law 1150 = .ok (.iconst 1, 1) := by decide +kernel
theorem dL_law_1151 : decode cL_law 1151 = .ok (.iadd, 1) := by decide +kernel
theorem dL_law_1152 : decode cL_law 1152 = .ok (.iaload, 1) := by decide +kernel
theorem dL_law_1153 : decode cL_law 1153 = .ok (.aload_n 0, 1) := by decide +kernel
theorem dL_law_1154 : decode cL_law 1154 = .ok (.iload_n 3, 1) := by decide +kernel
theorem dL_law_1155 : decode cL_law 1155 = .ok (.iconst 2, 1) := by decide +kernel
theorem dL_law_1156 : decode cL_law 1156 = .ok (.iadd, 1) := by decide +kernel
theorem dL_law_1157 : decode cL_law 1157 = .ok (.iaload, 1) := by decide +kernel
theorem dL_law_1158 : decode cL_law 1158 = .ok (.aload_n 0, 1) := by decide +kernel
theorem dL_law_1159 : decode cL_law 1159 = .ok (.iload_n 3, 1) := by decide +kernel
theorem dL_law_1160 : decode cL_law 1160 = .ok (.iconst 3, 1) := by decide +kernel
theorem dL_law_1161 : decode cL_law 1161 = .ok (.iadd, 1) := by decide +kernel
theorem dL_law_1162 : decode cL_law 1162 = .ok (.iaload, 1) := by decide +kernel
theorem dL_law_1163 : decode cL_law 1163 = .ok (.invokevirtual 144, 3) := by decide +kernel
theorem dL_law_1166 : decode cL_law 1166 = .ok (.if_icmp .eq 222, 3) := by decide +kernel
theorem dL_law_1169 : decode cL_law 1169 = .ok (.iconst 0, 1) := by decide +kernel
theorem dL_law_1170 : decode cL_law 1170 = .ok (.ireturn, 1) := by decide +kernel
theorem dL_law_1171 : decode cL_law 1171 = .ok (.aload_n 1, 1) := by decide +kernel
theorem dL_law_1172 : decode cL_law 1172 = .ok (.aload_n 0, 1) := by decide +kernel
theorem dL_law_1173 : decode cL_law 1173 = .ok (.iload_n 3, 1) := by decide +kernel
theorem dL_law_1174 : decode cL_law 1174 = .ok (.iconst 1, 1) := by decide +kernel
theorem dL_law_1175 : decode cL_law 1175 = .ok (.iadd, 1) := by decide +kernel
theorem dL_law_1176 : decode cL_law 1176 = .ok (.iaload, 1) := by decide +kernel
theorem dL_law_1177 : decode cL_law 1177 = .ok (.aload_n 0, 1) := by decide +kernel
theorem dL_law_1178 : decode cL_law 1178 = .ok (.iload_n 3, 1) := by decide +kernel
theorem dL_law_1179 : decode cL_law 1179 = .ok (.iconst 2, 1) := by decide +kernel
theorem dL_law_1180 : decode cL_law 1180 = .ok (.iadd, 1) := by decide +kernel
theorem dL_law_1181 : decode cL_law 1181 = .ok (.iaload, 1) := by decide +kernel
theorem dL_law_1182 : decode cL_law 1182 = .ok (.aload_n 0, 1) := by decide +kernel
theorem dL_law_1183 : decode cL_law 1183 = .ok (.iload_n 3, 1) := by decide +kernel
theorem dL_law_1184 : decode cL_law 1184 = .ok (.iconst 3, 1) := by decide +kernel
theorem dL_law_1185 : decode cL_law 1185 = .ok (.iadd, 1) := by decide +kernel
theorem dL_law_1186 : decode cL_law 1186 = .ok (.iaload, 1) := by decide +kernel
theorem dL_law_1187 : decode cL_law 1187 = .ok (.aload_n 0, 1) := by decide +kernel
theorem dL_law_1188 : decode cL_law 1188 = .ok (.iload_n 3, 1) := by decide +kernel
theorem dL_law_1189 : decode cL_law 1189 = .ok (.iconst 4, 1) := by decide +kernel
theorem dL_law_1190 : decode cL_law 1190 = .ok (.iadd, 1) := by decide +kernel
theorem dL_law_1191 : decode cL_law 1191 = .ok (.iaload, 1) := by decide +kernel
theorem dL_law_1192 : decode cL_law 1192 = .ok (.aload_n 0, 1) := by decide +kernel
theorem dL_law_1193 : decode cL_law 1193 = .ok (.iload_n 3, 1) := by decide +kernel
theorem dL_law_1194 : decode cL_law 1194 = .ok (.iconst 5, 1) := by decide +kernel
theorem dL_law_1195 : decode cL_law 1195 = .ok (.iadd, 1) := by decide +kernel
theorem dL_law_1196 : decode cL_law 1196 = .ok (.iaload, 1) := by decide +kernel
theorem dL_law_1197 : decode cL_law 1197 = .ok (.invokevirtual 145, 3) := by decide +kernel
theorem dL_law_1200 : decode cL_law 1200 = .ok (.aload_n 2, 1) := by decide +kernel
theorem dL_law_1201 : decode cL_law 1201 = .ok (.aload_n 0, 1) := by decide +kernel
theorem dL_law_1202 : decode cL_law 1202 = .ok (.iload_n 3, 1) := by decide +kernel
theorem dL_law_1203 : decode cL_law 1203 = .ok (.iconst 1, 1) := by decide +kernel
theorem dL_law_1204 : decode cL_law 1204 = .ok (.iadd, 1) := by decide +kernel
theorem dL_law_1205 : decode cL_law 1205 = .ok (.iaload, 1) := by decide +kernel
theorem dL_law_1206 : decode cL_law 1206 = .ok (.aload_n 0, 1) := by decide +kernel
theorem dL_law_1207 : decode cL_law 1207 = .ok (.iload_n 3, 1) := by decide +kernel
theorem dL_law_1208 : decode cL_law 1208 = .ok (.iconst 2, 1) := by decide +kernel
theorem dL_law_1209 : decode cL_law 1209 = .ok (.iadd, 1) := by decide +kernel
theorem dL_law_1210 : decode cL_law 1210 = .ok (.iaload, 1) := by decide +kernel
theorem dL_law_1211 : decode cL_law 1211 = .ok (.aload_n 0, 1) := by decide +kernel
theorem dL_law_1212 : decode cL_law 1212 = .ok (.iload_n 3, 1) := by decide +kernel
theorem dL_law_1213 : decode cL_law 1213 = .ok (.iconst 3, 1) := by decide +kernel
theorem dL_law_1214 : decode cL_law 1214 = .ok (.iadd, 1) := by decide +kernel
theorem dL_law_1215 : decode cL_law 1215 = .ok (.iaload, 1) := by decide +kernel
theorem dL_law_1216 : decode cL_law 1216 = .ok (.aload_n 0, 1) := by decide +kernel
theorem dL_law_1217 : decode cL_law 1217 = .ok (.iload_n 3, 1) := by decide +kernel
theorem dL_law_1218 : decode cL_law 1218 = .ok (.iconst 4, 1) := by decide +kernel
theorem dL_law_1219 : decode cL_law 1219 = .ok (.iadd, 1) := by decide +kernel
theorem dL_law_1220 : decode cL_law 1220 = .ok (.iaload, 1) := by decide +kernel
theorem dL_law_1221 : decode cL_law 1221 = .ok (.aload_n 0, 1) := by decide +kernel
theorem dL_law_1222 : decode cL_law 1222 = .ok (.iload_n 3, 1) := by decide +kernel
theorem dL_law_1223 : decode cL_law 1223 = .ok (.iconst 5, 1) := by decide +kernel
theorem dL_law_1224 : decode cL_law 1224 = .ok (.iadd, 1) := by decide +kernel
theorem dL_law_1225 : decode cL_law 1225 = .ok (.iaload, 1) := by decide +kernel
theorem dL_law_1226 : decode cL_law 1226 = .ok (.invokevirtual 149, 3) := by decide +kernel
theorem dL_law_1229 : decode cL_law 1229 = .ok (.if_icmp .eq 159, 3) := by decide +kernel
theorem dL_law_1232 : decode cL_law 1232 = .ok (.iconst 0, 1) := by decide +kernel
theorem dL_law_1233 : decode cL_law 1233 = .ok (.ireturn, 1) := by decide +kernel
theorem dL_law_1234 : decode cL_law 1234 = .ok (.aload_n 1, 1) := by decide +kernel
theorem dL_law_1235 : decode cL_law 1235 = .ok (.aload_n 0, 1) := by decide +kernel
theorem dL_law_1236 : decode cL_law 1236 = .ok (.iload_n 3, 1) := by decide +kernel
theorem dL_law_1237 : decode cL_law 1237 = .ok (.iconst 1, 1) := by decide +kernel
theorem dL_law_1238 : decode cL_law 1238 = .ok (.iadd, 1) := by decide +kernel
theorem dL_law_1239 : decode cL_law 1239 = .ok (.iaload, 1) := by decide +kernel
theorem dL_law_1240 : decode cL_law 1240 = .ok (.invokevirtual 150, 3) := by decide +kernel
theorem dL_law_1243 : decode cL_law 1243 = .ok (.aload_n 2, 1) := by decide +kernel
theorem dL_law_1244 : decode cL_law 1244 = .ok (.aload_n 0, 1) := by decide +kernel
theorem dL_law_1245 : decode cL_law 1245 = .ok (.iload_n 3, 1) := by decide +kernel
theorem dL_law_1246 : decode cL_law 1246 = .ok (.iconst 1, 1) := by decide +kernel
theorem dL_law_1247 : decode cL_law 1247 = .ok (.iadd, 1) := by decide +kernel
theorem dL_law_1248 : decode cL_law 1248 = .ok (.iaload, 1) := by decide +kernel
theorem dL_law_1249 : decode cL_law 1249 = .ok (.invokevirtual 153, 3) := by decide +kernel
theorem dL_law_1252 : decode cL_law 1252 = .ok (.if_icmp .eq 136, 3) := by decide +kernel
theorem dL_law_1255 : decode cL_law 1255 = .ok (.iconst 0, 1) := by decide +kernel
theorem dL_law_1256 : decode cL_law 1256 = .ok (.ireturn, 1) := by decide +kernel
theorem dL_law_1257 : decode cL_law 1257 = .ok (.aload_n 1, 1) := by decide +kernel
theorem dL_law_1258 : decode cL_law 1258 = .ok (.aload_n 0, 1) := by decide +kernel
theorem dL_law_1259 : decode cL_law 1259 = .ok (.iload_n 3, 1) := by decide +kernel
theorem dL_law_1260 : decode cL_law 1260 = .ok (.iconst 1, 1) := by decide +kernel
theorem dL_law_1261 : decode cL_law 1261 = .ok (.iadd, 1) := by decide +kernel
theorem dL_law_1262 : decode cL_law 1262 = .ok (.iaload, 1) := by decide +kernel
theorem dL_law_1263 : decode cL_law 1263 = .ok (.invokevirtual 154, 3) := by decide +kernel
theorem dL_law_1266 : decode cL_law 1266 = .ok (.aload_n 2, 1) := by decide +kernel
theorem dL_law_1267 : decode cL_law 1267 = .ok (.aload_n 0, 1) := by decide +kernel
theorem dL_law_1268 : decode cL_law 1268 = .ok (.iload_n 3, 1) := by decide +kernel
theorem dL_law_1269 : decode cL_law 1269 = .ok (.iconst 1, 1) := by decide +kernel
theorem dL_law_1270 : decode cL_law 1270 = .ok (.iadd, 1) := by decide +kernel
theorem dL_law_1271 : decode cL_law 1271 = .ok (.iaload, 1) := by decide +kernel
theorem dL_law_1272 : decode cL_law 1272 = .ok (.invokevirtual 157, 3) := by decide +kernel
theorem dL_law_1275 : decode cL_law 1275 = .ok (.if_icmp .eq 113, 3) := by decide +kernel
theorem dL_law_1278 : decode cL_law 1278 = .ok (.iconst 0, 1) := by decide +kernel
theorem dL_law_1279 : decode cL_law 1279 = .ok (.ireturn, 1) := by decide +kernel
theorem dL_law_1280 : decode cL_law 1280 = .ok (.aload_n 1, 1) := by decide +kernel
theorem dL_law_1281 : decode cL_law 1281 = .ok (.invokevirtual 158, 3) := by decide +kernel
theorem dL_law_1284 : decode cL_law 1284 = .ok (.aload_n 2, 1) := by decide +kernel
theorem dL_law_1285 : decode cL_law 1285 = .ok (.invokevirtual 161, 3) := by decide +kernel
theorem dL_law_1288 : decode cL_law 1288 = .ok (.if_icmp .eq 100, 3) := by decide +kernel
theorem dL_law_1291 : decode cL_law 1291 = .ok (.iconst 0, 1) := by decide +kernel
theorem dL_law_1292 : decode cL_law 1292 = .ok (.ireturn, 1) := by decide +kernel
theorem dL_law_1293 : decode cL_law 1293 = .ok (.aload_n 1, 1) := by decide +kernel
theorem dL_law_1294 : decode cL_law 1294 = .ok (.invokevirtual 162, 3) := by decide +kernel
theorem dL_law_1297 : decode cL_law 1297 = .ok (.aload_n 2, 1) := by decide +kernel
theorem dL_law_1298 : decode cL_law 1298 = .ok (.invokevirtual 165, 3) := by decide +kernel
theorem dL_law_1301 : decode cL_law 1301 = .ok (.if_icmp .eq 87, 3) := by decide +kernel
theorem dL_law_1304 : decode cL_law 1304 = .ok (.iconst 0, 1) := by decide +kernel
theorem dL_law_1305 : decode cL_law 1305 = .ok (.ireturn, 1) := by decide +kernel
theorem dL_law_1306 : decode cL_law 1306 = .ok (.aload_n 1, 1) := by decide +kernel
theorem dL_law_1307 : decode cL_law 1307 = .ok (.aload_n 0, 1) := by decide +kernel
theorem dL_law_1308 : decode cL_law 1308 = .ok (.iload_n 3, 1) := by decide +kernel
theorem dL_law_1309 : decode cL_law 1309 = .ok (.iconst 1, 1) := by decide +kernel
theorem dL_law_1310 : decode cL_law 1310 = .ok (.iadd, 1) := by decide +kernel
theorem dL_law_1311 : decode cL_law 1311 = .ok (.iaload, 1) := by decide +kernel
theorem dL_law_1312 : decode cL_law 1312 = .ok (.invokevirtual 166, 3) := by decide +kernel
theorem dL_law_1315 : decode cL_law 1315 = .ok (.aload_n 2, 1) := by decide +kernel
theorem dL_law_1316 : decode cL_law 1316 = .ok (.aload_n 0, 1) := by decide +kernel
theorem dL_law_1317 : decode cL_law 1317 = .ok (.iload_n 3, 1) := by decide +kernel
theorem dL_law_1318 : decode cL_law 1318 = .ok (.iconst 1, 1) := by decide +kernel
theorem dL_law_1319 : decode cL_law 1319 = .ok (.iadd, 1) := by decide +kernel
theorem dL_law_1320 : decode cL_law 1320 = .ok (.iaload, 1) := by decide +kernel
theorem dL_law_1321 : decode cL_law 1321 = .ok (.invokevirtual 169, 3) := by decide +kernel
theorem dL_law_1324 : decode cL_law 1324 = .ok (.if_icmp .eq 64, 3) := by decide +kernel
theorem dL_law_1327 : decode cL_law 1327 = .ok (.iconst 0, 1) := by decide +kernel
theorem dL_law_1328 : decode cL_law 1328 = .ok (.ireturn, 1) := by decide +kernel
theorem dL_law_1329 : decode cL_law 1329 = .ok (.aload_n 1, 1) := by decide +kernel
theorem dL_law_1330 : decode cL_law 1330 = .ok (.invokevirtual 170, 3) := by decide +kernel
theorem dL_law_1333 : decode cL_law 1333 = .ok (.aload_n 2, 1) := by decide +kernel
theorem dL_law_1334 : decode cL_law 1334 = .ok (.invokevirtual 173, 3) := by decide +kernel
theorem dL_law_1337 : decode cL_law 1337 = .ok (.if_icmp .eq 51, 3) := by decide +kernel
theorem dL_law_1340 : decode cL_law 1340 = .ok (.iconst 0, 1) := by decide +kernel
theorem dL_law_1341 : decode cL_law 1341 = .ok (.ireturn, 1) := by decide +kernel
theorem dL_law_1342 : decode cL_law 1342 = .ok (.aload_n 1, 1) := by decide +kernel
theorem dL_law_1343 : decode cL_law 1343 = .ok (.aload_n 0, 1) := by decide +kernel
theorem dL_law_1344 : decode cL_law 1344 = .ok (.iload_n 3, 1) := by decide +kernel
theorem dL_law_1345 : decode cL_law 1345 = .ok (.iconst 1, 1) := by decide +kernel
theorem dL_law_1346 : decode cL_law 1346 = .ok (.iadd, 1) := by decide +kernel
theorem dL_law_1347 : decode cL_law 1347 = .ok (.iaload, 1) := by decide +kernel
theorem dL_law_1348 : decode cL_law 1348 = .ok (.invokevirtual 174, 3) := by decide +kernel
theorem dL_law_1351 : decode cL_law 1351 = .ok (.aload_n 2, 1) := by decide +kernel
theorem dL_law_1352 : decode cL_law 1352 = .ok (.aload_n 0, 1) := by decide +kernel
theorem dL_law_1353 : decode cL_law 1353 = .ok (.iload_n 3, 1) := by decide +kernel
theorem dL_law_1354 : decode cL_law 1354 = .ok (.iconst 1, 1) := by decide +kernel
theorem dL_law_1355 : decode cL_law 1355 = .ok (.iadd, 1) := by decide +kernel
theorem dL_law_1356 : decode cL_law 1356 = .ok (.iaload, 1) := by decide +kernel
theorem dL_law_1357 : decode cL_law 1357 = .ok (.invokevirtual 177, 3) := by decide +kernel
theorem dL_law_1360 : decode cL_law 1360 = .ok (.if_icmp .eq 28, 3) := by decide +kernel
theorem dL_law_1363 : decode cL_law 1363 = .ok (.iconst 0, 1) := by decide +kernel
theorem dL_law_1364 : decode cL_law 1364 = .ok (.ireturn, 1) := by decide +kernel
theorem dL_law_1365 : decode cL_law 1365 = .ok (.aload_n 1, 1) := by decide +kernel
theorem dL_law_1366 : decode cL_law 1366 = .ok (.aload_n 0, 1) := by decide +kernel
theorem dL_law_1367 : decode cL_law 1367 = .ok (.iload_n 3, 1) := by decide +kernel
theorem dL_law_1368 : decode cL_law 1368 = .ok (.iconst 1, 1) := by decide +kernel
theorem dL_law_1369 : decode cL_law 1369 = .ok (.iadd, 1) := by decide +kernel
theorem dL_law_1370 : decode cL_law 1370 = .ok (.iaload, 1) := by decide +kernel
theorem dL_law_1371 : decode cL_law 1371 = .ok (.invokevirtual 178, 3) := by decide +kernel
theorem dL_law_1374 : decode cL_law 1374 = .ok (.aload_n 2, 1) := by decide +kernel
theorem dL_law_1375 : decode cL_law 1375 = .ok (.aload_n 0, 1) := by decide +kernel
theorem dL_law_1376 : decode cL_law 1376 = .ok (.iload_n 3, 1) := by decide +kernel
theorem dL_law_1377 : decode cL_law 1377 = .ok (.iconst 1, 1) := by decide +kernel
theorem dL_law_1378 : decode cL_law 1378 = .ok (.iadd, 1) := by decide +kernel
theorem dL_law_1379 : decode cL_law 1379 = .ok (.iaload, 1) := by decide +kernel
theorem dL_law_1380 : decode cL_law 1380 = .ok (.invokevirtual 181, 3) := by decide +kernel
theorem dL_law_1383 : decode cL_law 1383 = .ok (.if_icmp .eq 5, 3) := by decide +kernel
theorem dL_law_1386 : decode cL_law 1386 = .ok (.iconst 0, 1) := by decide +kernel
theorem dL_law_1387 : decode cL_law 1387 = .ok (.ireturn, 1) := by decide +kernel
theorem dL_law_1388 : decode cL_law 1388 = .ok (.iinc 3 6, 3) := by decide +kernel
theorem dL_law_1391 : decode cL_law 1391 = .ok (.goto (-1373), 3) := by decide +kernel
theorem dL_law_1394 : decode cL_law 1394 = .ok (.iconst 1, 1) := by decide +kernel
theorem dL_law_1395 : decode cL_law 1395 = .ok (.ireturn, 1) := by decide +kernel
end
section
/-! THE ENGINE: a judgement over pictures (cells by number, one memory of ints), proved of the machine once; every method's walk is over it. -/
abbrev bv_Shp : Type := (FieldType × Nat) ⊕ Nat
abbrev bv_Rfs : Type := Nat → Nat → Option Nat
abbrev bv_Mem : Type := Nat → Nat → Int32
abbrev bv_M : Type := String × ByteArray × Nat × Option FieldType × Bool
abbrev bv_Xt : Type := Nat → Option (FieldType × Nat × (Nat → Int32))
/-- a Town's cells -/
def bv_town : List bv_Shp := [.inr 5, .inr 1, .inl (.int, 20), .inl (.int, 20), .inl (.int, 5), .inl (.object RX0, 8), .inr 4, .inl (.byte, 50), .inr 4, .inl (.byte, 50), .inr 4, .inl (.byte, 50), .inl (.int, 20), .inr 0, .inr 0, .inr 0, .inr 0, .inr 0, .inr 0, .inr 0, .inr 0]
/-- all cells that the law makes, in their order -/
def bv_SH : List bv_Shp := [.inr 7, .inr 5, .inr 1, .inl (.int, 20), .inl (.int, 20), .inl (.int, 5), .inl (.object RX0, 8), .inr 4, .inl (.byte, 50), .inr 4, .inl (.byte, 50), .inr 4, .inl (.byte, 50), .inl (.int, 20), .inr 0, .inr 0, .inr 0, .inr 0, .inr 0, .inr 0, .inr 0, .inr 0,
  .inr 5, .inr 1, .inl (.int, 20), .inl (.int, 20), .inl (.int, 5), .inl (.object RX0, 8), .inr 4, .inl (.byte, 50), .inr 4, .inl (.byte, 50), .inr 4, .inl (.byte, 50), .inl (.int, 20), .inr 0, .inr 0, .inr 0, .inr 0, .inr 0, .inr 0, .inr 0, .inr 0,
  .inr 2, .inr 4, .inl (.byte, 50), .inl (.int, 3), .inr 6, .inl (.int, 40), .inl (.object RX3, 4), .inl (.int, 6), .inl (.int, 8), .inl (.int, 8), .inr 3, .inl (.int, 40), .inr 3, .inl (.int, 40), .inr 3, .inl (.int, 40), .inr 3, .inl (.int, 40),
  .inr 8, .inl (.int, 371), .inl (.int, 371), .inl (.int, 371), .inl (.int, 6), .inl (.int, 50), .inl (.int, 50), .inl (.int, 3), .inl (.int, 50), .inl (.int, 40), .inl (.int, 4), .inl (.int, 4), .inl (.int, 160)]
def bv_sh (k : Nat) : bv_Shp := bv_SH.getD k (.inr 0)
def bv_isref : FieldType → Bool
  | .object _ => true
  | .array _ => true
  | _ => false
def bv_kd : FieldType → Nat
  | .int => 0
  | .byte => 1
  | .object _ => 2
  | _ => 3
def bv_T (ci : Nat) : u_T := match ci with
  | 0 => TX0 | 1 => TX1 | 2 => TX2 | 3 => TX3 | 4 => TX4 | 5 => TX5 | 6 => TX6 | 7 => TX7 | _ => TX8
def bv_fty (ci : Nat) : Nat → FieldType := match ci with
  | 0 => tyX0 | 1 => tyX1 | 2 => tyX2 | 3 => tyX3 | 4 => tyX4 | 5 => tyX5 | 6 => tyX6 | 7 => tyX7 | _ => tyX8
def bv_R (ci : Nat) : String := match ci with
  | 0 => RX0 | 1 => RX1 | 2 => RX2 | 3 => RX3 | 4 => RX4 | 5 => RX5 | 6 => RX6 | 7 => RX7 | _ => RX8
def bv_nf (ci : Nat) : Nat := match ci with
  | 0 => 6 | 1 => 2 | 2 => 6 | 3 => 3 | 4 => 2 | 5 => 12 | 6 => 5 | 7 => 9 | _ => 19
def bv_slots (x : bv_Shp) : Nat := match x with
  | .inl y => y.2
  | .inr ci => bv_nf ci
def bv_len (k : Nat) : Nat := match bv_sh k with
  | .inl y => y.2
  | .inr _ => 0
def bv_sz : Nat → Nat
  | 0 => 0
  | n + 1 => bv_sz n + bv_slots (bv_sh n)
def bv_cv (ad : Nat → Nat) (v : Value) : Value := match v with
  | .ref a => .ref (ad a)
  | .int x => .int x
  | .long x => .long x
  | .float x => .float x
  | .double x => .double x
  | .null => .null
  | .retAddr x => .retAddr x
def bv_cell (ad : Nat → Nat) (ca : Nat → ClassId) (mr : bv_Rfs) (mi : bv_Mem) (k : Nat) (x : bv_Shp) : va_E := match x with
  | .inl y => .inl (ca k, y.2, if bv_isref y.1 = true then .inr (.inr (.inr (.inr (fun j => (mr k j).map ad)))) else .inl (mi k))
  | .inr ci => .inr (ci, (List.range (bv_nf ci)).map (fun j => if bv_isref (bv_fty ci j) = true then va_rf ((mr k j).map ad) else .int (mi k j)))
def bv_ws (ad : Nat → Nat) (ca : Nat → ClassId) (n : Nat) (mr : bv_Rfs) (mi : bv_Mem) : va_W := (List.range n).map (fun k => (ad k, bv_cell ad ca mr mi k (bv_sh k)))
def bv_up (mi : bv_Mem) (a k : Nat) (v : Int32) : bv_Mem := fun a' k' => if a' = a ∧ k' = k then v else mi a' k'
def bv_upr (mr : bv_Rfs) (a k : Nat) (v : Option Nat) : bv_Rfs := fun a' k' => if a' = a ∧ k' = k then v else mr a' k'
def bv_cp (mi : bv_Mem) (a b sp dp n : Nat) : bv_Mem := fun a' k' => if a' = b ∧ dp ≤ k' ∧ k' < dp + n then mi a (sp + (k' - dp)) else mi a' k'
def bv_isC (n a ci : Nat) : Bool := Nat.blt a n && (match bv_sh a with
  | .inr c => Nat.beq c ci
  | .inl _ => false)
def bv_isA (n a kd N : Nat) : Bool := Nat.blt a n && (match bv_sh a with
  | .inl y => Nat.beq (bv_kd y.1) kd && Nat.beq y.2 N
  | .inr _ => false)
def bv_in (i : Int32) (N : Nat) : Bool := !(decide (i < 0)) && decide (i.toNatClampNeg < N)
theorem bv_in_vp {i : Int32} {N : Nat} (h : bv_in i N = true) : vp_in i N := by
  simp [bv_in] at h
  rintro (h1 | h1)
  · have := h.1
    exact absurd h1 (by simpa using this)
  · omega
theorem bv_isC_spec {n a ci : Nat} (h : bv_isC n a ci = true) : a < n ∧ bv_sh a = .inr ci := by
  unfold bv_isC at h
  rw [Bool.and_eq_true] at h
  refine ⟨Nat.blt_eq.mp h.1, ?_⟩
  cases hx : bv_sh a with
  | inl y => rw [hx] at h; exact absurd h.2 (by simp)
  | inr c => rw [hx] at h; rw [Nat.eq_of_beq_eq_true h.2]
theorem bv_isA_spec {n a kd N : Nat} (h : bv_isA n a kd N = true) : a < n ∧ ∃ ty, bv_sh a = .inl (ty, N) ∧ bv_kd ty = kd := by
  unfold bv_isA at h
  rw [Bool.and_eq_true] at h
  refine ⟨Nat.blt_eq.mp h.1, ?_⟩
  cases hx : bv_sh a with
  | inr y => rw [hx] at h; exact absurd h.2 (by simp)
  | inl y =>
    rw [hx] at h
    have h2 := h.2
    simp only [Bool.and_eq_true] at h2
    obtain ⟨t, m⟩ := y
    have e1 := Nat.eq_of_beq_eq_true h2.2
    simp only at e1
    subst e1
    exact ⟨t, rfl, Nat.eq_of_beq_eq_true h2.1⟩
theorem bv_kd0 {ty : FieldType} (h : bv_kd ty = 0) : ty = .int := by cases ty <;> simp [bv_kd] at h ⊢
theorem bv_kd1 {ty : FieldType} (h : bv_kd ty = 1) : ty = .byte := by cases ty <;> simp [bv_kd] at h ⊢
theorem bv_kd2 {ty : FieldType} (h : bv_kd ty = 2) : ∃ C, ty = .object C := by cases ty <;> simp [bv_kd] at h ⊢
theorem bv_ws_at (ad : Nat → Nat) (ca : Nat → ClassId) {n a : Nat} (mr : bv_Rfs) (mi : bv_Mem) (h : a < n) : (bv_ws ad ca n mr mi)[a]? = some (ad a, bv_cell ad ca mr mi a (bv_sh a)) := by
  unfold bv_ws
  rw [List.getElem?_map, List.getElem?_range h]
  rfl
theorem bv_ws_len (ad : Nat → Nat) (ca : Nat → ClassId) (n : Nat) (mr : bv_Rfs) (mi : bv_Mem) : (bv_ws ad ca n mr mi).length = n := by
  unfold bv_ws
  rw [List.length_map, List.length_range]
theorem bv_mapset {α : Type} {N k : Nat} {g g' : Nat → α} {v : α} (h1 : g' k = v) (h2 : ∀ j, j ≠ k → g' j = g j) : ((List.range N).map g).set k v = (List.range N).map g' := by
  apply List.ext_getElem?
  intro j
  rw [List.getElem?_set]
  by_cases hj : k = j
  · subst hj
    rw [if_pos rfl]
    by_cases hk : k < N
    · rw [if_pos (by rw [List.length_map, List.length_range]; exact hk), List.getElem?_map, List.getElem?_range hk, ← h1]
      rfl
    · rw [if_neg (by rw [List.length_map, List.length_range]; exact hk), List.getElem?_map, List.getElem?_eq_none (by rw [List.length_range]; omega)]
      rfl
  · rw [if_neg hj, List.getElem?_map, List.getElem?_map]
    by_cases hk : j < N
    · rw [List.getElem?_range hk]
      show some (g j) = some (g' j)
      rw [h2 j (fun q => hj q.symm)]
    · rw [List.getElem?_eq_none (by rw [List.length_range]; omega)]
      rfl
theorem bv_up_ne {mi : bv_Mem} {a k a' k' : Nat} {v : Int32} (h : a' ≠ a) : bv_up mi a k v a' k' = mi a' k' := by simp [bv_up, h]
theorem bv_cell_other {ad : Nat → Nat} {ca : Nat → ClassId} {mr mr' : bv_Rfs} {mi mi' : bv_Mem} {k : Nat} {x : bv_Shp} (h1 : mr' k = mr k) (h2 : mi' k = mi k) : bv_cell ad ca mr' mi' k x = bv_cell ad ca mr mi k x := by
  cases x with
  | inl y => simp [bv_cell, h1, h2]
  | inr c => simp [bv_cell, h1, h2]
/-- a world with one cell of it changed -/
theorem bv_ws_set {ad : Nat → Nat} {ca : Nat → ClassId} {n a : Nat} {mr mr' : bv_Rfs} {mi mi' : bv_Mem} {e : va_E} (he : bv_cell ad ca mr' mi' a (bv_sh a) = e) (h1 : ∀ k, k ≠ a → mr' k = mr k) (h2 : ∀ k, k ≠ a → mi' k = mi k) : (bv_ws ad ca n mr mi).set a (ad a, e) = bv_ws ad ca n mr' mi' := by
  unfold bv_ws
  apply bv_mapset
  · rw [he]
  · intro j hj
    rw [bv_cell_other (h1 j hj) (h2 j hj)]
theorem bv_up_row {mi : bv_Mem} {a k j : Nat} {v : Int32} : j ≠ a → (bv_up mi a k v) j = mi j := fun h => by
  funext q
  simp [bv_up, h]
theorem bv_upr_row {mr : bv_Rfs} {a k j : Nat} {v : Option Nat} : j ≠ a → (bv_upr mr a k v) j = mr j := fun h => by
  funext q
  simp [bv_upr, h]
theorem bv_cp_row {mi : bv_Mem} {a b sp dp n j : Nat} : j ≠ b → (bv_cp mi a b sp dp n) j = mi j := fun h => by
  funext q
  simp [bv_cp, h]
/-- a field of ints written -/
theorem bv_ws_putI {ad : Nat → Nat} {ca : Nat → ClassId} {n a ci k : Nat} {mr : bv_Rfs} {mi : bv_Mem} {v : Int32} (hs : bv_sh a = .inr ci) (hr : bv_isref (bv_fty ci k) = false) :
    (bv_ws ad ca n mr mi).set a (ad a, .inr (ci, ((List.range (bv_nf ci)).map (fun j => if bv_isref (bv_fty ci j) = true then va_rf ((mr a j).map ad) else Value.int (mi a j))).set k (.int v))) = bv_ws ad ca n mr (bv_up mi a k v) := by
  apply bv_ws_set _ (fun _ _ => rfl) (fun j hj => bv_up_row hj)
  rw [hs]
  show Sum.inr (ci, _) = Sum.inr (ci, _)
  congr 2
  symm
  apply bv_mapset
  · rw [hr]
    simp [bv_up]
  · intro j hj
    simp [bv_up, hj]
theorem bv_ws_putR {ad : Nat → Nat} {ca : Nat → ClassId} {n a ci k : Nat} {mr : bv_Rfs} {mi : bv_Mem} {q : Nat} (hs : bv_sh a = .inr ci) (hr : bv_isref (bv_fty ci k) = true) :
    (bv_ws ad ca n mr mi).set a (ad a, .inr (ci, ((List.range (bv_nf ci)).map (fun j => if bv_isref (bv_fty ci j) = true then va_rf ((mr a j).map ad) else Value.int (mi a j))).set k (.ref (ad q)))) = bv_ws ad ca n (bv_upr mr a k (some q)) mi := by
  apply bv_ws_set _ (fun j hj => bv_upr_row hj) (fun _ _ => rfl)
  rw [hs]
  show Sum.inr (ci, _) = Sum.inr (ci, _)
  congr 2
  symm
  apply bv_mapset
  · rw [hr]
    simp [bv_upr, va_rf]
  · intro j hj
    simp [bv_upr, hj]
theorem bv_ws_iast {ad : Nat → Nat} {ca : Nat → ClassId} {n a k N : Nat} {ty : FieldType} {mr : bv_Rfs} {mi : bv_Mem} {v : Int32} (hs : bv_sh a = .inl (ty, N)) (hr : bv_isref ty = false) :
    (bv_ws ad ca n mr mi).set a (ad a, .inl (ca a, N, .inl (upd (mi a) k v))) = bv_ws ad ca n mr (bv_up mi a k v) := by
  apply bv_ws_set _ (fun _ _ => rfl) (fun j hj => bv_up_row hj)
  rw [hs]
  simp only [bv_cell, hr]
  rw [if_neg (by simp)]
  congr 3
  congr 1
  funext j
  by_cases h : j = k <;> simp [bv_up, upd, h]
theorem bv_ws_copy {ad : Nat → Nat} {ca : Nat → ClassId} {n a b sp dp m N : Nat} {ty : FieldType} {mr : bv_Rfs} {mi : bv_Mem} (hs : bv_sh b = .inl (ty, N)) (hr : bv_isref ty = false) :
    (bv_ws ad ca n mr mi).set b (ad b, .inl (ca b, N, .inl (va_cpy (mi a) (mi b) sp dp m))) = bv_ws ad ca n mr (bv_cp mi a b sp dp m) := by
  apply bv_ws_set _ (fun _ _ => rfl) (fun j hj => bv_cp_row hj)
  rw [hs]
  simp only [bv_cell, hr]
  rw [if_neg (by simp)]
  congr 3
  congr 1
  funext j
  by_cases h : dp ≤ j ∧ j < dp + m <;> simp [bv_cp, va_cpy, h]
theorem bv_ws_aast {ad : Nat → Nat} {ca : Nat → ClassId} {n a k N q : Nat} {ty : FieldType} {mr : bv_Rfs} {mi : bv_Mem} (hs : bv_sh a = .inl (ty, N)) (hr : bv_isref ty = true) :
    (bv_ws ad ca n mr mi).set a (ad a, .inl (ca a, N, .inr (.inr (.inr (.inr (va_up (fun j => (mr a j).map ad) k (some (ad q)))))))) = bv_ws ad ca n (bv_upr mr a k (some q)) mi := by
  apply bv_ws_set _ (fun j hj => bv_upr_row hj) (fun _ _ => rfl)
  rw [hs]
  simp only [bv_cell, hr]
  rw [if_pos trivial]
  congr 3
  congr 1
  congr 1
  congr 1
  congr 1
  funext j
  by_cases h : j = k <;> simp [bv_upr, va_up, h]
-- ===== the locals =====
def bv_lv (ad : Nat → Nat) (L : List (Option Value)) : List (Nat × Value) := (List.range L.length).filterMap (fun i => (L.getD i none).map (fun v => (i, bv_cv ad v)))
abbrev bv_L (ad : Nat → Nat) (ls : Array Slot) (nL : Nat) (L : List (Option Value)) : Prop := lv_has ls nL (bv_lv ad L)
theorem bv_lv_mem {ad : Nat → Nat} {L : List (Option Value)} {i : Nat} {w : Value} : (i, w) ∈ bv_lv ad L ↔ ∃ v, L[i]? = some (some v) ∧ w = bv_cv ad v := by
  unfold bv_lv
  rw [List.mem_filterMap]
  constructor
  · rintro ⟨j, hj, h⟩
    cases hx : L.getD j none with
    | none => rw [hx] at h; cases h
    | some v =>
      rw [hx] at h
      have h := Option.some.inj h
      have e1 : j = i := congrArg Prod.fst h
      have e2 : bv_cv ad v = w := congrArg Prod.snd h
      subst e1
      refine ⟨v, ?_, e2.symm⟩
      rw [List.getD_eq_getElem?_getD] at hx
      cases hy : L[j]? with
      | none => rw [hy] at hx; cases hx
      | some z => rw [hy] at hx; exact congrArg some hx
  · rintro ⟨v, hv, rfl⟩
    refine ⟨i, List.mem_range.mpr (List.getElem?_eq_some_iff.mp hv).1, ?_⟩
    rw [List.getD_eq_getElem?_getD, hv]
    rfl
theorem bv_L_at {ad : Nat → Nat} {ls : Array Slot} {nL : Nat} {L : List (Option Value)} (h : bv_L ad ls nL L) {i : Nat} {v : Value} (hv : L[i]? = some (some v)) : ls[i]? = some (.val (bv_cv ad v)) := h.2.2 (i, bv_cv ad v) (bv_lv_mem.mpr ⟨v, hv, rfl⟩)
theorem bv_cv_cat (ad : Nat → Nat) (v : Value) : (bv_cv ad v).category = v.category := by cases v <;> rfl
def bv_nlo (o : Option Value) : Bool := match o with
  | some v => Nat.beq v.category 1
  | none => true
def bv_nl (L : List (Option Value)) (i : Nat) : Bool := match i with
  | 0 => true
  | j + 1 => bv_nlo (L.getD j none)
theorem bv_L_set {ad : Nat → Nat} {ls' : Array Slot} {nL : Nat} {L : List (Option Value)} {i : Nat} {v : Value} (h : lv_has ls' nL ((i, bv_cv ad v) :: (bv_lv ad L).filter (fun q => !(q.1 == i) && !(q.1 + 1 == i && q.2.category == 2)))) (hn : bv_nl L i = true) : bv_L ad ls' nL (L.set i (some v)) := by
  refine ⟨h.1, h.2.1, fun q hq => h.2.2 q ?_⟩
  obtain ⟨j, w⟩ := q
  obtain ⟨u, hu, rfl⟩ := bv_lv_mem.mp hq
  rw [List.getElem?_set] at hu
  by_cases hj : i = j
  · subst hj
    rw [if_pos rfl] at hu
    split at hu
    · cases hu
      exact List.mem_cons_self
    · cases hu
  · rw [if_neg hj] at hu
    refine List.mem_cons_of_mem _ (List.mem_filter.mpr ⟨bv_lv_mem.mpr ⟨u, hu, rfl⟩, ?_⟩)
    have h1 : (j == i) = false := by simpa using fun q => hj q.symm
    rw [h1]
    cases hx : (j + 1 == i) with
    | false => rfl
    | true =>
      have e : i = j + 1 := (by simpa using hx : j + 1 = i).symm
      subst e
      have hn2 : Nat.beq u.category 1 = true := by
        have h3 : bv_nlo (L.getD j none) = true := hn
        rw [List.getD_eq_getElem?_getD, hu] at h3
        exact h3
      rw [bv_cv_cat, Nat.eq_of_beq_eq_true hn2]
      rfl
def bv_en : List Value → Nat → List (Option Value)
  | [], n => List.replicate n none
  | v :: t, n => if Nat.beq v.category 2 = true then some v :: none :: bv_en t (n - 2) else some v :: bv_en t (n - 1)
theorem bv_en_mem (ad : Nat → Nat) : ∀ (av : List Value) (n j i : Nat) (v : Value), (bv_en av n)[i]? = some (some v) → (j + i, bv_cv ad v) ∈ lv_args j (av.map (bv_cv ad)) := by
  intro av
  induction av with
  | nil =>
    intro n j i v h
    have h := List.mem_of_getElem? h
    simp [bv_en, List.mem_replicate] at h
  | cons w t ih =>
    intro n j i v h
    unfold bv_en at h
    simp only [List.map_cons, lv_args, bv_cv_cat]
    by_cases hc : Nat.beq w.category 2 = true
    · have hc2 := Nat.eq_of_beq_eq_true hc
      rw [if_pos hc] at h
      rw [if_pos hc2]
      match i, h with
      | 0, h =>
        simp at h
        subst h
        exact List.mem_cons_self
      | 1, h => simp at h
      | i + 2, h =>
        have h3 := ih _ (j + 2) i v (by simpa using h)
        exact List.mem_cons_of_mem _ (by have e : j + (i + 2) = j + 2 + i := by omega
                                         rw [e]; exact h3)
    · have hc2 : ¬ w.category = 2 := fun q => hc (by rw [q]; rfl)
      rw [if_neg hc] at h
      rw [if_neg hc2]
      match i, h with
      | 0, h =>
        simp at h
        subst h
        exact List.mem_cons_self
      | i + 1, h =>
        have h3 := ih _ (j + 1) i v (by simpa using h)
        exact List.mem_cons_of_mem _ (by have e : j + (i + 1) = j + 1 + i := by omega
                                         rw [e]; exact h3)
end
section
-- ===== what holds in a method =====
def bv_sn (j : Nat) : String := match j with
  | 0 => "NAMES"
  | 1 => "KIND_ABOVE"
  | _ => "BODIES"
def bv_sd (j : Nat) : String := match j with
  | 0 => "[C"
  | _ => "[I"
def bv_A (ad0 : Nat → Nat) (n0 sz : Nat) : Nat → Prop := fun q => (∃ k, k < n0 ∧ q = ad0 k) ∨ sz ≤ q
def bv_X (X : bv_Xt) (A : Nat → Prop) (ad : Nat → Nat) (U : State) (H : Heap) : Prop :=
  (∀ (j : Nat) (ty : FieldType) (N : Nat) (f : Nat → Int32), X j = some (ty, N, f) → va_T ty (ad (1000 + j)) N (fun i => .int (f i)) A U H) ∧ ∀ j, j < 3 → va_Z RX7 (bv_sn j) (bv_sd j) (.ref (ad (1000 + j))) A U H
def bv_TB : List Cond := lw_tbl.filter goodWord
def bv_nest : Cond → Bool
  | .fieldLinkNest _ _ _ _ _ _ => true
  | .methodLinkNest _ _ _ _ => true
  | _ => false
/-- the words that no list of a contract may hold: links to a nest mate's private members, arrays of references -/
def bv_nw (U : State) : Prop := (∀ w ∈ lw_tbl, bv_nest w = true → va_Nw w U) ∧ ∀ C : String, Cond.arrayOver (.object C) ∈ lw_tbl → va_AO C U
theorem bv_nw.warm {s U : State} (hW : s.WarmedH U.vm) (h : bv_nw s) : bv_nw U := by
  refine ⟨fun w hw hn => ?_, fun C hC => (h.2 C hC).moved hW.alike⟩
  have h1 := h.1 w hw hn
  cases w <;> simp [bv_nest] at hn
  all_goals first | exact va_Nw.warmF hW h1 | exact va_Nw.warmM hW h1
theorem bv_nw.same {u U : State} (hv : u.vm = U.vm) (h : bv_nw u) : bv_nw U := by
  refine ⟨fun w hw hn => va_Nw.same ?_ hv (h.1 w hw hn), fun C hC => (h.2 C hC).moved (by rw [hv]; exact Vm.Alike.refl _)⟩
  cases w <;> simp [bv_nest] at hn <;> rfl
def bv_AC (ca : Nat → ClassId) (n : Nat) (U : State) : Prop := ∀ k, k < n → ∀ (ty : FieldType) (N : Nat), bv_sh k = .inl (ty, N) → ArrOfT U (ca k) ty ∧ va_RA U (ca k) ty
def bv_mb (n : Nat) (mr : bv_Rfs) : Prop := ∀ k j q, mr k j = some q → q < n
def bv_ag (n0 n1 : Nat) (ad0 ad : Nat → Nat) (ca0 ca : Nat → ClassId) : Prop := (n0 = n1 → ad = ad0 ∧ ca = ca0) ∧ ∀ k, (k < n0 ∨ 1000 ≤ k) → ad k = ad0 k ∧ ca k = ca0 k
def bv_rm (d n0 n1 : Nat) : Room := { frames := d, cells := n1 - n0, slots := bv_sz n1 - bv_sz n0, locals := 40 * d }
def bv_RR (d n0 n1 : Nat) (R : Room) : Prop := d ≤ R.frames ∧ n1 - n0 ≤ R.cells ∧ bv_sz n1 - bv_sz n0 ≤ R.slots ∧ 40 * d ≤ R.locals
def bv_Q (Q : Option Value → bv_Rfs → bv_Mem → Prop) (D : va_G) (ad0 : Nat → Nat) (ca0 : Nat → ClassId) (n0 n1 sz : Nat) : Array Value → State → Outcome → State → Prop := fun _ st oc t =>
  ∃ (r : Option Value) (mr : bv_Rfs) (mi : bv_Mem) (ad : Nat → Nat) (ca : Nat → ClassId), Q r mr mi ∧ bv_ag n0 n1 ad0 ad ca0 ca ∧ oc = .returned (r.map (bv_cv ad)) ∧ va_P D vwCl (bv_ws ad ca n1 mr mi) t.heap ∧ va_D (bv_A ad0 n0 sz) (bv_ws ad ca n1 mr mi) ∧ bv_AC ca n1 t ∧ bv_mb n1 mr ∧ va_F (bv_A ad0 n0 sz) st t
def bv_C (M : bv_M) (X : bv_Xt) (n0 : Nat) (p : Program) (s : State) (m : MethodId) (args : Array Value) (meth : Method) (c : Code) (ad0 : Nat → Nat) (D : va_G) : Prop :=
  p.tables.exec = Jvm.exec ∧ c.code = M.2.1 ∧ c.maxLocals = M.2.2.1 ∧ s.vm.findClass M.1 = some m.cls ∧ (∀ w ∈ lw_tbl, goodWord w = true → w.before args s = true) ∧ meth.sig.returnType = M.2.2.2.1 ∧ meth.locks = false ∧ (M.2.2.2.2 = true → meth.name = "<init>") ∧ va_K D vwCl [] s ∧ bv_X X (bv_A ad0 n0 s.heap.size) ad0 s s.heap ∧ bv_nw s
def bv_W (D : va_G) (ad : Nat → Nat) (ca : Nat → ClassId) (n : Nat) (mr : bv_Rfs) (mi : bv_Mem) (s : State) (A : Nat → Prop) (H : Heap) (locs : List Loc) : Prop :=
  va_P D vwCl (bv_ws ad ca n mr mi) H ∧ va_D A (bv_ws ad ca n mr mi) ∧ va_S A s.heap H locs ∧ bv_AC ca n s ∧ bv_mb n mr
/-- THE JUDGEMENT: at pc of the method M, with these locals, this stack, n cells with these contents, the machine comes to the method's end, with Q -/
def bv_Ev (M : bv_M) (X : bv_Xt) (d n0 n1 : Nat) (Q : Option Value → bv_Rfs → bv_Mem → Prop) (pc : Nat) (L : List (Option Value)) (st : List Value) (n : Nat) (mr : bv_Rfs) (mi : bv_Mem) : Prop :=
  ∀ (l : Launch) (p : Program) (e : Env) (R : Room) (s : State) (m : MethodId) (args : Array Value) (below : List Frame) (meth : Method) (c : Code) (H : Heap) (locs : List Loc) (ad0 ad : Nat → Nat) (ca0 ca : Nat → ClassId) (D : va_G),
    bv_C M X n0 p s m args meth c ad0 D → bv_RR d n0 n1 R → bv_ag n0 n1 ad0 ad ca0 ca → bv_W D ad ca n mr mi s (bv_A ad0 n0 s.heap.size) H locs → ∀ ls : Array Slot, bv_L ad ls M.2.2.1 L →
    W p l e R s m args below meth c H locs (n - n0) (bv_sz n - bv_sz n0) (MQ below (bv_Q Q D ad0 ca0 n0 n1 s.heap.size) args s (n1 - n0) (bv_sz n1 - bv_sz n0) (bv_A ad0 n0 s.heap.size)) (F0 m pc ls (st.map (bv_cv ad)))
def bv_U (X : bv_Xt) (D : va_G) (ad : Nat → Nat) (ca : Nat → ClassId) (n : Nat) (mr : bv_Rfs) (mi : bv_Mem) (sz : Nat) (U : State) : Prop :=
  U.heap.size = sz ∧ va_K D vwCl [] U ∧ bv_AC ca n U ∧ va_P D vwCl (bv_ws ad ca n mr mi) U.heap ∧ va_D (fun _ => True) (bv_ws ad ca n mr mi) ∧ bv_X X (bv_A ad n sz) ad U U.heap ∧ bv_mb n mr ∧ bv_nw U
/-- A METHOD'S CONTRACT -/
def bv_Met (y : MethodName) (M : bv_M) (X : bv_Xt) (d n0 n1 : Nat) (av : List Value) (mr : bv_Rfs) (mi : bv_Mem) (Q : Option Value → bv_Rfs → bv_Mem → Prop) : Prop :=
  ∀ (l : Launch) (D : va_G) (ad0 : Nat → Nat) (ca0 : Nat → ClassId) (sz : Nat), Met l y (.code y M.2.1 M.2.2.1 M.2.2.2.1 :: bv_TB) (bv_rm d n0 n1) (va_Pc (av.map (bv_cv ad0)) (bv_U X D ad0 ca0 n0 mr mi sz)) (bv_Q Q D ad0 ca0 n0 n1 sz) (n1 - n0) (bv_sz n1 - bv_sz n0) (bv_A ad0 n0 sz)
theorem bv_AC.moved {ca : Nat → ClassId} {n : Nat} {u U : State} (hvm : u.vm.Alike U.vm) (h : bv_AC ca n u) : bv_AC ca n U := fun k hk ty N hs => ⟨arrOfT_moved hvm (h k hk ty N hs).1, (h k hk ty N hs).2.moved hvm⟩
theorem bv_X.moved {X : bv_Xt} {A : Nat → Prop} {ad : Nat → Nat} {u U : State} {H : Heap} (hvm : u.vm.Alike U.vm) (h : bv_X X A ad u H) : bv_X X A ad U H := ⟨fun j ty N f hx => (h.1 j ty N f hx).moved hvm, fun j hj => (h.2 j hj).moved hvm⟩
theorem bv_X.kept {X : bv_Xt} {A : Nat → Prop} {ad : Nat → Nat} {U : State} {H H1 : Heap} (h : bv_X X A ad U H) (hq : ∀ a : Nat, a < H.size → ¬ A a → H1[a]? = H[a]?) : bv_X X A ad U H1 := ⟨fun j ty N f hx => (h.1 j ty N f hx).kept hq, fun j hj => (h.2 j hj).kept hq⟩
theorem bv_X.narrow {X : bv_Xt} {A B : Nat → Prop} {ad : Nat → Nat} {U : State} {H : Heap} (h : bv_X X A ad U H) (hAB : ∀ q, B q → A q) : bv_X X B ad U H := ⟨fun j ty N f hx => (h.1 j ty N f hx).narrow hAB, fun j hj => (h.2 j hj).narrow hAB⟩
theorem bv_X.ad {X : bv_Xt} {A : Nat → Prop} {ad ad2 : Nat → Nat} {U : State} {H : Heap} (h : bv_X X A ad U H) (he : ∀ k, 1000 ≤ k → ad2 k = ad k) : bv_X X A ad2 U H := ⟨fun j ty N f hx => by rw [he _ (by omega)]; exact h.1 j ty N f hx, fun j hj => by rw [he _ (by omega)]; exact h.2 j hj⟩
theorem bv_X.sub {X X2 : bv_Xt} {A : Nat → Prop} {ad : Nat → Nat} {U : State} {H : Heap} (h : bv_X X A ad U H) (he : ∀ j v, X2 j = some v → X j = some v) : bv_X X2 A ad U H := ⟨fun j ty N f hx => h.1 j ty N f (he _ _ hx), h.2⟩
theorem bv_A_self {D : va_G} {ad : Nat → Nat} {ca : Nat → ClassId} {n sz : Nat} {mr : bv_Rfs} {mi : bv_Mem} {A : Nat → Prop} (h : va_D A (bv_ws ad ca n mr mi)) : va_D (bv_A ad n sz) (bv_ws ad ca n mr mi) := by
  refine ⟨h.1, fun k q hk => ?_⟩
  have hlt : k < n := by
    have := (List.getElem?_eq_some_iff.mp hk).1
    rwa [bv_ws_len] at this
  rw [bv_ws_at _ _ _ _ hlt] at hk
  cases hk
  exact Or.inl ⟨k, hlt, rfl⟩
theorem bv_lg_len (ad : Nat → Nat) (av : List Value) : (lg_sl (av.map (bv_cv ad))).length = (lg_sl av).length := by
  induction av with
  | nil => rfl
  | cons v t ih =>
    have e1 : lg_sl ((v :: t).map (bv_cv ad)) = (if (bv_cv ad v).category = 2 then [.val (bv_cv ad v), .second] else [.val (bv_cv ad v)]) ++ lg_sl (t.map (bv_cv ad)) := rfl
    have e2 : lg_sl (v :: t) = (if v.category = 2 then [.val v, .second] else [.val v]) ++ lg_sl t := rfl
    rw [e1, e2, List.length_append, List.length_append, ih, bv_cv_cat]
    split <;> rfl
/-- a contract out of the judgement at the entry -/
theorem bv_Met.of {y : MethodName} {M : bv_M} {X : bv_Xt} {d n0 n1 : Nat} {av : List Value} {mr : bv_Rfs} {mi : bv_Mem} {Q : Option Value → bv_Rfs → bv_Mem → Prop} (hy : plainName y.cls = true) (hc : y.cls = M.1) (hi : M.2.2.2.2 = true → y.name = "<init>") (hav : (lg_sl av).length ≤ M.2.2.1)
    (h : bv_Ev M X d n0 n1 Q 0 (bv_en av M.2.2.1) [] n0 mr mi) : bv_Met y M X d n0 n1 av mr mi Q := by
  intro l D ad0 ca0 sz
  refine Met.ofW (cc := M.2.1) (maxL := M.2.2.1) (ret := M.2.2.2.1) hy rfl ?_
  intro p e s m args below meth c s₁ B hml hv
  obtain ⟨rfl, hsz, hK, hAC, hP, hD, hX, hmb, hnw⟩ := hv
  subst hsz
  have hts0 := atoms_spec (ws := .code y M.2.1 M.2.2.1 M.2.2.2.1 :: bv_TB) B.pre
  have hts : ∀ w ∈ lw_tbl, goodWord w = true → w.before (av.map (bv_cv ad0)).toArray s = true := fun w hw hg => hts0 w (List.mem_cons_of_mem _ (List.mem_filter.mpr ⟨hw, hg⟩))
  have hown : s.vm.findClass M.1 = some m.cls := by rw [← hc]; exact findClass_of_methodNamed B.named
  have hlen := bv_lg_len ad0 av
  have hl := lv_entry (av.map (bv_cv ad0)) (n := M.2.2.1) (by rw [hlen]; exact hav)
  rw [lg_entry_eq]
  generalize (lg_sl (av.map (bv_cv ad0)) ++ List.replicate (M.2.2.1 - (lg_sl (av.map (bv_cv ad0))).length) Slot.unset).toArray = ls at hl ⊢
  have hl2 : bv_L ad0 ls M.2.2.1 (bv_en av M.2.2.1) := by
    refine ⟨hl.1, hl.2.1, fun q hq => hl.2.2 q ?_⟩
    obtain ⟨i, w⟩ := q
    obtain ⟨v, hv, rfl⟩ := bv_lv_mem.mp hq
    have := bv_en_mem ad0 av M.2.2.1 0 i v hv
    rwa [Nat.zero_add] at this
  have k := h l p e (bv_rm d n0 n1) s m (av.map (bv_cv ad0)).toArray below meth c s.heap [] ad0 ad0 ca0 ca0 D ⟨B.exec, B.bytes, hml, hown, hts, B.returns, B.notSynchronized, fun q => (name_of_methodNamed B.named B.method).1.trans (hi q), hK, hX, hnw⟩ ⟨Nat.le_refl _, Nat.le_refl _, Nat.le_refl _, Nat.le_refl _⟩ ⟨fun _ => ⟨rfl, rfl⟩, fun _ _ => ⟨rfl, rfl⟩⟩ ⟨hP, bv_A_self (D := D) hD, va_S.rf, hAC, hmb⟩ ls hl2
  rw [Nat.sub_self, Nat.sub_self] at k
  exact k
section RULES
variable {M : bv_M} {X : bv_Xt} {d n0 n1 : Nat} {Q : Option Value → bv_Rfs → bv_Mem → Prop} {pc : Nat} {L : List (Option Value)} {st : List Value} {n : Nat} {mr : bv_Rfs} {mi : bv_Mem}
theorem ev_iadd {x y : Int32} (hd : decode M.2.1 pc = .ok (.iadd, 1)) (k : bv_Ev M X d n0 n1 Q (pc + 1) L (.int (x + y) :: st) n mr mi) : bv_Ev M X d n0 n1 Q pc L (.int y :: .int x :: st) n mr mi :=
  fun l p e R s m args below meth c H locs ad0 ad ca0 ca D hC hR hag hW ls hl => lv_iadd hC.1 hC.2.1 hd (k l p e R s m args below meth c H locs ad0 ad ca0 ca D hC hR hag hW ls hl)
theorem ev_isub {x y : Int32} (hd : decode M.2.1 pc = .ok (.isub, 1)) (k : bv_Ev M X d n0 n1 Q (pc + 1) L (.int (x - y) :: st) n mr mi) : bv_Ev M X d n0 n1 Q pc L (.int y :: .int x :: st) n mr mi :=
  fun l p e R s m args below meth c H locs ad0 ad ca0 ca D hC hR hag hW ls hl => lv_isub hC.1 hC.2.1 hd (k l p e R s m args below meth c H locs ad0 ad ca0 ca D hC hR hag hW ls hl)
theorem ev_imul {x y : Int32} (hd : decode M.2.1 pc = .ok (.imul, 1)) (k : bv_Ev M X d n0 n1 Q (pc + 1) L (.int (x * y) :: st) n mr mi) : bv_Ev M X d n0 n1 Q pc L (.int y :: .int x :: st) n mr mi :=
  fun l p e R s m args below meth c H locs ad0 ad ca0 ca D hC hR hag hW ls hl => lv_imul hC.1 hC.2.1 hd (k l p e R s m args below meth c H locs ad0 ad ca0 ca D hC hR hag hW ls hl)
theorem ev_iand {x y : Int32} (hd : decode M.2.1 pc = .ok (.iand, 1)) (k : bv_Ev M X d n0 n1 Q (pc + 1) L (.int (x &&& y) :: st) n mr mi) : bv_Ev M X d n0 n1 Q pc L (.int y :: .int x :: st) n mr mi :=
  fun l p e R s m args below meth c H locs ad0 ad ca0 ca D hC hR hag hW ls hl => lv_iand hC.1 hC.2.1 hd (k l p e R s m args below meth c H locs ad0 ad ca0 ca D hC hR hag hW ls hl)
theorem ev_ior {x y : Int32} (hd : decode M.2.1 pc = .ok (.ior, 1)) (k : bv_Ev M X d n0 n1 Q (pc + 1) L (.int (x ||| y) :: st) n mr mi) : bv_Ev M X d n0 n1 Q pc L (.int y :: .int x :: st) n mr mi :=
  fun l p e R s m args below meth c H locs ad0 ad ca0 ca D hC hR hag hW ls hl => lv_ior hC.1 hC.2.1 hd (k l p e R s m args below meth c H locs ad0 ad ca0 ca D hC hR hag hW ls hl)
theorem ev_ixor {x y : Int32} (hd : decode M.2.1 pc = .ok (.ixor, 1)) (k : bv_Ev M X d n0 n1 Q (pc + 1) L (.int (x ^^^ y) :: st) n mr mi) : bv_Ev M X d n0 n1 Q pc L (.int y :: .int x :: st) n mr mi :=
  fun l p e R s m args below meth c H locs ad0 ad ca0 ca D hC hR hag hW ls hl => lv_ixor hC.1 hC.2.1 hd (k l p e R s m args below meth c H locs ad0 ad ca0 ca D hC hR hag hW ls hl)
theorem ev_ishl {x y : Int32} (hd : decode M.2.1 pc = .ok (.ishl, 1)) (k : bv_Ev M X d n0 n1 Q (pc + 1) L (.int (x <<< (y &&& 31)) :: st) n mr mi) : bv_Ev M X d n0 n1 Q pc L (.int y :: .int x :: st) n mr mi :=
  fun l p e R s m args below meth c H locs ad0 ad ca0 ca D hC hR hag hW ls hl => lv_ishl hC.1 hC.2.1 hd (k l p e R s m args below meth c H locs ad0 ad ca0 ca D hC hR hag hW ls hl)
theorem ev_ishr {x y : Int32} (hd : decode M.2.1 pc = .ok (.ishr, 1)) (k : bv_Ev M X d n0 n1 Q (pc + 1) L (.int (x >>> (y &&& 31)) :: st) n mr mi) : bv_Ev M X d n0 n1 Q pc L (.int y :: .int x :: st) n mr mi :=
  fun l p e R s m args below meth c H locs ad0 ad ca0 ca D hC hR hag hW ls hl => lv_ishr hC.1 hC.2.1 hd (k l p e R s m args below meth c H locs ad0 ad ca0 ca D hC hR hag hW ls hl)
theorem ev_iushr {x y : Int32} (hd : decode M.2.1 pc = .ok (.iushr, 1)) (k : bv_Ev M X d n0 n1 Q (pc + 1) L (.int (x.toUInt32 >>> (y.toUInt32 &&& Int32.toUInt32 31)).toInt32 :: st) n mr mi) : bv_Ev M X d n0 n1 Q pc L (.int y :: .int x :: st) n mr mi :=
  fun l p e R s m args below meth c H locs ad0 ad ca0 ca D hC hR hag hW ls hl => lv_iushr hC.1 hC.2.1 hd rfl (k l p e R s m args below meth c H locs ad0 ad ca0 ca D hC hR hag hW ls hl)
theorem ev_land {x y : Int64} (hd : decode M.2.1 pc = .ok (.land, 1)) (k : bv_Ev M X d n0 n1 Q (pc + 1) L (.long (x &&& y) :: st) n mr mi) : bv_Ev M X d n0 n1 Q pc L (.long y :: .long x :: st) n mr mi :=
  fun l p e R s m args below meth c H locs ad0 ad ca0 ca D hC hR hag hW ls hl => lv_land hC.1 hC.2.1 hd (k l p e R s m args below meth c H locs ad0 ad ca0 ca D hC hR hag hW ls hl)
theorem ev_lor {x y : Int64} (hd : decode M.2.1 pc = .ok (.lor, 1)) (k : bv_Ev M X d n0 n1 Q (pc + 1) L (.long (x ||| y) :: st) n mr mi) : bv_Ev M X d n0 n1 Q pc L (.long y :: .long x :: st) n mr mi :=
  fun l p e R s m args below meth c H locs ad0 ad ca0 ca D hC hR hag hW ls hl => lv_lor hC.1 hC.2.1 hd (k l p e R s m args below meth c H locs ad0 ad ca0 ca D hC hR hag hW ls hl)
theorem ev_ineg {x : Int32} (hd : decode M.2.1 pc = .ok (.ineg, 1)) (k : bv_Ev M X d n0 n1 Q (pc + 1) L (.int (-x) :: st) n mr mi) : bv_Ev M X d n0 n1 Q pc L (.int x :: st) n mr mi :=
  fun l p e R s m args below meth c H locs ad0 ad ca0 ca D hC hR hag hW ls hl => lv_ineg hC.1 hC.2.1 hd (k l p e R s m args below meth c H locs ad0 ad ca0 ca D hC hR hag hW ls hl)
theorem ev_i2l {x : Int32} (hd : decode M.2.1 pc = .ok (.i2l, 1)) (k : bv_Ev M X d n0 n1 Q (pc + 1) L (.long x.toInt64 :: st) n mr mi) : bv_Ev M X d n0 n1 Q pc L (.int x :: st) n mr mi :=
  fun l p e R s m args below meth c H locs ad0 ad ca0 ca D hC hR hag hW ls hl => lv_i2l hC.1 hC.2.1 hd rfl (k l p e R s m args below meth c H locs ad0 ad ca0 ca D hC hR hag hW ls hl)
theorem ev_l2i {x : Int64} (hd : decode M.2.1 pc = .ok (.l2i, 1)) (k : bv_Ev M X d n0 n1 Q (pc + 1) L (.int x.toInt32 :: st) n mr mi) : bv_Ev M X d n0 n1 Q pc L (.long x :: st) n mr mi :=
  fun l p e R s m args below meth c H locs ad0 ad ca0 ca D hC hR hag hW ls hl => lv_l2i hC.1 hC.2.1 hd rfl (k l p e R s m args below meth c H locs ad0 ad ca0 ca D hC hR hag hW ls hl)
theorem ev_i2b {x : Int32} (hd : decode M.2.1 pc = .ok (.i2b, 1)) (k : bv_Ev M X d n0 n1 Q (pc + 1) L (.int x.toInt8.toInt32 :: st) n mr mi) : bv_Ev M X d n0 n1 Q pc L (.int x :: st) n mr mi :=
  fun l p e R s m args below meth c H locs ad0 ad ca0 ca D hC hR hag hW ls hl => lv_i2b hC.1 hC.2.1 hd rfl (k l p e R s m args below meth c H locs ad0 ad ca0 ca D hC hR hag hW ls hl)
theorem ev_i2s {x : Int32} (hd : decode M.2.1 pc = .ok (.i2s, 1)) (k : bv_Ev M X d n0 n1 Q (pc + 1) L (.int x.toInt16.toInt32 :: st) n mr mi) : bv_Ev M X d n0 n1 Q pc L (.int x :: st) n mr mi :=
  fun l p e R s m args below meth c H locs ad0 ad ca0 ca D hC hR hag hW ls hl => lv_i2s hC.1 hC.2.1 hd rfl (k l p e R s m args below meth c H locs ad0 ad ca0 ca D hC hR hag hW ls hl)
theorem ev_lshl {x : Int64} {y : Int32} (hd : decode M.2.1 pc = .ok (.lshl, 1)) (k : bv_Ev M X d n0 n1 Q (pc + 1) L (.long (x <<< (y.toInt64 &&& 63)) :: st) n mr mi) : bv_Ev M X d n0 n1 Q pc L (.int y :: .long x :: st) n mr mi :=
  fun l p e R s m args below meth c H locs ad0 ad ca0 ca D hC hR hag hW ls hl => lv_lshl hC.1 hC.2.1 hd rfl (k l p e R s m args below meth c H locs ad0 ad ca0 ca D hC hR hag hW ls hl)
theorem ev_lshr {x : Int64} {y : Int32} (hd : decode M.2.1 pc = .ok (.lshr, 1)) (k : bv_Ev M X d n0 n1 Q (pc + 1) L (.long (x >>> (y.toInt64 &&& 63)) :: st) n mr mi) : bv_Ev M X d n0 n1 Q pc L (.int y :: .long x :: st) n mr mi :=
  fun l p e R s m args below meth c H locs ad0 ad ca0 ca D hC hR hag hW ls hl => lv_lshr hC.1 hC.2.1 hd rfl (k l p e R s m args below meth c H locs ad0 ad ca0 ca D hC hR hag hW ls hl)
theorem ev_lushr {x : Int64} {y : Int32} (hd : decode M.2.1 pc = .ok (.lushr, 1)) (k : bv_Ev M X d n0 n1 Q (pc + 1) L (.long (x.toUInt64 >>> (y.toInt64.toUInt64 &&& Int64.toUInt64 63)).toInt64 :: st) n mr mi) : bv_Ev M X d n0 n1 Q pc L (.int y :: .long x :: st) n mr mi :=
  fun l p e R s m args below meth c H locs ad0 ad ca0 ca D hC hR hag hW ls hl => lv_lushr hC.1 hC.2.1 hd rfl (k l p e R s m args below meth c H locs ad0 ad ca0 ca D hC hR hag hW ls hl)
theorem ev_iconst {v : Int} (x : Int32) (hd : decode M.2.1 pc = .ok (.iconst v, 1)) (hv : Int32.ofInt v = x) (k : bv_Ev M X d n0 n1 Q (pc + 1) L (.int x :: st) n mr mi) : bv_Ev M X d n0 n1 Q pc L st n mr mi :=
  fun l p e R s m args below meth c H locs ad0 ad ca0 ca D hC hR hag hW ls hl => lv_iconst hC.1 hC.2.1 hd hv (k l p e R s m args below meth c H locs ad0 ad ca0 ca D hC hR hag hW ls hl)
theorem ev_bipush {v : Int} (x : Int32) (hd : decode M.2.1 pc = .ok (.bipush v, 2)) (hv : (Int8.ofInt v).toInt32 = x) (k : bv_Ev M X d n0 n1 Q (pc + 2) L (.int x :: st) n mr mi) : bv_Ev M X d n0 n1 Q pc L st n mr mi :=
  fun l p e R s m args below meth c H locs ad0 ad ca0 ca D hC hR hag hW ls hl => lv_bipush hC.1 hC.2.1 hd hv (k l p e R s m args below meth c H locs ad0 ad ca0 ca D hC hR hag hW ls hl)
theorem ev_sipush {v : Int} (x : Int32) (hd : decode M.2.1 pc = .ok (.sipush v, 3)) (hv : (Int16.ofInt v).toInt32 = x) (k : bv_Ev M X d n0 n1 Q (pc + 3) L (.int x :: st) n mr mi) : bv_Ev M X d n0 n1 Q pc L st n mr mi :=
  fun l p e R s m args below meth c H locs ad0 ad ca0 ca D hC hR hag hW ls hl => lv_sipush hC.1 hC.2.1 hd hv (k l p e R s m args below meth c H locs ad0 ad ca0 ca D hC hR hag hW ls hl)
theorem ev_ldc {i : Nat} (x : Int32) (hd : decode M.2.1 pc = .ok (.ldc i, 2)) (hv : Cond.constant M.1 i x ∈ lw_tbl) (k : bv_Ev M X d n0 n1 Q (pc + 2) L (.int x :: st) n mr mi) : bv_Ev M X d n0 n1 Q pc L st n mr mi :=
  fun l p e R s m args below meth c H locs ad0 ad ca0 ca D hC hR hag hW ls hl => lv_ldc hC.1 hC.2.1 hC.2.2.2.1 (hC.2.2.2.2.1 _ hv rfl) hd (k l p e R s m args below meth c H locs ad0 ad ca0 ca D hC hR hag hW ls hl)
theorem ev_ldcw {i : Nat} (x : Int32) (hd : decode M.2.1 pc = .ok (.ldc_w i, 3)) (hv : Cond.constant M.1 i x ∈ lw_tbl) (k : bv_Ev M X d n0 n1 Q (pc + 3) L (.int x :: st) n mr mi) : bv_Ev M X d n0 n1 Q pc L st n mr mi :=
  fun l p e R s m args below meth c H locs ad0 ad ca0 ca D hC hR hag hW ls hl => lv_ldcw hC.1 hC.2.1 hC.2.2.2.1 (hC.2.2.2.2.1 _ hv rfl) hd (k l p e R s m args below meth c H locs ad0 ad ca0 ca D hC hR hag hW ls hl)
theorem ev_ldc2 {i : Nat} (x : Int64) (hd : decode M.2.1 pc = .ok (.ldc2_w i, 3)) (hv : Cond.constantLong M.1 i x ∈ lw_tbl) (k : bv_Ev M X d n0 n1 Q (pc + 3) L (.long x :: st) n mr mi) : bv_Ev M X d n0 n1 Q pc L st n mr mi :=
  fun l p e R s m args below meth c H locs ad0 ad ca0 ca D hC hR hag hW ls hl => lv_ldc2 hC.1 hC.2.1 hC.2.2.2.1 (hC.2.2.2.2.1 _ hv rfl) hd (k l p e R s m args below meth c H locs ad0 ad ca0 ca D hC hR hag hW ls hl)
theorem ev_iload_n {i : Fin 4} {x : Int32} (hd : decode M.2.1 pc = .ok (.iload_n i, 1)) (hl : L[(i : Nat)]? = some (some (.int x))) (k : bv_Ev M X d n0 n1 Q (pc + 1) L (.int x :: st) n mr mi) : bv_Ev M X d n0 n1 Q pc L st n mr mi :=
  fun l p e R s m args below meth c H locs ad0 ad ca0 ca D hC hR hag hW ls hh => lv_iload_n hC.1 hC.2.1 hd rfl (bv_L_at hh hl) (k l p e R s m args below meth c H locs ad0 ad ca0 ca D hC hR hag hW ls hh)
theorem ev_iload {i : Nat} {x : Int32} (hd : decode M.2.1 pc = .ok (.iload i, 2)) (hl : L[i]? = some (some (.int x))) (k : bv_Ev M X d n0 n1 Q (pc + 2) L (.int x :: st) n mr mi) : bv_Ev M X d n0 n1 Q pc L st n mr mi :=
  fun l p e R s m args below meth c H locs ad0 ad ca0 ca D hC hR hag hW ls hh => lv_iload hC.1 hC.2.1 hd (bv_L_at hh hl) (k l p e R s m args below meth c H locs ad0 ad ca0 ca D hC hR hag hW ls hh)
theorem ev_lload_n {i : Fin 4} {x : Int64} (hd : decode M.2.1 pc = .ok (.lload_n i, 1)) (hl : L[(i : Nat)]? = some (some (.long x))) (k : bv_Ev M X d n0 n1 Q (pc + 1) L (.long x :: st) n mr mi) : bv_Ev M X d n0 n1 Q pc L st n mr mi :=
  fun l p e R s m args below meth c H locs ad0 ad ca0 ca D hC hR hag hW ls hh => lv_lload_n hC.1 hC.2.1 hd rfl (bv_L_at hh hl) (k l p e R s m args below meth c H locs ad0 ad ca0 ca D hC hR hag hW ls hh)
theorem ev_aload_n {i : Fin 4} {x : Nat} (hd : decode M.2.1 pc = .ok (.aload_n i, 1)) (hl : L[(i : Nat)]? = some (some (.ref x))) (k : bv_Ev M X d n0 n1 Q (pc + 1) L (.ref x :: st) n mr mi) : bv_Ev M X d n0 n1 Q pc L st n mr mi :=
  fun l p e R s m args below meth c H locs ad0 ad ca0 ca D hC hR hag hW ls hh => lv_aload_n hC.1 hC.2.1 hd rfl (bv_L_at hh hl) (k l p e R s m args below meth c H locs ad0 ad ca0 ca D hC hR hag hW ls hh)
theorem ev_aload {i : Nat} {x : Nat} (hd : decode M.2.1 pc = .ok (.aload i, 2)) (hl : L[i]? = some (some (.ref x))) (k : bv_Ev M X d n0 n1 Q (pc + 2) L (.ref x :: st) n mr mi) : bv_Ev M X d n0 n1 Q pc L st n mr mi :=
  fun l p e R s m args below meth c H locs ad0 ad ca0 ca D hC hR hag hW ls hh => lv_aload hC.1 hC.2.1 hd (bv_L_at hh hl) (k l p e R s m args below meth c H locs ad0 ad ca0 ca D hC hR hag hW ls hh)
theorem ev_istore_n {i : Fin 4} {x : Int32} (hd : decode M.2.1 pc = .ok (.istore_n i, 1)) (hn : Nat.blt (i : Nat) M.2.2.1 = true) (hc : bv_nl L i = true) (k : bv_Ev M X d n0 n1 Q (pc + 1) (L.set i (some (.int x))) st n mr mi) : bv_Ev M X d n0 n1 Q pc L (.int x :: st) n mr mi :=
  fun l p e R s m args below meth c H locs ad0 ad ca0 ca D hC hR hag hW ls hh => lv_istore_n hC.1 hC.2.1 hd rfl hh (Nat.blt_eq.mp hn) rfl (fun ls' h2 => k l p e R s m args below meth c H locs ad0 ad ca0 ca D hC hR hag hW ls' (bv_L_set (v := .int x) h2 hc))
theorem ev_istore {i : Nat} {x : Int32} (hd : decode M.2.1 pc = .ok (.istore i, 2)) (hn : Nat.blt i M.2.2.1 = true) (hc : bv_nl L i = true) (k : bv_Ev M X d n0 n1 Q (pc + 2) (L.set i (some (.int x))) st n mr mi) : bv_Ev M X d n0 n1 Q pc L (.int x :: st) n mr mi :=
  fun l p e R s m args below meth c H locs ad0 ad ca0 ca D hC hR hag hW ls hh => lv_istore hC.1 hC.2.1 hd hh (Nat.blt_eq.mp hn) rfl (fun ls' h2 => k l p e R s m args below meth c H locs ad0 ad ca0 ca D hC hR hag hW ls' (bv_L_set (v := .int x) h2 hc))
theorem ev_astore_n {i : Fin 4} {x : Nat} (hd : decode M.2.1 pc = .ok (.astore_n i, 1)) (hn : Nat.blt (i : Nat) M.2.2.1 = true) (hc : bv_nl L i = true) (k : bv_Ev M X d n0 n1 Q (pc + 1) (L.set i (some (.ref x))) st n mr mi) : bv_Ev M X d n0 n1 Q pc L (.ref x :: st) n mr mi :=
  fun l p e R s m args below meth c H locs ad0 ad ca0 ca D hC hR hag hW ls hh => lv_astore_n hC.1 hC.2.1 hd rfl hh (Nat.blt_eq.mp hn) rfl (fun ls' h2 => k l p e R s m args below meth c H locs ad0 ad ca0 ca D hC hR hag hW ls' (bv_L_set (v := .ref x) h2 hc))
theorem ev_astore {i : Nat} {x : Nat} (hd : decode M.2.1 pc = .ok (.astore i, 2)) (hn : Nat.blt i M.2.2.1 = true) (hc : bv_nl L i = true) (k : bv_Ev M X d n0 n1 Q (pc + 2) (L.set i (some (.ref x))) st n mr mi) : bv_Ev M X d n0 n1 Q pc L (.ref x :: st) n mr mi :=
  fun l p e R s m args below meth c H locs ad0 ad ca0 ca D hC hR hag hW ls hh => lv_astore hC.1 hC.2.1 hd hh (Nat.blt_eq.mp hn) rfl (fun ls' h2 => k l p e R s m args below meth c H locs ad0 ad ca0 ca D hC hR hag hW ls' (bv_L_set (v := .ref x) h2 hc))
theorem ev_iinc {i : Nat} {v : Int} {x : Int32} (z : Int32) (hd : decode M.2.1 pc = .ok (.iinc i v, 3)) (hl : L[i]? = some (some (.int x))) (hz : x + Int32.ofInt v = z) (hn : Nat.blt i M.2.2.1 = true) (hc : bv_nl L i = true) (k : bv_Ev M X d n0 n1 Q (pc + 3) (L.set i (some (.int z))) st n mr mi) : bv_Ev M X d n0 n1 Q pc L st n mr mi := by
  intro l p e R s m args below meth c H locs ad0 ad ca0 ca D hC hR hag hW ls hh
  obtain ⟨q, hq⟩ := List.getElem?_of_mem (bv_lv_mem (ad := ad).mpr ⟨_, hl, rfl⟩)
  exact lv_iinc hC.1 hC.2.1 hd hh hq hz (Nat.blt_eq.mp hn) rfl (fun ls' h2 => k l p e R s m args below meth c H locs ad0 ad ca0 ca D hC hR hag hW ls' (bv_L_set (v := .int z) h2 hc))
theorem ev_idiv {x y : Int32} (hd : decode M.2.1 pc = .ok (.idiv, 1)) (hy : ¬ y = 0) (k : bv_Ev M X d n0 n1 Q (pc + 1) L (.int (x / y) :: st) n mr mi) : bv_Ev M X d n0 n1 Q pc L (.int y :: .int x :: st) n mr mi :=
  fun l p e R s m args below meth c H locs ad0 ad ca0 ca D hC hR hag hW ls hl => lv_idiv hC.1 hC.2.1 hd hy (k l p e R s m args below meth c H locs ad0 ad ca0 ca D hC hR hag hW ls hl)
theorem ev_irem {x y : Int32} (hd : decode M.2.1 pc = .ok (.irem, 1)) (hy : ¬ y = 0) (k : bv_Ev M X d n0 n1 Q (pc + 1) L (.int (x - x / y * y) :: st) n mr mi) : bv_Ev M X d n0 n1 Q pc L (.int y :: .int x :: st) n mr mi :=
  fun l p e R s m args below meth c H locs ad0 ad ca0 ca D hC hR hag hW ls hl => lv_irem hC.1 hC.2.1 hd hy (k l p e R s m args below meth c H locs ad0 ad ca0 ca D hC hR hag hW ls hl)
theorem ev_dup {v : Value} (hd : decode M.2.1 pc = .ok (.dup, 1)) (hv : v.category = 1) (k : bv_Ev M X d n0 n1 Q (pc + 1) L (v :: v :: st) n mr mi) : bv_Ev M X d n0 n1 Q pc L (v :: st) n mr mi :=
  fun l p e R s m args below meth c H locs ad0 ad ca0 ca D hC hR hag hW ls hl => lv_dup hC.1 hC.2.1 hd ((bv_cv_cat ad v).trans hv) (k l p e R s m args below meth c H locs ad0 ad ca0 ca D hC hR hag hW ls hl)
theorem ev_pop {v : Value} (hd : decode M.2.1 pc = .ok (.pop, 1)) (hv : v.category = 1) (k : bv_Ev M X d n0 n1 Q (pc + 1) L st n mr mi) : bv_Ev M X d n0 n1 Q pc L (v :: st) n mr mi :=
  fun l p e R s m args below meth c H locs ad0 ad ca0 ca D hC hR hag hW ls hl => lv_pop hC.1 hC.2.1 hd ((bv_cv_cat ad v).trans hv) (k l p e R s m args below meth c H locs ad0 ad ca0 ca D hC hR hag hW ls hl)
theorem ev_dup2 {v w : Value} (hd : decode M.2.1 pc = .ok (.dup2, 1)) (hv : v.category = 1) (hw : w.category = 1) (k : bv_Ev M X d n0 n1 Q (pc + 1) L (v :: w :: v :: w :: st) n mr mi) : bv_Ev M X d n0 n1 Q pc L (v :: w :: st) n mr mi :=
  fun l p e R s m args below meth c H locs ad0 ad ca0 ca D hC hR hag hW ls hl => lv_dup2_11 hC.1 hC.2.1 hd ((bv_cv_cat ad v).trans hv) ((bv_cv_cat ad w).trans hw) (k l p e R s m args below meth c H locs ad0 ad ca0 ca D hC hR hag hW ls hl)
theorem ev_goto {off : Int} (tgt : Nat) (hd : decode M.2.1 pc = .ok (.goto off, 3)) (ht : (pc : Int) + off = (tgt : Int)) (k : bv_Ev M X d n0 n1 Q tgt L st n mr mi) : bv_Ev M X d n0 n1 Q pc L st n mr mi :=
  fun l p e R s m args below meth c H locs ad0 ad ca0 ca D hC hR hag hW ls hl => lv_goto hC.1 hC.2.1 hd ht (k l p e R s m args below meth c H locs ad0 ad ca0 ca D hC hR hag hW ls hl)
theorem ev_if_eq {x : Int32} {off : Int} (tgt : Nat) (hd : decode M.2.1 pc = .ok (.ifCond .eq off, 3)) (ht : (pc : Int) + off = (tgt : Int)) (kt : x = 0 → bv_Ev M X d n0 n1 Q tgt L st n mr mi) (kf : ¬ x = 0 → bv_Ev M X d n0 n1 Q (pc + 3) L st n mr mi) : bv_Ev M X d n0 n1 Q pc L (.int x :: st) n mr mi :=
  fun l p e R s m args below meth c H locs ad0 ad ca0 ca D hC hR hag hW ls hl => lv_if_eq hC.1 hC.2.1 hd ht (fun h => kt h l p e R s m args below meth c H locs ad0 ad ca0 ca D hC hR hag hW ls hl) (fun h => kf h l p e R s m args below meth c H locs ad0 ad ca0 ca D hC hR hag hW ls hl)
theorem ev_if_ne {x : Int32} {off : Int} (tgt : Nat) (hd : decode M.2.1 pc = .ok (.ifCond .ne off, 3)) (ht : (pc : Int) + off = (tgt : Int)) (kt : ¬ x = 0 → bv_Ev M X d n0 n1 Q tgt L st n mr mi) (kf : x = 0 → bv_Ev M X d n0 n1 Q (pc + 3) L st n mr mi) : bv_Ev M X d n0 n1 Q pc L (.int x :: st) n mr mi :=
  fun l p e R s m args below meth c H locs ad0 ad ca0 ca D hC hR hag hW ls hl => lv_if_ne hC.1 hC.2.1 hd ht (fun h => kt h l p e R s m args below meth c H locs ad0 ad ca0 ca D hC hR hag hW ls hl) (fun h => kf h l p e R s m args below meth c H locs ad0 ad ca0 ca D hC hR hag hW ls hl)
theorem ev_if_lt {x : Int32} {off : Int} (tgt : Nat) (hd : decode M.2.1 pc = .ok (.ifCond .lt off, 3)) (ht : (pc : Int) + off = (tgt : Int)) (kt : x < 0 → bv_Ev M X d n0 n1 Q tgt L st n mr mi) (kf : ¬ x < 0 → bv_Ev M X d n0 n1 Q (pc + 3) L st n mr mi) : bv_Ev M X d n0 n1 Q pc L (.int x :: st) n mr mi :=
  fun l p e R s m args below meth c H locs ad0 ad ca0 ca D hC hR hag hW ls hl => lv_if_lt hC.1 hC.2.1 hd ht (fun h => kt h l p e R s m args below meth c H locs ad0 ad ca0 ca D hC hR hag hW ls hl) (fun h => kf h l p e R s m args below meth c H locs ad0 ad ca0 ca D hC hR hag hW ls hl)
theorem ev_if_ge {x : Int32} {off : Int} (tgt : Nat) (hd : decode M.2.1 pc = .ok (.ifCond .ge off, 3)) (ht : (pc : Int) + off = (tgt : Int)) (kt : 0 ≤ x → bv_Ev M X d n0 n1 Q tgt L st n mr mi) (kf : ¬ 0 ≤ x → bv_Ev M X d n0 n1 Q (pc + 3) L st n mr mi) : bv_Ev M X d n0 n1 Q pc L (.int x :: st) n mr mi :=
  fun l p e R s m args below meth c H locs ad0 ad ca0 ca D hC hR hag hW ls hl => lv_if_ge hC.1 hC.2.1 hd ht (fun h => kt h l p e R s m args below meth c H locs ad0 ad ca0 ca D hC hR hag hW ls hl) (fun h => kf h l p e R s m args below meth c H locs ad0 ad ca0 ca D hC hR hag hW ls hl)
theorem ev_if_gt {x : Int32} {off : Int} (tgt : Nat) (hd : decode M.2.1 pc = .ok (.ifCond .gt off, 3)) (ht : (pc : Int) + off = (tgt : Int)) (kt : 0 < x → bv_Ev M X d n0 n1 Q tgt L st n mr mi) (kf : ¬ 0 < x → bv_Ev M X d n0 n1 Q (pc + 3) L st n mr mi) : bv_Ev M X d n0 n1 Q pc L (.int x :: st) n mr mi :=
  fun l p e R s m args below meth c H locs ad0 ad ca0 ca D hC hR hag hW ls hl => lv_if_gt hC.1 hC.2.1 hd ht (fun h => kt h l p e R s m args below meth c H locs ad0 ad ca0 ca D hC hR hag hW ls hl) (fun h => kf h l p e R s m args below meth c H locs ad0 ad ca0 ca D hC hR hag hW ls hl)
theorem ev_if_le {x : Int32} {off : Int} (tgt : Nat) (hd : decode M.2.1 pc = .ok (.ifCond .le off, 3)) (ht : (pc : Int) + off = (tgt : Int)) (kt : x ≤ 0 → bv_Ev M X d n0 n1 Q tgt L st n mr mi) (kf : ¬ x ≤ 0 → bv_Ev M X d n0 n1 Q (pc + 3) L st n mr mi) : bv_Ev M X d n0 n1 Q pc L (.int x :: st) n mr mi :=
  fun l p e R s m args below meth c H locs ad0 ad ca0 ca D hC hR hag hW ls hl => lv_if_le hC.1 hC.2.1 hd ht (fun h => kt h l p e R s m args below meth c H locs ad0 ad ca0 ca D hC hR hag hW ls hl) (fun h => kf h l p e R s m args below meth c H locs ad0 ad ca0 ca D hC hR hag hW ls hl)
theorem ev_icmp_eq {x y : Int32} {off : Int} (tgt : Nat) (hd : decode M.2.1 pc = .ok (.if_icmp .eq off, 3)) (ht : (pc : Int) + off = (tgt : Int)) (kt : x = y → bv_Ev M X d n0 n1 Q tgt L st n mr mi) (kf : ¬ x = y → bv_Ev M X d n0 n1 Q (pc + 3) L st n mr mi) : bv_Ev M X d n0 n1 Q pc L (.int y :: .int x :: st) n mr mi :=
  fun l p e R s m args below meth c H locs ad0 ad ca0 ca D hC hR hag hW ls hl => lv_icmp_eq hC.1 hC.2.1 hd ht (fun h => kt h l p e R s m args below meth c H locs ad0 ad ca0 ca D hC hR hag hW ls hl) (fun h => kf h l p e R s m args below meth c H locs ad0 ad ca0 ca D hC hR hag hW ls hl)
theorem ev_icmp_ne {x y : Int32} {off : Int} (tgt : Nat) (hd : decode M.2.1 pc = .ok (.if_icmp .ne off, 3)) (ht : (pc : Int) + off = (tgt : Int)) (kt : ¬ x = y → bv_Ev M X d n0 n1 Q tgt L st n mr mi) (kf : x = y → bv_Ev M X d n0 n1 Q (pc + 3) L st n mr mi) : bv_Ev M X d n0 n1 Q pc L (.int y :: .int x :: st) n mr mi :=
  fun l p e R s m args below meth c H locs ad0 ad ca0 ca D hC hR hag hW ls hl => lv_icmp_ne hC.1 hC.2.1 hd ht (fun h => kt h l p e R s m args below meth c H locs ad0 ad ca0 ca D hC hR hag hW ls hl) (fun h => kf h l p e R s m args below meth c H locs ad0 ad ca0 ca D hC hR hag hW ls hl)
theorem ev_icmp_lt {x y : Int32} {off : Int} (tgt : Nat) (hd : decode M.2.1 pc = .ok (.if_icmp .lt off, 3)) (ht : (pc : Int) + off = (tgt : Int)) (kt : x < y → bv_Ev M X d n0 n1 Q tgt L st n mr mi) (kf : ¬ x < y → bv_Ev M X d n0 n1 Q (pc + 3) L st n mr mi) : bv_Ev M X d n0 n1 Q pc L (.int y :: .int x :: st) n mr mi :=
  fun l p e R s m args below meth c H locs ad0 ad ca0 ca D hC hR hag hW ls hl => lv_icmp_lt hC.1 hC.2.1 hd ht (fun h => kt h l p e R s m args below meth c H locs ad0 ad ca0 ca D hC hR hag hW ls hl) (fun h => kf h l p e R s m args below meth c H locs ad0 ad ca0 ca D hC hR hag hW ls hl)
theorem ev_icmp_ge {x y : Int32} {off : Int} (tgt : Nat) (hd : decode M.2.1 pc = .ok (.if_icmp .ge off, 3)) (ht : (pc : Int) + off = (tgt : Int)) (kt : y ≤ x → bv_Ev M X d n0 n1 Q tgt L st n mr mi) (kf : ¬ y ≤ x → bv_Ev M X d n0 n1 Q (pc + 3) L st n mr mi) : bv_Ev M X d n0 n1 Q pc L (.int y :: .int x :: st) n mr mi :=
  fun l p e R s m args below meth c H locs ad0 ad ca0 ca D hC hR hag hW ls hl => lv_icmp_ge hC.1 hC.2.1 hd ht (fun h => kt h l p e R s m args below meth c H locs ad0 ad ca0 ca D hC hR hag hW ls hl) (fun h => kf h l p e R s m args below meth c H locs ad0 ad ca0 ca D hC hR hag hW ls hl)
theorem ev_icmp_gt {x y : Int32} {off : Int} (tgt : Nat) (hd : decode M.2.1 pc = .ok (.if_icmp .gt off, 3)) (ht : (pc : Int) + off = (tgt : Int)) (kt : y < x → bv_Ev M X d n0 n1 Q tgt L st n mr mi) (kf : ¬ y < x → bv_Ev M X d n0 n1 Q (pc + 3) L st n mr mi) : bv_Ev M X d n0 n1 Q pc L (.int y :: .int x :: st) n mr mi :=
  fun l p e R s m args below meth c H locs ad0 ad ca0 ca D hC hR hag hW ls hl => lv_icmp_gt hC.1 hC.2.1 hd ht (fun h => kt h l p e R s m args below meth c H locs ad0 ad ca0 ca D hC hR hag hW ls hl) (fun h => kf h l p e R s m args below meth c H locs ad0 ad ca0 ca D hC hR hag hW ls hl)
theorem ev_icmp_le {x y : Int32} {off : Int} (tgt : Nat) (hd : decode M.2.1 pc = .ok (.if_icmp .le off, 3)) (ht : (pc : Int) + off = (tgt : Int)) (kt : x ≤ y → bv_Ev M X d n0 n1 Q tgt L st n mr mi) (kf : ¬ x ≤ y → bv_Ev M X d n0 n1 Q (pc + 3) L st n mr mi) : bv_Ev M X d n0 n1 Q pc L (.int y :: .int x :: st) n mr mi :=
  fun l p e R s m args below meth c H locs ad0 ad ca0 ca D hC hR hag hW ls hl => lv_icmp_le hC.1 hC.2.1 hd ht (fun h => kt h l p e R s m args below meth c H locs ad0 ad ca0 ca D hC hR hag hW ls hl) (fun h => kf h l p e R s m args below meth c H locs ad0 ad ca0 ca D hC hR hag hW ls hl)
theorem ev_lookup {dflt : Int} {ps : Array (Int × Int)} {len : Nat} {x : Int32} (off : Int) (tgt : Nat) (hd : decode M.2.1 pc = .ok (.lookupswitch dflt ps, len)) (hp : (ps.toList.zip (ps.toList.drop 1)).all (fun (a, next) => a.1 < next.1) = true) (ho : Op.lookupswitch.offset ps.toList dflt x.toInt = off) (ht : (pc : Int) + off = (tgt : Int))
    (k : bv_Ev M X d n0 n1 Q tgt L st n mr mi) : bv_Ev M X d n0 n1 Q pc L (.int x :: st) n mr mi :=
  fun l p e R s m args below meth c H locs ad0 ad ca0 ca D hC hR hag hW ls hl => lv_lookup hC.1 hC.2.1 hd hp ho ht (k l p e R s m args below meth c H locs ad0 ad ca0 ca D hC hR hag hW ls hl)
theorem ev_tableIn {dflt lo hi : Int} {offs : Array Int} {len : Nat} {x : Int32} (off : Int) (tgt : Nat) (hd : decode M.2.1 pc = .ok (.tableswitch dflt lo hi offs, len)) (h1 : ¬ x.toInt < lo) (h2 : ¬ hi < x.toInt) (ho : offs[(x.toInt - lo).toNat]? = some off) (ht : (pc : Int) + off = (tgt : Int))
    (k : bv_Ev M X d n0 n1 Q tgt L st n mr mi) : bv_Ev M X d n0 n1 Q pc L (.int x :: st) n mr mi :=
  fun l p e R s m args below meth c H locs ad0 ad ca0 ca D hC hR hag hW ls hl => lv_tableIn hC.1 hC.2.1 hd h1 h2 ho ht (k l p e R s m args below meth c H locs ad0 ad ca0 ca D hC hR hag hW ls hl)
theorem ev_tableOut {dflt lo hi : Int} {offs : Array Int} {len : Nat} {x : Int32} (tgt : Nat) (hd : decode M.2.1 pc = .ok (.tableswitch dflt lo hi offs, len)) (h : x.toInt < lo ∨ hi < x.toInt) (ht : (pc : Int) + dflt = (tgt : Int))
    (k : bv_Ev M X d n0 n1 Q tgt L st n mr mi) : bv_Ev M X d n0 n1 Q pc L (.int x :: st) n mr mi :=
  fun l p e R s m args below meth c H locs ad0 ad ca0 ca D hC hR hag hW ls hl => lv_tableOut hC.1 hC.2.1 hd h ht (k l p e R s m args below meth c H locs ad0 ad ca0 ca D hC hR hag hW ls hl)
theorem ev_iret {v : Int32} (hr : M.2.2.2.1 = some .int) (hd : decode M.2.1 pc = .ok (.ireturn, 1)) (hq : Q (some (.int v)) mr mi) : bv_Ev M X d n0 n1 Q pc L [.int v] n1 mr mi :=
  fun l p e R s m args below meth c H locs ad0 ad ca0 ca D hC hR hag hW ls hl => W.iret (v := v) hC.1 hC.2.1 (hC.2.2.2.2.2.1.trans hr) (fun t ht hW2 => ⟨_, mr, mi, ad, ca, hq, hag, rfl, by rw [ht]; exact hW.1, hW.2.1, hW.2.2.2.1.moved hW2.alike, hW.2.2.2.2, hW.2.2.1.F ht⟩) hW.2.2.1.2.2 hd hC.2.2.2.2.2.2.1
theorem ev_zret {v : Int32} (hr : M.2.2.2.1 = some .boolean) (hv : v = 0 ∨ v = 1) (hd : decode M.2.1 pc = .ok (.ireturn, 1)) (hq : Q (some (.int v)) mr mi) : bv_Ev M X d n0 n1 Q pc L [.int v] n1 mr mi :=
  fun l p e R s m args below meth c H locs ad0 ad ca0 ca D hC hR hag hW ls hl => W.zret (v := v) hC.1 hC.2.1 (hC.2.2.2.2.2.1.trans hr) (by rcases hv with rfl | rfl <;> decide) (fun t ht hW2 => ⟨_, mr, mi, ad, ca, hq, hag, rfl, by rw [ht]; exact hW.1, hW.2.1, hW.2.2.2.1.moved hW2.alike, hW.2.2.2.2, hW.2.2.1.F ht⟩) hW.2.2.1.2.2 hd hC.2.2.2.2.2.2.1
theorem ev_vret (hr : M.2.2.2.1 = none) (hd : decode M.2.1 pc = .ok (.return_, 1)) (hq : Q none mr mi) : bv_Ev M X d n0 n1 Q pc L [] n1 mr mi :=
  fun l p e R s m args below meth c H locs ad0 ad ca0 ca D hC hR hag hW ls hl => W.vret hC.1 hC.2.1 (hC.2.2.2.2.2.1.trans hr) (fun t ht hW2 => ⟨none, mr, mi, ad, ca, hq, hag, rfl, by rw [ht]; exact hW.1, hW.2.1, hW.2.2.2.1.moved hW2.alike, hW.2.2.2.2, hW.2.2.1.F ht⟩) hW.2.2.1.2.2 hd hC.2.2.2.2.2.2.1
theorem ev_aret {v : Nat} {C : String} (hr : M.2.2.2.1 = some (.object C)) (hd : decode M.2.1 pc = .ok (.areturn, 1)) (hq : Q (some (.ref v)) mr mi) : bv_Ev M X d n0 n1 Q pc L [.ref v] n1 mr mi :=
  fun l p e R s m args below meth c H locs ad0 ad ca0 ca D hC hR hag hW ls hl => W.aret (v := .ref (ad v)) hC.1 hC.2.1 (hC.2.2.2.2.2.1.trans hr) (Or.inl ⟨C, rfl⟩) (Or.inr ⟨_, rfl⟩) (fun t ht hW2 => ⟨some (.ref v), mr, mi, ad, ca, hq, hag, rfl, by rw [ht]; exact hW.1, hW.2.1, hW.2.2.2.1.moved hW2.alike, hW.2.2.2.2, hW.2.2.1.F ht⟩) hW.2.2.1.2.2 hd hC.2.2.2.2.2.2.1
end RULES
end
section
theorem bv_uws : ∀ ci, ci < 9 → ∀ w ∈ u_ws (bv_R ci) (bv_T ci) (bv_nf ci), w ∈ lw_tbl := by
  intro ci h
  match ci, h with
  | 0, _ => exact (by decide +kernel : ∀ w ∈ u_ws RX0 TX0 6, w ∈ lw_tbl)
  | 1, _ => exact (by decide +kernel : ∀ w ∈ u_ws RX1 TX1 2, w ∈ lw_tbl)
  | 2, _ => exact (by decide +kernel : ∀ w ∈ u_ws RX2 TX2 6, w ∈ lw_tbl)
  | 3, _ => exact (by decide +kernel : ∀ w ∈ u_ws RX3 TX3 3, w ∈ lw_tbl)
  | 4, _ => exact (by decide +kernel : ∀ w ∈ u_ws RX4 TX4 2, w ∈ lw_tbl)
  | 5, _ => exact (by decide +kernel : ∀ w ∈ u_ws RX5 TX5 12, w ∈ lw_tbl)
  | 6, _ => exact (by decide +kernel : ∀ w ∈ u_ws RX6 TX6 5, w ∈ lw_tbl)
  | 7, _ => exact (by decide +kernel : ∀ w ∈ u_ws RX7 TX7 9, w ∈ lw_tbl)
  | 8, _ => exact (by decide +kernel : ∀ w ∈ u_ws RX8 TX8 19, w ∈ lw_tbl)
theorem bv_ty_ok : ∀ ci, ci < 9 → ∀ k, k < bv_nf ci → parseFieldDescriptor (bv_T ci k).2.2.1 = some (bv_fty ci k) := by
  intro ci h
  match ci, h with
  | 0, _ => exact tyX0_ok
  | 1, _ => exact tyX1_ok
  | 2, _ => exact tyX2_ok
  | 3, _ => exact tyX3_ok
  | 4, _ => exact tyX4_ok
  | 5, _ => exact tyX5_ok
  | 6, _ => exact tyX6_ok
  | 7, _ => exact tyX7_ok
  | 8, _ => exact tyX8_ok
theorem bv_nm_ok : ∀ ci, ci < 9 → ∀ a, a < bv_nf ci → ∀ b, b < bv_nf ci → a ≠ b → (bv_T ci a).2.1 ≠ (bv_T ci b).2.1 := by
  intro ci h
  match ci, h with
  | 0, _ => exact nmX0
  | 1, _ => exact nmX1
  | 2, _ => exact nmX2
  | 3, _ => exact nmX3
  | 4, _ => exact nmX4
  | 5, _ => exact nmX5
  | 6, _ => exact nmX6
  | 7, _ => exact nmX7
  | 8, _ => exact nmX8
theorem bv_cl_at : ∀ ci, ci < 9 → vwCl[ci]? = some (bv_R ci, bv_T ci, bv_nf ci) := by
  intro ci h
  match ci, h with
  | 0, _ => rfl
  | 1, _ => rfl
  | 2, _ => rfl
  | 3, _ => rfl
  | 4, _ => rfl
  | 5, _ => rfl
  | 6, _ => rfl
  | 7, _ => rfl
  | 8, _ => rfl
theorem bv_uws_good : ∀ (C : String) (T : u_T) (N : Nat), ∀ w ∈ u_ws C T N, goodWord w = true := by
  intro C T N w hw
  unfold u_ws at hw
  obtain ⟨k, -, rfl⟩ := List.mem_map.mp hw
  unfold u_lay
  split <;> rfl
theorem bv_hts {M : bv_M} {X : bv_Xt} {n0 : Nat} {p : Program} {s : State} {m : MethodId} {args : Array Value} {meth : Method} {c : Code} {ad0 : Nat → Nat} {D : va_G} (hC : bv_C M X n0 p s m args meth c ad0 D) {ci : Nat} (hc : ci < 9) : ∀ w ∈ u_ws (bv_R ci) (bv_T ci) (bv_nf ci), w.before args s = true := fun w hw => hC.2.2.2.2.1 w (bv_uws ci hc w hw) (bv_uws_good _ _ _ w hw)
/-- the field k of class ci stands at the entry idx of own's pool -/
def bv_FL (own : String) (idx ci k : Nat) : Prop := (ci < 9 ∧ k < bv_nf ci) ∧ Cond.fieldLink own idx (bv_T ci k).1 (bv_T ci k).2.1 (bv_T ci k).2.2.1 ∈ lw_tbl
def bv_fit (ty : FieldType) (v : Int32) : Bool := match ty with
  | .int => true
  | .boolean => decide (v = 0) || decide (v = 1)
  | _ => false
theorem bv_fit_spec {ty : FieldType} {v : Int32} (h : bv_fit ty v = true) : narrow ty (.int v) = .int v ∧ fits ty (.int v) = true := by
  cases ty <;> simp [bv_fit] at h
  · exact ⟨rfl, rfl⟩
  · rcases h with rfl | rfl <;> exact ⟨by decide, by decide⟩
section RULES2
variable {M : bv_M} {X : bv_Xt} {d n0 n1 : Nat} {Q : Option Value → bv_Rfs → bv_Mem → Prop} {pc : Nat} {L : List (Option Value)} {st : List Value} {n : Nat} {mr : bv_Rfs} {mi : bv_Mem}
theorem bv_fld {ad : Nat → Nat} {ca : Nat → ClassId} {a ci k : Nat} (hs : bv_sh a = .inr ci) (hk : k < bv_nf ci) : ((List.range (bv_nf ci)).map (fun j => if bv_isref (bv_fty ci j) = true then va_rf ((mr a j).map ad) else Value.int (mi a j)))[k]? = some (if bv_isref (bv_fty ci k) = true then va_rf ((mr a k).map ad) else .int (mi a k)) := by
  rw [List.getElem?_map, List.getElem?_range hk]
  rfl
theorem bv_obj {ad : Nat → Nat} {ca : Nat → ClassId} {a ci : Nat} (hg : bv_isC n a ci = true) : (bv_ws ad ca n mr mi)[a]? = some (ad a, .inr (ci, (List.range (bv_nf ci)).map (fun j => if bv_isref (bv_fty ci j) = true then va_rf ((mr a j).map ad) else .int (mi a j)))) := by
  obtain ⟨h1, h2⟩ := bv_isC_spec hg
  rw [bv_ws_at _ _ _ _ h1, h2]
  rfl
theorem bv_arr {ad : Nat → Nat} {ca : Nat → ClassId} {a N : Nat} {ty : FieldType} (h1 : a < n) (h2 : bv_sh a = .inl (ty, N)) (hr : bv_isref ty = false) : (bv_ws ad ca n mr mi)[a]? = some (ad a, .inl (ca a, N, .inl (mi a))) := by
  rw [bv_ws_at _ _ _ _ h1, h2]
  simp only [bv_cell, hr]
  rw [if_neg (by simp)]
theorem bv_arq {ad : Nat → Nat} {ca : Nat → ClassId} {a N : Nat} {ty : FieldType} (h1 : a < n) (h2 : bv_sh a = .inl (ty, N)) (hr : bv_isref ty = true) : (bv_ws ad ca n mr mi)[a]? = some (ad a, .inl (ca a, N, .inr (.inr (.inr (.inr (fun j => (mr a j).map ad)))))) := by
  rw [bv_ws_at _ _ _ _ h1, h2]
  simp only [bv_cell, hr]
  rw [if_pos trivial]
theorem bv_Kt {D : va_G} {ca : Nat → ClassId} {s : State} {a N : Nat} {ty : FieldType} (hK : va_K D vwCl [] s) (hAC : bv_AC ca n s) (h1 : a < n) (h2 : bv_sh a = .inl (ty, N)) : va_K D vwCl [(ca a, ty)] s := by
  refine ⟨hK.1, fun k q hk => ?_⟩
  match k, hk with
  | 0, hk => cases hk; exact hAC a h1 ty N h2
  | k + 1, hk => simp at hk
theorem ev_getI {a ci k idx : Nat} (hf : bv_FL M.1 idx ci k) (hd : decode M.2.1 pc = .ok (.getfield idx, 3)) (hg : bv_isC n a ci = true) (hr : bv_isref (bv_fty ci k) = false) (kk : bv_Ev M X d n0 n1 Q (pc + 3) L (.int (mi a k) :: st) n mr mi) : bv_Ev M X d n0 n1 Q pc L (.ref a :: st) n mr mi := by
  intro l p e R s m args below meth c H locs ad0 ad ca0 ca D hC hR hag hW ls hl
  obtain ⟨⟨hc, hk⟩, hl1⟩ := hf
  refine va_get (v := .int (mi a k)) hC.1 hC.2.1 (bv_hts hC hc) (fun _ h => h) hC.2.2.2.1 hC.2.2.2.2.2.2.2.2.1 hW.1 a (bv_obj hg) (bv_cl_at ci hc) k hk (hC.2.2.2.2.1 _ hl1 rfl) (fun _ h9 => h9) ?_ hd (kk l p e R s m args below meth c H locs ad0 ad ca0 ca D hC hR hag hW ls hl)
  rw [bv_fld (ca := ca) (bv_isC_spec hg).2 hk, hr]
  rfl
theorem ev_getR {a ci k idx : Nat} (q : Nat) (hf : bv_FL M.1 idx ci k) (hd : decode M.2.1 pc = .ok (.getfield idx, 3)) (hg : bv_isC n a ci = true) (hr : bv_isref (bv_fty ci k) = true) (hq : mr a k = some q) (kk : bv_Ev M X d n0 n1 Q (pc + 3) L (.ref q :: st) n mr mi) : bv_Ev M X d n0 n1 Q pc L (.ref a :: st) n mr mi := by
  intro l p e R s m args below meth c H locs ad0 ad ca0 ca D hC hR hag hW ls hl
  obtain ⟨⟨hc, hk⟩, hl1⟩ := hf
  refine va_get (v := .ref (ad q)) hC.1 hC.2.1 (bv_hts hC hc) (fun _ h => h) hC.2.2.2.1 hC.2.2.2.2.2.2.2.2.1 hW.1 a (bv_obj hg) (bv_cl_at ci hc) k hk (hC.2.2.2.2.1 _ hl1 rfl) (fun _ h9 => h9) ?_ hd (kk l p e R s m args below meth c H locs ad0 ad ca0 ca D hC hR hag hW ls hl)
  rw [bv_fld (ca := ca) (bv_isC_spec hg).2 hk, hr, hq]
  rfl
theorem ev_putI {a ci k idx : Nat} {v : Int32} (hf : bv_FL M.1 idx ci k) (hd : decode M.2.1 pc = .ok (.putfield idx, 3)) (hg : bv_isC n a ci = true) (hr : bv_isref (bv_fty ci k) = false) (hfin : (bv_T ci k).2.2.2 = false) (hv : bv_fit (bv_fty ci k) v = true) (kk : bv_Ev M X d n0 n1 Q (pc + 3) L st n mr (bv_up mi a k v)) : bv_Ev M X d n0 n1 Q pc L (.int v :: .ref a :: st) n mr mi := by
  intro l p e R s m args below meth c H locs ad0 ad ca0 ca D hC hR hag hW ls hl
  obtain ⟨⟨hc, hk⟩, hl1⟩ := hf
  refine va_put (v := .int v) (ty := bv_fty ci k) hC.1 hC.2.1 (bv_hts hC hc) (fun _ h => h) (bv_fty ci) (bv_ty_ok ci hc) (bv_nm_ok ci hc) hC.2.2.2.1 hC.2.2.2.2.2.2.2.2.1 hW.1 hW.2.1 hW.2.2.1 a (bv_obj hg) (bv_cl_at ci hc) k hk (hC.2.2.2.2.1 _ hl1 rfl) (fun _ h9 => h9) hfin (bv_ty_ok ci hc k hk) (bv_fit_spec hv).1 (bv_fit_spec hv).2 (by rw [List.length_map, List.length_range]; exact hk) hd (fun H1 locs1 hP hD hS => ?_)
  rw [bv_ws_putI (bv_isC_spec hg).2 hr] at hP hD
  exact kk l p e R s m args below meth c H1 locs1 ad0 ad ca0 ca D hC hR hag ⟨hP, hD, hS, hW.2.2.2.1, hW.2.2.2.2⟩ ls hl
theorem bv_mb_up {a k q : Nat} (h : bv_mb n mr) (hq : q < n) : bv_mb n (bv_upr mr a k (some q)) := by
  intro k' j' q' h'
  unfold bv_upr at h'
  split at h'
  · cases h'; exact hq
  · exact h k' j' q' h'
theorem bv_ref_ok {ty : FieldType} {q : Nat} (hr : bv_isref ty = true) : narrow ty (.ref q) = .ref q ∧ fits ty (.ref q) = true := by
  cases ty <;> simp [bv_isref] at hr <;> exact ⟨rfl, rfl⟩
theorem ev_putR {a ci k idx q : Nat} (hf : bv_FL M.1 idx ci k) (hd : decode M.2.1 pc = .ok (.putfield idx, 3)) (hg : bv_isC n a ci = true) (hr : bv_isref (bv_fty ci k) = true) (hfin : (bv_T ci k).2.2.2 = false) (hq : q < n) (kk : bv_Ev M X d n0 n1 Q (pc + 3) L st n (bv_upr mr a k (some q)) mi) : bv_Ev M X d n0 n1 Q pc L (.ref q :: .ref a :: st) n mr mi := by
  intro l p e R s m args below meth c H locs ad0 ad ca0 ca D hC hR hag hW ls hl
  obtain ⟨⟨hc, hk⟩, hl1⟩ := hf
  refine va_put (v := .ref (ad q)) (ty := bv_fty ci k) hC.1 hC.2.1 (bv_hts hC hc) (fun _ h => h) (bv_fty ci) (bv_ty_ok ci hc) (bv_nm_ok ci hc) hC.2.2.2.1 hC.2.2.2.2.2.2.2.2.1 hW.1 hW.2.1 hW.2.2.1 a (bv_obj hg) (bv_cl_at ci hc) k hk (hC.2.2.2.2.1 _ hl1 rfl) (fun _ h9 => h9) hfin (bv_ty_ok ci hc k hk) (bv_ref_ok hr).1 (bv_ref_ok hr).2 (by rw [List.length_map, List.length_range]; exact hk) hd (fun H1 locs1 hP hD hS => ?_)
  rw [bv_ws_putR (bv_isC_spec hg).2 hr] at hP hD
  exact kk l p e R s m args below meth c H1 locs1 ad0 ad ca0 ca D hC hR hag ⟨hP, hD, hS, hW.2.2.2.1, bv_mb_up hW.2.2.2.2 hq⟩ ls hl
theorem ev_putRF {a ci k idx q : Nat} (hf : bv_FL M.1 idx ci k) (hd : decode M.2.1 pc = .ok (.putfield idx, 3)) (hg : bv_isC n a ci = true) (hr : bv_isref (bv_fty ci k) = true) (hfin : (bv_T ci k).2.2.2 = true) (hin : M.2.2.2.2 = true) (ho : (bv_T ci k).1 = M.1) (hq : q < n) (kk : bv_Ev M X d n0 n1 Q (pc + 3) L st n (bv_upr mr a k (some q)) mi) : bv_Ev M X d n0 n1 Q pc L (.ref q :: .ref a :: st) n mr mi := by
  intro l p e R s m args below meth c H locs ad0 ad ca0 ca D hC hR hag hW ls hl
  obtain ⟨⟨hc, hk⟩, hl1⟩ := hf
  refine va_putF (v := .ref (ad q)) (ty := bv_fty ci k) hC.1 hC.2.1 (bv_hts hC hc) (fun _ h => h) (bv_fty ci) (bv_ty_ok ci hc) (bv_nm_ok ci hc) hC.2.2.2.1 hC.2.2.2.2.2.2.2.2.1 hW.1 hW.2.1 hW.2.2.1 a (bv_obj hg) (bv_cl_at ci hc) k hk (hC.2.2.2.2.1 _ hl1 rfl) (fun _ h9 => h9) hfin (hC.2.2.2.2.2.2.2.1 hin) ho (bv_ty_ok ci hc k hk) (bv_ref_ok hr).1 (bv_ref_ok hr).2 (by rw [List.length_map, List.length_range]; exact hk) hd (fun H1 locs1 hP hD hS => ?_)
  rw [bv_ws_putR (bv_isC_spec hg).2 hr] at hP hD
  exact kk l p e R s m args below meth c H1 locs1 ad0 ad ca0 ca D hC hR hag ⟨hP, hD, hS, hW.2.2.2.1, bv_mb_up hW.2.2.2.2 hq⟩ ls hl
theorem ev_iald {a N : Nat} {i : Int32} (hd : decode M.2.1 pc = .ok (.iaload, 1)) (hg : bv_isA n a 0 N = true) (hi : bv_in i N = true) (kk : bv_Ev M X d n0 n1 Q (pc + 1) L (.int (mi a i.toNatClampNeg) :: st) n mr mi) : bv_Ev M X d n0 n1 Q pc L (.int i :: .ref a :: st) n mr mi := by
  intro l p e R s m args below meth c H locs ad0 ad ca0 ca D hC hR hag hW ls hl
  obtain ⟨h1, ty, h2, h3⟩ := bv_isA_spec hg
  obtain rfl := bv_kd0 h3
  exact va_iald hC.1 hC.2.1 (bv_Kt hC.2.2.2.2.2.2.2.2.1 hW.2.2.2.1 h1 h2) hW.1 a 0 (bv_arr h1 h2 rfl) rfl (bv_in_vp hi) hd (kk l p e R s m args below meth c H locs ad0 ad ca0 ca D hC hR hag hW ls hl)
theorem ev_bald {a N : Nat} {i : Int32} (hd : decode M.2.1 pc = .ok (.baload, 1)) (hg : bv_isA n a 1 N = true) (hi : bv_in i N = true) (kk : bv_Ev M X d n0 n1 Q (pc + 1) L (.int (mi a i.toNatClampNeg) :: st) n mr mi) : bv_Ev M X d n0 n1 Q pc L (.int i :: .ref a :: st) n mr mi := by
  intro l p e R s m args below meth c H locs ad0 ad ca0 ca D hC hR hag hW ls hl
  obtain ⟨h1, ty, h2, h3⟩ := bv_isA_spec hg
  obtain rfl := bv_kd1 h3
  exact va_bald hC.1 hC.2.1 (bv_Kt hC.2.2.2.2.2.2.2.2.1 hW.2.2.2.1 h1 h2) hW.1 a 0 (bv_arr h1 h2 rfl) rfl (bv_in_vp hi) hd (kk l p e R s m args below meth c H locs ad0 ad ca0 ca D hC hR hag hW ls hl)
theorem ev_aald {a N : Nat} {i : Int32} (q : Nat) (hd : decode M.2.1 pc = .ok (.aaload, 1)) (hg : bv_isA n a 2 N = true) (hi : bv_in i N = true) (hq : mr a i.toNatClampNeg = some q) (kk : bv_Ev M X d n0 n1 Q (pc + 1) L (.ref q :: st) n mr mi) : bv_Ev M X d n0 n1 Q pc L (.int i :: .ref a :: st) n mr mi := by
  intro l p e R s m args below meth c H locs ad0 ad ca0 ca D hC hR hag hW ls hl
  obtain ⟨h1, ty, h2, h3⟩ := bv_isA_spec hg
  obtain ⟨C, rfl⟩ := bv_kd2 h3
  refine va_aldq hC.1 hC.2.1 (bv_Kt hC.2.2.2.2.2.2.2.2.1 hW.2.2.2.1 h1 h2) hW.1 a 0 (bv_arq h1 h2 rfl) rfl (bv_in_vp hi) hd ?_
  rw [hq]
  exact kk l p e R s m args below meth c H locs ad0 ad ca0 ca D hC hR hag hW ls hl
theorem ev_iast {a N : Nat} {i v : Int32} (hd : decode M.2.1 pc = .ok (.iastore, 1)) (hg : bv_isA n a 0 N = true) (hi : bv_in i N = true) (kk : bv_Ev M X d n0 n1 Q (pc + 1) L st n mr (bv_up mi a i.toNatClampNeg v)) : bv_Ev M X d n0 n1 Q pc L (.int v :: .int i :: .ref a :: st) n mr mi := by
  intro l p e R s m args below meth c H locs ad0 ad ca0 ca D hC hR hag hW ls hl
  obtain ⟨h1, ty, h2, h3⟩ := bv_isA_spec hg
  obtain rfl := bv_kd0 h3
  refine va_iast hC.1 hC.2.1 (bv_Kt hC.2.2.2.2.2.2.2.2.1 hW.2.2.2.1 h1 h2) hW.1 hW.2.1 hW.2.2.1 a 0 (bv_arr h1 h2 rfl) rfl (bv_in_vp hi) hd (fun H1 locs1 hP hD hS => ?_)
  rw [bv_ws_iast h2 rfl] at hP hD
  exact kk l p e R s m args below meth c H1 locs1 ad0 ad ca0 ca D hC hR hag ⟨hP, hD, hS, hW.2.2.2.1, hW.2.2.2.2⟩ ls hl
theorem ev_bast {a N : Nat} {i v : Int32} (hd : decode M.2.1 pc = .ok (.bastore, 1)) (hg : bv_isA n a 1 N = true) (hi : bv_in i N = true) (kk : bv_Ev M X d n0 n1 Q (pc + 1) L st n mr (bv_up mi a i.toNatClampNeg v.toInt8.toInt32)) : bv_Ev M X d n0 n1 Q pc L (.int v :: .int i :: .ref a :: st) n mr mi := by
  intro l p e R s m args below meth c H locs ad0 ad ca0 ca D hC hR hag hW ls hl
  obtain ⟨h1, ty, h2, h3⟩ := bv_isA_spec hg
  obtain rfl := bv_kd1 h3
  refine va_bast hC.1 hC.2.1 (bv_Kt hC.2.2.2.2.2.2.2.2.1 hW.2.2.2.1 h1 h2) hW.1 hW.2.1 hW.2.2.1 a 0 (bv_arr h1 h2 rfl) rfl (bv_in_vp hi) hd (fun H1 locs1 hP hD hS => ?_)
  rw [vp_nar_byte, bv_ws_iast h2 rfl] at hP hD
  exact kk l p e R s m args below meth c H1 locs1 ad0 ad ca0 ca D hC hR hag ⟨hP, hD, hS, hW.2.2.2.1, hW.2.2.2.2⟩ ls hl
theorem ev_aast {a N q ci : Nat} {i : Int32} (hd : decode M.2.1 pc = .ok (.aastore, 1)) (h1 : a < n) (h2 : bv_sh a = .inl (.object (bv_R ci), N)) (hc : ci < 9) (hq : bv_isC n q ci = true) (hi : bv_in i N = true) (kk : bv_Ev M X d n0 n1 Q (pc + 1) L st n (bv_upr mr a i.toNatClampNeg (some q)) mi) : bv_Ev M X d n0 n1 Q pc L (.ref q :: .int i :: .ref a :: st) n mr mi := by
  intro l p e R s m args below meth c H locs ad0 ad ca0 ca D hC hR hag hW ls hl
  refine va_astq hC.1 hC.2.1 (bv_Kt hC.2.2.2.2.2.2.2.2.1 hW.2.2.2.1 h1 h2) hW.1 hW.2.1 hW.2.2.1 a 0 q ci (r := (bv_R ci, bv_T ci, bv_nf ci)) (bv_arq h1 h2 rfl) rfl (bv_obj hq) (bv_cl_at ci hc) (bv_in_vp hi) hd (fun H1 locs1 hP hD hS => ?_)
  rw [bv_ws_aast h2 rfl] at hP hD
  exact kk l p e R s m args below meth c H1 locs1 ad0 ad ca0 ca D hC hR hag ⟨hP, hD, hS, hW.2.2.2.1, bv_mb_up hW.2.2.2.2 (bv_isC_spec hq).1⟩ ls hl
theorem ev_alen {a kd N : Nat} (v : Int32) (hd : decode M.2.1 pc = .ok (.arraylength, 1)) (hg : bv_isA n a kd N = true) (hkd : kd < 2) (hv : Int32.ofNat N = v) (kk : bv_Ev M X d n0 n1 Q (pc + 1) L (.int v :: st) n mr mi) : bv_Ev M X d n0 n1 Q pc L (.ref a :: st) n mr mi := by
  intro l p e R s m args below meth c H locs ad0 ad ca0 ca D hC hR hag hW ls hl
  obtain ⟨h1, ty, h2, h3⟩ := bv_isA_spec hg
  have hr : bv_isref ty = false := by
    cases ty <;> simp [bv_kd] at h3 <;> first | rfl | omega
  exact va_alen hC.1 hC.2.1 (bv_Kt hC.2.2.2.2.2.2.2.2.1 hW.2.2.2.1 h1 h2) hW.1 a 0 (bv_arr h1 h2 hr) rfl hv hd (kk l p e R s m args below meth c H locs ad0 ad ca0 ca D hC hR hag hW ls hl)
/-- arrays from outside: the class's statics, and the script -/
theorem ev_xld {j N : Nat} {f : Nat → Int32} {i : Int32} (hd : decode M.2.1 pc = .ok (.iaload, 1)) (hx : X j = some (.int, N, f)) (hi : bv_in i N = true) (kk : bv_Ev M X d n0 n1 Q (pc + 1) L (.int (f i.toNatClampNeg) :: st) n mr mi) : bv_Ev M X d n0 n1 Q pc L (.int i :: .ref (1000 + j) :: st) n mr mi := by
  intro l p e R s m args below meth c H locs ad0 ad ca0 ca D hC hR hag hW ls hl
  have hX := hC.2.2.2.2.2.2.2.2.2.1.1 j .int N f hx
  rw [← (hag.2 (1000 + j) (Or.inr (by omega))).1] at hX
  exact va_ti hC.1 hC.2.1 hX hW.2.2.1 (bv_in_vp hi) rfl hd (kk l p e R s m args below meth c H locs ad0 ad ca0 ca D hC hR hag hW ls hl)
theorem ev_xldc {j N : Nat} {f : Nat → Int32} {i : Int32} (hd : decode M.2.1 pc = .ok (.caload, 1)) (hx : X j = some (.char, N, f)) (hi : bv_in i N = true) (kk : bv_Ev M X d n0 n1 Q (pc + 1) L (.int (f i.toNatClampNeg) :: st) n mr mi) : bv_Ev M X d n0 n1 Q pc L (.int i :: .ref (1000 + j) :: st) n mr mi := by
  intro l p e R s m args below meth c H locs ad0 ad ca0 ca D hC hR hag hW ls hl
  have hX := hC.2.2.2.2.2.2.2.2.2.1.1 j .char N f hx
  rw [← (hag.2 (1000 + j) (Or.inr (by omega))).1] at hX
  exact va_tc hC.1 hC.2.1 hX hW.2.2.1 (bv_in_vp hi) rfl hd (kk l p e R s m args below meth c H locs ad0 ad ca0 ca D hC hR hag hW ls hl)
theorem ev_xlen {j N : Nat} {f : Nat → Int32} (v : Int32) (hd : decode M.2.1 pc = .ok (.arraylength, 1)) (hx : X j = some (.int, N, f)) (hv : Int32.ofNat N = v) (kk : bv_Ev M X d n0 n1 Q (pc + 1) L (.int v :: st) n mr mi) : bv_Ev M X d n0 n1 Q pc L (.ref (1000 + j) :: st) n mr mi := by
  intro l p e R s m args below meth c H locs ad0 ad ca0 ca D hC hR hag hW ls hl
  have hX := hC.2.2.2.2.2.2.2.2.2.1.1 j .int N f hx
  rw [← (hag.2 (1000 + j) (Or.inr (by omega))).1] at hX
  exact va_tlen hC.1 hC.2.1 hX hW.2.2.1 hv hd (kk l p e R s m args below meth c H locs ad0 ad ca0 ca D hC hR hag hW ls hl)
theorem ev_gets {j idx : Nat} (hd : decode M.2.1 pc = .ok (.getstatic idx, 3)) (hj : j < 3) (hk : Cond.fieldLinkNest M.1 idx RX7 (bv_sn j) (bv_sd j) RX7 ∈ lw_tbl) (kk : bv_Ev M X d n0 n1 Q (pc + 3) L (.ref (1000 + j) :: st) n mr mi) : bv_Ev M X d n0 n1 Q pc L st n mr mi := by
  intro l p e R s m args below meth c H locs ad0 ad ca0 ca D hC hR hag hW ls hl
  have hX := hC.2.2.2.2.2.2.2.2.2.1.2 j hj
  rw [← (hag.2 (1000 + j) (Or.inr (by omega))).1] at hX
  exact va_getsN hC.1 hC.2.1 hX hW.2.2.1 hC.2.2.2.1 (va_Nw.use rfl (hC.2.2.2.2.2.2.2.2.2.2.1 _ hk rfl)) (fun _ h9 => h9) hd (kk l p e R s m args below meth c H locs ad0 ad ca0 ca D hC hR hag hW ls hl)
theorem ev_copy {a b kd N0 N1 idx : Nat} {sp dp m : Int32} (hd : decode M.2.1 pc = .ok (.invokestatic idx, 3)) (hlk : Cond.methodLink M.1 idx arraycopyName ∈ lw_tbl) (hn2 : Cond.native arraycopyName ∈ lw_tbl) (hs2 : Cond.static arraycopyName ∈ lw_tbl) (hi2 : Cond.initialized "java/lang/System" ∈ lw_tbl)
    (hkd : kd < 2) (hg0 : bv_isA n a kd N0 = true) (hg1 : bv_isA n b kd N1 = true) (h1 : ¬ sp < 0) (h2 : ¬ dp < 0) (h3 : ¬ m < 0) (h4 : sp.toNatClampNeg + m.toNatClampNeg ≤ N0) (h5 : dp.toNatClampNeg + m.toNatClampNeg ≤ N1) (hfit : kd = 1 → ∀ i, i < m.toNatClampNeg → fits .byte (.int (mi a (sp.toNatClampNeg + i))) = true)
    (hdp : 1 ≤ d) (hst : (st.map fun v => v.category).sum ≤ 8)
    (kk : bv_Ev M X d n0 n1 Q (pc + 3) L st n mr (bv_cp mi a b sp.toNatClampNeg dp.toNatClampNeg m.toNatClampNeg)) : bv_Ev M X d n0 n1 Q pc L (.int m :: .int dp :: .ref b :: .int sp :: .ref a :: st) n mr mi := by
  intro l p e R s m2 args below meth c H locs ad0 ad ca0 ca D hC hR hag hW ls hl
  obtain ⟨p1, ty, p2, p3⟩ := bv_isA_spec hg0
  obtain ⟨q1, ty', q2, q3⟩ := bv_isA_spec hg1
  have hty : ty' = ty := by
    match kd, hkd with
    | 0, _ => rw [bv_kd0 p3, bv_kd0 q3]
    | 1, _ => rw [bv_kd1 p3, bv_kd1 q3]
  subst hty
  have hr : bv_isref ty' = false := by
    cases ty' <;> simp [bv_kd] at p3 <;> first | rfl | omega
  have hrk : refKind ty' = false := by
    cases ty' <;> simp [bv_isref] at hr <;> rfl
  have hK : va_K D vwCl [(ca a, ty'), (ca b, ty')] s := (bv_Kt hC.2.2.2.2.2.2.2.2.1 hW.2.2.2.1 p1 p2).app (t2 := [(ca b, ty')]) (bv_Kt hC.2.2.2.2.2.2.2.2.1 hW.2.2.2.1 q1 q2)
  have hcat : ((st.map (bv_cv ad)).map fun v => v.category).sum = (st.map fun v => v.category).sum := by
    rw [List.map_map]
    congr 1
    apply List.map_congr_left
    intro v _
    exact bv_cv_cat ad v
  refine va_copyi (ty := ty') hC.1 hC.2.1 (hC.2.2.1.trans hl.1.symm) hC.2.2.2.1 (hC.2.2.2.2.1 _ hlk rfl) (hC.2.2.2.2.1 _ hn2 rfl) (hC.2.2.2.2.1 _ hs2 rfl) (hC.2.2.2.2.1 _ hi2 rfl) hK hW.1 hW.2.1 hW.2.2.1 a b 0 1 (bv_arr p1 p2 hr) (bv_arr q1 q2 hr) rfl rfl hrk h1 h2 h3 h4 h5 ?_ (Nat.le_trans hdp hR.1) ?_ hd (fun H1 locs1 hP hD hS => ?_)
  · intro i hi
    match kd, hkd with
    | 0, _ => rw [bv_kd0 p3]; rfl
    | 1, _ => rw [bv_kd1 p3]; exact hfit rfl i hi
  · rw [hcat]
    have h9 := hR.2.2.2
    have : nativeFrameWords "java/lang/System" "arraycopy" 5 + 11 ≤ 32 := by decide +kernel
    omega
  · rw [bv_ws_copy q2 hr] at hP hD
    exact kk l p e R s m2 args below meth c H1 locs1 ad0 ad ca0 ca D hC hR hag ⟨hP, hD, hS, hW.2.2.2.1, hW.2.2.2.2⟩ ls hl
end RULES2
end
section
-- ===== cells that are made =====
def bv_okv (n : Nat) (v : Value) : Bool := match v with
  | .ref a => Nat.blt a n || Nat.ble 1000 a
  | _ => true
def bv_oko (n : Nat) (o : Option Value) : Bool := match o with
  | some v => bv_okv n v
  | none => true
theorem bv_cv_ok {ad ad' : Nat → Nat} {n : Nat} {v : Value} (h : bv_okv n v = true) (he : ∀ k, (k < n ∨ 1000 ≤ k) → ad' k = ad k) : bv_cv ad' v = bv_cv ad v := by
  cases v with
  | ref a =>
    simp only [bv_okv, Bool.or_eq_true] at h
    simp only [bv_cv]
    rw [he a (h.elim (fun q => Or.inl (Nat.blt_eq.mp q)) (fun q => Or.inr (Nat.le_of_ble_eq_true q)))]
  | _ => rfl
theorem bv_st_ok {ad ad' : Nat → Nat} {n : Nat} {st : List Value} (h : st.all (bv_okv n) = true) (he : ∀ k, (k < n ∨ 1000 ≤ k) → ad' k = ad k) : st.map (bv_cv ad') = st.map (bv_cv ad) :=
  List.map_congr_left fun v hv => bv_cv_ok (List.all_eq_true.mp h v hv) he
theorem bv_L_ok {ad ad' : Nat → Nat} {n nL : Nat} {ls : Array Slot} {L : List (Option Value)} (h : L.all (bv_oko n) = true) (he : ∀ k, (k < n ∨ 1000 ≤ k) → ad' k = ad k) (hl : bv_L ad ls nL L) : bv_L ad' ls nL L := by
  refine ⟨hl.1, hl.2.1, fun q hq => ?_⟩
  obtain ⟨i, w⟩ := q
  obtain ⟨v, hv, rfl⟩ := bv_lv_mem.mp hq
  have h1 : bv_oko n (some v) = true := List.all_eq_true.mp h (some v) (List.mem_of_getElem? hv)
  rw [bv_cv_ok (v := v) h1 he]
  exact bv_L_at hl hv
theorem bv_sz_mono {a b : Nat} (h : a ≤ b) : bv_sz a ≤ bv_sz b := by
  induction h with
  | refl => exact Nat.le_refl _
  | step _ ih => exact Nat.le_trans ih (Nat.le_add_right _ _)
theorem bv_cell_ad {ad ad' : Nat → Nat} {ca ca' : Nat → ClassId} {n k : Nat} {mr : bv_Rfs} {mi : bv_Mem} {x : bv_Shp} (hb : bv_mb n mr) (he : ∀ k, (k < n ∨ 1000 ≤ k) → ad' k = ad k) (hc : ca' k = ca k) : bv_cell ad' ca' mr mi k x = bv_cell ad ca mr mi k x := by
  have hm : ∀ j, (mr k j).map ad' = (mr k j).map ad := by
    intro j
    cases hx : mr k j with
    | none => rfl
    | some q => simp only [Option.map_some]; rw [he q (Or.inl (hb k j q hx))]
  cases x with
  | inl y => simp [bv_cell, hm, hc]
  | inr c => simp [bv_cell, hm]
theorem bv_ws_grow {ad ad' : Nat → Nat} {ca ca' : Nat → ClassId} {n : Nat} {mr : bv_Rfs} {mi : bv_Mem} (hb : bv_mb n mr) (he : ∀ k, (k < n ∨ 1000 ≤ k) → ad' k = ad k) (hc : ∀ k, k < n → ca' k = ca k) : bv_ws ad' ca' (n + 1) mr mi = bv_ws ad ca n mr mi ++ [(ad' n, bv_cell ad' ca' mr mi n (bv_sh n))] := by
  unfold bv_ws
  rw [List.range_succ, List.map_append]
  congr 1
  apply List.map_congr_left
  intro k hk
  have hk := List.mem_range.mp hk
  rw [he k (Or.inl hk), bv_cell_ad hb he (hc k hk)]
theorem bv_dflt : ∀ ci, ci < 9 → ∀ k, k < bv_nf ci → defaultValue (bv_fty ci k) = if bv_isref (bv_fty ci k) = true then .null else .int 0 := by decide +kernel
section RULES3
variable {M : bv_M} {X : bv_Xt} {d n0 n1 : Nat} {Q : Option Value → bv_Rfs → bv_Mem → Prop} {pc : Nat} {L : List (Option Value)} {st : List Value} {n : Nat} {mr : bv_Rfs} {mi : bv_Mem}
theorem bv_ag_grow {ad0 ad ad' : Nat → Nat} {ca0 ca ca' : Nat → ClassId} (h : bv_ag n0 n1 ad0 ad ca0 ca) (h0 : n0 ≤ n) (h1 : n + 1 ≤ n1) (he : ∀ k, (k < n ∨ 1000 ≤ k) → ad' k = ad k) (hc : ∀ k, (k < n ∨ 1000 ≤ k) → ca' k = ca k) : bv_ag n0 n1 ad0 ad' ca0 ca' :=
  ⟨fun e => absurd e (by omega), fun k hk => ⟨(he k (hk.imp (fun q => by omega) id)).trans (h.2 k hk).1, (hc k (hk.imp (fun q => by omega) id)).trans (h.2 k hk).2⟩⟩
theorem ev_new {ci idx : Nat} (hd : decode M.2.1 pc = .ok (.new idx, 3)) (hs : bv_sh n = .inr ci) (hc : ci < 9) (hcl : Cond.classLink M.1 idx (bv_R ci) ∈ lw_tbl) (hin : Cond.instantiable (bv_R ci) (bv_nf ci) ∈ lw_tbl) (hini : Cond.initialized (bv_R ci) ∈ lw_tbl) (h0 : n0 ≤ n) (h1 : n + 1 ≤ n1) (hk : n < 1000) (hf1 : ∀ j, mr n j = none) (hf2 : ∀ j, mi n j = 0) (hL : L.all (bv_oko n) = true) (hst : st.all (bv_okv n) = true)
    (kk : bv_Ev M X d n0 n1 Q (pc + 3) L (.ref n :: st) (n + 1) mr mi) : bv_Ev M X d n0 n1 Q pc L st n mr mi := by
  intro l p e R s m args below meth c H locs ad0 ad ca0 ca D hC hR hag hW ls hl
  have hm1 := bv_sz_mono h1
  have hm0 := bv_sz_mono h0
  have hsz : bv_sz (n + 1) = bv_sz n + bv_nf ci := by simp [bv_sz, hs, bv_slots]
  refine va_new (ci := ci) (fs := (List.range (bv_nf ci)).map (fun j => if bv_isref (bv_fty ci j) = true then Value.null else .int 0)) hC.1 hC.2.1 (bv_hts hC hc) (fun _ h => h) (bv_fty ci) (bv_ty_ok ci hc) hC.2.2.2.1 (hC.2.2.2.2.1 _ hcl rfl) (hC.2.2.2.2.1 _ hin rfl) (hC.2.2.2.2.1 _ hini rfl) hC.2.2.2.2.2.2.2.2.1 hW.1 hW.2.1 hW.2.2.1 (fun q h => Or.inr h) (bv_cl_at ci hc) (fun j hj => ?_) (by have h9 := hR.2.1; omega) (by have h9 := hR.2.2.1; omega) hd (fun q H1 hP hD hS => ?_)
  · rw [bv_dflt ci hc j hj]
    unfold vp_V
    rw [List.getD_eq_getElem?_getD, List.getElem?_map, List.getElem?_range hj]
    rfl
  · have he : ∀ k, (k < n ∨ 1000 ≤ k) → (fun k => if k = n then q else ad k) k = ad k := fun k hk2 => by
      simp only
      rw [if_neg (by omega)]
    have hws : bv_ws (fun k => if k = n then q else ad k) ca (n + 1) mr mi = bv_ws ad ca n mr mi ++ [(q, .inr (ci, (List.range (bv_nf ci)).map (fun j => if bv_isref (bv_fty ci j) = true then Value.null else .int 0)))] := by
      rw [bv_ws_grow hW.2.2.2.2 he (fun _ _ => rfl), hs]
      simp [bv_cell, hf1, hf2, va_rf]
    rw [← hws] at hP hD
    have e1 : n + 1 - n0 = n - n0 + 1 := by omega
    have e2 : bv_sz (n + 1) - bv_sz n0 = bv_sz n - bv_sz n0 + bv_nf ci := by omega
    have k := kk l p e R s m args below meth c H1 locs ad0 (fun k => if k = n then q else ad k) ca0 ca D hC hR (bv_ag_grow hag h0 h1 he (fun _ _ => rfl)) ⟨hP, hD, hS, fun k hk ty N hs2 => by
        rcases Nat.lt_or_ge k n with h | h
        · exact hW.2.2.2.1 k h ty N hs2
        · have : k = n := by omega
          subst this
          rw [hs] at hs2
          exact absurd hs2 (by simp), fun k j q2 h => Nat.lt_succ_of_lt (hW.2.2.2.2 k j q2 h)⟩ ls (bv_L_ok hL he hl)
    rw [e1, e2] at k
    simp only [List.map_cons, bv_cv, if_true] at k
    rw [bv_st_ok hst he] at k
    exact k
theorem ev_newa {at_ : ArrayType} {ty : FieldType} {N : Nat} {v : Int32} (hd : decode M.2.1 pc = .ok (.newarray at_, 2)) (hty : newarray.typeOf at_ = ty) (hk2 : bv_kd ty < 2) (hs : bv_sh n = .inl (ty, N)) (harr : Cond.arrayClass (newarray.typeOf at_) ∈ lw_tbl) (hv : ¬ v < 0) (hN : v.toNatClampNeg = N) (hN2 : N ≤ 1000) (h0 : n0 ≤ n) (h1 : n + 1 ≤ n1) (hk : n < 1000) (hf2 : ∀ j, mi n j = 0) (hL : L.all (bv_oko n) = true) (hst : st.all (bv_okv n) = true)
    (kk : bv_Ev M X d n0 n1 Q (pc + 2) L (.ref n :: st) (n + 1) mr mi) : bv_Ev M X d n0 n1 Q pc L (.int v :: st) n mr mi := by
  intro l p e R s m args below meth c H locs ad0 ad ca0 ca D hC hR hag hW ls hl
  have hm1 := bv_sz_mono h1
  have hm0 := bv_sz_mono h0
  have hsz : bv_sz (n + 1) = bv_sz n + N := by simp [bv_sz, hs, bv_slots]
  have hr : bv_isref ty = false := by
    cases ty <;> simp [bv_kd] at hk2 <;> rfl
  have hcb : componentBytes ty ≤ 8 := by
    cases ty <;> simp [bv_kd] at hk2 <;> decide
  have hdv : defaultValue ty = .int 0 := by
    cases ty <;> simp [bv_kd] at hk2 <;> rfl
  refine va_newa (ty := ty) (a0 := (N, .inl (fun _ => 0))) (N' := N) hC.1 hC.2.1 (hC.2.2.2.2.1 _ harr rfl) hty hC.2.2.2.2.2.2.2.2.1 hW.1 hW.2.1 hW.2.2.1 (fun q h => Or.inr h) (fun cA => by rw [hdv]; rfl) hv hN (Nat.le_trans (Nat.mul_le_mul hN2 hcb) (by decide)) (by have h9 := hR.2.1; omega) (by have h9 := hR.2.2.1; omega) hd (fun q cA H1 hK hP hD hS => ?_)
  have he : ∀ k, (k < n ∨ 1000 ≤ k) → (fun k => if k = n then q else ad k) k = ad k := fun k hk2 => by
    simp only
    rw [if_neg (by omega)]
  have hec : ∀ k, (k < n ∨ 1000 ≤ k) → (fun k => if k = n then cA else ca k) k = ca k := fun k hk2 => by
    simp only
    rw [if_neg (by omega)]
  have hws : bv_ws (fun k => if k = n then q else ad k) (fun k => if k = n then cA else ca k) (n + 1) mr mi = bv_ws ad ca n mr mi ++ [(q, .inl (cA, N, .inl (fun _ => 0)))] := by
    have hz : mi n = fun _ => 0 := funext hf2
    rw [bv_ws_grow hW.2.2.2.2 he (fun k hk => hec k (Or.inl hk)), hs]
    simp [bv_cell, hz, hr]
  rw [← hws] at hP hD
  have e1 : n + 1 - n0 = n - n0 + 1 := by omega
  have e2 : bv_sz (n + 1) - bv_sz n0 = bv_sz n - bv_sz n0 + N := by omega
  have k := kk l p e R s m args below meth c H1 locs ad0 (fun k => if k = n then q else ad k) ca0 (fun k => if k = n then cA else ca k) D hC hR (bv_ag_grow hag h0 h1 he hec) ⟨hP, hD, hS, fun k hk ty2 N2 hs2 => by
      rcases Nat.lt_or_ge k n with h | h
      · rw [hec k (Or.inl h)]
        exact hW.2.2.2.1 k h ty2 N2 hs2
      · have : k = n := by omega
        subst this
        rw [hs] at hs2
        cases hs2
        simp only [if_true]
        exact hK.2 0 (cA, ty) rfl, fun k j q2 h => Nat.lt_succ_of_lt (hW.2.2.2.2 k j q2 h)⟩ ls (bv_L_ok hL he hl)
  rw [e1, e2] at k
  simp only [List.map_cons, bv_cv, if_true] at k
  rw [bv_st_ok hst he] at k
  exact k
theorem ev_newq {C : String} {idx N : Nat} {v : Int32} (hd : decode M.2.1 pc = .ok (.anewarray idx, 3)) (hs : bv_sh n = .inl (.object C, N)) (hcl : Cond.classLink M.1 idx C ∈ lw_tbl) (hov : Cond.arrayOver (.object C) ∈ lw_tbl) (hv : ¬ v < 0) (hN : v.toNatClampNeg = N) (hN2 : N ≤ 1000) (h0 : n0 ≤ n) (h1 : n + 1 ≤ n1) (hk : n < 1000) (hf1 : ∀ j, mr n j = none) (hL : L.all (bv_oko n) = true) (hst : st.all (bv_okv n) = true)
    (kk : bv_Ev M X d n0 n1 Q (pc + 3) L (.ref n :: st) (n + 1) mr mi) : bv_Ev M X d n0 n1 Q pc L (.int v :: st) n mr mi := by
  intro l p e R s m args below meth c H locs ad0 ad ca0 ca D hC hR hag hW ls hl
  have hm1 := bv_sz_mono h1
  have hm0 := bv_sz_mono h0
  have hsz : bv_sz (n + 1) = bv_sz n + N := by simp [bv_sz, hs, bv_slots]
  refine va_newq (N' := N) hC.1 hC.2.1 hC.2.2.2.1 (hC.2.2.2.2.1 _ hcl rfl) (hC.2.2.2.2.2.2.2.2.2.2.2 C hov) hC.2.2.2.2.2.2.2.2.1 hW.1 hW.2.1 hW.2.2.1 (fun q h => Or.inr h) hv hN (Nat.le_trans (Nat.mul_le_mul hN2 (Nat.le_refl 4)) (by decide)) (by have h9 := hR.2.1; omega) (by have h9 := hR.2.2.1; omega) hd (fun q cA H1 hK hP hD hS => ?_)
  have he : ∀ k, (k < n ∨ 1000 ≤ k) → (fun k => if k = n then q else ad k) k = ad k := fun k hk2 => by
    simp only
    rw [if_neg (by omega)]
  have hec : ∀ k, (k < n ∨ 1000 ≤ k) → (fun k => if k = n then cA else ca k) k = ca k := fun k hk2 => by
    simp only
    rw [if_neg (by omega)]
  have hws : bv_ws (fun k => if k = n then q else ad k) (fun k => if k = n then cA else ca k) (n + 1) mr mi = bv_ws ad ca n mr mi ++ [(q, .inl (cA, N, .inr (.inr (.inr (.inr (fun _ => none))))))] := by
    rw [bv_ws_grow hW.2.2.2.2 he (fun k hk => hec k (Or.inl hk)), hs]
    simp [bv_cell, hf1, bv_isref]
  rw [← hws] at hP hD
  have e1 : n + 1 - n0 = n - n0 + 1 := by omega
  have e2 : bv_sz (n + 1) - bv_sz n0 = bv_sz n - bv_sz n0 + N := by omega
  have k := kk l p e R s m args below meth c H1 locs ad0 (fun k => if k = n then q else ad k) ca0 (fun k => if k = n then cA else ca k) D hC hR (bv_ag_grow hag h0 h1 he hec) ⟨hP, hD, hS, fun k hk ty2 N2 hs2 => by
      rcases Nat.lt_or_ge k n with h | h
      · rw [hec k (Or.inl h)]
        exact hW.2.2.2.1 k h ty2 N2 hs2
      · have : k = n := by omega
        subst this
        rw [hs] at hs2
        cases hs2
        simp only [if_true]
        exact hK.2 0 (cA, .object C) rfl, fun k j q2 h => Nat.lt_succ_of_lt (hW.2.2.2.2 k j q2 h)⟩ ls (bv_L_ok hL he hl)
  rw [e1, e2] at k
  simp only [List.map_cons, bv_cv, if_true] at k
  rw [bv_st_ok hst he] at k
  exact k
theorem bv_cat_sum (ad : Nat → Nat) (st : List Value) : ((st.map (bv_cv ad)).map fun v => v.category).sum = (st.map fun v => v.category).sum := by
  rw [List.map_map]
  congr 1
  apply List.map_congr_left
  intro v _
  exact bv_cv_cat ad v
theorem ev_objInit {a idx : Nat} (hd : decode M.2.1 pc = .ok (.invokespecial idx, 3)) (hlk : Cond.methodLink M.1 idx objectInit ∈ lw_tbl) (hin : Cond.instanceMethod objectInit ∈ lw_tbl) (hco : Cond.code objectInit ⟨#[0xb1]⟩ 1 none ∈ lw_tbl) (hdp : 1 ≤ d) (hst : (st.map fun v => v.category).sum ≤ 8) (kk : bv_Ev M X d n0 n1 Q (pc + 3) L st n mr mi) : bv_Ev M X d n0 n1 Q pc L (.ref a :: st) n mr mi := by
  intro l p e R s m args below meth c H locs ad0 ad ca0 ca D hC hR hag hW ls hl
  have hro := lv_room (m := m) (pc := pc) (ls := ls) (rest := (Value.ref a :: st).map (bv_cv ad)) (st := st.map (bv_cv ad)) (by rw [bv_cat_sum]; exact hst)
  exact W.objInit (rest := st.map (bv_cv ad)) hC.1 hC.2.1 hC.2.2.2.1 (hC.2.2.2.2.1 _ hlk rfl) (hC.2.2.2.2.1 _ hin rfl) (hC.2.2.2.2.1 _ hco rfl) rfl (hl.1.trans hC.2.2.1.symm) rfl hd (Nat.le_trans hdp hR.1) (by have h9 := hR.2.2.2; omega) (kk l p e R s m args below meth c H locs ad0 ad ca0 ca D hC hR hag hW ls hl)
-- ===== calls =====
theorem bv_blind {X : bv_Xt} {D : va_G} {ad : Nat → Nat} {ca : Nat → ClassId} {sz : Nat} {av : List Value} : FrameBlind (va_Pc av (bv_U X D ad ca n mr mi sz)) := by
  intro a U g mk q
  obtain ⟨q0, q1, qK, qA, qP, qD, qX, qb, qn⟩ := q
  have hv : U.vm.Alike (U.calling g mk a).vm := Vm.Alike.refl U.vm
  exact ⟨q0, q1, va_K.moved (u := U) (U := U.calling g mk a) hv qK, bv_AC.moved (u := U) hv qA, qP, qD, bv_X.moved (u := U) (U := U.calling g mk a) hv qX, qb, bv_nw.same (u := U) (U := U.calling g mk a) rfl qn⟩
theorem bv_pre {X' : bv_Xt} {p : Program} {s : State} {m : MethodId} {args : Array Value} {meth : Method} {c : Code} {H : Heap} {locs : List Loc} {ad0 ad : Nat → Nat} {ca0 ca : Nat → ClassId} {D : va_G} (hC : bv_C M X n0 p s m args meth c ad0 D) (hag : bv_ag n0 n1 ad0 ad ca0 ca) (hW : bv_W D ad ca n mr mi s (bv_A ad0 n0 s.heap.size) H locs) (hX : ∀ j v, X' j = some v → X j = some v) {U : State} (hU : U.heap = H) (hw : s.WarmedH U.vm) : bv_U X' D ad ca n mr mi H.size U := by
  refine ⟨by rw [hU], va_K.moved hw.alike hC.2.2.2.2.2.2.2.2.1, hW.2.2.2.1.moved hw.alike, by rw [hU]; exact hW.1, hW.2.1.weaken (fun _ _ _ _ => trivial), ?_, hW.2.2.2.2, bv_nw.warm hw hC.2.2.2.2.2.2.2.2.2.2⟩
  have h1 : bv_X X (bv_A ad0 n0 s.heap.size) ad s H := (hC.2.2.2.2.2.2.2.2.2.1.kept hW.2.2.1.2.1).ad (fun k hk => (hag.2 k (Or.inr hk)).1)
  have h2 := (h1.sub hX).moved hw.alike
  rw [hU]
  refine h2.narrow (fun q hq => ?_)
  rcases hq with ⟨k, hk, rfl⟩ | hq
  · exact hW.2.1.2 k _ (bv_ws_at _ _ _ _ hk)
  · exact Or.inr (Nat.le_trans hW.2.2.1.1 hq)
theorem bv_sub_A {s : State} {H : Heap} {locs : List Loc} {ad0 ad : Nat → Nat} {ca : Nat → ClassId} {D : va_G} (hW : bv_W D ad ca n mr mi s (bv_A ad0 n0 s.heap.size) H locs) : ∀ q, bv_A ad n H.size q → bv_A ad0 n0 s.heap.size q := by
  intro q hq
  rcases hq with ⟨k, hk, rfl⟩ | hq
  · exact hW.2.1.2 k _ (bv_ws_at _ _ _ _ hk)
  · exact Or.inr (Nat.le_trans hW.2.2.1.1 hq)
/-- behind a call -/
theorem bv_goes {n2 : Nat} {Q' : Option Value → bv_Rfs → bv_Mem → Prop} {l : Launch} {p : Program} {e : Env} {R : Room} {s : State} {m : MethodId} {args a : Array Value} {below : List Frame} {meth : Method} {c : Code} {H : Heap} {locs : List Loc} {ad0 ad : Nat → Nat} {ca0 ca : Nat → ClassId} {D : va_G} {ls : Array Slot} {st0 : List Value}
    (hr : va_Run p l e R s m args below meth c H locs (n - n0) (bv_sz n - bv_sz n0) (n2 - n) (bv_sz n2 - bv_sz n) (F0 m pc ls st0) (st.map (bv_cv ad)) (bv_Q Q' D ad ca n n2 H.size a) (bv_A ad n H.size))
    (hC : bv_C M X n0 p s m args meth c ad0 D) (hR : bv_RR d n0 n1 R) (hag : bv_ag n0 n1 ad0 ad ca0 ca) (hW : bv_W D ad ca n mr mi s (bv_A ad0 n0 s.heap.size) H locs) (hl : bv_L ad ls M.2.2.1 L) (h0 : n0 ≤ n) (h1 : n ≤ n2) (h2 : n2 ≤ n1) (hok : n2 = n ∨ (L.all (bv_oko n) = true ∧ st.all (bv_okv n) = true))
    (k : ∀ (r : Option Value) (mr' : bv_Rfs) (mi' : bv_Mem), Q' r mr' mi' → bv_Ev M X d n0 n1 Q (pc + 3) L (r.toList ++ st) n2 mr' mi') :
    W p l e R s m args below meth c H locs (n - n0) (bv_sz n - bv_sz n0) (MQ below (bv_Q Q D ad0 ca0 n0 n1 s.heap.size) args s (n1 - n0) (bv_sz n1 - bv_sz n0) (bv_A ad0 n0 s.heap.size)) (F0 m pc ls st0) := by
  intro T hT Y
  obtain ⟨v, st₀, t, T', L', g0, Y', hL', e1, e2, ⟨r, mr', mi', ad', ca', hQ, hag', hv, hP', hD', hAC', hmb', hz, hk⟩, go⟩ := hr T hT Y
  cases hv
  rw [g0] at hz hk
  have hS := hW.2.2.1
  have hA := bv_sub_A hW
  have hvm : t.vm.Alike s.vm := by rw [← e2]; exact Y'.warmed.alike.symm
  have hS' : va_S (bv_A ad0 n0 s.heap.size) s.heap T'.heap (locs ++ L') := ⟨Nat.le_trans hS.1 (by rw [e1]; exact hz), fun q h1 h2 => by rw [e1, hk q (Nat.lt_of_lt_of_le h1 hS.1) (fun z => h2 (hA q z))]; exact hS.2.1 q h1 h2, fun q hq => by
      rcases List.mem_append.mp hq with h | h
      · exact hS.2.2 q h
      · exact hA _ (hL' q h)⟩
  have hm0 := bv_sz_mono h0
  have hm1 := bv_sz_mono h1
  have hag2 : bv_ag n0 n1 ad0 ad' ca0 ca' := by
    refine ⟨fun e => ?_, fun q hq => ⟨(hag'.2 q (hq.imp (fun z => by omega) id)).1.trans (hag.2 q hq).1, (hag'.2 q (hq.imp (fun z => by omega) id)).2.trans (hag.2 q hq).2⟩⟩
    have e3 : n = n2 := by omega
    obtain ⟨x1, x2⟩ := hag'.1 e3
    obtain ⟨x3, x4⟩ := hag.1 e
    exact ⟨x1.trans x3, x2.trans x4⟩
  have hst : bv_L ad' ls M.2.2.1 L ∧ st.map (bv_cv ad') = st.map (bv_cv ad) := by
    rcases hok with rfl | ⟨h3, h4⟩
    · obtain ⟨x1, x2⟩ := hag'.1 rfl
      rw [x1]
      exact ⟨hl, rfl⟩
    · exact ⟨bv_L_ok h3 (fun q hq => (hag'.2 q hq).1) hl, bv_st_ok h4 (fun q hq => (hag'.2 q hq).1)⟩
  have kk := k r mr' mi' hQ l p e R s m args below meth c T'.heap (locs ++ L') ad0 ad' ca0 ca' D hC hR hag2 ⟨by rw [e1]; exact hP', hD'.weaken (fun _ _ _ h => hA _ h), hS', hAC'.moved hvm, hmb'⟩ ls hst.1
  rw [List.map_append, hst.2] at kk
  have e5 : r.toList.map (bv_cv ad') = (r.map (bv_cv ad')).toList := by cases r <;> rfl
  rw [e5] at kk
  obtain ⟨t2, a1, b1⟩ := kk T' rfl (by
    have e3 : n2 - n0 = n - n0 + (n2 - n) := by omega
    have e4 : bv_sz n2 - bv_sz n0 = bv_sz n - bv_sz n0 + (bv_sz n2 - bv_sz n) := by omega
    rw [e3, e4]
    exact Y')
  exact ⟨t2, go t2 a1, b1⟩
def bv_na (y : MethodName) (na : Nat) : Prop := y.cls ≠ "java/lang/invoke/MethodHandle" ∧ y.cls ≠ "java/lang/invoke/VarHandle" ∧ (parseMethodDescriptor y.desc).map (fun d => d.parameters.length) = some na
def bv_LV (own : String) (idx ci : Nat) (y : MethodName) (M' : bv_M) (na : Nat) : Prop := (Cond.methodLink own idx y ∈ lw_tbl ∧ Cond.instanceMethod y ∈ lw_tbl ∧ Cond.selects (bv_R ci) y y ∈ lw_tbl ∧ Cond.initialized (bv_R ci) ∈ lw_tbl ∧ Cond.code y M'.2.1 M'.2.2.1 M'.2.2.2.1 ∈ lw_tbl) ∧ (ci < 9 ∧ y.cls = bv_R ci ∧ bv_na y na) ∧ M'.2.2.1 ≤ 21
def bv_LS (own : String) (idx : Nat) (y : MethodName) (M' : bv_M) (na : Nat) : Prop := (Cond.methodLink own idx y ∈ lw_tbl ∧ Cond.static y ∈ lw_tbl ∧ Cond.initialized y.cls ∈ lw_tbl ∧ Cond.code y M'.2.1 M'.2.2.1 M'.2.2.2.1 ∈ lw_tbl) ∧ bv_na y na ∧ M'.2.2.1 ≤ 21
def bv_LSN (own : String) (idx : Nat) (y : MethodName) (M' : bv_M) (na : Nat) : Prop := (Cond.methodLinkNest own idx y RX7 ∈ lw_tbl ∧ Cond.static y ∈ lw_tbl ∧ Cond.initialized y.cls ∈ lw_tbl ∧ Cond.code y M'.2.1 M'.2.2.1 M'.2.2.2.1 ∈ lw_tbl) ∧ bv_na y na ∧ M'.2.2.1 ≤ 21
def bv_LI (own : String) (idx : Nat) (y : MethodName) (M' : bv_M) (na : Nat) : Prop := (Cond.methodLink own idx y ∈ lw_tbl ∧ Cond.instanceMethod y ∈ lw_tbl ∧ Cond.initialized y.cls ∈ lw_tbl ∧ Cond.code y M'.2.1 M'.2.2.1 M'.2.2.2.1 ∈ lw_tbl) ∧ (bv_na y na ∧ y.name = "<init>" ∧ M'.2.2.2.1 = none) ∧ M'.2.2.1 ≤ 21
def bv_LIN (own : String) (idx : Nat) (y : MethodName) (M' : bv_M) (na : Nat) : Prop := (Cond.methodLinkNest own idx y RX7 ∈ lw_tbl ∧ Cond.instanceMethod y ∈ lw_tbl ∧ Cond.initialized y.cls ∈ lw_tbl ∧ Cond.code y M'.2.1 M'.2.2.1 M'.2.2.2.1 ∈ lw_tbl) ∧ (bv_na y na ∧ y.name = "<init>" ∧ M'.2.2.2.1 = none) ∧ M'.2.2.1 ≤ 21
theorem bv_gt {w : Cond} (h : w ∈ lw_tbl) (hg : goodWord w = true) : w ∈ bv_TB := List.mem_filter.mpr ⟨h, hg⟩
theorem bv_gt2 {w : Cond} (h : w ∈ bv_TB) : w ∈ bv_TB ∧ ((w.onTables && w.keeps) = true ∨ ∃ ty, w = .arrayClass ty) := ⟨h, good_of_word (List.mem_filter.mp h).2⟩
theorem bv_ht {p : Program} {s : State} {m : MethodId} {args : Array Value} {meth : Method} {c : Code} {ad0 : Nat → Nat} {D : va_G} (hC : bv_C M X n0 p s m args meth c ad0 D) : ∀ w ∈ bv_TB, w.before args s = true := fun w hw => hC.2.2.2.2.1 w (List.mem_filter.mp hw).1 (List.mem_filter.mp hw).2
theorem bv_GI {y : MethodName} {M' : bv_M} (h : Cond.code y M'.2.1 M'.2.2.1 M'.2.2.2.1 ∈ lw_tbl) : GoodIn bv_TB (.code y M'.2.1 M'.2.2.1 M'.2.2.2.1 :: bv_TB) := fun w hw => by
  rcases List.mem_cons.mp hw with rfl | hw
  · exact bv_gt2 (bv_gt h rfl)
  · exact bv_gt2 hw
theorem ev_callV {n2 d' idx ci na a : Nat} {y : MethodName} {M' : bv_M} {X' : bv_Xt} {st0 : List Value} {Q' : Option Value → bv_Rfs → bv_Mem → Prop} (As : List Value) (lk : bv_LV M.1 idx ci y M' na) (hd : decode M.2.1 pc = .ok (.invokevirtual idx, 3)) (hst : st0 = As.reverse ++ .ref a :: st) (hna : As.length = na) (hg : bv_isC n a ci = true) (hX : ∀ j v, X' j = some v → X j = some v) (hM : bv_Met y M' X' d' n n2 (.ref a :: As) mr mi Q') (hdd : d' + 1 ≤ d) (hcat : (st.map fun v => v.category).sum ≤ 8) (h0 : n0 ≤ n) (h1 : n ≤ n2) (h2 : n2 ≤ n1) (hok : n2 = n ∨ (L.all (bv_oko n) = true ∧ st.all (bv_okv n) = true))
    (k : ∀ (r : Option Value) (mr' : bv_Rfs) (mi' : bv_Mem), Q' r mr' mi' → bv_Ev M X d n0 n1 Q (pc + 3) L (r.toList ++ st) n2 mr' mi') : bv_Ev M X d n0 n1 Q pc L st0 n mr mi := by
  intro l p e R s m args below meth c H locs ad0 ad ca0 ca D hC hR hag hW ls hl
  obtain ⟨⟨w1, w2, w3, w4, w5⟩, ⟨hci, hyc, hy1, hy2, hy3⟩, hmx⟩ := lk
  have hm0 := bv_sz_mono h0
  have hm1 := bv_sz_mono h1
  have hm2 := bv_sz_mono h2
  have hT : GoodIn bv_TB (wsV M.1 idx (bv_R ci) y (.code y M'.2.1 M'.2.2.1 M'.2.2.2.1 :: bv_TB)) := by
    intro w hw
    rcases List.mem_append.mp hw with hw | hw
    · simp only [List.mem_cons, List.not_mem_nil, or_false] at hw
      rcases hw with rfl | rfl | rfl | rfl
      · exact bv_gt2 (bv_gt w1 rfl)
      · exact bv_gt2 (bv_gt w2 rfl)
      · exact bv_gt2 (bv_gt w3 rfl)
      · exact bv_gt2 (bv_gt w4 rfl)
    · exact bv_GI (M' := M') w5 w hw
  refine bv_goes (n2 := n2) (a := (Value.ref (ad a) :: As.map (bv_cv ad)).toArray) (va_runV (As := As.map (bv_cv ad)) (rest := st.map (bv_cv ad)) ⟨hC.1, hC.2.1, hC.2.2.1, hC.2.2.2.1, bv_ht hC⟩ (hM l D ad ca H.size) (cwV na (bv_ht hC) hT rfl rfl rfl ⟨hyc, hy1, hy2, hy3⟩ ⟨Nat.le_trans hdd hR.1, by show 8 + (M'.2.2.1 + 11) + 40 * d' ≤ _; have h9 := hR.2.2.2; omega⟩) ⟨bv_blind, va_recv hC.2.2.2.2.2.2.2.2.1 hW.1 (bv_cl_at ci hci) (bv_obj hg), fun U hU hw => ⟨rfl, bv_pre hC hag hW hX hU hw⟩⟩ rfl (by rw [List.length_map]; exact hna) hl.1 (by rw [hst]; simp [bv_cv]) (lv_room (by rw [bv_cat_sum]; exact hcat)) hd ⟨by have h9 := hR.2.1; omega, by have h9 := hR.2.2.1; omega⟩) hC hR hag hW hl h0 h1 h2 hok k
theorem ev_callS {n2 d' idx na : Nat} {y : MethodName} {M' : bv_M} {X' : bv_Xt} {st0 : List Value} {Q' : Option Value → bv_Rfs → bv_Mem → Prop} (As : List Value) (lk : bv_LS M.1 idx y M' na) (hd : decode M.2.1 pc = .ok (.invokestatic idx, 3)) (hst : st0 = As.reverse ++ st) (hna : As.length = na) (hX : ∀ j v, X' j = some v → X j = some v) (hM : bv_Met y M' X' d' n n2 As mr mi Q') (hdd : d' + 1 ≤ d) (hcat : (st.map fun v => v.category).sum ≤ 8) (h0 : n0 ≤ n) (h1 : n ≤ n2) (h2 : n2 ≤ n1) (hok : n2 = n ∨ (L.all (bv_oko n) = true ∧ st.all (bv_okv n) = true))
    (k : ∀ (r : Option Value) (mr' : bv_Rfs) (mi' : bv_Mem), Q' r mr' mi' → bv_Ev M X d n0 n1 Q (pc + 3) L (r.toList ++ st) n2 mr' mi') : bv_Ev M X d n0 n1 Q pc L st0 n mr mi := by
  intro l p e R s m args below meth c H locs ad0 ad ca0 ca D hC hR hag hW ls hl
  obtain ⟨⟨w1, w2, w4, w5⟩, ⟨hy1, hy2, hy3⟩, hmx⟩ := lk
  have hm0 := bv_sz_mono h0
  have hm1 := bv_sz_mono h1
  have hm2 := bv_sz_mono h2
  have hT : GoodIn bv_TB (va_wsS M.1 idx y (.code y M'.2.1 M'.2.2.1 M'.2.2.2.1 :: bv_TB)) := by
    intro w hw
    rcases List.mem_append.mp hw with hw | hw
    · simp only [List.mem_cons, List.not_mem_nil, or_false] at hw
      rcases hw with rfl | rfl | rfl
      · exact bv_gt2 (bv_gt w1 rfl)
      · exact bv_gt2 (bv_gt w2 rfl)
      · exact bv_gt2 (bv_gt w4 rfl)
    · exact bv_GI (M' := M') w5 w hw
  refine bv_goes (n2 := n2) (a := (As.map (bv_cv ad)).toArray) (va_runS (As := As.map (bv_cv ad)) (rest := st.map (bv_cv ad)) ⟨hC.1, hC.2.1, hC.2.2.1, hC.2.2.2.1, bv_ht hC⟩ (hM l D ad ca H.size) (va_cwS na (bv_ht hC) hT rfl rfl rfl ⟨hy1, hy2, hy3⟩ ⟨Nat.le_trans hdd hR.1, by show 8 + (M'.2.2.1 + 11) + 40 * d' ≤ _; have h9 := hR.2.2.2; omega⟩) ⟨bv_blind, fun U hU hw => ⟨rfl, bv_pre hC hag hW hX hU hw⟩⟩ rfl (by rw [List.length_map]; exact hna) hl.1 (by rw [hst]; simp) (lv_room (by rw [bv_cat_sum]; exact hcat)) hd ⟨by have h9 := hR.2.1; omega, by have h9 := hR.2.2.1; omega⟩) hC hR hag hW hl h0 h1 h2 hok k
theorem ev_callSN {n2 d' idx na : Nat} {y : MethodName} {M' : bv_M} {X' : bv_Xt} {st0 : List Value} {Q' : Option Value → bv_Rfs → bv_Mem → Prop} (As : List Value) (lk : bv_LSN M.1 idx y M' na) (hd : decode M.2.1 pc = .ok (.invokestatic idx, 3)) (hst : st0 = As.reverse ++ st) (hna : As.length = na) (hX : ∀ j v, X' j = some v → X j = some v) (hM : bv_Met y M' X' d' n n2 As mr mi Q') (hdd : d' + 1 ≤ d) (hcat : (st.map fun v => v.category).sum ≤ 8) (h0 : n0 ≤ n) (h1 : n ≤ n2) (h2 : n2 ≤ n1) (hok : n2 = n ∨ (L.all (bv_oko n) = true ∧ st.all (bv_okv n) = true))
    (k : ∀ (r : Option Value) (mr' : bv_Rfs) (mi' : bv_Mem), Q' r mr' mi' → bv_Ev M X d n0 n1 Q (pc + 3) L (r.toList ++ st) n2 mr' mi') : bv_Ev M X d n0 n1 Q pc L st0 n mr mi := by
  intro l p e R s m args below meth c H locs ad0 ad ca0 ca D hC hR hag hW ls hl
  obtain ⟨⟨w1, w2, w4, w5⟩, ⟨hy1, hy2, hy3⟩, hmx⟩ := lk
  have hm0 := bv_sz_mono h0
  have hm1 := bv_sz_mono h1
  have hm2 := bv_sz_mono h2
  refine bv_goes (n2 := n2) (a := (As.map (bv_cv ad)).toArray) (va_runSN (As := As.map (bv_cv ad)) (rest := st.map (bv_cv ad)) ⟨hC.1, hC.2.1, hC.2.2.1, hC.2.2.2.1, bv_ht hC⟩ (hM l D ad ca H.size) ⟨va_cnB na (bv_ht hC) (bv_GI (M' := M') w5) rfl rfl rfl (hC.2.2.2.2.2.2.2.2.2.2.1 _ w1 rfl) (hC.2.2.2.2.1 _ w4 rfl) ⟨hy1, hy2, hy3⟩ ⟨Nat.le_trans hdd hR.1, by show 8 + (M'.2.2.1 + 11) + 40 * d' ≤ _; have h9 := hR.2.2.2; omega⟩, hC.2.2.2.2.1 _ w2 rfl, trivial⟩ ⟨bv_blind, fun U hU hw => ⟨rfl, bv_pre hC hag hW hX hU hw⟩⟩ rfl (by rw [List.length_map]; exact hna) hl.1 (by rw [hst]; simp) (lv_room (by rw [bv_cat_sum]; exact hcat)) hd ⟨by have h9 := hR.2.1; omega, by have h9 := hR.2.2.1; omega⟩) hC hR hag hW hl h0 h1 h2 hok k
theorem ev_callI {n2 d' idx na a : Nat} {y : MethodName} {M' : bv_M} {X' : bv_Xt} {st0 : List Value} {Q' : Option Value → bv_Rfs → bv_Mem → Prop} (As : List Value) (lk : bv_LI M.1 idx y M' na) (hd : decode M.2.1 pc = .ok (.invokespecial idx, 3)) (hst : st0 = As.reverse ++ .ref a :: st) (hna : As.length = na) (hX : ∀ j v, X' j = some v → X j = some v) (hM : bv_Met y M' X' d' n n2 (.ref a :: As) mr mi Q') (hdd : d' + 1 ≤ d) (hcat : (st.map fun v => v.category).sum ≤ 8) (h0 : n0 ≤ n) (h1 : n ≤ n2) (h2 : n2 ≤ n1) (hok : n2 = n ∨ (L.all (bv_oko n) = true ∧ st.all (bv_okv n) = true))
    (k : ∀ (r : Option Value) (mr' : bv_Rfs) (mi' : bv_Mem), Q' r mr' mi' → bv_Ev M X d n0 n1 Q (pc + 3) L (r.toList ++ st) n2 mr' mi') : bv_Ev M X d n0 n1 Q pc L st0 n mr mi := by
  intro l p e R s m args below meth c H locs ad0 ad ca0 ca D hC hR hag hW ls hl
  obtain ⟨⟨w1, w2, w4, w5⟩, ⟨⟨hy1, hy2, hy3⟩, hy4, hy5⟩, hmx⟩ := lk
  have hm0 := bv_sz_mono h0
  have hm1 := bv_sz_mono h1
  have hm2 := bv_sz_mono h2
  have hMM := hM l D ad ca H.size
  have hG := bv_GI (M' := M') w5
  rw [hy5] at hMM hG
  refine bv_goes (n2 := n2) (a := (Value.ref (ad a) :: As.map (bv_cv ad)).toArray) (va_runI (As := As.map (bv_cv ad)) (rest := st.map (bv_cv ad)) (b := ad a) ⟨hC.1, hC.2.1, hC.2.2.1, hC.2.2.2.1, bv_ht hC⟩ hMM (cwI na (bv_ht hC) hG rfl rfl rfl (hC.2.2.2.2.1 _ w4 rfl) (hC.2.2.2.2.1 _ w1 rfl) (hC.2.2.2.2.1 _ w2 rfl) hy4 ⟨hy1, hy2, hy3⟩ ⟨Nat.le_trans hdd hR.1, by show 8 + (M'.2.2.1 + 11) + 40 * d' ≤ _; have h9 := hR.2.2.2; omega⟩) ⟨bv_blind, fun U hU hw => ⟨rfl, bv_pre hC hag hW hX hU hw⟩⟩ rfl (by rw [List.length_map]; exact hna) hl.1 (by rw [hst]; simp [bv_cv]) (lv_room (by rw [bv_cat_sum]; exact hcat)) hd ⟨by have h9 := hR.2.1; omega, by have h9 := hR.2.2.1; omega⟩) hC hR hag hW hl h0 h1 h2 hok k
theorem ev_callIN {n2 d' idx na a : Nat} {y : MethodName} {M' : bv_M} {X' : bv_Xt} {st0 : List Value} {Q' : Option Value → bv_Rfs → bv_Mem → Prop} (As : List Value) (lk : bv_LIN M.1 idx y M' na) (hd : decode M.2.1 pc = .ok (.invokespecial idx, 3)) (hst : st0 = As.reverse ++ .ref a :: st) (hna : As.length = na) (hX : ∀ j v, X' j = some v → X j = some v) (hM : bv_Met y M' X' d' n n2 (.ref a :: As) mr mi Q') (hdd : d' + 1 ≤ d) (hcat : (st.map fun v => v.category).sum ≤ 8) (h0 : n0 ≤ n) (h1 : n ≤ n2) (h2 : n2 ≤ n1) (hok : n2 = n ∨ (L.all (bv_oko n) = true ∧ st.all (bv_okv n) = true))
    (k : ∀ (r : Option Value) (mr' : bv_Rfs) (mi' : bv_Mem), Q' r mr' mi' → bv_Ev M X d n0 n1 Q (pc + 3) L (r.toList ++ st) n2 mr' mi') : bv_Ev M X d n0 n1 Q pc L st0 n mr mi := by
  intro l p e R s m args below meth c H locs ad0 ad ca0 ca D hC hR hag hW ls hl
  obtain ⟨⟨w1, w2, w4, w5⟩, ⟨⟨hy1, hy2, hy3⟩, hy4, hy5⟩, hmx⟩ := lk
  have hm0 := bv_sz_mono h0
  have hm1 := bv_sz_mono h1
  have hm2 := bv_sz_mono h2
  have hMM := hM l D ad ca H.size
  have hG := bv_GI (M' := M') w5
  rw [hy5] at hMM hG
  refine bv_goes (n2 := n2) (a := (Value.ref (ad a) :: As.map (bv_cv ad)).toArray) (va_runIN (As := As.map (bv_cv ad)) (rest := st.map (bv_cv ad)) (b := ad a) ⟨hC.1, hC.2.1, hC.2.2.1, hC.2.2.2.1, bv_ht hC⟩ hMM ⟨va_cnB na (bv_ht hC) hG rfl rfl rfl (hC.2.2.2.2.2.2.2.2.2.2.1 _ w1 rfl) (hC.2.2.2.2.1 _ w4 rfl) ⟨hy1, hy2, hy3⟩ ⟨Nat.le_trans hdd hR.1, by show 8 + (M'.2.2.1 + 11) + 40 * d' ≤ _; have h9 := hR.2.2.2; omega⟩, hy4, hC.2.2.2.2.1 _ w2 rfl⟩ ⟨bv_blind, fun U hU hw => ⟨rfl, bv_pre hC hag hW hX hU hw⟩⟩ rfl (by rw [List.length_map]; exact hna) hl.1 (by rw [hst]; simp [bv_cv]) (lv_room (by rw [bv_cat_sum]; exact hcat)) hd ⟨by have h9 := hR.2.1; omega, by have h9 := hR.2.2.1; omega⟩) hC hR hag hW hl h0 h1 h2 hok k
end RULES3
end
section
-- ===== the cells once all are made: refs are a table, but for the Reader's tape =====
def bv_RT : List (List (Option Nat)) := [[some 1, some 22, none, some 43, some 47, some 49, some 50, some 51, some 52],
  [some 2, some 5, none, some 6, none, none, none, some 7, some 9, some 11, some 13, none], [some 3, some 4], [], [], [], [some 14, some 15, some 16, some 17, some 18, some 19, some 20, some 21], [some 8, none], [], [some 10, none], [], [some 12, none], [], [], [], [], [], [], [], [], [], [],
  [some 23, some 26, none, some 27, none, none, none, some 28, some 30, some 32, some 34, none], [some 24, some 25], [], [], [], [some 35, some 36, some 37, some 38, some 39, some 40, some 41, some 42], [some 29, none], [], [some 31, none], [], [some 33, none], [], [], [], [], [], [], [], [], [], [],
  [none, none, some 46, none, none, none], [some 45, none], [], [], [some 48, none, none, none, none], [], [some 53, some 55, some 57, some 59], [], [], [], [none, none, some 54], [], [none, none, some 56], [], [none, none, some 58], [], [none, none, some 60], [],
  [some 62, some 63, some 64, none, some 65, some 66, some 67, some 68, some 69, none, none, none, none, none, some 70, none, some 71, some 72, some 73], [], [], [], [], [], [], [], [], [], [], [], []]
def bv_RF (a k : Nat) : Option Nat := (bv_RT.getD a []).getD k none
def bv_mr (mi : bv_Mem) : bv_Rfs := fun a k => match Nat.beq a 43 && Nat.beq k 0 with
  | true => some (mi 43 0).toNatClampNeg
  | false => bv_RF a k
def bv_X0 : bv_Xt := fun j => match j with
  | 0 => some (.char, 6, fun i => ([104, 115, 100, 107, 108, 97] : List Int32).getD i 0)
  | 1 => some (.int, 7, fun i => ([0, 0, 0, 0, 1, 2, 3] : List Int32).getD i 0)
  | 2 => some (.int, 28, fun i => ([10, 11, 12, 13, 20, 0, 0, 0, 0, 30, 0, 0, 0, 0, 40, 0, 0, 0, 0, 50, 0, 60, 0, 0, 0, 0, 70, 71] : List Int32).getD i 0)
  | _ => none
theorem bv_mr_RF {mi : bv_Mem} {a k : Nat} (h : a ≠ 43) : bv_mr mi a k = bv_RF a k := by
  unfold bv_mr
  have : Nat.beq a 43 = false := by
    cases hx : Nat.beq a 43 with
    | false => rfl
    | true => exact absurd (Nat.eq_of_beq_eq_true hx) h
  rw [this]
  rfl
theorem bv_mr_same {mi mi' : bv_Mem} (h : mi' 43 0 = mi 43 0) : bv_mr mi' = bv_mr mi := by
  funext a k
  unfold bv_mr
  rw [h]
theorem bv_sh43 : bv_sh 43 = .inr 2 := rfl
def bv_QP (z : Int32) (mi : bv_Mem) : Option Value → bv_Rfs → bv_Mem → Prop := fun r mr' mi' => r = some (.int z) ∧ mr' = bv_mr mi' ∧ mi' = mi
def bv_QI (z : Int32 × bv_Mem) : Option Value → bv_Rfs → bv_Mem → Prop := fun r mr' mi' => r = some (.int z.1) ∧ mr' = bv_mr mi' ∧ mi' = z.2
def bv_QV (z : bv_Mem) : Option Value → bv_Rfs → bv_Mem → Prop := fun r mr' mi' => r = none ∧ mr' = bv_mr mi' ∧ mi' = z
def bv_QR (z : Nat) (mi : bv_Mem) : Option Value → bv_Rfs → bv_Mem → Prop := fun r mr' mi' => r = some (.ref z) ∧ mr' = bv_mr mi' ∧ mi' = mi
theorem bv_gd {c : Prop} [Decidable c] {α : Type} {x : Option α} {z : α} (h : (if c then x else none) = some z) : c ∧ x = some z := by
  by_cases hc : c
  · rw [if_pos hc] at h; exact ⟨hc, h⟩
  · rw [if_neg hc] at h; cases h
theorem bv_tt {c : Prop} [Decidable c] {α : Type} {x y z : α} (hc : c) (h : (if c then x else y) = z) : x = z := by rw [if_pos hc] at h; exact h
theorem bv_ff {c : Prop} [Decidable c] {α : Type} {x y z : α} (hc : ¬ c) (h : (if c then x else y) = z) : y = z := by rw [if_neg hc] at h; exact h
theorem bv_bd {α β : Type} {o : Option α} {f : α → Option β} {z : β} (h : o.bind f = some z) : ∃ a, o = some a ∧ f a = some z := Option.bind_eq_some_iff.mp h
/-- fewer locals known -/
def bv_le : List (Option Value) → List (Option Value) → Prop
  | [], _ => True
  | none :: t, _ :: u => bv_le t u
  | some v :: t, o :: u => o = some v ∧ bv_le t u
  | _ :: _, [] => False
theorem bv_le_at : ∀ {L' L : List (Option Value)}, bv_le L' L → ∀ (i : Nat) (v : Value), L'[i]? = some (some v) → L[i]? = some (some v) := by
  intro L'
  induction L' with
  | nil => intro L _ i v h; simp at h
  | cons o t ih =>
    intro L h i v hv
    cases L with
    | nil => cases o <;> exact absurd h (by simp [bv_le])
    | cons o2 u =>
      match i with
      | 0 =>
        simp only [List.getElem?_cons_zero] at hv ⊢
        cases o with
        | none => cases hv
        | some w => cases hv; exact congrArg some h.1
      | i + 1 =>
        simp only [List.getElem?_cons_succ] at hv ⊢
        cases o with
        | none => exact ih (L := u) h i v hv
        | some w => exact ih (L := u) h.2 i v hv
theorem bv_sw {x : Int32} {lo hi : Int} (N : Nat) (hN : hi = lo + N - 1) (h : ∀ j : Nat, j < N → ¬ x = Int32.ofInt (lo + j)) : x.toInt < lo ∨ hi < x.toInt := by
  rcases Int.lt_or_le x.toInt lo with h1 | h1
  · exact Or.inl h1
  · rcases Int.lt_or_le hi x.toInt with h2 | h2
    · exact Or.inr h2
    · exfalso
      have h3 := h (x.toInt - lo).toNat (by omega)
      apply h3
      have e : lo + ((x.toInt - lo).toNat : Int) = x.toInt := by omega
      rw [e, Int32.ofInt_toInt]
theorem bv_lo {ps : List (Int × Int)} {d : Int} {x : Int32} (h : ∀ q ∈ ps, ¬ q.1 = x.toInt) : Op.lookupswitch.offset ps d x.toInt = d := by
  induction ps with
  | nil => rfl
  | cons q r ih =>
    obtain ⟨a, o⟩ := q
    have h1 : ¬ a = x.toInt := h (a, o) List.mem_cons_self
    rw [Op.lookupswitch.offset, if_neg h1]
    exact ih (fun q hq => h q (List.mem_cons_of_mem _ hq))
theorem bv_ne {x y : Int32} {a : Int} (h : ¬ x = y) (ha : y.toInt = a) : ¬ a = x.toInt := fun q => h (Int32.toInt_inj.mp (by rw [← q, ha]))
section RULES4
variable {M : bv_M} {X : bv_Xt} {d n0 n1 : Nat} {Q : Option Value → bv_Rfs → bv_Mem → Prop} {pc : Nat} {L L' : List (Option Value)} {st : List Value} {n : Nat} {mr : bv_Rfs} {mi : bv_Mem}
theorem ev_weak (h : bv_le L' L) (k : bv_Ev M X d n0 n1 Q pc L' st n mr mi) : bv_Ev M X d n0 n1 Q pc L st n mr mi :=
  fun l p e R s m args below meth c H locs ad0 ad ca0 ca D hC hR hag hW ls hl => k l p e R s m args below meth c H locs ad0 ad ca0 ca D hC hR hag hW ls ⟨hl.1, hl.2.1, fun q hq => by
    obtain ⟨i, w⟩ := q
    obtain ⟨v, hv, rfl⟩ := bv_lv_mem.mp hq
    exact bv_L_at hl (bv_le_at h i v hv)⟩
theorem er_putI {a ci k idx : Nat} {v : Int32} (hf : bv_FL M.1 idx ci k) (hd : decode M.2.1 pc = .ok (.putfield idx, 3)) (hg : bv_isC 74 a ci = true) (hr : bv_isref (bv_fty ci k) = false) (hfin : (bv_T ci k).2.2.2 = false) (hv : bv_fit (bv_fty ci k) v = true) (kk : bv_Ev M X d 74 74 Q (pc + 3) L st 74 (bv_mr (bv_up mi a k v)) (bv_up mi a k v)) : bv_Ev M X d 74 74 Q pc L (.int v :: .ref a :: st) 74 (bv_mr mi) mi := by
  refine ev_putI hf hd hg hr hfin hv ?_
  rwa [bv_mr_same (mi := mi)] at kk
  unfold bv_up
  rw [if_neg]
  rintro ⟨h1, h2⟩
  have h3 := (bv_isC_spec hg).2
  rw [← h1, bv_sh43] at h3
  have h4 : 2 = ci := Sum.inr.inj h3
  subst h4
  subst h2
  exact absurd hr (by decide)
theorem er_putT {idx q : Nat} (hf : bv_FL M.1 idx 2 0) (hd : decode M.2.1 pc = .ok (.putfield idx, 3)) (hq : bv_isC 74 q 4 = true) (kk : bv_Ev M X d 74 74 Q (pc + 3) L st 74 (bv_mr (bv_up mi 43 0 (Int32.ofNat q))) (bv_up mi 43 0 (Int32.ofNat q))) : bv_Ev M X d 74 74 Q pc L (.ref q :: .ref 43 :: st) 74 (bv_mr mi) mi := by
  have hlt := (bv_isC_spec hq).1
  refine ev_putR (ci := 2) (k := 0) hf hd (by decide) (by decide) rfl hlt ?_
  have e : bv_upr (bv_mr mi) 43 0 (some q) = bv_mr (bv_up mi 43 0 (Int32.ofNat q)) := by
    funext a k
    unfold bv_upr bv_mr
    by_cases h : a = 43 ∧ k = 0
    · obtain ⟨rfl, rfl⟩ := h
      simp [bv_up, nI_clamp (n := q) (by omega), show Int32.ofNat q = nI q from rfl]
    · rw [if_neg h]
      have hb : (Nat.beq a 43 && Nat.beq k 0) = false := by
        cases hx : (Nat.beq a 43 && Nat.beq k 0) with
        | false => rfl
        | true =>
          rw [Bool.and_eq_true] at hx
          exact absurd ⟨Nat.eq_of_beq_eq_true hx.1, Nat.eq_of_beq_eq_true hx.2⟩ h
      rw [hb]
  rw [e]
  have e2 : bv_Ev M X d 74 74 Q (pc + 3) L st 74 (bv_mr (bv_up mi 43 0 (Int32.ofNat q))) mi = bv_Ev M X d 74 74 Q (pc + 3) L st 74 (bv_mr (bv_up mi 43 0 (Int32.ofNat q))) (bv_up mi 43 0 (Int32.ofNat q)) := by
    have hw : ∀ (ad : Nat → Nat) (ca : Nat → ClassId) (mr : bv_Rfs), bv_ws ad ca 74 mr (bv_up mi 43 0 (Int32.ofNat q)) = bv_ws ad ca 74 mr mi := by
      intro ad ca mr
      unfold bv_ws
      apply List.map_congr_left
      intro k hk
      by_cases hk3 : k = 43
      · subst hk3
        rw [bv_sh43]
        simp only [bv_cell]
        have hj : ∀ j, (if bv_isref (bv_fty 2 j) = true then va_rf ((mr 43 j).map ad) else Value.int (bv_up mi 43 0 (Int32.ofNat q) 43 j)) = (if bv_isref (bv_fty 2 j) = true then va_rf ((mr 43 j).map ad) else Value.int (mi 43 j)) := by
          intro j
          by_cases hj0 : j = 0
          · subst hj0
            rw [if_pos (by decide), if_pos (by decide)]
          · simp [bv_up, hj0]
        simp only [hj]
      · rw [bv_cell_other (mr' := mr) rfl (bv_up_row hk3)]
    unfold bv_Ev bv_W
    simp only [hw]
  rw [e2]
  exact kk
theorem bv_arr43 {a kd N : Nat} (hg : bv_isA 74 a kd N = true) : a ≠ 43 := by
  rintro rfl
  exact absurd hg (by simp [bv_isA, bv_sh43])
theorem er_iast {a N : Nat} {i v : Int32} (hd : decode M.2.1 pc = .ok (.iastore, 1)) (hg : bv_isA 74 a 0 N = true) (hi : bv_in i N = true) (kk : bv_Ev M X d 74 74 Q (pc + 1) L st 74 (bv_mr (bv_up mi a i.toNatClampNeg v)) (bv_up mi a i.toNatClampNeg v)) : bv_Ev M X d 74 74 Q pc L (.int v :: .int i :: .ref a :: st) 74 (bv_mr mi) mi := by
  refine ev_iast hd hg hi ?_
  rwa [bv_mr_same (mi := mi)] at kk
  exact bv_up_ne (fun h => bv_arr43 hg h.symm)
theorem er_bast {a N : Nat} {i v : Int32} (hd : decode M.2.1 pc = .ok (.bastore, 1)) (hg : bv_isA 74 a 1 N = true) (hi : bv_in i N = true) (kk : bv_Ev M X d 74 74 Q (pc + 1) L st 74 (bv_mr (bv_up mi a i.toNatClampNeg v.toInt8.toInt32)) (bv_up mi a i.toNatClampNeg v.toInt8.toInt32)) : bv_Ev M X d 74 74 Q pc L (.int v :: .int i :: .ref a :: st) 74 (bv_mr mi) mi := by
  refine ev_bast hd hg hi ?_
  rwa [bv_mr_same (mi := mi)] at kk
  exact bv_up_ne (fun h => bv_arr43 hg h.symm)
def bv_cpok (mi : bv_Mem) (kd a b N0 N1 : Nat) (sp dp m : Int32) : Bool := (!(decide (sp < 0)) && !(decide (dp < 0)) && !(decide (m < 0)) && decide (sp.toNatClampNeg + m.toNatClampNeg ≤ N0) && decide (dp.toNatClampNeg + m.toNatClampNeg ≤ N1)) && (Nat.beq kd 0 || (List.range m.toNatClampNeg).all (fun i => fits .byte (.int (mi a (sp.toNatClampNeg + i)))))
theorem er_copy {a b kd N0 N1 idx : Nat} {sp dp m : Int32} (hd : decode M.2.1 pc = .ok (.invokestatic idx, 3)) (hlk : Cond.methodLink M.1 idx arraycopyName ∈ lw_tbl) (hkd : kd < 2) (hg0 : bv_isA 74 a kd N0 = true) (hg1 : bv_isA 74 b kd N1 = true) (hok : bv_cpok mi kd a b N0 N1 sp dp m = true) (hdp : 1 ≤ d) (hst : (st.map fun v => v.category).sum ≤ 8)
    (kk : bv_Ev M X d 74 74 Q (pc + 3) L st 74 (bv_mr (bv_cp mi a b sp.toNatClampNeg dp.toNatClampNeg m.toNatClampNeg)) (bv_cp mi a b sp.toNatClampNeg dp.toNatClampNeg m.toNatClampNeg)) : bv_Ev M X d 74 74 Q pc L (.int m :: .int dp :: .ref b :: .int sp :: .ref a :: st) 74 (bv_mr mi) mi := by
  unfold bv_cpok at hok
  simp only [Bool.and_eq_true, Bool.not_eq_true', decide_eq_false_iff_not, decide_eq_true_eq, Bool.or_eq_true] at hok
  obtain ⟨⟨⟨⟨⟨h1, h2⟩, h3⟩, h4⟩, h5⟩, h6⟩ := hok
  refine ev_copy hd hlk (by decide +kernel) (by decide +kernel) (by decide +kernel) hkd hg0 hg1 h1 h2 h3 h4 h5 ?_ hdp hst ?_
  · intro e i hi
    subst e
    rcases h6 with h6 | h6
    · exact absurd h6 (by decide)
    · exact List.all_eq_true.mp h6 i (List.mem_range.mpr hi)
  · rwa [bv_mr_same (mi := mi)] at kk
    unfold bv_cp
    rw [if_neg]
    intro h
    exact bv_arr43 hg1 h.1.symm
theorem er_getRq {a ci k idx : Nat} (q : Nat) (hf : bv_FL M.1 idx ci k) (hd : decode M.2.1 pc = .ok (.getfield idx, 3)) (hg : bv_isC 74 a ci = true) (hr : bv_isref (bv_fty ci k) = true) (hc : Nat.beq ci 2 = false) (hq : bv_RF a k = some q) (kk : bv_Ev M X d n0 n1 Q (pc + 3) L (.ref q :: st) 74 (bv_mr mi) mi) : bv_Ev M X d n0 n1 Q pc L (.ref a :: st) 74 (bv_mr mi) mi := by
  refine ev_getR q hf hd hg hr ?_ kk
  rw [bv_mr_RF]
  · exact hq
  · rintro rfl
    have h3 := (bv_isC_spec hg).2
    rw [bv_sh43] at h3
    have h4 : 2 = ci := Sum.inr.inj h3
    subst h4
    exact absurd hc (by decide)
theorem er_aald {a N : Nat} {i : Int32} (q : Nat) (hd : decode M.2.1 pc = .ok (.aaload, 1)) (hg : bv_isA 74 a 2 N = true) (hi : bv_in i N = true) (hq : bv_RF a i.toNatClampNeg = some q) (kk : bv_Ev M X d n0 n1 Q (pc + 1) L (.ref q :: st) 74 (bv_mr mi) mi) : bv_Ev M X d n0 n1 Q pc L (.int i :: .ref a :: st) 74 (bv_mr mi) mi := by
  refine ev_aald q hd hg hi ?_ kk
  rw [bv_mr_RF (bv_arr43 hg)]
  exact hq
theorem er_VP {d' idx na : Nat} {ci a : Nat} {y : MethodName} {M' : bv_M} {st0 : List Value} {z : Int32} (As : List Value) (hX : ∀ j v, bv_X0 j = some v → X j = some v) (lk : bv_LV M.1 idx ci y M' na) (hd : decode M.2.1 pc = .ok (.invokevirtual idx, 3)) (hst : st0 = As.reverse ++ .ref a :: st) (hna : As.length = na) (hg : bv_isC 74 a ci = true) (hdd : Nat.ble (d' + 1) d = true) (hcat : Nat.ble ((st.map fun v => v.category).sum) 8 = true) (hM : bv_Met y M' bv_X0 d' 74 74 (.ref a :: As) (bv_mr mi) mi (bv_QP z mi)) (k : bv_Ev M X d n0 n1 Q (pc + 3) L (.int z :: st) 74 (bv_mr mi) mi) (h0 : n0 ≤ 74 := by decide) (h1 : 74 ≤ n1 := by decide) : bv_Ev M X d n0 n1 Q pc L st0 74 (bv_mr mi) mi :=
  ev_callV As lk hd hst hna hg hX hM (Nat.le_of_ble_eq_true hdd) (Nat.le_of_ble_eq_true hcat) h0 (Nat.le_refl 74) h1 (Or.inl rfl) (fun r mr' mi' hq => by
    obtain ⟨rfl, rfl, rfl⟩ := hq
    exact k)
theorem er_VI {d' idx na : Nat} {ci a : Nat} {y : MethodName} {M' : bv_M} {st0 : List Value} {z : Int32 × bv_Mem} (As : List Value) (hX : ∀ j v, bv_X0 j = some v → X j = some v) (lk : bv_LV M.1 idx ci y M' na) (hd : decode M.2.1 pc = .ok (.invokevirtual idx, 3)) (hst : st0 = As.reverse ++ .ref a :: st) (hna : As.length = na) (hg : bv_isC 74 a ci = true) (hdd : Nat.ble (d' + 1) d = true) (hcat : Nat.ble ((st.map fun v => v.category).sum) 8 = true) (hM : bv_Met y M' bv_X0 d' 74 74 (.ref a :: As) (bv_mr mi) mi (bv_QI z)) (k : bv_Ev M X d n0 n1 Q (pc + 3) L (.int z.1 :: st) 74 (bv_mr z.2) z.2) (h0 : n0 ≤ 74 := by decide) (h1 : 74 ≤ n1 := by decide) : bv_Ev M X d n0 n1 Q pc L st0 74 (bv_mr mi) mi :=
  ev_callV As lk hd hst hna hg hX hM (Nat.le_of_ble_eq_true hdd) (Nat.le_of_ble_eq_true hcat) h0 (Nat.le_refl 74) h1 (Or.inl rfl) (fun r mr' mi' hq => by
    obtain ⟨rfl, rfl, rfl⟩ := hq
    exact k)
theorem er_VV {d' idx na : Nat} {ci a : Nat} {y : MethodName} {M' : bv_M} {st0 : List Value} {z : bv_Mem} (As : List Value) (hX : ∀ j v, bv_X0 j = some v → X j = some v) (lk : bv_LV M.1 idx ci y M' na) (hd : decode M.2.1 pc = .ok (.invokevirtual idx, 3)) (hst : st0 = As.reverse ++ .ref a :: st) (hna : As.length = na) (hg : bv_isC 74 a ci = true) (hdd : Nat.ble (d' + 1) d = true) (hcat : Nat.ble ((st.map fun v => v.category).sum) 8 = true) (hM : bv_Met y M' bv_X0 d' 74 74 (.ref a :: As) (bv_mr mi) mi (bv_QV z)) (k : bv_Ev M X d n0 n1 Q (pc + 3) L ( st) 74 (bv_mr z) z) (h0 : n0 ≤ 74 := by decide) (h1 : 74 ≤ n1 := by decide) : bv_Ev M X d n0 n1 Q pc L st0 74 (bv_mr mi) mi :=
  ev_callV As lk hd hst hna hg hX hM (Nat.le_of_ble_eq_true hdd) (Nat.le_of_ble_eq_true hcat) h0 (Nat.le_refl 74) h1 (Or.inl rfl) (fun r mr' mi' hq => by
    obtain ⟨rfl, rfl, rfl⟩ := hq
    exact k)
theorem er_VR {d' idx na : Nat} {ci a : Nat} {y : MethodName} {M' : bv_M} {st0 : List Value} {z : Nat} (As : List Value) (hX : ∀ j v, bv_X0 j = some v → X j = some v) (lk : bv_LV M.1 idx ci y M' na) (hd : decode M.2.1 pc = .ok (.invokevirtual idx, 3)) (hst : st0 = As.reverse ++ .ref a :: st) (hna : As.length = na) (hg : bv_isC 74 a ci = true) (hdd : Nat.ble (d' + 1) d = true) (hcat : Nat.ble ((st.map fun v => v.category).sum) 8 = true) (hM : bv_Met y M' bv_X0 d' 74 74 (.ref a :: As) (bv_mr mi) mi (bv_QR z mi)) (k : bv_Ev M X d n0 n1 Q (pc + 3) L (.ref z :: st) 74 (bv_mr mi) mi) (h0 : n0 ≤ 74 := by decide) (h1 : 74 ≤ n1 := by decide) : bv_Ev M X d n0 n1 Q pc L st0 74 (bv_mr mi) mi :=
  ev_callV As lk hd hst hna hg hX hM (Nat.le_of_ble_eq_true hdd) (Nat.le_of_ble_eq_true hcat) h0 (Nat.le_refl 74) h1 (Or.inl rfl) (fun r mr' mi' hq => by
    obtain ⟨rfl, rfl, rfl⟩ := hq
    exact k)
theorem er_SP {d' idx na : Nat} {y : MethodName} {M' : bv_M} {st0 : List Value} {z : Int32} (As : List Value) (hX : ∀ j v, bv_X0 j = some v → X j = some v) (lk : bv_LS M.1 idx y M' na) (hd : decode M.2.1 pc = .ok (.invokestatic idx, 3)) (hst : st0 = As.reverse ++ st) (hna : As.length = na) (hdd : Nat.ble (d' + 1) d = true) (hcat : Nat.ble ((st.map fun v => v.category).sum) 8 = true) (hM : bv_Met y M' bv_X0 d' 74 74 As (bv_mr mi) mi (bv_QP z mi)) (k : bv_Ev M X d n0 n1 Q (pc + 3) L (.int z :: st) 74 (bv_mr mi) mi) (h0 : n0 ≤ 74 := by decide) (h1 : 74 ≤ n1 := by decide) : bv_Ev M X d n0 n1 Q pc L st0 74 (bv_mr mi) mi :=
  ev_callS As lk hd hst hna hX hM (Nat.le_of_ble_eq_true hdd) (Nat.le_of_ble_eq_true hcat) h0 (Nat.le_refl 74) h1 (Or.inl rfl) (fun r mr' mi' hq => by
    obtain ⟨rfl, rfl, rfl⟩ := hq
    exact k)
theorem er_SI {d' idx na : Nat} {y : MethodName} {M' : bv_M} {st0 : List Value} {z : Int32 × bv_Mem} (As : List Value) (hX : ∀ j v, bv_X0 j = some v → X j = some v) (lk : bv_LS M.1 idx y M' na) (hd : decode M.2.1 pc = .ok (.invokestatic idx, 3)) (hst : st0 = As.reverse ++ st) (hna : As.length = na) (hdd : Nat.ble (d' + 1) d = true) (hcat : Nat.ble ((st.map fun v => v.category).sum) 8 = true) (hM : bv_Met y M' bv_X0 d' 74 74 As (bv_mr mi) mi (bv_QI z)) (k : bv_Ev M X d n0 n1 Q (pc + 3) L (.int z.1 :: st) 74 (bv_mr z.2) z.2) (h0 : n0 ≤ 74 := by decide) (h1 : 74 ≤ n1 := by decide) : bv_Ev M X d n0 n1 Q pc L st0 74 (bv_mr mi) mi :=
  ev_callS As lk hd hst hna hX hM (Nat.le_of_ble_eq_true hdd) (Nat.le_of_ble_eq_true hcat) h0 (Nat.le_refl 74) h1 (Or.inl rfl) (fun r mr' mi' hq => by
    obtain ⟨rfl, rfl, rfl⟩ := hq
    exact k)
theorem er_SV {d' idx na : Nat} {y : MethodName} {M' : bv_M} {st0 : List Value} {z : bv_Mem} (As : List Value) (hX : ∀ j v, bv_X0 j = some v → X j = some v) (lk : bv_LS M.1 idx y M' na) (hd : decode M.2.1 pc = .ok (.invokestatic idx, 3)) (hst : st0 = As.reverse ++ st) (hna : As.length = na) (hdd : Nat.ble (d' + 1) d = true) (hcat : Nat.ble ((st.map fun v => v.category).sum) 8 = true) (hM : bv_Met y M' bv_X0 d' 74 74 As (bv_mr mi) mi (bv_QV z)) (k : bv_Ev M X d n0 n1 Q (pc + 3) L ( st) 74 (bv_mr z) z) (h0 : n0 ≤ 74 := by decide) (h1 : 74 ≤ n1 := by decide) : bv_Ev M X d n0 n1 Q pc L st0 74 (bv_mr mi) mi :=
  ev_callS As lk hd hst hna hX hM (Nat.le_of_ble_eq_true hdd) (Nat.le_of_ble_eq_true hcat) h0 (Nat.le_refl 74) h1 (Or.inl rfl) (fun r mr' mi' hq => by
    obtain ⟨rfl, rfl, rfl⟩ := hq
    exact k)
theorem er_SR {d' idx na : Nat} {y : MethodName} {M' : bv_M} {st0 : List Value} {z : Nat} (As : List Value) (hX : ∀ j v, bv_X0 j = some v → X j = some v) (lk : bv_LS M.1 idx y M' na) (hd : decode M.2.1 pc = .ok (.invokestatic idx, 3)) (hst : st0 = As.reverse ++ st) (hna : As.length = na) (hdd : Nat.ble (d' + 1) d = true) (hcat : Nat.ble ((st.map fun v => v.category).sum) 8 = true) (hM : bv_Met y M' bv_X0 d' 74 74 As (bv_mr mi) mi (bv_QR z mi)) (k : bv_Ev M X d n0 n1 Q (pc + 3) L (.ref z :: st) 74 (bv_mr mi) mi) (h0 : n0 ≤ 74 := by decide) (h1 : 74 ≤ n1 := by decide) : bv_Ev M X d n0 n1 Q pc L st0 74 (bv_mr mi) mi :=
  ev_callS As lk hd hst hna hX hM (Nat.le_of_ble_eq_true hdd) (Nat.le_of_ble_eq_true hcat) h0 (Nat.le_refl 74) h1 (Or.inl rfl) (fun r mr' mi' hq => by
    obtain ⟨rfl, rfl, rfl⟩ := hq
    exact k)
theorem er_SNP {d' idx na : Nat} {y : MethodName} {M' : bv_M} {st0 : List Value} {z : Int32} (As : List Value) (hX : ∀ j v, bv_X0 j = some v → X j = some v) (lk : bv_LSN M.1 idx y M' na) (hd : decode M.2.1 pc = .ok (.invokestatic idx, 3)) (hst : st0 = As.reverse ++ st) (hna : As.length = na) (hdd : Nat.ble (d' + 1) d = true) (hcat : Nat.ble ((st.map fun v => v.category).sum) 8 = true) (hM : bv_Met y M' bv_X0 d' 74 74 As (bv_mr mi) mi (bv_QP z mi)) (k : bv_Ev M X d n0 n1 Q (pc + 3) L (.int z :: st) 74 (bv_mr mi) mi) (h0 : n0 ≤ 74 := by decide) (h1 : 74 ≤ n1 := by decide) : bv_Ev M X d n0 n1 Q pc L st0 74 (bv_mr mi) mi :=
  ev_callSN As lk hd hst hna hX hM (Nat.le_of_ble_eq_true hdd) (Nat.le_of_ble_eq_true hcat) h0 (Nat.le_refl 74) h1 (Or.inl rfl) (fun r mr' mi' hq => by
    obtain ⟨rfl, rfl, rfl⟩ := hq
    exact k)
theorem er_SNI {d' idx na : Nat} {y : MethodName} {M' : bv_M} {st0 : List Value} {z : Int32 × bv_Mem} (As : List Value) (hX : ∀ j v, bv_X0 j = some v → X j = some v) (lk : bv_LSN M.1 idx y M' na) (hd : decode M.2.1 pc = .ok (.invokestatic idx, 3)) (hst : st0 = As.reverse ++ st) (hna : As.length = na) (hdd : Nat.ble (d' + 1) d = true) (hcat : Nat.ble ((st.map fun v => v.category).sum) 8 = true) (hM : bv_Met y M' bv_X0 d' 74 74 As (bv_mr mi) mi (bv_QI z)) (k : bv_Ev M X d n0 n1 Q (pc + 3) L (.int z.1 :: st) 74 (bv_mr z.2) z.2) (h0 : n0 ≤ 74 := by decide) (h1 : 74 ≤ n1 := by decide) : bv_Ev M X d n0 n1 Q pc L st0 74 (bv_mr mi) mi :=
  ev_callSN As lk hd hst hna hX hM (Nat.le_of_ble_eq_true hdd) (Nat.le_of_ble_eq_true hcat) h0 (Nat.le_refl 74) h1 (Or.inl rfl) (fun r mr' mi' hq => by
    obtain ⟨rfl, rfl, rfl⟩ := hq
    exact k)
theorem er_SNV {d' idx na : Nat} {y : MethodName} {M' : bv_M} {st0 : List Value} {z : bv_Mem} (As : List Value) (hX : ∀ j v, bv_X0 j = some v → X j = some v) (lk : bv_LSN M.1 idx y M' na) (hd : decode M.2.1 pc = .ok (.invokestatic idx, 3)) (hst : st0 = As.reverse ++ st) (hna : As.length = na) (hdd : Nat.ble (d' + 1) d = true) (hcat : Nat.ble ((st.map fun v => v.category).sum) 8 = true) (hM : bv_Met y M' bv_X0 d' 74 74 As (bv_mr mi) mi (bv_QV z)) (k : bv_Ev M X d n0 n1 Q (pc + 3) L ( st) 74 (bv_mr z) z) (h0 : n0 ≤ 74 := by decide) (h1 : 74 ≤ n1 := by decide) : bv_Ev M X d n0 n1 Q pc L st0 74 (bv_mr mi) mi :=
  ev_callSN As lk hd hst hna hX hM (Nat.le_of_ble_eq_true hdd) (Nat.le_of_ble_eq_true hcat) h0 (Nat.le_refl 74) h1 (Or.inl rfl) (fun r mr' mi' hq => by
    obtain ⟨rfl, rfl, rfl⟩ := hq
    exact k)
theorem er_SNR {d' idx na : Nat} {y : MethodName} {M' : bv_M} {st0 : List Value} {z : Nat} (As : List Value) (hX : ∀ j v, bv_X0 j = some v → X j = some v) (lk : bv_LSN M.1 idx y M' na) (hd : decode M.2.1 pc = .ok (.invokestatic idx, 3)) (hst : st0 = As.reverse ++ st) (hna : As.length = na) (hdd : Nat.ble (d' + 1) d = true) (hcat : Nat.ble ((st.map fun v => v.category).sum) 8 = true) (hM : bv_Met y M' bv_X0 d' 74 74 As (bv_mr mi) mi (bv_QR z mi)) (k : bv_Ev M X d n0 n1 Q (pc + 3) L (.ref z :: st) 74 (bv_mr mi) mi) (h0 : n0 ≤ 74 := by decide) (h1 : 74 ≤ n1 := by decide) : bv_Ev M X d n0 n1 Q pc L st0 74 (bv_mr mi) mi :=
  ev_callSN As lk hd hst hna hX hM (Nat.le_of_ble_eq_true hdd) (Nat.le_of_ble_eq_true hcat) h0 (Nat.le_refl 74) h1 (Or.inl rfl) (fun r mr' mi' hq => by
    obtain ⟨rfl, rfl, rfl⟩ := hq
    exact k)
end RULES4
end
