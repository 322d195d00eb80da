section
-- ===== PART A: goes FIRST, ahead of the names: the tables' words, and 'selects' of the private methods out of them =====
/-- a private method of a class that the tables say can be made, by its rows of tables_1 -/
def lw_okq (q : MethodName × Nat) : Prop := (q.1.cls ≠ "java/lang/invoke/MethodHandle" ∧ q.1.cls ≠ "java/lang/invoke/VarHandle") ∧ Cond.instantiable q.1.cls q.2 ∈ tables_1 ∧ Cond.privateMethod q.1 ∈ tables_1 ∧ Cond.instanceMethod q.1 ∈ tables_1
theorem lw_p0 : lw_okq (⟨"KeyedTree$Sights", "fill", "()V"⟩, 2) := ⟨⟨by decide +kernel, by decide +kernel⟩, List.mem_of_getElem? (i := 56) (by decide +kernel), List.mem_of_getElem? (i := 62) (by decide +kernel), List.mem_of_getElem? (i := 63) (by decide +kernel)⟩
theorem lw_p1 : lw_okq (⟨"KeyedTree", "tryActs", "()I"⟩, 9) := ⟨⟨by decide +kernel, by decide +kernel⟩, List.mem_of_getElem? (i := 14) (by decide +kernel), List.mem_of_getElem? (i := 318) (by decide +kernel), List.mem_of_getElem? (i := 319) (by decide +kernel)⟩
theorem lw_p2 : lw_okq (⟨"KeyedTree$Pad", "sign", "(I)I"⟩, 2) := ⟨⟨by decide +kernel, by decide +kernel⟩, List.mem_of_getElem? (i := 40) (by decide +kernel), List.mem_of_getElem? (i := 337) (by decide +kernel), List.mem_of_getElem? (i := 338) (by decide +kernel)⟩
theorem lw_p3 : lw_okq (⟨"KeyedTree$Trial", "addWork", "()V"⟩, 10) := ⟨⟨by decide +kernel, by decide +kernel⟩, List.mem_of_getElem? (i := 78) (by decide +kernel), List.mem_of_getElem? (i := 366) (by decide +kernel), List.mem_of_getElem? (i := 367) (by decide +kernel)⟩
theorem lw_p4 : lw_okq (⟨"KeyedTree$Tree", "price", "(I)V"⟩, 10) := ⟨⟨by decide +kernel, by decide +kernel⟩, List.mem_of_getElem? (i := 107) (by decide +kernel), List.mem_of_getElem? (i := 374) (by decide +kernel), List.mem_of_getElem? (i := 375) (by decide +kernel)⟩
theorem lw_p5 : lw_okq (⟨"KeyedTree$Tree", "finish", "(I)V"⟩, 10) := ⟨⟨by decide +kernel, by decide +kernel⟩, List.mem_of_getElem? (i := 107) (by decide +kernel), List.mem_of_getElem? (i := 382) (by decide +kernel), List.mem_of_getElem? (i := 383) (by decide +kernel)⟩
theorem lw_p6 : lw_okq (⟨"KeyedTree$Tree", "spanBelow", "(I)J"⟩, 10) := ⟨⟨by decide +kernel, by decide +kernel⟩, List.mem_of_getElem? (i := 107) (by decide +kernel), List.mem_of_getElem? (i := 387) (by decide +kernel), List.mem_of_getElem? (i := 388) (by decide +kernel)⟩
theorem lw_p7 : lw_okq (⟨"KeyedTree$Trial", "seekAlike", "()V"⟩, 10) := ⟨⟨by decide +kernel, by decide +kernel⟩, List.mem_of_getElem? (i := 78) (by decide +kernel), List.mem_of_getElem? (i := 404) (by decide +kernel), List.mem_of_getElem? (i := 405) (by decide +kernel)⟩
theorem lw_p8 : lw_okq (⟨"KeyedTree", "shared", "(JJ)I"⟩, 9) := ⟨⟨by decide +kernel, by decide +kernel⟩, List.mem_of_getElem? (i := 14) (by decide +kernel), List.mem_of_getElem? (i := 464) (by decide +kernel), List.mem_of_getElem? (i := 465) (by decide +kernel)⟩
theorem lw_p9 : lw_okq (⟨"KeyedTree", "digest", "(JI)I"⟩, 9) := ⟨⟨by decide +kernel, by decide +kernel⟩, List.mem_of_getElem? (i := 14) (by decide +kernel), List.mem_of_getElem? (i := 542) (by decide +kernel), List.mem_of_getElem? (i := 543) (by decide +kernel)⟩
theorem lw_p10 : lw_okq (⟨"KeyedTree", "toldOfSets", "(I)I"⟩, 9) := ⟨⟨by decide +kernel, by decide +kernel⟩, List.mem_of_getElem? (i := 14) (by decide +kernel), List.mem_of_getElem? (i := 567) (by decide +kernel), List.mem_of_getElem? (i := 568) (by decide +kernel)⟩
theorem lw_p11 : lw_okq (⟨"KeyedTreeModel", "has", "(II)Z"⟩, 30) := ⟨⟨by decide +kernel, by decide +kernel⟩, List.mem_of_getElem? (i := 571) (by decide +kernel), List.mem_of_getElem? (i := 689) (by decide +kernel), List.mem_of_getElem? (i := 690) (by decide +kernel)⟩
theorem lw_p12 : lw_okq (⟨"KeyedTreeModel", "many", "(I)I"⟩, 30) := ⟨⟨by decide +kernel, by decide +kernel⟩, List.mem_of_getElem? (i := 571) (by decide +kernel), List.mem_of_getElem? (i := 693) (by decide +kernel), List.mem_of_getElem? (i := 694) (by decide +kernel)⟩
theorem lw_p13 : lw_okq (⟨"KeyedTreeModel", "readOn", "(II)I"⟩, 30) := ⟨⟨by decide +kernel, by decide +kernel⟩, List.mem_of_getElem? (i := 571) (by decide +kernel), List.mem_of_getElem? (i := 711) (by decide +kernel), List.mem_of_getElem? (i := 712) (by decide +kernel)⟩
theorem lw_p14 : lw_okq (⟨"KeyedTreeModel", "begin", "(I)I"⟩, 30) := ⟨⟨by decide +kernel, by decide +kernel⟩, List.mem_of_getElem? (i := 571) (by decide +kernel), List.mem_of_getElem? (i := 715) (by decide +kernel), List.mem_of_getElem? (i := 716) (by decide +kernel)⟩
theorem lw_p15 : lw_okq (⟨"KeyedTreeModel", "ends", "()I"⟩, 30) := ⟨⟨by decide +kernel, by decide +kernel⟩, List.mem_of_getElem? (i := 571) (by decide +kernel), List.mem_of_getElem? (i := 721) (by decide +kernel), List.mem_of_getElem? (i := 722) (by decide +kernel)⟩
def lw_privs_1 : List (MethodName × Nat) := [(⟨"KeyedTree$Sights", "fill", "()V"⟩, 2), (⟨"KeyedTree", "tryActs", "()I"⟩, 9), (⟨"KeyedTree$Pad", "sign", "(I)I"⟩, 2), (⟨"KeyedTree$Trial", "addWork", "()V"⟩, 10), (⟨"KeyedTree$Tree", "price", "(I)V"⟩, 10), (⟨"KeyedTree$Tree", "finish", "(I)V"⟩, 10), (⟨"KeyedTree$Tree", "spanBelow", "(I)J"⟩, 10), (⟨"KeyedTree$Trial", "seekAlike", "()V"⟩, 10), (⟨"KeyedTree", "shared", "(JJ)I"⟩, 9), (⟨"KeyedTree", "digest", "(JI)I"⟩, 9), (⟨"KeyedTree", "toldOfSets", "(I)I"⟩, 9), (⟨"KeyedTreeModel", "has", "(II)Z"⟩, 30), (⟨"KeyedTreeModel", "many", "(I)I"⟩, 30), (⟨"KeyedTreeModel", "readOn", "(II)I"⟩, 30), (⟨"KeyedTreeModel", "begin", "(I)I"⟩, 30), (⟨"KeyedTreeModel", "ends", "()I"⟩, 30)]
theorem lw_r1 : ∀ q ∈ lw_privs_1, lw_okq q := List.forall_mem_cons.mpr ⟨lw_p0, List.forall_mem_cons.mpr ⟨lw_p1, List.forall_mem_cons.mpr ⟨lw_p2, List.forall_mem_cons.mpr ⟨lw_p3, List.forall_mem_cons.mpr ⟨lw_p4, List.forall_mem_cons.mpr ⟨lw_p5, List.forall_mem_cons.mpr ⟨lw_p6, List.forall_mem_cons.mpr ⟨lw_p7, List.forall_mem_cons.mpr ⟨lw_p8, List.forall_mem_cons.mpr ⟨lw_p9, List.forall_mem_cons.mpr ⟨lw_p10, List.forall_mem_cons.mpr ⟨lw_p11, List.forall_mem_cons.mpr ⟨lw_p12, List.forall_mem_cons.mpr ⟨lw_p13, List.forall_mem_cons.mpr ⟨lw_p14, List.forall_mem_cons.mpr ⟨lw_p15, fun _ h => absurd h List.not_mem_nil⟩⟩⟩⟩⟩⟩⟩⟩⟩⟩⟩⟩⟩⟩⟩⟩
theorem lw_p16 : lw_okq (⟨"KeyedTreeModel", "begun", "(I)I"⟩, 30) := ⟨⟨by decide +kernel, by decide +kernel⟩, List.mem_of_getElem? (i := 571) (by decide +kernel), List.mem_of_getElem? (i := 725) (by decide +kernel), List.mem_of_getElem? (i := 726) (by decide +kernel)⟩
theorem lw_p17 : lw_okq (⟨"KeyedTreeModel", "deed", "(II)I"⟩, 30) := ⟨⟨by decide +kernel, by decide +kernel⟩, List.mem_of_getElem? (i := 571) (by decide +kernel), List.mem_of_getElem? (i := 729) (by decide +kernel), List.mem_of_getElem? (i := 730) (by decide +kernel)⟩
theorem lw_p18 : lw_okq (⟨"KeyedTreeModel", "another", "(I)I"⟩, 30) := ⟨⟨by decide +kernel, by decide +kernel⟩, List.mem_of_getElem? (i := 571) (by decide +kernel), List.mem_of_getElem? (i := 733) (by decide +kernel), List.mem_of_getElem? (i := 734) (by decide +kernel)⟩
theorem lw_p19 : lw_okq (⟨"KeyedTreeModel", "figure", "(II)I"⟩, 30) := ⟨⟨by decide +kernel, by decide +kernel⟩, List.mem_of_getElem? (i := 571) (by decide +kernel), List.mem_of_getElem? (i := 737) (by decide +kernel), List.mem_of_getElem? (i := 738) (by decide +kernel)⟩
theorem lw_p20 : lw_okq (⟨"KeyedTreeModel", "refusal", "(Z)I"⟩, 30) := ⟨⟨by decide +kernel, by decide +kernel⟩, List.mem_of_getElem? (i := 571) (by decide +kernel), List.mem_of_getElem? (i := 749) (by decide +kernel), List.mem_of_getElem? (i := 750) (by decide +kernel)⟩
theorem lw_p21 : lw_okq (⟨"KeyedTreeModel", "keepNow", "()V"⟩, 30) := ⟨⟨by decide +kernel, by decide +kernel⟩, List.mem_of_getElem? (i := 571) (by decide +kernel), List.mem_of_getElem? (i := 753) (by decide +kernel), List.mem_of_getElem? (i := 754) (by decide +kernel)⟩
theorem lw_p22 : lw_okq (⟨"KeyedTreeModel", "goActs", "()V"⟩, 30) := ⟨⟨by decide +kernel, by decide +kernel⟩, List.mem_of_getElem? (i := 571) (by decide +kernel), List.mem_of_getElem? (i := 758) (by decide +kernel), List.mem_of_getElem? (i := 759) (by decide +kernel)⟩
theorem lw_p23 : lw_okq (⟨"KeyedTreeModel", "whyNot", "(IIII)I"⟩, 30) := ⟨⟨by decide +kernel, by decide +kernel⟩, List.mem_of_getElem? (i := 571) (by decide +kernel), List.mem_of_getElem? (i := 762) (by decide +kernel), List.mem_of_getElem? (i := 763) (by decide +kernel)⟩
theorem lw_p24 : lw_okq (⟨"KeyedTreeModel", "whyNoKey", "(III)I"⟩, 30) := ⟨⟨by decide +kernel, by decide +kernel⟩, List.mem_of_getElem? (i := 571) (by decide +kernel), List.mem_of_getElem? (i := 766) (by decide +kernel), List.mem_of_getElem? (i := 767) (by decide +kernel)⟩
theorem lw_p25 : lw_okq (⟨"KeyedTreeModel", "whyNoJoin", "(II)I"⟩, 30) := ⟨⟨by decide +kernel, by decide +kernel⟩, List.mem_of_getElem? (i := 571) (by decide +kernel), List.mem_of_getElem? (i := 770) (by decide +kernel), List.mem_of_getElem? (i := 771) (by decide +kernel)⟩
theorem lw_p26 : lw_okq (⟨"KeyedTreeModel", "ofBoth", "(II)I"⟩, 30) := ⟨⟨by decide +kernel, by decide +kernel⟩, List.mem_of_getElem? (i := 571) (by decide +kernel), List.mem_of_getElem? (i := 774) (by decide +kernel), List.mem_of_getElem? (i := 775) (by decide +kernel)⟩
theorem lw_p27 : lw_okq (⟨"KeyedTreeModel", "isBeyond", "(II)Z"⟩, 30) := ⟨⟨by decide +kernel, by decide +kernel⟩, List.mem_of_getElem? (i := 571) (by decide +kernel), List.mem_of_getElem? (i := 778) (by decide +kernel), List.mem_of_getElem? (i := 779) (by decide +kernel)⟩
theorem lw_p28 : lw_okq (⟨"KeyedTreeModel", "goOne", "(I)V"⟩, 30) := ⟨⟨by decide +kernel, by decide +kernel⟩, List.mem_of_getElem? (i := 571) (by decide +kernel), List.mem_of_getElem? (i := 782) (by decide +kernel), List.mem_of_getElem? (i := 783) (by decide +kernel)⟩
theorem lw_p29 : lw_okq (⟨"KeyedTreeModel", "alikeOnes", "()I"⟩, 30) := ⟨⟨by decide +kernel, by decide +kernel⟩, List.mem_of_getElem? (i := 571) (by decide +kernel), List.mem_of_getElem? (i := 786) (by decide +kernel), List.mem_of_getElem? (i := 787) (by decide +kernel)⟩
theorem lw_p30 : lw_okq (⟨"KeyedTreeModel", "areAlike", "(II)Z"⟩, 30) := ⟨⟨by decide +kernel, by decide +kernel⟩, List.mem_of_getElem? (i := 571) (by decide +kernel), List.mem_of_getElem? (i := 790) (by decide +kernel), List.mem_of_getElem? (i := 791) (by decide +kernel)⟩
theorem lw_p31 : lw_okq (⟨"KeyedTreeModel", "findTrees", "()V"⟩, 30) := ⟨⟨by decide +kernel, by decide +kernel⟩, List.mem_of_getElem? (i := 571) (by decide +kernel), List.mem_of_getElem? (i := 794) (by decide +kernel), List.mem_of_getElem? (i := 795) (by decide +kernel)⟩
def lw_privs_2 : List (MethodName × Nat) := [(⟨"KeyedTreeModel", "begun", "(I)I"⟩, 30), (⟨"KeyedTreeModel", "deed", "(II)I"⟩, 30), (⟨"KeyedTreeModel", "another", "(I)I"⟩, 30), (⟨"KeyedTreeModel", "figure", "(II)I"⟩, 30), (⟨"KeyedTreeModel", "refusal", "(Z)I"⟩, 30), (⟨"KeyedTreeModel", "keepNow", "()V"⟩, 30), (⟨"KeyedTreeModel", "goActs", "()V"⟩, 30), (⟨"KeyedTreeModel", "whyNot", "(IIII)I"⟩, 30), (⟨"KeyedTreeModel", "whyNoKey", "(III)I"⟩, 30), (⟨"KeyedTreeModel", "whyNoJoin", "(II)I"⟩, 30), (⟨"KeyedTreeModel", "ofBoth", "(II)I"⟩, 30), (⟨"KeyedTreeModel", "isBeyond", "(II)Z"⟩, 30), (⟨"KeyedTreeModel", "goOne", "(I)V"⟩, 30), (⟨"KeyedTreeModel", "alikeOnes", "()I"⟩, 30), (⟨"KeyedTreeModel", "areAlike", "(II)Z"⟩, 30), (⟨"KeyedTreeModel", "findTrees", "()V"⟩, 30)]
theorem lw_r2 : ∀ q ∈ lw_privs_2, lw_okq q := List.forall_mem_cons.mpr ⟨lw_p16, List.forall_mem_cons.mpr ⟨lw_p17, List.forall_mem_cons.mpr ⟨lw_p18, List.forall_mem_cons.mpr ⟨lw_p19, List.forall_mem_cons.mpr ⟨lw_p20, List.forall_mem_cons.mpr ⟨lw_p21, List.forall_mem_cons.mpr ⟨lw_p22, List.forall_mem_cons.mpr ⟨lw_p23, List.forall_mem_cons.mpr ⟨lw_p24, List.forall_mem_cons.mpr ⟨lw_p25, List.forall_mem_cons.mpr ⟨lw_p26, List.forall_mem_cons.mpr ⟨lw_p27, List.forall_mem_cons.mpr ⟨lw_p28, List.forall_mem_cons.mpr ⟨lw_p29, List.forall_mem_cons.mpr ⟨lw_p30, List.forall_mem_cons.mpr ⟨lw_p31, fun _ h => absurd h List.not_mem_nil⟩⟩⟩⟩⟩⟩⟩⟩⟩⟩⟩⟩⟩⟩⟩⟩
theorem lw_p32 : lw_okq (⟨"KeyedTreeModel", "treeOf", "(II)J"⟩, 30) := ⟨⟨by decide +kernel, by decide +kernel⟩, List.mem_of_getElem? (i := 571) (by decide +kernel), List.mem_of_getElem? (i := 798) (by decide +kernel), List.mem_of_getElem? (i := 799) (by decide +kernel)⟩
theorem lw_p33 : lw_okq (⟨"KeyedTreeModel", "beyond", "(III)I"⟩, 30) := ⟨⟨by decide +kernel, by decide +kernel⟩, List.mem_of_getElem? (i := 571) (by decide +kernel), List.mem_of_getElem? (i := 802) (by decide +kernel), List.mem_of_getElem? (i := 803) (by decide +kernel)⟩
theorem lw_p34 : lw_okq (⟨"KeyedTreeModel", "ranks", "(II)Z"⟩, 30) := ⟨⟨by decide +kernel, by decide +kernel⟩, List.mem_of_getElem? (i := 571) (by decide +kernel), List.mem_of_getElem? (i := 806) (by decide +kernel), List.mem_of_getElem? (i := 807) (by decide +kernel)⟩
theorem lw_p35 : lw_okq (⟨"KeyedTreeModel", "below", "(III)I"⟩, 30) := ⟨⟨by decide +kernel, by decide +kernel⟩, List.mem_of_getElem? (i := 571) (by decide +kernel), List.mem_of_getElem? (i := 816) (by decide +kernel), List.mem_of_getElem? (i := 817) (by decide +kernel)⟩
theorem lw_p36 : lw_okq (⟨"KeyedTreeModel", "happen", "(IIII)V"⟩, 30) := ⟨⟨by decide +kernel, by decide +kernel⟩, List.mem_of_getElem? (i := 571) (by decide +kernel), List.mem_of_getElem? (i := 820) (by decide +kernel), List.mem_of_getElem? (i := 821) (by decide +kernel)⟩
theorem lw_p37 : lw_okq (⟨"KeyedTreeModel", "part", "(III)V"⟩, 30) := ⟨⟨by decide +kernel, by decide +kernel⟩, List.mem_of_getElem? (i := 571) (by decide +kernel), List.mem_of_getElem? (i := 824) (by decide +kernel), List.mem_of_getElem? (i := 825) (by decide +kernel)⟩
theorem lw_p38 : lw_okq (⟨"KeyedTreeModel", "both", "(III)V"⟩, 30) := ⟨⟨by decide +kernel, by decide +kernel⟩, List.mem_of_getElem? (i := 571) (by decide +kernel), List.mem_of_getElem? (i := 828) (by decide +kernel), List.mem_of_getElem? (i := 829) (by decide +kernel)⟩
theorem lw_p39 : lw_okq (⟨"KeyedTreeModel", "by", "(III)I"⟩, 30) := ⟨⟨by decide +kernel, by decide +kernel⟩, List.mem_of_getElem? (i := 571) (by decide +kernel), List.mem_of_getElem? (i := 832) (by decide +kernel), List.mem_of_getElem? (i := 833) (by decide +kernel)⟩
theorem lw_p40 : lw_okq (⟨"KeyedTreeModel", "workNow", "()I"⟩, 30) := ⟨⟨by decide +kernel, by decide +kernel⟩, List.mem_of_getElem? (i := 571) (by decide +kernel), List.mem_of_getElem? (i := 836) (by decide +kernel), List.mem_of_getElem? (i := 837) (by decide +kernel)⟩
theorem lw_p41 : lw_okq (⟨"KeyedTreeModel", "back", "(I)I"⟩, 30) := ⟨⟨by decide +kernel, by decide +kernel⟩, List.mem_of_getElem? (i := 571) (by decide +kernel), List.mem_of_getElem? (i := 843) (by decide +kernel), List.mem_of_getElem? (i := 844) (by decide +kernel)⟩
theorem lw_p42 : lw_okq (⟨"KeyedTreeModel", "ofSet", "(II)I"⟩, 30) := ⟨⟨by decide +kernel, by decide +kernel⟩, List.mem_of_getElem? (i := 571) (by decide +kernel), List.mem_of_getElem? (i := 851) (by decide +kernel), List.mem_of_getElem? (i := 852) (by decide +kernel)⟩
theorem lw_p43 : lw_okq (⟨"KeyedTreeModel", "digestOf", "(III)I"⟩, 30) := ⟨⟨by decide +kernel, by decide +kernel⟩, List.mem_of_getElem? (i := 571) (by decide +kernel), List.mem_of_getElem? (i := 855) (by decide +kernel), List.mem_of_getElem? (i := 856) (by decide +kernel)⟩
theorem lw_p44 : lw_okq (⟨"KeyedTreeModel", "findOrder", "()V"⟩, 30) := ⟨⟨by decide +kernel, by decide +kernel⟩, List.mem_of_getElem? (i := 571) (by decide +kernel), List.mem_of_getElem? (i := 859) (by decide +kernel), List.mem_of_getElem? (i := 860) (by decide +kernel)⟩
theorem lw_p45 : lw_okq (⟨"KeyedTreeModel", "findOne", "(IIII)V"⟩, 30) := ⟨⟨by decide +kernel, by decide +kernel⟩, List.mem_of_getElem? (i := 571) (by decide +kernel), List.mem_of_getElem? (i := 863) (by decide +kernel), List.mem_of_getElem? (i := 864) (by decide +kernel)⟩
theorem lw_p46 : lw_okq (⟨"KeyedTreeModel", "rootOf", "(III)I"⟩, 30) := ⟨⟨by decide +kernel, by decide +kernel⟩, List.mem_of_getElem? (i := 571) (by decide +kernel), List.mem_of_getElem? (i := 867) (by decide +kernel), List.mem_of_getElem? (i := 868) (by decide +kernel)⟩
theorem lw_p47 : lw_okq (⟨"KeyedTreeModel", "aboveOf", "(II)I"⟩, 30) := ⟨⟨by decide +kernel, by decide +kernel⟩, List.mem_of_getElem? (i := 571) (by decide +kernel), List.mem_of_getElem? (i := 887) (by decide +kernel), List.mem_of_getElem? (i := 888) (by decide +kernel)⟩
def lw_privs_3 : List (MethodName × Nat) := [(⟨"KeyedTreeModel", "treeOf", "(II)J"⟩, 30), (⟨"KeyedTreeModel", "beyond", "(III)I"⟩, 30), (⟨"KeyedTreeModel", "ranks", "(II)Z"⟩, 30), (⟨"KeyedTreeModel", "below", "(III)I"⟩, 30), (⟨"KeyedTreeModel", "happen", "(IIII)V"⟩, 30), (⟨"KeyedTreeModel", "part", "(III)V"⟩, 30), (⟨"KeyedTreeModel", "both", "(III)V"⟩, 30), (⟨"KeyedTreeModel", "by", "(III)I"⟩, 30), (⟨"KeyedTreeModel", "workNow", "()I"⟩, 30), (⟨"KeyedTreeModel", "back", "(I)I"⟩, 30), (⟨"KeyedTreeModel", "ofSet", "(II)I"⟩, 30), (⟨"KeyedTreeModel", "digestOf", "(III)I"⟩, 30), (⟨"KeyedTreeModel", "findOrder", "()V"⟩, 30), (⟨"KeyedTreeModel", "findOne", "(IIII)V"⟩, 30), (⟨"KeyedTreeModel", "rootOf", "(III)I"⟩, 30), (⟨"KeyedTreeModel", "aboveOf", "(II)I"⟩, 30)]
theorem lw_r3 : ∀ q ∈ lw_privs_3, lw_okq q := List.forall_mem_cons.mpr ⟨lw_p32, List.forall_mem_cons.mpr ⟨lw_p33, List.forall_mem_cons.mpr ⟨lw_p34, List.forall_mem_cons.mpr ⟨lw_p35, List.forall_mem_cons.mpr ⟨lw_p36, List.forall_mem_cons.mpr ⟨lw_p37, List.forall_mem_cons.mpr ⟨lw_p38, List.forall_mem_cons.mpr ⟨lw_p39, List.forall_mem_cons.mpr ⟨lw_p40, List.forall_mem_cons.mpr ⟨lw_p41, List.forall_mem_cons.mpr ⟨lw_p42, List.forall_mem_cons.mpr ⟨lw_p43, List.forall_mem_cons.mpr ⟨lw_p44, List.forall_mem_cons.mpr ⟨lw_p45, List.forall_mem_cons.mpr ⟨lw_p46, List.forall_mem_cons.mpr ⟨lw_p47, fun _ h => absurd h List.not_mem_nil⟩⟩⟩⟩⟩⟩⟩⟩⟩⟩⟩⟩⟩⟩⟩⟩
theorem lw_p48 : lw_okq (⟨"KeyedTreeModel", "digestAt", "(II)I"⟩, 30) := ⟨⟨by decide +kernel, by decide +kernel⟩, List.mem_of_getElem? (i := 571) (by decide +kernel), List.mem_of_getElem? (i := 894) (by decide +kernel), List.mem_of_getElem? (i := 895) (by decide +kernel)⟩
theorem lw_p49 : lw_okq (⟨"KeyedTreeModel", "depthOf", "(II)I"⟩, 30) := ⟨⟨by decide +kernel, by decide +kernel⟩, List.mem_of_getElem? (i := 571) (by decide +kernel), List.mem_of_getElem? (i := 898) (by decide +kernel), List.mem_of_getElem? (i := 899) (by decide +kernel)⟩
theorem lw_p50 : lw_okq (⟨"KeyedTreeModel", "apartMany", "(II)I"⟩, 30) := ⟨⟨by decide +kernel, by decide +kernel⟩, List.mem_of_getElem? (i := 571) (by decide +kernel), List.mem_of_getElem? (i := 914) (by decide +kernel), List.mem_of_getElem? (i := 915) (by decide +kernel)⟩
theorem lw_p51 : lw_okq (⟨"KeyedTreeModel", "looks", "(II)I"⟩, 30) := ⟨⟨by decide +kernel, by decide +kernel⟩, List.mem_of_getElem? (i := 571) (by decide +kernel), List.mem_of_getElem? (i := 918) (by decide +kernel), List.mem_of_getElem? (i := 919) (by decide +kernel)⟩
theorem lw_p52 : lw_okq (⟨"KeyedTreeModel", "partsAt", "(IIII)I"⟩, 30) := ⟨⟨by decide +kernel, by decide +kernel⟩, List.mem_of_getElem? (i := 571) (by decide +kernel), List.mem_of_getElem? (i := 922) (by decide +kernel), List.mem_of_getElem? (i := 923) (by decide +kernel)⟩
theorem lw_p53 : lw_okq (⟨"KeyedTreeModel", "shared", "(II)I"⟩, 30) := ⟨⟨by decide +kernel, by decide +kernel⟩, List.mem_of_getElem? (i := 571) (by decide +kernel), List.mem_of_getElem? (i := 926) (by decide +kernel), List.mem_of_getElem? (i := 927) (by decide +kernel)⟩
theorem lw_p54 : lw_okq (⟨"KeyedTreeModel", "isFit", "(I)Z"⟩, 30) := ⟨⟨by decide +kernel, by decide +kernel⟩, List.mem_of_getElem? (i := 571) (by decide +kernel), List.mem_of_getElem? (i := 946) (by decide +kernel), List.mem_of_getElem? (i := 947) (by decide +kernel)⟩
theorem lw_p55 : lw_okq (⟨"KeyedTreeModel", "drawn", "(II)V"⟩, 30) := ⟨⟨by decide +kernel, by decide +kernel⟩, List.mem_of_getElem? (i := 571) (by decide +kernel), List.mem_of_getElem? (i := 979) (by decide +kernel), List.mem_of_getElem? (i := 980) (by decide +kernel)⟩
theorem lw_p56 : lw_okq (⟨"KeyedTreeModel", "passAll", "()V"⟩, 30) := ⟨⟨by decide +kernel, by decide +kernel⟩, List.mem_of_getElem? (i := 571) (by decide +kernel), List.mem_of_getElem? (i := 990) (by decide +kernel), List.mem_of_getElem? (i := 991) (by decide +kernel)⟩
theorem lw_p57 : lw_okq (⟨"KeyedTreeModel", "pass", "(I)I"⟩, 30) := ⟨⟨by decide +kernel, by decide +kernel⟩, List.mem_of_getElem? (i := 571) (by decide +kernel), List.mem_of_getElem? (i := 994) (by decide +kernel), List.mem_of_getElem? (i := 995) (by decide +kernel)⟩
theorem lw_p58 : lw_okq (⟨"KeyedTreeModel", "passRow", "([II)V"⟩, 30) := ⟨⟨by decide +kernel, by decide +kernel⟩, List.mem_of_getElem? (i := 571) (by decide +kernel), List.mem_of_getElem? (i := 998) (by decide +kernel), List.mem_of_getElem? (i := 999) (by decide +kernel)⟩
def lw_privs_4 : List (MethodName × Nat) := [(⟨"KeyedTreeModel", "digestAt", "(II)I"⟩, 30), (⟨"KeyedTreeModel", "depthOf", "(II)I"⟩, 30), (⟨"KeyedTreeModel", "apartMany", "(II)I"⟩, 30), (⟨"KeyedTreeModel", "looks", "(II)I"⟩, 30), (⟨"KeyedTreeModel", "partsAt", "(IIII)I"⟩, 30), (⟨"KeyedTreeModel", "shared", "(II)I"⟩, 30), (⟨"KeyedTreeModel", "isFit", "(I)Z"⟩, 30), (⟨"KeyedTreeModel", "drawn", "(II)V"⟩, 30), (⟨"KeyedTreeModel", "passAll", "()V"⟩, 30), (⟨"KeyedTreeModel", "pass", "(I)I"⟩, 30), (⟨"KeyedTreeModel", "passRow", "([II)V"⟩, 30)]
theorem lw_r4 : ∀ q ∈ lw_privs_4, lw_okq q := List.forall_mem_cons.mpr ⟨lw_p48, List.forall_mem_cons.mpr ⟨lw_p49, List.forall_mem_cons.mpr ⟨lw_p50, List.forall_mem_cons.mpr ⟨lw_p51, List.forall_mem_cons.mpr ⟨lw_p52, List.forall_mem_cons.mpr ⟨lw_p53, List.forall_mem_cons.mpr ⟨lw_p54, List.forall_mem_cons.mpr ⟨lw_p55, List.forall_mem_cons.mpr ⟨lw_p56, List.forall_mem_cons.mpr ⟨lw_p57, List.forall_mem_cons.mpr ⟨lw_p58, fun _ h => absurd h List.not_mem_nil⟩⟩⟩⟩⟩⟩⟩⟩⟩⟩⟩
def lw_privs : List (MethodName × Nat) := lw_privs_1 ++ (lw_privs_2 ++ (lw_privs_3 ++ (lw_privs_4)))
def lw_tbl : List Cond := k2_sels lw_privs ++ tables_1
theorem lw_privs_ok : ∀ q ∈ lw_privs, lw_okq q := by
  show ∀ q ∈ lw_privs_1 ++ (lw_privs_2 ++ (lw_privs_3 ++ (lw_privs_4))), lw_okq q
  exact List.forall_mem_append.mpr ⟨lw_r1, List.forall_mem_append.mpr ⟨lw_r2, List.forall_mem_append.mpr ⟨lw_r3, lw_r4⟩⟩⟩
end
section
/-! ===== BEGIN words of one list among another's, by their places ===== -/
theorem goodIn_r {big : List Cond} (ws : List Cond) (ps : List Nat) (hp : ws = ps.filterMap (fun i => big[i]?)) (h : ws.all goodWord = true) : GoodIn big ws := by
  intro w hw
  have h1 := List.all_eq_true.mp h w hw
  rw [hp] at hw
  obtain ⟨i, -, hi⟩ := List.mem_filterMap.mp hw
  have hm : w ∈ big := by first | exact List.mem_of_getElem? hi | exact List.getElem?_mem hi
  exact ⟨hm, good_of_word h1⟩
theorem goodIn_app {big a b : List Cond} (ha : GoodIn big a) (hb : GoodIn big b) : GoodIn big (a ++ b) := fun w h => (List.mem_append.mp h).elim (ha w) (hb w)
theorem goodIn_ca {big a b : List Cond} {c : Cond} (ha : GoodIn big (c :: a)) (hb : GoodIn big b) : GoodIn big (c :: (a ++ b)) := fun w h => (List.mem_cons.mp h).elim (fun e => ha w (List.mem_cons.mpr (Or.inl e))) (fun h => (List.mem_append.mp h).elim (fun h => ha w (List.mem_cons.mpr (Or.inr h))) (hb w))
theorem goodIn_sub {big ws : List Cond} (hm : ∀ w ∈ ws, w ∈ big) (h : ws.all goodWord = true) : GoodIn big ws := fun w hw => ⟨hm w hw, good_of_word (List.all_eq_true.mp h w hw)⟩
/-! ===== END ===== -/

/-! ===== BEGIN printed: names, fields, word lists, decode rows ===== -/
def RX0 : String := "KeyedTree$Act"
def TX0 : u_T := fun k => match k with
  | 0 => ("KeyedTree$Act", "kind", "I", false)
  | 1 => ("KeyedTree$Act", "set", "I", false)
  | 2 => ("KeyedTree$Act", "key", "I", false)
  | _ => ("KeyedTree$Act", "other", "I", false)
def tyX0 : Nat → FieldType := fun k => match k with
  | 0 => .int
  | 1 => .int
  | 2 => .int
  | _ => .int
abbrev wsX00 : List Cond := u_ws RX0 TX0 4
theorem nmX0 : ∀ a, a < 4 → ∀ b, b < 4 → a ≠ b → (TX0 a).2.1 ≠ (TX0 b).2.1 := by decide +kernel
theorem tyX0_ok : ∀ k, k < 4 → parseFieldDescriptor (TX0 k).2.2.1 = some (tyX0 k) := by decide +kernel
abbrev cX0_init : ByteArray := prog_2_method_1_code
def yX0_init : MethodName := ⟨RX0, "<init>", "()V"⟩
abbrev cX0_become : ByteArray := prog_2_method_2_code
def yX0_become : MethodName := ⟨RX0, "become", "(IIII)V"⟩
abbrev cX0_draw : ByteArray := prog_2_method_3_code
def yX0_draw : MethodName := ⟨RX0, "draw", "(I)V"⟩
def RX1 : String := "KeyedTree$Image"
def TX1 : u_T := fun k => match k with
  | 0 => ("KeyedTree$Image", "kept", "Z", false)
  | 1 => ("KeyedTree$Image", "world", "LKeyedTree$World;", true)
  | _ => ("KeyedTree$Image", "sights", "LKeyedTree$Sights;", true)
def tyX1 : Nat → FieldType := fun k => match k with
  | 0 => .boolean
  | 1 => .object "KeyedTree$World"
  | _ => .object "KeyedTree$Sights"
abbrev wsX10 : List Cond := u_ws RX1 TX1 3
theorem nmX1 : ∀ a, a < 3 → ∀ b, b < 3 → a ≠ b → (TX1 a).2.1 ≠ (TX1 b).2.1 := by decide +kernel
theorem tyX1_ok : ∀ k, k < 3 → parseFieldDescriptor (TX1 k).2.2.1 = some (tyX1 k) := by decide +kernel
abbrev cX1_init : ByteArray := prog_3_method_1_code
def yX1_init : MethodName := ⟨RX1, "<init>", "()V"⟩
def RX2 : String := "KeyedTree$Pad"
def TX2 : u_T := fun k => match k with
  | 0 => ("KeyedTree$Pad", "signs", "[I", true)
  | _ => ("KeyedTree$Pad", "count", "I", false)
def tyX2 : Nat → FieldType := fun k => match k with
  | 0 => .array .int
  | _ => .int
abbrev wsX20 : List Cond := u_ws RX2 TX2 2
theorem nmX2 : ∀ a, a < 2 → ∀ b, b < 2 → a ≠ b → (TX2 a).2.1 ≠ (TX2 b).2.1 := by decide +kernel
theorem tyX2_ok : ∀ k, k < 2 → parseFieldDescriptor (TX2 k).2.2.1 = some (tyX2 k) := by decide +kernel
abbrev cX2_init : ByteArray := prog_4_method_1_code
def yX2_init : MethodName := ⟨RX2, "<init>", "()V"⟩
abbrev cX2_write : ByteArray := prog_4_method_2_code
def yX2_write : MethodName := ⟨RX2, "write", "(I)Z"⟩
abbrev cX2_clear : ByteArray := prog_4_method_3_code
def yX2_clear : MethodName := ⟨RX2, "clear", "()V"⟩
abbrev cX2_firstFault : ByteArray := prog_4_method_4_code
def yX2_firstFault : MethodName := ⟨RX2, "firstFault", "()I"⟩
abbrev cX2_follow : ByteArray := prog_4_method_5_code
def yX2_follow : MethodName := ⟨RX2, "follow", "(II)I"⟩
abbrev cX2_followKind : ByteArray := prog_4_method_6_code
def yX2_followKind : MethodName := ⟨RX2, "followKind", "(I)I"⟩
abbrev cX2_isLetter : ByteArray := prog_4_method_7_code
def yX2_isLetter : MethodName := ⟨RX2, "isLetter", "(I)Z"⟩
abbrev cX2_isTens : ByteArray := prog_4_method_8_code
def yX2_isTens : MethodName := ⟨RX2, "isTens", "(I)Z"⟩
abbrev cX2_isFigure : ByteArray := prog_4_method_9_code
def yX2_isFigure : MethodName := ⟨RX2, "isFigure", "(I)Z"⟩
abbrev cX2_read : ByteArray := prog_4_method_10_code
def yX2_read : MethodName := ⟨RX2, "read", "(ILKeyedTree$Act;)I"⟩
abbrev cX2_sign : ByteArray := prog_4_method_11_code
def yX2_sign : MethodName := ⟨RX2, "sign", "(I)I"⟩
def RX3 : String := "KeyedTree$Sights"
def TX3 : u_T := fun k => match k with
  | 0 => ("KeyedTree$Sights", "count", "I", false)
  | _ => ("KeyedTree$Sights", "seeds", "[J", true)
def tyX3 : Nat → FieldType := fun k => match k with
  | 0 => .int
  | _ => .array .long
abbrev wsX30 : List Cond := u_ws RX3 TX3 2
theorem nmX3 : ∀ a, a < 2 → ∀ b, b < 2 → a ≠ b → (TX3 a).2.1 ≠ (TX3 b).2.1 := by decide +kernel
theorem tyX3_ok : ∀ k, k < 2 → parseFieldDescriptor (TX3 k).2.2.1 = some (tyX3 k) := by decide +kernel
abbrev cX3_init : ByteArray := prog_5_method_1_code
def yX3_init : MethodName := ⟨RX3, "<init>", "()V"⟩
abbrev cX3_fill : ByteArray := prog_5_method_2_code
def yX3_fill : MethodName := ⟨RX3, "fill", "()V"⟩
abbrev cX3_clear : ByteArray := prog_5_method_3_code
def yX3_clear : MethodName := ⟨RX3, "clear", "()V"⟩
abbrev cX3_copy : ByteArray := prog_5_method_4_code
def yX3_copy : MethodName := ⟨RX3, "copy", "(LKeyedTree$Sights;)V"⟩
abbrev cX3_add : ByteArray := prog_5_method_5_code
def yX3_add : MethodName := ⟨RX3, "add", "(II)Z"⟩
abbrev cX3_countSeeds : ByteArray := prog_5_method_6_code
def yX3_countSeeds : MethodName := ⟨RX3, "countSeeds", "()I"⟩
abbrev cX3_pickSeed : ByteArray := prog_5_method_7_code
def yX3_pickSeed : MethodName := ⟨RX3, "pickSeed", "(I)I"⟩
abbrev cX3_pickBit : ByteArray := prog_5_method_8_code
def yX3_pickBit : MethodName := ⟨RX3, "pickBit", "(JI)I"⟩
def RX4 : String := "KeyedTree$Tree"
def TX4 : u_T := fun k => match k with
  | 0 => ("KeyedTree$Tree", "left", "[I", true)
  | 1 => ("KeyedTree$Tree", "right", "[I", true)
  | 2 => ("KeyedTree$Tree", "parent", "[I", true)
  | 3 => ("KeyedTree$Tree", "span", "[J", true)
  | 4 => ("KeyedTree$Tree", "root", "I", false)
  | 5 => ("KeyedTree$Tree", "digest", "[I", true)
  | 6 => ("KeyedTree$Tree", "height", "[I", true)
  | 7 => ("KeyedTree$Tree", "priority", "[I", true)
  | 8 => ("KeyedTree$Tree", "pricedBy", "I", false)
  | _ => ("KeyedTree$Tree", "open", "[I", true)
def tyX4 : Nat → FieldType := fun k => match k with
  | 0 => .array .int
  | 1 => .array .int
  | 2 => .array .int
  | 3 => .array .long
  | 4 => .int
  | 5 => .array .int
  | 6 => .array .int
  | 7 => .array .int
  | 8 => .int
  | _ => .array .int
abbrev wsX40 : List Cond := u_ws RX4 TX4 10
theorem nmX4 : ∀ a, a < 10 → ∀ b, b < 10 → a ≠ b → (TX4 a).2.1 ≠ (TX4 b).2.1 := by decide +kernel
theorem tyX4_ok : ∀ k, k < 10 → parseFieldDescriptor (TX4 k).2.2.1 = some (tyX4 k) := by decide +kernel
abbrev cX4_init : ByteArray := prog_6_method_1_code
def yX4_init : MethodName := ⟨RX4, "<init>", "()V"⟩
abbrev cX4_grow : ByteArray := prog_6_method_2_code
def yX4_grow : MethodName := ⟨RX4, "grow", "(JI)V"⟩
abbrev cX4_price : ByteArray := prog_6_method_3_code
def yX4_price : MethodName := ⟨RX4, "price", "(I)V"⟩
abbrev cX4_finish : ByteArray := prog_6_method_4_code
def yX4_finish : MethodName := ⟨RX4, "finish", "(I)V"⟩
abbrev cX4_spanBelow : ByteArray := prog_6_method_5_code
def yX4_spanBelow : MethodName := ⟨RX4, "spanBelow", "(I)J"⟩
abbrev cX4_sizeBelow : ByteArray := prog_6_method_6_code
def yX4_sizeBelow : MethodName := ⟨RX4, "sizeBelow", "(I)I"⟩
abbrev cX4_heightBelow : ByteArray := prog_6_method_7_code
def yX4_heightBelow : MethodName := ⟨RX4, "heightBelow", "(I)I"⟩
abbrev cX4_digestBelow : ByteArray := prog_6_method_8_code
def yX4_digestBelow : MethodName := ⟨RX4, "digestBelow", "(I)I"⟩
abbrev cX4_depth : ByteArray := prog_6_method_9_code
def yX4_depth : MethodName := ⟨RX4, "depth", "(I)I"⟩
def RX5 : String := "KeyedTree$Trial"
def TX5 : u_T := fun k => match k with
  | 0 => ("KeyedTree$Trial", "act", "LKeyedTree$Act;", true)
  | 1 => ("KeyedTree$Trial", "treeBefore", "LKeyedTree$Tree;", true)
  | 2 => ("KeyedTree$Trial", "treeAfter", "LKeyedTree$Tree;", true)
  | 3 => ("KeyedTree$Trial", "after", "LKeyedTree$World;", true)
  | 4 => ("KeyedTree$Trial", "before", "LKeyedTree$World;", true)
  | 5 => ("KeyedTree$Trial", "acts", "I", false)
  | 6 => ("KeyedTree$Trial", "whyNot", "I", false)
  | 7 => ("KeyedTree$Trial", "work", "I", false)
  | 8 => ("KeyedTree$Trial", "alikeAct", "I", false)
  | _ => ("KeyedTree$Trial", "alikePair", "I", false)
def tyX5 : Nat → FieldType := fun k => match k with
  | 0 => .object "KeyedTree$Act"
  | 1 => .object "KeyedTree$Tree"
  | 2 => .object "KeyedTree$Tree"
  | 3 => .object "KeyedTree$World"
  | 4 => .object "KeyedTree$World"
  | 5 => .int
  | 6 => .int
  | 7 => .int
  | 8 => .int
  | _ => .int
abbrev wsX50 : List Cond := u_ws RX5 TX5 10
theorem nmX5 : ∀ a, a < 10 → ∀ b, b < 10 → a ≠ b → (TX5 a).2.1 ≠ (TX5 b).2.1 := by decide +kernel
theorem tyX5_ok : ∀ k, k < 10 → parseFieldDescriptor (TX5 k).2.2.1 = some (tyX5 k) := by decide +kernel
abbrev cX5_init : ByteArray := prog_7_method_1_code
def yX5_init : MethodName := ⟨RX5, "<init>", "()V"⟩
abbrev cX5_play : ByteArray := prog_7_method_2_code
def yX5_play : MethodName := ⟨RX5, "play", "(LKeyedTree$Pad;LKeyedTree$World;)V"⟩
abbrev cX5_addWork : ByteArray := prog_7_method_3_code
def yX5_addWork : MethodName := ⟨RX5, "addWork", "()V"⟩
abbrev cX5_seekAlike : ByteArray := prog_7_method_4_code
def yX5_seekAlike : MethodName := ⟨RX5, "seekAlike", "()V"⟩
abbrev cX5_sameKeys : ByteArray := prog_7_method_5_code
def yX5_sameKeys : MethodName := ⟨RX5, "sameKeys", "(LKeyedTree$World;II)Z"⟩
def RX6 : String := "KeyedTree$World"
def TX6 : u_T := fun k => match k with
  | 0 => ("KeyedTree$World", "keys", "[J", true)
  | _ => ("KeyedTree$World", "seed", "I", false)
def tyX6 : Nat → FieldType := fun k => match k with
  | 0 => .array .long
  | _ => .int
abbrev wsX60 : List Cond := u_ws RX6 TX6 2
theorem nmX6 : ∀ a, a < 2 → ∀ b, b < 2 → a ≠ b → (TX6 a).2.1 ≠ (TX6 b).2.1 := by decide +kernel
theorem tyX6_ok : ∀ k, k < 2 → parseFieldDescriptor (TX6 k).2.2.1 = some (tyX6 k) := by decide +kernel
abbrev cX6_init : ByteArray := prog_8_method_1_code
def yX6_init : MethodName := ⟨RX6, "<init>", "()V"⟩
abbrev cX6_copy : ByteArray := prog_8_method_2_code
def yX6_copy : MethodName := ⟨RX6, "copy", "(LKeyedTree$World;)V"⟩
abbrev cX6_countAll : ByteArray := prog_8_method_3_code
def yX6_countAll : MethodName := ⟨RX6, "countAll", "()I"⟩
abbrev cX6_whyNot : ByteArray := prog_8_method_4_code
def yX6_whyNot : MethodName := ⟨RX6, "whyNot", "(LKeyedTree$Act;)I"⟩
abbrev cX6_whyNotOne : ByteArray := prog_8_method_5_code
def yX6_whyNotOne : MethodName := ⟨RX6, "whyNotOne", "(ZJI)I"⟩
abbrev cX6_whyNotTwo : ByteArray := prog_8_method_6_code
def yX6_whyNotTwo : MethodName := ⟨RX6, "whyNotTwo", "(IJJ)I"⟩
abbrev cX6_play : ByteArray := prog_8_method_7_code
def yX6_play : MethodName := ⟨RX6, "play", "(LKeyedTree$Act;)V"⟩
def RX7 : String := "KeyedTree"
def TX7 : u_T := fun k => match k with
  | 0 => ("KeyedTree", "now", "LKeyedTree$World;", true)
  | 1 => ("KeyedTree", "drawn", "LKeyedTree$World;", true)
  | 2 => ("KeyedTree", "pad", "LKeyedTree$Pad;", true)
  | 3 => ("KeyedTree", "sights", "LKeyedTree$Sights;", true)
  | 4 => ("KeyedTree", "images", "[LKeyedTree$Image;", true)
  | 5 => ("KeyedTree", "trial", "LKeyedTree$Trial;", true)
  | 6 => ("KeyedTree", "act", "LKeyedTree$Act;", true)
  | 7 => ("KeyedTree", "oneTree", "LKeyedTree$Tree;", true)
  | _ => ("KeyedTree", "otherTree", "LKeyedTree$Tree;", true)
def tyX7 : Nat → FieldType := fun k => match k with
  | 0 => .object "KeyedTree$World"
  | 1 => .object "KeyedTree$World"
  | 2 => .object "KeyedTree$Pad"
  | 3 => .object "KeyedTree$Sights"
  | 4 => .array (.object "KeyedTree$Image")
  | 5 => .object "KeyedTree$Trial"
  | 6 => .object "KeyedTree$Act"
  | 7 => .object "KeyedTree$Tree"
  | _ => .object "KeyedTree$Tree"
abbrev wsX70 : List Cond := u_ws RX7 TX7 9
theorem nmX7 : ∀ a, a < 9 → ∀ b, b < 9 → a ≠ b → (TX7 a).2.1 ≠ (TX7 b).2.1 := by decide +kernel
theorem tyX7_ok : ∀ k, k < 9 → parseFieldDescriptor (TX7 k).2.2.1 = some (tyX7 k) := by decide +kernel
abbrev cX7_init : ByteArray := prog_1_method_1_code
def yX7_init : MethodName := ⟨RX7, "<init>", "()V"⟩
abbrev cX7_seed : ByteArray := prog_1_method_2_code
def yX7_seed : MethodName := ⟨RX7, "seed", "(I)I"⟩
abbrev cX7_put : ByteArray := prog_1_method_3_code
def yX7_put : MethodName := ⟨RX7, "put", "(IIZ)I"⟩
abbrev cX7_say : ByteArray := prog_1_method_4_code
def yX7_say : MethodName := ⟨RX7, "say", "(I)I"⟩
abbrev cX7_wipe : ByteArray := prog_1_method_5_code
def yX7_wipe : MethodName := ⟨RX7, "wipe", "()I"⟩
abbrev cX7_fault : ByteArray := prog_1_method_6_code
def yX7_fault : MethodName := ⟨RX7, "fault", "()I"⟩
abbrev cX7_judge : ByteArray := prog_1_method_7_code
def yX7_judge : MethodName := ⟨RX7, "judge", "(I)I"⟩
abbrev cX7_behind : ByteArray := prog_1_method_8_code
def yX7_behind : MethodName := ⟨RX7, "behind", "(II)I"⟩
abbrev cX7_alike : ByteArray := prog_1_method_9_code
def yX7_alike : MethodName := ⟨RX7, "alike", "(I)I"⟩
abbrev cX7_done : ByteArray := prog_1_method_10_code
def yX7_done : MethodName := ⟨RX7, "done", "()I"⟩
abbrev cX7_tryActs : ByteArray := prog_1_method_11_code
def yX7_tryActs : MethodName := ⟨RX7, "tryActs", "()I"⟩
abbrev cX7_node : ByteArray := prog_1_method_12_code
def yX7_node : MethodName := ⟨RX7, "node", "(III)I"⟩
abbrev cX7_place : ByteArray := prog_1_method_13_code
def yX7_place : MethodName := ⟨RX7, "place", "(II)I"⟩
abbrev cX7_at : ByteArray := prog_1_method_14_code
def yX7_at : MethodName := ⟨RX7, "at", "(II)I"⟩
abbrev cX7_apart : ByteArray := prog_1_method_15_code
def yX7_apart : MethodName := ⟨RX7, "apart", "(III)I"⟩
abbrev cX7_differs : ByteArray := prog_1_method_16_code
def yX7_differs : MethodName := ⟨RX7, "differs", "(III)I"⟩
abbrev cX7_looks : ByteArray := prog_1_method_17_code
def yX7_looks : MethodName := ⟨RX7, "looks", "(LKeyedTree$Tree;LKeyedTree$Tree;JJII)I"⟩
abbrev cX7_shared : ByteArray := prog_1_method_18_code
def yX7_shared : MethodName := ⟨RX7, "shared", "(JJ)I"⟩
abbrev cX7_above : ByteArray := prog_1_method_19_code
def yX7_above : MethodName := ⟨RX7, "above", "(II)I"⟩
abbrev cX7_forget : ByteArray := prog_1_method_20_code
def yX7_forget : MethodName := ⟨RX7, "forget", "()I"⟩
abbrev cX7_seeds : ByteArray := prog_1_method_21_code
def yX7_seeds : MethodName := ⟨RX7, "seeds", "(I)I"⟩
abbrev cX7_orders : ByteArray := prog_1_method_22_code
def yX7_orders : MethodName := ⟨RX7, "orders", "(I)J"⟩
abbrev cX7_shapes : ByteArray := prog_1_method_23_code
def yX7_shapes : MethodName := ⟨RX7, "shapes", "(I)J"⟩
abbrev cX7_deep : ByteArray := prog_1_method_24_code
def yX7_deep : MethodName := ⟨RX7, "deep", "(III)J"⟩
abbrev cX7_run : ByteArray := prog_1_method_25_code
def yX7_run : MethodName := ⟨RX7, "run", "(III)I"⟩
abbrev cX7_image : ByteArray := prog_1_method_26_code
def yX7_image : MethodName := ⟨RX7, "image", "(I)I"⟩
abbrev cX7_restore : ByteArray := prog_1_method_27_code
def yX7_restore : MethodName := ⟨RX7, "restore", "(I)I"⟩
abbrev cX7_told : ByteArray := prog_1_method_28_code
def yX7_told : MethodName := ⟨RX7, "told", "(I)I"⟩
abbrev cX7_toldOfSets : ByteArray := prog_1_method_29_code
def yX7_toldOfSets : MethodName := ⟨RX7, "toldOfSets", "(I)I"⟩
abbrev cX7_digest : ByteArray := prog_1_method_30_code
def yX7_digest : MethodName := ⟨RX7, "digest", "(JI)I"⟩
abbrev cX7_isSet : ByteArray := prog_1_method_31_code
def yX7_isSet : MethodName := ⟨RX7, "isSet", "(I)Z"⟩
abbrev cX7_isKey : ByteArray := prog_1_method_32_code
def yX7_isKey : MethodName := ⟨RX7, "isKey", "(I)Z"⟩
abbrev cX7_isSeed : ByteArray := prog_1_method_33_code
def yX7_isSeed : MethodName := ⟨RX7, "isSeed", "(I)Z"⟩
abbrev cX7_bit : ByteArray := prog_1_method_34_code
def yX7_bit : MethodName := ⟨RX7, "bit", "(I)J"⟩
abbrev cX7_isIn : ByteArray := prog_1_method_35_code
def yX7_isIn : MethodName := ⟨RX7, "isIn", "(JI)Z"⟩
abbrev cX7_count : ByteArray := prog_1_method_36_code
def yX7_count : MethodName := ⟨RX7, "count", "(J)I"⟩
abbrev cX7_less : ByteArray := prog_1_method_37_code
def yX7_less : MethodName := ⟨RX7, "less", "(I)J"⟩
abbrev cX7_pick : ByteArray := prog_1_method_38_code
def yX7_pick : MethodName := ⟨RX7, "pick", "(JI)I"⟩
abbrev cX7_priority : ByteArray := prog_1_method_39_code
def yX7_priority : MethodName := ⟨RX7, "priority", "(II)I"⟩
abbrev cX7_ranksAbove : ByteArray := prog_1_method_40_code
def yX7_ranksAbove : MethodName := ⟨RX7, "ranksAbove", "(III)Z"⟩
abbrev cX7_greatestDivisor : ByteArray := prog_1_method_41_code
def yX7_greatestDivisor : MethodName := ⟨RX7, "greatestDivisor", "(JJ)J"⟩
def RX8 : String := "KeyedTreeModel"
def TX8 : u_T := fun k => match k with
  | 0 => ("KeyedTreeModel", "seed", "I", false)
  | 1 => ("KeyedTreeModel", "is", "[I", true)
  | 2 => ("KeyedTreeModel", "sightOne", "[I", true)
  | 3 => ("KeyedTreeModel", "sightOther", "[I", true)
  | 4 => ("KeyedTreeModel", "sights", "I", false)
  | 5 => ("KeyedTreeModel", "pad", "[I", true)
  | 6 => ("KeyedTreeModel", "padMany", "I", false)
  | 7 => ("KeyedTreeModel", "act", "[I", true)
  | 8 => ("KeyedTreeModel", "which", "[I", true)
  | 9 => ("KeyedTreeModel", "key", "[I", true)
  | 10 => ("KeyedTreeModel", "other", "[I", true)
  | 11 => ("KeyedTreeModel", "acts", "I", false)
  | 12 => ("KeyedTreeModel", "order", "[I", true)
  | 13 => ("KeyedTreeModel", "digest", "[J", true)
  | 14 => ("KeyedTreeModel", "tall", "[I", true)
  | 15 => ("KeyedTreeModel", "had", "[I", true)
  | 16 => ("KeyedTreeModel", "badAct", "I", false)
  | 17 => ("KeyedTreeModel", "badWhy", "I", false)
  | 18 => ("KeyedTreeModel", "alikeAct", "I", false)
  | 19 => ("KeyedTreeModel", "alikeTwo", "I", false)
  | 20 => ("KeyedTreeModel", "work", "I", false)
  | 21 => ("KeyedTreeModel", "isWorked", "Z", false)
  | 22 => ("KeyedTreeModel", "trees", "[J", true)
  | 23 => ("KeyedTreeModel", "from", "[I", true)
  | 24 => ("KeyedTreeModel", "upTo", "[I", true)
  | 25 => ("KeyedTreeModel", "shape", "[J", true)
  | 26 => ("KeyedTreeModel", "kept", "[I", true)
  | 27 => ("KeyedTreeModel", "isKept", "[Z", true)
  | 28 => ("KeyedTreeModel", "keptAt", "I", false)
  | _ => ("KeyedTreeModel", "isWriting", "Z", false)
def tyX8 : Nat → FieldType := fun k => match k with
  | 0 => .int
  | 1 => .array .int
  | 2 => .array .int
  | 3 => .array .int
  | 4 => .int
  | 5 => .array .int
  | 6 => .int
  | 7 => .array .int
  | 8 => .array .int
  | 9 => .array .int
  | 10 => .array .int
  | 11 => .int
  | 12 => .array .int
  | 13 => .array .long
  | 14 => .array .int
  | 15 => .array .int
  | 16 => .int
  | 17 => .int
  | 18 => .int
  | 19 => .int
  | 20 => .int
  | 21 => .boolean
  | 22 => .array .long
  | 23 => .array .int
  | 24 => .array .int
  | 25 => .array .long
  | 26 => .array .int
  | 27 => .array .boolean
  | 28 => .int
  | _ => .boolean
abbrev wsX80 : List Cond := u_ws RX8 TX8 30
theorem nmX8 : ∀ a, a < 30 → ∀ b, b < 30 → a ≠ b → (TX8 a).2.1 ≠ (TX8 b).2.1 := by decide +kernel
theorem tyX8_ok : ∀ k, k < 30 → parseFieldDescriptor (TX8 k).2.2.1 = some (tyX8 k) := by decide +kernel
abbrev cX8_init : ByteArray := prog_10_method_1_code
def yX8_init : MethodName := ⟨RX8, "<init>", "()V"⟩
abbrev cX8_in : ByteArray := prog_10_method_3_code
def yX8_in : MethodName := ⟨RX8, "in", "(JJJ)Z"⟩
abbrev cX8_isSet : ByteArray := prog_10_method_4_code
def yX8_isSet : MethodName := ⟨RX8, "isSet", "(I)Z"⟩
abbrev cX8_isKey : ByteArray := prog_10_method_5_code
def yX8_isKey : MethodName := ⟨RX8, "isKey", "(I)Z"⟩
abbrev cX8_has : ByteArray := prog_10_method_6_code
def yX8_has : MethodName := ⟨RX8, "has", "(II)Z"⟩
abbrev cX8_many : ByteArray := prog_10_method_7_code
def yX8_many : MethodName := ⟨RX8, "many", "(I)I"⟩
abbrev cX8_priorityBy : ByteArray := prog_10_method_8_code
def yX8_priorityBy : MethodName := ⟨RX8, "priorityBy", "(II)I"⟩
abbrev cX8_ranksBy : ByteArray := prog_10_method_9_code
def yX8_ranksBy : MethodName := ⟨RX8, "ranksBy", "(III)Z"⟩
abbrev cX8_ranks : ByteArray := prog_10_method_10_code
def yX8_ranks : MethodName := ⟨RX8, "ranks", "(II)Z"⟩
abbrev cX8_seed : ByteArray := prog_10_method_11_code
def yX8_seed : MethodName := ⟨RX8, "seed", "(I)I"⟩
abbrev cX8_put : ByteArray := prog_10_method_12_code
def yX8_put : MethodName := ⟨RX8, "put", "(IIZ)I"⟩
abbrev cX8_say : ByteArray := prog_10_method_13_code
def yX8_say : MethodName := ⟨RX8, "say", "(I)I"⟩
abbrev cX8_wipe : ByteArray := prog_10_method_14_code
def yX8_wipe : MethodName := ⟨RX8, "wipe", "()I"⟩
abbrev cX8_ends : ByteArray := prog_10_method_15_code
def yX8_ends : MethodName := ⟨RX8, "ends", "()I"⟩
abbrev cX8_begin : ByteArray := prog_10_method_16_code
def yX8_begin : MethodName := ⟨RX8, "begin", "(I)I"⟩
abbrev cX8_deed : ByteArray := prog_10_method_17_code
def yX8_deed : MethodName := ⟨RX8, "deed", "(II)I"⟩
abbrev cX8_begun : ByteArray := prog_10_method_18_code
def yX8_begun : MethodName := ⟨RX8, "begun", "(I)I"⟩
abbrev cX8_figure : ByteArray := prog_10_method_19_code
def yX8_figure : MethodName := ⟨RX8, "figure", "(II)I"⟩
abbrev cX8_another : ByteArray := prog_10_method_20_code
def yX8_another : MethodName := ⟨RX8, "another", "(I)I"⟩
abbrev cX8_readOn : ByteArray := prog_10_method_21_code
def yX8_readOn : MethodName := ⟨RX8, "readOn", "(II)I"⟩
abbrev cX8_fault : ByteArray := prog_10_method_22_code
def yX8_fault : MethodName := ⟨RX8, "fault", "()I"⟩
abbrev cX8_ofBoth : ByteArray := prog_10_method_23_code
def yX8_ofBoth : MethodName := ⟨RX8, "ofBoth", "(II)I"⟩
abbrev cX8_isBeyond : ByteArray := prog_10_method_24_code
def yX8_isBeyond : MethodName := ⟨RX8, "isBeyond", "(II)Z"⟩
abbrev cX8_whyNoKey : ByteArray := prog_10_method_25_code
def yX8_whyNoKey : MethodName := ⟨RX8, "whyNoKey", "(III)I"⟩
abbrev cX8_whyNoJoin : ByteArray := prog_10_method_26_code
def yX8_whyNoJoin : MethodName := ⟨RX8, "whyNoJoin", "(II)I"⟩
abbrev cX8_whyNot : ByteArray := prog_10_method_27_code
def yX8_whyNot : MethodName := ⟨RX8, "whyNot", "(IIII)I"⟩
abbrev cX8_part : ByteArray := prog_10_method_28_code
def yX8_part : MethodName := ⟨RX8, "part", "(III)V"⟩
abbrev cX8_by : ByteArray := prog_10_method_29_code
def yX8_by : MethodName := ⟨RX8, "by", "(III)I"⟩
abbrev cX8_both : ByteArray := prog_10_method_30_code
def yX8_both : MethodName := ⟨RX8, "both", "(III)V"⟩
abbrev cX8_happen : ByteArray := prog_10_method_31_code
def yX8_happen : MethodName := ⟨RX8, "happen", "(IIII)V"⟩
abbrev cX8_below : ByteArray := prog_10_method_32_code
def yX8_below : MethodName := ⟨RX8, "below", "(III)I"⟩
abbrev cX8_beyond : ByteArray := prog_10_method_33_code
def yX8_beyond : MethodName := ⟨RX8, "beyond", "(III)I"⟩
abbrev cX8_rootOf : ByteArray := prog_10_method_34_code
def yX8_rootOf : MethodName := ⟨RX8, "rootOf", "(III)I"⟩
abbrev cX8_treeOf : ByteArray := prog_10_method_35_code
def yX8_treeOf : MethodName := ⟨RX8, "treeOf", "(II)J"⟩
abbrev cX8_ones : ByteArray := prog_10_method_36_code
def yX8_ones : MethodName := ⟨RX8, "ones", "(J)I"⟩
abbrev cX8_findOrder : ByteArray := prog_10_method_37_code
def yX8_findOrder : MethodName := ⟨RX8, "findOrder", "()V"⟩
abbrev cX8_findOne : ByteArray := prog_10_method_38_code
def yX8_findOne : MethodName := ⟨RX8, "findOne", "(IIII)V"⟩
abbrev cX8_digestOf : ByteArray := prog_10_method_39_code
def yX8_digestOf : MethodName := ⟨RX8, "digestOf", "(III)I"⟩
abbrev cX8_keepNow : ByteArray := prog_10_method_40_code
def yX8_keepNow : MethodName := ⟨RX8, "keepNow", "()V"⟩
abbrev cX8_back : ByteArray := prog_10_method_41_code
def yX8_back : MethodName := ⟨RX8, "back", "(I)I"⟩
abbrev cX8_findTrees : ByteArray := prog_10_method_42_code
def yX8_findTrees : MethodName := ⟨RX8, "findTrees", "()V"⟩
abbrev cX8_workNow : ByteArray := prog_10_method_43_code
def yX8_workNow : MethodName := ⟨RX8, "workNow", "()I"⟩
abbrev cX8_areAlike : ByteArray := prog_10_method_44_code
def yX8_areAlike : MethodName := ⟨RX8, "areAlike", "(II)Z"⟩
abbrev cX8_alikeOnes : ByteArray := prog_10_method_45_code
def yX8_alikeOnes : MethodName := ⟨RX8, "alikeOnes", "()I"⟩
abbrev cX8_leastOf : ByteArray := prog_10_method_46_code
def yX8_leastOf : MethodName := ⟨RX8, "leastOf", "(I)I"⟩
abbrev cX8_goOne : ByteArray := prog_10_method_47_code
def yX8_goOne : MethodName := ⟨RX8, "goOne", "(I)V"⟩
abbrev cX8_goActs : ByteArray := prog_10_method_48_code
def yX8_goActs : MethodName := ⟨RX8, "goActs", "()V"⟩
abbrev cX8_refusal : ByteArray := prog_10_method_49_code
def yX8_refusal : MethodName := ⟨RX8, "refusal", "(Z)I"⟩
abbrev cX8_judge : ByteArray := prog_10_method_50_code
def yX8_judge : MethodName := ⟨RX8, "judge", "(I)I"⟩
abbrev cX8_ofSet : ByteArray := prog_10_method_51_code
def yX8_ofSet : MethodName := ⟨RX8, "ofSet", "(II)I"⟩
abbrev cX8_behind : ByteArray := prog_10_method_52_code
def yX8_behind : MethodName := ⟨RX8, "behind", "(II)I"⟩
abbrev cX8_alike : ByteArray := prog_10_method_53_code
def yX8_alike : MethodName := ⟨RX8, "alike", "(I)I"⟩
abbrev cX8_done : ByteArray := prog_10_method_54_code
def yX8_done : MethodName := ⟨RX8, "done", "()I"⟩
abbrev cX8_aboveOf : ByteArray := prog_10_method_55_code
def yX8_aboveOf : MethodName := ⟨RX8, "aboveOf", "(II)I"⟩
abbrev cX8_depthOf : ByteArray := prog_10_method_56_code
def yX8_depthOf : MethodName := ⟨RX8, "depthOf", "(II)I"⟩
abbrev cX8_digestAt : ByteArray := prog_10_method_57_code
def yX8_digestAt : MethodName := ⟨RX8, "digestAt", "(II)I"⟩
abbrev cX8_node : ByteArray := prog_10_method_58_code
def yX8_node : MethodName := ⟨RX8, "node", "(III)I"⟩
abbrev cX8_place : ByteArray := prog_10_method_59_code
def yX8_place : MethodName := ⟨RX8, "place", "(II)I"⟩
abbrev cX8_at : ByteArray := prog_10_method_60_code
def yX8_at : MethodName := ⟨RX8, "at", "(II)I"⟩
abbrev cX8_partsAt : ByteArray := prog_10_method_61_code
def yX8_partsAt : MethodName := ⟨RX8, "partsAt", "(IIII)I"⟩
abbrev cX8_looks : ByteArray := prog_10_method_62_code
def yX8_looks : MethodName := ⟨RX8, "looks", "(II)I"⟩
abbrev cX8_apartMany : ByteArray := prog_10_method_63_code
def yX8_apartMany : MethodName := ⟨RX8, "apartMany", "(II)I"⟩
abbrev cX8_shared : ByteArray := prog_10_method_64_code
def yX8_shared : MethodName := ⟨RX8, "shared", "(II)I"⟩
abbrev cX8_apart : ByteArray := prog_10_method_65_code
def yX8_apart : MethodName := ⟨RX8, "apart", "(III)I"⟩
abbrev cX8_differs : ByteArray := prog_10_method_66_code
def yX8_differs : MethodName := ⟨RX8, "differs", "(III)I"⟩
abbrev cX8_above : ByteArray := prog_10_method_67_code
def yX8_above : MethodName := ⟨RX8, "above", "(II)I"⟩
abbrev cX8_forget : ByteArray := prog_10_method_68_code
def yX8_forget : MethodName := ⟨RX8, "forget", "()I"⟩
abbrev cX8_isFit : ByteArray := prog_10_method_69_code
def yX8_isFit : MethodName := ⟨RX8, "isFit", "(I)Z"⟩
abbrev cX8_seeds : ByteArray := prog_10_method_70_code
def yX8_seeds : MethodName := ⟨RX8, "seeds", "(I)I"⟩
abbrev cX8_orders : ByteArray := prog_10_method_71_code
def yX8_orders : MethodName := ⟨RX8, "orders", "(I)J"⟩
abbrev cX8_shapes : ByteArray := prog_10_method_72_code
def yX8_shapes : MethodName := ⟨RX8, "shapes", "(I)J"⟩
abbrev cX8_divisor : ByteArray := prog_10_method_73_code
def yX8_divisor : MethodName := ⟨RX8, "divisor", "(JJ)J"⟩
abbrev cX8_deep : ByteArray := prog_10_method_74_code
def yX8_deep : MethodName := ⟨RX8, "deep", "(III)J"⟩
abbrev cX8_actBy : ByteArray := prog_10_method_75_code
def yX8_actBy : MethodName := ⟨RX8, "actBy", "(II)I"⟩
abbrev cX8_drawn : ByteArray := prog_10_method_76_code
def yX8_drawn : MethodName := ⟨RX8, "drawn", "(II)V"⟩
abbrev cX8_run : ByteArray := prog_10_method_77_code
def yX8_run : MethodName := ⟨RX8, "run", "(III)I"⟩
abbrev cX8_pass : ByteArray := prog_10_method_78_code
def yX8_pass : MethodName := ⟨RX8, "pass", "(I)I"⟩
abbrev cX8_passRow : ByteArray := prog_10_method_79_code
def yX8_passRow : MethodName := ⟨RX8, "passRow", "([II)V"⟩
abbrev cX8_passAll : ByteArray := prog_10_method_80_code
def yX8_passAll : MethodName := ⟨RX8, "passAll", "()V"⟩
abbrev cX8_image : ByteArray := prog_10_method_81_code
def yX8_image : MethodName := ⟨RX8, "image", "(I)I"⟩
abbrev cX8_restore : ByteArray := prog_10_method_82_code
def yX8_restore : MethodName := ⟨RX8, "restore", "(I)I"⟩
abbrev cX8_told : ByteArray := prog_10_method_83_code
def yX8_told : MethodName := ⟨RX8, "told", "(I)I"⟩
def RJ13 : String := "java/lang/Long"
def TJ13 : u_T := fun k => match k with
  | _ => ("", "", "", false)
def tyJ13 : Nat → FieldType := fun k => match k with
  | _ => .int
abbrev wsJ130 : List Cond := u_ws RJ13 TJ13 0
theorem nmJ13 : ∀ a, a < 0 → ∀ b, b < 0 → a ≠ b → (TJ13 a).2.1 ≠ (TJ13 b).2.1 := by decide +kernel
theorem tyJ13_ok : ∀ k, k < 0 → parseFieldDescriptor (TJ13 k).2.2.1 = some (tyJ13 k) := by decide +kernel
abbrev cJ13_bitCount_95d88 : ByteArray := prog_11_method_50_code
def yJ13_bitCount_95d88 : MethodName := ⟨RJ13, "bitCount", "(J)I"⟩
def RJ9 : String := "java/lang/Math"
def TJ9 : u_T := fun k => match k with
  | _ => ("", "", "", false)
def tyJ9 : Nat → FieldType := fun k => match k with
  | _ => .int
abbrev wsJ90 : List Cond := u_ws RJ9 TJ9 0
theorem nmJ9 : ∀ a, a < 0 → ∀ b, b < 0 → a ≠ b → (TJ9 a).2.1 ≠ (TJ9 b).2.1 := by decide +kernel
theorem tyJ9_ok : ∀ k, k < 0 → parseFieldDescriptor (TJ9 k).2.2.1 = some (tyJ9 k) := by decide +kernel
abbrev cJ9_abs_0f7a4 : ByteArray := prog_12_method_59_code
def yJ9_abs_0f7a4 : MethodName := ⟨RJ9, "abs", "(I)I"⟩
abbrev cJ9_max_7cf53 : ByteArray := prog_12_method_65_code
def yJ9_max_7cf53 : MethodName := ⟨RJ9, "max", "(II)I"⟩
abbrev cJ9_max_f86c9 : ByteArray := prog_12_method_66_code
def yJ9_max_f86c9 : MethodName := ⟨RJ9, "max", "(JJ)J"⟩
def RJ10 : String := "java/lang/System"
def TJ10 : u_T := fun k => match k with
  | _ => ("", "", "", false)
def tyJ10 : Nat → FieldType := fun k => match k with
  | _ => .int
abbrev wsJ100 : List Cond := u_ws RJ10 TJ10 0
theorem nmJ10 : ∀ a, a < 0 → ∀ b, b < 0 → a ≠ b → (TJ10 a).2.1 ≠ (TJ10 b).2.1 := by decide +kernel
theorem tyJ10_ok : ∀ k, k < 0 → parseFieldDescriptor (TJ10 k).2.2.1 = some (tyJ10 k) := by decide +kernel
def RL : String := "KeyedTreeLaw"
abbrev cL_law : ByteArray := code
def yL_law : MethodName := ⟨RL, "law", "([I)Z"⟩
abbrev vwCl : List vw_C := [(RX0, TX0, 4), (RX1, TX1, 3), (RX2, TX2, 2), (RX3, TX3, 2), (RX4, TX4, 10), (RX5, TX5, 10), (RX6, TX6, 2), (RX7, TX7, 9), (RX8, TX8, 30)]
theorem inX0 : ∀ w ∈ u_ws RX0 TX0 4, w ∈ lw_tbl := by decide +kernel
theorem inX1 : ∀ w ∈ u_ws RX1 TX1 3, w ∈ lw_tbl := by decide +kernel
theorem inX2 : ∀ w ∈ u_ws RX2 TX2 2, w ∈ lw_tbl := by decide +kernel
theorem inX3 : ∀ w ∈ u_ws RX3 TX3 2, w ∈ lw_tbl := by decide +kernel
theorem inX4 : ∀ w ∈ u_ws RX4 TX4 10, w ∈ lw_tbl := by decide +kernel
theorem inX5 : ∀ w ∈ u_ws RX5 TX5 10, w ∈ lw_tbl := by decide +kernel
theorem inX6 : ∀ w ∈ u_ws RX6 TX6 2, w ∈ lw_tbl := by decide +kernel
theorem inX7 : ∀ w ∈ u_ws RX7 TX7 9, w ∈ lw_tbl := by decide +kernel
theorem inX8 : ∀ w ∈ u_ws RX8 TX8 30, w ∈ lw_tbl := by decide +kernel
end
section
theorem dX0_init_0 : decode cX0_init 0 = .ok (.aload_n 0, 1) := by decide +kernel
theorem dX0_init_1 : decode cX0_init 1 = .ok (.invokespecial 3, 3) := by decide +kernel
theorem dX0_init_4 : decode cX0_init 4 = .ok (.return_, 1) := by decide +kernel
theorem dX0_become_0 : decode cX0_become 0 = .ok (.aload_n 0, 1) := by decide +kernel
theorem dX0_become_1 : decode cX0_become 1 = .ok (.iload_n 1, 1) := by decide +kernel
theorem dX0_become_2 : decode cX0_become 2 = .ok (.putfield 9, 3) := by decide +kernel
theorem dX0_become_5 : decode cX0_become 5 = .ok (.aload_n 0, 1) := by decide +kernel
theorem dX0_become_6 : decode cX0_become 6 = .ok (.iload_n 2, 1) := by decide +kernel
theorem dX0_become_7 : decode cX0_become 7 = .ok (.putfield 15, 3) := by decide +kernel
theorem dX0_become_10 : decode cX0_become 10 = .ok (.aload_n 0, 1) := by decide +kernel
theorem dX0_become_11 : decode cX0_become 11 = .ok (.iload_n 3, 1) := by decide +kernel
theorem dX0_become_12 : decode cX0_become 12 = .ok (.putfield 18, 3) := by decide +kernel
theorem dX0_become_15 : decode cX0_become 15 = .ok (.aload_n 0, 1) := by decide +kernel
theorem dX0_become_16 : decode cX0_become 16 = .ok (.iload 4, 2) := by decide +kernel
theorem dX0_become_18 : decode cX0_become 18 = .ok (.putfield 21, 3) := by decide +kernel
theorem dX0_become_21 : decode cX0_become 21 = .ok (.return_, 1) := by decide +kernel
theorem dX0_draw_0 : decode cX0_draw 0 = .ok (.iload_n 1, 1) := by decide +kernel
theorem dX0_draw_1 : decode cX0_draw 1 = .ok (.bipush 8, 2) := by decide +kernel
theorem dX0_draw_3 : decode cX0_draw 3 = .ok (.idiv, 1) := by decide +kernel
theorem dX0_draw_4 : decode cX0_draw 4 = .ok (.istore_n 2, 1) := by decide +kernel
theorem dX0_draw_5 : decode cX0_draw 5 = .ok (.iload_n 1, 1) := by decide +kernel
theorem dX0_draw_6 : decode cX0_draw 6 = .ok (.bipush 8, 2) := by decide +kernel
theorem dX0_draw_8 : decode cX0_draw 8 = .ok (.irem, 1) := by decide +kernel
theorem dX0_draw_9 : decode cX0_draw 9 = .ok (.tableswitch 140 0 6 #[43, 43, 43, 63, 63, 83, 108], 43) := by decide +kernel
theorem dX0_draw_52 : decode cX0_draw 52 = .ok (.aload_n 0, 1) := by decide +kernel
theorem dX0_draw_53 : decode cX0_draw 53 = .ok (.bipush 43, 2) := by decide +kernel
theorem dX0_draw_55 : decode cX0_draw 55 = .ok (.iload_n 2, 1) := by decide +kernel
theorem dX0_draw_56 : decode cX0_draw 56 = .ok (.bipush 50, 2) := by decide +kernel
theorem dX0_draw_58 : decode cX0_draw 58 = .ok (.idiv, 1) := by decide +kernel
theorem dX0_draw_59 : decode cX0_draw 59 = .ok (.iconst 4, 1) := by decide +kernel
theorem dX0_draw_60 : decode cX0_draw 60 = .ok (.irem, 1) := by decide +kernel
theorem dX0_draw_61 : decode cX0_draw 61 = .ok (.iload_n 2, 1) := by decide +kernel
theorem dX0_draw_62 : decode cX0_draw 62 = .ok (.bipush 50, 2) := by decide +kernel
theorem dX0_draw_64 : decode cX0_draw 64 = .ok (.irem, 1) := by decide +kernel
theorem dX0_draw_65 : decode cX0_draw 65 = .ok (.iconst 0, 1) := by decide +kernel
theorem dX0_draw_66 : decode cX0_draw 66 = .ok (.invokevirtual 24, 3) := by decide +kernel
theorem dX0_draw_69 : decode cX0_draw 69 = .ok (.goto 109, 3) := by decide +kernel
theorem dX0_draw_72 : decode cX0_draw 72 = .ok (.aload_n 0, 1) := by decide +kernel
theorem dX0_draw_73 : decode cX0_draw 73 = .ok (.bipush 45, 2) := by decide +kernel
theorem dX0_draw_75 : decode cX0_draw 75 = .ok (.iload_n 2, 1) := by decide +kernel
theorem dX0_draw_76 : decode cX0_draw 76 = .ok (.bipush 50, 2) := by decide +kernel
theorem dX0_draw_78 : decode cX0_draw 78 = .ok (.idiv, 1) := by decide +kernel
theorem dX0_draw_79 : decode cX0_draw 79 = .ok (.iconst 4, 1) := by decide +kernel
theorem dX0_draw_80 : decode cX0_draw 80 = .ok (.irem, 1) := by decide +kernel
theorem dX0_draw_81 : decode cX0_draw 81 = .ok (.iload_n 2, 1) := by decide +kernel
theorem dX0_draw_82 : decode cX0_draw 82 = .ok (.bipush 50, 2) := by decide +kernel
theorem dX0_draw_84 : decode cX0_draw 84 = .ok (.irem, 1) := by decide +kernel
theorem dX0_draw_85 : decode cX0_draw 85 = .ok (.iconst 0, 1) := by decide +kernel
theorem dX0_draw_86 : decode cX0_draw 86 = .ok (.invokevirtual 24, 3) := by decide +kernel
theorem dX0_draw_89 : decode cX0_draw 89 = .ok (.goto 89, 3) := by decide +kernel
theorem dX0_draw_92 : decode cX0_draw 92 = .ok (.aload_n 0, 1) := by decide +kernel
theorem dX0_draw_93 : decode cX0_draw 93 = .ok (.bipush 47, 2) := by decide +kernel
theorem dX0_draw_95 : decode cX0_draw 95 = .ok (.iload_n 2, 1) := by decide +kernel
theorem dX0_draw_96 : decode cX0_draw 96 = .ok (.iconst 4, 1) := by decide +kernel
theorem dX0_draw_97 : decode cX0_draw 97 = .ok (.irem, 1) := by decide +kernel
theorem dX0_draw_98 : decode cX0_draw 98 = .ok (.iload_n 2, 1) := by decide +kernel
theorem dX0_draw_99 : decode cX0_draw 99 = .ok (.iconst 4, 1) := by decide +kernel
theorem dX0_draw_100 : decode cX0_draw 100 = .ok (.idiv, 1) := by decide +kernel
theorem dX0_draw_101 : decode cX0_draw 101 = .ok (.bipush 50, 2) := by decide +kernel
theorem dX0_draw_103 : decode cX0_draw 103 = .ok (.irem, 1) := by decide +kernel
theorem dX0_draw_104 : decode cX0_draw 104 = .ok (.iload_n 2, 1) := by decide +kernel
theorem dX0_draw_105 : decode cX0_draw 105 = .ok (.sipush 200, 3) := by decide +kernel
theorem dX0_draw_108 : decode cX0_draw 108 = .ok (.idiv, 1) := by decide +kernel
theorem dX0_draw_109 : decode cX0_draw 109 = .ok (.iconst 4, 1) := by decide +kernel
theorem dX0_draw_110 : decode cX0_draw 110 = .ok (.irem, 1) := by decide +kernel
theorem dX0_draw_111 : decode cX0_draw 111 = .ok (.invokevirtual 24, 3) := by decide +kernel
theorem dX0_draw_114 : decode cX0_draw 114 = .ok (.goto 64, 3) := by decide +kernel
theorem dX0_draw_117 : decode cX0_draw 117 = .ok (.aload_n 0, 1) := by decide +kernel
theorem dX0_draw_118 : decode cX0_draw 118 = .ok (.iload_n 2, 1) := by decide +kernel
theorem dX0_draw_119 : decode cX0_draw 119 = .ok (.bipush 16, 2) := by decide +kernel
theorem dX0_draw_121 : decode cX0_draw 121 = .ok (.idiv, 1) := by decide +kernel
theorem dX0_draw_122 : decode cX0_draw 122 = .ok (.iconst 2, 1) := by decide +kernel
theorem dX0_draw_123 : decode cX0_draw 123 = .ok (.irem, 1) := by decide +kernel
theorem dX0_draw_124 : decode cX0_draw 124 = .ok (.ifCond .ne 8, 3) := by decide +kernel
theorem dX0_draw_127 : decode cX0_draw 127 = .ok (.bipush 38, 2) := by decide +kernel
theorem dX0_draw_129 : decode cX0_draw 129 = .ok (.goto 5, 3) := by decide +kernel
theorem dX0_draw_132 : decode cX0_draw 132 = .ok (.bipush 124, 2) := by decide +kernel
theorem dX0_draw_134 : decode cX0_draw 134 = .ok (.iload_n 2, 1) := by decide +kernel
theorem dX0_draw_135 : decode cX0_draw 135 = .ok (.iconst 4, 1) := by decide +kernel
theorem dX0_draw_136 : decode cX0_draw 136 = .ok (.irem, 1) := by decide +kernel
theorem dX0_draw_137 : decode cX0_draw 137 = .ok (.iconst 0, 1) := by decide +kernel
theorem dX0_draw_138 : decode cX0_draw 138 = .ok (.iload_n 2, 1) := by decide +kernel
theorem dX0_draw_139 : decode cX0_draw 139 = .ok (.iconst 4, 1) := by decide +kernel
theorem dX0_draw_140 : decode cX0_draw 140 = .ok (.idiv, 1) := by decide +kernel
theorem dX0_draw_141 : decode cX0_draw 141 = .ok (.iconst 4, 1) := by decide +kernel
theorem dX0_draw_142 : decode cX0_draw 142 = .ok (.irem, 1) := by decide +kernel
theorem dX0_draw_143 : decode cX0_draw 143 = .ok (.invokevirtual 24, 3) := by decide +kernel
theorem dX0_draw_146 : decode cX0_draw 146 = .ok (.goto 32, 3) := by decide +kernel
theorem dX0_draw_149 : decode cX0_draw 149 = .ok (.aload_n 0, 1) := by decide +kernel
theorem dX0_draw_150 : decode cX0_draw 150 = .ok (.iload_n 2, 1) := by decide +kernel
theorem dX0_draw_151 : decode cX0_draw 151 = .ok (.iconst 4, 1) := by decide +kernel
theorem dX0_draw_152 : decode cX0_draw 152 = .ok (.irem, 1) := by decide +kernel
theorem dX0_draw_153 : decode cX0_draw 153 = .ok (.ifCond .ne 8, 3) := by decide +kernel
theorem dX0_draw_156 : decode cX0_draw 156 = .ok (.bipush 33, 2) := by decide +kernel
theorem dX0_draw_158 : decode cX0_draw 158 = .ok (.goto 5, 3) := by decide +kernel
theorem dX0_draw_161 : decode cX0_draw 161 = .ok (.bipush 61, 2) := by decide +kernel
theorem dX0_draw_163 : decode cX0_draw 163 = .ok (.iload_n 2, 1) := by decide +kernel
theorem dX0_draw_164 : decode cX0_draw 164 = .ok (.iconst 4, 1) := by decide +kernel
theorem dX0_draw_165 : decode cX0_draw 165 = .ok (.idiv, 1) := by decide +kernel
theorem dX0_draw_166 : decode cX0_draw 166 = .ok (.iconst 4, 1) := by decide +kernel
theorem dX0_draw_167 : decode cX0_draw 167 = .ok (.irem, 1) := by decide +kernel
theorem dX0_draw_168 : decode cX0_draw 168 = .ok (.iconst 0, 1) := by decide +kernel
theorem dX0_draw_169 : decode cX0_draw 169 = .ok (.iload_n 2, 1) := by decide +kernel
theorem dX0_draw_170 : decode cX0_draw 170 = .ok (.bipush 16, 2) := by decide +kernel
theorem dX0_draw_172 : decode cX0_draw 172 = .ok (.idiv, 1) := by decide +kernel
theorem dX0_draw_173 : decode cX0_draw 173 = .ok (.iconst 4, 1) := by decide +kernel
theorem dX0_draw_174 : decode cX0_draw 174 = .ok (.irem, 1) := by decide +kernel
theorem dX0_draw_175 : decode cX0_draw 175 = .ok (.invokevirtual 24, 3) := by decide +kernel
theorem dX0_draw_178 : decode cX0_draw 178 = .ok (.return_, 1) := by decide +kernel
theorem dX1_init_0 : decode cX1_init 0 = .ok (.aload_n 0, 1) := by decide +kernel
theorem dX1_init_1 : decode cX1_init 1 = .ok (.invokespecial 1, 3) := by decide +kernel
theorem dX1_init_4 : decode cX1_init 4 = .ok (.aload_n 0, 1) := by decide +kernel
theorem dX1_init_5 : decode cX1_init 5 = .ok (.new 7, 3) := by decide +kernel
theorem dX1_init_8 : decode cX1_init 8 = .ok (.dup, 1) := by decide +kernel
theorem dX1_init_9 : decode cX1_init 9 = .ok (.invokespecial 9, 3) := by decide +kernel
theorem dX1_init_12 : decode cX1_init 12 = .ok (.putfield 10, 3) := by decide +kernel
theorem dX1_init_15 : decode cX1_init 15 = .ok (.aload_n 0, 1) := by decide +kernel
theorem dX1_init_16 : decode cX1_init 16 = .ok (.new 16, 3) := by decide +kernel
theorem dX1_init_19 : decode cX1_init 19 = .ok (.dup, 1) := by decide +kernel
theorem dX1_init_20 : decode cX1_init 20 = .ok (.invokespecial 18, 3) := by decide +kernel
theorem dX1_init_23 : decode cX1_init 23 = .ok (.putfield 19, 3) := by decide +kernel
theorem dX1_init_26 : decode cX1_init 26 = .ok (.return_, 1) := by decide +kernel
theorem dX2_init_0 : decode cX2_init 0 = .ok (.aload_n 0, 1) := by decide +kernel
theorem dX2_init_1 : decode cX2_init 1 = .ok (.invokespecial 3, 3) := by decide +kernel
theorem dX2_init_4 : decode cX2_init 4 = .ok (.aload_n 0, 1) := by decide +kernel
theorem dX2_init_5 : decode cX2_init 5 = .ok (.bipush 60, 2) := by decide +kernel
theorem dX2_init_7 : decode cX2_init 7 = .ok (.newarray .int, 2) := by decide +kernel
theorem dX2_init_9 : decode cX2_init 9 = .ok (.putfield 11, 3) := by decide +kernel
theorem dX2_init_12 : decode cX2_init 12 = .ok (.return_, 1) := by decide +kernel
theorem dX2_write_0 : decode cX2_write 0 = .ok (.aload_n 0, 1) := by decide +kernel
theorem dX2_write_1 : decode cX2_write 1 = .ok (.getfield 15, 3) := by decide +kernel
theorem dX2_write_4 : decode cX2_write 4 = .ok (.bipush 60, 2) := by decide +kernel
theorem dX2_write_6 : decode cX2_write 6 = .ok (.if_icmp .lt 5, 3) := by decide +kernel
theorem dX2_write_9 : decode cX2_write 9 = .ok (.iconst 0, 1) := by decide +kernel
theorem dX2_write_10 : decode cX2_write 10 = .ok (.ireturn, 1) := by decide +kernel
theorem dX2_write_11 : decode cX2_write 11 = .ok (.aload_n 0, 1) := by decide +kernel
theorem dX2_write_12 : decode cX2_write 12 = .ok (.getfield 11, 3) := by decide +kernel
theorem dX2_write_15 : decode cX2_write 15 = .ok (.aload_n 0, 1) := by decide +kernel
theorem dX2_write_16 : decode cX2_write 16 = .ok (.getfield 15, 3) := by decide +kernel
theorem dX2_write_19 : decode cX2_write 19 = .ok (.iload_n 1, 1) := by decide +kernel
theorem dX2_write_20 : decode cX2_write 20 = .ok (.iastore, 1) := by decide +kernel
theorem dX2_write_21 : decode cX2_write 21 = .ok (.aload_n 0, 1) := by decide +kernel
theorem dX2_write_22 : decode cX2_write 22 = .ok (.dup, 1) := by decide +kernel
theorem dX2_write_23 : decode cX2_write 23 = .ok (.getfield 15, 3) := by decide +kernel
theorem dX2_write_26 : decode cX2_write 26 = .ok (.iconst 1, 1) := by decide +kernel
theorem dX2_write_27 : decode cX2_write 27 = .ok (.iadd, 1) := by decide +kernel
theorem dX2_write_28 : decode cX2_write 28 = .ok (.putfield 15, 3) := by decide +kernel
theorem dX2_write_31 : decode cX2_write 31 = .ok (.iconst 1, 1) := by decide +kernel
theorem dX2_write_32 : decode cX2_write 32 = .ok (.ireturn, 1) := by decide +kernel
theorem dX2_clear_0 : decode cX2_clear 0 = .ok (.aload_n 0, 1) := by decide +kernel
theorem dX2_clear_1 : decode cX2_clear 1 = .ok (.iconst 0, 1) := by decide +kernel
theorem dX2_clear_2 : decode cX2_clear 2 = .ok (.putfield 15, 3) := by decide +kernel
theorem dX2_clear_5 : decode cX2_clear 5 = .ok (.return_, 1) := by decide +kernel
theorem dX2_firstFault_0 : decode cX2_firstFault 0 = .ok (.iconst 0, 1) := by decide +kernel
theorem dX2_firstFault_1 : decode cX2_firstFault 1 = .ok (.istore_n 1, 1) := by decide +kernel
theorem dX2_firstFault_2 : decode cX2_firstFault 2 = .ok (.iconst 0, 1) := by decide +kernel
theorem dX2_firstFault_3 : decode cX2_firstFault 3 = .ok (.istore_n 2, 1) := by decide +kernel
theorem dX2_firstFault_4 : decode cX2_firstFault 4 = .ok (.iload_n 2, 1) := by decide +kernel
theorem dX2_firstFault_5 : decode cX2_firstFault 5 = .ok (.aload_n 0, 1) := by decide +kernel
theorem dX2_firstFault_6 : decode cX2_firstFault 6 = .ok (.getfield 15, 3) := by decide +kernel
theorem dX2_firstFault_9 : decode cX2_firstFault 9 = .ok (.if_icmp .ge 28, 3) := by decide +kernel
theorem dX2_firstFault_12 : decode cX2_firstFault 12 = .ok (.iload_n 1, 1) := by decide +kernel
theorem dX2_firstFault_13 : decode cX2_firstFault 13 = .ok (.aload_n 0, 1) := by decide +kernel
theorem dX2_firstFault_14 : decode cX2_firstFault 14 = .ok (.getfield 11, 3) := by decide +kernel
theorem dX2_firstFault_17 : decode cX2_firstFault 17 = .ok (.iload_n 2, 1) := by decide +kernel
theorem dX2_firstFault_18 : decode cX2_firstFault 18 = .ok (.iaload, 1) := by decide +kernel
theorem dX2_firstFault_19 : decode cX2_firstFault 19 = .ok (.invokestatic 19, 3) := by decide +kernel
theorem dX2_firstFault_22 : decode cX2_firstFault 22 = .ok (.istore_n 1, 1) := by decide +kernel
theorem dX2_firstFault_23 : decode cX2_firstFault 23 = .ok (.iload_n 1, 1) := by decide +kernel
theorem dX2_firstFault_24 : decode cX2_firstFault 24 = .ok (.bipush (-6), 2) := by decide +kernel
theorem dX2_firstFault_26 : decode cX2_firstFault 26 = .ok (.if_icmp .ne 5, 3) := by decide +kernel
theorem dX2_firstFault_29 : decode cX2_firstFault 29 = .ok (.iload_n 2, 1) := by decide +kernel
theorem dX2_firstFault_30 : decode cX2_firstFault 30 = .ok (.ireturn, 1) := by decide +kernel
theorem dX2_firstFault_31 : decode cX2_firstFault 31 = .ok (.iinc 2 1, 3) := by decide +kernel
theorem dX2_firstFault_34 : decode cX2_firstFault 34 = .ok (.goto (-30), 3) := by decide +kernel
theorem dX2_firstFault_37 : decode cX2_firstFault 37 = .ok (.iload_n 1, 1) := by decide +kernel
theorem dX2_firstFault_38 : decode cX2_firstFault 38 = .ok (.ifCond .ne 8, 3) := by decide +kernel
theorem dX2_firstFault_41 : decode cX2_firstFault 41 = .ok (.bipush (-6), 2) := by decide +kernel
theorem dX2_firstFault_43 : decode cX2_firstFault 43 = .ok (.goto 7, 3) := by decide +kernel
theorem dX2_firstFault_46 : decode cX2_firstFault 46 = .ok (.aload_n 0, 1) := by decide +kernel
theorem dX2_firstFault_47 : decode cX2_firstFault 47 = .ok (.getfield 15, 3) := by decide +kernel
theorem dX2_firstFault_50 : decode cX2_firstFault 50 = .ok (.ireturn, 1) := by decide +kernel
theorem dX2_follow_0 : decode cX2_follow 0 = .ok (.iload_n 0, 1) := by decide +kernel
theorem dX2_follow_1 : decode cX2_follow 1 = .ok (.tableswitch 125 0 5 #[39, 63, 68, 82, 96, 110], 39) := by decide +kernel
theorem dX2_follow_40 : decode cX2_follow 40 = .ok (.iload_n 1, 1) := by decide +kernel
theorem dX2_follow_41 : decode cX2_follow 41 = .ok (.bipush 33, 2) := by decide +kernel
theorem dX2_follow_43 : decode cX2_follow 43 = .ok (.if_icmp .ne 7, 3) := by decide +kernel
theorem dX2_follow_46 : decode cX2_follow 46 = .ok (.iconst 0, 1) := by decide +kernel
theorem dX2_follow_47 : decode cX2_follow 47 = .ok (.goto 16, 3) := by decide +kernel
theorem dX2_follow_50 : decode cX2_follow 50 = .ok (.iload_n 1, 1) := by decide +kernel
theorem dX2_follow_51 : decode cX2_follow 51 = .ok (.invokestatic 25, 3) := by decide +kernel
theorem dX2_follow_54 : decode cX2_follow 54 = .ok (.ifCond .eq 7, 3) := by decide +kernel
theorem dX2_follow_57 : decode cX2_follow 57 = .ok (.iconst 1, 1) := by decide +kernel
theorem dX2_follow_58 : decode cX2_follow 58 = .ok (.goto 5, 3) := by decide +kernel
theorem dX2_follow_61 : decode cX2_follow 61 = .ok (.bipush (-6), 2) := by decide +kernel
theorem dX2_follow_63 : decode cX2_follow 63 = .ok (.ireturn, 1) := by decide +kernel
theorem dX2_follow_64 : decode cX2_follow 64 = .ok (.iload_n 1, 1) := by decide +kernel
theorem dX2_follow_65 : decode cX2_follow 65 = .ok (.invokestatic 29, 3) := by decide +kernel
theorem dX2_follow_68 : decode cX2_follow 68 = .ok (.ireturn, 1) := by decide +kernel
theorem dX2_follow_69 : decode cX2_follow 69 = .ok (.iload_n 1, 1) := by decide +kernel
theorem dX2_follow_70 : decode cX2_follow 70 = .ok (.invokestatic 33, 3) := by decide +kernel
theorem dX2_follow_73 : decode cX2_follow 73 = .ok (.ifCond .eq 7, 3) := by decide +kernel
theorem dX2_follow_76 : decode cX2_follow 76 = .ok (.iconst 3, 1) := by decide +kernel
theorem dX2_follow_77 : decode cX2_follow 77 = .ok (.goto 5, 3) := by decide +kernel
theorem dX2_follow_80 : decode cX2_follow 80 = .ok (.bipush (-6), 2) := by decide +kernel
theorem dX2_follow_82 : decode cX2_follow 82 = .ok (.ireturn, 1) := by decide +kernel
theorem dX2_follow_83 : decode cX2_follow 83 = .ok (.iload_n 1, 1) := by decide +kernel
theorem dX2_follow_84 : decode cX2_follow 84 = .ok (.invokestatic 36, 3) := by decide +kernel
theorem dX2_follow_87 : decode cX2_follow 87 = .ok (.ifCond .eq 7, 3) := by decide +kernel
theorem dX2_follow_90 : decode cX2_follow 90 = .ok (.iconst 0, 1) := by decide +kernel
theorem dX2_follow_91 : decode cX2_follow 91 = .ok (.goto 5, 3) := by decide +kernel
theorem dX2_follow_94 : decode cX2_follow 94 = .ok (.bipush (-6), 2) := by decide +kernel
theorem dX2_follow_96 : decode cX2_follow 96 = .ok (.ireturn, 1) := by decide +kernel
theorem dX2_follow_97 : decode cX2_follow 97 = .ok (.iload_n 1, 1) := by decide +kernel
theorem dX2_follow_98 : decode cX2_follow 98 = .ok (.invokestatic 33, 3) := by decide +kernel
theorem dX2_follow_101 : decode cX2_follow 101 = .ok (.ifCond .eq 7, 3) := by decide +kernel
theorem dX2_follow_104 : decode cX2_follow 104 = .ok (.iconst 5, 1) := by decide +kernel
theorem dX2_follow_105 : decode cX2_follow 105 = .ok (.goto 5, 3) := by decide +kernel
theorem dX2_follow_108 : decode cX2_follow 108 = .ok (.bipush (-6), 2) := by decide +kernel
theorem dX2_follow_110 : decode cX2_follow 110 = .ok (.ireturn, 1) := by decide +kernel
theorem dX2_follow_111 : decode cX2_follow 111 = .ok (.iload_n 1, 1) := by decide +kernel
theorem dX2_follow_112 : decode cX2_follow 112 = .ok (.invokestatic 36, 3) := by decide +kernel
theorem dX2_follow_115 : decode cX2_follow 115 = .ok (.ifCond .eq 8, 3) := by decide +kernel
theorem dX2_follow_118 : decode cX2_follow 118 = .ok (.bipush 6, 2) := by decide +kernel
theorem dX2_follow_120 : decode cX2_follow 120 = .ok (.goto 5, 3) := by decide +kernel
theorem dX2_follow_123 : decode cX2_follow 123 = .ok (.bipush (-6), 2) := by decide +kernel
theorem dX2_follow_125 : decode cX2_follow 125 = .ok (.ireturn, 1) := by decide +kernel
theorem dX2_follow_126 : decode cX2_follow 126 = .ok (.iload_n 1, 1) := by decide +kernel
theorem dX2_follow_127 : decode cX2_follow 127 = .ok (.invokestatic 25, 3) := by decide +kernel
theorem dX2_follow_130 : decode cX2_follow 130 = .ok (.ifCond .eq 7, 3) := by decide +kernel
theorem dX2_follow_133 : decode cX2_follow 133 = .ok (.iconst 0, 1) := by decide +kernel
theorem dX2_follow_134 : decode cX2_follow 134 = .ok (.goto 5, 3) := by decide +kernel
theorem dX2_follow_137 : decode cX2_follow 137 = .ok (.bipush (-6), 2) := by decide +kernel
theorem dX2_follow_139 : decode cX2_follow 139 = .ok (.ireturn, 1) := by decide +kernel
theorem dX2_followKind_0 : decode cX2_followKind 0 = .ok (.iload_n 0, 1) := by decide +kernel
theorem dX2_followKind_1 : decode cX2_followKind 1 = .ok (.lookupswitch 74 #[(38, 71), (43, 67), (45, 67), (47, 69), (61, 71), (124, 71), (126, 71)], 67) := by decide +kernel
theorem dX2_followKind_68 : decode cX2_followKind 68 = .ok (.iconst 2, 1) := by decide +kernel
theorem dX2_followKind_69 : decode cX2_followKind 69 = .ok (.ireturn, 1) := by decide +kernel
theorem dX2_followKind_70 : decode cX2_followKind 70 = .ok (.iconst 4, 1) := by decide +kernel
theorem dX2_followKind_71 : decode cX2_followKind 71 = .ok (.ireturn, 1) := by decide +kernel
theorem dX2_followKind_72 : decode cX2_followKind 72 = .ok (.bipush 6, 2) := by decide +kernel
theorem dX2_followKind_74 : decode cX2_followKind 74 = .ok (.ireturn, 1) := by decide +kernel
theorem dX2_followKind_75 : decode cX2_followKind 75 = .ok (.bipush (-6), 2) := by decide +kernel
theorem dX2_followKind_77 : decode cX2_followKind 77 = .ok (.ireturn, 1) := by decide +kernel
theorem dX2_isLetter_0 : decode cX2_isLetter 0 = .ok (.iload_n 0, 1) := by decide +kernel
theorem dX2_isLetter_1 : decode cX2_isLetter 1 = .ok (.bipush 65, 2) := by decide +kernel
theorem dX2_isLetter_3 : decode cX2_isLetter 3 = .ok (.isub, 1) := by decide +kernel
theorem dX2_isLetter_4 : decode cX2_isLetter 4 = .ok (.invokestatic 39, 3) := by decide +kernel
theorem dX2_isLetter_7 : decode cX2_isLetter 7 = .ok (.ireturn, 1) := by decide +kernel
theorem dX2_isTens_0 : decode cX2_isTens 0 = .ok (.iload_n 0, 1) := by decide +kernel
theorem dX2_isTens_1 : decode cX2_isTens 1 = .ok (.bipush 48, 2) := by decide +kernel
theorem dX2_isTens_3 : decode cX2_isTens 3 = .ok (.if_icmp .lt 13, 3) := by decide +kernel
theorem dX2_isTens_6 : decode cX2_isTens 6 = .ok (.iload_n 0, 1) := by decide +kernel
theorem dX2_isTens_7 : decode cX2_isTens 7 = .ok (.bipush 52, 2) := by decide +kernel
theorem dX2_isTens_9 : decode cX2_isTens 9 = .ok (.if_icmp .gt 7, 3) := by decide +kernel
theorem dX2_isTens_12 : decode cX2_isTens 12 = .ok (.iconst 1, 1) := by decide +kernel
theorem dX2_isTens_13 : decode cX2_isTens 13 = .ok (.goto 4, 3) := by decide +kernel
theorem dX2_isTens_16 : decode cX2_isTens 16 = .ok (.iconst 0, 1) := by decide +kernel
theorem dX2_isTens_17 : decode cX2_isTens 17 = .ok (.ireturn, 1) := by decide +kernel
theorem dX2_isFigure_0 : decode cX2_isFigure 0 = .ok (.iload_n 0, 1) := by decide +kernel
theorem dX2_isFigure_1 : decode cX2_isFigure 1 = .ok (.bipush 48, 2) := by decide +kernel
theorem dX2_isFigure_3 : decode cX2_isFigure 3 = .ok (.if_icmp .lt 13, 3) := by decide +kernel
theorem dX2_isFigure_6 : decode cX2_isFigure 6 = .ok (.iload_n 0, 1) := by decide +kernel
theorem dX2_isFigure_7 : decode cX2_isFigure 7 = .ok (.bipush 57, 2) := by decide +kernel
theorem dX2_isFigure_9 : decode cX2_isFigure 9 = .ok (.if_icmp .gt 7, 3) := by decide +kernel
theorem dX2_isFigure_12 : decode cX2_isFigure 12 = .ok (.iconst 1, 1) := by decide +kernel
theorem dX2_isFigure_13 : decode cX2_isFigure 13 = .ok (.goto 4, 3) := by decide +kernel
theorem dX2_isFigure_16 : decode cX2_isFigure 16 = .ok (.iconst 0, 1) := by decide +kernel
theorem dX2_isFigure_17 : decode cX2_isFigure 17 = .ok (.ireturn, 1) := by decide +kernel
theorem dX2_read_0 : decode cX2_read 0 = .ok (.aload_n 0, 1) := by decide +kernel
theorem dX2_read_1 : decode cX2_read 1 = .ok (.iload_n 1, 1) := by decide +kernel
theorem dX2_read_2 : decode cX2_read 2 = .ok (.invokevirtual 42, 3) := by decide +kernel
theorem dX2_read_5 : decode cX2_read 5 = .ok (.istore_n 3, 1) := by decide +kernel
theorem dX2_read_6 : decode cX2_read 6 = .ok (.iload_n 3, 1) := by decide +kernel
theorem dX2_read_7 : decode cX2_read 7 = .ok (.bipush 33, 2) := by decide +kernel
theorem dX2_read_9 : decode cX2_read 9 = .ok (.if_icmp .ne 14, 3) := by decide +kernel
theorem dX2_read_12 : decode cX2_read 12 = .ok (.aload_n 2, 1) := by decide +kernel
theorem dX2_read_13 : decode cX2_read 13 = .ok (.bipush 33, 2) := by decide +kernel
theorem dX2_read_15 : decode cX2_read 15 = .ok (.iconst 0, 1) := by decide +kernel
theorem dX2_read_16 : decode cX2_read 16 = .ok (.iconst 0, 1) := by decide +kernel
theorem dX2_read_17 : decode cX2_read 17 = .ok (.iconst 0, 1) := by decide +kernel
theorem dX2_read_18 : decode cX2_read 18 = .ok (.invokevirtual 45, 3) := by decide +kernel
theorem dX2_read_21 : decode cX2_read 21 = .ok (.iconst 1, 1) := by decide +kernel
theorem dX2_read_22 : decode cX2_read 22 = .ok (.ireturn, 1) := by decide +kernel
theorem dX2_read_23 : decode cX2_read 23 = .ok (.iload_n 3, 1) := by decide +kernel
theorem dX2_read_24 : decode cX2_read 24 = .ok (.bipush 65, 2) := by decide +kernel
theorem dX2_read_26 : decode cX2_read 26 = .ok (.isub, 1) := by decide +kernel
theorem dX2_read_27 : decode cX2_read 27 = .ok (.istore 4, 2) := by decide +kernel
theorem dX2_read_29 : decode cX2_read 29 = .ok (.aload_n 0, 1) := by decide +kernel
theorem dX2_read_30 : decode cX2_read 30 = .ok (.iload_n 1, 1) := by decide +kernel
theorem dX2_read_31 : decode cX2_read 31 = .ok (.iconst 1, 1) := by decide +kernel
theorem dX2_read_32 : decode cX2_read 32 = .ok (.iadd, 1) := by decide +kernel
theorem dX2_read_33 : decode cX2_read 33 = .ok (.invokevirtual 42, 3) := by decide +kernel
theorem dX2_read_36 : decode cX2_read 36 = .ok (.istore 5, 2) := by decide +kernel
theorem dX2_read_38 : decode cX2_read 38 = .ok (.iload 5, 2) := by decide +kernel
theorem dX2_read_40 : decode cX2_read 40 = .ok (.invokestatic 29, 3) := by decide +kernel
theorem dX2_read_43 : decode cX2_read 43 = .ok (.bipush 6, 2) := by decide +kernel
theorem dX2_read_45 : decode cX2_read 45 = .ok (.if_icmp .ne 24, 3) := by decide +kernel
theorem dX2_read_48 : decode cX2_read 48 = .ok (.aload_n 2, 1) := by decide +kernel
theorem dX2_read_49 : decode cX2_read 49 = .ok (.iload 5, 2) := by decide +kernel
theorem dX2_read_51 : decode cX2_read 51 = .ok (.iload 4, 2) := by decide +kernel
theorem dX2_read_53 : decode cX2_read 53 = .ok (.iconst 0, 1) := by decide +kernel
theorem dX2_read_54 : decode cX2_read 54 = .ok (.aload_n 0, 1) := by decide +kernel
theorem dX2_read_55 : decode cX2_read 55 = .ok (.iload_n 1, 1) := by decide +kernel
theorem dX2_read_56 : decode cX2_read 56 = .ok (.iconst 2, 1) := by decide +kernel
theorem dX2_read_57 : decode cX2_read 57 = .ok (.iadd, 1) := by decide +kernel
theorem dX2_read_58 : decode cX2_read 58 = .ok (.invokevirtual 42, 3) := by decide +kernel
theorem dX2_read_61 : decode cX2_read 61 = .ok (.bipush 65, 2) := by decide +kernel
theorem dX2_read_63 : decode cX2_read 63 = .ok (.isub, 1) := by decide +kernel
theorem dX2_read_64 : decode cX2_read 64 = .ok (.invokevirtual 45, 3) := by decide +kernel
theorem dX2_read_67 : decode cX2_read 67 = .ok (.iconst 3, 1) := by decide +kernel
theorem dX2_read_68 : decode cX2_read 68 = .ok (.ireturn, 1) := by decide +kernel
theorem dX2_read_69 : decode cX2_read 69 = .ok (.bipush 10, 2) := by decide +kernel
theorem dX2_read_71 : decode cX2_read 71 = .ok (.aload_n 0, 1) := by decide +kernel
theorem dX2_read_72 : decode cX2_read 72 = .ok (.iload_n 1, 1) := by decide +kernel
theorem dX2_read_73 : decode cX2_read 73 = .ok (.iconst 2, 1) := by decide +kernel
theorem dX2_read_74 : decode cX2_read 74 = .ok (.iadd, 1) := by decide +kernel
theorem dX2_read_75 : decode cX2_read 75 = .ok (.invokevirtual 42, 3) := by decide +kernel
theorem dX2_read_78 : decode cX2_read 78 = .ok (.bipush 48, 2) := by decide +kernel
theorem dX2_read_80 : decode cX2_read 80 = .ok (.isub, 1) := by decide +kernel
theorem dX2_read_81 : decode cX2_read 81 = .ok (.imul, 1) := by decide +kernel
theorem dX2_read_82 : decode cX2_read 82 = .ok (.aload_n 0, 1) := by decide +kernel
theorem dX2_read_83 : decode cX2_read 83 = .ok (.iload_n 1, 1) := by decide +kernel
theorem dX2_read_84 : decode cX2_read 84 = .ok (.iconst 3, 1) := by decide +kernel
theorem dX2_read_85 : decode cX2_read 85 = .ok (.iadd, 1) := by decide +kernel
theorem dX2_read_86 : decode cX2_read 86 = .ok (.invokevirtual 42, 3) := by decide +kernel
theorem dX2_read_89 : decode cX2_read 89 = .ok (.iadd, 1) := by decide +kernel
theorem dX2_read_90 : decode cX2_read 90 = .ok (.bipush 48, 2) := by decide +kernel
theorem dX2_read_92 : decode cX2_read 92 = .ok (.isub, 1) := by decide +kernel
theorem dX2_read_93 : decode cX2_read 93 = .ok (.istore 6, 2) := by decide +kernel
theorem dX2_read_95 : decode cX2_read 95 = .ok (.iload 5, 2) := by decide +kernel
theorem dX2_read_97 : decode cX2_read 97 = .ok (.bipush 47, 2) := by decide +kernel
theorem dX2_read_99 : decode cX2_read 99 = .ok (.if_icmp .ne 25, 3) := by decide +kernel
theorem dX2_read_102 : decode cX2_read 102 = .ok (.aload_n 2, 1) := by decide +kernel
theorem dX2_read_103 : decode cX2_read 103 = .ok (.iload 5, 2) := by decide +kernel
theorem dX2_read_105 : decode cX2_read 105 = .ok (.iload 4, 2) := by decide +kernel
theorem dX2_read_107 : decode cX2_read 107 = .ok (.iload 6, 2) := by decide +kernel
theorem dX2_read_109 : decode cX2_read 109 = .ok (.aload_n 0, 1) := by decide +kernel
theorem dX2_read_110 : decode cX2_read 110 = .ok (.iload_n 1, 1) := by decide +kernel
theorem dX2_read_111 : decode cX2_read 111 = .ok (.iconst 4, 1) := by decide +kernel
theorem dX2_read_112 : decode cX2_read 112 = .ok (.iadd, 1) := by decide +kernel
theorem dX2_read_113 : decode cX2_read 113 = .ok (.invokevirtual 42, 3) := by decide +kernel
theorem dX2_read_116 : decode cX2_read 116 = .ok (.bipush 65, 2) := by decide +kernel
theorem dX2_read_118 : decode cX2_read 118 = .ok (.isub, 1) := by decide +kernel
theorem dX2_read_119 : decode cX2_read 119 = .ok (.invokevirtual 45, 3) := by decide +kernel
theorem dX2_read_122 : decode cX2_read 122 = .ok (.iconst 5, 1) := by decide +kernel
theorem dX2_read_123 : decode cX2_read 123 = .ok (.ireturn, 1) := by decide +kernel
theorem dX2_read_124 : decode cX2_read 124 = .ok (.aload_n 2, 1) := by decide +kernel
theorem dX2_read_125 : decode cX2_read 125 = .ok (.iload 5, 2) := by decide +kernel
theorem dX2_read_127 : decode cX2_read 127 = .ok (.iload 4, 2) := by decide +kernel
theorem dX2_read_129 : decode cX2_read 129 = .ok (.iload 6, 2) := by decide +kernel
theorem dX2_read_131 : decode cX2_read 131 = .ok (.iconst 0, 1) := by decide +kernel
theorem dX2_read_132 : decode cX2_read 132 = .ok (.invokevirtual 45, 3) := by decide +kernel
theorem dX2_read_135 : decode cX2_read 135 = .ok (.iconst 4, 1) := by decide +kernel
theorem dX2_read_136 : decode cX2_read 136 = .ok (.ireturn, 1) := by decide +kernel
theorem dX2_sign_0 : decode cX2_sign 0 = .ok (.iload_n 1, 1) := by decide +kernel
theorem dX2_sign_1 : decode cX2_sign 1 = .ok (.ifCond .lt 20, 3) := by decide +kernel
theorem dX2_sign_4 : decode cX2_sign 4 = .ok (.iload_n 1, 1) := by decide +kernel
theorem dX2_sign_5 : decode cX2_sign 5 = .ok (.aload_n 0, 1) := by decide +kernel
theorem dX2_sign_6 : decode cX2_sign 6 = .ok (.getfield 15, 3) := by decide +kernel
theorem dX2_sign_9 : decode cX2_sign 9 = .ok (.if_icmp .ge 12, 3) := by decide +kernel
theorem dX2_sign_12 : decode cX2_sign 12 = .ok (.aload_n 0, 1) := by decide +kernel
theorem dX2_sign_13 : decode cX2_sign 13 = .ok (.getfield 11, 3) := by decide +kernel
theorem dX2_sign_16 : decode cX2_sign 16 = .ok (.iload_n 1, 1) := by decide +kernel
theorem dX2_sign_17 : decode cX2_sign 17 = .ok (.iaload, 1) := by decide +kernel
theorem dX2_sign_18 : decode cX2_sign 18 = .ok (.goto 4, 3) := by decide +kernel
theorem dX2_sign_21 : decode cX2_sign 21 = .ok (.iconst 0, 1) := by decide +kernel
theorem dX2_sign_22 : decode cX2_sign 22 = .ok (.ireturn, 1) := by decide +kernel
theorem dX3_init_0 : decode cX3_init 0 = .ok (.aload_n 0, 1) := by decide +kernel
theorem dX3_init_1 : decode cX3_init 1 = .ok (.invokespecial 5, 3) := by decide +kernel
theorem dX3_init_4 : decode cX3_init 4 = .ok (.aload_n 0, 1) := by decide +kernel
theorem dX3_init_5 : decode cX3_init 5 = .ok (.sipush 157, 3) := by decide +kernel
theorem dX3_init_8 : decode cX3_init 8 = .ok (.newarray .long, 2) := by decide +kernel
theorem dX3_init_10 : decode cX3_init 10 = .ok (.putfield 11, 3) := by decide +kernel
theorem dX3_init_13 : decode cX3_init 13 = .ok (.aload_n 0, 1) := by decide +kernel
theorem dX3_init_14 : decode cX3_init 14 = .ok (.invokevirtual 15, 3) := by decide +kernel
theorem dX3_init_17 : decode cX3_init 17 = .ok (.return_, 1) := by decide +kernel
theorem dX3_fill_0 : decode cX3_fill 0 = .ok (.iconst 0, 1) := by decide +kernel
theorem dX3_fill_1 : decode cX3_fill 1 = .ok (.istore_n 1, 1) := by decide +kernel
theorem dX3_fill_2 : decode cX3_fill 2 = .ok (.iload_n 1, 1) := by decide +kernel
theorem dX3_fill_3 : decode cX3_fill 3 = .ok (.sipush 157, 3) := by decide +kernel
theorem dX3_fill_6 : decode cX3_fill 6 = .ok (.if_icmp .ge 18, 3) := by decide +kernel
theorem dX3_fill_9 : decode cX3_fill 9 = .ok (.aload_n 0, 1) := by decide +kernel
theorem dX3_fill_10 : decode cX3_fill 10 = .ok (.getfield 11, 3) := by decide +kernel
theorem dX3_fill_13 : decode cX3_fill 13 = .ok (.iload_n 1, 1) := by decide +kernel
theorem dX3_fill_14 : decode cX3_fill 14 = .ok (.ldc2_w 18, 3) := by decide +kernel
theorem dX3_fill_17 : decode cX3_fill 17 = .ok (.lastore, 1) := by decide +kernel
theorem dX3_fill_18 : decode cX3_fill 18 = .ok (.iinc 1 1, 3) := by decide +kernel
theorem dX3_fill_21 : decode cX3_fill 21 = .ok (.goto (-19), 3) := by decide +kernel
theorem dX3_fill_24 : decode cX3_fill 24 = .ok (.aload_n 0, 1) := by decide +kernel
theorem dX3_fill_25 : decode cX3_fill 25 = .ok (.getfield 11, 3) := by decide +kernel
theorem dX3_fill_28 : decode cX3_fill 28 = .ok (.sipush 156, 3) := by decide +kernel
theorem dX3_fill_31 : decode cX3_fill 31 = .ok (.ldc2_w 20, 3) := by decide +kernel
theorem dX3_fill_34 : decode cX3_fill 34 = .ok (.lastore, 1) := by decide +kernel
theorem dX3_fill_35 : decode cX3_fill 35 = .ok (.return_, 1) := by decide +kernel
theorem dX3_clear_0 : decode cX3_clear 0 = .ok (.aload_n 0, 1) := by decide +kernel
theorem dX3_clear_1 : decode cX3_clear 1 = .ok (.iconst 0, 1) := by decide +kernel
theorem dX3_clear_2 : decode cX3_clear 2 = .ok (.putfield 22, 3) := by decide +kernel
theorem dX3_clear_5 : decode cX3_clear 5 = .ok (.aload_n 0, 1) := by decide +kernel
theorem dX3_clear_6 : decode cX3_clear 6 = .ok (.invokevirtual 15, 3) := by decide +kernel
theorem dX3_clear_9 : decode cX3_clear 9 = .ok (.return_, 1) := by decide +kernel
theorem dX3_copy_0 : decode cX3_copy 0 = .ok (.aload_n 0, 1) := by decide +kernel
theorem dX3_copy_1 : decode cX3_copy 1 = .ok (.aload_n 1, 1) := by decide +kernel
theorem dX3_copy_2 : decode cX3_copy 2 = .ok (.getfield 22, 3) := by decide +kernel
theorem dX3_copy_5 : decode cX3_copy 5 = .ok (.putfield 22, 3) := by decide +kernel
theorem dX3_copy_8 : decode cX3_copy 8 = .ok (.aload_n 1, 1) := by decide +kernel
theorem dX3_copy_9 : decode cX3_copy 9 = .ok (.getfield 11, 3) := by decide +kernel
theorem dX3_copy_12 : decode cX3_copy 12 = .ok (.iconst 0, 1) := by decide +kernel
theorem dX3_copy_13 : decode cX3_copy 13 = .ok (.aload_n 0, 1) := by decide +kernel
theorem dX3_copy_14 : decode cX3_copy 14 = .ok (.getfield 11, 3) := by decide +kernel
theorem dX3_copy_17 : decode cX3_copy 17 = .ok (.iconst 0, 1) := by decide +kernel
theorem dX3_copy_18 : decode cX3_copy 18 = .ok (.sipush 157, 3) := by decide +kernel
theorem dX3_copy_21 : decode cX3_copy 21 = .ok (.invokestatic 26, 3) := by decide +kernel
theorem dX3_copy_24 : decode cX3_copy 24 = .ok (.return_, 1) := by decide +kernel
theorem dX3_add_0 : decode cX3_add 0 = .ok (.aload_n 0, 1) := by decide +kernel
theorem dX3_add_1 : decode cX3_add 1 = .ok (.getfield 22, 3) := by decide +kernel
theorem dX3_add_4 : decode cX3_add 4 = .ok (.bipush 8, 2) := by decide +kernel
theorem dX3_add_6 : decode cX3_add 6 = .ok (.if_icmp .lt 5, 3) := by decide +kernel
theorem dX3_add_9 : decode cX3_add 9 = .ok (.iconst 0, 1) := by decide +kernel
theorem dX3_add_10 : decode cX3_add 10 = .ok (.ireturn, 1) := by decide +kernel
theorem dX3_add_11 : decode cX3_add 11 = .ok (.aload_n 0, 1) := by decide +kernel
theorem dX3_add_12 : decode cX3_add 12 = .ok (.dup, 1) := by decide +kernel
theorem dX3_add_13 : decode cX3_add 13 = .ok (.getfield 22, 3) := by decide +kernel
theorem dX3_add_16 : decode cX3_add 16 = .ok (.iconst 1, 1) := by decide +kernel
theorem dX3_add_17 : decode cX3_add 17 = .ok (.iadd, 1) := by decide +kernel
theorem dX3_add_18 : decode cX3_add 18 = .ok (.putfield 22, 3) := by decide +kernel
theorem dX3_add_21 : decode cX3_add 21 = .ok (.iconst 0, 1) := by decide +kernel
theorem dX3_add_22 : decode cX3_add 22 = .ok (.istore_n 3, 1) := by decide +kernel
theorem dX3_add_23 : decode cX3_add 23 = .ok (.iload_n 3, 1) := by decide +kernel
theorem dX3_add_24 : decode cX3_add 24 = .ok (.sipush 10000, 3) := by decide +kernel
theorem dX3_add_27 : decode cX3_add 27 = .ok (.if_icmp .ge 40, 3) := by decide +kernel
theorem dX3_add_30 : decode cX3_add 30 = .ok (.iload_n 3, 1) := by decide +kernel
theorem dX3_add_31 : decode cX3_add 31 = .ok (.iload_n 1, 1) := by decide +kernel
theorem dX3_add_32 : decode cX3_add 32 = .ok (.iload_n 2, 1) := by decide +kernel
theorem dX3_add_33 : decode cX3_add 33 = .ok (.invokestatic 32, 3) := by decide +kernel
theorem dX3_add_36 : decode cX3_add 36 = .ok (.ifCond .ne 25, 3) := by decide +kernel
theorem dX3_add_39 : decode cX3_add 39 = .ok (.aload_n 0, 1) := by decide +kernel
theorem dX3_add_40 : decode cX3_add 40 = .ok (.getfield 11, 3) := by decide +kernel
theorem dX3_add_43 : decode cX3_add 43 = .ok (.iload_n 3, 1) := by decide +kernel
theorem dX3_add_44 : decode cX3_add 44 = .ok (.bipush 64, 2) := by decide +kernel
theorem dX3_add_46 : decode cX3_add 46 = .ok (.idiv, 1) := by decide +kernel
theorem dX3_add_47 : decode cX3_add 47 = .ok (.dup2, 1) := by decide +kernel
theorem dX3_add_48 : decode cX3_add 48 = .ok (.laload, 1) := by decide +kernel
theorem dX3_add_49 : decode cX3_add 49 = .ok (.lconst 1, 1) := by decide +kernel
theorem dX3_add_50 : decode cX3_add 50 = .ok (.iload_n 3, 1) := by decide +kernel
theorem dX3_add_51 : decode cX3_add 51 = .ok (.bipush 64, 2) := by decide +kernel
theorem dX3_add_53 : decode cX3_add 53 = .ok (.irem, 1) := by decide +kernel
theorem dX3_add_54 : decode cX3_add 54 = .ok (.lshl, 1) := by decide +kernel
theorem dX3_add_55 : decode cX3_add 55 = .ok (.ldc2_w 18, 3) := by decide +kernel
theorem dX3_add_58 : decode cX3_add 58 = .ok (.lxor, 1) := by decide +kernel
theorem dX3_add_59 : decode cX3_add 59 = .ok (.land, 1) := by decide +kernel
theorem dX3_add_60 : decode cX3_add 60 = .ok (.lastore, 1) := by decide +kernel
theorem dX3_add_61 : decode cX3_add 61 = .ok (.iinc 3 1, 3) := by decide +kernel
theorem dX3_add_64 : decode cX3_add 64 = .ok (.goto (-41), 3) := by decide +kernel
theorem dX3_add_67 : decode cX3_add 67 = .ok (.iconst 1, 1) := by decide +kernel
theorem dX3_add_68 : decode cX3_add 68 = .ok (.ireturn, 1) := by decide +kernel
theorem dX3_countSeeds_0 : decode cX3_countSeeds 0 = .ok (.iconst 0, 1) := by decide +kernel
theorem dX3_countSeeds_1 : decode cX3_countSeeds 1 = .ok (.istore_n 1, 1) := by decide +kernel
theorem dX3_countSeeds_2 : decode cX3_countSeeds 2 = .ok (.iconst 0, 1) := by decide +kernel
theorem dX3_countSeeds_3 : decode cX3_countSeeds 3 = .ok (.istore_n 2, 1) := by decide +kernel
theorem dX3_countSeeds_4 : decode cX3_countSeeds 4 = .ok (.iload_n 2, 1) := by decide +kernel
theorem dX3_countSeeds_5 : decode cX3_countSeeds 5 = .ok (.sipush 157, 3) := by decide +kernel
theorem dX3_countSeeds_8 : decode cX3_countSeeds 8 = .ok (.if_icmp .ge 21, 3) := by decide +kernel
theorem dX3_countSeeds_11 : decode cX3_countSeeds 11 = .ok (.iload_n 1, 1) := by decide +kernel
theorem dX3_countSeeds_12 : decode cX3_countSeeds 12 = .ok (.aload_n 0, 1) := by decide +kernel
theorem dX3_countSeeds_13 : decode cX3_countSeeds 13 = .ok (.getfield 11, 3) := by decide +kernel
theorem dX3_countSeeds_16 : decode cX3_countSeeds 16 = .ok (.iload_n 2, 1) := by decide +kernel
theorem dX3_countSeeds_17 : decode cX3_countSeeds 17 = .ok (.laload, 1) := by decide +kernel
theorem dX3_countSeeds_18 : decode cX3_countSeeds 18 = .ok (.invokestatic 36, 3) := by decide +kernel
theorem dX3_countSeeds_21 : decode cX3_countSeeds 21 = .ok (.iadd, 1) := by decide +kernel
theorem dX3_countSeeds_22 : decode cX3_countSeeds 22 = .ok (.istore_n 1, 1) := by decide +kernel
theorem dX3_countSeeds_23 : decode cX3_countSeeds 23 = .ok (.iinc 2 1, 3) := by decide +kernel
theorem dX3_countSeeds_26 : decode cX3_countSeeds 26 = .ok (.goto (-22), 3) := by decide +kernel
theorem dX3_countSeeds_29 : decode cX3_countSeeds 29 = .ok (.iload_n 1, 1) := by decide +kernel
theorem dX3_countSeeds_30 : decode cX3_countSeeds 30 = .ok (.ireturn, 1) := by decide +kernel
theorem dX3_pickSeed_0 : decode cX3_pickSeed 0 = .ok (.iload_n 1, 1) := by decide +kernel
theorem dX3_pickSeed_1 : decode cX3_pickSeed 1 = .ok (.ifCond .ge 6, 3) := by decide +kernel
theorem dX3_pickSeed_4 : decode cX3_pickSeed 4 = .ok (.bipush (-6), 2) := by decide +kernel
theorem dX3_pickSeed_6 : decode cX3_pickSeed 6 = .ok (.ireturn, 1) := by decide +kernel
theorem dX3_pickSeed_7 : decode cX3_pickSeed 7 = .ok (.iload_n 1, 1) := by decide +kernel
theorem dX3_pickSeed_8 : decode cX3_pickSeed 8 = .ok (.istore_n 2, 1) := by decide +kernel
theorem dX3_pickSeed_9 : decode cX3_pickSeed 9 = .ok (.iconst 0, 1) := by decide +kernel
theorem dX3_pickSeed_10 : decode cX3_pickSeed 10 = .ok (.istore_n 3, 1) := by decide +kernel
theorem dX3_pickSeed_11 : decode cX3_pickSeed 11 = .ok (.iload_n 3, 1) := by decide +kernel
theorem dX3_pickSeed_12 : decode cX3_pickSeed 12 = .ok (.sipush 157, 3) := by decide +kernel
theorem dX3_pickSeed_15 : decode cX3_pickSeed 15 = .ok (.if_icmp .ge 47, 3) := by decide +kernel
theorem dX3_pickSeed_18 : decode cX3_pickSeed 18 = .ok (.aload_n 0, 1) := by decide +kernel
theorem dX3_pickSeed_19 : decode cX3_pickSeed 19 = .ok (.getfield 11, 3) := by decide +kernel
theorem dX3_pickSeed_22 : decode cX3_pickSeed 22 = .ok (.iload_n 3, 1) := by decide +kernel
theorem dX3_pickSeed_23 : decode cX3_pickSeed 23 = .ok (.laload, 1) := by decide +kernel
theorem dX3_pickSeed_24 : decode cX3_pickSeed 24 = .ok (.invokestatic 36, 3) := by decide +kernel
theorem dX3_pickSeed_27 : decode cX3_pickSeed 27 = .ok (.istore 4, 2) := by decide +kernel
theorem dX3_pickSeed_29 : decode cX3_pickSeed 29 = .ok (.iload_n 2, 1) := by decide +kernel
theorem dX3_pickSeed_30 : decode cX3_pickSeed 30 = .ok (.iload 4, 2) := by decide +kernel
theorem dX3_pickSeed_32 : decode cX3_pickSeed 32 = .ok (.if_icmp .ge 19, 3) := by decide +kernel
theorem dX3_pickSeed_35 : decode cX3_pickSeed 35 = .ok (.bipush 64, 2) := by decide +kernel
theorem dX3_pickSeed_37 : decode cX3_pickSeed 37 = .ok (.iload_n 3, 1) := by decide +kernel
theorem dX3_pickSeed_38 : decode cX3_pickSeed 38 = .ok (.imul, 1) := by decide +kernel
theorem dX3_pickSeed_39 : decode cX3_pickSeed 39 = .ok (.aload_n 0, 1) := by decide +kernel
theorem dX3_pickSeed_40 : decode cX3_pickSeed 40 = .ok (.getfield 11, 3) := by decide +kernel
theorem dX3_pickSeed_43 : decode cX3_pickSeed 43 = .ok (.iload_n 3, 1) := by decide +kernel
theorem dX3_pickSeed_44 : decode cX3_pickSeed 44 = .ok (.laload, 1) := by decide +kernel
theorem dX3_pickSeed_45 : decode cX3_pickSeed 45 = .ok (.iload_n 2, 1) := by decide +kernel
theorem dX3_pickSeed_46 : decode cX3_pickSeed 46 = .ok (.invokestatic 42, 3) := by decide +kernel
theorem dX3_pickSeed_49 : decode cX3_pickSeed 49 = .ok (.iadd, 1) := by decide +kernel
theorem dX3_pickSeed_50 : decode cX3_pickSeed 50 = .ok (.ireturn, 1) := by decide +kernel
theorem dX3_pickSeed_51 : decode cX3_pickSeed 51 = .ok (.iload_n 2, 1) := by decide +kernel
theorem dX3_pickSeed_52 : decode cX3_pickSeed 52 = .ok (.iload 4, 2) := by decide +kernel
theorem dX3_pickSeed_54 : decode cX3_pickSeed 54 = .ok (.isub, 1) := by decide +kernel
theorem dX3_pickSeed_55 : decode cX3_pickSeed 55 = .ok (.istore_n 2, 1) := by decide +kernel
theorem dX3_pickSeed_56 : decode cX3_pickSeed 56 = .ok (.iinc 3 1, 3) := by decide +kernel
theorem dX3_pickSeed_59 : decode cX3_pickSeed 59 = .ok (.goto (-48), 3) := by decide +kernel
theorem dX3_pickSeed_62 : decode cX3_pickSeed 62 = .ok (.bipush (-6), 2) := by decide +kernel
theorem dX3_pickSeed_64 : decode cX3_pickSeed 64 = .ok (.ireturn, 1) := by decide +kernel
theorem dX3_pickBit_0 : decode cX3_pickBit 0 = .ok (.iload_n 2, 1) := by decide +kernel
theorem dX3_pickBit_1 : decode cX3_pickBit 1 = .ok (.istore_n 3, 1) := by decide +kernel
theorem dX3_pickBit_2 : decode cX3_pickBit 2 = .ok (.iconst 0, 1) := by decide +kernel
theorem dX3_pickBit_3 : decode cX3_pickBit 3 = .ok (.istore 4, 2) := by decide +kernel
theorem dX3_pickBit_5 : decode cX3_pickBit 5 = .ok (.iload 4, 2) := by decide +kernel
theorem dX3_pickBit_7 : decode cX3_pickBit 7 = .ok (.bipush 64, 2) := by decide +kernel
theorem dX3_pickBit_9 : decode cX3_pickBit 9 = .ok (.if_icmp .ge 30, 3) := by decide +kernel
theorem dX3_pickBit_12 : decode cX3_pickBit 12 = .ok (.lload_n 0, 1) := by decide +kernel
theorem dX3_pickBit_13 : decode cX3_pickBit 13 = .ok (.iload 4, 2) := by decide +kernel
theorem dX3_pickBit_15 : decode cX3_pickBit 15 = .ok (.lushr, 1) := by decide +kernel
theorem dX3_pickBit_16 : decode cX3_pickBit 16 = .ok (.lconst 1, 1) := by decide +kernel
theorem dX3_pickBit_17 : decode cX3_pickBit 17 = .ok (.land, 1) := by decide +kernel
theorem dX3_pickBit_18 : decode cX3_pickBit 18 = .ok (.lconst 0, 1) := by decide +kernel
theorem dX3_pickBit_19 : decode cX3_pickBit 19 = .ok (.lcmp, 1) := by decide +kernel
theorem dX3_pickBit_20 : decode cX3_pickBit 20 = .ok (.ifCond .eq 13, 3) := by decide +kernel
theorem dX3_pickBit_23 : decode cX3_pickBit 23 = .ok (.iload_n 3, 1) := by decide +kernel
theorem dX3_pickBit_24 : decode cX3_pickBit 24 = .ok (.ifCond .ne 6, 3) := by decide +kernel
theorem dX3_pickBit_27 : decode cX3_pickBit 27 = .ok (.iload 4, 2) := by decide +kernel
theorem dX3_pickBit_29 : decode cX3_pickBit 29 = .ok (.ireturn, 1) := by decide +kernel
theorem dX3_pickBit_30 : decode cX3_pickBit 30 = .ok (.iinc 3 (-1), 3) := by decide +kernel
theorem dX3_pickBit_33 : decode cX3_pickBit 33 = .ok (.iinc 4 1, 3) := by decide +kernel
theorem dX3_pickBit_36 : decode cX3_pickBit 36 = .ok (.goto (-31), 3) := by decide +kernel
theorem dX3_pickBit_39 : decode cX3_pickBit 39 = .ok (.iconst 0, 1) := by decide +kernel
theorem dX3_pickBit_40 : decode cX3_pickBit 40 = .ok (.ireturn, 1) := by decide +kernel
theorem dX4_init_0 : decode cX4_init 0 = .ok (.aload_n 0, 1) := by decide +kernel
theorem dX4_init_1 : decode cX4_init 1 = .ok (.invokespecial 3, 3) := by decide +kernel
theorem dX4_init_4 : decode cX4_init 4 = .ok (.aload_n 0, 1) := by decide +kernel
theorem dX4_init_5 : decode cX4_init 5 = .ok (.bipush 50, 2) := by decide +kernel
theorem dX4_init_7 : decode cX4_init 7 = .ok (.newarray .int, 2) := by decide +kernel
theorem dX4_init_9 : decode cX4_init 9 = .ok (.putfield 9, 3) := by decide +kernel
theorem dX4_init_12 : decode cX4_init 12 = .ok (.aload_n 0, 1) := by decide +kernel
theorem dX4_init_13 : decode cX4_init 13 = .ok (.bipush 50, 2) := by decide +kernel
theorem dX4_init_15 : decode cX4_init 15 = .ok (.newarray .int, 2) := by decide +kernel
theorem dX4_init_17 : decode cX4_init 17 = .ok (.putfield 15, 3) := by decide +kernel
theorem dX4_init_20 : decode cX4_init 20 = .ok (.aload_n 0, 1) := by decide +kernel
theorem dX4_init_21 : decode cX4_init 21 = .ok (.bipush 50, 2) := by decide +kernel
theorem dX4_init_23 : decode cX4_init 23 = .ok (.newarray .int, 2) := by decide +kernel
theorem dX4_init_25 : decode cX4_init 25 = .ok (.putfield 18, 3) := by decide +kernel
theorem dX4_init_28 : decode cX4_init 28 = .ok (.aload_n 0, 1) := by decide +kernel
theorem dX4_init_29 : decode cX4_init 29 = .ok (.bipush 50, 2) := by decide +kernel
theorem dX4_init_31 : decode cX4_init 31 = .ok (.newarray .long, 2) := by decide +kernel
theorem dX4_init_33 : decode cX4_init 33 = .ok (.putfield 21, 3) := by decide +kernel
theorem dX4_init_36 : decode cX4_init 36 = .ok (.aload_n 0, 1) := by decide +kernel
theorem dX4_init_37 : decode cX4_init 37 = .ok (.bipush 50, 2) := by decide +kernel
theorem dX4_init_39 : decode cX4_init 39 = .ok (.newarray .int, 2) := by decide +kernel
theorem dX4_init_41 : decode cX4_init 41 = .ok (.putfield 25, 3) := by decide +kernel
theorem dX4_init_44 : decode cX4_init 44 = .ok (.aload_n 0, 1) := by decide +kernel
theorem dX4_init_45 : decode cX4_init 45 = .ok (.bipush 50, 2) := by decide +kernel
theorem dX4_init_47 : decode cX4_init 47 = .ok (.newarray .int, 2) := by decide +kernel
theorem dX4_init_49 : decode cX4_init 49 = .ok (.putfield 28, 3) := by decide +kernel
theorem dX4_init_52 : decode cX4_init 52 = .ok (.aload_n 0, 1) := by decide +kernel
theorem dX4_init_53 : decode cX4_init 53 = .ok (.bipush 50, 2) := by decide +kernel
theorem dX4_init_55 : decode cX4_init 55 = .ok (.newarray .int, 2) := by decide +kernel
theorem dX4_init_57 : decode cX4_init 57 = .ok (.putfield 31, 3) := by decide +kernel
theorem dX4_init_60 : decode cX4_init 60 = .ok (.aload_n 0, 1) := by decide +kernel
theorem dX4_init_61 : decode cX4_init 61 = .ok (.bipush (-6), 2) := by decide +kernel
theorem dX4_init_63 : decode cX4_init 63 = .ok (.putfield 34, 3) := by decide +kernel
theorem dX4_init_66 : decode cX4_init 66 = .ok (.aload_n 0, 1) := by decide +kernel
theorem dX4_init_67 : decode cX4_init 67 = .ok (.bipush 50, 2) := by decide +kernel
theorem dX4_init_69 : decode cX4_init 69 = .ok (.newarray .int, 2) := by decide +kernel
theorem dX4_init_71 : decode cX4_init 71 = .ok (.putfield 38, 3) := by decide +kernel
theorem dX4_init_74 : decode cX4_init 74 = .ok (.return_, 1) := by decide +kernel
theorem dX4_grow_0 : decode cX4_grow 0 = .ok (.aload_n 0, 1) := by decide +kernel
theorem dX4_grow_1 : decode cX4_grow 1 = .ok (.iload_n 3, 1) := by decide +kernel
theorem dX4_grow_2 : decode cX4_grow 2 = .ok (.invokevirtual 41, 3) := by decide +kernel
theorem dX4_grow_5 : decode cX4_grow 5 = .ok (.iconst 0, 1) := by decide +kernel
theorem dX4_grow_6 : decode cX4_grow 6 = .ok (.istore 4, 2) := by decide +kernel
theorem dX4_grow_8 : decode cX4_grow 8 = .ok (.iconst 0, 1) := by decide +kernel
theorem dX4_grow_9 : decode cX4_grow 9 = .ok (.istore 5, 2) := by decide +kernel
theorem dX4_grow_11 : decode cX4_grow 11 = .ok (.iload 5, 2) := by decide +kernel
theorem dX4_grow_13 : decode cX4_grow 13 = .ok (.bipush 50, 2) := by decide +kernel
theorem dX4_grow_15 : decode cX4_grow 15 = .ok (.if_icmp .ge 140, 3) := by decide +kernel
theorem dX4_grow_18 : decode cX4_grow 18 = .ok (.aload_n 0, 1) := by decide +kernel
theorem dX4_grow_19 : decode cX4_grow 19 = .ok (.getfield 21, 3) := by decide +kernel
theorem dX4_grow_22 : decode cX4_grow 22 = .ok (.iload 5, 2) := by decide +kernel
theorem dX4_grow_24 : decode cX4_grow 24 = .ok (.lconst 0, 1) := by decide +kernel
theorem dX4_grow_25 : decode cX4_grow 25 = .ok (.lastore, 1) := by decide +kernel
theorem dX4_grow_26 : decode cX4_grow 26 = .ok (.lload_n 1, 1) := by decide +kernel
theorem dX4_grow_27 : decode cX4_grow 27 = .ok (.iload 5, 2) := by decide +kernel
theorem dX4_grow_29 : decode cX4_grow 29 = .ok (.invokestatic 45, 3) := by decide +kernel
theorem dX4_grow_32 : decode cX4_grow 32 = .ok (.ifCond .ne 6, 3) := by decide +kernel
theorem dX4_grow_35 : decode cX4_grow 35 = .ok (.goto 114, 3) := by decide +kernel
theorem dX4_grow_38 : decode cX4_grow 38 = .ok (.aload_n 0, 1) := by decide +kernel
theorem dX4_grow_39 : decode cX4_grow 39 = .ok (.getfield 9, 3) := by decide +kernel
theorem dX4_grow_42 : decode cX4_grow 42 = .ok (.iload 5, 2) := by decide +kernel
theorem dX4_grow_44 : decode cX4_grow 44 = .ok (.bipush (-6), 2) := by decide +kernel
theorem dX4_grow_46 : decode cX4_grow 46 = .ok (.iastore, 1) := by decide +kernel
theorem dX4_grow_47 : decode cX4_grow 47 = .ok (.aload_n 0, 1) := by decide +kernel
theorem dX4_grow_48 : decode cX4_grow 48 = .ok (.getfield 15, 3) := by decide +kernel
theorem dX4_grow_51 : decode cX4_grow 51 = .ok (.iload 5, 2) := by decide +kernel
theorem dX4_grow_53 : decode cX4_grow 53 = .ok (.bipush (-6), 2) := by decide +kernel
theorem dX4_grow_55 : decode cX4_grow 55 = .ok (.iastore, 1) := by decide +kernel
theorem dX4_grow_56 : decode cX4_grow 56 = .ok (.iload 4, 2) := by decide +kernel
theorem dX4_grow_58 : decode cX4_grow 58 = .ok (.ifCond .le 58, 3) := by decide +kernel
theorem dX4_grow_61 : decode cX4_grow 61 = .ok (.aload_n 0, 1) := by decide +kernel
theorem dX4_grow_62 : decode cX4_grow 62 = .ok (.getfield 31, 3) := by decide +kernel
theorem dX4_grow_65 : decode cX4_grow 65 = .ok (.aload_n 0, 1) := by decide +kernel
theorem dX4_grow_66 : decode cX4_grow 66 = .ok (.getfield 38, 3) := by decide +kernel
theorem dX4_grow_69 : decode cX4_grow 69 = .ok (.iload 4, 2) := by decide +kernel
theorem dX4_grow_71 : decode cX4_grow 71 = .ok (.iconst 1, 1) := by decide +kernel
theorem dX4_grow_72 : decode cX4_grow 72 = .ok (.isub, 1) := by decide +kernel
theorem dX4_grow_73 : decode cX4_grow 73 = .ok (.iaload, 1) := by decide +kernel
theorem dX4_grow_74 : decode cX4_grow 74 = .ok (.iaload, 1) := by decide +kernel
theorem dX4_grow_75 : decode cX4_grow 75 = .ok (.aload_n 0, 1) := by decide +kernel
theorem dX4_grow_76 : decode cX4_grow 76 = .ok (.getfield 31, 3) := by decide +kernel
theorem dX4_grow_79 : decode cX4_grow 79 = .ok (.iload 5, 2) := by decide +kernel
theorem dX4_grow_81 : decode cX4_grow 81 = .ok (.iaload, 1) := by decide +kernel
theorem dX4_grow_82 : decode cX4_grow 82 = .ok (.if_icmp .ge 34, 3) := by decide +kernel
theorem dX4_grow_85 : decode cX4_grow 85 = .ok (.iinc 4 (-1), 3) := by decide +kernel
theorem dX4_grow_88 : decode cX4_grow 88 = .ok (.aload_n 0, 1) := by decide +kernel
theorem dX4_grow_89 : decode cX4_grow 89 = .ok (.getfield 9, 3) := by decide +kernel
theorem dX4_grow_92 : decode cX4_grow 92 = .ok (.iload 5, 2) := by decide +kernel
theorem dX4_grow_94 : decode cX4_grow 94 = .ok (.aload_n 0, 1) := by decide +kernel
theorem dX4_grow_95 : decode cX4_grow 95 = .ok (.getfield 38, 3) := by decide +kernel
theorem dX4_grow_98 : decode cX4_grow 98 = .ok (.iload 4, 2) := by decide +kernel
theorem dX4_grow_100 : decode cX4_grow 100 = .ok (.iaload, 1) := by decide +kernel
theorem dX4_grow_101 : decode cX4_grow 101 = .ok (.iastore, 1) := by decide +kernel
theorem dX4_grow_102 : decode cX4_grow 102 = .ok (.aload_n 0, 1) := by decide +kernel
theorem dX4_grow_103 : decode cX4_grow 103 = .ok (.aload_n 0, 1) := by decide +kernel
theorem dX4_grow_104 : decode cX4_grow 104 = .ok (.getfield 9, 3) := by decide +kernel
theorem dX4_grow_107 : decode cX4_grow 107 = .ok (.iload 5, 2) := by decide +kernel
theorem dX4_grow_109 : decode cX4_grow 109 = .ok (.iaload, 1) := by decide +kernel
theorem dX4_grow_110 : decode cX4_grow 110 = .ok (.invokevirtual 49, 3) := by decide +kernel
theorem dX4_grow_113 : decode cX4_grow 113 = .ok (.goto (-57), 3) := by decide +kernel
theorem dX4_grow_116 : decode cX4_grow 116 = .ok (.iload 4, 2) := by decide +kernel
theorem dX4_grow_118 : decode cX4_grow 118 = .ok (.ifCond .le 19, 3) := by decide +kernel
theorem dX4_grow_121 : decode cX4_grow 121 = .ok (.aload_n 0, 1) := by decide +kernel
theorem dX4_grow_122 : decode cX4_grow 122 = .ok (.getfield 15, 3) := by decide +kernel
theorem dX4_grow_125 : decode cX4_grow 125 = .ok (.aload_n 0, 1) := by decide +kernel
theorem dX4_grow_126 : decode cX4_grow 126 = .ok (.getfield 38, 3) := by decide +kernel
theorem dX4_grow_129 : decode cX4_grow 129 = .ok (.iload 4, 2) := by decide +kernel
theorem dX4_grow_131 : decode cX4_grow 131 = .ok (.iconst 1, 1) := by decide +kernel
theorem dX4_grow_132 : decode cX4_grow 132 = .ok (.isub, 1) := by decide +kernel
theorem dX4_grow_133 : decode cX4_grow 133 = .ok (.iaload, 1) := by decide +kernel
theorem dX4_grow_134 : decode cX4_grow 134 = .ok (.iload 5, 2) := by decide +kernel
theorem dX4_grow_136 : decode cX4_grow 136 = .ok (.iastore, 1) := by decide +kernel
theorem dX4_grow_137 : decode cX4_grow 137 = .ok (.aload_n 0, 1) := by decide +kernel
theorem dX4_grow_138 : decode cX4_grow 138 = .ok (.getfield 38, 3) := by decide +kernel
theorem dX4_grow_141 : decode cX4_grow 141 = .ok (.iload 4, 2) := by decide +kernel
theorem dX4_grow_143 : decode cX4_grow 143 = .ok (.iload 5, 2) := by decide +kernel
theorem dX4_grow_145 : decode cX4_grow 145 = .ok (.iastore, 1) := by decide +kernel
theorem dX4_grow_146 : decode cX4_grow 146 = .ok (.iinc 4 1, 3) := by decide +kernel
theorem dX4_grow_149 : decode cX4_grow 149 = .ok (.iinc 5 1, 3) := by decide +kernel
theorem dX4_grow_152 : decode cX4_grow 152 = .ok (.goto (-141), 3) := by decide +kernel
theorem dX4_grow_155 : decode cX4_grow 155 = .ok (.aload_n 0, 1) := by decide +kernel
theorem dX4_grow_156 : decode cX4_grow 156 = .ok (.bipush (-6), 2) := by decide +kernel
theorem dX4_grow_158 : decode cX4_grow 158 = .ok (.putfield 52, 3) := by decide +kernel
theorem dX4_grow_161 : decode cX4_grow 161 = .ok (.iload 4, 2) := by decide +kernel
theorem dX4_grow_163 : decode cX4_grow 163 = .ok (.ifCond .le 28, 3) := by decide +kernel
theorem dX4_grow_166 : decode cX4_grow 166 = .ok (.iinc 4 (-1), 3) := by decide +kernel
theorem dX4_grow_169 : decode cX4_grow 169 = .ok (.aload_n 0, 1) := by decide +kernel
theorem dX4_grow_170 : decode cX4_grow 170 = .ok (.aload_n 0, 1) := by decide +kernel
theorem dX4_grow_171 : decode cX4_grow 171 = .ok (.getfield 38, 3) := by decide +kernel
theorem dX4_grow_174 : decode cX4_grow 174 = .ok (.iload 4, 2) := by decide +kernel
theorem dX4_grow_176 : decode cX4_grow 176 = .ok (.iaload, 1) := by decide +kernel
theorem dX4_grow_177 : decode cX4_grow 177 = .ok (.putfield 52, 3) := by decide +kernel
theorem dX4_grow_180 : decode cX4_grow 180 = .ok (.aload_n 0, 1) := by decide +kernel
theorem dX4_grow_181 : decode cX4_grow 181 = .ok (.aload_n 0, 1) := by decide +kernel
theorem dX4_grow_182 : decode cX4_grow 182 = .ok (.getfield 52, 3) := by decide +kernel
theorem dX4_grow_185 : decode cX4_grow 185 = .ok (.invokevirtual 49, 3) := by decide +kernel
theorem dX4_grow_188 : decode cX4_grow 188 = .ok (.goto (-27), 3) := by decide +kernel
theorem dX4_grow_191 : decode cX4_grow 191 = .ok (.aload_n 0, 1) := by decide +kernel
theorem dX4_grow_192 : decode cX4_grow 192 = .ok (.getfield 52, 3) := by decide +kernel
theorem dX4_grow_195 : decode cX4_grow 195 = .ok (.ifCond .lt 14, 3) := by decide +kernel
theorem dX4_grow_198 : decode cX4_grow 198 = .ok (.aload_n 0, 1) := by decide +kernel
theorem dX4_grow_199 : decode cX4_grow 199 = .ok (.getfield 18, 3) := by decide +kernel
theorem dX4_grow_202 : decode cX4_grow 202 = .ok (.aload_n 0, 1) := by decide +kernel
theorem dX4_grow_203 : decode cX4_grow 203 = .ok (.getfield 52, 3) := by decide +kernel
theorem dX4_grow_206 : decode cX4_grow 206 = .ok (.bipush (-6), 2) := by decide +kernel
theorem dX4_grow_208 : decode cX4_grow 208 = .ok (.iastore, 1) := by decide +kernel
theorem dX4_grow_209 : decode cX4_grow 209 = .ok (.return_, 1) := by decide +kernel
theorem dX4_price_0 : decode cX4_price 0 = .ok (.iload_n 1, 1) := by decide +kernel
theorem dX4_price_1 : decode cX4_price 1 = .ok (.aload_n 0, 1) := by decide +kernel
theorem dX4_price_2 : decode cX4_price 2 = .ok (.getfield 34, 3) := by decide +kernel
theorem dX4_price_5 : decode cX4_price 5 = .ok (.if_icmp .ne 4, 3) := by decide +kernel
theorem dX4_price_8 : decode cX4_price 8 = .ok (.return_, 1) := by decide +kernel
theorem dX4_price_9 : decode cX4_price 9 = .ok (.iconst 0, 1) := by decide +kernel
theorem dX4_price_10 : decode cX4_price 10 = .ok (.istore_n 2, 1) := by decide +kernel
theorem dX4_price_11 : decode cX4_price 11 = .ok (.iload_n 2, 1) := by decide +kernel
theorem dX4_price_12 : decode cX4_price 12 = .ok (.bipush 50, 2) := by decide +kernel
theorem dX4_price_14 : decode cX4_price 14 = .ok (.if_icmp .ge 20, 3) := by decide +kernel
theorem dX4_price_17 : decode cX4_price 17 = .ok (.aload_n 0, 1) := by decide +kernel
theorem dX4_price_18 : decode cX4_price 18 = .ok (.getfield 31, 3) := by decide +kernel
theorem dX4_price_21 : decode cX4_price 21 = .ok (.iload_n 2, 1) := by decide +kernel
theorem dX4_price_22 : decode cX4_price 22 = .ok (.iload_n 1, 1) := by decide +kernel
theorem dX4_price_23 : decode cX4_price 23 = .ok (.iload_n 2, 1) := by decide +kernel
theorem dX4_price_24 : decode cX4_price 24 = .ok (.invokestatic 55, 3) := by decide +kernel
theorem dX4_price_27 : decode cX4_price 27 = .ok (.iastore, 1) := by decide +kernel
theorem dX4_price_28 : decode cX4_price 28 = .ok (.iinc 2 1, 3) := by decide +kernel
theorem dX4_price_31 : decode cX4_price 31 = .ok (.goto (-20), 3) := by decide +kernel
theorem dX4_price_34 : decode cX4_price 34 = .ok (.aload_n 0, 1) := by decide +kernel
theorem dX4_price_35 : decode cX4_price 35 = .ok (.iload_n 1, 1) := by decide +kernel
theorem dX4_price_36 : decode cX4_price 36 = .ok (.putfield 34, 3) := by decide +kernel
theorem dX4_price_39 : decode cX4_price 39 = .ok (.return_, 1) := by decide +kernel
theorem dX4_finish_0 : decode cX4_finish 0 = .ok (.aload_n 0, 1) := by decide +kernel
theorem dX4_finish_1 : decode cX4_finish 1 = .ok (.getfield 9, 3) := by decide +kernel
theorem dX4_finish_4 : decode cX4_finish 4 = .ok (.iload_n 1, 1) := by decide +kernel
theorem dX4_finish_5 : decode cX4_finish 5 = .ok (.iaload, 1) := by decide +kernel
theorem dX4_finish_6 : decode cX4_finish 6 = .ok (.istore_n 2, 1) := by decide +kernel
theorem dX4_finish_7 : decode cX4_finish 7 = .ok (.aload_n 0, 1) := by decide +kernel
theorem dX4_finish_8 : decode cX4_finish 8 = .ok (.getfield 15, 3) := by decide +kernel
theorem dX4_finish_11 : decode cX4_finish 11 = .ok (.iload_n 1, 1) := by decide +kernel
theorem dX4_finish_12 : decode cX4_finish 12 = .ok (.iaload, 1) := by decide +kernel
theorem dX4_finish_13 : decode cX4_finish 13 = .ok (.istore_n 3, 1) := by decide +kernel
theorem dX4_finish_14 : decode cX4_finish 14 = .ok (.aload_n 0, 1) := by decide +kernel
theorem dX4_finish_15 : decode cX4_finish 15 = .ok (.getfield 21, 3) := by decide +kernel
theorem dX4_finish_18 : decode cX4_finish 18 = .ok (.iload_n 1, 1) := by decide +kernel
theorem dX4_finish_19 : decode cX4_finish 19 = .ok (.iload_n 1, 1) := by decide +kernel
theorem dX4_finish_20 : decode cX4_finish 20 = .ok (.invokestatic 58, 3) := by decide +kernel
theorem dX4_finish_23 : decode cX4_finish 23 = .ok (.aload_n 0, 1) := by decide +kernel
theorem dX4_finish_24 : decode cX4_finish 24 = .ok (.iload_n 2, 1) := by decide +kernel
theorem dX4_finish_25 : decode cX4_finish 25 = .ok (.invokevirtual 62, 3) := by decide +kernel
theorem dX4_finish_28 : decode cX4_finish 28 = .ok (.lor, 1) := by decide +kernel
theorem dX4_finish_29 : decode cX4_finish 29 = .ok (.aload_n 0, 1) := by decide +kernel
theorem dX4_finish_30 : decode cX4_finish 30 = .ok (.iload_n 3, 1) := by decide +kernel
theorem dX4_finish_31 : decode cX4_finish 31 = .ok (.invokevirtual 62, 3) := by decide +kernel
theorem dX4_finish_34 : decode cX4_finish 34 = .ok (.lor, 1) := by decide +kernel
theorem dX4_finish_35 : decode cX4_finish 35 = .ok (.lastore, 1) := by decide +kernel
theorem dX4_finish_36 : decode cX4_finish 36 = .ok (.aload_n 0, 1) := by decide +kernel
theorem dX4_finish_37 : decode cX4_finish 37 = .ok (.getfield 28, 3) := by decide +kernel
theorem dX4_finish_40 : decode cX4_finish 40 = .ok (.iload_n 1, 1) := by decide +kernel
theorem dX4_finish_41 : decode cX4_finish 41 = .ok (.iconst 1, 1) := by decide +kernel
theorem dX4_finish_42 : decode cX4_finish 42 = .ok (.aload_n 0, 1) := by decide +kernel
theorem dX4_finish_43 : decode cX4_finish 43 = .ok (.iload_n 2, 1) := by decide +kernel
theorem dX4_finish_44 : decode cX4_finish 44 = .ok (.invokevirtual 65, 3) := by decide +kernel
theorem dX4_finish_47 : decode cX4_finish 47 = .ok (.aload_n 0, 1) := by decide +kernel
theorem dX4_finish_48 : decode cX4_finish 48 = .ok (.iload_n 3, 1) := by decide +kernel
theorem dX4_finish_49 : decode cX4_finish 49 = .ok (.invokevirtual 65, 3) := by decide +kernel
theorem dX4_finish_52 : decode cX4_finish 52 = .ok (.invokestatic 69, 3) := by decide +kernel
theorem dX4_finish_55 : decode cX4_finish 55 = .ok (.iadd, 1) := by decide +kernel
theorem dX4_finish_56 : decode cX4_finish 56 = .ok (.iastore, 1) := by decide +kernel
theorem dX4_finish_57 : decode cX4_finish 57 = .ok (.aload_n 0, 1) := by decide +kernel
theorem dX4_finish_58 : decode cX4_finish 58 = .ok (.getfield 25, 3) := by decide +kernel
theorem dX4_finish_61 : decode cX4_finish 61 = .ok (.iload_n 1, 1) := by decide +kernel
theorem dX4_finish_62 : decode cX4_finish 62 = .ok (.iconst 1, 1) := by decide +kernel
theorem dX4_finish_63 : decode cX4_finish 63 = .ok (.bipush 31, 2) := by decide +kernel
theorem dX4_finish_65 : decode cX4_finish 65 = .ok (.aload_n 0, 1) := by decide +kernel
theorem dX4_finish_66 : decode cX4_finish 66 = .ok (.iload_n 2, 1) := by decide +kernel
theorem dX4_finish_67 : decode cX4_finish 67 = .ok (.invokevirtual 74, 3) := by decide +kernel
theorem dX4_finish_70 : decode cX4_finish 70 = .ok (.imul, 1) := by decide +kernel
theorem dX4_finish_71 : decode cX4_finish 71 = .ok (.bipush 57, 2) := by decide +kernel
theorem dX4_finish_73 : decode cX4_finish 73 = .ok (.aload_n 0, 1) := by decide +kernel
theorem dX4_finish_74 : decode cX4_finish 74 = .ok (.iload_n 3, 1) := by decide +kernel
theorem dX4_finish_75 : decode cX4_finish 75 = .ok (.invokevirtual 74, 3) := by decide +kernel
theorem dX4_finish_78 : decode cX4_finish 78 = .ok (.imul, 1) := by decide +kernel
theorem dX4_finish_79 : decode cX4_finish 79 = .ok (.iadd, 1) := by decide +kernel
theorem dX4_finish_80 : decode cX4_finish 80 = .ok (.sipush 7919, 3) := by decide +kernel
theorem dX4_finish_83 : decode cX4_finish 83 = .ok (.iload_n 1, 1) := by decide +kernel
theorem dX4_finish_84 : decode cX4_finish 84 = .ok (.iconst 1, 1) := by decide +kernel
theorem dX4_finish_85 : decode cX4_finish 85 = .ok (.iadd, 1) := by decide +kernel
theorem dX4_finish_86 : decode cX4_finish 86 = .ok (.imul, 1) := by decide +kernel
theorem dX4_finish_87 : decode cX4_finish 87 = .ok (.iadd, 1) := by decide +kernel
theorem dX4_finish_88 : decode cX4_finish 88 = .ok (.ldc 77, 2) := by decide +kernel
theorem dX4_finish_90 : decode cX4_finish 90 = .ok (.irem, 1) := by decide +kernel
theorem dX4_finish_91 : decode cX4_finish 91 = .ok (.iadd, 1) := by decide +kernel
theorem dX4_finish_92 : decode cX4_finish 92 = .ok (.iastore, 1) := by decide +kernel
theorem dX4_finish_93 : decode cX4_finish 93 = .ok (.iload_n 2, 1) := by decide +kernel
theorem dX4_finish_94 : decode cX4_finish 94 = .ok (.ifCond .lt 10, 3) := by decide +kernel
theorem dX4_finish_97 : decode cX4_finish 97 = .ok (.aload_n 0, 1) := by decide +kernel
theorem dX4_finish_98 : decode cX4_finish 98 = .ok (.getfield 18, 3) := by decide +kernel
theorem dX4_finish_101 : decode cX4_finish 101 = .ok (.iload_n 2, 1) := by decide +kernel
theorem dX4_finish_102 : decode cX4_finish 102 = .ok (.iload_n 1, 1) := by decide +kernel
theorem dX4_finish_103 : decode cX4_finish 103 = .ok (.iastore, 1) := by decide +kernel
theorem dX4_finish_104 : decode cX4_finish 104 = .ok (.iload_n 3, 1) := by decide +kernel
theorem dX4_finish_105 : decode cX4_finish 105 = .ok (.ifCond .lt 10, 3) := by decide +kernel
theorem dX4_finish_108 : decode cX4_finish 108 = .ok (.aload_n 0, 1) := by decide +kernel
theorem dX4_finish_109 : decode cX4_finish 109 = .ok (.getfield 18, 3) := by decide +kernel
theorem dX4_finish_112 : decode cX4_finish 112 = .ok (.iload_n 3, 1) := by decide +kernel
theorem dX4_finish_113 : decode cX4_finish 113 = .ok (.iload_n 1, 1) := by decide +kernel
theorem dX4_finish_114 : decode cX4_finish 114 = .ok (.iastore, 1) := by decide +kernel
theorem dX4_finish_115 : decode cX4_finish 115 = .ok (.return_, 1) := by decide +kernel
theorem dX4_spanBelow_0 : decode cX4_spanBelow 0 = .ok (.iload_n 1, 1) := by decide +kernel
theorem dX4_spanBelow_1 : decode cX4_spanBelow 1 = .ok (.ifCond .lt 12, 3) := by decide +kernel
theorem dX4_spanBelow_4 : decode cX4_spanBelow 4 = .ok (.aload_n 0, 1) := by decide +kernel
theorem dX4_spanBelow_5 : decode cX4_spanBelow 5 = .ok (.getfield 21, 3) := by decide +kernel
theorem dX4_spanBelow_8 : decode cX4_spanBelow 8 = .ok (.iload_n 1, 1) := by decide +kernel
theorem dX4_spanBelow_9 : decode cX4_spanBelow 9 = .ok (.laload, 1) := by decide +kernel
theorem dX4_spanBelow_10 : decode cX4_spanBelow 10 = .ok (.goto 4, 3) := by decide +kernel
theorem dX4_spanBelow_13 : decode cX4_spanBelow 13 = .ok (.lconst 0, 1) := by decide +kernel
theorem dX4_spanBelow_14 : decode cX4_spanBelow 14 = .ok (.lreturn, 1) := by decide +kernel
theorem dX4_sizeBelow_0 : decode cX4_sizeBelow 0 = .ok (.aload_n 0, 1) := by decide +kernel
theorem dX4_sizeBelow_1 : decode cX4_sizeBelow 1 = .ok (.iload_n 1, 1) := by decide +kernel
theorem dX4_sizeBelow_2 : decode cX4_sizeBelow 2 = .ok (.invokevirtual 62, 3) := by decide +kernel
theorem dX4_sizeBelow_5 : decode cX4_sizeBelow 5 = .ok (.invokestatic 78, 3) := by decide +kernel
theorem dX4_sizeBelow_8 : decode cX4_sizeBelow 8 = .ok (.ireturn, 1) := by decide +kernel
theorem dX4_heightBelow_0 : decode cX4_heightBelow 0 = .ok (.iload_n 1, 1) := by decide +kernel
theorem dX4_heightBelow_1 : decode cX4_heightBelow 1 = .ok (.ifCond .lt 12, 3) := by decide +kernel
theorem dX4_heightBelow_4 : decode cX4_heightBelow 4 = .ok (.aload_n 0, 1) := by decide +kernel
theorem dX4_heightBelow_5 : decode cX4_heightBelow 5 = .ok (.getfield 28, 3) := by decide +kernel
theorem dX4_heightBelow_8 : decode cX4_heightBelow 8 = .ok (.iload_n 1, 1) := by decide +kernel
theorem dX4_heightBelow_9 : decode cX4_heightBelow 9 = .ok (.iaload, 1) := by decide +kernel
theorem dX4_heightBelow_10 : decode cX4_heightBelow 10 = .ok (.goto 4, 3) := by decide +kernel
theorem dX4_heightBelow_13 : decode cX4_heightBelow 13 = .ok (.iconst 0, 1) := by decide +kernel
theorem dX4_heightBelow_14 : decode cX4_heightBelow 14 = .ok (.ireturn, 1) := by decide +kernel
theorem dX4_digestBelow_0 : decode cX4_digestBelow 0 = .ok (.iload_n 1, 1) := by decide +kernel
theorem dX4_digestBelow_1 : decode cX4_digestBelow 1 = .ok (.ifCond .lt 12, 3) := by decide +kernel
theorem dX4_digestBelow_4 : decode cX4_digestBelow 4 = .ok (.aload_n 0, 1) := by decide +kernel
theorem dX4_digestBelow_5 : decode cX4_digestBelow 5 = .ok (.getfield 25, 3) := by decide +kernel
theorem dX4_digestBelow_8 : decode cX4_digestBelow 8 = .ok (.iload_n 1, 1) := by decide +kernel
theorem dX4_digestBelow_9 : decode cX4_digestBelow 9 = .ok (.iaload, 1) := by decide +kernel
theorem dX4_digestBelow_10 : decode cX4_digestBelow 10 = .ok (.goto 4, 3) := by decide +kernel
theorem dX4_digestBelow_13 : decode cX4_digestBelow 13 = .ok (.iconst 0, 1) := by decide +kernel
theorem dX4_digestBelow_14 : decode cX4_digestBelow 14 = .ok (.ireturn, 1) := by decide +kernel
theorem dX4_depth_0 : decode cX4_depth 0 = .ok (.iconst 0, 1) := by decide +kernel
theorem dX4_depth_1 : decode cX4_depth 1 = .ok (.istore_n 2, 1) := by decide +kernel
theorem dX4_depth_2 : decode cX4_depth 2 = .ok (.iconst 0, 1) := by decide +kernel
theorem dX4_depth_3 : decode cX4_depth 3 = .ok (.istore_n 3, 1) := by decide +kernel
theorem dX4_depth_4 : decode cX4_depth 4 = .ok (.iload_n 3, 1) := by decide +kernel
theorem dX4_depth_5 : decode cX4_depth 5 = .ok (.bipush 50, 2) := by decide +kernel
theorem dX4_depth_7 : decode cX4_depth 7 = .ok (.if_icmp .ge 30, 3) := by decide +kernel
theorem dX4_depth_10 : decode cX4_depth 10 = .ok (.iload_n 3, 1) := by decide +kernel
theorem dX4_depth_11 : decode cX4_depth 11 = .ok (.iload_n 1, 1) := by decide +kernel
theorem dX4_depth_12 : decode cX4_depth 12 = .ok (.if_icmp .eq 19, 3) := by decide +kernel
theorem dX4_depth_15 : decode cX4_depth 15 = .ok (.aload_n 0, 1) := by decide +kernel
theorem dX4_depth_16 : decode cX4_depth 16 = .ok (.getfield 21, 3) := by decide +kernel
theorem dX4_depth_19 : decode cX4_depth 19 = .ok (.iload_n 3, 1) := by decide +kernel
theorem dX4_depth_20 : decode cX4_depth 20 = .ok (.laload, 1) := by decide +kernel
theorem dX4_depth_21 : decode cX4_depth 21 = .ok (.iload_n 1, 1) := by decide +kernel
theorem dX4_depth_22 : decode cX4_depth 22 = .ok (.invokestatic 45, 3) := by decide +kernel
theorem dX4_depth_25 : decode cX4_depth 25 = .ok (.ifCond .eq 6, 3) := by decide +kernel
theorem dX4_depth_28 : decode cX4_depth 28 = .ok (.iinc 2 1, 3) := by decide +kernel
theorem dX4_depth_31 : decode cX4_depth 31 = .ok (.iinc 3 1, 3) := by decide +kernel
theorem dX4_depth_34 : decode cX4_depth 34 = .ok (.goto (-30), 3) := by decide +kernel
theorem dX4_depth_37 : decode cX4_depth 37 = .ok (.iload_n 2, 1) := by decide +kernel
theorem dX4_depth_38 : decode cX4_depth 38 = .ok (.ireturn, 1) := by decide +kernel
theorem dX5_init_0 : decode cX5_init 0 = .ok (.aload_n 0, 1) := by decide +kernel
theorem dX5_init_1 : decode cX5_init 1 = .ok (.invokespecial 3, 3) := by decide +kernel
theorem dX5_init_4 : decode cX5_init 4 = .ok (.aload_n 0, 1) := by decide +kernel
theorem dX5_init_5 : decode cX5_init 5 = .ok (.new 9, 3) := by decide +kernel
theorem dX5_init_8 : decode cX5_init 8 = .ok (.dup, 1) := by decide +kernel
theorem dX5_init_9 : decode cX5_init 9 = .ok (.invokespecial 11, 3) := by decide +kernel
theorem dX5_init_12 : decode cX5_init 12 = .ok (.putfield 12, 3) := by decide +kernel
theorem dX5_init_15 : decode cX5_init 15 = .ok (.aload_n 0, 1) := by decide +kernel
theorem dX5_init_16 : decode cX5_init 16 = .ok (.new 18, 3) := by decide +kernel
theorem dX5_init_19 : decode cX5_init 19 = .ok (.dup, 1) := by decide +kernel
theorem dX5_init_20 : decode cX5_init 20 = .ok (.invokespecial 20, 3) := by decide +kernel
theorem dX5_init_23 : decode cX5_init 23 = .ok (.putfield 21, 3) := by decide +kernel
theorem dX5_init_26 : decode cX5_init 26 = .ok (.aload_n 0, 1) := by decide +kernel
theorem dX5_init_27 : decode cX5_init 27 = .ok (.new 18, 3) := by decide +kernel
theorem dX5_init_30 : decode cX5_init 30 = .ok (.dup, 1) := by decide +kernel
theorem dX5_init_31 : decode cX5_init 31 = .ok (.invokespecial 20, 3) := by decide +kernel
theorem dX5_init_34 : decode cX5_init 34 = .ok (.putfield 25, 3) := by decide +kernel
theorem dX5_init_37 : decode cX5_init 37 = .ok (.aload_n 0, 1) := by decide +kernel
theorem dX5_init_38 : decode cX5_init 38 = .ok (.new 28, 3) := by decide +kernel
theorem dX5_init_41 : decode cX5_init 41 = .ok (.dup, 1) := by decide +kernel
theorem dX5_init_42 : decode cX5_init 42 = .ok (.invokespecial 30, 3) := by decide +kernel
theorem dX5_init_45 : decode cX5_init 45 = .ok (.putfield 31, 3) := by decide +kernel
theorem dX5_init_48 : decode cX5_init 48 = .ok (.aload_n 0, 1) := by decide +kernel
theorem dX5_init_49 : decode cX5_init 49 = .ok (.new 28, 3) := by decide +kernel
theorem dX5_init_52 : decode cX5_init 52 = .ok (.dup, 1) := by decide +kernel
theorem dX5_init_53 : decode cX5_init 53 = .ok (.invokespecial 30, 3) := by decide +kernel
theorem dX5_init_56 : decode cX5_init 56 = .ok (.putfield 35, 3) := by decide +kernel
theorem dX5_init_59 : decode cX5_init 59 = .ok (.return_, 1) := by decide +kernel
theorem dX5_play_0 : decode cX5_play 0 = .ok (.aload_n 0, 1) := by decide +kernel
theorem dX5_play_1 : decode cX5_play 1 = .ok (.getfield 31, 3) := by decide +kernel
theorem dX5_play_4 : decode cX5_play 4 = .ok (.aload_n 2, 1) := by decide +kernel
theorem dX5_play_5 : decode cX5_play 5 = .ok (.invokevirtual 38, 3) := by decide +kernel
theorem dX5_play_8 : decode cX5_play 8 = .ok (.aload_n 0, 1) := by decide +kernel
theorem dX5_play_9 : decode cX5_play 9 = .ok (.iconst 0, 1) := by decide +kernel
theorem dX5_play_10 : decode cX5_play 10 = .ok (.putfield 42, 3) := by decide +kernel
theorem dX5_play_13 : decode cX5_play 13 = .ok (.aload_n 0, 1) := by decide +kernel
theorem dX5_play_14 : decode cX5_play 14 = .ok (.iconst 0, 1) := by decide +kernel
theorem dX5_play_15 : decode cX5_play 15 = .ok (.putfield 46, 3) := by decide +kernel
theorem dX5_play_18 : decode cX5_play 18 = .ok (.aload_n 0, 1) := by decide +kernel
theorem dX5_play_19 : decode cX5_play 19 = .ok (.iconst 0, 1) := by decide +kernel
theorem dX5_play_20 : decode cX5_play 20 = .ok (.putfield 49, 3) := by decide +kernel
theorem dX5_play_23 : decode cX5_play 23 = .ok (.aload_n 0, 1) := by decide +kernel
theorem dX5_play_24 : decode cX5_play 24 = .ok (.bipush (-6), 2) := by decide +kernel
theorem dX5_play_26 : decode cX5_play 26 = .ok (.putfield 52, 3) := by decide +kernel
theorem dX5_play_29 : decode cX5_play 29 = .ok (.aload_n 0, 1) := by decide +kernel
theorem dX5_play_30 : decode cX5_play 30 = .ok (.bipush (-6), 2) := by decide +kernel
theorem dX5_play_32 : decode cX5_play 32 = .ok (.putfield 55, 3) := by decide +kernel
theorem dX5_play_35 : decode cX5_play 35 = .ok (.iconst 0, 1) := by decide +kernel
theorem dX5_play_36 : decode cX5_play 36 = .ok (.istore_n 3, 1) := by decide +kernel
theorem dX5_play_37 : decode cX5_play 37 = .ok (.iconst 0, 1) := by decide +kernel
theorem dX5_play_38 : decode cX5_play 38 = .ok (.istore 4, 2) := by decide +kernel
theorem dX5_play_40 : decode cX5_play 40 = .ok (.iload 4, 2) := by decide +kernel
theorem dX5_play_42 : decode cX5_play 42 = .ok (.aload_n 1, 1) := by decide +kernel
theorem dX5_play_43 : decode cX5_play 43 = .ok (.getfield 58, 3) := by decide +kernel
theorem dX5_play_46 : decode cX5_play 46 = .ok (.if_icmp .ge 90, 3) := by decide +kernel
theorem dX5_play_49 : decode cX5_play 49 = .ok (.aload_n 1, 1) := by decide +kernel
theorem dX5_play_50 : decode cX5_play 50 = .ok (.iload 4, 2) := by decide +kernel
theorem dX5_play_52 : decode cX5_play 52 = .ok (.aload_n 0, 1) := by decide +kernel
theorem dX5_play_53 : decode cX5_play 53 = .ok (.getfield 12, 3) := by decide +kernel
theorem dX5_play_56 : decode cX5_play 56 = .ok (.invokevirtual 63, 3) := by decide +kernel
theorem dX5_play_59 : decode cX5_play 59 = .ok (.istore_n 3, 1) := by decide +kernel
theorem dX5_play_60 : decode cX5_play 60 = .ok (.aload_n 0, 1) := by decide +kernel
theorem dX5_play_61 : decode cX5_play 61 = .ok (.aload_n 0, 1) := by decide +kernel
theorem dX5_play_62 : decode cX5_play 62 = .ok (.getfield 31, 3) := by decide +kernel
theorem dX5_play_65 : decode cX5_play 65 = .ok (.aload_n 0, 1) := by decide +kernel
theorem dX5_play_66 : decode cX5_play 66 = .ok (.getfield 12, 3) := by decide +kernel
theorem dX5_play_69 : decode cX5_play 69 = .ok (.invokevirtual 67, 3) := by decide +kernel
theorem dX5_play_72 : decode cX5_play 72 = .ok (.putfield 49, 3) := by decide +kernel
theorem dX5_play_75 : decode cX5_play 75 = .ok (.aload_n 0, 1) := by decide +kernel
theorem dX5_play_76 : decode cX5_play 76 = .ok (.getfield 49, 3) := by decide +kernel
theorem dX5_play_79 : decode cX5_play 79 = .ok (.ifCond .eq 4, 3) := by decide +kernel
theorem dX5_play_82 : decode cX5_play 82 = .ok (.return_, 1) := by decide +kernel
theorem dX5_play_83 : decode cX5_play 83 = .ok (.aload_n 0, 1) := by decide +kernel
theorem dX5_play_84 : decode cX5_play 84 = .ok (.getfield 35, 3) := by decide +kernel
theorem dX5_play_87 : decode cX5_play 87 = .ok (.aload_n 0, 1) := by decide +kernel
theorem dX5_play_88 : decode cX5_play 88 = .ok (.getfield 31, 3) := by decide +kernel
theorem dX5_play_91 : decode cX5_play 91 = .ok (.invokevirtual 38, 3) := by decide +kernel
theorem dX5_play_94 : decode cX5_play 94 = .ok (.aload_n 0, 1) := by decide +kernel
theorem dX5_play_95 : decode cX5_play 95 = .ok (.getfield 31, 3) := by decide +kernel
theorem dX5_play_98 : decode cX5_play 98 = .ok (.aload_n 0, 1) := by decide +kernel
theorem dX5_play_99 : decode cX5_play 99 = .ok (.getfield 12, 3) := by decide +kernel
theorem dX5_play_102 : decode cX5_play 102 = .ok (.invokevirtual 70, 3) := by decide +kernel
theorem dX5_play_105 : decode cX5_play 105 = .ok (.aload_n 0, 1) := by decide +kernel
theorem dX5_play_106 : decode cX5_play 106 = .ok (.invokevirtual 74, 3) := by decide +kernel
theorem dX5_play_109 : decode cX5_play 109 = .ok (.aload_n 0, 1) := by decide +kernel
theorem dX5_play_110 : decode cX5_play 110 = .ok (.invokevirtual 77, 3) := by decide +kernel
theorem dX5_play_113 : decode cX5_play 113 = .ok (.aload_n 0, 1) := by decide +kernel
theorem dX5_play_114 : decode cX5_play 114 = .ok (.dup, 1) := by decide +kernel
theorem dX5_play_115 : decode cX5_play 115 = .ok (.getfield 42, 3) := by decide +kernel
theorem dX5_play_118 : decode cX5_play 118 = .ok (.iconst 1, 1) := by decide +kernel
theorem dX5_play_119 : decode cX5_play 119 = .ok (.iadd, 1) := by decide +kernel
theorem dX5_play_120 : decode cX5_play 120 = .ok (.putfield 42, 3) := by decide +kernel
theorem dX5_play_123 : decode cX5_play 123 = .ok (.iload 4, 2) := by decide +kernel
theorem dX5_play_125 : decode cX5_play 125 = .ok (.iconst 1, 1) := by decide +kernel
theorem dX5_play_126 : decode cX5_play 126 = .ok (.iload_n 3, 1) := by decide +kernel
theorem dX5_play_127 : decode cX5_play 127 = .ok (.invokestatic 80, 3) := by decide +kernel
theorem dX5_play_130 : decode cX5_play 130 = .ok (.iadd, 1) := by decide +kernel
theorem dX5_play_131 : decode cX5_play 131 = .ok (.istore 4, 2) := by decide +kernel
theorem dX5_play_133 : decode cX5_play 133 = .ok (.goto (-93), 3) := by decide +kernel
theorem dX5_play_136 : decode cX5_play 136 = .ok (.return_, 1) := by decide +kernel
theorem dX5_addWork_0 : decode cX5_addWork 0 = .ok (.iconst 0, 1) := by decide +kernel
theorem dX5_addWork_1 : decode cX5_addWork 1 = .ok (.istore_n 1, 1) := by decide +kernel
theorem dX5_addWork_2 : decode cX5_addWork 2 = .ok (.iload_n 1, 1) := by decide +kernel
theorem dX5_addWork_3 : decode cX5_addWork 3 = .ok (.iconst 4, 1) := by decide +kernel
theorem dX5_addWork_4 : decode cX5_addWork 4 = .ok (.if_icmp .ge 159, 3) := by decide +kernel
theorem dX5_addWork_7 : decode cX5_addWork 7 = .ok (.aload_n 0, 1) := by decide +kernel
theorem dX5_addWork_8 : decode cX5_addWork 8 = .ok (.getfield 35, 3) := by decide +kernel
theorem dX5_addWork_11 : decode cX5_addWork 11 = .ok (.getfield 86, 3) := by decide +kernel
theorem dX5_addWork_14 : decode cX5_addWork 14 = .ok (.iload_n 1, 1) := by decide +kernel
theorem dX5_addWork_15 : decode cX5_addWork 15 = .ok (.laload, 1) := by decide +kernel
theorem dX5_addWork_16 : decode cX5_addWork 16 = .ok (.aload_n 0, 1) := by decide +kernel
theorem dX5_addWork_17 : decode cX5_addWork 17 = .ok (.getfield 31, 3) := by decide +kernel
theorem dX5_addWork_20 : decode cX5_addWork 20 = .ok (.getfield 86, 3) := by decide +kernel
theorem dX5_addWork_23 : decode cX5_addWork 23 = .ok (.iload_n 1, 1) := by decide +kernel
theorem dX5_addWork_24 : decode cX5_addWork 24 = .ok (.laload, 1) := by decide +kernel
theorem dX5_addWork_25 : decode cX5_addWork 25 = .ok (.lcmp, 1) := by decide +kernel
theorem dX5_addWork_26 : decode cX5_addWork 26 = .ok (.ifCond .ne 23, 3) := by decide +kernel
theorem dX5_addWork_29 : decode cX5_addWork 29 = .ok (.aload_n 0, 1) := by decide +kernel
theorem dX5_addWork_30 : decode cX5_addWork 30 = .ok (.getfield 35, 3) := by decide +kernel
theorem dX5_addWork_33 : decode cX5_addWork 33 = .ok (.getfield 90, 3) := by decide +kernel
theorem dX5_addWork_36 : decode cX5_addWork 36 = .ok (.aload_n 0, 1) := by decide +kernel
theorem dX5_addWork_37 : decode cX5_addWork 37 = .ok (.getfield 31, 3) := by decide +kernel
theorem dX5_addWork_40 : decode cX5_addWork 40 = .ok (.getfield 90, 3) := by decide +kernel
theorem dX5_addWork_43 : decode cX5_addWork 43 = .ok (.if_icmp .ne 6, 3) := by decide +kernel
theorem dX5_addWork_46 : decode cX5_addWork 46 = .ok (.goto 111, 3) := by decide +kernel
theorem dX5_addWork_49 : decode cX5_addWork 49 = .ok (.aload_n 0, 1) := by decide +kernel
theorem dX5_addWork_50 : decode cX5_addWork 50 = .ok (.getfield 21, 3) := by decide +kernel
theorem dX5_addWork_53 : decode cX5_addWork 53 = .ok (.aload_n 0, 1) := by decide +kernel
theorem dX5_addWork_54 : decode cX5_addWork 54 = .ok (.getfield 35, 3) := by decide +kernel
theorem dX5_addWork_57 : decode cX5_addWork 57 = .ok (.getfield 86, 3) := by decide +kernel
theorem dX5_addWork_60 : decode cX5_addWork 60 = .ok (.iload_n 1, 1) := by decide +kernel
theorem dX5_addWork_61 : decode cX5_addWork 61 = .ok (.laload, 1) := by decide +kernel
theorem dX5_addWork_62 : decode cX5_addWork 62 = .ok (.aload_n 0, 1) := by decide +kernel
theorem dX5_addWork_63 : decode cX5_addWork 63 = .ok (.getfield 35, 3) := by decide +kernel
theorem dX5_addWork_66 : decode cX5_addWork 66 = .ok (.getfield 90, 3) := by decide +kernel
theorem dX5_addWork_69 : decode cX5_addWork 69 = .ok (.invokevirtual 93, 3) := by decide +kernel
theorem dX5_addWork_72 : decode cX5_addWork 72 = .ok (.aload_n 0, 1) := by decide +kernel
theorem dX5_addWork_73 : decode cX5_addWork 73 = .ok (.getfield 25, 3) := by decide +kernel
theorem dX5_addWork_76 : decode cX5_addWork 76 = .ok (.aload_n 0, 1) := by decide +kernel
theorem dX5_addWork_77 : decode cX5_addWork 77 = .ok (.getfield 31, 3) := by decide +kernel
theorem dX5_addWork_80 : decode cX5_addWork 80 = .ok (.getfield 86, 3) := by decide +kernel
theorem dX5_addWork_83 : decode cX5_addWork 83 = .ok (.iload_n 1, 1) := by decide +kernel
theorem dX5_addWork_84 : decode cX5_addWork 84 = .ok (.laload, 1) := by decide +kernel
theorem dX5_addWork_85 : decode cX5_addWork 85 = .ok (.aload_n 0, 1) := by decide +kernel
theorem dX5_addWork_86 : decode cX5_addWork 86 = .ok (.getfield 31, 3) := by decide +kernel
theorem dX5_addWork_89 : decode cX5_addWork 89 = .ok (.getfield 90, 3) := by decide +kernel
theorem dX5_addWork_92 : decode cX5_addWork 92 = .ok (.invokevirtual 93, 3) := by decide +kernel
theorem dX5_addWork_95 : decode cX5_addWork 95 = .ok (.iconst 0, 1) := by decide +kernel
theorem dX5_addWork_96 : decode cX5_addWork 96 = .ok (.istore_n 2, 1) := by decide +kernel
theorem dX5_addWork_97 : decode cX5_addWork 97 = .ok (.iload_n 2, 1) := by decide +kernel
theorem dX5_addWork_98 : decode cX5_addWork 98 = .ok (.bipush 50, 2) := by decide +kernel
theorem dX5_addWork_100 : decode cX5_addWork 100 = .ok (.if_icmp .ge 57, 3) := by decide +kernel
theorem dX5_addWork_103 : decode cX5_addWork 103 = .ok (.aload_n 0, 1) := by decide +kernel
theorem dX5_addWork_104 : decode cX5_addWork 104 = .ok (.getfield 31, 3) := by decide +kernel
theorem dX5_addWork_107 : decode cX5_addWork 107 = .ok (.getfield 86, 3) := by decide +kernel
theorem dX5_addWork_110 : decode cX5_addWork 110 = .ok (.iload_n 1, 1) := by decide +kernel
theorem dX5_addWork_111 : decode cX5_addWork 111 = .ok (.laload, 1) := by decide +kernel
theorem dX5_addWork_112 : decode cX5_addWork 112 = .ok (.iload_n 2, 1) := by decide +kernel
theorem dX5_addWork_113 : decode cX5_addWork 113 = .ok (.invokestatic 97, 3) := by decide +kernel
theorem dX5_addWork_116 : decode cX5_addWork 116 = .ok (.ifCond .eq 35, 3) := by decide +kernel
theorem dX5_addWork_119 : decode cX5_addWork 119 = .ok (.aload_n 0, 1) := by decide +kernel
theorem dX5_addWork_120 : decode cX5_addWork 120 = .ok (.getfield 21, 3) := by decide +kernel
theorem dX5_addWork_123 : decode cX5_addWork 123 = .ok (.getfield 101, 3) := by decide +kernel
theorem dX5_addWork_126 : decode cX5_addWork 126 = .ok (.iload_n 2, 1) := by decide +kernel
theorem dX5_addWork_127 : decode cX5_addWork 127 = .ok (.laload, 1) := by decide +kernel
theorem dX5_addWork_128 : decode cX5_addWork 128 = .ok (.aload_n 0, 1) := by decide +kernel
theorem dX5_addWork_129 : decode cX5_addWork 129 = .ok (.getfield 25, 3) := by decide +kernel
theorem dX5_addWork_132 : decode cX5_addWork 132 = .ok (.getfield 101, 3) := by decide +kernel
theorem dX5_addWork_135 : decode cX5_addWork 135 = .ok (.iload_n 2, 1) := by decide +kernel
theorem dX5_addWork_136 : decode cX5_addWork 136 = .ok (.laload, 1) := by decide +kernel
theorem dX5_addWork_137 : decode cX5_addWork 137 = .ok (.lcmp, 1) := by decide +kernel
theorem dX5_addWork_138 : decode cX5_addWork 138 = .ok (.ifCond .eq 13, 3) := by decide +kernel
theorem dX5_addWork_141 : decode cX5_addWork 141 = .ok (.aload_n 0, 1) := by decide +kernel
theorem dX5_addWork_142 : decode cX5_addWork 142 = .ok (.dup, 1) := by decide +kernel
theorem dX5_addWork_143 : decode cX5_addWork 143 = .ok (.getfield 46, 3) := by decide +kernel
theorem dX5_addWork_146 : decode cX5_addWork 146 = .ok (.iconst 1, 1) := by decide +kernel
theorem dX5_addWork_147 : decode cX5_addWork 147 = .ok (.iadd, 1) := by decide +kernel
theorem dX5_addWork_148 : decode cX5_addWork 148 = .ok (.putfield 46, 3) := by decide +kernel
theorem dX5_addWork_151 : decode cX5_addWork 151 = .ok (.iinc 2 1, 3) := by decide +kernel
theorem dX5_addWork_154 : decode cX5_addWork 154 = .ok (.goto (-57), 3) := by decide +kernel
theorem dX5_addWork_157 : decode cX5_addWork 157 = .ok (.iinc 1 1, 3) := by decide +kernel
theorem dX5_addWork_160 : decode cX5_addWork 160 = .ok (.goto (-158), 3) := by decide +kernel
theorem dX5_addWork_163 : decode cX5_addWork 163 = .ok (.return_, 1) := by decide +kernel
theorem dX5_seekAlike_0 : decode cX5_seekAlike 0 = .ok (.iconst 0, 1) := by decide +kernel
theorem dX5_seekAlike_1 : decode cX5_seekAlike 1 = .ok (.istore_n 1, 1) := by decide +kernel
theorem dX5_seekAlike_2 : decode cX5_seekAlike 2 = .ok (.iload_n 1, 1) := by decide +kernel
theorem dX5_seekAlike_3 : decode cX5_seekAlike 3 = .ok (.iconst 4, 1) := by decide +kernel
theorem dX5_seekAlike_4 : decode cX5_seekAlike 4 = .ok (.if_icmp .ge 75, 3) := by decide +kernel
theorem dX5_seekAlike_7 : decode cX5_seekAlike 7 = .ok (.iload_n 1, 1) := by decide +kernel
theorem dX5_seekAlike_8 : decode cX5_seekAlike 8 = .ok (.iconst 1, 1) := by decide +kernel
theorem dX5_seekAlike_9 : decode cX5_seekAlike 9 = .ok (.iadd, 1) := by decide +kernel
theorem dX5_seekAlike_10 : decode cX5_seekAlike 10 = .ok (.istore_n 2, 1) := by decide +kernel
theorem dX5_seekAlike_11 : decode cX5_seekAlike 11 = .ok (.iload_n 2, 1) := by decide +kernel
theorem dX5_seekAlike_12 : decode cX5_seekAlike 12 = .ok (.iconst 4, 1) := by decide +kernel
theorem dX5_seekAlike_13 : decode cX5_seekAlike 13 = .ok (.if_icmp .ge 60, 3) := by decide +kernel
theorem dX5_seekAlike_16 : decode cX5_seekAlike 16 = .ok (.aload_n 0, 1) := by decide +kernel
theorem dX5_seekAlike_17 : decode cX5_seekAlike 17 = .ok (.getfield 52, 3) := by decide +kernel
theorem dX5_seekAlike_20 : decode cX5_seekAlike 20 = .ok (.bipush (-6), 2) := by decide +kernel
theorem dX5_seekAlike_22 : decode cX5_seekAlike 22 = .ok (.if_icmp .ne 45, 3) := by decide +kernel
theorem dX5_seekAlike_25 : decode cX5_seekAlike 25 = .ok (.aload_n 0, 1) := by decide +kernel
theorem dX5_seekAlike_26 : decode cX5_seekAlike 26 = .ok (.getfield 31, 3) := by decide +kernel
theorem dX5_seekAlike_29 : decode cX5_seekAlike 29 = .ok (.iload_n 1, 1) := by decide +kernel
theorem dX5_seekAlike_30 : decode cX5_seekAlike 30 = .ok (.iload_n 2, 1) := by decide +kernel
theorem dX5_seekAlike_31 : decode cX5_seekAlike 31 = .ok (.invokestatic 104, 3) := by decide +kernel
theorem dX5_seekAlike_34 : decode cX5_seekAlike 34 = .ok (.ifCond .eq 33, 3) := by decide +kernel
theorem dX5_seekAlike_37 : decode cX5_seekAlike 37 = .ok (.aload_n 0, 1) := by decide +kernel
theorem dX5_seekAlike_38 : decode cX5_seekAlike 38 = .ok (.getfield 35, 3) := by decide +kernel
theorem dX5_seekAlike_41 : decode cX5_seekAlike 41 = .ok (.iload_n 1, 1) := by decide +kernel
theorem dX5_seekAlike_42 : decode cX5_seekAlike 42 = .ok (.iload_n 2, 1) := by decide +kernel
theorem dX5_seekAlike_43 : decode cX5_seekAlike 43 = .ok (.invokestatic 104, 3) := by decide +kernel
theorem dX5_seekAlike_46 : decode cX5_seekAlike 46 = .ok (.ifCond .ne 21, 3) := by decide +kernel
theorem dX5_seekAlike_49 : decode cX5_seekAlike 49 = .ok (.aload_n 0, 1) := by decide +kernel
theorem dX5_seekAlike_50 : decode cX5_seekAlike 50 = .ok (.aload_n 0, 1) := by decide +kernel
theorem dX5_seekAlike_51 : decode cX5_seekAlike 51 = .ok (.getfield 42, 3) := by decide +kernel
theorem dX5_seekAlike_54 : decode cX5_seekAlike 54 = .ok (.putfield 52, 3) := by decide +kernel
theorem dX5_seekAlike_57 : decode cX5_seekAlike 57 = .ok (.aload_n 0, 1) := by decide +kernel
theorem dX5_seekAlike_58 : decode cX5_seekAlike 58 = .ok (.bipush 10, 2) := by decide +kernel
theorem dX5_seekAlike_60 : decode cX5_seekAlike 60 = .ok (.iload_n 1, 1) := by decide +kernel
theorem dX5_seekAlike_61 : decode cX5_seekAlike 61 = .ok (.imul, 1) := by decide +kernel
theorem dX5_seekAlike_62 : decode cX5_seekAlike 62 = .ok (.iload_n 2, 1) := by decide +kernel
theorem dX5_seekAlike_63 : decode cX5_seekAlike 63 = .ok (.iadd, 1) := by decide +kernel
theorem dX5_seekAlike_64 : decode cX5_seekAlike 64 = .ok (.putfield 55, 3) := by decide +kernel
theorem dX5_seekAlike_67 : decode cX5_seekAlike 67 = .ok (.iinc 2 1, 3) := by decide +kernel
theorem dX5_seekAlike_70 : decode cX5_seekAlike 70 = .ok (.goto (-59), 3) := by decide +kernel
theorem dX5_seekAlike_73 : decode cX5_seekAlike 73 = .ok (.iinc 1 1, 3) := by decide +kernel
theorem dX5_seekAlike_76 : decode cX5_seekAlike 76 = .ok (.goto (-74), 3) := by decide +kernel
theorem dX5_seekAlike_79 : decode cX5_seekAlike 79 = .ok (.return_, 1) := by decide +kernel
theorem dX5_sameKeys_0 : decode cX5_sameKeys 0 = .ok (.aload_n 0, 1) := by decide +kernel
theorem dX5_sameKeys_1 : decode cX5_sameKeys 1 = .ok (.getfield 86, 3) := by decide +kernel
theorem dX5_sameKeys_4 : decode cX5_sameKeys 4 = .ok (.iload_n 1, 1) := by decide +kernel
theorem dX5_sameKeys_5 : decode cX5_sameKeys 5 = .ok (.laload, 1) := by decide +kernel
theorem dX5_sameKeys_6 : decode cX5_sameKeys 6 = .ok (.lconst 0, 1) := by decide +kernel
theorem dX5_sameKeys_7 : decode cX5_sameKeys 7 = .ok (.lcmp, 1) := by decide +kernel
theorem dX5_sameKeys_8 : decode cX5_sameKeys 8 = .ok (.ifCond .eq 23, 3) := by decide +kernel
theorem dX5_sameKeys_11 : decode cX5_sameKeys 11 = .ok (.aload_n 0, 1) := by decide +kernel
theorem dX5_sameKeys_12 : decode cX5_sameKeys 12 = .ok (.getfield 86, 3) := by decide +kernel
theorem dX5_sameKeys_15 : decode cX5_sameKeys 15 = .ok (.iload_n 1, 1) := by decide +kernel
theorem dX5_sameKeys_16 : decode cX5_sameKeys 16 = .ok (.laload, 1) := by decide +kernel
theorem dX5_sameKeys_17 : decode cX5_sameKeys 17 = .ok (.aload_n 0, 1) := by decide +kernel
theorem dX5_sameKeys_18 : decode cX5_sameKeys 18 = .ok (.getfield 86, 3) := by decide +kernel
theorem dX5_sameKeys_21 : decode cX5_sameKeys 21 = .ok (.iload_n 2, 1) := by decide +kernel
theorem dX5_sameKeys_22 : decode cX5_sameKeys 22 = .ok (.laload, 1) := by decide +kernel
theorem dX5_sameKeys_23 : decode cX5_sameKeys 23 = .ok (.lcmp, 1) := by decide +kernel
theorem dX5_sameKeys_24 : decode cX5_sameKeys 24 = .ok (.ifCond .ne 7, 3) := by decide +kernel
theorem dX5_sameKeys_27 : decode cX5_sameKeys 27 = .ok (.iconst 1, 1) := by decide +kernel
theorem dX5_sameKeys_28 : decode cX5_sameKeys 28 = .ok (.goto 4, 3) := by decide +kernel
theorem dX5_sameKeys_31 : decode cX5_sameKeys 31 = .ok (.iconst 0, 1) := by decide +kernel
theorem dX5_sameKeys_32 : decode cX5_sameKeys 32 = .ok (.ireturn, 1) := by decide +kernel
theorem dX6_init_0 : decode cX6_init 0 = .ok (.aload_n 0, 1) := by decide +kernel
theorem dX6_init_1 : decode cX6_init 1 = .ok (.invokespecial 3, 3) := by decide +kernel
theorem dX6_init_4 : decode cX6_init 4 = .ok (.aload_n 0, 1) := by decide +kernel
theorem dX6_init_5 : decode cX6_init 5 = .ok (.iconst 4, 1) := by decide +kernel
theorem dX6_init_6 : decode cX6_init 6 = .ok (.newarray .long, 2) := by decide +kernel
theorem dX6_init_8 : decode cX6_init 8 = .ok (.putfield 9, 3) := by decide +kernel
theorem dX6_init_11 : decode cX6_init 11 = .ok (.return_, 1) := by decide +kernel
theorem dX6_copy_0 : decode cX6_copy 0 = .ok (.aload_n 1, 1) := by decide +kernel
theorem dX6_copy_1 : decode cX6_copy 1 = .ok (.getfield 9, 3) := by decide +kernel
theorem dX6_copy_4 : decode cX6_copy 4 = .ok (.iconst 0, 1) := by decide +kernel
theorem dX6_copy_5 : decode cX6_copy 5 = .ok (.aload_n 0, 1) := by decide +kernel
theorem dX6_copy_6 : decode cX6_copy 6 = .ok (.getfield 9, 3) := by decide +kernel
theorem dX6_copy_9 : decode cX6_copy 9 = .ok (.iconst 0, 1) := by decide +kernel
theorem dX6_copy_10 : decode cX6_copy 10 = .ok (.iconst 4, 1) := by decide +kernel
theorem dX6_copy_11 : decode cX6_copy 11 = .ok (.invokestatic 15, 3) := by decide +kernel
theorem dX6_copy_14 : decode cX6_copy 14 = .ok (.aload_n 0, 1) := by decide +kernel
theorem dX6_copy_15 : decode cX6_copy 15 = .ok (.aload_n 1, 1) := by decide +kernel
theorem dX6_copy_16 : decode cX6_copy 16 = .ok (.getfield 21, 3) := by decide +kernel
theorem dX6_copy_19 : decode cX6_copy 19 = .ok (.putfield 21, 3) := by decide +kernel
theorem dX6_copy_22 : decode cX6_copy 22 = .ok (.return_, 1) := by decide +kernel
theorem dX6_countAll_0 : decode cX6_countAll 0 = .ok (.iconst 0, 1) := by decide +kernel
theorem dX6_countAll_1 : decode cX6_countAll 1 = .ok (.istore_n 1, 1) := by decide +kernel
theorem dX6_countAll_2 : decode cX6_countAll 2 = .ok (.iconst 0, 1) := by decide +kernel
theorem dX6_countAll_3 : decode cX6_countAll 3 = .ok (.istore_n 2, 1) := by decide +kernel
theorem dX6_countAll_4 : decode cX6_countAll 4 = .ok (.iload_n 2, 1) := by decide +kernel
theorem dX6_countAll_5 : decode cX6_countAll 5 = .ok (.iconst 4, 1) := by decide +kernel
theorem dX6_countAll_6 : decode cX6_countAll 6 = .ok (.if_icmp .ge 21, 3) := by decide +kernel
theorem dX6_countAll_9 : decode cX6_countAll 9 = .ok (.iload_n 1, 1) := by decide +kernel
theorem dX6_countAll_10 : decode cX6_countAll 10 = .ok (.aload_n 0, 1) := by decide +kernel
theorem dX6_countAll_11 : decode cX6_countAll 11 = .ok (.getfield 9, 3) := by decide +kernel
theorem dX6_countAll_14 : decode cX6_countAll 14 = .ok (.iload_n 2, 1) := by decide +kernel
theorem dX6_countAll_15 : decode cX6_countAll 15 = .ok (.laload, 1) := by decide +kernel
theorem dX6_countAll_16 : decode cX6_countAll 16 = .ok (.invokestatic 25, 3) := by decide +kernel
theorem dX6_countAll_19 : decode cX6_countAll 19 = .ok (.iadd, 1) := by decide +kernel
theorem dX6_countAll_20 : decode cX6_countAll 20 = .ok (.istore_n 1, 1) := by decide +kernel
theorem dX6_countAll_21 : decode cX6_countAll 21 = .ok (.iinc 2 1, 3) := by decide +kernel
theorem dX6_countAll_24 : decode cX6_countAll 24 = .ok (.goto (-20), 3) := by decide +kernel
theorem dX6_countAll_27 : decode cX6_countAll 27 = .ok (.iload_n 1, 1) := by decide +kernel
theorem dX6_countAll_28 : decode cX6_countAll 28 = .ok (.ireturn, 1) := by decide +kernel
theorem dX6_whyNot_0 : decode cX6_whyNot 0 = .ok (.aload_n 1, 1) := by decide +kernel
theorem dX6_whyNot_1 : decode cX6_whyNot 1 = .ok (.getfield 29, 3) := by decide +kernel
theorem dX6_whyNot_4 : decode cX6_whyNot 4 = .ok (.bipush 33, 2) := by decide +kernel
theorem dX6_whyNot_6 : decode cX6_whyNot 6 = .ok (.if_icmp .ne 20, 3) := by decide +kernel
theorem dX6_whyNot_9 : decode cX6_whyNot 9 = .ok (.aload_n 0, 1) := by decide +kernel
theorem dX6_whyNot_10 : decode cX6_whyNot 10 = .ok (.getfield 21, 3) := by decide +kernel
theorem dX6_whyNot_13 : decode cX6_whyNot 13 = .ok (.sipush 9999, 3) := by decide +kernel
theorem dX6_whyNot_16 : decode cX6_whyNot 16 = .ok (.if_icmp .lt 8, 3) := by decide +kernel
theorem dX6_whyNot_19 : decode cX6_whyNot 19 = .ok (.bipush 6, 2) := by decide +kernel
theorem dX6_whyNot_21 : decode cX6_whyNot 21 = .ok (.goto 4, 3) := by decide +kernel
theorem dX6_whyNot_24 : decode cX6_whyNot 24 = .ok (.iconst 0, 1) := by decide +kernel
theorem dX6_whyNot_25 : decode cX6_whyNot 25 = .ok (.ireturn, 1) := by decide +kernel
theorem dX6_whyNot_26 : decode cX6_whyNot 26 = .ok (.aload_n 1, 1) := by decide +kernel
theorem dX6_whyNot_27 : decode cX6_whyNot 27 = .ok (.getfield 29, 3) := by decide +kernel
theorem dX6_whyNot_30 : decode cX6_whyNot 30 = .ok (.bipush 43, 2) := by decide +kernel
theorem dX6_whyNot_32 : decode cX6_whyNot 32 = .ok (.if_icmp .eq 12, 3) := by decide +kernel
theorem dX6_whyNot_35 : decode cX6_whyNot 35 = .ok (.aload_n 1, 1) := by decide +kernel
theorem dX6_whyNot_36 : decode cX6_whyNot 36 = .ok (.getfield 29, 3) := by decide +kernel
theorem dX6_whyNot_39 : decode cX6_whyNot 39 = .ok (.bipush 45, 2) := by decide +kernel
theorem dX6_whyNot_41 : decode cX6_whyNot 41 = .ok (.if_icmp .ne 34, 3) := by decide +kernel
theorem dX6_whyNot_44 : decode cX6_whyNot 44 = .ok (.aload_n 1, 1) := by decide +kernel
theorem dX6_whyNot_45 : decode cX6_whyNot 45 = .ok (.getfield 29, 3) := by decide +kernel
theorem dX6_whyNot_48 : decode cX6_whyNot 48 = .ok (.bipush 43, 2) := by decide +kernel
theorem dX6_whyNot_50 : decode cX6_whyNot 50 = .ok (.if_icmp .ne 7, 3) := by decide +kernel
theorem dX6_whyNot_53 : decode cX6_whyNot 53 = .ok (.iconst 1, 1) := by decide +kernel
theorem dX6_whyNot_54 : decode cX6_whyNot 54 = .ok (.goto 4, 3) := by decide +kernel
theorem dX6_whyNot_57 : decode cX6_whyNot 57 = .ok (.iconst 0, 1) := by decide +kernel
theorem dX6_whyNot_58 : decode cX6_whyNot 58 = .ok (.aload_n 0, 1) := by decide +kernel
theorem dX6_whyNot_59 : decode cX6_whyNot 59 = .ok (.getfield 9, 3) := by decide +kernel
theorem dX6_whyNot_62 : decode cX6_whyNot 62 = .ok (.aload_n 1, 1) := by decide +kernel
theorem dX6_whyNot_63 : decode cX6_whyNot 63 = .ok (.getfield 34, 3) := by decide +kernel
theorem dX6_whyNot_66 : decode cX6_whyNot 66 = .ok (.laload, 1) := by decide +kernel
theorem dX6_whyNot_67 : decode cX6_whyNot 67 = .ok (.aload_n 1, 1) := by decide +kernel
theorem dX6_whyNot_68 : decode cX6_whyNot 68 = .ok (.getfield 37, 3) := by decide +kernel
theorem dX6_whyNot_71 : decode cX6_whyNot 71 = .ok (.invokestatic 40, 3) := by decide +kernel
theorem dX6_whyNot_74 : decode cX6_whyNot 74 = .ok (.ireturn, 1) := by decide +kernel
theorem dX6_whyNot_75 : decode cX6_whyNot 75 = .ok (.aload_n 1, 1) := by decide +kernel
theorem dX6_whyNot_76 : decode cX6_whyNot 76 = .ok (.getfield 34, 3) := by decide +kernel
theorem dX6_whyNot_79 : decode cX6_whyNot 79 = .ok (.aload_n 1, 1) := by decide +kernel
theorem dX6_whyNot_80 : decode cX6_whyNot 80 = .ok (.getfield 44, 3) := by decide +kernel
theorem dX6_whyNot_83 : decode cX6_whyNot 83 = .ok (.if_icmp .ne 7, 3) := by decide +kernel
theorem dX6_whyNot_86 : decode cX6_whyNot 86 = .ok (.iconst 1, 1) := by decide +kernel
theorem dX6_whyNot_87 : decode cX6_whyNot 87 = .ok (.goto 28, 3) := by decide +kernel
theorem dX6_whyNot_90 : decode cX6_whyNot 90 = .ok (.aload_n 1, 1) := by decide +kernel
theorem dX6_whyNot_91 : decode cX6_whyNot 91 = .ok (.getfield 29, 3) := by decide +kernel
theorem dX6_whyNot_94 : decode cX6_whyNot 94 = .ok (.aload_n 0, 1) := by decide +kernel
theorem dX6_whyNot_95 : decode cX6_whyNot 95 = .ok (.getfield 9, 3) := by decide +kernel
theorem dX6_whyNot_98 : decode cX6_whyNot 98 = .ok (.aload_n 1, 1) := by decide +kernel
theorem dX6_whyNot_99 : decode cX6_whyNot 99 = .ok (.getfield 34, 3) := by decide +kernel
theorem dX6_whyNot_102 : decode cX6_whyNot 102 = .ok (.laload, 1) := by decide +kernel
theorem dX6_whyNot_103 : decode cX6_whyNot 103 = .ok (.aload_n 0, 1) := by decide +kernel
theorem dX6_whyNot_104 : decode cX6_whyNot 104 = .ok (.getfield 9, 3) := by decide +kernel
theorem dX6_whyNot_107 : decode cX6_whyNot 107 = .ok (.aload_n 1, 1) := by decide +kernel
theorem dX6_whyNot_108 : decode cX6_whyNot 108 = .ok (.getfield 44, 3) := by decide +kernel
theorem dX6_whyNot_111 : decode cX6_whyNot 111 = .ok (.laload, 1) := by decide +kernel
theorem dX6_whyNot_112 : decode cX6_whyNot 112 = .ok (.invokestatic 47, 3) := by decide +kernel
theorem dX6_whyNot_115 : decode cX6_whyNot 115 = .ok (.ireturn, 1) := by decide +kernel
theorem dX6_whyNotOne_0 : decode cX6_whyNotOne 0 = .ok (.lload_n 1, 1) := by decide +kernel
theorem dX6_whyNotOne_1 : decode cX6_whyNotOne 1 = .ok (.iload_n 3, 1) := by decide +kernel
theorem dX6_whyNotOne_2 : decode cX6_whyNotOne 2 = .ok (.invokestatic 51, 3) := by decide +kernel
theorem dX6_whyNotOne_5 : decode cX6_whyNotOne 5 = .ok (.iload_n 0, 1) := by decide +kernel
theorem dX6_whyNotOne_6 : decode cX6_whyNotOne 6 = .ok (.if_icmp .ne 5, 3) := by decide +kernel
theorem dX6_whyNotOne_9 : decode cX6_whyNotOne 9 = .ok (.iconst 2, 1) := by decide +kernel
theorem dX6_whyNotOne_10 : decode cX6_whyNotOne 10 = .ok (.ireturn, 1) := by decide +kernel
theorem dX6_whyNotOne_11 : decode cX6_whyNotOne 11 = .ok (.iload_n 0, 1) := by decide +kernel
theorem dX6_whyNotOne_12 : decode cX6_whyNotOne 12 = .ok (.ifCond .eq 16, 3) := by decide +kernel
theorem dX6_whyNotOne_15 : decode cX6_whyNotOne 15 = .ok (.lload_n 1, 1) := by decide +kernel
theorem dX6_whyNotOne_16 : decode cX6_whyNotOne 16 = .ok (.invokestatic 25, 3) := by decide +kernel
theorem dX6_whyNotOne_19 : decode cX6_whyNotOne 19 = .ok (.bipush 40, 2) := by decide +kernel
theorem dX6_whyNotOne_21 : decode cX6_whyNotOne 21 = .ok (.if_icmp .lt 7, 3) := by decide +kernel
theorem dX6_whyNotOne_24 : decode cX6_whyNotOne 24 = .ok (.iconst 3, 1) := by decide +kernel
theorem dX6_whyNotOne_25 : decode cX6_whyNotOne 25 = .ok (.goto 4, 3) := by decide +kernel
theorem dX6_whyNotOne_28 : decode cX6_whyNotOne 28 = .ok (.iconst 0, 1) := by decide +kernel
theorem dX6_whyNotOne_29 : decode cX6_whyNotOne 29 = .ok (.ireturn, 1) := by decide +kernel
theorem dX6_whyNotTwo_0 : decode cX6_whyNotTwo 0 = .ok (.iload_n 0, 1) := by decide +kernel
theorem dX6_whyNotTwo_1 : decode cX6_whyNotTwo 1 = .ok (.bipush 38, 2) := by decide +kernel
theorem dX6_whyNotTwo_3 : decode cX6_whyNotTwo 3 = .ok (.if_icmp .eq 9, 3) := by decide +kernel
theorem dX6_whyNotTwo_6 : decode cX6_whyNotTwo 6 = .ok (.iload_n 0, 1) := by decide +kernel
theorem dX6_whyNotTwo_7 : decode cX6_whyNotTwo 7 = .ok (.bipush 124, 2) := by decide +kernel
theorem dX6_whyNotTwo_9 : decode cX6_whyNotTwo 9 = .ok (.if_icmp .ne 16, 3) := by decide +kernel
theorem dX6_whyNotTwo_12 : decode cX6_whyNotTwo 12 = .ok (.lload_n 1, 1) := by decide +kernel
theorem dX6_whyNotTwo_13 : decode cX6_whyNotTwo 13 = .ok (.lload_n 3, 1) := by decide +kernel
theorem dX6_whyNotTwo_14 : decode cX6_whyNotTwo 14 = .ok (.lor, 1) := by decide +kernel
theorem dX6_whyNotTwo_15 : decode cX6_whyNotTwo 15 = .ok (.invokestatic 25, 3) := by decide +kernel
theorem dX6_whyNotTwo_18 : decode cX6_whyNotTwo 18 = .ok (.bipush 40, 2) := by decide +kernel
theorem dX6_whyNotTwo_20 : decode cX6_whyNotTwo 20 = .ok (.if_icmp .le 5, 3) := by decide +kernel
theorem dX6_whyNotTwo_23 : decode cX6_whyNotTwo 23 = .ok (.iconst 3, 1) := by decide +kernel
theorem dX6_whyNotTwo_24 : decode cX6_whyNotTwo 24 = .ok (.ireturn, 1) := by decide +kernel
theorem dX6_whyNotTwo_25 : decode cX6_whyNotTwo 25 = .ok (.iload_n 0, 1) := by decide +kernel
theorem dX6_whyNotTwo_26 : decode cX6_whyNotTwo 26 = .ok (.bipush 47, 2) := by decide +kernel
theorem dX6_whyNotTwo_28 : decode cX6_whyNotTwo 28 = .ok (.if_icmp .ne 11, 3) := by decide +kernel
theorem dX6_whyNotTwo_31 : decode cX6_whyNotTwo 31 = .ok (.lload_n 3, 1) := by decide +kernel
theorem dX6_whyNotTwo_32 : decode cX6_whyNotTwo 32 = .ok (.lconst 0, 1) := by decide +kernel
theorem dX6_whyNotTwo_33 : decode cX6_whyNotTwo 33 = .ok (.lcmp, 1) := by decide +kernel
theorem dX6_whyNotTwo_34 : decode cX6_whyNotTwo 34 = .ok (.ifCond .eq 5, 3) := by decide +kernel
theorem dX6_whyNotTwo_37 : decode cX6_whyNotTwo 37 = .ok (.iconst 4, 1) := by decide +kernel
theorem dX6_whyNotTwo_38 : decode cX6_whyNotTwo 38 = .ok (.ireturn, 1) := by decide +kernel
theorem dX6_whyNotTwo_39 : decode cX6_whyNotTwo 39 = .ok (.iload_n 0, 1) := by decide +kernel
theorem dX6_whyNotTwo_40 : decode cX6_whyNotTwo 40 = .ok (.bipush 38, 2) := by decide +kernel
theorem dX6_whyNotTwo_42 : decode cX6_whyNotTwo 42 = .ok (.if_icmp .ne 20, 3) := by decide +kernel
theorem dX6_whyNotTwo_45 : decode cX6_whyNotTwo 45 = .ok (.lload_n 3, 1) := by decide +kernel
theorem dX6_whyNotTwo_46 : decode cX6_whyNotTwo 46 = .ok (.lconst 0, 1) := by decide +kernel
theorem dX6_whyNotTwo_47 : decode cX6_whyNotTwo 47 = .ok (.lcmp, 1) := by decide +kernel
theorem dX6_whyNotTwo_48 : decode cX6_whyNotTwo 48 = .ok (.ifCond .eq 14, 3) := by decide +kernel
theorem dX6_whyNotTwo_51 : decode cX6_whyNotTwo 51 = .ok (.lload_n 1, 1) := by decide +kernel
theorem dX6_whyNotTwo_52 : decode cX6_whyNotTwo 52 = .ok (.lload_n 3, 1) := by decide +kernel
theorem dX6_whyNotTwo_53 : decode cX6_whyNotTwo 53 = .ok (.lload_n 3, 1) := by decide +kernel
theorem dX6_whyNotTwo_54 : decode cX6_whyNotTwo 54 = .ok (.lneg, 1) := by decide +kernel
theorem dX6_whyNotTwo_55 : decode cX6_whyNotTwo 55 = .ok (.land, 1) := by decide +kernel
theorem dX6_whyNotTwo_56 : decode cX6_whyNotTwo 56 = .ok (.lcmp, 1) := by decide +kernel
theorem dX6_whyNotTwo_57 : decode cX6_whyNotTwo 57 = .ok (.ifCond .lt 5, 3) := by decide +kernel
theorem dX6_whyNotTwo_60 : decode cX6_whyNotTwo 60 = .ok (.iconst 5, 1) := by decide +kernel
theorem dX6_whyNotTwo_61 : decode cX6_whyNotTwo 61 = .ok (.ireturn, 1) := by decide +kernel
theorem dX6_whyNotTwo_62 : decode cX6_whyNotTwo 62 = .ok (.iconst 0, 1) := by decide +kernel
theorem dX6_whyNotTwo_63 : decode cX6_whyNotTwo 63 = .ok (.ireturn, 1) := by decide +kernel
theorem dX6_play_0 : decode cX6_play 0 = .ok (.aload_n 0, 1) := by decide +kernel
theorem dX6_play_1 : decode cX6_play 1 = .ok (.getfield 9, 3) := by decide +kernel
theorem dX6_play_4 : decode cX6_play 4 = .ok (.aload_n 1, 1) := by decide +kernel
theorem dX6_play_5 : decode cX6_play 5 = .ok (.getfield 34, 3) := by decide +kernel
theorem dX6_play_8 : decode cX6_play 8 = .ok (.laload, 1) := by decide +kernel
theorem dX6_play_9 : decode cX6_play 9 = .ok (.lstore_n 2, 1) := by decide +kernel
theorem dX6_play_10 : decode cX6_play 10 = .ok (.aload_n 0, 1) := by decide +kernel
theorem dX6_play_11 : decode cX6_play 11 = .ok (.getfield 9, 3) := by decide +kernel
theorem dX6_play_14 : decode cX6_play 14 = .ok (.aload_n 1, 1) := by decide +kernel
theorem dX6_play_15 : decode cX6_play 15 = .ok (.getfield 44, 3) := by decide +kernel
theorem dX6_play_18 : decode cX6_play 18 = .ok (.laload, 1) := by decide +kernel
theorem dX6_play_19 : decode cX6_play 19 = .ok (.lstore 4, 2) := by decide +kernel
theorem dX6_play_21 : decode cX6_play 21 = .ok (.aload_n 1, 1) := by decide +kernel
theorem dX6_play_22 : decode cX6_play 22 = .ok (.getfield 29, 3) := by decide +kernel
theorem dX6_play_25 : decode cX6_play 25 = .ok (.lookupswitch 232 #[(38, 156), (43, 67), (45, 88), (47, 113), (61, 182), (124, 196), (126, 212)], 67) := by decide +kernel
theorem dX6_play_92 : decode cX6_play 92 = .ok (.aload_n 0, 1) := by decide +kernel
theorem dX6_play_93 : decode cX6_play 93 = .ok (.getfield 9, 3) := by decide +kernel
theorem dX6_play_96 : decode cX6_play 96 = .ok (.aload_n 1, 1) := by decide +kernel
theorem dX6_play_97 : decode cX6_play 97 = .ok (.getfield 34, 3) := by decide +kernel
theorem dX6_play_100 : decode cX6_play 100 = .ok (.lload_n 2, 1) := by decide +kernel
theorem dX6_play_101 : decode cX6_play 101 = .ok (.aload_n 1, 1) := by decide +kernel
theorem dX6_play_102 : decode cX6_play 102 = .ok (.getfield 37, 3) := by decide +kernel
theorem dX6_play_105 : decode cX6_play 105 = .ok (.invokestatic 55, 3) := by decide +kernel
theorem dX6_play_108 : decode cX6_play 108 = .ok (.lor, 1) := by decide +kernel
theorem dX6_play_109 : decode cX6_play 109 = .ok (.lastore, 1) := by decide +kernel
theorem dX6_play_110 : decode cX6_play 110 = .ok (.goto 157, 3) := by decide +kernel
theorem dX6_play_113 : decode cX6_play 113 = .ok (.aload_n 0, 1) := by decide +kernel
theorem dX6_play_114 : decode cX6_play 114 = .ok (.getfield 9, 3) := by decide +kernel
theorem dX6_play_117 : decode cX6_play 117 = .ok (.aload_n 1, 1) := by decide +kernel
theorem dX6_play_118 : decode cX6_play 118 = .ok (.getfield 34, 3) := by decide +kernel
theorem dX6_play_121 : decode cX6_play 121 = .ok (.lload_n 2, 1) := by decide +kernel
theorem dX6_play_122 : decode cX6_play 122 = .ok (.aload_n 1, 1) := by decide +kernel
theorem dX6_play_123 : decode cX6_play 123 = .ok (.getfield 37, 3) := by decide +kernel
theorem dX6_play_126 : decode cX6_play 126 = .ok (.invokestatic 55, 3) := by decide +kernel
theorem dX6_play_129 : decode cX6_play 129 = .ok (.ldc2_w 59, 3) := by decide +kernel
theorem dX6_play_132 : decode cX6_play 132 = .ok (.lxor, 1) := by decide +kernel
theorem dX6_play_133 : decode cX6_play 133 = .ok (.land, 1) := by decide +kernel
theorem dX6_play_134 : decode cX6_play 134 = .ok (.lastore, 1) := by decide +kernel
theorem dX6_play_135 : decode cX6_play 135 = .ok (.goto 132, 3) := by decide +kernel
theorem dX6_play_138 : decode cX6_play 138 = .ok (.aload_n 0, 1) := by decide +kernel
theorem dX6_play_139 : decode cX6_play 139 = .ok (.getfield 9, 3) := by decide +kernel
theorem dX6_play_142 : decode cX6_play 142 = .ok (.aload_n 1, 1) := by decide +kernel
theorem dX6_play_143 : decode cX6_play 143 = .ok (.getfield 34, 3) := by decide +kernel
theorem dX6_play_146 : decode cX6_play 146 = .ok (.lload_n 2, 1) := by decide +kernel
theorem dX6_play_147 : decode cX6_play 147 = .ok (.aload_n 1, 1) := by decide +kernel
theorem dX6_play_148 : decode cX6_play 148 = .ok (.getfield 37, 3) := by decide +kernel
theorem dX6_play_151 : decode cX6_play 151 = .ok (.invokestatic 61, 3) := by decide +kernel
theorem dX6_play_154 : decode cX6_play 154 = .ok (.land, 1) := by decide +kernel
theorem dX6_play_155 : decode cX6_play 155 = .ok (.lastore, 1) := by decide +kernel
theorem dX6_play_156 : decode cX6_play 156 = .ok (.aload_n 0, 1) := by decide +kernel
theorem dX6_play_157 : decode cX6_play 157 = .ok (.getfield 9, 3) := by decide +kernel
theorem dX6_play_160 : decode cX6_play 160 = .ok (.aload_n 1, 1) := by decide +kernel
theorem dX6_play_161 : decode cX6_play 161 = .ok (.getfield 44, 3) := by decide +kernel
theorem dX6_play_164 : decode cX6_play 164 = .ok (.lload_n 2, 1) := by decide +kernel
theorem dX6_play_165 : decode cX6_play 165 = .ok (.aload_n 1, 1) := by decide +kernel
theorem dX6_play_166 : decode cX6_play 166 = .ok (.getfield 37, 3) := by decide +kernel
theorem dX6_play_169 : decode cX6_play 169 = .ok (.invokestatic 61, 3) := by decide +kernel
theorem dX6_play_172 : decode cX6_play 172 = .ok (.ldc2_w 59, 3) := by decide +kernel
theorem dX6_play_175 : decode cX6_play 175 = .ok (.lxor, 1) := by decide +kernel
theorem dX6_play_176 : decode cX6_play 176 = .ok (.land, 1) := by decide +kernel
theorem dX6_play_177 : decode cX6_play 177 = .ok (.lastore, 1) := by decide +kernel
theorem dX6_play_178 : decode cX6_play 178 = .ok (.goto 89, 3) := by decide +kernel
theorem dX6_play_181 : decode cX6_play 181 = .ok (.aload_n 0, 1) := by decide +kernel
theorem dX6_play_182 : decode cX6_play 182 = .ok (.getfield 9, 3) := by decide +kernel
theorem dX6_play_185 : decode cX6_play 185 = .ok (.aload_n 1, 1) := by decide +kernel
theorem dX6_play_186 : decode cX6_play 186 = .ok (.getfield 34, 3) := by decide +kernel
theorem dX6_play_189 : decode cX6_play 189 = .ok (.lload_n 2, 1) := by decide +kernel
theorem dX6_play_190 : decode cX6_play 190 = .ok (.lload 4, 2) := by decide +kernel
theorem dX6_play_192 : decode cX6_play 192 = .ok (.lor, 1) := by decide +kernel
theorem dX6_play_193 : decode cX6_play 193 = .ok (.lastore, 1) := by decide +kernel
theorem dX6_play_194 : decode cX6_play 194 = .ok (.aload_n 0, 1) := by decide +kernel
theorem dX6_play_195 : decode cX6_play 195 = .ok (.getfield 9, 3) := by decide +kernel
theorem dX6_play_198 : decode cX6_play 198 = .ok (.aload_n 1, 1) := by decide +kernel
theorem dX6_play_199 : decode cX6_play 199 = .ok (.getfield 44, 3) := by decide +kernel
theorem dX6_play_202 : decode cX6_play 202 = .ok (.lconst 0, 1) := by decide +kernel
theorem dX6_play_203 : decode cX6_play 203 = .ok (.lastore, 1) := by decide +kernel
theorem dX6_play_204 : decode cX6_play 204 = .ok (.goto 63, 3) := by decide +kernel
theorem dX6_play_207 : decode cX6_play 207 = .ok (.aload_n 0, 1) := by decide +kernel
theorem dX6_play_208 : decode cX6_play 208 = .ok (.getfield 9, 3) := by decide +kernel
theorem dX6_play_211 : decode cX6_play 211 = .ok (.aload_n 1, 1) := by decide +kernel
theorem dX6_play_212 : decode cX6_play 212 = .ok (.getfield 34, 3) := by decide +kernel
theorem dX6_play_215 : decode cX6_play 215 = .ok (.lload 4, 2) := by decide +kernel
theorem dX6_play_217 : decode cX6_play 217 = .ok (.lastore, 1) := by decide +kernel
theorem dX6_play_218 : decode cX6_play 218 = .ok (.goto 49, 3) := by decide +kernel
theorem dX6_play_221 : decode cX6_play 221 = .ok (.aload_n 0, 1) := by decide +kernel
theorem dX6_play_222 : decode cX6_play 222 = .ok (.getfield 9, 3) := by decide +kernel
theorem dX6_play_225 : decode cX6_play 225 = .ok (.aload_n 1, 1) := by decide +kernel
theorem dX6_play_226 : decode cX6_play 226 = .ok (.getfield 34, 3) := by decide +kernel
theorem dX6_play_229 : decode cX6_play 229 = .ok (.lload_n 2, 1) := by decide +kernel
theorem dX6_play_230 : decode cX6_play 230 = .ok (.lload 4, 2) := by decide +kernel
theorem dX6_play_232 : decode cX6_play 232 = .ok (.lor, 1) := by decide +kernel
theorem dX6_play_233 : decode cX6_play 233 = .ok (.lastore, 1) := by decide +kernel
theorem dX6_play_234 : decode cX6_play 234 = .ok (.goto 33, 3) := by decide +kernel
theorem dX6_play_237 : decode cX6_play 237 = .ok (.aload_n 0, 1) := by decide +kernel
theorem dX6_play_238 : decode cX6_play 238 = .ok (.getfield 9, 3) := by decide +kernel
theorem dX6_play_241 : decode cX6_play 241 = .ok (.aload_n 1, 1) := by decide +kernel
theorem dX6_play_242 : decode cX6_play 242 = .ok (.getfield 34, 3) := by decide +kernel
theorem dX6_play_245 : decode cX6_play 245 = .ok (.lload_n 2, 1) := by decide +kernel
theorem dX6_play_246 : decode cX6_play 246 = .ok (.lload 4, 2) := by decide +kernel
theorem dX6_play_248 : decode cX6_play 248 = .ok (.ldc2_w 59, 3) := by decide +kernel
theorem dX6_play_251 : decode cX6_play 251 = .ok (.lxor, 1) := by decide +kernel
theorem dX6_play_252 : decode cX6_play 252 = .ok (.land, 1) := by decide +kernel
theorem dX6_play_253 : decode cX6_play 253 = .ok (.lastore, 1) := by decide +kernel
theorem dX6_play_254 : decode cX6_play 254 = .ok (.goto 13, 3) := by decide +kernel
theorem dX6_play_257 : decode cX6_play 257 = .ok (.aload_n 0, 1) := by decide +kernel
theorem dX6_play_258 : decode cX6_play 258 = .ok (.dup, 1) := by decide +kernel
theorem dX6_play_259 : decode cX6_play 259 = .ok (.getfield 21, 3) := by decide +kernel
theorem dX6_play_262 : decode cX6_play 262 = .ok (.iconst 1, 1) := by decide +kernel
theorem dX6_play_263 : decode cX6_play 263 = .ok (.iadd, 1) := by decide +kernel
theorem dX6_play_264 : decode cX6_play 264 = .ok (.putfield 21, 3) := by decide +kernel
theorem dX6_play_267 : decode cX6_play 267 = .ok (.return_, 1) := by decide +kernel
theorem dJ13_bitCount_95d88_0 : decode cJ13_bitCount_95d88 0 = .ok (.lload_n 0, 1) := by decide +kernel
theorem dJ13_bitCount_95d88_1 : decode cJ13_bitCount_95d88 1 = .ok (.lload_n 0, 1) := by decide +kernel
theorem dJ13_bitCount_95d88_2 : decode cJ13_bitCount_95d88 2 = .ok (.iconst 1, 1) := by decide +kernel
theorem dJ13_bitCount_95d88_3 : decode cJ13_bitCount_95d88 3 = .ok (.lushr, 1) := by decide +kernel
theorem dJ13_bitCount_95d88_4 : decode cJ13_bitCount_95d88 4 = .ok (.ldc2_w 314, 3) := by decide +kernel
theorem dJ13_bitCount_95d88_7 : decode cJ13_bitCount_95d88 7 = .ok (.land, 1) := by decide +kernel
theorem dJ13_bitCount_95d88_8 : decode cJ13_bitCount_95d88 8 = .ok (.lsub, 1) := by decide +kernel
theorem dJ13_bitCount_95d88_9 : decode cJ13_bitCount_95d88 9 = .ok (.lstore_n 0, 1) := by decide +kernel
theorem dJ13_bitCount_95d88_10 : decode cJ13_bitCount_95d88 10 = .ok (.lload_n 0, 1) := by decide +kernel
theorem dJ13_bitCount_95d88_11 : decode cJ13_bitCount_95d88 11 = .ok (.ldc2_w 316, 3) := by decide +kernel
theorem dJ13_bitCount_95d88_14 : decode cJ13_bitCount_95d88 14 = .ok (.land, 1) := by decide +kernel
theorem dJ13_bitCount_95d88_15 : decode cJ13_bitCount_95d88 15 = .ok (.lload_n 0, 1) := by decide +kernel
theorem dJ13_bitCount_95d88_16 : decode cJ13_bitCount_95d88 16 = .ok (.iconst 2, 1) := by decide +kernel
theorem dJ13_bitCount_95d88_17 : decode cJ13_bitCount_95d88 17 = .ok (.lushr, 1) := by decide +kernel
theorem dJ13_bitCount_95d88_18 : decode cJ13_bitCount_95d88 18 = .ok (.ldc2_w 316, 3) := by decide +kernel
theorem dJ13_bitCount_95d88_21 : decode cJ13_bitCount_95d88 21 = .ok (.land, 1) := by decide +kernel
theorem dJ13_bitCount_95d88_22 : decode cJ13_bitCount_95d88 22 = .ok (.ladd, 1) := by decide +kernel
theorem dJ13_bitCount_95d88_23 : decode cJ13_bitCount_95d88 23 = .ok (.lstore_n 0, 1) := by decide +kernel
theorem dJ13_bitCount_95d88_24 : decode cJ13_bitCount_95d88 24 = .ok (.lload_n 0, 1) := by decide +kernel
theorem dJ13_bitCount_95d88_25 : decode cJ13_bitCount_95d88 25 = .ok (.lload_n 0, 1) := by decide +kernel
theorem dJ13_bitCount_95d88_26 : decode cJ13_bitCount_95d88 26 = .ok (.iconst 4, 1) := by decide +kernel
theorem dJ13_bitCount_95d88_27 : decode cJ13_bitCount_95d88 27 = .ok (.lushr, 1) := by decide +kernel
theorem dJ13_bitCount_95d88_28 : decode cJ13_bitCount_95d88 28 = .ok (.ladd, 1) := by decide +kernel
theorem dJ13_bitCount_95d88_29 : decode cJ13_bitCount_95d88 29 = .ok (.ldc2_w 318, 3) := by decide +kernel
theorem dJ13_bitCount_95d88_32 : decode cJ13_bitCount_95d88 32 = .ok (.land, 1) := by decide +kernel
theorem dJ13_bitCount_95d88_33 : decode cJ13_bitCount_95d88 33 = .ok (.lstore_n 0, 1) := by decide +kernel
theorem dJ13_bitCount_95d88_34 : decode cJ13_bitCount_95d88 34 = .ok (.lload_n 0, 1) := by decide +kernel
theorem dJ13_bitCount_95d88_35 : decode cJ13_bitCount_95d88 35 = .ok (.lload_n 0, 1) := by decide +kernel
theorem dJ13_bitCount_95d88_36 : decode cJ13_bitCount_95d88 36 = .ok (.bipush 8, 2) := by decide +kernel
theorem dJ13_bitCount_95d88_38 : decode cJ13_bitCount_95d88 38 = .ok (.lushr, 1) := by decide +kernel
theorem dJ13_bitCount_95d88_39 : decode cJ13_bitCount_95d88 39 = .ok (.ladd, 1) := by decide +kernel
theorem dJ13_bitCount_95d88_40 : decode cJ13_bitCount_95d88 40 = .ok (.lstore_n 0, 1) := by decide +kernel
theorem dJ13_bitCount_95d88_41 : decode cJ13_bitCount_95d88 41 = .ok (.lload_n 0, 1) := by decide +kernel
theorem dJ13_bitCount_95d88_42 : decode cJ13_bitCount_95d88 42 = .ok (.lload_n 0, 1) := by decide +kernel
theorem dJ13_bitCount_95d88_43 : decode cJ13_bitCount_95d88 43 = .ok (.bipush 16, 2) := by decide +kernel
theorem dJ13_bitCount_95d88_45 : decode cJ13_bitCount_95d88 45 = .ok (.lushr, 1) := by decide +kernel
theorem dJ13_bitCount_95d88_46 : decode cJ13_bitCount_95d88 46 = .ok (.ladd, 1) := by decide +kernel
theorem dJ13_bitCount_95d88_47 : decode cJ13_bitCount_95d88 47 = .ok (.lstore_n 0, 1) := by decide +kernel
theorem dJ13_bitCount_95d88_48 : decode cJ13_bitCount_95d88 48 = .ok (.lload_n 0, 1) := by decide +kernel
theorem dJ13_bitCount_95d88_49 : decode cJ13_bitCount_95d88 49 = .ok (.lload_n 0, 1) := by decide +kernel
theorem dJ13_bitCount_95d88_50 : decode cJ13_bitCount_95d88 50 = .ok (.bipush 32, 2) := by decide +kernel
theorem dJ13_bitCount_95d88_52 : decode cJ13_bitCount_95d88 52 = .ok (.lushr, 1) := by decide +kernel
theorem dJ13_bitCount_95d88_53 : decode cJ13_bitCount_95d88 53 = .ok (.ladd, 1) := by decide +kernel
theorem dJ13_bitCount_95d88_54 : decode cJ13_bitCount_95d88 54 = .ok (.lstore_n 0, 1) := by decide +kernel
theorem dJ13_bitCount_95d88_55 : decode cJ13_bitCount_95d88 55 = .ok (.lload_n 0, 1) := by decide +kernel
theorem dJ13_bitCount_95d88_56 : decode cJ13_bitCount_95d88 56 = .ok (.l2i, 1) := by decide +kernel
theorem dJ13_bitCount_95d88_57 : decode cJ13_bitCount_95d88 57 = .ok (.bipush 127, 2) := by decide +kernel
theorem dJ13_bitCount_95d88_59 : decode cJ13_bitCount_95d88 59 = .ok (.iand, 1) := by decide +kernel
theorem dJ13_bitCount_95d88_60 : decode cJ13_bitCount_95d88 60 = .ok (.ireturn, 1) := by decide +kernel
theorem dJ9_abs_0f7a4_0 : decode cJ9_abs_0f7a4 0 = .ok (.iload_n 0, 1) := by decide +kernel
theorem dJ9_abs_0f7a4_1 : decode cJ9_abs_0f7a4 1 = .ok (.ifCond .ge 8, 3) := by decide +kernel
theorem dJ9_abs_0f7a4_4 : decode cJ9_abs_0f7a4 4 = .ok (.iload_n 0, 1) := by decide +kernel
theorem dJ9_abs_0f7a4_5 : decode cJ9_abs_0f7a4 5 = .ok (.ineg, 1) := by decide +kernel
theorem dJ9_abs_0f7a4_6 : decode cJ9_abs_0f7a4 6 = .ok (.goto 4, 3) := by decide +kernel
theorem dJ9_abs_0f7a4_9 : decode cJ9_abs_0f7a4 9 = .ok (.iload_n 0, 1) := by decide +kernel
theorem dJ9_abs_0f7a4_10 : decode cJ9_abs_0f7a4 10 = .ok (.ireturn, 1) := by decide +kernel
theorem dJ9_max_7cf53_0 : decode cJ9_max_7cf53 0 = .ok (.iload_n 0, 1) := by decide +kernel
theorem dJ9_max_7cf53_1 : decode cJ9_max_7cf53 1 = .ok (.iload_n 1, 1) := by decide +kernel
theorem dJ9_max_7cf53_2 : decode cJ9_max_7cf53 2 = .ok (.if_icmp .lt 7, 3) := by decide +kernel
theorem dJ9_max_7cf53_5 : decode cJ9_max_7cf53 5 = .ok (.iload_n 0, 1) := by decide +kernel
theorem dJ9_max_7cf53_6 : decode cJ9_max_7cf53 6 = .ok (.goto 4, 3) := by decide +kernel
theorem dJ9_max_7cf53_9 : decode cJ9_max_7cf53 9 = .ok (.iload_n 1, 1) := by decide +kernel
theorem dJ9_max_7cf53_10 : decode cJ9_max_7cf53 10 = .ok (.ireturn, 1) := by decide +kernel
theorem dJ9_max_f86c9_0 : decode cJ9_max_f86c9 0 = .ok (.lload_n 0, 1) := by decide +kernel
theorem dJ9_max_f86c9_1 : decode cJ9_max_f86c9 1 = .ok (.lload_n 2, 1) := by decide +kernel
theorem dJ9_max_f86c9_2 : decode cJ9_max_f86c9 2 = .ok (.lcmp, 1) := by decide +kernel
theorem dJ9_max_f86c9_3 : decode cJ9_max_f86c9 3 = .ok (.ifCond .lt 7, 3) := by decide +kernel
theorem dJ9_max_f86c9_6 : decode cJ9_max_f86c9 6 = .ok (.lload_n 0, 1) := by decide +kernel
theorem dJ9_max_f86c9_7 : decode cJ9_max_f86c9 7 = .ok (.goto 4, 3) := by decide +kernel
theorem dJ9_max_f86c9_10 : decode cJ9_max_f86c9 10 = .ok (.lload_n 2, 1) := by decide +kernel
theorem dJ9_max_f86c9_11 : decode cJ9_max_f86c9 11 = .ok (.lreturn, 1) := by decide +kernel
end
section
theorem dX7_init_0 : decode cX7_init 0 = .ok (.aload_n 0, 1) := by decide +kernel
theorem dX7_init_1 : decode cX7_init 1 = .ok (.invokespecial 1, 3) := by decide +kernel
theorem dX7_init_4 : decode cX7_init 4 = .ok (.aload_n 0, 1) := by decide +kernel
theorem dX7_init_5 : decode cX7_init 5 = .ok (.new 7, 3) := by decide +kernel
theorem dX7_init_8 : decode cX7_init 8 = .ok (.dup, 1) := by decide +kernel
theorem dX7_init_9 : decode cX7_init 9 = .ok (.invokespecial 9, 3) := by decide +kernel
theorem dX7_init_12 : decode cX7_init 12 = .ok (.putfield 10, 3) := by decide +kernel
theorem dX7_init_15 : decode cX7_init 15 = .ok (.aload_n 0, 1) := by decide +kernel
theorem dX7_init_16 : decode cX7_init 16 = .ok (.new 7, 3) := by decide +kernel
theorem dX7_init_19 : decode cX7_init 19 = .ok (.dup, 1) := by decide +kernel
theorem dX7_init_20 : decode cX7_init 20 = .ok (.invokespecial 9, 3) := by decide +kernel
theorem dX7_init_23 : decode cX7_init 23 = .ok (.putfield 16, 3) := by decide +kernel
theorem dX7_init_26 : decode cX7_init 26 = .ok (.aload_n 0, 1) := by decide +kernel
theorem dX7_init_27 : decode cX7_init 27 = .ok (.new 19, 3) := by decide +kernel
theorem dX7_init_30 : decode cX7_init 30 = .ok (.dup, 1) := by decide +kernel
theorem dX7_init_31 : decode cX7_init 31 = .ok (.invokespecial 21, 3) := by decide +kernel
theorem dX7_init_34 : decode cX7_init 34 = .ok (.putfield 22, 3) := by decide +kernel
theorem dX7_init_37 : decode cX7_init 37 = .ok (.aload_n 0, 1) := by decide +kernel
theorem dX7_init_38 : decode cX7_init 38 = .ok (.new 26, 3) := by decide +kernel
theorem dX7_init_41 : decode cX7_init 41 = .ok (.dup, 1) := by decide +kernel
theorem dX7_init_42 : decode cX7_init 42 = .ok (.invokespecial 28, 3) := by decide +kernel
theorem dX7_init_45 : decode cX7_init 45 = .ok (.putfield 29, 3) := by decide +kernel
theorem dX7_init_48 : decode cX7_init 48 = .ok (.aload_n 0, 1) := by decide +kernel
theorem dX7_init_49 : decode cX7_init 49 = .ok (.iconst 2, 1) := by decide +kernel
theorem dX7_init_50 : decode cX7_init 50 = .ok (.anewarray 33, 3) := by decide +kernel
theorem dX7_init_53 : decode cX7_init 53 = .ok (.putfield 35, 3) := by decide +kernel
theorem dX7_init_56 : decode cX7_init 56 = .ok (.aload_n 0, 1) := by decide +kernel
theorem dX7_init_57 : decode cX7_init 57 = .ok (.new 39, 3) := by decide +kernel
theorem dX7_init_60 : decode cX7_init 60 = .ok (.dup, 1) := by decide +kernel
theorem dX7_init_61 : decode cX7_init 61 = .ok (.invokespecial 41, 3) := by decide +kernel
theorem dX7_init_64 : decode cX7_init 64 = .ok (.putfield 42, 3) := by decide +kernel
theorem dX7_init_67 : decode cX7_init 67 = .ok (.aload_n 0, 1) := by decide +kernel
theorem dX7_init_68 : decode cX7_init 68 = .ok (.aload_n 0, 1) := by decide +kernel
theorem dX7_init_69 : decode cX7_init 69 = .ok (.getfield 42, 3) := by decide +kernel
theorem dX7_init_72 : decode cX7_init 72 = .ok (.getfield 46, 3) := by decide +kernel
theorem dX7_init_75 : decode cX7_init 75 = .ok (.putfield 50, 3) := by decide +kernel
theorem dX7_init_78 : decode cX7_init 78 = .ok (.aload_n 0, 1) := by decide +kernel
theorem dX7_init_79 : decode cX7_init 79 = .ok (.aload_n 0, 1) := by decide +kernel
theorem dX7_init_80 : decode cX7_init 80 = .ok (.getfield 42, 3) := by decide +kernel
theorem dX7_init_83 : decode cX7_init 83 = .ok (.getfield 51, 3) := by decide +kernel
theorem dX7_init_86 : decode cX7_init 86 = .ok (.putfield 55, 3) := by decide +kernel
theorem dX7_init_89 : decode cX7_init 89 = .ok (.aload_n 0, 1) := by decide +kernel
theorem dX7_init_90 : decode cX7_init 90 = .ok (.aload_n 0, 1) := by decide +kernel
theorem dX7_init_91 : decode cX7_init 91 = .ok (.getfield 42, 3) := by decide +kernel
theorem dX7_init_94 : decode cX7_init 94 = .ok (.getfield 58, 3) := by decide +kernel
theorem dX7_init_97 : decode cX7_init 97 = .ok (.putfield 61, 3) := by decide +kernel
theorem dX7_init_100 : decode cX7_init 100 = .ok (.iconst 0, 1) := by decide +kernel
theorem dX7_init_101 : decode cX7_init 101 = .ok (.istore_n 1, 1) := by decide +kernel
theorem dX7_init_102 : decode cX7_init 102 = .ok (.iload_n 1, 1) := by decide +kernel
theorem dX7_init_103 : decode cX7_init 103 = .ok (.iconst 2, 1) := by decide +kernel
theorem dX7_init_104 : decode cX7_init 104 = .ok (.if_icmp .ge 22, 3) := by decide +kernel
theorem dX7_init_107 : decode cX7_init 107 = .ok (.aload_n 0, 1) := by decide +kernel
theorem dX7_init_108 : decode cX7_init 108 = .ok (.getfield 35, 3) := by decide +kernel
theorem dX7_init_111 : decode cX7_init 111 = .ok (.iload_n 1, 1) := by decide +kernel
theorem dX7_init_112 : decode cX7_init 112 = .ok (.new 33, 3) := by decide +kernel
theorem dX7_init_115 : decode cX7_init 115 = .ok (.dup, 1) := by decide +kernel
theorem dX7_init_116 : decode cX7_init 116 = .ok (.invokespecial 64, 3) := by decide +kernel
theorem dX7_init_119 : decode cX7_init 119 = .ok (.aastore, 1) := by decide +kernel
theorem dX7_init_120 : decode cX7_init 120 = .ok (.iinc 1 1, 3) := by decide +kernel
theorem dX7_init_123 : decode cX7_init 123 = .ok (.goto (-21), 3) := by decide +kernel
theorem dX7_init_126 : decode cX7_init 126 = .ok (.return_, 1) := by decide +kernel
theorem dX7_seed_0 : decode cX7_seed 0 = .ok (.iload_n 1, 1) := by decide +kernel
theorem dX7_seed_1 : decode cX7_seed 1 = .ok (.invokestatic 65, 3) := by decide +kernel
theorem dX7_seed_4 : decode cX7_seed 4 = .ok (.ifCond .ne 6, 3) := by decide +kernel
theorem dX7_seed_7 : decode cX7_seed 7 = .ok (.bipush (-2), 2) := by decide +kernel
theorem dX7_seed_9 : decode cX7_seed 9 = .ok (.ireturn, 1) := by decide +kernel
theorem dX7_seed_10 : decode cX7_seed 10 = .ok (.aload_n 0, 1) := by decide +kernel
theorem dX7_seed_11 : decode cX7_seed 11 = .ok (.getfield 10, 3) := by decide +kernel
theorem dX7_seed_14 : decode cX7_seed 14 = .ok (.getfield 69, 3) := by decide +kernel
theorem dX7_seed_17 : decode cX7_seed 17 = .ok (.istore_n 2, 1) := by decide +kernel
theorem dX7_seed_18 : decode cX7_seed 18 = .ok (.aload_n 0, 1) := by decide +kernel
theorem dX7_seed_19 : decode cX7_seed 19 = .ok (.getfield 10, 3) := by decide +kernel
theorem dX7_seed_22 : decode cX7_seed 22 = .ok (.iload_n 1, 1) := by decide +kernel
theorem dX7_seed_23 : decode cX7_seed 23 = .ok (.putfield 69, 3) := by decide +kernel
theorem dX7_seed_26 : decode cX7_seed 26 = .ok (.iload_n 2, 1) := by decide +kernel
theorem dX7_seed_27 : decode cX7_seed 27 = .ok (.ireturn, 1) := by decide +kernel
theorem dX7_put_0 : decode cX7_put 0 = .ok (.iload_n 1, 1) := by decide +kernel
theorem dX7_put_1 : decode cX7_put 1 = .ok (.invokestatic 73, 3) := by decide +kernel
theorem dX7_put_4 : decode cX7_put 4 = .ok (.ifCond .eq 10, 3) := by decide +kernel
theorem dX7_put_7 : decode cX7_put 7 = .ok (.iload_n 2, 1) := by decide +kernel
theorem dX7_put_8 : decode cX7_put 8 = .ok (.invokestatic 76, 3) := by decide +kernel
theorem dX7_put_11 : decode cX7_put 11 = .ok (.ifCond .ne 5, 3) := by decide +kernel
theorem dX7_put_14 : decode cX7_put 14 = .ok (.iconst (-1), 1) := by decide +kernel
theorem dX7_put_15 : decode cX7_put 15 = .ok (.ireturn, 1) := by decide +kernel
theorem dX7_put_16 : decode cX7_put 16 = .ok (.iload_n 3, 1) := by decide +kernel
theorem dX7_put_17 : decode cX7_put 17 = .ok (.ifCond .eq 39, 3) := by decide +kernel
theorem dX7_put_20 : decode cX7_put 20 = .ok (.aload_n 0, 1) := by decide +kernel
theorem dX7_put_21 : decode cX7_put 21 = .ok (.getfield 10, 3) := by decide +kernel
theorem dX7_put_24 : decode cX7_put 24 = .ok (.getfield 79, 3) := by decide +kernel
theorem dX7_put_27 : decode cX7_put 27 = .ok (.iload_n 1, 1) := by decide +kernel
theorem dX7_put_28 : decode cX7_put 28 = .ok (.laload, 1) := by decide +kernel
theorem dX7_put_29 : decode cX7_put 29 = .ok (.iload_n 2, 1) := by decide +kernel
theorem dX7_put_30 : decode cX7_put 30 = .ok (.invokestatic 83, 3) := by decide +kernel
theorem dX7_put_33 : decode cX7_put 33 = .ok (.ifCond .ne 23, 3) := by decide +kernel
theorem dX7_put_36 : decode cX7_put 36 = .ok (.aload_n 0, 1) := by decide +kernel
theorem dX7_put_37 : decode cX7_put 37 = .ok (.getfield 10, 3) := by decide +kernel
theorem dX7_put_40 : decode cX7_put 40 = .ok (.getfield 79, 3) := by decide +kernel
theorem dX7_put_43 : decode cX7_put 43 = .ok (.iload_n 1, 1) := by decide +kernel
theorem dX7_put_44 : decode cX7_put 44 = .ok (.laload, 1) := by decide +kernel
theorem dX7_put_45 : decode cX7_put 45 = .ok (.invokestatic 87, 3) := by decide +kernel
theorem dX7_put_48 : decode cX7_put 48 = .ok (.bipush 40, 2) := by decide +kernel
theorem dX7_put_50 : decode cX7_put 50 = .ok (.if_icmp .lt 6, 3) := by decide +kernel
theorem dX7_put_53 : decode cX7_put 53 = .ok (.bipush (-4), 2) := by decide +kernel
theorem dX7_put_55 : decode cX7_put 55 = .ok (.ireturn, 1) := by decide +kernel
theorem dX7_put_56 : decode cX7_put 56 = .ok (.aload_n 0, 1) := by decide +kernel
theorem dX7_put_57 : decode cX7_put 57 = .ok (.getfield 10, 3) := by decide +kernel
theorem dX7_put_60 : decode cX7_put 60 = .ok (.getfield 79, 3) := by decide +kernel
theorem dX7_put_63 : decode cX7_put 63 = .ok (.iload_n 1, 1) := by decide +kernel
theorem dX7_put_64 : decode cX7_put 64 = .ok (.iload_n 3, 1) := by decide +kernel
theorem dX7_put_65 : decode cX7_put 65 = .ok (.ifCond .eq 20, 3) := by decide +kernel
theorem dX7_put_68 : decode cX7_put 68 = .ok (.aload_n 0, 1) := by decide +kernel
theorem dX7_put_69 : decode cX7_put 69 = .ok (.getfield 10, 3) := by decide +kernel
theorem dX7_put_72 : decode cX7_put 72 = .ok (.getfield 79, 3) := by decide +kernel
theorem dX7_put_75 : decode cX7_put 75 = .ok (.iload_n 1, 1) := by decide +kernel
theorem dX7_put_76 : decode cX7_put 76 = .ok (.laload, 1) := by decide +kernel
theorem dX7_put_77 : decode cX7_put 77 = .ok (.iload_n 2, 1) := by decide +kernel
theorem dX7_put_78 : decode cX7_put 78 = .ok (.invokestatic 91, 3) := by decide +kernel
theorem dX7_put_81 : decode cX7_put 81 = .ok (.lor, 1) := by decide +kernel
theorem dX7_put_82 : decode cX7_put 82 = .ok (.goto 21, 3) := by decide +kernel
theorem dX7_put_85 : decode cX7_put 85 = .ok (.aload_n 0, 1) := by decide +kernel
theorem dX7_put_86 : decode cX7_put 86 = .ok (.getfield 10, 3) := by decide +kernel
theorem dX7_put_89 : decode cX7_put 89 = .ok (.getfield 79, 3) := by decide +kernel
theorem dX7_put_92 : decode cX7_put 92 = .ok (.iload_n 1, 1) := by decide +kernel
theorem dX7_put_93 : decode cX7_put 93 = .ok (.laload, 1) := by decide +kernel
theorem dX7_put_94 : decode cX7_put 94 = .ok (.iload_n 2, 1) := by decide +kernel
theorem dX7_put_95 : decode cX7_put 95 = .ok (.invokestatic 91, 3) := by decide +kernel
theorem dX7_put_98 : decode cX7_put 98 = .ok (.ldc2_w 95, 3) := by decide +kernel
theorem dX7_put_101 : decode cX7_put 101 = .ok (.lxor, 1) := by decide +kernel
theorem dX7_put_102 : decode cX7_put 102 = .ok (.land, 1) := by decide +kernel
theorem dX7_put_103 : decode cX7_put 103 = .ok (.lastore, 1) := by decide +kernel
theorem dX7_put_104 : decode cX7_put 104 = .ok (.aload_n 0, 1) := by decide +kernel
theorem dX7_put_105 : decode cX7_put 105 = .ok (.getfield 10, 3) := by decide +kernel
theorem dX7_put_108 : decode cX7_put 108 = .ok (.getfield 79, 3) := by decide +kernel
theorem dX7_put_111 : decode cX7_put 111 = .ok (.iload_n 1, 1) := by decide +kernel
theorem dX7_put_112 : decode cX7_put 112 = .ok (.laload, 1) := by decide +kernel
theorem dX7_put_113 : decode cX7_put 113 = .ok (.invokestatic 87, 3) := by decide +kernel
theorem dX7_put_116 : decode cX7_put 116 = .ok (.ireturn, 1) := by decide +kernel
theorem dX7_say_0 : decode cX7_say 0 = .ok (.iload_n 1, 1) := by decide +kernel
theorem dX7_say_1 : decode cX7_say 1 = .ok (.bipush 33, 2) := by decide +kernel
theorem dX7_say_3 : decode cX7_say 3 = .ok (.if_icmp .lt 9, 3) := by decide +kernel
theorem dX7_say_6 : decode cX7_say 6 = .ok (.iload_n 1, 1) := by decide +kernel
theorem dX7_say_7 : decode cX7_say 7 = .ok (.bipush 126, 2) := by decide +kernel
theorem dX7_say_9 : decode cX7_say 9 = .ok (.if_icmp .le 6, 3) := by decide +kernel
theorem dX7_say_12 : decode cX7_say 12 = .ok (.bipush (-2), 2) := by decide +kernel
theorem dX7_say_14 : decode cX7_say 14 = .ok (.ireturn, 1) := by decide +kernel
theorem dX7_say_15 : decode cX7_say 15 = .ok (.aload_n 0, 1) := by decide +kernel
theorem dX7_say_16 : decode cX7_say 16 = .ok (.getfield 22, 3) := by decide +kernel
theorem dX7_say_19 : decode cX7_say 19 = .ok (.iload_n 1, 1) := by decide +kernel
theorem dX7_say_20 : decode cX7_say 20 = .ok (.invokevirtual 97, 3) := by decide +kernel
theorem dX7_say_23 : decode cX7_say 23 = .ok (.ifCond .eq 13, 3) := by decide +kernel
theorem dX7_say_26 : decode cX7_say 26 = .ok (.aload_n 0, 1) := by decide +kernel
theorem dX7_say_27 : decode cX7_say 27 = .ok (.getfield 22, 3) := by decide +kernel
theorem dX7_say_30 : decode cX7_say 30 = .ok (.getfield 100, 3) := by decide +kernel
theorem dX7_say_33 : decode cX7_say 33 = .ok (.goto 5, 3) := by decide +kernel
theorem dX7_say_36 : decode cX7_say 36 = .ok (.bipush (-4), 2) := by decide +kernel
theorem dX7_say_38 : decode cX7_say 38 = .ok (.ireturn, 1) := by decide +kernel
theorem dX7_wipe_0 : decode cX7_wipe 0 = .ok (.aload_n 0, 1) := by decide +kernel
theorem dX7_wipe_1 : decode cX7_wipe 1 = .ok (.getfield 22, 3) := by decide +kernel
theorem dX7_wipe_4 : decode cX7_wipe 4 = .ok (.getfield 100, 3) := by decide +kernel
theorem dX7_wipe_7 : decode cX7_wipe 7 = .ok (.istore_n 1, 1) := by decide +kernel
theorem dX7_wipe_8 : decode cX7_wipe 8 = .ok (.aload_n 0, 1) := by decide +kernel
theorem dX7_wipe_9 : decode cX7_wipe 9 = .ok (.getfield 22, 3) := by decide +kernel
theorem dX7_wipe_12 : decode cX7_wipe 12 = .ok (.invokevirtual 102, 3) := by decide +kernel
theorem dX7_wipe_15 : decode cX7_wipe 15 = .ok (.iload_n 1, 1) := by decide +kernel
theorem dX7_wipe_16 : decode cX7_wipe 16 = .ok (.ireturn, 1) := by decide +kernel
theorem dX7_fault_0 : decode cX7_fault 0 = .ok (.aload_n 0, 1) := by decide +kernel
theorem dX7_fault_1 : decode cX7_fault 1 = .ok (.getfield 22, 3) := by decide +kernel
theorem dX7_fault_4 : decode cX7_fault 4 = .ok (.invokevirtual 105, 3) := by decide +kernel
theorem dX7_fault_7 : decode cX7_fault 7 = .ok (.ireturn, 1) := by decide +kernel
theorem dX7_judge_0 : decode cX7_judge 0 = .ok (.iload_n 1, 1) := by decide +kernel
theorem dX7_judge_1 : decode cX7_judge 1 = .ok (.ifCond .lt 8, 3) := by decide +kernel
theorem dX7_judge_4 : decode cX7_judge 4 = .ok (.iload_n 1, 1) := by decide +kernel
theorem dX7_judge_5 : decode cX7_judge 5 = .ok (.iconst 2, 1) := by decide +kernel
theorem dX7_judge_6 : decode cX7_judge 6 = .ok (.if_icmp .le 6, 3) := by decide +kernel
theorem dX7_judge_9 : decode cX7_judge 9 = .ok (.bipush (-2), 2) := by decide +kernel
theorem dX7_judge_11 : decode cX7_judge 11 = .ok (.ireturn, 1) := by decide +kernel
theorem dX7_judge_12 : decode cX7_judge 12 = .ok (.aload_n 0, 1) := by decide +kernel
theorem dX7_judge_13 : decode cX7_judge 13 = .ok (.invokevirtual 109, 3) := by decide +kernel
theorem dX7_judge_16 : decode cX7_judge 16 = .ok (.istore_n 2, 1) := by decide +kernel
theorem dX7_judge_17 : decode cX7_judge 17 = .ok (.iload_n 2, 1) := by decide +kernel
theorem dX7_judge_18 : decode cX7_judge 18 = .ok (.bipush (-5), 2) := by decide +kernel
theorem dX7_judge_20 : decode cX7_judge 20 = .ok (.if_icmp .eq 8, 3) := by decide +kernel
theorem dX7_judge_23 : decode cX7_judge 23 = .ok (.iload_n 1, 1) := by decide +kernel
theorem dX7_judge_24 : decode cX7_judge 24 = .ok (.iconst 2, 1) := by decide +kernel
theorem dX7_judge_25 : decode cX7_judge 25 = .ok (.if_icmp .ne 19, 3) := by decide +kernel
theorem dX7_judge_28 : decode cX7_judge 28 = .ok (.iload_n 2, 1) := by decide +kernel
theorem dX7_judge_29 : decode cX7_judge 29 = .ok (.ifCond .eq 7, 3) := by decide +kernel
theorem dX7_judge_32 : decode cX7_judge 32 = .ok (.iload_n 2, 1) := by decide +kernel
theorem dX7_judge_33 : decode cX7_judge 33 = .ok (.goto 10, 3) := by decide +kernel
theorem dX7_judge_36 : decode cX7_judge 36 = .ok (.aload_n 0, 1) := by decide +kernel
theorem dX7_judge_37 : decode cX7_judge 37 = .ok (.getfield 42, 3) := by decide +kernel
theorem dX7_judge_40 : decode cX7_judge 40 = .ok (.getfield 112, 3) := by decide +kernel
theorem dX7_judge_43 : decode cX7_judge 43 = .ok (.ireturn, 1) := by decide +kernel
theorem dX7_judge_44 : decode cX7_judge 44 = .ok (.iload_n 2, 1) := by decide +kernel
theorem dX7_judge_45 : decode cX7_judge 45 = .ok (.ifCond .ne 6, 3) := by decide +kernel
theorem dX7_judge_48 : decode cX7_judge 48 = .ok (.bipush (-6), 2) := by decide +kernel
theorem dX7_judge_50 : decode cX7_judge 50 = .ok (.ireturn, 1) := by decide +kernel
theorem dX7_judge_51 : decode cX7_judge 51 = .ok (.iload_n 1, 1) := by decide +kernel
theorem dX7_judge_52 : decode cX7_judge 52 = .ok (.ifCond .ne 13, 3) := by decide +kernel
theorem dX7_judge_55 : decode cX7_judge 55 = .ok (.aload_n 0, 1) := by decide +kernel
theorem dX7_judge_56 : decode cX7_judge 56 = .ok (.getfield 42, 3) := by decide +kernel
theorem dX7_judge_59 : decode cX7_judge 59 = .ok (.getfield 115, 3) := by decide +kernel
theorem dX7_judge_62 : decode cX7_judge 62 = .ok (.goto 10, 3) := by decide +kernel
theorem dX7_judge_65 : decode cX7_judge 65 = .ok (.aload_n 0, 1) := by decide +kernel
theorem dX7_judge_66 : decode cX7_judge 66 = .ok (.getfield 42, 3) := by decide +kernel
theorem dX7_judge_69 : decode cX7_judge 69 = .ok (.getfield 118, 3) := by decide +kernel
theorem dX7_judge_72 : decode cX7_judge 72 = .ok (.ireturn, 1) := by decide +kernel
theorem dX7_behind_0 : decode cX7_behind 0 = .ok (.iload_n 1, 1) := by decide +kernel
theorem dX7_behind_1 : decode cX7_behind 1 = .ok (.invokestatic 73, 3) := by decide +kernel
theorem dX7_behind_4 : decode cX7_behind 4 = .ok (.ifCond .ne 5, 3) := by decide +kernel
theorem dX7_behind_7 : decode cX7_behind 7 = .ok (.iconst (-1), 1) := by decide +kernel
theorem dX7_behind_8 : decode cX7_behind 8 = .ok (.ireturn, 1) := by decide +kernel
theorem dX7_behind_9 : decode cX7_behind 9 = .ok (.iload_n 2, 1) := by decide +kernel
theorem dX7_behind_10 : decode cX7_behind 10 = .ok (.ifCond .lt 8, 3) := by decide +kernel
theorem dX7_behind_13 : decode cX7_behind 13 = .ok (.iload_n 2, 1) := by decide +kernel
theorem dX7_behind_14 : decode cX7_behind 14 = .ok (.iconst 3, 1) := by decide +kernel
theorem dX7_behind_15 : decode cX7_behind 15 = .ok (.if_icmp .le 6, 3) := by decide +kernel
theorem dX7_behind_18 : decode cX7_behind 18 = .ok (.bipush (-2), 2) := by decide +kernel
theorem dX7_behind_20 : decode cX7_behind 20 = .ok (.ireturn, 1) := by decide +kernel
theorem dX7_behind_21 : decode cX7_behind 21 = .ok (.aload_n 0, 1) := by decide +kernel
theorem dX7_behind_22 : decode cX7_behind 22 = .ok (.invokevirtual 109, 3) := by decide +kernel
theorem dX7_behind_25 : decode cX7_behind 25 = .ok (.istore_n 3, 1) := by decide +kernel
theorem dX7_behind_26 : decode cX7_behind 26 = .ok (.iload_n 3, 1) := by decide +kernel
theorem dX7_behind_27 : decode cX7_behind 27 = .ok (.ifCond .eq 5, 3) := by decide +kernel
theorem dX7_behind_30 : decode cX7_behind 30 = .ok (.iload_n 3, 1) := by decide +kernel
theorem dX7_behind_31 : decode cX7_behind 31 = .ok (.ireturn, 1) := by decide +kernel
theorem dX7_behind_32 : decode cX7_behind 32 = .ok (.aload_n 0, 1) := by decide +kernel
theorem dX7_behind_33 : decode cX7_behind 33 = .ok (.getfield 55, 3) := by decide +kernel
theorem dX7_behind_36 : decode cX7_behind 36 = .ok (.aload_n 0, 1) := by decide +kernel
theorem dX7_behind_37 : decode cX7_behind 37 = .ok (.getfield 42, 3) := by decide +kernel
theorem dX7_behind_40 : decode cX7_behind 40 = .ok (.getfield 121, 3) := by decide +kernel
theorem dX7_behind_43 : decode cX7_behind 43 = .ok (.getfield 79, 3) := by decide +kernel
theorem dX7_behind_46 : decode cX7_behind 46 = .ok (.iload_n 1, 1) := by decide +kernel
theorem dX7_behind_47 : decode cX7_behind 47 = .ok (.laload, 1) := by decide +kernel
theorem dX7_behind_48 : decode cX7_behind 48 = .ok (.aload_n 0, 1) := by decide +kernel
theorem dX7_behind_49 : decode cX7_behind 49 = .ok (.getfield 42, 3) := by decide +kernel
theorem dX7_behind_52 : decode cX7_behind 52 = .ok (.getfield 121, 3) := by decide +kernel
theorem dX7_behind_55 : decode cX7_behind 55 = .ok (.getfield 69, 3) := by decide +kernel
theorem dX7_behind_58 : decode cX7_behind 58 = .ok (.invokevirtual 124, 3) := by decide +kernel
theorem dX7_behind_61 : decode cX7_behind 61 = .ok (.iload_n 2, 1) := by decide +kernel
theorem dX7_behind_62 : decode cX7_behind 62 = .ok (.tableswitch 64 0 2 #[26, 41, 56], 26) := by decide +kernel
theorem dX7_behind_88 : decode cX7_behind 88 = .ok (.aload_n 0, 1) := by decide +kernel
theorem dX7_behind_89 : decode cX7_behind 89 = .ok (.getfield 55, 3) := by decide +kernel
theorem dX7_behind_92 : decode cX7_behind 92 = .ok (.aload_n 0, 1) := by decide +kernel
theorem dX7_behind_93 : decode cX7_behind 93 = .ok (.getfield 55, 3) := by decide +kernel
theorem dX7_behind_96 : decode cX7_behind 96 = .ok (.getfield 130, 3) := by decide +kernel
theorem dX7_behind_99 : decode cX7_behind 99 = .ok (.invokevirtual 133, 3) := by decide +kernel
theorem dX7_behind_102 : decode cX7_behind 102 = .ok (.ireturn, 1) := by decide +kernel
theorem dX7_behind_103 : decode cX7_behind 103 = .ok (.aload_n 0, 1) := by decide +kernel
theorem dX7_behind_104 : decode cX7_behind 104 = .ok (.getfield 55, 3) := by decide +kernel
theorem dX7_behind_107 : decode cX7_behind 107 = .ok (.aload_n 0, 1) := by decide +kernel
theorem dX7_behind_108 : decode cX7_behind 108 = .ok (.getfield 55, 3) := by decide +kernel
theorem dX7_behind_111 : decode cX7_behind 111 = .ok (.getfield 130, 3) := by decide +kernel
theorem dX7_behind_114 : decode cX7_behind 114 = .ok (.invokevirtual 137, 3) := by decide +kernel
theorem dX7_behind_117 : decode cX7_behind 117 = .ok (.ireturn, 1) := by decide +kernel
theorem dX7_behind_118 : decode cX7_behind 118 = .ok (.aload_n 0, 1) := by decide +kernel
theorem dX7_behind_119 : decode cX7_behind 119 = .ok (.getfield 55, 3) := by decide +kernel
theorem dX7_behind_122 : decode cX7_behind 122 = .ok (.getfield 130, 3) := by decide +kernel
theorem dX7_behind_125 : decode cX7_behind 125 = .ok (.ireturn, 1) := by decide +kernel
theorem dX7_behind_126 : decode cX7_behind 126 = .ok (.aload_n 0, 1) := by decide +kernel
theorem dX7_behind_127 : decode cX7_behind 127 = .ok (.getfield 55, 3) := by decide +kernel
theorem dX7_behind_130 : decode cX7_behind 130 = .ok (.aload_n 0, 1) := by decide +kernel
theorem dX7_behind_131 : decode cX7_behind 131 = .ok (.getfield 55, 3) := by decide +kernel
theorem dX7_behind_134 : decode cX7_behind 134 = .ok (.getfield 130, 3) := by decide +kernel
theorem dX7_behind_137 : decode cX7_behind 137 = .ok (.invokevirtual 140, 3) := by decide +kernel
theorem dX7_behind_140 : decode cX7_behind 140 = .ok (.ireturn, 1) := by decide +kernel
theorem dX7_alike_0 : decode cX7_alike 0 = .ok (.iload_n 1, 1) := by decide +kernel
theorem dX7_alike_1 : decode cX7_alike 1 = .ok (.ifCond .lt 8, 3) := by decide +kernel
theorem dX7_alike_4 : decode cX7_alike 4 = .ok (.iload_n 1, 1) := by decide +kernel
theorem dX7_alike_5 : decode cX7_alike 5 = .ok (.iconst 2, 1) := by decide +kernel
theorem dX7_alike_6 : decode cX7_alike 6 = .ok (.if_icmp .le 6, 3) := by decide +kernel
theorem dX7_alike_9 : decode cX7_alike 9 = .ok (.bipush (-2), 2) := by decide +kernel
theorem dX7_alike_11 : decode cX7_alike 11 = .ok (.ireturn, 1) := by decide +kernel
theorem dX7_alike_12 : decode cX7_alike 12 = .ok (.aload_n 0, 1) := by decide +kernel
theorem dX7_alike_13 : decode cX7_alike 13 = .ok (.invokevirtual 109, 3) := by decide +kernel
theorem dX7_alike_16 : decode cX7_alike 16 = .ok (.istore_n 2, 1) := by decide +kernel
theorem dX7_alike_17 : decode cX7_alike 17 = .ok (.iload_n 2, 1) := by decide +kernel
theorem dX7_alike_18 : decode cX7_alike 18 = .ok (.ifCond .eq 5, 3) := by decide +kernel
theorem dX7_alike_21 : decode cX7_alike 21 = .ok (.iload_n 2, 1) := by decide +kernel
theorem dX7_alike_22 : decode cX7_alike 22 = .ok (.ireturn, 1) := by decide +kernel
theorem dX7_alike_23 : decode cX7_alike 23 = .ok (.iload_n 1, 1) := by decide +kernel
theorem dX7_alike_24 : decode cX7_alike 24 = .ok (.lookupswitch 44 #[(0, 28), (1, 36)], 28) := by decide +kernel
theorem dX7_alike_52 : decode cX7_alike 52 = .ok (.aload_n 0, 1) := by decide +kernel
theorem dX7_alike_53 : decode cX7_alike 53 = .ok (.getfield 42, 3) := by decide +kernel
theorem dX7_alike_56 : decode cX7_alike 56 = .ok (.getfield 143, 3) := by decide +kernel
theorem dX7_alike_59 : decode cX7_alike 59 = .ok (.ireturn, 1) := by decide +kernel
theorem dX7_alike_60 : decode cX7_alike 60 = .ok (.aload_n 0, 1) := by decide +kernel
theorem dX7_alike_61 : decode cX7_alike 61 = .ok (.getfield 42, 3) := by decide +kernel
theorem dX7_alike_64 : decode cX7_alike 64 = .ok (.getfield 146, 3) := by decide +kernel
theorem dX7_alike_67 : decode cX7_alike 67 = .ok (.ireturn, 1) := by decide +kernel
theorem dX7_alike_68 : decode cX7_alike 68 = .ok (.aload_n 0, 1) := by decide +kernel
theorem dX7_alike_69 : decode cX7_alike 69 = .ok (.getfield 42, 3) := by decide +kernel
theorem dX7_alike_72 : decode cX7_alike 72 = .ok (.getfield 121, 3) := by decide +kernel
theorem dX7_alike_75 : decode cX7_alike 75 = .ok (.getfield 69, 3) := by decide +kernel
theorem dX7_alike_78 : decode cX7_alike 78 = .ok (.ireturn, 1) := by decide +kernel
theorem dX7_done_0 : decode cX7_done 0 = .ok (.aload_n 0, 1) := by decide +kernel
theorem dX7_done_1 : decode cX7_done 1 = .ok (.invokevirtual 109, 3) := by decide +kernel
theorem dX7_done_4 : decode cX7_done 4 = .ok (.istore_n 1, 1) := by decide +kernel
theorem dX7_done_5 : decode cX7_done 5 = .ok (.iload_n 1, 1) := by decide +kernel
theorem dX7_done_6 : decode cX7_done 6 = .ok (.ifCond .eq 5, 3) := by decide +kernel
theorem dX7_done_9 : decode cX7_done 9 = .ok (.iload_n 1, 1) := by decide +kernel
theorem dX7_done_10 : decode cX7_done 10 = .ok (.ireturn, 1) := by decide +kernel
theorem dX7_done_11 : decode cX7_done 11 = .ok (.aload_n 0, 1) := by decide +kernel
theorem dX7_done_12 : decode cX7_done 12 = .ok (.getfield 10, 3) := by decide +kernel
theorem dX7_done_15 : decode cX7_done 15 = .ok (.aload_n 0, 1) := by decide +kernel
theorem dX7_done_16 : decode cX7_done 16 = .ok (.getfield 42, 3) := by decide +kernel
theorem dX7_done_19 : decode cX7_done 19 = .ok (.getfield 121, 3) := by decide +kernel
theorem dX7_done_22 : decode cX7_done 22 = .ok (.invokevirtual 149, 3) := by decide +kernel
theorem dX7_done_25 : decode cX7_done 25 = .ok (.aload_n 0, 1) := by decide +kernel
theorem dX7_done_26 : decode cX7_done 26 = .ok (.getfield 22, 3) := by decide +kernel
theorem dX7_done_29 : decode cX7_done 29 = .ok (.invokevirtual 102, 3) := by decide +kernel
theorem dX7_done_32 : decode cX7_done 32 = .ok (.aload_n 0, 1) := by decide +kernel
theorem dX7_done_33 : decode cX7_done 33 = .ok (.getfield 42, 3) := by decide +kernel
theorem dX7_done_36 : decode cX7_done 36 = .ok (.getfield 115, 3) := by decide +kernel
theorem dX7_done_39 : decode cX7_done 39 = .ok (.ireturn, 1) := by decide +kernel
theorem dX7_tryActs_0 : decode cX7_tryActs 0 = .ok (.aload_n 0, 1) := by decide +kernel
theorem dX7_tryActs_1 : decode cX7_tryActs 1 = .ok (.getfield 22, 3) := by decide +kernel
theorem dX7_tryActs_4 : decode cX7_tryActs 4 = .ok (.invokevirtual 105, 3) := by decide +kernel
theorem dX7_tryActs_7 : decode cX7_tryActs 7 = .ok (.bipush (-6), 2) := by decide +kernel
theorem dX7_tryActs_9 : decode cX7_tryActs 9 = .ok (.if_icmp .eq 6, 3) := by decide +kernel
theorem dX7_tryActs_12 : decode cX7_tryActs 12 = .ok (.bipush (-5), 2) := by decide +kernel
theorem dX7_tryActs_14 : decode cX7_tryActs 14 = .ok (.ireturn, 1) := by decide +kernel
theorem dX7_tryActs_15 : decode cX7_tryActs 15 = .ok (.aload_n 0, 1) := by decide +kernel
theorem dX7_tryActs_16 : decode cX7_tryActs 16 = .ok (.getfield 42, 3) := by decide +kernel
theorem dX7_tryActs_19 : decode cX7_tryActs 19 = .ok (.aload_n 0, 1) := by decide +kernel
theorem dX7_tryActs_20 : decode cX7_tryActs 20 = .ok (.getfield 22, 3) := by decide +kernel
theorem dX7_tryActs_23 : decode cX7_tryActs 23 = .ok (.aload_n 0, 1) := by decide +kernel
theorem dX7_tryActs_24 : decode cX7_tryActs 24 = .ok (.getfield 10, 3) := by decide +kernel
theorem dX7_tryActs_27 : decode cX7_tryActs 27 = .ok (.invokevirtual 153, 3) := by decide +kernel
theorem dX7_tryActs_30 : decode cX7_tryActs 30 = .ok (.aload_n 0, 1) := by decide +kernel
theorem dX7_tryActs_31 : decode cX7_tryActs 31 = .ok (.getfield 42, 3) := by decide +kernel
theorem dX7_tryActs_34 : decode cX7_tryActs 34 = .ok (.getfield 118, 3) := by decide +kernel
theorem dX7_tryActs_37 : decode cX7_tryActs 37 = .ok (.ifCond .eq 8, 3) := by decide +kernel
theorem dX7_tryActs_40 : decode cX7_tryActs 40 = .ok (.bipush (-3), 2) := by decide +kernel
theorem dX7_tryActs_42 : decode cX7_tryActs 42 = .ok (.goto 4, 3) := by decide +kernel
theorem dX7_tryActs_45 : decode cX7_tryActs 45 = .ok (.iconst 0, 1) := by decide +kernel
theorem dX7_tryActs_46 : decode cX7_tryActs 46 = .ok (.ireturn, 1) := by decide +kernel
theorem dX7_node_0 : decode cX7_node 0 = .ok (.iload_n 1, 1) := by decide +kernel
theorem dX7_node_1 : decode cX7_node 1 = .ok (.invokestatic 73, 3) := by decide +kernel
theorem dX7_node_4 : decode cX7_node 4 = .ok (.ifCond .eq 10, 3) := by decide +kernel
theorem dX7_node_7 : decode cX7_node 7 = .ok (.iload_n 2, 1) := by decide +kernel
theorem dX7_node_8 : decode cX7_node 8 = .ok (.invokestatic 76, 3) := by decide +kernel
theorem dX7_node_11 : decode cX7_node 11 = .ok (.ifCond .ne 5, 3) := by decide +kernel
theorem dX7_node_14 : decode cX7_node 14 = .ok (.iconst (-1), 1) := by decide +kernel
theorem dX7_node_15 : decode cX7_node 15 = .ok (.ireturn, 1) := by decide +kernel
theorem dX7_node_16 : decode cX7_node 16 = .ok (.iload_n 3, 1) := by decide +kernel
theorem dX7_node_17 : decode cX7_node 17 = .ok (.ifCond .lt 9, 3) := by decide +kernel
theorem dX7_node_20 : decode cX7_node 20 = .ok (.iload_n 3, 1) := by decide +kernel
theorem dX7_node_21 : decode cX7_node 21 = .ok (.bipush 6, 2) := by decide +kernel
theorem dX7_node_23 : decode cX7_node 23 = .ok (.if_icmp .le 6, 3) := by decide +kernel
theorem dX7_node_26 : decode cX7_node 26 = .ok (.bipush (-2), 2) := by decide +kernel
theorem dX7_node_28 : decode cX7_node 28 = .ok (.ireturn, 1) := by decide +kernel
theorem dX7_node_29 : decode cX7_node 29 = .ok (.aload_n 0, 1) := by decide +kernel
theorem dX7_node_30 : decode cX7_node 30 = .ok (.getfield 10, 3) := by decide +kernel
theorem dX7_node_33 : decode cX7_node 33 = .ok (.getfield 79, 3) := by decide +kernel
theorem dX7_node_36 : decode cX7_node 36 = .ok (.iload_n 1, 1) := by decide +kernel
theorem dX7_node_37 : decode cX7_node 37 = .ok (.laload, 1) := by decide +kernel
theorem dX7_node_38 : decode cX7_node 38 = .ok (.iload_n 2, 1) := by decide +kernel
theorem dX7_node_39 : decode cX7_node 39 = .ok (.invokestatic 83, 3) := by decide +kernel
theorem dX7_node_42 : decode cX7_node 42 = .ok (.ifCond .ne 6, 3) := by decide +kernel
theorem dX7_node_45 : decode cX7_node 45 = .ok (.bipush (-3), 2) := by decide +kernel
theorem dX7_node_47 : decode cX7_node 47 = .ok (.ireturn, 1) := by decide +kernel
theorem dX7_node_48 : decode cX7_node 48 = .ok (.aload_n 0, 1) := by decide +kernel
theorem dX7_node_49 : decode cX7_node 49 = .ok (.getfield 55, 3) := by decide +kernel
theorem dX7_node_52 : decode cX7_node 52 = .ok (.aload_n 0, 1) := by decide +kernel
theorem dX7_node_53 : decode cX7_node 53 = .ok (.getfield 10, 3) := by decide +kernel
theorem dX7_node_56 : decode cX7_node 56 = .ok (.getfield 79, 3) := by decide +kernel
theorem dX7_node_59 : decode cX7_node 59 = .ok (.iload_n 1, 1) := by decide +kernel
theorem dX7_node_60 : decode cX7_node 60 = .ok (.laload, 1) := by decide +kernel
theorem dX7_node_61 : decode cX7_node 61 = .ok (.aload_n 0, 1) := by decide +kernel
theorem dX7_node_62 : decode cX7_node 62 = .ok (.getfield 10, 3) := by decide +kernel
theorem dX7_node_65 : decode cX7_node 65 = .ok (.getfield 69, 3) := by decide +kernel
theorem dX7_node_68 : decode cX7_node 68 = .ok (.invokevirtual 124, 3) := by decide +kernel
theorem dX7_node_71 : decode cX7_node 71 = .ok (.iload_n 3, 1) := by decide +kernel
theorem dX7_node_72 : decode cX7_node 72 = .ok (.tableswitch 97 0 5 #[40, 50, 60, 70, 79, 88], 40) := by decide +kernel
theorem dX7_node_112 : decode cX7_node 112 = .ok (.aload_n 0, 1) := by decide +kernel
theorem dX7_node_113 : decode cX7_node 113 = .ok (.getfield 55, 3) := by decide +kernel
theorem dX7_node_116 : decode cX7_node 116 = .ok (.getfield 157, 3) := by decide +kernel
theorem dX7_node_119 : decode cX7_node 119 = .ok (.iload_n 2, 1) := by decide +kernel
theorem dX7_node_120 : decode cX7_node 120 = .ok (.iaload, 1) := by decide +kernel
theorem dX7_node_121 : decode cX7_node 121 = .ok (.ireturn, 1) := by decide +kernel
theorem dX7_node_122 : decode cX7_node 122 = .ok (.aload_n 0, 1) := by decide +kernel
theorem dX7_node_123 : decode cX7_node 123 = .ok (.getfield 55, 3) := by decide +kernel
theorem dX7_node_126 : decode cX7_node 126 = .ok (.getfield 161, 3) := by decide +kernel
theorem dX7_node_129 : decode cX7_node 129 = .ok (.iload_n 2, 1) := by decide +kernel
theorem dX7_node_130 : decode cX7_node 130 = .ok (.iaload, 1) := by decide +kernel
theorem dX7_node_131 : decode cX7_node 131 = .ok (.ireturn, 1) := by decide +kernel
theorem dX7_node_132 : decode cX7_node 132 = .ok (.aload_n 0, 1) := by decide +kernel
theorem dX7_node_133 : decode cX7_node 133 = .ok (.getfield 55, 3) := by decide +kernel
theorem dX7_node_136 : decode cX7_node 136 = .ok (.getfield 164, 3) := by decide +kernel
theorem dX7_node_139 : decode cX7_node 139 = .ok (.iload_n 2, 1) := by decide +kernel
theorem dX7_node_140 : decode cX7_node 140 = .ok (.iaload, 1) := by decide +kernel
theorem dX7_node_141 : decode cX7_node 141 = .ok (.ireturn, 1) := by decide +kernel
theorem dX7_node_142 : decode cX7_node 142 = .ok (.aload_n 0, 1) := by decide +kernel
theorem dX7_node_143 : decode cX7_node 143 = .ok (.getfield 55, 3) := by decide +kernel
theorem dX7_node_146 : decode cX7_node 146 = .ok (.iload_n 2, 1) := by decide +kernel
theorem dX7_node_147 : decode cX7_node 147 = .ok (.invokevirtual 133, 3) := by decide +kernel
theorem dX7_node_150 : decode cX7_node 150 = .ok (.ireturn, 1) := by decide +kernel
theorem dX7_node_151 : decode cX7_node 151 = .ok (.aload_n 0, 1) := by decide +kernel
theorem dX7_node_152 : decode cX7_node 152 = .ok (.getfield 55, 3) := by decide +kernel
theorem dX7_node_155 : decode cX7_node 155 = .ok (.iload_n 2, 1) := by decide +kernel
theorem dX7_node_156 : decode cX7_node 156 = .ok (.invokevirtual 137, 3) := by decide +kernel
theorem dX7_node_159 : decode cX7_node 159 = .ok (.ireturn, 1) := by decide +kernel
theorem dX7_node_160 : decode cX7_node 160 = .ok (.aload_n 0, 1) := by decide +kernel
theorem dX7_node_161 : decode cX7_node 161 = .ok (.getfield 55, 3) := by decide +kernel
theorem dX7_node_164 : decode cX7_node 164 = .ok (.iload_n 2, 1) := by decide +kernel
theorem dX7_node_165 : decode cX7_node 165 = .ok (.invokevirtual 167, 3) := by decide +kernel
theorem dX7_node_168 : decode cX7_node 168 = .ok (.ireturn, 1) := by decide +kernel
theorem dX7_node_169 : decode cX7_node 169 = .ok (.aload_n 0, 1) := by decide +kernel
theorem dX7_node_170 : decode cX7_node 170 = .ok (.getfield 10, 3) := by decide +kernel
theorem dX7_node_173 : decode cX7_node 173 = .ok (.getfield 69, 3) := by decide +kernel
theorem dX7_node_176 : decode cX7_node 176 = .ok (.iload_n 2, 1) := by decide +kernel
theorem dX7_node_177 : decode cX7_node 177 = .ok (.invokestatic 170, 3) := by decide +kernel
theorem dX7_node_180 : decode cX7_node 180 = .ok (.ireturn, 1) := by decide +kernel
theorem dX7_place_0 : decode cX7_place 0 = .ok (.iload_n 1, 1) := by decide +kernel
theorem dX7_place_1 : decode cX7_place 1 = .ok (.invokestatic 73, 3) := by decide +kernel
theorem dX7_place_4 : decode cX7_place 4 = .ok (.ifCond .eq 10, 3) := by decide +kernel
theorem dX7_place_7 : decode cX7_place 7 = .ok (.iload_n 2, 1) := by decide +kernel
theorem dX7_place_8 : decode cX7_place 8 = .ok (.invokestatic 76, 3) := by decide +kernel
theorem dX7_place_11 : decode cX7_place 11 = .ok (.ifCond .ne 5, 3) := by decide +kernel
theorem dX7_place_14 : decode cX7_place 14 = .ok (.iconst (-1), 1) := by decide +kernel
theorem dX7_place_15 : decode cX7_place 15 = .ok (.ireturn, 1) := by decide +kernel
theorem dX7_place_16 : decode cX7_place 16 = .ok (.aload_n 0, 1) := by decide +kernel
theorem dX7_place_17 : decode cX7_place 17 = .ok (.getfield 10, 3) := by decide +kernel
theorem dX7_place_20 : decode cX7_place 20 = .ok (.getfield 79, 3) := by decide +kernel
theorem dX7_place_23 : decode cX7_place 23 = .ok (.iload_n 1, 1) := by decide +kernel
theorem dX7_place_24 : decode cX7_place 24 = .ok (.laload, 1) := by decide +kernel
theorem dX7_place_25 : decode cX7_place 25 = .ok (.iload_n 2, 1) := by decide +kernel
theorem dX7_place_26 : decode cX7_place 26 = .ok (.invokestatic 174, 3) := by decide +kernel
theorem dX7_place_29 : decode cX7_place 29 = .ok (.land, 1) := by decide +kernel
theorem dX7_place_30 : decode cX7_place 30 = .ok (.invokestatic 87, 3) := by decide +kernel
theorem dX7_place_33 : decode cX7_place 33 = .ok (.ireturn, 1) := by decide +kernel
theorem dX7_at_0 : decode cX7_at 0 = .ok (.iload_n 1, 1) := by decide +kernel
theorem dX7_at_1 : decode cX7_at 1 = .ok (.invokestatic 73, 3) := by decide +kernel
theorem dX7_at_4 : decode cX7_at 4 = .ok (.ifCond .eq 19, 3) := by decide +kernel
theorem dX7_at_7 : decode cX7_at 7 = .ok (.aload_n 0, 1) := by decide +kernel
theorem dX7_at_8 : decode cX7_at 8 = .ok (.getfield 10, 3) := by decide +kernel
theorem dX7_at_11 : decode cX7_at 11 = .ok (.getfield 79, 3) := by decide +kernel
theorem dX7_at_14 : decode cX7_at 14 = .ok (.iload_n 1, 1) := by decide +kernel
theorem dX7_at_15 : decode cX7_at 15 = .ok (.laload, 1) := by decide +kernel
theorem dX7_at_16 : decode cX7_at 16 = .ok (.iload_n 2, 1) := by decide +kernel
theorem dX7_at_17 : decode cX7_at 17 = .ok (.invokestatic 177, 3) := by decide +kernel
theorem dX7_at_20 : decode cX7_at 20 = .ok (.goto 4, 3) := by decide +kernel
theorem dX7_at_23 : decode cX7_at 23 = .ok (.iconst (-1), 1) := by decide +kernel
theorem dX7_at_24 : decode cX7_at 24 = .ok (.ireturn, 1) := by decide +kernel
theorem dX7_apart_0 : decode cX7_apart 0 = .ok (.iload_n 1, 1) := by decide +kernel
theorem dX7_apart_1 : decode cX7_apart 1 = .ok (.invokestatic 73, 3) := by decide +kernel
theorem dX7_apart_4 : decode cX7_apart 4 = .ok (.ifCond .eq 10, 3) := by decide +kernel
theorem dX7_apart_7 : decode cX7_apart 7 = .ok (.iload_n 2, 1) := by decide +kernel
theorem dX7_apart_8 : decode cX7_apart 8 = .ok (.invokestatic 73, 3) := by decide +kernel
theorem dX7_apart_11 : decode cX7_apart 11 = .ok (.ifCond .ne 5, 3) := by decide +kernel
theorem dX7_apart_14 : decode cX7_apart 14 = .ok (.iconst (-1), 1) := by decide +kernel
theorem dX7_apart_15 : decode cX7_apart 15 = .ok (.ireturn, 1) := by decide +kernel
theorem dX7_apart_16 : decode cX7_apart 16 = .ok (.iload_n 3, 1) := by decide +kernel
theorem dX7_apart_17 : decode cX7_apart 17 = .ok (.ifCond .lt 8, 3) := by decide +kernel
theorem dX7_apart_20 : decode cX7_apart 20 = .ok (.iload_n 3, 1) := by decide +kernel
theorem dX7_apart_21 : decode cX7_apart 21 = .ok (.iconst 2, 1) := by decide +kernel
theorem dX7_apart_22 : decode cX7_apart 22 = .ok (.if_icmp .le 6, 3) := by decide +kernel
theorem dX7_apart_25 : decode cX7_apart 25 = .ok (.bipush (-2), 2) := by decide +kernel
theorem dX7_apart_27 : decode cX7_apart 27 = .ok (.ireturn, 1) := by decide +kernel
theorem dX7_apart_28 : decode cX7_apart 28 = .ok (.aload_n 0, 1) := by decide +kernel
theorem dX7_apart_29 : decode cX7_apart 29 = .ok (.getfield 10, 3) := by decide +kernel
theorem dX7_apart_32 : decode cX7_apart 32 = .ok (.getfield 79, 3) := by decide +kernel
theorem dX7_apart_35 : decode cX7_apart 35 = .ok (.iload_n 1, 1) := by decide +kernel
theorem dX7_apart_36 : decode cX7_apart 36 = .ok (.laload, 1) := by decide +kernel
theorem dX7_apart_37 : decode cX7_apart 37 = .ok (.lstore 4, 2) := by decide +kernel
theorem dX7_apart_39 : decode cX7_apart 39 = .ok (.aload_n 0, 1) := by decide +kernel
theorem dX7_apart_40 : decode cX7_apart 40 = .ok (.getfield 10, 3) := by decide +kernel
theorem dX7_apart_43 : decode cX7_apart 43 = .ok (.getfield 79, 3) := by decide +kernel
theorem dX7_apart_46 : decode cX7_apart 46 = .ok (.iload_n 2, 1) := by decide +kernel
theorem dX7_apart_47 : decode cX7_apart 47 = .ok (.laload, 1) := by decide +kernel
theorem dX7_apart_48 : decode cX7_apart 48 = .ok (.lstore 6, 2) := by decide +kernel
theorem dX7_apart_50 : decode cX7_apart 50 = .ok (.iload_n 3, 1) := by decide +kernel
theorem dX7_apart_51 : decode cX7_apart 51 = .ok (.lookupswitch 58 #[(0, 25), (1, 34)], 25) := by decide +kernel
theorem dX7_apart_76 : decode cX7_apart 76 = .ok (.lload 4, 2) := by decide +kernel
theorem dX7_apart_78 : decode cX7_apart 78 = .ok (.lload 6, 2) := by decide +kernel
theorem dX7_apart_80 : decode cX7_apart 80 = .ok (.lxor, 1) := by decide +kernel
theorem dX7_apart_81 : decode cX7_apart 81 = .ok (.invokestatic 87, 3) := by decide +kernel
theorem dX7_apart_84 : decode cX7_apart 84 = .ok (.ireturn, 1) := by decide +kernel
theorem dX7_apart_85 : decode cX7_apart 85 = .ok (.aload_n 0, 1) := by decide +kernel
theorem dX7_apart_86 : decode cX7_apart 86 = .ok (.getfield 55, 3) := by decide +kernel
theorem dX7_apart_89 : decode cX7_apart 89 = .ok (.aload_n 0, 1) := by decide +kernel
theorem dX7_apart_90 : decode cX7_apart 90 = .ok (.getfield 61, 3) := by decide +kernel
theorem dX7_apart_93 : decode cX7_apart 93 = .ok (.lload 4, 2) := by decide +kernel
theorem dX7_apart_95 : decode cX7_apart 95 = .ok (.lload 6, 2) := by decide +kernel
theorem dX7_apart_97 : decode cX7_apart 97 = .ok (.aload_n 0, 1) := by decide +kernel
theorem dX7_apart_98 : decode cX7_apart 98 = .ok (.getfield 10, 3) := by decide +kernel
theorem dX7_apart_101 : decode cX7_apart 101 = .ok (.getfield 69, 3) := by decide +kernel
theorem dX7_apart_104 : decode cX7_apart 104 = .ok (.iconst 0, 1) := by decide +kernel
theorem dX7_apart_105 : decode cX7_apart 105 = .ok (.invokestatic 181, 3) := by decide +kernel
theorem dX7_apart_108 : decode cX7_apart 108 = .ok (.ireturn, 1) := by decide +kernel
theorem dX7_apart_109 : decode cX7_apart 109 = .ok (.aload_n 0, 1) := by decide +kernel
theorem dX7_apart_110 : decode cX7_apart 110 = .ok (.lload 4, 2) := by decide +kernel
theorem dX7_apart_112 : decode cX7_apart 112 = .ok (.lload 6, 2) := by decide +kernel
theorem dX7_apart_114 : decode cX7_apart 114 = .ok (.invokevirtual 185, 3) := by decide +kernel
theorem dX7_apart_117 : decode cX7_apart 117 = .ok (.ireturn, 1) := by decide +kernel
theorem dX7_differs_0 : decode cX7_differs 0 = .ok (.iload_n 1, 1) := by decide +kernel
theorem dX7_differs_1 : decode cX7_differs 1 = .ok (.invokestatic 73, 3) := by decide +kernel
theorem dX7_differs_4 : decode cX7_differs 4 = .ok (.ifCond .eq 10, 3) := by decide +kernel
theorem dX7_differs_7 : decode cX7_differs 7 = .ok (.iload_n 2, 1) := by decide +kernel
theorem dX7_differs_8 : decode cX7_differs 8 = .ok (.invokestatic 73, 3) := by decide +kernel
theorem dX7_differs_11 : decode cX7_differs 11 = .ok (.ifCond .ne 5, 3) := by decide +kernel
theorem dX7_differs_14 : decode cX7_differs 14 = .ok (.iconst (-1), 1) := by decide +kernel
theorem dX7_differs_15 : decode cX7_differs 15 = .ok (.ireturn, 1) := by decide +kernel
theorem dX7_differs_16 : decode cX7_differs 16 = .ok (.aload_n 0, 1) := by decide +kernel
theorem dX7_differs_17 : decode cX7_differs 17 = .ok (.getfield 10, 3) := by decide +kernel
theorem dX7_differs_20 : decode cX7_differs 20 = .ok (.getfield 79, 3) := by decide +kernel
theorem dX7_differs_23 : decode cX7_differs 23 = .ok (.iload_n 1, 1) := by decide +kernel
theorem dX7_differs_24 : decode cX7_differs 24 = .ok (.laload, 1) := by decide +kernel
theorem dX7_differs_25 : decode cX7_differs 25 = .ok (.aload_n 0, 1) := by decide +kernel
theorem dX7_differs_26 : decode cX7_differs 26 = .ok (.getfield 10, 3) := by decide +kernel
theorem dX7_differs_29 : decode cX7_differs 29 = .ok (.getfield 79, 3) := by decide +kernel
theorem dX7_differs_32 : decode cX7_differs 32 = .ok (.iload_n 2, 1) := by decide +kernel
theorem dX7_differs_33 : decode cX7_differs 33 = .ok (.laload, 1) := by decide +kernel
theorem dX7_differs_34 : decode cX7_differs 34 = .ok (.lxor, 1) := by decide +kernel
theorem dX7_differs_35 : decode cX7_differs 35 = .ok (.iload_n 3, 1) := by decide +kernel
theorem dX7_differs_36 : decode cX7_differs 36 = .ok (.invokestatic 177, 3) := by decide +kernel
theorem dX7_differs_39 : decode cX7_differs 39 = .ok (.ireturn, 1) := by decide +kernel
theorem dX7_looks_0 : decode cX7_looks 0 = .ok (.lload_n 2, 1) := by decide +kernel
theorem dX7_looks_1 : decode cX7_looks 1 = .ok (.lconst 0, 1) := by decide +kernel
theorem dX7_looks_2 : decode cX7_looks 2 = .ok (.lcmp, 1) := by decide +kernel
theorem dX7_looks_3 : decode cX7_looks 3 = .ok (.ifCond .eq 17, 3) := by decide +kernel
theorem dX7_looks_6 : decode cX7_looks 6 = .ok (.lload 4, 2) := by decide +kernel
theorem dX7_looks_8 : decode cX7_looks 8 = .ok (.lconst 0, 1) := by decide +kernel
theorem dX7_looks_9 : decode cX7_looks 9 = .ok (.lcmp, 1) := by decide +kernel
theorem dX7_looks_10 : decode cX7_looks 10 = .ok (.ifCond .eq 10, 3) := by decide +kernel
theorem dX7_looks_13 : decode cX7_looks 13 = .ok (.iload 7, 2) := by decide +kernel
theorem dX7_looks_15 : decode cX7_looks 15 = .ok (.bipush 50, 2) := by decide +kernel
theorem dX7_looks_17 : decode cX7_looks 17 = .ok (.if_icmp .le 5, 3) := by decide +kernel
theorem dX7_looks_20 : decode cX7_looks 20 = .ok (.iconst 1, 1) := by decide +kernel
theorem dX7_looks_21 : decode cX7_looks 21 = .ok (.ireturn, 1) := by decide +kernel
theorem dX7_looks_22 : decode cX7_looks 22 = .ok (.aload_n 0, 1) := by decide +kernel
theorem dX7_looks_23 : decode cX7_looks 23 = .ok (.lload_n 2, 1) := by decide +kernel
theorem dX7_looks_24 : decode cX7_looks 24 = .ok (.iload 6, 2) := by decide +kernel
theorem dX7_looks_26 : decode cX7_looks 26 = .ok (.invokevirtual 124, 3) := by decide +kernel
theorem dX7_looks_29 : decode cX7_looks 29 = .ok (.aload_n 1, 1) := by decide +kernel
theorem dX7_looks_30 : decode cX7_looks 30 = .ok (.lload 4, 2) := by decide +kernel
theorem dX7_looks_32 : decode cX7_looks 32 = .ok (.iload 6, 2) := by decide +kernel
theorem dX7_looks_34 : decode cX7_looks 34 = .ok (.invokevirtual 124, 3) := by decide +kernel
theorem dX7_looks_37 : decode cX7_looks 37 = .ok (.aload_n 0, 1) := by decide +kernel
theorem dX7_looks_38 : decode cX7_looks 38 = .ok (.getfield 130, 3) := by decide +kernel
theorem dX7_looks_41 : decode cX7_looks 41 = .ok (.istore 8, 2) := by decide +kernel
theorem dX7_looks_43 : decode cX7_looks 43 = .ok (.aload_n 1, 1) := by decide +kernel
theorem dX7_looks_44 : decode cX7_looks 44 = .ok (.getfield 130, 3) := by decide +kernel
theorem dX7_looks_47 : decode cX7_looks 47 = .ok (.istore 9, 2) := by decide +kernel
theorem dX7_looks_49 : decode cX7_looks 49 = .ok (.aload_n 0, 1) := by decide +kernel
theorem dX7_looks_50 : decode cX7_looks 50 = .ok (.iload 8, 2) := by decide +kernel
theorem dX7_looks_52 : decode cX7_looks 52 = .ok (.invokevirtual 137, 3) := by decide +kernel
theorem dX7_looks_55 : decode cX7_looks 55 = .ok (.aload_n 1, 1) := by decide +kernel
theorem dX7_looks_56 : decode cX7_looks 56 = .ok (.iload 9, 2) := by decide +kernel
theorem dX7_looks_58 : decode cX7_looks 58 = .ok (.invokevirtual 137, 3) := by decide +kernel
theorem dX7_looks_61 : decode cX7_looks 61 = .ok (.if_icmp .ne 5, 3) := by decide +kernel
theorem dX7_looks_64 : decode cX7_looks 64 = .ok (.iconst 1, 1) := by decide +kernel
theorem dX7_looks_65 : decode cX7_looks 65 = .ok (.ireturn, 1) := by decide +kernel
theorem dX7_looks_66 : decode cX7_looks 66 = .ok (.iload 6, 2) := by decide +kernel
theorem dX7_looks_68 : decode cX7_looks 68 = .ok (.iload 9, 2) := by decide +kernel
theorem dX7_looks_70 : decode cX7_looks 70 = .ok (.iload 8, 2) := by decide +kernel
theorem dX7_looks_72 : decode cX7_looks 72 = .ok (.invokestatic 189, 3) := by decide +kernel
theorem dX7_looks_75 : decode cX7_looks 75 = .ok (.ifCond .eq 8, 3) := by decide +kernel
theorem dX7_looks_78 : decode cX7_looks 78 = .ok (.iload 9, 2) := by decide +kernel
theorem dX7_looks_80 : decode cX7_looks 80 = .ok (.goto 5, 3) := by decide +kernel
theorem dX7_looks_83 : decode cX7_looks 83 = .ok (.iload 8, 2) := by decide +kernel
theorem dX7_looks_85 : decode cX7_looks 85 = .ok (.istore 10, 2) := by decide +kernel
theorem dX7_looks_87 : decode cX7_looks 87 = .ok (.iload 10, 2) := by decide +kernel
theorem dX7_looks_89 : decode cX7_looks 89 = .ok (.invokestatic 174, 3) := by decide +kernel
theorem dX7_looks_92 : decode cX7_looks 92 = .ok (.lstore 11, 2) := by decide +kernel
theorem dX7_looks_94 : decode cX7_looks 94 = .ok (.lload 11, 2) := by decide +kernel
theorem dX7_looks_96 : decode cX7_looks 96 = .ok (.iload 10, 2) := by decide +kernel
theorem dX7_looks_98 : decode cX7_looks 98 = .ok (.invokestatic 91, 3) := by decide +kernel
theorem dX7_looks_101 : decode cX7_looks 101 = .ok (.lor, 1) := by decide +kernel
theorem dX7_looks_102 : decode cX7_looks 102 = .ok (.ldc2_w 95, 3) := by decide +kernel
theorem dX7_looks_105 : decode cX7_looks 105 = .ok (.lxor, 1) := by decide +kernel
theorem dX7_looks_106 : decode cX7_looks 106 = .ok (.lstore 13, 2) := by decide +kernel
theorem dX7_looks_108 : decode cX7_looks 108 = .ok (.iconst 1, 1) := by decide +kernel
theorem dX7_looks_109 : decode cX7_looks 109 = .ok (.aload_n 0, 1) := by decide +kernel
theorem dX7_looks_110 : decode cX7_looks 110 = .ok (.aload_n 1, 1) := by decide +kernel
theorem dX7_looks_111 : decode cX7_looks 111 = .ok (.lload_n 2, 1) := by decide +kernel
theorem dX7_looks_112 : decode cX7_looks 112 = .ok (.lload 11, 2) := by decide +kernel
theorem dX7_looks_114 : decode cX7_looks 114 = .ok (.land, 1) := by decide +kernel
theorem dX7_looks_115 : decode cX7_looks 115 = .ok (.lload 4, 2) := by decide +kernel
theorem dX7_looks_117 : decode cX7_looks 117 = .ok (.lload 11, 2) := by decide +kernel
theorem dX7_looks_119 : decode cX7_looks 119 = .ok (.land, 1) := by decide +kernel
theorem dX7_looks_120 : decode cX7_looks 120 = .ok (.iload 6, 2) := by decide +kernel
theorem dX7_looks_122 : decode cX7_looks 122 = .ok (.iload 7, 2) := by decide +kernel
theorem dX7_looks_124 : decode cX7_looks 124 = .ok (.iconst 1, 1) := by decide +kernel
theorem dX7_looks_125 : decode cX7_looks 125 = .ok (.iadd, 1) := by decide +kernel
theorem dX7_looks_126 : decode cX7_looks 126 = .ok (.invokestatic 181, 3) := by decide +kernel
theorem dX7_looks_129 : decode cX7_looks 129 = .ok (.iadd, 1) := by decide +kernel
theorem dX7_looks_130 : decode cX7_looks 130 = .ok (.aload_n 0, 1) := by decide +kernel
theorem dX7_looks_131 : decode cX7_looks 131 = .ok (.aload_n 1, 1) := by decide +kernel
theorem dX7_looks_132 : decode cX7_looks 132 = .ok (.lload_n 2, 1) := by decide +kernel
theorem dX7_looks_133 : decode cX7_looks 133 = .ok (.lload 13, 2) := by decide +kernel
theorem dX7_looks_135 : decode cX7_looks 135 = .ok (.land, 1) := by decide +kernel
theorem dX7_looks_136 : decode cX7_looks 136 = .ok (.lload 4, 2) := by decide +kernel
theorem dX7_looks_138 : decode cX7_looks 138 = .ok (.lload 13, 2) := by decide +kernel
theorem dX7_looks_140 : decode cX7_looks 140 = .ok (.land, 1) := by decide +kernel
theorem dX7_looks_141 : decode cX7_looks 141 = .ok (.iload 6, 2) := by decide +kernel
theorem dX7_looks_143 : decode cX7_looks 143 = .ok (.iload 7, 2) := by decide +kernel
theorem dX7_looks_145 : decode cX7_looks 145 = .ok (.iconst 1, 1) := by decide +kernel
theorem dX7_looks_146 : decode cX7_looks 146 = .ok (.iadd, 1) := by decide +kernel
theorem dX7_looks_147 : decode cX7_looks 147 = .ok (.invokestatic 181, 3) := by decide +kernel
theorem dX7_looks_150 : decode cX7_looks 150 = .ok (.iadd, 1) := by decide +kernel
theorem dX7_looks_151 : decode cX7_looks 151 = .ok (.ireturn, 1) := by decide +kernel
theorem dX7_shared_0 : decode cX7_shared 0 = .ok (.aload_n 0, 1) := by decide +kernel
theorem dX7_shared_1 : decode cX7_shared 1 = .ok (.getfield 55, 3) := by decide +kernel
theorem dX7_shared_4 : decode cX7_shared 4 = .ok (.lload_n 1, 1) := by decide +kernel
theorem dX7_shared_5 : decode cX7_shared 5 = .ok (.aload_n 0, 1) := by decide +kernel
theorem dX7_shared_6 : decode cX7_shared 6 = .ok (.getfield 10, 3) := by decide +kernel
theorem dX7_shared_9 : decode cX7_shared 9 = .ok (.getfield 69, 3) := by decide +kernel
theorem dX7_shared_12 : decode cX7_shared 12 = .ok (.invokevirtual 124, 3) := by decide +kernel
theorem dX7_shared_15 : decode cX7_shared 15 = .ok (.aload_n 0, 1) := by decide +kernel
theorem dX7_shared_16 : decode cX7_shared 16 = .ok (.getfield 61, 3) := by decide +kernel
theorem dX7_shared_19 : decode cX7_shared 19 = .ok (.lload_n 3, 1) := by decide +kernel
theorem dX7_shared_20 : decode cX7_shared 20 = .ok (.aload_n 0, 1) := by decide +kernel
theorem dX7_shared_21 : decode cX7_shared 21 = .ok (.getfield 10, 3) := by decide +kernel
theorem dX7_shared_24 : decode cX7_shared 24 = .ok (.getfield 69, 3) := by decide +kernel
theorem dX7_shared_27 : decode cX7_shared 27 = .ok (.invokevirtual 124, 3) := by decide +kernel
theorem dX7_shared_30 : decode cX7_shared 30 = .ok (.iconst 0, 1) := by decide +kernel
theorem dX7_shared_31 : decode cX7_shared 31 = .ok (.istore 5, 2) := by decide +kernel
theorem dX7_shared_33 : decode cX7_shared 33 = .ok (.iconst 0, 1) := by decide +kernel
theorem dX7_shared_34 : decode cX7_shared 34 = .ok (.istore 6, 2) := by decide +kernel
theorem dX7_shared_36 : decode cX7_shared 36 = .ok (.iload 6, 2) := by decide +kernel
theorem dX7_shared_38 : decode cX7_shared 38 = .ok (.bipush 50, 2) := by decide +kernel
theorem dX7_shared_40 : decode cX7_shared 40 = .ok (.if_icmp .ge 47, 3) := by decide +kernel
theorem dX7_shared_43 : decode cX7_shared 43 = .ok (.lload_n 1, 1) := by decide +kernel
theorem dX7_shared_44 : decode cX7_shared 44 = .ok (.lload_n 3, 1) := by decide +kernel
theorem dX7_shared_45 : decode cX7_shared 45 = .ok (.land, 1) := by decide +kernel
theorem dX7_shared_46 : decode cX7_shared 46 = .ok (.iload 6, 2) := by decide +kernel
theorem dX7_shared_48 : decode cX7_shared 48 = .ok (.invokestatic 83, 3) := by decide +kernel
theorem dX7_shared_51 : decode cX7_shared 51 = .ok (.ifCond .eq 30, 3) := by decide +kernel
theorem dX7_shared_54 : decode cX7_shared 54 = .ok (.aload_n 0, 1) := by decide +kernel
theorem dX7_shared_55 : decode cX7_shared 55 = .ok (.getfield 55, 3) := by decide +kernel
theorem dX7_shared_58 : decode cX7_shared 58 = .ok (.getfield 193, 3) := by decide +kernel
theorem dX7_shared_61 : decode cX7_shared 61 = .ok (.iload 6, 2) := by decide +kernel
theorem dX7_shared_63 : decode cX7_shared 63 = .ok (.laload, 1) := by decide +kernel
theorem dX7_shared_64 : decode cX7_shared 64 = .ok (.aload_n 0, 1) := by decide +kernel
theorem dX7_shared_65 : decode cX7_shared 65 = .ok (.getfield 61, 3) := by decide +kernel
theorem dX7_shared_68 : decode cX7_shared 68 = .ok (.getfield 193, 3) := by decide +kernel
theorem dX7_shared_71 : decode cX7_shared 71 = .ok (.iload 6, 2) := by decide +kernel
theorem dX7_shared_73 : decode cX7_shared 73 = .ok (.laload, 1) := by decide +kernel
theorem dX7_shared_74 : decode cX7_shared 74 = .ok (.lcmp, 1) := by decide +kernel
theorem dX7_shared_75 : decode cX7_shared 75 = .ok (.ifCond .ne 6, 3) := by decide +kernel
theorem dX7_shared_78 : decode cX7_shared 78 = .ok (.iinc 5 1, 3) := by decide +kernel
theorem dX7_shared_81 : decode cX7_shared 81 = .ok (.iinc 6 1, 3) := by decide +kernel
theorem dX7_shared_84 : decode cX7_shared 84 = .ok (.goto (-48), 3) := by decide +kernel
theorem dX7_shared_87 : decode cX7_shared 87 = .ok (.iload 5, 2) := by decide +kernel
theorem dX7_shared_89 : decode cX7_shared 89 = .ok (.ireturn, 1) := by decide +kernel
theorem dX7_above_0 : decode cX7_above 0 = .ok (.iload_n 1, 1) := by decide +kernel
theorem dX7_above_1 : decode cX7_above 1 = .ok (.invokestatic 76, 3) := by decide +kernel
theorem dX7_above_4 : decode cX7_above 4 = .ok (.ifCond .eq 10, 3) := by decide +kernel
theorem dX7_above_7 : decode cX7_above 7 = .ok (.iload_n 2, 1) := by decide +kernel
theorem dX7_above_8 : decode cX7_above 8 = .ok (.invokestatic 76, 3) := by decide +kernel
theorem dX7_above_11 : decode cX7_above 11 = .ok (.ifCond .ne 5, 3) := by decide +kernel
theorem dX7_above_14 : decode cX7_above 14 = .ok (.iconst (-1), 1) := by decide +kernel
theorem dX7_above_15 : decode cX7_above 15 = .ok (.ireturn, 1) := by decide +kernel
theorem dX7_above_16 : decode cX7_above 16 = .ok (.iload_n 1, 1) := by decide +kernel
theorem dX7_above_17 : decode cX7_above 17 = .ok (.iload_n 2, 1) := by decide +kernel
theorem dX7_above_18 : decode cX7_above 18 = .ok (.if_icmp .ne 6, 3) := by decide +kernel
theorem dX7_above_21 : decode cX7_above 21 = .ok (.bipush (-2), 2) := by decide +kernel
theorem dX7_above_23 : decode cX7_above 23 = .ok (.ireturn, 1) := by decide +kernel
theorem dX7_above_24 : decode cX7_above 24 = .ok (.aload_n 0, 1) := by decide +kernel
theorem dX7_above_25 : decode cX7_above 25 = .ok (.getfield 29, 3) := by decide +kernel
theorem dX7_above_28 : decode cX7_above 28 = .ok (.iload_n 1, 1) := by decide +kernel
theorem dX7_above_29 : decode cX7_above 29 = .ok (.iload_n 2, 1) := by decide +kernel
theorem dX7_above_30 : decode cX7_above 30 = .ok (.invokevirtual 196, 3) := by decide +kernel
theorem dX7_above_33 : decode cX7_above 33 = .ok (.ifCond .eq 13, 3) := by decide +kernel
theorem dX7_above_36 : decode cX7_above 36 = .ok (.aload_n 0, 1) := by decide +kernel
theorem dX7_above_37 : decode cX7_above 37 = .ok (.getfield 29, 3) := by decide +kernel
theorem dX7_above_40 : decode cX7_above 40 = .ok (.getfield 200, 3) := by decide +kernel
theorem dX7_above_43 : decode cX7_above 43 = .ok (.goto 5, 3) := by decide +kernel
theorem dX7_above_46 : decode cX7_above 46 = .ok (.bipush (-4), 2) := by decide +kernel
theorem dX7_above_48 : decode cX7_above 48 = .ok (.ireturn, 1) := by decide +kernel
theorem dX7_forget_0 : decode cX7_forget 0 = .ok (.aload_n 0, 1) := by decide +kernel
theorem dX7_forget_1 : decode cX7_forget 1 = .ok (.getfield 29, 3) := by decide +kernel
theorem dX7_forget_4 : decode cX7_forget 4 = .ok (.getfield 200, 3) := by decide +kernel
theorem dX7_forget_7 : decode cX7_forget 7 = .ok (.istore_n 1, 1) := by decide +kernel
theorem dX7_forget_8 : decode cX7_forget 8 = .ok (.aload_n 0, 1) := by decide +kernel
theorem dX7_forget_9 : decode cX7_forget 9 = .ok (.getfield 29, 3) := by decide +kernel
theorem dX7_forget_12 : decode cX7_forget 12 = .ok (.invokevirtual 201, 3) := by decide +kernel
theorem dX7_forget_15 : decode cX7_forget 15 = .ok (.iload_n 1, 1) := by decide +kernel
theorem dX7_forget_16 : decode cX7_forget 16 = .ok (.ireturn, 1) := by decide +kernel
theorem dX7_seeds_0 : decode cX7_seeds 0 = .ok (.iload_n 1, 1) := by decide +kernel
theorem dX7_seeds_1 : decode cX7_seeds 1 = .ok (.iconst (-1), 1) := by decide +kernel
theorem dX7_seeds_2 : decode cX7_seeds 2 = .ok (.if_icmp .ne 13, 3) := by decide +kernel
theorem dX7_seeds_5 : decode cX7_seeds 5 = .ok (.aload_n 0, 1) := by decide +kernel
theorem dX7_seeds_6 : decode cX7_seeds 6 = .ok (.getfield 29, 3) := by decide +kernel
theorem dX7_seeds_9 : decode cX7_seeds 9 = .ok (.invokevirtual 202, 3) := by decide +kernel
theorem dX7_seeds_12 : decode cX7_seeds 12 = .ok (.goto 11, 3) := by decide +kernel
theorem dX7_seeds_15 : decode cX7_seeds 15 = .ok (.aload_n 0, 1) := by decide +kernel
theorem dX7_seeds_16 : decode cX7_seeds 16 = .ok (.getfield 29, 3) := by decide +kernel
theorem dX7_seeds_19 : decode cX7_seeds 19 = .ok (.iload_n 1, 1) := by decide +kernel
theorem dX7_seeds_20 : decode cX7_seeds 20 = .ok (.invokevirtual 205, 3) := by decide +kernel
theorem dX7_seeds_23 : decode cX7_seeds 23 = .ok (.ireturn, 1) := by decide +kernel
theorem dX7_orders_0 : decode cX7_orders 0 = .ok (.iload_n 1, 1) := by decide +kernel
theorem dX7_orders_1 : decode cX7_orders 1 = .ok (.invokestatic 73, 3) := by decide +kernel
theorem dX7_orders_4 : decode cX7_orders 4 = .ok (.ifCond .ne 7, 3) := by decide +kernel
theorem dX7_orders_7 : decode cX7_orders 7 = .ok (.ldc2_w 95, 3) := by decide +kernel
theorem dX7_orders_10 : decode cX7_orders 10 = .ok (.lreturn, 1) := by decide +kernel
theorem dX7_orders_11 : decode cX7_orders 11 = .ok (.aload_n 0, 1) := by decide +kernel
theorem dX7_orders_12 : decode cX7_orders 12 = .ok (.getfield 10, 3) := by decide +kernel
theorem dX7_orders_15 : decode cX7_orders 15 = .ok (.getfield 79, 3) := by decide +kernel
theorem dX7_orders_18 : decode cX7_orders 18 = .ok (.iload_n 1, 1) := by decide +kernel
theorem dX7_orders_19 : decode cX7_orders 19 = .ok (.laload, 1) := by decide +kernel
theorem dX7_orders_20 : decode cX7_orders 20 = .ok (.invokestatic 87, 3) := by decide +kernel
theorem dX7_orders_23 : decode cX7_orders 23 = .ok (.istore_n 2, 1) := by decide +kernel
theorem dX7_orders_24 : decode cX7_orders 24 = .ok (.iload_n 2, 1) := by decide +kernel
theorem dX7_orders_25 : decode cX7_orders 25 = .ok (.bipush 20, 2) := by decide +kernel
theorem dX7_orders_27 : decode cX7_orders 27 = .ok (.if_icmp .le 7, 3) := by decide +kernel
theorem dX7_orders_30 : decode cX7_orders 30 = .ok (.ldc2_w 208, 3) := by decide +kernel
theorem dX7_orders_33 : decode cX7_orders 33 = .ok (.lreturn, 1) := by decide +kernel
theorem dX7_orders_34 : decode cX7_orders 34 = .ok (.lconst 1, 1) := by decide +kernel
theorem dX7_orders_35 : decode cX7_orders 35 = .ok (.lstore_n 3, 1) := by decide +kernel
theorem dX7_orders_36 : decode cX7_orders 36 = .ok (.iconst 2, 1) := by decide +kernel
theorem dX7_orders_37 : decode cX7_orders 37 = .ok (.istore 5, 2) := by decide +kernel
theorem dX7_orders_39 : decode cX7_orders 39 = .ok (.iload 5, 2) := by decide +kernel
theorem dX7_orders_41 : decode cX7_orders 41 = .ok (.iload_n 2, 1) := by decide +kernel
theorem dX7_orders_42 : decode cX7_orders 42 = .ok (.if_icmp .gt 15, 3) := by decide +kernel
theorem dX7_orders_45 : decode cX7_orders 45 = .ok (.lload_n 3, 1) := by decide +kernel
theorem dX7_orders_46 : decode cX7_orders 46 = .ok (.iload 5, 2) := by decide +kernel
theorem dX7_orders_48 : decode cX7_orders 48 = .ok (.i2l, 1) := by decide +kernel
theorem dX7_orders_49 : decode cX7_orders 49 = .ok (.lmul, 1) := by decide +kernel
theorem dX7_orders_50 : decode cX7_orders 50 = .ok (.lstore_n 3, 1) := by decide +kernel
theorem dX7_orders_51 : decode cX7_orders 51 = .ok (.iinc 5 1, 3) := by decide +kernel
theorem dX7_orders_54 : decode cX7_orders 54 = .ok (.goto (-15), 3) := by decide +kernel
theorem dX7_orders_57 : decode cX7_orders 57 = .ok (.aload_n 0, 1) := by decide +kernel
theorem dX7_orders_58 : decode cX7_orders 58 = .ok (.getfield 55, 3) := by decide +kernel
theorem dX7_orders_61 : decode cX7_orders 61 = .ok (.aload_n 0, 1) := by decide +kernel
theorem dX7_orders_62 : decode cX7_orders 62 = .ok (.getfield 10, 3) := by decide +kernel
theorem dX7_orders_65 : decode cX7_orders 65 = .ok (.getfield 79, 3) := by decide +kernel
theorem dX7_orders_68 : decode cX7_orders 68 = .ok (.iload_n 1, 1) := by decide +kernel
theorem dX7_orders_69 : decode cX7_orders 69 = .ok (.laload, 1) := by decide +kernel
theorem dX7_orders_70 : decode cX7_orders 70 = .ok (.aload_n 0, 1) := by decide +kernel
theorem dX7_orders_71 : decode cX7_orders 71 = .ok (.getfield 10, 3) := by decide +kernel
theorem dX7_orders_74 : decode cX7_orders 74 = .ok (.getfield 69, 3) := by decide +kernel
theorem dX7_orders_77 : decode cX7_orders 77 = .ok (.invokevirtual 124, 3) := by decide +kernel
theorem dX7_orders_80 : decode cX7_orders 80 = .ok (.iconst 0, 1) := by decide +kernel
theorem dX7_orders_81 : decode cX7_orders 81 = .ok (.istore 5, 2) := by decide +kernel
theorem dX7_orders_83 : decode cX7_orders 83 = .ok (.iload 5, 2) := by decide +kernel
theorem dX7_orders_85 : decode cX7_orders 85 = .ok (.bipush 50, 2) := by decide +kernel
theorem dX7_orders_87 : decode cX7_orders 87 = .ok (.if_icmp .ge 36, 3) := by decide +kernel
theorem dX7_orders_90 : decode cX7_orders 90 = .ok (.aload_n 0, 1) := by decide +kernel
theorem dX7_orders_91 : decode cX7_orders 91 = .ok (.getfield 55, 3) := by decide +kernel
theorem dX7_orders_94 : decode cX7_orders 94 = .ok (.getfield 193, 3) := by decide +kernel
theorem dX7_orders_97 : decode cX7_orders 97 = .ok (.iload 5, 2) := by decide +kernel
theorem dX7_orders_99 : decode cX7_orders 99 = .ok (.laload, 1) := by decide +kernel
theorem dX7_orders_100 : decode cX7_orders 100 = .ok (.invokestatic 87, 3) := by decide +kernel
theorem dX7_orders_103 : decode cX7_orders 103 = .ok (.istore 6, 2) := by decide +kernel
theorem dX7_orders_105 : decode cX7_orders 105 = .ok (.iload 6, 2) := by decide +kernel
theorem dX7_orders_107 : decode cX7_orders 107 = .ok (.iconst 1, 1) := by decide +kernel
theorem dX7_orders_108 : decode cX7_orders 108 = .ok (.if_icmp .le 9, 3) := by decide +kernel
theorem dX7_orders_111 : decode cX7_orders 111 = .ok (.lload_n 3, 1) := by decide +kernel
theorem dX7_orders_112 : decode cX7_orders 112 = .ok (.iload 6, 2) := by decide +kernel
theorem dX7_orders_114 : decode cX7_orders 114 = .ok (.i2l, 1) := by decide +kernel
theorem dX7_orders_115 : decode cX7_orders 115 = .ok (.ldiv, 1) := by decide +kernel
theorem dX7_orders_116 : decode cX7_orders 116 = .ok (.lstore_n 3, 1) := by decide +kernel
theorem dX7_orders_117 : decode cX7_orders 117 = .ok (.iinc 5 1, 3) := by decide +kernel
theorem dX7_orders_120 : decode cX7_orders 120 = .ok (.goto (-37), 3) := by decide +kernel
theorem dX7_orders_123 : decode cX7_orders 123 = .ok (.lload_n 3, 1) := by decide +kernel
theorem dX7_orders_124 : decode cX7_orders 124 = .ok (.lreturn, 1) := by decide +kernel
theorem dX7_shapes_0 : decode cX7_shapes 0 = .ok (.iload_n 1, 1) := by decide +kernel
theorem dX7_shapes_1 : decode cX7_shapes 1 = .ok (.ifCond .lt 9, 3) := by decide +kernel
theorem dX7_shapes_4 : decode cX7_shapes 4 = .ok (.iload_n 1, 1) := by decide +kernel
theorem dX7_shapes_5 : decode cX7_shapes 5 = .ok (.bipush 30, 2) := by decide +kernel
theorem dX7_shapes_7 : decode cX7_shapes 7 = .ok (.if_icmp .le 7, 3) := by decide +kernel
theorem dX7_shapes_10 : decode cX7_shapes 10 = .ok (.ldc2_w 210, 3) := by decide +kernel
theorem dX7_shapes_13 : decode cX7_shapes 13 = .ok (.lreturn, 1) := by decide +kernel
theorem dX7_shapes_14 : decode cX7_shapes 14 = .ok (.lconst 1, 1) := by decide +kernel
theorem dX7_shapes_15 : decode cX7_shapes 15 = .ok (.lstore_n 2, 1) := by decide +kernel
theorem dX7_shapes_16 : decode cX7_shapes 16 = .ok (.iconst 1, 1) := by decide +kernel
theorem dX7_shapes_17 : decode cX7_shapes 17 = .ok (.istore 4, 2) := by decide +kernel
theorem dX7_shapes_19 : decode cX7_shapes 19 = .ok (.iload 4, 2) := by decide +kernel
theorem dX7_shapes_21 : decode cX7_shapes 21 = .ok (.iload_n 1, 1) := by decide +kernel
theorem dX7_shapes_22 : decode cX7_shapes 22 = .ok (.if_icmp .gt 25, 3) := by decide +kernel
theorem dX7_shapes_25 : decode cX7_shapes 25 = .ok (.lload_n 2, 1) := by decide +kernel
theorem dX7_shapes_26 : decode cX7_shapes 26 = .ok (.iconst 4, 1) := by decide +kernel
theorem dX7_shapes_27 : decode cX7_shapes 27 = .ok (.iload 4, 2) := by decide +kernel
theorem dX7_shapes_29 : decode cX7_shapes 29 = .ok (.imul, 1) := by decide +kernel
theorem dX7_shapes_30 : decode cX7_shapes 30 = .ok (.iconst 2, 1) := by decide +kernel
theorem dX7_shapes_31 : decode cX7_shapes 31 = .ok (.isub, 1) := by decide +kernel
theorem dX7_shapes_32 : decode cX7_shapes 32 = .ok (.i2l, 1) := by decide +kernel
theorem dX7_shapes_33 : decode cX7_shapes 33 = .ok (.lmul, 1) := by decide +kernel
theorem dX7_shapes_34 : decode cX7_shapes 34 = .ok (.iload 4, 2) := by decide +kernel
theorem dX7_shapes_36 : decode cX7_shapes 36 = .ok (.iconst 1, 1) := by decide +kernel
theorem dX7_shapes_37 : decode cX7_shapes 37 = .ok (.iadd, 1) := by decide +kernel
theorem dX7_shapes_38 : decode cX7_shapes 38 = .ok (.i2l, 1) := by decide +kernel
theorem dX7_shapes_39 : decode cX7_shapes 39 = .ok (.ldiv, 1) := by decide +kernel
theorem dX7_shapes_40 : decode cX7_shapes 40 = .ok (.lstore_n 2, 1) := by decide +kernel
theorem dX7_shapes_41 : decode cX7_shapes 41 = .ok (.iinc 4 1, 3) := by decide +kernel
theorem dX7_shapes_44 : decode cX7_shapes 44 = .ok (.goto (-25), 3) := by decide +kernel
theorem dX7_shapes_47 : decode cX7_shapes 47 = .ok (.lload_n 2, 1) := by decide +kernel
theorem dX7_shapes_48 : decode cX7_shapes 48 = .ok (.lreturn, 1) := by decide +kernel
theorem dX7_deep_0 : decode cX7_deep 0 = .ok (.iload_n 1, 1) := by decide +kernel
theorem dX7_deep_1 : decode cX7_deep 1 = .ok (.iconst 1, 1) := by decide +kernel
theorem dX7_deep_2 : decode cX7_deep 2 = .ok (.if_icmp .lt 27, 3) := by decide +kernel
theorem dX7_deep_5 : decode cX7_deep 5 = .ok (.iload_n 1, 1) := by decide +kernel
theorem dX7_deep_6 : decode cX7_deep 6 = .ok (.bipush 20, 2) := by decide +kernel
theorem dX7_deep_8 : decode cX7_deep 8 = .ok (.if_icmp .gt 21, 3) := by decide +kernel
theorem dX7_deep_11 : decode cX7_deep 11 = .ok (.iload_n 2, 1) := by decide +kernel
theorem dX7_deep_12 : decode cX7_deep 12 = .ok (.ifCond .lt 17, 3) := by decide +kernel
theorem dX7_deep_15 : decode cX7_deep 15 = .ok (.iload_n 2, 1) := by decide +kernel
theorem dX7_deep_16 : decode cX7_deep 16 = .ok (.iload_n 1, 1) := by decide +kernel
theorem dX7_deep_17 : decode cX7_deep 17 = .ok (.if_icmp .ge 12, 3) := by decide +kernel
theorem dX7_deep_20 : decode cX7_deep 20 = .ok (.iload_n 3, 1) := by decide +kernel
theorem dX7_deep_21 : decode cX7_deep 21 = .ok (.ifCond .lt 8, 3) := by decide +kernel
theorem dX7_deep_24 : decode cX7_deep 24 = .ok (.iload_n 3, 1) := by decide +kernel
theorem dX7_deep_25 : decode cX7_deep 25 = .ok (.iconst 1, 1) := by decide +kernel
theorem dX7_deep_26 : decode cX7_deep 26 = .ok (.if_icmp .le 7, 3) := by decide +kernel
theorem dX7_deep_29 : decode cX7_deep 29 = .ok (.ldc2_w 212, 3) := by decide +kernel
theorem dX7_deep_32 : decode cX7_deep 32 = .ok (.lreturn, 1) := by decide +kernel
theorem dX7_deep_33 : decode cX7_deep 33 = .ok (.lconst 0, 1) := by decide +kernel
theorem dX7_deep_34 : decode cX7_deep 34 = .ok (.lstore 4, 2) := by decide +kernel
theorem dX7_deep_36 : decode cX7_deep 36 = .ok (.iconst 0, 1) := by decide +kernel
theorem dX7_deep_37 : decode cX7_deep 37 = .ok (.istore 6, 2) := by decide +kernel
theorem dX7_deep_39 : decode cX7_deep 39 = .ok (.iload 6, 2) := by decide +kernel
theorem dX7_deep_41 : decode cX7_deep 41 = .ok (.iload_n 1, 1) := by decide +kernel
theorem dX7_deep_42 : decode cX7_deep 42 = .ok (.if_icmp .ge 34, 3) := by decide +kernel
theorem dX7_deep_45 : decode cX7_deep 45 = .ok (.iload 6, 2) := by decide +kernel
theorem dX7_deep_47 : decode cX7_deep 47 = .ok (.iload_n 2, 1) := by decide +kernel
theorem dX7_deep_48 : decode cX7_deep 48 = .ok (.if_icmp .eq 22, 3) := by decide +kernel
theorem dX7_deep_51 : decode cX7_deep 51 = .ok (.lload 4, 2) := by decide +kernel
theorem dX7_deep_53 : decode cX7_deep 53 = .ok (.ldc2_w 214, 3) := by decide +kernel
theorem dX7_deep_56 : decode cX7_deep 56 = .ok (.iload 6, 2) := by decide +kernel
theorem dX7_deep_58 : decode cX7_deep 58 = .ok (.iload_n 2, 1) := by decide +kernel
theorem dX7_deep_59 : decode cX7_deep 59 = .ok (.isub, 1) := by decide +kernel
theorem dX7_deep_60 : decode cX7_deep 60 = .ok (.invokestatic 216, 3) := by decide +kernel
theorem dX7_deep_63 : decode cX7_deep 63 = .ok (.iconst 1, 1) := by decide +kernel
theorem dX7_deep_64 : decode cX7_deep 64 = .ok (.iadd, 1) := by decide +kernel
theorem dX7_deep_65 : decode cX7_deep 65 = .ok (.i2l, 1) := by decide +kernel
theorem dX7_deep_66 : decode cX7_deep 66 = .ok (.ldiv, 1) := by decide +kernel
theorem dX7_deep_67 : decode cX7_deep 67 = .ok (.ladd, 1) := by decide +kernel
theorem dX7_deep_68 : decode cX7_deep 68 = .ok (.lstore 4, 2) := by decide +kernel
theorem dX7_deep_70 : decode cX7_deep 70 = .ok (.iinc 6 1, 3) := by decide +kernel
theorem dX7_deep_73 : decode cX7_deep 73 = .ok (.goto (-34), 3) := by decide +kernel
theorem dX7_deep_76 : decode cX7_deep 76 = .ok (.ldc2_w 214, 3) := by decide +kernel
theorem dX7_deep_79 : decode cX7_deep 79 = .ok (.lload 4, 2) := by decide +kernel
theorem dX7_deep_81 : decode cX7_deep 81 = .ok (.invokestatic 221, 3) := by decide +kernel
theorem dX7_deep_84 : decode cX7_deep 84 = .ok (.lstore 6, 2) := by decide +kernel
theorem dX7_deep_86 : decode cX7_deep 86 = .ok (.iload_n 3, 1) := by decide +kernel
theorem dX7_deep_87 : decode cX7_deep 87 = .ok (.ifCond .ne 8, 3) := by decide +kernel
theorem dX7_deep_90 : decode cX7_deep 90 = .ok (.lload 4, 2) := by decide +kernel
theorem dX7_deep_92 : decode cX7_deep 92 = .ok (.goto 6, 3) := by decide +kernel
theorem dX7_deep_95 : decode cX7_deep 95 = .ok (.ldc2_w 214, 3) := by decide +kernel
theorem dX7_deep_98 : decode cX7_deep 98 = .ok (.lconst 1, 1) := by decide +kernel
theorem dX7_deep_99 : decode cX7_deep 99 = .ok (.lload 6, 2) := by decide +kernel
theorem dX7_deep_101 : decode cX7_deep 101 = .ok (.invokestatic 225, 3) := by decide +kernel
theorem dX7_deep_104 : decode cX7_deep 104 = .ok (.ldiv, 1) := by decide +kernel
theorem dX7_deep_105 : decode cX7_deep 105 = .ok (.lreturn, 1) := by decide +kernel
theorem dX7_run_0 : decode cX7_run 0 = .ok (.iload_n 1, 1) := by decide +kernel
theorem dX7_run_1 : decode cX7_run 1 = .ok (.invokestatic 65, 3) := by decide +kernel
theorem dX7_run_4 : decode cX7_run 4 = .ok (.ifCond .eq 23, 3) := by decide +kernel
theorem dX7_run_7 : decode cX7_run 7 = .ok (.iload_n 2, 1) := by decide +kernel
theorem dX7_run_8 : decode cX7_run 8 = .ok (.iconst 1, 1) := by decide +kernel
theorem dX7_run_9 : decode cX7_run 9 = .ok (.if_icmp .lt 18, 3) := by decide +kernel
theorem dX7_run_12 : decode cX7_run 12 = .ok (.iload_n 2, 1) := by decide +kernel
theorem dX7_run_13 : decode cX7_run 13 = .ok (.bipush 99, 2) := by decide +kernel
theorem dX7_run_15 : decode cX7_run 15 = .ok (.if_icmp .gt 12, 3) := by decide +kernel
theorem dX7_run_18 : decode cX7_run 18 = .ok (.iload_n 3, 1) := by decide +kernel
theorem dX7_run_19 : decode cX7_run 19 = .ok (.ifCond .lt 8, 3) := by decide +kernel
theorem dX7_run_22 : decode cX7_run 22 = .ok (.iload_n 3, 1) := by decide +kernel
theorem dX7_run_23 : decode cX7_run 23 = .ok (.iconst 2, 1) := by decide +kernel
theorem dX7_run_24 : decode cX7_run 24 = .ok (.if_icmp .le 6, 3) := by decide +kernel
theorem dX7_run_27 : decode cX7_run 27 = .ok (.bipush (-2), 2) := by decide +kernel
theorem dX7_run_29 : decode cX7_run 29 = .ok (.ireturn, 1) := by decide +kernel
theorem dX7_run_30 : decode cX7_run 30 = .ok (.aload_n 0, 1) := by decide +kernel
theorem dX7_run_31 : decode cX7_run 31 = .ok (.getfield 16, 3) := by decide +kernel
theorem dX7_run_34 : decode cX7_run 34 = .ok (.aload_n 0, 1) := by decide +kernel
theorem dX7_run_35 : decode cX7_run 35 = .ok (.getfield 10, 3) := by decide +kernel
theorem dX7_run_38 : decode cX7_run 38 = .ok (.invokevirtual 149, 3) := by decide +kernel
theorem dX7_run_41 : decode cX7_run 41 = .ok (.iload_n 1, 1) := by decide +kernel
theorem dX7_run_42 : decode cX7_run 42 = .ok (.istore 4, 2) := by decide +kernel
theorem dX7_run_44 : decode cX7_run 44 = .ok (.iconst 0, 1) := by decide +kernel
theorem dX7_run_45 : decode cX7_run 45 = .ok (.istore 5, 2) := by decide +kernel
theorem dX7_run_47 : decode cX7_run 47 = .ok (.iload 5, 2) := by decide +kernel
theorem dX7_run_49 : decode cX7_run 49 = .ok (.iload_n 2, 1) := by decide +kernel
theorem dX7_run_50 : decode cX7_run 50 = .ok (.if_icmp .ge 56, 3) := by decide +kernel
theorem dX7_run_53 : decode cX7_run 53 = .ok (.bipush 75, 2) := by decide +kernel
theorem dX7_run_55 : decode cX7_run 55 = .ok (.iload 4, 2) := by decide +kernel
theorem dX7_run_57 : decode cX7_run 57 = .ok (.imul, 1) := by decide +kernel
theorem dX7_run_58 : decode cX7_run 58 = .ok (.bipush 74, 2) := by decide +kernel
theorem dX7_run_60 : decode cX7_run 60 = .ok (.iadd, 1) := by decide +kernel
theorem dX7_run_61 : decode cX7_run 61 = .ok (.ldc 228, 2) := by decide +kernel
theorem dX7_run_63 : decode cX7_run 63 = .ok (.irem, 1) := by decide +kernel
theorem dX7_run_64 : decode cX7_run 64 = .ok (.istore 4, 2) := by decide +kernel
theorem dX7_run_66 : decode cX7_run 66 = .ok (.aload_n 0, 1) := by decide +kernel
theorem dX7_run_67 : decode cX7_run 67 = .ok (.getfield 50, 3) := by decide +kernel
theorem dX7_run_70 : decode cX7_run 70 = .ok (.iload 4, 2) := by decide +kernel
theorem dX7_run_72 : decode cX7_run 72 = .ok (.invokevirtual 229, 3) := by decide +kernel
theorem dX7_run_75 : decode cX7_run 75 = .ok (.aload_n 0, 1) := by decide +kernel
theorem dX7_run_76 : decode cX7_run 76 = .ok (.getfield 16, 3) := by decide +kernel
theorem dX7_run_79 : decode cX7_run 79 = .ok (.aload_n 0, 1) := by decide +kernel
theorem dX7_run_80 : decode cX7_run 80 = .ok (.getfield 50, 3) := by decide +kernel
theorem dX7_run_83 : decode cX7_run 83 = .ok (.invokevirtual 235, 3) := by decide +kernel
theorem dX7_run_86 : decode cX7_run 86 = .ok (.ifCond .ne 14, 3) := by decide +kernel
theorem dX7_run_89 : decode cX7_run 89 = .ok (.aload_n 0, 1) := by decide +kernel
theorem dX7_run_90 : decode cX7_run 90 = .ok (.getfield 16, 3) := by decide +kernel
theorem dX7_run_93 : decode cX7_run 93 = .ok (.aload_n 0, 1) := by decide +kernel
theorem dX7_run_94 : decode cX7_run 94 = .ok (.getfield 50, 3) := by decide +kernel
theorem dX7_run_97 : decode cX7_run 97 = .ok (.invokevirtual 238, 3) := by decide +kernel
theorem dX7_run_100 : decode cX7_run 100 = .ok (.iinc 5 1, 3) := by decide +kernel
theorem dX7_run_103 : decode cX7_run 103 = .ok (.goto (-56), 3) := by decide +kernel
theorem dX7_run_106 : decode cX7_run 106 = .ok (.iload_n 3, 1) := by decide +kernel
theorem dX7_run_107 : decode cX7_run 107 = .ok (.lookupswitch 54 #[(0, 25), (1, 46)], 25) := by decide +kernel
theorem dX7_run_132 : decode cX7_run 132 = .ok (.aload_n 0, 1) := by decide +kernel
theorem dX7_run_133 : decode cX7_run 133 = .ok (.aload_n 0, 1) := by decide +kernel
theorem dX7_run_134 : decode cX7_run 134 = .ok (.getfield 16, 3) := by decide +kernel
theorem dX7_run_137 : decode cX7_run 137 = .ok (.getfield 79, 3) := by decide +kernel
theorem dX7_run_140 : decode cX7_run 140 = .ok (.iconst 0, 1) := by decide +kernel
theorem dX7_run_141 : decode cX7_run 141 = .ok (.laload, 1) := by decide +kernel
theorem dX7_run_142 : decode cX7_run 142 = .ok (.aload_n 0, 1) := by decide +kernel
theorem dX7_run_143 : decode cX7_run 143 = .ok (.getfield 16, 3) := by decide +kernel
theorem dX7_run_146 : decode cX7_run 146 = .ok (.getfield 69, 3) := by decide +kernel
theorem dX7_run_149 : decode cX7_run 149 = .ok (.invokevirtual 241, 3) := by decide +kernel
theorem dX7_run_152 : decode cX7_run 152 = .ok (.ireturn, 1) := by decide +kernel
theorem dX7_run_153 : decode cX7_run 153 = .ok (.aload_n 0, 1) := by decide +kernel
theorem dX7_run_154 : decode cX7_run 154 = .ok (.getfield 16, 3) := by decide +kernel
theorem dX7_run_157 : decode cX7_run 157 = .ok (.invokevirtual 244, 3) := by decide +kernel
theorem dX7_run_160 : decode cX7_run 160 = .ok (.ireturn, 1) := by decide +kernel
theorem dX7_run_161 : decode cX7_run 161 = .ok (.aload_n 0, 1) := by decide +kernel
theorem dX7_run_162 : decode cX7_run 162 = .ok (.getfield 16, 3) := by decide +kernel
theorem dX7_run_165 : decode cX7_run 165 = .ok (.getfield 69, 3) := by decide +kernel
theorem dX7_run_168 : decode cX7_run 168 = .ok (.ireturn, 1) := by decide +kernel
theorem dX7_image_0 : decode cX7_image 0 = .ok (.iload_n 1, 1) := by decide +kernel
theorem dX7_image_1 : decode cX7_image 1 = .ok (.ifCond .lt 8, 3) := by decide +kernel
theorem dX7_image_4 : decode cX7_image 4 = .ok (.iload_n 1, 1) := by decide +kernel
theorem dX7_image_5 : decode cX7_image 5 = .ok (.iconst 2, 1) := by decide +kernel
theorem dX7_image_6 : decode cX7_image 6 = .ok (.if_icmp .lt 6, 3) := by decide +kernel
theorem dX7_image_9 : decode cX7_image 9 = .ok (.bipush (-2), 2) := by decide +kernel
theorem dX7_image_11 : decode cX7_image 11 = .ok (.ireturn, 1) := by decide +kernel
theorem dX7_image_12 : decode cX7_image 12 = .ok (.aload_n 0, 1) := by decide +kernel
theorem dX7_image_13 : decode cX7_image 13 = .ok (.getfield 35, 3) := by decide +kernel
theorem dX7_image_16 : decode cX7_image 16 = .ok (.iload_n 1, 1) := by decide +kernel
theorem dX7_image_17 : decode cX7_image 17 = .ok (.aaload, 1) := by decide +kernel
theorem dX7_image_18 : decode cX7_image 18 = .ok (.iconst 1, 1) := by decide +kernel
theorem dX7_image_19 : decode cX7_image 19 = .ok (.putfield 247, 3) := by decide +kernel
theorem dX7_image_22 : decode cX7_image 22 = .ok (.aload_n 0, 1) := by decide +kernel
theorem dX7_image_23 : decode cX7_image 23 = .ok (.getfield 35, 3) := by decide +kernel
theorem dX7_image_26 : decode cX7_image 26 = .ok (.iload_n 1, 1) := by decide +kernel
theorem dX7_image_27 : decode cX7_image 27 = .ok (.aaload, 1) := by decide +kernel
theorem dX7_image_28 : decode cX7_image 28 = .ok (.getfield 251, 3) := by decide +kernel
theorem dX7_image_31 : decode cX7_image 31 = .ok (.aload_n 0, 1) := by decide +kernel
theorem dX7_image_32 : decode cX7_image 32 = .ok (.getfield 10, 3) := by decide +kernel
theorem dX7_image_35 : decode cX7_image 35 = .ok (.invokevirtual 149, 3) := by decide +kernel
theorem dX7_image_38 : decode cX7_image 38 = .ok (.aload_n 0, 1) := by decide +kernel
theorem dX7_image_39 : decode cX7_image 39 = .ok (.getfield 35, 3) := by decide +kernel
theorem dX7_image_42 : decode cX7_image 42 = .ok (.iload_n 1, 1) := by decide +kernel
theorem dX7_image_43 : decode cX7_image 43 = .ok (.aaload, 1) := by decide +kernel
theorem dX7_image_44 : decode cX7_image 44 = .ok (.getfield 254, 3) := by decide +kernel
theorem dX7_image_47 : decode cX7_image 47 = .ok (.aload_n 0, 1) := by decide +kernel
theorem dX7_image_48 : decode cX7_image 48 = .ok (.getfield 29, 3) := by decide +kernel
theorem dX7_image_51 : decode cX7_image 51 = .ok (.invokevirtual 255, 3) := by decide +kernel
theorem dX7_image_54 : decode cX7_image 54 = .ok (.iconst 1, 1) := by decide +kernel
theorem dX7_image_55 : decode cX7_image 55 = .ok (.ireturn, 1) := by decide +kernel
theorem dX7_restore_0 : decode cX7_restore 0 = .ok (.iload_n 1, 1) := by decide +kernel
theorem dX7_restore_1 : decode cX7_restore 1 = .ok (.ifCond .lt 8, 3) := by decide +kernel
theorem dX7_restore_4 : decode cX7_restore 4 = .ok (.iload_n 1, 1) := by decide +kernel
theorem dX7_restore_5 : decode cX7_restore 5 = .ok (.iconst 2, 1) := by decide +kernel
theorem dX7_restore_6 : decode cX7_restore 6 = .ok (.if_icmp .lt 6, 3) := by decide +kernel
theorem dX7_restore_9 : decode cX7_restore 9 = .ok (.bipush (-2), 2) := by decide +kernel
theorem dX7_restore_11 : decode cX7_restore 11 = .ok (.ireturn, 1) := by decide +kernel
theorem dX7_restore_12 : decode cX7_restore 12 = .ok (.aload_n 0, 1) := by decide +kernel
theorem dX7_restore_13 : decode cX7_restore 13 = .ok (.getfield 35, 3) := by decide +kernel
theorem dX7_restore_16 : decode cX7_restore 16 = .ok (.iload_n 1, 1) := by decide +kernel
theorem dX7_restore_17 : decode cX7_restore 17 = .ok (.aaload, 1) := by decide +kernel
theorem dX7_restore_18 : decode cX7_restore 18 = .ok (.getfield 247, 3) := by decide +kernel
theorem dX7_restore_21 : decode cX7_restore 21 = .ok (.ifCond .ne 6, 3) := by decide +kernel
theorem dX7_restore_24 : decode cX7_restore 24 = .ok (.bipush (-3), 2) := by decide +kernel
theorem dX7_restore_26 : decode cX7_restore 26 = .ok (.ireturn, 1) := by decide +kernel
theorem dX7_restore_27 : decode cX7_restore 27 = .ok (.aload_n 0, 1) := by decide +kernel
theorem dX7_restore_28 : decode cX7_restore 28 = .ok (.getfield 10, 3) := by decide +kernel
theorem dX7_restore_31 : decode cX7_restore 31 = .ok (.aload_n 0, 1) := by decide +kernel
theorem dX7_restore_32 : decode cX7_restore 32 = .ok (.getfield 35, 3) := by decide +kernel
theorem dX7_restore_35 : decode cX7_restore 35 = .ok (.iload_n 1, 1) := by decide +kernel
theorem dX7_restore_36 : decode cX7_restore 36 = .ok (.aaload, 1) := by decide +kernel
theorem dX7_restore_37 : decode cX7_restore 37 = .ok (.getfield 251, 3) := by decide +kernel
theorem dX7_restore_40 : decode cX7_restore 40 = .ok (.invokevirtual 149, 3) := by decide +kernel
theorem dX7_restore_43 : decode cX7_restore 43 = .ok (.aload_n 0, 1) := by decide +kernel
theorem dX7_restore_44 : decode cX7_restore 44 = .ok (.getfield 29, 3) := by decide +kernel
theorem dX7_restore_47 : decode cX7_restore 47 = .ok (.aload_n 0, 1) := by decide +kernel
theorem dX7_restore_48 : decode cX7_restore 48 = .ok (.getfield 35, 3) := by decide +kernel
theorem dX7_restore_51 : decode cX7_restore 51 = .ok (.iload_n 1, 1) := by decide +kernel
theorem dX7_restore_52 : decode cX7_restore 52 = .ok (.aaload, 1) := by decide +kernel
theorem dX7_restore_53 : decode cX7_restore 53 = .ok (.getfield 254, 3) := by decide +kernel
theorem dX7_restore_56 : decode cX7_restore 56 = .ok (.invokevirtual 255, 3) := by decide +kernel
theorem dX7_restore_59 : decode cX7_restore 59 = .ok (.iconst 1, 1) := by decide +kernel
theorem dX7_restore_60 : decode cX7_restore 60 = .ok (.ireturn, 1) := by decide +kernel
theorem dX7_told_0 : decode cX7_told 0 = .ok (.iload_n 1, 1) := by decide +kernel
theorem dX7_told_1 : decode cX7_told 1 = .ok (.tableswitch 51 0 2 #[27, 35, 43], 27) := by decide +kernel
theorem dX7_told_28 : decode cX7_told 28 = .ok (.aload_n 0, 1) := by decide +kernel
theorem dX7_told_29 : decode cX7_told 29 = .ok (.getfield 22, 3) := by decide +kernel
theorem dX7_told_32 : decode cX7_told 32 = .ok (.getfield 100, 3) := by decide +kernel
theorem dX7_told_35 : decode cX7_told 35 = .ok (.ireturn, 1) := by decide +kernel
theorem dX7_told_36 : decode cX7_told 36 = .ok (.aload_n 0, 1) := by decide +kernel
theorem dX7_told_37 : decode cX7_told 37 = .ok (.getfield 10, 3) := by decide +kernel
theorem dX7_told_40 : decode cX7_told 40 = .ok (.getfield 69, 3) := by decide +kernel
theorem dX7_told_43 : decode cX7_told 43 = .ok (.ireturn, 1) := by decide +kernel
theorem dX7_told_44 : decode cX7_told 44 = .ok (.aload_n 0, 1) := by decide +kernel
theorem dX7_told_45 : decode cX7_told 45 = .ok (.getfield 29, 3) := by decide +kernel
theorem dX7_told_48 : decode cX7_told 48 = .ok (.getfield 200, 3) := by decide +kernel
theorem dX7_told_51 : decode cX7_told 51 = .ok (.ireturn, 1) := by decide +kernel
theorem dX7_told_52 : decode cX7_told 52 = .ok (.aload_n 0, 1) := by decide +kernel
theorem dX7_told_53 : decode cX7_told 53 = .ok (.iload_n 1, 1) := by decide +kernel
theorem dX7_told_54 : decode cX7_told 54 = .ok (.invokevirtual 258, 3) := by decide +kernel
theorem dX7_told_57 : decode cX7_told 57 = .ok (.ireturn, 1) := by decide +kernel
theorem dX7_toldOfSets_0 : decode cX7_toldOfSets 0 = .ok (.iload_n 1, 1) := by decide +kernel
theorem dX7_toldOfSets_1 : decode cX7_toldOfSets 1 = .ok (.bipush 10, 2) := by decide +kernel
theorem dX7_toldOfSets_3 : decode cX7_toldOfSets 3 = .ok (.isub, 1) := by decide +kernel
theorem dX7_toldOfSets_4 : decode cX7_toldOfSets 4 = .ok (.invokestatic 73, 3) := by decide +kernel
theorem dX7_toldOfSets_7 : decode cX7_toldOfSets 7 = .ok (.ifCond .eq 19, 3) := by decide +kernel
theorem dX7_toldOfSets_10 : decode cX7_toldOfSets 10 = .ok (.aload_n 0, 1) := by decide +kernel
theorem dX7_toldOfSets_11 : decode cX7_toldOfSets 11 = .ok (.getfield 10, 3) := by decide +kernel
theorem dX7_toldOfSets_14 : decode cX7_toldOfSets 14 = .ok (.getfield 79, 3) := by decide +kernel
theorem dX7_toldOfSets_17 : decode cX7_toldOfSets 17 = .ok (.iload_n 1, 1) := by decide +kernel
theorem dX7_toldOfSets_18 : decode cX7_toldOfSets 18 = .ok (.bipush 10, 2) := by decide +kernel
theorem dX7_toldOfSets_20 : decode cX7_toldOfSets 20 = .ok (.isub, 1) := by decide +kernel
theorem dX7_toldOfSets_21 : decode cX7_toldOfSets 21 = .ok (.laload, 1) := by decide +kernel
theorem dX7_toldOfSets_22 : decode cX7_toldOfSets 22 = .ok (.invokestatic 87, 3) := by decide +kernel
theorem dX7_toldOfSets_25 : decode cX7_toldOfSets 25 = .ok (.ireturn, 1) := by decide +kernel
theorem dX7_toldOfSets_26 : decode cX7_toldOfSets 26 = .ok (.iload_n 1, 1) := by decide +kernel
theorem dX7_toldOfSets_27 : decode cX7_toldOfSets 27 = .ok (.bipush 20, 2) := by decide +kernel
theorem dX7_toldOfSets_29 : decode cX7_toldOfSets 29 = .ok (.isub, 1) := by decide +kernel
theorem dX7_toldOfSets_30 : decode cX7_toldOfSets 30 = .ok (.invokestatic 73, 3) := by decide +kernel
theorem dX7_toldOfSets_33 : decode cX7_toldOfSets 33 = .ok (.ifCond .eq 27, 3) := by decide +kernel
theorem dX7_toldOfSets_36 : decode cX7_toldOfSets 36 = .ok (.aload_n 0, 1) := by decide +kernel
theorem dX7_toldOfSets_37 : decode cX7_toldOfSets 37 = .ok (.aload_n 0, 1) := by decide +kernel
theorem dX7_toldOfSets_38 : decode cX7_toldOfSets 38 = .ok (.getfield 10, 3) := by decide +kernel
theorem dX7_toldOfSets_41 : decode cX7_toldOfSets 41 = .ok (.getfield 79, 3) := by decide +kernel
theorem dX7_toldOfSets_44 : decode cX7_toldOfSets 44 = .ok (.iload_n 1, 1) := by decide +kernel
theorem dX7_toldOfSets_45 : decode cX7_toldOfSets 45 = .ok (.bipush 20, 2) := by decide +kernel
theorem dX7_toldOfSets_47 : decode cX7_toldOfSets 47 = .ok (.isub, 1) := by decide +kernel
theorem dX7_toldOfSets_48 : decode cX7_toldOfSets 48 = .ok (.laload, 1) := by decide +kernel
theorem dX7_toldOfSets_49 : decode cX7_toldOfSets 49 = .ok (.aload_n 0, 1) := by decide +kernel
theorem dX7_toldOfSets_50 : decode cX7_toldOfSets 50 = .ok (.getfield 10, 3) := by decide +kernel
theorem dX7_toldOfSets_53 : decode cX7_toldOfSets 53 = .ok (.getfield 69, 3) := by decide +kernel
theorem dX7_toldOfSets_56 : decode cX7_toldOfSets 56 = .ok (.invokevirtual 241, 3) := by decide +kernel
theorem dX7_toldOfSets_59 : decode cX7_toldOfSets 59 = .ok (.ireturn, 1) := by decide +kernel
theorem dX7_toldOfSets_60 : decode cX7_toldOfSets 60 = .ok (.iload_n 1, 1) := by decide +kernel
theorem dX7_toldOfSets_61 : decode cX7_toldOfSets 61 = .ok (.bipush 100, 2) := by decide +kernel
theorem dX7_toldOfSets_63 : decode cX7_toldOfSets 63 = .ok (.idiv, 1) := by decide +kernel
theorem dX7_toldOfSets_64 : decode cX7_toldOfSets 64 = .ok (.iconst 1, 1) := by decide +kernel
theorem dX7_toldOfSets_65 : decode cX7_toldOfSets 65 = .ok (.isub, 1) := by decide +kernel
theorem dX7_toldOfSets_66 : decode cX7_toldOfSets 66 = .ok (.istore_n 2, 1) := by decide +kernel
theorem dX7_toldOfSets_67 : decode cX7_toldOfSets 67 = .ok (.iload_n 1, 1) := by decide +kernel
theorem dX7_toldOfSets_68 : decode cX7_toldOfSets 68 = .ok (.bipush 100, 2) := by decide +kernel
theorem dX7_toldOfSets_70 : decode cX7_toldOfSets 70 = .ok (.irem, 1) := by decide +kernel
theorem dX7_toldOfSets_71 : decode cX7_toldOfSets 71 = .ok (.istore_n 3, 1) := by decide +kernel
theorem dX7_toldOfSets_72 : decode cX7_toldOfSets 72 = .ok (.iload_n 2, 1) := by decide +kernel
theorem dX7_toldOfSets_73 : decode cX7_toldOfSets 73 = .ok (.invokestatic 73, 3) := by decide +kernel
theorem dX7_toldOfSets_76 : decode cX7_toldOfSets 76 = .ok (.ifCond .eq 10, 3) := by decide +kernel
theorem dX7_toldOfSets_79 : decode cX7_toldOfSets 79 = .ok (.iload_n 3, 1) := by decide +kernel
theorem dX7_toldOfSets_80 : decode cX7_toldOfSets 80 = .ok (.invokestatic 76, 3) := by decide +kernel
theorem dX7_toldOfSets_83 : decode cX7_toldOfSets 83 = .ok (.ifCond .ne 6, 3) := by decide +kernel
theorem dX7_toldOfSets_86 : decode cX7_toldOfSets 86 = .ok (.bipush (-2), 2) := by decide +kernel
theorem dX7_toldOfSets_88 : decode cX7_toldOfSets 88 = .ok (.ireturn, 1) := by decide +kernel
theorem dX7_toldOfSets_89 : decode cX7_toldOfSets 89 = .ok (.aload_n 0, 1) := by decide +kernel
theorem dX7_toldOfSets_90 : decode cX7_toldOfSets 90 = .ok (.getfield 10, 3) := by decide +kernel
theorem dX7_toldOfSets_93 : decode cX7_toldOfSets 93 = .ok (.getfield 79, 3) := by decide +kernel
theorem dX7_toldOfSets_96 : decode cX7_toldOfSets 96 = .ok (.iload_n 2, 1) := by decide +kernel
theorem dX7_toldOfSets_97 : decode cX7_toldOfSets 97 = .ok (.laload, 1) := by decide +kernel
theorem dX7_toldOfSets_98 : decode cX7_toldOfSets 98 = .ok (.iload_n 3, 1) := by decide +kernel
theorem dX7_toldOfSets_99 : decode cX7_toldOfSets 99 = .ok (.invokestatic 83, 3) := by decide +kernel
theorem dX7_toldOfSets_102 : decode cX7_toldOfSets 102 = .ok (.ifCond .eq 7, 3) := by decide +kernel
theorem dX7_toldOfSets_105 : decode cX7_toldOfSets 105 = .ok (.iconst 1, 1) := by decide +kernel
theorem dX7_toldOfSets_106 : decode cX7_toldOfSets 106 = .ok (.goto 4, 3) := by decide +kernel
theorem dX7_toldOfSets_109 : decode cX7_toldOfSets 109 = .ok (.iconst 0, 1) := by decide +kernel
theorem dX7_toldOfSets_110 : decode cX7_toldOfSets 110 = .ok (.ireturn, 1) := by decide +kernel
theorem dX7_digest_0 : decode cX7_digest 0 = .ok (.aload_n 0, 1) := by decide +kernel
theorem dX7_digest_1 : decode cX7_digest 1 = .ok (.getfield 55, 3) := by decide +kernel
theorem dX7_digest_4 : decode cX7_digest 4 = .ok (.lload_n 1, 1) := by decide +kernel
theorem dX7_digest_5 : decode cX7_digest 5 = .ok (.iload_n 3, 1) := by decide +kernel
theorem dX7_digest_6 : decode cX7_digest 6 = .ok (.invokevirtual 124, 3) := by decide +kernel
theorem dX7_digest_9 : decode cX7_digest 9 = .ok (.aload_n 0, 1) := by decide +kernel
theorem dX7_digest_10 : decode cX7_digest 10 = .ok (.getfield 55, 3) := by decide +kernel
theorem dX7_digest_13 : decode cX7_digest 13 = .ok (.aload_n 0, 1) := by decide +kernel
theorem dX7_digest_14 : decode cX7_digest 14 = .ok (.getfield 55, 3) := by decide +kernel
theorem dX7_digest_17 : decode cX7_digest 17 = .ok (.getfield 130, 3) := by decide +kernel
theorem dX7_digest_20 : decode cX7_digest 20 = .ok (.invokevirtual 137, 3) := by decide +kernel
theorem dX7_digest_23 : decode cX7_digest 23 = .ok (.ireturn, 1) := by decide +kernel
theorem dX7_isSet_0 : decode cX7_isSet 0 = .ok (.iload_n 0, 1) := by decide +kernel
theorem dX7_isSet_1 : decode cX7_isSet 1 = .ok (.ifCond .lt 12, 3) := by decide +kernel
theorem dX7_isSet_4 : decode cX7_isSet 4 = .ok (.iload_n 0, 1) := by decide +kernel
theorem dX7_isSet_5 : decode cX7_isSet 5 = .ok (.iconst 4, 1) := by decide +kernel
theorem dX7_isSet_6 : decode cX7_isSet 6 = .ok (.if_icmp .ge 7, 3) := by decide +kernel
theorem dX7_isSet_9 : decode cX7_isSet 9 = .ok (.iconst 1, 1) := by decide +kernel
theorem dX7_isSet_10 : decode cX7_isSet 10 = .ok (.goto 4, 3) := by decide +kernel
theorem dX7_isSet_13 : decode cX7_isSet 13 = .ok (.iconst 0, 1) := by decide +kernel
theorem dX7_isSet_14 : decode cX7_isSet 14 = .ok (.ireturn, 1) := by decide +kernel
theorem dX7_isKey_0 : decode cX7_isKey 0 = .ok (.iload_n 0, 1) := by decide +kernel
theorem dX7_isKey_1 : decode cX7_isKey 1 = .ok (.ifCond .lt 13, 3) := by decide +kernel
theorem dX7_isKey_4 : decode cX7_isKey 4 = .ok (.iload_n 0, 1) := by decide +kernel
theorem dX7_isKey_5 : decode cX7_isKey 5 = .ok (.bipush 50, 2) := by decide +kernel
theorem dX7_isKey_7 : decode cX7_isKey 7 = .ok (.if_icmp .ge 7, 3) := by decide +kernel
theorem dX7_isKey_10 : decode cX7_isKey 10 = .ok (.iconst 1, 1) := by decide +kernel
theorem dX7_isKey_11 : decode cX7_isKey 11 = .ok (.goto 4, 3) := by decide +kernel
theorem dX7_isKey_14 : decode cX7_isKey 14 = .ok (.iconst 0, 1) := by decide +kernel
theorem dX7_isKey_15 : decode cX7_isKey 15 = .ok (.ireturn, 1) := by decide +kernel
theorem dX7_isSeed_0 : decode cX7_isSeed 0 = .ok (.iload_n 0, 1) := by decide +kernel
theorem dX7_isSeed_1 : decode cX7_isSeed 1 = .ok (.ifCond .lt 14, 3) := by decide +kernel
theorem dX7_isSeed_4 : decode cX7_isSeed 4 = .ok (.iload_n 0, 1) := by decide +kernel
theorem dX7_isSeed_5 : decode cX7_isSeed 5 = .ok (.sipush 10000, 3) := by decide +kernel
theorem dX7_isSeed_8 : decode cX7_isSeed 8 = .ok (.if_icmp .ge 7, 3) := by decide +kernel
theorem dX7_isSeed_11 : decode cX7_isSeed 11 = .ok (.iconst 1, 1) := by decide +kernel
theorem dX7_isSeed_12 : decode cX7_isSeed 12 = .ok (.goto 4, 3) := by decide +kernel
theorem dX7_isSeed_15 : decode cX7_isSeed 15 = .ok (.iconst 0, 1) := by decide +kernel
theorem dX7_isSeed_16 : decode cX7_isSeed 16 = .ok (.ireturn, 1) := by decide +kernel
theorem dX7_bit_0 : decode cX7_bit 0 = .ok (.lconst 1, 1) := by decide +kernel
theorem dX7_bit_1 : decode cX7_bit 1 = .ok (.iload_n 0, 1) := by decide +kernel
theorem dX7_bit_2 : decode cX7_bit 2 = .ok (.lshl, 1) := by decide +kernel
theorem dX7_bit_3 : decode cX7_bit 3 = .ok (.lreturn, 1) := by decide +kernel
theorem dX7_isIn_0 : decode cX7_isIn 0 = .ok (.lload_n 0, 1) := by decide +kernel
theorem dX7_isIn_1 : decode cX7_isIn 1 = .ok (.iload_n 2, 1) := by decide +kernel
theorem dX7_isIn_2 : decode cX7_isIn 2 = .ok (.invokestatic 91, 3) := by decide +kernel
theorem dX7_isIn_5 : decode cX7_isIn 5 = .ok (.land, 1) := by decide +kernel
theorem dX7_isIn_6 : decode cX7_isIn 6 = .ok (.lconst 0, 1) := by decide +kernel
theorem dX7_isIn_7 : decode cX7_isIn 7 = .ok (.lcmp, 1) := by decide +kernel
theorem dX7_isIn_8 : decode cX7_isIn 8 = .ok (.ifCond .eq 7, 3) := by decide +kernel
theorem dX7_isIn_11 : decode cX7_isIn 11 = .ok (.iconst 1, 1) := by decide +kernel
theorem dX7_isIn_12 : decode cX7_isIn 12 = .ok (.goto 4, 3) := by decide +kernel
theorem dX7_isIn_15 : decode cX7_isIn 15 = .ok (.iconst 0, 1) := by decide +kernel
theorem dX7_isIn_16 : decode cX7_isIn 16 = .ok (.ireturn, 1) := by decide +kernel
theorem dX7_count_0 : decode cX7_count 0 = .ok (.lload_n 0, 1) := by decide +kernel
theorem dX7_count_1 : decode cX7_count 1 = .ok (.invokestatic 261, 3) := by decide +kernel
theorem dX7_count_4 : decode cX7_count 4 = .ok (.ireturn, 1) := by decide +kernel
theorem dX7_less_0 : decode cX7_less 0 = .ok (.iload_n 0, 1) := by decide +kernel
theorem dX7_less_1 : decode cX7_less 1 = .ok (.invokestatic 91, 3) := by decide +kernel
theorem dX7_less_4 : decode cX7_less 4 = .ok (.lconst 1, 1) := by decide +kernel
theorem dX7_less_5 : decode cX7_less 5 = .ok (.lsub, 1) := by decide +kernel
theorem dX7_less_6 : decode cX7_less 6 = .ok (.lreturn, 1) := by decide +kernel
theorem dX7_pick_0 : decode cX7_pick 0 = .ok (.iconst 0, 1) := by decide +kernel
theorem dX7_pick_1 : decode cX7_pick 1 = .ok (.istore_n 3, 1) := by decide +kernel
theorem dX7_pick_2 : decode cX7_pick 2 = .ok (.iconst 0, 1) := by decide +kernel
theorem dX7_pick_3 : decode cX7_pick 3 = .ok (.istore 4, 2) := by decide +kernel
theorem dX7_pick_5 : decode cX7_pick 5 = .ok (.iload 4, 2) := by decide +kernel
theorem dX7_pick_7 : decode cX7_pick 7 = .ok (.bipush 50, 2) := by decide +kernel
theorem dX7_pick_9 : decode cX7_pick 9 = .ok (.if_icmp .ge 29, 3) := by decide +kernel
theorem dX7_pick_12 : decode cX7_pick 12 = .ok (.lload_n 0, 1) := by decide +kernel
theorem dX7_pick_13 : decode cX7_pick 13 = .ok (.iload 4, 2) := by decide +kernel
theorem dX7_pick_15 : decode cX7_pick 15 = .ok (.invokestatic 83, 3) := by decide +kernel
theorem dX7_pick_18 : decode cX7_pick 18 = .ok (.ifCond .eq 14, 3) := by decide +kernel
theorem dX7_pick_21 : decode cX7_pick 21 = .ok (.iload_n 3, 1) := by decide +kernel
theorem dX7_pick_22 : decode cX7_pick 22 = .ok (.iload_n 2, 1) := by decide +kernel
theorem dX7_pick_23 : decode cX7_pick 23 = .ok (.if_icmp .ne 6, 3) := by decide +kernel
theorem dX7_pick_26 : decode cX7_pick 26 = .ok (.iload 4, 2) := by decide +kernel
theorem dX7_pick_28 : decode cX7_pick 28 = .ok (.ireturn, 1) := by decide +kernel
theorem dX7_pick_29 : decode cX7_pick 29 = .ok (.iinc 3 1, 3) := by decide +kernel
theorem dX7_pick_32 : decode cX7_pick 32 = .ok (.iinc 4 1, 3) := by decide +kernel
theorem dX7_pick_35 : decode cX7_pick 35 = .ok (.goto (-30), 3) := by decide +kernel
theorem dX7_pick_38 : decode cX7_pick 38 = .ok (.bipush (-6), 2) := by decide +kernel
theorem dX7_pick_40 : decode cX7_pick 40 = .ok (.ireturn, 1) := by decide +kernel
theorem dX7_priority_0 : decode cX7_priority 0 = .ok (.iload_n 0, 1) := by decide +kernel
theorem dX7_priority_1 : decode cX7_priority 1 = .ok (.sipush 131, 3) := by decide +kernel
theorem dX7_priority_4 : decode cX7_priority 4 = .ok (.iload_n 1, 1) := by decide +kernel
theorem dX7_priority_5 : decode cX7_priority 5 = .ok (.imul, 1) := by decide +kernel
theorem dX7_priority_6 : decode cX7_priority 6 = .ok (.iadd, 1) := by decide +kernel
theorem dX7_priority_7 : decode cX7_priority 7 = .ok (.sipush 10007, 3) := by decide +kernel
theorem dX7_priority_10 : decode cX7_priority 10 = .ok (.irem, 1) := by decide +kernel
theorem dX7_priority_11 : decode cX7_priority 11 = .ok (.istore_n 2, 1) := by decide +kernel
theorem dX7_priority_12 : decode cX7_priority 12 = .ok (.iload_n 2, 1) := by decide +kernel
theorem dX7_priority_13 : decode cX7_priority 13 = .ok (.iload_n 2, 1) := by decide +kernel
theorem dX7_priority_14 : decode cX7_priority 14 = .ok (.imul, 1) := by decide +kernel
theorem dX7_priority_15 : decode cX7_priority 15 = .ok (.sipush 10007, 3) := by decide +kernel
theorem dX7_priority_18 : decode cX7_priority 18 = .ok (.irem, 1) := by decide +kernel
theorem dX7_priority_19 : decode cX7_priority 19 = .ok (.ireturn, 1) := by decide +kernel
theorem dX7_ranksAbove_0 : decode cX7_ranksAbove 0 = .ok (.iload_n 0, 1) := by decide +kernel
theorem dX7_ranksAbove_1 : decode cX7_ranksAbove 1 = .ok (.iload_n 1, 1) := by decide +kernel
theorem dX7_ranksAbove_2 : decode cX7_ranksAbove 2 = .ok (.invokestatic 170, 3) := by decide +kernel
theorem dX7_ranksAbove_5 : decode cX7_ranksAbove 5 = .ok (.istore_n 3, 1) := by decide +kernel
theorem dX7_ranksAbove_6 : decode cX7_ranksAbove 6 = .ok (.iload_n 0, 1) := by decide +kernel
theorem dX7_ranksAbove_7 : decode cX7_ranksAbove 7 = .ok (.iload_n 2, 1) := by decide +kernel
theorem dX7_ranksAbove_8 : decode cX7_ranksAbove 8 = .ok (.invokestatic 170, 3) := by decide +kernel
theorem dX7_ranksAbove_11 : decode cX7_ranksAbove 11 = .ok (.istore 4, 2) := by decide +kernel
theorem dX7_ranksAbove_13 : decode cX7_ranksAbove 13 = .ok (.iload_n 3, 1) := by decide +kernel
theorem dX7_ranksAbove_14 : decode cX7_ranksAbove 14 = .ok (.iload 4, 2) := by decide +kernel
theorem dX7_ranksAbove_16 : decode cX7_ranksAbove 16 = .ok (.if_icmp .eq 17, 3) := by decide +kernel
theorem dX7_ranksAbove_19 : decode cX7_ranksAbove 19 = .ok (.iload_n 3, 1) := by decide +kernel
theorem dX7_ranksAbove_20 : decode cX7_ranksAbove 20 = .ok (.iload 4, 2) := by decide +kernel
theorem dX7_ranksAbove_22 : decode cX7_ranksAbove 22 = .ok (.if_icmp .le 7, 3) := by decide +kernel
theorem dX7_ranksAbove_25 : decode cX7_ranksAbove 25 = .ok (.iconst 1, 1) := by decide +kernel
theorem dX7_ranksAbove_26 : decode cX7_ranksAbove 26 = .ok (.goto 17, 3) := by decide +kernel
theorem dX7_ranksAbove_29 : decode cX7_ranksAbove 29 = .ok (.iconst 0, 1) := by decide +kernel
theorem dX7_ranksAbove_30 : decode cX7_ranksAbove 30 = .ok (.goto 13, 3) := by decide +kernel
theorem dX7_ranksAbove_33 : decode cX7_ranksAbove 33 = .ok (.iload_n 1, 1) := by decide +kernel
theorem dX7_ranksAbove_34 : decode cX7_ranksAbove 34 = .ok (.iload_n 2, 1) := by decide +kernel
theorem dX7_ranksAbove_35 : decode cX7_ranksAbove 35 = .ok (.if_icmp .ge 7, 3) := by decide +kernel
theorem dX7_ranksAbove_38 : decode cX7_ranksAbove 38 = .ok (.iconst 1, 1) := by decide +kernel
theorem dX7_ranksAbove_39 : decode cX7_ranksAbove 39 = .ok (.goto 4, 3) := by decide +kernel
theorem dX7_ranksAbove_42 : decode cX7_ranksAbove 42 = .ok (.iconst 0, 1) := by decide +kernel
theorem dX7_ranksAbove_43 : decode cX7_ranksAbove 43 = .ok (.ireturn, 1) := by decide +kernel
theorem dX7_greatestDivisor_0 : decode cX7_greatestDivisor 0 = .ok (.iconst 0, 1) := by decide +kernel
theorem dX7_greatestDivisor_1 : decode cX7_greatestDivisor 1 = .ok (.istore 4, 2) := by decide +kernel
theorem dX7_greatestDivisor_3 : decode cX7_greatestDivisor 3 = .ok (.iload 4, 2) := by decide +kernel
theorem dX7_greatestDivisor_5 : decode cX7_greatestDivisor 5 = .ok (.bipush 100, 2) := by decide +kernel
theorem dX7_greatestDivisor_7 : decode cX7_greatestDivisor 7 = .ok (.if_icmp .ge 25, 3) := by decide +kernel
theorem dX7_greatestDivisor_10 : decode cX7_greatestDivisor 10 = .ok (.lload_n 2, 1) := by decide +kernel
theorem dX7_greatestDivisor_11 : decode cX7_greatestDivisor 11 = .ok (.lconst 0, 1) := by decide +kernel
theorem dX7_greatestDivisor_12 : decode cX7_greatestDivisor 12 = .ok (.lcmp, 1) := by decide +kernel
theorem dX7_greatestDivisor_13 : decode cX7_greatestDivisor 13 = .ok (.ifCond .eq 19, 3) := by decide +kernel
theorem dX7_greatestDivisor_16 : decode cX7_greatestDivisor 16 = .ok (.lload_n 0, 1) := by decide +kernel
theorem dX7_greatestDivisor_17 : decode cX7_greatestDivisor 17 = .ok (.lload_n 2, 1) := by decide +kernel
theorem dX7_greatestDivisor_18 : decode cX7_greatestDivisor 18 = .ok (.lrem, 1) := by decide +kernel
theorem dX7_greatestDivisor_19 : decode cX7_greatestDivisor 19 = .ok (.lstore 5, 2) := by decide +kernel
theorem dX7_greatestDivisor_21 : decode cX7_greatestDivisor 21 = .ok (.lload_n 2, 1) := by decide +kernel
theorem dX7_greatestDivisor_22 : decode cX7_greatestDivisor 22 = .ok (.lstore_n 0, 1) := by decide +kernel
theorem dX7_greatestDivisor_23 : decode cX7_greatestDivisor 23 = .ok (.lload 5, 2) := by decide +kernel
theorem dX7_greatestDivisor_25 : decode cX7_greatestDivisor 25 = .ok (.lstore_n 2, 1) := by decide +kernel
theorem dX7_greatestDivisor_26 : decode cX7_greatestDivisor 26 = .ok (.iinc 4 1, 3) := by decide +kernel
theorem dX7_greatestDivisor_29 : decode cX7_greatestDivisor 29 = .ok (.goto (-26), 3) := by decide +kernel
theorem dX7_greatestDivisor_32 : decode cX7_greatestDivisor 32 = .ok (.lload_n 0, 1) := by decide +kernel
theorem dX7_greatestDivisor_33 : decode cX7_greatestDivisor 33 = .ok (.lreturn, 1) := by decide +kernel
end
section
theorem dX8_init_0 : decode cX8_init 0 = .ok (.aload_n 0, 1) := by decide +kernel
theorem dX8_init_1 : decode cX8_init 1 = .ok (.invokespecial 1, 3) := by decide +kernel
theorem dX8_init_4 : decode cX8_init 4 = .ok (.aload_n 0, 1) := by decide +kernel
theorem dX8_init_5 : decode cX8_init 5 = .ok (.sipush 200, 3) := by decide +kernel
theorem dX8_init_8 : decode cX8_init 8 = .ok (.newarray .int, 2) := by decide +kernel
theorem dX8_init_10 : decode cX8_init 10 = .ok (.putfield 7, 3) := by decide +kernel
theorem dX8_init_13 : decode cX8_init 13 = .ok (.aload_n 0, 1) := by decide +kernel
theorem dX8_init_14 : decode cX8_init 14 = .ok (.bipush 8, 2) := by decide +kernel
theorem dX8_init_16 : decode cX8_init 16 = .ok (.newarray .int, 2) := by decide +kernel
theorem dX8_init_18 : decode cX8_init 18 = .ok (.putfield 13, 3) := by decide +kernel
theorem dX8_init_21 : decode cX8_init 21 = .ok (.aload_n 0, 1) := by decide +kernel
theorem dX8_init_22 : decode cX8_init 22 = .ok (.bipush 8, 2) := by decide +kernel
theorem dX8_init_24 : decode cX8_init 24 = .ok (.newarray .int, 2) := by decide +kernel
theorem dX8_init_26 : decode cX8_init 26 = .ok (.putfield 16, 3) := by decide +kernel
theorem dX8_init_29 : decode cX8_init 29 = .ok (.aload_n 0, 1) := by decide +kernel
theorem dX8_init_30 : decode cX8_init 30 = .ok (.bipush 60, 2) := by decide +kernel
theorem dX8_init_32 : decode cX8_init 32 = .ok (.newarray .int, 2) := by decide +kernel
theorem dX8_init_34 : decode cX8_init 34 = .ok (.putfield 19, 3) := by decide +kernel
theorem dX8_init_37 : decode cX8_init 37 = .ok (.aload_n 0, 1) := by decide +kernel
theorem dX8_init_38 : decode cX8_init 38 = .ok (.bipush 60, 2) := by decide +kernel
theorem dX8_init_40 : decode cX8_init 40 = .ok (.newarray .int, 2) := by decide +kernel
theorem dX8_init_42 : decode cX8_init 42 = .ok (.putfield 22, 3) := by decide +kernel
theorem dX8_init_45 : decode cX8_init 45 = .ok (.aload_n 0, 1) := by decide +kernel
theorem dX8_init_46 : decode cX8_init 46 = .ok (.bipush 60, 2) := by decide +kernel
theorem dX8_init_48 : decode cX8_init 48 = .ok (.newarray .int, 2) := by decide +kernel
theorem dX8_init_50 : decode cX8_init 50 = .ok (.putfield 25, 3) := by decide +kernel
theorem dX8_init_53 : decode cX8_init 53 = .ok (.aload_n 0, 1) := by decide +kernel
theorem dX8_init_54 : decode cX8_init 54 = .ok (.bipush 60, 2) := by decide +kernel
theorem dX8_init_56 : decode cX8_init 56 = .ok (.newarray .int, 2) := by decide +kernel
theorem dX8_init_58 : decode cX8_init 58 = .ok (.putfield 28, 3) := by decide +kernel
theorem dX8_init_61 : decode cX8_init 61 = .ok (.aload_n 0, 1) := by decide +kernel
theorem dX8_init_62 : decode cX8_init 62 = .ok (.bipush 60, 2) := by decide +kernel
theorem dX8_init_64 : decode cX8_init 64 = .ok (.newarray .int, 2) := by decide +kernel
theorem dX8_init_66 : decode cX8_init 66 = .ok (.putfield 31, 3) := by decide +kernel
theorem dX8_init_69 : decode cX8_init 69 = .ok (.aload_n 0, 1) := by decide +kernel
theorem dX8_init_70 : decode cX8_init 70 = .ok (.bipush 50, 2) := by decide +kernel
theorem dX8_init_72 : decode cX8_init 72 = .ok (.newarray .int, 2) := by decide +kernel
theorem dX8_init_74 : decode cX8_init 74 = .ok (.putfield 34, 3) := by decide +kernel
theorem dX8_init_77 : decode cX8_init 77 = .ok (.aload_n 0, 1) := by decide +kernel
theorem dX8_init_78 : decode cX8_init 78 = .ok (.bipush 50, 2) := by decide +kernel
theorem dX8_init_80 : decode cX8_init 80 = .ok (.newarray .long, 2) := by decide +kernel
theorem dX8_init_82 : decode cX8_init 82 = .ok (.putfield 37, 3) := by decide +kernel
theorem dX8_init_85 : decode cX8_init 85 = .ok (.aload_n 0, 1) := by decide +kernel
theorem dX8_init_86 : decode cX8_init 86 = .ok (.bipush 50, 2) := by decide +kernel
theorem dX8_init_88 : decode cX8_init 88 = .ok (.newarray .int, 2) := by decide +kernel
theorem dX8_init_90 : decode cX8_init 90 = .ok (.putfield 41, 3) := by decide +kernel
theorem dX8_init_93 : decode cX8_init 93 = .ok (.aload_n 0, 1) := by decide +kernel
theorem dX8_init_94 : decode cX8_init 94 = .ok (.sipush 201, 3) := by decide +kernel
theorem dX8_init_97 : decode cX8_init 97 = .ok (.newarray .int, 2) := by decide +kernel
theorem dX8_init_99 : decode cX8_init 99 = .ok (.putfield 44, 3) := by decide +kernel
theorem dX8_init_102 : decode cX8_init 102 = .ok (.aload_n 0, 1) := by decide +kernel
theorem dX8_init_103 : decode cX8_init 103 = .ok (.sipush 200, 3) := by decide +kernel
theorem dX8_init_106 : decode cX8_init 106 = .ok (.newarray .long, 2) := by decide +kernel
theorem dX8_init_108 : decode cX8_init 108 = .ok (.putfield 47, 3) := by decide +kernel
theorem dX8_init_111 : decode cX8_init 111 = .ok (.aload_n 0, 1) := by decide +kernel
theorem dX8_init_112 : decode cX8_init 112 = .ok (.bipush 120, 2) := by decide +kernel
theorem dX8_init_114 : decode cX8_init 114 = .ok (.newarray .int, 2) := by decide +kernel
theorem dX8_init_116 : decode cX8_init 116 = .ok (.putfield 50, 3) := by decide +kernel
theorem dX8_init_119 : decode cX8_init 119 = .ok (.aload_n 0, 1) := by decide +kernel
theorem dX8_init_120 : decode cX8_init 120 = .ok (.bipush 120, 2) := by decide +kernel
theorem dX8_init_122 : decode cX8_init 122 = .ok (.newarray .int, 2) := by decide +kernel
theorem dX8_init_124 : decode cX8_init 124 = .ok (.putfield 53, 3) := by decide +kernel
theorem dX8_init_127 : decode cX8_init 127 = .ok (.aload_n 0, 1) := by decide +kernel
theorem dX8_init_128 : decode cX8_init 128 = .ok (.bipush 31, 2) := by decide +kernel
theorem dX8_init_130 : decode cX8_init 130 = .ok (.newarray .long, 2) := by decide +kernel
theorem dX8_init_132 : decode cX8_init 132 = .ok (.putfield 56, 3) := by decide +kernel
theorem dX8_init_135 : decode cX8_init 135 = .ok (.aload_n 0, 1) := by decide +kernel
theorem dX8_init_136 : decode cX8_init 136 = .ok (.sipush 460, 3) := by decide +kernel
theorem dX8_init_139 : decode cX8_init 139 = .ok (.newarray .int, 2) := by decide +kernel
theorem dX8_init_141 : decode cX8_init 141 = .ok (.putfield 59, 3) := by decide +kernel
theorem dX8_init_144 : decode cX8_init 144 = .ok (.aload_n 0, 1) := by decide +kernel
theorem dX8_init_145 : decode cX8_init 145 = .ok (.iconst 2, 1) := by decide +kernel
theorem dX8_init_146 : decode cX8_init 146 = .ok (.newarray .boolean, 2) := by decide +kernel
theorem dX8_init_148 : decode cX8_init 148 = .ok (.putfield 62, 3) := by decide +kernel
theorem dX8_init_151 : decode cX8_init 151 = .ok (.return_, 1) := by decide +kernel
theorem dX8_in_0 : decode cX8_in 0 = .ok (.lload_n 0, 1) := by decide +kernel
theorem dX8_in_1 : decode cX8_in 1 = .ok (.lload_n 2, 1) := by decide +kernel
theorem dX8_in_2 : decode cX8_in 2 = .ok (.lcmp, 1) := by decide +kernel
theorem dX8_in_3 : decode cX8_in 3 = .ok (.ifCond .lt 14, 3) := by decide +kernel
theorem dX8_in_6 : decode cX8_in 6 = .ok (.lload_n 0, 1) := by decide +kernel
theorem dX8_in_7 : decode cX8_in 7 = .ok (.lload 4, 2) := by decide +kernel
theorem dX8_in_9 : decode cX8_in 9 = .ok (.lcmp, 1) := by decide +kernel
theorem dX8_in_10 : decode cX8_in 10 = .ok (.ifCond .gt 7, 3) := by decide +kernel
theorem dX8_in_13 : decode cX8_in 13 = .ok (.iconst 1, 1) := by decide +kernel
theorem dX8_in_14 : decode cX8_in 14 = .ok (.goto 4, 3) := by decide +kernel
theorem dX8_in_17 : decode cX8_in 17 = .ok (.iconst 0, 1) := by decide +kernel
theorem dX8_in_18 : decode cX8_in 18 = .ok (.ireturn, 1) := by decide +kernel
theorem dX8_isSet_0 : decode cX8_isSet 0 = .ok (.iload_n 0, 1) := by decide +kernel
theorem dX8_isSet_1 : decode cX8_isSet 1 = .ok (.i2l, 1) := by decide +kernel
theorem dX8_isSet_2 : decode cX8_isSet 2 = .ok (.lconst 0, 1) := by decide +kernel
theorem dX8_isSet_3 : decode cX8_isSet 3 = .ok (.ldc2_w 66, 3) := by decide +kernel
theorem dX8_isSet_6 : decode cX8_isSet 6 = .ok (.invokestatic 68, 3) := by decide +kernel
theorem dX8_isSet_9 : decode cX8_isSet 9 = .ok (.ireturn, 1) := by decide +kernel
theorem dX8_isKey_0 : decode cX8_isKey 0 = .ok (.iload_n 0, 1) := by decide +kernel
theorem dX8_isKey_1 : decode cX8_isKey 1 = .ok (.i2l, 1) := by decide +kernel
theorem dX8_isKey_2 : decode cX8_isKey 2 = .ok (.lconst 0, 1) := by decide +kernel
theorem dX8_isKey_3 : decode cX8_isKey 3 = .ok (.ldc2_w 72, 3) := by decide +kernel
theorem dX8_isKey_6 : decode cX8_isKey 6 = .ok (.invokestatic 68, 3) := by decide +kernel
theorem dX8_isKey_9 : decode cX8_isKey 9 = .ok (.ireturn, 1) := by decide +kernel
theorem dX8_has_0 : decode cX8_has 0 = .ok (.aload_n 0, 1) := by decide +kernel
theorem dX8_has_1 : decode cX8_has 1 = .ok (.getfield 7, 3) := by decide +kernel
theorem dX8_has_4 : decode cX8_has 4 = .ok (.bipush 50, 2) := by decide +kernel
theorem dX8_has_6 : decode cX8_has 6 = .ok (.iload_n 1, 1) := by decide +kernel
theorem dX8_has_7 : decode cX8_has 7 = .ok (.imul, 1) := by decide +kernel
theorem dX8_has_8 : decode cX8_has 8 = .ok (.iload_n 2, 1) := by decide +kernel
theorem dX8_has_9 : decode cX8_has 9 = .ok (.iadd, 1) := by decide +kernel
theorem dX8_has_10 : decode cX8_has 10 = .ok (.iaload, 1) := by decide +kernel
theorem dX8_has_11 : decode cX8_has 11 = .ok (.iconst 1, 1) := by decide +kernel
theorem dX8_has_12 : decode cX8_has 12 = .ok (.if_icmp .ne 7, 3) := by decide +kernel
theorem dX8_has_15 : decode cX8_has 15 = .ok (.iconst 1, 1) := by decide +kernel
theorem dX8_has_16 : decode cX8_has 16 = .ok (.goto 4, 3) := by decide +kernel
theorem dX8_has_19 : decode cX8_has 19 = .ok (.iconst 0, 1) := by decide +kernel
theorem dX8_has_20 : decode cX8_has 20 = .ok (.ireturn, 1) := by decide +kernel
theorem dX8_many_0 : decode cX8_many 0 = .ok (.iconst 0, 1) := by decide +kernel
theorem dX8_many_1 : decode cX8_many 1 = .ok (.istore_n 2, 1) := by decide +kernel
theorem dX8_many_2 : decode cX8_many 2 = .ok (.iconst 0, 1) := by decide +kernel
theorem dX8_many_3 : decode cX8_many 3 = .ok (.istore_n 3, 1) := by decide +kernel
theorem dX8_many_4 : decode cX8_many 4 = .ok (.iload_n 3, 1) := by decide +kernel
theorem dX8_many_5 : decode cX8_many 5 = .ok (.bipush 50, 2) := by decide +kernel
theorem dX8_many_7 : decode cX8_many 7 = .ok (.if_icmp .ge 23, 3) := by decide +kernel
theorem dX8_many_10 : decode cX8_many 10 = .ok (.iload_n 2, 1) := by decide +kernel
theorem dX8_many_11 : decode cX8_many 11 = .ok (.aload_n 0, 1) := by decide +kernel
theorem dX8_many_12 : decode cX8_many 12 = .ok (.getfield 7, 3) := by decide +kernel
theorem dX8_many_15 : decode cX8_many 15 = .ok (.bipush 50, 2) := by decide +kernel
theorem dX8_many_17 : decode cX8_many 17 = .ok (.iload_n 1, 1) := by decide +kernel
theorem dX8_many_18 : decode cX8_many 18 = .ok (.imul, 1) := by decide +kernel
theorem dX8_many_19 : decode cX8_many 19 = .ok (.iload_n 3, 1) := by decide +kernel
theorem dX8_many_20 : decode cX8_many 20 = .ok (.iadd, 1) := by decide +kernel
theorem dX8_many_21 : decode cX8_many 21 = .ok (.iaload, 1) := by decide +kernel
theorem dX8_many_22 : decode cX8_many 22 = .ok (.iadd, 1) := by decide +kernel
theorem dX8_many_23 : decode cX8_many 23 = .ok (.istore_n 2, 1) := by decide +kernel
theorem dX8_many_24 : decode cX8_many 24 = .ok (.iinc 3 1, 3) := by decide +kernel
theorem dX8_many_27 : decode cX8_many 27 = .ok (.goto (-23), 3) := by decide +kernel
theorem dX8_many_30 : decode cX8_many 30 = .ok (.iload_n 2, 1) := by decide +kernel
theorem dX8_many_31 : decode cX8_many 31 = .ok (.ireturn, 1) := by decide +kernel
theorem dX8_priorityBy_0 : decode cX8_priorityBy 0 = .ok (.iload_n 0, 1) := by decide +kernel
theorem dX8_priorityBy_1 : decode cX8_priorityBy 1 = .ok (.sipush 131, 3) := by decide +kernel
theorem dX8_priorityBy_4 : decode cX8_priorityBy 4 = .ok (.iload_n 1, 1) := by decide +kernel
theorem dX8_priorityBy_5 : decode cX8_priorityBy 5 = .ok (.imul, 1) := by decide +kernel
theorem dX8_priorityBy_6 : decode cX8_priorityBy 6 = .ok (.iadd, 1) := by decide +kernel
theorem dX8_priorityBy_7 : decode cX8_priorityBy 7 = .ok (.sipush 10007, 3) := by decide +kernel
theorem dX8_priorityBy_10 : decode cX8_priorityBy 10 = .ok (.irem, 1) := by decide +kernel
theorem dX8_priorityBy_11 : decode cX8_priorityBy 11 = .ok (.istore_n 2, 1) := by decide +kernel
theorem dX8_priorityBy_12 : decode cX8_priorityBy 12 = .ok (.iload_n 2, 1) := by decide +kernel
theorem dX8_priorityBy_13 : decode cX8_priorityBy 13 = .ok (.iload_n 2, 1) := by decide +kernel
theorem dX8_priorityBy_14 : decode cX8_priorityBy 14 = .ok (.imul, 1) := by decide +kernel
theorem dX8_priorityBy_15 : decode cX8_priorityBy 15 = .ok (.sipush 10007, 3) := by decide +kernel
theorem dX8_priorityBy_18 : decode cX8_priorityBy 18 = .ok (.irem, 1) := by decide +kernel
theorem dX8_priorityBy_19 : decode cX8_priorityBy 19 = .ok (.ireturn, 1) := by decide +kernel
theorem dX8_ranksBy_0 : decode cX8_ranksBy 0 = .ok (.iload_n 0, 1) := by decide +kernel
theorem dX8_ranksBy_1 : decode cX8_ranksBy 1 = .ok (.iload_n 1, 1) := by decide +kernel
theorem dX8_ranksBy_2 : decode cX8_ranksBy 2 = .ok (.invokestatic 74, 3) := by decide +kernel
theorem dX8_ranksBy_5 : decode cX8_ranksBy 5 = .ok (.istore_n 3, 1) := by decide +kernel
theorem dX8_ranksBy_6 : decode cX8_ranksBy 6 = .ok (.iload_n 0, 1) := by decide +kernel
theorem dX8_ranksBy_7 : decode cX8_ranksBy 7 = .ok (.iload_n 2, 1) := by decide +kernel
theorem dX8_ranksBy_8 : decode cX8_ranksBy 8 = .ok (.invokestatic 74, 3) := by decide +kernel
theorem dX8_ranksBy_11 : decode cX8_ranksBy 11 = .ok (.istore 4, 2) := by decide +kernel
theorem dX8_ranksBy_13 : decode cX8_ranksBy 13 = .ok (.iload_n 3, 1) := by decide +kernel
theorem dX8_ranksBy_14 : decode cX8_ranksBy 14 = .ok (.iload 4, 2) := by decide +kernel
theorem dX8_ranksBy_16 : decode cX8_ranksBy 16 = .ok (.if_icmp .gt 14, 3) := by decide +kernel
theorem dX8_ranksBy_19 : decode cX8_ranksBy 19 = .ok (.iload_n 3, 1) := by decide +kernel
theorem dX8_ranksBy_20 : decode cX8_ranksBy 20 = .ok (.iload 4, 2) := by decide +kernel
theorem dX8_ranksBy_22 : decode cX8_ranksBy 22 = .ok (.if_icmp .ne 12, 3) := by decide +kernel
theorem dX8_ranksBy_25 : decode cX8_ranksBy 25 = .ok (.iload_n 1, 1) := by decide +kernel
theorem dX8_ranksBy_26 : decode cX8_ranksBy 26 = .ok (.iload_n 2, 1) := by decide +kernel
theorem dX8_ranksBy_27 : decode cX8_ranksBy 27 = .ok (.if_icmp .ge 7, 3) := by decide +kernel
theorem dX8_ranksBy_30 : decode cX8_ranksBy 30 = .ok (.iconst 1, 1) := by decide +kernel
theorem dX8_ranksBy_31 : decode cX8_ranksBy 31 = .ok (.goto 4, 3) := by decide +kernel
theorem dX8_ranksBy_34 : decode cX8_ranksBy 34 = .ok (.iconst 0, 1) := by decide +kernel
theorem dX8_ranksBy_35 : decode cX8_ranksBy 35 = .ok (.ireturn, 1) := by decide +kernel
theorem dX8_ranks_0 : decode cX8_ranks 0 = .ok (.aload_n 0, 1) := by decide +kernel
theorem dX8_ranks_1 : decode cX8_ranks 1 = .ok (.getfield 78, 3) := by decide +kernel
theorem dX8_ranks_4 : decode cX8_ranks 4 = .ok (.iload_n 1, 1) := by decide +kernel
theorem dX8_ranks_5 : decode cX8_ranks 5 = .ok (.iload_n 2, 1) := by decide +kernel
theorem dX8_ranks_6 : decode cX8_ranks 6 = .ok (.invokestatic 82, 3) := by decide +kernel
theorem dX8_ranks_9 : decode cX8_ranks 9 = .ok (.ireturn, 1) := by decide +kernel
theorem dX8_seed_0 : decode cX8_seed 0 = .ok (.iload_n 1, 1) := by decide +kernel
theorem dX8_seed_1 : decode cX8_seed 1 = .ok (.i2l, 1) := by decide +kernel
theorem dX8_seed_2 : decode cX8_seed 2 = .ok (.lconst 0, 1) := by decide +kernel
theorem dX8_seed_3 : decode cX8_seed 3 = .ok (.ldc2_w 86, 3) := by decide +kernel
theorem dX8_seed_6 : decode cX8_seed 6 = .ok (.invokestatic 68, 3) := by decide +kernel
theorem dX8_seed_9 : decode cX8_seed 9 = .ok (.ifCond .ne 6, 3) := by decide +kernel
theorem dX8_seed_12 : decode cX8_seed 12 = .ok (.bipush (-2), 2) := by decide +kernel
theorem dX8_seed_14 : decode cX8_seed 14 = .ok (.ireturn, 1) := by decide +kernel
theorem dX8_seed_15 : decode cX8_seed 15 = .ok (.aload_n 0, 1) := by decide +kernel
theorem dX8_seed_16 : decode cX8_seed 16 = .ok (.getfield 78, 3) := by decide +kernel
theorem dX8_seed_19 : decode cX8_seed 19 = .ok (.istore_n 2, 1) := by decide +kernel
theorem dX8_seed_20 : decode cX8_seed 20 = .ok (.aload_n 0, 1) := by decide +kernel
theorem dX8_seed_21 : decode cX8_seed 21 = .ok (.iload_n 1, 1) := by decide +kernel
theorem dX8_seed_22 : decode cX8_seed 22 = .ok (.putfield 78, 3) := by decide +kernel
theorem dX8_seed_25 : decode cX8_seed 25 = .ok (.iload_n 2, 1) := by decide +kernel
theorem dX8_seed_26 : decode cX8_seed 26 = .ok (.ireturn, 1) := by decide +kernel
theorem dX8_put_0 : decode cX8_put 0 = .ok (.iload_n 1, 1) := by decide +kernel
theorem dX8_put_1 : decode cX8_put 1 = .ok (.invokestatic 88, 3) := by decide +kernel
theorem dX8_put_4 : decode cX8_put 4 = .ok (.ifCond .eq 10, 3) := by decide +kernel
theorem dX8_put_7 : decode cX8_put 7 = .ok (.iload_n 2, 1) := by decide +kernel
theorem dX8_put_8 : decode cX8_put 8 = .ok (.invokestatic 92, 3) := by decide +kernel
theorem dX8_put_11 : decode cX8_put 11 = .ok (.ifCond .ne 5, 3) := by decide +kernel
theorem dX8_put_14 : decode cX8_put 14 = .ok (.iconst (-1), 1) := by decide +kernel
theorem dX8_put_15 : decode cX8_put 15 = .ok (.ireturn, 1) := by decide +kernel
theorem dX8_put_16 : decode cX8_put 16 = .ok (.iload_n 3, 1) := by decide +kernel
theorem dX8_put_17 : decode cX8_put 17 = .ok (.ifCond .eq 25, 3) := by decide +kernel
theorem dX8_put_20 : decode cX8_put 20 = .ok (.aload_n 0, 1) := by decide +kernel
theorem dX8_put_21 : decode cX8_put 21 = .ok (.iload_n 1, 1) := by decide +kernel
theorem dX8_put_22 : decode cX8_put 22 = .ok (.iload_n 2, 1) := by decide +kernel
theorem dX8_put_23 : decode cX8_put 23 = .ok (.invokevirtual 95, 3) := by decide +kernel
theorem dX8_put_26 : decode cX8_put 26 = .ok (.ifCond .ne 16, 3) := by decide +kernel
theorem dX8_put_29 : decode cX8_put 29 = .ok (.aload_n 0, 1) := by decide +kernel
theorem dX8_put_30 : decode cX8_put 30 = .ok (.iload_n 1, 1) := by decide +kernel
theorem dX8_put_31 : decode cX8_put 31 = .ok (.invokevirtual 99, 3) := by decide +kernel
theorem dX8_put_34 : decode cX8_put 34 = .ok (.bipush 40, 2) := by decide +kernel
theorem dX8_put_36 : decode cX8_put 36 = .ok (.if_icmp .ne 6, 3) := by decide +kernel
theorem dX8_put_39 : decode cX8_put 39 = .ok (.bipush (-4), 2) := by decide +kernel
theorem dX8_put_41 : decode cX8_put 41 = .ok (.ireturn, 1) := by decide +kernel
theorem dX8_put_42 : decode cX8_put 42 = .ok (.aload_n 0, 1) := by decide +kernel
theorem dX8_put_43 : decode cX8_put 43 = .ok (.getfield 7, 3) := by decide +kernel
theorem dX8_put_46 : decode cX8_put 46 = .ok (.bipush 50, 2) := by decide +kernel
theorem dX8_put_48 : decode cX8_put 48 = .ok (.iload_n 1, 1) := by decide +kernel
theorem dX8_put_49 : decode cX8_put 49 = .ok (.imul, 1) := by decide +kernel
theorem dX8_put_50 : decode cX8_put 50 = .ok (.iload_n 2, 1) := by decide +kernel
theorem dX8_put_51 : decode cX8_put 51 = .ok (.iadd, 1) := by decide +kernel
theorem dX8_put_52 : decode cX8_put 52 = .ok (.iload_n 3, 1) := by decide +kernel
theorem dX8_put_53 : decode cX8_put 53 = .ok (.ifCond .eq 7, 3) := by decide +kernel
theorem dX8_put_56 : decode cX8_put 56 = .ok (.iconst 1, 1) := by decide +kernel
theorem dX8_put_57 : decode cX8_put 57 = .ok (.goto 4, 3) := by decide +kernel
theorem dX8_put_60 : decode cX8_put 60 = .ok (.iconst 0, 1) := by decide +kernel
theorem dX8_put_61 : decode cX8_put 61 = .ok (.iastore, 1) := by decide +kernel
theorem dX8_put_62 : decode cX8_put 62 = .ok (.aload_n 0, 1) := by decide +kernel
theorem dX8_put_63 : decode cX8_put 63 = .ok (.iload_n 1, 1) := by decide +kernel
theorem dX8_put_64 : decode cX8_put 64 = .ok (.invokevirtual 99, 3) := by decide +kernel
theorem dX8_put_67 : decode cX8_put 67 = .ok (.ireturn, 1) := by decide +kernel
theorem dX8_say_0 : decode cX8_say 0 = .ok (.iload_n 1, 1) := by decide +kernel
theorem dX8_say_1 : decode cX8_say 1 = .ok (.i2l, 1) := by decide +kernel
theorem dX8_say_2 : decode cX8_say 2 = .ok (.ldc2_w 103, 3) := by decide +kernel
theorem dX8_say_5 : decode cX8_say 5 = .ok (.ldc2_w 105, 3) := by decide +kernel
theorem dX8_say_8 : decode cX8_say 8 = .ok (.invokestatic 68, 3) := by decide +kernel
theorem dX8_say_11 : decode cX8_say 11 = .ok (.ifCond .ne 6, 3) := by decide +kernel
theorem dX8_say_14 : decode cX8_say 14 = .ok (.bipush (-2), 2) := by decide +kernel
theorem dX8_say_16 : decode cX8_say 16 = .ok (.ireturn, 1) := by decide +kernel
theorem dX8_say_17 : decode cX8_say 17 = .ok (.aload_n 0, 1) := by decide +kernel
theorem dX8_say_18 : decode cX8_say 18 = .ok (.getfield 107, 3) := by decide +kernel
theorem dX8_say_21 : decode cX8_say 21 = .ok (.bipush 60, 2) := by decide +kernel
theorem dX8_say_23 : decode cX8_say 23 = .ok (.if_icmp .ne 6, 3) := by decide +kernel
theorem dX8_say_26 : decode cX8_say 26 = .ok (.bipush (-4), 2) := by decide +kernel
theorem dX8_say_28 : decode cX8_say 28 = .ok (.ireturn, 1) := by decide +kernel
theorem dX8_say_29 : decode cX8_say 29 = .ok (.aload_n 0, 1) := by decide +kernel
theorem dX8_say_30 : decode cX8_say 30 = .ok (.getfield 19, 3) := by decide +kernel
theorem dX8_say_33 : decode cX8_say 33 = .ok (.aload_n 0, 1) := by decide +kernel
theorem dX8_say_34 : decode cX8_say 34 = .ok (.getfield 107, 3) := by decide +kernel
theorem dX8_say_37 : decode cX8_say 37 = .ok (.iload_n 1, 1) := by decide +kernel
theorem dX8_say_38 : decode cX8_say 38 = .ok (.iastore, 1) := by decide +kernel
theorem dX8_say_39 : decode cX8_say 39 = .ok (.aload_n 0, 1) := by decide +kernel
theorem dX8_say_40 : decode cX8_say 40 = .ok (.dup, 1) := by decide +kernel
theorem dX8_say_41 : decode cX8_say 41 = .ok (.getfield 107, 3) := by decide +kernel
theorem dX8_say_44 : decode cX8_say 44 = .ok (.iconst 1, 1) := by decide +kernel
theorem dX8_say_45 : decode cX8_say 45 = .ok (.iadd, 1) := by decide +kernel
theorem dX8_say_46 : decode cX8_say 46 = .ok (.putfield 107, 3) := by decide +kernel
theorem dX8_say_49 : decode cX8_say 49 = .ok (.aload_n 0, 1) := by decide +kernel
theorem dX8_say_50 : decode cX8_say 50 = .ok (.getfield 107, 3) := by decide +kernel
theorem dX8_say_53 : decode cX8_say 53 = .ok (.ireturn, 1) := by decide +kernel
theorem dX8_wipe_0 : decode cX8_wipe 0 = .ok (.aload_n 0, 1) := by decide +kernel
theorem dX8_wipe_1 : decode cX8_wipe 1 = .ok (.getfield 107, 3) := by decide +kernel
theorem dX8_wipe_4 : decode cX8_wipe 4 = .ok (.istore_n 1, 1) := by decide +kernel
theorem dX8_wipe_5 : decode cX8_wipe 5 = .ok (.aload_n 0, 1) := by decide +kernel
theorem dX8_wipe_6 : decode cX8_wipe 6 = .ok (.iconst 0, 1) := by decide +kernel
theorem dX8_wipe_7 : decode cX8_wipe 7 = .ok (.putfield 107, 3) := by decide +kernel
theorem dX8_wipe_10 : decode cX8_wipe 10 = .ok (.iload_n 1, 1) := by decide +kernel
theorem dX8_wipe_11 : decode cX8_wipe 11 = .ok (.ireturn, 1) := by decide +kernel
theorem dX8_ends_0 : decode cX8_ends 0 = .ok (.aload_n 0, 1) := by decide +kernel
theorem dX8_ends_1 : decode cX8_ends 1 = .ok (.dup, 1) := by decide +kernel
theorem dX8_ends_2 : decode cX8_ends 2 = .ok (.getfield 110, 3) := by decide +kernel
theorem dX8_ends_5 : decode cX8_ends 5 = .ok (.iconst 1, 1) := by decide +kernel
theorem dX8_ends_6 : decode cX8_ends 6 = .ok (.iadd, 1) := by decide +kernel
theorem dX8_ends_7 : decode cX8_ends 7 = .ok (.putfield 110, 3) := by decide +kernel
theorem dX8_ends_10 : decode cX8_ends 10 = .ok (.iconst 0, 1) := by decide +kernel
theorem dX8_ends_11 : decode cX8_ends 11 = .ok (.ireturn, 1) := by decide +kernel
theorem dX8_begin_0 : decode cX8_begin 0 = .ok (.aload_n 0, 1) := by decide +kernel
theorem dX8_begin_1 : decode cX8_begin 1 = .ok (.getfield 25, 3) := by decide +kernel
theorem dX8_begin_4 : decode cX8_begin 4 = .ok (.aload_n 0, 1) := by decide +kernel
theorem dX8_begin_5 : decode cX8_begin 5 = .ok (.getfield 110, 3) := by decide +kernel
theorem dX8_begin_8 : decode cX8_begin 8 = .ok (.iload_n 1, 1) := by decide +kernel
theorem dX8_begin_9 : decode cX8_begin 9 = .ok (.i2l, 1) := by decide +kernel
theorem dX8_begin_10 : decode cX8_begin 10 = .ok (.ldc2_w 113, 3) := by decide +kernel
theorem dX8_begin_13 : decode cX8_begin 13 = .ok (.ldc2_w 115, 3) := by decide +kernel
theorem dX8_begin_16 : decode cX8_begin 16 = .ok (.invokestatic 68, 3) := by decide +kernel
theorem dX8_begin_19 : decode cX8_begin 19 = .ok (.ifCond .eq 10, 3) := by decide +kernel
theorem dX8_begin_22 : decode cX8_begin 22 = .ok (.iload_n 1, 1) := by decide +kernel
theorem dX8_begin_23 : decode cX8_begin 23 = .ok (.bipush 65, 2) := by decide +kernel
theorem dX8_begin_25 : decode cX8_begin 25 = .ok (.isub, 1) := by decide +kernel
theorem dX8_begin_26 : decode cX8_begin 26 = .ok (.goto 4, 3) := by decide +kernel
theorem dX8_begin_29 : decode cX8_begin 29 = .ok (.iconst 0, 1) := by decide +kernel
theorem dX8_begin_30 : decode cX8_begin 30 = .ok (.iastore, 1) := by decide +kernel
theorem dX8_begin_31 : decode cX8_begin 31 = .ok (.aload_n 0, 1) := by decide +kernel
theorem dX8_begin_32 : decode cX8_begin 32 = .ok (.getfield 28, 3) := by decide +kernel
theorem dX8_begin_35 : decode cX8_begin 35 = .ok (.aload_n 0, 1) := by decide +kernel
theorem dX8_begin_36 : decode cX8_begin 36 = .ok (.getfield 110, 3) := by decide +kernel
theorem dX8_begin_39 : decode cX8_begin 39 = .ok (.iconst 0, 1) := by decide +kernel
theorem dX8_begin_40 : decode cX8_begin 40 = .ok (.iastore, 1) := by decide +kernel
theorem dX8_begin_41 : decode cX8_begin 41 = .ok (.aload_n 0, 1) := by decide +kernel
theorem dX8_begin_42 : decode cX8_begin 42 = .ok (.getfield 31, 3) := by decide +kernel
theorem dX8_begin_45 : decode cX8_begin 45 = .ok (.aload_n 0, 1) := by decide +kernel
theorem dX8_begin_46 : decode cX8_begin 46 = .ok (.getfield 110, 3) := by decide +kernel
theorem dX8_begin_49 : decode cX8_begin 49 = .ok (.iconst 0, 1) := by decide +kernel
theorem dX8_begin_50 : decode cX8_begin 50 = .ok (.iastore, 1) := by decide +kernel
theorem dX8_begin_51 : decode cX8_begin 51 = .ok (.aload_n 0, 1) := by decide +kernel
theorem dX8_begin_52 : decode cX8_begin 52 = .ok (.getfield 22, 3) := by decide +kernel
theorem dX8_begin_55 : decode cX8_begin 55 = .ok (.aload_n 0, 1) := by decide +kernel
theorem dX8_begin_56 : decode cX8_begin 56 = .ok (.getfield 110, 3) := by decide +kernel
theorem dX8_begin_59 : decode cX8_begin 59 = .ok (.bipush 7, 2) := by decide +kernel
theorem dX8_begin_61 : decode cX8_begin 61 = .ok (.iastore, 1) := by decide +kernel
theorem dX8_begin_62 : decode cX8_begin 62 = .ok (.iload_n 1, 1) := by decide +kernel
theorem dX8_begin_63 : decode cX8_begin 63 = .ok (.bipush 33, 2) := by decide +kernel
theorem dX8_begin_65 : decode cX8_begin 65 = .ok (.if_icmp .ne 10, 3) := by decide +kernel
theorem dX8_begin_68 : decode cX8_begin 68 = .ok (.aload_n 0, 1) := by decide +kernel
theorem dX8_begin_69 : decode cX8_begin 69 = .ok (.invokevirtual 117, 3) := by decide +kernel
theorem dX8_begin_72 : decode cX8_begin 72 = .ok (.goto 23, 3) := by decide +kernel
theorem dX8_begin_75 : decode cX8_begin 75 = .ok (.iload_n 1, 1) := by decide +kernel
theorem dX8_begin_76 : decode cX8_begin 76 = .ok (.i2l, 1) := by decide +kernel
theorem dX8_begin_77 : decode cX8_begin 77 = .ok (.ldc2_w 113, 3) := by decide +kernel
theorem dX8_begin_80 : decode cX8_begin 80 = .ok (.ldc2_w 115, 3) := by decide +kernel
theorem dX8_begin_83 : decode cX8_begin 83 = .ok (.invokestatic 68, 3) := by decide +kernel
theorem dX8_begin_86 : decode cX8_begin 86 = .ok (.ifCond .eq 7, 3) := by decide +kernel
theorem dX8_begin_89 : decode cX8_begin 89 = .ok (.iconst 1, 1) := by decide +kernel
theorem dX8_begin_90 : decode cX8_begin 90 = .ok (.goto 5, 3) := by decide +kernel
theorem dX8_begin_93 : decode cX8_begin 93 = .ok (.bipush (-6), 2) := by decide +kernel
theorem dX8_begin_95 : decode cX8_begin 95 = .ok (.ireturn, 1) := by decide +kernel
theorem dX8_deed_0 : decode cX8_deed 0 = .ok (.aload_n 0, 1) := by decide +kernel
theorem dX8_deed_1 : decode cX8_deed 1 = .ok (.getfield 22, 3) := by decide +kernel
theorem dX8_deed_4 : decode cX8_deed 4 = .ok (.aload_n 0, 1) := by decide +kernel
theorem dX8_deed_5 : decode cX8_deed 5 = .ok (.getfield 110, 3) := by decide +kernel
theorem dX8_deed_8 : decode cX8_deed 8 = .ok (.iload_n 1, 1) := by decide +kernel
theorem dX8_deed_9 : decode cX8_deed 9 = .ok (.iastore, 1) := by decide +kernel
theorem dX8_deed_10 : decode cX8_deed 10 = .ok (.iload_n 2, 1) := by decide +kernel
theorem dX8_deed_11 : decode cX8_deed 11 = .ok (.ireturn, 1) := by decide +kernel
theorem dX8_begun_0 : decode cX8_begun 0 = .ok (.iload_n 1, 1) := by decide +kernel
theorem dX8_begun_1 : decode cX8_begun 1 = .ok (.lookupswitch 117 #[(38, 88), (43, 67), (45, 74), (47, 81), (61, 95), (124, 102), (126, 109)], 67) := by decide +kernel
theorem dX8_begun_68 : decode cX8_begun 68 = .ok (.aload_n 0, 1) := by decide +kernel
theorem dX8_begun_69 : decode cX8_begun 69 = .ok (.iconst 0, 1) := by decide +kernel
theorem dX8_begun_70 : decode cX8_begun 70 = .ok (.iconst 2, 1) := by decide +kernel
theorem dX8_begun_71 : decode cX8_begun 71 = .ok (.invokevirtual 121, 3) := by decide +kernel
theorem dX8_begun_74 : decode cX8_begun 74 = .ok (.ireturn, 1) := by decide +kernel
theorem dX8_begun_75 : decode cX8_begun 75 = .ok (.aload_n 0, 1) := by decide +kernel
theorem dX8_begun_76 : decode cX8_begun 76 = .ok (.iconst 1, 1) := by decide +kernel
theorem dX8_begun_77 : decode cX8_begun 77 = .ok (.iconst 2, 1) := by decide +kernel
theorem dX8_begun_78 : decode cX8_begun 78 = .ok (.invokevirtual 121, 3) := by decide +kernel
theorem dX8_begun_81 : decode cX8_begun 81 = .ok (.ireturn, 1) := by decide +kernel
theorem dX8_begun_82 : decode cX8_begun 82 = .ok (.aload_n 0, 1) := by decide +kernel
theorem dX8_begun_83 : decode cX8_begun 83 = .ok (.iconst 2, 1) := by decide +kernel
theorem dX8_begun_84 : decode cX8_begun 84 = .ok (.iconst 2, 1) := by decide +kernel
theorem dX8_begun_85 : decode cX8_begun 85 = .ok (.invokevirtual 121, 3) := by decide +kernel
theorem dX8_begun_88 : decode cX8_begun 88 = .ok (.ireturn, 1) := by decide +kernel
theorem dX8_begun_89 : decode cX8_begun 89 = .ok (.aload_n 0, 1) := by decide +kernel
theorem dX8_begun_90 : decode cX8_begun 90 = .ok (.iconst 3, 1) := by decide +kernel
theorem dX8_begun_91 : decode cX8_begun 91 = .ok (.iconst 4, 1) := by decide +kernel
theorem dX8_begun_92 : decode cX8_begun 92 = .ok (.invokevirtual 121, 3) := by decide +kernel
theorem dX8_begun_95 : decode cX8_begun 95 = .ok (.ireturn, 1) := by decide +kernel
theorem dX8_begun_96 : decode cX8_begun 96 = .ok (.aload_n 0, 1) := by decide +kernel
theorem dX8_begun_97 : decode cX8_begun 97 = .ok (.iconst 4, 1) := by decide +kernel
theorem dX8_begun_98 : decode cX8_begun 98 = .ok (.iconst 4, 1) := by decide +kernel
theorem dX8_begun_99 : decode cX8_begun 99 = .ok (.invokevirtual 121, 3) := by decide +kernel
theorem dX8_begun_102 : decode cX8_begun 102 = .ok (.ireturn, 1) := by decide +kernel
theorem dX8_begun_103 : decode cX8_begun 103 = .ok (.aload_n 0, 1) := by decide +kernel
theorem dX8_begun_104 : decode cX8_begun 104 = .ok (.iconst 5, 1) := by decide +kernel
theorem dX8_begun_105 : decode cX8_begun 105 = .ok (.iconst 4, 1) := by decide +kernel
theorem dX8_begun_106 : decode cX8_begun 106 = .ok (.invokevirtual 121, 3) := by decide +kernel
theorem dX8_begun_109 : decode cX8_begun 109 = .ok (.ireturn, 1) := by decide +kernel
theorem dX8_begun_110 : decode cX8_begun 110 = .ok (.aload_n 0, 1) := by decide +kernel
theorem dX8_begun_111 : decode cX8_begun 111 = .ok (.bipush 6, 2) := by decide +kernel
theorem dX8_begun_113 : decode cX8_begun 113 = .ok (.iconst 4, 1) := by decide +kernel
theorem dX8_begun_114 : decode cX8_begun 114 = .ok (.invokevirtual 121, 3) := by decide +kernel
theorem dX8_begun_117 : decode cX8_begun 117 = .ok (.ireturn, 1) := by decide +kernel
theorem dX8_begun_118 : decode cX8_begun 118 = .ok (.bipush (-6), 2) := by decide +kernel
theorem dX8_begun_120 : decode cX8_begun 120 = .ok (.ireturn, 1) := by decide +kernel
theorem dX8_figure_0 : decode cX8_figure 0 = .ok (.aload_n 0, 1) := by decide +kernel
theorem dX8_figure_1 : decode cX8_figure 1 = .ok (.getfield 28, 3) := by decide +kernel
theorem dX8_figure_4 : decode cX8_figure 4 = .ok (.aload_n 0, 1) := by decide +kernel
theorem dX8_figure_5 : decode cX8_figure 5 = .ok (.getfield 110, 3) := by decide +kernel
theorem dX8_figure_8 : decode cX8_figure 8 = .ok (.bipush 10, 2) := by decide +kernel
theorem dX8_figure_10 : decode cX8_figure 10 = .ok (.aload_n 0, 1) := by decide +kernel
theorem dX8_figure_11 : decode cX8_figure 11 = .ok (.getfield 28, 3) := by decide +kernel
theorem dX8_figure_14 : decode cX8_figure 14 = .ok (.aload_n 0, 1) := by decide +kernel
theorem dX8_figure_15 : decode cX8_figure 15 = .ok (.getfield 110, 3) := by decide +kernel
theorem dX8_figure_18 : decode cX8_figure 18 = .ok (.iaload, 1) := by decide +kernel
theorem dX8_figure_19 : decode cX8_figure 19 = .ok (.imul, 1) := by decide +kernel
theorem dX8_figure_20 : decode cX8_figure 20 = .ok (.iload_n 1, 1) := by decide +kernel
theorem dX8_figure_21 : decode cX8_figure 21 = .ok (.iadd, 1) := by decide +kernel
theorem dX8_figure_22 : decode cX8_figure 22 = .ok (.bipush 48, 2) := by decide +kernel
theorem dX8_figure_24 : decode cX8_figure 24 = .ok (.isub, 1) := by decide +kernel
theorem dX8_figure_25 : decode cX8_figure 25 = .ok (.iastore, 1) := by decide +kernel
theorem dX8_figure_26 : decode cX8_figure 26 = .ok (.iload_n 1, 1) := by decide +kernel
theorem dX8_figure_27 : decode cX8_figure 27 = .ok (.i2l, 1) := by decide +kernel
theorem dX8_figure_28 : decode cX8_figure 28 = .ok (.ldc2_w 124, 3) := by decide +kernel
theorem dX8_figure_31 : decode cX8_figure 31 = .ok (.iload_n 2, 1) := by decide +kernel
theorem dX8_figure_32 : decode cX8_figure 32 = .ok (.iconst 2, 1) := by decide +kernel
theorem dX8_figure_33 : decode cX8_figure 33 = .ok (.if_icmp .ne 9, 3) := by decide +kernel
theorem dX8_figure_36 : decode cX8_figure 36 = .ok (.ldc2_w 126, 3) := by decide +kernel
theorem dX8_figure_39 : decode cX8_figure 39 = .ok (.goto 6, 3) := by decide +kernel
theorem dX8_figure_42 : decode cX8_figure 42 = .ok (.ldc2_w 128, 3) := by decide +kernel
theorem dX8_figure_45 : decode cX8_figure 45 = .ok (.invokestatic 68, 3) := by decide +kernel
theorem dX8_figure_48 : decode cX8_figure 48 = .ok (.istore_n 3, 1) := by decide +kernel
theorem dX8_figure_49 : decode cX8_figure 49 = .ok (.iload_n 3, 1) := by decide +kernel
theorem dX8_figure_50 : decode cX8_figure 50 = .ok (.ifCond .ne 8, 3) := by decide +kernel
theorem dX8_figure_53 : decode cX8_figure 53 = .ok (.bipush (-6), 2) := by decide +kernel
theorem dX8_figure_55 : decode cX8_figure 55 = .ok (.goto 33, 3) := by decide +kernel
theorem dX8_figure_58 : decode cX8_figure 58 = .ok (.iload_n 2, 1) := by decide +kernel
theorem dX8_figure_59 : decode cX8_figure 59 = .ok (.iconst 2, 1) := by decide +kernel
theorem dX8_figure_60 : decode cX8_figure 60 = .ok (.if_icmp .ne 7, 3) := by decide +kernel
theorem dX8_figure_63 : decode cX8_figure 63 = .ok (.iconst 3, 1) := by decide +kernel
theorem dX8_figure_64 : decode cX8_figure 64 = .ok (.goto 24, 3) := by decide +kernel
theorem dX8_figure_67 : decode cX8_figure 67 = .ok (.aload_n 0, 1) := by decide +kernel
theorem dX8_figure_68 : decode cX8_figure 68 = .ok (.getfield 22, 3) := by decide +kernel
theorem dX8_figure_71 : decode cX8_figure 71 = .ok (.aload_n 0, 1) := by decide +kernel
theorem dX8_figure_72 : decode cX8_figure 72 = .ok (.getfield 110, 3) := by decide +kernel
theorem dX8_figure_75 : decode cX8_figure 75 = .ok (.iaload, 1) := by decide +kernel
theorem dX8_figure_76 : decode cX8_figure 76 = .ok (.iconst 2, 1) := by decide +kernel
theorem dX8_figure_77 : decode cX8_figure 77 = .ok (.if_icmp .ne 7, 3) := by decide +kernel
theorem dX8_figure_80 : decode cX8_figure 80 = .ok (.iconst 4, 1) := by decide +kernel
theorem dX8_figure_81 : decode cX8_figure 81 = .ok (.goto 7, 3) := by decide +kernel
theorem dX8_figure_84 : decode cX8_figure 84 = .ok (.aload_n 0, 1) := by decide +kernel
theorem dX8_figure_85 : decode cX8_figure 85 = .ok (.invokevirtual 117, 3) := by decide +kernel
theorem dX8_figure_88 : decode cX8_figure 88 = .ok (.ireturn, 1) := by decide +kernel
theorem dX8_another_0 : decode cX8_another 0 = .ok (.aload_n 0, 1) := by decide +kernel
theorem dX8_another_1 : decode cX8_another 1 = .ok (.getfield 31, 3) := by decide +kernel
theorem dX8_another_4 : decode cX8_another 4 = .ok (.aload_n 0, 1) := by decide +kernel
theorem dX8_another_5 : decode cX8_another 5 = .ok (.getfield 110, 3) := by decide +kernel
theorem dX8_another_8 : decode cX8_another 8 = .ok (.iload_n 1, 1) := by decide +kernel
theorem dX8_another_9 : decode cX8_another 9 = .ok (.bipush 65, 2) := by decide +kernel
theorem dX8_another_11 : decode cX8_another 11 = .ok (.isub, 1) := by decide +kernel
theorem dX8_another_12 : decode cX8_another 12 = .ok (.iastore, 1) := by decide +kernel
theorem dX8_another_13 : decode cX8_another 13 = .ok (.iload_n 1, 1) := by decide +kernel
theorem dX8_another_14 : decode cX8_another 14 = .ok (.i2l, 1) := by decide +kernel
theorem dX8_another_15 : decode cX8_another 15 = .ok (.ldc2_w 113, 3) := by decide +kernel
theorem dX8_another_18 : decode cX8_another 18 = .ok (.ldc2_w 115, 3) := by decide +kernel
theorem dX8_another_21 : decode cX8_another 21 = .ok (.invokestatic 68, 3) := by decide +kernel
theorem dX8_another_24 : decode cX8_another 24 = .ok (.ifCond .eq 10, 3) := by decide +kernel
theorem dX8_another_27 : decode cX8_another 27 = .ok (.aload_n 0, 1) := by decide +kernel
theorem dX8_another_28 : decode cX8_another 28 = .ok (.invokevirtual 117, 3) := by decide +kernel
theorem dX8_another_31 : decode cX8_another 31 = .ok (.goto 5, 3) := by decide +kernel
theorem dX8_another_34 : decode cX8_another 34 = .ok (.bipush (-6), 2) := by decide +kernel
theorem dX8_another_36 : decode cX8_another 36 = .ok (.ireturn, 1) := by decide +kernel
theorem dX8_readOn_0 : decode cX8_readOn 0 = .ok (.iload_n 1, 1) := by decide +kernel
theorem dX8_readOn_1 : decode cX8_readOn 1 = .ok (.ifCond .ne 11, 3) := by decide +kernel
theorem dX8_readOn_4 : decode cX8_readOn 4 = .ok (.aload_n 0, 1) := by decide +kernel
theorem dX8_readOn_5 : decode cX8_readOn 5 = .ok (.iload_n 2, 1) := by decide +kernel
theorem dX8_readOn_6 : decode cX8_readOn 6 = .ok (.invokevirtual 130, 3) := by decide +kernel
theorem dX8_readOn_9 : decode cX8_readOn 9 = .ok (.goto 35, 3) := by decide +kernel
theorem dX8_readOn_12 : decode cX8_readOn 12 = .ok (.iload_n 1, 1) := by decide +kernel
theorem dX8_readOn_13 : decode cX8_readOn 13 = .ok (.iconst 1, 1) := by decide +kernel
theorem dX8_readOn_14 : decode cX8_readOn 14 = .ok (.if_icmp .ne 11, 3) := by decide +kernel
theorem dX8_readOn_17 : decode cX8_readOn 17 = .ok (.aload_n 0, 1) := by decide +kernel
theorem dX8_readOn_18 : decode cX8_readOn 18 = .ok (.iload_n 2, 1) := by decide +kernel
theorem dX8_readOn_19 : decode cX8_readOn 19 = .ok (.invokevirtual 133, 3) := by decide +kernel
theorem dX8_readOn_22 : decode cX8_readOn 22 = .ok (.goto 22, 3) := by decide +kernel
theorem dX8_readOn_25 : decode cX8_readOn 25 = .ok (.iload_n 1, 1) := by decide +kernel
theorem dX8_readOn_26 : decode cX8_readOn 26 = .ok (.iconst 4, 1) := by decide +kernel
theorem dX8_readOn_27 : decode cX8_readOn 27 = .ok (.if_icmp .ne 11, 3) := by decide +kernel
theorem dX8_readOn_30 : decode cX8_readOn 30 = .ok (.aload_n 0, 1) := by decide +kernel
theorem dX8_readOn_31 : decode cX8_readOn 31 = .ok (.iload_n 2, 1) := by decide +kernel
theorem dX8_readOn_32 : decode cX8_readOn 32 = .ok (.invokevirtual 136, 3) := by decide +kernel
theorem dX8_readOn_35 : decode cX8_readOn 35 = .ok (.goto 9, 3) := by decide +kernel
theorem dX8_readOn_38 : decode cX8_readOn 38 = .ok (.aload_n 0, 1) := by decide +kernel
theorem dX8_readOn_39 : decode cX8_readOn 39 = .ok (.iload_n 2, 1) := by decide +kernel
theorem dX8_readOn_40 : decode cX8_readOn 40 = .ok (.iload_n 1, 1) := by decide +kernel
theorem dX8_readOn_41 : decode cX8_readOn 41 = .ok (.invokevirtual 139, 3) := by decide +kernel
theorem dX8_readOn_44 : decode cX8_readOn 44 = .ok (.ireturn, 1) := by decide +kernel
theorem dX8_fault_0 : decode cX8_fault 0 = .ok (.aload_n 0, 1) := by decide +kernel
theorem dX8_fault_1 : decode cX8_fault 1 = .ok (.iconst 0, 1) := by decide +kernel
theorem dX8_fault_2 : decode cX8_fault 2 = .ok (.putfield 110, 3) := by decide +kernel
theorem dX8_fault_5 : decode cX8_fault 5 = .ok (.iconst 0, 1) := by decide +kernel
theorem dX8_fault_6 : decode cX8_fault 6 = .ok (.istore_n 1, 1) := by decide +kernel
theorem dX8_fault_7 : decode cX8_fault 7 = .ok (.iconst 0, 1) := by decide +kernel
theorem dX8_fault_8 : decode cX8_fault 8 = .ok (.istore_n 2, 1) := by decide +kernel
theorem dX8_fault_9 : decode cX8_fault 9 = .ok (.iload_n 2, 1) := by decide +kernel
theorem dX8_fault_10 : decode cX8_fault 10 = .ok (.aload_n 0, 1) := by decide +kernel
theorem dX8_fault_11 : decode cX8_fault 11 = .ok (.getfield 107, 3) := by decide +kernel
theorem dX8_fault_14 : decode cX8_fault 14 = .ok (.if_icmp .ge 27, 3) := by decide +kernel
theorem dX8_fault_17 : decode cX8_fault 17 = .ok (.aload_n 0, 1) := by decide +kernel
theorem dX8_fault_18 : decode cX8_fault 18 = .ok (.iload_n 1, 1) := by decide +kernel
theorem dX8_fault_19 : decode cX8_fault 19 = .ok (.aload_n 0, 1) := by decide +kernel
theorem dX8_fault_20 : decode cX8_fault 20 = .ok (.getfield 19, 3) := by decide +kernel
theorem dX8_fault_23 : decode cX8_fault 23 = .ok (.iload_n 2, 1) := by decide +kernel
theorem dX8_fault_24 : decode cX8_fault 24 = .ok (.iaload, 1) := by decide +kernel
theorem dX8_fault_25 : decode cX8_fault 25 = .ok (.invokevirtual 142, 3) := by decide +kernel
theorem dX8_fault_28 : decode cX8_fault 28 = .ok (.istore_n 1, 1) := by decide +kernel
theorem dX8_fault_29 : decode cX8_fault 29 = .ok (.iload_n 1, 1) := by decide +kernel
theorem dX8_fault_30 : decode cX8_fault 30 = .ok (.ifCond .ge 5, 3) := by decide +kernel
theorem dX8_fault_33 : decode cX8_fault 33 = .ok (.iload_n 2, 1) := by decide +kernel
theorem dX8_fault_34 : decode cX8_fault 34 = .ok (.ireturn, 1) := by decide +kernel
theorem dX8_fault_35 : decode cX8_fault 35 = .ok (.iinc 2 1, 3) := by decide +kernel
theorem dX8_fault_38 : decode cX8_fault 38 = .ok (.goto (-29), 3) := by decide +kernel
theorem dX8_fault_41 : decode cX8_fault 41 = .ok (.iload_n 1, 1) := by decide +kernel
theorem dX8_fault_42 : decode cX8_fault 42 = .ok (.ifCond .ne 8, 3) := by decide +kernel
theorem dX8_fault_45 : decode cX8_fault 45 = .ok (.bipush (-6), 2) := by decide +kernel
theorem dX8_fault_47 : decode cX8_fault 47 = .ok (.goto 7, 3) := by decide +kernel
theorem dX8_fault_50 : decode cX8_fault 50 = .ok (.aload_n 0, 1) := by decide +kernel
theorem dX8_fault_51 : decode cX8_fault 51 = .ok (.getfield 107, 3) := by decide +kernel
theorem dX8_fault_54 : decode cX8_fault 54 = .ok (.ireturn, 1) := by decide +kernel
theorem dX8_ofBoth_0 : decode cX8_ofBoth 0 = .ok (.iconst 0, 1) := by decide +kernel
theorem dX8_ofBoth_1 : decode cX8_ofBoth 1 = .ok (.istore_n 3, 1) := by decide +kernel
theorem dX8_ofBoth_2 : decode cX8_ofBoth 2 = .ok (.iconst 0, 1) := by decide +kernel
theorem dX8_ofBoth_3 : decode cX8_ofBoth 3 = .ok (.istore 4, 2) := by decide +kernel
theorem dX8_ofBoth_5 : decode cX8_ofBoth 5 = .ok (.iload 4, 2) := by decide +kernel
theorem dX8_ofBoth_7 : decode cX8_ofBoth 7 = .ok (.bipush 50, 2) := by decide +kernel
theorem dX8_ofBoth_9 : decode cX8_ofBoth 9 = .ok (.if_icmp .ge 37, 3) := by decide +kernel
theorem dX8_ofBoth_12 : decode cX8_ofBoth 12 = .ok (.iload_n 3, 1) := by decide +kernel
theorem dX8_ofBoth_13 : decode cX8_ofBoth 13 = .ok (.aload_n 0, 1) := by decide +kernel
theorem dX8_ofBoth_14 : decode cX8_ofBoth 14 = .ok (.iload_n 1, 1) := by decide +kernel
theorem dX8_ofBoth_15 : decode cX8_ofBoth 15 = .ok (.iload 4, 2) := by decide +kernel
theorem dX8_ofBoth_17 : decode cX8_ofBoth 17 = .ok (.invokevirtual 95, 3) := by decide +kernel
theorem dX8_ofBoth_20 : decode cX8_ofBoth 20 = .ok (.ifCond .ne 13, 3) := by decide +kernel
theorem dX8_ofBoth_23 : decode cX8_ofBoth 23 = .ok (.aload_n 0, 1) := by decide +kernel
theorem dX8_ofBoth_24 : decode cX8_ofBoth 24 = .ok (.iload_n 2, 1) := by decide +kernel
theorem dX8_ofBoth_25 : decode cX8_ofBoth 25 = .ok (.iload 4, 2) := by decide +kernel
theorem dX8_ofBoth_27 : decode cX8_ofBoth 27 = .ok (.invokevirtual 95, 3) := by decide +kernel
theorem dX8_ofBoth_30 : decode cX8_ofBoth 30 = .ok (.ifCond .eq 7, 3) := by decide +kernel
theorem dX8_ofBoth_33 : decode cX8_ofBoth 33 = .ok (.iconst 1, 1) := by decide +kernel
theorem dX8_ofBoth_34 : decode cX8_ofBoth 34 = .ok (.goto 4, 3) := by decide +kernel
theorem dX8_ofBoth_37 : decode cX8_ofBoth 37 = .ok (.iconst 0, 1) := by decide +kernel
theorem dX8_ofBoth_38 : decode cX8_ofBoth 38 = .ok (.iadd, 1) := by decide +kernel
theorem dX8_ofBoth_39 : decode cX8_ofBoth 39 = .ok (.istore_n 3, 1) := by decide +kernel
theorem dX8_ofBoth_40 : decode cX8_ofBoth 40 = .ok (.iinc 4 1, 3) := by decide +kernel
theorem dX8_ofBoth_43 : decode cX8_ofBoth 43 = .ok (.goto (-38), 3) := by decide +kernel
theorem dX8_ofBoth_46 : decode cX8_ofBoth 46 = .ok (.iload_n 3, 1) := by decide +kernel
theorem dX8_ofBoth_47 : decode cX8_ofBoth 47 = .ok (.ireturn, 1) := by decide +kernel
theorem dX8_isBeyond_0 : decode cX8_isBeyond 0 = .ok (.bipush (-6), 2) := by decide +kernel
theorem dX8_isBeyond_2 : decode cX8_isBeyond 2 = .ok (.istore_n 3, 1) := by decide +kernel
theorem dX8_isBeyond_3 : decode cX8_isBeyond 3 = .ok (.iconst 0, 1) := by decide +kernel
theorem dX8_isBeyond_4 : decode cX8_isBeyond 4 = .ok (.istore 4, 2) := by decide +kernel
theorem dX8_isBeyond_6 : decode cX8_isBeyond 6 = .ok (.iload 4, 2) := by decide +kernel
theorem dX8_isBeyond_8 : decode cX8_isBeyond 8 = .ok (.bipush 50, 2) := by decide +kernel
theorem dX8_isBeyond_10 : decode cX8_isBeyond 10 = .ok (.if_icmp .ge 26, 3) := by decide +kernel
theorem dX8_isBeyond_13 : decode cX8_isBeyond 13 = .ok (.aload_n 0, 1) := by decide +kernel
theorem dX8_isBeyond_14 : decode cX8_isBeyond 14 = .ok (.iload_n 1, 1) := by decide +kernel
theorem dX8_isBeyond_15 : decode cX8_isBeyond 15 = .ok (.iload 4, 2) := by decide +kernel
theorem dX8_isBeyond_17 : decode cX8_isBeyond 17 = .ok (.invokevirtual 95, 3) := by decide +kernel
theorem dX8_isBeyond_20 : decode cX8_isBeyond 20 = .ok (.ifCond .eq 8, 3) := by decide +kernel
theorem dX8_isBeyond_23 : decode cX8_isBeyond 23 = .ok (.iload 4, 2) := by decide +kernel
theorem dX8_isBeyond_25 : decode cX8_isBeyond 25 = .ok (.goto 4, 3) := by decide +kernel
theorem dX8_isBeyond_28 : decode cX8_isBeyond 28 = .ok (.iload_n 3, 1) := by decide +kernel
theorem dX8_isBeyond_29 : decode cX8_isBeyond 29 = .ok (.istore_n 3, 1) := by decide +kernel
theorem dX8_isBeyond_30 : decode cX8_isBeyond 30 = .ok (.iinc 4 1, 3) := by decide +kernel
theorem dX8_isBeyond_33 : decode cX8_isBeyond 33 = .ok (.goto (-27), 3) := by decide +kernel
theorem dX8_isBeyond_36 : decode cX8_isBeyond 36 = .ok (.iconst 1, 1) := by decide +kernel
theorem dX8_isBeyond_37 : decode cX8_isBeyond 37 = .ok (.istore 4, 2) := by decide +kernel
theorem dX8_isBeyond_39 : decode cX8_isBeyond 39 = .ok (.iconst 0, 1) := by decide +kernel
theorem dX8_isBeyond_40 : decode cX8_isBeyond 40 = .ok (.istore 5, 2) := by decide +kernel
theorem dX8_isBeyond_42 : decode cX8_isBeyond 42 = .ok (.iload 5, 2) := by decide +kernel
theorem dX8_isBeyond_44 : decode cX8_isBeyond 44 = .ok (.bipush 50, 2) := by decide +kernel
theorem dX8_isBeyond_46 : decode cX8_isBeyond 46 = .ok (.if_icmp .ge 37, 3) := by decide +kernel
theorem dX8_isBeyond_49 : decode cX8_isBeyond 49 = .ok (.iload 4, 2) := by decide +kernel
theorem dX8_isBeyond_51 : decode cX8_isBeyond 51 = .ok (.ifCond .eq 23, 3) := by decide +kernel
theorem dX8_isBeyond_54 : decode cX8_isBeyond 54 = .ok (.aload_n 0, 1) := by decide +kernel
theorem dX8_isBeyond_55 : decode cX8_isBeyond 55 = .ok (.iload_n 2, 1) := by decide +kernel
theorem dX8_isBeyond_56 : decode cX8_isBeyond 56 = .ok (.iload 5, 2) := by decide +kernel
theorem dX8_isBeyond_58 : decode cX8_isBeyond 58 = .ok (.invokevirtual 95, 3) := by decide +kernel
theorem dX8_isBeyond_61 : decode cX8_isBeyond 61 = .ok (.ifCond .eq 9, 3) := by decide +kernel
theorem dX8_isBeyond_64 : decode cX8_isBeyond 64 = .ok (.iload 5, 2) := by decide +kernel
theorem dX8_isBeyond_66 : decode cX8_isBeyond 66 = .ok (.iload_n 3, 1) := by decide +kernel
theorem dX8_isBeyond_67 : decode cX8_isBeyond 67 = .ok (.if_icmp .le 7, 3) := by decide +kernel
theorem dX8_isBeyond_70 : decode cX8_isBeyond 70 = .ok (.iconst 1, 1) := by decide +kernel
theorem dX8_isBeyond_71 : decode cX8_isBeyond 71 = .ok (.goto 4, 3) := by decide +kernel
theorem dX8_isBeyond_74 : decode cX8_isBeyond 74 = .ok (.iconst 0, 1) := by decide +kernel
theorem dX8_isBeyond_75 : decode cX8_isBeyond 75 = .ok (.istore 4, 2) := by decide +kernel
theorem dX8_isBeyond_77 : decode cX8_isBeyond 77 = .ok (.iinc 5 1, 3) := by decide +kernel
theorem dX8_isBeyond_80 : decode cX8_isBeyond 80 = .ok (.goto (-38), 3) := by decide +kernel
theorem dX8_isBeyond_83 : decode cX8_isBeyond 83 = .ok (.iload 4, 2) := by decide +kernel
theorem dX8_isBeyond_85 : decode cX8_isBeyond 85 = .ok (.ireturn, 1) := by decide +kernel
theorem dX8_whyNoKey_0 : decode cX8_whyNoKey 0 = .ok (.aload_n 0, 1) := by decide +kernel
theorem dX8_whyNoKey_1 : decode cX8_whyNoKey 1 = .ok (.iload_n 2, 1) := by decide +kernel
theorem dX8_whyNoKey_2 : decode cX8_whyNoKey 2 = .ok (.iload_n 3, 1) := by decide +kernel
theorem dX8_whyNoKey_3 : decode cX8_whyNoKey 3 = .ok (.invokevirtual 95, 3) := by decide +kernel
theorem dX8_whyNoKey_6 : decode cX8_whyNoKey 6 = .ok (.iload_n 1, 1) := by decide +kernel
theorem dX8_whyNoKey_7 : decode cX8_whyNoKey 7 = .ok (.iconst 1, 1) := by decide +kernel
theorem dX8_whyNoKey_8 : decode cX8_whyNoKey 8 = .ok (.if_icmp .ne 7, 3) := by decide +kernel
theorem dX8_whyNoKey_11 : decode cX8_whyNoKey 11 = .ok (.iconst 1, 1) := by decide +kernel
theorem dX8_whyNoKey_12 : decode cX8_whyNoKey 12 = .ok (.goto 4, 3) := by decide +kernel
theorem dX8_whyNoKey_15 : decode cX8_whyNoKey 15 = .ok (.iconst 0, 1) := by decide +kernel
theorem dX8_whyNoKey_16 : decode cX8_whyNoKey 16 = .ok (.if_icmp .eq 5, 3) := by decide +kernel
theorem dX8_whyNoKey_19 : decode cX8_whyNoKey 19 = .ok (.iconst 2, 1) := by decide +kernel
theorem dX8_whyNoKey_20 : decode cX8_whyNoKey 20 = .ok (.ireturn, 1) := by decide +kernel
theorem dX8_whyNoKey_21 : decode cX8_whyNoKey 21 = .ok (.iload_n 1, 1) := by decide +kernel
theorem dX8_whyNoKey_22 : decode cX8_whyNoKey 22 = .ok (.ifCond .ne 17, 3) := by decide +kernel
theorem dX8_whyNoKey_25 : decode cX8_whyNoKey 25 = .ok (.aload_n 0, 1) := by decide +kernel
theorem dX8_whyNoKey_26 : decode cX8_whyNoKey 26 = .ok (.iload_n 2, 1) := by decide +kernel
theorem dX8_whyNoKey_27 : decode cX8_whyNoKey 27 = .ok (.invokevirtual 99, 3) := by decide +kernel
theorem dX8_whyNoKey_30 : decode cX8_whyNoKey 30 = .ok (.bipush 40, 2) := by decide +kernel
theorem dX8_whyNoKey_32 : decode cX8_whyNoKey 32 = .ok (.if_icmp .ne 7, 3) := by decide +kernel
theorem dX8_whyNoKey_35 : decode cX8_whyNoKey 35 = .ok (.iconst 3, 1) := by decide +kernel
theorem dX8_whyNoKey_36 : decode cX8_whyNoKey 36 = .ok (.goto 4, 3) := by decide +kernel
theorem dX8_whyNoKey_39 : decode cX8_whyNoKey 39 = .ok (.iconst 0, 1) := by decide +kernel
theorem dX8_whyNoKey_40 : decode cX8_whyNoKey 40 = .ok (.ireturn, 1) := by decide +kernel
theorem dX8_whyNoJoin_0 : decode cX8_whyNoJoin 0 = .ok (.aload_n 0, 1) := by decide +kernel
theorem dX8_whyNoJoin_1 : decode cX8_whyNoJoin 1 = .ok (.iload_n 1, 1) := by decide +kernel
theorem dX8_whyNoJoin_2 : decode cX8_whyNoJoin 2 = .ok (.invokevirtual 99, 3) := by decide +kernel
theorem dX8_whyNoJoin_5 : decode cX8_whyNoJoin 5 = .ok (.aload_n 0, 1) := by decide +kernel
theorem dX8_whyNoJoin_6 : decode cX8_whyNoJoin 6 = .ok (.iload_n 2, 1) := by decide +kernel
theorem dX8_whyNoJoin_7 : decode cX8_whyNoJoin 7 = .ok (.invokevirtual 99, 3) := by decide +kernel
theorem dX8_whyNoJoin_10 : decode cX8_whyNoJoin 10 = .ok (.iadd, 1) := by decide +kernel
theorem dX8_whyNoJoin_11 : decode cX8_whyNoJoin 11 = .ok (.bipush 40, 2) := by decide +kernel
theorem dX8_whyNoJoin_13 : decode cX8_whyNoJoin 13 = .ok (.if_icmp .le 18, 3) := by decide +kernel
theorem dX8_whyNoJoin_16 : decode cX8_whyNoJoin 16 = .ok (.aload_n 0, 1) := by decide +kernel
theorem dX8_whyNoJoin_17 : decode cX8_whyNoJoin 17 = .ok (.iload_n 1, 1) := by decide +kernel
theorem dX8_whyNoJoin_18 : decode cX8_whyNoJoin 18 = .ok (.iload_n 2, 1) := by decide +kernel
theorem dX8_whyNoJoin_19 : decode cX8_whyNoJoin 19 = .ok (.invokevirtual 145, 3) := by decide +kernel
theorem dX8_whyNoJoin_22 : decode cX8_whyNoJoin 22 = .ok (.bipush 40, 2) := by decide +kernel
theorem dX8_whyNoJoin_24 : decode cX8_whyNoJoin 24 = .ok (.if_icmp .le 7, 3) := by decide +kernel
theorem dX8_whyNoJoin_27 : decode cX8_whyNoJoin 27 = .ok (.iconst 3, 1) := by decide +kernel
theorem dX8_whyNoJoin_28 : decode cX8_whyNoJoin 28 = .ok (.goto 17, 3) := by decide +kernel
theorem dX8_whyNoJoin_31 : decode cX8_whyNoJoin 31 = .ok (.aload_n 0, 1) := by decide +kernel
theorem dX8_whyNoJoin_32 : decode cX8_whyNoJoin 32 = .ok (.iload_n 1, 1) := by decide +kernel
theorem dX8_whyNoJoin_33 : decode cX8_whyNoJoin 33 = .ok (.iload_n 2, 1) := by decide +kernel
theorem dX8_whyNoJoin_34 : decode cX8_whyNoJoin 34 = .ok (.invokevirtual 148, 3) := by decide +kernel
theorem dX8_whyNoJoin_37 : decode cX8_whyNoJoin 37 = .ok (.ifCond .eq 7, 3) := by decide +kernel
theorem dX8_whyNoJoin_40 : decode cX8_whyNoJoin 40 = .ok (.iconst 0, 1) := by decide +kernel
theorem dX8_whyNoJoin_41 : decode cX8_whyNoJoin 41 = .ok (.goto 4, 3) := by decide +kernel
theorem dX8_whyNoJoin_44 : decode cX8_whyNoJoin 44 = .ok (.iconst 5, 1) := by decide +kernel
theorem dX8_whyNoJoin_45 : decode cX8_whyNoJoin 45 = .ok (.ireturn, 1) := by decide +kernel
theorem dX8_whyNot_0 : decode cX8_whyNot 0 = .ok (.iload_n 1, 1) := by decide +kernel
theorem dX8_whyNot_1 : decode cX8_whyNot 1 = .ok (.bipush 7, 2) := by decide +kernel
theorem dX8_whyNot_3 : decode cX8_whyNot 3 = .ok (.if_icmp .ne 20, 3) := by decide +kernel
theorem dX8_whyNot_6 : decode cX8_whyNot 6 = .ok (.aload_n 0, 1) := by decide +kernel
theorem dX8_whyNot_7 : decode cX8_whyNot 7 = .ok (.getfield 78, 3) := by decide +kernel
theorem dX8_whyNot_10 : decode cX8_whyNot 10 = .ok (.sipush 9999, 3) := by decide +kernel
theorem dX8_whyNot_13 : decode cX8_whyNot 13 = .ok (.if_icmp .ne 8, 3) := by decide +kernel
theorem dX8_whyNot_16 : decode cX8_whyNot 16 = .ok (.bipush 6, 2) := by decide +kernel
theorem dX8_whyNot_18 : decode cX8_whyNot 18 = .ok (.goto 4, 3) := by decide +kernel
theorem dX8_whyNot_21 : decode cX8_whyNot 21 = .ok (.iconst 0, 1) := by decide +kernel
theorem dX8_whyNot_22 : decode cX8_whyNot 22 = .ok (.ireturn, 1) := by decide +kernel
theorem dX8_whyNot_23 : decode cX8_whyNot 23 = .ok (.iload_n 1, 1) := by decide +kernel
theorem dX8_whyNot_24 : decode cX8_whyNot 24 = .ok (.iconst 2, 1) := by decide +kernel
theorem dX8_whyNot_25 : decode cX8_whyNot 25 = .ok (.if_icmp .ge 11, 3) := by decide +kernel
theorem dX8_whyNot_28 : decode cX8_whyNot 28 = .ok (.aload_n 0, 1) := by decide +kernel
theorem dX8_whyNot_29 : decode cX8_whyNot 29 = .ok (.iload_n 1, 1) := by decide +kernel
theorem dX8_whyNot_30 : decode cX8_whyNot 30 = .ok (.iload_n 2, 1) := by decide +kernel
theorem dX8_whyNot_31 : decode cX8_whyNot 31 = .ok (.iload_n 3, 1) := by decide +kernel
theorem dX8_whyNot_32 : decode cX8_whyNot 32 = .ok (.invokevirtual 151, 3) := by decide +kernel
theorem dX8_whyNot_35 : decode cX8_whyNot 35 = .ok (.ireturn, 1) := by decide +kernel
theorem dX8_whyNot_36 : decode cX8_whyNot 36 = .ok (.iload_n 2, 1) := by decide +kernel
theorem dX8_whyNot_37 : decode cX8_whyNot 37 = .ok (.iload 4, 2) := by decide +kernel
theorem dX8_whyNot_39 : decode cX8_whyNot 39 = .ok (.if_icmp .ne 5, 3) := by decide +kernel
theorem dX8_whyNot_42 : decode cX8_whyNot 42 = .ok (.iconst 1, 1) := by decide +kernel
theorem dX8_whyNot_43 : decode cX8_whyNot 43 = .ok (.ireturn, 1) := by decide +kernel
theorem dX8_whyNot_44 : decode cX8_whyNot 44 = .ok (.iload_n 1, 1) := by decide +kernel
theorem dX8_whyNot_45 : decode cX8_whyNot 45 = .ok (.tableswitch 72 2 5 #[31, 46, 72, 54], 31) := by decide +kernel
theorem dX8_whyNot_76 : decode cX8_whyNot 76 = .ok (.aload_n 0, 1) := by decide +kernel
theorem dX8_whyNot_77 : decode cX8_whyNot 77 = .ok (.iload 4, 2) := by decide +kernel
theorem dX8_whyNot_79 : decode cX8_whyNot 79 = .ok (.invokevirtual 99, 3) := by decide +kernel
theorem dX8_whyNot_82 : decode cX8_whyNot 82 = .ok (.ifCond .le 7, 3) := by decide +kernel
theorem dX8_whyNot_85 : decode cX8_whyNot 85 = .ok (.iconst 4, 1) := by decide +kernel
theorem dX8_whyNot_86 : decode cX8_whyNot 86 = .ok (.goto 4, 3) := by decide +kernel
theorem dX8_whyNot_89 : decode cX8_whyNot 89 = .ok (.iconst 0, 1) := by decide +kernel
theorem dX8_whyNot_90 : decode cX8_whyNot 90 = .ok (.ireturn, 1) := by decide +kernel
theorem dX8_whyNot_91 : decode cX8_whyNot 91 = .ok (.aload_n 0, 1) := by decide +kernel
theorem dX8_whyNot_92 : decode cX8_whyNot 92 = .ok (.iload_n 2, 1) := by decide +kernel
theorem dX8_whyNot_93 : decode cX8_whyNot 93 = .ok (.iload 4, 2) := by decide +kernel
theorem dX8_whyNot_95 : decode cX8_whyNot 95 = .ok (.invokevirtual 155, 3) := by decide +kernel
theorem dX8_whyNot_98 : decode cX8_whyNot 98 = .ok (.ireturn, 1) := by decide +kernel
theorem dX8_whyNot_99 : decode cX8_whyNot 99 = .ok (.aload_n 0, 1) := by decide +kernel
theorem dX8_whyNot_100 : decode cX8_whyNot 100 = .ok (.iload_n 2, 1) := by decide +kernel
theorem dX8_whyNot_101 : decode cX8_whyNot 101 = .ok (.iload 4, 2) := by decide +kernel
theorem dX8_whyNot_103 : decode cX8_whyNot 103 = .ok (.invokevirtual 145, 3) := by decide +kernel
theorem dX8_whyNot_106 : decode cX8_whyNot 106 = .ok (.bipush 40, 2) := by decide +kernel
theorem dX8_whyNot_108 : decode cX8_whyNot 108 = .ok (.if_icmp .le 7, 3) := by decide +kernel
theorem dX8_whyNot_111 : decode cX8_whyNot 111 = .ok (.iconst 3, 1) := by decide +kernel
theorem dX8_whyNot_112 : decode cX8_whyNot 112 = .ok (.goto 4, 3) := by decide +kernel
theorem dX8_whyNot_115 : decode cX8_whyNot 115 = .ok (.iconst 0, 1) := by decide +kernel
theorem dX8_whyNot_116 : decode cX8_whyNot 116 = .ok (.ireturn, 1) := by decide +kernel
theorem dX8_whyNot_117 : decode cX8_whyNot 117 = .ok (.iconst 0, 1) := by decide +kernel
theorem dX8_whyNot_118 : decode cX8_whyNot 118 = .ok (.ireturn, 1) := by decide +kernel
theorem dX8_part_0 : decode cX8_part 0 = .ok (.iload_n 2, 1) := by decide +kernel
theorem dX8_part_1 : decode cX8_part 1 = .ok (.istore 4, 2) := by decide +kernel
theorem dX8_part_3 : decode cX8_part 3 = .ok (.iload 4, 2) := by decide +kernel
theorem dX8_part_5 : decode cX8_part 5 = .ok (.bipush 50, 2) := by decide +kernel
theorem dX8_part_7 : decode cX8_part 7 = .ok (.if_icmp .ge 46, 3) := by decide +kernel
theorem dX8_part_10 : decode cX8_part 10 = .ok (.aload_n 0, 1) := by decide +kernel
theorem dX8_part_11 : decode cX8_part 11 = .ok (.getfield 7, 3) := by decide +kernel
theorem dX8_part_14 : decode cX8_part 14 = .ok (.bipush 50, 2) := by decide +kernel
theorem dX8_part_16 : decode cX8_part 16 = .ok (.iload_n 3, 1) := by decide +kernel
theorem dX8_part_17 : decode cX8_part 17 = .ok (.imul, 1) := by decide +kernel
theorem dX8_part_18 : decode cX8_part 18 = .ok (.iload 4, 2) := by decide +kernel
theorem dX8_part_20 : decode cX8_part 20 = .ok (.iadd, 1) := by decide +kernel
theorem dX8_part_21 : decode cX8_part 21 = .ok (.aload_n 0, 1) := by decide +kernel
theorem dX8_part_22 : decode cX8_part 22 = .ok (.getfield 7, 3) := by decide +kernel
theorem dX8_part_25 : decode cX8_part 25 = .ok (.bipush 50, 2) := by decide +kernel
theorem dX8_part_27 : decode cX8_part 27 = .ok (.iload_n 1, 1) := by decide +kernel
theorem dX8_part_28 : decode cX8_part 28 = .ok (.imul, 1) := by decide +kernel
theorem dX8_part_29 : decode cX8_part 29 = .ok (.iload 4, 2) := by decide +kernel
theorem dX8_part_31 : decode cX8_part 31 = .ok (.iadd, 1) := by decide +kernel
theorem dX8_part_32 : decode cX8_part 32 = .ok (.iaload, 1) := by decide +kernel
theorem dX8_part_33 : decode cX8_part 33 = .ok (.iastore, 1) := by decide +kernel
theorem dX8_part_34 : decode cX8_part 34 = .ok (.aload_n 0, 1) := by decide +kernel
theorem dX8_part_35 : decode cX8_part 35 = .ok (.getfield 7, 3) := by decide +kernel
theorem dX8_part_38 : decode cX8_part 38 = .ok (.bipush 50, 2) := by decide +kernel
theorem dX8_part_40 : decode cX8_part 40 = .ok (.iload_n 1, 1) := by decide +kernel
theorem dX8_part_41 : decode cX8_part 41 = .ok (.imul, 1) := by decide +kernel
theorem dX8_part_42 : decode cX8_part 42 = .ok (.iload 4, 2) := by decide +kernel
theorem dX8_part_44 : decode cX8_part 44 = .ok (.iadd, 1) := by decide +kernel
theorem dX8_part_45 : decode cX8_part 45 = .ok (.iconst 0, 1) := by decide +kernel
theorem dX8_part_46 : decode cX8_part 46 = .ok (.iastore, 1) := by decide +kernel
theorem dX8_part_47 : decode cX8_part 47 = .ok (.iinc 4 1, 3) := by decide +kernel
theorem dX8_part_50 : decode cX8_part 50 = .ok (.goto (-47), 3) := by decide +kernel
theorem dX8_part_53 : decode cX8_part 53 = .ok (.return_, 1) := by decide +kernel
theorem dX8_by_0 : decode cX8_by 0 = .ok (.iload_n 1, 1) := by decide +kernel
theorem dX8_by_1 : decode cX8_by 1 = .ok (.lookupswitch 40 #[(4, 27), (6, 29)], 27) := by decide +kernel
theorem dX8_by_28 : decode cX8_by 28 = .ok (.iload_n 3, 1) := by decide +kernel
theorem dX8_by_29 : decode cX8_by 29 = .ok (.ireturn, 1) := by decide +kernel
theorem dX8_by_30 : decode cX8_by 30 = .ok (.iload_n 3, 1) := by decide +kernel
theorem dX8_by_31 : decode cX8_by 31 = .ok (.iconst 1, 1) := by decide +kernel
theorem dX8_by_32 : decode cX8_by 32 = .ok (.if_icmp .ne 7, 3) := by decide +kernel
theorem dX8_by_35 : decode cX8_by 35 = .ok (.iconst 0, 1) := by decide +kernel
theorem dX8_by_36 : decode cX8_by 36 = .ok (.goto 4, 3) := by decide +kernel
theorem dX8_by_39 : decode cX8_by 39 = .ok (.iload_n 2, 1) := by decide +kernel
theorem dX8_by_40 : decode cX8_by 40 = .ok (.ireturn, 1) := by decide +kernel
theorem dX8_by_41 : decode cX8_by 41 = .ok (.iload_n 3, 1) := by decide +kernel
theorem dX8_by_42 : decode cX8_by 42 = .ok (.iconst 1, 1) := by decide +kernel
theorem dX8_by_43 : decode cX8_by 43 = .ok (.if_icmp .ne 7, 3) := by decide +kernel
theorem dX8_by_46 : decode cX8_by 46 = .ok (.iconst 1, 1) := by decide +kernel
theorem dX8_by_47 : decode cX8_by 47 = .ok (.goto 4, 3) := by decide +kernel
theorem dX8_by_50 : decode cX8_by 50 = .ok (.iload_n 2, 1) := by decide +kernel
theorem dX8_by_51 : decode cX8_by 51 = .ok (.ireturn, 1) := by decide +kernel
theorem dX8_both_0 : decode cX8_both 0 = .ok (.iconst 0, 1) := by decide +kernel
theorem dX8_both_1 : decode cX8_both 1 = .ok (.istore 4, 2) := by decide +kernel
theorem dX8_both_3 : decode cX8_both 3 = .ok (.iload 4, 2) := by decide +kernel
theorem dX8_both_5 : decode cX8_both 5 = .ok (.bipush 50, 2) := by decide +kernel
theorem dX8_both_7 : decode cX8_both 7 = .ok (.if_icmp .ge 83, 3) := by decide +kernel
theorem dX8_both_10 : decode cX8_both 10 = .ok (.aload_n 0, 1) := by decide +kernel
theorem dX8_both_11 : decode cX8_both 11 = .ok (.getfield 7, 3) := by decide +kernel
theorem dX8_both_14 : decode cX8_both 14 = .ok (.bipush 50, 2) := by decide +kernel
theorem dX8_both_16 : decode cX8_both 16 = .ok (.iload_n 2, 1) := by decide +kernel
theorem dX8_both_17 : decode cX8_both 17 = .ok (.imul, 1) := by decide +kernel
theorem dX8_both_18 : decode cX8_both 18 = .ok (.iload 4, 2) := by decide +kernel
theorem dX8_both_20 : decode cX8_both 20 = .ok (.iadd, 1) := by decide +kernel
theorem dX8_both_21 : decode cX8_both 21 = .ok (.aload_n 0, 1) := by decide +kernel
theorem dX8_both_22 : decode cX8_both 22 = .ok (.iload_n 1, 1) := by decide +kernel
theorem dX8_both_23 : decode cX8_both 23 = .ok (.aload_n 0, 1) := by decide +kernel
theorem dX8_both_24 : decode cX8_both 24 = .ok (.getfield 7, 3) := by decide +kernel
theorem dX8_both_27 : decode cX8_both 27 = .ok (.bipush 50, 2) := by decide +kernel
theorem dX8_both_29 : decode cX8_both 29 = .ok (.iload_n 2, 1) := by decide +kernel
theorem dX8_both_30 : decode cX8_both 30 = .ok (.imul, 1) := by decide +kernel
theorem dX8_both_31 : decode cX8_both 31 = .ok (.iload 4, 2) := by decide +kernel
theorem dX8_both_33 : decode cX8_both 33 = .ok (.iadd, 1) := by decide +kernel
theorem dX8_both_34 : decode cX8_both 34 = .ok (.iaload, 1) := by decide +kernel
theorem dX8_both_35 : decode cX8_both 35 = .ok (.aload_n 0, 1) := by decide +kernel
theorem dX8_both_36 : decode cX8_both 36 = .ok (.getfield 7, 3) := by decide +kernel
theorem dX8_both_39 : decode cX8_both 39 = .ok (.bipush 50, 2) := by decide +kernel
theorem dX8_both_41 : decode cX8_both 41 = .ok (.iload_n 3, 1) := by decide +kernel
theorem dX8_both_42 : decode cX8_both 42 = .ok (.imul, 1) := by decide +kernel
theorem dX8_both_43 : decode cX8_both 43 = .ok (.iload 4, 2) := by decide +kernel
theorem dX8_both_45 : decode cX8_both 45 = .ok (.iadd, 1) := by decide +kernel
theorem dX8_both_46 : decode cX8_both 46 = .ok (.iaload, 1) := by decide +kernel
theorem dX8_both_47 : decode cX8_both 47 = .ok (.invokevirtual 158, 3) := by decide +kernel
theorem dX8_both_50 : decode cX8_both 50 = .ok (.iastore, 1) := by decide +kernel
theorem dX8_both_51 : decode cX8_both 51 = .ok (.aload_n 0, 1) := by decide +kernel
theorem dX8_both_52 : decode cX8_both 52 = .ok (.getfield 7, 3) := by decide +kernel
theorem dX8_both_55 : decode cX8_both 55 = .ok (.bipush 50, 2) := by decide +kernel
theorem dX8_both_57 : decode cX8_both 57 = .ok (.iload_n 3, 1) := by decide +kernel
theorem dX8_both_58 : decode cX8_both 58 = .ok (.imul, 1) := by decide +kernel
theorem dX8_both_59 : decode cX8_both 59 = .ok (.iload 4, 2) := by decide +kernel
theorem dX8_both_61 : decode cX8_both 61 = .ok (.iadd, 1) := by decide +kernel
theorem dX8_both_62 : decode cX8_both 62 = .ok (.iload_n 1, 1) := by decide +kernel
theorem dX8_both_63 : decode cX8_both 63 = .ok (.iconst 3, 1) := by decide +kernel
theorem dX8_both_64 : decode cX8_both 64 = .ok (.if_icmp .ne 7, 3) := by decide +kernel
theorem dX8_both_67 : decode cX8_both 67 = .ok (.iconst 0, 1) := by decide +kernel
theorem dX8_both_68 : decode cX8_both 68 = .ok (.goto 15, 3) := by decide +kernel
theorem dX8_both_71 : decode cX8_both 71 = .ok (.aload_n 0, 1) := by decide +kernel
theorem dX8_both_72 : decode cX8_both 72 = .ok (.getfield 7, 3) := by decide +kernel
theorem dX8_both_75 : decode cX8_both 75 = .ok (.bipush 50, 2) := by decide +kernel
theorem dX8_both_77 : decode cX8_both 77 = .ok (.iload_n 3, 1) := by decide +kernel
theorem dX8_both_78 : decode cX8_both 78 = .ok (.imul, 1) := by decide +kernel
theorem dX8_both_79 : decode cX8_both 79 = .ok (.iload 4, 2) := by decide +kernel
theorem dX8_both_81 : decode cX8_both 81 = .ok (.iadd, 1) := by decide +kernel
theorem dX8_both_82 : decode cX8_both 82 = .ok (.iaload, 1) := by decide +kernel
theorem dX8_both_83 : decode cX8_both 83 = .ok (.iastore, 1) := by decide +kernel
theorem dX8_both_84 : decode cX8_both 84 = .ok (.iinc 4 1, 3) := by decide +kernel
theorem dX8_both_87 : decode cX8_both 87 = .ok (.goto (-84), 3) := by decide +kernel
theorem dX8_both_90 : decode cX8_both 90 = .ok (.return_, 1) := by decide +kernel
theorem dX8_happen_0 : decode cX8_happen 0 = .ok (.iload_n 1, 1) := by decide +kernel
theorem dX8_happen_1 : decode cX8_happen 1 = .ok (.tableswitch 101 0 7 #[47, 62, 77, 101, 101, 101, 101, 88], 47) := by decide +kernel
theorem dX8_happen_48 : decode cX8_happen 48 = .ok (.aload_n 0, 1) := by decide +kernel
theorem dX8_happen_49 : decode cX8_happen 49 = .ok (.getfield 7, 3) := by decide +kernel
theorem dX8_happen_52 : decode cX8_happen 52 = .ok (.bipush 50, 2) := by decide +kernel
theorem dX8_happen_54 : decode cX8_happen 54 = .ok (.iload_n 2, 1) := by decide +kernel
theorem dX8_happen_55 : decode cX8_happen 55 = .ok (.imul, 1) := by decide +kernel
theorem dX8_happen_56 : decode cX8_happen 56 = .ok (.iload_n 3, 1) := by decide +kernel
theorem dX8_happen_57 : decode cX8_happen 57 = .ok (.iadd, 1) := by decide +kernel
theorem dX8_happen_58 : decode cX8_happen 58 = .ok (.iconst 1, 1) := by decide +kernel
theorem dX8_happen_59 : decode cX8_happen 59 = .ok (.iastore, 1) := by decide +kernel
theorem dX8_happen_60 : decode cX8_happen 60 = .ok (.goto 50, 3) := by decide +kernel
theorem dX8_happen_63 : decode cX8_happen 63 = .ok (.aload_n 0, 1) := by decide +kernel
theorem dX8_happen_64 : decode cX8_happen 64 = .ok (.getfield 7, 3) := by decide +kernel
theorem dX8_happen_67 : decode cX8_happen 67 = .ok (.bipush 50, 2) := by decide +kernel
theorem dX8_happen_69 : decode cX8_happen 69 = .ok (.iload_n 2, 1) := by decide +kernel
theorem dX8_happen_70 : decode cX8_happen 70 = .ok (.imul, 1) := by decide +kernel
theorem dX8_happen_71 : decode cX8_happen 71 = .ok (.iload_n 3, 1) := by decide +kernel
theorem dX8_happen_72 : decode cX8_happen 72 = .ok (.iadd, 1) := by decide +kernel
theorem dX8_happen_73 : decode cX8_happen 73 = .ok (.iconst 0, 1) := by decide +kernel
theorem dX8_happen_74 : decode cX8_happen 74 = .ok (.iastore, 1) := by decide +kernel
theorem dX8_happen_75 : decode cX8_happen 75 = .ok (.goto 35, 3) := by decide +kernel
theorem dX8_happen_78 : decode cX8_happen 78 = .ok (.aload_n 0, 1) := by decide +kernel
theorem dX8_happen_79 : decode cX8_happen 79 = .ok (.iload_n 2, 1) := by decide +kernel
theorem dX8_happen_80 : decode cX8_happen 80 = .ok (.iload_n 3, 1) := by decide +kernel
theorem dX8_happen_81 : decode cX8_happen 81 = .ok (.iload 4, 2) := by decide +kernel
theorem dX8_happen_83 : decode cX8_happen 83 = .ok (.invokevirtual 161, 3) := by decide +kernel
theorem dX8_happen_86 : decode cX8_happen 86 = .ok (.goto 24, 3) := by decide +kernel
theorem dX8_happen_89 : decode cX8_happen 89 = .ok (.aload_n 0, 1) := by decide +kernel
theorem dX8_happen_90 : decode cX8_happen 90 = .ok (.dup, 1) := by decide +kernel
theorem dX8_happen_91 : decode cX8_happen 91 = .ok (.getfield 78, 3) := by decide +kernel
theorem dX8_happen_94 : decode cX8_happen 94 = .ok (.iconst 1, 1) := by decide +kernel
theorem dX8_happen_95 : decode cX8_happen 95 = .ok (.iadd, 1) := by decide +kernel
theorem dX8_happen_96 : decode cX8_happen 96 = .ok (.putfield 78, 3) := by decide +kernel
theorem dX8_happen_99 : decode cX8_happen 99 = .ok (.goto 11, 3) := by decide +kernel
theorem dX8_happen_102 : decode cX8_happen 102 = .ok (.aload_n 0, 1) := by decide +kernel
theorem dX8_happen_103 : decode cX8_happen 103 = .ok (.iload_n 1, 1) := by decide +kernel
theorem dX8_happen_104 : decode cX8_happen 104 = .ok (.iload_n 2, 1) := by decide +kernel
theorem dX8_happen_105 : decode cX8_happen 105 = .ok (.iload 4, 2) := by decide +kernel
theorem dX8_happen_107 : decode cX8_happen 107 = .ok (.invokevirtual 165, 3) := by decide +kernel
theorem dX8_happen_110 : decode cX8_happen 110 = .ok (.return_, 1) := by decide +kernel
theorem dX8_below_0 : decode cX8_below 0 = .ok (.iload_n 2, 1) := by decide +kernel
theorem dX8_below_1 : decode cX8_below 1 = .ok (.iconst 1, 1) := by decide +kernel
theorem dX8_below_2 : decode cX8_below 2 = .ok (.isub, 1) := by decide +kernel
theorem dX8_below_3 : decode cX8_below 3 = .ok (.istore 4, 2) := by decide +kernel
theorem dX8_below_5 : decode cX8_below 5 = .ok (.iload 4, 2) := by decide +kernel
theorem dX8_below_7 : decode cX8_below 7 = .ok (.iload_n 3, 1) := by decide +kernel
theorem dX8_below_8 : decode cX8_below 8 = .ok (.if_icmp .lt 29, 3) := by decide +kernel
theorem dX8_below_11 : decode cX8_below 11 = .ok (.aload_n 0, 1) := by decide +kernel
theorem dX8_below_12 : decode cX8_below 12 = .ok (.iload_n 1, 1) := by decide +kernel
theorem dX8_below_13 : decode cX8_below 13 = .ok (.iload 4, 2) := by decide +kernel
theorem dX8_below_15 : decode cX8_below 15 = .ok (.invokevirtual 95, 3) := by decide +kernel
theorem dX8_below_18 : decode cX8_below 18 = .ok (.ifCond .eq 13, 3) := by decide +kernel
theorem dX8_below_21 : decode cX8_below 21 = .ok (.aload_n 0, 1) := by decide +kernel
theorem dX8_below_22 : decode cX8_below 22 = .ok (.iload 4, 2) := by decide +kernel
theorem dX8_below_24 : decode cX8_below 24 = .ok (.iload_n 2, 1) := by decide +kernel
theorem dX8_below_25 : decode cX8_below 25 = .ok (.invokevirtual 168, 3) := by decide +kernel
theorem dX8_below_28 : decode cX8_below 28 = .ok (.ifCond .ne 9, 3) := by decide +kernel
theorem dX8_below_31 : decode cX8_below 31 = .ok (.iinc 4 (-1), 3) := by decide +kernel
theorem dX8_below_34 : decode cX8_below 34 = .ok (.goto (-29), 3) := by decide +kernel
theorem dX8_below_37 : decode cX8_below 37 = .ok (.iload 4, 2) := by decide +kernel
theorem dX8_below_39 : decode cX8_below 39 = .ok (.ireturn, 1) := by decide +kernel
theorem dX8_beyond_0 : decode cX8_beyond 0 = .ok (.iload_n 2, 1) := by decide +kernel
theorem dX8_beyond_1 : decode cX8_beyond 1 = .ok (.iconst 1, 1) := by decide +kernel
theorem dX8_beyond_2 : decode cX8_beyond 2 = .ok (.iadd, 1) := by decide +kernel
theorem dX8_beyond_3 : decode cX8_beyond 3 = .ok (.istore 4, 2) := by decide +kernel
theorem dX8_beyond_5 : decode cX8_beyond 5 = .ok (.iload 4, 2) := by decide +kernel
theorem dX8_beyond_7 : decode cX8_beyond 7 = .ok (.iload_n 3, 1) := by decide +kernel
theorem dX8_beyond_8 : decode cX8_beyond 8 = .ok (.if_icmp .gt 29, 3) := by decide +kernel
theorem dX8_beyond_11 : decode cX8_beyond 11 = .ok (.aload_n 0, 1) := by decide +kernel
theorem dX8_beyond_12 : decode cX8_beyond 12 = .ok (.iload_n 1, 1) := by decide +kernel
theorem dX8_beyond_13 : decode cX8_beyond 13 = .ok (.iload 4, 2) := by decide +kernel
theorem dX8_beyond_15 : decode cX8_beyond 15 = .ok (.invokevirtual 95, 3) := by decide +kernel
theorem dX8_beyond_18 : decode cX8_beyond 18 = .ok (.ifCond .eq 13, 3) := by decide +kernel
theorem dX8_beyond_21 : decode cX8_beyond 21 = .ok (.aload_n 0, 1) := by decide +kernel
theorem dX8_beyond_22 : decode cX8_beyond 22 = .ok (.iload 4, 2) := by decide +kernel
theorem dX8_beyond_24 : decode cX8_beyond 24 = .ok (.iload_n 2, 1) := by decide +kernel
theorem dX8_beyond_25 : decode cX8_beyond 25 = .ok (.invokevirtual 168, 3) := by decide +kernel
theorem dX8_beyond_28 : decode cX8_beyond 28 = .ok (.ifCond .ne 9, 3) := by decide +kernel
theorem dX8_beyond_31 : decode cX8_beyond 31 = .ok (.iinc 4 1, 3) := by decide +kernel
theorem dX8_beyond_34 : decode cX8_beyond 34 = .ok (.goto (-29), 3) := by decide +kernel
theorem dX8_beyond_37 : decode cX8_beyond 37 = .ok (.iload 4, 2) := by decide +kernel
theorem dX8_beyond_39 : decode cX8_beyond 39 = .ok (.ireturn, 1) := by decide +kernel
theorem dX8_rootOf_0 : decode cX8_rootOf 0 = .ok (.bipush (-6), 2) := by decide +kernel
theorem dX8_rootOf_2 : decode cX8_rootOf 2 = .ok (.istore 4, 2) := by decide +kernel
theorem dX8_rootOf_4 : decode cX8_rootOf 4 = .ok (.iload_n 2, 1) := by decide +kernel
theorem dX8_rootOf_5 : decode cX8_rootOf 5 = .ok (.istore 5, 2) := by decide +kernel
theorem dX8_rootOf_7 : decode cX8_rootOf 7 = .ok (.iload 5, 2) := by decide +kernel
theorem dX8_rootOf_9 : decode cX8_rootOf 9 = .ok (.iload_n 3, 1) := by decide +kernel
theorem dX8_rootOf_10 : decode cX8_rootOf 10 = .ok (.if_icmp .gt 44, 3) := by decide +kernel
theorem dX8_rootOf_13 : decode cX8_rootOf 13 = .ok (.aload_n 0, 1) := by decide +kernel
theorem dX8_rootOf_14 : decode cX8_rootOf 14 = .ok (.iload_n 1, 1) := by decide +kernel
theorem dX8_rootOf_15 : decode cX8_rootOf 15 = .ok (.iload 5, 2) := by decide +kernel
theorem dX8_rootOf_17 : decode cX8_rootOf 17 = .ok (.invokevirtual 95, 3) := by decide +kernel
theorem dX8_rootOf_20 : decode cX8_rootOf 20 = .ok (.ifCond .eq 24, 3) := by decide +kernel
theorem dX8_rootOf_23 : decode cX8_rootOf 23 = .ok (.iload 4, 2) := by decide +kernel
theorem dX8_rootOf_25 : decode cX8_rootOf 25 = .ok (.ifCond .lt 14, 3) := by decide +kernel
theorem dX8_rootOf_28 : decode cX8_rootOf 28 = .ok (.aload_n 0, 1) := by decide +kernel
theorem dX8_rootOf_29 : decode cX8_rootOf 29 = .ok (.iload 5, 2) := by decide +kernel
theorem dX8_rootOf_31 : decode cX8_rootOf 31 = .ok (.iload 4, 2) := by decide +kernel
theorem dX8_rootOf_33 : decode cX8_rootOf 33 = .ok (.invokevirtual 168, 3) := by decide +kernel
theorem dX8_rootOf_36 : decode cX8_rootOf 36 = .ok (.ifCond .eq 8, 3) := by decide +kernel
theorem dX8_rootOf_39 : decode cX8_rootOf 39 = .ok (.iload 5, 2) := by decide +kernel
theorem dX8_rootOf_41 : decode cX8_rootOf 41 = .ok (.goto 5, 3) := by decide +kernel
theorem dX8_rootOf_44 : decode cX8_rootOf 44 = .ok (.iload 4, 2) := by decide +kernel
theorem dX8_rootOf_46 : decode cX8_rootOf 46 = .ok (.istore 4, 2) := by decide +kernel
theorem dX8_rootOf_48 : decode cX8_rootOf 48 = .ok (.iinc 5 1, 3) := by decide +kernel
theorem dX8_rootOf_51 : decode cX8_rootOf 51 = .ok (.goto (-44), 3) := by decide +kernel
theorem dX8_rootOf_54 : decode cX8_rootOf 54 = .ok (.iload 4, 2) := by decide +kernel
theorem dX8_rootOf_56 : decode cX8_rootOf 56 = .ok (.ireturn, 1) := by decide +kernel
theorem dX8_treeOf_0 : decode cX8_treeOf 0 = .ok (.lconst 0, 1) := by decide +kernel
theorem dX8_treeOf_1 : decode cX8_treeOf 1 = .ok (.lstore_n 3, 1) := by decide +kernel
theorem dX8_treeOf_2 : decode cX8_treeOf 2 = .ok (.aload_n 0, 1) := by decide +kernel
theorem dX8_treeOf_3 : decode cX8_treeOf 3 = .ok (.iload_n 1, 1) := by decide +kernel
theorem dX8_treeOf_4 : decode cX8_treeOf 4 = .ok (.iload_n 2, 1) := by decide +kernel
theorem dX8_treeOf_5 : decode cX8_treeOf 5 = .ok (.bipush 49, 2) := by decide +kernel
theorem dX8_treeOf_7 : decode cX8_treeOf 7 = .ok (.invokevirtual 171, 3) := by decide +kernel
theorem dX8_treeOf_10 : decode cX8_treeOf 10 = .ok (.istore 5, 2) := by decide +kernel
theorem dX8_treeOf_12 : decode cX8_treeOf 12 = .ok (.aload_n 0, 1) := by decide +kernel
theorem dX8_treeOf_13 : decode cX8_treeOf 13 = .ok (.iload_n 1, 1) := by decide +kernel
theorem dX8_treeOf_14 : decode cX8_treeOf 14 = .ok (.iload_n 2, 1) := by decide +kernel
theorem dX8_treeOf_15 : decode cX8_treeOf 15 = .ok (.iconst 0, 1) := by decide +kernel
theorem dX8_treeOf_16 : decode cX8_treeOf 16 = .ok (.invokevirtual 174, 3) := by decide +kernel
theorem dX8_treeOf_19 : decode cX8_treeOf 19 = .ok (.iconst 1, 1) := by decide +kernel
theorem dX8_treeOf_20 : decode cX8_treeOf 20 = .ok (.iadd, 1) := by decide +kernel
theorem dX8_treeOf_21 : decode cX8_treeOf 21 = .ok (.istore 6, 2) := by decide +kernel
theorem dX8_treeOf_23 : decode cX8_treeOf 23 = .ok (.iload 6, 2) := by decide +kernel
theorem dX8_treeOf_25 : decode cX8_treeOf 25 = .ok (.iload 5, 2) := by decide +kernel
theorem dX8_treeOf_27 : decode cX8_treeOf 27 = .ok (.if_icmp .ge 30, 3) := by decide +kernel
theorem dX8_treeOf_30 : decode cX8_treeOf 30 = .ok (.lload_n 3, 1) := by decide +kernel
theorem dX8_treeOf_31 : decode cX8_treeOf 31 = .ok (.aload_n 0, 1) := by decide +kernel
theorem dX8_treeOf_32 : decode cX8_treeOf 32 = .ok (.iload_n 1, 1) := by decide +kernel
theorem dX8_treeOf_33 : decode cX8_treeOf 33 = .ok (.iload 6, 2) := by decide +kernel
theorem dX8_treeOf_35 : decode cX8_treeOf 35 = .ok (.invokevirtual 95, 3) := by decide +kernel
theorem dX8_treeOf_38 : decode cX8_treeOf 38 = .ok (.ifCond .eq 10, 3) := by decide +kernel
theorem dX8_treeOf_41 : decode cX8_treeOf 41 = .ok (.lconst 1, 1) := by decide +kernel
theorem dX8_treeOf_42 : decode cX8_treeOf 42 = .ok (.iload 6, 2) := by decide +kernel
theorem dX8_treeOf_44 : decode cX8_treeOf 44 = .ok (.lshl, 1) := by decide +kernel
theorem dX8_treeOf_45 : decode cX8_treeOf 45 = .ok (.goto 4, 3) := by decide +kernel
theorem dX8_treeOf_48 : decode cX8_treeOf 48 = .ok (.lconst 0, 1) := by decide +kernel
theorem dX8_treeOf_49 : decode cX8_treeOf 49 = .ok (.lor, 1) := by decide +kernel
theorem dX8_treeOf_50 : decode cX8_treeOf 50 = .ok (.lstore_n 3, 1) := by decide +kernel
theorem dX8_treeOf_51 : decode cX8_treeOf 51 = .ok (.iinc 6 1, 3) := by decide +kernel
theorem dX8_treeOf_54 : decode cX8_treeOf 54 = .ok (.goto (-31), 3) := by decide +kernel
theorem dX8_treeOf_57 : decode cX8_treeOf 57 = .ok (.lload_n 3, 1) := by decide +kernel
theorem dX8_treeOf_58 : decode cX8_treeOf 58 = .ok (.lreturn, 1) := by decide +kernel
theorem dX8_ones_0 : decode cX8_ones 0 = .ok (.iconst 0, 1) := by decide +kernel
theorem dX8_ones_1 : decode cX8_ones 1 = .ok (.istore_n 2, 1) := by decide +kernel
theorem dX8_ones_2 : decode cX8_ones 2 = .ok (.lload_n 0, 1) := by decide +kernel
theorem dX8_ones_3 : decode cX8_ones 3 = .ok (.lstore_n 3, 1) := by decide +kernel
theorem dX8_ones_4 : decode cX8_ones 4 = .ok (.lload_n 3, 1) := by decide +kernel
theorem dX8_ones_5 : decode cX8_ones 5 = .ok (.lconst 0, 1) := by decide +kernel
theorem dX8_ones_6 : decode cX8_ones 6 = .ok (.lcmp, 1) := by decide +kernel
theorem dX8_ones_7 : decode cX8_ones 7 = .ok (.ifCond .eq 15, 3) := by decide +kernel
theorem dX8_ones_10 : decode cX8_ones 10 = .ok (.iinc 2 1, 3) := by decide +kernel
theorem dX8_ones_13 : decode cX8_ones 13 = .ok (.lload_n 3, 1) := by decide +kernel
theorem dX8_ones_14 : decode cX8_ones 14 = .ok (.lload_n 3, 1) := by decide +kernel
theorem dX8_ones_15 : decode cX8_ones 15 = .ok (.lconst 1, 1) := by decide +kernel
theorem dX8_ones_16 : decode cX8_ones 16 = .ok (.lsub, 1) := by decide +kernel
theorem dX8_ones_17 : decode cX8_ones 17 = .ok (.land, 1) := by decide +kernel
theorem dX8_ones_18 : decode cX8_ones 18 = .ok (.lstore_n 3, 1) := by decide +kernel
theorem dX8_ones_19 : decode cX8_ones 19 = .ok (.goto (-15), 3) := by decide +kernel
theorem dX8_ones_22 : decode cX8_ones 22 = .ok (.iload_n 2, 1) := by decide +kernel
theorem dX8_ones_23 : decode cX8_ones 23 = .ok (.ireturn, 1) := by decide +kernel
theorem dX8_findOrder_0 : decode cX8_findOrder 0 = .ok (.iconst 0, 1) := by decide +kernel
theorem dX8_findOrder_1 : decode cX8_findOrder 1 = .ok (.istore_n 1, 1) := by decide +kernel
theorem dX8_findOrder_2 : decode cX8_findOrder 2 = .ok (.iload_n 1, 1) := by decide +kernel
theorem dX8_findOrder_3 : decode cX8_findOrder 3 = .ok (.bipush 50, 2) := by decide +kernel
theorem dX8_findOrder_5 : decode cX8_findOrder 5 = .ok (.if_icmp .ge 54, 3) := by decide +kernel
theorem dX8_findOrder_8 : decode cX8_findOrder 8 = .ok (.iconst 0, 1) := by decide +kernel
theorem dX8_findOrder_9 : decode cX8_findOrder 9 = .ok (.istore_n 2, 1) := by decide +kernel
theorem dX8_findOrder_10 : decode cX8_findOrder 10 = .ok (.iconst 0, 1) := by decide +kernel
theorem dX8_findOrder_11 : decode cX8_findOrder 11 = .ok (.istore_n 3, 1) := by decide +kernel
theorem dX8_findOrder_12 : decode cX8_findOrder 12 = .ok (.iload_n 3, 1) := by decide +kernel
theorem dX8_findOrder_13 : decode cX8_findOrder 13 = .ok (.bipush 50, 2) := by decide +kernel
theorem dX8_findOrder_15 : decode cX8_findOrder 15 = .ok (.if_icmp .ge 31, 3) := by decide +kernel
theorem dX8_findOrder_18 : decode cX8_findOrder 18 = .ok (.iload_n 2, 1) := by decide +kernel
theorem dX8_findOrder_19 : decode cX8_findOrder 19 = .ok (.iload_n 3, 1) := by decide +kernel
theorem dX8_findOrder_20 : decode cX8_findOrder 20 = .ok (.iload_n 1, 1) := by decide +kernel
theorem dX8_findOrder_21 : decode cX8_findOrder 21 = .ok (.if_icmp .eq 16, 3) := by decide +kernel
theorem dX8_findOrder_24 : decode cX8_findOrder 24 = .ok (.aload_n 0, 1) := by decide +kernel
theorem dX8_findOrder_25 : decode cX8_findOrder 25 = .ok (.iload_n 1, 1) := by decide +kernel
theorem dX8_findOrder_26 : decode cX8_findOrder 26 = .ok (.iload_n 3, 1) := by decide +kernel
theorem dX8_findOrder_27 : decode cX8_findOrder 27 = .ok (.invokevirtual 168, 3) := by decide +kernel
theorem dX8_findOrder_30 : decode cX8_findOrder 30 = .ok (.ifCond .eq 7, 3) := by decide +kernel
theorem dX8_findOrder_33 : decode cX8_findOrder 33 = .ok (.iconst 1, 1) := by decide +kernel
theorem dX8_findOrder_34 : decode cX8_findOrder 34 = .ok (.goto 4, 3) := by decide +kernel
theorem dX8_findOrder_37 : decode cX8_findOrder 37 = .ok (.iconst 0, 1) := by decide +kernel
theorem dX8_findOrder_38 : decode cX8_findOrder 38 = .ok (.iadd, 1) := by decide +kernel
theorem dX8_findOrder_39 : decode cX8_findOrder 39 = .ok (.istore_n 2, 1) := by decide +kernel
theorem dX8_findOrder_40 : decode cX8_findOrder 40 = .ok (.iinc 3 1, 3) := by decide +kernel
theorem dX8_findOrder_43 : decode cX8_findOrder 43 = .ok (.goto (-31), 3) := by decide +kernel
theorem dX8_findOrder_46 : decode cX8_findOrder 46 = .ok (.aload_n 0, 1) := by decide +kernel
theorem dX8_findOrder_47 : decode cX8_findOrder 47 = .ok (.getfield 34, 3) := by decide +kernel
theorem dX8_findOrder_50 : decode cX8_findOrder 50 = .ok (.iload_n 2, 1) := by decide +kernel
theorem dX8_findOrder_51 : decode cX8_findOrder 51 = .ok (.iload_n 1, 1) := by decide +kernel
theorem dX8_findOrder_52 : decode cX8_findOrder 52 = .ok (.iastore, 1) := by decide +kernel
theorem dX8_findOrder_53 : decode cX8_findOrder 53 = .ok (.iinc 1 1, 3) := by decide +kernel
theorem dX8_findOrder_56 : decode cX8_findOrder 56 = .ok (.goto (-54), 3) := by decide +kernel
theorem dX8_findOrder_59 : decode cX8_findOrder 59 = .ok (.return_, 1) := by decide +kernel
theorem dX8_findOne_0 : decode cX8_findOne 0 = .ok (.aload_n 0, 1) := by decide +kernel
theorem dX8_findOne_1 : decode cX8_findOne 1 = .ok (.iload_n 1, 1) := by decide +kernel
theorem dX8_findOne_2 : decode cX8_findOne 2 = .ok (.aload_n 0, 1) := by decide +kernel
theorem dX8_findOne_3 : decode cX8_findOne 3 = .ok (.iload_n 1, 1) := by decide +kernel
theorem dX8_findOne_4 : decode cX8_findOne 4 = .ok (.iload_n 2, 1) := by decide +kernel
theorem dX8_findOne_5 : decode cX8_findOne 5 = .ok (.iload_n 3, 1) := by decide +kernel
theorem dX8_findOne_6 : decode cX8_findOne 6 = .ok (.invokevirtual 174, 3) := by decide +kernel
theorem dX8_findOne_9 : decode cX8_findOne 9 = .ok (.iconst 1, 1) := by decide +kernel
theorem dX8_findOne_10 : decode cX8_findOne 10 = .ok (.iadd, 1) := by decide +kernel
theorem dX8_findOne_11 : decode cX8_findOne 11 = .ok (.iload_n 2, 1) := by decide +kernel
theorem dX8_findOne_12 : decode cX8_findOne 12 = .ok (.iconst 1, 1) := by decide +kernel
theorem dX8_findOne_13 : decode cX8_findOne 13 = .ok (.isub, 1) := by decide +kernel
theorem dX8_findOne_14 : decode cX8_findOne 14 = .ok (.invokevirtual 177, 3) := by decide +kernel
theorem dX8_findOne_17 : decode cX8_findOne 17 = .ok (.istore 5, 2) := by decide +kernel
theorem dX8_findOne_19 : decode cX8_findOne 19 = .ok (.aload_n 0, 1) := by decide +kernel
theorem dX8_findOne_20 : decode cX8_findOne 20 = .ok (.iload_n 1, 1) := by decide +kernel
theorem dX8_findOne_21 : decode cX8_findOne 21 = .ok (.iload_n 2, 1) := by decide +kernel
theorem dX8_findOne_22 : decode cX8_findOne 22 = .ok (.iconst 1, 1) := by decide +kernel
theorem dX8_findOne_23 : decode cX8_findOne 23 = .ok (.iadd, 1) := by decide +kernel
theorem dX8_findOne_24 : decode cX8_findOne 24 = .ok (.aload_n 0, 1) := by decide +kernel
theorem dX8_findOne_25 : decode cX8_findOne 25 = .ok (.iload_n 1, 1) := by decide +kernel
theorem dX8_findOne_26 : decode cX8_findOne 26 = .ok (.iload_n 2, 1) := by decide +kernel
theorem dX8_findOne_27 : decode cX8_findOne 27 = .ok (.iload 4, 2) := by decide +kernel
theorem dX8_findOne_29 : decode cX8_findOne 29 = .ok (.invokevirtual 171, 3) := by decide +kernel
theorem dX8_findOne_32 : decode cX8_findOne 32 = .ok (.iconst 1, 1) := by decide +kernel
theorem dX8_findOne_33 : decode cX8_findOne 33 = .ok (.isub, 1) := by decide +kernel
theorem dX8_findOne_34 : decode cX8_findOne 34 = .ok (.invokevirtual 177, 3) := by decide +kernel
theorem dX8_findOne_37 : decode cX8_findOne 37 = .ok (.istore 6, 2) := by decide +kernel
theorem dX8_findOne_39 : decode cX8_findOne 39 = .ok (.iload 5, 2) := by decide +kernel
theorem dX8_findOne_41 : decode cX8_findOne 41 = .ok (.ifCond .ge 7, 3) := by decide +kernel
theorem dX8_findOne_44 : decode cX8_findOne 44 = .ok (.lconst 0, 1) := by decide +kernel
theorem dX8_findOne_45 : decode cX8_findOne 45 = .ok (.goto 10, 3) := by decide +kernel
theorem dX8_findOne_48 : decode cX8_findOne 48 = .ok (.aload_n 0, 1) := by decide +kernel
theorem dX8_findOne_49 : decode cX8_findOne 49 = .ok (.getfield 37, 3) := by decide +kernel
theorem dX8_findOne_52 : decode cX8_findOne 52 = .ok (.iload 5, 2) := by decide +kernel
theorem dX8_findOne_54 : decode cX8_findOne 54 = .ok (.laload, 1) := by decide +kernel
theorem dX8_findOne_55 : decode cX8_findOne 55 = .ok (.lstore 7, 2) := by decide +kernel
theorem dX8_findOne_57 : decode cX8_findOne 57 = .ok (.iload 6, 2) := by decide +kernel
theorem dX8_findOne_59 : decode cX8_findOne 59 = .ok (.ifCond .ge 7, 3) := by decide +kernel
theorem dX8_findOne_62 : decode cX8_findOne 62 = .ok (.lconst 0, 1) := by decide +kernel
theorem dX8_findOne_63 : decode cX8_findOne 63 = .ok (.goto 10, 3) := by decide +kernel
theorem dX8_findOne_66 : decode cX8_findOne 66 = .ok (.aload_n 0, 1) := by decide +kernel
theorem dX8_findOne_67 : decode cX8_findOne 67 = .ok (.getfield 37, 3) := by decide +kernel
theorem dX8_findOne_70 : decode cX8_findOne 70 = .ok (.iload 6, 2) := by decide +kernel
theorem dX8_findOne_72 : decode cX8_findOne 72 = .ok (.laload, 1) := by decide +kernel
theorem dX8_findOne_73 : decode cX8_findOne 73 = .ok (.lstore 9, 2) := by decide +kernel
theorem dX8_findOne_75 : decode cX8_findOne 75 = .ok (.iload 5, 2) := by decide +kernel
theorem dX8_findOne_77 : decode cX8_findOne 77 = .ok (.ifCond .ge 7, 3) := by decide +kernel
theorem dX8_findOne_80 : decode cX8_findOne 80 = .ok (.iconst 0, 1) := by decide +kernel
theorem dX8_findOne_81 : decode cX8_findOne 81 = .ok (.goto 10, 3) := by decide +kernel
theorem dX8_findOne_84 : decode cX8_findOne 84 = .ok (.aload_n 0, 1) := by decide +kernel
theorem dX8_findOne_85 : decode cX8_findOne 85 = .ok (.getfield 41, 3) := by decide +kernel
theorem dX8_findOne_88 : decode cX8_findOne 88 = .ok (.iload 5, 2) := by decide +kernel
theorem dX8_findOne_90 : decode cX8_findOne 90 = .ok (.iaload, 1) := by decide +kernel
theorem dX8_findOne_91 : decode cX8_findOne 91 = .ok (.istore 11, 2) := by decide +kernel
theorem dX8_findOne_93 : decode cX8_findOne 93 = .ok (.iload 6, 2) := by decide +kernel
theorem dX8_findOne_95 : decode cX8_findOne 95 = .ok (.ifCond .ge 7, 3) := by decide +kernel
theorem dX8_findOne_98 : decode cX8_findOne 98 = .ok (.iconst 0, 1) := by decide +kernel
theorem dX8_findOne_99 : decode cX8_findOne 99 = .ok (.goto 10, 3) := by decide +kernel
theorem dX8_findOne_102 : decode cX8_findOne 102 = .ok (.aload_n 0, 1) := by decide +kernel
theorem dX8_findOne_103 : decode cX8_findOne 103 = .ok (.getfield 41, 3) := by decide +kernel
theorem dX8_findOne_106 : decode cX8_findOne 106 = .ok (.iload 6, 2) := by decide +kernel
theorem dX8_findOne_108 : decode cX8_findOne 108 = .ok (.iaload, 1) := by decide +kernel
theorem dX8_findOne_109 : decode cX8_findOne 109 = .ok (.istore 12, 2) := by decide +kernel
theorem dX8_findOne_111 : decode cX8_findOne 111 = .ok (.aload_n 0, 1) := by decide +kernel
theorem dX8_findOne_112 : decode cX8_findOne 112 = .ok (.getfield 37, 3) := by decide +kernel
theorem dX8_findOne_115 : decode cX8_findOne 115 = .ok (.iload_n 2, 1) := by decide +kernel
theorem dX8_findOne_116 : decode cX8_findOne 116 = .ok (.lconst 1, 1) := by decide +kernel
theorem dX8_findOne_117 : decode cX8_findOne 117 = .ok (.ldc2_w 180, 3) := by decide +kernel
theorem dX8_findOne_120 : decode cX8_findOne 120 = .ok (.lload 7, 2) := by decide +kernel
theorem dX8_findOne_122 : decode cX8_findOne 122 = .ok (.lmul, 1) := by decide +kernel
theorem dX8_findOne_123 : decode cX8_findOne 123 = .ok (.ldc2_w 128, 3) := by decide +kernel
theorem dX8_findOne_126 : decode cX8_findOne 126 = .ok (.lload 9, 2) := by decide +kernel
theorem dX8_findOne_128 : decode cX8_findOne 128 = .ok (.lmul, 1) := by decide +kernel
theorem dX8_findOne_129 : decode cX8_findOne 129 = .ok (.ladd, 1) := by decide +kernel
theorem dX8_findOne_130 : decode cX8_findOne 130 = .ok (.ldc2_w 182, 3) := by decide +kernel
theorem dX8_findOne_133 : decode cX8_findOne 133 = .ok (.iload_n 2, 1) := by decide +kernel
theorem dX8_findOne_134 : decode cX8_findOne 134 = .ok (.iconst 1, 1) := by decide +kernel
theorem dX8_findOne_135 : decode cX8_findOne 135 = .ok (.iadd, 1) := by decide +kernel
theorem dX8_findOne_136 : decode cX8_findOne 136 = .ok (.i2l, 1) := by decide +kernel
theorem dX8_findOne_137 : decode cX8_findOne 137 = .ok (.lmul, 1) := by decide +kernel
theorem dX8_findOne_138 : decode cX8_findOne 138 = .ok (.ladd, 1) := by decide +kernel
theorem dX8_findOne_139 : decode cX8_findOne 139 = .ok (.ldc2_w 184, 3) := by decide +kernel
theorem dX8_findOne_142 : decode cX8_findOne 142 = .ok (.lrem, 1) := by decide +kernel
theorem dX8_findOne_143 : decode cX8_findOne 143 = .ok (.ladd, 1) := by decide +kernel
theorem dX8_findOne_144 : decode cX8_findOne 144 = .ok (.lastore, 1) := by decide +kernel
theorem dX8_findOne_145 : decode cX8_findOne 145 = .ok (.aload_n 0, 1) := by decide +kernel
theorem dX8_findOne_146 : decode cX8_findOne 146 = .ok (.getfield 41, 3) := by decide +kernel
theorem dX8_findOne_149 : decode cX8_findOne 149 = .ok (.iload_n 2, 1) := by decide +kernel
theorem dX8_findOne_150 : decode cX8_findOne 150 = .ok (.iconst 1, 1) := by decide +kernel
theorem dX8_findOne_151 : decode cX8_findOne 151 = .ok (.iload 11, 2) := by decide +kernel
theorem dX8_findOne_153 : decode cX8_findOne 153 = .ok (.iload 12, 2) := by decide +kernel
theorem dX8_findOne_155 : decode cX8_findOne 155 = .ok (.if_icmp .le 8, 3) := by decide +kernel
theorem dX8_findOne_158 : decode cX8_findOne 158 = .ok (.iload 11, 2) := by decide +kernel
theorem dX8_findOne_160 : decode cX8_findOne 160 = .ok (.goto 5, 3) := by decide +kernel
theorem dX8_findOne_163 : decode cX8_findOne 163 = .ok (.iload 12, 2) := by decide +kernel
theorem dX8_findOne_165 : decode cX8_findOne 165 = .ok (.iadd, 1) := by decide +kernel
theorem dX8_findOne_166 : decode cX8_findOne 166 = .ok (.iastore, 1) := by decide +kernel
theorem dX8_findOne_167 : decode cX8_findOne 167 = .ok (.return_, 1) := by decide +kernel
theorem dX8_digestOf_0 : decode cX8_digestOf 0 = .ok (.aload_n 0, 1) := by decide +kernel
theorem dX8_digestOf_1 : decode cX8_digestOf 1 = .ok (.invokevirtual 186, 3) := by decide +kernel
theorem dX8_digestOf_4 : decode cX8_digestOf 4 = .ok (.iconst 0, 1) := by decide +kernel
theorem dX8_digestOf_5 : decode cX8_digestOf 5 = .ok (.istore 4, 2) := by decide +kernel
theorem dX8_digestOf_7 : decode cX8_digestOf 7 = .ok (.iload 4, 2) := by decide +kernel
theorem dX8_digestOf_9 : decode cX8_digestOf 9 = .ok (.bipush 50, 2) := by decide +kernel
theorem dX8_digestOf_11 : decode cX8_digestOf 11 = .ok (.if_icmp .ge 50, 3) := by decide +kernel
theorem dX8_digestOf_14 : decode cX8_digestOf 14 = .ok (.aload_n 0, 1) := by decide +kernel
theorem dX8_digestOf_15 : decode cX8_digestOf 15 = .ok (.getfield 34, 3) := by decide +kernel
theorem dX8_digestOf_18 : decode cX8_digestOf 18 = .ok (.iload 4, 2) := by decide +kernel
theorem dX8_digestOf_20 : decode cX8_digestOf 20 = .ok (.iaload, 1) := by decide +kernel
theorem dX8_digestOf_21 : decode cX8_digestOf 21 = .ok (.istore 5, 2) := by decide +kernel
theorem dX8_digestOf_23 : decode cX8_digestOf 23 = .ok (.iload 5, 2) := by decide +kernel
theorem dX8_digestOf_25 : decode cX8_digestOf 25 = .ok (.i2l, 1) := by decide +kernel
theorem dX8_digestOf_26 : decode cX8_digestOf 26 = .ok (.iload_n 2, 1) := by decide +kernel
theorem dX8_digestOf_27 : decode cX8_digestOf 27 = .ok (.i2l, 1) := by decide +kernel
theorem dX8_digestOf_28 : decode cX8_digestOf 28 = .ok (.iload_n 3, 1) := by decide +kernel
theorem dX8_digestOf_29 : decode cX8_digestOf 29 = .ok (.i2l, 1) := by decide +kernel
theorem dX8_digestOf_30 : decode cX8_digestOf 30 = .ok (.invokestatic 68, 3) := by decide +kernel
theorem dX8_digestOf_33 : decode cX8_digestOf 33 = .ok (.ifCond .eq 22, 3) := by decide +kernel
theorem dX8_digestOf_36 : decode cX8_digestOf 36 = .ok (.aload_n 0, 1) := by decide +kernel
theorem dX8_digestOf_37 : decode cX8_digestOf 37 = .ok (.iload_n 1, 1) := by decide +kernel
theorem dX8_digestOf_38 : decode cX8_digestOf 38 = .ok (.iload 5, 2) := by decide +kernel
theorem dX8_digestOf_40 : decode cX8_digestOf 40 = .ok (.invokevirtual 95, 3) := by decide +kernel
theorem dX8_digestOf_43 : decode cX8_digestOf 43 = .ok (.ifCond .eq 12, 3) := by decide +kernel
theorem dX8_digestOf_46 : decode cX8_digestOf 46 = .ok (.aload_n 0, 1) := by decide +kernel
theorem dX8_digestOf_47 : decode cX8_digestOf 47 = .ok (.iload_n 1, 1) := by decide +kernel
theorem dX8_digestOf_48 : decode cX8_digestOf 48 = .ok (.iload 5, 2) := by decide +kernel
theorem dX8_digestOf_50 : decode cX8_digestOf 50 = .ok (.iload_n 2, 1) := by decide +kernel
theorem dX8_digestOf_51 : decode cX8_digestOf 51 = .ok (.iload_n 3, 1) := by decide +kernel
theorem dX8_digestOf_52 : decode cX8_digestOf 52 = .ok (.invokevirtual 189, 3) := by decide +kernel
theorem dX8_digestOf_55 : decode cX8_digestOf 55 = .ok (.iinc 4 1, 3) := by decide +kernel
theorem dX8_digestOf_58 : decode cX8_digestOf 58 = .ok (.goto (-51), 3) := by decide +kernel
theorem dX8_digestOf_61 : decode cX8_digestOf 61 = .ok (.aload_n 0, 1) := by decide +kernel
theorem dX8_digestOf_62 : decode cX8_digestOf 62 = .ok (.iload_n 1, 1) := by decide +kernel
theorem dX8_digestOf_63 : decode cX8_digestOf 63 = .ok (.iload_n 2, 1) := by decide +kernel
theorem dX8_digestOf_64 : decode cX8_digestOf 64 = .ok (.iload_n 3, 1) := by decide +kernel
theorem dX8_digestOf_65 : decode cX8_digestOf 65 = .ok (.invokevirtual 177, 3) := by decide +kernel
theorem dX8_digestOf_68 : decode cX8_digestOf 68 = .ok (.istore 4, 2) := by decide +kernel
theorem dX8_digestOf_70 : decode cX8_digestOf 70 = .ok (.iload 4, 2) := by decide +kernel
theorem dX8_digestOf_72 : decode cX8_digestOf 72 = .ok (.ifCond .ge 7, 3) := by decide +kernel
theorem dX8_digestOf_75 : decode cX8_digestOf 75 = .ok (.iconst 0, 1) := by decide +kernel
theorem dX8_digestOf_76 : decode cX8_digestOf 76 = .ok (.goto 11, 3) := by decide +kernel
theorem dX8_digestOf_79 : decode cX8_digestOf 79 = .ok (.aload_n 0, 1) := by decide +kernel
theorem dX8_digestOf_80 : decode cX8_digestOf 80 = .ok (.getfield 37, 3) := by decide +kernel
theorem dX8_digestOf_83 : decode cX8_digestOf 83 = .ok (.iload 4, 2) := by decide +kernel
theorem dX8_digestOf_85 : decode cX8_digestOf 85 = .ok (.laload, 1) := by decide +kernel
theorem dX8_digestOf_86 : decode cX8_digestOf 86 = .ok (.l2i, 1) := by decide +kernel
theorem dX8_digestOf_87 : decode cX8_digestOf 87 = .ok (.ireturn, 1) := by decide +kernel
theorem dX8_keepNow_0 : decode cX8_keepNow 0 = .ok (.iconst 0, 1) := by decide +kernel
theorem dX8_keepNow_1 : decode cX8_keepNow 1 = .ok (.istore_n 1, 1) := by decide +kernel
theorem dX8_keepNow_2 : decode cX8_keepNow 2 = .ok (.iload_n 1, 1) := by decide +kernel
theorem dX8_keepNow_3 : decode cX8_keepNow 3 = .ok (.sipush 200, 3) := by decide +kernel
theorem dX8_keepNow_6 : decode cX8_keepNow 6 = .ok (.if_icmp .ge 21, 3) := by decide +kernel
theorem dX8_keepNow_9 : decode cX8_keepNow 9 = .ok (.aload_n 0, 1) := by decide +kernel
theorem dX8_keepNow_10 : decode cX8_keepNow 10 = .ok (.getfield 44, 3) := by decide +kernel
theorem dX8_keepNow_13 : decode cX8_keepNow 13 = .ok (.iload_n 1, 1) := by decide +kernel
theorem dX8_keepNow_14 : decode cX8_keepNow 14 = .ok (.aload_n 0, 1) := by decide +kernel
theorem dX8_keepNow_15 : decode cX8_keepNow 15 = .ok (.getfield 7, 3) := by decide +kernel
theorem dX8_keepNow_18 : decode cX8_keepNow 18 = .ok (.iload_n 1, 1) := by decide +kernel
theorem dX8_keepNow_19 : decode cX8_keepNow 19 = .ok (.iaload, 1) := by decide +kernel
theorem dX8_keepNow_20 : decode cX8_keepNow 20 = .ok (.iastore, 1) := by decide +kernel
theorem dX8_keepNow_21 : decode cX8_keepNow 21 = .ok (.iinc 1 1, 3) := by decide +kernel
theorem dX8_keepNow_24 : decode cX8_keepNow 24 = .ok (.goto (-22), 3) := by decide +kernel
theorem dX8_keepNow_27 : decode cX8_keepNow 27 = .ok (.aload_n 0, 1) := by decide +kernel
theorem dX8_keepNow_28 : decode cX8_keepNow 28 = .ok (.getfield 44, 3) := by decide +kernel
theorem dX8_keepNow_31 : decode cX8_keepNow 31 = .ok (.sipush 200, 3) := by decide +kernel
theorem dX8_keepNow_34 : decode cX8_keepNow 34 = .ok (.aload_n 0, 1) := by decide +kernel
theorem dX8_keepNow_35 : decode cX8_keepNow 35 = .ok (.getfield 78, 3) := by decide +kernel
theorem dX8_keepNow_38 : decode cX8_keepNow 38 = .ok (.iastore, 1) := by decide +kernel
theorem dX8_keepNow_39 : decode cX8_keepNow 39 = .ok (.return_, 1) := by decide +kernel
theorem dX8_back_0 : decode cX8_back 0 = .ok (.iconst 0, 1) := by decide +kernel
theorem dX8_back_1 : decode cX8_back 1 = .ok (.istore_n 2, 1) := by decide +kernel
theorem dX8_back_2 : decode cX8_back 2 = .ok (.iload_n 2, 1) := by decide +kernel
theorem dX8_back_3 : decode cX8_back 3 = .ok (.sipush 200, 3) := by decide +kernel
theorem dX8_back_6 : decode cX8_back 6 = .ok (.if_icmp .ge 21, 3) := by decide +kernel
theorem dX8_back_9 : decode cX8_back 9 = .ok (.aload_n 0, 1) := by decide +kernel
theorem dX8_back_10 : decode cX8_back 10 = .ok (.getfield 7, 3) := by decide +kernel
theorem dX8_back_13 : decode cX8_back 13 = .ok (.iload_n 2, 1) := by decide +kernel
theorem dX8_back_14 : decode cX8_back 14 = .ok (.aload_n 0, 1) := by decide +kernel
theorem dX8_back_15 : decode cX8_back 15 = .ok (.getfield 44, 3) := by decide +kernel
theorem dX8_back_18 : decode cX8_back 18 = .ok (.iload_n 2, 1) := by decide +kernel
theorem dX8_back_19 : decode cX8_back 19 = .ok (.iaload, 1) := by decide +kernel
theorem dX8_back_20 : decode cX8_back 20 = .ok (.iastore, 1) := by decide +kernel
theorem dX8_back_21 : decode cX8_back 21 = .ok (.iinc 2 1, 3) := by decide +kernel
theorem dX8_back_24 : decode cX8_back 24 = .ok (.goto (-22), 3) := by decide +kernel
theorem dX8_back_27 : decode cX8_back 27 = .ok (.aload_n 0, 1) := by decide +kernel
theorem dX8_back_28 : decode cX8_back 28 = .ok (.aload_n 0, 1) := by decide +kernel
theorem dX8_back_29 : decode cX8_back 29 = .ok (.getfield 44, 3) := by decide +kernel
theorem dX8_back_32 : decode cX8_back 32 = .ok (.sipush 200, 3) := by decide +kernel
theorem dX8_back_35 : decode cX8_back 35 = .ok (.iaload, 1) := by decide +kernel
theorem dX8_back_36 : decode cX8_back 36 = .ok (.putfield 78, 3) := by decide +kernel
theorem dX8_back_39 : decode cX8_back 39 = .ok (.iload_n 1, 1) := by decide +kernel
theorem dX8_back_40 : decode cX8_back 40 = .ok (.ireturn, 1) := by decide +kernel
theorem dX8_findTrees_0 : decode cX8_findTrees 0 = .ok (.iconst 0, 1) := by decide +kernel
theorem dX8_findTrees_1 : decode cX8_findTrees 1 = .ok (.istore_n 1, 1) := by decide +kernel
theorem dX8_findTrees_2 : decode cX8_findTrees 2 = .ok (.iload_n 1, 1) := by decide +kernel
theorem dX8_findTrees_3 : decode cX8_findTrees 3 = .ok (.sipush 200, 3) := by decide +kernel
theorem dX8_findTrees_6 : decode cX8_findTrees 6 = .ok (.if_icmp .ge 41, 3) := by decide +kernel
theorem dX8_findTrees_9 : decode cX8_findTrees 9 = .ok (.aload_n 0, 1) := by decide +kernel
theorem dX8_findTrees_10 : decode cX8_findTrees 10 = .ok (.getfield 47, 3) := by decide +kernel
theorem dX8_findTrees_13 : decode cX8_findTrees 13 = .ok (.iload_n 1, 1) := by decide +kernel
theorem dX8_findTrees_14 : decode cX8_findTrees 14 = .ok (.aload_n 0, 1) := by decide +kernel
theorem dX8_findTrees_15 : decode cX8_findTrees 15 = .ok (.getfield 7, 3) := by decide +kernel
theorem dX8_findTrees_18 : decode cX8_findTrees 18 = .ok (.iload_n 1, 1) := by decide +kernel
theorem dX8_findTrees_19 : decode cX8_findTrees 19 = .ok (.iaload, 1) := by decide +kernel
theorem dX8_findTrees_20 : decode cX8_findTrees 20 = .ok (.iconst 1, 1) := by decide +kernel
theorem dX8_findTrees_21 : decode cX8_findTrees 21 = .ok (.if_icmp .ne 18, 3) := by decide +kernel
theorem dX8_findTrees_24 : decode cX8_findTrees 24 = .ok (.aload_n 0, 1) := by decide +kernel
theorem dX8_findTrees_25 : decode cX8_findTrees 25 = .ok (.iload_n 1, 1) := by decide +kernel
theorem dX8_findTrees_26 : decode cX8_findTrees 26 = .ok (.bipush 50, 2) := by decide +kernel
theorem dX8_findTrees_28 : decode cX8_findTrees 28 = .ok (.idiv, 1) := by decide +kernel
theorem dX8_findTrees_29 : decode cX8_findTrees 29 = .ok (.iload_n 1, 1) := by decide +kernel
theorem dX8_findTrees_30 : decode cX8_findTrees 30 = .ok (.bipush 50, 2) := by decide +kernel
theorem dX8_findTrees_32 : decode cX8_findTrees 32 = .ok (.irem, 1) := by decide +kernel
theorem dX8_findTrees_33 : decode cX8_findTrees 33 = .ok (.invokevirtual 193, 3) := by decide +kernel
theorem dX8_findTrees_36 : decode cX8_findTrees 36 = .ok (.goto 4, 3) := by decide +kernel
theorem dX8_findTrees_39 : decode cX8_findTrees 39 = .ok (.lconst 0, 1) := by decide +kernel
theorem dX8_findTrees_40 : decode cX8_findTrees 40 = .ok (.lastore, 1) := by decide +kernel
theorem dX8_findTrees_41 : decode cX8_findTrees 41 = .ok (.iinc 1 1, 3) := by decide +kernel
theorem dX8_findTrees_44 : decode cX8_findTrees 44 = .ok (.goto (-42), 3) := by decide +kernel
theorem dX8_findTrees_47 : decode cX8_findTrees 47 = .ok (.return_, 1) := by decide +kernel
theorem dX8_workNow_0 : decode cX8_workNow 0 = .ok (.iconst 0, 1) := by decide +kernel
theorem dX8_workNow_1 : decode cX8_workNow 1 = .ok (.istore_n 1, 1) := by decide +kernel
theorem dX8_workNow_2 : decode cX8_workNow 2 = .ok (.iconst 0, 1) := by decide +kernel
theorem dX8_workNow_3 : decode cX8_workNow 3 = .ok (.istore_n 2, 1) := by decide +kernel
theorem dX8_workNow_4 : decode cX8_workNow 4 = .ok (.iload_n 2, 1) := by decide +kernel
theorem dX8_workNow_5 : decode cX8_workNow 5 = .ok (.sipush 200, 3) := by decide +kernel
theorem dX8_workNow_8 : decode cX8_workNow 8 = .ok (.if_icmp .ge 49, 3) := by decide +kernel
theorem dX8_workNow_11 : decode cX8_workNow 11 = .ok (.iload_n 1, 1) := by decide +kernel
theorem dX8_workNow_12 : decode cX8_workNow 12 = .ok (.aload_n 0, 1) := by decide +kernel
theorem dX8_workNow_13 : decode cX8_workNow 13 = .ok (.getfield 7, 3) := by decide +kernel
theorem dX8_workNow_16 : decode cX8_workNow 16 = .ok (.iload_n 2, 1) := by decide +kernel
theorem dX8_workNow_17 : decode cX8_workNow 17 = .ok (.iaload, 1) := by decide +kernel
theorem dX8_workNow_18 : decode cX8_workNow 18 = .ok (.iconst 1, 1) := by decide +kernel
theorem dX8_workNow_19 : decode cX8_workNow 19 = .ok (.if_icmp .ne 29, 3) := by decide +kernel
theorem dX8_workNow_22 : decode cX8_workNow 22 = .ok (.aload_n 0, 1) := by decide +kernel
theorem dX8_workNow_23 : decode cX8_workNow 23 = .ok (.iload_n 2, 1) := by decide +kernel
theorem dX8_workNow_24 : decode cX8_workNow 24 = .ok (.bipush 50, 2) := by decide +kernel
theorem dX8_workNow_26 : decode cX8_workNow 26 = .ok (.idiv, 1) := by decide +kernel
theorem dX8_workNow_27 : decode cX8_workNow 27 = .ok (.iload_n 2, 1) := by decide +kernel
theorem dX8_workNow_28 : decode cX8_workNow 28 = .ok (.bipush 50, 2) := by decide +kernel
theorem dX8_workNow_30 : decode cX8_workNow 30 = .ok (.irem, 1) := by decide +kernel
theorem dX8_workNow_31 : decode cX8_workNow 31 = .ok (.invokevirtual 193, 3) := by decide +kernel
theorem dX8_workNow_34 : decode cX8_workNow 34 = .ok (.aload_n 0, 1) := by decide +kernel
theorem dX8_workNow_35 : decode cX8_workNow 35 = .ok (.getfield 47, 3) := by decide +kernel
theorem dX8_workNow_38 : decode cX8_workNow 38 = .ok (.iload_n 2, 1) := by decide +kernel
theorem dX8_workNow_39 : decode cX8_workNow 39 = .ok (.laload, 1) := by decide +kernel
theorem dX8_workNow_40 : decode cX8_workNow 40 = .ok (.lcmp, 1) := by decide +kernel
theorem dX8_workNow_41 : decode cX8_workNow 41 = .ok (.ifCond .eq 7, 3) := by decide +kernel
theorem dX8_workNow_44 : decode cX8_workNow 44 = .ok (.iconst 1, 1) := by decide +kernel
theorem dX8_workNow_45 : decode cX8_workNow 45 = .ok (.goto 4, 3) := by decide +kernel
theorem dX8_workNow_48 : decode cX8_workNow 48 = .ok (.iconst 0, 1) := by decide +kernel
theorem dX8_workNow_49 : decode cX8_workNow 49 = .ok (.iadd, 1) := by decide +kernel
theorem dX8_workNow_50 : decode cX8_workNow 50 = .ok (.istore_n 1, 1) := by decide +kernel
theorem dX8_workNow_51 : decode cX8_workNow 51 = .ok (.iinc 2 1, 3) := by decide +kernel
theorem dX8_workNow_54 : decode cX8_workNow 54 = .ok (.goto (-50), 3) := by decide +kernel
theorem dX8_workNow_57 : decode cX8_workNow 57 = .ok (.iload_n 1, 1) := by decide +kernel
theorem dX8_workNow_58 : decode cX8_workNow 58 = .ok (.ireturn, 1) := by decide +kernel
theorem dX8_areAlike_0 : decode cX8_areAlike 0 = .ok (.aload_n 0, 1) := by decide +kernel
theorem dX8_areAlike_1 : decode cX8_areAlike 1 = .ok (.iload_n 1, 1) := by decide +kernel
theorem dX8_areAlike_2 : decode cX8_areAlike 2 = .ok (.invokevirtual 99, 3) := by decide +kernel
theorem dX8_areAlike_5 : decode cX8_areAlike 5 = .ok (.ifCond .le 7, 3) := by decide +kernel
theorem dX8_areAlike_8 : decode cX8_areAlike 8 = .ok (.iconst 1, 1) := by decide +kernel
theorem dX8_areAlike_9 : decode cX8_areAlike 9 = .ok (.goto 4, 3) := by decide +kernel
theorem dX8_areAlike_12 : decode cX8_areAlike 12 = .ok (.iconst 0, 1) := by decide +kernel
theorem dX8_areAlike_13 : decode cX8_areAlike 13 = .ok (.istore_n 3, 1) := by decide +kernel
theorem dX8_areAlike_14 : decode cX8_areAlike 14 = .ok (.iconst 0, 1) := by decide +kernel
theorem dX8_areAlike_15 : decode cX8_areAlike 15 = .ok (.istore 4, 2) := by decide +kernel
theorem dX8_areAlike_17 : decode cX8_areAlike 17 = .ok (.iload 4, 2) := by decide +kernel
theorem dX8_areAlike_19 : decode cX8_areAlike 19 = .ok (.bipush 50, 2) := by decide +kernel
theorem dX8_areAlike_21 : decode cX8_areAlike 21 = .ok (.if_icmp .ge 36, 3) := by decide +kernel
theorem dX8_areAlike_24 : decode cX8_areAlike 24 = .ok (.iload_n 3, 1) := by decide +kernel
theorem dX8_areAlike_25 : decode cX8_areAlike 25 = .ok (.ifCond .eq 24, 3) := by decide +kernel
theorem dX8_areAlike_28 : decode cX8_areAlike 28 = .ok (.aload_n 0, 1) := by decide +kernel
theorem dX8_areAlike_29 : decode cX8_areAlike 29 = .ok (.iload_n 1, 1) := by decide +kernel
theorem dX8_areAlike_30 : decode cX8_areAlike 30 = .ok (.iload 4, 2) := by decide +kernel
theorem dX8_areAlike_32 : decode cX8_areAlike 32 = .ok (.invokevirtual 95, 3) := by decide +kernel
theorem dX8_areAlike_35 : decode cX8_areAlike 35 = .ok (.aload_n 0, 1) := by decide +kernel
theorem dX8_areAlike_36 : decode cX8_areAlike 36 = .ok (.iload_n 2, 1) := by decide +kernel
theorem dX8_areAlike_37 : decode cX8_areAlike 37 = .ok (.iload 4, 2) := by decide +kernel
theorem dX8_areAlike_39 : decode cX8_areAlike 39 = .ok (.invokevirtual 95, 3) := by decide +kernel
theorem dX8_areAlike_42 : decode cX8_areAlike 42 = .ok (.if_icmp .ne 7, 3) := by decide +kernel
theorem dX8_areAlike_45 : decode cX8_areAlike 45 = .ok (.iconst 1, 1) := by decide +kernel
theorem dX8_areAlike_46 : decode cX8_areAlike 46 = .ok (.goto 4, 3) := by decide +kernel
theorem dX8_areAlike_49 : decode cX8_areAlike 49 = .ok (.iconst 0, 1) := by decide +kernel
theorem dX8_areAlike_50 : decode cX8_areAlike 50 = .ok (.istore_n 3, 1) := by decide +kernel
theorem dX8_areAlike_51 : decode cX8_areAlike 51 = .ok (.iinc 4 1, 3) := by decide +kernel
theorem dX8_areAlike_54 : decode cX8_areAlike 54 = .ok (.goto (-37), 3) := by decide +kernel
theorem dX8_areAlike_57 : decode cX8_areAlike 57 = .ok (.iload_n 3, 1) := by decide +kernel
theorem dX8_areAlike_58 : decode cX8_areAlike 58 = .ok (.ireturn, 1) := by decide +kernel
theorem dX8_alikeOnes_0 : decode cX8_alikeOnes 0 = .ok (.iconst 0, 1) := by decide +kernel
theorem dX8_alikeOnes_1 : decode cX8_alikeOnes 1 = .ok (.istore_n 1, 1) := by decide +kernel
theorem dX8_alikeOnes_2 : decode cX8_alikeOnes 2 = .ok (.iconst 0, 1) := by decide +kernel
theorem dX8_alikeOnes_3 : decode cX8_alikeOnes 3 = .ok (.istore_n 2, 1) := by decide +kernel
theorem dX8_alikeOnes_4 : decode cX8_alikeOnes 4 = .ok (.iload_n 2, 1) := by decide +kernel
theorem dX8_alikeOnes_5 : decode cX8_alikeOnes 5 = .ok (.iconst 4, 1) := by decide +kernel
theorem dX8_alikeOnes_6 : decode cX8_alikeOnes 6 = .ok (.if_icmp .ge 47, 3) := by decide +kernel
theorem dX8_alikeOnes_9 : decode cX8_alikeOnes 9 = .ok (.iload_n 2, 1) := by decide +kernel
theorem dX8_alikeOnes_10 : decode cX8_alikeOnes 10 = .ok (.iconst 1, 1) := by decide +kernel
theorem dX8_alikeOnes_11 : decode cX8_alikeOnes 11 = .ok (.iadd, 1) := by decide +kernel
theorem dX8_alikeOnes_12 : decode cX8_alikeOnes 12 = .ok (.istore_n 3, 1) := by decide +kernel
theorem dX8_alikeOnes_13 : decode cX8_alikeOnes 13 = .ok (.iload_n 3, 1) := by decide +kernel
theorem dX8_alikeOnes_14 : decode cX8_alikeOnes 14 = .ok (.iconst 4, 1) := by decide +kernel
theorem dX8_alikeOnes_15 : decode cX8_alikeOnes 15 = .ok (.if_icmp .ge 32, 3) := by decide +kernel
theorem dX8_alikeOnes_18 : decode cX8_alikeOnes 18 = .ok (.iload_n 1, 1) := by decide +kernel
theorem dX8_alikeOnes_19 : decode cX8_alikeOnes 19 = .ok (.aload_n 0, 1) := by decide +kernel
theorem dX8_alikeOnes_20 : decode cX8_alikeOnes 20 = .ok (.iload_n 2, 1) := by decide +kernel
theorem dX8_alikeOnes_21 : decode cX8_alikeOnes 21 = .ok (.iload_n 3, 1) := by decide +kernel
theorem dX8_alikeOnes_22 : decode cX8_alikeOnes 22 = .ok (.invokevirtual 197, 3) := by decide +kernel
theorem dX8_alikeOnes_25 : decode cX8_alikeOnes 25 = .ok (.ifCond .eq 13, 3) := by decide +kernel
theorem dX8_alikeOnes_28 : decode cX8_alikeOnes 28 = .ok (.iconst 1, 1) := by decide +kernel
theorem dX8_alikeOnes_29 : decode cX8_alikeOnes 29 = .ok (.iconst 4, 1) := by decide +kernel
theorem dX8_alikeOnes_30 : decode cX8_alikeOnes 30 = .ok (.iload_n 2, 1) := by decide +kernel
theorem dX8_alikeOnes_31 : decode cX8_alikeOnes 31 = .ok (.imul, 1) := by decide +kernel
theorem dX8_alikeOnes_32 : decode cX8_alikeOnes 32 = .ok (.iload_n 3, 1) := by decide +kernel
theorem dX8_alikeOnes_33 : decode cX8_alikeOnes 33 = .ok (.iadd, 1) := by decide +kernel
theorem dX8_alikeOnes_34 : decode cX8_alikeOnes 34 = .ok (.ishl, 1) := by decide +kernel
theorem dX8_alikeOnes_35 : decode cX8_alikeOnes 35 = .ok (.goto 4, 3) := by decide +kernel
theorem dX8_alikeOnes_38 : decode cX8_alikeOnes 38 = .ok (.iconst 0, 1) := by decide +kernel
theorem dX8_alikeOnes_39 : decode cX8_alikeOnes 39 = .ok (.ior, 1) := by decide +kernel
theorem dX8_alikeOnes_40 : decode cX8_alikeOnes 40 = .ok (.istore_n 1, 1) := by decide +kernel
theorem dX8_alikeOnes_41 : decode cX8_alikeOnes 41 = .ok (.iinc 3 1, 3) := by decide +kernel
theorem dX8_alikeOnes_44 : decode cX8_alikeOnes 44 = .ok (.goto (-31), 3) := by decide +kernel
theorem dX8_alikeOnes_47 : decode cX8_alikeOnes 47 = .ok (.iinc 2 1, 3) := by decide +kernel
theorem dX8_alikeOnes_50 : decode cX8_alikeOnes 50 = .ok (.goto (-46), 3) := by decide +kernel
theorem dX8_alikeOnes_53 : decode cX8_alikeOnes 53 = .ok (.iload_n 1, 1) := by decide +kernel
theorem dX8_alikeOnes_54 : decode cX8_alikeOnes 54 = .ok (.ireturn, 1) := by decide +kernel
theorem dX8_leastOf_0 : decode cX8_leastOf 0 = .ok (.iconst 0, 1) := by decide +kernel
theorem dX8_leastOf_1 : decode cX8_leastOf 1 = .ok (.istore_n 1, 1) := by decide +kernel
theorem dX8_leastOf_2 : decode cX8_leastOf 2 = .ok (.iload_n 0, 1) := by decide +kernel
theorem dX8_leastOf_3 : decode cX8_leastOf 3 = .ok (.iload_n 1, 1) := by decide +kernel
theorem dX8_leastOf_4 : decode cX8_leastOf 4 = .ok (.ishr, 1) := by decide +kernel
theorem dX8_leastOf_5 : decode cX8_leastOf 5 = .ok (.iconst 1, 1) := by decide +kernel
theorem dX8_leastOf_6 : decode cX8_leastOf 6 = .ok (.iand, 1) := by decide +kernel
theorem dX8_leastOf_7 : decode cX8_leastOf 7 = .ok (.ifCond .ne 9, 3) := by decide +kernel
theorem dX8_leastOf_10 : decode cX8_leastOf 10 = .ok (.iinc 1 1, 3) := by decide +kernel
theorem dX8_leastOf_13 : decode cX8_leastOf 13 = .ok (.goto (-11), 3) := by decide +kernel
theorem dX8_leastOf_16 : decode cX8_leastOf 16 = .ok (.iload_n 1, 1) := by decide +kernel
theorem dX8_leastOf_17 : decode cX8_leastOf 17 = .ok (.ireturn, 1) := by decide +kernel
theorem dX8_goOne_0 : decode cX8_goOne 0 = .ok (.aload_n 0, 1) := by decide +kernel
theorem dX8_goOne_1 : decode cX8_goOne 1 = .ok (.invokevirtual 200, 3) := by decide +kernel
theorem dX8_goOne_4 : decode cX8_goOne 4 = .ok (.istore_n 2, 1) := by decide +kernel
theorem dX8_goOne_5 : decode cX8_goOne 5 = .ok (.aload_n 0, 1) := by decide +kernel
theorem dX8_goOne_6 : decode cX8_goOne 6 = .ok (.getfield 203, 3) := by decide +kernel
theorem dX8_goOne_9 : decode cX8_goOne 9 = .ok (.ifCond .eq 7, 3) := by decide +kernel
theorem dX8_goOne_12 : decode cX8_goOne 12 = .ok (.aload_n 0, 1) := by decide +kernel
theorem dX8_goOne_13 : decode cX8_goOne 13 = .ok (.invokevirtual 207, 3) := by decide +kernel
theorem dX8_goOne_16 : decode cX8_goOne 16 = .ok (.aload_n 0, 1) := by decide +kernel
theorem dX8_goOne_17 : decode cX8_goOne 17 = .ok (.aload_n 0, 1) := by decide +kernel
theorem dX8_goOne_18 : decode cX8_goOne 18 = .ok (.getfield 22, 3) := by decide +kernel
theorem dX8_goOne_21 : decode cX8_goOne 21 = .ok (.iload_n 1, 1) := by decide +kernel
theorem dX8_goOne_22 : decode cX8_goOne 22 = .ok (.iaload, 1) := by decide +kernel
theorem dX8_goOne_23 : decode cX8_goOne 23 = .ok (.aload_n 0, 1) := by decide +kernel
theorem dX8_goOne_24 : decode cX8_goOne 24 = .ok (.getfield 25, 3) := by decide +kernel
theorem dX8_goOne_27 : decode cX8_goOne 27 = .ok (.iload_n 1, 1) := by decide +kernel
theorem dX8_goOne_28 : decode cX8_goOne 28 = .ok (.iaload, 1) := by decide +kernel
theorem dX8_goOne_29 : decode cX8_goOne 29 = .ok (.aload_n 0, 1) := by decide +kernel
theorem dX8_goOne_30 : decode cX8_goOne 30 = .ok (.getfield 28, 3) := by decide +kernel
theorem dX8_goOne_33 : decode cX8_goOne 33 = .ok (.iload_n 1, 1) := by decide +kernel
theorem dX8_goOne_34 : decode cX8_goOne 34 = .ok (.iaload, 1) := by decide +kernel
theorem dX8_goOne_35 : decode cX8_goOne 35 = .ok (.aload_n 0, 1) := by decide +kernel
theorem dX8_goOne_36 : decode cX8_goOne 36 = .ok (.getfield 31, 3) := by decide +kernel
theorem dX8_goOne_39 : decode cX8_goOne 39 = .ok (.iload_n 1, 1) := by decide +kernel
theorem dX8_goOne_40 : decode cX8_goOne 40 = .ok (.iaload, 1) := by decide +kernel
theorem dX8_goOne_41 : decode cX8_goOne 41 = .ok (.invokevirtual 210, 3) := by decide +kernel
theorem dX8_goOne_44 : decode cX8_goOne 44 = .ok (.aload_n 0, 1) := by decide +kernel
theorem dX8_goOne_45 : decode cX8_goOne 45 = .ok (.dup, 1) := by decide +kernel
theorem dX8_goOne_46 : decode cX8_goOne 46 = .ok (.getfield 213, 3) := by decide +kernel
theorem dX8_goOne_49 : decode cX8_goOne 49 = .ok (.aload_n 0, 1) := by decide +kernel
theorem dX8_goOne_50 : decode cX8_goOne 50 = .ok (.getfield 203, 3) := by decide +kernel
theorem dX8_goOne_53 : decode cX8_goOne 53 = .ok (.ifCond .eq 10, 3) := by decide +kernel
theorem dX8_goOne_56 : decode cX8_goOne 56 = .ok (.aload_n 0, 1) := by decide +kernel
theorem dX8_goOne_57 : decode cX8_goOne 57 = .ok (.invokevirtual 216, 3) := by decide +kernel
theorem dX8_goOne_60 : decode cX8_goOne 60 = .ok (.goto 4, 3) := by decide +kernel
theorem dX8_goOne_63 : decode cX8_goOne 63 = .ok (.iconst 0, 1) := by decide +kernel
theorem dX8_goOne_64 : decode cX8_goOne 64 = .ok (.iadd, 1) := by decide +kernel
theorem dX8_goOne_65 : decode cX8_goOne 65 = .ok (.putfield 213, 3) := by decide +kernel
theorem dX8_goOne_68 : decode cX8_goOne 68 = .ok (.aload_n 0, 1) := by decide +kernel
theorem dX8_goOne_69 : decode cX8_goOne 69 = .ok (.invokevirtual 200, 3) := by decide +kernel
theorem dX8_goOne_72 : decode cX8_goOne 72 = .ok (.iload_n 2, 1) := by decide +kernel
theorem dX8_goOne_73 : decode cX8_goOne 73 = .ok (.iconst (-1), 1) := by decide +kernel
theorem dX8_goOne_74 : decode cX8_goOne 74 = .ok (.ixor, 1) := by decide +kernel
theorem dX8_goOne_75 : decode cX8_goOne 75 = .ok (.iand, 1) := by decide +kernel
theorem dX8_goOne_76 : decode cX8_goOne 76 = .ok (.istore_n 3, 1) := by decide +kernel
theorem dX8_goOne_77 : decode cX8_goOne 77 = .ok (.iload_n 3, 1) := by decide +kernel
theorem dX8_goOne_78 : decode cX8_goOne 78 = .ok (.ifCond .eq 35, 3) := by decide +kernel
theorem dX8_goOne_81 : decode cX8_goOne 81 = .ok (.aload_n 0, 1) := by decide +kernel
theorem dX8_goOne_82 : decode cX8_goOne 82 = .ok (.getfield 219, 3) := by decide +kernel
theorem dX8_goOne_85 : decode cX8_goOne 85 = .ok (.ifCond .ge 28, 3) := by decide +kernel
theorem dX8_goOne_88 : decode cX8_goOne 88 = .ok (.aload_n 0, 1) := by decide +kernel
theorem dX8_goOne_89 : decode cX8_goOne 89 = .ok (.iload_n 1, 1) := by decide +kernel
theorem dX8_goOne_90 : decode cX8_goOne 90 = .ok (.putfield 219, 3) := by decide +kernel
theorem dX8_goOne_93 : decode cX8_goOne 93 = .ok (.aload_n 0, 1) := by decide +kernel
theorem dX8_goOne_94 : decode cX8_goOne 94 = .ok (.bipush 10, 2) := by decide +kernel
theorem dX8_goOne_96 : decode cX8_goOne 96 = .ok (.iload_n 3, 1) := by decide +kernel
theorem dX8_goOne_97 : decode cX8_goOne 97 = .ok (.invokestatic 222, 3) := by decide +kernel
theorem dX8_goOne_100 : decode cX8_goOne 100 = .ok (.iconst 4, 1) := by decide +kernel
theorem dX8_goOne_101 : decode cX8_goOne 101 = .ok (.idiv, 1) := by decide +kernel
theorem dX8_goOne_102 : decode cX8_goOne 102 = .ok (.imul, 1) := by decide +kernel
theorem dX8_goOne_103 : decode cX8_goOne 103 = .ok (.iload_n 3, 1) := by decide +kernel
theorem dX8_goOne_104 : decode cX8_goOne 104 = .ok (.invokestatic 222, 3) := by decide +kernel
theorem dX8_goOne_107 : decode cX8_goOne 107 = .ok (.iconst 4, 1) := by decide +kernel
theorem dX8_goOne_108 : decode cX8_goOne 108 = .ok (.irem, 1) := by decide +kernel
theorem dX8_goOne_109 : decode cX8_goOne 109 = .ok (.iadd, 1) := by decide +kernel
theorem dX8_goOne_110 : decode cX8_goOne 110 = .ok (.putfield 225, 3) := by decide +kernel
theorem dX8_goOne_113 : decode cX8_goOne 113 = .ok (.return_, 1) := by decide +kernel
theorem dX8_goActs_0 : decode cX8_goActs 0 = .ok (.aload_n 0, 1) := by decide +kernel
theorem dX8_goActs_1 : decode cX8_goActs 1 = .ok (.bipush (-6), 2) := by decide +kernel
theorem dX8_goActs_3 : decode cX8_goActs 3 = .ok (.putfield 228, 3) := by decide +kernel
theorem dX8_goActs_6 : decode cX8_goActs 6 = .ok (.aload_n 0, 1) := by decide +kernel
theorem dX8_goActs_7 : decode cX8_goActs 7 = .ok (.bipush (-6), 2) := by decide +kernel
theorem dX8_goActs_9 : decode cX8_goActs 9 = .ok (.putfield 231, 3) := by decide +kernel
end
section
theorem dX8_goActs_12 : decode cX8_goActs 12 = .ok (.aload_n 0, 1) := by decide +kernel
theorem dX8_goActs_13 : decode cX8_goActs 13 = .ok (.bipush (-6), 2) := by decide +kernel
theorem dX8_goActs_15 : decode cX8_goActs 15 = .ok (.putfield 219, 3) := by decide +kernel
theorem dX8_goActs_18 : decode cX8_goActs 18 = .ok (.aload_n 0, 1) := by decide +kernel
theorem dX8_goActs_19 : decode cX8_goActs 19 = .ok (.bipush (-6), 2) := by decide +kernel
theorem dX8_goActs_21 : decode cX8_goActs 21 = .ok (.putfield 225, 3) := by decide +kernel
theorem dX8_goActs_24 : decode cX8_goActs 24 = .ok (.aload_n 0, 1) := by decide +kernel
theorem dX8_goActs_25 : decode cX8_goActs 25 = .ok (.iconst 0, 1) := by decide +kernel
theorem dX8_goActs_26 : decode cX8_goActs 26 = .ok (.putfield 213, 3) := by decide +kernel
theorem dX8_goActs_29 : decode cX8_goActs 29 = .ok (.iconst 0, 1) := by decide +kernel
theorem dX8_goActs_30 : decode cX8_goActs 30 = .ok (.istore_n 1, 1) := by decide +kernel
theorem dX8_goActs_31 : decode cX8_goActs 31 = .ok (.iload_n 1, 1) := by decide +kernel
theorem dX8_goActs_32 : decode cX8_goActs 32 = .ok (.aload_n 0, 1) := by decide +kernel
theorem dX8_goActs_33 : decode cX8_goActs 33 = .ok (.getfield 110, 3) := by decide +kernel
theorem dX8_goActs_36 : decode cX8_goActs 36 = .ok (.if_icmp .ge 82, 3) := by decide +kernel
theorem dX8_goActs_39 : decode cX8_goActs 39 = .ok (.aload_n 0, 1) := by decide +kernel
theorem dX8_goActs_40 : decode cX8_goActs 40 = .ok (.getfield 228, 3) := by decide +kernel
theorem dX8_goActs_43 : decode cX8_goActs 43 = .ok (.ifCond .ge 75, 3) := by decide +kernel
theorem dX8_goActs_46 : decode cX8_goActs 46 = .ok (.aload_n 0, 1) := by decide +kernel
theorem dX8_goActs_47 : decode cX8_goActs 47 = .ok (.aload_n 0, 1) := by decide +kernel
theorem dX8_goActs_48 : decode cX8_goActs 48 = .ok (.getfield 22, 3) := by decide +kernel
theorem dX8_goActs_51 : decode cX8_goActs 51 = .ok (.iload_n 1, 1) := by decide +kernel
theorem dX8_goActs_52 : decode cX8_goActs 52 = .ok (.iaload, 1) := by decide +kernel
theorem dX8_goActs_53 : decode cX8_goActs 53 = .ok (.aload_n 0, 1) := by decide +kernel
theorem dX8_goActs_54 : decode cX8_goActs 54 = .ok (.getfield 25, 3) := by decide +kernel
theorem dX8_goActs_57 : decode cX8_goActs 57 = .ok (.iload_n 1, 1) := by decide +kernel
theorem dX8_goActs_58 : decode cX8_goActs 58 = .ok (.iaload, 1) := by decide +kernel
theorem dX8_goActs_59 : decode cX8_goActs 59 = .ok (.aload_n 0, 1) := by decide +kernel
theorem dX8_goActs_60 : decode cX8_goActs 60 = .ok (.getfield 28, 3) := by decide +kernel
theorem dX8_goActs_63 : decode cX8_goActs 63 = .ok (.iload_n 1, 1) := by decide +kernel
theorem dX8_goActs_64 : decode cX8_goActs 64 = .ok (.iaload, 1) := by decide +kernel
theorem dX8_goActs_65 : decode cX8_goActs 65 = .ok (.aload_n 0, 1) := by decide +kernel
theorem dX8_goActs_66 : decode cX8_goActs 66 = .ok (.getfield 31, 3) := by decide +kernel
theorem dX8_goActs_69 : decode cX8_goActs 69 = .ok (.iload_n 1, 1) := by decide +kernel
theorem dX8_goActs_70 : decode cX8_goActs 70 = .ok (.iaload, 1) := by decide +kernel
theorem dX8_goActs_71 : decode cX8_goActs 71 = .ok (.invokevirtual 234, 3) := by decide +kernel
theorem dX8_goActs_74 : decode cX8_goActs 74 = .ok (.istore_n 2, 1) := by decide +kernel
theorem dX8_goActs_75 : decode cX8_goActs 75 = .ok (.aload_n 0, 1) := by decide +kernel
theorem dX8_goActs_76 : decode cX8_goActs 76 = .ok (.iload_n 2, 1) := by decide +kernel
theorem dX8_goActs_77 : decode cX8_goActs 77 = .ok (.ifCond .le 7, 3) := by decide +kernel
theorem dX8_goActs_80 : decode cX8_goActs 80 = .ok (.iload_n 1, 1) := by decide +kernel
theorem dX8_goActs_81 : decode cX8_goActs 81 = .ok (.goto 5, 3) := by decide +kernel
theorem dX8_goActs_84 : decode cX8_goActs 84 = .ok (.bipush (-6), 2) := by decide +kernel
theorem dX8_goActs_86 : decode cX8_goActs 86 = .ok (.putfield 228, 3) := by decide +kernel
theorem dX8_goActs_89 : decode cX8_goActs 89 = .ok (.aload_n 0, 1) := by decide +kernel
theorem dX8_goActs_90 : decode cX8_goActs 90 = .ok (.iload_n 2, 1) := by decide +kernel
theorem dX8_goActs_91 : decode cX8_goActs 91 = .ok (.ifCond .le 7, 3) := by decide +kernel
theorem dX8_goActs_94 : decode cX8_goActs 94 = .ok (.iload_n 2, 1) := by decide +kernel
theorem dX8_goActs_95 : decode cX8_goActs 95 = .ok (.goto 5, 3) := by decide +kernel
theorem dX8_goActs_98 : decode cX8_goActs 98 = .ok (.bipush (-6), 2) := by decide +kernel
theorem dX8_goActs_100 : decode cX8_goActs 100 = .ok (.putfield 231, 3) := by decide +kernel
theorem dX8_goActs_103 : decode cX8_goActs 103 = .ok (.iload_n 2, 1) := by decide +kernel
theorem dX8_goActs_104 : decode cX8_goActs 104 = .ok (.ifCond .ne 8, 3) := by decide +kernel
theorem dX8_goActs_107 : decode cX8_goActs 107 = .ok (.aload_n 0, 1) := by decide +kernel
theorem dX8_goActs_108 : decode cX8_goActs 108 = .ok (.iload_n 1, 1) := by decide +kernel
theorem dX8_goActs_109 : decode cX8_goActs 109 = .ok (.invokevirtual 238, 3) := by decide +kernel
theorem dX8_goActs_112 : decode cX8_goActs 112 = .ok (.iinc 1 1, 3) := by decide +kernel
theorem dX8_goActs_115 : decode cX8_goActs 115 = .ok (.goto (-84), 3) := by decide +kernel
theorem dX8_goActs_118 : decode cX8_goActs 118 = .ok (.return_, 1) := by decide +kernel
theorem dX8_refusal_0 : decode cX8_refusal 0 = .ok (.aload_n 0, 1) := by decide +kernel
theorem dX8_refusal_1 : decode cX8_refusal 1 = .ok (.invokevirtual 242, 3) := by decide +kernel
theorem dX8_refusal_4 : decode cX8_refusal 4 = .ok (.aload_n 0, 1) := by decide +kernel
theorem dX8_refusal_5 : decode cX8_refusal 5 = .ok (.iload_n 1, 1) := by decide +kernel
theorem dX8_refusal_6 : decode cX8_refusal 6 = .ok (.putfield 203, 3) := by decide +kernel
theorem dX8_refusal_9 : decode cX8_refusal 9 = .ok (.aload_n 0, 1) := by decide +kernel
theorem dX8_refusal_10 : decode cX8_refusal 10 = .ok (.invokevirtual 245, 3) := by decide +kernel
theorem dX8_refusal_13 : decode cX8_refusal 13 = .ok (.ifCond .lt 6, 3) := by decide +kernel
theorem dX8_refusal_16 : decode cX8_refusal 16 = .ok (.bipush (-5), 2) := by decide +kernel
theorem dX8_refusal_18 : decode cX8_refusal 18 = .ok (.ireturn, 1) := by decide +kernel
theorem dX8_refusal_19 : decode cX8_refusal 19 = .ok (.aload_n 0, 1) := by decide +kernel
theorem dX8_refusal_20 : decode cX8_refusal 20 = .ok (.invokevirtual 248, 3) := by decide +kernel
theorem dX8_refusal_23 : decode cX8_refusal 23 = .ok (.aload_n 0, 1) := by decide +kernel
theorem dX8_refusal_24 : decode cX8_refusal 24 = .ok (.getfield 228, 3) := by decide +kernel
theorem dX8_refusal_27 : decode cX8_refusal 27 = .ok (.ifCond .lt 8, 3) := by decide +kernel
theorem dX8_refusal_30 : decode cX8_refusal 30 = .ok (.bipush (-3), 2) := by decide +kernel
theorem dX8_refusal_32 : decode cX8_refusal 32 = .ok (.goto 5, 3) := by decide +kernel
theorem dX8_refusal_35 : decode cX8_refusal 35 = .ok (.bipush (-6), 2) := by decide +kernel
theorem dX8_refusal_37 : decode cX8_refusal 37 = .ok (.ireturn, 1) := by decide +kernel
theorem dX8_judge_0 : decode cX8_judge 0 = .ok (.iload_n 1, 1) := by decide +kernel
theorem dX8_judge_1 : decode cX8_judge 1 = .ok (.i2l, 1) := by decide +kernel
theorem dX8_judge_2 : decode cX8_judge 2 = .ok (.lconst 0, 1) := by decide +kernel
theorem dX8_judge_3 : decode cX8_judge 3 = .ok (.ldc2_w 251, 3) := by decide +kernel
theorem dX8_judge_6 : decode cX8_judge 6 = .ok (.invokestatic 68, 3) := by decide +kernel
theorem dX8_judge_9 : decode cX8_judge 9 = .ok (.ifCond .ne 6, 3) := by decide +kernel
theorem dX8_judge_12 : decode cX8_judge 12 = .ok (.bipush (-2), 2) := by decide +kernel
theorem dX8_judge_14 : decode cX8_judge 14 = .ok (.ireturn, 1) := by decide +kernel
theorem dX8_judge_15 : decode cX8_judge 15 = .ok (.aload_n 0, 1) := by decide +kernel
theorem dX8_judge_16 : decode cX8_judge 16 = .ok (.aload_n 0, 1) := by decide +kernel
theorem dX8_judge_17 : decode cX8_judge 17 = .ok (.iload_n 1, 1) := by decide +kernel
theorem dX8_judge_18 : decode cX8_judge 18 = .ok (.iconst 2, 1) := by decide +kernel
theorem dX8_judge_19 : decode cX8_judge 19 = .ok (.if_icmp .ne 7, 3) := by decide +kernel
theorem dX8_judge_22 : decode cX8_judge 22 = .ok (.iconst 1, 1) := by decide +kernel
theorem dX8_judge_23 : decode cX8_judge 23 = .ok (.goto 4, 3) := by decide +kernel
theorem dX8_judge_26 : decode cX8_judge 26 = .ok (.iconst 0, 1) := by decide +kernel
theorem dX8_judge_27 : decode cX8_judge 27 = .ok (.invokevirtual 253, 3) := by decide +kernel
theorem dX8_judge_30 : decode cX8_judge 30 = .ok (.invokevirtual 257, 3) := by decide +kernel
theorem dX8_judge_33 : decode cX8_judge 33 = .ok (.istore_n 2, 1) := by decide +kernel
theorem dX8_judge_34 : decode cX8_judge 34 = .ok (.iload_n 2, 1) := by decide +kernel
theorem dX8_judge_35 : decode cX8_judge 35 = .ok (.bipush (-5), 2) := by decide +kernel
theorem dX8_judge_37 : decode cX8_judge 37 = .ok (.if_icmp .eq 14, 3) := by decide +kernel
theorem dX8_judge_40 : decode cX8_judge 40 = .ok (.iload_n 1, 1) := by decide +kernel
theorem dX8_judge_41 : decode cX8_judge 41 = .ok (.iconst 1, 1) := by decide +kernel
theorem dX8_judge_42 : decode cX8_judge 42 = .ok (.if_icmp .le 11, 3) := by decide +kernel
theorem dX8_judge_45 : decode cX8_judge 45 = .ok (.iload_n 2, 1) := by decide +kernel
theorem dX8_judge_46 : decode cX8_judge 46 = .ok (.bipush (-3), 2) := by decide +kernel
theorem dX8_judge_48 : decode cX8_judge 48 = .ok (.if_icmp .ne 5, 3) := by decide +kernel
theorem dX8_judge_51 : decode cX8_judge 51 = .ok (.iload_n 2, 1) := by decide +kernel
theorem dX8_judge_52 : decode cX8_judge 52 = .ok (.ireturn, 1) := by decide +kernel
theorem dX8_judge_53 : decode cX8_judge 53 = .ok (.iload_n 1, 1) := by decide +kernel
theorem dX8_judge_54 : decode cX8_judge 54 = .ok (.ifCond .ne 10, 3) := by decide +kernel
theorem dX8_judge_57 : decode cX8_judge 57 = .ok (.aload_n 0, 1) := by decide +kernel
theorem dX8_judge_58 : decode cX8_judge 58 = .ok (.getfield 228, 3) := by decide +kernel
theorem dX8_judge_61 : decode cX8_judge 61 = .ok (.goto 19, 3) := by decide +kernel
theorem dX8_judge_64 : decode cX8_judge 64 = .ok (.iload_n 1, 1) := by decide +kernel
theorem dX8_judge_65 : decode cX8_judge 65 = .ok (.iconst 1, 1) := by decide +kernel
theorem dX8_judge_66 : decode cX8_judge 66 = .ok (.if_icmp .ne 10, 3) := by decide +kernel
theorem dX8_judge_69 : decode cX8_judge 69 = .ok (.aload_n 0, 1) := by decide +kernel
theorem dX8_judge_70 : decode cX8_judge 70 = .ok (.getfield 231, 3) := by decide +kernel
theorem dX8_judge_73 : decode cX8_judge 73 = .ok (.goto 7, 3) := by decide +kernel
theorem dX8_judge_76 : decode cX8_judge 76 = .ok (.aload_n 0, 1) := by decide +kernel
theorem dX8_judge_77 : decode cX8_judge 77 = .ok (.getfield 213, 3) := by decide +kernel
theorem dX8_judge_80 : decode cX8_judge 80 = .ok (.ireturn, 1) := by decide +kernel
theorem dX8_ofSet_0 : decode cX8_ofSet 0 = .ok (.aload_n 0, 1) := by decide +kernel
theorem dX8_ofSet_1 : decode cX8_ofSet 1 = .ok (.iload_n 1, 1) := by decide +kernel
theorem dX8_ofSet_2 : decode cX8_ofSet 2 = .ok (.iconst 0, 1) := by decide +kernel
theorem dX8_ofSet_3 : decode cX8_ofSet 3 = .ok (.bipush 49, 2) := by decide +kernel
theorem dX8_ofSet_5 : decode cX8_ofSet 5 = .ok (.invokevirtual 260, 3) := by decide +kernel
theorem dX8_ofSet_8 : decode cX8_ofSet 8 = .ok (.istore_n 3, 1) := by decide +kernel
theorem dX8_ofSet_9 : decode cX8_ofSet 9 = .ok (.aload_n 0, 1) := by decide +kernel
theorem dX8_ofSet_10 : decode cX8_ofSet 10 = .ok (.iload_n 1, 1) := by decide +kernel
theorem dX8_ofSet_11 : decode cX8_ofSet 11 = .ok (.iconst 0, 1) := by decide +kernel
theorem dX8_ofSet_12 : decode cX8_ofSet 12 = .ok (.bipush 49, 2) := by decide +kernel
theorem dX8_ofSet_14 : decode cX8_ofSet 14 = .ok (.invokevirtual 177, 3) := by decide +kernel
theorem dX8_ofSet_17 : decode cX8_ofSet 17 = .ok (.istore 4, 2) := by decide +kernel
theorem dX8_ofSet_19 : decode cX8_ofSet 19 = .ok (.iload_n 2, 1) := by decide +kernel
theorem dX8_ofSet_20 : decode cX8_ofSet 20 = .ok (.ifCond .ne 11, 3) := by decide +kernel
theorem dX8_ofSet_23 : decode cX8_ofSet 23 = .ok (.aload_n 0, 1) := by decide +kernel
theorem dX8_ofSet_24 : decode cX8_ofSet 24 = .ok (.iload_n 1, 1) := by decide +kernel
theorem dX8_ofSet_25 : decode cX8_ofSet 25 = .ok (.invokevirtual 99, 3) := by decide +kernel
theorem dX8_ofSet_28 : decode cX8_ofSet 28 = .ok (.goto 38, 3) := by decide +kernel
theorem dX8_ofSet_31 : decode cX8_ofSet 31 = .ok (.iload_n 2, 1) := by decide +kernel
theorem dX8_ofSet_32 : decode cX8_ofSet 32 = .ok (.iconst 1, 1) := by decide +kernel
theorem dX8_ofSet_33 : decode cX8_ofSet 33 = .ok (.if_icmp .ne 7, 3) := by decide +kernel
theorem dX8_ofSet_36 : decode cX8_ofSet 36 = .ok (.iload_n 3, 1) := by decide +kernel
theorem dX8_ofSet_37 : decode cX8_ofSet 37 = .ok (.goto 29, 3) := by decide +kernel
theorem dX8_ofSet_40 : decode cX8_ofSet 40 = .ok (.iload_n 2, 1) := by decide +kernel
theorem dX8_ofSet_41 : decode cX8_ofSet 41 = .ok (.iconst 2, 1) := by decide +kernel
theorem dX8_ofSet_42 : decode cX8_ofSet 42 = .ok (.if_icmp .ne 8, 3) := by decide +kernel
theorem dX8_ofSet_45 : decode cX8_ofSet 45 = .ok (.iload 4, 2) := by decide +kernel
theorem dX8_ofSet_47 : decode cX8_ofSet 47 = .ok (.goto 19, 3) := by decide +kernel
theorem dX8_ofSet_50 : decode cX8_ofSet 50 = .ok (.iload 4, 2) := by decide +kernel
theorem dX8_ofSet_52 : decode cX8_ofSet 52 = .ok (.ifCond .ge 7, 3) := by decide +kernel
theorem dX8_ofSet_55 : decode cX8_ofSet 55 = .ok (.iconst 0, 1) := by decide +kernel
theorem dX8_ofSet_56 : decode cX8_ofSet 56 = .ok (.goto 10, 3) := by decide +kernel
theorem dX8_ofSet_59 : decode cX8_ofSet 59 = .ok (.aload_n 0, 1) := by decide +kernel
theorem dX8_ofSet_60 : decode cX8_ofSet 60 = .ok (.getfield 41, 3) := by decide +kernel
theorem dX8_ofSet_63 : decode cX8_ofSet 63 = .ok (.iload 4, 2) := by decide +kernel
theorem dX8_ofSet_65 : decode cX8_ofSet 65 = .ok (.iaload, 1) := by decide +kernel
theorem dX8_ofSet_66 : decode cX8_ofSet 66 = .ok (.ireturn, 1) := by decide +kernel
theorem dX8_behind_0 : decode cX8_behind 0 = .ok (.iload_n 1, 1) := by decide +kernel
theorem dX8_behind_1 : decode cX8_behind 1 = .ok (.invokestatic 88, 3) := by decide +kernel
theorem dX8_behind_4 : decode cX8_behind 4 = .ok (.ifCond .ne 5, 3) := by decide +kernel
theorem dX8_behind_7 : decode cX8_behind 7 = .ok (.iconst (-1), 1) := by decide +kernel
theorem dX8_behind_8 : decode cX8_behind 8 = .ok (.ireturn, 1) := by decide +kernel
theorem dX8_behind_9 : decode cX8_behind 9 = .ok (.iload_n 2, 1) := by decide +kernel
theorem dX8_behind_10 : decode cX8_behind 10 = .ok (.i2l, 1) := by decide +kernel
theorem dX8_behind_11 : decode cX8_behind 11 = .ok (.lconst 0, 1) := by decide +kernel
theorem dX8_behind_12 : decode cX8_behind 12 = .ok (.ldc2_w 66, 3) := by decide +kernel
theorem dX8_behind_15 : decode cX8_behind 15 = .ok (.invokestatic 68, 3) := by decide +kernel
theorem dX8_behind_18 : decode cX8_behind 18 = .ok (.ifCond .ne 6, 3) := by decide +kernel
theorem dX8_behind_21 : decode cX8_behind 21 = .ok (.bipush (-2), 2) := by decide +kernel
theorem dX8_behind_23 : decode cX8_behind 23 = .ok (.ireturn, 1) := by decide +kernel
theorem dX8_behind_24 : decode cX8_behind 24 = .ok (.aload_n 0, 1) := by decide +kernel
theorem dX8_behind_25 : decode cX8_behind 25 = .ok (.iconst 0, 1) := by decide +kernel
theorem dX8_behind_26 : decode cX8_behind 26 = .ok (.invokevirtual 253, 3) := by decide +kernel
theorem dX8_behind_29 : decode cX8_behind 29 = .ok (.istore_n 3, 1) := by decide +kernel
theorem dX8_behind_30 : decode cX8_behind 30 = .ok (.aload_n 0, 1) := by decide +kernel
theorem dX8_behind_31 : decode cX8_behind 31 = .ok (.iload_n 3, 1) := by decide +kernel
theorem dX8_behind_32 : decode cX8_behind 32 = .ok (.bipush (-6), 2) := by decide +kernel
theorem dX8_behind_34 : decode cX8_behind 34 = .ok (.if_icmp .eq 7, 3) := by decide +kernel
theorem dX8_behind_37 : decode cX8_behind 37 = .ok (.iload_n 3, 1) := by decide +kernel
theorem dX8_behind_38 : decode cX8_behind 38 = .ok (.goto 9, 3) := by decide +kernel
theorem dX8_behind_41 : decode cX8_behind 41 = .ok (.aload_n 0, 1) := by decide +kernel
theorem dX8_behind_42 : decode cX8_behind 42 = .ok (.iload_n 1, 1) := by decide +kernel
theorem dX8_behind_43 : decode cX8_behind 43 = .ok (.iload_n 2, 1) := by decide +kernel
theorem dX8_behind_44 : decode cX8_behind 44 = .ok (.invokevirtual 263, 3) := by decide +kernel
theorem dX8_behind_47 : decode cX8_behind 47 = .ok (.invokevirtual 257, 3) := by decide +kernel
theorem dX8_behind_50 : decode cX8_behind 50 = .ok (.ireturn, 1) := by decide +kernel
theorem dX8_alike_0 : decode cX8_alike 0 = .ok (.iload_n 1, 1) := by decide +kernel
theorem dX8_alike_1 : decode cX8_alike 1 = .ok (.i2l, 1) := by decide +kernel
theorem dX8_alike_2 : decode cX8_alike 2 = .ok (.lconst 0, 1) := by decide +kernel
theorem dX8_alike_3 : decode cX8_alike 3 = .ok (.ldc2_w 251, 3) := by decide +kernel
theorem dX8_alike_6 : decode cX8_alike 6 = .ok (.invokestatic 68, 3) := by decide +kernel
theorem dX8_alike_9 : decode cX8_alike 9 = .ok (.ifCond .ne 6, 3) := by decide +kernel
theorem dX8_alike_12 : decode cX8_alike 12 = .ok (.bipush (-2), 2) := by decide +kernel
theorem dX8_alike_14 : decode cX8_alike 14 = .ok (.ireturn, 1) := by decide +kernel
theorem dX8_alike_15 : decode cX8_alike 15 = .ok (.aload_n 0, 1) := by decide +kernel
theorem dX8_alike_16 : decode cX8_alike 16 = .ok (.iconst 0, 1) := by decide +kernel
theorem dX8_alike_17 : decode cX8_alike 17 = .ok (.invokevirtual 253, 3) := by decide +kernel
theorem dX8_alike_20 : decode cX8_alike 20 = .ok (.istore_n 2, 1) := by decide +kernel
theorem dX8_alike_21 : decode cX8_alike 21 = .ok (.aload_n 0, 1) := by decide +kernel
theorem dX8_alike_22 : decode cX8_alike 22 = .ok (.iload_n 2, 1) := by decide +kernel
theorem dX8_alike_23 : decode cX8_alike 23 = .ok (.bipush (-6), 2) := by decide +kernel
theorem dX8_alike_25 : decode cX8_alike 25 = .ok (.if_icmp .eq 7, 3) := by decide +kernel
theorem dX8_alike_28 : decode cX8_alike 28 = .ok (.iload_n 2, 1) := by decide +kernel
theorem dX8_alike_29 : decode cX8_alike 29 = .ok (.goto 30, 3) := by decide +kernel
theorem dX8_alike_32 : decode cX8_alike 32 = .ok (.iload_n 1, 1) := by decide +kernel
theorem dX8_alike_33 : decode cX8_alike 33 = .ok (.ifCond .ne 10, 3) := by decide +kernel
theorem dX8_alike_36 : decode cX8_alike 36 = .ok (.aload_n 0, 1) := by decide +kernel
theorem dX8_alike_37 : decode cX8_alike 37 = .ok (.getfield 219, 3) := by decide +kernel
theorem dX8_alike_40 : decode cX8_alike 40 = .ok (.goto 19, 3) := by decide +kernel
theorem dX8_alike_43 : decode cX8_alike 43 = .ok (.iload_n 1, 1) := by decide +kernel
theorem dX8_alike_44 : decode cX8_alike 44 = .ok (.iconst 1, 1) := by decide +kernel
theorem dX8_alike_45 : decode cX8_alike 45 = .ok (.if_icmp .ne 10, 3) := by decide +kernel
theorem dX8_alike_48 : decode cX8_alike 48 = .ok (.aload_n 0, 1) := by decide +kernel
theorem dX8_alike_49 : decode cX8_alike 49 = .ok (.getfield 225, 3) := by decide +kernel
theorem dX8_alike_52 : decode cX8_alike 52 = .ok (.goto 7, 3) := by decide +kernel
theorem dX8_alike_55 : decode cX8_alike 55 = .ok (.aload_n 0, 1) := by decide +kernel
theorem dX8_alike_56 : decode cX8_alike 56 = .ok (.getfield 78, 3) := by decide +kernel
theorem dX8_alike_59 : decode cX8_alike 59 = .ok (.invokevirtual 257, 3) := by decide +kernel
theorem dX8_alike_62 : decode cX8_alike 62 = .ok (.ireturn, 1) := by decide +kernel
theorem dX8_done_0 : decode cX8_done 0 = .ok (.aload_n 0, 1) := by decide +kernel
theorem dX8_done_1 : decode cX8_done 1 = .ok (.iconst 0, 1) := by decide +kernel
theorem dX8_done_2 : decode cX8_done 2 = .ok (.invokevirtual 253, 3) := by decide +kernel
theorem dX8_done_5 : decode cX8_done 5 = .ok (.istore_n 1, 1) := by decide +kernel
theorem dX8_done_6 : decode cX8_done 6 = .ok (.iload_n 1, 1) := by decide +kernel
theorem dX8_done_7 : decode cX8_done 7 = .ok (.bipush (-6), 2) := by decide +kernel
theorem dX8_done_9 : decode cX8_done 9 = .ok (.if_icmp .eq 9, 3) := by decide +kernel
theorem dX8_done_12 : decode cX8_done 12 = .ok (.aload_n 0, 1) := by decide +kernel
theorem dX8_done_13 : decode cX8_done 13 = .ok (.iload_n 1, 1) := by decide +kernel
theorem dX8_done_14 : decode cX8_done 14 = .ok (.invokevirtual 257, 3) := by decide +kernel
theorem dX8_done_17 : decode cX8_done 17 = .ok (.ireturn, 1) := by decide +kernel
theorem dX8_done_18 : decode cX8_done 18 = .ok (.aload_n 0, 1) := by decide +kernel
theorem dX8_done_19 : decode cX8_done 19 = .ok (.iconst 0, 1) := by decide +kernel
theorem dX8_done_20 : decode cX8_done 20 = .ok (.putfield 107, 3) := by decide +kernel
theorem dX8_done_23 : decode cX8_done 23 = .ok (.aload_n 0, 1) := by decide +kernel
theorem dX8_done_24 : decode cX8_done 24 = .ok (.getfield 110, 3) := by decide +kernel
theorem dX8_done_27 : decode cX8_done 27 = .ok (.ireturn, 1) := by decide +kernel
theorem dX8_aboveOf_0 : decode cX8_aboveOf 0 = .ok (.aload_n 0, 1) := by decide +kernel
theorem dX8_aboveOf_1 : decode cX8_aboveOf 1 = .ok (.iload_n 1, 1) := by decide +kernel
theorem dX8_aboveOf_2 : decode cX8_aboveOf 2 = .ok (.iload_n 2, 1) := by decide +kernel
theorem dX8_aboveOf_3 : decode cX8_aboveOf 3 = .ok (.iconst 0, 1) := by decide +kernel
theorem dX8_aboveOf_4 : decode cX8_aboveOf 4 = .ok (.invokevirtual 174, 3) := by decide +kernel
theorem dX8_aboveOf_7 : decode cX8_aboveOf 7 = .ok (.istore_n 3, 1) := by decide +kernel
theorem dX8_aboveOf_8 : decode cX8_aboveOf 8 = .ok (.aload_n 0, 1) := by decide +kernel
theorem dX8_aboveOf_9 : decode cX8_aboveOf 9 = .ok (.iload_n 1, 1) := by decide +kernel
theorem dX8_aboveOf_10 : decode cX8_aboveOf 10 = .ok (.iload_n 2, 1) := by decide +kernel
theorem dX8_aboveOf_11 : decode cX8_aboveOf 11 = .ok (.bipush 49, 2) := by decide +kernel
theorem dX8_aboveOf_13 : decode cX8_aboveOf 13 = .ok (.invokevirtual 171, 3) := by decide +kernel
theorem dX8_aboveOf_16 : decode cX8_aboveOf 16 = .ok (.istore 4, 2) := by decide +kernel
theorem dX8_aboveOf_18 : decode cX8_aboveOf 18 = .ok (.iload_n 3, 1) := by decide +kernel
theorem dX8_aboveOf_19 : decode cX8_aboveOf 19 = .ok (.ifCond .ge 18, 3) := by decide +kernel
theorem dX8_aboveOf_22 : decode cX8_aboveOf 22 = .ok (.iload 4, 2) := by decide +kernel
theorem dX8_aboveOf_24 : decode cX8_aboveOf 24 = .ok (.bipush 50, 2) := by decide +kernel
theorem dX8_aboveOf_26 : decode cX8_aboveOf 26 = .ok (.if_icmp .ge 8, 3) := by decide +kernel
theorem dX8_aboveOf_29 : decode cX8_aboveOf 29 = .ok (.iload 4, 2) := by decide +kernel
theorem dX8_aboveOf_31 : decode cX8_aboveOf 31 = .ok (.goto 5, 3) := by decide +kernel
theorem dX8_aboveOf_34 : decode cX8_aboveOf 34 = .ok (.bipush (-6), 2) := by decide +kernel
theorem dX8_aboveOf_36 : decode cX8_aboveOf 36 = .ok (.ireturn, 1) := by decide +kernel
theorem dX8_aboveOf_37 : decode cX8_aboveOf 37 = .ok (.iload 4, 2) := by decide +kernel
theorem dX8_aboveOf_39 : decode cX8_aboveOf 39 = .ok (.bipush 50, 2) := by decide +kernel
theorem dX8_aboveOf_41 : decode cX8_aboveOf 41 = .ok (.if_icmp .eq 13, 3) := by decide +kernel
theorem dX8_aboveOf_44 : decode cX8_aboveOf 44 = .ok (.aload_n 0, 1) := by decide +kernel
theorem dX8_aboveOf_45 : decode cX8_aboveOf 45 = .ok (.iload 4, 2) := by decide +kernel
theorem dX8_aboveOf_47 : decode cX8_aboveOf 47 = .ok (.iload_n 3, 1) := by decide +kernel
theorem dX8_aboveOf_48 : decode cX8_aboveOf 48 = .ok (.invokevirtual 168, 3) := by decide +kernel
theorem dX8_aboveOf_51 : decode cX8_aboveOf 51 = .ok (.ifCond .eq 7, 3) := by decide +kernel
theorem dX8_aboveOf_54 : decode cX8_aboveOf 54 = .ok (.iload_n 3, 1) := by decide +kernel
theorem dX8_aboveOf_55 : decode cX8_aboveOf 55 = .ok (.goto 5, 3) := by decide +kernel
theorem dX8_aboveOf_58 : decode cX8_aboveOf 58 = .ok (.iload 4, 2) := by decide +kernel
theorem dX8_aboveOf_60 : decode cX8_aboveOf 60 = .ok (.ireturn, 1) := by decide +kernel
theorem dX8_depthOf_0 : decode cX8_depthOf 0 = .ok (.iconst 0, 1) := by decide +kernel
theorem dX8_depthOf_1 : decode cX8_depthOf 1 = .ok (.istore_n 3, 1) := by decide +kernel
theorem dX8_depthOf_2 : decode cX8_depthOf 2 = .ok (.aload_n 0, 1) := by decide +kernel
theorem dX8_depthOf_3 : decode cX8_depthOf 3 = .ok (.iload_n 1, 1) := by decide +kernel
theorem dX8_depthOf_4 : decode cX8_depthOf 4 = .ok (.iload_n 2, 1) := by decide +kernel
theorem dX8_depthOf_5 : decode cX8_depthOf 5 = .ok (.invokevirtual 266, 3) := by decide +kernel
theorem dX8_depthOf_8 : decode cX8_depthOf 8 = .ok (.istore 4, 2) := by decide +kernel
theorem dX8_depthOf_10 : decode cX8_depthOf 10 = .ok (.iload 4, 2) := by decide +kernel
theorem dX8_depthOf_12 : decode cX8_depthOf 12 = .ok (.ifCond .lt 18, 3) := by decide +kernel
theorem dX8_depthOf_15 : decode cX8_depthOf 15 = .ok (.iinc 3 1, 3) := by decide +kernel
theorem dX8_depthOf_18 : decode cX8_depthOf 18 = .ok (.aload_n 0, 1) := by decide +kernel
theorem dX8_depthOf_19 : decode cX8_depthOf 19 = .ok (.iload_n 1, 1) := by decide +kernel
theorem dX8_depthOf_20 : decode cX8_depthOf 20 = .ok (.iload 4, 2) := by decide +kernel
theorem dX8_depthOf_22 : decode cX8_depthOf 22 = .ok (.invokevirtual 266, 3) := by decide +kernel
theorem dX8_depthOf_25 : decode cX8_depthOf 25 = .ok (.istore 4, 2) := by decide +kernel
theorem dX8_depthOf_27 : decode cX8_depthOf 27 = .ok (.goto (-17), 3) := by decide +kernel
theorem dX8_depthOf_30 : decode cX8_depthOf 30 = .ok (.iload_n 3, 1) := by decide +kernel
theorem dX8_depthOf_31 : decode cX8_depthOf 31 = .ok (.ireturn, 1) := by decide +kernel
theorem dX8_digestAt_0 : decode cX8_digestAt 0 = .ok (.aload_n 0, 1) := by decide +kernel
theorem dX8_digestAt_1 : decode cX8_digestAt 1 = .ok (.iload_n 1, 1) := by decide +kernel
theorem dX8_digestAt_2 : decode cX8_digestAt 2 = .ok (.iconst 0, 1) := by decide +kernel
theorem dX8_digestAt_3 : decode cX8_digestAt 3 = .ok (.bipush 49, 2) := by decide +kernel
theorem dX8_digestAt_5 : decode cX8_digestAt 5 = .ok (.invokevirtual 260, 3) := by decide +kernel
theorem dX8_digestAt_8 : decode cX8_digestAt 8 = .ok (.pop, 1) := by decide +kernel
theorem dX8_digestAt_9 : decode cX8_digestAt 9 = .ok (.aload_n 0, 1) := by decide +kernel
theorem dX8_digestAt_10 : decode cX8_digestAt 10 = .ok (.getfield 37, 3) := by decide +kernel
theorem dX8_digestAt_13 : decode cX8_digestAt 13 = .ok (.iload_n 2, 1) := by decide +kernel
theorem dX8_digestAt_14 : decode cX8_digestAt 14 = .ok (.laload, 1) := by decide +kernel
theorem dX8_digestAt_15 : decode cX8_digestAt 15 = .ok (.l2i, 1) := by decide +kernel
theorem dX8_digestAt_16 : decode cX8_digestAt 16 = .ok (.ireturn, 1) := by decide +kernel
theorem dX8_node_0 : decode cX8_node 0 = .ok (.iload_n 1, 1) := by decide +kernel
theorem dX8_node_1 : decode cX8_node 1 = .ok (.invokestatic 88, 3) := by decide +kernel
theorem dX8_node_4 : decode cX8_node 4 = .ok (.ifCond .eq 10, 3) := by decide +kernel
theorem dX8_node_7 : decode cX8_node 7 = .ok (.iload_n 2, 1) := by decide +kernel
theorem dX8_node_8 : decode cX8_node 8 = .ok (.invokestatic 92, 3) := by decide +kernel
theorem dX8_node_11 : decode cX8_node 11 = .ok (.ifCond .ne 5, 3) := by decide +kernel
theorem dX8_node_14 : decode cX8_node 14 = .ok (.iconst (-1), 1) := by decide +kernel
theorem dX8_node_15 : decode cX8_node 15 = .ok (.ireturn, 1) := by decide +kernel
theorem dX8_node_16 : decode cX8_node 16 = .ok (.iload_n 3, 1) := by decide +kernel
theorem dX8_node_17 : decode cX8_node 17 = .ok (.i2l, 1) := by decide +kernel
theorem dX8_node_18 : decode cX8_node 18 = .ok (.lconst 0, 1) := by decide +kernel
theorem dX8_node_19 : decode cX8_node 19 = .ok (.ldc2_w 269, 3) := by decide +kernel
theorem dX8_node_22 : decode cX8_node 22 = .ok (.invokestatic 68, 3) := by decide +kernel
theorem dX8_node_25 : decode cX8_node 25 = .ok (.ifCond .ne 6, 3) := by decide +kernel
theorem dX8_node_28 : decode cX8_node 28 = .ok (.bipush (-2), 2) := by decide +kernel
theorem dX8_node_30 : decode cX8_node 30 = .ok (.ireturn, 1) := by decide +kernel
theorem dX8_node_31 : decode cX8_node 31 = .ok (.aload_n 0, 1) := by decide +kernel
theorem dX8_node_32 : decode cX8_node 32 = .ok (.iload_n 1, 1) := by decide +kernel
theorem dX8_node_33 : decode cX8_node 33 = .ok (.iload_n 2, 1) := by decide +kernel
theorem dX8_node_34 : decode cX8_node 34 = .ok (.invokevirtual 95, 3) := by decide +kernel
theorem dX8_node_37 : decode cX8_node 37 = .ok (.ifCond .ne 6, 3) := by decide +kernel
theorem dX8_node_40 : decode cX8_node 40 = .ok (.bipush (-3), 2) := by decide +kernel
theorem dX8_node_42 : decode cX8_node 42 = .ok (.ireturn, 1) := by decide +kernel
theorem dX8_node_43 : decode cX8_node 43 = .ok (.iload_n 3, 1) := by decide +kernel
theorem dX8_node_44 : decode cX8_node 44 = .ok (.tableswitch 108 0 5 #[40, 47, 65, 84, 94, 101], 40) := by decide +kernel
theorem dX8_node_84 : decode cX8_node 84 = .ok (.aload_n 0, 1) := by decide +kernel
theorem dX8_node_85 : decode cX8_node 85 = .ok (.iload_n 1, 1) := by decide +kernel
theorem dX8_node_86 : decode cX8_node 86 = .ok (.iload_n 2, 1) := by decide +kernel
theorem dX8_node_87 : decode cX8_node 87 = .ok (.invokevirtual 266, 3) := by decide +kernel
theorem dX8_node_90 : decode cX8_node 90 = .ok (.ireturn, 1) := by decide +kernel
theorem dX8_node_91 : decode cX8_node 91 = .ok (.aload_n 0, 1) := by decide +kernel
theorem dX8_node_92 : decode cX8_node 92 = .ok (.iload_n 1, 1) := by decide +kernel
theorem dX8_node_93 : decode cX8_node 93 = .ok (.aload_n 0, 1) := by decide +kernel
theorem dX8_node_94 : decode cX8_node 94 = .ok (.iload_n 1, 1) := by decide +kernel
theorem dX8_node_95 : decode cX8_node 95 = .ok (.iload_n 2, 1) := by decide +kernel
theorem dX8_node_96 : decode cX8_node 96 = .ok (.iconst 0, 1) := by decide +kernel
theorem dX8_node_97 : decode cX8_node 97 = .ok (.invokevirtual 174, 3) := by decide +kernel
theorem dX8_node_100 : decode cX8_node 100 = .ok (.iconst 1, 1) := by decide +kernel
theorem dX8_node_101 : decode cX8_node 101 = .ok (.iadd, 1) := by decide +kernel
theorem dX8_node_102 : decode cX8_node 102 = .ok (.iload_n 2, 1) := by decide +kernel
theorem dX8_node_103 : decode cX8_node 103 = .ok (.iconst 1, 1) := by decide +kernel
theorem dX8_node_104 : decode cX8_node 104 = .ok (.isub, 1) := by decide +kernel
theorem dX8_node_105 : decode cX8_node 105 = .ok (.invokevirtual 177, 3) := by decide +kernel
theorem dX8_node_108 : decode cX8_node 108 = .ok (.ireturn, 1) := by decide +kernel
theorem dX8_node_109 : decode cX8_node 109 = .ok (.aload_n 0, 1) := by decide +kernel
theorem dX8_node_110 : decode cX8_node 110 = .ok (.iload_n 1, 1) := by decide +kernel
theorem dX8_node_111 : decode cX8_node 111 = .ok (.iload_n 2, 1) := by decide +kernel
theorem dX8_node_112 : decode cX8_node 112 = .ok (.iconst 1, 1) := by decide +kernel
theorem dX8_node_113 : decode cX8_node 113 = .ok (.iadd, 1) := by decide +kernel
theorem dX8_node_114 : decode cX8_node 114 = .ok (.aload_n 0, 1) := by decide +kernel
theorem dX8_node_115 : decode cX8_node 115 = .ok (.iload_n 1, 1) := by decide +kernel
theorem dX8_node_116 : decode cX8_node 116 = .ok (.iload_n 2, 1) := by decide +kernel
theorem dX8_node_117 : decode cX8_node 117 = .ok (.bipush 49, 2) := by decide +kernel
theorem dX8_node_119 : decode cX8_node 119 = .ok (.invokevirtual 171, 3) := by decide +kernel
theorem dX8_node_122 : decode cX8_node 122 = .ok (.iconst 1, 1) := by decide +kernel
theorem dX8_node_123 : decode cX8_node 123 = .ok (.isub, 1) := by decide +kernel
theorem dX8_node_124 : decode cX8_node 124 = .ok (.invokevirtual 177, 3) := by decide +kernel
theorem dX8_node_127 : decode cX8_node 127 = .ok (.ireturn, 1) := by decide +kernel
theorem dX8_node_128 : decode cX8_node 128 = .ok (.aload_n 0, 1) := by decide +kernel
theorem dX8_node_129 : decode cX8_node 129 = .ok (.iload_n 1, 1) := by decide +kernel
theorem dX8_node_130 : decode cX8_node 130 = .ok (.iload_n 2, 1) := by decide +kernel
theorem dX8_node_131 : decode cX8_node 131 = .ok (.invokevirtual 193, 3) := by decide +kernel
theorem dX8_node_134 : decode cX8_node 134 = .ok (.invokestatic 271, 3) := by decide +kernel
theorem dX8_node_137 : decode cX8_node 137 = .ok (.ireturn, 1) := by decide +kernel
theorem dX8_node_138 : decode cX8_node 138 = .ok (.aload_n 0, 1) := by decide +kernel
theorem dX8_node_139 : decode cX8_node 139 = .ok (.iload_n 1, 1) := by decide +kernel
theorem dX8_node_140 : decode cX8_node 140 = .ok (.iload_n 2, 1) := by decide +kernel
theorem dX8_node_141 : decode cX8_node 141 = .ok (.invokevirtual 275, 3) := by decide +kernel
theorem dX8_node_144 : decode cX8_node 144 = .ok (.ireturn, 1) := by decide +kernel
theorem dX8_node_145 : decode cX8_node 145 = .ok (.aload_n 0, 1) := by decide +kernel
theorem dX8_node_146 : decode cX8_node 146 = .ok (.iload_n 1, 1) := by decide +kernel
theorem dX8_node_147 : decode cX8_node 147 = .ok (.iload_n 2, 1) := by decide +kernel
theorem dX8_node_148 : decode cX8_node 148 = .ok (.invokevirtual 278, 3) := by decide +kernel
theorem dX8_node_151 : decode cX8_node 151 = .ok (.ireturn, 1) := by decide +kernel
theorem dX8_node_152 : decode cX8_node 152 = .ok (.aload_n 0, 1) := by decide +kernel
theorem dX8_node_153 : decode cX8_node 153 = .ok (.getfield 78, 3) := by decide +kernel
theorem dX8_node_156 : decode cX8_node 156 = .ok (.iload_n 2, 1) := by decide +kernel
theorem dX8_node_157 : decode cX8_node 157 = .ok (.invokestatic 74, 3) := by decide +kernel
theorem dX8_node_160 : decode cX8_node 160 = .ok (.ireturn, 1) := by decide +kernel
theorem dX8_place_0 : decode cX8_place 0 = .ok (.iload_n 1, 1) := by decide +kernel
theorem dX8_place_1 : decode cX8_place 1 = .ok (.invokestatic 88, 3) := by decide +kernel
theorem dX8_place_4 : decode cX8_place 4 = .ok (.ifCond .eq 10, 3) := by decide +kernel
theorem dX8_place_7 : decode cX8_place 7 = .ok (.iload_n 2, 1) := by decide +kernel
theorem dX8_place_8 : decode cX8_place 8 = .ok (.invokestatic 92, 3) := by decide +kernel
theorem dX8_place_11 : decode cX8_place 11 = .ok (.ifCond .ne 5, 3) := by decide +kernel
theorem dX8_place_14 : decode cX8_place 14 = .ok (.iconst (-1), 1) := by decide +kernel
theorem dX8_place_15 : decode cX8_place 15 = .ok (.ireturn, 1) := by decide +kernel
theorem dX8_place_16 : decode cX8_place 16 = .ok (.iconst 0, 1) := by decide +kernel
theorem dX8_place_17 : decode cX8_place 17 = .ok (.istore_n 3, 1) := by decide +kernel
theorem dX8_place_18 : decode cX8_place 18 = .ok (.iconst 0, 1) := by decide +kernel
theorem dX8_place_19 : decode cX8_place 19 = .ok (.istore 4, 2) := by decide +kernel
theorem dX8_place_21 : decode cX8_place 21 = .ok (.iload 4, 2) := by decide +kernel
theorem dX8_place_23 : decode cX8_place 23 = .ok (.iload_n 2, 1) := by decide +kernel
theorem dX8_place_24 : decode cX8_place 24 = .ok (.if_icmp .ge 24, 3) := by decide +kernel
theorem dX8_place_27 : decode cX8_place 27 = .ok (.iload_n 3, 1) := by decide +kernel
theorem dX8_place_28 : decode cX8_place 28 = .ok (.aload_n 0, 1) := by decide +kernel
theorem dX8_place_29 : decode cX8_place 29 = .ok (.getfield 7, 3) := by decide +kernel
theorem dX8_place_32 : decode cX8_place 32 = .ok (.bipush 50, 2) := by decide +kernel
theorem dX8_place_34 : decode cX8_place 34 = .ok (.iload_n 1, 1) := by decide +kernel
theorem dX8_place_35 : decode cX8_place 35 = .ok (.imul, 1) := by decide +kernel
theorem dX8_place_36 : decode cX8_place 36 = .ok (.iload 4, 2) := by decide +kernel
theorem dX8_place_38 : decode cX8_place 38 = .ok (.iadd, 1) := by decide +kernel
theorem dX8_place_39 : decode cX8_place 39 = .ok (.iaload, 1) := by decide +kernel
theorem dX8_place_40 : decode cX8_place 40 = .ok (.iadd, 1) := by decide +kernel
theorem dX8_place_41 : decode cX8_place 41 = .ok (.istore_n 3, 1) := by decide +kernel
theorem dX8_place_42 : decode cX8_place 42 = .ok (.iinc 4 1, 3) := by decide +kernel
theorem dX8_place_45 : decode cX8_place 45 = .ok (.goto (-24), 3) := by decide +kernel
theorem dX8_place_48 : decode cX8_place 48 = .ok (.iload_n 3, 1) := by decide +kernel
theorem dX8_place_49 : decode cX8_place 49 = .ok (.ireturn, 1) := by decide +kernel
theorem dX8_at_0 : decode cX8_at 0 = .ok (.iload_n 1, 1) := by decide +kernel
theorem dX8_at_1 : decode cX8_at 1 = .ok (.invokestatic 88, 3) := by decide +kernel
theorem dX8_at_4 : decode cX8_at 4 = .ok (.ifCond .ne 5, 3) := by decide +kernel
theorem dX8_at_7 : decode cX8_at 7 = .ok (.iconst (-1), 1) := by decide +kernel
theorem dX8_at_8 : decode cX8_at 8 = .ok (.ireturn, 1) := by decide +kernel
theorem dX8_at_9 : decode cX8_at 9 = .ok (.iconst 0, 1) := by decide +kernel
theorem dX8_at_10 : decode cX8_at 10 = .ok (.istore_n 3, 1) := by decide +kernel
theorem dX8_at_11 : decode cX8_at 11 = .ok (.iconst 0, 1) := by decide +kernel
theorem dX8_at_12 : decode cX8_at 12 = .ok (.istore 4, 2) := by decide +kernel
theorem dX8_at_14 : decode cX8_at 14 = .ok (.iload 4, 2) := by decide +kernel
theorem dX8_at_16 : decode cX8_at 16 = .ok (.bipush 50, 2) := by decide +kernel
theorem dX8_at_18 : decode cX8_at 18 = .ok (.if_icmp .ge 30, 3) := by decide +kernel
theorem dX8_at_21 : decode cX8_at 21 = .ok (.aload_n 0, 1) := by decide +kernel
theorem dX8_at_22 : decode cX8_at 22 = .ok (.iload_n 1, 1) := by decide +kernel
theorem dX8_at_23 : decode cX8_at 23 = .ok (.iload 4, 2) := by decide +kernel
theorem dX8_at_25 : decode cX8_at 25 = .ok (.invokevirtual 95, 3) := by decide +kernel
theorem dX8_at_28 : decode cX8_at 28 = .ok (.ifCond .eq 14, 3) := by decide +kernel
theorem dX8_at_31 : decode cX8_at 31 = .ok (.iload_n 3, 1) := by decide +kernel
theorem dX8_at_32 : decode cX8_at 32 = .ok (.iload_n 2, 1) := by decide +kernel
theorem dX8_at_33 : decode cX8_at 33 = .ok (.if_icmp .ne 6, 3) := by decide +kernel
theorem dX8_at_36 : decode cX8_at 36 = .ok (.iload 4, 2) := by decide +kernel
theorem dX8_at_38 : decode cX8_at 38 = .ok (.ireturn, 1) := by decide +kernel
theorem dX8_at_39 : decode cX8_at 39 = .ok (.iinc 3 1, 3) := by decide +kernel
theorem dX8_at_42 : decode cX8_at 42 = .ok (.iinc 4 1, 3) := by decide +kernel
theorem dX8_at_45 : decode cX8_at 45 = .ok (.goto (-31), 3) := by decide +kernel
theorem dX8_at_48 : decode cX8_at 48 = .ok (.bipush (-6), 2) := by decide +kernel
theorem dX8_at_50 : decode cX8_at 50 = .ok (.ireturn, 1) := by decide +kernel
theorem dX8_partsAt_0 : decode cX8_partsAt 0 = .ok (.aload_n 0, 1) := by decide +kernel
theorem dX8_partsAt_1 : decode cX8_partsAt 1 = .ok (.iload_n 1, 1) := by decide +kernel
theorem dX8_partsAt_2 : decode cX8_partsAt 2 = .ok (.iload_n 3, 1) := by decide +kernel
theorem dX8_partsAt_3 : decode cX8_partsAt 3 = .ok (.iload 4, 2) := by decide +kernel
theorem dX8_partsAt_5 : decode cX8_partsAt 5 = .ok (.invokevirtual 177, 3) := by decide +kernel
theorem dX8_partsAt_8 : decode cX8_partsAt 8 = .ok (.istore 5, 2) := by decide +kernel
theorem dX8_partsAt_10 : decode cX8_partsAt 10 = .ok (.aload_n 0, 1) := by decide +kernel
theorem dX8_partsAt_11 : decode cX8_partsAt 11 = .ok (.iload_n 2, 1) := by decide +kernel
theorem dX8_partsAt_12 : decode cX8_partsAt 12 = .ok (.iload_n 3, 1) := by decide +kernel
theorem dX8_partsAt_13 : decode cX8_partsAt 13 = .ok (.iload 4, 2) := by decide +kernel
theorem dX8_partsAt_15 : decode cX8_partsAt 15 = .ok (.invokevirtual 177, 3) := by decide +kernel
theorem dX8_partsAt_18 : decode cX8_partsAt 18 = .ok (.istore 6, 2) := by decide +kernel
theorem dX8_partsAt_20 : decode cX8_partsAt 20 = .ok (.iload 5, 2) := by decide +kernel
theorem dX8_partsAt_22 : decode cX8_partsAt 22 = .ok (.ifCond .lt 27, 3) := by decide +kernel
theorem dX8_partsAt_25 : decode cX8_partsAt 25 = .ok (.iload 6, 2) := by decide +kernel
theorem dX8_partsAt_27 : decode cX8_partsAt 27 = .ok (.ifCond .lt 22, 3) := by decide +kernel
theorem dX8_partsAt_30 : decode cX8_partsAt 30 = .ok (.aload_n 0, 1) := by decide +kernel
theorem dX8_partsAt_31 : decode cX8_partsAt 31 = .ok (.iload_n 1, 1) := by decide +kernel
theorem dX8_partsAt_32 : decode cX8_partsAt 32 = .ok (.iload_n 3, 1) := by decide +kernel
theorem dX8_partsAt_33 : decode cX8_partsAt 33 = .ok (.iload 4, 2) := by decide +kernel
theorem dX8_partsAt_35 : decode cX8_partsAt 35 = .ok (.invokevirtual 260, 3) := by decide +kernel
theorem dX8_partsAt_38 : decode cX8_partsAt 38 = .ok (.aload_n 0, 1) := by decide +kernel
theorem dX8_partsAt_39 : decode cX8_partsAt 39 = .ok (.iload_n 2, 1) := by decide +kernel
theorem dX8_partsAt_40 : decode cX8_partsAt 40 = .ok (.iload_n 3, 1) := by decide +kernel
theorem dX8_partsAt_41 : decode cX8_partsAt 41 = .ok (.iload 4, 2) := by decide +kernel
theorem dX8_partsAt_43 : decode cX8_partsAt 43 = .ok (.invokevirtual 260, 3) := by decide +kernel
theorem dX8_partsAt_46 : decode cX8_partsAt 46 = .ok (.if_icmp .ne 6, 3) := by decide +kernel
theorem dX8_partsAt_49 : decode cX8_partsAt 49 = .ok (.bipush (-6), 2) := by decide +kernel
theorem dX8_partsAt_51 : decode cX8_partsAt 51 = .ok (.ireturn, 1) := by decide +kernel
theorem dX8_partsAt_52 : decode cX8_partsAt 52 = .ok (.iload 5, 2) := by decide +kernel
theorem dX8_partsAt_54 : decode cX8_partsAt 54 = .ok (.iload 6, 2) := by decide +kernel
theorem dX8_partsAt_56 : decode cX8_partsAt 56 = .ok (.if_icmp .eq 14, 3) := by decide +kernel
theorem dX8_partsAt_59 : decode cX8_partsAt 59 = .ok (.aload_n 0, 1) := by decide +kernel
theorem dX8_partsAt_60 : decode cX8_partsAt 60 = .ok (.iload 5, 2) := by decide +kernel
theorem dX8_partsAt_62 : decode cX8_partsAt 62 = .ok (.iload 6, 2) := by decide +kernel
theorem dX8_partsAt_64 : decode cX8_partsAt 64 = .ok (.invokevirtual 168, 3) := by decide +kernel
theorem dX8_partsAt_67 : decode cX8_partsAt 67 = .ok (.ifCond .eq 8, 3) := by decide +kernel
theorem dX8_partsAt_70 : decode cX8_partsAt 70 = .ok (.iload 5, 2) := by decide +kernel
theorem dX8_partsAt_72 : decode cX8_partsAt 72 = .ok (.goto 5, 3) := by decide +kernel
theorem dX8_partsAt_75 : decode cX8_partsAt 75 = .ok (.iload 6, 2) := by decide +kernel
theorem dX8_partsAt_77 : decode cX8_partsAt 77 = .ok (.ireturn, 1) := by decide +kernel
theorem dX8_looks_0 : decode cX8_looks 0 = .ok (.iconst 0, 1) := by decide +kernel
theorem dX8_looks_1 : decode cX8_looks 1 = .ok (.istore_n 3, 1) := by decide +kernel
theorem dX8_looks_2 : decode cX8_looks 2 = .ok (.iconst 1, 1) := by decide +kernel
theorem dX8_looks_3 : decode cX8_looks 3 = .ok (.istore 4, 2) := by decide +kernel
theorem dX8_looks_5 : decode cX8_looks 5 = .ok (.aload_n 0, 1) := by decide +kernel
theorem dX8_looks_6 : decode cX8_looks 6 = .ok (.getfield 50, 3) := by decide +kernel
theorem dX8_looks_9 : decode cX8_looks 9 = .ok (.iconst 0, 1) := by decide +kernel
theorem dX8_looks_10 : decode cX8_looks 10 = .ok (.iconst 0, 1) := by decide +kernel
theorem dX8_looks_11 : decode cX8_looks 11 = .ok (.iastore, 1) := by decide +kernel
theorem dX8_looks_12 : decode cX8_looks 12 = .ok (.aload_n 0, 1) := by decide +kernel
theorem dX8_looks_13 : decode cX8_looks 13 = .ok (.getfield 53, 3) := by decide +kernel
theorem dX8_looks_16 : decode cX8_looks 16 = .ok (.iconst 0, 1) := by decide +kernel
theorem dX8_looks_17 : decode cX8_looks 17 = .ok (.bipush 49, 2) := by decide +kernel
theorem dX8_looks_19 : decode cX8_looks 19 = .ok (.iastore, 1) := by decide +kernel
theorem dX8_looks_20 : decode cX8_looks 20 = .ok (.iload 4, 2) := by decide +kernel
theorem dX8_looks_22 : decode cX8_looks 22 = .ok (.ifCond .le 94, 3) := by decide +kernel
theorem dX8_looks_25 : decode cX8_looks 25 = .ok (.iinc 4 (-1), 3) := by decide +kernel
theorem dX8_looks_28 : decode cX8_looks 28 = .ok (.iinc 3 1, 3) := by decide +kernel
theorem dX8_looks_31 : decode cX8_looks 31 = .ok (.aload_n 0, 1) := by decide +kernel
theorem dX8_looks_32 : decode cX8_looks 32 = .ok (.getfield 50, 3) := by decide +kernel
theorem dX8_looks_35 : decode cX8_looks 35 = .ok (.iload 4, 2) := by decide +kernel
theorem dX8_looks_37 : decode cX8_looks 37 = .ok (.iaload, 1) := by decide +kernel
theorem dX8_looks_38 : decode cX8_looks 38 = .ok (.istore 5, 2) := by decide +kernel
theorem dX8_looks_40 : decode cX8_looks 40 = .ok (.aload_n 0, 1) := by decide +kernel
theorem dX8_looks_41 : decode cX8_looks 41 = .ok (.getfield 53, 3) := by decide +kernel
theorem dX8_looks_44 : decode cX8_looks 44 = .ok (.iload 4, 2) := by decide +kernel
theorem dX8_looks_46 : decode cX8_looks 46 = .ok (.iaload, 1) := by decide +kernel
theorem dX8_looks_47 : decode cX8_looks 47 = .ok (.istore 6, 2) := by decide +kernel
theorem dX8_looks_49 : decode cX8_looks 49 = .ok (.aload_n 0, 1) := by decide +kernel
theorem dX8_looks_50 : decode cX8_looks 50 = .ok (.iload_n 1, 1) := by decide +kernel
theorem dX8_looks_51 : decode cX8_looks 51 = .ok (.iload_n 2, 1) := by decide +kernel
theorem dX8_looks_52 : decode cX8_looks 52 = .ok (.iload 5, 2) := by decide +kernel
theorem dX8_looks_54 : decode cX8_looks 54 = .ok (.iload 6, 2) := by decide +kernel
theorem dX8_looks_56 : decode cX8_looks 56 = .ok (.invokevirtual 281, 3) := by decide +kernel
theorem dX8_looks_59 : decode cX8_looks 59 = .ok (.istore 7, 2) := by decide +kernel
theorem dX8_looks_61 : decode cX8_looks 61 = .ok (.iload 7, 2) := by decide +kernel
theorem dX8_looks_63 : decode cX8_looks 63 = .ok (.ifCond .lt 50, 3) := by decide +kernel
theorem dX8_looks_66 : decode cX8_looks 66 = .ok (.aload_n 0, 1) := by decide +kernel
theorem dX8_looks_67 : decode cX8_looks 67 = .ok (.getfield 50, 3) := by decide +kernel
theorem dX8_looks_70 : decode cX8_looks 70 = .ok (.iload 4, 2) := by decide +kernel
theorem dX8_looks_72 : decode cX8_looks 72 = .ok (.iload 5, 2) := by decide +kernel
theorem dX8_looks_74 : decode cX8_looks 74 = .ok (.iastore, 1) := by decide +kernel
theorem dX8_looks_75 : decode cX8_looks 75 = .ok (.aload_n 0, 1) := by decide +kernel
theorem dX8_looks_76 : decode cX8_looks 76 = .ok (.getfield 53, 3) := by decide +kernel
theorem dX8_looks_79 : decode cX8_looks 79 = .ok (.iload 4, 2) := by decide +kernel
theorem dX8_looks_81 : decode cX8_looks 81 = .ok (.iload 7, 2) := by decide +kernel
theorem dX8_looks_83 : decode cX8_looks 83 = .ok (.iconst 1, 1) := by decide +kernel
theorem dX8_looks_84 : decode cX8_looks 84 = .ok (.isub, 1) := by decide +kernel
theorem dX8_looks_85 : decode cX8_looks 85 = .ok (.iastore, 1) := by decide +kernel
theorem dX8_looks_86 : decode cX8_looks 86 = .ok (.aload_n 0, 1) := by decide +kernel
theorem dX8_looks_87 : decode cX8_looks 87 = .ok (.getfield 50, 3) := by decide +kernel
theorem dX8_looks_90 : decode cX8_looks 90 = .ok (.iload 4, 2) := by decide +kernel
theorem dX8_looks_92 : decode cX8_looks 92 = .ok (.iconst 1, 1) := by decide +kernel
theorem dX8_looks_93 : decode cX8_looks 93 = .ok (.iadd, 1) := by decide +kernel
theorem dX8_looks_94 : decode cX8_looks 94 = .ok (.iload 7, 2) := by decide +kernel
theorem dX8_looks_96 : decode cX8_looks 96 = .ok (.iconst 1, 1) := by decide +kernel
theorem dX8_looks_97 : decode cX8_looks 97 = .ok (.iadd, 1) := by decide +kernel
theorem dX8_looks_98 : decode cX8_looks 98 = .ok (.iastore, 1) := by decide +kernel
theorem dX8_looks_99 : decode cX8_looks 99 = .ok (.aload_n 0, 1) := by decide +kernel
theorem dX8_looks_100 : decode cX8_looks 100 = .ok (.getfield 53, 3) := by decide +kernel
theorem dX8_looks_103 : decode cX8_looks 103 = .ok (.iload 4, 2) := by decide +kernel
theorem dX8_looks_105 : decode cX8_looks 105 = .ok (.iconst 1, 1) := by decide +kernel
theorem dX8_looks_106 : decode cX8_looks 106 = .ok (.iadd, 1) := by decide +kernel
theorem dX8_looks_107 : decode cX8_looks 107 = .ok (.iload 6, 2) := by decide +kernel
theorem dX8_looks_109 : decode cX8_looks 109 = .ok (.iastore, 1) := by decide +kernel
theorem dX8_looks_110 : decode cX8_looks 110 = .ok (.iinc 4 2, 3) := by decide +kernel
theorem dX8_looks_113 : decode cX8_looks 113 = .ok (.goto (-93), 3) := by decide +kernel
theorem dX8_looks_116 : decode cX8_looks 116 = .ok (.iload_n 3, 1) := by decide +kernel
theorem dX8_looks_117 : decode cX8_looks 117 = .ok (.ireturn, 1) := by decide +kernel
theorem dX8_apartMany_0 : decode cX8_apartMany 0 = .ok (.iconst 0, 1) := by decide +kernel
theorem dX8_apartMany_1 : decode cX8_apartMany 1 = .ok (.istore_n 3, 1) := by decide +kernel
theorem dX8_apartMany_2 : decode cX8_apartMany 2 = .ok (.iconst 0, 1) := by decide +kernel
theorem dX8_apartMany_3 : decode cX8_apartMany 3 = .ok (.istore 4, 2) := by decide +kernel
theorem dX8_apartMany_5 : decode cX8_apartMany 5 = .ok (.iload 4, 2) := by decide +kernel
theorem dX8_apartMany_7 : decode cX8_apartMany 7 = .ok (.bipush 50, 2) := by decide +kernel
theorem dX8_apartMany_9 : decode cX8_apartMany 9 = .ok (.if_icmp .ge 34, 3) := by decide +kernel
theorem dX8_apartMany_12 : decode cX8_apartMany 12 = .ok (.iload_n 3, 1) := by decide +kernel
theorem dX8_apartMany_13 : decode cX8_apartMany 13 = .ok (.aload_n 0, 1) := by decide +kernel
theorem dX8_apartMany_14 : decode cX8_apartMany 14 = .ok (.iload_n 1, 1) := by decide +kernel
theorem dX8_apartMany_15 : decode cX8_apartMany 15 = .ok (.iload 4, 2) := by decide +kernel
theorem dX8_apartMany_17 : decode cX8_apartMany 17 = .ok (.invokevirtual 95, 3) := by decide +kernel
theorem dX8_apartMany_20 : decode cX8_apartMany 20 = .ok (.aload_n 0, 1) := by decide +kernel
theorem dX8_apartMany_21 : decode cX8_apartMany 21 = .ok (.iload_n 2, 1) := by decide +kernel
theorem dX8_apartMany_22 : decode cX8_apartMany 22 = .ok (.iload 4, 2) := by decide +kernel
theorem dX8_apartMany_24 : decode cX8_apartMany 24 = .ok (.invokevirtual 95, 3) := by decide +kernel
theorem dX8_apartMany_27 : decode cX8_apartMany 27 = .ok (.if_icmp .ne 7, 3) := by decide +kernel
theorem dX8_apartMany_30 : decode cX8_apartMany 30 = .ok (.iconst 0, 1) := by decide +kernel
theorem dX8_apartMany_31 : decode cX8_apartMany 31 = .ok (.goto 4, 3) := by decide +kernel
theorem dX8_apartMany_34 : decode cX8_apartMany 34 = .ok (.iconst 1, 1) := by decide +kernel
theorem dX8_apartMany_35 : decode cX8_apartMany 35 = .ok (.iadd, 1) := by decide +kernel
theorem dX8_apartMany_36 : decode cX8_apartMany 36 = .ok (.istore_n 3, 1) := by decide +kernel
theorem dX8_apartMany_37 : decode cX8_apartMany 37 = .ok (.iinc 4 1, 3) := by decide +kernel
theorem dX8_apartMany_40 : decode cX8_apartMany 40 = .ok (.goto (-35), 3) := by decide +kernel
theorem dX8_apartMany_43 : decode cX8_apartMany 43 = .ok (.iload_n 3, 1) := by decide +kernel
theorem dX8_apartMany_44 : decode cX8_apartMany 44 = .ok (.ireturn, 1) := by decide +kernel
theorem dX8_shared_0 : decode cX8_shared 0 = .ok (.iconst 0, 1) := by decide +kernel
theorem dX8_shared_1 : decode cX8_shared 1 = .ok (.istore_n 3, 1) := by decide +kernel
theorem dX8_shared_2 : decode cX8_shared 2 = .ok (.iconst 0, 1) := by decide +kernel
theorem dX8_shared_3 : decode cX8_shared 3 = .ok (.istore 4, 2) := by decide +kernel
theorem dX8_shared_5 : decode cX8_shared 5 = .ok (.iload 4, 2) := by decide +kernel
theorem dX8_shared_7 : decode cX8_shared 7 = .ok (.bipush 50, 2) := by decide +kernel
theorem dX8_shared_9 : decode cX8_shared 9 = .ok (.if_icmp .ge 55, 3) := by decide +kernel
theorem dX8_shared_12 : decode cX8_shared 12 = .ok (.iload_n 3, 1) := by decide +kernel
theorem dX8_shared_13 : decode cX8_shared 13 = .ok (.aload_n 0, 1) := by decide +kernel
theorem dX8_shared_14 : decode cX8_shared 14 = .ok (.iload_n 1, 1) := by decide +kernel
theorem dX8_shared_15 : decode cX8_shared 15 = .ok (.iload 4, 2) := by decide +kernel
theorem dX8_shared_17 : decode cX8_shared 17 = .ok (.invokevirtual 95, 3) := by decide +kernel
theorem dX8_shared_20 : decode cX8_shared 20 = .ok (.ifCond .eq 35, 3) := by decide +kernel
theorem dX8_shared_23 : decode cX8_shared 23 = .ok (.aload_n 0, 1) := by decide +kernel
theorem dX8_shared_24 : decode cX8_shared 24 = .ok (.iload_n 2, 1) := by decide +kernel
theorem dX8_shared_25 : decode cX8_shared 25 = .ok (.iload 4, 2) := by decide +kernel
theorem dX8_shared_27 : decode cX8_shared 27 = .ok (.invokevirtual 95, 3) := by decide +kernel
theorem dX8_shared_30 : decode cX8_shared 30 = .ok (.ifCond .eq 25, 3) := by decide +kernel
theorem dX8_shared_33 : decode cX8_shared 33 = .ok (.aload_n 0, 1) := by decide +kernel
theorem dX8_shared_34 : decode cX8_shared 34 = .ok (.iload_n 1, 1) := by decide +kernel
theorem dX8_shared_35 : decode cX8_shared 35 = .ok (.iload 4, 2) := by decide +kernel
theorem dX8_shared_37 : decode cX8_shared 37 = .ok (.invokevirtual 193, 3) := by decide +kernel
theorem dX8_shared_40 : decode cX8_shared 40 = .ok (.aload_n 0, 1) := by decide +kernel
theorem dX8_shared_41 : decode cX8_shared 41 = .ok (.iload_n 2, 1) := by decide +kernel
theorem dX8_shared_42 : decode cX8_shared 42 = .ok (.iload 4, 2) := by decide +kernel
theorem dX8_shared_44 : decode cX8_shared 44 = .ok (.invokevirtual 193, 3) := by decide +kernel
theorem dX8_shared_47 : decode cX8_shared 47 = .ok (.lcmp, 1) := by decide +kernel
theorem dX8_shared_48 : decode cX8_shared 48 = .ok (.ifCond .ne 7, 3) := by decide +kernel
theorem dX8_shared_51 : decode cX8_shared 51 = .ok (.iconst 1, 1) := by decide +kernel
theorem dX8_shared_52 : decode cX8_shared 52 = .ok (.goto 4, 3) := by decide +kernel
theorem dX8_shared_55 : decode cX8_shared 55 = .ok (.iconst 0, 1) := by decide +kernel
theorem dX8_shared_56 : decode cX8_shared 56 = .ok (.iadd, 1) := by decide +kernel
theorem dX8_shared_57 : decode cX8_shared 57 = .ok (.istore_n 3, 1) := by decide +kernel
theorem dX8_shared_58 : decode cX8_shared 58 = .ok (.iinc 4 1, 3) := by decide +kernel
theorem dX8_shared_61 : decode cX8_shared 61 = .ok (.goto (-56), 3) := by decide +kernel
theorem dX8_shared_64 : decode cX8_shared 64 = .ok (.iload_n 3, 1) := by decide +kernel
theorem dX8_shared_65 : decode cX8_shared 65 = .ok (.ireturn, 1) := by decide +kernel
theorem dX8_apart_0 : decode cX8_apart 0 = .ok (.iload_n 1, 1) := by decide +kernel
theorem dX8_apart_1 : decode cX8_apart 1 = .ok (.invokestatic 88, 3) := by decide +kernel
theorem dX8_apart_4 : decode cX8_apart 4 = .ok (.ifCond .eq 10, 3) := by decide +kernel
theorem dX8_apart_7 : decode cX8_apart 7 = .ok (.iload_n 2, 1) := by decide +kernel
theorem dX8_apart_8 : decode cX8_apart 8 = .ok (.invokestatic 88, 3) := by decide +kernel
theorem dX8_apart_11 : decode cX8_apart 11 = .ok (.ifCond .ne 5, 3) := by decide +kernel
theorem dX8_apart_14 : decode cX8_apart 14 = .ok (.iconst (-1), 1) := by decide +kernel
theorem dX8_apart_15 : decode cX8_apart 15 = .ok (.ireturn, 1) := by decide +kernel
theorem dX8_apart_16 : decode cX8_apart 16 = .ok (.iload_n 3, 1) := by decide +kernel
theorem dX8_apart_17 : decode cX8_apart 17 = .ok (.i2l, 1) := by decide +kernel
theorem dX8_apart_18 : decode cX8_apart 18 = .ok (.lconst 0, 1) := by decide +kernel
theorem dX8_apart_19 : decode cX8_apart 19 = .ok (.ldc2_w 251, 3) := by decide +kernel
theorem dX8_apart_22 : decode cX8_apart 22 = .ok (.invokestatic 68, 3) := by decide +kernel
theorem dX8_apart_25 : decode cX8_apart 25 = .ok (.ifCond .ne 6, 3) := by decide +kernel
theorem dX8_apart_28 : decode cX8_apart 28 = .ok (.bipush (-2), 2) := by decide +kernel
theorem dX8_apart_30 : decode cX8_apart 30 = .ok (.ireturn, 1) := by decide +kernel
theorem dX8_apart_31 : decode cX8_apart 31 = .ok (.iload_n 3, 1) := by decide +kernel
theorem dX8_apart_32 : decode cX8_apart 32 = .ok (.ifCond .ne 12, 3) := by decide +kernel
theorem dX8_apart_35 : decode cX8_apart 35 = .ok (.aload_n 0, 1) := by decide +kernel
theorem dX8_apart_36 : decode cX8_apart 36 = .ok (.iload_n 1, 1) := by decide +kernel
theorem dX8_apart_37 : decode cX8_apart 37 = .ok (.iload_n 2, 1) := by decide +kernel
theorem dX8_apart_38 : decode cX8_apart 38 = .ok (.invokevirtual 284, 3) := by decide +kernel
theorem dX8_apart_41 : decode cX8_apart 41 = .ok (.goto 23, 3) := by decide +kernel
theorem dX8_apart_44 : decode cX8_apart 44 = .ok (.iload_n 3, 1) := by decide +kernel
theorem dX8_apart_45 : decode cX8_apart 45 = .ok (.iconst 1, 1) := by decide +kernel
theorem dX8_apart_46 : decode cX8_apart 46 = .ok (.if_icmp .ne 12, 3) := by decide +kernel
theorem dX8_apart_49 : decode cX8_apart 49 = .ok (.aload_n 0, 1) := by decide +kernel
theorem dX8_apart_50 : decode cX8_apart 50 = .ok (.iload_n 1, 1) := by decide +kernel
theorem dX8_apart_51 : decode cX8_apart 51 = .ok (.iload_n 2, 1) := by decide +kernel
theorem dX8_apart_52 : decode cX8_apart 52 = .ok (.invokevirtual 287, 3) := by decide +kernel
theorem dX8_apart_55 : decode cX8_apart 55 = .ok (.goto 9, 3) := by decide +kernel
theorem dX8_apart_58 : decode cX8_apart 58 = .ok (.aload_n 0, 1) := by decide +kernel
theorem dX8_apart_59 : decode cX8_apart 59 = .ok (.iload_n 1, 1) := by decide +kernel
theorem dX8_apart_60 : decode cX8_apart 60 = .ok (.iload_n 2, 1) := by decide +kernel
theorem dX8_apart_61 : decode cX8_apart 61 = .ok (.invokevirtual 290, 3) := by decide +kernel
theorem dX8_apart_64 : decode cX8_apart 64 = .ok (.ireturn, 1) := by decide +kernel
theorem dX8_differs_0 : decode cX8_differs 0 = .ok (.iload_n 1, 1) := by decide +kernel
theorem dX8_differs_1 : decode cX8_differs 1 = .ok (.invokestatic 88, 3) := by decide +kernel
theorem dX8_differs_4 : decode cX8_differs 4 = .ok (.ifCond .eq 10, 3) := by decide +kernel
theorem dX8_differs_7 : decode cX8_differs 7 = .ok (.iload_n 2, 1) := by decide +kernel
theorem dX8_differs_8 : decode cX8_differs 8 = .ok (.invokestatic 88, 3) := by decide +kernel
theorem dX8_differs_11 : decode cX8_differs 11 = .ok (.ifCond .ne 5, 3) := by decide +kernel
theorem dX8_differs_14 : decode cX8_differs 14 = .ok (.iconst (-1), 1) := by decide +kernel
theorem dX8_differs_15 : decode cX8_differs 15 = .ok (.ireturn, 1) := by decide +kernel
theorem dX8_differs_16 : decode cX8_differs 16 = .ok (.iconst 0, 1) := by decide +kernel
theorem dX8_differs_17 : decode cX8_differs 17 = .ok (.istore 4, 2) := by decide +kernel
theorem dX8_differs_19 : decode cX8_differs 19 = .ok (.iconst 0, 1) := by decide +kernel
theorem dX8_differs_20 : decode cX8_differs 20 = .ok (.istore 5, 2) := by decide +kernel
theorem dX8_differs_22 : decode cX8_differs 22 = .ok (.iload 5, 2) := by decide +kernel
theorem dX8_differs_24 : decode cX8_differs 24 = .ok (.bipush 50, 2) := by decide +kernel
theorem dX8_differs_26 : decode cX8_differs 26 = .ok (.if_icmp .ge 38, 3) := by decide +kernel
theorem dX8_differs_29 : decode cX8_differs 29 = .ok (.aload_n 0, 1) := by decide +kernel
theorem dX8_differs_30 : decode cX8_differs 30 = .ok (.iload_n 1, 1) := by decide +kernel
theorem dX8_differs_31 : decode cX8_differs 31 = .ok (.iload 5, 2) := by decide +kernel
theorem dX8_differs_33 : decode cX8_differs 33 = .ok (.invokevirtual 95, 3) := by decide +kernel
theorem dX8_differs_36 : decode cX8_differs 36 = .ok (.aload_n 0, 1) := by decide +kernel
theorem dX8_differs_37 : decode cX8_differs 37 = .ok (.iload_n 2, 1) := by decide +kernel
theorem dX8_differs_38 : decode cX8_differs 38 = .ok (.iload 5, 2) := by decide +kernel
theorem dX8_differs_40 : decode cX8_differs 40 = .ok (.invokevirtual 95, 3) := by decide +kernel
theorem dX8_differs_43 : decode cX8_differs 43 = .ok (.if_icmp .eq 15, 3) := by decide +kernel
theorem dX8_differs_46 : decode cX8_differs 46 = .ok (.iload 4, 2) := by decide +kernel
theorem dX8_differs_48 : decode cX8_differs 48 = .ok (.iload_n 3, 1) := by decide +kernel
theorem dX8_differs_49 : decode cX8_differs 49 = .ok (.if_icmp .ne 6, 3) := by decide +kernel
theorem dX8_differs_52 : decode cX8_differs 52 = .ok (.iload 5, 2) := by decide +kernel
theorem dX8_differs_54 : decode cX8_differs 54 = .ok (.ireturn, 1) := by decide +kernel
theorem dX8_differs_55 : decode cX8_differs 55 = .ok (.iinc 4 1, 3) := by decide +kernel
theorem dX8_differs_58 : decode cX8_differs 58 = .ok (.iinc 5 1, 3) := by decide +kernel
theorem dX8_differs_61 : decode cX8_differs 61 = .ok (.goto (-39), 3) := by decide +kernel
theorem dX8_differs_64 : decode cX8_differs 64 = .ok (.bipush (-6), 2) := by decide +kernel
theorem dX8_differs_66 : decode cX8_differs 66 = .ok (.ireturn, 1) := by decide +kernel
theorem dX8_above_0 : decode cX8_above 0 = .ok (.iload_n 1, 1) := by decide +kernel
theorem dX8_above_1 : decode cX8_above 1 = .ok (.invokestatic 92, 3) := by decide +kernel
theorem dX8_above_4 : decode cX8_above 4 = .ok (.ifCond .eq 10, 3) := by decide +kernel
theorem dX8_above_7 : decode cX8_above 7 = .ok (.iload_n 2, 1) := by decide +kernel
theorem dX8_above_8 : decode cX8_above 8 = .ok (.invokestatic 92, 3) := by decide +kernel
theorem dX8_above_11 : decode cX8_above 11 = .ok (.ifCond .ne 5, 3) := by decide +kernel
theorem dX8_above_14 : decode cX8_above 14 = .ok (.iconst (-1), 1) := by decide +kernel
theorem dX8_above_15 : decode cX8_above 15 = .ok (.ireturn, 1) := by decide +kernel
theorem dX8_above_16 : decode cX8_above 16 = .ok (.iload_n 1, 1) := by decide +kernel
theorem dX8_above_17 : decode cX8_above 17 = .ok (.iload_n 2, 1) := by decide +kernel
theorem dX8_above_18 : decode cX8_above 18 = .ok (.if_icmp .ne 6, 3) := by decide +kernel
theorem dX8_above_21 : decode cX8_above 21 = .ok (.bipush (-2), 2) := by decide +kernel
theorem dX8_above_23 : decode cX8_above 23 = .ok (.ireturn, 1) := by decide +kernel
theorem dX8_above_24 : decode cX8_above 24 = .ok (.aload_n 0, 1) := by decide +kernel
theorem dX8_above_25 : decode cX8_above 25 = .ok (.getfield 293, 3) := by decide +kernel
theorem dX8_above_28 : decode cX8_above 28 = .ok (.bipush 8, 2) := by decide +kernel
theorem dX8_above_30 : decode cX8_above 30 = .ok (.if_icmp .ne 6, 3) := by decide +kernel
theorem dX8_above_33 : decode cX8_above 33 = .ok (.bipush (-4), 2) := by decide +kernel
theorem dX8_above_35 : decode cX8_above 35 = .ok (.ireturn, 1) := by decide +kernel
theorem dX8_above_36 : decode cX8_above 36 = .ok (.aload_n 0, 1) := by decide +kernel
theorem dX8_above_37 : decode cX8_above 37 = .ok (.getfield 13, 3) := by decide +kernel
theorem dX8_above_40 : decode cX8_above 40 = .ok (.aload_n 0, 1) := by decide +kernel
theorem dX8_above_41 : decode cX8_above 41 = .ok (.getfield 293, 3) := by decide +kernel
theorem dX8_above_44 : decode cX8_above 44 = .ok (.iload_n 1, 1) := by decide +kernel
theorem dX8_above_45 : decode cX8_above 45 = .ok (.iastore, 1) := by decide +kernel
theorem dX8_above_46 : decode cX8_above 46 = .ok (.aload_n 0, 1) := by decide +kernel
theorem dX8_above_47 : decode cX8_above 47 = .ok (.getfield 16, 3) := by decide +kernel
theorem dX8_above_50 : decode cX8_above 50 = .ok (.aload_n 0, 1) := by decide +kernel
theorem dX8_above_51 : decode cX8_above 51 = .ok (.getfield 293, 3) := by decide +kernel
theorem dX8_above_54 : decode cX8_above 54 = .ok (.iload_n 2, 1) := by decide +kernel
theorem dX8_above_55 : decode cX8_above 55 = .ok (.iastore, 1) := by decide +kernel
theorem dX8_above_56 : decode cX8_above 56 = .ok (.aload_n 0, 1) := by decide +kernel
theorem dX8_above_57 : decode cX8_above 57 = .ok (.dup, 1) := by decide +kernel
theorem dX8_above_58 : decode cX8_above 58 = .ok (.getfield 293, 3) := by decide +kernel
theorem dX8_above_61 : decode cX8_above 61 = .ok (.iconst 1, 1) := by decide +kernel
theorem dX8_above_62 : decode cX8_above 62 = .ok (.iadd, 1) := by decide +kernel
theorem dX8_above_63 : decode cX8_above 63 = .ok (.putfield 293, 3) := by decide +kernel
theorem dX8_above_66 : decode cX8_above 66 = .ok (.aload_n 0, 1) := by decide +kernel
theorem dX8_above_67 : decode cX8_above 67 = .ok (.getfield 293, 3) := by decide +kernel
theorem dX8_above_70 : decode cX8_above 70 = .ok (.ireturn, 1) := by decide +kernel
theorem dX8_forget_0 : decode cX8_forget 0 = .ok (.aload_n 0, 1) := by decide +kernel
theorem dX8_forget_1 : decode cX8_forget 1 = .ok (.getfield 293, 3) := by decide +kernel
theorem dX8_forget_4 : decode cX8_forget 4 = .ok (.istore_n 1, 1) := by decide +kernel
theorem dX8_forget_5 : decode cX8_forget 5 = .ok (.aload_n 0, 1) := by decide +kernel
theorem dX8_forget_6 : decode cX8_forget 6 = .ok (.iconst 0, 1) := by decide +kernel
theorem dX8_forget_7 : decode cX8_forget 7 = .ok (.putfield 293, 3) := by decide +kernel
theorem dX8_forget_10 : decode cX8_forget 10 = .ok (.iload_n 1, 1) := by decide +kernel
theorem dX8_forget_11 : decode cX8_forget 11 = .ok (.ireturn, 1) := by decide +kernel
theorem dX8_isFit_0 : decode cX8_isFit 0 = .ok (.iconst 1, 1) := by decide +kernel
theorem dX8_isFit_1 : decode cX8_isFit 1 = .ok (.istore_n 2, 1) := by decide +kernel
theorem dX8_isFit_2 : decode cX8_isFit 2 = .ok (.iconst 0, 1) := by decide +kernel
theorem dX8_isFit_3 : decode cX8_isFit 3 = .ok (.istore_n 3, 1) := by decide +kernel
theorem dX8_isFit_4 : decode cX8_isFit 4 = .ok (.iload_n 3, 1) := by decide +kernel
theorem dX8_isFit_5 : decode cX8_isFit 5 = .ok (.aload_n 0, 1) := by decide +kernel
theorem dX8_isFit_6 : decode cX8_isFit 6 = .ok (.getfield 293, 3) := by decide +kernel
theorem dX8_isFit_9 : decode cX8_isFit 9 = .ok (.if_icmp .ge 38, 3) := by decide +kernel
theorem dX8_isFit_12 : decode cX8_isFit 12 = .ok (.iload_n 2, 1) := by decide +kernel
theorem dX8_isFit_13 : decode cX8_isFit 13 = .ok (.ifCond .eq 26, 3) := by decide +kernel
theorem dX8_isFit_16 : decode cX8_isFit 16 = .ok (.iload_n 1, 1) := by decide +kernel
theorem dX8_isFit_17 : decode cX8_isFit 17 = .ok (.aload_n 0, 1) := by decide +kernel
theorem dX8_isFit_18 : decode cX8_isFit 18 = .ok (.getfield 13, 3) := by decide +kernel
theorem dX8_isFit_21 : decode cX8_isFit 21 = .ok (.iload_n 3, 1) := by decide +kernel
theorem dX8_isFit_22 : decode cX8_isFit 22 = .ok (.iaload, 1) := by decide +kernel
theorem dX8_isFit_23 : decode cX8_isFit 23 = .ok (.aload_n 0, 1) := by decide +kernel
theorem dX8_isFit_24 : decode cX8_isFit 24 = .ok (.getfield 16, 3) := by decide +kernel
theorem dX8_isFit_27 : decode cX8_isFit 27 = .ok (.iload_n 3, 1) := by decide +kernel
theorem dX8_isFit_28 : decode cX8_isFit 28 = .ok (.iaload, 1) := by decide +kernel
theorem dX8_isFit_29 : decode cX8_isFit 29 = .ok (.invokestatic 82, 3) := by decide +kernel
theorem dX8_isFit_32 : decode cX8_isFit 32 = .ok (.ifCond .eq 7, 3) := by decide +kernel
theorem dX8_isFit_35 : decode cX8_isFit 35 = .ok (.iconst 1, 1) := by decide +kernel
theorem dX8_isFit_36 : decode cX8_isFit 36 = .ok (.goto 4, 3) := by decide +kernel
theorem dX8_isFit_39 : decode cX8_isFit 39 = .ok (.iconst 0, 1) := by decide +kernel
theorem dX8_isFit_40 : decode cX8_isFit 40 = .ok (.istore_n 2, 1) := by decide +kernel
theorem dX8_isFit_41 : decode cX8_isFit 41 = .ok (.iinc 3 1, 3) := by decide +kernel
theorem dX8_isFit_44 : decode cX8_isFit 44 = .ok (.goto (-40), 3) := by decide +kernel
theorem dX8_isFit_47 : decode cX8_isFit 47 = .ok (.iload_n 2, 1) := by decide +kernel
theorem dX8_isFit_48 : decode cX8_isFit 48 = .ok (.ireturn, 1) := by decide +kernel
theorem dX8_seeds_0 : decode cX8_seeds 0 = .ok (.iconst 0, 1) := by decide +kernel
theorem dX8_seeds_1 : decode cX8_seeds 1 = .ok (.istore_n 2, 1) := by decide +kernel
theorem dX8_seeds_2 : decode cX8_seeds 2 = .ok (.iconst 0, 1) := by decide +kernel
theorem dX8_seeds_3 : decode cX8_seeds 3 = .ok (.istore_n 3, 1) := by decide +kernel
theorem dX8_seeds_4 : decode cX8_seeds 4 = .ok (.iload_n 3, 1) := by decide +kernel
theorem dX8_seeds_5 : decode cX8_seeds 5 = .ok (.sipush 9999, 3) := by decide +kernel
theorem dX8_seeds_8 : decode cX8_seeds 8 = .ok (.if_icmp .gt 27, 3) := by decide +kernel
theorem dX8_seeds_11 : decode cX8_seeds 11 = .ok (.aload_n 0, 1) := by decide +kernel
theorem dX8_seeds_12 : decode cX8_seeds 12 = .ok (.iload_n 3, 1) := by decide +kernel
theorem dX8_seeds_13 : decode cX8_seeds 13 = .ok (.invokevirtual 296, 3) := by decide +kernel
theorem dX8_seeds_16 : decode cX8_seeds 16 = .ok (.ifCond .eq 13, 3) := by decide +kernel
theorem dX8_seeds_19 : decode cX8_seeds 19 = .ok (.iload_n 2, 1) := by decide +kernel
theorem dX8_seeds_20 : decode cX8_seeds 20 = .ok (.iload_n 1, 1) := by decide +kernel
theorem dX8_seeds_21 : decode cX8_seeds 21 = .ok (.if_icmp .ne 5, 3) := by decide +kernel
theorem dX8_seeds_24 : decode cX8_seeds 24 = .ok (.iload_n 3, 1) := by decide +kernel
theorem dX8_seeds_25 : decode cX8_seeds 25 = .ok (.ireturn, 1) := by decide +kernel
theorem dX8_seeds_26 : decode cX8_seeds 26 = .ok (.iinc 2 1, 3) := by decide +kernel
theorem dX8_seeds_29 : decode cX8_seeds 29 = .ok (.iinc 3 1, 3) := by decide +kernel
theorem dX8_seeds_32 : decode cX8_seeds 32 = .ok (.goto (-28), 3) := by decide +kernel
theorem dX8_seeds_35 : decode cX8_seeds 35 = .ok (.iload_n 1, 1) := by decide +kernel
theorem dX8_seeds_36 : decode cX8_seeds 36 = .ok (.iconst (-1), 1) := by decide +kernel
theorem dX8_seeds_37 : decode cX8_seeds 37 = .ok (.if_icmp .ne 7, 3) := by decide +kernel
theorem dX8_seeds_40 : decode cX8_seeds 40 = .ok (.iload_n 2, 1) := by decide +kernel
theorem dX8_seeds_41 : decode cX8_seeds 41 = .ok (.goto 5, 3) := by decide +kernel
theorem dX8_seeds_44 : decode cX8_seeds 44 = .ok (.bipush (-6), 2) := by decide +kernel
theorem dX8_seeds_46 : decode cX8_seeds 46 = .ok (.ireturn, 1) := by decide +kernel
theorem dX8_orders_0 : decode cX8_orders 0 = .ok (.iload_n 1, 1) := by decide +kernel
theorem dX8_orders_1 : decode cX8_orders 1 = .ok (.invokestatic 88, 3) := by decide +kernel
theorem dX8_orders_4 : decode cX8_orders 4 = .ok (.ifCond .ne 7, 3) := by decide +kernel
theorem dX8_orders_7 : decode cX8_orders 7 = .ok (.ldc2_w 299, 3) := by decide +kernel
theorem dX8_orders_10 : decode cX8_orders 10 = .ok (.lreturn, 1) := by decide +kernel
theorem dX8_orders_11 : decode cX8_orders 11 = .ok (.aload_n 0, 1) := by decide +kernel
theorem dX8_orders_12 : decode cX8_orders 12 = .ok (.iload_n 1, 1) := by decide +kernel
theorem dX8_orders_13 : decode cX8_orders 13 = .ok (.invokevirtual 99, 3) := by decide +kernel
theorem dX8_orders_16 : decode cX8_orders 16 = .ok (.bipush 20, 2) := by decide +kernel
theorem dX8_orders_18 : decode cX8_orders 18 = .ok (.if_icmp .le 7, 3) := by decide +kernel
theorem dX8_orders_21 : decode cX8_orders 21 = .ok (.ldc2_w 301, 3) := by decide +kernel
theorem dX8_orders_24 : decode cX8_orders 24 = .ok (.lreturn, 1) := by decide +kernel
theorem dX8_orders_25 : decode cX8_orders 25 = .ok (.lconst 1, 1) := by decide +kernel
theorem dX8_orders_26 : decode cX8_orders 26 = .ok (.lstore_n 2, 1) := by decide +kernel
theorem dX8_orders_27 : decode cX8_orders 27 = .ok (.iconst 2, 1) := by decide +kernel
theorem dX8_orders_28 : decode cX8_orders 28 = .ok (.istore 4, 2) := by decide +kernel
theorem dX8_orders_30 : decode cX8_orders 30 = .ok (.iload 4, 2) := by decide +kernel
theorem dX8_orders_32 : decode cX8_orders 32 = .ok (.aload_n 0, 1) := by decide +kernel
theorem dX8_orders_33 : decode cX8_orders 33 = .ok (.iload_n 1, 1) := by decide +kernel
theorem dX8_orders_34 : decode cX8_orders 34 = .ok (.invokevirtual 99, 3) := by decide +kernel
theorem dX8_orders_37 : decode cX8_orders 37 = .ok (.if_icmp .gt 15, 3) := by decide +kernel
theorem dX8_orders_40 : decode cX8_orders 40 = .ok (.lload_n 2, 1) := by decide +kernel
theorem dX8_orders_41 : decode cX8_orders 41 = .ok (.iload 4, 2) := by decide +kernel
theorem dX8_orders_43 : decode cX8_orders 43 = .ok (.i2l, 1) := by decide +kernel
theorem dX8_orders_44 : decode cX8_orders 44 = .ok (.lmul, 1) := by decide +kernel
theorem dX8_orders_45 : decode cX8_orders 45 = .ok (.lstore_n 2, 1) := by decide +kernel
theorem dX8_orders_46 : decode cX8_orders 46 = .ok (.iinc 4 1, 3) := by decide +kernel
theorem dX8_orders_49 : decode cX8_orders 49 = .ok (.goto (-19), 3) := by decide +kernel
theorem dX8_orders_52 : decode cX8_orders 52 = .ok (.iconst 0, 1) := by decide +kernel
theorem dX8_orders_53 : decode cX8_orders 53 = .ok (.istore 4, 2) := by decide +kernel
theorem dX8_orders_55 : decode cX8_orders 55 = .ok (.iload 4, 2) := by decide +kernel
theorem dX8_orders_57 : decode cX8_orders 57 = .ok (.bipush 50, 2) := by decide +kernel
theorem dX8_orders_59 : decode cX8_orders 59 = .ok (.if_icmp .ge 37, 3) := by decide +kernel
theorem dX8_orders_62 : decode cX8_orders 62 = .ok (.lload_n 2, 1) := by decide +kernel
theorem dX8_orders_63 : decode cX8_orders 63 = .ok (.aload_n 0, 1) := by decide +kernel
theorem dX8_orders_64 : decode cX8_orders 64 = .ok (.iload_n 1, 1) := by decide +kernel
theorem dX8_orders_65 : decode cX8_orders 65 = .ok (.iload 4, 2) := by decide +kernel
theorem dX8_orders_67 : decode cX8_orders 67 = .ok (.invokevirtual 95, 3) := by decide +kernel
theorem dX8_orders_70 : decode cX8_orders 70 = .ok (.ifCond .eq 17, 3) := by decide +kernel
theorem dX8_orders_73 : decode cX8_orders 73 = .ok (.aload_n 0, 1) := by decide +kernel
theorem dX8_orders_74 : decode cX8_orders 74 = .ok (.iload_n 1, 1) := by decide +kernel
theorem dX8_orders_75 : decode cX8_orders 75 = .ok (.iload 4, 2) := by decide +kernel
theorem dX8_orders_77 : decode cX8_orders 77 = .ok (.invokevirtual 193, 3) := by decide +kernel
theorem dX8_orders_80 : decode cX8_orders 80 = .ok (.invokestatic 271, 3) := by decide +kernel
theorem dX8_orders_83 : decode cX8_orders 83 = .ok (.i2l, 1) := by decide +kernel
theorem dX8_orders_84 : decode cX8_orders 84 = .ok (.goto 4, 3) := by decide +kernel
theorem dX8_orders_87 : decode cX8_orders 87 = .ok (.lconst 1, 1) := by decide +kernel
theorem dX8_orders_88 : decode cX8_orders 88 = .ok (.ldiv, 1) := by decide +kernel
theorem dX8_orders_89 : decode cX8_orders 89 = .ok (.lstore_n 2, 1) := by decide +kernel
theorem dX8_orders_90 : decode cX8_orders 90 = .ok (.iinc 4 1, 3) := by decide +kernel
theorem dX8_orders_93 : decode cX8_orders 93 = .ok (.goto (-38), 3) := by decide +kernel
theorem dX8_orders_96 : decode cX8_orders 96 = .ok (.lload_n 2, 1) := by decide +kernel
theorem dX8_orders_97 : decode cX8_orders 97 = .ok (.lreturn, 1) := by decide +kernel
theorem dX8_shapes_0 : decode cX8_shapes 0 = .ok (.iload_n 1, 1) := by decide +kernel
theorem dX8_shapes_1 : decode cX8_shapes 1 = .ok (.i2l, 1) := by decide +kernel
theorem dX8_shapes_2 : decode cX8_shapes 2 = .ok (.lconst 0, 1) := by decide +kernel
theorem dX8_shapes_3 : decode cX8_shapes 3 = .ok (.ldc2_w 303, 3) := by decide +kernel
theorem dX8_shapes_6 : decode cX8_shapes 6 = .ok (.invokestatic 68, 3) := by decide +kernel
theorem dX8_shapes_9 : decode cX8_shapes 9 = .ok (.ifCond .ne 7, 3) := by decide +kernel
theorem dX8_shapes_12 : decode cX8_shapes 12 = .ok (.ldc2_w 305, 3) := by decide +kernel
theorem dX8_shapes_15 : decode cX8_shapes 15 = .ok (.lreturn, 1) := by decide +kernel
theorem dX8_shapes_16 : decode cX8_shapes 16 = .ok (.aload_n 0, 1) := by decide +kernel
theorem dX8_shapes_17 : decode cX8_shapes 17 = .ok (.getfield 56, 3) := by decide +kernel
theorem dX8_shapes_20 : decode cX8_shapes 20 = .ok (.iconst 0, 1) := by decide +kernel
theorem dX8_shapes_21 : decode cX8_shapes 21 = .ok (.lconst 1, 1) := by decide +kernel
theorem dX8_shapes_22 : decode cX8_shapes 22 = .ok (.lastore, 1) := by decide +kernel
theorem dX8_shapes_23 : decode cX8_shapes 23 = .ok (.iconst 1, 1) := by decide +kernel
theorem dX8_shapes_24 : decode cX8_shapes 24 = .ok (.istore_n 2, 1) := by decide +kernel
theorem dX8_shapes_25 : decode cX8_shapes 25 = .ok (.iload_n 2, 1) := by decide +kernel
theorem dX8_shapes_26 : decode cX8_shapes 26 = .ok (.iload_n 1, 1) := by decide +kernel
theorem dX8_shapes_27 : decode cX8_shapes 27 = .ok (.if_icmp .gt 55, 3) := by decide +kernel
theorem dX8_shapes_30 : decode cX8_shapes 30 = .ok (.aload_n 0, 1) := by decide +kernel
theorem dX8_shapes_31 : decode cX8_shapes 31 = .ok (.getfield 56, 3) := by decide +kernel
theorem dX8_shapes_34 : decode cX8_shapes 34 = .ok (.iload_n 2, 1) := by decide +kernel
theorem dX8_shapes_35 : decode cX8_shapes 35 = .ok (.lconst 0, 1) := by decide +kernel
theorem dX8_shapes_36 : decode cX8_shapes 36 = .ok (.lastore, 1) := by decide +kernel
theorem dX8_shapes_37 : decode cX8_shapes 37 = .ok (.iconst 0, 1) := by decide +kernel
theorem dX8_shapes_38 : decode cX8_shapes 38 = .ok (.istore_n 3, 1) := by decide +kernel
theorem dX8_shapes_39 : decode cX8_shapes 39 = .ok (.iload_n 3, 1) := by decide +kernel
theorem dX8_shapes_40 : decode cX8_shapes 40 = .ok (.iload_n 2, 1) := by decide +kernel
theorem dX8_shapes_41 : decode cX8_shapes 41 = .ok (.if_icmp .ge 35, 3) := by decide +kernel
theorem dX8_shapes_44 : decode cX8_shapes 44 = .ok (.aload_n 0, 1) := by decide +kernel
theorem dX8_shapes_45 : decode cX8_shapes 45 = .ok (.getfield 56, 3) := by decide +kernel
theorem dX8_shapes_48 : decode cX8_shapes 48 = .ok (.iload_n 2, 1) := by decide +kernel
theorem dX8_shapes_49 : decode cX8_shapes 49 = .ok (.dup2, 1) := by decide +kernel
theorem dX8_shapes_50 : decode cX8_shapes 50 = .ok (.laload, 1) := by decide +kernel
theorem dX8_shapes_51 : decode cX8_shapes 51 = .ok (.aload_n 0, 1) := by decide +kernel
theorem dX8_shapes_52 : decode cX8_shapes 52 = .ok (.getfield 56, 3) := by decide +kernel
theorem dX8_shapes_55 : decode cX8_shapes 55 = .ok (.iload_n 3, 1) := by decide +kernel
theorem dX8_shapes_56 : decode cX8_shapes 56 = .ok (.laload, 1) := by decide +kernel
theorem dX8_shapes_57 : decode cX8_shapes 57 = .ok (.aload_n 0, 1) := by decide +kernel
theorem dX8_shapes_58 : decode cX8_shapes 58 = .ok (.getfield 56, 3) := by decide +kernel
theorem dX8_shapes_61 : decode cX8_shapes 61 = .ok (.iload_n 2, 1) := by decide +kernel
theorem dX8_shapes_62 : decode cX8_shapes 62 = .ok (.iconst 1, 1) := by decide +kernel
theorem dX8_shapes_63 : decode cX8_shapes 63 = .ok (.isub, 1) := by decide +kernel
theorem dX8_shapes_64 : decode cX8_shapes 64 = .ok (.iload_n 3, 1) := by decide +kernel
theorem dX8_shapes_65 : decode cX8_shapes 65 = .ok (.isub, 1) := by decide +kernel
theorem dX8_shapes_66 : decode cX8_shapes 66 = .ok (.laload, 1) := by decide +kernel
theorem dX8_shapes_67 : decode cX8_shapes 67 = .ok (.lmul, 1) := by decide +kernel
theorem dX8_shapes_68 : decode cX8_shapes 68 = .ok (.ladd, 1) := by decide +kernel
theorem dX8_shapes_69 : decode cX8_shapes 69 = .ok (.lastore, 1) := by decide +kernel
theorem dX8_shapes_70 : decode cX8_shapes 70 = .ok (.iinc 3 1, 3) := by decide +kernel
theorem dX8_shapes_73 : decode cX8_shapes 73 = .ok (.goto (-34), 3) := by decide +kernel
theorem dX8_shapes_76 : decode cX8_shapes 76 = .ok (.iinc 2 1, 3) := by decide +kernel
theorem dX8_shapes_79 : decode cX8_shapes 79 = .ok (.goto (-54), 3) := by decide +kernel
theorem dX8_shapes_82 : decode cX8_shapes 82 = .ok (.aload_n 0, 1) := by decide +kernel
theorem dX8_shapes_83 : decode cX8_shapes 83 = .ok (.getfield 56, 3) := by decide +kernel
theorem dX8_shapes_86 : decode cX8_shapes 86 = .ok (.iload_n 1, 1) := by decide +kernel
theorem dX8_shapes_87 : decode cX8_shapes 87 = .ok (.laload, 1) := by decide +kernel
theorem dX8_shapes_88 : decode cX8_shapes 88 = .ok (.lreturn, 1) := by decide +kernel
theorem dX8_divisor_0 : decode cX8_divisor 0 = .ok (.lload_n 2, 1) := by decide +kernel
theorem dX8_divisor_1 : decode cX8_divisor 1 = .ok (.lstore 4, 2) := by decide +kernel
theorem dX8_divisor_3 : decode cX8_divisor 3 = .ok (.lload_n 0, 1) := by decide +kernel
theorem dX8_divisor_4 : decode cX8_divisor 4 = .ok (.lstore 6, 2) := by decide +kernel
theorem dX8_divisor_6 : decode cX8_divisor 6 = .ok (.lload 6, 2) := by decide +kernel
theorem dX8_divisor_8 : decode cX8_divisor 8 = .ok (.lconst 0, 1) := by decide +kernel
theorem dX8_divisor_9 : decode cX8_divisor 9 = .ok (.lcmp, 1) := by decide +kernel
theorem dX8_divisor_10 : decode cX8_divisor 10 = .ok (.ifCond .eq 21, 3) := by decide +kernel
theorem dX8_divisor_13 : decode cX8_divisor 13 = .ok (.lload 4, 2) := by decide +kernel
theorem dX8_divisor_15 : decode cX8_divisor 15 = .ok (.lload 6, 2) := by decide +kernel
theorem dX8_divisor_17 : decode cX8_divisor 17 = .ok (.lrem, 1) := by decide +kernel
theorem dX8_divisor_18 : decode cX8_divisor 18 = .ok (.lstore 8, 2) := by decide +kernel
theorem dX8_divisor_20 : decode cX8_divisor 20 = .ok (.lload 6, 2) := by decide +kernel
theorem dX8_divisor_22 : decode cX8_divisor 22 = .ok (.lstore 4, 2) := by decide +kernel
theorem dX8_divisor_24 : decode cX8_divisor 24 = .ok (.lload 8, 2) := by decide +kernel
theorem dX8_divisor_26 : decode cX8_divisor 26 = .ok (.lstore 6, 2) := by decide +kernel
theorem dX8_divisor_28 : decode cX8_divisor 28 = .ok (.goto (-22), 3) := by decide +kernel
theorem dX8_divisor_31 : decode cX8_divisor 31 = .ok (.lload 4, 2) := by decide +kernel
theorem dX8_divisor_33 : decode cX8_divisor 33 = .ok (.lreturn, 1) := by decide +kernel
theorem dX8_deep_0 : decode cX8_deep 0 = .ok (.iload_n 1, 1) := by decide +kernel
theorem dX8_deep_1 : decode cX8_deep 1 = .ok (.i2l, 1) := by decide +kernel
theorem dX8_deep_2 : decode cX8_deep 2 = .ok (.lconst 1, 1) := by decide +kernel
theorem dX8_deep_3 : decode cX8_deep 3 = .ok (.ldc2_w 307, 3) := by decide +kernel
theorem dX8_deep_6 : decode cX8_deep 6 = .ok (.invokestatic 68, 3) := by decide +kernel
theorem dX8_deep_9 : decode cX8_deep 9 = .ok (.ifCond .eq 26, 3) := by decide +kernel
theorem dX8_deep_12 : decode cX8_deep 12 = .ok (.iload_n 2, 1) := by decide +kernel
theorem dX8_deep_13 : decode cX8_deep 13 = .ok (.i2l, 1) := by decide +kernel
theorem dX8_deep_14 : decode cX8_deep 14 = .ok (.lconst 0, 1) := by decide +kernel
theorem dX8_deep_15 : decode cX8_deep 15 = .ok (.iload_n 1, 1) := by decide +kernel
theorem dX8_deep_16 : decode cX8_deep 16 = .ok (.iconst 1, 1) := by decide +kernel
theorem dX8_deep_17 : decode cX8_deep 17 = .ok (.isub, 1) := by decide +kernel
theorem dX8_deep_18 : decode cX8_deep 18 = .ok (.i2l, 1) := by decide +kernel
theorem dX8_deep_19 : decode cX8_deep 19 = .ok (.invokestatic 68, 3) := by decide +kernel
theorem dX8_deep_22 : decode cX8_deep 22 = .ok (.ifCond .eq 13, 3) := by decide +kernel
theorem dX8_deep_25 : decode cX8_deep 25 = .ok (.iload_n 3, 1) := by decide +kernel
theorem dX8_deep_26 : decode cX8_deep 26 = .ok (.i2l, 1) := by decide +kernel
theorem dX8_deep_27 : decode cX8_deep 27 = .ok (.lconst 0, 1) := by decide +kernel
theorem dX8_deep_28 : decode cX8_deep 28 = .ok (.lconst 1, 1) := by decide +kernel
theorem dX8_deep_29 : decode cX8_deep 29 = .ok (.invokestatic 68, 3) := by decide +kernel
theorem dX8_deep_32 : decode cX8_deep 32 = .ok (.ifCond .ne 7, 3) := by decide +kernel
theorem dX8_deep_35 : decode cX8_deep 35 = .ok (.ldc2_w 309, 3) := by decide +kernel
theorem dX8_deep_38 : decode cX8_deep 38 = .ok (.lreturn, 1) := by decide +kernel
theorem dX8_deep_39 : decode cX8_deep 39 = .ok (.lconst 1, 1) := by decide +kernel
theorem dX8_deep_40 : decode cX8_deep 40 = .ok (.lstore 4, 2) := by decide +kernel
theorem dX8_deep_42 : decode cX8_deep 42 = .ok (.iconst 2, 1) := by decide +kernel
theorem dX8_deep_43 : decode cX8_deep 43 = .ok (.istore 6, 2) := by decide +kernel
theorem dX8_deep_45 : decode cX8_deep 45 = .ok (.iload 6, 2) := by decide +kernel
theorem dX8_deep_47 : decode cX8_deep 47 = .ok (.bipush 20, 2) := by decide +kernel
theorem dX8_deep_49 : decode cX8_deep 49 = .ok (.if_icmp .gt 26, 3) := by decide +kernel
theorem dX8_deep_52 : decode cX8_deep 52 = .ok (.lload 4, 2) := by decide +kernel
theorem dX8_deep_54 : decode cX8_deep 54 = .ok (.lload 4, 2) := by decide +kernel
theorem dX8_deep_56 : decode cX8_deep 56 = .ok (.iload 6, 2) := by decide +kernel
theorem dX8_deep_58 : decode cX8_deep 58 = .ok (.i2l, 1) := by decide +kernel
theorem dX8_deep_59 : decode cX8_deep 59 = .ok (.invokestatic 311, 3) := by decide +kernel
theorem dX8_deep_62 : decode cX8_deep 62 = .ok (.ldiv, 1) := by decide +kernel
theorem dX8_deep_63 : decode cX8_deep 63 = .ok (.iload 6, 2) := by decide +kernel
theorem dX8_deep_65 : decode cX8_deep 65 = .ok (.i2l, 1) := by decide +kernel
theorem dX8_deep_66 : decode cX8_deep 66 = .ok (.lmul, 1) := by decide +kernel
theorem dX8_deep_67 : decode cX8_deep 67 = .ok (.lstore 4, 2) := by decide +kernel
theorem dX8_deep_69 : decode cX8_deep 69 = .ok (.iinc 6 1, 3) := by decide +kernel
theorem dX8_deep_72 : decode cX8_deep 72 = .ok (.goto (-27), 3) := by decide +kernel
theorem dX8_deep_75 : decode cX8_deep 75 = .ok (.lconst 0, 1) := by decide +kernel
theorem dX8_deep_76 : decode cX8_deep 76 = .ok (.lstore 6, 2) := by decide +kernel
theorem dX8_deep_78 : decode cX8_deep 78 = .ok (.iconst 0, 1) := by decide +kernel
theorem dX8_deep_79 : decode cX8_deep 79 = .ok (.istore 8, 2) := by decide +kernel
theorem dX8_deep_81 : decode cX8_deep 81 = .ok (.iload 8, 2) := by decide +kernel
theorem dX8_deep_83 : decode cX8_deep 83 = .ok (.iload_n 1, 1) := by decide +kernel
theorem dX8_deep_84 : decode cX8_deep 84 = .ok (.if_icmp .ge 50, 3) := by decide +kernel
theorem dX8_deep_87 : decode cX8_deep 87 = .ok (.iload 8, 2) := by decide +kernel
theorem dX8_deep_89 : decode cX8_deep 89 = .ok (.iload_n 2, 1) := by decide +kernel
theorem dX8_deep_90 : decode cX8_deep 90 = .ok (.if_icmp .ge 10, 3) := by decide +kernel
theorem dX8_deep_93 : decode cX8_deep 93 = .ok (.iload_n 2, 1) := by decide +kernel
theorem dX8_deep_94 : decode cX8_deep 94 = .ok (.iload 8, 2) := by decide +kernel
theorem dX8_deep_96 : decode cX8_deep 96 = .ok (.isub, 1) := by decide +kernel
theorem dX8_deep_97 : decode cX8_deep 97 = .ok (.goto 7, 3) := by decide +kernel
theorem dX8_deep_100 : decode cX8_deep 100 = .ok (.iload 8, 2) := by decide +kernel
theorem dX8_deep_102 : decode cX8_deep 102 = .ok (.iload_n 2, 1) := by decide +kernel
theorem dX8_deep_103 : decode cX8_deep 103 = .ok (.isub, 1) := by decide +kernel
theorem dX8_deep_104 : decode cX8_deep 104 = .ok (.istore 9, 2) := by decide +kernel
theorem dX8_deep_106 : decode cX8_deep 106 = .ok (.lload 6, 2) := by decide +kernel
theorem dX8_deep_108 : decode cX8_deep 108 = .ok (.iload 9, 2) := by decide +kernel
theorem dX8_deep_110 : decode cX8_deep 110 = .ok (.ifCond .ne 7, 3) := by decide +kernel
theorem dX8_deep_113 : decode cX8_deep 113 = .ok (.lconst 0, 1) := by decide +kernel
theorem dX8_deep_114 : decode cX8_deep 114 = .ok (.goto 11, 3) := by decide +kernel
theorem dX8_deep_117 : decode cX8_deep 117 = .ok (.lload 4, 2) := by decide +kernel
theorem dX8_deep_119 : decode cX8_deep 119 = .ok (.iload 9, 2) := by decide +kernel
theorem dX8_deep_121 : decode cX8_deep 121 = .ok (.iconst 1, 1) := by decide +kernel
theorem dX8_deep_122 : decode cX8_deep 122 = .ok (.iadd, 1) := by decide +kernel
theorem dX8_deep_123 : decode cX8_deep 123 = .ok (.i2l, 1) := by decide +kernel
theorem dX8_deep_124 : decode cX8_deep 124 = .ok (.ldiv, 1) := by decide +kernel
theorem dX8_deep_125 : decode cX8_deep 125 = .ok (.ladd, 1) := by decide +kernel
theorem dX8_deep_126 : decode cX8_deep 126 = .ok (.lstore 6, 2) := by decide +kernel
theorem dX8_deep_128 : decode cX8_deep 128 = .ok (.iinc 8 1, 3) := by decide +kernel
theorem dX8_deep_131 : decode cX8_deep 131 = .ok (.goto (-50), 3) := by decide +kernel
theorem dX8_deep_134 : decode cX8_deep 134 = .ok (.lload 6, 2) := by decide +kernel
theorem dX8_deep_136 : decode cX8_deep 136 = .ok (.lload 4, 2) := by decide +kernel
theorem dX8_deep_138 : decode cX8_deep 138 = .ok (.invokestatic 311, 3) := by decide +kernel
theorem dX8_deep_141 : decode cX8_deep 141 = .ok (.lstore 8, 2) := by decide +kernel
theorem dX8_deep_143 : decode cX8_deep 143 = .ok (.iload_n 3, 1) := by decide +kernel
theorem dX8_deep_144 : decode cX8_deep 144 = .ok (.ifCond .ne 11, 3) := by decide +kernel
theorem dX8_deep_147 : decode cX8_deep 147 = .ok (.lload 6, 2) := by decide +kernel
theorem dX8_deep_149 : decode cX8_deep 149 = .ok (.lload 8, 2) := by decide +kernel
theorem dX8_deep_151 : decode cX8_deep 151 = .ok (.ldiv, 1) := by decide +kernel
theorem dX8_deep_152 : decode cX8_deep 152 = .ok (.goto 8, 3) := by decide +kernel
theorem dX8_deep_155 : decode cX8_deep 155 = .ok (.lload 4, 2) := by decide +kernel
theorem dX8_deep_157 : decode cX8_deep 157 = .ok (.lload 8, 2) := by decide +kernel
theorem dX8_deep_159 : decode cX8_deep 159 = .ok (.ldiv, 1) := by decide +kernel
theorem dX8_deep_160 : decode cX8_deep 160 = .ok (.lreturn, 1) := by decide +kernel
theorem dX8_actBy_0 : decode cX8_actBy 0 = .ok (.iload_n 0, 1) := by decide +kernel
theorem dX8_actBy_1 : decode cX8_actBy 1 = .ok (.iconst 3, 1) := by decide +kernel
theorem dX8_actBy_2 : decode cX8_actBy 2 = .ok (.if_icmp .ge 7, 3) := by decide +kernel
theorem dX8_actBy_5 : decode cX8_actBy 5 = .ok (.iconst 0, 1) := by decide +kernel
theorem dX8_actBy_6 : decode cX8_actBy 6 = .ok (.goto 56, 3) := by decide +kernel
theorem dX8_actBy_9 : decode cX8_actBy 9 = .ok (.iload_n 0, 1) := by decide +kernel
theorem dX8_actBy_10 : decode cX8_actBy 10 = .ok (.iconst 5, 1) := by decide +kernel
theorem dX8_actBy_11 : decode cX8_actBy 11 = .ok (.if_icmp .ge 7, 3) := by decide +kernel
theorem dX8_actBy_14 : decode cX8_actBy 14 = .ok (.iconst 1, 1) := by decide +kernel
theorem dX8_actBy_15 : decode cX8_actBy 15 = .ok (.goto 47, 3) := by decide +kernel
theorem dX8_actBy_18 : decode cX8_actBy 18 = .ok (.iload_n 0, 1) := by decide +kernel
theorem dX8_actBy_19 : decode cX8_actBy 19 = .ok (.iconst 5, 1) := by decide +kernel
theorem dX8_actBy_20 : decode cX8_actBy 20 = .ok (.if_icmp .ne 7, 3) := by decide +kernel
theorem dX8_actBy_23 : decode cX8_actBy 23 = .ok (.iconst 2, 1) := by decide +kernel
theorem dX8_actBy_24 : decode cX8_actBy 24 = .ok (.goto 38, 3) := by decide +kernel
theorem dX8_actBy_27 : decode cX8_actBy 27 = .ok (.iload_n 0, 1) := by decide +kernel
theorem dX8_actBy_28 : decode cX8_actBy 28 = .ok (.bipush 6, 2) := by decide +kernel
theorem dX8_actBy_30 : decode cX8_actBy 30 = .ok (.if_icmp .ne 20, 3) := by decide +kernel
theorem dX8_actBy_33 : decode cX8_actBy 33 = .ok (.iload_n 1, 1) := by decide +kernel
theorem dX8_actBy_34 : decode cX8_actBy 34 = .ok (.bipush 16, 2) := by decide +kernel
theorem dX8_actBy_36 : decode cX8_actBy 36 = .ok (.idiv, 1) := by decide +kernel
theorem dX8_actBy_37 : decode cX8_actBy 37 = .ok (.iconst 2, 1) := by decide +kernel
theorem dX8_actBy_38 : decode cX8_actBy 38 = .ok (.irem, 1) := by decide +kernel
theorem dX8_actBy_39 : decode cX8_actBy 39 = .ok (.ifCond .ne 7, 3) := by decide +kernel
theorem dX8_actBy_42 : decode cX8_actBy 42 = .ok (.iconst 3, 1) := by decide +kernel
theorem dX8_actBy_43 : decode cX8_actBy 43 = .ok (.goto 19, 3) := by decide +kernel
theorem dX8_actBy_46 : decode cX8_actBy 46 = .ok (.iconst 5, 1) := by decide +kernel
theorem dX8_actBy_47 : decode cX8_actBy 47 = .ok (.goto 15, 3) := by decide +kernel
theorem dX8_actBy_50 : decode cX8_actBy 50 = .ok (.iload_n 1, 1) := by decide +kernel
theorem dX8_actBy_51 : decode cX8_actBy 51 = .ok (.iconst 4, 1) := by decide +kernel
theorem dX8_actBy_52 : decode cX8_actBy 52 = .ok (.irem, 1) := by decide +kernel
theorem dX8_actBy_53 : decode cX8_actBy 53 = .ok (.ifCond .ne 8, 3) := by decide +kernel
theorem dX8_actBy_56 : decode cX8_actBy 56 = .ok (.bipush 7, 2) := by decide +kernel
theorem dX8_actBy_58 : decode cX8_actBy 58 = .ok (.goto 4, 3) := by decide +kernel
theorem dX8_actBy_61 : decode cX8_actBy 61 = .ok (.iconst 4, 1) := by decide +kernel
theorem dX8_actBy_62 : decode cX8_actBy 62 = .ok (.ireturn, 1) := by decide +kernel
theorem dX8_drawn_0 : decode cX8_drawn 0 = .ok (.iload_n 1, 1) := by decide +kernel
theorem dX8_drawn_1 : decode cX8_drawn 1 = .ok (.iload_n 2, 1) := by decide +kernel
theorem dX8_drawn_2 : decode cX8_drawn 2 = .ok (.invokestatic 315, 3) := by decide +kernel
theorem dX8_drawn_5 : decode cX8_drawn 5 = .ok (.istore_n 3, 1) := by decide +kernel
theorem dX8_drawn_6 : decode cX8_drawn 6 = .ok (.iload_n 1, 1) := by decide +kernel
theorem dX8_drawn_7 : decode cX8_drawn 7 = .ok (.iconst 5, 1) := by decide +kernel
theorem dX8_drawn_8 : decode cX8_drawn 8 = .ok (.if_icmp .ge 12, 3) := by decide +kernel
theorem dX8_drawn_11 : decode cX8_drawn 11 = .ok (.iload_n 2, 1) := by decide +kernel
theorem dX8_drawn_12 : decode cX8_drawn 12 = .ok (.bipush 50, 2) := by decide +kernel
theorem dX8_drawn_14 : decode cX8_drawn 14 = .ok (.idiv, 1) := by decide +kernel
theorem dX8_drawn_15 : decode cX8_drawn 15 = .ok (.iconst 4, 1) := by decide +kernel
theorem dX8_drawn_16 : decode cX8_drawn 16 = .ok (.irem, 1) := by decide +kernel
theorem dX8_drawn_17 : decode cX8_drawn 17 = .ok (.goto 20, 3) := by decide +kernel
theorem dX8_drawn_20 : decode cX8_drawn 20 = .ok (.iload_n 1, 1) := by decide +kernel
theorem dX8_drawn_21 : decode cX8_drawn 21 = .ok (.bipush 7, 2) := by decide +kernel
theorem dX8_drawn_23 : decode cX8_drawn 23 = .ok (.if_icmp .ne 11, 3) := by decide +kernel
theorem dX8_drawn_26 : decode cX8_drawn 26 = .ok (.iload_n 2, 1) := by decide +kernel
theorem dX8_drawn_27 : decode cX8_drawn 27 = .ok (.iconst 4, 1) := by decide +kernel
theorem dX8_drawn_28 : decode cX8_drawn 28 = .ok (.idiv, 1) := by decide +kernel
theorem dX8_drawn_29 : decode cX8_drawn 29 = .ok (.iconst 4, 1) := by decide +kernel
theorem dX8_drawn_30 : decode cX8_drawn 30 = .ok (.irem, 1) := by decide +kernel
theorem dX8_drawn_31 : decode cX8_drawn 31 = .ok (.goto 6, 3) := by decide +kernel
theorem dX8_drawn_34 : decode cX8_drawn 34 = .ok (.iload_n 2, 1) := by decide +kernel
theorem dX8_drawn_35 : decode cX8_drawn 35 = .ok (.iconst 4, 1) := by decide +kernel
theorem dX8_drawn_36 : decode cX8_drawn 36 = .ok (.irem, 1) := by decide +kernel
theorem dX8_drawn_37 : decode cX8_drawn 37 = .ok (.istore 4, 2) := by decide +kernel
theorem dX8_drawn_39 : decode cX8_drawn 39 = .ok (.iload_n 1, 1) := by decide +kernel
theorem dX8_drawn_40 : decode cX8_drawn 40 = .ok (.iconst 5, 1) := by decide +kernel
theorem dX8_drawn_41 : decode cX8_drawn 41 = .ok (.if_icmp .ge 10, 3) := by decide +kernel
theorem dX8_drawn_44 : decode cX8_drawn 44 = .ok (.iload_n 2, 1) := by decide +kernel
theorem dX8_drawn_45 : decode cX8_drawn 45 = .ok (.bipush 50, 2) := by decide +kernel
theorem dX8_drawn_47 : decode cX8_drawn 47 = .ok (.irem, 1) := by decide +kernel
theorem dX8_drawn_48 : decode cX8_drawn 48 = .ok (.goto 9, 3) := by decide +kernel
theorem dX8_drawn_51 : decode cX8_drawn 51 = .ok (.iload_n 2, 1) := by decide +kernel
theorem dX8_drawn_52 : decode cX8_drawn 52 = .ok (.iconst 4, 1) := by decide +kernel
theorem dX8_drawn_53 : decode cX8_drawn 53 = .ok (.idiv, 1) := by decide +kernel
theorem dX8_drawn_54 : decode cX8_drawn 54 = .ok (.bipush 50, 2) := by decide +kernel
theorem dX8_drawn_56 : decode cX8_drawn 56 = .ok (.irem, 1) := by decide +kernel
theorem dX8_drawn_57 : decode cX8_drawn 57 = .ok (.istore 5, 2) := by decide +kernel
theorem dX8_drawn_59 : decode cX8_drawn 59 = .ok (.iload_n 1, 1) := by decide +kernel
theorem dX8_drawn_60 : decode cX8_drawn 60 = .ok (.iconst 5, 1) := by decide +kernel
theorem dX8_drawn_61 : decode cX8_drawn 61 = .ok (.if_icmp .ne 13, 3) := by decide +kernel
theorem dX8_drawn_64 : decode cX8_drawn 64 = .ok (.iload_n 2, 1) := by decide +kernel
theorem dX8_drawn_65 : decode cX8_drawn 65 = .ok (.sipush 200, 3) := by decide +kernel
theorem dX8_drawn_68 : decode cX8_drawn 68 = .ok (.idiv, 1) := by decide +kernel
theorem dX8_drawn_69 : decode cX8_drawn 69 = .ok (.iconst 4, 1) := by decide +kernel
theorem dX8_drawn_70 : decode cX8_drawn 70 = .ok (.irem, 1) := by decide +kernel
theorem dX8_drawn_71 : decode cX8_drawn 71 = .ok (.goto 23, 3) := by decide +kernel
theorem dX8_drawn_74 : decode cX8_drawn 74 = .ok (.iload_n 1, 1) := by decide +kernel
theorem dX8_drawn_75 : decode cX8_drawn 75 = .ok (.bipush 6, 2) := by decide +kernel
theorem dX8_drawn_77 : decode cX8_drawn 77 = .ok (.if_icmp .ne 11, 3) := by decide +kernel
theorem dX8_drawn_80 : decode cX8_drawn 80 = .ok (.iload_n 2, 1) := by decide +kernel
theorem dX8_drawn_81 : decode cX8_drawn 81 = .ok (.iconst 4, 1) := by decide +kernel
theorem dX8_drawn_82 : decode cX8_drawn 82 = .ok (.idiv, 1) := by decide +kernel
theorem dX8_drawn_83 : decode cX8_drawn 83 = .ok (.iconst 4, 1) := by decide +kernel
theorem dX8_drawn_84 : decode cX8_drawn 84 = .ok (.irem, 1) := by decide +kernel
theorem dX8_drawn_85 : decode cX8_drawn 85 = .ok (.goto 9, 3) := by decide +kernel
theorem dX8_drawn_88 : decode cX8_drawn 88 = .ok (.iload_n 2, 1) := by decide +kernel
theorem dX8_drawn_89 : decode cX8_drawn 89 = .ok (.bipush 16, 2) := by decide +kernel
theorem dX8_drawn_91 : decode cX8_drawn 91 = .ok (.idiv, 1) := by decide +kernel
theorem dX8_drawn_92 : decode cX8_drawn 92 = .ok (.iconst 4, 1) := by decide +kernel
theorem dX8_drawn_93 : decode cX8_drawn 93 = .ok (.irem, 1) := by decide +kernel
theorem dX8_drawn_94 : decode cX8_drawn 94 = .ok (.istore 6, 2) := by decide +kernel
theorem dX8_drawn_96 : decode cX8_drawn 96 = .ok (.aload_n 0, 1) := by decide +kernel
theorem dX8_drawn_97 : decode cX8_drawn 97 = .ok (.iload_n 3, 1) := by decide +kernel
theorem dX8_drawn_98 : decode cX8_drawn 98 = .ok (.iload 4, 2) := by decide +kernel
theorem dX8_drawn_100 : decode cX8_drawn 100 = .ok (.iload 5, 2) := by decide +kernel
theorem dX8_drawn_102 : decode cX8_drawn 102 = .ok (.iload 6, 2) := by decide +kernel
theorem dX8_drawn_104 : decode cX8_drawn 104 = .ok (.invokevirtual 234, 3) := by decide +kernel
theorem dX8_drawn_107 : decode cX8_drawn 107 = .ok (.ifCond .ne 14, 3) := by decide +kernel
theorem dX8_drawn_110 : decode cX8_drawn 110 = .ok (.aload_n 0, 1) := by decide +kernel
theorem dX8_drawn_111 : decode cX8_drawn 111 = .ok (.iload_n 3, 1) := by decide +kernel
theorem dX8_drawn_112 : decode cX8_drawn 112 = .ok (.iload 4, 2) := by decide +kernel
theorem dX8_drawn_114 : decode cX8_drawn 114 = .ok (.iload 5, 2) := by decide +kernel
theorem dX8_drawn_116 : decode cX8_drawn 116 = .ok (.iload 6, 2) := by decide +kernel
theorem dX8_drawn_118 : decode cX8_drawn 118 = .ok (.invokevirtual 210, 3) := by decide +kernel
theorem dX8_drawn_121 : decode cX8_drawn 121 = .ok (.return_, 1) := by decide +kernel
theorem dX8_run_0 : decode cX8_run 0 = .ok (.iload_n 1, 1) := by decide +kernel
theorem dX8_run_1 : decode cX8_run 1 = .ok (.i2l, 1) := by decide +kernel
theorem dX8_run_2 : decode cX8_run 2 = .ok (.lconst 0, 1) := by decide +kernel
theorem dX8_run_3 : decode cX8_run 3 = .ok (.ldc2_w 86, 3) := by decide +kernel
theorem dX8_run_6 : decode cX8_run 6 = .ok (.invokestatic 68, 3) := by decide +kernel
theorem dX8_run_9 : decode cX8_run 9 = .ok (.ifCond .eq 27, 3) := by decide +kernel
theorem dX8_run_12 : decode cX8_run 12 = .ok (.iload_n 2, 1) := by decide +kernel
theorem dX8_run_13 : decode cX8_run 13 = .ok (.i2l, 1) := by decide +kernel
theorem dX8_run_14 : decode cX8_run 14 = .ok (.lconst 1, 1) := by decide +kernel
theorem dX8_run_15 : decode cX8_run 15 = .ok (.ldc2_w 318, 3) := by decide +kernel
theorem dX8_run_18 : decode cX8_run 18 = .ok (.invokestatic 68, 3) := by decide +kernel
theorem dX8_run_21 : decode cX8_run 21 = .ok (.ifCond .eq 15, 3) := by decide +kernel
theorem dX8_run_24 : decode cX8_run 24 = .ok (.iload_n 3, 1) := by decide +kernel
theorem dX8_run_25 : decode cX8_run 25 = .ok (.i2l, 1) := by decide +kernel
theorem dX8_run_26 : decode cX8_run 26 = .ok (.lconst 0, 1) := by decide +kernel
theorem dX8_run_27 : decode cX8_run 27 = .ok (.ldc2_w 251, 3) := by decide +kernel
theorem dX8_run_30 : decode cX8_run 30 = .ok (.invokestatic 68, 3) := by decide +kernel
theorem dX8_run_33 : decode cX8_run 33 = .ok (.ifCond .ne 6, 3) := by decide +kernel
theorem dX8_run_36 : decode cX8_run 36 = .ok (.bipush (-2), 2) := by decide +kernel
theorem dX8_run_38 : decode cX8_run 38 = .ok (.ireturn, 1) := by decide +kernel
theorem dX8_run_39 : decode cX8_run 39 = .ok (.aload_n 0, 1) := by decide +kernel
theorem dX8_run_40 : decode cX8_run 40 = .ok (.invokevirtual 242, 3) := by decide +kernel
theorem dX8_run_43 : decode cX8_run 43 = .ok (.iload_n 1, 1) := by decide +kernel
theorem dX8_run_44 : decode cX8_run 44 = .ok (.istore 4, 2) := by decide +kernel
theorem dX8_run_46 : decode cX8_run 46 = .ok (.iconst 0, 1) := by decide +kernel
theorem dX8_run_47 : decode cX8_run 47 = .ok (.istore 5, 2) := by decide +kernel
theorem dX8_run_49 : decode cX8_run 49 = .ok (.iload 5, 2) := by decide +kernel
theorem dX8_run_51 : decode cX8_run 51 = .ok (.iload_n 2, 1) := by decide +kernel
theorem dX8_run_52 : decode cX8_run 52 = .ok (.if_icmp .ge 41, 3) := by decide +kernel
theorem dX8_run_55 : decode cX8_run 55 = .ok (.ldc2_w 320, 3) := by decide +kernel
theorem dX8_run_58 : decode cX8_run 58 = .ok (.iload 4, 2) := by decide +kernel
theorem dX8_run_60 : decode cX8_run 60 = .ok (.i2l, 1) := by decide +kernel
theorem dX8_run_61 : decode cX8_run 61 = .ok (.lmul, 1) := by decide +kernel
theorem dX8_run_62 : decode cX8_run 62 = .ok (.ldc2_w 322, 3) := by decide +kernel
theorem dX8_run_65 : decode cX8_run 65 = .ok (.ladd, 1) := by decide +kernel
theorem dX8_run_66 : decode cX8_run 66 = .ok (.ldc2_w 324, 3) := by decide +kernel
theorem dX8_run_69 : decode cX8_run 69 = .ok (.lrem, 1) := by decide +kernel
theorem dX8_run_70 : decode cX8_run 70 = .ok (.l2i, 1) := by decide +kernel
theorem dX8_run_71 : decode cX8_run 71 = .ok (.istore 4, 2) := by decide +kernel
theorem dX8_run_73 : decode cX8_run 73 = .ok (.aload_n 0, 1) := by decide +kernel
theorem dX8_run_74 : decode cX8_run 74 = .ok (.iload 4, 2) := by decide +kernel
theorem dX8_run_76 : decode cX8_run 76 = .ok (.bipush 8, 2) := by decide +kernel
theorem dX8_run_78 : decode cX8_run 78 = .ok (.irem, 1) := by decide +kernel
theorem dX8_run_79 : decode cX8_run 79 = .ok (.iload 4, 2) := by decide +kernel
theorem dX8_run_81 : decode cX8_run 81 = .ok (.bipush 8, 2) := by decide +kernel
theorem dX8_run_83 : decode cX8_run 83 = .ok (.idiv, 1) := by decide +kernel
theorem dX8_run_84 : decode cX8_run 84 = .ok (.invokevirtual 326, 3) := by decide +kernel
theorem dX8_run_87 : decode cX8_run 87 = .ok (.iinc 5 1, 3) := by decide +kernel
theorem dX8_run_90 : decode cX8_run 90 = .ok (.goto (-41), 3) := by decide +kernel
theorem dX8_run_93 : decode cX8_run 93 = .ok (.aload_n 0, 1) := by decide +kernel
theorem dX8_run_94 : decode cX8_run 94 = .ok (.iconst 0, 1) := by decide +kernel
theorem dX8_run_95 : decode cX8_run 95 = .ok (.invokevirtual 99, 3) := by decide +kernel
theorem dX8_run_98 : decode cX8_run 98 = .ok (.aload_n 0, 1) := by decide +kernel
theorem dX8_run_99 : decode cX8_run 99 = .ok (.iconst 1, 1) := by decide +kernel
theorem dX8_run_100 : decode cX8_run 100 = .ok (.invokevirtual 99, 3) := by decide +kernel
theorem dX8_run_103 : decode cX8_run 103 = .ok (.iadd, 1) := by decide +kernel
theorem dX8_run_104 : decode cX8_run 104 = .ok (.aload_n 0, 1) := by decide +kernel
theorem dX8_run_105 : decode cX8_run 105 = .ok (.iconst 2, 1) := by decide +kernel
theorem dX8_run_106 : decode cX8_run 106 = .ok (.invokevirtual 99, 3) := by decide +kernel
theorem dX8_run_109 : decode cX8_run 109 = .ok (.iadd, 1) := by decide +kernel
theorem dX8_run_110 : decode cX8_run 110 = .ok (.aload_n 0, 1) := by decide +kernel
theorem dX8_run_111 : decode cX8_run 111 = .ok (.iconst 3, 1) := by decide +kernel
theorem dX8_run_112 : decode cX8_run 112 = .ok (.invokevirtual 99, 3) := by decide +kernel
theorem dX8_run_115 : decode cX8_run 115 = .ok (.iadd, 1) := by decide +kernel
theorem dX8_run_116 : decode cX8_run 116 = .ok (.istore 5, 2) := by decide +kernel
theorem dX8_run_118 : decode cX8_run 118 = .ok (.aload_n 0, 1) := by decide +kernel
theorem dX8_run_119 : decode cX8_run 119 = .ok (.iload_n 3, 1) := by decide +kernel
theorem dX8_run_120 : decode cX8_run 120 = .ok (.ifCond .ne 14, 3) := by decide +kernel
theorem dX8_run_123 : decode cX8_run 123 = .ok (.aload_n 0, 1) := by decide +kernel
theorem dX8_run_124 : decode cX8_run 124 = .ok (.iconst 0, 1) := by decide +kernel
theorem dX8_run_125 : decode cX8_run 125 = .ok (.iconst 0, 1) := by decide +kernel
theorem dX8_run_126 : decode cX8_run 126 = .ok (.bipush 49, 2) := by decide +kernel
theorem dX8_run_128 : decode cX8_run 128 = .ok (.invokevirtual 260, 3) := by decide +kernel
theorem dX8_run_131 : decode cX8_run 131 = .ok (.goto 17, 3) := by decide +kernel
theorem dX8_run_134 : decode cX8_run 134 = .ok (.iload_n 3, 1) := by decide +kernel
theorem dX8_run_135 : decode cX8_run 135 = .ok (.iconst 1, 1) := by decide +kernel
theorem dX8_run_136 : decode cX8_run 136 = .ok (.if_icmp .ne 8, 3) := by decide +kernel
theorem dX8_run_139 : decode cX8_run 139 = .ok (.iload 5, 2) := by decide +kernel
theorem dX8_run_141 : decode cX8_run 141 = .ok (.goto 7, 3) := by decide +kernel
theorem dX8_run_144 : decode cX8_run 144 = .ok (.aload_n 0, 1) := by decide +kernel
theorem dX8_run_145 : decode cX8_run 145 = .ok (.getfield 78, 3) := by decide +kernel
theorem dX8_run_148 : decode cX8_run 148 = .ok (.invokevirtual 257, 3) := by decide +kernel
theorem dX8_run_151 : decode cX8_run 151 = .ok (.ireturn, 1) := by decide +kernel
theorem dX8_pass_0 : decode cX8_pass 0 = .ok (.aload_n 0, 1) := by decide +kernel
theorem dX8_pass_1 : decode cX8_pass 1 = .ok (.getfield 330, 3) := by decide +kernel
theorem dX8_pass_4 : decode cX8_pass 4 = .ok (.ifCond .eq 7, 3) := by decide +kernel
theorem dX8_pass_7 : decode cX8_pass 7 = .ok (.iload_n 1, 1) := by decide +kernel
theorem dX8_pass_8 : decode cX8_pass 8 = .ok (.goto 12, 3) := by decide +kernel
theorem dX8_pass_11 : decode cX8_pass 11 = .ok (.aload_n 0, 1) := by decide +kernel
theorem dX8_pass_12 : decode cX8_pass 12 = .ok (.getfield 59, 3) := by decide +kernel
theorem dX8_pass_15 : decode cX8_pass 15 = .ok (.aload_n 0, 1) := by decide +kernel
theorem dX8_pass_16 : decode cX8_pass 16 = .ok (.getfield 333, 3) := by decide +kernel
theorem dX8_pass_19 : decode cX8_pass 19 = .ok (.iaload, 1) := by decide +kernel
theorem dX8_pass_20 : decode cX8_pass 20 = .ok (.istore_n 2, 1) := by decide +kernel
theorem dX8_pass_21 : decode cX8_pass 21 = .ok (.aload_n 0, 1) := by decide +kernel
theorem dX8_pass_22 : decode cX8_pass 22 = .ok (.getfield 59, 3) := by decide +kernel
theorem dX8_pass_25 : decode cX8_pass 25 = .ok (.aload_n 0, 1) := by decide +kernel
theorem dX8_pass_26 : decode cX8_pass 26 = .ok (.getfield 333, 3) := by decide +kernel
theorem dX8_pass_29 : decode cX8_pass 29 = .ok (.iload_n 2, 1) := by decide +kernel
theorem dX8_pass_30 : decode cX8_pass 30 = .ok (.iastore, 1) := by decide +kernel
theorem dX8_pass_31 : decode cX8_pass 31 = .ok (.aload_n 0, 1) := by decide +kernel
theorem dX8_pass_32 : decode cX8_pass 32 = .ok (.dup, 1) := by decide +kernel
theorem dX8_pass_33 : decode cX8_pass 33 = .ok (.getfield 333, 3) := by decide +kernel
theorem dX8_pass_36 : decode cX8_pass 36 = .ok (.iconst 1, 1) := by decide +kernel
theorem dX8_pass_37 : decode cX8_pass 37 = .ok (.iadd, 1) := by decide +kernel
theorem dX8_pass_38 : decode cX8_pass 38 = .ok (.putfield 333, 3) := by decide +kernel
theorem dX8_pass_41 : decode cX8_pass 41 = .ok (.iload_n 2, 1) := by decide +kernel
theorem dX8_pass_42 : decode cX8_pass 42 = .ok (.ireturn, 1) := by decide +kernel
theorem dX8_passRow_0 : decode cX8_passRow 0 = .ok (.iconst 0, 1) := by decide +kernel
theorem dX8_passRow_1 : decode cX8_passRow 1 = .ok (.istore_n 3, 1) := by decide +kernel
theorem dX8_passRow_2 : decode cX8_passRow 2 = .ok (.iload_n 3, 1) := by decide +kernel
theorem dX8_passRow_3 : decode cX8_passRow 3 = .ok (.iload_n 2, 1) := by decide +kernel
theorem dX8_passRow_4 : decode cX8_passRow 4 = .ok (.if_icmp .ge 19, 3) := by decide +kernel
theorem dX8_passRow_7 : decode cX8_passRow 7 = .ok (.aload_n 1, 1) := by decide +kernel
theorem dX8_passRow_8 : decode cX8_passRow 8 = .ok (.iload_n 3, 1) := by decide +kernel
theorem dX8_passRow_9 : decode cX8_passRow 9 = .ok (.aload_n 0, 1) := by decide +kernel
theorem dX8_passRow_10 : decode cX8_passRow 10 = .ok (.aload_n 1, 1) := by decide +kernel
theorem dX8_passRow_11 : decode cX8_passRow 11 = .ok (.iload_n 3, 1) := by decide +kernel
theorem dX8_passRow_12 : decode cX8_passRow 12 = .ok (.iaload, 1) := by decide +kernel
theorem dX8_passRow_13 : decode cX8_passRow 13 = .ok (.invokevirtual 336, 3) := by decide +kernel
theorem dX8_passRow_16 : decode cX8_passRow 16 = .ok (.iastore, 1) := by decide +kernel
theorem dX8_passRow_17 : decode cX8_passRow 17 = .ok (.iinc 3 1, 3) := by decide +kernel
theorem dX8_passRow_20 : decode cX8_passRow 20 = .ok (.goto (-18), 3) := by decide +kernel
theorem dX8_passRow_23 : decode cX8_passRow 23 = .ok (.return_, 1) := by decide +kernel
theorem dX8_passAll_0 : decode cX8_passAll 0 = .ok (.aload_n 0, 1) := by decide +kernel
theorem dX8_passAll_1 : decode cX8_passAll 1 = .ok (.aload_n 0, 1) := by decide +kernel
theorem dX8_passAll_2 : decode cX8_passAll 2 = .ok (.aload_n 0, 1) := by decide +kernel
theorem dX8_passAll_3 : decode cX8_passAll 3 = .ok (.getfield 78, 3) := by decide +kernel
theorem dX8_passAll_6 : decode cX8_passAll 6 = .ok (.invokevirtual 336, 3) := by decide +kernel
theorem dX8_passAll_9 : decode cX8_passAll 9 = .ok (.putfield 78, 3) := by decide +kernel
theorem dX8_passAll_12 : decode cX8_passAll 12 = .ok (.aload_n 0, 1) := by decide +kernel
theorem dX8_passAll_13 : decode cX8_passAll 13 = .ok (.aload_n 0, 1) := by decide +kernel
theorem dX8_passAll_14 : decode cX8_passAll 14 = .ok (.aload_n 0, 1) := by decide +kernel
theorem dX8_passAll_15 : decode cX8_passAll 15 = .ok (.getfield 293, 3) := by decide +kernel
theorem dX8_passAll_18 : decode cX8_passAll 18 = .ok (.invokevirtual 336, 3) := by decide +kernel
theorem dX8_passAll_21 : decode cX8_passAll 21 = .ok (.putfield 293, 3) := by decide +kernel
theorem dX8_passAll_24 : decode cX8_passAll 24 = .ok (.aload_n 0, 1) := by decide +kernel
theorem dX8_passAll_25 : decode cX8_passAll 25 = .ok (.aload_n 0, 1) := by decide +kernel
theorem dX8_passAll_26 : decode cX8_passAll 26 = .ok (.getfield 7, 3) := by decide +kernel
theorem dX8_passAll_29 : decode cX8_passAll 29 = .ok (.sipush 200, 3) := by decide +kernel
theorem dX8_passAll_32 : decode cX8_passAll 32 = .ok (.invokevirtual 339, 3) := by decide +kernel
theorem dX8_passAll_35 : decode cX8_passAll 35 = .ok (.aload_n 0, 1) := by decide +kernel
theorem dX8_passAll_36 : decode cX8_passAll 36 = .ok (.aload_n 0, 1) := by decide +kernel
theorem dX8_passAll_37 : decode cX8_passAll 37 = .ok (.getfield 13, 3) := by decide +kernel
theorem dX8_passAll_40 : decode cX8_passAll 40 = .ok (.bipush 8, 2) := by decide +kernel
theorem dX8_passAll_42 : decode cX8_passAll 42 = .ok (.invokevirtual 339, 3) := by decide +kernel
theorem dX8_passAll_45 : decode cX8_passAll 45 = .ok (.aload_n 0, 1) := by decide +kernel
theorem dX8_passAll_46 : decode cX8_passAll 46 = .ok (.aload_n 0, 1) := by decide +kernel
theorem dX8_passAll_47 : decode cX8_passAll 47 = .ok (.getfield 16, 3) := by decide +kernel
theorem dX8_passAll_50 : decode cX8_passAll 50 = .ok (.bipush 8, 2) := by decide +kernel
theorem dX8_passAll_52 : decode cX8_passAll 52 = .ok (.invokevirtual 339, 3) := by decide +kernel
theorem dX8_passAll_55 : decode cX8_passAll 55 = .ok (.return_, 1) := by decide +kernel
theorem dX8_image_0 : decode cX8_image 0 = .ok (.iload_n 1, 1) := by decide +kernel
theorem dX8_image_1 : decode cX8_image 1 = .ok (.i2l, 1) := by decide +kernel
theorem dX8_image_2 : decode cX8_image 2 = .ok (.lconst 0, 1) := by decide +kernel
theorem dX8_image_3 : decode cX8_image 3 = .ok (.lconst 1, 1) := by decide +kernel
theorem dX8_image_4 : decode cX8_image 4 = .ok (.invokestatic 68, 3) := by decide +kernel
theorem dX8_image_7 : decode cX8_image 7 = .ok (.ifCond .ne 6, 3) := by decide +kernel
theorem dX8_image_10 : decode cX8_image 10 = .ok (.bipush (-2), 2) := by decide +kernel
theorem dX8_image_12 : decode cX8_image 12 = .ok (.ireturn, 1) := by decide +kernel
theorem dX8_image_13 : decode cX8_image 13 = .ok (.aload_n 0, 1) := by decide +kernel
theorem dX8_image_14 : decode cX8_image 14 = .ok (.sipush 230, 3) := by decide +kernel
theorem dX8_image_17 : decode cX8_image 17 = .ok (.iload_n 1, 1) := by decide +kernel
theorem dX8_image_18 : decode cX8_image 18 = .ok (.imul, 1) := by decide +kernel
theorem dX8_image_19 : decode cX8_image 19 = .ok (.putfield 333, 3) := by decide +kernel
theorem dX8_image_22 : decode cX8_image 22 = .ok (.aload_n 0, 1) := by decide +kernel
theorem dX8_image_23 : decode cX8_image 23 = .ok (.iconst 1, 1) := by decide +kernel
theorem dX8_image_24 : decode cX8_image 24 = .ok (.putfield 330, 3) := by decide +kernel
theorem dX8_image_27 : decode cX8_image 27 = .ok (.aload_n 0, 1) := by decide +kernel
theorem dX8_image_28 : decode cX8_image 28 = .ok (.invokevirtual 343, 3) := by decide +kernel
theorem dX8_image_31 : decode cX8_image 31 = .ok (.aload_n 0, 1) := by decide +kernel
theorem dX8_image_32 : decode cX8_image 32 = .ok (.getfield 62, 3) := by decide +kernel
theorem dX8_image_35 : decode cX8_image 35 = .ok (.iload_n 1, 1) := by decide +kernel
theorem dX8_image_36 : decode cX8_image 36 = .ok (.iconst 1, 1) := by decide +kernel
theorem dX8_image_37 : decode cX8_image 37 = .ok (.bastore, 1) := by decide +kernel
theorem dX8_image_38 : decode cX8_image 38 = .ok (.iconst 1, 1) := by decide +kernel
theorem dX8_image_39 : decode cX8_image 39 = .ok (.ireturn, 1) := by decide +kernel
theorem dX8_restore_0 : decode cX8_restore 0 = .ok (.iload_n 1, 1) := by decide +kernel
theorem dX8_restore_1 : decode cX8_restore 1 = .ok (.i2l, 1) := by decide +kernel
theorem dX8_restore_2 : decode cX8_restore 2 = .ok (.lconst 0, 1) := by decide +kernel
theorem dX8_restore_3 : decode cX8_restore 3 = .ok (.lconst 1, 1) := by decide +kernel
theorem dX8_restore_4 : decode cX8_restore 4 = .ok (.invokestatic 68, 3) := by decide +kernel
theorem dX8_restore_7 : decode cX8_restore 7 = .ok (.ifCond .ne 6, 3) := by decide +kernel
theorem dX8_restore_10 : decode cX8_restore 10 = .ok (.bipush (-2), 2) := by decide +kernel
theorem dX8_restore_12 : decode cX8_restore 12 = .ok (.ireturn, 1) := by decide +kernel
theorem dX8_restore_13 : decode cX8_restore 13 = .ok (.aload_n 0, 1) := by decide +kernel
theorem dX8_restore_14 : decode cX8_restore 14 = .ok (.getfield 62, 3) := by decide +kernel
theorem dX8_restore_17 : decode cX8_restore 17 = .ok (.iload_n 1, 1) := by decide +kernel
theorem dX8_restore_18 : decode cX8_restore 18 = .ok (.baload, 1) := by decide +kernel
theorem dX8_restore_19 : decode cX8_restore 19 = .ok (.ifCond .ne 6, 3) := by decide +kernel
theorem dX8_restore_22 : decode cX8_restore 22 = .ok (.bipush (-3), 2) := by decide +kernel
theorem dX8_restore_24 : decode cX8_restore 24 = .ok (.ireturn, 1) := by decide +kernel
theorem dX8_restore_25 : decode cX8_restore 25 = .ok (.aload_n 0, 1) := by decide +kernel
theorem dX8_restore_26 : decode cX8_restore 26 = .ok (.sipush 230, 3) := by decide +kernel
theorem dX8_restore_29 : decode cX8_restore 29 = .ok (.iload_n 1, 1) := by decide +kernel
theorem dX8_restore_30 : decode cX8_restore 30 = .ok (.imul, 1) := by decide +kernel
theorem dX8_restore_31 : decode cX8_restore 31 = .ok (.putfield 333, 3) := by decide +kernel
theorem dX8_restore_34 : decode cX8_restore 34 = .ok (.aload_n 0, 1) := by decide +kernel
theorem dX8_restore_35 : decode cX8_restore 35 = .ok (.iconst 0, 1) := by decide +kernel
theorem dX8_restore_36 : decode cX8_restore 36 = .ok (.putfield 330, 3) := by decide +kernel
theorem dX8_restore_39 : decode cX8_restore 39 = .ok (.aload_n 0, 1) := by decide +kernel
theorem dX8_restore_40 : decode cX8_restore 40 = .ok (.invokevirtual 343, 3) := by decide +kernel
theorem dX8_restore_43 : decode cX8_restore 43 = .ok (.iconst 1, 1) := by decide +kernel
theorem dX8_restore_44 : decode cX8_restore 44 = .ok (.ireturn, 1) := by decide +kernel
theorem dX8_told_0 : decode cX8_told 0 = .ok (.iload_n 1, 1) := by decide +kernel
theorem dX8_told_1 : decode cX8_told 1 = .ok (.i2l, 1) := by decide +kernel
theorem dX8_told_2 : decode cX8_told 2 = .ok (.ldc2_w 346, 3) := by decide +kernel
theorem dX8_told_5 : decode cX8_told 5 = .ok (.ldc2_w 348, 3) := by decide +kernel
theorem dX8_told_8 : decode cX8_told 8 = .ok (.invokestatic 68, 3) := by decide +kernel
theorem dX8_told_11 : decode cX8_told 11 = .ok (.ifCond .eq 32, 3) := by decide +kernel
theorem dX8_told_14 : decode cX8_told 14 = .ok (.iload_n 1, 1) := by decide +kernel
theorem dX8_told_15 : decode cX8_told 15 = .ok (.bipush 100, 2) := by decide +kernel
theorem dX8_told_17 : decode cX8_told 17 = .ok (.irem, 1) := by decide +kernel
theorem dX8_told_18 : decode cX8_told 18 = .ok (.bipush 50, 2) := by decide +kernel
theorem dX8_told_20 : decode cX8_told 20 = .ok (.if_icmp .ge 23, 3) := by decide +kernel
theorem dX8_told_23 : decode cX8_told 23 = .ok (.aload_n 0, 1) := by decide +kernel
theorem dX8_told_24 : decode cX8_told 24 = .ok (.getfield 7, 3) := by decide +kernel
theorem dX8_told_27 : decode cX8_told 27 = .ok (.bipush 50, 2) := by decide +kernel
theorem dX8_told_29 : decode cX8_told 29 = .ok (.iload_n 1, 1) := by decide +kernel
theorem dX8_told_30 : decode cX8_told 30 = .ok (.bipush 100, 2) := by decide +kernel
theorem dX8_told_32 : decode cX8_told 32 = .ok (.idiv, 1) := by decide +kernel
theorem dX8_told_33 : decode cX8_told 33 = .ok (.iconst 1, 1) := by decide +kernel
theorem dX8_told_34 : decode cX8_told 34 = .ok (.isub, 1) := by decide +kernel
theorem dX8_told_35 : decode cX8_told 35 = .ok (.imul, 1) := by decide +kernel
theorem dX8_told_36 : decode cX8_told 36 = .ok (.iload_n 1, 1) := by decide +kernel
theorem dX8_told_37 : decode cX8_told 37 = .ok (.bipush 100, 2) := by decide +kernel
theorem dX8_told_39 : decode cX8_told 39 = .ok (.irem, 1) := by decide +kernel
theorem dX8_told_40 : decode cX8_told 40 = .ok (.iadd, 1) := by decide +kernel
theorem dX8_told_41 : decode cX8_told 41 = .ok (.iaload, 1) := by decide +kernel
theorem dX8_told_42 : decode cX8_told 42 = .ok (.ireturn, 1) := by decide +kernel
theorem dX8_told_43 : decode cX8_told 43 = .ok (.iload_n 1, 1) := by decide +kernel
theorem dX8_told_44 : decode cX8_told 44 = .ok (.i2l, 1) := by decide +kernel
theorem dX8_told_45 : decode cX8_told 45 = .ok (.ldc2_w 350, 3) := by decide +kernel
theorem dX8_told_48 : decode cX8_told 48 = .ok (.ldc2_w 352, 3) := by decide +kernel
theorem dX8_told_51 : decode cX8_told 51 = .ok (.invokestatic 68, 3) := by decide +kernel
theorem dX8_told_54 : decode cX8_told 54 = .ok (.ifCond .eq 12, 3) := by decide +kernel
theorem dX8_told_57 : decode cX8_told 57 = .ok (.aload_n 0, 1) := by decide +kernel
theorem dX8_told_58 : decode cX8_told 58 = .ok (.iload_n 1, 1) := by decide +kernel
theorem dX8_told_59 : decode cX8_told 59 = .ok (.bipush 10, 2) := by decide +kernel
theorem dX8_told_61 : decode cX8_told 61 = .ok (.isub, 1) := by decide +kernel
theorem dX8_told_62 : decode cX8_told 62 = .ok (.invokevirtual 99, 3) := by decide +kernel
theorem dX8_told_65 : decode cX8_told 65 = .ok (.ireturn, 1) := by decide +kernel
theorem dX8_told_66 : decode cX8_told 66 = .ok (.iload_n 1, 1) := by decide +kernel
theorem dX8_told_67 : decode cX8_told 67 = .ok (.i2l, 1) := by decide +kernel
theorem dX8_told_68 : decode cX8_told 68 = .ok (.ldc2_w 307, 3) := by decide +kernel
theorem dX8_told_71 : decode cX8_told 71 = .ok (.ldc2_w 354, 3) := by decide +kernel
theorem dX8_told_74 : decode cX8_told 74 = .ok (.invokestatic 68, 3) := by decide +kernel
theorem dX8_told_77 : decode cX8_told 77 = .ok (.ifCond .eq 15, 3) := by decide +kernel
theorem dX8_told_80 : decode cX8_told 80 = .ok (.aload_n 0, 1) := by decide +kernel
theorem dX8_told_81 : decode cX8_told 81 = .ok (.iload_n 1, 1) := by decide +kernel
theorem dX8_told_82 : decode cX8_told 82 = .ok (.bipush 20, 2) := by decide +kernel
theorem dX8_told_84 : decode cX8_told 84 = .ok (.isub, 1) := by decide +kernel
theorem dX8_told_85 : decode cX8_told 85 = .ok (.iconst 0, 1) := by decide +kernel
theorem dX8_told_86 : decode cX8_told 86 = .ok (.bipush 49, 2) := by decide +kernel
theorem dX8_told_88 : decode cX8_told 88 = .ok (.invokevirtual 260, 3) := by decide +kernel
theorem dX8_told_91 : decode cX8_told 91 = .ok (.ireturn, 1) := by decide +kernel
theorem dX8_told_92 : decode cX8_told 92 = .ok (.iload_n 1, 1) := by decide +kernel
theorem dX8_told_93 : decode cX8_told 93 = .ok (.ifCond .ne 10, 3) := by decide +kernel
theorem dX8_told_96 : decode cX8_told 96 = .ok (.aload_n 0, 1) := by decide +kernel
theorem dX8_told_97 : decode cX8_told 97 = .ok (.getfield 107, 3) := by decide +kernel
theorem dX8_told_100 : decode cX8_told 100 = .ok (.goto 29, 3) := by decide +kernel
theorem dX8_told_103 : decode cX8_told 103 = .ok (.iload_n 1, 1) := by decide +kernel
theorem dX8_told_104 : decode cX8_told 104 = .ok (.iconst 1, 1) := by decide +kernel
theorem dX8_told_105 : decode cX8_told 105 = .ok (.if_icmp .ne 10, 3) := by decide +kernel
theorem dX8_told_108 : decode cX8_told 108 = .ok (.aload_n 0, 1) := by decide +kernel
theorem dX8_told_109 : decode cX8_told 109 = .ok (.getfield 78, 3) := by decide +kernel
theorem dX8_told_112 : decode cX8_told 112 = .ok (.goto 17, 3) := by decide +kernel
theorem dX8_told_115 : decode cX8_told 115 = .ok (.iload_n 1, 1) := by decide +kernel
theorem dX8_told_116 : decode cX8_told 116 = .ok (.iconst 2, 1) := by decide +kernel
theorem dX8_told_117 : decode cX8_told 117 = .ok (.if_icmp .ne 10, 3) := by decide +kernel
theorem dX8_told_120 : decode cX8_told 120 = .ok (.aload_n 0, 1) := by decide +kernel
theorem dX8_told_121 : decode cX8_told 121 = .ok (.getfield 293, 3) := by decide +kernel
theorem dX8_told_124 : decode cX8_told 124 = .ok (.goto 5, 3) := by decide +kernel
theorem dX8_told_127 : decode cX8_told 127 = .ok (.bipush (-2), 2) := by decide +kernel
theorem dX8_told_129 : decode cX8_told 129 = .ok (.ireturn, 1) := by decide +kernel
end
section
theorem dL_law_0 : decode cL_law 0 = .ok (.new 7, 3) := by decide +kernel
theorem dL_law_3 : decode cL_law 3 = .ok (.dup, 1) := by decide +kernel
theorem dL_law_4 : decode cL_law 4 = .ok (.invokespecial 9, 3) := by decide +kernel
theorem dL_law_7 : decode cL_law 7 = .ok (.astore_n 1, 1) := by decide +kernel
theorem dL_law_8 : decode cL_law 8 = .ok (.new 10, 3) := by decide +kernel
theorem dL_law_11 : decode cL_law 11 = .ok (.dup, 1) := by decide +kernel
theorem dL_law_12 : decode cL_law 12 = .ok (.invokespecial 12, 3) := by decide +kernel
theorem dL_law_15 : decode cL_law 15 = .ok (.astore_n 2, 1) := by decide +kernel
theorem dL_law_16 : decode cL_law 16 = .ok (.iconst 0, 1) := by decide +kernel
theorem dL_law_17 : decode cL_law 17 = .ok (.istore_n 3, 1) := by decide +kernel
theorem dL_law_18 : decode cL_law 18 = .ok (.iload_n 3, 1) := by decide +kernel
theorem dL_law_19 : decode cL_law 19 = .ok (.aload_n 0, 1) := by decide +kernel
theorem dL_law_20 : decode cL_law 20 = .ok (.arraylength, 1) := by decide +kernel
theorem dL_law_21 : decode cL_law 21 = .ok (.iconst 4, 1) := by decide +kernel
theorem dL_law_22 : decode cL_law 22 = .ok (.isub, 1) := by decide +kernel
theorem dL_law_23 : decode cL_law 23 = .ok (.if_icmp .gt 818, 3) := by decide +kernel
theorem dL_law_26 : decode cL_law 26 = .ok (.aload_n 0, 1) := by decide +kernel
theorem dL_law_27 : decode cL_law 27 = .ok (.iload_n 3, 1) := by decide +kernel
theorem dL_law_28 : decode cL_law 28 = .ok (.iaload, 1) := by decide +kernel
theorem dL_law_29 : decode cL_law 29 = .ok (.bipush 31, 2) := by decide +kernel
theorem dL_law_31 : decode cL_law 31 = .ok (.iand, 1) := by decide +kernel
theorem dL_law_32 : decode cL_law 32 = .ok (.tableswitch 803 0 23 #[112, 135, 194, 217, 230, 243, 266, 299, 322, 335, 378, 411, 444, 487, 530, 563, 576, 599, 623, 647, 691, 734, 757, 780], 112) := by decide +kernel
theorem dL_law_144 : decode cL_law 144 = .ok (.aload_n 1, 1) := by decide +kernel
theorem dL_law_145 : decode cL_law 145 = .ok (.aload_n 0, 1) := by decide +kernel
theorem dL_law_146 : decode cL_law 146 = .ok (.iload_n 3, 1) := by decide +kernel
theorem dL_law_147 : decode cL_law 147 = .ok (.iconst 1, 1) := by decide +kernel
theorem dL_law_148 : decode cL_law 148 = .ok (.iadd, 1) := by decide +kernel
theorem dL_law_149 : decode cL_law 149 = .ok (.iaload, 1) := by decide +kernel
theorem dL_law_150 : decode cL_law 150 = .ok (.invokevirtual 13, 3) := by decide +kernel
theorem dL_law_153 : decode cL_law 153 = .ok (.aload_n 2, 1) := by decide +kernel
theorem dL_law_154 : decode cL_law 154 = .ok (.aload_n 0, 1) := by decide +kernel
theorem dL_law_155 : decode cL_law 155 = .ok (.iload_n 3, 1) := by decide +kernel
theorem dL_law_156 : decode cL_law 156 = .ok (.iconst 1, 1) := by decide +kernel
theorem dL_law_157 : decode cL_law 157 = .ok (.iadd, 1) := by decide +kernel
theorem dL_law_158 : decode cL_law 158 = .ok (.iaload, 1) := by decide +kernel
theorem dL_law_159 : decode cL_law 159 = .ok (.invokevirtual 17, 3) := by decide +kernel
theorem dL_law_162 : decode cL_law 162 = .ok (.if_icmp .eq 673, 3) := by decide +kernel
theorem dL_law_165 : decode cL_law 165 = .ok (.iconst 0, 1) := by decide +kernel
theorem dL_law_166 : decode cL_law 166 = .ok (.ireturn, 1) := by decide +kernel
theorem dL_law_167 : decode cL_law 167 = .ok (.aload_n 1, 1) := by decide +kernel
theorem dL_law_168 : decode cL_law 168 = .ok (.aload_n 0, 1) := by decide +kernel
theorem dL_law_169 : decode cL_law 169 = .ok (.iload_n 3, 1) := by decide +kernel
theorem dL_law_170 : decode cL_law 170 = .ok (.iconst 1, 1) := by decide +kernel
theorem dL_law_171 : decode cL_law 171 = .ok (.iadd, 1) := by decide +kernel
theorem dL_law_172 : decode cL_law 172 = .ok (.iaload, 1) := by decide +kernel
theorem dL_law_173 : decode cL_law 173 = .ok (.aload_n 0, 1) := by decide +kernel
theorem dL_law_174 : decode cL_law 174 = .ok (.iload_n 3, 1) := by decide +kernel
theorem dL_law_175 : decode cL_law 175 = .ok (.iconst 2, 1) := by decide +kernel
theorem dL_law_176 : decode cL_law 176 = .ok (.iadd, 1) := by decide +kernel
theorem dL_law_177 : decode cL_law 177 = .ok (.iaload, 1) := by decide +kernel
theorem dL_law_178 : decode cL_law 178 = .ok (.aload_n 0, 1) := by decide +kernel
theorem dL_law_179 : decode cL_law 179 = .ok (.iload_n 3, 1) := by decide +kernel
theorem dL_law_180 : decode cL_law 180 = .ok (.iconst 3, 1) := by decide +kernel
theorem dL_law_181 : decode cL_law 181 = .ok (.iadd, 1) := by decide +kernel
theorem dL_law_182 : decode cL_law 182 = .ok (.iaload, 1) := by decide +kernel
theorem dL_law_183 : decode cL_law 183 = .ok (.ifCond .eq 7, 3) := by decide +kernel
theorem dL_law_186 : decode cL_law 186 = .ok (.iconst 1, 1) := by decide +kernel
theorem dL_law_187 : decode cL_law 187 = .ok (.goto 4, 3) := by decide +kernel
theorem dL_law_190 : decode cL_law 190 = .ok (.iconst 0, 1) := by decide +kernel
theorem dL_law_191 : decode cL_law 191 = .ok (.invokevirtual 18, 3) := by decide +kernel
theorem dL_law_194 : decode cL_law 194 = .ok (.aload_n 2, 1) := by decide +kernel
theorem dL_law_195 : decode cL_law 195 = .ok (.aload_n 0, 1) := by decide +kernel
theorem dL_law_196 : decode cL_law 196 = .ok (.iload_n 3, 1) := by decide +kernel
theorem dL_law_197 : decode cL_law 197 = .ok (.iconst 1, 1) := by decide +kernel
theorem dL_law_198 : decode cL_law 198 = .ok (.iadd, 1) := by decide +kernel
theorem dL_law_199 : decode cL_law 199 = .ok (.iaload, 1) := by decide +kernel
theorem dL_law_200 : decode cL_law 200 = .ok (.aload_n 0, 1) := by decide +kernel
theorem dL_law_201 : decode cL_law 201 = .ok (.iload_n 3, 1) := by decide +kernel
theorem dL_law_202 : decode cL_law 202 = .ok (.iconst 2, 1) := by decide +kernel
theorem dL_law_203 : decode cL_law 203 = .ok (.iadd, 1) := by decide +kernel
theorem dL_law_204 : decode cL_law 204 = .ok (.iaload, 1) := by decide +kernel
theorem dL_law_205 : decode cL_law 205 = .ok (.aload_n 0, 1) := by decide +kernel
theorem dL_law_206 : decode cL_law 206 = .ok (.iload_n 3, 1) := by decide +kernel
theorem dL_law_207 : decode cL_law 207 = .ok (.iconst 3, 1) := by decide +kernel
theorem dL_law_208 : decode cL_law 208 = .ok (.iadd, 1) := by decide +kernel
theorem dL_law_209 : decode cL_law 209 = .ok (.iaload, 1) := by decide +kernel
theorem dL_law_210 : decode cL_law 210 = .ok (.ifCond .eq 7, 3) := by decide +kernel
theorem dL_law_213 : decode cL_law 213 = .ok (.iconst 1, 1) := by decide +kernel
theorem dL_law_214 : decode cL_law 214 = .ok (.goto 4, 3) := by decide +kernel
theorem dL_law_217 : decode cL_law 217 = .ok (.iconst 0, 1) := by decide +kernel
theorem dL_law_218 : decode cL_law 218 = .ok (.invokevirtual 22, 3) := by decide +kernel
theorem dL_law_221 : decode cL_law 221 = .ok (.if_icmp .eq 614, 3) := by decide +kernel
theorem dL_law_224 : decode cL_law 224 = .ok (.iconst 0, 1) := by decide +kernel
theorem dL_law_225 : decode cL_law 225 = .ok (.ireturn, 1) := by decide +kernel
theorem dL_law_226 : decode cL_law 226 = .ok (.aload_n 1, 1) := by decide +kernel
theorem dL_law_227 : decode cL_law 227 = .ok (.aload_n 0, 1) := by decide +kernel
theorem dL_law_228 : decode cL_law 228 = .ok (.iload_n 3, 1) := by decide +kernel
theorem dL_law_229 : decode cL_law 229 = .ok (.iconst 1, 1) := by decide +kernel
theorem dL_law_230 : decode cL_law 230 = .ok (.iadd, 1) := by decide +kernel
theorem dL_law_231 : decode cL_law 231 = .ok (.iaload, 1) := by decide +kernel
theorem dL_law_232 : decode cL_law 232 = .ok (.invokevirtual 23, 3) := by decide +kernel
theorem dL_law_235 : decode cL_law 235 = .ok (.aload_n 2, 1) := by decide +kernel
theorem dL_law_236 : decode cL_law 236 = .ok (.aload_n 0, 1) := by decide +kernel
theorem dL_law_237 : decode cL_law 237 = .ok (.iload_n 3, 1) := by decide +kernel
theorem dL_law_238 : decode cL_law 238 = .ok (.iconst 1, 1) := by decide +kernel
theorem dL_law_239 : decode cL_law 239 = .ok (.iadd, 1) := by decide +kernel
theorem dL_law_240 : decode cL_law 240 = .ok (.iaload, 1) := by decide +kernel
theorem dL_law_241 : decode cL_law 241 = .ok (.invokevirtual 26, 3) := by decide +kernel
theorem dL_law_244 : decode cL_law 244 = .ok (.if_icmp .eq 591, 3) := by decide +kernel
theorem dL_law_247 : decode cL_law 247 = .ok (.iconst 0, 1) := by decide +kernel
theorem dL_law_248 : decode cL_law 248 = .ok (.ireturn, 1) := by decide +kernel
theorem dL_law_249 : decode cL_law 249 = .ok (.aload_n 1, 1) := by decide +kernel
theorem dL_law_250 : decode cL_law 250 = .ok (.invokevirtual 27, 3) := by decide +kernel
theorem dL_law_253 : decode cL_law 253 = .ok (.aload_n 2, 1) := by decide +kernel
theorem dL_law_254 : decode cL_law 254 = .ok (.invokevirtual 31, 3) := by decide +kernel
theorem dL_law_257 : decode cL_law 257 = .ok (.if_icmp .eq 578, 3) := by decide +kernel
theorem dL_law_260 : decode cL_law 260 = .ok (.iconst 0, 1) := by decide +kernel
theorem dL_law_261 : decode cL_law 261 = .ok (.ireturn, 1) := by decide +kernel
theorem dL_law_262 : decode cL_law 262 = .ok (.aload_n 1, 1) := by decide +kernel
theorem dL_law_263 : decode cL_law 263 = .ok (.invokevirtual 32, 3) := by decide +kernel
theorem dL_law_266 : decode cL_law 266 = .ok (.aload_n 2, 1) := by decide +kernel
theorem dL_law_267 : decode cL_law 267 = .ok (.invokevirtual 35, 3) := by decide +kernel
theorem dL_law_270 : decode cL_law 270 = .ok (.if_icmp .eq 565, 3) := by decide +kernel
theorem dL_law_273 : decode cL_law 273 = .ok (.iconst 0, 1) := by decide +kernel
theorem dL_law_274 : decode cL_law 274 = .ok (.ireturn, 1) := by decide +kernel
theorem dL_law_275 : decode cL_law 275 = .ok (.aload_n 1, 1) := by decide +kernel
theorem dL_law_276 : decode cL_law 276 = .ok (.aload_n 0, 1) := by decide +kernel
theorem dL_law_277 : decode cL_law 277 = .ok (.iload_n 3, 1) := by decide +kernel
theorem dL_law_278 : decode cL_law 278 = .ok (.iconst 1, 1) := by decide +kernel
theorem dL_law_279 : decode cL_law 279 = .ok (.iadd, 1) := by decide +kernel
theorem dL_law_280 : decode cL_law 280 = .ok (.iaload, 1) := by decide +kernel
theorem dL_law_281 : decode cL_law 281 = .ok (.invokevirtual 36, 3) := by decide +kernel
theorem dL_law_284 : decode cL_law 284 = .ok (.aload_n 2, 1) := by decide +kernel
theorem dL_law_285 : decode cL_law 285 = .ok (.aload_n 0, 1) := by decide +kernel
theorem dL_law_286 : decode cL_law 286 = .ok (.iload_n 3, 1) := by decide +kernel
theorem dL_law_287 : decode cL_law 287 = .ok (.iconst 1, 1) := by decide +kernel
theorem dL_law_288 : decode cL_law 288 = .ok (.iadd, 1) := by decide +kernel
theorem dL_law_289 : decode cL_law 289 = .ok (.iaload, 1) := by decide +kernel
theorem dL_law_290 : decode cL_law 290 = .ok (.invokevirtual 39, 3) := by decide +kernel
theorem dL_law_293 : decode cL_law 293 = .ok (.if_icmp .eq 542, 3) := by decide +kernel
theorem dL_law_296 : decode cL_law 296 = .ok (.iconst 0, 1) := by decide +kernel
theorem dL_law_297 : decode cL_law 297 = .ok (.ireturn, 1) := by decide +kernel
theorem dL_law_298 : decode cL_law 298 = .ok (.aload_n 1, 1) := by decide +kernel
theorem dL_law_299 : decode cL_law 299 = .ok (.aload_n 0, 1) := by decide +kernel
theorem dL_law_300 : decode cL_law 300 = .ok (.iload_n 3, 1) := by decide +kernel
theorem dL_law_301 : decode cL_law 301 = .ok (.iconst 1, 1) := by decide +kernel
theorem dL_law_302 : decode cL_law 302 = .ok (.iadd, 1) := by decide +kernel
theorem dL_law_303 : decode cL_law 303 = .ok (.iaload, 1) := by decide +kernel
theorem dL_law_304 : decode cL_law 304 = .ok (.aload_n 0, 1) := by decide +kernel
theorem dL_law_305 : decode cL_law 305 = .ok (.iload_n 3, 1) := by decide +kernel
theorem dL_law_306 : decode cL_law 306 = .ok (.iconst 2, 1) := by decide +kernel
theorem dL_law_307 : decode cL_law 307 = .ok (.iadd, 1) := by decide +kernel
theorem dL_law_308 : decode cL_law 308 = .ok (.iaload, 1) := by decide +kernel
theorem dL_law_309 : decode cL_law 309 = .ok (.invokevirtual 40, 3) := by decide +kernel
theorem dL_law_312 : decode cL_law 312 = .ok (.aload_n 2, 1) := by decide +kernel
theorem dL_law_313 : decode cL_law 313 = .ok (.aload_n 0, 1) := by decide +kernel
theorem dL_law_314 : decode cL_law 314 = .ok (.iload_n 3, 1) := by decide +kernel
theorem dL_law_315 : decode cL_law 315 = .ok (.iconst 1, 1) := by decide +kernel
theorem dL_law_316 : decode cL_law 316 = .ok (.iadd, 1) := by decide +kernel
theorem dL_law_317 : decode cL_law 317 = .ok (.iaload, 1) := by decide +kernel
theorem dL_law_318 : decode cL_law 318 = .ok (.aload_n 0, 1) := by decide +kernel
theorem dL_law_319 : decode cL_law 319 = .ok (.iload_n 3, 1) := by decide +kernel
theorem dL_law_320 : decode cL_law 320 = .ok (.iconst 2, 1) := by decide +kernel
theorem dL_law_321 : decode cL_law 321 = .ok (.iadd, 1) := by decide +kernel
theorem dL_law_322 : decode cL_law 322 = .ok (.iaload, 1) := by decide +kernel
theorem dL_law_323 : decode cL_law 323 = .ok (.invokevirtual 44, 3) := by decide +kernel
theorem dL_law_326 : decode cL_law 326 = .ok (.if_icmp .eq 509, 3) := by decide +kernel
theorem dL_law_329 : decode cL_law 329 = .ok (.iconst 0, 1) := by decide +kernel
theorem dL_law_330 : decode cL_law 330 = .ok (.ireturn, 1) := by decide +kernel
theorem dL_law_331 : decode cL_law 331 = .ok (.aload_n 1, 1) := by decide +kernel
theorem dL_law_332 : decode cL_law 332 = .ok (.aload_n 0, 1) := by decide +kernel
theorem dL_law_333 : decode cL_law 333 = .ok (.iload_n 3, 1) := by decide +kernel
theorem dL_law_334 : decode cL_law 334 = .ok (.iconst 1, 1) := by decide +kernel
theorem dL_law_335 : decode cL_law 335 = .ok (.iadd, 1) := by decide +kernel
theorem dL_law_336 : decode cL_law 336 = .ok (.iaload, 1) := by decide +kernel
theorem dL_law_337 : decode cL_law 337 = .ok (.invokevirtual 45, 3) := by decide +kernel
theorem dL_law_340 : decode cL_law 340 = .ok (.aload_n 2, 1) := by decide +kernel
theorem dL_law_341 : decode cL_law 341 = .ok (.aload_n 0, 1) := by decide +kernel
theorem dL_law_342 : decode cL_law 342 = .ok (.iload_n 3, 1) := by decide +kernel
theorem dL_law_343 : decode cL_law 343 = .ok (.iconst 1, 1) := by decide +kernel
theorem dL_law_344 : decode cL_law 344 = .ok (.iadd, 1) := by decide +kernel
theorem dL_law_345 : decode cL_law 345 = .ok (.iaload, 1) := by decide +kernel
theorem dL_law_346 : decode cL_law 346 = .ok (.invokevirtual 48, 3) := by decide +kernel
theorem dL_law_349 : decode cL_law 349 = .ok (.if_icmp .eq 486, 3) := by decide +kernel
theorem dL_law_352 : decode cL_law 352 = .ok (.iconst 0, 1) := by decide +kernel
theorem dL_law_353 : decode cL_law 353 = .ok (.ireturn, 1) := by decide +kernel
theorem dL_law_354 : decode cL_law 354 = .ok (.aload_n 1, 1) := by decide +kernel
theorem dL_law_355 : decode cL_law 355 = .ok (.invokevirtual 49, 3) := by decide +kernel
theorem dL_law_358 : decode cL_law 358 = .ok (.aload_n 2, 1) := by decide +kernel
theorem dL_law_359 : decode cL_law 359 = .ok (.invokevirtual 52, 3) := by decide +kernel
theorem dL_law_362 : decode cL_law 362 = .ok (.if_icmp .eq 473, 3) := by decide +kernel
theorem dL_law_365 : decode cL_law 365 = .ok (.iconst 0, 1) := by decide +kernel
theorem dL_law_366 : decode cL_law 366 = .ok (.ireturn, 1) := by decide +kernel
theorem dL_law_367 : decode cL_law 367 = .ok (.aload_n 1, 1) := by decide +kernel
theorem dL_law_368 : decode cL_law 368 = .ok (.aload_n 0, 1) := by decide +kernel
theorem dL_law_369 : decode cL_law 369 = .ok (.iload_n 3, 1) := by decide +kernel
theorem dL_law_370 : decode cL_law 370 = .ok (.iconst 1, 1) := by decide +kernel
theorem dL_law_371 : decode cL_law 371 = .ok (.iadd, 1) := by decide +kernel
theorem dL_law_372 : decode cL_law 372 = .ok (.iaload, 1) := by decide +kernel
theorem dL_law_373 : decode cL_law 373 = .ok (.aload_n 0, 1) := by decide +kernel
theorem dL_law_374 : decode cL_law 374 = .ok (.iload_n 3, 1) := by decide +kernel
theorem dL_law_375 : decode cL_law 375 = .ok (.iconst 2, 1) := by decide +kernel
theorem dL_law_376 : decode cL_law 376 = .ok (.iadd, 1) := by decide +kernel
theorem dL_law_377 : decode cL_law 377 = .ok (.iaload, 1) := by decide +kernel
theorem dL_law_378 : decode cL_law 378 = .ok (.aload_n 0, 1) := by decide +kernel
theorem dL_law_379 : decode cL_law 379 = .ok (.iload_n 3, 1) := by decide +kernel
theorem dL_law_380 : decode cL_law 380 = .ok (.iconst 3, 1) := by decide +kernel
theorem dL_law_381 : decode cL_law 381 = .ok (.iadd, 1) := by decide +kernel
theorem dL_law_382 : decode cL_law 382 = .ok (.iaload, 1) := by decide +kernel
theorem dL_law_383 : decode cL_law 383 = .ok (.invokevirtual 53, 3) := by decide +kernel
theorem dL_law_386 : decode cL_law 386 = .ok (.aload_n 2, 1) := by decide +kernel
theorem dL_law_387 : decode cL_law 387 = .ok (.aload_n 0, 1) := by decide +kernel
theorem dL_law_388 : decode cL_law 388 = .ok (.iload_n 3, 1) := by decide +kernel
theorem dL_law_389 : decode cL_law 389 = .ok (.iconst 1, 1) := by decide +kernel
theorem dL_law_390 : decode cL_law 390 = .ok (.iadd, 1) := by decide +kernel
theorem dL_law_391 : decode cL_law 391 = .ok (.iaload, 1) := by decide +kernel
theorem dL_law_392 : decode cL_law 392 = .ok (.aload_n 0, 1) := by decide +kernel
theorem dL_law_393 : decode cL_law 393 = .ok (.iload_n 3, 1) := by decide +kernel
theorem dL_law_394 : decode cL_law 394 = .ok (.iconst 2, 1) := by decide +kernel
theorem dL_law_395 : decode cL_law 395 = .ok (.iadd, 1) := by decide +kernel
theorem dL_law_396 : decode cL_law 396 = .ok (.iaload, 1) := by decide +kernel
theorem dL_law_397 : decode cL_law 397 = .ok (.aload_n 0, 1) := by decide +kernel
theorem dL_law_398 : decode cL_law 398 = .ok (.iload_n 3, 1) := by decide +kernel
theorem dL_law_399 : decode cL_law 399 = .ok (.iconst 3, 1) := by decide +kernel
theorem dL_law_400 : decode cL_law 400 = .ok (.iadd, 1) := by decide +kernel
theorem dL_law_401 : decode cL_law 401 = .ok (.iaload, 1) := by decide +kernel
theorem dL_law_402 : decode cL_law 402 = .ok (.invokevirtual 57, 3) := by decide +kernel
theorem dL_law_405 : decode cL_law 405 = .ok (.if_icmp .eq 430, 3) := by decide +kernel
theorem dL_law_408 : decode cL_law 408 = .ok (.iconst 0, 1) := by decide +kernel
theorem dL_law_409 : decode cL_law 409 = .ok (.ireturn, 1) := by decide +kernel
theorem dL_law_410 : decode cL_law 410 = .ok (.aload_n 1, 1) := by decide +kernel
theorem dL_law_411 : decode cL_law 411 = .ok (.aload_n 0, 1) := by decide +kernel
theorem dL_law_412 : decode cL_law 412 = .ok (.iload_n 3, 1) := by decide +kernel
theorem dL_law_413 : decode cL_law 413 = .ok (.iconst 1, 1) := by decide +kernel
theorem dL_law_414 : decode cL_law 414 = .ok (.iadd, 1) := by decide +kernel
theorem dL_law_415 : decode cL_law 415 = .ok (.iaload, 1) := by decide +kernel
theorem dL_law_416 : decode cL_law 416 = .ok (.aload_n 0, 1) := by decide +kernel
theorem dL_law_417 : decode cL_law 417 = .ok (.iload_n 3, 1) := by decide +kernel
theorem dL_law_418 : decode cL_law 418 = .ok (.iconst 2, 1) := by decide +kernel
theorem dL_law_419 : decode cL_law 419 = .ok (.iadd, 1) := by decide +kernel
theorem dL_law_420 : decode cL_law 420 = .ok (.iaload, 1) := by decide +kernel
theorem dL_law_421 : decode cL_law 421 = .ok (.invokevirtual 58, 3) := by decide +kernel
theorem dL_law_424 : decode cL_law 424 = .ok (.aload_n 2, 1) := by decide +kernel
theorem dL_law_425 : decode cL_law 425 = .ok (.aload_n 0, 1) := by decide +kernel
theorem dL_law_426 : decode cL_law 426 = .ok (.iload_n 3, 1) := by decide +kernel
theorem dL_law_427 : decode cL_law 427 = .ok (.iconst 1, 1) := by decide +kernel
theorem dL_law_428 : decode cL_law 428 = .ok (.iadd, 1) := by decide +kernel
theorem dL_law_429 : decode cL_law 429 = .ok (.iaload, 1) := by decide +kernel
theorem dL_law_430 : decode cL_law 430 = .ok (.aload_n 0, 1) := by decide +kernel
theorem dL_law_431 : decode cL_law 431 = .ok (.iload_n 3, 1) := by decide +kernel
theorem dL_law_432 : decode cL_law 432 = .ok (.iconst 2, 1) := by decide +kernel
theorem dL_law_433 : decode cL_law 433 = .ok (.iadd, 1) := by decide +kernel
theorem dL_law_434 : decode cL_law 434 = .ok (.iaload, 1) := by decide +kernel
theorem dL_law_435 : decode cL_law 435 = .ok (.invokevirtual 61, 3) := by decide +kernel
theorem dL_law_438 : decode cL_law 438 = .ok (.if_icmp .eq 397, 3) := by decide +kernel
theorem dL_law_441 : decode cL_law 441 = .ok (.iconst 0, 1) := by decide +kernel
theorem dL_law_442 : decode cL_law 442 = .ok (.ireturn, 1) := by decide +kernel
theorem dL_law_443 : decode cL_law 443 = .ok (.aload_n 1, 1) := by decide +kernel
theorem dL_law_444 : decode cL_law 444 = .ok (.aload_n 0, 1) := by decide +kernel
theorem dL_law_445 : decode cL_law 445 = .ok (.iload_n 3, 1) := by decide +kernel
theorem dL_law_446 : decode cL_law 446 = .ok (.iconst 1, 1) := by decide +kernel
theorem dL_law_447 : decode cL_law 447 = .ok (.iadd, 1) := by decide +kernel
theorem dL_law_448 : decode cL_law 448 = .ok (.iaload, 1) := by decide +kernel
theorem dL_law_449 : decode cL_law 449 = .ok (.aload_n 0, 1) := by decide +kernel
theorem dL_law_450 : decode cL_law 450 = .ok (.iload_n 3, 1) := by decide +kernel
theorem dL_law_451 : decode cL_law 451 = .ok (.iconst 2, 1) := by decide +kernel
theorem dL_law_452 : decode cL_law 452 = .ok (.iadd, 1) := by decide +kernel
theorem dL_law_453 : decode cL_law 453 = .ok (.iaload, 1) := by decide +kernel
theorem dL_law_454 : decode cL_law 454 = .ok (.invokevirtual 62, 3) := by decide +kernel
theorem dL_law_457 : decode cL_law 457 = .ok (.aload_n 2, 1) := by decide +kernel
theorem dL_law_458 : decode cL_law 458 = .ok (.aload_n 0, 1) := by decide +kernel
theorem dL_law_459 : decode cL_law 459 = .ok (.iload_n 3, 1) := by decide +kernel
theorem dL_law_460 : decode cL_law 460 = .ok (.iconst 1, 1) := by decide +kernel
theorem dL_law_461 : decode cL_law 461 = .ok (.iadd, 1) := by decide +kernel
theorem dL_law_462 : decode cL_law 462 = .ok (.iaload, 1) := by decide +kernel
theorem dL_law_463 : decode cL_law 463 = .ok (.aload_n 0, 1) := by decide +kernel
theorem dL_law_464 : decode cL_law 464 = .ok (.iload_n 3, 1) := by decide +kernel
theorem dL_law_465 : decode cL_law 465 = .ok (.iconst 2, 1) := by decide +kernel
theorem dL_law_466 : decode cL_law 466 = .ok (.iadd, 1) := by decide +kernel
theorem dL_law_467 : decode cL_law 467 = .ok (.iaload, 1) := by decide +kernel
theorem dL_law_468 : decode cL_law 468 = .ok (.invokevirtual 65, 3) := by decide +kernel
theorem dL_law_471 : decode cL_law 471 = .ok (.if_icmp .eq 364, 3) := by decide +kernel
theorem dL_law_474 : decode cL_law 474 = .ok (.iconst 0, 1) := by decide +kernel
theorem dL_law_475 : decode cL_law 475 = .ok (.ireturn, 1) := by decide +kernel
theorem dL_law_476 : decode cL_law 476 = .ok (.aload_n 1, 1) := by decide +kernel
theorem dL_law_477 : decode cL_law 477 = .ok (.aload_n 0, 1) := by decide +kernel
theorem dL_law_478 : decode cL_law 478 = .ok (.iload_n 3, 1) := by decide +kernel
theorem dL_law_479 : decode cL_law 479 = .ok (.iconst 1, 1) := by decide +kernel
theorem dL_law_480 : decode cL_law 480 = .ok (.iadd, 1) := by decide +kernel
theorem dL_law_481 : decode cL_law 481 = .ok (.iaload, 1) := by decide +kernel
theorem dL_law_482 : decode cL_law 482 = .ok (.aload_n 0, 1) := by decide +kernel
theorem dL_law_483 : decode cL_law 483 = .ok (.iload_n 3, 1) := by decide +kernel
theorem dL_law_484 : decode cL_law 484 = .ok (.iconst 2, 1) := by decide +kernel
theorem dL_law_485 : decode cL_law 485 = .ok (.iadd, 1) := by decide +kernel
theorem dL_law_486 : decode cL_law 486 = .ok (.iaload, 1) := by decide +kernel
theorem dL_law_487 : decode cL_law 487 = .ok (.aload_n 0, 1) := by decide +kernel
theorem dL_law_488 : decode cL_law 488 = .ok (.iload_n 3, 1) := by decide +kernel
theorem dL_law_489 : decode cL_law 489 = .ok (.iconst 3, 1) := by decide +kernel
theorem dL_law_490 : decode cL_law 490 = .ok (.iadd, 1) := by decide +kernel
theorem dL_law_491 : decode cL_law 491 = .ok (.iaload, 1) := by decide +kernel
theorem dL_law_492 : decode cL_law 492 = .ok (.invokevirtual 66, 3) := by decide +kernel
theorem dL_law_495 : decode cL_law 495 = .ok (.aload_n 2, 1) := by decide +kernel
theorem dL_law_496 : decode cL_law 496 = .ok (.aload_n 0, 1) := by decide +kernel
theorem dL_law_497 : decode cL_law 497 = .ok (.iload_n 3, 1) := by decide +kernel
theorem dL_law_498 : decode cL_law 498 = .ok (.iconst 1, 1) := by decide +kernel
theorem dL_law_499 : decode cL_law 499 = .ok (.iadd, 1) := by decide +kernel
theorem dL_law_500 : decode cL_law 500 = .ok (.iaload, 1) := by decide +kernel
theorem dL_law_501 : decode cL_law 501 = .ok (.aload_n 0, 1) := by decide +kernel
theorem dL_law_502 : decode cL_law 502 = .ok (.iload_n 3, 1) := by decide +kernel
theorem dL_law_503 : decode cL_law 503 = .ok (.iconst 2, 1) := by decide +kernel
theorem dL_law_504 : decode cL_law 504 = .ok (.iadd, 1) := by decide +kernel
theorem dL_law_505 : decode cL_law 505 = .ok (.iaload, 1) := by decide +kernel
theorem dL_law_506 : decode cL_law 506 = .ok (.aload_n 0, 1) := by decide +kernel
theorem dL_law_507 : decode cL_law 507 = .ok (.iload_n 3, 1) := by decide +kernel
theorem dL_law_508 : decode cL_law 508 = .ok (.iconst 3, 1) := by decide +kernel
theorem dL_law_509 : decode cL_law 509 = .ok (.iadd, 1) := by decide +kernel
theorem dL_law_510 : decode cL_law 510 = .ok (.iaload, 1) := by decide +kernel
theorem dL_law_511 : decode cL_law 511 = .ok (.invokevirtual 69, 3) := by decide +kernel
theorem dL_law_514 : decode cL_law 514 = .ok (.if_icmp .eq 321, 3) := by decide +kernel
theorem dL_law_517 : decode cL_law 517 = .ok (.iconst 0, 1) := by decide +kernel
theorem dL_law_518 : decode cL_law 518 = .ok (.ireturn, 1) := by decide +kernel
theorem dL_law_519 : decode cL_law 519 = .ok (.aload_n 1, 1) := by decide +kernel
theorem dL_law_520 : decode cL_law 520 = .ok (.aload_n 0, 1) := by decide +kernel
theorem dL_law_521 : decode cL_law 521 = .ok (.iload_n 3, 1) := by decide +kernel
theorem dL_law_522 : decode cL_law 522 = .ok (.iconst 1, 1) := by decide +kernel
theorem dL_law_523 : decode cL_law 523 = .ok (.iadd, 1) := by decide +kernel
theorem dL_law_524 : decode cL_law 524 = .ok (.iaload, 1) := by decide +kernel
theorem dL_law_525 : decode cL_law 525 = .ok (.aload_n 0, 1) := by decide +kernel
theorem dL_law_526 : decode cL_law 526 = .ok (.iload_n 3, 1) := by decide +kernel
theorem dL_law_527 : decode cL_law 527 = .ok (.iconst 2, 1) := by decide +kernel
theorem dL_law_528 : decode cL_law 528 = .ok (.iadd, 1) := by decide +kernel
theorem dL_law_529 : decode cL_law 529 = .ok (.iaload, 1) := by decide +kernel
theorem dL_law_530 : decode cL_law 530 = .ok (.aload_n 0, 1) := by decide +kernel
theorem dL_law_531 : decode cL_law 531 = .ok (.iload_n 3, 1) := by decide +kernel
theorem dL_law_532 : decode cL_law 532 = .ok (.iconst 3, 1) := by decide +kernel
theorem dL_law_533 : decode cL_law 533 = .ok (.iadd, 1) := by decide +kernel
theorem dL_law_534 : decode cL_law 534 = .ok (.iaload, 1) := by decide +kernel
theorem dL_law_535 : decode cL_law 535 = .ok (.invokevirtual 70, 3) := by decide +kernel
theorem dL_law_538 : decode cL_law 538 = .ok (.aload_n 2, 1) := by decide +kernel
theorem dL_law_539 : decode cL_law 539 = .ok (.aload_n 0, 1) := by decide +kernel
theorem dL_law_540 : decode cL_law 540 = .ok (.iload_n 3, 1) := by decide +kernel
theorem dL_law_541 : decode cL_law 541 = .ok (.iconst 1, 1) := by decide +kernel
theorem dL_law_542 : decode cL_law 542 = .ok (.iadd, 1) := by decide +kernel
theorem dL_law_543 : decode cL_law 543 = .ok (.iaload, 1) := by decide +kernel
theorem dL_law_544 : decode cL_law 544 = .ok (.aload_n 0, 1) := by decide +kernel
theorem dL_law_545 : decode cL_law 545 = .ok (.iload_n 3, 1) := by decide +kernel
theorem dL_law_546 : decode cL_law 546 = .ok (.iconst 2, 1) := by decide +kernel
theorem dL_law_547 : decode cL_law 547 = .ok (.iadd, 1) := by decide +kernel
theorem dL_law_548 : decode cL_law 548 = .ok (.iaload, 1) := by decide +kernel
theorem dL_law_549 : decode cL_law 549 = .ok (.aload_n 0, 1) := by decide +kernel
theorem dL_law_550 : decode cL_law 550 = .ok (.iload_n 3, 1) := by decide +kernel
theorem dL_law_551 : decode cL_law 551 = .ok (.iconst 3, 1) := by decide +kernel
theorem dL_law_552 : decode cL_law 552 = .ok (.iadd, 1) := by decide +kernel
theorem dL_law_553 : decode cL_law 553 = .ok (.iaload, 1) := by decide +kernel
theorem dL_law_554 : decode cL_law 554 = .ok (.invokevirtual 73, 3) := by decide +kernel
theorem dL_law_557 : decode cL_law 557 = .ok (.if_icmp .eq 278, 3) := by decide +kernel
theorem dL_law_560 : decode cL_law 560 = .ok (.iconst 0, 1) := by decide +kernel
theorem dL_law_561 : decode cL_law 561 = .ok (.ireturn, 1) := by decide +kernel
theorem dL_law_562 : decode cL_law 562 = .ok (.aload_n 1, 1) := by decide +kernel
theorem dL_law_563 : decode cL_law 563 = .ok (.aload_n 0, 1) := by decide +kernel
theorem dL_law_564 : decode cL_law 564 = .ok (.iload_n 3, 1) := by decide +kernel
theorem dL_law_565 : decode cL_law 565 = .ok (.iconst 1, 1) := by decide +kernel
theorem dL_law_566 : decode cL_law 566 = .ok (.iadd, 1) := by decide +kernel
theorem dL_law_567 : decode cL_law 567 = .ok (.iaload, 1) := by decide +kernel
theorem dL_law_568 : decode cL_law 568 = .ok (.aload_n 0, 1) := by decide +kernel
theorem dL_law_569 : decode cL_law 569 = .ok (.iload_n 3, 1) := by decide +kernel
theorem dL_law_570 : decode cL_law 570 = .ok (.iconst 2, 1) := by decide +kernel
theorem dL_law_571 : decode cL_law 571 = .ok (.iadd, 1) := by decide +kernel
theorem dL_law_572 : decode cL_law 572 = .ok (.iaload, 1) := by decide +kernel
theorem dL_law_573 : decode cL_law 573 = .ok (.invokevirtual 74, 3) := by decide +kernel
theorem dL_law_576 : decode cL_law 576 = .ok (.aload_n 2, 1) := by decide +kernel
theorem dL_law_577 : decode cL_law 577 = .ok (.aload_n 0, 1) := by decide +kernel
theorem dL_law_578 : decode cL_law 578 = .ok (.iload_n 3, 1) := by decide +kernel
theorem dL_law_579 : decode cL_law 579 = .ok (.iconst 1, 1) := by decide +kernel
theorem dL_law_580 : decode cL_law 580 = .ok (.iadd, 1) := by decide +kernel
theorem dL_law_581 : decode cL_law 581 = .ok (.iaload, 1) := by decide +kernel
theorem dL_law_582 : decode cL_law 582 = .ok (.aload_n 0, 1) := by decide +kernel
theorem dL_law_583 : decode cL_law 583 = .ok (.iload_n 3, 1) := by decide +kernel
theorem dL_law_584 : decode cL_law 584 = .ok (.iconst 2, 1) := by decide +kernel
theorem dL_law_585 : decode cL_law 585 = .ok (.iadd, 1) := by decide +kernel
theorem dL_law_586 : decode cL_law 586 = .ok (.iaload, 1) := by decide +kernel
theorem dL_law_587 : decode cL_law 587 = .ok (.invokevirtual 77, 3) := by decide +kernel
theorem dL_law_590 : decode cL_law 590 = .ok (.if_icmp .eq 245, 3) := by decide +kernel
theorem dL_law_593 : decode cL_law 593 = .ok (.iconst 0, 1) := by decide +kernel
theorem dL_law_594 : decode cL_law 594 = .ok (.ireturn, 1) := by decide +kernel
theorem dL_law_595 : decode cL_law 595 = .ok (.aload_n 1, 1) := by decide +kernel
theorem dL_law_596 : decode cL_law 596 = .ok (.invokevirtual 78, 3) := by decide +kernel
theorem dL_law_599 : decode cL_law 599 = .ok (.aload_n 2, 1) := by decide +kernel
theorem dL_law_600 : decode cL_law 600 = .ok (.invokevirtual 81, 3) := by decide +kernel
theorem dL_law_603 : decode cL_law 603 = .ok (.if_icmp .eq 232, 3) := by decide +kernel
theorem dL_law_606 : decode cL_law 606 = .ok (.iconst 0, 1) := by decide +kernel
theorem dL_law_607 : decode cL_law 607 = .ok (.ireturn, 1) := by decide +kernel
theorem dL_law_608 : decode cL_law 608 = .ok (.aload_n 1, 1) := by decide +kernel
theorem dL_law_609 : decode cL_law 609 = .ok (.aload_n 0, 1) := by decide +kernel
theorem dL_law_610 : decode cL_law 610 = .ok (.iload_n 3, 1) := by decide +kernel
theorem dL_law_611 : decode cL_law 611 = .ok (.iconst 1, 1) := by decide +kernel
theorem dL_law_612 : decode cL_law 612 = .ok (.iadd, 1) := by decide +kernel
theorem dL_law_613 : decode cL_law 613 = .ok (.iaload, 1) := by decide +kernel
theorem dL_law_614 : decode cL_law 614 = .ok (.invokevirtual 82, 3) := by decide +kernel
theorem dL_law_617 : decode cL_law 617 = .ok (.aload_n 2, 1) := by decide +kernel
theorem dL_law_618 : decode cL_law 618 = .ok (.aload_n 0, 1) := by decide +kernel
theorem dL_law_619 : decode cL_law 619 = .ok (.iload_n 3, 1) := by decide +kernel
theorem dL_law_620 : decode cL_law 620 = .ok (.iconst 1, 1) := by decide +kernel
theorem dL_law_621 : decode cL_law 621 = .ok (.iadd, 1) := by decide +kernel
theorem dL_law_622 : decode cL_law 622 = .ok (.iaload, 1) := by decide +kernel
theorem dL_law_623 : decode cL_law 623 = .ok (.invokevirtual 85, 3) := by decide +kernel
theorem dL_law_626 : decode cL_law 626 = .ok (.if_icmp .eq 209, 3) := by decide +kernel
theorem dL_law_629 : decode cL_law 629 = .ok (.iconst 0, 1) := by decide +kernel
theorem dL_law_630 : decode cL_law 630 = .ok (.ireturn, 1) := by decide +kernel
theorem dL_law_631 : decode cL_law 631 = .ok (.aload_n 1, 1) := by decide +kernel
theorem dL_law_632 : decode cL_law 632 = .ok (.aload_n 0, 1) := by decide +kernel
theorem dL_law_633 : decode cL_law 633 = .ok (.iload_n 3, 1) := by decide +kernel
theorem dL_law_634 : decode cL_law 634 = .ok (.iconst 1, 1) := by decide +kernel
theorem dL_law_635 : decode cL_law 635 = .ok (.iadd, 1) := by decide +kernel
theorem dL_law_636 : decode cL_law 636 = .ok (.iaload, 1) := by decide +kernel
theorem dL_law_637 : decode cL_law 637 = .ok (.invokevirtual 86, 3) := by decide +kernel
theorem dL_law_640 : decode cL_law 640 = .ok (.aload_n 2, 1) := by decide +kernel
theorem dL_law_641 : decode cL_law 641 = .ok (.aload_n 0, 1) := by decide +kernel
theorem dL_law_642 : decode cL_law 642 = .ok (.iload_n 3, 1) := by decide +kernel
theorem dL_law_643 : decode cL_law 643 = .ok (.iconst 1, 1) := by decide +kernel
theorem dL_law_644 : decode cL_law 644 = .ok (.iadd, 1) := by decide +kernel
theorem dL_law_645 : decode cL_law 645 = .ok (.iaload, 1) := by decide +kernel
theorem dL_law_646 : decode cL_law 646 = .ok (.invokevirtual 90, 3) := by decide +kernel
theorem dL_law_649 : decode cL_law 649 = .ok (.lcmp, 1) := by decide +kernel
theorem dL_law_650 : decode cL_law 650 = .ok (.ifCond .eq 185, 3) := by decide +kernel
theorem dL_law_653 : decode cL_law 653 = .ok (.iconst 0, 1) := by decide +kernel
theorem dL_law_654 : decode cL_law 654 = .ok (.ireturn, 1) := by decide +kernel
theorem dL_law_655 : decode cL_law 655 = .ok (.aload_n 1, 1) := by decide +kernel
theorem dL_law_656 : decode cL_law 656 = .ok (.aload_n 0, 1) := by decide +kernel
theorem dL_law_657 : decode cL_law 657 = .ok (.iload_n 3, 1) := by decide +kernel
theorem dL_law_658 : decode cL_law 658 = .ok (.iconst 1, 1) := by decide +kernel
theorem dL_law_659 : decode cL_law 659 = .ok (.iadd, 1) := by decide +kernel
theorem dL_law_660 : decode cL_law 660 = .ok (.iaload, 1) := by decide +kernel
theorem dL_law_661 : decode cL_law 661 = .ok (.invokevirtual 91, 3) := by decide +kernel
theorem dL_law_664 : decode cL_law 664 = .ok (.aload_n 2, 1) := by decide +kernel
theorem dL_law_665 : decode cL_law 665 = .ok (.aload_n 0, 1) := by decide +kernel
theorem dL_law_666 : decode cL_law 666 = .ok (.iload_n 3, 1) := by decide +kernel
theorem dL_law_667 : decode cL_law 667 = .ok (.iconst 1, 1) := by decide +kernel
theorem dL_law_668 : decode cL_law 668 = .ok (.iadd, 1) := by decide +kernel
theorem dL_law_669 : decode cL_law 669 = .ok (.iaload, 1) := by decide +kernel
theorem dL_law_670 : decode cL_law 670 = .ok (.invokevirtual 94, 3) := by decide +kernel
theorem dL_law_673 : decode cL_law 673 = .ok (.lcmp, 1) := by decide +kernel
theorem dL_law_674 : decode cL_law 674 = .ok (.ifCond .eq 161, 3) := by decide +kernel
theorem dL_law_677 : decode cL_law 677 = .ok (.iconst 0, 1) := by decide +kernel
theorem dL_law_678 : decode cL_law 678 = .ok (.ireturn, 1) := by decide +kernel
theorem dL_law_679 : decode cL_law 679 = .ok (.aload_n 1, 1) := by decide +kernel
theorem dL_law_680 : decode cL_law 680 = .ok (.aload_n 0, 1) := by decide +kernel
theorem dL_law_681 : decode cL_law 681 = .ok (.iload_n 3, 1) := by decide +kernel
theorem dL_law_682 : decode cL_law 682 = .ok (.iconst 1, 1) := by decide +kernel
theorem dL_law_683 : decode cL_law 683 = .ok (.iadd, 1) := by decide +kernel
theorem dL_law_684 : decode cL_law 684 = .ok (.iaload, 1) := by decide +kernel
theorem dL_law_685 : decode cL_law 685 = .ok (.aload_n 0, 1) := by decide +kernel
theorem dL_law_686 : decode cL_law 686 = .ok (.iload_n 3, 1) := by decide +kernel
theorem dL_law_687 : decode cL_law 687 = .ok (.iconst 2, 1) := by decide +kernel
theorem dL_law_688 : decode cL_law 688 = .ok (.iadd, 1) := by decide +kernel
theorem dL_law_689 : decode cL_law 689 = .ok (.iaload, 1) := by decide +kernel
theorem dL_law_690 : decode cL_law 690 = .ok (.aload_n 0, 1) := by decide +kernel
theorem dL_law_691 : decode cL_law 691 = .ok (.iload_n 3, 1) := by decide +kernel
theorem dL_law_692 : decode cL_law 692 = .ok (.iconst 3, 1) := by decide +kernel
theorem dL_law_693 : decode cL_law 693 = .ok (.iadd, 1) := by decide +kernel
theorem dL_law_694 : decode cL_law 694 = .ok (.iaload, 1) := by decide +kernel
theorem dL_law_695 : decode cL_law 695 = .ok (.invokevirtual 95, 3) := by decide +kernel
theorem dL_law_698 : decode cL_law 698 = .ok (.aload_n 2, 1) := by decide +kernel
theorem dL_law_699 : decode cL_law 699 = .ok (.aload_n 0, 1) := by decide +kernel
theorem dL_law_700 : decode cL_law 700 = .ok (.iload_n 3, 1) := by decide +kernel
theorem dL_law_701 : decode cL_law 701 = .ok (.iconst 1, 1) := by decide +kernel
theorem dL_law_702 : decode cL_law 702 = .ok (.iadd, 1) := by decide +kernel
theorem dL_law_703 : decode cL_law 703 = .ok (.iaload, 1) := by decide +kernel
theorem dL_law_704 : decode cL_law 704 = .ok (.aload_n 0, 1) := by decide +kernel
theorem dL_law_705 : decode cL_law 705 = .ok (.iload_n 3, 1) := by decide +kernel
theorem dL_law_706 : decode cL_law 706 = .ok (.iconst 2, 1) := by decide +kernel
theorem dL_law_707 : decode cL_law 707 = .ok (.iadd, 1) := by decide +kernel
theorem dL_law_708 : decode cL_law 708 = .ok (.iaload, 1) := by decide +kernel
theorem dL_law_709 : decode cL_law 709 = .ok (.aload_n 0, 1) := by decide +kernel
theorem dL_law_710 : decode cL_law 710 = .ok (.iload_n 3, 1) := by decide +kernel
theorem dL_law_711 : decode cL_law 711 = .ok (.iconst 3, 1) := by decide +kernel
theorem dL_law_712 : decode cL_law 712 = .ok (.iadd, 1) := by decide +kernel
theorem dL_law_713 : decode cL_law 713 = .ok (.iaload, 1) := by decide +kernel
theorem dL_law_714 : decode cL_law 714 = .ok (.invokevirtual 99, 3) := by decide +kernel
theorem dL_law_717 : decode cL_law 717 = .ok (.lcmp, 1) := by decide +kernel
theorem dL_law_718 : decode cL_law 718 = .ok (.ifCond .eq 117, 3) := by decide +kernel
theorem dL_law_721 : decode cL_law 721 = .ok (.iconst 0, 1) := by decide +kernel
theorem dL_law_722 : decode cL_law 722 = .ok (.ireturn, 1) := by decide +kernel
theorem dL_law_723 : decode cL_law 723 = .ok (.aload_n 1, 1) := by decide +kernel
theorem dL_law_724 : decode cL_law 724 = .ok (.aload_n 0, 1) := by decide +kernel
theorem dL_law_725 : decode cL_law 725 = .ok (.iload_n 3, 1) := by decide +kernel
theorem dL_law_726 : decode cL_law 726 = .ok (.iconst 1, 1) := by decide +kernel
theorem dL_law_727 : decode cL_law 727 = .ok (.iadd, 1) := by decide +kernel
theorem dL_law_728 : decode cL_law 728 = .ok (.iaload, 1) := by decide +kernel
theorem dL_law_729 : decode cL_law 729 = .ok (.aload_n 0, 1) := by decide +kernel
theorem dL_law_730 : decode cL_law 730 = .ok (.iload_n 3, 1) := by decide +kernel
theorem dL_law_731 : decode cL_law 731 = .ok (.iconst 2, 1) := by decide +kernel
theorem dL_law_732 : decode cL_law 732 = .ok (.iadd, 1) := by decide +kernel
theorem dL_law_733 : decode cL_law 733 = .ok (.iaload, 1) := by decide +kernel
theorem dL_law_734 : decode cL_law 734 = .ok (.aload_n 0, 1) := by decide +kernel
theorem dL_law_735 : decode cL_law 735 = .ok (.iload_n 3, 1) := by decide +kernel
theorem dL_law_736 : decode cL_law 736 = .ok (.iconst 3, 1) := by decide +kernel
theorem dL_law_737 : decode cL_law 737 = .ok (.iadd, 1) := by decide +kernel
theorem dL_law_738 : decode cL_law 738 = .ok (.iaload, 1) := by decide +kernel
theorem dL_law_739 : decode cL_law 739 = .ok (.invokevirtual 100, 3) := by decide +kernel
theorem dL_law_742 : decode cL_law 742 = .ok (.aload_n 2, 1) := by decide +kernel
theorem dL_law_743 : decode cL_law 743 = .ok (.aload_n 0, 1) := by decide +kernel
theorem dL_law_744 : decode cL_law 744 = .ok (.iload_n 3, 1) := by decide +kernel
theorem dL_law_745 : decode cL_law 745 = .ok (.iconst 1, 1) := by decide +kernel
theorem dL_law_746 : decode cL_law 746 = .ok (.iadd, 1) := by decide +kernel
theorem dL_law_747 : decode cL_law 747 = .ok (.iaload, 1) := by decide +kernel
theorem dL_law_748 : decode cL_law 748 = .ok (.aload_n 0, 1) := by decide +kernel
theorem dL_law_749 : decode cL_law 749 = .ok (.iload_n 3, 1) := by decide +kernel
theorem dL_law_750 : decode cL_law 750 = .ok (.iconst 2, 1) := by decide +kernel
theorem dL_law_751 : decode cL_law 751 = .ok (.iadd, 1) := by decide +kernel
theorem dL_law_752 : decode cL_law 752 = .ok (.iaload, 1) := by decide +kernel
theorem dL_law_753 : decode cL_law 753 = .ok (.aload_n 0, 1) := by decide +kernel
theorem dL_law_754 : decode cL_law 754 = .ok (.iload_n 3, 1) := by decide +kernel
theorem dL_law_755 : decode cL_law 755 = .ok (.iconst 3, 1) := by decide +kernel
theorem dL_law_756 : decode cL_law 756 = .ok (.iadd, 1) := by decide +kernel
theorem dL_law_757 : decode cL_law 757 = .ok (.iaload, 1) := by decide +kernel
theorem dL_law_758 : decode cL_law 758 = .ok (.invokevirtual 103, 3) := by decide +kernel
theorem dL_law_761 : decode cL_law 761 = .ok (.if_icmp .eq 74, 3) := by decide +kernel
theorem dL_law_764 : decode cL_law 764 = .ok (.iconst 0, 1) := by decide +kernel
theorem dL_law_765 : decode cL_law 765 = .ok (.ireturn, 1) := by decide +kernel
theorem dL_law_766 : decode cL_law 766 = .ok (.aload_n 1, 1) := by decide +kernel
theorem dL_law_767 : decode cL_law 767 = .ok (.aload_n 0, 1) := by decide +kernel
theorem dL_law_768 : decode cL_law 768 = .ok (.iload_n 3, 1) := by decide +kernel
theorem dL_law_769 : decode cL_law 769 = .ok (.iconst 1, 1) := by decide +kernel
theorem dL_law_770 : decode cL_law 770 = .ok (.iadd, 1) := by decide +kernel
theorem dL_law_771 : decode cL_law 771 = .ok (.iaload, 1) := by decide +kernel
theorem dL_law_772 : decode cL_law 772 = .ok (.invokevirtual 104, 3) := by decide +kernel
theorem dL_law_775 : decode cL_law 775 = .ok (.aload_n 2, 1) := by decide +kernel
theorem dL_law_776 : decode cL_law 776 = .ok (.aload_n 0, 1) := by decide +kernel
theorem dL_law_777 : decode cL_law 777 = .ok (.iload_n 3, 1) := by decide +kernel
theorem dL_law_778 : decode cL_law 778 = .ok (.iconst 1, 1) := by decide +kernel
theorem dL_law_779 : decode cL_law 779 = .ok (.iadd, 1) := by decide +kernel
theorem dL_law_780 : decode cL_law 780 = .ok (.iaload, 1) := by decide +kernel
theorem dL_law_781 : decode cL_law 781 = .ok (.invokevirtual 107, 3) := by decide +kernel
theorem dL_law_784 : decode cL_law 784 = .ok (.if_icmp .eq 51, 3) := by decide +kernel
theorem dL_law_787 : decode cL_law 787 = .ok (.iconst 0, 1) := by decide +kernel
theorem dL_law_788 : decode cL_law 788 = .ok (.ireturn, 1) := by decide +kernel
theorem dL_law_789 : decode cL_law 789 = .ok (.aload_n 1, 1) := by decide +kernel
theorem dL_law_790 : decode cL_law 790 = .ok (.aload_n 0, 1) := by decide +kernel
theorem dL_law_791 : decode cL_law 791 = .ok (.iload_n 3, 1) := by decide +kernel
theorem dL_law_792 : decode cL_law 792 = .ok (.iconst 1, 1) := by decide +kernel
theorem dL_law_793 : decode cL_law 793 = .ok (.iadd, 1) := by decide +kernel
theorem dL_law_794 : decode cL_law 794 = .ok (.iaload, 1) := by decide +kernel
theorem dL_law_795 : decode cL_law 795 = .ok (.invokevirtual 108, 3) := by decide +kernel
theorem dL_law_798 : decode cL_law 798 = .ok (.aload_n 2, 1) := by decide +kernel
theorem dL_law_799 : decode cL_law 799 = .ok (.aload_n 0, 1) := by decide +kernel
theorem dL_law_800 : decode cL_law 800 = .ok (.iload_n 3, 1) := by decide +kernel
theorem dL_law_801 : decode cL_law 801 = .ok (.iconst 1, 1) := by decide +kernel
theorem dL_law_802 : decode cL_law 802 = .ok (.iadd, 1) := by decide +kernel
theorem dL_law_803 : decode cL_law 803 = .ok (.iaload, 1) := by decide +kernel
theorem dL_law_804 : decode cL_law 804 = .ok (.invokevirtual 111, 3) := by decide +kernel
theorem dL_law_807 : decode cL_law 807 = .ok (.if_icmp .eq 28, 3) := by decide +kernel
theorem dL_law_810 : decode cL_law 810 = .ok (.iconst 0, 1) := by decide +kernel
theorem dL_law_811 : decode cL_law 811 = .ok (.ireturn, 1) := by decide +kernel
theorem dL_law_812 : decode cL_law 812 = .ok (.aload_n 1, 1) := by decide +kernel
theorem dL_law_813 : decode cL_law 813 = .ok (.aload_n 0, 1) := by decide +kernel
theorem dL_law_814 : decode cL_law 814 = .ok (.iload_n 3, 1) := by decide +kernel
theorem dL_law_815 : decode cL_law 815 = .ok (.iconst 1, 1) := by decide +kernel
theorem dL_law_816 : decode cL_law 816 = .ok (.iadd, 1) := by decide +kernel
theorem dL_law_817 : decode cL_law 817 = .ok (.iaload, 1) := by decide +kernel
theorem dL_law_818 : decode cL_law 818 = .ok (.invokevirtual 112, 3) := by decide +kernel
theorem dL_law_821 : decode cL_law 821 = .ok (.aload_n 2, 1) := by decide +kernel
theorem dL_law_822 : decode cL_law 822 = .ok (.aload_n 0, 1) := by decide +kernel
theorem dL_law_823 : decode cL_law 823 = .ok (.iload_n 3, 1) := by decide +kernel
theorem dL_law_824 : decode cL_law 824 = .ok (.iconst 1, 1) := by decide +kernel
theorem dL_law_825 : decode cL_law 825 = .ok (.iadd, 1) := by decide +kernel
theorem dL_law_826 : decode cL_law 826 = .ok (.iaload, 1) := by decide +kernel
theorem dL_law_827 : decode cL_law 827 = .ok (.invokevirtual 115, 3) := by decide +kernel
theorem dL_law_830 : decode cL_law 830 = .ok (.if_icmp .eq 5, 3) := by decide +kernel
theorem dL_law_833 : decode cL_law 833 = .ok (.iconst 0, 1) := by decide +kernel
theorem dL_law_834 : decode cL_law 834 = .ok (.ireturn, 1) := by decide +kernel
theorem dL_law_835 : decode cL_law 835 = .ok (.iinc 3 4, 3) := by decide +kernel
theorem dL_law_838 : decode cL_law 838 = .ok (.goto (-820), 3) := by decide +kernel
theorem dL_law_841 : decode cL_law 841 = .ok (.iconst 1, 1) := by decide +kernel
theorem dL_law_842 : decode cL_law 842 = .ok (.ireturn, 1) := by decide +kernel
end
section
def gtb : List Cond := lw_tbl.filter goodWord
theorem gt_at {w : Cond} (i : Nat) (h : tables_1[i]? = some w) (hg : goodWord w = true) : w ∈ gtb := List.mem_filter.mpr ⟨List.mem_append_right _ (List.mem_of_getElem? h), hg⟩
theorem gt_sel {w : Cond} (i : Nat) (h : (k2_sels lw_privs)[i]? = some w) (hg : goodWord w = true) : w ∈ gtb := List.mem_filter.mpr ⟨List.mem_append_left _ (List.mem_of_getElem? h), hg⟩
def nestL : List (String × Nat × MethodName × String) := [("KeyedTree", 9, ⟨"KeyedTree$World", "<init>", "()V"⟩, "KeyedTree"), ("KeyedTree", 21, ⟨"KeyedTree$Pad", "<init>", "()V"⟩, "KeyedTree"), ("KeyedTree", 41, ⟨"KeyedTree$Trial", "<init>", "()V"⟩, "KeyedTree"), ("KeyedTree$Trial", 11, ⟨"KeyedTree$Act", "<init>", "()V"⟩, "KeyedTree"), ("KeyedTree$Trial", 20, ⟨"KeyedTree$Tree", "<init>", "()V"⟩, "KeyedTree"), ("KeyedTree$Trial", 30, ⟨"KeyedTree$World", "<init>", "()V"⟩, "KeyedTree"), ("KeyedTree", 64, ⟨"KeyedTree$Image", "<init>", "()V"⟩, "KeyedTree"), ("KeyedTree$Image", 9, ⟨"KeyedTree$World", "<init>", "()V"⟩, "KeyedTree"), ("KeyedTree$Pad", 39, ⟨"KeyedTree", "isSet", "(I)Z"⟩, "KeyedTree"), ("KeyedTree$World", 51, ⟨"KeyedTree", "isIn", "(JI)Z"⟩, "KeyedTree"), ("KeyedTree$World", 25, ⟨"KeyedTree", "count", "(J)I"⟩, "KeyedTree"), ("KeyedTree$World", 55, ⟨"KeyedTree", "bit", "(I)J"⟩, "KeyedTree"), ("KeyedTree$World", 61, ⟨"KeyedTree", "less", "(I)J"⟩, "KeyedTree"), ("KeyedTree$Tree", 55, ⟨"KeyedTree", "priority", "(II)I"⟩, "KeyedTree"), ("KeyedTree$Tree", 45, ⟨"KeyedTree", "isIn", "(JI)Z"⟩, "KeyedTree"), ("KeyedTree$Tree", 58, ⟨"KeyedTree", "bit", "(I)J"⟩, "KeyedTree"), ("KeyedTree$Trial", 97, ⟨"KeyedTree", "isIn", "(JI)Z"⟩, "KeyedTree"), ("KeyedTree$Tree", 78, ⟨"KeyedTree", "count", "(J)I"⟩, "KeyedTree"), ("KeyedTree$Sights", 32, ⟨"KeyedTree", "ranksAbove", "(III)Z"⟩, "KeyedTree")]
def NWs (U : State) : Prop := (∀ q ∈ nestL, va_Nw (.methodLinkNest q.1 q.2.1 q.2.2.1 q.2.2.2) U) ∧ va_AO "KeyedTree$Image" U
theorem NWs.warm {s U : State} (hW : s.WarmedH U.vm) (h : NWs s) : NWs U := ⟨fun q hq => va_Nw.warmM hW (h.1 q hq), va_AO.moved hW.alike h.2⟩
theorem NWs.same {u U : State} (h : u.vm = U.vm) (hn : NWs u) : NWs U := ⟨fun q hq => va_Nw.same rfl h (hn.1 q hq), va_AO.moved (h ▸ Vm.Alike.refl u.vm) hn.2⟩
def rmm (d mc ms : Nat) : Room := { frames := d, cells := mc, slots := ms, locals := 40 * d }
abbrev CX : Type := Program × Launch × Env × Room × State × MethodId × Array Value × List Frame × Method × Code × (State → Prop) × (Nat → Prop)
abbrev xp (g : CX) : Program := g.1
abbrev xl (g : CX) : Launch := g.2.1
abbrev xe (g : CX) : Env := g.2.2.1
abbrev xR (g : CX) : Room := g.2.2.2.1
abbrev xs (g : CX) : State := g.2.2.2.2.1
abbrev xm (g : CX) : MethodId := g.2.2.2.2.2.1
abbrev xa (g : CX) : Array Value := g.2.2.2.2.2.2.1
abbrev xb (g : CX) : List Frame := g.2.2.2.2.2.2.2.1
abbrev xh (g : CX) : Method := g.2.2.2.2.2.2.2.2.1
abbrev xc (g : CX) : Code := g.2.2.2.2.2.2.2.2.2.1
abbrev xQ (g : CX) : State → Prop := g.2.2.2.2.2.2.2.2.2.2.1
abbrev xA (g : CX) : Nat → Prop := g.2.2.2.2.2.2.2.2.2.2.2
/-- the numbers of the classes, and of the arrays' classes: int, long, boolean, Image -/
abbrev EV : Type := va_G × ClassId × ClassId × ClassId × ClassId
abbrev tyE (E : EV) : List (ClassId × FieldType) := [(E.2.1, .int), (E.2.2.1, .long), (E.2.2.2.1, .boolean), (E.2.2.2.2, .object "KeyedTree$Image")]
/-- the machine comes to its end from pc, from every heap that holds the world ws and locals that hold lv -/
def WW (g : CX) (E : EV) (nL cells slots : Nat) (ws : va_W) (lv : List (Nat × Value)) (pc : Nat) (st : List Value) : Prop :=
  ∀ (H : Heap) (locs : List Loc) (ls : Array Slot), va_P E.1 vwCl ws H → va_D (xA g) ws → va_S (xA g) (xs g).heap H locs → lv_has ls nL lv → W (xp g) (xl g) (xe g) (xR g) (xs g) (xm g) (xa g) (xb g) (xh g) (xc g) H locs cells slots (xQ g) (F0 (xm g) pc ls st)
/-- what holds all through a method's walk -/
def GG (g : CX) (E : EV) (own : String) (cc : ByteArray) (nL : Nat) (ret : Option FieldType) (d mc ms : Nat) : Prop :=
  (xp g).tables.exec = Jvm.exec ∧ (xc g).code = cc ∧ (xc g).maxLocals = nL ∧ (xs g).vm.findClass own = some (xm g).cls ∧ (∀ w ∈ gtb, w.before (xa g) (xs g) = true) ∧ va_K E.1 vwCl (tyE E) (xs g) ∧ (∀ q, (xs g).heap.size ≤ q → xA g q) ∧ (d ≤ (xR g).frames ∧ 40 * d ≤ (xR g).locals ∧ mc ≤ (xR g).cells ∧ ms ≤ (xR g).slots) ∧ (xh g).sig.returnType = ret ∧ (xh g).locks = false ∧ NWs (xs g)
def QQ (E : EV) (post : Option Value → va_W → Prop) (A : Nat → Prop) : Array Value → State → Outcome → State → Prop := fun _ st oc t => (∃ (v : Option Value) (w : va_W), oc = .returned v ∧ post v w ∧ va_P E.1 vwCl w t.heap ∧ va_K E.1 vwCl (tyE E) t ∧ va_D A w) ∧ va_F A st t
def RQ (g : CX) (E : EV) (mc ms : Nat) (post : Option Value → va_W → Prop) : Prop := xQ g = MQ (xb g) (QQ E post (xA g)) (xa g) (xs g) mc ms (xA g)
def PP (E : EV) (av : List Value) (ws : va_W) (sz : Nat) : Array Value → State → Prop := va_Pc av (fun U => U.heap.size = sz ∧ va_P E.1 vwCl ws U.heap ∧ va_K E.1 vwCl (tyE E) U ∧ va_D (fun _ => True) ws ∧ NWs U)
/-- method y, called with av where the world ws stands, returns, and post holds of its answer and the world behind it -/
def Ret (l : Launch) (E : EV) (y : MethodName) (cc : ByteArray) (nL : Nat) (ret : Option FieldType) (d mc ms : Nat) (ws : va_W) (av : List Value) (post : Option Value → va_W → Prop) : Prop :=
  ∀ sz : Nat, Met l y (.code y cc nL ret :: gtb) (rmm d mc ms) (PP E av ws sz) (QQ E post (va_A ws sz)) mc ms (va_A ws sz)
/-- the same with one answer and one world behind -/
abbrev Ret1 (l : Launch) (E : EV) (y : MethodName) (cc : ByteArray) (nL : Nat) (ret : Option FieldType) (d : Nat) (ws : va_W) (av : List Value) (v : Option Value) (w : va_W) : Prop :=
  Ret l E y cc nL ret d 0 0 ws av (fun v' w' => v' = v ∧ w' = w)
theorem Ret.intro {l : Launch} {E : EV} {y : MethodName} {cc : ByteArray} {nL : Nat} {ret : Option FieldType} {d mc ms : Nat} {ws : va_W} {av : List Value} {post : Option Value → va_W → Prop} {lv : List (Nat × Value)} (hy : plainName y.cls = true) (hn : (lg_sl av).length ≤ nL) (hlv : lv_args 0 av = lv)
    (k : ∀ g : CX, xl g = l → GG g E y.cls cc nL ret d mc ms → RQ g E mc ms post → WW g E nL 0 0 ws lv 0 []) : Ret l E y cc nL ret d mc ms ws av post := by
  intro sz
  refine Met.ofW (cc := cc) (maxL := nL) (ret := ret) hy rfl ?_
  intro p e s m args below meth c s₁ B hml hv
  obtain ⟨rfl, hsz, hP, hK, hD0, hNW⟩ := hv
  subst hsz
  have hts := atoms_spec (ws := .code y cc nL ret :: gtb) B.pre
  have hl := lv_entry av (n := nL) hn
  rw [lg_entry_eq]
  rw [hlv] at hl
  exact k (p, l, e, rmm d mc ms, s, m, av.toArray, below, meth, c, MQ below (QQ E post (va_A ws s.heap.size)) av.toArray s mc ms (va_A ws s.heap.size), va_A ws s.heap.size) rfl
    ⟨B.exec, B.bytes, hml, findClass_of_methodNamed B.named, fun w hw => hts w (List.mem_cons_of_mem _ hw), hK, fun q h => Or.inr h, ⟨Nat.le_refl _, Nat.le_refl _, Nat.le_refl _, Nat.le_refl _⟩, B.returns, B.notSynchronized, hNW⟩ rfl s.heap [] _ hP hD0.self va_S.rf hl
section Base
variable {g : CX} {E : EV} {own : String} {cc : ByteArray} {nL : Nat} {ret : Option FieldType} {d mc ms cells slots : Nat} {ws ws2 : va_W} {lv lv2 : List (Nat × Value)} {pc : Nat} {st rest : List Value} {post : Option Value → va_W → Prop}
theorem w_lv (ks : List Nat) (hl : lv_pick lv ks = lv2) (k : WW g E nL cells slots ws lv2 pc st) : WW g E nL cells slots ws lv pc st := fun H locs ls hP hD hS hl' => k H locs ls hP hD hS (lv_sub hl' ks hl)
theorem w_iret {v : Int32} (G : GG g E own cc nL ret d mc ms) (hQ : RQ g E cells slots post) (hr : ret = some .int) (hp : post (some (.int v)) ws) (hd : decode cc pc = .ok (.ireturn, 1)) : WW g E nL cells slots ws lv pc [.int v] := by
  obtain ⟨hx, hb, hml, hown, hts, hK, hA, hR, hrr, hlk, hNW⟩ := G
  intro H locs ls hP hD hS hl
  rw [show xQ g = _ from hQ]
  exact W.iret (v := v) hx hb (hrr.trans hr) (fun t ht hW => ⟨⟨_, _, rfl, hp, by rw [ht]; exact hP, va_K.moved hW.alike hK, hD⟩, hS.F ht⟩) hS.2.2 hd hlk
theorem nar_z {v : Int32} (h : v = 0 ∨ v = 1) : narrow .boolean (.int v) = .int v := by rcases h with rfl | rfl <;> rfl
theorem w_zret {v : Int32} (G : GG g E own cc nL ret d mc ms) (hQ : RQ g E cells slots post) (hr : ret = some .boolean) (hz : v = 0 ∨ v = 1) (hp : post (some (.int v)) ws) (hd : decode cc pc = .ok (.ireturn, 1)) : WW g E nL cells slots ws lv pc [.int v] := by
  obtain ⟨hx, hb, hml, hown, hts, hK, hA, hR, hrr, hlk, hNW⟩ := G
  intro H locs ls hP hD hS hl
  rw [show xQ g = _ from hQ]
  exact W.zret (v := v) hx hb (hrr.trans hr) (nar_z hz) (fun t ht hW => ⟨⟨_, _, rfl, hp, by rw [ht]; exact hP, va_K.moved hW.alike hK, hD⟩, hS.F ht⟩) hS.2.2 hd hlk
theorem w_lret {v : Int64} (G : GG g E own cc nL ret d mc ms) (hQ : RQ g E cells slots post) (hr : ret = some .long) (hp : post (some (.long v)) ws) (hd : decode cc pc = .ok (.lreturn, 1)) : WW g E nL cells slots ws lv pc [.long v] := by
  obtain ⟨hx, hb, hml, hown, hts, hK, hA, hR, hrr, hlk, hNW⟩ := G
  intro H locs ls hP hD hS hl
  rw [show xQ g = _ from hQ]
  exact W.lret (v := v) hx hb (hrr.trans hr) (fun t ht hW => ⟨⟨_, _, rfl, hp, by rw [ht]; exact hP, va_K.moved hW.alike hK, hD⟩, hS.F ht⟩) hS.2.2 hd hlk
theorem w_vret (G : GG g E own cc nL ret d mc ms) (hQ : RQ g E cells slots post) (hr : ret = none) (hp : post none ws) (hd : decode cc pc = .ok (.return_, 1)) : WW g E nL cells slots ws lv pc [] := by
  obtain ⟨hx, hb, hml, hown, hts, hK, hA, hR, hrr, hlk, hNW⟩ := G
  intro H locs ls hP hD hS hl
  rw [show xQ g = _ from hQ]
  exact W.vret hx hb (hrr.trans hr) (fun t ht hW => ⟨⟨_, _, rfl, hp, by rw [ht]; exact hP, va_K.moved hW.alike hK, hD⟩, hS.F ht⟩) hS.2.2 hd hlk
end Base
end
section
section Base2
variable {g : CX} {E : EV} {own : String} {cc : ByteArray} {nL : Nat} {ret : Option FieldType} {d mc ms cells slots : Nat} {ws ws2 : va_W} {lv lv2 : List (Nat × Value)} {pc pc2 : Nat} {st rest : List Value} {post : Option Value → va_W → Prop}
theorem w_iadd (G : GG g E own cc nL ret d mc ms) {x y : Int32} (hd : decode cc pc = .ok (.iadd, 1))  (hp : pc + 1 = pc2) (k : WW g E nL cells slots ws lv pc2 (.int (x + y) :: rest)) : WW g E nL cells slots ws lv pc (.int y :: .int x :: rest) := by
  subst hp
  exact fun H locs ls hP hD hS hl => lv_iadd G.1 G.2.1 hd  (k H locs ls hP hD hS hl)
theorem w_isub (G : GG g E own cc nL ret d mc ms) {x y : Int32} (hd : decode cc pc = .ok (.isub, 1))  (hp : pc + 1 = pc2) (k : WW g E nL cells slots ws lv pc2 (.int (x - y) :: rest)) : WW g E nL cells slots ws lv pc (.int y :: .int x :: rest) := by
  subst hp
  exact fun H locs ls hP hD hS hl => lv_isub G.1 G.2.1 hd  (k H locs ls hP hD hS hl)
theorem w_imul (G : GG g E own cc nL ret d mc ms) {x y : Int32} (hd : decode cc pc = .ok (.imul, 1))  (hp : pc + 1 = pc2) (k : WW g E nL cells slots ws lv pc2 (.int (x * y) :: rest)) : WW g E nL cells slots ws lv pc (.int y :: .int x :: rest) := by
  subst hp
  exact fun H locs ls hP hD hS hl => lv_imul G.1 G.2.1 hd  (k H locs ls hP hD hS hl)
theorem w_iand (G : GG g E own cc nL ret d mc ms) {x y : Int32} (hd : decode cc pc = .ok (.iand, 1))  (hp : pc + 1 = pc2) (k : WW g E nL cells slots ws lv pc2 (.int (x &&& y) :: rest)) : WW g E nL cells slots ws lv pc (.int y :: .int x :: rest) := by
  subst hp
  exact fun H locs ls hP hD hS hl => lv_iand G.1 G.2.1 hd  (k H locs ls hP hD hS hl)
theorem w_ior (G : GG g E own cc nL ret d mc ms) {x y : Int32} (hd : decode cc pc = .ok (.ior, 1))  (hp : pc + 1 = pc2) (k : WW g E nL cells slots ws lv pc2 (.int (x ||| y) :: rest)) : WW g E nL cells slots ws lv pc (.int y :: .int x :: rest) := by
  subst hp
  exact fun H locs ls hP hD hS hl => lv_ior G.1 G.2.1 hd  (k H locs ls hP hD hS hl)
theorem w_ixor (G : GG g E own cc nL ret d mc ms) {x y : Int32} (hd : decode cc pc = .ok (.ixor, 1))  (hp : pc + 1 = pc2) (k : WW g E nL cells slots ws lv pc2 (.int (x ^^^ y) :: rest)) : WW g E nL cells slots ws lv pc (.int y :: .int x :: rest) := by
  subst hp
  exact fun H locs ls hP hD hS hl => lv_ixor G.1 G.2.1 hd  (k H locs ls hP hD hS hl)
theorem w_ishl (G : GG g E own cc nL ret d mc ms) {x y : Int32} (hd : decode cc pc = .ok (.ishl, 1))  (hp : pc + 1 = pc2) (k : WW g E nL cells slots ws lv pc2 (.int (x <<< (y &&& 31)) :: rest)) : WW g E nL cells slots ws lv pc (.int y :: .int x :: rest) := by
  subst hp
  exact fun H locs ls hP hD hS hl => lv_ishl G.1 G.2.1 hd  (k H locs ls hP hD hS hl)
theorem w_ishr (G : GG g E own cc nL ret d mc ms) {x y : Int32} (hd : decode cc pc = .ok (.ishr, 1))  (hp : pc + 1 = pc2) (k : WW g E nL cells slots ws lv pc2 (.int (x >>> (y &&& 31)) :: rest)) : WW g E nL cells slots ws lv pc (.int y :: .int x :: rest) := by
  subst hp
  exact fun H locs ls hP hD hS hl => lv_ishr G.1 G.2.1 hd  (k H locs ls hP hD hS hl)
theorem w_idiv (G : GG g E own cc nL ret d mc ms) {x y : Int32} (hd : decode cc pc = .ok (.idiv, 1)) (hne : ¬ y = 0) (hp : pc + 1 = pc2) (k : WW g E nL cells slots ws lv pc2 (.int (x / y) :: rest)) : WW g E nL cells slots ws lv pc (.int y :: .int x :: rest) := by
  subst hp
  exact fun H locs ls hP hD hS hl => lv_idiv G.1 G.2.1 hd hne (k H locs ls hP hD hS hl)
theorem w_irem (G : GG g E own cc nL ret d mc ms) {x y : Int32} (hd : decode cc pc = .ok (.irem, 1)) (hne : ¬ y = 0) (hp : pc + 1 = pc2) (k : WW g E nL cells slots ws lv pc2 (.int (x - x / y * y) :: rest)) : WW g E nL cells slots ws lv pc (.int y :: .int x :: rest) := by
  subst hp
  exact fun H locs ls hP hD hS hl => lv_irem G.1 G.2.1 hd hne (k H locs ls hP hD hS hl)
theorem w_ladd (G : GG g E own cc nL ret d mc ms) {x y : Int64} (hd : decode cc pc = .ok (.ladd, 1))  (hp : pc + 1 = pc2) (k : WW g E nL cells slots ws lv pc2 (.long (x + y) :: rest)) : WW g E nL cells slots ws lv pc (.long y :: .long x :: rest) := by
  subst hp
  exact fun H locs ls hP hD hS hl => lv_ladd G.1 G.2.1 hd  (k H locs ls hP hD hS hl)
theorem w_lsub (G : GG g E own cc nL ret d mc ms) {x y : Int64} (hd : decode cc pc = .ok (.lsub, 1))  (hp : pc + 1 = pc2) (k : WW g E nL cells slots ws lv pc2 (.long (x - y) :: rest)) : WW g E nL cells slots ws lv pc (.long y :: .long x :: rest) := by
  subst hp
  exact fun H locs ls hP hD hS hl => lv_lsub G.1 G.2.1 hd  (k H locs ls hP hD hS hl)
theorem w_lmul (G : GG g E own cc nL ret d mc ms) {x y : Int64} (hd : decode cc pc = .ok (.lmul, 1))  (hp : pc + 1 = pc2) (k : WW g E nL cells slots ws lv pc2 (.long (x * y) :: rest)) : WW g E nL cells slots ws lv pc (.long y :: .long x :: rest) := by
  subst hp
  exact fun H locs ls hP hD hS hl => lv_lmul G.1 G.2.1 hd  (k H locs ls hP hD hS hl)
theorem w_land (G : GG g E own cc nL ret d mc ms) {x y : Int64} (hd : decode cc pc = .ok (.land, 1))  (hp : pc + 1 = pc2) (k : WW g E nL cells slots ws lv pc2 (.long (x &&& y) :: rest)) : WW g E nL cells slots ws lv pc (.long y :: .long x :: rest) := by
  subst hp
  exact fun H locs ls hP hD hS hl => lv_land G.1 G.2.1 hd  (k H locs ls hP hD hS hl)
theorem w_lor (G : GG g E own cc nL ret d mc ms) {x y : Int64} (hd : decode cc pc = .ok (.lor, 1))  (hp : pc + 1 = pc2) (k : WW g E nL cells slots ws lv pc2 (.long (x ||| y) :: rest)) : WW g E nL cells slots ws lv pc (.long y :: .long x :: rest) := by
  subst hp
  exact fun H locs ls hP hD hS hl => lv_lor G.1 G.2.1 hd  (k H locs ls hP hD hS hl)
theorem w_lxor (G : GG g E own cc nL ret d mc ms) {x y : Int64} (hd : decode cc pc = .ok (.lxor, 1))  (hp : pc + 1 = pc2) (k : WW g E nL cells slots ws lv pc2 (.long (x ^^^ y) :: rest)) : WW g E nL cells slots ws lv pc (.long y :: .long x :: rest) := by
  subst hp
  exact fun H locs ls hP hD hS hl => lv_lxor G.1 G.2.1 hd  (k H locs ls hP hD hS hl)
theorem w_ldiv (G : GG g E own cc nL ret d mc ms) {x y : Int64} (hd : decode cc pc = .ok (.ldiv, 1)) (hne : ¬ y = 0) (hp : pc + 1 = pc2) (k : WW g E nL cells slots ws lv pc2 (.long (x / y) :: rest)) : WW g E nL cells slots ws lv pc (.long y :: .long x :: rest) := by
  subst hp
  exact fun H locs ls hP hD hS hl => lv_ldiv G.1 G.2.1 hd hne (k H locs ls hP hD hS hl)
theorem w_lrem (G : GG g E own cc nL ret d mc ms) {x y : Int64} (hd : decode cc pc = .ok (.lrem, 1)) (hne : ¬ y = 0) (hp : pc + 1 = pc2) (k : WW g E nL cells slots ws lv pc2 (.long (x - x / y * y) :: rest)) : WW g E nL cells slots ws lv pc (.long y :: .long x :: rest) := by
  subst hp
  exact fun H locs ls hP hD hS hl => lv_lrem G.1 G.2.1 hd hne (k H locs ls hP hD hS hl)
theorem w_ineg (G : GG g E own cc nL ret d mc ms) {x : Int32} (hd : decode cc pc = .ok (.ineg, 1))  (hp : pc + 1 = pc2) (k : WW g E nL cells slots ws lv pc2 (.int (-x) :: rest)) : WW g E nL cells slots ws lv pc (.int x :: rest) := by
  subst hp
  exact fun H locs ls hP hD hS hl => lv_ineg G.1 G.2.1 hd  (k H locs ls hP hD hS hl)
theorem w_lneg (G : GG g E own cc nL ret d mc ms) {x : Int64} (hd : decode cc pc = .ok (.lneg, 1))  (hp : pc + 1 = pc2) (k : WW g E nL cells slots ws lv pc2 (.long (-x) :: rest)) : WW g E nL cells slots ws lv pc (.long x :: rest) := by
  subst hp
  exact fun H locs ls hP hD hS hl => lv_lneg G.1 G.2.1 hd  (k H locs ls hP hD hS hl)
theorem w_lshl (G : GG g E own cc nL ret d mc ms) {x : Int64} {y : Int32} (hd : decode cc pc = .ok (.lshl, 1))  (hp : pc + 1 = pc2) (k : WW g E nL cells slots ws lv pc2 (.long (x <<< (y.toInt64 &&& 63)) :: rest)) : WW g E nL cells slots ws lv pc (.int y :: .long x :: rest) := by
  subst hp
  exact fun H locs ls hP hD hS hl => lv_lshl G.1 G.2.1 hd rfl (k H locs ls hP hD hS hl)
theorem w_lushr (G : GG g E own cc nL ret d mc ms) {x : Int64} {y : Int32} (hd : decode cc pc = .ok (.lushr, 1))  (hp : pc + 1 = pc2) (k : WW g E nL cells slots ws lv pc2 (.long (x.toUInt64 >>> (y.toInt64.toUInt64 &&& Int64.toUInt64 63)).toInt64 :: rest)) : WW g E nL cells slots ws lv pc (.int y :: .long x :: rest) := by
  subst hp
  exact fun H locs ls hP hD hS hl => lv_lushr G.1 G.2.1 hd rfl (k H locs ls hP hD hS hl)
theorem w_i2l (G : GG g E own cc nL ret d mc ms) {x : Int32} (hd : decode cc pc = .ok (.i2l, 1))  (hp : pc + 1 = pc2) (k : WW g E nL cells slots ws lv pc2 (.long x.toInt64 :: rest)) : WW g E nL cells slots ws lv pc (.int x :: rest) := by
  subst hp
  exact fun H locs ls hP hD hS hl => lv_i2l G.1 G.2.1 hd rfl (k H locs ls hP hD hS hl)
theorem w_l2i (G : GG g E own cc nL ret d mc ms) {x : Int64} (hd : decode cc pc = .ok (.l2i, 1))  (hp : pc + 1 = pc2) (k : WW g E nL cells slots ws lv pc2 (.int x.toInt32 :: rest)) : WW g E nL cells slots ws lv pc (.long x :: rest) := by
  subst hp
  exact fun H locs ls hP hD hS hl => lv_l2i G.1 G.2.1 hd rfl (k H locs ls hP hD hS hl)
theorem w_lcmp (G : GG g E own cc nL ret d mc ms) {x y : Int64} (hd : decode cc pc = .ok (.lcmp, 1))  (hp : pc + 1 = pc2) (k : WW g E nL cells slots ws lv pc2 (.int (lg_cmp x y) :: rest)) : WW g E nL cells slots ws lv pc (.long y :: .long x :: rest) := by
  subst hp
  exact fun H locs ls hP hD hS hl => W.lcmp G.1 G.2.1 hd  (k H locs ls hP hD hS hl)
theorem w_iconst (G : GG g E own cc nL ret d mc ms) {n : Int} {v : Int32} (hd : decode cc pc = .ok (.iconst n, 1)) (hv : Int32.ofInt n = v) (hp : pc + 1 = pc2) (k : WW g E nL cells slots ws lv pc2 (.int v :: rest)) : WW g E nL cells slots ws lv pc (rest) := by
  subst hp
  exact fun H locs ls hP hD hS hl => lv_iconst G.1 G.2.1 hd hv (k H locs ls hP hD hS hl)
theorem w_bipush (G : GG g E own cc nL ret d mc ms) {n : Int} {v : Int32} (hd : decode cc pc = .ok (.bipush n, 2)) (hv : (Int8.ofInt n).toInt32 = v) (hp : pc + 2 = pc2) (k : WW g E nL cells slots ws lv pc2 (.int v :: rest)) : WW g E nL cells slots ws lv pc (rest) := by
  subst hp
  exact fun H locs ls hP hD hS hl => lv_bipush G.1 G.2.1 hd hv (k H locs ls hP hD hS hl)
theorem w_sipush (G : GG g E own cc nL ret d mc ms) {n : Int} {v : Int32} (hd : decode cc pc = .ok (.sipush n, 3)) (hv : (Int16.ofInt n).toInt32 = v) (hp : pc + 3 = pc2) (k : WW g E nL cells slots ws lv pc2 (.int v :: rest)) : WW g E nL cells slots ws lv pc (rest) := by
  subst hp
  exact fun H locs ls hP hD hS hl => lv_sipush G.1 G.2.1 hd hv (k H locs ls hP hD hS hl)
theorem w_lconst (G : GG g E own cc nL ret d mc ms) {n : Fin 2} {v : Int64} (hd : decode cc pc = .ok (.lconst n, 1)) (hv : Int64.ofNat (n : Nat) = v) (hp : pc + 1 = pc2) (k : WW g E nL cells slots ws lv pc2 (.long v :: rest)) : WW g E nL cells slots ws lv pc (rest) := by
  subst hp
  exact fun H locs ls hP hD hS hl => lv_lconst G.1 G.2.1 hd hv (k H locs ls hP hD hS hl)
theorem w_dup (G : GG g E own cc nL ret d mc ms) {va : Value} (hd : decode cc pc = .ok (.dup, 1)) (hva : va.category = 1) (hp : pc + 1 = pc2) (k : WW g E nL cells slots ws lv pc2 (va :: va :: rest)) : WW g E nL cells slots ws lv pc (va :: rest) := by
  subst hp
  exact fun H locs ls hP hD hS hl => lv_dup G.1 G.2.1 hd hva (k H locs ls hP hD hS hl)
theorem w_dup2 (G : GG g E own cc nL ret d mc ms) {va vb : Value} (hd : decode cc pc = .ok (.dup2, 1)) (hva : va.category = 1) (hvb : vb.category = 1) (hp : pc + 1 = pc2) (k : WW g E nL cells slots ws lv pc2 (va :: vb :: va :: vb :: rest)) : WW g E nL cells slots ws lv pc (va :: vb :: rest) := by
  subst hp
  exact fun H locs ls hP hD hS hl => lv_dup2_11 G.1 G.2.1 hd hva hvb (k H locs ls hP hD hS hl)
theorem w_pop (G : GG g E own cc nL ret d mc ms) {va : Value} (hd : decode cc pc = .ok (.pop, 1)) (hva : va.category = 1) (hp : pc + 1 = pc2) (k : WW g E nL cells slots ws lv pc2 (rest)) : WW g E nL cells slots ws lv pc (va :: rest) := by
  subst hp
  exact fun H locs ls hP hD hS hl => lv_pop G.1 G.2.1 hd hva (k H locs ls hP hD hS hl)
theorem w_ldc (G : GG g E own cc nL ret d mc ms) {idx : Nat} {v : Int32} (hc : Cond.constant own idx v ∈ gtb) (hd : decode cc pc = .ok (.ldc idx, 2)) (hp : pc + 2 = pc2) (k : WW g E nL cells slots ws lv pc2 (.int v :: rest)) : WW g E nL cells slots ws lv pc (rest) := by
  subst hp
  exact fun H locs ls hP hD hS hl => lv_ldc G.1 G.2.1 G.2.2.2.1 (G.2.2.2.2.1 _ hc) hd (k H locs ls hP hD hS hl)
theorem w_ldc2 (G : GG g E own cc nL ret d mc ms) {idx : Nat} {v : Int64} (hc : Cond.constantLong own idx v ∈ gtb) (hd : decode cc pc = .ok (.ldc2_w idx, 3)) (hp : pc + 3 = pc2) (k : WW g E nL cells slots ws lv pc2 (.long v :: rest)) : WW g E nL cells slots ws lv pc (rest) := by
  subst hp
  exact fun H locs ls hP hD hS hl => lv_ldc2 G.1 G.2.1 G.2.2.2.1 (G.2.2.2.2.1 _ hc) hd (k H locs ls hP hD hS hl)
theorem w_iload_n (G : GG g E own cc nL ret d mc ms) {k4 : Fin 4} {i : Nat} {x : Int32} (j : Nat) (hj : lv[j]? = some (i, .int x)) (hd : decode cc pc = .ok (.iload_n k4, 1)) (hi : (k4 : Nat) = i) (hp : pc + 1 = pc2) (k : WW g E nL cells slots ws lv pc2 (.int x :: rest)) : WW g E nL cells slots ws lv pc rest := by
  subst hp
  exact fun H locs ls hP hD hS hl => lv_iload_n G.1 G.2.1 hd hi (lv_at hl j hj) (k H locs ls hP hD hS hl)
theorem w_iload (G : GG g E own cc nL ret d mc ms) {i : Nat} {x : Int32} (j : Nat) (hj : lv[j]? = some (i, .int x)) (hd : decode cc pc = .ok (.iload i, 2)) (hp : pc + 2 = pc2) (k : WW g E nL cells slots ws lv pc2 (.int x :: rest)) : WW g E nL cells slots ws lv pc rest := by
  subst hp
  exact fun H locs ls hP hD hS hl => lv_iload G.1 G.2.1 hd (lv_at hl j hj) (k H locs ls hP hD hS hl)
theorem w_lload_n (G : GG g E own cc nL ret d mc ms) {k4 : Fin 4} {i : Nat} {x : Int64} (j : Nat) (hj : lv[j]? = some (i, .long x)) (hd : decode cc pc = .ok (.lload_n k4, 1)) (hi : (k4 : Nat) = i) (hp : pc + 1 = pc2) (k : WW g E nL cells slots ws lv pc2 (.long x :: rest)) : WW g E nL cells slots ws lv pc rest := by
  subst hp
  exact fun H locs ls hP hD hS hl => lv_lload_n G.1 G.2.1 hd hi (lv_at hl j hj) (k H locs ls hP hD hS hl)
theorem w_lload (G : GG g E own cc nL ret d mc ms) {i : Nat} {x : Int64} (j : Nat) (hj : lv[j]? = some (i, .long x)) (hd : decode cc pc = .ok (.lload i, 2)) (hp : pc + 2 = pc2) (k : WW g E nL cells slots ws lv pc2 (.long x :: rest)) : WW g E nL cells slots ws lv pc rest := by
  subst hp
  exact fun H locs ls hP hD hS hl => lv_lload G.1 G.2.1 hd (lv_at hl j hj) (k H locs ls hP hD hS hl)
theorem w_aload_n (G : GG g E own cc nL ret d mc ms) {k4 : Fin 4} {i : Nat} {x : Nat} (j : Nat) (hj : lv[j]? = some (i, .ref x)) (hd : decode cc pc = .ok (.aload_n k4, 1)) (hi : (k4 : Nat) = i) (hp : pc + 1 = pc2) (k : WW g E nL cells slots ws lv pc2 (.ref x :: rest)) : WW g E nL cells slots ws lv pc rest := by
  subst hp
  exact fun H locs ls hP hD hS hl => lv_aload_n G.1 G.2.1 hd hi (lv_at hl j hj) (k H locs ls hP hD hS hl)
theorem w_aload (G : GG g E own cc nL ret d mc ms) {i : Nat} {x : Nat} (j : Nat) (hj : lv[j]? = some (i, .ref x)) (hd : decode cc pc = .ok (.aload i, 2)) (hp : pc + 2 = pc2) (k : WW g E nL cells slots ws lv pc2 (.ref x :: rest)) : WW g E nL cells slots ws lv pc rest := by
  subst hp
  exact fun H locs ls hP hD hS hl => lv_aload G.1 G.2.1 hd (lv_at hl j hj) (k H locs ls hP hD hS hl)
theorem w_istore_n (G : GG g E own cc nL ret d mc ms) {k4 : Fin 4} {i : Nat} {x : Int32} (hd : decode cc pc = .ok (.istore_n k4, 1)) (hi : (k4 : Nat) = i) (hn : i < nL) (hl : (i, Value.int x) :: lv.filter (fun q => !(q.1 == i) && !(q.1 + 1 == i && q.2.category == 2)) = lv2) (hp : pc + 1 = pc2) (k : WW g E nL cells slots ws lv2 pc2 rest) : WW g E nL cells slots ws lv pc (.int x :: rest) := by
  subst hp
  exact fun H locs ls hP hD hS hl0 => lv_istore_n G.1 G.2.1 hd hi hl0 hn hl (fun ls hl => k H locs ls hP hD hS hl)
theorem w_istore (G : GG g E own cc nL ret d mc ms) {i : Nat} {x : Int32} (hd : decode cc pc = .ok (.istore i, 2)) (hn : i < nL) (hl : (i, Value.int x) :: lv.filter (fun q => !(q.1 == i) && !(q.1 + 1 == i && q.2.category == 2)) = lv2) (hp : pc + 2 = pc2) (k : WW g E nL cells slots ws lv2 pc2 rest) : WW g E nL cells slots ws lv pc (.int x :: rest) := by
  subst hp
  exact fun H locs ls hP hD hS hl0 => lv_istore G.1 G.2.1 hd hl0 hn hl (fun ls hl => k H locs ls hP hD hS hl)
theorem w_lstore_n (G : GG g E own cc nL ret d mc ms) {k4 : Fin 4} {i : Nat} {x : Int64} (hd : decode cc pc = .ok (.lstore_n k4, 1)) (hi : (k4 : Nat) = i) (hn : i + 1 < nL) (hl : (i, Value.long x) :: lv.filter (fun q => !(q.1 == i) && (!(q.1 == i + 1) && !(q.1 + 1 == i && q.2.category == 2))) = lv2) (hp : pc + 1 = pc2) (k : WW g E nL cells slots ws lv2 pc2 rest) : WW g E nL cells slots ws lv pc (.long x :: rest) := by
  subst hp
  exact fun H locs ls hP hD hS hl0 => lv_lstore_n G.1 G.2.1 hd hi hl0 hn hl (fun ls hl => k H locs ls hP hD hS hl)
theorem w_lstore (G : GG g E own cc nL ret d mc ms) {i : Nat} {x : Int64} (hd : decode cc pc = .ok (.lstore i, 2)) (hn : i + 1 < nL) (hl : (i, Value.long x) :: lv.filter (fun q => !(q.1 == i) && (!(q.1 == i + 1) && !(q.1 + 1 == i && q.2.category == 2))) = lv2) (hp : pc + 2 = pc2) (k : WW g E nL cells slots ws lv2 pc2 rest) : WW g E nL cells slots ws lv pc (.long x :: rest) := by
  subst hp
  exact fun H locs ls hP hD hS hl0 => lv_lstore G.1 G.2.1 hd hl0 hn hl (fun ls hl => k H locs ls hP hD hS hl)
theorem w_astore_n (G : GG g E own cc nL ret d mc ms) {k4 : Fin 4} {i : Nat} {x : Nat} (hd : decode cc pc = .ok (.astore_n k4, 1)) (hi : (k4 : Nat) = i) (hn : i < nL) (hl : (i, Value.ref x) :: lv.filter (fun q => !(q.1 == i) && !(q.1 + 1 == i && q.2.category == 2)) = lv2) (hp : pc + 1 = pc2) (k : WW g E nL cells slots ws lv2 pc2 rest) : WW g E nL cells slots ws lv pc (.ref x :: rest) := by
  subst hp
  exact fun H locs ls hP hD hS hl0 => lv_astore_n G.1 G.2.1 hd hi hl0 hn hl (fun ls hl => k H locs ls hP hD hS hl)
theorem w_astore (G : GG g E own cc nL ret d mc ms) {i : Nat} {x : Nat} (hd : decode cc pc = .ok (.astore i, 2)) (hn : i < nL) (hl : (i, Value.ref x) :: lv.filter (fun q => !(q.1 == i) && !(q.1 + 1 == i && q.2.category == 2)) = lv2) (hp : pc + 2 = pc2) (k : WW g E nL cells slots ws lv2 pc2 rest) : WW g E nL cells slots ws lv pc (.ref x :: rest) := by
  subst hp
  exact fun H locs ls hP hD hS hl0 => lv_astore G.1 G.2.1 hd hl0 hn hl (fun ls hl => k H locs ls hP hD hS hl)
theorem w_iinc (G : GG g E own cc nL ret d mc ms) {i : Nat} {n : Int} {x v : Int32} (j : Nat) (hj : lv[j]? = some (i, .int x)) (hd : decode cc pc = .ok (.iinc i n, 3)) (hv : Int32.ofInt n = v) (hn : i < nL) (hl : (i, Value.int (x + v)) :: lv.filter (fun q => !(q.1 == i) && !(q.1 + 1 == i && q.2.category == 2)) = lv2) (hp : pc + 3 = pc2) (k : WW g E nL cells slots ws lv2 pc2 rest) : WW g E nL cells slots ws lv pc rest := by
  subst hp
  exact fun H locs ls hP hD hS hl0 => lv_iinc G.1 G.2.1 hd hl0 hj (by rw [hv]) hn hl (fun ls hl => k H locs ls hP hD hS hl)
theorem w_goto (G : GG g E own cc nL ret d mc ms) {off : Int} {tgt : Nat} (hd : decode cc pc = .ok (.goto off, 3)) (ht : (pc : Int) + off = (tgt : Int)) (k : WW g E nL cells slots ws lv tgt rest) : WW g E nL cells slots ws lv pc rest := fun H locs ls hP hD hS hl => lv_goto G.1 G.2.1 hd ht (k H locs ls hP hD hS hl)
theorem w_if_eq (G : GG g E own cc nL ret d mc ms) {x : Int32} {off : Int} {tgt : Nat} (hd : decode cc pc = .ok (.ifCond .eq off, 3)) (ht : (pc : Int) + off = (tgt : Int)) (hp : pc + 3 = pc2) (kt : x = 0 → WW g E nL cells slots ws lv tgt rest) (kf : ¬ x = 0 → WW g E nL cells slots ws lv pc2 rest) : WW g E nL cells slots ws lv pc (.int x :: rest) := by
  subst hp
  exact fun H locs ls hP hD hS hl => lv_if_eq G.1 G.2.1 hd ht (fun h => kt h H locs ls hP hD hS hl) (fun h => kf h H locs ls hP hD hS hl)
theorem w_icmp_eq (G : GG g E own cc nL ret d mc ms) {x y : Int32} {off : Int} {tgt : Nat} (hd : decode cc pc = .ok (.if_icmp .eq off, 3)) (ht : (pc : Int) + off = (tgt : Int)) (hp : pc + 3 = pc2) (kt : x = y → WW g E nL cells slots ws lv tgt rest) (kf : ¬ x = y → WW g E nL cells slots ws lv pc2 rest) : WW g E nL cells slots ws lv pc (.int y :: .int x :: rest) := by
  subst hp
  exact fun H locs ls hP hD hS hl => lv_icmp_eq G.1 G.2.1 hd ht (fun h => kt h H locs ls hP hD hS hl) (fun h => kf h H locs ls hP hD hS hl)
theorem w_if_ne (G : GG g E own cc nL ret d mc ms) {x : Int32} {off : Int} {tgt : Nat} (hd : decode cc pc = .ok (.ifCond .ne off, 3)) (ht : (pc : Int) + off = (tgt : Int)) (hp : pc + 3 = pc2) (kt : ¬ x = 0 → WW g E nL cells slots ws lv tgt rest) (kf : x = 0 → WW g E nL cells slots ws lv pc2 rest) : WW g E nL cells slots ws lv pc (.int x :: rest) := by
  subst hp
  exact fun H locs ls hP hD hS hl => lv_if_ne G.1 G.2.1 hd ht (fun h => kt h H locs ls hP hD hS hl) (fun h => kf h H locs ls hP hD hS hl)
theorem w_icmp_ne (G : GG g E own cc nL ret d mc ms) {x y : Int32} {off : Int} {tgt : Nat} (hd : decode cc pc = .ok (.if_icmp .ne off, 3)) (ht : (pc : Int) + off = (tgt : Int)) (hp : pc + 3 = pc2) (kt : ¬ x = y → WW g E nL cells slots ws lv tgt rest) (kf : x = y → WW g E nL cells slots ws lv pc2 rest) : WW g E nL cells slots ws lv pc (.int y :: .int x :: rest) := by
  subst hp
  exact fun H locs ls hP hD hS hl => lv_icmp_ne G.1 G.2.1 hd ht (fun h => kt h H locs ls hP hD hS hl) (fun h => kf h H locs ls hP hD hS hl)
theorem w_if_lt (G : GG g E own cc nL ret d mc ms) {x : Int32} {off : Int} {tgt : Nat} (hd : decode cc pc = .ok (.ifCond .lt off, 3)) (ht : (pc : Int) + off = (tgt : Int)) (hp : pc + 3 = pc2) (kt : x < 0 → WW g E nL cells slots ws lv tgt rest) (kf : ¬ x < 0 → WW g E nL cells slots ws lv pc2 rest) : WW g E nL cells slots ws lv pc (.int x :: rest) := by
  subst hp
  exact fun H locs ls hP hD hS hl => lv_if_lt G.1 G.2.1 hd ht (fun h => kt h H locs ls hP hD hS hl) (fun h => kf h H locs ls hP hD hS hl)
theorem w_icmp_lt (G : GG g E own cc nL ret d mc ms) {x y : Int32} {off : Int} {tgt : Nat} (hd : decode cc pc = .ok (.if_icmp .lt off, 3)) (ht : (pc : Int) + off = (tgt : Int)) (hp : pc + 3 = pc2) (kt : x < y → WW g E nL cells slots ws lv tgt rest) (kf : ¬ x < y → WW g E nL cells slots ws lv pc2 rest) : WW g E nL cells slots ws lv pc (.int y :: .int x :: rest) := by
  subst hp
  exact fun H locs ls hP hD hS hl => lv_icmp_lt G.1 G.2.1 hd ht (fun h => kt h H locs ls hP hD hS hl) (fun h => kf h H locs ls hP hD hS hl)
theorem w_if_ge (G : GG g E own cc nL ret d mc ms) {x : Int32} {off : Int} {tgt : Nat} (hd : decode cc pc = .ok (.ifCond .ge off, 3)) (ht : (pc : Int) + off = (tgt : Int)) (hp : pc + 3 = pc2) (kt : 0 ≤ x → WW g E nL cells slots ws lv tgt rest) (kf : ¬ 0 ≤ x → WW g E nL cells slots ws lv pc2 rest) : WW g E nL cells slots ws lv pc (.int x :: rest) := by
  subst hp
  exact fun H locs ls hP hD hS hl => lv_if_ge G.1 G.2.1 hd ht (fun h => kt h H locs ls hP hD hS hl) (fun h => kf h H locs ls hP hD hS hl)
theorem w_icmp_ge (G : GG g E own cc nL ret d mc ms) {x y : Int32} {off : Int} {tgt : Nat} (hd : decode cc pc = .ok (.if_icmp .ge off, 3)) (ht : (pc : Int) + off = (tgt : Int)) (hp : pc + 3 = pc2) (kt : y ≤ x → WW g E nL cells slots ws lv tgt rest) (kf : ¬ y ≤ x → WW g E nL cells slots ws lv pc2 rest) : WW g E nL cells slots ws lv pc (.int y :: .int x :: rest) := by
  subst hp
  exact fun H locs ls hP hD hS hl => lv_icmp_ge G.1 G.2.1 hd ht (fun h => kt h H locs ls hP hD hS hl) (fun h => kf h H locs ls hP hD hS hl)
theorem w_if_gt (G : GG g E own cc nL ret d mc ms) {x : Int32} {off : Int} {tgt : Nat} (hd : decode cc pc = .ok (.ifCond .gt off, 3)) (ht : (pc : Int) + off = (tgt : Int)) (hp : pc + 3 = pc2) (kt : 0 < x → WW g E nL cells slots ws lv tgt rest) (kf : ¬ 0 < x → WW g E nL cells slots ws lv pc2 rest) : WW g E nL cells slots ws lv pc (.int x :: rest) := by
  subst hp
  exact fun H locs ls hP hD hS hl => lv_if_gt G.1 G.2.1 hd ht (fun h => kt h H locs ls hP hD hS hl) (fun h => kf h H locs ls hP hD hS hl)
theorem w_icmp_gt (G : GG g E own cc nL ret d mc ms) {x y : Int32} {off : Int} {tgt : Nat} (hd : decode cc pc = .ok (.if_icmp .gt off, 3)) (ht : (pc : Int) + off = (tgt : Int)) (hp : pc + 3 = pc2) (kt : y < x → WW g E nL cells slots ws lv tgt rest) (kf : ¬ y < x → WW g E nL cells slots ws lv pc2 rest) : WW g E nL cells slots ws lv pc (.int y :: .int x :: rest) := by
  subst hp
  exact fun H locs ls hP hD hS hl => lv_icmp_gt G.1 G.2.1 hd ht (fun h => kt h H locs ls hP hD hS hl) (fun h => kf h H locs ls hP hD hS hl)
theorem w_if_le (G : GG g E own cc nL ret d mc ms) {x : Int32} {off : Int} {tgt : Nat} (hd : decode cc pc = .ok (.ifCond .le off, 3)) (ht : (pc : Int) + off = (tgt : Int)) (hp : pc + 3 = pc2) (kt : x ≤ 0 → WW g E nL cells slots ws lv tgt rest) (kf : ¬ x ≤ 0 → WW g E nL cells slots ws lv pc2 rest) : WW g E nL cells slots ws lv pc (.int x :: rest) := by
  subst hp
  exact fun H locs ls hP hD hS hl => lv_if_le G.1 G.2.1 hd ht (fun h => kt h H locs ls hP hD hS hl) (fun h => kf h H locs ls hP hD hS hl)
theorem w_icmp_le (G : GG g E own cc nL ret d mc ms) {x y : Int32} {off : Int} {tgt : Nat} (hd : decode cc pc = .ok (.if_icmp .le off, 3)) (ht : (pc : Int) + off = (tgt : Int)) (hp : pc + 3 = pc2) (kt : x ≤ y → WW g E nL cells slots ws lv tgt rest) (kf : ¬ x ≤ y → WW g E nL cells slots ws lv pc2 rest) : WW g E nL cells slots ws lv pc (.int y :: .int x :: rest) := by
  subst hp
  exact fun H locs ls hP hD hS hl => lv_icmp_le G.1 G.2.1 hd ht (fun h => kt h H locs ls hP hD hS hl) (fun h => kf h H locs ls hP hD hS hl)
theorem w_tabIn (G : GG g E own cc nL ret d mc ms) {dflt lo hi : Int} {offs : Array Int} {len : Nat} {x v : Int32} {off : Int} {tgt : Nat} (hv : x = v) (hd : decode cc pc = .ok (.tableswitch dflt lo hi offs, len)) (h1 : ¬ v.toInt < lo) (h2 : ¬ hi < v.toInt) (ho : offs[(v.toInt - lo).toNat]? = some off) (ht : (pc : Int) + off = (tgt : Int)) (k : WW g E nL cells slots ws lv tgt rest) : WW g E nL cells slots ws lv pc (.int x :: rest) := by
  subst hv
  exact fun H locs ls hP hD hS hl => lv_tableIn G.1 G.2.1 hd h1 h2 ho ht (k H locs ls hP hD hS hl)
theorem w_tabOut (G : GG g E own cc nL ret d mc ms) {dflt lo hi : Int} {offs : Array Int} {len : Nat} {x : Int32} {tgt : Nat} (hd : decode cc pc = .ok (.tableswitch dflt lo hi offs, len)) (h : x.toInt < lo ∨ hi < x.toInt) (ht : (pc : Int) + dflt = (tgt : Int)) (k : WW g E nL cells slots ws lv tgt rest) : WW g E nL cells slots ws lv pc (.int x :: rest) := fun H locs ls hP hD hS hl => lv_tableOut G.1 G.2.1 hd h ht (k H locs ls hP hD hS hl)
theorem w_look (G : GG g E own cc nL ret d mc ms) {dflt : Int} {ps : Array (Int × Int)} {len : Nat} {x : Int32} {off : Int} {tgt : Nat} (hd : decode cc pc = .ok (.lookupswitch dflt ps, len)) (hp : (ps.toList.zip (ps.toList.drop 1)).all (fun (a, next) => a.1 < next.1) = true) (ho : Op.lookupswitch.offset ps.toList dflt x.toInt = off) (ht : (pc : Int) + off = (tgt : Int)) (k : WW g E nL cells slots ws lv tgt rest) : WW g E nL cells slots ws lv pc (.int x :: rest) := fun H locs ls hP hD hS hl => lv_lookup G.1 G.2.1 hd hp ho ht (k H locs ls hP hD hS hl)
theorem ne_ti {x v : Int32} (h : ¬ x = v) : x.toInt ≠ v.toInt := fun e => h (Int32.toInt_inj.mp e)

/-- field k of class ci, as own's entry idx names it -/
def FOK (own : String) (idx ci k : Nat) (C : String) (T : u_T) (N : Nat) : Prop := vwCl[ci]? = some (C, T, N) ∧ k < N ∧ (∀ w ∈ u_ws C T N, w ∈ gtb) ∧ Cond.fieldLink own idx (T k).1 (T k).2.1 (T k).2.2.1 ∈ gtb
def TOK (T : u_T) (N : Nat) (ty : Nat → FieldType) : Prop := (∀ k, k < N → parseFieldDescriptor (T k).2.2.1 = some (ty k)) ∧ (∀ a, a < N → ∀ b, b < N → a ≠ b → (T a).2.1 ≠ (T b).2.1)
theorem w_get (G : GG g E own cc nL ret d mc ms) {idx ci k : Nat} {C : String} {T : u_T} {N a : Nat} {fs : List Value} {v : Value} (F : FOK own idx ci k C T N) (q0 : Nat) (he : ws[q0]? = some (a, .inr (ci, fs))) (hv : fs[k]? = some v) (hd : decode cc pc = .ok (.getfield idx, 3)) (hp : pc + 3 = pc2) (kk : WW g E nL cells slots ws lv pc2 (v :: rest)) : WW g E nL cells slots ws lv pc (.ref a :: rest) := by
  subst hp
  obtain ⟨hx, hb, hml, hown, hts, hK, hA, hR, hrr, hlk, hNW⟩ := G
  exact fun H locs ls hP hD hS hl => va_get (D := E.1) (ci := ci) (C := C) (T := T) (N := N) hx hb hts F.2.2.1 hown hK hP q0 he F.1 k F.2.1 (hts _ F.2.2.2) (fun _ h9 => h9) hv hd (kk H locs ls hP hD hS hl)
theorem w_put (G : GG g E own cc nL ret d mc ms) {idx ci k : Nat} {C : String} {T : u_T} {N a : Nat} {fs : List Value} {v : Value} {ty : Nat → FieldType} (F : FOK own idx ci k C T N) (Y : TOK T N ty) (q0 : Nat) (he : ws[q0]? = some (a, .inr (ci, fs))) (hfin : (T k).2.2.2 = false) (hnar : narrow (ty k) v = v) (hfit : fits (ty k) v = true) (hlen : k < fs.length) (hw : ws.set q0 (a, .inr (ci, fs.set k v)) = ws2) (hd : decode cc pc = .ok (.putfield idx, 3)) (hp : pc + 3 = pc2) (kk : WW g E nL cells slots ws2 lv pc2 rest) : WW g E nL cells slots ws lv pc (v :: .ref a :: rest) := by
  subst hp
  subst hw
  obtain ⟨hx, hb, hml, hown, hts, hK, hA, hR, hrr, hlk, hNW⟩ := G
  exact fun H locs ls hP hD hS hl => va_put (D := E.1) (ci := ci) (v := v) (ty := ty k) (C := C) (T := T) (N := N) hx hb hts F.2.2.1 ty Y.1 Y.2 hown hK hP hD hS q0 he F.1 k F.2.1 (hts _ F.2.2.2) (fun _ h9 => h9) hfin (Y.1 k F.2.1) hnar hfit hlen hd (fun H locs hP hD hS => kk H locs ls hP hD hS hl)
theorem fit_z {v : Int32} (h : v = 0 ∨ v = 1) : fits .boolean (.int v) = true := by rcases h with rfl | rfl <;> decide +kernel

theorem w_iald (G : GG g E own cc nL ret d mc ms) {a n : Nat} {f : Nat → Int32} {i : Int32} (q0 : Nat) (ha : ws[q0]? = some (a, .inl (E.2.1, n, .inl f))) (hin : vp_in i n) (hd : decode cc pc = .ok (.iaload, 1)) (hp : pc + 1 = pc2) (kk : WW g E nL cells slots ws lv pc2 (.int (f i.toNatClampNeg) :: rest)) : WW g E nL cells slots ws lv pc (.int i :: .ref a :: rest) := by
  subst hp
  exact fun H locs ls hP hD hS hl => va_iald G.1 G.2.1 G.2.2.2.2.2.1 hP q0 0 ha rfl hin hd (kk H locs ls hP hD hS hl)
theorem w_lald (G : GG g E own cc nL ret d mc ms) {a n : Nat} {f : Nat → Int64} {i : Int32} (q0 : Nat) (ha : ws[q0]? = some (a, .inl (E.2.2.1, n, .inr (.inl f)))) (hin : vp_in i n) (hd : decode cc pc = .ok (.laload, 1)) (hp : pc + 1 = pc2) (kk : WW g E nL cells slots ws lv pc2 (.long (f i.toNatClampNeg) :: rest)) : WW g E nL cells slots ws lv pc (.int i :: .ref a :: rest) := by
  subst hp
  exact fun H locs ls hP hD hS hl => va_lald G.1 G.2.1 G.2.2.2.2.2.1 hP q0 1 ha rfl hin hd (kk H locs ls hP hD hS hl)
theorem w_zald (G : GG g E own cc nL ret d mc ms) {a n : Nat} {f : Nat → Int32} {i : Int32} (q0 : Nat) (ha : ws[q0]? = some (a, .inl (E.2.2.2.1, n, .inl f))) (hin : vp_in i n) (hd : decode cc pc = .ok (.baload, 1)) (hp : pc + 1 = pc2) (kk : WW g E nL cells slots ws lv pc2 (.int (f i.toNatClampNeg) :: rest)) : WW g E nL cells slots ws lv pc (.int i :: .ref a :: rest) := by
  subst hp
  exact fun H locs ls hP hD hS hl => va_zald G.1 G.2.1 G.2.2.2.2.2.1 hP q0 2 ha rfl hin hd (kk H locs ls hP hD hS hl)
theorem w_iast (G : GG g E own cc nL ret d mc ms) {a n : Nat} {f : Nat → Int32} {i : Int32} {x : Int32} (q0 : Nat) (ha : ws[q0]? = some (a, .inl (E.2.1, n, .inl f))) (hin : vp_in i n) (hw : ws.set q0 (a, .inl (E.2.1, n, .inl (upd f i.toNatClampNeg x))) = ws2) (hd : decode cc pc = .ok (.iastore, 1)) (hp : pc + 1 = pc2) (kk : WW g E nL cells slots ws2 lv pc2 rest) : WW g E nL cells slots ws lv pc (.int x :: .int i :: .ref a :: rest) := by
  subst hp
  subst hw
  exact fun H locs ls hP hD hS hl => va_iast G.1 G.2.1 G.2.2.2.2.2.1 hP hD hS q0 0 ha rfl hin hd (fun H locs hP hD hS => kk H locs ls hP hD hS hl)
theorem w_last (G : GG g E own cc nL ret d mc ms) {a n : Nat} {f : Nat → Int64} {i : Int32} {x : Int64} (q0 : Nat) (ha : ws[q0]? = some (a, .inl (E.2.2.1, n, .inr (.inl f)))) (hin : vp_in i n) (hw : ws.set q0 (a, .inl (E.2.2.1, n, .inr (.inl (vp_updL f i.toNatClampNeg x)))) = ws2) (hd : decode cc pc = .ok (.lastore, 1)) (hp : pc + 1 = pc2) (kk : WW g E nL cells slots ws2 lv pc2 rest) : WW g E nL cells slots ws lv pc (.long x :: .int i :: .ref a :: rest) := by
  subst hp
  subst hw
  exact fun H locs ls hP hD hS hl => va_last G.1 G.2.1 G.2.2.2.2.2.1 hP hD hS q0 1 ha rfl hin hd (fun H locs hP hD hS => kk H locs ls hP hD hS hl)
theorem w_zast (G : GG g E own cc nL ret d mc ms) {a n : Nat} {f : Nat → Int32} {i : Int32} {x : Int32} (q0 : Nat) (ha : ws[q0]? = some (a, .inl (E.2.2.2.1, n, .inl f))) (hin : vp_in i n) (hw : ws.set q0 (a, .inl (E.2.2.2.1, n, .inl (upd f i.toNatClampNeg (vp_nar .boolean x)))) = ws2) (hd : decode cc pc = .ok (.bastore, 1)) (hp : pc + 1 = pc2) (kk : WW g E nL cells slots ws2 lv pc2 rest) : WW g E nL cells slots ws lv pc (.int x :: .int i :: .ref a :: rest) := by
  subst hp
  subst hw
  exact fun H locs ls hP hD hS hl => va_zast G.1 G.2.1 G.2.2.2.2.2.1 hP hD hS q0 2 ha rfl hin hd (fun H locs hP hD hS => kk H locs ls hP hD hS hl)
theorem w_aaload (G : GG g E own cc nL ret d mc ms) {a n v : Nat} {f : Nat → Option Nat} {i : Int32} (q0 : Nat) (ha : ws[q0]? = some (a, .inl (E.2.2.2.2, n, .inr (.inr (.inr (.inr f)))))) (hin : vp_in i n) (hf : f i.toNatClampNeg = some v) (hd : decode cc pc = .ok (.aaload, 1)) (hp : pc + 1 = pc2) (kk : WW g E nL cells slots ws lv pc2 (.ref v :: rest)) : WW g E nL cells slots ws lv pc (.int i :: .ref a :: rest) := by
  subst hp
  refine fun H locs ls hP hD hS hl => va_aldq G.1 G.2.1 G.2.2.2.2.2.1 hP q0 3 ha rfl hin hd ?_
  rw [hf]
  exact kk H locs ls hP hD hS hl
theorem w_copyl (G : GG g E own cc nL ret d mc ms) {idx : Nat} (hL : Cond.methodLink own idx arraycopyName ∈ gtb) (hN : Cond.native arraycopyName ∈ gtb) (hSt : Cond.static arraycopyName ∈ gtb) (hI : Cond.initialized "java/lang/System" ∈ gtb) {a a0 n : Nat} {f f2 : Nat → Int64} {sz : Int32} (q0 q1 : Nat) (ha0 : ws[q0]? = some (a0, .inl (E.2.2.1, n, .inr (.inl f)))) (ha1 : ws[q1]? = some (a, .inl (E.2.2.1, n, .inr (.inl f2)))) (hz : ¬ sz < 0) (hn : sz.toNatClampNeg ≤ n) (h1 : 1 ≤ d) (hr : (rest.map fun v => v.category).sum + (nativeFrameWords "java/lang/System" "arraycopy" 5 + 11) ≤ 40) (hw : ws.set q1 (a, .inl (E.2.2.1, n, .inr (.inl (va_cpy f f2 0 0 sz.toNatClampNeg)))) = ws2) (hd : decode cc pc = .ok (.invokestatic idx, 3)) (hp : pc + 3 = pc2) (kk : WW g E nL cells slots ws2 lv pc2 rest) : WW g E nL cells slots ws lv pc (.int sz :: .int 0 :: .ref a :: .int 0 :: .ref a0 :: rest) := by
  subst hp
  subst hw
  obtain ⟨hx, hb, hml, hown, hts, hK, hA, hR, hrr, hlk, hNW⟩ := G
  exact fun H locs ls hP hD hS hl => va_copyl hx hb (hml.trans hl.1.symm) hown (hts _ hL) (hts _ hN) (hts _ hSt) (hts _ hI) hK hP hD hS q0 q1 1 1 (ty := .long) ha0 ha1 rfl rfl rfl (by decide) (by decide) hz (by rw [show (0 : Int32).toNatClampNeg = 0 from rfl, Nat.zero_add]; exact hn) (by rw [show (0 : Int32).toNatClampNeg = 0 from rfl, Nat.zero_add]; exact hn) (fun i hi => rfl) (Nat.le_trans h1 hR.1) (Nat.le_trans hr (Nat.le_trans (by omega) hR.2.1)) hd (fun H locs hP hD hS => kk H locs ls hP hD hS hl)

theorem w_mmax (G : GG g E own cc nL ret d mc ms) {idx : Nat} {x y : Int32} (hL : Cond.methodLink own idx Lib.Math.max.name ∈ gtb) (hSt : Cond.static Lib.Math.max.name ∈ gtb) (hI : Cond.initialized "java/lang/Math" ∈ gtb) (hC : Cond.code Lib.Math.max.name Lib.Math.max.code 2 (some .int) ∈ gtb) (h1 : 1 ≤ d) (hc0 : cells ≤ mc) (hs0 : slots ≤ ms) (hr : (rest.map fun v => v.category).sum + 13 ≤ 40) (hd : decode cc pc = .ok (.invokestatic idx, 3)) (hp : pc + 3 = pc2) (kk : WW g E nL cells slots ws lv pc2 (.int (if x < y then y else x) :: rest)) : WW g E nL cells slots ws lv pc (.int y :: .int x :: rest) := by
  subst hp
  obtain ⟨hx, hb, hml, hown, hts, hK, hA, hR, hrr, hlk, hNW⟩ := G
  exact fun H locs ls hP hD hS hl => va_mmax hx hb (hml.trans hl.1.symm) hown (hts _ hL) (hts _ hSt) (hts _ hI) (hts _ hC) (Nat.le_trans h1 hR.1) (Nat.le_trans hr (Nat.le_trans (by omega) hR.2.1)) (Nat.le_trans hc0 hR.2.2.1) (Nat.le_trans hs0 hR.2.2.2) hd (kk H locs ls hP hD hS hl)
theorem w_mmaxL (G : GG g E own cc nL ret d mc ms) {idx : Nat} {x y : Int64} (hL : Cond.methodLink own idx Lib.MathLoose.max_long.x ∈ gtb) (hSt : Cond.static Lib.MathLoose.max_long.x ∈ gtb) (hI : Cond.initialized "java/lang/Math" ∈ gtb) (hC : Cond.code Lib.MathLoose.max_long.x Lib.MathLoose.max_long.code 4 (some .long) ∈ gtb) (h1 : 1 ≤ d) (hc0 : cells ≤ mc) (hs0 : slots ≤ ms) (hr : (rest.map fun v => v.category).sum + 15 ≤ 40) (hd : decode cc pc = .ok (.invokestatic idx, 3)) (hp : pc + 3 = pc2) (kk : WW g E nL cells slots ws lv pc2 (.long (if y < x then x else y) :: rest)) : WW g E nL cells slots ws lv pc (.long y :: .long x :: rest) := by
  subst hp
  obtain ⟨hx, hb, hml, hown, hts, hK, hA, hR, hrr, hlk, hNW⟩ := G
  exact fun H locs ls hP hD hS hl => va_mmax_long hx hb (hml.trans hl.1.symm) hown (hts _ hL) (hts _ hSt) (hts _ hI) (hts _ hC) (Nat.le_trans h1 hR.1) (Nat.le_trans hr (Nat.le_trans (by omega) hR.2.1)) (Nat.le_trans hc0 hR.2.2.1) (Nat.le_trans hs0 hR.2.2.2) hd (kk H locs ls hP hD hS hl)
theorem w_mabs (G : GG g E own cc nL ret d mc ms) {idx : Nat} {x : Int32} (hL : Cond.methodLink own idx Lib.Math.abs.name ∈ gtb) (hSt : Cond.static Lib.Math.abs.name ∈ gtb) (hI : Cond.initialized "java/lang/Math" ∈ gtb) (hC : Cond.code Lib.Math.abs.name Lib.Math.abs.code 1 (some .int) ∈ gtb) (h1 : 1 ≤ d) (hc0 : cells ≤ mc) (hs0 : slots ≤ ms) (hr : (rest.map fun v => v.category).sum + 13 ≤ 40) (hd : decode cc pc = .ok (.invokestatic idx, 3)) (hp : pc + 3 = pc2) (kk : WW g E nL cells slots ws lv pc2 (.int (if 0 ≤ x then x else 0 - x) :: rest)) : WW g E nL cells slots ws lv pc (.int x :: rest) := by
  subst hp
  obtain ⟨hx, hb, hml, hown, hts, hK, hA, hR, hrr, hlk, hNW⟩ := G
  exact fun H locs ls hP hD hS hl => va_mabs hx hb (hml.trans hl.1.symm) hown (hts _ hL) (hts _ hSt) (hts _ hI) (hts _ hC) (Nat.le_trans h1 hR.1) (Nat.le_trans hr (Nat.le_trans (by omega) hR.2.1)) (Nat.le_trans hc0 hR.2.2.1) (Nat.le_trans hs0 hR.2.2.2) hd (kk H locs ls hP hD hS hl)
/-- a callee, as own's entry idx names it: its words are among the tables' -/
def COK (own : String) (idx : Nat) (y : MethodName) (bytes : ByteArray) (maxL : Nat) (rt : Option FieldType) (n : Nat) : Prop := Cond.methodLink own idx y ∈ gtb ∧ Cond.initialized y.cls ∈ gtb ∧ Cond.code y bytes maxL rt ∈ gtb ∧ (y.cls ≠ "java/lang/invoke/MethodHandle" ∧ y.cls ≠ "java/lang/invoke/VarHandle" ∧ (parseMethodDescriptor y.desc).map (fun d => d.parameters.length) = some n) ∧ maxL ≤ 21
def VOK (own : String) (idx : Nat) (y : MethodName) (bytes : ByteArray) (maxL : Nat) (rt : Option FieldType) (n : Nat) : Prop := COK own idx y bytes maxL rt n ∧ Cond.instanceMethod y ∈ gtb ∧ Cond.selects y.cls y y ∈ gtb
def SOK (own : String) (idx : Nat) (y : MethodName) (bytes : ByteArray) (maxL : Nat) (rt : Option FieldType) (n : Nat) : Prop := COK own idx y bytes maxL rt n ∧ Cond.static y ∈ gtb
theorem tb_good : gtb.all goodWord = true := List.all_eq_true.mpr (fun w h => (List.mem_filter.mp h).2)
theorem tb_in {y : MethodName} {bytes : ByteArray} {maxL : Nat} {rt : Option FieldType} (h : Cond.code y bytes maxL rt ∈ gtb) : GoodIn gtb (Cond.code y bytes maxL rt :: gtb) := fun w hw => by
  have hm : w ∈ gtb := (List.mem_cons.mp hw).elim (fun e => e ▸ h) id
  exact ⟨hm, good_of_word (List.all_eq_true.mp tb_good w hm)⟩
theorem pp_blind {E : EV} {av : List Value} {ws : va_W} {sz : Nat} : FrameBlind (PP E av ws sz) := fun a U g mk q => by
  obtain ⟨q0, q1, qP, qK, qD, qN⟩ := q
  exact ⟨q0, q1, qP, va_K.moved (u := U) (U := U.calling g mk a) (Vm.Alike.refl U.vm) qK, qD, NWs.same (u := U) (U := U.calling g mk a) rfl qN⟩
theorem callB_at (G : GG g E own cc nL ret d mc ms) {idx : Nat} {y : MethodName} {bytes : ByteArray} {maxL n d' mc' ms' : Nat} {rt : Option FieldType} (K : COK own idx y bytes maxL rt n) (hd : d' < d) : CallB (xR g) (xs g) (xa g) own idx y bytes maxL rt (Cond.code y bytes maxL rt :: gtb) (rmm d' mc' ms') mc' ms' n := by
  obtain ⟨hx, hb, hml, hown, hts, hK, hA, hR, hrr, hlk, hNW⟩ := G
  refine callB_of n hts (tb_in K.2.2.1) rfl rfl rfl (hts _ K.2.1) (hts _ K.1) K.2.2.2.1 ⟨Nat.le_trans (show d' + 1 ≤ d from hd) hR.1, Nat.le_trans ?_ hR.2.1⟩
  have := K.2.2.2.2
  show 8 + (maxL + 11) + 40 * d' ≤ 40 * d
  omega
/-- behind a call: the callee's cells wc have become w1, the rest is as it was -/
theorem after_call (G : GG g E own cc nL ret d mc ms) {wc : va_W} {rest' : List Value} {v : Option Value} {mc' ms' : Nat} {H : Heap} {locs : List Loc} {ls : Array Slot} {stk : List Value} {av : List Value} (hP : va_P E.1 vwCl ws H) (hD : va_D (xA g) ws) (hS : va_S (xA g) (xs g).heap H locs) (isC isR : List Nat) (hC : isC.map (fun i => ws[i]?) = wc.map some) (hRr : isR.map (fun i => ws[i]?) = (isR.filterMap (fun i => ws[i]?)).map some) (hn : va_nd isR = true) (hdis : isR.all (fun i => !isC.contains i) = true)
    (hr : va_Run (xp g) (xl g) (xe g) (xR g) (xs g) (xm g) (xa g) (xb g) (xh g) (xc g) H locs cells slots mc' ms' (F0 (xm g) pc ls stk) rest (QQ E post (va_A wc H.size) av.toArray) (va_A wc H.size))
    (kk : ∀ (v : Option Value) (w1 : va_W) (H1 : Heap) (locs1 : List Loc), post v w1 → va_P E.1 vwCl (isR.filterMap (fun i => ws[i]?) ++ w1) H1 → va_D (xA g) (isR.filterMap (fun i => ws[i]?) ++ w1) → va_S (xA g) (xs g).heap H1 locs1 → W (xp g) (xl g) (xe g) (xR g) (xs g) (xm g) (xa g) (xb g) (xh g) (xc g) H1 locs1 (cells + mc') (slots + ms') (xQ g) (F0 (xm g) (pc + 3) ls (v.toList ++ rest))) : W (xp g) (xl g) (xe g) (xR g) (xs g) (xm g) (xa g) (xb g) (xh g) (xc g) H locs cells slots (xQ g) (F0 (xm g) pc ls stk) := by
  obtain ⟨hx, hb, hml, hown, hts, hK, hA, hR, hrr, hlk, hNW⟩ := G
  have hF := va_free (wc := wc) hD hS hA isC hC
  intro T hT X
  obtain ⟨v, st₀, t, T', L, h0, X', hL, e1, e2, ⟨⟨v', w1, hv, hp, hP1, hK1, hD1⟩, hz, hk⟩, stp⟩ := hr T hT X
  cases hv
  rw [h0] at hz hk
  obtain ⟨hP2, hD2⟩ := va_join hP hD isC isR hC hRr hn (fun i hi hi2 => by
    have := List.all_eq_true.mp hdis i hi
    simp [hi2] at this) hk hF hP1 hD1
  obtain ⟨t2, a1, b1⟩ := kk v w1 T'.heap (locs ++ L) hp (by rw [e1]; exact hP2) hD2
    ⟨Nat.le_trans hS.1 (by rw [e1]; exact hz), fun q h1 h2 => by rw [e1, hk q (Nat.lt_of_lt_of_le h1 hS.1) (fun z => h2 (hF q z))]; exact hS.2.1 q h1 h2, fun q hq => by
      rcases List.mem_append.mp hq with h | h
      · exact hS.2.2 q h
      · exact hF _ (hL q h)⟩ T' rfl X'
  exact ⟨t2, stp t2 a1, b1⟩
theorem pp_at (G : GG g E own cc nL ret d mc ms) {wc : va_W} {H : Heap} {av : List Value} (hP : va_P E.1 vwCl ws H) (hD : va_D (xA g) ws) (isC : List Nat) (hC : isC.map (fun i => ws[i]?) = wc.map some) (hnC : va_nd isC = true) : ∀ U : State, U.heap = H → (xs g).WarmedH U.vm → PP E av wc H.size av.toArray U := by
  intro U hU hW
  have hPc : va_P E.1 vwCl wc H := hP.sub isC (by
    have h : (isC.map (fun i => ws[i]?)).filterMap id = (wc.map some).filterMap id := by rw [hC]
    rw [List.filterMap_map, List.filterMap_map] at h
    simpa using h)
  have hDc := hD.sub (ws' := wc) isC hnC hC
  exact ⟨rfl, by rw [hU], by rw [hU]; exact hPc, va_K.moved hW.alike G.2.2.2.2.2.1, hDc.weaken (fun _ _ _ _ => trivial), NWs.warm hW G.2.2.2.2.2.2.2.2.2.2⟩
theorem w_callV (G : GG g E own cc nL ret d mc ms) {idx : Nat} {y : MethodName} {bytes : ByteArray} {maxL n d' mc' ms' : Nat} {rt : Option FieldType} {wc : va_W} {o : Nat} {As : List Value} (K : VOK own idx y bytes maxL rt n) (hM : Ret (xl g) E y bytes maxL rt d' mc' ms' wc (.ref o :: As) post) (hdd : d' < d) (ci : Nat) {T : u_T} {N : Nat} {fs : List Value} (hc : vwCl[ci]? = some (y.cls, T, N)) (hrv : wc[0]? = some (o, .inr (ci, fs))) (isC isR : List Nat) (hC : isC.map (fun i => ws[i]?) = wc.map some) (hRr : isR.map (fun i => ws[i]?) = (isR.filterMap (fun i => ws[i]?)).map some) (hnC : va_nd isC = true) (hn : va_nd isR = true) (hdis : isR.all (fun i => !isC.contains i) = true) (hlen : As.length = n) (hst : st = As.reverse ++ .ref o :: rest) (hW : (rest.map fun v => v.category).sum ≤ 8) (hf : cells + mc' ≤ mc ∧ slots + ms' ≤ ms) (hd : decode cc pc = .ok (.invokevirtual idx, 3)) (hp : pc + 3 = pc2)
    (k : ∀ (v : Option Value) (w1 : va_W), post v w1 → WW g E nL (cells + mc') (slots + ms') (isR.filterMap (fun i => ws[i]?) ++ w1) lv pc2 (v.toList ++ rest)) : WW g E nL cells slots ws lv pc st := by
  subst hp
  intro H locs ls hP hD hS hl
  have hR := G.2.2.2.2.2.2.2.1
  have hpp := pp_at (wc := wc) (av := .ref o :: As) G hP hD isC hC hnC
  refine after_call (post := post) (wc := wc) (av := .ref o :: As) (v := none) (rest' := []) G hP hD hS isC isR hC hRr hn hdis (va_runV (As := As) (rest := rest) ⟨G.1, G.2.1, G.2.2.1, G.2.2.2.1, G.2.2.2.2.1⟩ (hM H.size) ⟨callB_at G K.1 hdd, G.2.2.2.2.1 _ K.2.1, G.2.2.2.2.1 _ K.2.2⟩ ⟨pp_blind, ?_, hpp⟩ rfl hlen hl.1 hst (lv_room hW) hd ⟨Nat.le_trans hf.1 hR.2.2.1, Nat.le_trans hf.2 hR.2.2.2⟩) (fun v w1 H1 locs1 hp hP1 hD1 hS1 => k v w1 hp H1 locs1 ls hP1 hD1 hS1 hl)
  have hPc : va_P E.1 vwCl wc H := hP.sub isC (by
    have h : (isC.map (fun i => ws[i]?)).filterMap id = (wc.map some).filterMap id := by rw [hC]
    rw [List.filterMap_map, List.filterMap_map] at h
    simpa using h)
  exact va_recv G.2.2.2.2.2.1 hPc (ci := ci) (q0 := 0) hc hrv
theorem w_callS (G : GG g E own cc nL ret d mc ms) {idx : Nat} {y : MethodName} {bytes : ByteArray} {maxL n d' mc' ms' : Nat} {rt : Option FieldType} {wc : va_W} {As : List Value} (K : SOK own idx y bytes maxL rt n) (hM : Ret (xl g) E y bytes maxL rt d' mc' ms' wc As post) (hdd : d' < d) (isC isR : List Nat) (hC : isC.map (fun i => ws[i]?) = wc.map some) (hRr : isR.map (fun i => ws[i]?) = (isR.filterMap (fun i => ws[i]?)).map some) (hnC : va_nd isC = true) (hn : va_nd isR = true) (hdis : isR.all (fun i => !isC.contains i) = true) (hlen : As.length = n) (hst : st = As.reverse ++ rest) (hW : (rest.map fun v => v.category).sum ≤ 8) (hf : cells + mc' ≤ mc ∧ slots + ms' ≤ ms) (hd : decode cc pc = .ok (.invokestatic idx, 3)) (hp : pc + 3 = pc2)
    (k : ∀ (v : Option Value) (w1 : va_W), post v w1 → WW g E nL (cells + mc') (slots + ms') (isR.filterMap (fun i => ws[i]?) ++ w1) lv pc2 (v.toList ++ rest)) : WW g E nL cells slots ws lv pc st := by
  subst hp
  intro H locs ls hP hD hS hl
  have hR := G.2.2.2.2.2.2.2.1
  have hpp := pp_at (wc := wc) (av := As) G hP hD isC hC hnC
  exact after_call (post := post) (wc := wc) (av := As) (v := none) (rest' := []) G hP hD hS isC isR hC hRr hn hdis (va_runS (As := As) (rest := rest) ⟨G.1, G.2.1, G.2.2.1, G.2.2.2.1, G.2.2.2.2.1⟩ (hM H.size) ⟨callB_at G K.1 hdd, G.2.2.2.2.1 _ K.2⟩ ⟨pp_blind, hpp⟩ rfl hlen hl.1 hst (lv_room hW) hd ⟨Nat.le_trans hf.1 hR.2.2.1, Nat.le_trans hf.2 hR.2.2.2⟩) (fun v w1 H1 locs1 hp hP1 hD1 hS1 => k v w1 hp H1 locs1 ls hP1 hD1 hS1 hl)
theorem w_callI (G : GG g E own cc nL ret d mc ms) {idx : Nat} {y : MethodName} {bytes : ByteArray} {maxL n d' mc' ms' : Nat} {wc : va_W} {o : Nat} {As : List Value} (K : COK own idx y bytes maxL none n ∧ y.name = "<init>" ∧ Cond.instanceMethod y ∈ gtb) (hM : Ret (xl g) E y bytes maxL none d' mc' ms' wc (.ref o :: As) post) (hdd : d' < d) (isC isR : List Nat) (hC : isC.map (fun i => ws[i]?) = wc.map some) (hRr : isR.map (fun i => ws[i]?) = (isR.filterMap (fun i => ws[i]?)).map some) (hnC : va_nd isC = true) (hn : va_nd isR = true) (hdis : isR.all (fun i => !isC.contains i) = true) (hlen : As.length = n) (hst : st = As.reverse ++ .ref o :: rest) (hW : (rest.map fun v => v.category).sum ≤ 8) (hf : cells + mc' ≤ mc ∧ slots + ms' ≤ ms) (hd : decode cc pc = .ok (.invokespecial idx, 3)) (hp : pc + 3 = pc2)
    (k : ∀ (v : Option Value) (w1 : va_W), post v w1 → WW g E nL (cells + mc') (slots + ms') (isR.filterMap (fun i => ws[i]?) ++ w1) lv pc2 (v.toList ++ rest)) : WW g E nL cells slots ws lv pc st := by
  subst hp
  intro H locs ls hP hD hS hl
  have hR := G.2.2.2.2.2.2.2.1
  have hpp := pp_at (wc := wc) (av := .ref o :: As) G hP hD isC hC hnC
  exact after_call (post := post) (wc := wc) (av := .ref o :: As) (v := none) (rest' := []) G hP hD hS isC isR hC hRr hn hdis (va_runI (As := As) (rest := rest) ⟨G.1, G.2.1, G.2.2.1, G.2.2.2.1, G.2.2.2.2.1⟩ (hM H.size) ⟨callB_at G K.1 hdd, K.2.1, G.2.2.2.2.1 _ K.2.2⟩ ⟨pp_blind, hpp⟩ rfl hlen hl.1 hst (lv_room hW) hd ⟨Nat.le_trans hf.1 hR.2.2.1, Nat.le_trans hf.2 hR.2.2.2⟩) (fun v w1 H1 locs1 hp hP1 hD1 hS1 => k v w1 hp H1 locs1 ls hP1 hD1 hS1 hl)
/-- the world in another order -/
theorem w_ws (is : List Nat) (hn : va_nd is = true) (hs : is.map (fun i => ws[i]?) = ws2.map some) (k : WW g E nL cells slots ws2 lv pc st) : WW g E nL cells slots ws lv pc st := fun H locs ls hP hD hS hl => k H locs ls (hP.sub is (by
    have h : (is.map (fun i => ws[i]?)).filterMap id = (ws2.map some).filterMap id := by rw [hs]
    rw [List.filterMap_map, List.filterMap_map] at h
    simpa using h)) (hD.sub is hn hs) hS hl
/-- calls with one answer, of a method that makes nothing: v and w1 are known, isP puts the world in order again -/
theorem w_cV1 (G : GG g E own cc nL ret d mc ms) {idx : Nat} {y : MethodName} {bytes : ByteArray} {maxL n d' : Nat} {rt : Option FieldType} {wc w1 : va_W} {o : Nat} {As : List Value} {v : Option Value} (K : VOK own idx y bytes maxL rt n) (hM : Ret1 (xl g) E y bytes maxL rt d' wc (.ref o :: As) v w1) (hdd : d' < d) (ci : Nat) {T : u_T} {N : Nat} {fs : List Value} (hc : vwCl[ci]? = some (y.cls, T, N)) (hrv : wc[0]? = some (o, .inr (ci, fs))) (isC isR isP : List Nat) (hC : isC.map (fun i => ws[i]?) = wc.map some) (hRr : isR.map (fun i => ws[i]?) = (isR.filterMap (fun i => ws[i]?)).map some) (hnC : va_nd isC = true) (hn : va_nd isR = true) (hdis : isR.all (fun i => !isC.contains i) = true) (hnP : va_nd isP = true) (hP2 : isP.map (fun i => (isR.filterMap (fun i => ws[i]?) ++ w1)[i]?) = ws2.map some) (hlen : As.length = n) (hst : st = As.reverse ++ .ref o :: rest) (hW : (rest.map fun v => v.category).sum ≤ 8) (hf : cells ≤ mc ∧ slots ≤ ms) (hd : decode cc pc = .ok (.invokevirtual idx, 3)) (hp : pc + 3 = pc2)
    {st2 : List Value} (hst2 : v.toList ++ rest = st2) (k : WW g E nL cells slots ws2 lv pc2 st2) : WW g E nL cells slots ws lv pc st := by
  subst hst2
  exact w_callV G K hM hdd ci hc hrv isC isR hC hRr hnC hn hdis hlen hst hW hf hd hp (fun v' w' h => by obtain ⟨rfl, rfl⟩ := h; exact w_ws isP hnP hP2 k)
theorem w_cS1 (G : GG g E own cc nL ret d mc ms) {idx : Nat} {y : MethodName} {bytes : ByteArray} {maxL n d' : Nat} {rt : Option FieldType} {wc w1 : va_W} {As : List Value} {v : Option Value} (K : SOK own idx y bytes maxL rt n) (hM : Ret1 (xl g) E y bytes maxL rt d' wc As v w1) (hdd : d' < d) (isC isR isP : List Nat) (hC : isC.map (fun i => ws[i]?) = wc.map some) (hRr : isR.map (fun i => ws[i]?) = (isR.filterMap (fun i => ws[i]?)).map some) (hnC : va_nd isC = true) (hn : va_nd isR = true) (hdis : isR.all (fun i => !isC.contains i) = true) (hnP : va_nd isP = true) (hP2 : isP.map (fun i => (isR.filterMap (fun i => ws[i]?) ++ w1)[i]?) = ws2.map some) (hlen : As.length = n) (hst : st = As.reverse ++ rest) (hW : (rest.map fun v => v.category).sum ≤ 8) (hf : cells ≤ mc ∧ slots ≤ ms) (hd : decode cc pc = .ok (.invokestatic idx, 3)) (hp : pc + 3 = pc2)
    {st2 : List Value} (hst2 : v.toList ++ rest = st2) (k : WW g E nL cells slots ws2 lv pc2 st2) : WW g E nL cells slots ws lv pc st := by
  subst hst2
  exact w_callS G K hM hdd isC isR hC hRr hnC hn hdis hlen hst hW hf hd hp (fun v' w' h => by obtain ⟨rfl, rfl⟩ := h; exact w_ws isP hnP hP2 k)

/-- the callee's world is the caller's -/
theorem w_cV0 (G : GG g E own cc nL ret d mc ms) {idx : Nat} {y : MethodName} {bytes : ByteArray} {maxL n d' : Nat} {rt : Option FieldType} {o : Nat} {As : List Value} {v : Option Value} (K : VOK own idx y bytes maxL rt n) (hM : Ret1 (xl g) E y bytes maxL rt d' ws (.ref o :: As) v ws2) (hdd : d' < d) (ci : Nat) {T : u_T} {N : Nat} {fs : List Value} (hc : vwCl[ci]? = some (y.cls, T, N)) (hrv : ws[0]? = some (o, .inr (ci, fs))) (hlen : As.length = n) (hst : st = As.reverse ++ .ref o :: rest) (hW : (rest.map fun v => v.category).sum ≤ 8) (hf : cells ≤ mc ∧ slots ≤ ms) (hd : decode cc pc = .ok (.invokevirtual idx, 3)) (hp : pc + 3 = pc2)
    {st2 : List Value} (hst2 : v.toList ++ rest = st2) (k : WW g E nL cells slots ws2 lv pc2 st2) : WW g E nL cells slots ws lv pc st := by
  subst hst2
  subst hp
  intro H locs ls hP hD hS hl
  have hR := G.2.2.2.2.2.2.2.1
  have hF : ∀ q, va_A ws H.size q → xA g q := fun q hq => hq.elim (fun ⟨k, e, hk⟩ => hD.2 k _ hk) (fun h => G.2.2.2.2.2.2.1 q (Nat.le_trans hS.1 h))
  have hr := va_runV (p := xp g) (l := xl g) (e := xe g) (below := xb g) (meth := xh g) (locs := locs) (cells := cells) (slots := slots) (g := F0 (xm g) pc ls st) (As := As) (rest := rest) ⟨G.1, G.2.1, G.2.2.1, G.2.2.2.1, G.2.2.2.2.1⟩ (hM H.size) ⟨callB_at G K.1 hdd, G.2.2.2.2.1 _ K.2.1, G.2.2.2.2.1 _ K.2.2⟩ ⟨pp_blind, va_recv G.2.2.2.2.2.1 hP (ci := ci) (q0 := 0) hc hrv, fun U hU hW2 => ⟨rfl, by rw [hU], by rw [hU]; exact hP, va_K.moved hW2.alike G.2.2.2.2.2.1, hD.weaken (fun _ _ _ _ => trivial), NWs.warm hW2 G.2.2.2.2.2.2.2.2.2.2⟩⟩ rfl hlen hl.1 hst (lv_room hW) hd ⟨Nat.le_trans hf.1 hR.2.2.1, Nat.le_trans hf.2 hR.2.2.2⟩
  intro T hT X
  obtain ⟨v, st₀, t, T', L, h0, X', hL, e1, e2, ⟨⟨v', w1, hv, ⟨rfl, rfl⟩, hP1, hK1, hD1⟩, hz, hk⟩, stp⟩ := hr T hT X
  cases hv
  rw [h0] at hz hk
  obtain ⟨t2, a1, b1⟩ := k T'.heap (locs ++ L) ls (by rw [e1]; exact hP1) (hD1.weaken (fun _ q _ h => hF q.1 h))
    ⟨Nat.le_trans hS.1 (by rw [e1]; exact hz), fun q h1 h2 => by rw [e1, hk q (Nat.lt_of_lt_of_le h1 hS.1) (fun z => h2 (hF q z))]; exact hS.2.1 q h1 h2, fun q hq => by
      rcases List.mem_append.mp hq with h | h
      · exact hS.2.2 q h
      · exact hF _ (hL q h)⟩ hl T' rfl X'
  exact ⟨t2, stp t2 a1, b1⟩
/-- a static method without a world -/
theorem w_cS0 (G : GG g E own cc nL ret d mc ms) {idx : Nat} {y : MethodName} {bytes : ByteArray} {maxL n d' : Nat} {rt : Option FieldType} {As : List Value} {v : Option Value} (K : SOK own idx y bytes maxL rt n) (hM : Ret1 (xl g) E y bytes maxL rt d' [] As v []) (hdd : d' < d) (hlen : As.length = n) (hst : st = As.reverse ++ rest) (hW : (rest.map fun v => v.category).sum ≤ 8) (hf : cells ≤ mc ∧ slots ≤ ms) (hd : decode cc pc = .ok (.invokestatic idx, 3)) (hp : pc + 3 = pc2)
    {st2 : List Value} (hst2 : v.toList ++ rest = st2) (k : WW g E nL cells slots ws lv pc2 st2) : WW g E nL cells slots ws lv pc st := by
  subst hst2
  subst hp
  intro H locs ls hP hD hS hl
  have hR := G.2.2.2.2.2.2.2.1
  have hF : ∀ q, va_A [] H.size q → xA g q := fun q hq => hq.elim (fun ⟨k, e, hk⟩ => by simp at hk) (fun h => G.2.2.2.2.2.2.1 q (Nat.le_trans hS.1 h))
  have hr := va_runS (p := xp g) (l := xl g) (e := xe g) (below := xb g) (meth := xh g) (locs := locs) (cells := cells) (slots := slots) (g := F0 (xm g) pc ls st) (As := As) (rest := rest) ⟨G.1, G.2.1, G.2.2.1, G.2.2.2.1, G.2.2.2.2.1⟩ (hM H.size) ⟨callB_at G K.1 hdd, G.2.2.2.2.1 _ K.2⟩ ⟨pp_blind, fun U hU hW2 => ⟨rfl, by rw [hU], fun k q h => by simp at h, va_K.moved hW2.alike G.2.2.2.2.2.1, ⟨fun i j p q h => by simp at h, fun k q h => by simp at h⟩, NWs.warm hW2 G.2.2.2.2.2.2.2.2.2.2⟩⟩ rfl hlen hl.1 hst (lv_room hW) hd ⟨Nat.le_trans hf.1 hR.2.2.1, Nat.le_trans hf.2 hR.2.2.2⟩
  intro T hT X
  obtain ⟨v, st₀, t, T', L, h0, X', hL, e1, e2, ⟨⟨v', w1, hv, ⟨rfl, rfl⟩, hP1, hK1, hD1⟩, hz, hk⟩, stp⟩ := hr T hT X
  cases hv
  rw [h0] at hz hk
  have hlt : ∀ (k : Nat) (q : Nat × va_E), ws[k]? = some q → T'.heap[q.1]? = H[q.1]? := fun k q hq => by
    rw [e1]
    have hb : q.1 < H.size := (hP k q hq).lt
    exact hk q.1 hb (fun h => h.elim (fun ⟨k, e, hk⟩ => by simp at hk) (fun h => absurd hb (Nat.not_lt.mpr h)))
  obtain ⟨t2, a1, b1⟩ := k T'.heap (locs ++ L) ls (va_P.kept hP hlt) hD
    ⟨Nat.le_trans hS.1 (by rw [e1]; exact hz), fun q h1 h2 => by rw [e1, hk q (Nat.lt_of_lt_of_le h1 hS.1) (fun z => h2 (hF q z))]; exact hS.2.1 q h1 h2, fun q hq => by
      rcases List.mem_append.mp hq with h | h
      · exact hS.2.2 q h
      · exact hF _ (hL q h)⟩ hl T' rfl X'
  exact ⟨t2, stp t2 a1, b1⟩
/-- the same of a nest mate -/
def MOK (own : String) (idx : Nat) (y : MethodName) (bytes : ByteArray) (maxL : Nat) (rt : Option FieldType) (n : Nat) (host : String) : Prop := (own, idx, y, host) ∈ nestL ∧ Cond.initialized y.cls ∈ gtb ∧ Cond.code y bytes maxL rt ∈ gtb ∧ (y.cls ≠ "java/lang/invoke/MethodHandle" ∧ y.cls ≠ "java/lang/invoke/VarHandle" ∧ (parseMethodDescriptor y.desc).map (fun d => d.parameters.length) = some n) ∧ maxL ≤ 21
def NOK (own : String) (idx : Nat) (y : MethodName) (bytes : ByteArray) (maxL : Nat) (rt : Option FieldType) (n : Nat) (host : String) : Prop := MOK own idx y bytes maxL rt n host ∧ Cond.static y ∈ gtb
theorem callN_at (G : GG g E own cc nL ret d mc ms) {idx : Nat} {y : MethodName} {bytes : ByteArray} {maxL n d' mc' ms' : Nat} {rt : Option FieldType} {host : String} (K : MOK own idx y bytes maxL rt n host) (hd : d' < d) : va_CN (xR g) (xs g) (xa g) own idx y host bytes maxL rt (Cond.code y bytes maxL rt :: gtb) (rmm d' mc' ms') mc' ms' n := by
  obtain ⟨hx, hb, hml, hown, hts, hK, hA, hR, hrr, hlk, hNW⟩ := G
  refine va_cnB n hts (tb_in K.2.2.1) rfl rfl rfl (hNW.1 _ K.1) (hts _ K.2.1) K.2.2.2.1 ⟨Nat.le_trans (show d' + 1 ≤ d from hd) hR.1, Nat.le_trans ?_ hR.2.1⟩
  have := K.2.2.2.2
  show 8 + (maxL + 11) + 40 * d' ≤ 40 * d
  omega
/-- a static method of a nest mate, without a world -/
theorem w_cS0N (G : GG g E own cc nL ret d mc ms) {idx : Nat} {y : MethodName} {bytes : ByteArray} {maxL n d' : Nat} {rt : Option FieldType} {As : List Value} {v : Option Value} {host : String} (K : NOK own idx y bytes maxL rt n host) (hM : Ret1 (xl g) E y bytes maxL rt d' [] As v []) (hdd : d' < d) (hlen : As.length = n) (hst : st = As.reverse ++ rest) (hW : (rest.map fun v => v.category).sum ≤ 8) (hf : cells ≤ mc ∧ slots ≤ ms) (hd : decode cc pc = .ok (.invokestatic idx, 3)) (hp : pc + 3 = pc2)
    {st2 : List Value} (hst2 : v.toList ++ rest = st2) (k : WW g E nL cells slots ws lv pc2 st2) : WW g E nL cells slots ws lv pc st := by
  subst hst2
  subst hp
  intro H locs ls hP hD hS hl
  have hR := G.2.2.2.2.2.2.2.1
  have hF : ∀ q, va_A [] H.size q → xA g q := fun q hq => hq.elim (fun ⟨k, e, hk⟩ => by simp at hk) (fun h => G.2.2.2.2.2.2.1 q (Nat.le_trans hS.1 h))
  have hr := va_runSN (host := host) (p := xp g) (l := xl g) (e := xe g) (below := xb g) (meth := xh g) (locs := locs) (cells := cells) (slots := slots) (g := F0 (xm g) pc ls st) (As := As) (rest := rest) ⟨G.1, G.2.1, G.2.2.1, G.2.2.2.1, G.2.2.2.2.1⟩ (hM H.size) ⟨callN_at G K.1 hdd, G.2.2.2.2.1 _ K.2, trivial⟩ ⟨pp_blind, fun U hU hW2 => ⟨rfl, by rw [hU], fun k q h => by simp at h, va_K.moved hW2.alike G.2.2.2.2.2.1, ⟨fun i j p q h => by simp at h, fun k q h => by simp at h⟩, NWs.warm hW2 G.2.2.2.2.2.2.2.2.2.2⟩⟩ rfl hlen hl.1 hst (lv_room hW) hd ⟨Nat.le_trans hf.1 hR.2.2.1, Nat.le_trans hf.2 hR.2.2.2⟩
  intro T hT X
  obtain ⟨v, st₀, t, T', L, h0, X', hL, e1, e2, ⟨⟨v', w1, hv, ⟨rfl, rfl⟩, hP1, hK1, hD1⟩, hz, hk⟩, stp⟩ := hr T hT X
  cases hv
  rw [h0] at hz hk
  have hlt : ∀ (k : Nat) (q : Nat × va_E), ws[k]? = some q → T'.heap[q.1]? = H[q.1]? := fun k q hq => by
    rw [e1]
    have hb : q.1 < H.size := (hP k q hq).lt
    exact hk q.1 hb (fun h => h.elim (fun ⟨k, e, hk⟩ => by simp at hk) (fun h => absurd hb (Nat.not_lt.mpr h)))
  obtain ⟨t2, a1, b1⟩ := k T'.heap (locs ++ L) ls (va_P.kept hP hlt) hD
    ⟨Nat.le_trans hS.1 (by rw [e1]; exact hz), fun q h1 h2 => by rw [e1, hk q (Nat.lt_of_lt_of_le h1 hS.1) (fun z => h2 (hF q z))]; exact hS.2.1 q h1 h2, fun q hq => by
      rcases List.mem_append.mp hq with h | h
      · exact hS.2.2 q h
      · exact hF _ (hL q h)⟩ hl T' rfl X'
  exact ⟨t2, stp t2 a1, b1⟩
theorem w_callIN (G : GG g E own cc nL ret d mc ms) {idx : Nat} {y : MethodName} {bytes : ByteArray} {maxL n d' mc' ms' : Nat} {wc : va_W} {o : Nat} {As : List Value} {host : String} (K : MOK own idx y bytes maxL none n host ∧ y.name = "<init>" ∧ Cond.instanceMethod y ∈ gtb) (hM : Ret (xl g) E y bytes maxL none d' mc' ms' wc (.ref o :: As) post) (hdd : d' < d) (isC isR : List Nat) (hC : isC.map (fun i => ws[i]?) = wc.map some) (hRr : isR.map (fun i => ws[i]?) = (isR.filterMap (fun i => ws[i]?)).map some) (hnC : va_nd isC = true) (hn : va_nd isR = true) (hdis : isR.all (fun i => !isC.contains i) = true) (hlen : As.length = n) (hst : st = As.reverse ++ .ref o :: rest) (hW : (rest.map fun v => v.category).sum ≤ 8) (hf : cells + mc' ≤ mc ∧ slots + ms' ≤ ms) (hd : decode cc pc = .ok (.invokespecial idx, 3)) (hp : pc + 3 = pc2)
    (k : ∀ (v : Option Value) (w1 : va_W), post v w1 → WW g E nL (cells + mc') (slots + ms') (isR.filterMap (fun i => ws[i]?) ++ w1) lv pc2 (v.toList ++ rest)) : WW g E nL cells slots ws lv pc st := by
  subst hp
  intro H locs ls hP hD hS hl
  have hR := G.2.2.2.2.2.2.2.1
  have hpp := pp_at (wc := wc) (av := .ref o :: As) G hP hD isC hC hnC
  exact after_call (post := post) (wc := wc) (av := .ref o :: As) (v := none) (rest' := []) G hP hD hS isC isR hC hRr hn hdis (va_runIN (host := host) (As := As) (rest := rest) ⟨G.1, G.2.1, G.2.2.1, G.2.2.2.1, G.2.2.2.2.1⟩ (hM H.size) ⟨callN_at G K.1 hdd, K.2.1, G.2.2.2.2.1 _ K.2.2⟩ ⟨pp_blind, hpp⟩ rfl hlen hl.1 hst (lv_room hW) hd ⟨Nat.le_trans hf.1 hR.2.2.1, Nat.le_trans hf.2 hR.2.2.2⟩) (fun v w1 H1 locs1 hp hP1 hD1 hS1 => k v w1 hp H1 locs1 ls hP1 hD1 hS1 hl)
end Base2
end
