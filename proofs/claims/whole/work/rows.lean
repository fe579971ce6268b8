section
-- ===== PART A: goes FIRST, ahead of the names: the tables' words, and 'selects' of the private methods out of them =====
/-- a private method of a class that the tables say can be made, by its rows of tables_1 -/
def lw_okq (q : MethodName × Nat) : Prop := (q.1.cls ≠ "java/lang/invoke/MethodHandle" ∧ q.1.cls ≠ "java/lang/invoke/VarHandle") ∧ Cond.instantiable q.1.cls q.2 ∈ tables_1 ∧ Cond.privateMethod q.1 ∈ tables_1 ∧ Cond.instanceMethod q.1 ∈ tables_1
theorem lw_p0 : lw_okq (⟨"CellPlane$Page", "fits", "(I)Z"⟩, 2) := ⟨⟨by decide +kernel, by decide +kernel⟩, List.mem_of_getElem? (i := 26) (by decide +kernel), List.mem_of_getElem? (i := 302) (by decide +kernel), List.mem_of_getElem? (i := 303) (by decide +kernel)⟩
theorem lw_p1 : lw_okq (⟨"CellPlane", "appendCurve", "(III)V"⟩, 16) := ⟨⟨by decide +kernel, by decide +kernel⟩, List.mem_of_getElem? (i := 18) (by decide +kernel), List.mem_of_getElem? (i := 324) (by decide +kernel), List.mem_of_getElem? (i := 325) (by decide +kernel)⟩
theorem lw_p2 : lw_okq (⟨"CellPlane$Stacks", "readCurves", "(LCellPlane$Row;)V"⟩, 11) := ⟨⟨by decide +kernel, by decide +kernel⟩, List.mem_of_getElem? (i := 112) (by decide +kernel), List.mem_of_getElem? (i := 340) (by decide +kernel), List.mem_of_getElem? (i := 341) (by decide +kernel)⟩
theorem lw_p3 : lw_okq (⟨"CellPlane$Stacks", "enter", "(JJJJ)V"⟩, 11) := ⟨⟨by decide +kernel, by decide +kernel⟩, List.mem_of_getElem? (i := 112) (by decide +kernel), List.mem_of_getElem? (i := 355) (by decide +kernel), List.mem_of_getElem? (i := 356) (by decide +kernel)⟩
theorem lw_p4 : lw_okq (⟨"CellPlane$Stacks", "meet", "(II)V"⟩, 11) := ⟨⟨by decide +kernel, by decide +kernel⟩, List.mem_of_getElem? (i := 112) (by decide +kernel), List.mem_of_getElem? (i := 378) (by decide +kernel), List.mem_of_getElem? (i := 379) (by decide +kernel)⟩
theorem lw_p5 : lw_okq (⟨"CellPlane$Stacks", "comeFromFarLeft", "()V"⟩, 11) := ⟨⟨by decide +kernel, by decide +kernel⟩, List.mem_of_getElem? (i := 112) (by decide +kernel), List.mem_of_getElem? (i := 389) (by decide +kernel), List.mem_of_getElem? (i := 390) (by decide +kernel)⟩
theorem lw_p6 : lw_okq (⟨"CellPlane$Stacks", "note", "(III)V"⟩, 11) := ⟨⟨by decide +kernel, by decide +kernel⟩, List.mem_of_getElem? (i := 112) (by decide +kernel), List.mem_of_getElem? (i := 396) (by decide +kernel), List.mem_of_getElem? (i := 397) (by decide +kernel)⟩
theorem lw_p7 : lw_okq (⟨"CellPlane$Stacks", "settle", "(I)V"⟩, 11) := ⟨⟨by decide +kernel, by decide +kernel⟩, List.mem_of_getElem? (i := 112) (by decide +kernel), List.mem_of_getElem? (i := 400) (by decide +kernel), List.mem_of_getElem? (i := 401) (by decide +kernel)⟩
theorem lw_p8 : lw_okq (⟨"CellPlane$Stacks", "isFirstOfItsY", "(I)Z"⟩, 11) := ⟨⟨by decide +kernel, by decide +kernel⟩, List.mem_of_getElem? (i := 112) (by decide +kernel), List.mem_of_getElem? (i := 404) (by decide +kernel), List.mem_of_getElem? (i := 405) (by decide +kernel)⟩
theorem lw_p9 : lw_okq (⟨"CellPlane$Stacks", "sectionsBelow", "(I)I"⟩, 11) := ⟨⟨by decide +kernel, by decide +kernel⟩, List.mem_of_getElem? (i := 112) (by decide +kernel), List.mem_of_getElem? (i := 408) (by decide +kernel), List.mem_of_getElem? (i := 409) (by decide +kernel)⟩
theorem lw_p10 : lw_okq (⟨"CellPlane$Stacks", "stopAt", "(LCellPlane$Root;)V"⟩, 11) := ⟨⟨by decide +kernel, by decide +kernel⟩, List.mem_of_getElem? (i := 112) (by decide +kernel), List.mem_of_getElem? (i := 412) (by decide +kernel), List.mem_of_getElem? (i := 413) (by decide +kernel)⟩
theorem lw_p11 : lw_okq (⟨"CellPlane$Stacks", "goOnFrom", "(LCellPlane$Root;)V"⟩, 11) := ⟨⟨by decide +kernel, by decide +kernel⟩, List.mem_of_getElem? (i := 112) (by decide +kernel), List.mem_of_getElem? (i := 422) (by decide +kernel), List.mem_of_getElem? (i := 423) (by decide +kernel)⟩
theorem lw_p12 : lw_okq (⟨"CellPlane$Stacks", "placeUprights", "()V"⟩, 11) := ⟨⟨by decide +kernel, by decide +kernel⟩, List.mem_of_getElem? (i := 112) (by decide +kernel), List.mem_of_getElem? (i := 426) (by decide +kernel), List.mem_of_getElem? (i := 427) (by decide +kernel)⟩
theorem lw_p13 : lw_okq (⟨"CellPlane$Stacks", "stackAt", "(I)I"⟩, 11) := ⟨⟨by decide +kernel, by decide +kernel⟩, List.mem_of_getElem? (i := 112) (by decide +kernel), List.mem_of_getElem? (i := 430) (by decide +kernel), List.mem_of_getElem? (i := 431) (by decide +kernel)⟩
theorem lw_p14 : lw_okq (⟨"CellPlane$Seen", "canBe", "(IILCellPlane$Curve;)Z"⟩, 5) := ⟨⟨by decide +kernel, by decide +kernel⟩, List.mem_of_getElem? (i := 89) (by decide +kernel), List.mem_of_getElem? (i := 446) (by decide +kernel), List.mem_of_getElem? (i := 447) (by decide +kernel)⟩
theorem lw_p15 : lw_okq (⟨"CellPlane$Stacks", "meetAt", "(III)Z"⟩, 11) := ⟨⟨by decide +kernel, by decide +kernel⟩, List.mem_of_getElem? (i := 112) (by decide +kernel), List.mem_of_getElem? (i := 500) (by decide +kernel), List.mem_of_getElem? (i := 501) (by decide +kernel)⟩
def lw_privs_1 : List (MethodName × Nat) := [(⟨"CellPlane$Page", "fits", "(I)Z"⟩, 2), (⟨"CellPlane", "appendCurve", "(III)V"⟩, 16), (⟨"CellPlane$Stacks", "readCurves", "(LCellPlane$Row;)V"⟩, 11), (⟨"CellPlane$Stacks", "enter", "(JJJJ)V"⟩, 11), (⟨"CellPlane$Stacks", "meet", "(II)V"⟩, 11), (⟨"CellPlane$Stacks", "comeFromFarLeft", "()V"⟩, 11), (⟨"CellPlane$Stacks", "note", "(III)V"⟩, 11), (⟨"CellPlane$Stacks", "settle", "(I)V"⟩, 11), (⟨"CellPlane$Stacks", "isFirstOfItsY", "(I)Z"⟩, 11), (⟨"CellPlane$Stacks", "sectionsBelow", "(I)I"⟩, 11), (⟨"CellPlane$Stacks", "stopAt", "(LCellPlane$Root;)V"⟩, 11), (⟨"CellPlane$Stacks", "goOnFrom", "(LCellPlane$Root;)V"⟩, 11), (⟨"CellPlane$Stacks", "placeUprights", "()V"⟩, 11), (⟨"CellPlane$Stacks", "stackAt", "(I)I"⟩, 11), (⟨"CellPlane$Seen", "canBe", "(IILCellPlane$Curve;)Z"⟩, 5), (⟨"CellPlane$Stacks", "meetAt", "(III)Z"⟩, 11)]
theorem lw_r1 : ∀ q ∈ lw_privs_1, lw_okq q := List.forall_mem_cons.mpr ⟨lw_p0, List.forall_mem_cons.mpr ⟨lw_p1, List.forall_mem_cons.mpr ⟨lw_p2, List.forall_mem_cons.mpr ⟨lw_p3, List.forall_mem_cons.mpr ⟨lw_p4, List.forall_mem_cons.mpr ⟨lw_p5, List.forall_mem_cons.mpr ⟨lw_p6, List.forall_mem_cons.mpr ⟨lw_p7, List.forall_mem_cons.mpr ⟨lw_p8, List.forall_mem_cons.mpr ⟨lw_p9, List.forall_mem_cons.mpr ⟨lw_p10, List.forall_mem_cons.mpr ⟨lw_p11, List.forall_mem_cons.mpr ⟨lw_p12, List.forall_mem_cons.mpr ⟨lw_p13, List.forall_mem_cons.mpr ⟨lw_p14, List.forall_mem_cons.mpr ⟨lw_p15, fun _ h => absurd h List.not_mem_nil⟩⟩⟩⟩⟩⟩⟩⟩⟩⟩⟩⟩⟩⟩⟩⟩
theorem lw_p16 : lw_okq (⟨"CellPlane$Stacks", "sectionBeside", "(III)I"⟩, 11) := ⟨⟨by decide +kernel, by decide +kernel⟩, List.mem_of_getElem? (i := 112) (by decide +kernel), List.mem_of_getElem? (i := 541) (by decide +kernel), List.mem_of_getElem? (i := 542) (by decide +kernel)⟩
theorem lw_p17 : lw_okq (⟨"CellPlane$Stacks", "comingTo", "(III)I"⟩, 11) := ⟨⟨by decide +kernel, by decide +kernel⟩, List.mem_of_getElem? (i := 112) (by decide +kernel), List.mem_of_getElem? (i := 549) (by decide +kernel), List.mem_of_getElem? (i := 550) (by decide +kernel)⟩
theorem lw_p18 : lw_okq (⟨"CellPlane", "isSo", "(II)Z"⟩, 16) := ⟨⟨by decide +kernel, by decide +kernel⟩, List.mem_of_getElem? (i := 18) (by decide +kernel), List.mem_of_getElem? (i := 608) (by decide +kernel), List.mem_of_getElem? (i := 609) (by decide +kernel)⟩
theorem lw_p19 : lw_okq (⟨"CellPlane", "isSoOver", "(II)Z"⟩, 16) := ⟨⟨by decide +kernel, by decide +kernel⟩, List.mem_of_getElem? (i := 18) (by decide +kernel), List.mem_of_getElem? (i := 612) (by decide +kernel), List.mem_of_getElem? (i := 613) (by decide +kernel)⟩
theorem lw_p20 : lw_okq (⟨"CellPlane$Groups", "begin", "(IZ)V"⟩, 2) := ⟨⟨by decide +kernel, by decide +kernel⟩, List.mem_of_getElem? (i := 193) (by decide +kernel), List.mem_of_getElem? (i := 643) (by decide +kernel), List.mem_of_getElem? (i := 644) (by decide +kernel)⟩
theorem lw_p21 : lw_okq (⟨"CellPlane$Groups", "joinNeighbours", "(LCellPlane$Stacks;II)V"⟩, 2) := ⟨⟨by decide +kernel, by decide +kernel⟩, List.mem_of_getElem? (i := 193) (by decide +kernel), List.mem_of_getElem? (i := 647) (by decide +kernel), List.mem_of_getElem? (i := 648) (by decide +kernel)⟩
theorem lw_p22 : lw_okq (⟨"CellPlane$Groups", "join", "(II)V"⟩, 2) := ⟨⟨by decide +kernel, by decide +kernel⟩, List.mem_of_getElem? (i := 193) (by decide +kernel), List.mem_of_getElem? (i := 651) (by decide +kernel), List.mem_of_getElem? (i := 652) (by decide +kernel)⟩
theorem lw_p23 : lw_okq (⟨"CellPlane$Groups", "standsFor", "(I)I"⟩, 2) := ⟨⟨by decide +kernel, by decide +kernel⟩, List.mem_of_getElem? (i := 193) (by decide +kernel), List.mem_of_getElem? (i := 655) (by decide +kernel), List.mem_of_getElem? (i := 656) (by decide +kernel)⟩
theorem lw_p24 : lw_okq (⟨"CellPlane", "mixCurves", "(J)J"⟩, 16) := ⟨⟨by decide +kernel, by decide +kernel⟩, List.mem_of_getElem? (i := 18) (by decide +kernel), List.mem_of_getElem? (i := 729) (by decide +kernel), List.mem_of_getElem? (i := 730) (by decide +kernel)⟩
theorem lw_p25 : lw_okq (⟨"CellPlane", "mixPoints", "(J)J"⟩, 16) := ⟨⟨by decide +kernel, by decide +kernel⟩, List.mem_of_getElem? (i := 18) (by decide +kernel), List.mem_of_getElem? (i := 738) (by decide +kernel), List.mem_of_getElem? (i := 739) (by decide +kernel)⟩
theorem lw_p26 : lw_okq (⟨"CellPlane", "mixStacks", "(J)J"⟩, 16) := ⟨⟨by decide +kernel, by decide +kernel⟩, List.mem_of_getElem? (i := 18) (by decide +kernel), List.mem_of_getElem? (i := 743) (by decide +kernel), List.mem_of_getElem? (i := 744) (by decide +kernel)⟩
theorem lw_p27 : lw_okq (⟨"CellPlaneModel", "faultOf", "()I"⟩, 34) := ⟨⟨by decide +kernel, by decide +kernel⟩, List.mem_of_getElem? (i := 749) (by decide +kernel), List.mem_of_getElem? (i := 875) (by decide +kernel), List.mem_of_getElem? (i := 876) (by decide +kernel)⟩
theorem lw_p28 : lw_okq (⟨"CellPlaneModel", "isGood", "(I)Z"⟩, 34) := ⟨⟨by decide +kernel, by decide +kernel⟩, List.mem_of_getElem? (i := 749) (by decide +kernel), List.mem_of_getElem? (i := 879) (by decide +kernel), List.mem_of_getElem? (i := 880) (by decide +kernel)⟩
theorem lw_p29 : lw_okq (⟨"CellPlaneModel", "numberAt", "(I)I"⟩, 34) := ⟨⟨by decide +kernel, by decide +kernel⟩, List.mem_of_getElem? (i := 749) (by decide +kernel), List.mem_of_getElem? (i := 892) (by decide +kernel), List.mem_of_getElem? (i := 893) (by decide +kernel)⟩
theorem lw_p30 : lw_okq (⟨"CellPlaneModel", "name", "(I)V"⟩, 34) := ⟨⟨by decide +kernel, by decide +kernel⟩, List.mem_of_getElem? (i := 749) (by decide +kernel), List.mem_of_getElem? (i := 896) (by decide +kernel), List.mem_of_getElem? (i := 897) (by decide +kernel)⟩
theorem lw_p31 : lw_okq (⟨"CellPlaneModel", "isStack", "(I)Z"⟩, 34) := ⟨⟨by decide +kernel, by decide +kernel⟩, List.mem_of_getElem? (i := 749) (by decide +kernel), List.mem_of_getElem? (i := 904) (by decide +kernel), List.mem_of_getElem? (i := 905) (by decide +kernel)⟩
def lw_privs_2 : List (MethodName × Nat) := [(⟨"CellPlane$Stacks", "sectionBeside", "(III)I"⟩, 11), (⟨"CellPlane$Stacks", "comingTo", "(III)I"⟩, 11), (⟨"CellPlane", "isSo", "(II)Z"⟩, 16), (⟨"CellPlane", "isSoOver", "(II)Z"⟩, 16), (⟨"CellPlane$Groups", "begin", "(IZ)V"⟩, 2), (⟨"CellPlane$Groups", "joinNeighbours", "(LCellPlane$Stacks;II)V"⟩, 2), (⟨"CellPlane$Groups", "join", "(II)V"⟩, 2), (⟨"CellPlane$Groups", "standsFor", "(I)I"⟩, 2), (⟨"CellPlane", "mixCurves", "(J)J"⟩, 16), (⟨"CellPlane", "mixPoints", "(J)J"⟩, 16), (⟨"CellPlane", "mixStacks", "(J)J"⟩, 16), (⟨"CellPlaneModel", "faultOf", "()I"⟩, 34), (⟨"CellPlaneModel", "isGood", "(I)Z"⟩, 34), (⟨"CellPlaneModel", "numberAt", "(I)I"⟩, 34), (⟨"CellPlaneModel", "name", "(I)V"⟩, 34), (⟨"CellPlaneModel", "isStack", "(I)Z"⟩, 34)]
theorem lw_r2 : ∀ q ∈ lw_privs_2, lw_okq q := List.forall_mem_cons.mpr ⟨lw_p16, List.forall_mem_cons.mpr ⟨lw_p17, List.forall_mem_cons.mpr ⟨lw_p18, List.forall_mem_cons.mpr ⟨lw_p19, List.forall_mem_cons.mpr ⟨lw_p20, List.forall_mem_cons.mpr ⟨lw_p21, List.forall_mem_cons.mpr ⟨lw_p22, List.forall_mem_cons.mpr ⟨lw_p23, List.forall_mem_cons.mpr ⟨lw_p24, List.forall_mem_cons.mpr ⟨lw_p25, List.forall_mem_cons.mpr ⟨lw_p26, List.forall_mem_cons.mpr ⟨lw_p27, List.forall_mem_cons.mpr ⟨lw_p28, List.forall_mem_cons.mpr ⟨lw_p29, List.forall_mem_cons.mpr ⟨lw_p30, List.forall_mem_cons.mpr ⟨lw_p31, fun _ h => absurd h List.not_mem_nil⟩⟩⟩⟩⟩⟩⟩⟩⟩⟩⟩⟩⟩⟩⟩⟩
theorem lw_p32 : lw_okq (⟨"CellPlaneModel", "lacks", "()Z"⟩, 34) := ⟨⟨by decide +kernel, by decide +kernel⟩, List.mem_of_getElem? (i := 749) (by decide +kernel), List.mem_of_getElem? (i := 908) (by decide +kernel), List.mem_of_getElem? (i := 909) (by decide +kernel)⟩
theorem lw_p33 : lw_okq (⟨"CellPlaneModel", "freshen", "()V"⟩, 34) := ⟨⟨by decide +kernel, by decide +kernel⟩, List.mem_of_getElem? (i := 749) (by decide +kernel), List.mem_of_getElem? (i := 912) (by decide +kernel), List.mem_of_getElem? (i := 913) (by decide +kernel)⟩
theorem lw_p34 : lw_okq (⟨"CellPlaneModel", "layAll", "(I)V"⟩, 34) := ⟨⟨by decide +kernel, by decide +kernel⟩, List.mem_of_getElem? (i := 749) (by decide +kernel), List.mem_of_getElem? (i := 916) (by decide +kernel), List.mem_of_getElem? (i := 917) (by decide +kernel)⟩
theorem lw_p35 : lw_okq (⟨"CellPlaneModel", "layPoints", "(I)V"⟩, 34) := ⟨⟨by decide +kernel, by decide +kernel⟩, List.mem_of_getElem? (i := 749) (by decide +kernel), List.mem_of_getElem? (i := 920) (by decide +kernel), List.mem_of_getElem? (i := 921) (by decide +kernel)⟩
theorem lw_p36 : lw_okq (⟨"CellPlaneModel", "isFlat", "(I)Z"⟩, 34) := ⟨⟨by decide +kernel, by decide +kernel⟩, List.mem_of_getElem? (i := 749) (by decide +kernel), List.mem_of_getElem? (i := 924) (by decide +kernel), List.mem_of_getElem? (i := 925) (by decide +kernel)⟩
theorem lw_p37 : lw_okq (⟨"CellPlaneModel", "addPoint", "(JJJJ)V"⟩, 34) := ⟨⟨by decide +kernel, by decide +kernel⟩, List.mem_of_getElem? (i := 749) (by decide +kernel), List.mem_of_getElem? (i := 928) (by decide +kernel), List.mem_of_getElem? (i := 929) (by decide +kernel)⟩
theorem lw_p38 : lw_okq (⟨"CellPlaneModel", "layNumber", "(IJJJJ)V"⟩, 34) := ⟨⟨by decide +kernel, by decide +kernel⟩, List.mem_of_getElem? (i := 749) (by decide +kernel), List.mem_of_getElem? (i := 932) (by decide +kernel), List.mem_of_getElem? (i := 933) (by decide +kernel)⟩
theorem lw_p39 : lw_okq (⟨"CellPlaneModel", "compare", "(II)I"⟩, 34) := ⟨⟨by decide +kernel, by decide +kernel⟩, List.mem_of_getElem? (i := 749) (by decide +kernel), List.mem_of_getElem? (i := 936) (by decide +kernel), List.mem_of_getElem? (i := 937) (by decide +kernel)⟩
theorem lw_p40 : lw_okq (⟨"CellPlaneModel", "addRoots", "(II)V"⟩, 34) := ⟨⟨by decide +kernel, by decide +kernel⟩, List.mem_of_getElem? (i := 749) (by decide +kernel), List.mem_of_getElem? (i := 950) (by decide +kernel), List.mem_of_getElem? (i := 951) (by decide +kernel)⟩
theorem lw_p41 : lw_okq (⟨"CellPlaneModel", "square", "(I)I"⟩, 34) := ⟨⟨by decide +kernel, by decide +kernel⟩, List.mem_of_getElem? (i := 749) (by decide +kernel), List.mem_of_getElem? (i := 954) (by decide +kernel), List.mem_of_getElem? (i := 955) (by decide +kernel)⟩
theorem lw_p42 : lw_okq (⟨"CellPlaneModel", "slope", "(I)I"⟩, 34) := ⟨⟨by decide +kernel, by decide +kernel⟩, List.mem_of_getElem? (i := 749) (by decide +kernel), List.mem_of_getElem? (i := 961) (by decide +kernel), List.mem_of_getElem? (i := 962) (by decide +kernel)⟩
theorem lw_p43 : lw_okq (⟨"CellPlaneModel", "laySamples", "()V"⟩, 34) := ⟨⟨by decide +kernel, by decide +kernel⟩, List.mem_of_getElem? (i := 749) (by decide +kernel), List.mem_of_getElem? (i := 966) (by decide +kernel), List.mem_of_getElem? (i := 967) (by decide +kernel)⟩
theorem lw_p44 : lw_okq (⟨"CellPlaneModel", "laySample", "(II)V"⟩, 34) := ⟨⟨by decide +kernel, by decide +kernel⟩, List.mem_of_getElem? (i := 749) (by decide +kernel), List.mem_of_getElem? (i := 970) (by decide +kernel), List.mem_of_getElem? (i := 971) (by decide +kernel)⟩
theorem lw_p45 : lw_okq (⟨"CellPlaneModel", "floorOf", "(IJ)J"⟩, 34) := ⟨⟨by decide +kernel, by decide +kernel⟩, List.mem_of_getElem? (i := 749) (by decide +kernel), List.mem_of_getElem? (i := 974) (by decide +kernel), List.mem_of_getElem? (i := 975) (by decide +kernel)⟩
theorem lw_p46 : lw_okq (⟨"CellPlaneModel", "compareTo", "(IJJ)I"⟩, 34) := ⟨⟨by decide +kernel, by decide +kernel⟩, List.mem_of_getElem? (i := 749) (by decide +kernel), List.mem_of_getElem? (i := 981) (by decide +kernel), List.mem_of_getElem? (i := 982) (by decide +kernel)⟩
theorem lw_p47 : lw_okq (⟨"CellPlaneModel", "layRanks", "(I)V"⟩, 34) := ⟨⟨by decide +kernel, by decide +kernel⟩, List.mem_of_getElem? (i := 749) (by decide +kernel), List.mem_of_getElem? (i := 985) (by decide +kernel), List.mem_of_getElem? (i := 986) (by decide +kernel)⟩
def lw_privs_3 : List (MethodName × Nat) := [(⟨"CellPlaneModel", "lacks", "()Z"⟩, 34), (⟨"CellPlaneModel", "freshen", "()V"⟩, 34), (⟨"CellPlaneModel", "layAll", "(I)V"⟩, 34), (⟨"CellPlaneModel", "layPoints", "(I)V"⟩, 34), (⟨"CellPlaneModel", "isFlat", "(I)Z"⟩, 34), (⟨"CellPlaneModel", "addPoint", "(JJJJ)V"⟩, 34), (⟨"CellPlaneModel", "layNumber", "(IJJJJ)V"⟩, 34), (⟨"CellPlaneModel", "compare", "(II)I"⟩, 34), (⟨"CellPlaneModel", "addRoots", "(II)V"⟩, 34), (⟨"CellPlaneModel", "square", "(I)I"⟩, 34), (⟨"CellPlaneModel", "slope", "(I)I"⟩, 34), (⟨"CellPlaneModel", "laySamples", "()V"⟩, 34), (⟨"CellPlaneModel", "laySample", "(II)V"⟩, 34), (⟨"CellPlaneModel", "floorOf", "(IJ)J"⟩, 34), (⟨"CellPlaneModel", "compareTo", "(IJJ)I"⟩, 34), (⟨"CellPlaneModel", "layRanks", "(I)V"⟩, 34)]
theorem lw_r3 : ∀ q ∈ lw_privs_3, lw_okq q := List.forall_mem_cons.mpr ⟨lw_p32, List.forall_mem_cons.mpr ⟨lw_p33, List.forall_mem_cons.mpr ⟨lw_p34, List.forall_mem_cons.mpr ⟨lw_p35, List.forall_mem_cons.mpr ⟨lw_p36, List.forall_mem_cons.mpr ⟨lw_p37, List.forall_mem_cons.mpr ⟨lw_p38, List.forall_mem_cons.mpr ⟨lw_p39, List.forall_mem_cons.mpr ⟨lw_p40, List.forall_mem_cons.mpr ⟨lw_p41, List.forall_mem_cons.mpr ⟨lw_p42, List.forall_mem_cons.mpr ⟨lw_p43, List.forall_mem_cons.mpr ⟨lw_p44, List.forall_mem_cons.mpr ⟨lw_p45, List.forall_mem_cons.mpr ⟨lw_p46, List.forall_mem_cons.mpr ⟨lw_p47, fun _ h => absurd h List.not_mem_nil⟩⟩⟩⟩⟩⟩⟩⟩⟩⟩⟩⟩⟩⟩⟩⟩
theorem lw_p48 : lw_okq (⟨"CellPlaneModel", "difference", "(III)I"⟩, 34) := ⟨⟨by decide +kernel, by decide +kernel⟩, List.mem_of_getElem? (i := 749) (by decide +kernel), List.mem_of_getElem? (i := 989) (by decide +kernel), List.mem_of_getElem? (i := 990) (by decide +kernel)⟩
theorem lw_p49 : lw_okq (⟨"CellPlaneModel", "isFirst", "(III)Z"⟩, 34) := ⟨⟨by decide +kernel, by decide +kernel⟩, List.mem_of_getElem? (i := 749) (by decide +kernel), List.mem_of_getElem? (i := 993) (by decide +kernel), List.mem_of_getElem? (i := 994) (by decide +kernel)⟩
theorem lw_p50 : lw_okq (⟨"CellPlaneModel", "cellsIn", "(I)I"⟩, 34) := ⟨⟨by decide +kernel, by decide +kernel⟩, List.mem_of_getElem? (i := 749) (by decide +kernel), List.mem_of_getElem? (i := 997) (by decide +kernel), List.mem_of_getElem? (i := 998) (by decide +kernel)⟩
theorem lw_p51 : lw_okq (⟨"CellPlaneModel", "isCell", "(II)Z"⟩, 34) := ⟨⟨by decide +kernel, by decide +kernel⟩, List.mem_of_getElem? (i := 749) (by decide +kernel), List.mem_of_getElem? (i := 1005) (by decide +kernel), List.mem_of_getElem? (i := 1006) (by decide +kernel)⟩
theorem lw_p52 : lw_okq (⟨"CellPlaneModel", "isCurve", "(I)Z"⟩, 34) := ⟨⟨by decide +kernel, by decide +kernel⟩, List.mem_of_getElem? (i := 749) (by decide +kernel), List.mem_of_getElem? (i := 1009) (by decide +kernel), List.mem_of_getElem? (i := 1010) (by decide +kernel)⟩
theorem lw_p53 : lw_okq (⟨"CellPlaneModel", "lies", "(III)I"⟩, 34) := ⟨⟨by decide +kernel, by decide +kernel⟩, List.mem_of_getElem? (i := 749) (by decide +kernel), List.mem_of_getElem? (i := 1013) (by decide +kernel), List.mem_of_getElem? (i := 1014) (by decide +kernel)⟩
theorem lw_p54 : lw_okq (⟨"CellPlaneModel", "isNeighbour", "(IIII)Z"⟩, 34) := ⟨⟨by decide +kernel, by decide +kernel⟩, List.mem_of_getElem? (i := 749) (by decide +kernel), List.mem_of_getElem? (i := 1021) (by decide +kernel), List.mem_of_getElem? (i := 1022) (by decide +kernel)⟩
theorem lw_p55 : lw_okq (⟨"CellPlaneModel", "isBeside", "(IIII)Z"⟩, 34) := ⟨⟨by decide +kernel, by decide +kernel⟩, List.mem_of_getElem? (i := 749) (by decide +kernel), List.mem_of_getElem? (i := 1025) (by decide +kernel), List.mem_of_getElem? (i := 1026) (by decide +kernel)⟩
theorem lw_p56 : lw_okq (⟨"CellPlaneModel", "comesTo", "(III)I"⟩, 34) := ⟨⟨by decide +kernel, by decide +kernel⟩, List.mem_of_getElem? (i := 749) (by decide +kernel), List.mem_of_getElem? (i := 1029) (by decide +kernel), List.mem_of_getElem? (i := 1030) (by decide +kernel)⟩
theorem lw_p57 : lw_okq (⟨"CellPlaneModel", "holdsIn", "(IIII)Z"⟩, 34) := ⟨⟨by decide +kernel, by decide +kernel⟩, List.mem_of_getElem? (i := 749) (by decide +kernel), List.mem_of_getElem? (i := 1041) (by decide +kernel), List.mem_of_getElem? (i := 1042) (by decide +kernel)⟩
theorem lw_p58 : lw_okq (⟨"CellPlaneModel", "holds", "(IIII)Z"⟩, 34) := ⟨⟨by decide +kernel, by decide +kernel⟩, List.mem_of_getElem? (i := 749) (by decide +kernel), List.mem_of_getElem? (i := 1045) (by decide +kernel), List.mem_of_getElem? (i := 1046) (by decide +kernel)⟩
theorem lw_p59 : lw_okq (⟨"CellPlaneModel", "piecesOf", "(II)I"⟩, 34) := ⟨⟨by decide +kernel, by decide +kernel⟩, List.mem_of_getElem? (i := 749) (by decide +kernel), List.mem_of_getElem? (i := 1063) (by decide +kernel), List.mem_of_getElem? (i := 1064) (by decide +kernel)⟩
theorem lw_p60 : lw_okq (⟨"CellPlaneModel", "isSpread", "()Z"⟩, 34) := ⟨⟨by decide +kernel, by decide +kernel⟩, List.mem_of_getElem? (i := 749) (by decide +kernel), List.mem_of_getElem? (i := 1067) (by decide +kernel), List.mem_of_getElem? (i := 1068) (by decide +kernel)⟩
theorem lw_p61 : lw_okq (⟨"CellPlaneModel", "cellsAll", "()I"⟩, 34) := ⟨⟨by decide +kernel, by decide +kernel⟩, List.mem_of_getElem? (i := 749) (by decide +kernel), List.mem_of_getElem? (i := 1075) (by decide +kernel), List.mem_of_getElem? (i := 1076) (by decide +kernel)⟩
theorem lw_p62 : lw_okq (⟨"CellPlaneModel", "tellCurve", "(II)I"⟩, 34) := ⟨⟨by decide +kernel, by decide +kernel⟩, List.mem_of_getElem? (i := 749) (by decide +kernel), List.mem_of_getElem? (i := 1083) (by decide +kernel), List.mem_of_getElem? (i := 1084) (by decide +kernel)⟩
theorem lw_p63 : lw_okq (⟨"CellPlaneModel", "sortsOf", "(I)I"⟩, 34) := ⟨⟨by decide +kernel, by decide +kernel⟩, List.mem_of_getElem? (i := 749) (by decide +kernel), List.mem_of_getElem? (i := 1087) (by decide +kernel), List.mem_of_getElem? (i := 1088) (by decide +kernel)⟩
def lw_privs_4 : List (MethodName × Nat) := [(⟨"CellPlaneModel", "difference", "(III)I"⟩, 34), (⟨"CellPlaneModel", "isFirst", "(III)Z"⟩, 34), (⟨"CellPlaneModel", "cellsIn", "(I)I"⟩, 34), (⟨"CellPlaneModel", "isCell", "(II)Z"⟩, 34), (⟨"CellPlaneModel", "isCurve", "(I)Z"⟩, 34), (⟨"CellPlaneModel", "lies", "(III)I"⟩, 34), (⟨"CellPlaneModel", "isNeighbour", "(IIII)Z"⟩, 34), (⟨"CellPlaneModel", "isBeside", "(IIII)Z"⟩, 34), (⟨"CellPlaneModel", "comesTo", "(III)I"⟩, 34), (⟨"CellPlaneModel", "holdsIn", "(IIII)Z"⟩, 34), (⟨"CellPlaneModel", "holds", "(IIII)Z"⟩, 34), (⟨"CellPlaneModel", "piecesOf", "(II)I"⟩, 34), (⟨"CellPlaneModel", "isSpread", "()Z"⟩, 34), (⟨"CellPlaneModel", "cellsAll", "()I"⟩, 34), (⟨"CellPlaneModel", "tellCurve", "(II)I"⟩, 34), (⟨"CellPlaneModel", "sortsOf", "(I)I"⟩, 34)]
theorem lw_r4 : ∀ q ∈ lw_privs_4, lw_okq q := List.forall_mem_cons.mpr ⟨lw_p48, List.forall_mem_cons.mpr ⟨lw_p49, List.forall_mem_cons.mpr ⟨lw_p50, List.forall_mem_cons.mpr ⟨lw_p51, List.forall_mem_cons.mpr ⟨lw_p52, List.forall_mem_cons.mpr ⟨lw_p53, List.forall_mem_cons.mpr ⟨lw_p54, List.forall_mem_cons.mpr ⟨lw_p55, List.forall_mem_cons.mpr ⟨lw_p56, List.forall_mem_cons.mpr ⟨lw_p57, List.forall_mem_cons.mpr ⟨lw_p58, List.forall_mem_cons.mpr ⟨lw_p59, List.forall_mem_cons.mpr ⟨lw_p60, List.forall_mem_cons.mpr ⟨lw_p61, List.forall_mem_cons.mpr ⟨lw_p62, List.forall_mem_cons.mpr ⟨lw_p63, fun _ h => absurd h List.not_mem_nil⟩⟩⟩⟩⟩⟩⟩⟩⟩⟩⟩⟩⟩⟩⟩⟩
theorem lw_p64 : lw_okq (⟨"CellPlaneModel", "liesAt", "(IIII)I"⟩, 34) := ⟨⟨by decide +kernel, by decide +kernel⟩, List.mem_of_getElem? (i := 749) (by decide +kernel), List.mem_of_getElem? (i := 1091) (by decide +kernel), List.mem_of_getElem? (i := 1092) (by decide +kernel)⟩
theorem lw_p65 : lw_okq (⟨"CellPlaneModel", "askOf", "(I)I"⟩, 34) := ⟨⟨by decide +kernel, by decide +kernel⟩, List.mem_of_getElem? (i := 749) (by decide +kernel), List.mem_of_getElem? (i := 1095) (by decide +kernel), List.mem_of_getElem? (i := 1096) (by decide +kernel)⟩
theorem lw_p66 : lw_okq (⟨"CellPlaneModel", "tellPoint", "(II)I"⟩, 34) := ⟨⟨by decide +kernel, by decide +kernel⟩, List.mem_of_getElem? (i := 749) (by decide +kernel), List.mem_of_getElem? (i := 1108) (by decide +kernel), List.mem_of_getElem? (i := 1109) (by decide +kernel)⟩
theorem lw_p67 : lw_okq (⟨"CellPlaneModel", "meeting", "(I)I"⟩, 34) := ⟨⟨by decide +kernel, by decide +kernel⟩, List.mem_of_getElem? (i := 749) (by decide +kernel), List.mem_of_getElem? (i := 1114) (by decide +kernel), List.mem_of_getElem? (i := 1115) (by decide +kernel)⟩
theorem lw_p68 : lw_okq (⟨"CellPlaneModel", "isSame", "(II)Z"⟩, 34) := ⟨⟨by decide +kernel, by decide +kernel⟩, List.mem_of_getElem? (i := 749) (by decide +kernel), List.mem_of_getElem? (i := 1118) (by decide +kernel), List.mem_of_getElem? (i := 1119) (by decide +kernel)⟩
theorem lw_p69 : lw_okq (⟨"CellPlaneModel", "standing", "(I)I"⟩, 34) := ⟨⟨by decide +kernel, by decide +kernel⟩, List.mem_of_getElem? (i := 749) (by decide +kernel), List.mem_of_getElem? (i := 1122) (by decide +kernel), List.mem_of_getElem? (i := 1123) (by decide +kernel)⟩
theorem lw_p70 : lw_okq (⟨"CellPlaneModel", "cellsNow", "()I"⟩, 34) := ⟨⟨by decide +kernel, by decide +kernel⟩, List.mem_of_getElem? (i := 749) (by decide +kernel), List.mem_of_getElem? (i := 1143) (by decide +kernel), List.mem_of_getElem? (i := 1144) (by decide +kernel)⟩
theorem lw_p71 : lw_okq (⟨"CellPlaneModel", "countOf", "(I)I"⟩, 34) := ⟨⟨by decide +kernel, by decide +kernel⟩, List.mem_of_getElem? (i := 749) (by decide +kernel), List.mem_of_getElem? (i := 1186) (by decide +kernel), List.mem_of_getElem? (i := 1187) (by decide +kernel)⟩
theorem lw_p72 : lw_okq (⟨"CellPlaneModel", "countPlane", "(I)I"⟩, 34) := ⟨⟨by decide +kernel, by decide +kernel⟩, List.mem_of_getElem? (i := 749) (by decide +kernel), List.mem_of_getElem? (i := 1190) (by decide +kernel), List.mem_of_getElem? (i := 1191) (by decide +kernel)⟩
theorem lw_p73 : lw_okq (⟨"CellPlaneModel", "sectionsAll", "()I"⟩, 34) := ⟨⟨by decide +kernel, by decide +kernel⟩, List.mem_of_getElem? (i := 749) (by decide +kernel), List.mem_of_getElem? (i := 1194) (by decide +kernel), List.mem_of_getElem? (i := 1195) (by decide +kernel)⟩
theorem lw_p74 : lw_okq (⟨"CellPlaneModel", "say", "(J)V"⟩, 34) := ⟨⟨by decide +kernel, by decide +kernel⟩, List.mem_of_getElem? (i := 749) (by decide +kernel), List.mem_of_getElem? (i := 1203) (by decide +kernel), List.mem_of_getElem? (i := 1204) (by decide +kernel)⟩
theorem lw_p75 : lw_okq (⟨"CellPlaneModel", "sayStacks", "()V"⟩, 34) := ⟨⟨by decide +kernel, by decide +kernel⟩, List.mem_of_getElem? (i := 749) (by decide +kernel), List.mem_of_getElem? (i := 1208) (by decide +kernel), List.mem_of_getElem? (i := 1209) (by decide +kernel)⟩
def lw_privs_5 : List (MethodName × Nat) := [(⟨"CellPlaneModel", "liesAt", "(IIII)I"⟩, 34), (⟨"CellPlaneModel", "askOf", "(I)I"⟩, 34), (⟨"CellPlaneModel", "tellPoint", "(II)I"⟩, 34), (⟨"CellPlaneModel", "meeting", "(I)I"⟩, 34), (⟨"CellPlaneModel", "isSame", "(II)Z"⟩, 34), (⟨"CellPlaneModel", "standing", "(I)I"⟩, 34), (⟨"CellPlaneModel", "cellsNow", "()I"⟩, 34), (⟨"CellPlaneModel", "countOf", "(I)I"⟩, 34), (⟨"CellPlaneModel", "countPlane", "(I)I"⟩, 34), (⟨"CellPlaneModel", "sectionsAll", "()I"⟩, 34), (⟨"CellPlaneModel", "say", "(J)V"⟩, 34), (⟨"CellPlaneModel", "sayStacks", "()V"⟩, 34)]
theorem lw_r5 : ∀ q ∈ lw_privs_5, lw_okq q := List.forall_mem_cons.mpr ⟨lw_p64, List.forall_mem_cons.mpr ⟨lw_p65, List.forall_mem_cons.mpr ⟨lw_p66, List.forall_mem_cons.mpr ⟨lw_p67, List.forall_mem_cons.mpr ⟨lw_p68, List.forall_mem_cons.mpr ⟨lw_p69, List.forall_mem_cons.mpr ⟨lw_p70, List.forall_mem_cons.mpr ⟨lw_p71, List.forall_mem_cons.mpr ⟨lw_p72, List.forall_mem_cons.mpr ⟨lw_p73, List.forall_mem_cons.mpr ⟨lw_p74, List.forall_mem_cons.mpr ⟨lw_p75, fun _ h => absurd h List.not_mem_nil⟩⟩⟩⟩⟩⟩⟩⟩⟩⟩⟩⟩
def lw_privs : List (MethodName × Nat) := lw_privs_1 ++ (lw_privs_2 ++ (lw_privs_3 ++ (lw_privs_4 ++ (lw_privs_5))))
def lw_tbl : List Cond := k2_sels lw_privs ++ tables_1
theorem lw_privs_ok : ∀ q ∈ lw_privs, lw_okq q := by
  show ∀ q ∈ lw_privs_1 ++ (lw_privs_2 ++ (lw_privs_3 ++ (lw_privs_4 ++ (lw_privs_5)))), lw_okq q
  exact List.forall_mem_append.mpr ⟨lw_r1, List.forall_mem_append.mpr ⟨lw_r2, List.forall_mem_append.mpr ⟨lw_r3, List.forall_mem_append.mpr ⟨lw_r4, lw_r5⟩⟩⟩⟩
end
section
/-! ===== BEGIN printed: names, fields, word lists, decode rows ===== -/
def RX0 : String := "CellPlane$Curve"
def TX0 : u_T := fun k => match k with
  | 0 => ("CellPlane$Curve", "kind", "I", false)
  | 1 => ("CellPlane$Curve", "b", "I", false)
  | 2 => ("CellPlane$Curve", "c", "I", false)
  | _ => ("CellPlane$Curve", "name", "I", false)
def tyX0 : Nat → FieldType := fun k => match k with
  | 0 => .int
  | 1 => .int
  | 2 => .int
  | _ => .int
abbrev wsX00 : List Cond := u_ws RX0 TX0 4
theorem nmX0 : ∀ a, a < 4 → ∀ b, b < 4 → a ≠ b → (TX0 a).2.1 ≠ (TX0 b).2.1 := by decide +kernel
theorem tyX0_ok : ∀ k, k < 4 → parseFieldDescriptor (TX0 k).2.2.1 = some (tyX0 k) := by decide +kernel
abbrev cX0_init : ByteArray := prog_2_method_1_code
def yX0_init : MethodName := ⟨RX0, "<init>", "()V"⟩
abbrev cX0_write : ByteArray := prog_2_method_2_code
def yX0_write : MethodName := ⟨RX0, "write", "(IIII)V"⟩
abbrev cX0_isUpright : ByteArray := prog_2_method_3_code
def yX0_isUpright : MethodName := ⟨RX0, "isUpright", "()Z"⟩
abbrev cX0_isSuch : ByteArray := prog_2_method_4_code
def yX0_isSuch : MethodName := ⟨RX0, "isSuch", "(I)Z"⟩
abbrev cX0_squareOf : ByteArray := prog_2_method_5_code
def yX0_squareOf : MethodName := ⟨RX0, "squareOf", "(I)I"⟩
abbrev cX0_slopeAs : ByteArray := prog_2_method_6_code
def yX0_slopeAs : MethodName := ⟨RX0, "slopeAs", "(I)I"⟩
abbrev cX0_sideAs : ByteArray := prog_2_method_7_code
def yX0_sideAs : MethodName := ⟨RX0, "sideAs", "(III)I"⟩
abbrev cX0_turnOver : ByteArray := prog_2_method_8_code
def yX0_turnOver : MethodName := ⟨RX0, "turnOver", "()V"⟩
def RX1 : String := "CellPlane$Dice"
def TX1 : u_T := fun k => match k with
  | _ => ("CellPlane$Dice", "seed", "J", false)
def tyX1 : Nat → FieldType := fun k => match k with
  | _ => .long
abbrev wsX10 : List Cond := u_ws RX1 TX1 1
theorem nmX1 : ∀ a, a < 1 → ∀ b, b < 1 → a ≠ b → (TX1 a).2.1 ≠ (TX1 b).2.1 := by decide +kernel
theorem tyX1_ok : ∀ k, k < 1 → parseFieldDescriptor (TX1 k).2.2.1 = some (tyX1 k) := by decide +kernel
abbrev cX1_init : ByteArray := prog_3_method_1_code
def yX1_init : MethodName := ⟨RX1, "<init>", "()V"⟩
abbrev cX1_next : ByteArray := prog_3_method_2_code
def yX1_next : MethodName := ⟨RX1, "next", "(I)I"⟩
def RX2 : String := "CellPlane$Exact"
def TX2 : u_T := fun k => match k with
  | _ => ("", "", "", false)
def tyX2 : Nat → FieldType := fun k => match k with
  | _ => .int
abbrev wsX20 : List Cond := u_ws RX2 TX2 0
theorem nmX2 : ∀ a, a < 0 → ∀ b, b < 0 → a ≠ b → (TX2 a).2.1 ≠ (TX2 b).2.1 := by decide +kernel
theorem tyX2_ok : ∀ k, k < 0 → parseFieldDescriptor (TX2 k).2.2.1 = some (tyX2 k) := by decide +kernel
abbrev cX2_sign : ByteArray := prog_4_method_2_code
def yX2_sign : MethodName := ⟨RX2, "sign", "(JJJ)I"⟩
abbrev cX2_sign_ : ByteArray := prog_4_method_3_code
def yX2_sign_ : MethodName := ⟨RX2, "sign", "(JJJJJ)I"⟩
abbrev cX2_rootDown : ByteArray := prog_4_method_4_code
def yX2_rootDown : MethodName := ⟨RX2, "rootDown", "(J)J"⟩
def RX3 : String := "CellPlane$Form"
def TX3 : u_T := fun k => match k with
  | 0 => ("CellPlane$Form", "figures", "[I", true)
  | _ => ("CellPlane$Form", "forAll", "Z", false)
def tyX3 : Nat → FieldType := fun k => match k with
  | 0 => .array .int
  | _ => .boolean
abbrev wsX30 : List Cond := u_ws RX3 TX3 2
theorem nmX3 : ∀ a, a < 2 → ∀ b, b < 2 → a ≠ b → (TX3 a).2.1 ≠ (TX3 b).2.1 := by decide +kernel
theorem tyX3_ok : ∀ k, k < 2 → parseFieldDescriptor (TX3 k).2.2.1 = some (tyX3 k) := by decide +kernel
abbrev cX3_init : ByteArray := prog_5_method_1_code
def yX3_init : MethodName := ⟨RX3, "<init>", "()V"⟩
abbrev cX3_isForm : ByteArray := prog_5_method_2_code
def yX3_isForm : MethodName := ⟨RX3, "isForm", "(I)Z"⟩
abbrev cX3_read : ByteArray := prog_5_method_3_code
def yX3_read : MethodName := ⟨RX3, "read", "(II)V"⟩
abbrev cX3_holdsIn : ByteArray := prog_5_method_4_code
def yX3_holdsIn : MethodName := ⟨RX3, "holdsIn", "(LCellPlane$Stacks;II)Z"⟩
abbrev cX3_allows : ByteArray := prog_5_method_5_code
def yX3_allows : MethodName := ⟨RX3, "allows", "(II)Z"⟩
def RX4 : String := "CellPlane$Groups"
def TX4 : u_T := fun k => match k with
  | 0 => ("CellPlane$Groups", "nearer", "[I", true)
  | _ => ("CellPlane$Groups", "pieces", "I", false)
def tyX4 : Nat → FieldType := fun k => match k with
  | 0 => .array .int
  | _ => .int
abbrev wsX40 : List Cond := u_ws RX4 TX4 2
theorem nmX4 : ∀ a, a < 2 → ∀ b, b < 2 → a ≠ b → (TX4 a).2.1 ≠ (TX4 b).2.1 := by decide +kernel
theorem tyX4_ok : ∀ k, k < 2 → parseFieldDescriptor (TX4 k).2.2.1 = some (tyX4 k) := by decide +kernel
abbrev cX4_init : ByteArray := prog_6_method_1_code
def yX4_init : MethodName := ⟨RX4, "<init>", "()V"⟩
abbrev cX4_number : ByteArray := prog_6_method_2_code
def yX4_number : MethodName := ⟨RX4, "number", "(LCellPlane$Stacks;LCellPlane$Form;)I"⟩
abbrev cX4_placeOf : ByteArray := prog_6_method_3_code
def yX4_placeOf : MethodName := ⟨RX4, "placeOf", "(II)I"⟩
abbrev cX4_begin : ByteArray := prog_6_method_4_code
def yX4_begin : MethodName := ⟨RX4, "begin", "(IZ)V"⟩
abbrev cX4_joinNeighbours : ByteArray := prog_6_method_5_code
def yX4_joinNeighbours : MethodName := ⟨RX4, "joinNeighbours", "(LCellPlane$Stacks;II)V"⟩
abbrev cX4_join : ByteArray := prog_6_method_6_code
def yX4_join : MethodName := ⟨RX4, "join", "(II)V"⟩
abbrev cX4_standsFor : ByteArray := prog_6_method_7_code
def yX4_standsFor : MethodName := ⟨RX4, "standsFor", "(I)I"⟩
def RX5 : String := "CellPlane$Page"
def TX5 : u_T := fun k => match k with
  | 0 => ("CellPlane$Page", "codes", "[I", true)
  | _ => ("CellPlane$Page", "size", "I", false)
def tyX5 : Nat → FieldType := fun k => match k with
  | 0 => .array .int
  | _ => .int
abbrev wsX50 : List Cond := u_ws RX5 TX5 2
theorem nmX5 : ∀ a, a < 2 → ∀ b, b < 2 → a ≠ b → (TX5 a).2.1 ≠ (TX5 b).2.1 := by decide +kernel
theorem tyX5_ok : ∀ k, k < 2 → parseFieldDescriptor (TX5 k).2.2.1 = some (tyX5 k) := by decide +kernel
abbrev cX5_init : ByteArray := prog_7_method_1_code
def yX5_init : MethodName := ⟨RX5, "<init>", "()V"⟩
abbrev cX5_append : ByteArray := prog_7_method_2_code
def yX5_append : MethodName := ⟨RX5, "append", "(I)Z"⟩
abbrev cX5_firstFault : ByteArray := prog_7_method_3_code
def yX5_firstFault : MethodName := ⟨RX5, "firstFault", "()I"⟩
abbrev cX5_isPlane : ByteArray := prog_7_method_4_code
def yX5_isPlane : MethodName := ⟨RX5, "isPlane", "()Z"⟩
abbrev cX5_fits : ByteArray := prog_7_method_5_code
def yX5_fits : MethodName := ⟨RX5, "fits", "(I)Z"⟩
abbrev cX5_kindAt : ByteArray := prog_7_method_6_code
def yX5_kindAt : MethodName := ⟨RX5, "kindAt", "(I)I"⟩
abbrev cX5_numberAt : ByteArray := prog_7_method_7_code
def yX5_numberAt : MethodName := ⟨RX5, "numberAt", "(I)I"⟩
def RX6 : String := "CellPlane$Ring"
def TX6 : u_T := fun k => match k with
  | 0 => ("CellPlane$Ring", "answers", "[I", true)
  | 1 => ("CellPlane$Ring", "next", "I", false)
  | _ => ("CellPlane$Ring", "size", "I", false)
def tyX6 : Nat → FieldType := fun k => match k with
  | 0 => .array .int
  | 1 => .int
  | _ => .int
abbrev wsX60 : List Cond := u_ws RX6 TX6 3
theorem nmX6 : ∀ a, a < 3 → ∀ b, b < 3 → a ≠ b → (TX6 a).2.1 ≠ (TX6 b).2.1 := by decide +kernel
theorem tyX6_ok : ∀ k, k < 3 → parseFieldDescriptor (TX6 k).2.2.1 = some (tyX6 k) := by decide +kernel
abbrev cX6_init : ByteArray := prog_8_method_1_code
def yX6_init : MethodName := ⟨RX6, "<init>", "()V"⟩
abbrev cX6_append : ByteArray := prog_8_method_2_code
def yX6_append : MethodName := ⟨RX6, "append", "(I)V"⟩
abbrev cX6_back : ByteArray := prog_8_method_3_code
def yX6_back : MethodName := ⟨RX6, "back", "(I)I"⟩
def RX7 : String := "CellPlane$Root"
def TX7 : u_T := fun k => match k with
  | 0 => ("CellPlane$Root", "whole", "J", false)
  | 1 => ("CellPlane$Root", "way", "J", false)
  | 2 => ("CellPlane$Root", "under", "J", false)
  | _ => ("CellPlane$Root", "part", "J", false)
def tyX7 : Nat → FieldType := fun k => match k with
  | 0 => .long
  | 1 => .long
  | 2 => .long
  | _ => .long
abbrev wsX70 : List Cond := u_ws RX7 TX7 4
theorem nmX7 : ∀ a, a < 4 → ∀ b, b < 4 → a ≠ b → (TX7 a).2.1 ≠ (TX7 b).2.1 := by decide +kernel
theorem tyX7_ok : ∀ k, k < 4 → parseFieldDescriptor (TX7 k).2.2.1 = some (tyX7 k) := by decide +kernel
abbrev cX7_init : ByteArray := prog_9_method_1_code
def yX7_init : MethodName := ⟨RX7, "<init>", "()V"⟩
abbrev cX7_write : ByteArray := prog_9_method_2_code
def yX7_write : MethodName := ⟨RX7, "write", "(JJJJ)V"⟩
abbrev cX7_isFraction : ByteArray := prog_9_method_3_code
def yX7_isFraction : MethodName := ⟨RX7, "isFraction", "()Z"⟩
abbrev cX7_orderTo : ByteArray := prog_9_method_4_code
def yX7_orderTo : MethodName := ⟨RX7, "orderTo", "(LCellPlane$Root;)I"⟩
abbrev cX7_signOf : ByteArray := prog_9_method_5_code
def yX7_signOf : MethodName := ⟨RX7, "signOf", "(JJJ)I"⟩
abbrev cX7_thousandths : ByteArray := prog_9_method_6_code
def yX7_thousandths : MethodName := ⟨RX7, "thousandths", "()I"⟩
def RX8 : String := "CellPlane$Row"
def TX8 : u_T := fun k => match k with
  | 0 => ("CellPlane$Row", "all", "[LCellPlane$Curve;", true)
  | _ => ("CellPlane$Row", "size", "I", false)
def tyX8 : Nat → FieldType := fun k => match k with
  | 0 => .array (.object "CellPlane$Curve")
  | _ => .int
abbrev wsX80 : List Cond := u_ws RX8 TX8 2
theorem nmX8 : ∀ a, a < 2 → ∀ b, b < 2 → a ≠ b → (TX8 a).2.1 ≠ (TX8 b).2.1 := by decide +kernel
theorem tyX8_ok : ∀ k, k < 2 → parseFieldDescriptor (TX8 k).2.2.1 = some (tyX8 k) := by decide +kernel
abbrev cX8_init : ByteArray := prog_10_method_1_code
def yX8_init : MethodName := ⟨RX8, "<init>", "()V"⟩
abbrev cX8_has : ByteArray := prog_10_method_2_code
def yX8_has : MethodName := ⟨RX8, "has", "(I)Z"⟩
abbrev cX8_append : ByteArray := prog_10_method_3_code
def yX8_append : MethodName := ⟨RX8, "append", "(IIII)Z"⟩
abbrev cX8_remove : ByteArray := prog_10_method_4_code
def yX8_remove : MethodName := ⟨RX8, "remove", "(I)V"⟩
abbrev cX8_copy : ByteArray := prog_10_method_5_code
def yX8_copy : MethodName := ⟨RX8, "copy", "(LCellPlane$Row;)V"⟩
def RX9 : String := "CellPlane$Seen"
def TX9 : u_T := fun k => match k with
  | 0 => ("CellPlane$Seen", "curves", "[I", true)
  | 1 => ("CellPlane$Seen", "xs", "[I", true)
  | 2 => ("CellPlane$Seen", "ys", "[I", true)
  | 3 => ("CellPlane$Seen", "hows", "[I", true)
  | _ => ("CellPlane$Seen", "size", "I", false)
def tyX9 : Nat → FieldType := fun k => match k with
  | 0 => .array .int
  | 1 => .array .int
  | 2 => .array .int
  | 3 => .array .int
  | _ => .int
abbrev wsX90 : List Cond := u_ws RX9 TX9 5
theorem nmX9 : ∀ a, a < 5 → ∀ b, b < 5 → a ≠ b → (TX9 a).2.1 ≠ (TX9 b).2.1 := by decide +kernel
theorem tyX9_ok : ∀ k, k < 5 → parseFieldDescriptor (TX9 k).2.2.1 = some (tyX9 k) := by decide +kernel
abbrev cX9_init : ByteArray := prog_11_method_1_code
def yX9_init : MethodName := ⟨RX9, "<init>", "()V"⟩
abbrev cX9_append : ByteArray := prog_11_method_2_code
def yX9_append : MethodName := ⟨RX9, "append", "(IIII)Z"⟩
abbrev cX9_copy : ByteArray := prog_11_method_3_code
def yX9_copy : MethodName := ⟨RX9, "copy", "(LCellPlane$Seen;)V"⟩
abbrev cX9_sortsOf : ByteArray := prog_11_method_4_code
def yX9_sortsOf : MethodName := ⟨RX9, "sortsOf", "(ILCellPlane$Curve;)I"⟩
abbrev cX9_canBe : ByteArray := prog_11_method_5_code
def yX9_canBe : MethodName := ⟨RX9, "canBe", "(IILCellPlane$Curve;)Z"⟩
abbrev cX9_nextAsk : ByteArray := prog_11_method_6_code
def yX9_nextAsk : MethodName := ⟨RX9, "nextAsk", "(ILCellPlane$Curve;)I"⟩
abbrev cX9_leftAtWorst : ByteArray := prog_11_method_7_code
def yX9_leftAtWorst : MethodName := ⟨RX9, "leftAtWorst", "(ILCellPlane$Curve;I)I"⟩
def RX10 : String := "CellPlane$Stacks"
def TX10 : u_T := fun k => match k with
  | 0 => ("CellPlane$Stacks", "roots", "[LCellPlane$Root;", true)
  | 1 => ("CellPlane$Stacks", "points", "I", false)
  | 2 => ("CellPlane$Stacks", "size", "I", false)
  | 3 => ("CellPlane$Stacks", "curves", "I", false)
  | 4 => ("CellPlane$Stacks", "tops", "[I", true)
  | 5 => ("CellPlane$Stacks", "places", "[I", true)
  | 6 => ("CellPlane$Stacks", "upright", "[Z", true)
  | 7 => ("CellPlane$Stacks", "squares", "[I", true)
  | 8 => ("CellPlane$Stacks", "slopes", "[I", true)
  | 9 => ("CellPlane$Stacks", "heights", "[I", true)
  | _ => ("CellPlane$Stacks", "signs", "[I", true)
def tyX10 : Nat → FieldType := fun k => match k with
  | 0 => .array (.object "CellPlane$Root")
  | 1 => .int
  | 2 => .int
  | 3 => .int
  | 4 => .array .int
  | 5 => .array .int
  | 6 => .array .boolean
  | 7 => .array .int
  | 8 => .array .int
  | 9 => .array .int
  | _ => .array .int
abbrev wsX100 : List Cond := u_ws RX10 TX10 11
theorem nmX10 : ∀ a, a < 11 → ∀ b, b < 11 → a ≠ b → (TX10 a).2.1 ≠ (TX10 b).2.1 := by decide +kernel
theorem tyX10_ok : ∀ k, k < 11 → parseFieldDescriptor (TX10 k).2.2.1 = some (tyX10 k) := by decide +kernel
abbrev cX10_init : ByteArray := prog_12_method_1_code
def yX10_init : MethodName := ⟨RX10, "<init>", "()V"⟩
abbrev cX10_build : ByteArray := prog_12_method_2_code
def yX10_build : MethodName := ⟨RX10, "build", "(LCellPlane$Row;)V"⟩
abbrev cX10_readCurves : ByteArray := prog_12_method_3_code
def yX10_readCurves : MethodName := ⟨RX10, "readCurves", "(LCellPlane$Row;)V"⟩
abbrev cX10_meet : ByteArray := prog_12_method_4_code
def yX10_meet : MethodName := ⟨RX10, "meet", "(II)V"⟩
abbrev cX10_enter : ByteArray := prog_12_method_5_code
def yX10_enter : MethodName := ⟨RX10, "enter", "(JJJJ)V"⟩
abbrev cX10_comeFromFarLeft : ByteArray := prog_12_method_6_code
def yX10_comeFromFarLeft : MethodName := ⟨RX10, "comeFromFarLeft", "()V"⟩
abbrev cX10_stopAt : ByteArray := prog_12_method_7_code
def yX10_stopAt : MethodName := ⟨RX10, "stopAt", "(LCellPlane$Root;)V"⟩
abbrev cX10_goOnFrom : ByteArray := prog_12_method_8_code
def yX10_goOnFrom : MethodName := ⟨RX10, "goOnFrom", "(LCellPlane$Root;)V"⟩
abbrev cX10_note : ByteArray := prog_12_method_9_code
def yX10_note : MethodName := ⟨RX10, "note", "(III)V"⟩
abbrev cX10_settle : ByteArray := prog_12_method_10_code
def yX10_settle : MethodName := ⟨RX10, "settle", "(I)V"⟩
abbrev cX10_isFirstOfItsY : ByteArray := prog_12_method_11_code
def yX10_isFirstOfItsY : MethodName := ⟨RX10, "isFirstOfItsY", "(I)Z"⟩
abbrev cX10_sectionsBelow : ByteArray := prog_12_method_12_code
def yX10_sectionsBelow : MethodName := ⟨RX10, "sectionsBelow", "(I)I"⟩
abbrev cX10_placeUprights : ByteArray := prog_12_method_13_code
def yX10_placeUprights : MethodName := ⟨RX10, "placeUprights", "()V"⟩
abbrev cX10_stackAt : ByteArray := prog_12_method_14_code
def yX10_stackAt : MethodName := ⟨RX10, "stackAt", "(I)I"⟩
abbrev cX10_has : ByteArray := prog_12_method_15_code
def yX10_has : MethodName := ⟨RX10, "has", "(I)Z"⟩
abbrev cX10_hasCell : ByteArray := prog_12_method_16_code
def yX10_hasCell : MethodName := ⟨RX10, "hasCell", "(II)Z"⟩
abbrev cX10_sections : ByteArray := prog_12_method_17_code
def yX10_sections : MethodName := ⟨RX10, "sections", "()I"⟩
abbrev cX10_cells : ByteArray := prog_12_method_18_code
def yX10_cells : MethodName := ⟨RX10, "cells", "()I"⟩
abbrev cX10_sideOf : ByteArray := prog_12_method_19_code
def yX10_sideOf : MethodName := ⟨RX10, "sideOf", "(III)I"⟩
abbrev cX10_uprightsAt : ByteArray := prog_12_method_20_code
def yX10_uprightsAt : MethodName := ⟨RX10, "uprightsAt", "(I)I"⟩
abbrev cX10_pairsMeetingAt : ByteArray := prog_12_method_21_code
def yX10_pairsMeetingAt : MethodName := ⟨RX10, "pairsMeetingAt", "(I)I"⟩
abbrev cX10_meetAt : ByteArray := prog_12_method_22_code
def yX10_meetAt : MethodName := ⟨RX10, "meetAt", "(III)Z"⟩
abbrev cX10_neighboursOf : ByteArray := prog_12_method_23_code
def yX10_neighboursOf : MethodName := ⟨RX10, "neighboursOf", "(II)I"⟩
abbrev cX10_comingTo : ByteArray := prog_12_method_24_code
def yX10_comingTo : MethodName := ⟨RX10, "comingTo", "(III)I"⟩
abbrev cX10_lowestBeside : ByteArray := prog_12_method_25_code
def yX10_lowestBeside : MethodName := ⟨RX10, "lowestBeside", "(III)I"⟩
abbrev cX10_highestBeside : ByteArray := prog_12_method_26_code
def yX10_highestBeside : MethodName := ⟨RX10, "highestBeside", "(III)I"⟩
abbrev cX10_sectionBeside : ByteArray := prog_12_method_27_code
def yX10_sectionBeside : MethodName := ⟨RX10, "sectionBeside", "(III)I"⟩
def RX11 : String := "CellPlane"
def TX11 : u_T := fun k => match k with
  | 0 => ("CellPlane", "page", "LCellPlane$Page;", true)
  | 1 => ("CellPlane", "row", "LCellPlane$Row;", true)
  | 2 => ("CellPlane", "keptRow", "LCellPlane$Row;", true)
  | 3 => ("CellPlane", "fewerRow", "LCellPlane$Row;", true)
  | 4 => ("CellPlane", "seen", "LCellPlane$Seen;", true)
  | 5 => ("CellPlane", "keptSeen", "LCellPlane$Seen;", true)
  | 6 => ("CellPlane", "stacks", "LCellPlane$Stacks;", true)
  | 7 => ("CellPlane", "fewerStacks", "LCellPlane$Stacks;", true)
  | 8 => ("CellPlane", "asked", "LCellPlane$Form;", true)
  | 9 => ("CellPlane", "groups", "LCellPlane$Groups;", true)
  | 10 => ("CellPlane", "thrown", "LCellPlane$Dice;", true)
  | 11 => ("CellPlane", "ring", "LCellPlane$Ring;", true)
  | 12 => ("CellPlane", "imageStands", "Z", false)
  | 13 => ("CellPlane", "planesRead", "I", false)
  | 14 => ("CellPlane", "sentences", "I", false)
  | _ => ("CellPlane", "nextName", "I", false)
def tyX11 : Nat → FieldType := fun k => match k with
  | 0 => .object "CellPlane$Page"
  | 1 => .object "CellPlane$Row"
  | 2 => .object "CellPlane$Row"
  | 3 => .object "CellPlane$Row"
  | 4 => .object "CellPlane$Seen"
  | 5 => .object "CellPlane$Seen"
  | 6 => .object "CellPlane$Stacks"
  | 7 => .object "CellPlane$Stacks"
  | 8 => .object "CellPlane$Form"
  | 9 => .object "CellPlane$Groups"
  | 10 => .object "CellPlane$Dice"
  | 11 => .object "CellPlane$Ring"
  | 12 => .boolean
  | 13 => .int
  | 14 => .int
  | _ => .int
abbrev wsX110 : List Cond := u_ws RX11 TX11 16
theorem nmX11 : ∀ a, a < 16 → ∀ b, b < 16 → a ≠ b → (TX11 a).2.1 ≠ (TX11 b).2.1 := by decide +kernel
theorem tyX11_ok : ∀ k, k < 16 → parseFieldDescriptor (TX11 k).2.2.1 = some (tyX11 k) := by decide +kernel
abbrev cX11_init : ByteArray := prog_1_method_1_code
def yX11_init : MethodName := ⟨RX11, "<init>", "()V"⟩
abbrev cX11_letter : ByteArray := prog_1_method_2_code
def yX11_letter : MethodName := ⟨RX11, "letter", "(I)I"⟩
abbrev cX11_blank : ByteArray := prog_1_method_3_code
def yX11_blank : MethodName := ⟨RX11, "blank", "()I"⟩
abbrev cX11_fault : ByteArray := prog_1_method_4_code
def yX11_fault : MethodName := ⟨RX11, "fault", "()I"⟩
abbrev cX11_plane : ByteArray := prog_1_method_5_code
def yX11_plane : MethodName := ⟨RX11, "plane", "()I"⟩
abbrev cX11_curve : ByteArray := prog_1_method_6_code
def yX11_curve : MethodName := ⟨RX11, "curve", "(II)I"⟩
abbrev cX11_as : ByteArray := prog_1_method_7_code
def yX11_as : MethodName := ⟨RX11, "as", "(II)I"⟩
abbrev cX11_point : ByteArray := prog_1_method_8_code
def yX11_point : MethodName := ⟨RX11, "point", "(II)I"⟩
abbrev cX11_stack : ByteArray := prog_1_method_9_code
def yX11_stack : MethodName := ⟨RX11, "stack", "(I)I"⟩
abbrev cX11_cell : ByteArray := prog_1_method_10_code
def yX11_cell : MethodName := ⟨RX11, "cell", "(III)I"⟩
abbrev cX11_neighbours : ByteArray := prog_1_method_11_code
def yX11_neighbours : MethodName := ⟨RX11, "neighbours", "(II)I"⟩
abbrev cX11_put : ByteArray := prog_1_method_12_code
def yX11_put : MethodName := ⟨RX11, "put", "(III)I"⟩
abbrev cX11_take : ByteArray := prog_1_method_13_code
def yX11_take : MethodName := ⟨RX11, "take", "(I)I"⟩
abbrev cX11_move : ByteArray := prog_1_method_14_code
def yX11_move : MethodName := ⟨RX11, "move", "(III)I"⟩
abbrev cX11_change : ByteArray := prog_1_method_15_code
def yX11_change : MethodName := ⟨RX11, "change", "(II)I"⟩
abbrev cX11_mirror : ByteArray := prog_1_method_16_code
def yX11_mirror : MethodName := ⟨RX11, "mirror", "()I"⟩
abbrev cX11_sentence : ByteArray := prog_1_method_17_code
def yX11_sentence : MethodName := ⟨RX11, "sentence", "(IIII)I"⟩
abbrev cX11_pieces : ByteArray := prog_1_method_18_code
def yX11_pieces : MethodName := ⟨RX11, "pieces", "(II)I"⟩
abbrev cX11_loose : ByteArray := prog_1_method_19_code
def yX11_loose : MethodName := ⟨RX11, "loose", "()I"⟩
abbrev cX11_see : ByteArray := prog_1_method_20_code
def yX11_see : MethodName := ⟨RX11, "see", "(IIII)I"⟩
abbrev cX11_forget : ByteArray := prog_1_method_21_code
def yX11_forget : MethodName := ⟨RX11, "forget", "()I"⟩
abbrev cX11_dice : ByteArray := prog_1_method_22_code
def yX11_dice : MethodName := ⟨RX11, "dice", "(I)I"⟩
abbrev cX11_latest : ByteArray := prog_1_method_23_code
def yX11_latest : MethodName := ⟨RX11, "latest", "(I)I"⟩
abbrev cX11_image : ByteArray := prog_1_method_24_code
def yX11_image : MethodName := ⟨RX11, "image", "()I"⟩
abbrev cX11_restore : ByteArray := prog_1_method_25_code
def yX11_restore : MethodName := ⟨RX11, "restore", "()I"⟩
abbrev cX11_count : ByteArray := prog_1_method_26_code
def yX11_count : MethodName := ⟨RX11, "count", "(I)I"⟩
abbrev cX11_digest : ByteArray := prog_1_method_27_code
def yX11_digest : MethodName := ⟨RX11, "digest", "()J"⟩
abbrev cX11_mix : ByteArray := prog_1_method_28_code
def yX11_mix : MethodName := ⟨RX11, "mix", "(JI)J"⟩
abbrev cX11_mixCurves : ByteArray := prog_1_method_29_code
def yX11_mixCurves : MethodName := ⟨RX11, "mixCurves", "(J)J"⟩
abbrev cX11_mixPoints : ByteArray := prog_1_method_30_code
def yX11_mixPoints : MethodName := ⟨RX11, "mixPoints", "(J)J"⟩
abbrev cX11_mixStacks : ByteArray := prog_1_method_31_code
def yX11_mixStacks : MethodName := ⟨RX11, "mixStacks", "(J)J"⟩
abbrev cX11_isKind : ByteArray := prog_1_method_32_code
def yX11_isKind : MethodName := ⟨RX11, "isKind", "(I)Z"⟩
abbrev cX11_isNear : ByteArray := prog_1_method_33_code
def yX11_isNear : MethodName := ⟨RX11, "isNear", "(I)Z"⟩
abbrev cX11_isBit : ByteArray := prog_1_method_34_code
def yX11_isBit : MethodName := ⟨RX11, "isBit", "(I)Z"⟩
abbrev cX11_appendCurve : ByteArray := prog_1_method_35_code
def yX11_appendCurve : MethodName := ⟨RX11, "appendCurve", "(III)V"⟩
abbrev cX11_isSo : ByteArray := prog_1_method_36_code
def yX11_isSo : MethodName := ⟨RX11, "isSo", "(II)Z"⟩
abbrev cX11_isSoOver : ByteArray := prog_1_method_37_code
def yX11_isSoOver : MethodName := ⟨RX11, "isSoOver", "(II)Z"⟩
def RX12 : String := "CellPlaneModel"
def TX12 : u_T := fun k => match k with
  | 0 => ("CellPlaneModel", "page", "[I", true)
  | 1 => ("CellPlaneModel", "pageMany", "I", false)
  | 2 => ("CellPlaneModel", "curves", "I", false)
  | 3 => ("CellPlaneModel", "planesRead", "I", false)
  | 4 => ("CellPlaneModel", "nextName", "I", false)
  | 5 => ("CellPlaneModel", "kinds", "[I", true)
  | 6 => ("CellPlaneModel", "bs", "[I", true)
  | 7 => ("CellPlaneModel", "cs", "[I", true)
  | 8 => ("CellPlaneModel", "names", "[I", true)
  | 9 => ("CellPlaneModel", "old", "Z", false)
  | 10 => ("CellPlaneModel", "part", "[J", true)
  | 11 => ("CellPlaneModel", "sign", "[J", true)
  | 12 => ("CellPlaneModel", "root", "[J", true)
  | 13 => ("CellPlaneModel", "whole", "[J", true)
  | 14 => ("CellPlaneModel", "points", "I", false)
  | 15 => ("CellPlaneModel", "stacks", "I", false)
  | 16 => ("CellPlaneModel", "ranks", "[I", true)
  | 17 => ("CellPlaneModel", "sections", "[I", true)
  | 18 => ("CellPlaneModel", "sentences", "I", false)
  | 19 => ("CellPlaneModel", "ring", "[I", true)
  | 20 => ("CellPlaneModel", "ringMany", "I", false)
  | 21 => ("CellPlaneModel", "pieceOf", "[I", true)
  | 22 => ("CellPlaneModel", "seenMany", "I", false)
  | 23 => ("CellPlaneModel", "sights", "[I", true)
  | 24 => ("CellPlaneModel", "seedNow", "I", false)
  | 25 => ("CellPlaneModel", "keptPlane", "I", false)
  | 26 => ("CellPlaneModel", "keptCurves", "I", false)
  | 27 => ("CellPlaneModel", "keptSeen", "I", false)
  | 28 => ("CellPlaneModel", "keptKinds", "[I", true)
  | 29 => ("CellPlaneModel", "keptBs", "[I", true)
  | 30 => ("CellPlaneModel", "keptCs", "[I", true)
  | 31 => ("CellPlaneModel", "keptNames", "[I", true)
  | 32 => ("CellPlaneModel", "keptSights", "[I", true)
  | _ => ("CellPlaneModel", "hash", "J", false)
def tyX12 : Nat → FieldType := fun k => match k with
  | 0 => .array .int
  | 1 => .int
  | 2 => .int
  | 3 => .int
  | 4 => .int
  | 5 => .array .int
  | 6 => .array .int
  | 7 => .array .int
  | 8 => .array .int
  | 9 => .boolean
  | 10 => .array .long
  | 11 => .array .long
  | 12 => .array .long
  | 13 => .array .long
  | 14 => .int
  | 15 => .int
  | 16 => .array .int
  | 17 => .array .int
  | 18 => .int
  | 19 => .array .int
  | 20 => .int
  | 21 => .array .int
  | 22 => .int
  | 23 => .array .int
  | 24 => .int
  | 25 => .int
  | 26 => .int
  | 27 => .int
  | 28 => .array .int
  | 29 => .array .int
  | 30 => .array .int
  | 31 => .array .int
  | 32 => .array .int
  | _ => .long
abbrev wsX120 : List Cond := u_ws RX12 TX12 34
theorem nmX12 : ∀ a, a < 34 → ∀ b, b < 34 → a ≠ b → (TX12 a).2.1 ≠ (TX12 b).2.1 := by decide +kernel
theorem tyX12_ok : ∀ k, k < 34 → parseFieldDescriptor (TX12 k).2.2.1 = some (tyX12 k) := by decide +kernel
abbrev cX12_init : ByteArray := prog_14_method_1_code
def yX12_init : MethodName := ⟨RX12, "<init>", "()V"⟩
abbrev cX12_in : ByteArray := prog_14_method_2_code
def yX12_in : MethodName := ⟨RX12, "in", "(JJJ)Z"⟩
abbrev cX12_copy : ByteArray := prog_14_method_3_code
def yX12_copy : MethodName := ⟨RX12, "copy", "([I[I)V"⟩
abbrev cX12_letter : ByteArray := prog_14_method_4_code
def yX12_letter : MethodName := ⟨RX12, "letter", "(I)I"⟩
abbrev cX12_blank : ByteArray := prog_14_method_5_code
def yX12_blank : MethodName := ⟨RX12, "blank", "()I"⟩
abbrev cX12_kindBy : ByteArray := prog_14_method_6_code
def yX12_kindBy : MethodName := ⟨RX12, "kindBy", "(I)I"⟩
abbrev cX12_isGood : ByteArray := prog_14_method_7_code
def yX12_isGood : MethodName := ⟨RX12, "isGood", "(I)Z"⟩
abbrev cX12_faultOf : ByteArray := prog_14_method_8_code
def yX12_faultOf : MethodName := ⟨RX12, "faultOf", "()I"⟩
abbrev cX12_fault : ByteArray := prog_14_method_9_code
def yX12_fault : MethodName := ⟨RX12, "fault", "()I"⟩
abbrev cX12_numberAt : ByteArray := prog_14_method_10_code
def yX12_numberAt : MethodName := ⟨RX12, "numberAt", "(I)I"⟩
abbrev cX12_name : ByteArray := prog_14_method_11_code
def yX12_name : MethodName := ⟨RX12, "name", "(I)V"⟩
abbrev cX12_plane : ByteArray := prog_14_method_12_code
def yX12_plane : MethodName := ⟨RX12, "plane", "()I"⟩
abbrev cX12_lacks : ByteArray := prog_14_method_13_code
def yX12_lacks : MethodName := ⟨RX12, "lacks", "()Z"⟩
abbrev cX12_isCurve : ByteArray := prog_14_method_14_code
def yX12_isCurve : MethodName := ⟨RX12, "isCurve", "(I)Z"⟩
abbrev cX12_squareBy : ByteArray := prog_14_method_15_code
def yX12_squareBy : MethodName := ⟨RX12, "squareBy", "(I)I"⟩
abbrev cX12_square : ByteArray := prog_14_method_16_code
def yX12_square : MethodName := ⟨RX12, "square", "(I)I"⟩
abbrev cX12_slope : ByteArray := prog_14_method_17_code
def yX12_slope : MethodName := ⟨RX12, "slope", "(I)I"⟩
abbrev cX12_isFlat : ByteArray := prog_14_method_18_code
def yX12_isFlat : MethodName := ⟨RX12, "isFlat", "(I)Z"⟩
abbrev cX12_isSame : ByteArray := prog_14_method_19_code
def yX12_isSame : MethodName := ⟨RX12, "isSame", "(II)Z"⟩
abbrev cX12_signOf : ByteArray := prog_14_method_20_code
def yX12_signOf : MethodName := ⟨RX12, "signOf", "(J)I"⟩
abbrev cX12_signRoot : ByteArray := prog_14_method_21_code
def yX12_signRoot : MethodName := ⟨RX12, "signRoot", "(JJJ)I"⟩
abbrev cX12_signRoots : ByteArray := prog_14_method_22_code
def yX12_signRoots : MethodName := ⟨RX12, "signRoots", "(JJJJJ)I"⟩
abbrev cX12_layNumber : ByteArray := prog_14_method_23_code
def yX12_layNumber : MethodName := ⟨RX12, "layNumber", "(IJJJJ)V"⟩
abbrev cX12_compare : ByteArray := prog_14_method_24_code
def yX12_compare : MethodName := ⟨RX12, "compare", "(II)I"⟩
abbrev cX12_compareTo : ByteArray := prog_14_method_25_code
def yX12_compareTo : MethodName := ⟨RX12, "compareTo", "(IJJ)I"⟩
abbrev cX12_floorOf : ByteArray := prog_14_method_26_code
def yX12_floorOf : MethodName := ⟨RX12, "floorOf", "(IJ)J"⟩
abbrev cX12_difference : ByteArray := prog_14_method_27_code
def yX12_difference : MethodName := ⟨RX12, "difference", "(III)I"⟩
abbrev cX12_addPoint : ByteArray := prog_14_method_28_code
def yX12_addPoint : MethodName := ⟨RX12, "addPoint", "(JJJJ)V"⟩
abbrev cX12_addRoots : ByteArray := prog_14_method_29_code
def yX12_addRoots : MethodName := ⟨RX12, "addRoots", "(II)V"⟩
abbrev cX12_layPoints : ByteArray := prog_14_method_30_code
def yX12_layPoints : MethodName := ⟨RX12, "layPoints", "(I)V"⟩
abbrev cX12_laySample : ByteArray := prog_14_method_31_code
def yX12_laySample : MethodName := ⟨RX12, "laySample", "(II)V"⟩
abbrev cX12_laySamples : ByteArray := prog_14_method_32_code
def yX12_laySamples : MethodName := ⟨RX12, "laySamples", "()V"⟩
abbrev cX12_layRanks : ByteArray := prog_14_method_33_code
def yX12_layRanks : MethodName := ⟨RX12, "layRanks", "(I)V"⟩
abbrev cX12_isFirst : ByteArray := prog_14_method_34_code
def yX12_isFirst : MethodName := ⟨RX12, "isFirst", "(III)Z"⟩
abbrev cX12_layAll : ByteArray := prog_14_method_35_code
def yX12_layAll : MethodName := ⟨RX12, "layAll", "(I)V"⟩
abbrev cX12_freshen : ByteArray := prog_14_method_36_code
def yX12_freshen : MethodName := ⟨RX12, "freshen", "()V"⟩
abbrev cX12_cellsIn : ByteArray := prog_14_method_37_code
def yX12_cellsIn : MethodName := ⟨RX12, "cellsIn", "(I)I"⟩
abbrev cX12_cellsAll : ByteArray := prog_14_method_38_code
def yX12_cellsAll : MethodName := ⟨RX12, "cellsAll", "()I"⟩
abbrev cX12_isStack : ByteArray := prog_14_method_39_code
def yX12_isStack : MethodName := ⟨RX12, "isStack", "(I)Z"⟩
abbrev cX12_isCell : ByteArray := prog_14_method_40_code
def yX12_isCell : MethodName := ⟨RX12, "isCell", "(II)Z"⟩
abbrev cX12_lies : ByteArray := prog_14_method_41_code
def yX12_lies : MethodName := ⟨RX12, "lies", "(III)I"⟩
abbrev cX12_stack : ByteArray := prog_14_method_42_code
def yX12_stack : MethodName := ⟨RX12, "stack", "(I)I"⟩
abbrev cX12_cell : ByteArray := prog_14_method_43_code
def yX12_cell : MethodName := ⟨RX12, "cell", "(III)I"⟩
abbrev cX12_comesTo : ByteArray := prog_14_method_44_code
def yX12_comesTo : MethodName := ⟨RX12, "comesTo", "(III)I"⟩
abbrev cX12_isBeside : ByteArray := prog_14_method_45_code
def yX12_isBeside : MethodName := ⟨RX12, "isBeside", "(IIII)Z"⟩
abbrev cX12_isNeighbour : ByteArray := prog_14_method_46_code
def yX12_isNeighbour : MethodName := ⟨RX12, "isNeighbour", "(IIII)Z"⟩
abbrev cX12_neighbours : ByteArray := prog_14_method_47_code
def yX12_neighbours : MethodName := ⟨RX12, "neighbours", "(II)I"⟩
abbrev cX12_isForm : ByteArray := prog_14_method_48_code
def yX12_isForm : MethodName := ⟨RX12, "isForm", "(I)Z"⟩
abbrev cX12_figureOf : ByteArray := prog_14_method_49_code
def yX12_figureOf : MethodName := ⟨RX12, "figureOf", "(II)I"⟩
abbrev cX12_isSo : ByteArray := prog_14_method_50_code
def yX12_isSo : MethodName := ⟨RX12, "isSo", "(II)Z"⟩
abbrev cX12_holds : ByteArray := prog_14_method_51_code
def yX12_holds : MethodName := ⟨RX12, "holds", "(IIII)Z"⟩
abbrev cX12_holdsIn : ByteArray := prog_14_method_52_code
def yX12_holdsIn : MethodName := ⟨RX12, "holdsIn", "(IIII)Z"⟩
abbrev cX12_sentence : ByteArray := prog_14_method_53_code
def yX12_sentence : MethodName := ⟨RX12, "sentence", "(IIII)I"⟩
abbrev cX12_latest : ByteArray := prog_14_method_54_code
def yX12_latest : MethodName := ⟨RX12, "latest", "(I)I"⟩
abbrev cX12_isSpread : ByteArray := prog_14_method_55_code
def yX12_isSpread : MethodName := ⟨RX12, "isSpread", "()Z"⟩
abbrev cX12_piecesOf : ByteArray := prog_14_method_56_code
def yX12_piecesOf : MethodName := ⟨RX12, "piecesOf", "(II)I"⟩
abbrev cX12_pieces : ByteArray := prog_14_method_57_code
def yX12_pieces : MethodName := ⟨RX12, "pieces", "(II)I"⟩
abbrev cX12_loose : ByteArray := prog_14_method_58_code
def yX12_loose : MethodName := ⟨RX12, "loose", "()I"⟩
abbrev cX12_tellCurve : ByteArray := prog_14_method_59_code
def yX12_tellCurve : MethodName := ⟨RX12, "tellCurve", "(II)I"⟩
abbrev cX12_curve : ByteArray := prog_14_method_60_code
def yX12_curve : MethodName := ⟨RX12, "curve", "(II)I"⟩
abbrev cX12_as : ByteArray := prog_14_method_61_code
def yX12_as : MethodName := ⟨RX12, "as", "(II)I"⟩
abbrev cX12_meeting : ByteArray := prog_14_method_62_code
def yX12_meeting : MethodName := ⟨RX12, "meeting", "(I)I"⟩
abbrev cX12_standing : ByteArray := prog_14_method_63_code
def yX12_standing : MethodName := ⟨RX12, "standing", "(I)I"⟩
abbrev cX12_tellPoint : ByteArray := prog_14_method_64_code
def yX12_tellPoint : MethodName := ⟨RX12, "tellPoint", "(II)I"⟩
abbrev cX12_point : ByteArray := prog_14_method_65_code
def yX12_point : MethodName := ⟨RX12, "point", "(II)I"⟩
abbrev cX12_isNumber : ByteArray := prog_14_method_66_code
def yX12_isNumber : MethodName := ⟨RX12, "isNumber", "(I)Z"⟩
abbrev cX12_put : ByteArray := prog_14_method_67_code
def yX12_put : MethodName := ⟨RX12, "put", "(III)I"⟩
abbrev cX12_take : ByteArray := prog_14_method_68_code
def yX12_take : MethodName := ⟨RX12, "take", "(I)I"⟩
abbrev cX12_cellsNow : ByteArray := prog_14_method_69_code
def yX12_cellsNow : MethodName := ⟨RX12, "cellsNow", "()I"⟩
abbrev cX12_move : ByteArray := prog_14_method_70_code
def yX12_move : MethodName := ⟨RX12, "move", "(III)I"⟩
abbrev cX12_change : ByteArray := prog_14_method_71_code
def yX12_change : MethodName := ⟨RX12, "change", "(II)I"⟩
abbrev cX12_mirror : ByteArray := prog_14_method_72_code
def yX12_mirror : MethodName := ⟨RX12, "mirror", "()I"⟩
abbrev cX12_see : ByteArray := prog_14_method_73_code
def yX12_see : MethodName := ⟨RX12, "see", "(IIII)I"⟩
abbrev cX12_forget : ByteArray := prog_14_method_74_code
def yX12_forget : MethodName := ⟨RX12, "forget", "()I"⟩
abbrev cX12_liesAt : ByteArray := prog_14_method_75_code
def yX12_liesAt : MethodName := ⟨RX12, "liesAt", "(IIII)I"⟩
abbrev cX12_sortsOf : ByteArray := prog_14_method_76_code
def yX12_sortsOf : MethodName := ⟨RX12, "sortsOf", "(I)I"⟩
abbrev cX12_askOf : ByteArray := prog_14_method_77_code
def yX12_askOf : MethodName := ⟨RX12, "askOf", "(I)I"⟩
abbrev cX12_dice : ByteArray := prog_14_method_78_code
def yX12_dice : MethodName := ⟨RX12, "dice", "(I)I"⟩
abbrev cX12_image : ByteArray := prog_14_method_79_code
def yX12_image : MethodName := ⟨RX12, "image", "()I"⟩
abbrev cX12_restore : ByteArray := prog_14_method_80_code
def yX12_restore : MethodName := ⟨RX12, "restore", "()I"⟩
abbrev cX12_sectionsAll : ByteArray := prog_14_method_81_code
def yX12_sectionsAll : MethodName := ⟨RX12, "sectionsAll", "()I"⟩
abbrev cX12_countPlane : ByteArray := prog_14_method_82_code
def yX12_countPlane : MethodName := ⟨RX12, "countPlane", "(I)I"⟩
abbrev cX12_countOf : ByteArray := prog_14_method_83_code
def yX12_countOf : MethodName := ⟨RX12, "countOf", "(I)I"⟩
abbrev cX12_count : ByteArray := prog_14_method_84_code
def yX12_count : MethodName := ⟨RX12, "count", "(I)I"⟩
abbrev cX12_say : ByteArray := prog_14_method_85_code
def yX12_say : MethodName := ⟨RX12, "say", "(J)V"⟩
abbrev cX12_sayStacks : ByteArray := prog_14_method_86_code
def yX12_sayStacks : MethodName := ⟨RX12, "sayStacks", "()V"⟩
abbrev cX12_digest : ByteArray := prog_14_method_87_code
def yX12_digest : MethodName := ⟨RX12, "digest", "()J"⟩
def RJ6 : String := "java/lang/Integer"
def TJ6 : u_T := fun k => match k with
  | _ => ("", "", "", false)
def tyJ6 : Nat → FieldType := fun k => match k with
  | _ => .int
abbrev wsJ60 : List Cond := u_ws RJ6 TJ6 0
theorem nmJ6 : ∀ a, a < 0 → ∀ b, b < 0 → a ≠ b → (TJ6 a).2.1 ≠ (TJ6 b).2.1 := by decide +kernel
theorem tyJ6_ok : ∀ k, k < 0 → parseFieldDescriptor (TJ6 k).2.2.1 = some (tyJ6 k) := by decide +kernel
abbrev cJ6_compare_7cf53 : ByteArray := prog_15_method_40_code
def yJ6_compare_7cf53 : MethodName := ⟨RJ6, "compare", "(II)I"⟩
def RJ13 : String := "java/lang/Long"
def TJ13 : u_T := fun k => match k with
  | _ => ("", "", "", false)
def tyJ13 : Nat → FieldType := fun k => match k with
  | _ => .int
abbrev wsJ130 : List Cond := u_ws RJ13 TJ13 0
theorem nmJ13 : ∀ a, a < 0 → ∀ b, b < 0 → a ≠ b → (TJ13 a).2.1 ≠ (TJ13 b).2.1 := by decide +kernel
theorem tyJ13_ok : ∀ k, k < 0 → parseFieldDescriptor (TJ13 k).2.2.1 = some (tyJ13 k) := by decide +kernel
abbrev cJ13_compare_74951 : ByteArray := prog_16_method_42_code
def yJ13_compare_74951 : MethodName := ⟨RJ13, "compare", "(JJ)I"⟩
def RJ9 : String := "java/lang/Math"
def TJ9 : u_T := fun k => match k with
  | _ => ("", "", "", false)
def tyJ9 : Nat → FieldType := fun k => match k with
  | _ => .int
abbrev wsJ90 : List Cond := u_ws RJ9 TJ9 0
theorem nmJ9 : ∀ a, a < 0 → ∀ b, b < 0 → a ≠ b → (TJ9 a).2.1 ≠ (TJ9 b).2.1 := by decide +kernel
theorem tyJ9_ok : ∀ k, k < 0 → parseFieldDescriptor (TJ9 k).2.2.1 = some (tyJ9 k) := by decide +kernel
abbrev cJ9_floorDiv_f86c9 : ByteArray := prog_17_method_49_code
def yJ9_floorDiv_f86c9 : MethodName := ⟨RJ9, "floorDiv", "(JJ)J"⟩
abbrev cJ9_floorMod_7cf53 : ByteArray := prog_17_method_50_code
def yJ9_floorMod_7cf53 : MethodName := ⟨RJ9, "floorMod", "(II)I"⟩
abbrev cJ9_max_7cf53 : ByteArray := prog_17_method_65_code
def yJ9_max_7cf53 : MethodName := ⟨RJ9, "max", "(II)I"⟩
abbrev cJ9_min_7cf53 : ByteArray := prog_17_method_69_code
def yJ9_min_7cf53 : MethodName := ⟨RJ9, "min", "(II)I"⟩
def RL : String := "CellPlaneLaw"
abbrev cL_law : ByteArray := code
def yL_law : MethodName := ⟨RL, "law", "([I)Z"⟩
abbrev vwCl : List vw_C := [(RX0, TX0, 4), (RX1, TX1, 1), (RX3, TX3, 2), (RX4, TX4, 2), (RX5, TX5, 2), (RX6, TX6, 3), (RX7, TX7, 4), (RX8, TX8, 2), (RX9, TX9, 5), (RX10, TX10, 11), (RX11, TX11, 16), (RX12, TX12, 34)]
end
section
/-! the abstract state: values (tag, number), memory by cell and slot, shapes; what a machine state must be to hold one -/
abbrev zAV : Type := Nat × Int
abbrev zMem : Type := Int → Int → Int
abbrev zSh : Type := List (Nat × Nat)
/-- name, bytes, locals, answer, frames, locals' room, cells, slots -/
abbrev zMT : Type := MethodName × ByteArray × Nat × Option FieldType × Nat × Nat × Nat × Nat
/-- the script's cell, the heap at the law's start, class ids, slots of fields, array class ids, the script -/
abbrev zCT : Type := Nat × Heap × (Nat → ClassId) × (Nat → Nat → Nat) × (Nat → ClassId) × Nat × (Nat → Int32)
def zwsG : List Cond := lw_tbl.filter goodWord
def zws (mt : zMT) : List Cond := .code mt.1 mt.2.1 mt.2.2.1 mt.2.2.2.1 :: zwsG
def zrm (mt : zMT) : Room := { frames := mt.2.2.2.2.1, locals := mt.2.2.2.2.2.1, cells := mt.2.2.2.2.2.2.1, slots := mt.2.2.2.2.2.2.2 }
def zro (X : zCT) (v : Int) : Option Nat := if v = -2 then some X.1 else if v < 0 then none else some (X.2.1.size + v.toNat)
def zcV (X : zCT) (v : zAV) : Value := match v.1 with
  | 0 => .int (Int32.ofInt v.2)
  | 1 => .long (Int64.ofInt v.2)
  | _ => va_rf (zro X v.2)
def ztag (ty : FieldType) : Nat := match ty with
  | .long => 1
  | .object _ => 2
  | .array _ => 2
  | _ => 0
def zN (c : Nat) : Nat := match vwCl[c]? with
  | some q => q.2.2
  | none => 0
def zty (c k : Nat) : FieldType := match c with
  | 0 => tyX0 k
  | 1 => tyX1 k
  | 2 => tyX3 k
  | 3 => tyX4 k
  | 4 => tyX5 k
  | 5 => tyX6 k
  | 6 => tyX7 k
  | 7 => tyX8 k
  | 8 => tyX9 k
  | 9 => tyX10 k
  | 10 => tyX11 k
  | _ => tyX12 k
def zE (X : zCT) (mem : zMem) (i : Nat) (q : Nat × Nat) : va_E := match q.1 with
  | 12 => .inl (X.2.2.2.2.1 12, q.2, .inl (fun k => Int32.ofInt (mem i k)))
  | 13 => .inl (X.2.2.2.2.1 13, q.2, .inr (.inl (fun k => Int64.ofInt (mem i k))))
  | 14 => .inl (X.2.2.2.2.1 14, q.2, .inl (fun k => Int32.ofInt (mem i k)))
  | 15 => .inl (X.2.2.2.2.1 15, q.2, .inr (.inr (.inr (.inr (fun k => zro X (mem i k))))))
  | 16 => .inl (X.2.2.2.2.1 16, q.2, .inr (.inr (.inr (.inr (fun k => zro X (mem i k))))))
  | c => .inr (c, (List.range (zN c)).map (fun k => zcV X (ztag (zty c k), mem i k)))
def zW (X : zCT) (sh : zSh) (mem : zMem) : va_W := sh.zipIdx.map (fun p => (X.2.1.size + p.2, zE X mem p.2 p.1))
theorem zW_get (X : zCT) (sh : zSh) (mem : zMem) (i : Nat) : (zW X sh mem)[i]? = (sh[i]?).map (fun q => (X.2.1.size + i, zE X mem i q)) := by
  unfold zW
  rw [List.getElem?_map, List.getElem?_zipIdx]
  cases sh[i]? <;> simp
theorem zW_len (X : zCT) (sh : zSh) (mem : zMem) : (zW X sh mem).length = sh.length := by simp [zW]
theorem zW_app (X : zCT) (sh : zSh) (mem : zMem) (q : Nat × Nat) : zW X (sh ++ [q]) mem = zW X sh mem ++ [(X.2.1.size + sh.length, zE X mem sh.length q)] := by
  simp [zW, List.zipIdx_append]
theorem zW_D (X : zCT) (sh : zSh) (mem : zMem) : va_D (fun q => X.2.1.size ≤ q) (zW X sh mem) := by
  refine ⟨fun i j p q hi hj h => ?_, fun k q hk => ?_⟩
  · rw [zW_get] at hi hj
    obtain ⟨a, -, rfl⟩ := Option.map_eq_some_iff.mp hi
    obtain ⟨b, -, rfl⟩ := Option.map_eq_some_iff.mp hj
    simp only at h
    omega
  · rw [zW_get] at hk
    obtain ⟨a, -, rfl⟩ := Option.map_eq_some_iff.mp hk
    exact Nat.le_add_right _ _
/-- another memory that differs at one cell -/
theorem zW_set (X : zCT) (sh : zSh) (mem mem' : zMem) (i : Nat) (q : Nat × Nat) (e : va_E) (hq : sh[i]? = some q) (he : zE X mem' i q = e) (ho : ∀ j : Nat, j ≠ i → mem' j = mem j) : (zW X sh mem).set i (X.2.1.size + i, e) = zW X sh mem' := by
  apply List.ext_getElem?
  intro j
  by_cases h : j = i
  · subst h
    have hl : j < sh.length := (List.getElem?_eq_some_iff.mp hq).1
    rw [List.getElem?_set_self (by rw [zW_len]; exact hl), zW_get, hq]
    simp [he]
  · rw [List.getElem?_set_ne (Ne.symm h), zW_get, zW_get]
    cases hs : sh[j]? with
    | none => rfl
    | some p =>
      simp only [Option.map_some]
      have : zE X mem' j p = zE X mem j p := by
        unfold zE
        rw [ho j h]
      rw [this]
def zup (mem : zMem) (a k v : Int) : zMem := fun a' k' => if a' = a ∧ k' = k then v else mem a' k'
def zkd (sh : zSh) (a : Int) : Nat × Nat := match a with
  | .ofNat i => sh.getD i (99, 0)
  | .negSucc _ => (99, 0)
theorem zkd_at {sh : zSh} {a : Int} {q : Nat × Nat} (h : zkd sh a = q) (hq : q.1 < 99) : ∃ i : Nat, a = (i : Int) ∧ sh[i]? = some q := by
  cases a with
  | ofNat i =>
    refine ⟨i, rfl, ?_⟩
    have h1 : sh.getD i (99, 0) = q := h
    rw [List.getD_eq_getElem?_getD] at h1
    cases hs : sh[i]? with
    | none => rw [hs] at h1; subst h1; exact absurd hq (by decide)
    | some p => rw [hs] at h1; rw [← h1]; rfl
  | negSucc i =>
    have h1 : ((99, 0) : Nat × Nat) = q := h
    subst h1
    exact absurd hq (by decide)
theorem zro_nat (X : zCT) (i : Nat) : zro X (i : Int) = some (X.2.1.size + i) := by
  unfold zro
  rw [if_neg (by omega), if_neg (by omega)]
  simp
theorem zcV_ref (X : zCT) (i : Nat) : zcV X (2, (i : Int)) = .ref (X.2.1.size + i) := by
  show va_rf (zro X (i : Int)) = _
  rw [zro_nat]; rfl
theorem zcV_scr (X : zCT) : zcV X (2, -2) = .ref X.1 := rfl
def zH (X : zCT) (sh : zSh) (mem : zMem) (H : Heap) : Prop := va_P (X.2.2.1, X.2.2.2.1) vwCl (zW X sh mem) H ∧ H.size = X.2.1.size + sh.length ∧ ∀ q : Nat, q < X.2.1.size → H[q]? = X.2.1[q]?
def ztys (X : zCT) : List (ClassId × FieldType) := [(X.2.2.2.2.1 12, .int), (X.2.2.2.2.1 13, .long), (X.2.2.2.2.1 14, .boolean), (X.2.2.2.2.1 15, .object "CellPlane$Curve"), (X.2.2.2.2.1 16, .object "CellPlane$Root")]
end
section
/-! contexts, the judgement zV, contracts zSp -/
def znest : List (String × Nat × MethodName × String) := [("CellPlane", 11, yX5_init, "CellPlane"), ("CellPlane$Row", 21, yX0_init, "CellPlane"), ("CellPlane", 31, yX9_init, "CellPlane"), ("CellPlane$Stacks", 50, yX7_init, "CellPlane"), ("CellPlane", 51, yX3_init, "CellPlane"), ("CellPlane", 58, yX4_init, "CellPlane"), ("CellPlane", 65, yX1_init, "CellPlane"), ("CellPlane", 72, yX6_init, "CellPlane")]
def zK (X : zCT) (U : State) : Prop := va_K (X.2.2.1, X.2.2.2.1) vwCl (ztys X) U ∧ (va_X X.1 X.2.2.2.2.2.1 X.2.2.2.2.2.2 U X.2.1 ∧ X.1 < X.2.1.size) ∧ (∀ q ∈ znest, va_Nw (.methodLinkNest q.1 q.2.1 q.2.2.1 q.2.2.2) U) ∧ va_AO "CellPlane$Curve" U ∧ va_AO "CellPlane$Root" U
theorem zK_moved {X : zCT} {s U : State} (hW : s.WarmedH U.vm) (h : zK X s) : zK X U :=
  ⟨va_K.moved hW.alike h.1, ⟨va_X.moved hW.alike h.2.1.1, h.2.1.2⟩, fun q hq => va_Nw.warmM hW (h.2.2.1 q hq), va_AO.moved hW.alike h.2.2.2.1, va_AO.moved hW.alike h.2.2.2.2⟩
theorem zK_calling {X : zCT} {U : State} (g : JFrame) (mk : MethodId) (a : Array Value) (h : zK X U) : zK X (U.calling g mk a) :=
  ⟨va_K.moved (u := U) (U := U.calling g mk a) (Vm.Alike.refl U.vm) h.1, ⟨va_X.moved (u := U) (U := U.calling g mk a) (Vm.Alike.refl U.vm) h.2.1.1, h.2.1.2⟩, fun q hq => va_Nw.same rfl (u := U) (U := U.calling g mk a) rfl (h.2.2.1 q hq), va_AO.moved (u := U) (U := U.calling g mk a) (Vm.Alike.refl U.vm) h.2.2.2.1, va_AO.moved (u := U) (U := U.calling g mk a) (Vm.Alike.refl U.vm) h.2.2.2.2⟩
def zgl : List (Option zAV) → Nat → Option zAV
  | [], _ => none
  | x :: _, 0 => x
  | _ :: l, n + 1 => zgl l n
def zsl : List (Option zAV) → Nat → Option zAV → List (Option zAV)
  | [], _, _ => []
  | _ :: l, 0, x => x :: l
  | y :: l, n + 1, x => y :: zsl l n x
def zcp (L : List (Option zAV)) (i : Nat) : List (Option zAV) := match i with
  | 0 => L
  | j + 1 => match zgl L j with
    | some (1, _) => zsl L j none
    | _ => L
def zs1 (L : List (Option zAV)) (i : Nat) (v : zAV) : List (Option zAV) := zsl (zcp L i) i (some v)
def zs2 (L : List (Option zAV)) (i : Nat) (v : zAV) : List (Option zAV) := zsl (zsl (zcp L i) i (some v)) (i + 1) none
theorem zgl_sl (L : List (Option zAV)) (x : Option zAV) : ∀ (i j : Nat) (v : zAV), zgl (zsl L i x) j = some v → (j = i ∧ x = some v) ∨ (j ≠ i ∧ zgl L j = some v) := by
  induction L with
  | nil => intro i j v h; simp [zsl, zgl] at h
  | cons y l ih =>
    intro i j v h
    cases i with
    | zero =>
      cases j with
      | zero => exact Or.inl ⟨rfl, h⟩
      | succ j => exact Or.inr ⟨by omega, h⟩
    | succ i =>
      cases j with
      | zero => exact Or.inr ⟨by omega, h⟩
      | succ j =>
        rcases ih i j v h with ⟨a, b⟩ | ⟨a, b⟩
        · exact Or.inl ⟨by omega, b⟩
        · exact Or.inr ⟨by omega, b⟩
theorem zgl_cp (L : List (Option zAV)) (i j : Nat) (v : zAV) (h : zgl (zcp L i) j = some v) : zgl L j = some v ∧ ¬ (j + 1 = i ∧ v.1 = 1) := by
  cases i with
  | zero => exact ⟨h, fun q => by omega⟩
  | succ k =>
    have key : zgl (match zgl L k with
      | some (1, _) => zsl L k none
      | _ => L) j = some v := h
    cases hk : zgl L k with
    | none =>
      rw [hk] at key
      refine ⟨key, fun q => ?_⟩
      have e : j = k := by omega
      subst e
      rw [hk] at key
      cases key
    | some w =>
      obtain ⟨t, x⟩ := w
      by_cases ht : t = 1
      · subst ht
        rw [hk] at key
        rcases zgl_sl L none k j v key with ⟨_, b⟩ | ⟨a, b⟩
        · cases b
        · exact ⟨b, fun q => a (by omega)⟩
      · rw [hk] at key
        have key2 : zgl L j = some v := by
          split at key
          · next h9 => cases h9; exact absurd rfl ht
          · exact key
        refine ⟨key2, fun q => ?_⟩
        have e : j = k := by omega
        subst e
        rw [hk] at key2
        cases key2
        exact ht q.2
def zL (X : zCT) (ls : Array Slot) (n : Nat) (L : List (Option zAV)) : Prop := ls.size = n ∧ lv_wf ls ∧ ∀ (i : Nat) (v : zAV), zgl L i = some v → ls[i]? = some (.val (zcV X v))
theorem zcat (X : zCT) (v : zAV) : (zcV X v).category = 2 ↔ v.1 = 1 := by
  obtain ⟨t, x⟩ := v
  match t with
  | 0 => simp [zcV, Value.category]
  | 1 => simp [zcV, Value.category]
  | t + 2 =>
    show (va_rf (zro X x)).category = 2 ↔ _
    cases zro X x <;> simp [va_rf, Value.category]
def zas (X : zCT) (n : Nat) (L : List (Option zAV)) : List (Nat × Value) := (List.range n).filterMap (fun i => (zgl L i).map (fun v => (i, zcV X v)))
theorem zgl_lt (L : List (Option zAV)) : ∀ (i : Nat) (v : zAV), zgl L i = some v → i < L.length := by
  induction L with
  | nil => intro i v h; simp [zgl] at h
  | cons x l ih =>
    intro i v h
    cases i with
    | zero => simp
    | succ i => have := ih i v h; simp; omega
theorem zas_mem {X : zCT} {n : Nat} {L : List (Option zAV)} {i : Nat} {v : zAV} (hi : i < n) (h : zgl L i = some v) : (i, zcV X v) ∈ zas X n L :=
  List.mem_filterMap.mpr ⟨i, List.mem_range.mpr hi, by rw [h]; rfl⟩
theorem zL_has {X : zCT} {ls : Array Slot} {n : Nat} {L : List (Option zAV)} (h : zL X ls n L) : lv_has ls n (zas X n L) := by
  refine ⟨h.1, h.2.1, fun q hq => ?_⟩
  obtain ⟨i, -, hi⟩ := List.mem_filterMap.mp hq
  obtain ⟨v, hv, rfl⟩ := Option.map_eq_some_iff.mp hi
  exact h.2.2 i v hv
theorem zL_s1 {X : zCT} {ls ls' : Array Slot} {n i : Nat} {L : List (Option zAV)} {v : zAV} (h : zL X ls n L) (h' : lv_has ls' n ((i, zcV X v) :: (zas X n L).filter (fun q => !(q.1 == i) && !(q.1 + 1 == i && q.2.category == 2)))) : zL X ls' n (zs1 L i v) := by
  refine ⟨h'.1, h'.2.1, fun j w hw => ?_⟩
  rcases zgl_sl _ _ i j w hw with ⟨a, b⟩ | ⟨a, b⟩
  · cases b
    subst a
    exact h'.2.2 _ List.mem_cons_self
  · obtain ⟨c1, c2⟩ := zgl_cp L i j w b
    have hj : j < n := by rw [← h.1]; exact lv_lt (h.2.2 j w c1)
    refine h'.2.2 (j, zcV X w) (List.mem_cons_of_mem _ (List.mem_filter.mpr ⟨zas_mem hj c1, ?_⟩))
    have hc := zcat X w
    simp only [Bool.and_eq_true, Bool.not_eq_true', beq_eq_false_iff_ne, ne_eq, Bool.and_eq_false_iff]
    refine ⟨a, ?_⟩
    by_cases e : j + 1 = i
    · exact Or.inr (fun q => c2 ⟨e, hc.mp q⟩)
    · exact Or.inl e
theorem zL_s2 {X : zCT} {ls ls' : Array Slot} {n i : Nat} {L : List (Option zAV)} {v : zAV} (h : zL X ls n L) (h' : lv_has ls' n ((i, zcV X v) :: (zas X n L).filter (fun q => !(q.1 == i) && (!(q.1 == i + 1) && !(q.1 + 1 == i && q.2.category == 2))))) : zL X ls' n (zs2 L i v) := by
  refine ⟨h'.1, h'.2.1, fun j w hw => ?_⟩
  rcases zgl_sl _ _ (i + 1) j w hw with ⟨_, b⟩ | ⟨a0, b0⟩
  · cases b
  · rcases zgl_sl _ _ i j w b0 with ⟨a, b⟩ | ⟨a, b⟩
    · cases b
      subst a
      exact h'.2.2 _ List.mem_cons_self
    · obtain ⟨c1, c2⟩ := zgl_cp L i j w b
      have hj : j < n := by rw [← h.1]; exact lv_lt (h.2.2 j w c1)
      refine h'.2.2 (j, zcV X w) (List.mem_cons_of_mem _ (List.mem_filter.mpr ⟨zas_mem hj c1, ?_⟩))
      have hc := zcat X w
      simp only [Bool.and_eq_true, Bool.not_eq_true', beq_eq_false_iff_ne, ne_eq, Bool.and_eq_false_iff]
      refine ⟨a, a0, ?_⟩
      by_cases e : j + 1 = i
      · exact Or.inr (fun q => c2 ⟨e, hc.mp q⟩)
      · exact Or.inl e
/-- the context of a method's body -/
def zC (mt : zMT) (X : zCT) (p : Program) (s : State) (m : MethodId) (args : Array Value) (meth : Method) (c : Code) : Prop :=
  p.tables.exec = Jvm.exec ∧ c.code = mt.2.1 ∧ c.maxLocals = mt.2.2.1 ∧ meth.sig.returnType = mt.2.2.2.1 ∧ meth.locks = false ∧ s.vm.findClass mt.1.cls = some m.cls ∧ (∀ w ∈ zwsG, w.before args s = true) ∧ zK X s ∧ meth.name = mt.1.name
/-- what a return instruction gives back -/
def zri (mt : zMT) (i : Instr) (r : Option zAV) : Prop :=
  (i = .ireturn ∧ ∃ v : Int, r = some (0, v) ∧ (mt.2.2.2.1 = some .int ∨ (mt.2.2.2.1 = some .boolean ∧ (v = 0 ∨ v = 1)))) ∨ (i = .lreturn ∧ mt.2.2.2.1 = some .long ∧ ∃ v : Int, r = some (1, v)) ∨ (i = .return_ ∧ mt.2.2.2.1 = none ∧ r = none)
abbrev zQT : Type := Option zAV → zSh → zMem → Prop
def zlo (X : zCT) (locs : List Loc) : Prop := ∀ q ∈ locs, X.2.1.size ≤ q.base
def zR (mt : zMT) (X : zCT) (Q : zQT) (p : Program) (l : Launch) (e : Env) (s : State) (m : MethodId) (args : Array Value) (below : List Frame) (meth : Method) (c : Code) (Z : State → Prop) : Prop :=
  ∀ (pc : Nat) (ls : Array Slot) (H : Heap) (locs : List Loc) (cells slots : Nat) (r : Option zAV) (sh : zSh) (mem : zMem) (i : Instr), decode mt.2.1 pc = .ok (i, 1) → zri mt i r → zH X sh mem H → zlo X locs → cells ≤ (zrm mt).cells → slots ≤ (zrm mt).slots → Q r sh mem →
    W p l e (zrm mt) s m args below meth c H locs cells slots Z (F0 m pc ls (r.toList.map (zcV X)))
def zT : zCT → Prop := fun _ => True
def zV (P : zCT → Prop) (mt : zMT) (sh : zSh) (u : Nat × Nat) (pc : Nat) (L : List (Option zAV)) (st : List zAV) (mem : zMem) (Q : zQT) : Prop :=
  ∀ (X : zCT) (p : Program) (l : Launch) (e : Env) (s : State) (m : MethodId) (args : Array Value) (below : List Frame) (meth : Method) (c : Code) (Z : State → Prop), P X → zC mt X p s m args meth c → zR mt X Q p l e s m args below meth c Z →
    ∀ (H : Heap) (locs : List Loc) (ls : Array Slot), zH X sh mem H → zlo X locs → zL X ls mt.2.2.1 L → W p l e (zrm mt) s m args below meth c H locs u.1 u.2 Z (F0 m pc ls (st.map (zcV X)))
def zPc (X : zCT) (avs : List zAV) (sh : zSh) (mem : zMem) : Array Value → State → Prop := fun v U => v = (avs.map (zcV X)).toArray ∧ zK X U ∧ zH X sh mem U.heap
def zQc (X : zCT) (Q : zQT) : Array Value → State → Outcome → State → Prop := fun _ _ o t => ∃ (r : Option zAV) (sh : zSh) (mem : zMem), o = .returned (r.map (zcV X)) ∧ Q r sh mem ∧ zH X sh mem t.heap
def zSp (mt : zMT) (avs : List zAV) (sh : zSh) (mem : zMem) (Q : zQT) : Prop :=
  ∀ (l : Launch) (X : zCT), Met l mt.1 (zws mt) (zrm mt) (zPc X avs sh mem) (zQc X Q) (zrm mt).cells (zrm mt).slots (fun q => X.2.1.size ≤ q)
/-- the locals with which a method begins -/
def zal : List zAV → List (Option zAV)
  | [] => []
  | v :: vs => if v.1 = 1 then some v :: none :: zal vs else some v :: zal vs
theorem zal_args (X : zCT) (vs : List zAV) : ∀ (k i : Nat) (v : zAV), zgl (zal vs) i = some v → (k + i, zcV X v) ∈ lv_args k (vs.map (zcV X)) := by
  induction vs with
  | nil => intro k i v h; simp [zal, zgl] at h
  | cons w ws ih =>
    intro k i v h
    have hc := zcat X w
    unfold zal at h
    simp only [List.map_cons, lv_args]
    by_cases hw : w.1 = 1
    · rw [if_pos hw] at h
      rw [if_pos (hc.mpr hw)]
      match i, h with
      | 0, h => cases h; exact List.mem_cons_self
      | 1, h => cases h
      | i + 2, h =>
        have := ih (k + 2) i v h
        rw [show k + (i + 2) = k + 2 + i by omega]
        exact List.mem_cons_of_mem _ this
    · rw [if_neg hw] at h
      rw [if_neg (fun q => hw (hc.mp q))]
      match i, h with
      | 0, h => cases h; exact List.mem_cons_self
      | i + 1, h =>
        have := ih (k + 1) i v h
        rw [show k + (i + 1) = k + 1 + i by omega]
        exact List.mem_cons_of_mem _ this
theorem zgl_app (L M : List (Option zAV)) : ∀ (i : Nat) (v : zAV), zgl (L ++ List.replicate M.length none) i = some v → zgl L i = some v := by
  induction L with
  | nil =>
    intro i v h
    exfalso
    revert i
    induction M with
    | nil => intro i h; simp [zgl] at h
    | cons x l ih =>
      intro i h
      cases i with
      | zero => cases h
      | succ i => exact ih i h
  | cons x l ih =>
    intro i v h
    cases i with
    | zero => exact h
    | succ i => exact ih i v h
def zpad : Nat → List (Option zAV) → List (Option zAV)
  | 0, L => L
  | n + 1, [] => none :: zpad n []
  | n + 1, x :: L => x :: zpad n L
theorem zgl_pad : ∀ (n : Nat) (L : List (Option zAV)) (i : Nat) (v : zAV), zgl (zpad n L) i = some v → zgl L i = some v
  | 0, L, i, v, h => h
  | n + 1, [], 0, v, h => by cases h
  | n + 1, [], i + 1, v, h => by
    have := zgl_pad n [] i v h
    simp [zgl] at this
  | n + 1, x :: L, 0, v, h => h
  | n + 1, x :: L, i + 1, v, h => zgl_pad n L i v h
theorem zal_len (X : zCT) (vs : List zAV) : (lg_sl (vs.map (zcV X))).length = (zal vs).length := by
  induction vs with
  | nil => rfl
  | cons w ws ih =>
    have hc := zcat X w
    unfold zal
    by_cases hw : w.1 = 1
    · rw [if_pos hw]
      simp only [List.map_cons, lg_sl, List.flatMap_cons, if_pos (hc.mpr hw), List.length_append, List.length_cons, List.length_nil]
      have := ih
      simp only [lg_sl] at this
      omega
    · rw [if_neg hw]
      simp only [List.map_cons, lg_sl, List.flatMap_cons, if_neg (fun q => hw (hc.mp q)), List.length_append, List.length_cons, List.length_nil]
      have := ih
      simp only [lg_sl] at this
      omega
/-- a contract out of a walk -/
theorem zSp_of {mt : zMT} {avs : List zAV} {sh : zSh} {mem : zMem} {Q : zQT} (hy : plainName mt.1.cls = true) (hn : (zal avs).length ≤ mt.2.2.1) (hw : zV zT mt sh (0, 0) 0 (zpad mt.2.2.1 (zal avs)) [] mem Q) : zSp mt avs sh mem Q := by
  intro l X
  refine Met.ofW (cc := mt.2.1) (maxL := mt.2.2.1) (ret := mt.2.2.2.1) (ws' := zwsG) hy rfl ?_
  intro p e s m args below meth c s₁ B hml hv
  obtain ⟨rfl, hk, hh⟩ := hv
  have hts := atoms_spec (ws := zws mt) B.pre
  rw [lg_entry_eq]
  have hl := lv_entry (avs.map (zcV X)) (n := mt.2.2.1) (by rw [zal_len]; exact hn)
  generalize (lg_sl (avs.map (zcV X)) ++ List.replicate (mt.2.2.1 - (lg_sl (avs.map (zcV X))).length) Slot.unset).toArray = ls at hl ⊢
  have C : zC mt X p s m ((avs.map (zcV X)).toArray) meth c := ⟨B.exec, B.bytes, hml, B.returns, B.notSynchronized, findClass_of_methodNamed B.named, fun w h => hts w (List.mem_cons_of_mem _ h), hk, (name_of_methodNamed B.named B.method).1⟩
  refine hw X p l e s m _ below meth c _ trivial C ?_ s.heap [] ls hh (fun q h => by cases h) ⟨hl.1, hl.2.1, fun i v h => ?_⟩
  · intro pc ls H locs cells slots r sh mem i hd hi hH hlo hc1 hc2 hq
    refine W.widen hc1 hc2 ?_
    rcases hi with ⟨rfl, v, rfl, hr⟩ | ⟨rfl, hr, v, rfl⟩ | ⟨rfl, hr, rfl⟩
    · have post : ∀ t : State, t.heap = H → s.WarmedH t.vm → zQc X Q ((avs.map (zcV X)).toArray) s (.returned (some (.int (Int32.ofInt v)))) t := fun t ht _ => ⟨some (0, v), sh, mem, rfl, hq, by rw [ht]; exact hH⟩
      rcases hr with hr | ⟨hr, hv⟩
      · exact W.iret B.exec B.bytes (B.returns.trans hr) post hlo hd B.notSynchronized
      · refine W.zret B.exec B.bytes (B.returns.trans hr) ?_ post hlo hd B.notSynchronized
        rcases hv with rfl | rfl
        · exact narrow_b0
        · exact narrow_b1
    · exact W.lret B.exec B.bytes (B.returns.trans hr) (fun t ht _ => ⟨some (1, v), sh, mem, rfl, hq, by rw [ht]; exact hH⟩) hlo hd B.notSynchronized
    · exact W.vret B.exec B.bytes (B.returns.trans hr) (fun t ht _ => ⟨none, sh, mem, rfl, hq, by rw [ht]; exact hH⟩) hlo hd B.notSynchronized
  · have h1 := zal_args X avs 0 i v (zgl_pad _ _ i v h)
    rw [Nat.zero_add] at h1
    exact hl.2.2 _ h1
end
section
/-! one rule an instruction -/
def I32 (v : Int) : Prop := -2147483648 ≤ v ∧ v < 2147483648
def I64 (v : Int) : Prop := -9223372036854775808 ≤ v ∧ v < 9223372036854775808
theorem i32_toInt {a : Int} (h : I32 a) : (Int32.ofInt a).toInt = a := Int32.toInt_ofInt_of_le (by have := h.1; omega) (by have := h.2; omega)
theorem i64_toInt {a : Int} (h : I64 a) : (Int64.ofInt a).toInt = a := Int64.toInt_ofInt_of_le (by have := h.1; omega) (by have := h.2; omega)
theorem i32_lt {a b : Int} (ha : I32 a) (hb : I32 b) : Int32.ofInt a < Int32.ofInt b ↔ a < b := by rw [Int32.lt_iff_toInt_lt, i32_toInt ha, i32_toInt hb]
theorem i32_le {a b : Int} (ha : I32 a) (hb : I32 b) : Int32.ofInt a ≤ Int32.ofInt b ↔ a ≤ b := by rw [Int32.le_iff_toInt_le, i32_toInt ha, i32_toInt hb]
theorem i32_eq {a b : Int} (ha : I32 a) (hb : I32 b) : Int32.ofInt a = Int32.ofInt b ↔ a = b := by rw [← Int32.toInt_inj, i32_toInt ha, i32_toInt hb]
theorem i64_lt {a b : Int} (ha : I64 a) (hb : I64 b) : Int64.ofInt a < Int64.ofInt b ↔ a < b := by rw [Int64.lt_iff_toInt_lt, i64_toInt ha, i64_toInt hb]
theorem i64_eq {a b : Int} (ha : I64 a) (hb : I64 b) : Int64.ofInt a = Int64.ofInt b ↔ a = b := by rw [← Int64.toInt_inj, i64_toInt ha, i64_toInt hb]
theorem i32_0 : I32 0 := ⟨by decide, by decide⟩
theorem i32_idx {i : Int} {n : Nat} (h0 : 0 ≤ i) (h1 : i < n) (hn : Nat.ble n 100000 = true) : vp_in (Int32.ofInt i) n ∧ (((Int32.ofInt i).toNatClampNeg : Nat) : Int) = i := by
  have hn' := Nat.le_of_ble_eq_true hn
  have hr : I32 i := ⟨by omega, by omega⟩
  have e : (Int32.ofInt i).toInt = i := i32_toInt hr
  refine ⟨vp_in_iff.mpr ⟨by rw [e]; exact h0, by rw [e]; exact h1⟩, ?_⟩
  rw [Int32.toNatClampNeg_ofInt_of_le (by omega) (by omega)]
  omega
section zRULES
variable {P : zCT → Prop} {mt : zMT} {sh : zSh} {u : Nat × Nat} {pc n : Nat} {L L' : List (Option zAV)} {st : List zAV} {mem : zMem} {Q : zQT} {a b : Int}
theorem zV_iconst (hd : decode mt.2.1 pc = .ok (.iconst a, 1) ∧ pc + 1 = n) (k : zV P mt sh u n L ((0, a) :: st) mem Q) : zV P mt sh u pc L st mem Q := by
  intro X p l ev s m args below meth c Z hP C R H locs ls hH hl hL
  rw [← hd.2] at k
  exact lv_iconst C.1 C.2.1 hd.1 rfl (k X p l ev s m args below meth c Z hP C R H locs ls hH hl hL)
theorem zV_bipush (hd : decode mt.2.1 pc = .ok (.bipush a, 2) ∧ pc + 2 = n ∧ (Int8.ofInt a).toInt32 = Int32.ofInt a) (k : zV P mt sh u n L ((0, a) :: st) mem Q) : zV P mt sh u pc L st mem Q := by
  intro X p l ev s m args below meth c Z hP C R H locs ls hH hl hL
  rw [← hd.2.1] at k
  exact lv_bipush C.1 C.2.1 hd.1 hd.2.2 (k X p l ev s m args below meth c Z hP C R H locs ls hH hl hL)
theorem zV_sipush (hd : decode mt.2.1 pc = .ok (.sipush a, 3) ∧ pc + 3 = n ∧ (Int16.ofInt a).toInt32 = Int32.ofInt a) (k : zV P mt sh u n L ((0, a) :: st) mem Q) : zV P mt sh u pc L st mem Q := by
  intro X p l ev s m args below meth c Z hP C R H locs ls hH hl hL
  rw [← hd.2.1] at k
  exact lv_sipush C.1 C.2.1 hd.1 hd.2.2 (k X p l ev s m args below meth c Z hP C R H locs ls hH hl hL)
theorem zV_lconst0 (hd : decode mt.2.1 pc = .ok (.lconst 0, 1) ∧ pc + 1 = n) (k : zV P mt sh u n L ((1, 0) :: st) mem Q) : zV P mt sh u pc L st mem Q := by
  intro X p l ev s m args below meth c Z hP C R H locs ls hH hl hL
  rw [← hd.2] at k
  exact lv_lconst C.1 C.2.1 hd.1 (show Int64.ofNat ((0 : Fin 2) : Nat) = Int64.ofInt 0 from by decide) (k X p l ev s m args below meth c Z hP C R H locs ls hH hl hL)
theorem zV_lconst1 (hd : decode mt.2.1 pc = .ok (.lconst 1, 1) ∧ pc + 1 = n) (k : zV P mt sh u n L ((1, 1) :: st) mem Q) : zV P mt sh u pc L st mem Q := by
  intro X p l ev s m args below meth c Z hP C R H locs ls hH hl hL
  rw [← hd.2] at k
  exact lv_lconst C.1 C.2.1 hd.1 (show Int64.ofNat ((1 : Fin 2) : Nat) = Int64.ofInt 1 from by decide) (k X p l ev s m args below meth c Z hP C R H locs ls hH hl hL)
theorem zV_ldc {i : Nat} {v : Int32} (hd : decode mt.2.1 pc = .ok (.ldc i, 2) ∧ pc + 2 = n) (hw : Cond.constant mt.1.cls i v ∈ zwsG) (hv : v = Int32.ofInt a) (k : zV P mt sh u n L ((0, a) :: st) mem Q) : zV P mt sh u pc L st mem Q := by
  intro X p l ev s m args below meth c Z hP C R H locs ls hH hl hL
  rw [← hd.2] at k
  subst hv
  exact lv_ldc C.1 C.2.1 C.2.2.2.2.2.1 (C.2.2.2.2.2.2.1 _ hw) hd.1 (k X p l ev s m args below meth c Z hP C R H locs ls hH hl hL)
theorem zV_ldcw {i : Nat} {v : Int32} (hd : decode mt.2.1 pc = .ok (.ldc_w i, 3) ∧ pc + 3 = n) (hw : Cond.constant mt.1.cls i v ∈ zwsG) (hv : v = Int32.ofInt a) (k : zV P mt sh u n L ((0, a) :: st) mem Q) : zV P mt sh u pc L st mem Q := by
  intro X p l ev s m args below meth c Z hP C R H locs ls hH hl hL
  rw [← hd.2] at k
  subst hv
  exact lv_ldcw C.1 C.2.1 C.2.2.2.2.2.1 (C.2.2.2.2.2.2.1 _ hw) hd.1 (k X p l ev s m args below meth c Z hP C R H locs ls hH hl hL)
theorem zV_ldc2 {i : Nat} {v : Int64} (hd : decode mt.2.1 pc = .ok (.ldc2_w i, 3) ∧ pc + 3 = n) (hw : Cond.constantLong mt.1.cls i v ∈ zwsG) (hv : v = Int64.ofInt a) (k : zV P mt sh u n L ((1, a) :: st) mem Q) : zV P mt sh u pc L st mem Q := by
  intro X p l ev s m args below meth c Z hP C R H locs ls hH hl hL
  rw [← hd.2] at k
  subst hv
  exact lv_ldc2 C.1 C.2.1 C.2.2.2.2.2.1 (C.2.2.2.2.2.2.1 _ hw) hd.1 (k X p l ev s m args below meth c Z hP C R H locs ls hH hl hL)
theorem zV_iload_n {k9 : Fin 4} (hd : decode mt.2.1 pc = .ok (.iload_n k9, 1) ∧ pc + 1 = n) (hg : zgl L (k9 : Nat) = some (0, a)) (k : zV P mt sh u n L ((0, a) :: st) mem Q) : zV P mt sh u pc L st mem Q := by
  intro X p l ev s m args below meth c Z hP C R H locs ls hH hl hL
  rw [← hd.2] at k
  exact lv_iload_n C.1 C.2.1 hd.1 rfl (hL.2.2 _ _ hg) (k X p l ev s m args below meth c Z hP C R H locs ls hH hl hL)
theorem zV_iload {i : Nat} (hd : decode mt.2.1 pc = .ok (.iload i, 2) ∧ pc + 2 = n) (hg : zgl L i = some (0, a)) (k : zV P mt sh u n L ((0, a) :: st) mem Q) : zV P mt sh u pc L st mem Q := by
  intro X p l ev s m args below meth c Z hP C R H locs ls hH hl hL
  rw [← hd.2] at k
  exact lv_iload C.1 C.2.1 hd.1 (hL.2.2 _ _ hg) (k X p l ev s m args below meth c Z hP C R H locs ls hH hl hL)
theorem zV_lload_n {k9 : Fin 4} (hd : decode mt.2.1 pc = .ok (.lload_n k9, 1) ∧ pc + 1 = n) (hg : zgl L (k9 : Nat) = some (1, a)) (k : zV P mt sh u n L ((1, a) :: st) mem Q) : zV P mt sh u pc L st mem Q := by
  intro X p l ev s m args below meth c Z hP C R H locs ls hH hl hL
  rw [← hd.2] at k
  exact lv_lload_n C.1 C.2.1 hd.1 rfl (hL.2.2 _ _ hg) (k X p l ev s m args below meth c Z hP C R H locs ls hH hl hL)
theorem zV_lload {i : Nat} (hd : decode mt.2.1 pc = .ok (.lload i, 2) ∧ pc + 2 = n) (hg : zgl L i = some (1, a)) (k : zV P mt sh u n L ((1, a) :: st) mem Q) : zV P mt sh u pc L st mem Q := by
  intro X p l ev s m args below meth c Z hP C R H locs ls hH hl hL
  rw [← hd.2] at k
  exact lv_lload C.1 C.2.1 hd.1 (hL.2.2 _ _ hg) (k X p l ev s m args below meth c Z hP C R H locs ls hH hl hL)
theorem zV_aload_n {k9 : Fin 4} (hd : decode mt.2.1 pc = .ok (.aload_n k9, 1) ∧ pc + 1 = n) (hg : zgl L (k9 : Nat) = some (2, a)) (k : zV P mt sh u n L ((2, a) :: st) mem Q) : zV P mt sh u pc L st mem Q := by
  intro X p l ev s m args below meth c Z hP C R H locs ls hH hl hL
  rw [← hd.2] at k
  have h1 := hL.2.2 _ _ hg
  have h2 := k X p l ev s m args below meth c Z hP C R H locs ls hH hl hL
  cases hz : zro X a with
  | none =>
    have e : zcV X (2, a) = .null := by show va_rf (zro X a) = _; rw [hz]; rfl
    rw [e] at h1
    rw [List.map_cons, e] at h2
    exact lv_aload_nN C.1 C.2.1 hd.1 rfl h1 h2
  | some q =>
    have e : zcV X (2, a) = .ref q := by show va_rf (zro X a) = _; rw [hz]; rfl
    rw [e] at h1
    rw [List.map_cons, e] at h2
    exact lv_aload_n C.1 C.2.1 hd.1 rfl h1 h2
theorem zV_aload {i : Nat} (hd : decode mt.2.1 pc = .ok (.aload i, 2) ∧ pc + 2 = n) (hg : zgl L i = some (2, a)) (k : zV P mt sh u n L ((2, a) :: st) mem Q) : zV P mt sh u pc L st mem Q := by
  intro X p l ev s m args below meth c Z hP C R H locs ls hH hl hL
  rw [← hd.2] at k
  have h1 := hL.2.2 _ _ hg
  have h2 := k X p l ev s m args below meth c Z hP C R H locs ls hH hl hL
  cases hz : zro X a with
  | none =>
    have e : zcV X (2, a) = .null := by show va_rf (zro X a) = _; rw [hz]; rfl
    rw [e] at h1
    rw [List.map_cons, e] at h2
    exact lv_aloadN C.1 C.2.1 hd.1 h1 h2
  | some q =>
    have e : zcV X (2, a) = .ref q := by show va_rf (zro X a) = _; rw [hz]; rfl
    rw [e] at h1
    rw [List.map_cons, e] at h2
    exact lv_aload C.1 C.2.1 hd.1 h1 h2
theorem zV_istore_n {k9 : Fin 4} (hd : decode mt.2.1 pc = .ok (.istore_n k9, 1) ∧ pc + 1 = n) (hn : (k9 : Nat) < mt.2.2.1) (hs : zs1 L (k9 : Nat) (0, a) = L') (k : zV P mt sh u n L' st mem Q) : zV P mt sh u pc L ((0, a) :: st) mem Q := by
  intro X p l ev s m args below meth c Z hP C R H locs ls hH hl hL
  rw [← hd.2] at k
  exact lv_istore_n C.1 C.2.1 hd.1 rfl (zL_has hL) hn rfl (fun ls' hl' => k X p l ev s m args below meth c Z hP C R H locs ls' hH hl (by rw [← hs]; exact zL_s1 hL hl'))
theorem zV_istore {i : Nat} (hd : decode mt.2.1 pc = .ok (.istore i, 2) ∧ pc + 2 = n) (hn : i < mt.2.2.1) (hs : zs1 L i (0, a) = L') (k : zV P mt sh u n L' st mem Q) : zV P mt sh u pc L ((0, a) :: st) mem Q := by
  intro X p l ev s m args below meth c Z hP C R H locs ls hH hl hL
  rw [← hd.2] at k
  exact lv_istore C.1 C.2.1 hd.1 (zL_has hL) hn rfl (fun ls' hl' => k X p l ev s m args below meth c Z hP C R H locs ls' hH hl (by rw [← hs]; exact zL_s1 hL hl'))
theorem zV_lstore_n {k9 : Fin 4} (hd : decode mt.2.1 pc = .ok (.lstore_n k9, 1) ∧ pc + 1 = n) (hn : (k9 : Nat) + 1 < mt.2.2.1) (hs : zs2 L (k9 : Nat) (1, a) = L') (k : zV P mt sh u n L' st mem Q) : zV P mt sh u pc L ((1, a) :: st) mem Q := by
  intro X p l ev s m args below meth c Z hP C R H locs ls hH hl hL
  rw [← hd.2] at k
  exact lv_lstore_n C.1 C.2.1 hd.1 rfl (zL_has hL) hn rfl (fun ls' hl' => k X p l ev s m args below meth c Z hP C R H locs ls' hH hl (by rw [← hs]; exact zL_s2 hL hl'))
theorem zV_lstore {i : Nat} (hd : decode mt.2.1 pc = .ok (.lstore i, 2) ∧ pc + 2 = n) (hn : i + 1 < mt.2.2.1) (hs : zs2 L i (1, a) = L') (k : zV P mt sh u n L' st mem Q) : zV P mt sh u pc L ((1, a) :: st) mem Q := by
  intro X p l ev s m args below meth c Z hP C R H locs ls hH hl hL
  rw [← hd.2] at k
  exact lv_lstore C.1 C.2.1 hd.1 (zL_has hL) hn rfl (fun ls' hl' => k X p l ev s m args below meth c Z hP C R H locs ls' hH hl (by rw [← hs]; exact zL_s2 hL hl'))
theorem zV_astore_n {k9 : Fin 4} (hd : decode mt.2.1 pc = .ok (.astore_n k9, 1) ∧ pc + 1 = n) (hn : (k9 : Nat) < mt.2.2.1) (hs : zs1 L (k9 : Nat) (2, a) = L') (k : zV P mt sh u n L' st mem Q) : zV P mt sh u pc L ((2, a) :: st) mem Q := by
  intro X p l ev s m args below meth c Z hP C R H locs ls hH hl hL
  rw [← hd.2] at k
  cases hz : zro X a with
  | none =>
    have e : zcV X (2, a) = .null := by show va_rf (zro X a) = _; rw [hz]; rfl
    rw [List.map_cons, e]
    exact lv_astore_nN C.1 C.2.1 hd.1 rfl (zL_has hL) hn rfl (fun ls' hl' => k X p l ev s m args below meth c Z hP C R H locs ls' hH hl (by rw [← hs]; exact zL_s1 hL (by rw [e]; exact hl')))
  | some q =>
    have e : zcV X (2, a) = .ref q := by show va_rf (zro X a) = _; rw [hz]; rfl
    rw [List.map_cons, e]
    exact lv_astore_n C.1 C.2.1 hd.1 rfl (zL_has hL) hn rfl (fun ls' hl' => k X p l ev s m args below meth c Z hP C R H locs ls' hH hl (by rw [← hs]; exact zL_s1 hL (by rw [e]; exact hl')))
theorem zV_astore {i : Nat} (hd : decode mt.2.1 pc = .ok (.astore i, 2) ∧ pc + 2 = n) (hn : i < mt.2.2.1) (hs : zs1 L i (2, a) = L') (k : zV P mt sh u n L' st mem Q) : zV P mt sh u pc L ((2, a) :: st) mem Q := by
  intro X p l ev s m args below meth c Z hP C R H locs ls hH hl hL
  rw [← hd.2] at k
  cases hz : zro X a with
  | none =>
    have e : zcV X (2, a) = .null := by show va_rf (zro X a) = _; rw [hz]; rfl
    rw [List.map_cons, e]
    exact lv_astoreN C.1 C.2.1 hd.1 (zL_has hL) hn rfl (fun ls' hl' => k X p l ev s m args below meth c Z hP C R H locs ls' hH hl (by rw [← hs]; exact zL_s1 hL (by rw [e]; exact hl')))
  | some q =>
    have e : zcV X (2, a) = .ref q := by show va_rf (zro X a) = _; rw [hz]; rfl
    rw [List.map_cons, e]
    exact lv_astore C.1 C.2.1 hd.1 (zL_has hL) hn rfl (fun ls' hl' => k X p l ev s m args below meth c Z hP C R H locs ls' hH hl (by rw [← hs]; exact zL_s1 hL (by rw [e]; exact hl')))
theorem zV_iinc {i : Nat} {d : Int} (hd : decode mt.2.1 pc = .ok (.iinc i d, 3) ∧ pc + 3 = n) (hn : i < mt.2.2.1) (hg : zgl L i = some (0, a)) (hs : zs1 L i (0, a + d) = L') (k : zV P mt sh u n L' st mem Q) : zV P mt sh u pc L st mem Q := by
  intro X p l ev s m args below meth c Z hP C R H locs ls hH hl hL
  rw [← hd.2] at k
  have hm : (i, zcV X (0, a)) ∈ zas X mt.2.2.1 L := zas_mem hn hg
  obtain ⟨j, hj⟩ := List.getElem?_of_mem hm
  exact lv_iinc C.1 C.2.1 hd.1 (zL_has hL) (k := j) (x := Int32.ofInt a) (v := Int32.ofInt (a + d)) hj (by rw [Int32.ofInt_add]) hn rfl (fun ls' hl' => k X p l ev s m args below meth c Z hP C R H locs ls' hH hl (by rw [← hs]; exact zL_s1 hL hl'))
theorem zV_iadd (hd : decode mt.2.1 pc = .ok (.iadd, 1) ∧ pc + 1 = n) (k : zV P mt sh u n L ((0, a + b) :: st) mem Q) : zV P mt sh u pc L ((0, b) :: (0, a) :: st) mem Q := by
  intro X p l ev s m args below meth c Z hP C R H locs ls hH hl hL
  rw [← hd.2] at k
  have h2 := k X p l ev s m args below meth c Z hP C R H locs ls hH hl hL
  have e : zcV X (0, a + b) = .int (Int32.ofInt a + Int32.ofInt b) := by show Value.int (Int32.ofInt _) = _; rw [Int32.ofInt_add]
  rw [List.map_cons, e] at h2
  exact lv_iadd C.1 C.2.1 hd.1 h2
theorem zV_isub (hd : decode mt.2.1 pc = .ok (.isub, 1) ∧ pc + 1 = n) (k : zV P mt sh u n L ((0, a - b) :: st) mem Q) : zV P mt sh u pc L ((0, b) :: (0, a) :: st) mem Q := by
  intro X p l ev s m args below meth c Z hP C R H locs ls hH hl hL
  rw [← hd.2] at k
  have h2 := k X p l ev s m args below meth c Z hP C R H locs ls hH hl hL
  have e : zcV X (0, a - b) = .int (Int32.ofInt a - Int32.ofInt b) := by show Value.int (Int32.ofInt _) = _; rw [Int32.ofInt_sub]
  rw [List.map_cons, e] at h2
  exact lv_isub C.1 C.2.1 hd.1 h2
theorem zV_imul (hd : decode mt.2.1 pc = .ok (.imul, 1) ∧ pc + 1 = n) (k : zV P mt sh u n L ((0, a * b) :: st) mem Q) : zV P mt sh u pc L ((0, b) :: (0, a) :: st) mem Q := by
  intro X p l ev s m args below meth c Z hP C R H locs ls hH hl hL
  rw [← hd.2] at k
  have h2 := k X p l ev s m args below meth c Z hP C R H locs ls hH hl hL
  have e : zcV X (0, a * b) = .int (Int32.ofInt a * Int32.ofInt b) := by show Value.int (Int32.ofInt _) = _; rw [Int32.ofInt_mul]
  rw [List.map_cons, e] at h2
  exact lv_imul C.1 C.2.1 hd.1 h2
theorem zV_ladd (hd : decode mt.2.1 pc = .ok (.ladd, 1) ∧ pc + 1 = n) (k : zV P mt sh u n L ((1, a + b) :: st) mem Q) : zV P mt sh u pc L ((1, b) :: (1, a) :: st) mem Q := by
  intro X p l ev s m args below meth c Z hP C R H locs ls hH hl hL
  rw [← hd.2] at k
  have h2 := k X p l ev s m args below meth c Z hP C R H locs ls hH hl hL
  have e : zcV X (1, a + b) = .long (Int64.ofInt a + Int64.ofInt b) := by show Value.long (Int64.ofInt _) = _; rw [Int64.ofInt_add]
  rw [List.map_cons, e] at h2
  exact lv_ladd C.1 C.2.1 hd.1 h2
theorem zV_lsub (hd : decode mt.2.1 pc = .ok (.lsub, 1) ∧ pc + 1 = n) (k : zV P mt sh u n L ((1, a - b) :: st) mem Q) : zV P mt sh u pc L ((1, b) :: (1, a) :: st) mem Q := by
  intro X p l ev s m args below meth c Z hP C R H locs ls hH hl hL
  rw [← hd.2] at k
  have h2 := k X p l ev s m args below meth c Z hP C R H locs ls hH hl hL
  have e : zcV X (1, a - b) = .long (Int64.ofInt a - Int64.ofInt b) := by show Value.long (Int64.ofInt _) = _; rw [Int64.ofInt_sub]
  rw [List.map_cons, e] at h2
  exact lv_lsub C.1 C.2.1 hd.1 h2
theorem zV_lmul (hd : decode mt.2.1 pc = .ok (.lmul, 1) ∧ pc + 1 = n) (k : zV P mt sh u n L ((1, a * b) :: st) mem Q) : zV P mt sh u pc L ((1, b) :: (1, a) :: st) mem Q := by
  intro X p l ev s m args below meth c Z hP C R H locs ls hH hl hL
  rw [← hd.2] at k
  have h2 := k X p l ev s m args below meth c Z hP C R H locs ls hH hl hL
  have e : zcV X (1, a * b) = .long (Int64.ofInt a * Int64.ofInt b) := by show Value.long (Int64.ofInt _) = _; rw [Int64.ofInt_mul]
  rw [List.map_cons, e] at h2
  exact lv_lmul C.1 C.2.1 hd.1 h2
theorem zV_ineg (hd : decode mt.2.1 pc = .ok (.ineg, 1) ∧ pc + 1 = n) (k : zV P mt sh u n L ((0, -a) :: st) mem Q) : zV P mt sh u pc L ((0, a) :: st) mem Q := by
  intro X p l ev s m args below meth c Z hP C R H locs ls hH hl hL
  rw [← hd.2] at k
  have h2 := k X p l ev s m args below meth c Z hP C R H locs ls hH hl hL
  have e : zcV X (0, -a) = .int (-Int32.ofInt a) := by show Value.int (Int32.ofInt _) = _; rw [Int32.ofInt_neg]
  rw [List.map_cons, e] at h2
  exact lv_ineg C.1 C.2.1 hd.1 h2
theorem zV_lneg (hd : decode mt.2.1 pc = .ok (.lneg, 1) ∧ pc + 1 = n) (k : zV P mt sh u n L ((1, -a) :: st) mem Q) : zV P mt sh u pc L ((1, a) :: st) mem Q := by
  intro X p l ev s m args below meth c Z hP C R H locs ls hH hl hL
  rw [← hd.2] at k
  have h2 := k X p l ev s m args below meth c Z hP C R H locs ls hH hl hL
  have e : zcV X (1, -a) = .long (-Int64.ofInt a) := by show Value.long (Int64.ofInt _) = _; rw [Int64.ofInt_neg]
  rw [List.map_cons, e] at h2
  exact lv_lneg C.1 C.2.1 hd.1 h2
theorem zV_idiv (hd : decode mt.2.1 pc = .ok (.idiv, 1) ∧ pc + 1 = n) (ha : I32 a) (hb : I32 b) (hne : b ≠ 0) (k : zV P mt sh u n L ((0, Int.tdiv a b) :: st) mem Q) : zV P mt sh u pc L ((0, b) :: (0, a) :: st) mem Q := by
  intro X p l ev s m args below meth c Z hP C R H locs ls hH hl hL
  rw [← hd.2] at k
  have h2 := k X p l ev s m args below meth c Z hP C R H locs ls hH hl hL
  have hdiv : Int32.ofInt (Int.tdiv a b) = Int32.ofInt a / Int32.ofInt b := by
    apply Int32.toInt_inj.mp
    rw [Int32.toInt_div, i32_toInt ha, i32_toInt hb, Int32.toInt_ofInt]
  have e : zcV X (0, Int.tdiv a b) = .int (Int32.ofInt a / Int32.ofInt b) := by
    show Value.int (Int32.ofInt _) = _
    rw [hdiv]
  rw [List.map_cons, e] at h2
  exact lv_idiv C.1 C.2.1 hd.1 (fun q => hne ((i32_eq hb ⟨by decide, by decide⟩).mp q)) h2
theorem zV_irem (hd : decode mt.2.1 pc = .ok (.irem, 1) ∧ pc + 1 = n) (ha : I32 a) (hb : I32 b) (hne : b ≠ 0) (k : zV P mt sh u n L ((0, Int.tmod a b) :: st) mem Q) : zV P mt sh u pc L ((0, b) :: (0, a) :: st) mem Q := by
  intro X p l ev s m args below meth c Z hP C R H locs ls hH hl hL
  rw [← hd.2] at k
  have h2 := k X p l ev s m args below meth c Z hP C R H locs ls hH hl hL
  have hdiv : Int32.ofInt (Int.tdiv a b) = Int32.ofInt a / Int32.ofInt b := by
    apply Int32.toInt_inj.mp
    rw [Int32.toInt_div, i32_toInt ha, i32_toInt hb, Int32.toInt_ofInt]
  have e : zcV X (0, Int.tmod a b) = .int (Int32.ofInt a - Int32.ofInt a / Int32.ofInt b * Int32.ofInt b) := by
    show Value.int (Int32.ofInt _) = _
    rw [← hdiv, ← Int32.ofInt_mul, ← Int32.ofInt_sub, Int.tmod_def, Int.mul_comm]
  rw [List.map_cons, e] at h2
  exact lv_irem C.1 C.2.1 hd.1 (fun q => hne ((i32_eq hb ⟨by decide, by decide⟩).mp q)) h2
theorem zV_ldiv (hd : decode mt.2.1 pc = .ok (.ldiv, 1) ∧ pc + 1 = n) (ha : I64 a) (hb : I64 b) (hne : b ≠ 0) (k : zV P mt sh u n L ((1, Int.tdiv a b) :: st) mem Q) : zV P mt sh u pc L ((1, b) :: (1, a) :: st) mem Q := by
  intro X p l ev s m args below meth c Z hP C R H locs ls hH hl hL
  rw [← hd.2] at k
  have h2 := k X p l ev s m args below meth c Z hP C R H locs ls hH hl hL
  have hdiv : Int64.ofInt (Int.tdiv a b) = Int64.ofInt a / Int64.ofInt b := by
    apply Int64.toInt_inj.mp
    rw [Int64.toInt_div, i64_toInt ha, i64_toInt hb, Int64.toInt_ofInt]
  have e : zcV X (1, Int.tdiv a b) = .long (Int64.ofInt a / Int64.ofInt b) := by
    show Value.long (Int64.ofInt _) = _
    rw [hdiv]
  rw [List.map_cons, e] at h2
  exact lv_ldiv C.1 C.2.1 hd.1 (fun q => hne ((i64_eq hb ⟨by decide, by decide⟩).mp q)) h2
theorem zV_lrem (hd : decode mt.2.1 pc = .ok (.lrem, 1) ∧ pc + 1 = n) (ha : I64 a) (hb : I64 b) (hne : b ≠ 0) (k : zV P mt sh u n L ((1, Int.tmod a b) :: st) mem Q) : zV P mt sh u pc L ((1, b) :: (1, a) :: st) mem Q := by
  intro X p l ev s m args below meth c Z hP C R H locs ls hH hl hL
  rw [← hd.2] at k
  have h2 := k X p l ev s m args below meth c Z hP C R H locs ls hH hl hL
  have hdiv : Int64.ofInt (Int.tdiv a b) = Int64.ofInt a / Int64.ofInt b := by
    apply Int64.toInt_inj.mp
    rw [Int64.toInt_div, i64_toInt ha, i64_toInt hb, Int64.toInt_ofInt]
  have e : zcV X (1, Int.tmod a b) = .long (Int64.ofInt a - Int64.ofInt a / Int64.ofInt b * Int64.ofInt b) := by
    show Value.long (Int64.ofInt _) = _
    rw [← hdiv, ← Int64.ofInt_mul, ← Int64.ofInt_sub, Int.tmod_def, Int.mul_comm]
  rw [List.map_cons, e] at h2
  exact lv_lrem C.1 C.2.1 hd.1 (fun q => hne ((i64_eq hb ⟨by decide, by decide⟩).mp q)) h2
theorem zV_i2l (hd : decode mt.2.1 pc = .ok (.i2l, 1) ∧ pc + 1 = n) (ha : I32 a) (k : zV P mt sh u n L ((1, a) :: st) mem Q) : zV P mt sh u pc L ((0, a) :: st) mem Q := by
  intro X p l ev s m args below meth c Z hP C R H locs ls hH hl hL
  rw [← hd.2] at k
  have h1 : Int32.minValue.toInt ≤ a := by have := ha.1; simpa using this
  have h2 : a ≤ Int32.maxValue.toInt := by
    have h3 : a ≤ 2147483647 := by have := ha.2; omega
    have h4 : Int32.maxValue.toInt = 2147483647 := by decide
    rw [h4]; exact h3
  exact lv_i2l C.1 C.2.1 hd.1 (Int32.toInt64_ofInt h1 h2) (k X p l ev s m args below meth c Z hP C R H locs ls hH hl hL)
theorem zV_l2i (hd : decode mt.2.1 pc = .ok (.l2i, 1) ∧ pc + 1 = n) (k : zV P mt sh u n L ((0, a) :: st) mem Q) : zV P mt sh u pc L ((1, a) :: st) mem Q := by
  intro X p l ev s m args below meth c Z hP C R H locs ls hH hl hL
  rw [← hd.2] at k
  exact lv_l2i C.1 C.2.1 hd.1 Int64.toInt32_ofInt (k X p l ev s m args below meth c Z hP C R H locs ls hH hl hL)
theorem zV_dup {v : zAV} (hd : decode mt.2.1 pc = .ok (.dup, 1) ∧ pc + 1 = n) (hv : v.1 ≠ 1) (k : zV P mt sh u n L (v :: v :: st) mem Q) : zV P mt sh u pc L (v :: st) mem Q := by
  intro X p l ev s m args below meth c Z hP C R H locs ls hH hl hL
  rw [← hd.2] at k
  have hc := zcat X v
  exact lv_dup C.1 C.2.1 hd.1 (by rcases lv_cat (zcV X v) with q | q; exact q; exact absurd (hc.mp q) hv) (k X p l ev s m args below meth c Z hP C R H locs ls hH hl hL)
theorem zV_dup2 {v w : zAV} (hd : decode mt.2.1 pc = .ok (.dup2, 1) ∧ pc + 1 = n) (hv : v.1 ≠ 1) (hw : w.1 ≠ 1) (k : zV P mt sh u n L (v :: w :: v :: w :: st) mem Q) : zV P mt sh u pc L (v :: w :: st) mem Q := by
  intro X p l ev s m args below meth c Z hP C R H locs ls hH hl hL
  rw [← hd.2] at k
  have hc := zcat X v
  have hc2 := zcat X w
  exact lv_dup2_11 C.1 C.2.1 hd.1 (by rcases lv_cat (zcV X v) with q | q; exact q; exact absurd (hc.mp q) hv) (by rcases lv_cat (zcV X w) with q | q; exact q; exact absurd (hc2.mp q) hw) (k X p l ev s m args below meth c Z hP C R H locs ls hH hl hL)
theorem zV_goto {off : Int} {tgt : Nat} (hd : decode mt.2.1 pc = .ok (.goto off, 3) ∧ (pc : Int) + off = (tgt : Int)) (k : zV P mt sh u tgt L st mem Q) : zV P mt sh u pc L st mem Q := by
  intro X p l ev s m args below meth c Z hP C R H locs ls hH hl hL
  exact lv_goto C.1 C.2.1 hd.1 hd.2 (k X p l ev s m args below meth c Z hP C R H locs ls hH hl hL)
theorem zV_top {t : Nat} (k : ∀ y : Int, y = a → zV P mt sh u pc L ((t, y) :: st) mem Q) : zV P mt sh u pc L ((t, a) :: st) mem Q := k a rfl
theorem zV_icmp_eq {off : Int} {tgt : Nat} (hd : decode mt.2.1 pc = .ok (.if_icmp .eq off, 3) ∧ pc + 3 = n ∧ (pc : Int) + off = (tgt : Int)) (ha : I32 a) (hb : I32 b) (kt : a = b → zV P mt sh u tgt L st mem Q) (kf : ¬ a = b → zV P mt sh u n L st mem Q) : zV P mt sh u pc L ((0, b) :: (0, a) :: st) mem Q := by
  intro X p l ev s m args below meth c Z hP C R H locs ls hH hl hL
  rw [← hd.2.1] at kf
  have q1 := i32_eq ha hb
  have q2 := i32_lt ha hb
  have q3 := i32_le ha hb
  have q4 := i32_lt hb ha
  have q5 := i32_le hb ha
  refine lv_icmp_eq C.1 C.2.1 hd.1 hd.2.2 (fun h => kt ?_ X p l ev s m args below meth c Z hP C R H locs ls hH hl hL) (fun h => kf ?_ X p l ev s m args below meth c Z hP C R H locs ls hH hl hL)
  · first | exact q1.mp h | exact fun z => h (q1.mpr z) | exact q2.mp h | exact q3.mp h | exact q4.mp h | exact q5.mp h
  · first | exact q1.mp h | exact fun z => h (q1.mpr z) | exact Int.not_lt.mp (fun z => h (q2.mpr z)) | exact Int.not_le.mp (fun z => h (q3.mpr z)) | exact Int.not_lt.mp (fun z => h (q4.mpr z)) | exact Int.not_le.mp (fun z => h (q5.mpr z)) | exact q2.mp h | exact q3.mp h | exact q4.mp h | exact q5.mp h
theorem zV_if_eq {off : Int} {tgt : Nat} (hd : decode mt.2.1 pc = .ok (.ifCond .eq off, 3) ∧ pc + 3 = n ∧ (pc : Int) + off = (tgt : Int)) (ha : I32 a) (kt : a = 0 → zV P mt sh u tgt L st mem Q) (kf : ¬ a = 0 → zV P mt sh u n L st mem Q) : zV P mt sh u pc L ((0, a) :: st) mem Q := by
  intro X p l ev s m args below meth c Z hP C R H locs ls hH hl hL
  rw [← hd.2.1] at kf
  have z0 : Int32.ofInt 0 = 0 := rfl
  have q1 := i32_eq ha i32_0
  have q2 := i32_lt ha i32_0
  have q3 := i32_le ha i32_0
  have q4 := i32_lt i32_0 ha
  have q5 := i32_le i32_0 ha
  rw [z0] at q1 q2 q3 q4 q5
  refine lv_if_eq C.1 C.2.1 hd.1 hd.2.2 (fun h => kt ?_ X p l ev s m args below meth c Z hP C R H locs ls hH hl hL) (fun h => kf ?_ X p l ev s m args below meth c Z hP C R H locs ls hH hl hL)
  · first | exact q1.mp h | exact fun z => h (q1.mpr z) | exact q2.mp h | exact q3.mp h | exact q4.mp h | exact q5.mp h
  · first | exact q1.mp h | exact fun z => h (q1.mpr z) | exact Int.not_lt.mp (fun z => h (q2.mpr z)) | exact Int.not_le.mp (fun z => h (q3.mpr z)) | exact Int.not_lt.mp (fun z => h (q4.mpr z)) | exact Int.not_le.mp (fun z => h (q5.mpr z)) | exact q2.mp h | exact q3.mp h | exact q4.mp h | exact q5.mp h
theorem zV_icmp_ne {off : Int} {tgt : Nat} (hd : decode mt.2.1 pc = .ok (.if_icmp .ne off, 3) ∧ pc + 3 = n ∧ (pc : Int) + off = (tgt : Int)) (ha : I32 a) (hb : I32 b) (kt : ¬ a = b → zV P mt sh u tgt L st mem Q) (kf : a = b → zV P mt sh u n L st mem Q) : zV P mt sh u pc L ((0, b) :: (0, a) :: st) mem Q := by
  intro X p l ev s m args below meth c Z hP C R H locs ls hH hl hL
  rw [← hd.2.1] at kf
  have q1 := i32_eq ha hb
  have q2 := i32_lt ha hb
  have q3 := i32_le ha hb
  have q4 := i32_lt hb ha
  have q5 := i32_le hb ha
  refine lv_icmp_ne C.1 C.2.1 hd.1 hd.2.2 (fun h => kt ?_ X p l ev s m args below meth c Z hP C R H locs ls hH hl hL) (fun h => kf ?_ X p l ev s m args below meth c Z hP C R H locs ls hH hl hL)
  · first | exact q1.mp h | exact fun z => h (q1.mpr z) | exact q2.mp h | exact q3.mp h | exact q4.mp h | exact q5.mp h
  · first | exact q1.mp h | exact fun z => h (q1.mpr z) | exact Int.not_lt.mp (fun z => h (q2.mpr z)) | exact Int.not_le.mp (fun z => h (q3.mpr z)) | exact Int.not_lt.mp (fun z => h (q4.mpr z)) | exact Int.not_le.mp (fun z => h (q5.mpr z)) | exact q2.mp h | exact q3.mp h | exact q4.mp h | exact q5.mp h
theorem zV_if_ne {off : Int} {tgt : Nat} (hd : decode mt.2.1 pc = .ok (.ifCond .ne off, 3) ∧ pc + 3 = n ∧ (pc : Int) + off = (tgt : Int)) (ha : I32 a) (kt : ¬ a = 0 → zV P mt sh u tgt L st mem Q) (kf : a = 0 → zV P mt sh u n L st mem Q) : zV P mt sh u pc L ((0, a) :: st) mem Q := by
  intro X p l ev s m args below meth c Z hP C R H locs ls hH hl hL
  rw [← hd.2.1] at kf
  have z0 : Int32.ofInt 0 = 0 := rfl
  have q1 := i32_eq ha i32_0
  have q2 := i32_lt ha i32_0
  have q3 := i32_le ha i32_0
  have q4 := i32_lt i32_0 ha
  have q5 := i32_le i32_0 ha
  rw [z0] at q1 q2 q3 q4 q5
  refine lv_if_ne C.1 C.2.1 hd.1 hd.2.2 (fun h => kt ?_ X p l ev s m args below meth c Z hP C R H locs ls hH hl hL) (fun h => kf ?_ X p l ev s m args below meth c Z hP C R H locs ls hH hl hL)
  · first | exact q1.mp h | exact fun z => h (q1.mpr z) | exact q2.mp h | exact q3.mp h | exact q4.mp h | exact q5.mp h
  · first | exact q1.mp h | exact fun z => h (q1.mpr z) | exact Int.not_lt.mp (fun z => h (q2.mpr z)) | exact Int.not_le.mp (fun z => h (q3.mpr z)) | exact Int.not_lt.mp (fun z => h (q4.mpr z)) | exact Int.not_le.mp (fun z => h (q5.mpr z)) | exact q2.mp h | exact q3.mp h | exact q4.mp h | exact q5.mp h
theorem zV_icmp_lt {off : Int} {tgt : Nat} (hd : decode mt.2.1 pc = .ok (.if_icmp .lt off, 3) ∧ pc + 3 = n ∧ (pc : Int) + off = (tgt : Int)) (ha : I32 a) (hb : I32 b) (kt : a < b → zV P mt sh u tgt L st mem Q) (kf : b ≤ a → zV P mt sh u n L st mem Q) : zV P mt sh u pc L ((0, b) :: (0, a) :: st) mem Q := by
  intro X p l ev s m args below meth c Z hP C R H locs ls hH hl hL
  rw [← hd.2.1] at kf
  have q1 := i32_eq ha hb
  have q2 := i32_lt ha hb
  have q3 := i32_le ha hb
  have q4 := i32_lt hb ha
  have q5 := i32_le hb ha
  refine lv_icmp_lt C.1 C.2.1 hd.1 hd.2.2 (fun h => kt ?_ X p l ev s m args below meth c Z hP C R H locs ls hH hl hL) (fun h => kf ?_ X p l ev s m args below meth c Z hP C R H locs ls hH hl hL)
  · first | exact q1.mp h | exact fun z => h (q1.mpr z) | exact q2.mp h | exact q3.mp h | exact q4.mp h | exact q5.mp h
  · first | exact q1.mp h | exact fun z => h (q1.mpr z) | exact Int.not_lt.mp (fun z => h (q2.mpr z)) | exact Int.not_le.mp (fun z => h (q3.mpr z)) | exact Int.not_lt.mp (fun z => h (q4.mpr z)) | exact Int.not_le.mp (fun z => h (q5.mpr z)) | exact q2.mp h | exact q3.mp h | exact q4.mp h | exact q5.mp h
theorem zV_if_lt {off : Int} {tgt : Nat} (hd : decode mt.2.1 pc = .ok (.ifCond .lt off, 3) ∧ pc + 3 = n ∧ (pc : Int) + off = (tgt : Int)) (ha : I32 a) (kt : a < 0 → zV P mt sh u tgt L st mem Q) (kf : 0 ≤ a → zV P mt sh u n L st mem Q) : zV P mt sh u pc L ((0, a) :: st) mem Q := by
  intro X p l ev s m args below meth c Z hP C R H locs ls hH hl hL
  rw [← hd.2.1] at kf
  have z0 : Int32.ofInt 0 = 0 := rfl
  have q1 := i32_eq ha i32_0
  have q2 := i32_lt ha i32_0
  have q3 := i32_le ha i32_0
  have q4 := i32_lt i32_0 ha
  have q5 := i32_le i32_0 ha
  rw [z0] at q1 q2 q3 q4 q5
  refine lv_if_lt C.1 C.2.1 hd.1 hd.2.2 (fun h => kt ?_ X p l ev s m args below meth c Z hP C R H locs ls hH hl hL) (fun h => kf ?_ X p l ev s m args below meth c Z hP C R H locs ls hH hl hL)
  · first | exact q1.mp h | exact fun z => h (q1.mpr z) | exact q2.mp h | exact q3.mp h | exact q4.mp h | exact q5.mp h
  · first | exact q1.mp h | exact fun z => h (q1.mpr z) | exact Int.not_lt.mp (fun z => h (q2.mpr z)) | exact Int.not_le.mp (fun z => h (q3.mpr z)) | exact Int.not_lt.mp (fun z => h (q4.mpr z)) | exact Int.not_le.mp (fun z => h (q5.mpr z)) | exact q2.mp h | exact q3.mp h | exact q4.mp h | exact q5.mp h
theorem zV_icmp_ge {off : Int} {tgt : Nat} (hd : decode mt.2.1 pc = .ok (.if_icmp .ge off, 3) ∧ pc + 3 = n ∧ (pc : Int) + off = (tgt : Int)) (ha : I32 a) (hb : I32 b) (kt : b ≤ a → zV P mt sh u tgt L st mem Q) (kf : a < b → zV P mt sh u n L st mem Q) : zV P mt sh u pc L ((0, b) :: (0, a) :: st) mem Q := by
  intro X p l ev s m args below meth c Z hP C R H locs ls hH hl hL
  rw [← hd.2.1] at kf
  have q1 := i32_eq ha hb
  have q2 := i32_lt ha hb
  have q3 := i32_le ha hb
  have q4 := i32_lt hb ha
  have q5 := i32_le hb ha
  refine lv_icmp_ge C.1 C.2.1 hd.1 hd.2.2 (fun h => kt ?_ X p l ev s m args below meth c Z hP C R H locs ls hH hl hL) (fun h => kf ?_ X p l ev s m args below meth c Z hP C R H locs ls hH hl hL)
  · first | exact q1.mp h | exact fun z => h (q1.mpr z) | exact q2.mp h | exact q3.mp h | exact q4.mp h | exact q5.mp h
  · first | exact q1.mp h | exact fun z => h (q1.mpr z) | exact Int.not_lt.mp (fun z => h (q2.mpr z)) | exact Int.not_le.mp (fun z => h (q3.mpr z)) | exact Int.not_lt.mp (fun z => h (q4.mpr z)) | exact Int.not_le.mp (fun z => h (q5.mpr z)) | exact q2.mp h | exact q3.mp h | exact q4.mp h | exact q5.mp h
theorem zV_if_ge {off : Int} {tgt : Nat} (hd : decode mt.2.1 pc = .ok (.ifCond .ge off, 3) ∧ pc + 3 = n ∧ (pc : Int) + off = (tgt : Int)) (ha : I32 a) (kt : 0 ≤ a → zV P mt sh u tgt L st mem Q) (kf : a < 0 → zV P mt sh u n L st mem Q) : zV P mt sh u pc L ((0, a) :: st) mem Q := by
  intro X p l ev s m args below meth c Z hP C R H locs ls hH hl hL
  rw [← hd.2.1] at kf
  have z0 : Int32.ofInt 0 = 0 := rfl
  have q1 := i32_eq ha i32_0
  have q2 := i32_lt ha i32_0
  have q3 := i32_le ha i32_0
  have q4 := i32_lt i32_0 ha
  have q5 := i32_le i32_0 ha
  rw [z0] at q1 q2 q3 q4 q5
  refine lv_if_ge C.1 C.2.1 hd.1 hd.2.2 (fun h => kt ?_ X p l ev s m args below meth c Z hP C R H locs ls hH hl hL) (fun h => kf ?_ X p l ev s m args below meth c Z hP C R H locs ls hH hl hL)
  · first | exact q1.mp h | exact fun z => h (q1.mpr z) | exact q2.mp h | exact q3.mp h | exact q4.mp h | exact q5.mp h
  · first | exact q1.mp h | exact fun z => h (q1.mpr z) | exact Int.not_lt.mp (fun z => h (q2.mpr z)) | exact Int.not_le.mp (fun z => h (q3.mpr z)) | exact Int.not_lt.mp (fun z => h (q4.mpr z)) | exact Int.not_le.mp (fun z => h (q5.mpr z)) | exact q2.mp h | exact q3.mp h | exact q4.mp h | exact q5.mp h
theorem zV_icmp_gt {off : Int} {tgt : Nat} (hd : decode mt.2.1 pc = .ok (.if_icmp .gt off, 3) ∧ pc + 3 = n ∧ (pc : Int) + off = (tgt : Int)) (ha : I32 a) (hb : I32 b) (kt : b < a → zV P mt sh u tgt L st mem Q) (kf : a ≤ b → zV P mt sh u n L st mem Q) : zV P mt sh u pc L ((0, b) :: (0, a) :: st) mem Q := by
  intro X p l ev s m args below meth c Z hP C R H locs ls hH hl hL
  rw [← hd.2.1] at kf
  have q1 := i32_eq ha hb
  have q2 := i32_lt ha hb
  have q3 := i32_le ha hb
  have q4 := i32_lt hb ha
  have q5 := i32_le hb ha
  refine lv_icmp_gt C.1 C.2.1 hd.1 hd.2.2 (fun h => kt ?_ X p l ev s m args below meth c Z hP C R H locs ls hH hl hL) (fun h => kf ?_ X p l ev s m args below meth c Z hP C R H locs ls hH hl hL)
  · first | exact q1.mp h | exact fun z => h (q1.mpr z) | exact q2.mp h | exact q3.mp h | exact q4.mp h | exact q5.mp h
  · first | exact q1.mp h | exact fun z => h (q1.mpr z) | exact Int.not_lt.mp (fun z => h (q2.mpr z)) | exact Int.not_le.mp (fun z => h (q3.mpr z)) | exact Int.not_lt.mp (fun z => h (q4.mpr z)) | exact Int.not_le.mp (fun z => h (q5.mpr z)) | exact q2.mp h | exact q3.mp h | exact q4.mp h | exact q5.mp h
theorem zV_if_gt {off : Int} {tgt : Nat} (hd : decode mt.2.1 pc = .ok (.ifCond .gt off, 3) ∧ pc + 3 = n ∧ (pc : Int) + off = (tgt : Int)) (ha : I32 a) (kt : 0 < a → zV P mt sh u tgt L st mem Q) (kf : a ≤ 0 → zV P mt sh u n L st mem Q) : zV P mt sh u pc L ((0, a) :: st) mem Q := by
  intro X p l ev s m args below meth c Z hP C R H locs ls hH hl hL
  rw [← hd.2.1] at kf
  have z0 : Int32.ofInt 0 = 0 := rfl
  have q1 := i32_eq ha i32_0
  have q2 := i32_lt ha i32_0
  have q3 := i32_le ha i32_0
  have q4 := i32_lt i32_0 ha
  have q5 := i32_le i32_0 ha
  rw [z0] at q1 q2 q3 q4 q5
  refine lv_if_gt C.1 C.2.1 hd.1 hd.2.2 (fun h => kt ?_ X p l ev s m args below meth c Z hP C R H locs ls hH hl hL) (fun h => kf ?_ X p l ev s m args below meth c Z hP C R H locs ls hH hl hL)
  · first | exact q1.mp h | exact fun z => h (q1.mpr z) | exact q2.mp h | exact q3.mp h | exact q4.mp h | exact q5.mp h
  · first | exact q1.mp h | exact fun z => h (q1.mpr z) | exact Int.not_lt.mp (fun z => h (q2.mpr z)) | exact Int.not_le.mp (fun z => h (q3.mpr z)) | exact Int.not_lt.mp (fun z => h (q4.mpr z)) | exact Int.not_le.mp (fun z => h (q5.mpr z)) | exact q2.mp h | exact q3.mp h | exact q4.mp h | exact q5.mp h
theorem zV_icmp_le {off : Int} {tgt : Nat} (hd : decode mt.2.1 pc = .ok (.if_icmp .le off, 3) ∧ pc + 3 = n ∧ (pc : Int) + off = (tgt : Int)) (ha : I32 a) (hb : I32 b) (kt : a ≤ b → zV P mt sh u tgt L st mem Q) (kf : b < a → zV P mt sh u n L st mem Q) : zV P mt sh u pc L ((0, b) :: (0, a) :: st) mem Q := by
  intro X p l ev s m args below meth c Z hP C R H locs ls hH hl hL
  rw [← hd.2.1] at kf
  have q1 := i32_eq ha hb
  have q2 := i32_lt ha hb
  have q3 := i32_le ha hb
  have q4 := i32_lt hb ha
  have q5 := i32_le hb ha
  refine lv_icmp_le C.1 C.2.1 hd.1 hd.2.2 (fun h => kt ?_ X p l ev s m args below meth c Z hP C R H locs ls hH hl hL) (fun h => kf ?_ X p l ev s m args below meth c Z hP C R H locs ls hH hl hL)
  · first | exact q1.mp h | exact fun z => h (q1.mpr z) | exact q2.mp h | exact q3.mp h | exact q4.mp h | exact q5.mp h
  · first | exact q1.mp h | exact fun z => h (q1.mpr z) | exact Int.not_lt.mp (fun z => h (q2.mpr z)) | exact Int.not_le.mp (fun z => h (q3.mpr z)) | exact Int.not_lt.mp (fun z => h (q4.mpr z)) | exact Int.not_le.mp (fun z => h (q5.mpr z)) | exact q2.mp h | exact q3.mp h | exact q4.mp h | exact q5.mp h
theorem zV_if_le {off : Int} {tgt : Nat} (hd : decode mt.2.1 pc = .ok (.ifCond .le off, 3) ∧ pc + 3 = n ∧ (pc : Int) + off = (tgt : Int)) (ha : I32 a) (kt : a ≤ 0 → zV P mt sh u tgt L st mem Q) (kf : 0 < a → zV P mt sh u n L st mem Q) : zV P mt sh u pc L ((0, a) :: st) mem Q := by
  intro X p l ev s m args below meth c Z hP C R H locs ls hH hl hL
  rw [← hd.2.1] at kf
  have z0 : Int32.ofInt 0 = 0 := rfl
  have q1 := i32_eq ha i32_0
  have q2 := i32_lt ha i32_0
  have q3 := i32_le ha i32_0
  have q4 := i32_lt i32_0 ha
  have q5 := i32_le i32_0 ha
  rw [z0] at q1 q2 q3 q4 q5
  refine lv_if_le C.1 C.2.1 hd.1 hd.2.2 (fun h => kt ?_ X p l ev s m args below meth c Z hP C R H locs ls hH hl hL) (fun h => kf ?_ X p l ev s m args below meth c Z hP C R H locs ls hH hl hL)
  · first | exact q1.mp h | exact fun z => h (q1.mpr z) | exact q2.mp h | exact q3.mp h | exact q4.mp h | exact q5.mp h
  · first | exact q1.mp h | exact fun z => h (q1.mpr z) | exact Int.not_lt.mp (fun z => h (q2.mpr z)) | exact Int.not_le.mp (fun z => h (q3.mpr z)) | exact Int.not_lt.mp (fun z => h (q4.mpr z)) | exact Int.not_le.mp (fun z => h (q5.mpr z)) | exact q2.mp h | exact q3.mp h | exact q4.mp h | exact q5.mp h
def zcm (a b : Int) : Int := if b < a then 1 else if a = b then 0 else -1
theorem zcm_r (a b : Int) : I32 (zcm a b) := by
  unfold zcm I32
  split
  · omega
  · split <;> omega
theorem zV_lcmp (hd : decode mt.2.1 pc = .ok (.lcmp, 1) ∧ pc + 1 = n) (ha : I64 a) (hb : I64 b) (k : zV P mt sh u n L ((0, zcm a b) :: st) mem Q) : zV P mt sh u pc L ((1, b) :: (1, a) :: st) mem Q := by
  intro X p l ev s m args below meth c Z hP C R H locs ls hH hl hL
  rw [← hd.2] at k
  have h2 := k X p l ev s m args below meth c Z hP C R H locs ls hH hl hL
  have e : zcV X (0, zcm a b) = .int (lg_cmp (Int64.ofInt a) (Int64.ofInt b)) := by
    have q1 := i64_lt hb ha
    have q2 := i64_eq ha hb
    show Value.int (Int32.ofInt _) = _
    unfold zcm lg_cmp
    by_cases h : b < a
    · simp [h, q1]
    · by_cases h3 : a = b
      · subst h3; simp
      · simp [h, h3, q1, q2]
  rw [List.map_cons, e] at h2
  exact W.lcmp C.1 C.2.1 hd.1 h2
theorem zV_lcmp_eq {off : Int} {n1 tgt : Nat} (hd : decode mt.2.1 pc = .ok (.lcmp, 1) ∧ pc + 1 = n1) (hd2 : decode mt.2.1 n1 = .ok (.ifCond .eq off, 3) ∧ n1 + 3 = n ∧ (n1 : Int) + off = (tgt : Int)) (ha : I64 a) (hb : I64 b) (kt : a = b → zV P mt sh u tgt L st mem Q) (kf : ¬ a = b → zV P mt sh u n L st mem Q) : zV P mt sh u pc L ((1, b) :: (1, a) :: st) mem Q := by
  refine zV_lcmp hd ha hb (zV_if_eq hd2 (zcm_r a b) (fun h => kt ?_) (fun h => kf ?_))
  · unfold zcm at h; split at h <;> (try split at h) <;> omega
  · unfold zcm at h; split at h <;> (try split at h) <;> omega
/-- two equal longs: no range is wanted -/
theorem zV_lcmp_same (hd : decode mt.2.1 pc = .ok (.lcmp, 1) ∧ pc + 1 = n) (he : a = b) (k : zV P mt sh u n L ((0, 0) :: st) mem Q) : zV P mt sh u pc L ((1, b) :: (1, a) :: st) mem Q := by
  intro X p l ev s m args below meth c Z hP C R H locs ls hH hl hL
  rw [← hd.2] at k
  have h2 := k X p l ev s m args below meth c Z hP C R H locs ls hH hl hL
  subst he
  have e : zcV X (0, 0) = .int (lg_cmp (Int64.ofInt a) (Int64.ofInt a)) := by
    show Value.int (Int32.ofInt 0) = _
    simp [lg_cmp]
  rw [List.map_cons, e] at h2
  exact W.lcmp C.1 C.2.1 hd.1 h2
theorem zV_lcmp_ne {off : Int} {n1 tgt : Nat} (hd : decode mt.2.1 pc = .ok (.lcmp, 1) ∧ pc + 1 = n1) (hd2 : decode mt.2.1 n1 = .ok (.ifCond .ne off, 3) ∧ n1 + 3 = n ∧ (n1 : Int) + off = (tgt : Int)) (ha : I64 a) (hb : I64 b) (kt : ¬ a = b → zV P mt sh u tgt L st mem Q) (kf : a = b → zV P mt sh u n L st mem Q) : zV P mt sh u pc L ((1, b) :: (1, a) :: st) mem Q := by
  refine zV_lcmp hd ha hb (zV_if_ne hd2 (zcm_r a b) (fun h => kt ?_) (fun h => kf ?_))
  · unfold zcm at h; split at h <;> (try split at h) <;> omega
  · unfold zcm at h; split at h <;> (try split at h) <;> omega
theorem zV_lcmp_lt {off : Int} {n1 tgt : Nat} (hd : decode mt.2.1 pc = .ok (.lcmp, 1) ∧ pc + 1 = n1) (hd2 : decode mt.2.1 n1 = .ok (.ifCond .lt off, 3) ∧ n1 + 3 = n ∧ (n1 : Int) + off = (tgt : Int)) (ha : I64 a) (hb : I64 b) (kt : a < b → zV P mt sh u tgt L st mem Q) (kf : b ≤ a → zV P mt sh u n L st mem Q) : zV P mt sh u pc L ((1, b) :: (1, a) :: st) mem Q := by
  refine zV_lcmp hd ha hb (zV_if_lt hd2 (zcm_r a b) (fun h => kt ?_) (fun h => kf ?_))
  · unfold zcm at h; split at h <;> (try split at h) <;> omega
  · unfold zcm at h; split at h <;> (try split at h) <;> omega
theorem zV_lcmp_ge {off : Int} {n1 tgt : Nat} (hd : decode mt.2.1 pc = .ok (.lcmp, 1) ∧ pc + 1 = n1) (hd2 : decode mt.2.1 n1 = .ok (.ifCond .ge off, 3) ∧ n1 + 3 = n ∧ (n1 : Int) + off = (tgt : Int)) (ha : I64 a) (hb : I64 b) (kt : b ≤ a → zV P mt sh u tgt L st mem Q) (kf : a < b → zV P mt sh u n L st mem Q) : zV P mt sh u pc L ((1, b) :: (1, a) :: st) mem Q := by
  refine zV_lcmp hd ha hb (zV_if_ge hd2 (zcm_r a b) (fun h => kt ?_) (fun h => kf ?_))
  · unfold zcm at h; split at h <;> (try split at h) <;> omega
  · unfold zcm at h; split at h <;> (try split at h) <;> omega
theorem zV_lcmp_gt {off : Int} {n1 tgt : Nat} (hd : decode mt.2.1 pc = .ok (.lcmp, 1) ∧ pc + 1 = n1) (hd2 : decode mt.2.1 n1 = .ok (.ifCond .gt off, 3) ∧ n1 + 3 = n ∧ (n1 : Int) + off = (tgt : Int)) (ha : I64 a) (hb : I64 b) (kt : b < a → zV P mt sh u tgt L st mem Q) (kf : a ≤ b → zV P mt sh u n L st mem Q) : zV P mt sh u pc L ((1, b) :: (1, a) :: st) mem Q := by
  refine zV_lcmp hd ha hb (zV_if_gt hd2 (zcm_r a b) (fun h => kt ?_) (fun h => kf ?_))
  · unfold zcm at h; split at h <;> (try split at h) <;> omega
  · unfold zcm at h; split at h <;> (try split at h) <;> omega
theorem zV_lcmp_le {off : Int} {n1 tgt : Nat} (hd : decode mt.2.1 pc = .ok (.lcmp, 1) ∧ pc + 1 = n1) (hd2 : decode mt.2.1 n1 = .ok (.ifCond .le off, 3) ∧ n1 + 3 = n ∧ (n1 : Int) + off = (tgt : Int)) (ha : I64 a) (hb : I64 b) (kt : a ≤ b → zV P mt sh u tgt L st mem Q) (kf : b < a → zV P mt sh u n L st mem Q) : zV P mt sh u pc L ((1, b) :: (1, a) :: st) mem Q := by
  refine zV_lcmp hd ha hb (zV_if_le hd2 (zcm_r a b) (fun h => kt ?_) (fun h => kf ?_))
  · unfold zcm at h; split at h <;> (try split at h) <;> omega
  · unfold zcm at h; split at h <;> (try split at h) <;> omega
theorem zV_tsIn {dflt lo hi : Int} {offs : Array Int} {len : Nat} {off : Int} {tgt : Nat} (hd : decode mt.2.1 pc = .ok (.tableswitch dflt lo hi offs, len)) (ha : I32 a) {v : Int} (hv : a = v) (ho : (¬ v < lo ∧ ¬ hi < v) ∧ offs[(v - lo).toNat]? = some off ∧ (pc : Int) + off = (tgt : Int)) (k : zV P mt sh u tgt L st mem Q) : zV P mt sh u pc L ((0, a) :: st) mem Q := by
  intro X p l ev s m args below meth c Z hP C R H locs ls hH hl hL
  subst hv
  have e : (Int32.ofInt a).toInt = a := i32_toInt ha
  exact lv_tableIn C.1 C.2.1 hd (by rw [e]; exact ho.1.1) (by rw [e]; exact ho.1.2) (by rw [e]; exact ho.2.1) ho.2.2 (k X p l ev s m args below meth c Z hP C R H locs ls hH hl hL)
theorem zV_tsOut {dflt lo hi : Int} {offs : Array Int} {len : Nat} {tgt : Nat} (hd : decode mt.2.1 pc = .ok (.tableswitch dflt lo hi offs, len)) (ha : I32 a) (ho : a < lo ∨ hi < a) (ht : (pc : Int) + dflt = (tgt : Int)) (k : zV P mt sh u tgt L st mem Q) : zV P mt sh u pc L ((0, a) :: st) mem Q := by
  intro X p l ev s m args below meth c Z hP C R H locs ls hH hl hL
  have e : (Int32.ofInt a).toInt = a := i32_toInt ha
  exact lv_tableOut C.1 C.2.1 hd (by rw [e]; exact ho) ht (k X p l ev s m args below meth c Z hP C R H locs ls hH hl hL)
theorem zV_lsw {dflt : Int} {ps : Array (Int × Int)} {len : Nat} {off : Int} {tgt : Nat} (hd : decode mt.2.1 pc = .ok (.lookupswitch dflt ps, len)) (ha : I32 a) (hp : (ps.toList.zip (ps.toList.drop 1)).all (fun (a, next) => a.1 < next.1) = true) (ho : Op.lookupswitch.offset ps.toList dflt a = off) (ht : (pc : Int) + off = (tgt : Int)) (k : zV P mt sh u tgt L st mem Q) : zV P mt sh u pc L ((0, a) :: st) mem Q := by
  intro X p l ev s m args below meth c Z hP C R H locs ls hH hl hL
  have e : (Int32.ofInt a).toInt = a := i32_toInt ha
  exact lv_lookup C.1 C.2.1 hd hp (by rw [e]; exact ho) ht (k X p l ev s m args below meth c Z hP C R H locs ls hH hl hL)
theorem zV_iret (hd : decode mt.2.1 pc = .ok (.ireturn, 1)) (hr : mt.2.2.2.1 = some .int) (hu : u.1 ≤ (zrm mt).cells ∧ u.2 ≤ (zrm mt).slots) (hq : Q (some (0, a)) sh mem) : zV P mt sh u pc L [(0, a)] mem Q := by
  intro X p l ev s m args below meth c Z hP C R H locs ls hH hl hL
  exact R pc ls H locs u.1 u.2 (some (0, a)) sh mem .ireturn hd (Or.inl ⟨rfl, a, rfl, Or.inl hr⟩) hH hl hu.1 hu.2 hq
theorem zV_zret (hd : decode mt.2.1 pc = .ok (.ireturn, 1)) (hr : mt.2.2.2.1 = some .boolean) (hu : u.1 ≤ (zrm mt).cells ∧ u.2 ≤ (zrm mt).slots) (hb : a = 0 ∨ a = 1) (hq : Q (some (0, a)) sh mem) : zV P mt sh u pc L [(0, a)] mem Q := by
  intro X p l ev s m args below meth c Z hP C R H locs ls hH hl hL
  exact R pc ls H locs u.1 u.2 (some (0, a)) sh mem .ireturn hd (Or.inl ⟨rfl, a, rfl, Or.inr ⟨hr, hb⟩⟩) hH hl hu.1 hu.2 hq
theorem zV_lret (hd : decode mt.2.1 pc = .ok (.lreturn, 1)) (hr : mt.2.2.2.1 = some .long) (hu : u.1 ≤ (zrm mt).cells ∧ u.2 ≤ (zrm mt).slots) (hq : Q (some (1, a)) sh mem) : zV P mt sh u pc L [(1, a)] mem Q := by
  intro X p l ev s m args below meth c Z hP C R H locs ls hH hl hL
  exact R pc ls H locs u.1 u.2 (some (1, a)) sh mem .lreturn hd (Or.inr (Or.inl ⟨rfl, hr, a, rfl⟩)) hH hl hu.1 hu.2 hq
theorem zV_vret (hd : decode mt.2.1 pc = .ok (.return_, 1)) (hr : mt.2.2.2.1 = none) (hu : u.1 ≤ (zrm mt).cells ∧ u.2 ≤ (zrm mt).slots) (hq : Q none sh mem) : zV P mt sh u pc L [] mem Q := by
  intro X p l ev s m args below meth c Z hP C R H locs ls hH hl hL
  exact R pc ls H locs u.1 u.2 none sh mem .return_ hd (Or.inr (Or.inr ⟨rfl, hr, rfl⟩)) hH hl hu.1 hu.2 hq
end zRULES
end
section
/-! words by place -/
theorem zin {w : Cond} (i : Nat) (h : lw_tbl[i]? = some w) (g : goodWord w = true) : w ∈ zwsG := List.mem_filter.mpr ⟨List.mem_of_getElem? h, g⟩
theorem zin_r (ws : List Cond) (ps : List Nat) (hp : ws = ps.filterMap (fun i => lw_tbl[i]?)) (hg : ws.all goodWord = true) : ∀ w ∈ ws, w ∈ zwsG := by
  intro w hw
  have h1 := List.all_eq_true.mp hg w hw
  rw [hp] at hw
  obtain ⟨i, -, hi⟩ := List.mem_filterMap.mp hw
  exact zin i hi h1
theorem zgood {ws : List Cond} (h : ∀ w ∈ ws, w ∈ zwsG) : GoodIn zwsG ws := fun w hw => ⟨h w hw, good_of_word (List.mem_filter.mp (h w hw)).2⟩
def zcl (c : Nat) : vw_C := vwCl.getD c (RX0, TX0, 4)
set_option maxRecDepth 20000 in
theorem zlay0 : ∀ w ∈ u_ws RX0 TX0 4, w ∈ zwsG := zin_r _ [144, 146, 148, 150] (by decide +kernel) (by decide +kernel)
set_option maxRecDepth 20000 in
theorem zlay1 : ∀ w ∈ u_ws RX1 TX1 1, w ∈ zwsG := zin_r _ [288] (by decide +kernel) (by decide +kernel)
set_option maxRecDepth 20000 in
theorem zlay2 : ∀ w ∈ u_ws RX3 TX3 2, w ∈ zwsG := zin_r _ [263, 265] (by decide +kernel) (by decide +kernel)
set_option maxRecDepth 20000 in
theorem zlay3 : ∀ w ∈ u_ws RX4 TX4 2, w ∈ zwsG := zin_r _ [276, 278] (by decide +kernel) (by decide +kernel)
set_option maxRecDepth 20000 in
theorem zlay4 : ∀ w ∈ u_ws RX5 TX5 2, w ∈ zwsG := zin_r _ [111, 113] (by decide +kernel) (by decide +kernel)
set_option maxRecDepth 20000 in
theorem zlay5 : ∀ w ∈ u_ws RX6 TX6 3, w ∈ zwsG := zin_r _ [301, 303, 305] (by decide +kernel) (by decide +kernel)
set_option maxRecDepth 20000 in
theorem zlay6 : ∀ w ∈ u_ws RX7 TX7 4, w ∈ zwsG := zin_r _ [204, 206, 208, 210] (by decide +kernel) (by decide +kernel)
set_option maxRecDepth 20000 in
theorem zlay7 : ∀ w ∈ u_ws RX8 TX8 2, w ∈ zwsG := zin_r _ [159, 161] (by decide +kernel) (by decide +kernel)
set_option maxRecDepth 20000 in
theorem zlay8 : ∀ w ∈ u_ws RX9 TX9 5, w ∈ zwsG := zin_r _ [176, 178, 180, 182, 184] (by decide +kernel) (by decide +kernel)
set_option maxRecDepth 20000 in
theorem zlay9 : ∀ w ∈ u_ws RX10 TX10 11, w ∈ zwsG := zin_r _ [232, 234, 236, 238, 240, 242, 244, 246, 248, 250, 252] (by decide +kernel) (by decide +kernel)
set_option maxRecDepth 20000 in
theorem zlay10 : ∀ w ∈ u_ws RX11 TX11 16, w ∈ zwsG := zin_r _ [324, 326, 328, 330, 332, 334, 336, 338, 340, 342, 344, 346, 348, 350, 352, 354] (by decide +kernel) (by decide +kernel)
set_option maxRecDepth 20000 in
theorem zlay11 : ∀ w ∈ u_ws RX12 TX12 34, w ∈ zwsG := zin_r _ [864, 866, 868, 870, 872, 874, 876, 878, 880, 882, 884, 886, 888, 890, 892, 894, 896, 898, 900, 902, 904, 906, 908, 910, 912, 914, 916, 918, 920, 922, 924, 926, 928, 930] (by decide +kernel) (by decide +kernel)
theorem zcl_ok : ∀ c, c < 12 → vwCl[c]? = some (zcl c) ∧ (∀ w ∈ u_ws (zcl c).1 (zcl c).2.1 (zcl c).2.2, w ∈ zwsG) ∧ (∀ k, k < (zcl c).2.2 → parseFieldDescriptor ((zcl c).2.1 k).2.2.1 = some (zty c k)) ∧ (∀ a, a < (zcl c).2.2 → ∀ b, b < (zcl c).2.2 → a ≠ b → ((zcl c).2.1 a).2.1 ≠ ((zcl c).2.1 b).2.1) ∧ zN c = (zcl c).2.2
  | 0, _ => ⟨rfl, zlay0, tyX0_ok, nmX0, rfl⟩
  | 1, _ => ⟨rfl, zlay1, tyX1_ok, nmX1, rfl⟩
  | 2, _ => ⟨rfl, zlay2, tyX3_ok, nmX3, rfl⟩
  | 3, _ => ⟨rfl, zlay3, tyX4_ok, nmX4, rfl⟩
  | 4, _ => ⟨rfl, zlay4, tyX5_ok, nmX5, rfl⟩
  | 5, _ => ⟨rfl, zlay5, tyX6_ok, nmX6, rfl⟩
  | 6, _ => ⟨rfl, zlay6, tyX7_ok, nmX7, rfl⟩
  | 7, _ => ⟨rfl, zlay7, tyX8_ok, nmX8, rfl⟩
  | 8, _ => ⟨rfl, zlay8, tyX9_ok, nmX9, rfl⟩
  | 9, _ => ⟨rfl, zlay9, tyX10_ok, nmX10, rfl⟩
  | 10, _ => ⟨rfl, zlay10, tyX11_ok, nmX11, rfl⟩
  | 11, _ => ⟨rfl, zlay11, tyX12_ok, nmX12, rfl⟩
  | n + 12, h => absurd h (by omega)
theorem zE_cls (X : zCT) (mem : zMem) (i c m : Nat) (h : c < 12) : zE X mem i (c, m) = .inr (c, (List.range (zN c)).map (fun k => zcV X (ztag (zty c k), mem i k))) := by
  unfold zE
  match c, h with
  | 0, _ => rfl
  | 1, _ => rfl
  | 2, _ => rfl
  | 3, _ => rfl
  | 4, _ => rfl
  | 5, _ => rfl
  | 6, _ => rfl
  | 7, _ => rfl
  | 8, _ => rfl
  | 9, _ => rfl
  | 10, _ => rfl
  | 11, _ => rfl
/-- a field's entry of the pool: class, slot, tag; the slot as an Int -/
def zFl (own : String) (i c k t : Nat) (kI : Int) : Prop := Cond.fieldLink own i ((zcl c).2.1 k).1 ((zcl c).2.1 k).2.1 ((zcl c).2.1 k).2.2.1 ∈ zwsG ∧ c < 12 ∧ k < zN c ∧ ztag (zty c k) = t ∧ (k : Int) = kI
theorem zat {X : zCT} {sh : zSh} {mem : zMem} {a : Int} {q : Nat × Nat} (h : zkd sh a = q) (hq : q.1 < 99) : ∃ i : Nat, a = (i : Int) ∧ sh[i]? = some q ∧ (zW X sh mem)[i]? = some (X.2.1.size + i, zE X mem i q) ∧ zcV X (2, a) = .ref (X.2.1.size + i) := by
  obtain ⟨i, h1, h2⟩ := zkd_at h hq
  refine ⟨i, h1, h2, by rw [zW_get, h2]; rfl, by rw [h1]; exact zcV_ref X i⟩
theorem zH_set {X : zCT} {sh : zSh} {mem mem' : zMem} {H H1 : Heap} {i : Nat} {q : Nat × Nat} {e : va_E} (hH : zH X sh mem H) (hq : sh[i]? = some q) (he : zE X mem' i q = e) (ho : ∀ j : Nat, j ≠ i → mem' j = mem j) (h1 : va_at (X.2.2.1, X.2.2.2.1) vwCl (X.2.1.size + i, e) H1) (z : H1.size = H.size) (oq : ∀ x : Nat, x ≠ X.2.1.size + i → H1[x]? = H[x]?) : zH X sh mem' H1 := by
  obtain ⟨hP, hs, hb⟩ := hH
  refine ⟨?_, by rw [z, hs], fun x hx => by rw [oq x (by omega)]; exact hb x hx⟩
  rw [← zW_set X sh mem mem' i q e hq he ho]
  exact hP.set (zW_D X sh mem) (by rw [zW_get, hq]; rfl) h1 oq
theorem zlo_put {X : zCT} {locs : List Loc} {i k : Nat} (h : zlo X locs) : zlo X (locs ++ [⟨X.2.1.size + i, k⟩]) := by
  intro q hq
  rcases List.mem_append.mp hq with h1 | h1
  · exact h q h1
  · rw [List.mem_singleton.mp h1]
    exact Nat.le_add_right _ _
theorem zup_o (mem : zMem) (i : Nat) (k v : Int) : ∀ j : Nat, j ≠ i → zup mem (i : Int) k v j = mem j := by
  intro j hj
  funext k'
  unfold zup
  rw [if_neg (by omega)]
section zHEAP
variable {P : zCT → Prop} {mt : zMT} {sh : zSh} {u : Nat × Nat} {pc n : Nat} {L L' : List (Option zAV)} {st : List zAV} {mem : zMem} {Q : zQT} {a b : Int}
theorem zV_getf {i c k t m9 : Nat} {kI : Int} (hd : decode mt.2.1 pc = .ok (.getfield i, 3) ∧ pc + 3 = n) (hf : zFl mt.1.cls i c k t kI) (hk : zkd sh a = (c, m9)) (kk : zV P mt sh u n L ((t, mem a kI) :: st) mem Q) : zV P mt sh u pc L ((2, a) :: st) mem Q := by
  intro X p l ev s m args below meth cq Z hP C R H locs ls hH hl hL
  rw [← hd.2] at kk
  obtain ⟨hlink, hc, hkN, ht, hkI⟩ := hf
  obtain ⟨q1, q2, q3, q4, q5⟩ := zcl_ok c hc
  obtain ⟨i', rfl, h2, h3, h4⟩ := zat (X := X) (mem := mem) hk (by show c < 99; omega)
  have h5 := kk X p l ev s m args below meth cq Z hP C R H locs ls hH hl hL
  rw [List.map_cons] at h5 ⊢
  rw [h4]
  subst ht; subst hkI
  refine va_get (D := (X.2.2.1, X.2.2.2.1)) (cl := vwCl) (tys := ztys X) (ws := zW X sh mem) (C := (zcl c).1) (T := (zcl c).2.1) (N := (zcl c).2.2) (ci := c) C.1 C.2.1 C.2.2.2.2.2.2.1 q2 C.2.2.2.2.2.1 C.2.2.2.2.2.2.2.1.1 hH.1 i' (by rw [h3, zE_cls X mem i' c m9 hc]) q1 k (by rw [← q5]; exact hkN) (C.2.2.2.2.2.2.1 _ hlink) (fun _ h9 => h9) (v := zcV X (ztag (zty c k), mem i' k)) ?_ hd.1 h5
  rw [List.getElem?_map, List.getElem?_range hkN]
  rfl
/-- storing into a field that isn't final -/
theorem zV_put0 {i c k t m9 : Nat} {kI : Int} (hd : decode mt.2.1 pc = .ok (.putfield i, 3) ∧ pc + 3 = n) (hf : zFl mt.1.cls i c k t kI) (hk : zkd sh a = (c, m9)) (hfin : ((zcl c).2.1 k).2.2.2 = false ∨ (((zcl c).2.1 k).2.2.2 = true ∧ mt.1.name = "<init>" ∧ ((zcl c).2.1 k).1 = mt.1.cls)) (hnf : ∀ X : zCT, narrow (zty c k) (zcV X (t, b)) = zcV X (t, b) ∧ fits (zty c k) (zcV X (t, b)) = true) (kk : zV P mt sh u n L st (zup mem a kI b) Q) : zV P mt sh u pc L ((t, b) :: (2, a) :: st) mem Q := by
  intro X p l ev s m args below meth cq Z hP C R H locs ls hH hl hL
  rw [← hd.2] at kk
  obtain ⟨hlink, hc, hkN, ht, hkI⟩ := hf
  obtain ⟨w1, w2, w3, w4, w5⟩ := zcl_ok c hc
  obtain ⟨i', rfl, h2, h3, h4⟩ := zat (X := X) (mem := mem) hk (by show c < 99; omega)
  rw [List.map_cons, List.map_cons, h4]
  have hK := C.2.2.2.2.2.2.2.1.1
  have hts := C.2.2.2.2.2.2.1
  have hown := C.2.2.2.2.2.1
  have hap := va_apart (own := mt.1.cls) hts w2 (zty c) w3 w4 hK w1
  have hPP := hH.1
  rw [zE_cls X mem i' c m9 hc] at h3
  obtain ⟨r, g1, cell, q1, q2, q3, q4⟩ := hPP i' _ h3
  have hr : r = zcl c := Option.some.inj (g1.symm.trans w1)
  subst hr
  obtain ⟨hS, hfc, kC, hkC, hkind⟩ := hK.1 c _ w1
  have hkN' : k < (zcl c).2.2 := by rw [← w5]; exact hkN
  obtain ⟨cf, kf, fi, f, hi, hsl⟩ := hS k hkN'
  have hst := (u_facts hfc hkC (u_lays hts w2 hkN') hi).1
  have fin : ∀ H' : Heap, H'[X.2.1.size + i']? = some (cell.setSlot f.slot (zcV X (t, b))) → H'.size = H.size → (∀ q, q ≠ X.2.1.size + i' → H'[q]? = H[q]?) → W p l ev (zrm mt) s m args below meth cq H' (locs ++ [⟨X.2.1.size + i', f.slot⟩]) u.1 u.2 Z (F0 m (pc + 3) ls (st.map (zcV X))) := by
    intro H' e1 e2 e3
    rw [hsl] at e1
    refine kk X p l ev s m args below meth cq Z hP C R H' _ ls (zH_set (e := .inr (c, ((List.range (zN c)).map (fun k => zcV X (ztag (zty c k), mem i' k))).set k (zcV X (t, b)))) hH h2 ?_ (zup_o mem i' kI b) ?_ e2 e3) (zlo_put hl) hL
    · rw [zE_cls X _ i' c m9 hc]
      congr 2
      apply List.ext_getElem?
      intro j
      by_cases hj : j = k
      · subst hj
        rw [List.getElem?_set_self (by simp; exact hkN), List.getElem?_map, List.getElem?_range hkN]
        simp [zup, hkI, ht]
      · rw [List.getElem?_set_ne (Ne.symm hj), List.getElem?_map, List.getElem?_map]
        have hx : ∀ x : Nat, x ≠ k → zup mem (i' : Int) kI b i' x = mem i' x := by
          intro x hx
          unfold zup
          rw [if_neg (by omega)]
        cases hr : (List.range (zN c))[j]? with
        | none => rfl
        | some x =>
          have hxj : x = j := by
            have := List.getElem?_eq_some_iff.mp hr
            obtain ⟨_, h⟩ := this
            simpa using h.symm
          subst hxj
          simp [hx x hj]
    · exact ⟨_, w1, t_OB.to (V := updV (vp_V ((List.range (zN c)).map (fun k => zcV X (ztag (zty c k), mem i' k)))) k (zcV X (t, b))) ⟨_, e1, q2, q3, t_set q4 hap hkN' _⟩ (fun j _ => vp_updV_set (by simp; exact hkN) _ j)⟩
  have hlay := hts _ (w2 _ (u_in_lay hkN'))
  unfold u_lay at hlay
  rcases hfin with hfin | ⟨hfin, hin, hdecl⟩
  · rw [if_neg (by rw [hfin]; decide)] at hlay
    have h6 := u_store hfc hkC hkind hlay hi (w3 k hkN') (hnf X).1 (hnf X).2
    exact W.putK C.1 C.2.1 (f := f) ⟨hown, hts _ hlink, ⟨_, _, _, hi⟩, hst⟩ (by rw [q2]; exact h6) q1 q3 (by rw [hsl]; exact k2_hasslot (q4 k hkN')) rfl rfl hd.1 fin
  · rw [if_pos hfin] at hlay
    have hcf : m.cls = cf := by
      obtain ⟨_, _, c', _, _, _, -, -, hf', -, -, -, hown2, -⟩ := Cond.laysFinal_spec hlay
      have e1 : c' = cf := by have := hi.symm.trans hf'; simp at this; exact this.1.symm
      rw [hdecl] at hown2
      rw [← e1]; exact Option.some.inj (hown.symm.trans hown2)
    have h6 := u_fits hfc hkC hkind (Or.inr hlay) hi (w3 k hkN') (hnf X).1 (hnf X).2
    exact W.putFinK C.1 C.2.1 hown (hts _ hlink) hi hst hcf (C.2.2.2.2.2.2.2.2.trans hin) (by rw [q2]; exact h6) q1 q3 (by rw [hsl]; exact k2_hasslot (q4 k hkN')) rfl rfl hd.1 fin
theorem zV_puti {i c k m9 : Nat} {kI : Int} (hd : decode mt.2.1 pc = .ok (.putfield i, 3) ∧ pc + 3 = n) (hf : zFl mt.1.cls i c k 0 kI) (hk : zkd sh a = (c, m9)) (hfin : ((zcl c).2.1 k).2.2.2 = false ∧ zty c k = .int) (kk : zV P mt sh u n L st (zup mem a kI b) Q) : zV P mt sh u pc L ((0, b) :: (2, a) :: st) mem Q :=
  zV_put0 hd hf hk (Or.inl hfin.1) (fun X => by rw [hfin.2]; exact ⟨rfl, rfl⟩) kk
theorem zV_putl {i c k m9 : Nat} {kI : Int} (hd : decode mt.2.1 pc = .ok (.putfield i, 3) ∧ pc + 3 = n) (hf : zFl mt.1.cls i c k 1 kI) (hk : zkd sh a = (c, m9)) (hfin : ((zcl c).2.1 k).2.2.2 = false ∧ zty c k = .long) (kk : zV P mt sh u n L st (zup mem a kI b) Q) : zV P mt sh u pc L ((1, b) :: (2, a) :: st) mem Q :=
  zV_put0 hd hf hk (Or.inl hfin.1) (fun X => by rw [hfin.2]; exact ⟨rfl, rfl⟩) kk
theorem zV_putz {i c k m9 : Nat} {kI : Int} (hd : decode mt.2.1 pc = .ok (.putfield i, 3) ∧ pc + 3 = n) (hf : zFl mt.1.cls i c k 0 kI) (hk : zkd sh a = (c, m9)) (hfin : ((zcl c).2.1 k).2.2.2 = false ∧ zty c k = .boolean) (hb : b = 0 ∨ b = 1) (kk : zV P mt sh u n L st (zup mem a kI b) Q) : zV P mt sh u pc L ((0, b) :: (2, a) :: st) mem Q :=
  zV_put0 hd hf hk (Or.inl hfin.1) (fun X => by rw [hfin.2]; rcases hb with rfl | rfl <;> exact ⟨rfl, rfl⟩) kk
theorem zV_putF {i c k m9 : Nat} {kI : Int} (hd : decode mt.2.1 pc = .ok (.putfield i, 3) ∧ pc + 3 = n) (hf : zFl mt.1.cls i c k 2 kI) (hk : zkd sh a = (c, m9)) (hfin : ((zcl c).2.1 k).2.2.2 = true ∧ mt.1.name = "<init>" ∧ ((zcl c).2.1 k).1 = mt.1.cls) (kk : zV P mt sh u n L st (zup mem a kI b) Q) : zV P mt sh u pc L ((2, b) :: (2, a) :: st) mem Q := by
  refine zV_put0 hd hf hk (Or.inr hfin) (fun X => ?_) kk
  have ht := hf.2.2.2.1
  show narrow _ (va_rf (zro X b)) = va_rf (zro X b) ∧ fits _ (va_rf (zro X b)) = true
  cases hty : zty c k <;> rw [hty] at ht <;> first | (exact absurd ht (by decide)) | (cases zro X b <;> exact ⟨rfl, rfl⟩)
theorem zV_iald {m9 : Nat} (hd : decode mt.2.1 pc = .ok (.iaload, 1) ∧ pc + 1 = n) (hk : zkd sh a = (12, m9)) (hm : Nat.ble m9 100000 = true) (hb : 0 ≤ b ∧ b < m9) (kk : zV P mt sh u n L ((0, mem a b) :: st) mem Q) : zV P mt sh u pc L ((0, b) :: (2, a) :: st) mem Q := by
  intro X p l ev s m args below meth cq Z hP C R H locs ls hH hl hL
  rw [← hd.2] at kk
  obtain ⟨i', rfl, h2, h3, h4⟩ := zat (X := X) (mem := mem) hk (by show 12 < 99; omega)
  obtain ⟨g1, g2⟩ := i32_idx hb.1 hb.2 hm
  have h5 := kk X p l ev s m args below meth cq Z hP C R H locs ls hH hl hL
  rw [List.map_cons] at h5
  rw [List.map_cons, List.map_cons, h4]
  refine va_iald (D := (X.2.2.1, X.2.2.2.1)) (cl := vwCl) C.1 C.2.1 C.2.2.2.2.2.2.2.1.1 hH.1 i' 0 (h3.trans rfl) rfl g1 hd.1 ?_
  dsimp only
  rw [g2]
  exact h5
theorem zV_lald {m9 : Nat} (hd : decode mt.2.1 pc = .ok (.laload, 1) ∧ pc + 1 = n) (hk : zkd sh a = (13, m9)) (hm : Nat.ble m9 100000 = true) (hb : 0 ≤ b ∧ b < m9) (kk : zV P mt sh u n L ((1, mem a b) :: st) mem Q) : zV P mt sh u pc L ((0, b) :: (2, a) :: st) mem Q := by
  intro X p l ev s m args below meth cq Z hP C R H locs ls hH hl hL
  rw [← hd.2] at kk
  obtain ⟨i', rfl, h2, h3, h4⟩ := zat (X := X) (mem := mem) hk (by show 13 < 99; omega)
  obtain ⟨g1, g2⟩ := i32_idx hb.1 hb.2 hm
  have h5 := kk X p l ev s m args below meth cq Z hP C R H locs ls hH hl hL
  rw [List.map_cons] at h5
  rw [List.map_cons, List.map_cons, h4]
  refine va_lald (D := (X.2.2.1, X.2.2.2.1)) (cl := vwCl) C.1 C.2.1 C.2.2.2.2.2.2.2.1.1 hH.1 i' 1 (h3.trans rfl) rfl g1 hd.1 ?_
  dsimp only
  rw [g2]
  exact h5
theorem zV_zald {m9 : Nat} (hd : decode mt.2.1 pc = .ok (.baload, 1) ∧ pc + 1 = n) (hk : zkd sh a = (14, m9)) (hm : Nat.ble m9 100000 = true) (hb : 0 ≤ b ∧ b < m9) (kk : zV P mt sh u n L ((0, mem a b) :: st) mem Q) : zV P mt sh u pc L ((0, b) :: (2, a) :: st) mem Q := by
  intro X p l ev s m args below meth cq Z hP C R H locs ls hH hl hL
  rw [← hd.2] at kk
  obtain ⟨i', rfl, h2, h3, h4⟩ := zat (X := X) (mem := mem) hk (by show 14 < 99; omega)
  obtain ⟨g1, g2⟩ := i32_idx hb.1 hb.2 hm
  have h5 := kk X p l ev s m args below meth cq Z hP C R H locs ls hH hl hL
  rw [List.map_cons] at h5
  rw [List.map_cons, List.map_cons, h4]
  refine va_zald (D := (X.2.2.1, X.2.2.2.1)) (cl := vwCl) C.1 C.2.1 C.2.2.2.2.2.2.2.1.1 hH.1 i' 2 (h3.trans rfl) rfl g1 hd.1 ?_
  dsimp only
  rw [g2]
  exact h5
theorem zV_ald15 {m9 : Nat} (hd : decode mt.2.1 pc = .ok (.aaload, 1) ∧ pc + 1 = n) (hk : zkd sh a = (15, m9)) (hm : Nat.ble m9 100000 = true) (hb : 0 ≤ b ∧ b < m9) (kk : zV P mt sh u n L ((2, mem a b) :: st) mem Q) : zV P mt sh u pc L ((0, b) :: (2, a) :: st) mem Q := by
  intro X p l ev s m args below meth cq Z hP C R H locs ls hH hl hL
  rw [← hd.2] at kk
  obtain ⟨i', rfl, h2, h3, h4⟩ := zat (X := X) (mem := mem) hk (by show 15 < 99; omega)
  obtain ⟨g1, g2⟩ := i32_idx hb.1 hb.2 hm
  have h5 := kk X p l ev s m args below meth cq Z hP C R H locs ls hH hl hL
  rw [List.map_cons] at h5
  rw [List.map_cons, List.map_cons, h4]
  refine va_aldq (D := (X.2.2.1, X.2.2.2.1)) (cl := vwCl) C.1 C.2.1 C.2.2.2.2.2.2.2.1.1 hH.1 i' 3 (h3.trans rfl) rfl g1 hd.1 ?_
  dsimp only
  rw [g2]
  exact h5
theorem zV_ald16 {m9 : Nat} (hd : decode mt.2.1 pc = .ok (.aaload, 1) ∧ pc + 1 = n) (hk : zkd sh a = (16, m9)) (hm : Nat.ble m9 100000 = true) (hb : 0 ≤ b ∧ b < m9) (kk : zV P mt sh u n L ((2, mem a b) :: st) mem Q) : zV P mt sh u pc L ((0, b) :: (2, a) :: st) mem Q := by
  intro X p l ev s m args below meth cq Z hP C R H locs ls hH hl hL
  rw [← hd.2] at kk
  obtain ⟨i', rfl, h2, h3, h4⟩ := zat (X := X) (mem := mem) hk (by show 16 < 99; omega)
  obtain ⟨g1, g2⟩ := i32_idx hb.1 hb.2 hm
  have h5 := kk X p l ev s m args below meth cq Z hP C R H locs ls hH hl hL
  rw [List.map_cons] at h5
  rw [List.map_cons, List.map_cons, h4]
  refine va_aldq (D := (X.2.2.1, X.2.2.2.1)) (cl := vwCl) C.1 C.2.1 C.2.2.2.2.2.2.2.1.1 hH.1 i' 4 (h3.trans rfl) rfl g1 hd.1 ?_
  dsimp only
  rw [g2]
  exact h5
theorem zup_upd {α : Type} (g : Int → α) (mem : zMem) (i : Nat) (k v : Int) (kn : Nat) (hk : (kn : Int) = k) : (fun j : Nat => g (zup mem (i : Int) k v i j)) = (fun j : Nat => if j = kn then g v else g (mem i j)) := by
  funext j
  unfold zup
  by_cases h : j = kn
  · subst h
    rw [if_pos ⟨rfl, hk⟩, if_pos rfl]
  · rw [if_neg (by omega), if_neg h]
theorem zV_iast {m9 : Nat} {x : Int} (hd : decode mt.2.1 pc = .ok (.iastore, 1) ∧ pc + 1 = n) (hk : zkd sh a = (12, m9)) (hm : Nat.ble m9 100000 = true) (hb : 0 ≤ b ∧ b < m9) (kk : zV P mt sh u n L st (zup mem a b x) Q) : zV P mt sh u pc L ((0, x) :: (0, b) :: (2, a) :: st) mem Q := by
  intro X p l ev s m args below meth cq Z hP C R H locs ls hH hl hL
  rw [← hd.2] at kk
  obtain ⟨i', rfl, h2, h3, h4⟩ := zat (X := X) (mem := mem) hk (by show 12 < 99; omega)
  obtain ⟨g1, g2⟩ := i32_idx hb.1 hb.2 hm
  rw [List.map_cons, List.map_cons, List.map_cons, h4]
  have hat := hH.1 i' _ (h3.trans rfl)
  have hat2 : H[X.2.1.size + i']? = some (arrV (X.2.2.2.2.1 12) m9 (fun k => .int (Int32.ofInt (mem i' k)))) := hat
  refine W.iast C.1 C.2.1 hat2 ((C.2.2.2.2.2.2.2.1.1.2 0 _ rfl).1 m9 _) (fun q => by cases q) (by rw [arrV_size]; exact g1) rfl rfl hd.1 fun H1 e1 z oq => ?_
  refine kk X p l ev s m args below meth cq Z hP C R H1 _ ls (zH_set (e := zE X (zup mem i' b x) i' (12, m9)) hH h2 rfl (zup_o mem i' b x) ?_ z oq) (zlo_put hl) hL
  show H1[X.2.1.size + i']? = some (arrV (X.2.2.2.2.1 12) m9 (fun k => .int (Int32.ofInt (zup mem i' b x i' k))))
  rw [e1, arrV_store]
  congr 2
  rw [zup_upd (fun y => Value.int (Int32.ofInt y)) mem i' b x _ g2]
  funext q
  by_cases hq : q = (Int32.ofInt b).toNatClampNeg
  · subst hq; simp [updV]; try rfl
  · simp [updV, hq]; try rfl
theorem zV_last {m9 : Nat} {x : Int} (hd : decode mt.2.1 pc = .ok (.lastore, 1) ∧ pc + 1 = n) (hk : zkd sh a = (13, m9)) (hm : Nat.ble m9 100000 = true) (hb : 0 ≤ b ∧ b < m9) (kk : zV P mt sh u n L st (zup mem a b x) Q) : zV P mt sh u pc L ((1, x) :: (0, b) :: (2, a) :: st) mem Q := by
  intro X p l ev s m args below meth cq Z hP C R H locs ls hH hl hL
  rw [← hd.2] at kk
  obtain ⟨i', rfl, h2, h3, h4⟩ := zat (X := X) (mem := mem) hk (by show 13 < 99; omega)
  obtain ⟨g1, g2⟩ := i32_idx hb.1 hb.2 hm
  rw [List.map_cons, List.map_cons, List.map_cons, h4]
  have hat := hH.1 i' _ (h3.trans rfl)
  have hat2 : H[X.2.1.size + i']? = some (arrV (X.2.2.2.2.1 13) m9 (fun k => .long (Int64.ofInt (mem i' k)))) := hat
  refine W.last C.1 C.2.1 hat2 ((C.2.2.2.2.2.2.2.1.1.2 1 _ rfl).1 m9 _) (fun q => by cases q) (by rw [arrV_size]; exact g1) rfl rfl hd.1 fun H1 e1 z oq => ?_
  refine kk X p l ev s m args below meth cq Z hP C R H1 _ ls (zH_set (e := zE X (zup mem i' b x) i' (13, m9)) hH h2 rfl (zup_o mem i' b x) ?_ z oq) (zlo_put hl) hL
  show H1[X.2.1.size + i']? = some (arrV (X.2.2.2.2.1 13) m9 (fun k => .long (Int64.ofInt (zup mem i' b x i' k))))
  rw [e1, arrV_store]
  congr 2
  rw [zup_upd (fun y => Value.long (Int64.ofInt y)) mem i' b x _ g2]
  funext q
  by_cases hq : q = (Int32.ofInt b).toNatClampNeg
  · subst hq; simp [updV]; try rfl
  · simp [updV, hq]; try rfl
theorem zV_zast {m9 : Nat} {x : Int} (hd : decode mt.2.1 pc = .ok (.bastore, 1) ∧ pc + 1 = n) (hk : zkd sh a = (14, m9)) (hm : Nat.ble m9 100000 = true) (hb : 0 ≤ b ∧ b < m9) (hx : x = 0 ∨ x = 1) (kk : zV P mt sh u n L st (zup mem a b x) Q) : zV P mt sh u pc L ((0, x) :: (0, b) :: (2, a) :: st) mem Q := by
  intro X p l ev s m args below meth cq Z hP C R H locs ls hH hl hL
  rw [← hd.2] at kk
  obtain ⟨i', rfl, h2, h3, h4⟩ := zat (X := X) (mem := mem) hk (by show 14 < 99; omega)
  obtain ⟨g1, g2⟩ := i32_idx hb.1 hb.2 hm
  rw [List.map_cons, List.map_cons, List.map_cons, h4]
  have hat := hH.1 i' _ (h3.trans rfl)
  have hat2 : H[X.2.1.size + i']? = some (arrV (X.2.2.2.2.1 14) m9 (fun k => .int (Int32.ofInt (mem i' k)))) := hat
  refine W.zast C.1 C.2.1 hat2 ((C.2.2.2.2.2.2.2.1.1.2 2 _ rfl).1 m9 _) (fun q => by cases q) (by rw [arrV_size]; exact g1) rfl rfl hd.1 fun H1 e1 z oq => ?_
  have hnar : narrow .boolean (.int (Int32.ofInt x)) = .int (Int32.ofInt x) := by rcases hx with rfl | rfl <;> rfl
  rw [hnar] at e1
  refine kk X p l ev s m args below meth cq Z hP C R H1 _ ls (zH_set (e := zE X (zup mem i' b x) i' (14, m9)) hH h2 rfl (zup_o mem i' b x) ?_ z oq) (zlo_put hl) hL
  show H1[X.2.1.size + i']? = some (arrV (X.2.2.2.2.1 14) m9 (fun k => .int (Int32.ofInt (zup mem i' b x i' k))))
  rw [e1, arrV_store]
  congr 2
  rw [zup_upd (fun y => Value.int (Int32.ofInt y)) mem i' b x _ g2]
  funext q
  by_cases hq : q = (Int32.ofInt b).toNatClampNeg
  · subst hq; simp [updV]; try rfl
  · simp [updV, hq]; try rfl
theorem zV_aast {m9 m8 ck : Nat} {x : Int} (kd t0 : Nat) (hkd : (kd = 15 ∧ t0 = 3 ∧ ck = 0) ∨ (kd = 16 ∧ t0 = 4 ∧ ck = 6)) (hd : decode mt.2.1 pc = .ok (.aastore, 1) ∧ pc + 1 = n) (hk : zkd sh a = (kd, m9)) (hm : Nat.ble m9 100000 = true) (hb : 0 ≤ b ∧ b < m9) (hx : zkd sh x = (ck, m8)) (kk : zV P mt sh u n L st (zup mem a b x) Q) : zV P mt sh u pc L ((2, x) :: (0, b) :: (2, a) :: st) mem Q := by
  intro X p l ev s m args below meth cq Z hP C R H locs ls hH hl hL
  rw [← hd.2] at kk
  have hkd9 : kd < 99 := by omega
  have hck : ck < 12 := by omega
  obtain ⟨i', rfl, h2, h3, h4⟩ := zat (X := X) (mem := mem) hk hkd9
  obtain ⟨x', rfl, x2, x3, x4⟩ := zat (X := X) (mem := mem) hx (by show ck < 99; omega)
  obtain ⟨g1, g2⟩ := i32_idx hb.1 hb.2 hm
  rw [List.map_cons, List.map_cons, List.map_cons, h4, x4]
  have hE : ∀ mem : zMem, zE X mem i' (kd, m9) = .inl (X.2.2.2.2.1 kd, m9, .inr (.inr (.inr (.inr (fun k => zro X (mem i' k)))))) := by
    intro mem
    rcases hkd with ⟨rfl, -, -⟩ | ⟨rfl, -, -⟩ <;> rfl
  rw [hE] at h3
  have hat : H[X.2.1.size + i']? = some (arrV (X.2.2.2.2.1 kd) m9 (fun k => va_rf (zro X (mem i' k)))) := hH.1 i' _ h3
  rw [zE_cls X mem x' ck m8 hck] at x3
  obtain ⟨r', hr', cellV, v1, v2, v3, -⟩ := hH.1 x' _ x3
  have hK := C.2.2.2.2.2.2.2.1.1
  obtain ⟨w1, w2, w3, w4, w5⟩ := zcl_ok ck hck
  have hcls := (hK.1 ck _ w1).2
  have ht : (ztys X)[t0]? = some (X.2.2.2.2.1 kd, .object (zcl ck).1) := by
    rcases hkd with ⟨rfl, rfl, rfl⟩ | ⟨rfl, rfl, rfl⟩ <;> rfl
  obtain ⟨kA, comp, k1, k2, k3, -⟩ := (hK.2 t0 _ ht).2
  have hcomp : comp = X.2.2.1 ck := Option.some.inj (k3.symm.trans hcls.1)
  subst hcomp
  obtain ⟨kC, hkC, -⟩ := hcls.2
  have h0 : ¬ Int32.ofInt b < 0 := fun q => g1 (Or.inl q)
  have hlt : (Int32.ofInt b).toNatClampNeg < m9 := Nat.not_le.mp fun q => g1 (Or.inr q)
  refine W.aast C.1 C.2.1 hat (fun q h => by cases h) (fun h => by cases h) k1 k2 rfl hkC ⟨h0, by rw [arrV_size]; exact hlt⟩ v1 (fun q h => by rw [v3] at h; cases h) (by rw [v2]; exact hkC) (by rw [v2]; exact va_assign hcls) rfl rfl hd.1 fun H1 e1 z oq => ?_
  refine kk X p l ev s m args below meth cq Z hP C R H1 _ ls (zH_set (e := zE X (zup mem i' b x') i' (kd, m9)) hH h2 rfl (zup_o mem i' b x') ?_ z oq) (zlo_put hl) hL
  rw [hE]
  show H1[X.2.1.size + i']? = some (arrV (X.2.2.2.2.1 kd) m9 (fun k => va_rf (zro X (zup mem i' b x' i' k))))
  rw [e1, arrV_store]
  congr 2
  rw [zup_upd (fun y => va_rf (zro X y)) mem i' b x' _ g2]
  funext q
  by_cases hq : q = (Int32.ofInt b).toNatClampNeg
  · subst hq; simp [updV, zro_nat, va_rf]
  · simp [updV, hq]
theorem zV_alen {m9 kd : Nat} (hd : decode mt.2.1 pc = .ok (.arraylength, 1) ∧ pc + 1 = n) (hk : zkd sh a = (12, m9)) (kk : zV P mt sh u n L ((0, (m9 : Int)) :: st) mem Q) : zV P mt sh u pc L ((2, a) :: st) mem Q := by
  intro X p l ev s m args below meth cq Z hP C R H locs ls hH hl hL
  rw [← hd.2] at kk
  obtain ⟨i', rfl, h2, h3, h4⟩ := zat (X := X) (mem := mem) hk (by show 12 < 99; omega)
  have h5 := kk X p l ev s m args below meth cq Z hP C R H locs ls hH hl hL
  rw [List.map_cons] at h5
  rw [List.map_cons, h4]
  have hat : H[X.2.1.size + i']? = some (arrV (X.2.2.2.2.1 12) m9 (fun k => .int (Int32.ofInt (mem i' k)))) := hH.1 i' _ (h3.trans rfl)
  refine W.alen (n := Int32.ofInt (m9 : Int)) C.1 C.2.1 hat ((C.2.2.2.2.2.2.2.1.1.2 0 _ rfl).1 m9 _) ?_ rfl rfl hd.1 h5
  rw [arrV_size, Int32.ofInt_eq_ofNat]
/-- the script -/
theorem zV_slen {m9 : Nat} (hd : decode mt.2.1 pc = .ok (.arraylength, 1) ∧ pc + 1 = n) (hS : ∀ X, P X → X.2.2.2.2.2.1 = m9) (kk : zV P mt sh u n L ((0, (m9 : Int)) :: st) mem Q) : zV P mt sh u pc L ((2, -2) :: st) mem Q := by
  intro X p l ev s m args below meth cq Z hP C R H locs ls hH hl hL
  rw [← hd.2] at kk
  have h5 := kk X p l ev s m args below meth cq Z hP C R H locs ls hH hl hL
  rw [List.map_cons] at h5
  rw [List.map_cons, zcV_scr]
  obtain ⟨⟨scr, x1, x2, x3, x4, x5⟩, x6⟩ := C.2.2.2.2.2.2.2.1.2.1
  refine W.alen (n := Int32.ofInt (m9 : Int)) C.1 C.2.1 (by rw [hH.2.2 _ x6]; exact x1) x2 ?_ rfl rfl hd.1 h5
  rw [x4, hS X hP, Int32.ofInt_eq_ofNat]
theorem zV_sld {m9 : Nat} {xs : Nat → Int32} (hd : decode mt.2.1 pc = .ok (.iaload, 1) ∧ pc + 1 = n) (hS : ∀ X, P X → X.2.2.2.2.2.1 = m9 ∧ X.2.2.2.2.2.2 = xs) (hm : m9 ≤ 100000) (hb : 0 ≤ b ∧ b < m9) (kk : zV P mt sh u n L ((0, (xs b.toNat).toInt) :: st) mem Q) : zV P mt sh u pc L ((0, b) :: (2, -2) :: st) mem Q := by
  intro X p l ev s m args below meth cq Z hP C R H locs ls hH hl hL
  rw [← hd.2] at kk
  have h5 := kk X p l ev s m args below meth cq Z hP C R H locs ls hH hl hL
  rw [List.map_cons] at h5
  rw [List.map_cons, List.map_cons, zcV_scr]
  obtain ⟨⟨scr, x1, x2, x3, x4, x5⟩, x6⟩ := C.2.2.2.2.2.2.2.1.2.1
  obtain ⟨s1, s2⟩ := hS X hP
  obtain ⟨g1, g2⟩ := i32_idx hb.1 hb.2 (Nat.ble_eq.mpr hm)
  have hlt : (Int32.ofInt b).toNatClampNeg < m9 := Nat.not_le.mp fun q => g1 (Or.inr q)
  have hbn : (Int32.ofInt b).toNatClampNeg = b.toNat := by omega
  refine W.iald (v := .int (xs b.toNat)) C.1 C.2.1 (by rw [hH.2.2 _ x6]; exact x1) x2 x3 (by rw [x4, s1]; exact g1) ?_ rfl rfl hd.1 ?_
  · rw [x5 _ (by rw [s1]; exact hlt), s2, hbn]
  · have e : zcV X (0, (xs b.toNat).toInt) = .int (xs b.toNat) := by show Value.int (Int32.ofInt _) = _; rw [Int32.ofInt_toInt]
    rw [e] at h5
    exact h5
def zblk (c : Nat) (k : Int) : Int := if ztag (zty c k.toNat) = 2 then -1 else 0
theorem zty_nf : ∀ c, c < 12 → ∀ k, k < zN c → zty c k ≠ .float ∧ zty c k ≠ .double := by decide +kernel
theorem zdef (X : zCT) (ty : FieldType) (h : ty ≠ .float ∧ ty ≠ .double) : defaultValue ty = zcV X (ztag ty, if ztag ty = 2 then -1 else 0) := by cases ty <;> first | rfl | exact absurd rfl h.1 | exact absurd rfl h.2
def zupA (mem : zMem) (a : Int) (f : Int → Int) : zMem := fun a' k' => if a' = a then f k' else mem a' k'
theorem zW_new (X : zCT) (sh : zSh) (mem : zMem) (f : Int → Int) (q : Nat × Nat) : zW X (sh ++ [q]) (zupA mem (sh.length : Int) f) = zW X sh mem ++ [(X.2.1.size + sh.length, zE X (fun _ => f) sh.length q)] := by
  rw [zW_app]
  have e1 : zE X (zupA mem (sh.length : Int) f) sh.length q = zE X (fun _ => f) sh.length q := by
    unfold zE zupA
    simp
  rw [e1]
  congr 1
  apply List.ext_getElem?
  intro j
  rw [zW_get, zW_get]
  cases hs : sh[j]? with
  | none => rfl
  | some p =>
    have hj : j < sh.length := (List.getElem?_eq_some_iff.mp hs).1
    have e : zupA mem (sh.length : Int) f (j : Int) = mem j := by
      funext k
      unfold zupA
      rw [if_neg (by omega)]
    simp only [Option.map_some]
    unfold zE
    rw [e]
theorem zH_new {X : zCT} {sh : zSh} {mem : zMem} {H H1 : Heap} {q : Nat × Nat} {f : Int → Int} (hH : zH X sh mem H) (h1 : va_at (X.2.2.1, X.2.2.2.1) vwCl (X.2.1.size + sh.length, zE X (fun _ => f) sh.length q) H1) (z : H1.size = H.size + 1) (oq : ∀ x : Nat, x < H.size → H1[x]? = H[x]?) : zH X (sh ++ [q]) (zupA mem (sh.length : Int) f) H1 := by
  obtain ⟨hP, hs, hb⟩ := hH
  refine ⟨?_, by rw [z, hs]; simp; omega, fun x hx => by rw [oq x (by omega)]; exact hb x hx⟩
  rw [zW_new]
  refine va_P.app (hP.kept fun k x hx => oq x.1 ((hP k x hx).lt)) (fun k x hx => ?_)
  have hz : k < 1 := (List.getElem?_eq_some_iff.mp hx).1
  rw [show k = 0 by omega] at hx
  cases hx
  exact h1
/-- a class's entry of the pool -/
def zCk (own : String) (i c : Nat) : Prop := c < 12 ∧ Cond.classLink own i (zcl c).1 ∈ zwsG ∧ Cond.instantiable (zcl c).1 (zN c) ∈ zwsG ∧ Cond.initialized (zcl c).1 ∈ zwsG
theorem zV_new {i c : Nat} {nI : Int} (hd : decode mt.2.1 pc = .ok (.new i, 3) ∧ pc + 3 = n) (hc : zCk mt.1.cls i c) (hn : (sh.length : Int) = nI) (hu : u.1 + 1 ≤ (zrm mt).cells ∧ u.2 + zN c ≤ (zrm mt).slots) (kk : zV P mt (sh ++ [(c, 0)]) (u.1 + 1, u.2 + zN c) n L ((2, nI) :: st) (zupA mem nI (zblk c)) Q) : zV P mt sh u pc L st mem Q := by
  intro X p l ev s m args below meth cq Z hP C R H locs ls hH hl hL
  rw [← hd.2] at kk
  subst hn
  obtain ⟨hc12, hcl, hin, hini⟩ := hc
  obtain ⟨w1, w2, w3, w4, w5⟩ := zcl_ok c hc12
  have hts := C.2.2.2.2.2.2.1
  have hKn := C.2.2.2.2.2.2.2.1.1.1 c _ w1
  refine W.newcK C.1 C.2.1 C.2.2.2.2.2.1 (hts _ hcl) (hts _ hin) (hts _ hini) rfl hd.1 hu.1 hu.2 hKn.2.1 hH.2.1 fun H1 kC hkC e1 z1 o1 => ?_
  have h5 := kk X p l ev s m args below meth cq Z hP C R H1 locs ls (zH_new hH ?_ (by rw [z1, hH.2.1]) (fun x hx => o1 x (by rw [← hH.2.1]; exact hx))) hl hL
  · rw [List.map_cons, zcV_ref] at h5
    exact h5
  · rw [zE_cls X _ _ c 0 hc12]
    refine ⟨_, w1, (u_born (zty c) hts w2 hKn hkC e1 w3).to fun j hj => ?_⟩
    have hj' : j < zN c := by rw [w5]; exact hj
    unfold vp_V
    rw [List.getD_eq_getElem?_getD, List.getElem?_map, List.getElem?_range hj']
    show defaultValue (zty c j) = zcV X (ztag (zty c j), zblk c j)
    unfold zblk
    simp only [Int.toNat_natCast]
    exact zdef X (zty c j) (zty_nf c hc12 j hj')
theorem zV_newa {kd m9 : Nat} {nI : Int} (aty : ArrayType) (ty : FieldType) (hk : (kd = 12 ∧ aty = .int ∧ ty = .int) ∨ (kd = 13 ∧ aty = .long ∧ ty = .long) ∨ (kd = 14 ∧ aty = .boolean ∧ ty = .boolean)) (hd : decode mt.2.1 pc = .ok (.newarray aty, 2) ∧ pc + 2 = n) (hw : Cond.arrayClass ty ∈ zwsG) (hm : (m9 : Int) = a ∧ Nat.ble m9 100000 = true) (hn : (sh.length : Int) = nI) (hu : u.1 + 1 ≤ (zrm mt).cells ∧ u.2 + m9 ≤ (zrm mt).slots) (kk : zV P mt (sh ++ [(kd, m9)]) (u.1 + 1, u.2 + m9) n L ((2, nI) :: st) (zupA mem nI (fun _ => 0)) Q) : zV P mt sh u pc L ((0, a) :: st) mem Q := by
  intro X p l ev s m args below meth cq Z hP C R H locs ls hH hl hL
  rw [← hd.2] at kk
  subst hn
  obtain ⟨rfl, hm9⟩ := hm
  have hm9' := Nat.le_of_ble_eq_true hm9
  have hts := C.2.2.2.2.2.2.1
  have hty : newarray.typeOf aty = ty := by rcases hk with ⟨-, rfl, rfl⟩ | ⟨-, rfl, rfl⟩ | ⟨-, rfl, rfl⟩ <;> rfl
  have hcl : (Int32.ofInt (m9 : Int)).toNatClampNeg = m9 := by
    rw [Int32.toNatClampNeg_ofInt_of_le (by omega) (by omega)]
    omega
  have hcb : componentBytes ty ≤ 8 := by rcases hk with ⟨-, -, rfl⟩ | ⟨-, -, rfl⟩ | ⟨-, -, rfl⟩ <;> decide
  refine va_newaK (N := m9) (h := X.2.1.size + sh.length) C.1 C.2.1 (by rw [hty]; exact hts _ hw) rfl hd.1 rfl ?_ hcl ?_ hu.1 hu.2 hH.2.1 fun H1 cA e1 z1 o1 hAr hNm => ?_
  · show ¬ Int32.ofInt (m9 : Int) < 0
    rw [Int32.lt_iff_toInt_lt, i32_toInt ⟨by omega, by omega⟩, Int32.toInt_zero]
    omega
  · rw [hty]
    have := Nat.mul_le_mul hm9' hcb
    omega
  rw [hty] at e1 hAr hNm
  have hK := C.2.2.2.2.2.2.2.1.1
  have hcA : X.2.2.2.2.1 kd = cA := by
    rcases hk with ⟨rfl, -, rfl⟩ | ⟨rfl, -, rfl⟩ | ⟨rfl, -, rfl⟩
    · exact Option.some.inj ((hK.2 0 _ rfl).2.symm.trans hNm)
    · exact Option.some.inj ((hK.2 1 _ rfl).2.symm.trans hNm)
    · exact Option.some.inj ((hK.2 2 _ rfl).2.symm.trans hNm)
  have h5 := kk X p l ev s m args below meth cq Z hP C R H1 locs ls (zH_new hH ?_ (by rw [z1, hH.2.1]) (fun x hx => o1 x (by rw [← hH.2.1]; exact hx))) hl hL
  · rw [List.map_cons, zcV_ref] at h5
    exact h5
  · rcases hk with ⟨rfl, -, rfl⟩ | ⟨rfl, -, rfl⟩ | ⟨rfl, -, rfl⟩
    · show H1[_]? = some (arrV (X.2.2.2.2.1 12) m9 (fun _ => .int (Int32.ofInt 0)))
      rw [hcA, e1]; rfl
    · show H1[_]? = some (arrV (X.2.2.2.2.1 13) m9 (fun _ => .long (Int64.ofInt 0)))
      rw [hcA, e1]; rfl
    · show H1[_]? = some (arrV (X.2.2.2.2.1 14) m9 (fun _ => .int (Int32.ofInt 0)))
      rw [hcA, e1]; rfl
theorem zV_anew {kd m9 i : Nat} {nI : Int} (Cn : String) (hk : (kd = 15 ∧ Cn = "CellPlane$Curve") ∨ (kd = 16 ∧ Cn = "CellPlane$Root")) (hd : decode mt.2.1 pc = .ok (.anewarray i, 3) ∧ pc + 3 = n) (hw : Cond.classLink mt.1.cls i Cn ∈ zwsG) (hm : (m9 : Int) = a ∧ Nat.ble m9 100000 = true) (hn : (sh.length : Int) = nI) (hu : u.1 + 1 ≤ (zrm mt).cells ∧ u.2 + m9 ≤ (zrm mt).slots) (kk : zV P mt (sh ++ [(kd, m9)]) (u.1 + 1, u.2 + m9) n L ((2, nI) :: st) (zupA mem nI (fun _ => -1)) Q) : zV P mt sh u pc L ((0, a) :: st) mem Q := by
  intro X p l ev s m args below meth cq Z hP C R H locs ls hH hl hL
  rw [← hd.2] at kk
  subst hn
  obtain ⟨rfl, hm9⟩ := hm
  have hm9' := Nat.le_of_ble_eq_true hm9
  have hts := C.2.2.2.2.2.2.1
  have hcl : (Int32.ofInt (m9 : Int)).toNatClampNeg = m9 := by
    rw [Int32.toNatClampNeg_ofInt_of_le (by omega) (by omega)]
    omega
  have hover : (Cond.arrayOver (.object Cn)).before args s = true := by
    rcases hk with ⟨-, rfl⟩ | ⟨-, rfl⟩
    · exact va_AO.use C.2.2.2.2.2.2.2.1.2.2.2.1
    · exact va_AO.use C.2.2.2.2.2.2.2.1.2.2.2.2
  refine W.anew C.1 C.2.1 C.2.2.2.2.2.1 (hts _ hw) hover rfl hd.1 rfl ?_ (by rw [hcl]; omega) hu.1 (by rw [hcl]; exact hu.2) fun cA kA comp f1 f2 f3 f4 => ?_
  · show ¬ Int32.ofInt (m9 : Int) < 0
    rw [Int32.lt_iff_toInt_lt, i32_toInt ⟨by omega, by omega⟩, Int32.toInt_zero]
    omega
  rw [hcl]
  have hK := C.2.2.2.2.2.2.2.1.1
  have hcA : X.2.2.2.2.1 kd = cA := by
    rcases hk with ⟨rfl, rfl⟩ | ⟨rfl, rfl⟩
    · obtain ⟨_, _, _, _, _, h9⟩ := (hK.2 3 _ rfl).2
      exact Option.some.inj (h9.symm.trans f1)
    · obtain ⟨_, _, _, _, _, h9⟩ := (hK.2 4 _ rfl).2
      exact Option.some.inj (h9.symm.trans f1)
  have h5 := kk X p l ev s m args below meth cq Z hP C R (H.push ({ cls := cA, slots := Array.replicate m9 .null, vm := .none } : Cell)) locs ls (zH_new hH ?_ (by rw [Array.size_push]) (fun x hx => by rw [Array.getElem?_push, if_neg (Nat.ne_of_lt hx)])) hl hL
  · rw [List.map_cons, zcV_ref, ← hH.2.1] at h5
    exact h5
  · have e1 : (H.push ({ cls := cA, slots := Array.replicate m9 .null, vm := .none } : Cell))[X.2.1.size + sh.length]? = some (arrV cA m9 (fun _ => .null)) := by rw [← hH.2.1, Array.getElem?_push_size, ← arrV_new]
    rcases hk with ⟨rfl, -⟩ | ⟨rfl, -⟩
    · show _ = some (arrV (X.2.2.2.2.1 15) m9 (fun _ => .null))
      rw [hcA, e1]
    · show _ = some (arrV (X.2.2.2.2.1 16) m9 (fun _ => .null))
      rw [hcA, e1]
end zHEAP
end
section
/-! calls -/
def zrk (mt mt' : zMT) (u : Nat × Nat) : Bool := Nat.ble (mt'.2.2.2.2.1 + 1) mt.2.2.2.2.1 && (Nat.ble (8 + (mt'.2.2.1 + 11) + mt'.2.2.2.2.2.1) mt.2.2.2.2.2.1 && (Nat.ble (u.1 + mt'.2.2.2.2.2.2.1) mt.2.2.2.2.2.2.1 && Nat.ble (u.2 + mt'.2.2.2.2.2.2.2) mt.2.2.2.2.2.2.2))
theorem zrk_spec {mt mt' : zMT} {u : Nat × Nat} (h : zrk mt mt' u = true) : ((zrm mt').frames + 1 ≤ (zrm mt).frames ∧ 8 + (mt'.2.2.1 + 11) + (zrm mt').locals ≤ (zrm mt).locals) ∧ (u.1 + (zrm mt').cells ≤ (zrm mt).cells ∧ u.2 + (zrm mt').slots ≤ (zrm mt).slots) := by
  unfold zrk at h
  simp only [Bool.and_eq_true] at h
  exact ⟨⟨Nat.le_of_ble_eq_true h.1, Nat.le_of_ble_eq_true h.2.1⟩, Nat.le_of_ble_eq_true h.2.2.1, Nat.le_of_ble_eq_true h.2.2.2⟩
def zcs : List zAV → Nat
  | [] => 0
  | v :: l => (if v.1 = 1 then 2 else 1) + zcs l
theorem zcs_spec (X : zCT) (st : List zAV) : ((st.map (zcV X)).map fun v => v.category).sum = zcs st := by
  induction st with
  | nil => rfl
  | cons v l ih =>
    have hc := zcat X v
    rw [List.map_cons, List.map_cons, List.sum_cons, ih]
    show _ = (if v.1 = 1 then 2 else 1) + zcs l
    congr 1
    by_cases h : v.1 = 1
    · rw [if_pos h, hc.mpr h]
    · rw [if_neg h]
      rcases lv_cat (zcV X v) with q | q
      · exact q
      · exact absurd (hc.mp q) h
/-- what the tables say of a method -/
def zMk (mt : zMT) (n : Nat) : Prop := Cond.initialized mt.1.cls ∈ zwsG ∧ Cond.code mt.1 mt.2.1 mt.2.2.1 mt.2.2.2.1 ∈ zwsG ∧ (mt.1.cls ≠ "java/lang/invoke/MethodHandle" ∧ mt.1.cls ≠ "java/lang/invoke/VarHandle" ∧ (parseMethodDescriptor mt.1.desc).map (fun d => d.parameters.length) = some n)
def zMs (mt : zMT) (n : Nat) : Prop := zMk mt n ∧ Cond.static mt.1 ∈ zwsG
def zMv (mt : zMT) (n c : Nat) : Prop := zMk mt n ∧ Cond.instanceMethod mt.1 ∈ zwsG ∧ Cond.selects mt.1.cls mt.1 mt.1 ∈ zwsG ∧ c < 12 ∧ (zcl c).1 = mt.1.cls
def zMi (mt : zMT) (n : Nat) : Prop := zMk mt n ∧ Cond.instanceMethod mt.1 ∈ zwsG ∧ mt.1.name = "<init>" ∧ mt.2.2.2.1 = none
theorem zPc_blind (X : zCT) (avs : List zAV) (sh : zSh) (mem : zMem) : FrameBlind (zPc X avs sh mem) := fun a U g mk q => ⟨q.1, zK_calling g mk a q.2.1, q.2.2⟩
theorem zGood (mt : zMT) {n : Nat} (h : zMk mt n) : GoodIn zwsG (zws mt) := zgood (fun w hw => by
  rcases List.mem_cons.mp hw with rfl | hw
  · exact h.2.1
  · exact hw)
section zCALL
variable {P : zCT → Prop} {mt mt' : zMT} {sh : zSh} {u : Nat × Nat} {pc n : Nat} {L L' : List (Option zAV)} {st st0 : List zAV} {mem : zMem} {Q Q' : zQT} {a b : Int} {avs : List zAV}
theorem zV_back {X : zCT} {p : Program} {l : Launch} {ev : Env} {s : State} {m : MethodId} {args : Array Value} {below : List Frame} {meth : Method} {c : Code} {Z : State → Prop} {H : Heap} {locs : List Loc} {ls : Array Slot} {u' : Nat × Nat} {a9 : Array Value} {st9 : List Value} (hu : u' = (u.1 + (zrm mt').cells, u.2 + (zrm mt').slots)) (hP : P X) (C : zC mt X p s m args meth c) (R : zR mt X Q p l ev s m args below meth c Z) (hl : zlo X locs) (hL : zL X ls mt.2.2.1 L)
    (hr : va_Run p l ev (zrm mt) s m args below meth c H locs u.1 u.2 (zrm mt').cells (zrm mt').slots (F0 m pc ls st9) (st.map (zcV X)) (zQc X Q' a9) (fun q => X.2.1.size ≤ q))
    (kk : ∀ r sh' mem', Q' r sh' mem' → zV P mt sh' u' (pc + 3) L (r.toList ++ st) mem' Q) : W p l ev (zrm mt) s m args below meth c H locs u.1 u.2 Z (F0 m pc ls st9) := by
  intro T hT XT
  obtain ⟨v, st₀, t, T', L9, h0, X', hL9, e1, e2, ⟨r, sh', mem', hv, hq, hh⟩, hgo⟩ := hr T hT XT
  cases hv
  have h5 := kk r sh' mem' hq X p l ev s m args below meth c Z hP C R T'.heap (locs ++ L9) ls (by rw [e1]; exact hh) (fun q hq => by
    rcases List.mem_append.mp hq with h | h
    · exact hl q h
    · exact hL9 q h) hL
  subst hu
  obtain ⟨t2, a1, b1⟩ := h5 T' rfl X'
  refine ⟨t2, hgo t2 ?_, b1⟩
  have e : (r.toList ++ st).map (zcV X) = (r.map (zcV X)).toList ++ st.map (zcV X) := by cases r <;> simp
  rw [e] at a1
  exact a1
theorem zV_invs {i : Nat} {u' : Nat × Nat} (mt' : zMT) (avs : List zAV) (hd : decode mt.2.1 pc = .ok (.invokestatic i, 3) ∧ pc + 3 = n) (hl1 : Cond.methodLink mt.1.cls i mt'.1 ∈ zwsG) (hm : zMs mt' avs.length) (hst : avs.reverse ++ st = st0) (hrk : zrk mt mt' u = true) (hcs : Nat.ble (zcs st) 8 = true) (hu : u' = (u.1 + (zrm mt').cells, u.2 + (zrm mt').slots)) (sp : zSp mt' avs sh mem Q')
    (kk : ∀ r sh' mem', Q' r sh' mem' → zV P mt sh' u' n L (r.toList ++ st) mem' Q) : zV P mt sh u pc L st0 mem Q := by
  intro X p l ev s m args below meth c Z hP C R H locs ls hH hl hL
  rw [← hd.2] at kk
  obtain ⟨hR, hf⟩ := zrk_spec hrk
  have hts := C.2.2.2.2.2.2.1
  have cb : CallB (zrm mt) s args mt.1.cls i mt'.1 mt'.2.1 mt'.2.2.1 mt'.2.2.2.1 (zws mt') (zrm mt') (zrm mt').cells (zrm mt').slots avs.length :=
    callB_of avs.length hts (zGood mt' hm.1) rfl rfl rfl (hts _ hm.1.1) (hts _ hl1) hm.1.2.2 hR
  refine zV_back hu hP C R hl hL (va_runS (As := avs.map (zcV X)) (rest := st.map (zcV X)) ⟨C.1, C.2.1, C.2.2.1, C.2.2.2.2.2.1, hts⟩ (sp l X) ⟨cb, hts _ hm.2⟩ ⟨zPc_blind X avs sh mem, fun U hU hW => ⟨rfl, zK_moved hW C.2.2.2.2.2.2.2.1, by rw [hU]; exact hH⟩⟩ rfl (by simp) hL.1 ?_ ?_ hd.1 hf) kk
  · show st0.map (zcV X) = _
    rw [← hst]; simp
  · exact lv_room (by rw [zcs_spec]; exact Nat.le_of_ble_eq_true hcs)
theorem zV_invv {i c m9 : Nat} {u' : Nat × Nat} (mt' : zMT) (avs : List zAV) (hd : decode mt.2.1 pc = .ok (.invokevirtual i, 3) ∧ pc + 3 = n) (hl1 : Cond.methodLink mt.1.cls i mt'.1 ∈ zwsG) (hm : zMv mt' avs.length c) (hk : zkd sh a = (c, m9)) (hst : avs.reverse ++ (2, a) :: st = st0) (hrk : zrk mt mt' u = true) (hcs : Nat.ble (zcs st) 8 = true) (hu : u' = (u.1 + (zrm mt').cells, u.2 + (zrm mt').slots)) (sp : zSp mt' ((2, a) :: avs) sh mem Q')
    (kk : ∀ r sh' mem', Q' r sh' mem' → zV P mt sh' u' n L (r.toList ++ st) mem' Q) : zV P mt sh u pc L st0 mem Q := by
  intro X p l ev s m args below meth cq Z hP C R H locs ls hH hl hL
  rw [← hd.2] at kk
  obtain ⟨hR, hf⟩ := zrk_spec hrk
  have hts := C.2.2.2.2.2.2.1
  obtain ⟨hm1, hm2, hm3, hc, hcn⟩ := hm
  obtain ⟨i', rfl, h2, h3, h4⟩ := zat (X := X) (mem := mem) hk (by show c < 99; omega)
  obtain ⟨w1, w2, w3, w4, w5⟩ := zcl_ok c hc
  rw [zE_cls X mem i' c m9 hc] at h3
  have cb : CallB (zrm mt) s args mt.1.cls i mt'.1 mt'.2.1 mt'.2.2.1 mt'.2.2.2.1 (zws mt') (zrm mt') (zrm mt').cells (zrm mt').slots avs.length :=
    callB_of avs.length hts (zGood mt' hm1) rfl rfl rfl (hts _ hm1.1) (hts _ hl1) hm1.2.2 hR
  have hrecv := va_recv C.2.2.2.2.2.2.2.1.1 hH.1 w1 h3
  rw [hcn] at hrecv
  refine zV_back hu hP C R hl hL (va_runV (C := mt'.1.cls) (b := X.2.1.size + i') (As := avs.map (zcV X)) (rest := st.map (zcV X)) ⟨C.1, C.2.1, C.2.2.1, C.2.2.2.2.2.1, hts⟩ (sp l X) ⟨cb, hts _ hm2, hts _ hm3⟩ ⟨zPc_blind X _ sh mem, hrecv, fun U hU hW => ⟨by rw [List.map_cons, h4], zK_moved hW C.2.2.2.2.2.2.2.1, by rw [hU]; exact hH⟩⟩ rfl (by simp) hL.1 ?_ ?_ hd.1 hf) kk
  · show st0.map (zcV X) = _
    rw [← hst]; simp [h4]
  · exact lv_room (by rw [zcs_spec]; exact Nat.le_of_ble_eq_true hcs)
theorem zV_invi {i c m9 : Nat} {u' : Nat × Nat} (mt' : zMT) (avs : List zAV) (hd : decode mt.2.1 pc = .ok (.invokespecial i, 3) ∧ pc + 3 = n) (hl1 : Cond.methodLink mt.1.cls i mt'.1 ∈ zwsG ∨ (mt.1.cls, i, mt'.1, "CellPlane") ∈ znest) (hm : zMi mt' avs.length) (hk : zkd sh a = (c, m9)) (hc : c < 12) (hst : avs.reverse ++ (2, a) :: st = st0) (hrk : zrk mt mt' u = true) (hcs : Nat.ble (zcs st) 8 = true) (hu : u' = (u.1 + (zrm mt').cells, u.2 + (zrm mt').slots)) (sp : zSp mt' ((2, a) :: avs) sh mem Q')
    (kk : ∀ r sh' mem', Q' r sh' mem' → zV P mt sh' u' n L (r.toList ++ st) mem' Q) : zV P mt sh u pc L st0 mem Q := by
  intro X p l ev s m args below meth cq Z hP C R H locs ls hH hl hL
  rw [← hd.2] at kk
  obtain ⟨hR, hf⟩ := zrk_spec hrk
  have hts := C.2.2.2.2.2.2.1
  obtain ⟨hm1, hm2, hm3, hm4⟩ := hm
  obtain ⟨i', rfl, h2, h3, h4⟩ := zat (X := X) (mem := mem) hk (by show c < 99; omega)
  have hG := zGood mt' hm1
  have hpc := zPc_blind X ((2, (i' : Int)) :: avs) sh mem
  have hpre : ∀ U : State, U.heap = H → s.WarmedH U.vm → zPc X ((2, (i' : Int)) :: avs) sh mem (Value.ref (X.2.1.size + i') :: avs.map (zcV X)).toArray U := fun U hU hW => ⟨by rw [List.map_cons, h4], zK_moved hW C.2.2.2.2.2.2.2.1, by rw [hU]; exact hH⟩
  have hsk : st0.map (zcV X) = (avs.map (zcV X)).reverse ++ .ref (X.2.1.size + i') :: st.map (zcV X) := by rw [← hst]; simp [h4]
  have hrm := lv_room (m := m) (pc := pc) (ls := ls) (rest := st0.map (zcV X)) (st := st.map (zcV X)) (by rw [zcs_spec]; exact Nat.le_of_ble_eq_true hcs)
  rcases hl1 with hl1 | hl1
  · have cb : CallB (zrm mt) s args mt.1.cls i mt'.1 mt'.2.1 mt'.2.2.1 none (zws mt') (zrm mt') (zrm mt').cells (zrm mt').slots avs.length :=
      callB_of avs.length hts hG (by unfold zws; rw [hm4]) rfl rfl (hts _ hm1.1) (hts _ hl1) hm1.2.2 hR
    exact zV_back hu hP C R hl hL (va_runI (b := X.2.1.size + i') (As := avs.map (zcV X)) (rest := st.map (zcV X)) ⟨C.1, C.2.1, C.2.2.1, C.2.2.2.2.2.1, hts⟩ (sp l X) ⟨cb, hm3, hts _ hm2⟩ ⟨hpc, hpre⟩ rfl (by simp) hL.1 hsk hrm hd.1 hf) kk
  · have cb : va_CN (zrm mt) s args mt.1.cls i mt'.1 "CellPlane" mt'.2.1 mt'.2.2.1 none (zws mt') (zrm mt') (zrm mt').cells (zrm mt').slots avs.length :=
      va_cnB avs.length hts hG (by unfold zws; rw [hm4]) rfl rfl (C.2.2.2.2.2.2.2.1.2.2.1 _ hl1) (hts _ hm1.1) hm1.2.2 hR
    exact zV_back hu hP C R hl hL (va_runIN (b := X.2.1.size + i') (As := avs.map (zcV X)) (rest := st.map (zcV X)) ⟨C.1, C.2.1, C.2.2.1, C.2.2.2.2.2.1, hts⟩ (sp l X) ⟨cb, hm3, hts _ hm2⟩ ⟨hpc, hpre⟩ rfl (by simp) hL.1 hsk hrm hd.1 hf) kk
theorem zV_obj {i c m9 : Nat} (hd : decode mt.2.1 pc = .ok (.invokespecial i, 3) ∧ pc + 3 = n) (hl1 : Cond.methodLink mt.1.cls i objectInit ∈ zwsG) (hl2 : Cond.instanceMethod objectInit ∈ zwsG) (hl3 : Cond.code objectInit ⟨#[0xb1]⟩ 1 none ∈ zwsG) (hk : zkd sh a = (c, m9)) (hc : c < 12) (hcs : Nat.ble (zcs st) 8 = true) (hrm : 1 ≤ (zrm mt).frames ∧ 20 ≤ (zrm mt).locals) (kk : zV P mt sh u n L st mem Q) : zV P mt sh u pc L ((2, a) :: st) mem Q := by
  intro X p l ev s m args below meth cq Z hP C R H locs ls hH hl hL
  rw [← hd.2] at kk
  have hts := C.2.2.2.2.2.2.1
  obtain ⟨i', rfl, h2, h3, h4⟩ := zat (X := X) (mem := mem) hk (by show c < 99; omega)
  have h5 := kk X p l ev s m args below meth cq Z hP C R H locs ls hH hl hL
  have hcs' := Nat.le_of_ble_eq_true hcs
  rw [List.map_cons, h4]
  refine W.objInit C.1 C.2.1 C.2.2.2.2.2.1 (hts _ hl1) (hts _ hl2) (hts _ hl3) rfl (hL.1.trans C.2.2.1.symm) rfl hd.1 hrm.1 ?_ h5
  have := lv_room (m := m) (pc := pc) (ls := ls) (rest := .ref (X.2.1.size + i') :: st.map (zcV X)) (st := st.map (zcV X)) (by rw [zcs_spec]; exact hcs')
  omega
/-! bits -/
theorem i32_mask (a : Int) (k : Nat) (m : Int32) (hm : m.toBitVec.toNat = 2 ^ k - 1) (hk : k ≤ 31) : Int32.ofInt a &&& m = Int32.ofInt (a % (2 ^ k : Int)) := by
  rw [pk_and _ k hm]
  have h1 : ((Int32.ofInt a).toBitVec.toNat : Int) = a % 4294967296 := by
    rw [Int32.toBitVec_ofInt, BitVec.toNat_ofInt]
    have : (0 : Int) ≤ a % 4294967296 := by omega
    show ((a % ((2 ^ 32 : Nat) : Int)).toNat : Int) = _
    have e : ((2 ^ 32 : Nat) : Int) = 4294967296 := by decide
    rw [e]
    omega
  have h2 : (((Int32.ofInt a).toBitVec.toNat % 2 ^ k : Nat) : Int) = a % (2 ^ k : Int) := by
    rw [Int.natCast_emod, h1]
    have hd : ((2 ^ k : Nat) : Int) ∣ 4294967296 := by
      have : (2 ^ k : Nat) ∣ 2 ^ 32 := Nat.pow_dvd_pow 2 (by omega)
      have h3 := Int.natCast_dvd_natCast.mpr this
      exact h3
    rw [Int.emod_emod_of_dvd a hd]
    simp
  rw [← h2, Int32.ofInt_eq_ofNat]
  rfl
theorem zV_iand (k9 : Nat) (hd : decode mt.2.1 pc = .ok (.iand, 1) ∧ pc + 1 = n) (hb : (Int32.ofInt b).toBitVec.toNat = 2 ^ k9 - 1 ∧ Nat.ble k9 31 = true) (k : zV P mt sh u n L ((0, a % (2 ^ k9 : Int)) :: st) mem Q) : zV P mt sh u pc L ((0, b) :: (0, a) :: st) mem Q := by
  intro X p l ev s m args below meth c Z hP C R H locs ls hH hl hL
  rw [← hd.2] at k
  have h2 := k X p l ev s m args below meth c Z hP C R H locs ls hH hl hL
  have e : zcV X (0, a % (2 ^ k9 : Int)) = .int (Int32.ofInt a &&& Int32.ofInt b) := by
    show Value.int (Int32.ofInt _) = _
    rw [i32_mask a k9 _ hb.1 (Nat.le_of_ble_eq_true hb.2)]
  rw [List.map_cons, e] at h2
  exact lv_iand C.1 C.2.1 hd.1 h2
theorem i64_mask (a : Int) (k : Nat) (m : Int64) (hm : m.toBitVec.toNat = 2 ^ k - 1) (hk : k ≤ 63) : Int64.ofInt a &&& m = Int64.ofInt (a % (2 ^ k : Int)) := by
  apply Int64.toBitVec_inj.mp
  apply BitVec.eq_of_toNat_eq
  have h1 : ((Int64.ofInt a).toBitVec.toNat : Int) = a % 18446744073709551616 := by
    rw [Int64.toBitVec_ofInt, BitVec.toNat_ofInt]
    have : (0 : Int) ≤ a % 18446744073709551616 := by omega
    show ((a % ((2 ^ 64 : Nat) : Int)).toNat : Int) = _
    have e : ((2 ^ 64 : Nat) : Int) = 18446744073709551616 := by decide
    rw [e]
    omega
  have hd : ((2 ^ k : Nat) : Int) ∣ 18446744073709551616 := by
    have : (2 ^ k : Nat) ∣ 2 ^ 64 := Nat.pow_dvd_pow 2 (by omega)
    have h3 := Int.natCast_dvd_natCast.mpr this
    exact h3
  rw [Int64.toBitVec_and, BitVec.toNat_and, hm, Nat.and_two_pow_sub_one_eq_mod]
  apply Int.ofNat_inj.mp
  rw [Int.natCast_emod, h1, Int.emod_emod_of_dvd a hd, Int64.toBitVec_ofInt, BitVec.toNat_ofInt]
  have e : ((2 ^ 64 : Nat) : Int) = 18446744073709551616 := by decide
  have e2 : ((2 ^ k : Nat) : Int) = (2 ^ k : Int) := by simp
  rw [e2]
  have hle : (2 ^ k : Int) ≤ 18446744073709551616 := by
    have h3 : (2 ^ k : Nat) ≤ 2 ^ 64 := Nat.pow_le_pow_right (by decide) (by omega)
    have h4 : ((2 ^ k : Nat) : Int) ≤ ((2 ^ 64 : Nat) : Int) := by exact_mod_cast h3
    rw [e2, e] at h4
    exact h4
  have hpos : (0 : Int) < 2 ^ k := by
    have h3 : 0 < (2 ^ k : Nat) := Nat.pow_pos (by decide)
    have h4 : (0 : Int) < ((2 ^ k : Nat) : Int) := by exact_mod_cast h3
    rw [e2] at h4
    exact h4
  have h0 := Int.emod_nonneg a (Int.ne_of_gt hpos)
  have h9 := Int.emod_lt_of_pos a hpos
  show _ = ((a % (2 ^ k : Int) % ((2 ^ 64 : Nat) : Int)).toNat : Int)
  rw [e, Int.emod_eq_of_lt h0 (by omega)]
  omega
theorem zV_land (k9 : Nat) (hd : decode mt.2.1 pc = .ok (.land, 1) ∧ pc + 1 = n) (hb : (Int64.ofInt b).toBitVec.toNat = 2 ^ k9 - 1 ∧ Nat.ble k9 63 = true) (k : zV P mt sh u n L ((1, a % (2 ^ k9 : Int)) :: st) mem Q) : zV P mt sh u pc L ((1, b) :: (1, a) :: st) mem Q := by
  intro X p l ev s m args below meth c Z hP C R H locs ls hH hl hL
  rw [← hd.2] at k
  have h2 := k X p l ev s m args below meth c Z hP C R H locs ls hH hl hL
  have e : zcV X (1, a % (2 ^ k9 : Int)) = .long (Int64.ofInt a &&& Int64.ofInt b) := by
    show Value.long (Int64.ofInt _) = _
    rw [i64_mask a k9 _ hb.1 (Nat.le_of_ble_eq_true hb.2)]
  rw [List.map_cons, e] at h2
  exact lv_land C.1 C.2.1 hd.1 h2
/-- 1 shifted left; a small number shifted right; or of small numbers; a long shifted right by one: by cases over the literal amount -/
theorem zV_ishl (v : Int) (hd : decode mt.2.1 pc = .ok (.ishl, 1) ∧ pc + 1 = n) (hv : Int32.ofInt a <<< (Int32.ofInt b &&& 31) = Int32.ofInt v) (k : zV P mt sh u n L ((0, v) :: st) mem Q) : zV P mt sh u pc L ((0, b) :: (0, a) :: st) mem Q := by
  intro X p l ev s m args below meth c Z hP C R H locs ls hH hl hL
  rw [← hd.2] at k
  have h2 := k X p l ev s m args below meth c Z hP C R H locs ls hH hl hL
  have e : zcV X (0, v) = .int (Int32.ofInt a <<< (Int32.ofInt b &&& 31)) := by
    show Value.int (Int32.ofInt _) = _
    rw [hv]
  rw [List.map_cons, e] at h2
  exact lv_ishl C.1 C.2.1 hd.1 h2
theorem zV_ishr (v : Int) (hd : decode mt.2.1 pc = .ok (.ishr, 1) ∧ pc + 1 = n) (hv : Int32.ofInt a >>> (Int32.ofInt b &&& 31) = Int32.ofInt v) (k : zV P mt sh u n L ((0, v) :: st) mem Q) : zV P mt sh u pc L ((0, b) :: (0, a) :: st) mem Q := by
  intro X p l ev s m args below meth c Z hP C R H locs ls hH hl hL
  rw [← hd.2] at k
  have h2 := k X p l ev s m args below meth c Z hP C R H locs ls hH hl hL
  have e : zcV X (0, v) = .int (Int32.ofInt a >>> (Int32.ofInt b &&& 31)) := by
    show Value.int (Int32.ofInt _) = _
    rw [hv]
  rw [List.map_cons, e] at h2
  exact lv_ishr C.1 C.2.1 hd.1 h2
theorem zV_ior (v : Int) (hd : decode mt.2.1 pc = .ok (.ior, 1) ∧ pc + 1 = n) (hv : Int32.ofInt a ||| Int32.ofInt b = Int32.ofInt v) (k : zV P mt sh u n L ((0, v) :: st) mem Q) : zV P mt sh u pc L ((0, b) :: (0, a) :: st) mem Q := by
  intro X p l ev s m args below meth c Z hP C R H locs ls hH hl hL
  rw [← hd.2] at k
  have h2 := k X p l ev s m args below meth c Z hP C R H locs ls hH hl hL
  have e : zcV X (0, v) = .int (Int32.ofInt a ||| Int32.ofInt b) := by
    show Value.int (Int32.ofInt _) = _
    rw [hv]
  rw [List.map_cons, e] at h2
  exact lv_ior C.1 C.2.1 hd.1 h2
theorem zV_lshr (v : Int) (hd : decode mt.2.1 pc = .ok (.lshr, 1) ∧ pc + 1 = n) (hv : Int64.ofInt a >>> ((Int32.ofInt b).toInt64 &&& 63) = Int64.ofInt v) (k : zV P mt sh u n L ((1, v) :: st) mem Q) : zV P mt sh u pc L ((0, b) :: (1, a) :: st) mem Q := by
  intro X p l ev s m args below meth c Z hP C R H locs ls hH hl hL
  rw [← hd.2] at k
  exact lv_lshr C.1 C.2.1 hd.1 hv (k X p l ev s m args below meth c Z hP C R H locs ls hH hl hL)
theorem zV_ixor (v : Int) (hd : decode mt.2.1 pc = .ok (.ixor, 1) ∧ pc + 1 = n) (hv : Int32.ofInt a ^^^ Int32.ofInt b = Int32.ofInt v) (k : zV P mt sh u n L ((0, v) :: st) mem Q) : zV P mt sh u pc L ((0, b) :: (0, a) :: st) mem Q := by
  intro X p l ev s m args below meth c Z hP C R H locs ls hH hl hL
  rw [← hd.2] at k
  have h2 := k X p l ev s m args below meth c Z hP C R H locs ls hH hl hL
  have e : zcV X (0, v) = .int (Int32.ofInt a ^^^ Int32.ofInt b) := by
    show Value.int (Int32.ofInt _) = _
    rw [hv]
  rw [List.map_cons, e] at h2
  exact lv_ixor C.1 C.2.1 hd.1 h2
theorem zV_lxor (v : Int) (hd : decode mt.2.1 pc = .ok (.lxor, 1) ∧ pc + 1 = n) (hv : Int64.ofInt a ^^^ Int64.ofInt b = Int64.ofInt v) (k : zV P mt sh u n L ((1, v) :: st) mem Q) : zV P mt sh u pc L ((1, b) :: (1, a) :: st) mem Q := by
  intro X p l ev s m args below meth c Z hP C R H locs ls hH hl hL
  rw [← hd.2] at k
  have h2 := k X p l ev s m args below meth c Z hP C R H locs ls hH hl hL
  have e : zcV X (1, v) = .long (Int64.ofInt a ^^^ Int64.ofInt b) := by
    show Value.long (Int64.ofInt _) = _
    rw [hv]
  rw [List.map_cons, e] at h2
  exact lv_lxor C.1 C.2.1 hd.1 h2
end zCALL
end
section
def m_Cu_init : zMT := (yX0_init, cX0_init, 1, none, 1, 20, 0, 0)
def m_Cu_write : zMT := (yX0_write, cX0_write, 5, none, 0, 0, 0, 0)
def m_Cu_isUpright : zMT := (yX0_isUpright, cX0_isUpright, 1, some .boolean, 0, 0, 0, 0)
def m_Cu_isSuch : zMT := (yX0_isSuch, cX0_isSuch, 2, some .boolean, 0, 0, 0, 0)
def m_Cu_squareOf : zMT := (yX0_squareOf, cX0_squareOf, 1, some .int, 0, 0, 0, 0)
def m_Cu_slopeAs : zMT := (yX0_slopeAs, cX0_slopeAs, 2, some .int, 0, 0, 0, 0)
def m_Cu_sideAs : zMT := (yX0_sideAs, cX0_sideAs, 5, some .int, 1, 21, 0, 0)
def m_Cu_turnOver : zMT := (yX0_turnOver, cX0_turnOver, 1, none, 1, 20, 0, 0)
def m_Di_init : zMT := (yX1_init, cX1_init, 1, none, 1, 20, 0, 0)
def m_Di_next : zMT := (yX1_next, cX1_next, 2, some .int, 0, 0, 0, 0)
def m_Ex_sign3 : zMT := (yX2_sign, cX2_sign, 8, some .int, 1, 23, 0, 0)
def m_Ex_sign5 : zMT := (yX2_sign_, cX2_sign_, 12, some .int, 2, 50, 0, 0)
def m_Ex_rootDown : zMT := (yX2_rootDown, cX2_rootDown, 6, some .long, 0, 0, 0, 0)
def m_Fo_init : zMT := (yX3_init, cX3_init, 1, none, 1, 20, 1, 4)
def m_Fo_isForm : zMT := (yX3_isForm, cX3_isForm, 1, some .boolean, 0, 0, 0, 0)
def m_Fo_read : zMT := (yX3_read, cX3_read, 5, none, 0, 0, 0, 0)
def m_Fo_holdsIn : zMT := (yX3_holdsIn, cX3_holdsIn, 5, some .boolean, 2, 45, 0, 0)
def m_Fo_allows : zMT := (yX3_allows, cX3_allows, 2, some .boolean, 0, 0, 0, 0)
def m_Gr_init : zMT := (yX4_init, cX4_init, 1, none, 1, 20, 1, 225)
def m_Gr_number : zMT := (yX4_number, cX4_number, 5, some .int, 3, 74, 0, 0)
def m_Gr_placeOf : zMT := (yX4_placeOf, cX4_placeOf, 2, some .int, 0, 0, 0, 0)
def m_Gr_begin : zMT := (yX4_begin, cX4_begin, 3, none, 0, 0, 0, 0)
def m_Gr_joinNeighbours : zMT := (yX4_joinNeighbours, cX4_joinNeighbours, 8, none, 2, 47, 0, 0)
def m_Gr_join : zMT := (yX4_join, cX4_join, 5, none, 1, 23, 0, 0)
def m_Gr_standsFor : zMT := (yX4_standsFor, cX4_standsFor, 4, some .int, 0, 0, 0, 0)
def m_Pa_init : zMT := (yX5_init, cX5_init, 1, none, 1, 20, 1, 24)
def m_Pa_append : zMT := (yX5_append, cX5_append, 2, some .boolean, 0, 0, 0, 0)
def m_Pa_firstFault : zMT := (yX5_firstFault, cX5_firstFault, 2, some .int, 2, 43, 0, 0)
def m_Pa_isPlane : zMT := (yX5_isPlane, cX5_isPlane, 1, some .boolean, 3, 64, 0, 0)
def m_Pa_fits : zMT := (yX5_fits, cX5_fits, 3, some .boolean, 1, 21, 0, 0)
def m_Pa_kindAt : zMT := (yX5_kindAt, cX5_kindAt, 2, some .int, 0, 0, 0, 0)
def m_Pa_numberAt : zMT := (yX5_numberAt, cX5_numberAt, 3, some .int, 0, 0, 0, 0)
def m_Ri_init : zMT := (yX6_init, cX6_init, 1, none, 1, 20, 1, 8)
def m_Ri_append : zMT := (yX6_append, cX6_append, 2, none, 1, 21, 0, 0)
def m_Ri_back : zMT := (yX6_back, cX6_back, 2, some .int, 1, 22, 0, 0)
def m_Ro_init : zMT := (yX7_init, cX7_init, 1, none, 1, 20, 0, 0)
def m_Ro_write : zMT := (yX7_write, cX7_write, 11, none, 0, 0, 0, 0)
def m_Ro_isFraction : zMT := (yX7_isFraction, cX7_isFraction, 1, some .boolean, 0, 0, 0, 0)
def m_Ro_orderTo : zMT := (yX7_orderTo, cX7_orderTo, 4, some .int, 3, 81, 0, 0)
def m_Ro_signOf : zMT := (yX7_signOf, cX7_signOf, 11, some .int, 2, 50, 0, 0)
def m_Ro_thousandths : zMT := (yX7_thousandths, cX7_thousandths, 5, some .int, 1, 25, 0, 0)
def m_Rw_init : zMT := (yX8_init, cX8_init, 2, none, 2, 40, 5, 20)
def m_Rw_has : zMT := (yX8_has, cX8_has, 2, some .boolean, 0, 0, 0, 0)
def m_Rw_append : zMT := (yX8_append, cX8_append, 5, some .boolean, 1, 24, 0, 0)
def m_Rw_remove : zMT := (yX8_remove, cX8_remove, 4, none, 1, 24, 0, 0)
def m_Rw_copy : zMT := (yX8_copy, cX8_copy, 4, none, 1, 24, 0, 0)
def m_Se_init : zMT := (yX9_init, cX9_init, 1, none, 1, 20, 4, 24)
def m_Se_append : zMT := (yX9_append, cX9_append, 5, some .boolean, 0, 0, 0, 0)
def m_Se_copy : zMT := (yX9_copy, cX9_copy, 3, none, 0, 0, 0, 0)
def m_Se_sortsOf : zMT := (yX9_sortsOf, cX9_sortsOf, 5, some .int, 3, 69, 0, 0)
def m_Se_canBe : zMT := (yX9_canBe, cX9_canBe, 5, some .boolean, 2, 45, 0, 0)
def m_Se_nextAsk : zMT := (yX9_nextAsk, cX9_nextAsk, 6, some .int, 3, 72, 0, 0)
def m_Se_leftAtWorst : zMT := (yX9_leftAtWorst, cX9_leftAtWorst, 8, some .int, 2, 45, 0, 0)
def m_St_init : zMT := (yX10_init, cX10_init, 2, none, 2, 40, 20, 217)
def m_St_build : zMT := (yX10_build, cX10_build, 4, none, 6, 167, 0, 0)
def m_St_readCurves : zMT := (yX10_readCurves, cX10_readCurves, 4, none, 1, 21, 0, 0)
def m_St_meet : zMT := (yX10_meet, cX10_meet, 13, none, 5, 135, 0, 0)
def m_St_enter : zMT := (yX10_enter, cX10_enter, 12, none, 4, 104, 0, 0)
def m_St_comeFromFarLeft : zMT := (yX10_comeFromFarLeft, cX10_comeFromFarLeft, 4, none, 1, 23, 0, 0)
def m_St_stopAt : zMT := (yX10_stopAt, cX10_stopAt, 4, none, 3, 80, 0, 0)
def m_St_goOnFrom : zMT := (yX10_goOnFrom, cX10_goOnFrom, 6, none, 3, 80, 0, 0)
def m_St_note : zMT := (yX10_note, cX10_note, 4, none, 0, 0, 0, 0)
def m_St_settle : zMT := (yX10_settle, cX10_settle, 4, none, 2, 45, 0, 0)
def m_St_isFirstOfItsY : zMT := (yX10_isFirstOfItsY, cX10_isFirstOfItsY, 3, some .boolean, 0, 0, 0, 0)
def m_St_sectionsBelow : zMT := (yX10_sectionsBelow, cX10_sectionsBelow, 4, some .int, 1, 22, 0, 0)
def m_St_placeUprights : zMT := (yX10_placeUprights, cX10_placeUprights, 4, none, 4, 102, 0, 0)
def m_St_stackAt : zMT := (yX10_stackAt, cX10_stackAt, 3, some .int, 3, 80, 0, 0)
def m_St_has : zMT := (yX10_has, cX10_has, 2, some .boolean, 0, 0, 0, 0)
def m_St_hasCell : zMT := (yX10_hasCell, cX10_hasCell, 3, some .boolean, 1, 21, 0, 0)
def m_St_sections : zMT := (yX10_sections, cX10_sections, 3, some .int, 0, 0, 0, 0)
def m_St_cells : zMT := (yX10_cells, cX10_cells, 1, some .int, 1, 22, 0, 0)
def m_St_sideOf : zMT := (yX10_sideOf, cX10_sideOf, 5, some .int, 1, 21, 0, 0)
def m_St_uprightsAt : zMT := (yX10_uprightsAt, cX10_uprightsAt, 4, some .int, 0, 0, 0, 0)
def m_St_pairsMeetingAt : zMT := (yX10_pairsMeetingAt, cX10_pairsMeetingAt, 5, some .int, 1, 25, 0, 0)
def m_St_meetAt : zMT := (yX10_meetAt, cX10_meetAt, 6, some .boolean, 0, 0, 0, 0)
def m_St_neighboursOf : zMT := (yX10_neighboursOf, cX10_neighboursOf, 5, some .int, 3, 72, 0, 0)
def m_St_comingTo : zMT := (yX10_comingTo, cX10_comingTo, 6, some .int, 2, 47, 0, 0)
def m_St_lowestBeside : zMT := (yX10_lowestBeside, cX10_lowestBeside, 4, some .int, 1, 24, 0, 0)
def m_St_highestBeside : zMT := (yX10_highestBeside, cX10_highestBeside, 4, some .int, 1, 24, 0, 0)
def m_St_sectionBeside : zMT := (yX10_sectionBeside, cX10_sectionBeside, 5, some .int, 0, 0, 0, 0)
def m_Cp_init : zMT := (yX11_init, cX11_init, 1, none, 3, 61, 79, 851)
def m_Cp_letter : zMT := (yX11_letter, cX11_letter, 2, some .int, 1, 21, 0, 0)
def m_Cp_blank : zMT := (yX11_blank, cX11_blank, 2, some .int, 0, 0, 0, 0)
def m_Cp_fault : zMT := (yX11_fault, cX11_fault, 1, some .int, 3, 64, 0, 0)
def m_Cp_plane : zMT := (yX11_plane, cX11_plane, 4, some .int, 7, 190, 0, 0)
def m_Cp_curve : zMT := (yX11_curve, cX11_curve, 4, some .int, 4, 97, 0, 0)
def m_Cp_as : zMT := (yX11_as, cX11_as, 3, some .int, 1, 21, 0, 0)
def m_Cp_point : zMT := (yX11_point, cX11_point, 3, some .int, 2, 49, 0, 0)
def m_Cp_stack : zMT := (yX11_stack, cX11_stack, 2, some .int, 1, 21, 0, 0)
def m_Cp_cell : zMT := (yX11_cell, cX11_cell, 4, some .int, 2, 45, 0, 0)
def m_Cp_neighbours : zMT := (yX11_neighbours, cX11_neighbours, 3, some .int, 4, 96, 0, 0)
def m_Cp_put : zMT := (yX11_put, cX11_put, 4, some .int, 7, 190, 0, 0)
def m_Cp_take : zMT := (yX11_take, cX11_take, 3, some .int, 7, 190, 0, 0)
def m_Cp_move : zMT := (yX11_move, cX11_move, 4, some .int, 7, 190, 0, 0)
def m_Cp_change : zMT := (yX11_change, cX11_change, 4, some .int, 7, 190, 0, 0)
def m_Cp_mirror : zMT := (yX11_mirror, cX11_mirror, 2, some .int, 7, 190, 0, 0)
def m_Cp_sentence : zMT := (yX11_sentence, cX11_sentence, 6, some .int, 5, 117, 0, 0)
def m_Cp_pieces : zMT := (yX11_pieces, cX11_pieces, 3, some .int, 4, 98, 0, 0)
def m_Cp_loose : zMT := (yX11_loose, cX11_loose, 4, some .int, 7, 190, 0, 0)
def m_Cp_see : zMT := (yX11_see, cX11_see, 5, some .int, 1, 24, 0, 0)
def m_Cp_forget : zMT := (yX11_forget, cX11_forget, 2, some .int, 0, 0, 0, 0)
def m_Cp_dice : zMT := (yX11_dice, cX11_dice, 2, some .int, 1, 21, 0, 0)
def m_Cp_latest : zMT := (yX11_latest, cX11_latest, 2, some .int, 2, 43, 0, 0)
def m_Cp_image : zMT := (yX11_image, cX11_image, 1, some .int, 2, 47, 0, 0)
def m_Cp_restore : zMT := (yX11_restore, cX11_restore, 1, some .int, 7, 190, 0, 0)
def m_Cp_count : zMT := (yX11_count, cX11_count, 2, some .int, 2, 42, 0, 0)
def m_Cp_digest : zMT := (yX11_digest, cX11_digest, 4, some .long, 6, 146, 0, 0)
def m_Cp_mix : zMT := (yX11_mix, cX11_mix, 3, some .long, 0, 0, 0, 0)
def m_Cp_mixCurves : zMT := (yX11_mixCurves, cX11_mixCurves, 7, some .long, 5, 120, 0, 0)
def m_Cp_mixPoints : zMT := (yX11_mixPoints, cX11_mixPoints, 7, some .long, 3, 71, 0, 0)
def m_Cp_mixStacks : zMT := (yX11_mixStacks, cX11_mixStacks, 8, some .long, 2, 45, 0, 0)
def m_Cp_isKind : zMT := (yX11_isKind, cX11_isKind, 1, some .boolean, 0, 0, 0, 0)
def m_Cp_isNear : zMT := (yX11_isNear, cX11_isNear, 1, some .boolean, 0, 0, 0, 0)
def m_Cp_isBit : zMT := (yX11_isBit, cX11_isBit, 1, some .boolean, 0, 0, 0, 0)
def m_Cp_appendCurve : zMT := (yX11_appendCurve, cX11_appendCurve, 4, none, 2, 48, 0, 0)
def m_Cp_isSo : zMT := (yX11_isSo, cX11_isSo, 5, some .boolean, 4, 93, 0, 0)
def m_Cp_isSoOver : zMT := (yX11_isSoOver, cX11_isSoOver, 5, some .boolean, 3, 69, 0, 0)
def m_Mo_init : zMT := (yX12_init, cX12_init, 1, none, 1, 20, 19, 928)
def m_Mo_in : zMT := (yX12_in, cX12_in, 6, some .boolean, 0, 0, 0, 0)
def m_Mo_copy : zMT := (yX12_copy, cX12_copy, 3, none, 0, 0, 0, 0)
def m_Mo_letter : zMT := (yX12_letter, cX12_letter, 2, some .int, 1, 25, 0, 0)
def m_Mo_blank : zMT := (yX12_blank, cX12_blank, 2, some .int, 0, 0, 0, 0)
def m_Mo_kindBy : zMT := (yX12_kindBy, cX12_kindBy, 1, some .int, 0, 0, 0, 0)
def m_Mo_isGood : zMT := (yX12_isGood, cX12_isGood, 3, some .boolean, 1, 25, 0, 0)
def m_Mo_faultOf : zMT := (yX12_faultOf, cX12_faultOf, 2, some .int, 2, 47, 0, 0)
def m_Mo_fault : zMT := (yX12_fault, cX12_fault, 1, some .int, 3, 68, 0, 0)
def m_Mo_numberAt : zMT := (yX12_numberAt, cX12_numberAt, 2, some .int, 0, 0, 0, 0)
def m_Mo_name : zMT := (yX12_name, cX12_name, 2, none, 0, 0, 0, 0)
def m_Mo_plane : zMT := (yX12_plane, cX12_plane, 2, some .int, 3, 68, 0, 0)
def m_Mo_lacks : zMT := (yX12_lacks, cX12_lacks, 1, some .boolean, 0, 0, 0, 0)
def m_Mo_isCurve : zMT := (yX12_isCurve, cX12_isCurve, 2, some .boolean, 1, 25, 0, 0)
def m_Mo_squareBy : zMT := (yX12_squareBy, cX12_squareBy, 1, some .int, 0, 0, 0, 0)
def m_Mo_square : zMT := (yX12_square, cX12_square, 2, some .int, 1, 20, 0, 0)
def m_Mo_slope : zMT := (yX12_slope, cX12_slope, 2, some .int, 0, 0, 0, 0)
def m_Mo_isFlat : zMT := (yX12_isFlat, cX12_isFlat, 2, some .boolean, 0, 0, 0, 0)
def m_Mo_isSame : zMT := (yX12_isSame, cX12_isSame, 3, some .boolean, 2, 41, 0, 0)
def m_Mo_signOf : zMT := (yX12_signOf, cX12_signOf, 2, some .int, 0, 0, 0, 0)
def m_Mo_signRoot : zMT := (yX12_signRoot, cX12_signRoot, 9, some .int, 1, 21, 0, 0)
def m_Mo_signRoots : zMT := (yX12_signRoots, cX12_signRoots, 16, some .int, 2, 49, 0, 0)
def m_Mo_layNumber : zMT := (yX12_layNumber, cX12_layNumber, 13, none, 0, 0, 0, 0)
def m_Mo_compare : zMT := (yX12_compare, cX12_compare, 5, some .int, 3, 84, 0, 0)
def m_Mo_compareTo : zMT := (yX12_compareTo, cX12_compareTo, 6, some .int, 2, 49, 0, 0)
def m_Mo_floorOf : zMT := (yX12_floorOf, cX12_floorOf, 10, some .long, 3, 74, 0, 0)
def m_Mo_difference : zMT := (yX12_difference, cX12_difference, 18, some .int, 2, 49, 0, 0)
def m_Mo_addPoint : zMT := (yX12_addPoint, cX12_addPoint, 11, none, 4, 108, 0, 0)
def m_Mo_addRoots : zMT := (yX12_addRoots, cX12_addRoots, 7, none, 5, 138, 0, 0)
def m_Mo_layPoints : zMT := (yX12_layPoints, cX12_layPoints, 4, none, 6, 164, 0, 0)
def m_Mo_laySample : zMT := (yX12_laySample, cX12_laySample, 8, none, 4, 103, 0, 0)
def m_Mo_laySamples : zMT := (yX12_laySamples, cX12_laySamples, 2, none, 5, 130, 0, 0)
def m_Mo_layRanks : zMT := (yX12_layRanks, cX12_layRanks, 9, none, 4, 110, 0, 0)
def m_Mo_isFirst : zMT := (yX12_isFirst, cX12_isFirst, 5, some .boolean, 3, 86, 0, 0)
def m_Mo_layAll : zMT := (yX12_layAll, cX12_layAll, 2, none, 7, 187, 0, 0)
def m_Mo_freshen : zMT := (yX12_freshen, cX12_freshen, 1, none, 8, 208, 0, 0)
def m_Mo_cellsIn : zMT := (yX12_cellsIn, cX12_cellsIn, 2, some .int, 0, 0, 0, 0)
def m_Mo_cellsAll : zMT := (yX12_cellsAll, cX12_cellsAll, 3, some .int, 1, 21, 0, 0)
def m_Mo_isStack : zMT := (yX12_isStack, cX12_isStack, 2, some .boolean, 9, 228, 0, 0)
def m_Mo_isCell : zMT := (yX12_isCell, cX12_isCell, 3, some .boolean, 10, 249, 0, 0)
def m_Mo_lies : zMT := (yX12_lies, cX12_lies, 5, some .int, 3, 74, 0, 0)
def m_Mo_stack : zMT := (yX12_stack, cX12_stack, 2, some .int, 10, 249, 0, 0)
def m_Mo_cell : zMT := (yX12_cell, cX12_cell, 4, some .int, 11, 271, 0, 0)
def m_Mo_comesTo : zMT := (yX12_comesTo, cX12_comesTo, 6, some .int, 1, 21, 0, 0)
def m_Mo_isBeside : zMT := (yX12_isBeside, cX12_isBeside, 7, some .boolean, 2, 46, 0, 0)
def m_Mo_isNeighbour : zMT := (yX12_isNeighbour, cX12_isNeighbour, 6, some .boolean, 3, 72, 0, 0)
def m_Mo_neighbours : zMT := (yX12_neighbours, cX12_neighbours, 6, some .int, 11, 271, 0, 0)
def m_Mo_isForm : zMT := (yX12_isForm, cX12_isForm, 3, some .boolean, 1, 25, 0, 0)
def m_Mo_figureOf : zMT := (yX12_figureOf, cX12_figureOf, 4, some .int, 0, 0, 0, 0)
def m_Mo_isSo : zMT := (yX12_isSo, cX12_isSo, 2, some .boolean, 0, 0, 0, 0)
def m_Mo_holds : zMT := (yX12_holds, cX12_holds, 10, some .boolean, 4, 98, 0, 0)
def m_Mo_holdsIn : zMT := (yX12_holdsIn, cX12_holdsIn, 9, some .boolean, 5, 127, 0, 0)
def m_Mo_sentence : zMT := (yX12_sentence, cX12_sentence, 9, some .int, 9, 228, 0, 0)
def m_Mo_latest : zMT := (yX12_latest, cX12_latest, 2, some .int, 1, 25, 0, 0)
def m_Mo_isSpread : zMT := (yX12_isSpread, cX12_isSpread, 8, some .boolean, 4, 97, 0, 0)
def m_Mo_piecesOf : zMT := (yX12_piecesOf, cX12_piecesOf, 7, some .int, 9, 228, 0, 0)
def m_Mo_pieces : zMT := (yX12_pieces, cX12_pieces, 3, some .int, 10, 254, 0, 0)
def m_Mo_loose : zMT := (yX12_loose, cX12_loose, 4, some .int, 8, 208, 0, 0)
def m_Mo_tellCurve : zMT := (yX12_tellCurve, cX12_tellCurve, 3, some .int, 4, 100, 0, 0)
def m_Mo_curve : zMT := (yX12_curve, cX12_curve, 3, some .int, 5, 122, 0, 0)
def m_Mo_as : zMT := (yX12_as, cX12_as, 4, some .int, 2, 46, 0, 0)
def m_Mo_meeting : zMT := (yX12_meeting, cX12_meeting, 5, some .int, 3, 86, 0, 0)
def m_Mo_standing : zMT := (yX12_standing, cX12_standing, 4, some .int, 3, 74, 0, 0)
def m_Mo_tellPoint : zMT := (yX12_tellPoint, cX12_tellPoint, 3, some .int, 4, 110, 0, 0)
def m_Mo_point : zMT := (yX12_point, cX12_point, 3, some .int, 9, 228, 0, 0)
def m_Mo_isNumber : zMT := (yX12_isNumber, cX12_isNumber, 1, some .boolean, 1, 25, 0, 0)
def m_Mo_put : zMT := (yX12_put, cX12_put, 4, some .int, 2, 45, 0, 0)
def m_Mo_take : zMT := (yX12_take, cX12_take, 4, some .int, 2, 46, 0, 0)
def m_Mo_cellsNow : zMT := (yX12_cellsNow, cX12_cellsNow, 1, some .int, 9, 228, 0, 0)
def m_Mo_move : zMT := (yX12_move, cX12_move, 4, some .int, 10, 248, 0, 0)
def m_Mo_change : zMT := (yX12_change, cX12_change, 4, some .int, 2, 46, 0, 0)
def m_Mo_mirror : zMT := (yX12_mirror, cX12_mirror, 2, some .int, 10, 248, 0, 0)
def m_Mo_see : zMT := (yX12_see, cX12_see, 5, some .int, 2, 46, 0, 0)
def m_Mo_forget : zMT := (yX12_forget, cX12_forget, 2, some .int, 0, 0, 0, 0)
def m_Mo_liesAt : zMT := (yX12_liesAt, cX12_liesAt, 7, some .int, 1, 20, 0, 0)
def m_Mo_sortsOf : zMT := (yX12_sortsOf, cX12_sortsOf, 6, some .int, 2, 46, 0, 0)
def m_Mo_askOf : zMT := (yX12_askOf, cX12_askOf, 10, some .int, 3, 71, 0, 0)
def m_Mo_dice : zMT := (yX12_dice, cX12_dice, 2, some .int, 1, 25, 0, 0)
def m_Mo_image : zMT := (yX12_image, cX12_image, 1, some .int, 1, 22, 0, 0)
def m_Mo_restore : zMT := (yX12_restore, cX12_restore, 1, some .int, 1, 22, 0, 0)
def m_Mo_sectionsAll : zMT := (yX12_sectionsAll, cX12_sectionsAll, 3, some .int, 0, 0, 0, 0)
def m_Mo_countPlane : zMT := (yX12_countPlane, cX12_countPlane, 2, some .int, 9, 228, 0, 0)
def m_Mo_countOf : zMT := (yX12_countOf, cX12_countOf, 2, some .int, 10, 249, 0, 0)
def m_Mo_count : zMT := (yX12_count, cX12_count, 2, some .int, 11, 270, 0, 0)
def m_Mo_say : zMT := (yX12_say, cX12_say, 3, none, 0, 0, 0, 0)
def m_Mo_sayStacks : zMT := (yX12_sayStacks, cX12_sayStacks, 4, none, 4, 98, 0, 0)
def m_Mo_digest : zMT := (yX12_digest, cX12_digest, 3, some .long, 11, 270, 0, 0)
def m_In_compare : zMT := (yJ6_compare_7cf53, cJ6_compare_7cf53, 2, some .int, 0, 0, 0, 0)
def m_Lo_compare : zMT := (yJ13_compare_74951, cJ13_compare_74951, 4, some .int, 0, 0, 0, 0)
def m_Ma_floorDiv : zMT := (yJ9_floorDiv_f86c9, cJ9_floorDiv_f86c9, 6, some .long, 0, 0, 0, 0)
def m_Ma_floorMod : zMT := (yJ9_floorMod_7cf53, cJ9_floorMod_7cf53, 3, some .int, 0, 0, 0, 0)
def m_Ma_max : zMT := (yJ9_max_7cf53, cJ9_max_7cf53, 2, some .int, 0, 0, 0, 0)
def m_Ma_min : zMT := (yJ9_min_7cf53, cJ9_min_7cf53, 2, some .int, 0, 0, 0, 0)
def m_La_law : zMT := (yL_law, cL_law, 4, some .boolean, 14, 608, 600000, 7302250)
set_option maxRecDepth 20000 in
theorem k_Cu_init : zMi m_Cu_init 0 := ⟨⟨zin 80 (by decide +kernel) (by decide +kernel), zin 128 (by decide +kernel) (by decide +kernel), by decide +kernel, by decide +kernel, by decide +kernel⟩, zin 127 (by decide +kernel) (by decide +kernel), rfl, rfl⟩
set_option maxRecDepth 20000 in
theorem k_Cu_write : zMv m_Cu_write 4 0 := ⟨⟨zin 80 (by decide +kernel) (by decide +kernel), zin 410 (by decide +kernel) (by decide +kernel), by decide +kernel, by decide +kernel, by decide +kernel⟩, zin 408 (by decide +kernel) (by decide +kernel), zin 409 (by decide +kernel) (by decide +kernel), by decide, rfl⟩
set_option maxRecDepth 20000 in
theorem k_Cu_isUpright : zMv m_Cu_isUpright 0 0 := ⟨⟨zin 80 (by decide +kernel) (by decide +kernel), zin 422 (by decide +kernel) (by decide +kernel), by decide +kernel, by decide +kernel, by decide +kernel⟩, zin 420 (by decide +kernel) (by decide +kernel), zin 421 (by decide +kernel) (by decide +kernel), by decide, rfl⟩
set_option maxRecDepth 20000 in
theorem k_Cu_isSuch : zMv m_Cu_isSuch 1 0 := ⟨⟨zin 80 (by decide +kernel) (by decide +kernel), zin 551 (by decide +kernel) (by decide +kernel), by decide +kernel, by decide +kernel, by decide +kernel⟩, zin 549 (by decide +kernel) (by decide +kernel), zin 550 (by decide +kernel) (by decide +kernel), by decide, rfl⟩
set_option maxRecDepth 20000 in
theorem k_Cu_squareOf : zMs m_Cu_squareOf 1 := ⟨⟨zin 80 (by decide +kernel) (by decide +kernel), zin 425 (by decide +kernel) (by decide +kernel), by decide +kernel, by decide +kernel, by decide +kernel⟩, zin 424 (by decide +kernel) (by decide +kernel)⟩
set_option maxRecDepth 20000 in
theorem k_Cu_slopeAs : zMv m_Cu_slopeAs 1 0 := ⟨⟨zin 80 (by decide +kernel) (by decide +kernel), zin 429 (by decide +kernel) (by decide +kernel), by decide +kernel, by decide +kernel, by decide +kernel⟩, zin 427 (by decide +kernel) (by decide +kernel), zin 428 (by decide +kernel) (by decide +kernel), by decide, rfl⟩
set_option maxRecDepth 20000 in
theorem k_Cu_sideAs : zMv m_Cu_sideAs 3 0 := ⟨⟨zin 80 (by decide +kernel) (by decide +kernel), zin 528 (by decide +kernel) (by decide +kernel), by decide +kernel, by decide +kernel, by decide +kernel⟩, zin 526 (by decide +kernel) (by decide +kernel), zin 527 (by decide +kernel) (by decide +kernel), by decide, rfl⟩
set_option maxRecDepth 20000 in
theorem k_Cu_turnOver : zMv m_Cu_turnOver 0 0 := ⟨⟨zin 80 (by decide +kernel) (by decide +kernel), zin 667 (by decide +kernel) (by decide +kernel), by decide +kernel, by decide +kernel, by decide +kernel⟩, zin 665 (by decide +kernel) (by decide +kernel), zin 666 (by decide +kernel) (by decide +kernel), by decide, rfl⟩
set_option maxRecDepth 20000 in
theorem k_Di_init : zMi m_Di_init 0 := ⟨⟨zin 86 (by decide +kernel) (by decide +kernel), zin 285 (by decide +kernel) (by decide +kernel), by decide +kernel, by decide +kernel, by decide +kernel⟩, zin 284 (by decide +kernel) (by decide +kernel), rfl, rfl⟩
set_option maxRecDepth 20000 in
theorem k_Di_next : zMv m_Di_next 1 1 := ⟨⟨zin 86 (by decide +kernel) (by decide +kernel), zin 766 (by decide +kernel) (by decide +kernel), by decide +kernel, by decide +kernel, by decide +kernel⟩, zin 764 (by decide +kernel) (by decide +kernel), zin 765 (by decide +kernel) (by decide +kernel), by decide, rfl⟩
set_option maxRecDepth 20000 in
theorem k_Ex_sign3 : zMs m_Ex_sign3 3 := ⟨⟨zin 89 (by decide +kernel) (by decide +kernel), zin 448 (by decide +kernel) (by decide +kernel), by decide +kernel, by decide +kernel, by decide +kernel⟩, zin 447 (by decide +kernel) (by decide +kernel)⟩
set_option maxRecDepth 20000 in
theorem k_Ex_sign5 : zMs m_Ex_sign5 5 := ⟨⟨zin 89 (by decide +kernel) (by decide +kernel), zin 445 (by decide +kernel) (by decide +kernel), by decide +kernel, by decide +kernel, by decide +kernel⟩, zin 444 (by decide +kernel) (by decide +kernel)⟩
set_option maxRecDepth 20000 in
theorem k_Ex_rootDown : zMs m_Ex_rootDown 1 := ⟨⟨zin 89 (by decide +kernel) (by decide +kernel), zin 460 (by decide +kernel) (by decide +kernel), by decide +kernel, by decide +kernel, by decide +kernel⟩, zin 459 (by decide +kernel) (by decide +kernel)⟩
set_option maxRecDepth 20000 in
theorem k_Fo_init : zMi m_Fo_init 0 := ⟨⟨zin 84 (by decide +kernel) (by decide +kernel), zin 259 (by decide +kernel) (by decide +kernel), by decide +kernel, by decide +kernel, by decide +kernel⟩, zin 258 (by decide +kernel) (by decide +kernel), rfl, rfl⟩
set_option maxRecDepth 20000 in
theorem k_Fo_isForm : zMs m_Fo_isForm 1 := ⟨⟨zin 84 (by decide +kernel) (by decide +kernel), zin 678 (by decide +kernel) (by decide +kernel), by decide +kernel, by decide +kernel, by decide +kernel⟩, zin 677 (by decide +kernel) (by decide +kernel)⟩
set_option maxRecDepth 20000 in
theorem k_Fo_read : zMv m_Fo_read 2 2 := ⟨⟨zin 84 (by decide +kernel) (by decide +kernel), zin 682 (by decide +kernel) (by decide +kernel), by decide +kernel, by decide +kernel, by decide +kernel⟩, zin 680 (by decide +kernel) (by decide +kernel), zin 681 (by decide +kernel) (by decide +kernel), by decide, rfl⟩
set_option maxRecDepth 20000 in
theorem k_Fo_holdsIn : zMv m_Fo_holdsIn 3 2 := ⟨⟨zin 84 (by decide +kernel) (by decide +kernel), zin 694 (by decide +kernel) (by decide +kernel), by decide +kernel, by decide +kernel, by decide +kernel⟩, zin 692 (by decide +kernel) (by decide +kernel), zin 693 (by decide +kernel) (by decide +kernel), by decide, rfl⟩
set_option maxRecDepth 20000 in
theorem k_Fo_allows : zMs m_Fo_allows 2 := ⟨⟨zin 84 (by decide +kernel) (by decide +kernel), zin 698 (by decide +kernel) (by decide +kernel), by decide +kernel, by decide +kernel, by decide +kernel⟩, zin 697 (by decide +kernel) (by decide +kernel)⟩
set_option maxRecDepth 20000 in
theorem k_Gr_init : zMi m_Gr_init 0 := ⟨⟨zin 85 (by decide +kernel) (by decide +kernel), zin 272 (by decide +kernel) (by decide +kernel), by decide +kernel, by decide +kernel, by decide +kernel⟩, zin 271 (by decide +kernel) (by decide +kernel), rfl, rfl⟩
set_option maxRecDepth 20000 in
theorem k_Gr_number : zMv m_Gr_number 2 3 := ⟨⟨zin 85 (by decide +kernel) (by decide +kernel), zin 713 (by decide +kernel) (by decide +kernel), by decide +kernel, by decide +kernel, by decide +kernel⟩, zin 711 (by decide +kernel) (by decide +kernel), zin 712 (by decide +kernel) (by decide +kernel), by decide, rfl⟩
set_option maxRecDepth 20000 in
theorem k_Gr_placeOf : zMs m_Gr_placeOf 2 := ⟨⟨zin 85 (by decide +kernel) (by decide +kernel), zin 716 (by decide +kernel) (by decide +kernel), by decide +kernel, by decide +kernel, by decide +kernel⟩, zin 715 (by decide +kernel) (by decide +kernel)⟩
set_option maxRecDepth 20000 in
theorem k_Gr_begin : zMv m_Gr_begin 2 3 := ⟨⟨zin 85 (by decide +kernel) (by decide +kernel), zin 721 (by decide +kernel) (by decide +kernel), by decide +kernel, by decide +kernel, by decide +kernel⟩, zin 720 (by decide +kernel) (by decide +kernel), zin 20 (by decide +kernel) (by decide +kernel), by decide, rfl⟩
set_option maxRecDepth 20000 in
theorem k_Gr_joinNeighbours : zMv m_Gr_joinNeighbours 3 3 := ⟨⟨zin 85 (by decide +kernel) (by decide +kernel), zin 725 (by decide +kernel) (by decide +kernel), by decide +kernel, by decide +kernel, by decide +kernel⟩, zin 724 (by decide +kernel) (by decide +kernel), zin 21 (by decide +kernel) (by decide +kernel), by decide, rfl⟩
set_option maxRecDepth 20000 in
theorem k_Gr_join : zMv m_Gr_join 2 3 := ⟨⟨zin 85 (by decide +kernel) (by decide +kernel), zin 729 (by decide +kernel) (by decide +kernel), by decide +kernel, by decide +kernel, by decide +kernel⟩, zin 728 (by decide +kernel) (by decide +kernel), zin 22 (by decide +kernel) (by decide +kernel), by decide, rfl⟩
set_option maxRecDepth 20000 in
theorem k_Gr_standsFor : zMv m_Gr_standsFor 1 3 := ⟨⟨zin 85 (by decide +kernel) (by decide +kernel), zin 733 (by decide +kernel) (by decide +kernel), by decide +kernel, by decide +kernel, by decide +kernel⟩, zin 732 (by decide +kernel) (by decide +kernel), zin 23 (by decide +kernel) (by decide +kernel), by decide, rfl⟩
set_option maxRecDepth 20000 in
theorem k_Pa_init : zMi m_Pa_init 0 := ⟨⟨zin 78 (by decide +kernel) (by decide +kernel), zin 105 (by decide +kernel) (by decide +kernel), by decide +kernel, by decide +kernel, by decide +kernel⟩, zin 104 (by decide +kernel) (by decide +kernel), rfl, rfl⟩
set_option maxRecDepth 20000 in
theorem k_Pa_append : zMv m_Pa_append 1 4 := ⟨⟨zin 78 (by decide +kernel) (by decide +kernel), zin 364 (by decide +kernel) (by decide +kernel), by decide +kernel, by decide +kernel, by decide +kernel⟩, zin 362 (by decide +kernel) (by decide +kernel), zin 363 (by decide +kernel) (by decide +kernel), by decide, rfl⟩
set_option maxRecDepth 20000 in
theorem k_Pa_firstFault : zMv m_Pa_firstFault 0 4 := ⟨⟨zin 78 (by decide +kernel) (by decide +kernel), zin 376 (by decide +kernel) (by decide +kernel), by decide +kernel, by decide +kernel, by decide +kernel⟩, zin 374 (by decide +kernel) (by decide +kernel), zin 375 (by decide +kernel) (by decide +kernel), by decide, rfl⟩
set_option maxRecDepth 20000 in
theorem k_Pa_isPlane : zMv m_Pa_isPlane 0 4 := ⟨⟨zin 78 (by decide +kernel) (by decide +kernel), zin 392 (by decide +kernel) (by decide +kernel), by decide +kernel, by decide +kernel, by decide +kernel⟩, zin 390 (by decide +kernel) (by decide +kernel), zin 391 (by decide +kernel) (by decide +kernel), by decide, rfl⟩
set_option maxRecDepth 20000 in
theorem k_Pa_fits : zMv m_Pa_fits 1 4 := ⟨⟨zin 78 (by decide +kernel) (by decide +kernel), zin 380 (by decide +kernel) (by decide +kernel), by decide +kernel, by decide +kernel, by decide +kernel⟩, zin 379 (by decide +kernel) (by decide +kernel), zin 0 (by decide +kernel) (by decide +kernel), by decide, rfl⟩
set_option maxRecDepth 20000 in
theorem k_Pa_kindAt : zMv m_Pa_kindAt 1 4 := ⟨⟨zin 78 (by decide +kernel) (by decide +kernel), zin 384 (by decide +kernel) (by decide +kernel), by decide +kernel, by decide +kernel, by decide +kernel⟩, zin 382 (by decide +kernel) (by decide +kernel), zin 383 (by decide +kernel) (by decide +kernel), by decide, rfl⟩
set_option maxRecDepth 20000 in
theorem k_Pa_numberAt : zMv m_Pa_numberAt 1 4 := ⟨⟨zin 78 (by decide +kernel) (by decide +kernel), zin 397 (by decide +kernel) (by decide +kernel), by decide +kernel, by decide +kernel, by decide +kernel⟩, zin 395 (by decide +kernel) (by decide +kernel), zin 396 (by decide +kernel) (by decide +kernel), by decide, rfl⟩
set_option maxRecDepth 20000 in
theorem k_Ri_init : zMi m_Ri_init 0 := ⟨⟨zin 87 (by decide +kernel) (by decide +kernel), zin 295 (by decide +kernel) (by decide +kernel), by decide +kernel, by decide +kernel, by decide +kernel⟩, zin 294 (by decide +kernel) (by decide +kernel), rfl, rfl⟩
set_option maxRecDepth 20000 in
theorem k_Ri_append : zMv m_Ri_append 1 5 := ⟨⟨zin 87 (by decide +kernel) (by decide +kernel), zin 702 (by decide +kernel) (by decide +kernel), by decide +kernel, by decide +kernel, by decide +kernel⟩, zin 700 (by decide +kernel) (by decide +kernel), zin 701 (by decide +kernel) (by decide +kernel), by decide, rfl⟩
set_option maxRecDepth 20000 in
theorem k_Ri_back : zMv m_Ri_back 1 5 := ⟨⟨zin 87 (by decide +kernel) (by decide +kernel), zin 778 (by decide +kernel) (by decide +kernel), by decide +kernel, by decide +kernel, by decide +kernel⟩, zin 776 (by decide +kernel) (by decide +kernel), zin 777 (by decide +kernel) (by decide +kernel), by decide, rfl⟩
set_option maxRecDepth 20000 in
theorem k_Ro_init : zMi m_Ro_init 0 := ⟨⟨zin 83 (by decide +kernel) (by decide +kernel), zin 198 (by decide +kernel) (by decide +kernel), by decide +kernel, by decide +kernel, by decide +kernel⟩, zin 197 (by decide +kernel) (by decide +kernel), rfl, rfl⟩
set_option maxRecDepth 20000 in
theorem k_Ro_write : zMv m_Ro_write 4 6 := ⟨⟨zin 83 (by decide +kernel) (by decide +kernel), zin 437 (by decide +kernel) (by decide +kernel), by decide +kernel, by decide +kernel, by decide +kernel⟩, zin 435 (by decide +kernel) (by decide +kernel), zin 436 (by decide +kernel) (by decide +kernel), by decide, rfl⟩
set_option maxRecDepth 20000 in
theorem k_Ro_isFraction : zMv m_Ro_isFraction 0 6 := ⟨⟨zin 83 (by decide +kernel) (by decide +kernel), zin 570 (by decide +kernel) (by decide +kernel), by decide +kernel, by decide +kernel, by decide +kernel⟩, zin 568 (by decide +kernel) (by decide +kernel), zin 569 (by decide +kernel) (by decide +kernel), by decide, rfl⟩
set_option maxRecDepth 20000 in
theorem k_Ro_orderTo : zMv m_Ro_orderTo 1 6 := ⟨⟨zin 83 (by decide +kernel) (by decide +kernel), zin 442 (by decide +kernel) (by decide +kernel), by decide +kernel, by decide +kernel, by decide +kernel⟩, zin 440 (by decide +kernel) (by decide +kernel), zin 441 (by decide +kernel) (by decide +kernel), by decide, rfl⟩
set_option maxRecDepth 20000 in
theorem k_Ro_signOf : zMv m_Ro_signOf 3 6 := ⟨⟨zin 83 (by decide +kernel) (by decide +kernel), zin 494 (by decide +kernel) (by decide +kernel), by decide +kernel, by decide +kernel, by decide +kernel⟩, zin 492 (by decide +kernel) (by decide +kernel), zin 493 (by decide +kernel) (by decide +kernel), by decide, rfl⟩
set_option maxRecDepth 20000 in
theorem k_Ro_thousandths : zMv m_Ro_thousandths 0 6 := ⟨⟨zin 83 (by decide +kernel) (by decide +kernel), zin 560 (by decide +kernel) (by decide +kernel), by decide +kernel, by decide +kernel, by decide +kernel⟩, zin 558 (by decide +kernel) (by decide +kernel), zin 559 (by decide +kernel) (by decide +kernel), by decide, rfl⟩
set_option maxRecDepth 20000 in
theorem k_Rw_init : zMi m_Rw_init 0 := ⟨⟨zin 79 (by decide +kernel) (by decide +kernel), zin 121 (by decide +kernel) (by decide +kernel), by decide +kernel, by decide +kernel, by decide +kernel⟩, zin 120 (by decide +kernel) (by decide +kernel), rfl, rfl⟩
set_option maxRecDepth 20000 in
theorem k_Rw_has : zMv m_Rw_has 1 7 := ⟨⟨zin 79 (by decide +kernel) (by decide +kernel), zin 516 (by decide +kernel) (by decide +kernel), by decide +kernel, by decide +kernel, by decide +kernel⟩, zin 514 (by decide +kernel) (by decide +kernel), zin 515 (by decide +kernel) (by decide +kernel), by decide, rfl⟩
set_option maxRecDepth 20000 in
theorem k_Rw_append : zMv m_Rw_append 4 7 := ⟨⟨zin 79 (by decide +kernel) (by decide +kernel), zin 406 (by decide +kernel) (by decide +kernel), by decide +kernel, by decide +kernel, by decide +kernel⟩, zin 404 (by decide +kernel) (by decide +kernel), zin 405 (by decide +kernel) (by decide +kernel), by decide, rfl⟩
set_option maxRecDepth 20000 in
theorem k_Rw_remove : zMv m_Rw_remove 1 7 := ⟨⟨zin 79 (by decide +kernel) (by decide +kernel), zin 642 (by decide +kernel) (by decide +kernel), by decide +kernel, by decide +kernel, by decide +kernel⟩, zin 640 (by decide +kernel) (by decide +kernel), zin 641 (by decide +kernel) (by decide +kernel), by decide, rfl⟩
set_option maxRecDepth 20000 in
theorem k_Rw_copy : zMv m_Rw_copy 1 7 := ⟨⟨zin 79 (by decide +kernel) (by decide +kernel), zin 746 (by decide +kernel) (by decide +kernel), by decide +kernel, by decide +kernel, by decide +kernel⟩, zin 744 (by decide +kernel) (by decide +kernel), zin 745 (by decide +kernel) (by decide +kernel), by decide, rfl⟩
set_option maxRecDepth 20000 in
theorem k_Se_init : zMi m_Se_init 0 := ⟨⟨zin 81 (by decide +kernel) (by decide +kernel), zin 168 (by decide +kernel) (by decide +kernel), by decide +kernel, by decide +kernel, by decide +kernel⟩, zin 167 (by decide +kernel) (by decide +kernel), rfl, rfl⟩
set_option maxRecDepth 20000 in
theorem k_Se_append : zMv m_Se_append 4 8 := ⟨⟨zin 81 (by decide +kernel) (by decide +kernel), zin 754 (by decide +kernel) (by decide +kernel), by decide +kernel, by decide +kernel, by decide +kernel⟩, zin 752 (by decide +kernel) (by decide +kernel), zin 753 (by decide +kernel) (by decide +kernel), by decide, rfl⟩
set_option maxRecDepth 20000 in
theorem k_Se_copy : zMv m_Se_copy 1 8 := ⟨⟨zin 81 (by decide +kernel) (by decide +kernel), zin 789 (by decide +kernel) (by decide +kernel), by decide +kernel, by decide +kernel, by decide +kernel⟩, zin 787 (by decide +kernel) (by decide +kernel), zin 788 (by decide +kernel) (by decide +kernel), by decide, rfl⟩
set_option maxRecDepth 20000 in
theorem k_Se_sortsOf : zMv m_Se_sortsOf 2 8 := ⟨⟨zin 81 (by decide +kernel) (by decide +kernel), zin 520 (by decide +kernel) (by decide +kernel), by decide +kernel, by decide +kernel, by decide +kernel⟩, zin 518 (by decide +kernel) (by decide +kernel), zin 519 (by decide +kernel) (by decide +kernel), by decide, rfl⟩
set_option maxRecDepth 20000 in
theorem k_Se_canBe : zMv m_Se_canBe 3 8 := ⟨⟨zin 81 (by decide +kernel) (by decide +kernel), zin 524 (by decide +kernel) (by decide +kernel), by decide +kernel, by decide +kernel, by decide +kernel⟩, zin 523 (by decide +kernel) (by decide +kernel), zin 14 (by decide +kernel) (by decide +kernel), by decide, rfl⟩
set_option maxRecDepth 20000 in
theorem k_Se_nextAsk : zMs m_Se_nextAsk 2 := ⟨⟨zin 81 (by decide +kernel) (by decide +kernel), zin 534 (by decide +kernel) (by decide +kernel), by decide +kernel, by decide +kernel, by decide +kernel⟩, zin 533 (by decide +kernel) (by decide +kernel)⟩
set_option maxRecDepth 20000 in
theorem k_Se_leftAtWorst : zMs m_Se_leftAtWorst 3 := ⟨⟨zin 81 (by decide +kernel) (by decide +kernel), zin 537 (by decide +kernel) (by decide +kernel), by decide +kernel, by decide +kernel, by decide +kernel⟩, zin 536 (by decide +kernel) (by decide +kernel)⟩
set_option maxRecDepth 20000 in
theorem k_St_init : zMi m_St_init 0 := ⟨⟨zin 82 (by decide +kernel) (by decide +kernel), zin 191 (by decide +kernel) (by decide +kernel), by decide +kernel, by decide +kernel, by decide +kernel⟩, zin 190 (by decide +kernel) (by decide +kernel), rfl, rfl⟩
set_option maxRecDepth 20000 in
theorem k_St_build : zMv m_St_build 1 9 := ⟨⟨zin 82 (by decide +kernel) (by decide +kernel), zin 414 (by decide +kernel) (by decide +kernel), by decide +kernel, by decide +kernel, by decide +kernel⟩, zin 412 (by decide +kernel) (by decide +kernel), zin 413 (by decide +kernel) (by decide +kernel), by decide, rfl⟩
set_option maxRecDepth 20000 in
theorem k_St_readCurves : zMv m_St_readCurves 1 9 := ⟨⟨zin 82 (by decide +kernel) (by decide +kernel), zin 418 (by decide +kernel) (by decide +kernel), by decide +kernel, by decide +kernel, by decide +kernel⟩, zin 417 (by decide +kernel) (by decide +kernel), zin 2 (by decide +kernel) (by decide +kernel), by decide, rfl⟩
set_option maxRecDepth 20000 in
theorem k_St_meet : zMv m_St_meet 2 9 := ⟨⟨zin 82 (by decide +kernel) (by decide +kernel), zin 456 (by decide +kernel) (by decide +kernel), by decide +kernel, by decide +kernel, by decide +kernel⟩, zin 455 (by decide +kernel) (by decide +kernel), zin 4 (by decide +kernel) (by decide +kernel), by decide, rfl⟩
set_option maxRecDepth 20000 in
theorem k_St_enter : zMv m_St_enter 4 9 := ⟨⟨zin 82 (by decide +kernel) (by decide +kernel), zin 433 (by decide +kernel) (by decide +kernel), by decide +kernel, by decide +kernel, by decide +kernel⟩, zin 432 (by decide +kernel) (by decide +kernel), zin 3 (by decide +kernel) (by decide +kernel), by decide, rfl⟩
set_option maxRecDepth 20000 in
theorem k_St_comeFromFarLeft : zMv m_St_comeFromFarLeft 0 9 := ⟨⟨zin 82 (by decide +kernel) (by decide +kernel), zin 467 (by decide +kernel) (by decide +kernel), by decide +kernel, by decide +kernel, by decide +kernel⟩, zin 466 (by decide +kernel) (by decide +kernel), zin 5 (by decide +kernel) (by decide +kernel), by decide, rfl⟩
set_option maxRecDepth 20000 in
theorem k_St_stopAt : zMv m_St_stopAt 1 9 := ⟨⟨zin 82 (by decide +kernel) (by decide +kernel), zin 490 (by decide +kernel) (by decide +kernel), by decide +kernel, by decide +kernel, by decide +kernel⟩, zin 489 (by decide +kernel) (by decide +kernel), zin 10 (by decide +kernel) (by decide +kernel), by decide, rfl⟩
set_option maxRecDepth 20000 in
theorem k_St_goOnFrom : zMv m_St_goOnFrom 1 9 := ⟨⟨zin 82 (by decide +kernel) (by decide +kernel), zin 500 (by decide +kernel) (by decide +kernel), by decide +kernel, by decide +kernel, by decide +kernel⟩, zin 499 (by decide +kernel) (by decide +kernel), zin 11 (by decide +kernel) (by decide +kernel), by decide, rfl⟩
set_option maxRecDepth 20000 in
theorem k_St_note : zMv m_St_note 3 9 := ⟨⟨zin 82 (by decide +kernel) (by decide +kernel), zin 474 (by decide +kernel) (by decide +kernel), by decide +kernel, by decide +kernel, by decide +kernel⟩, zin 473 (by decide +kernel) (by decide +kernel), zin 6 (by decide +kernel) (by decide +kernel), by decide, rfl⟩
set_option maxRecDepth 20000 in
theorem k_St_settle : zMv m_St_settle 1 9 := ⟨⟨zin 82 (by decide +kernel) (by decide +kernel), zin 478 (by decide +kernel) (by decide +kernel), by decide +kernel, by decide +kernel, by decide +kernel⟩, zin 477 (by decide +kernel) (by decide +kernel), zin 7 (by decide +kernel) (by decide +kernel), by decide, rfl⟩
set_option maxRecDepth 20000 in
theorem k_St_isFirstOfItsY : zMv m_St_isFirstOfItsY 1 9 := ⟨⟨zin 82 (by decide +kernel) (by decide +kernel), zin 482 (by decide +kernel) (by decide +kernel), by decide +kernel, by decide +kernel, by decide +kernel⟩, zin 481 (by decide +kernel) (by decide +kernel), zin 8 (by decide +kernel) (by decide +kernel), by decide, rfl⟩
set_option maxRecDepth 20000 in
theorem k_St_sectionsBelow : zMv m_St_sectionsBelow 1 9 := ⟨⟨zin 82 (by decide +kernel) (by decide +kernel), zin 486 (by decide +kernel) (by decide +kernel), by decide +kernel, by decide +kernel, by decide +kernel⟩, zin 485 (by decide +kernel) (by decide +kernel), zin 9 (by decide +kernel) (by decide +kernel), by decide, rfl⟩
set_option maxRecDepth 20000 in
theorem k_St_placeUprights : zMv m_St_placeUprights 0 9 := ⟨⟨zin 82 (by decide +kernel) (by decide +kernel), zin 504 (by decide +kernel) (by decide +kernel), by decide +kernel, by decide +kernel, by decide +kernel⟩, zin 503 (by decide +kernel) (by decide +kernel), zin 12 (by decide +kernel) (by decide +kernel), by decide, rfl⟩
set_option maxRecDepth 20000 in
theorem k_St_stackAt : zMv m_St_stackAt 1 9 := ⟨⟨zin 82 (by decide +kernel) (by decide +kernel), zin 508 (by decide +kernel) (by decide +kernel), by decide +kernel, by decide +kernel, by decide +kernel⟩, zin 507 (by decide +kernel) (by decide +kernel), zin 13 (by decide +kernel) (by decide +kernel), by decide, rfl⟩
set_option maxRecDepth 20000 in
theorem k_St_has : zMv m_St_has 1 9 := ⟨⟨zin 82 (by decide +kernel) (by decide +kernel), zin 590 (by decide +kernel) (by decide +kernel), by decide +kernel, by decide +kernel, by decide +kernel⟩, zin 588 (by decide +kernel) (by decide +kernel), zin 589 (by decide +kernel) (by decide +kernel), by decide, rfl⟩
set_option maxRecDepth 20000 in
theorem k_St_hasCell : zMv m_St_hasCell 2 9 := ⟨⟨zin 82 (by decide +kernel) (by decide +kernel), zin 598 (by decide +kernel) (by decide +kernel), by decide +kernel, by decide +kernel, by decide +kernel⟩, zin 596 (by decide +kernel) (by decide +kernel), zin 597 (by decide +kernel) (by decide +kernel), by decide, rfl⟩
set_option maxRecDepth 20000 in
theorem k_St_sections : zMv m_St_sections 0 9 := ⟨⟨zin 82 (by decide +kernel) (by decide +kernel), zin 655 (by decide +kernel) (by decide +kernel), by decide +kernel, by decide +kernel, by decide +kernel⟩, zin 653 (by decide +kernel) (by decide +kernel), zin 654 (by decide +kernel) (by decide +kernel), by decide, rfl⟩
set_option maxRecDepth 20000 in
theorem k_St_cells : zMv m_St_cells 0 9 := ⟨⟨zin 82 (by decide +kernel) (by decide +kernel), zin 651 (by decide +kernel) (by decide +kernel), by decide +kernel, by decide +kernel, by decide +kernel⟩, zin 649 (by decide +kernel) (by decide +kernel), zin 650 (by decide +kernel) (by decide +kernel), by decide, rfl⟩
set_option maxRecDepth 20000 in
theorem k_St_sideOf : zMv m_St_sideOf 3 9 := ⟨⟨zin 82 (by decide +kernel) (by decide +kernel), zin 603 (by decide +kernel) (by decide +kernel), by decide +kernel, by decide +kernel, by decide +kernel⟩, zin 601 (by decide +kernel) (by decide +kernel), zin 602 (by decide +kernel) (by decide +kernel), by decide, rfl⟩
set_option maxRecDepth 20000 in
theorem k_St_uprightsAt : zMv m_St_uprightsAt 1 9 := ⟨⟨zin 82 (by decide +kernel) (by decide +kernel), zin 582 (by decide +kernel) (by decide +kernel), by decide +kernel, by decide +kernel, by decide +kernel⟩, zin 580 (by decide +kernel) (by decide +kernel), zin 581 (by decide +kernel) (by decide +kernel), by decide, rfl⟩
set_option maxRecDepth 20000 in
theorem k_St_pairsMeetingAt : zMv m_St_pairsMeetingAt 1 9 := ⟨⟨zin 82 (by decide +kernel) (by decide +kernel), zin 574 (by decide +kernel) (by decide +kernel), by decide +kernel, by decide +kernel, by decide +kernel⟩, zin 572 (by decide +kernel) (by decide +kernel), zin 573 (by decide +kernel) (by decide +kernel), by decide, rfl⟩
set_option maxRecDepth 20000 in
theorem k_St_meetAt : zMv m_St_meetAt 3 9 := ⟨⟨zin 82 (by decide +kernel) (by decide +kernel), zin 578 (by decide +kernel) (by decide +kernel), by decide +kernel, by decide +kernel, by decide +kernel⟩, zin 577 (by decide +kernel) (by decide +kernel), zin 15 (by decide +kernel) (by decide +kernel), by decide, rfl⟩
set_option maxRecDepth 20000 in
theorem k_St_neighboursOf : zMv m_St_neighboursOf 2 9 := ⟨⟨zin 82 (by decide +kernel) (by decide +kernel), zin 611 (by decide +kernel) (by decide +kernel), by decide +kernel, by decide +kernel, by decide +kernel⟩, zin 609 (by decide +kernel) (by decide +kernel), zin 610 (by decide +kernel) (by decide +kernel), by decide, rfl⟩
set_option maxRecDepth 20000 in
theorem k_St_comingTo : zMv m_St_comingTo 3 9 := ⟨⟨zin 82 (by decide +kernel) (by decide +kernel), zin 627 (by decide +kernel) (by decide +kernel), by decide +kernel, by decide +kernel, by decide +kernel⟩, zin 626 (by decide +kernel) (by decide +kernel), zin 17 (by decide +kernel) (by decide +kernel), by decide, rfl⟩
set_option maxRecDepth 20000 in
theorem k_St_lowestBeside : zMv m_St_lowestBeside 3 9 := ⟨⟨zin 82 (by decide +kernel) (by decide +kernel), zin 623 (by decide +kernel) (by decide +kernel), by decide +kernel, by decide +kernel, by decide +kernel⟩, zin 621 (by decide +kernel) (by decide +kernel), zin 622 (by decide +kernel) (by decide +kernel), by decide, rfl⟩
set_option maxRecDepth 20000 in
theorem k_St_highestBeside : zMv m_St_highestBeside 3 9 := ⟨⟨zin 82 (by decide +kernel) (by decide +kernel), zin 615 (by decide +kernel) (by decide +kernel), by decide +kernel, by decide +kernel, by decide +kernel⟩, zin 613 (by decide +kernel) (by decide +kernel), zin 614 (by decide +kernel) (by decide +kernel), by decide, rfl⟩
set_option maxRecDepth 20000 in
theorem k_St_sectionBeside : zMv m_St_sectionBeside 3 9 := ⟨⟨zin 82 (by decide +kernel) (by decide +kernel), zin 619 (by decide +kernel) (by decide +kernel), by decide +kernel, by decide +kernel, by decide +kernel⟩, zin 618 (by decide +kernel) (by decide +kernel), zin 16 (by decide +kernel) (by decide +kernel), by decide, rfl⟩
set_option maxRecDepth 20000 in
theorem k_Cp_init : zMi m_Cp_init 0 := ⟨⟨zin 77 (by decide +kernel) (by decide +kernel), zin 97 (by decide +kernel) (by decide +kernel), by decide +kernel, by decide +kernel, by decide +kernel⟩, zin 96 (by decide +kernel) (by decide +kernel), rfl, rfl⟩
set_option maxRecDepth 20000 in
theorem k_Cp_letter : zMv m_Cp_letter 1 10 := ⟨⟨zin 77 (by decide +kernel) (by decide +kernel), zin 360 (by decide +kernel) (by decide +kernel), by decide +kernel, by decide +kernel, by decide +kernel⟩, zin 358 (by decide +kernel) (by decide +kernel), zin 359 (by decide +kernel) (by decide +kernel), by decide, rfl⟩
set_option maxRecDepth 20000 in
theorem k_Cp_blank : zMv m_Cp_blank 0 10 := ⟨⟨zin 77 (by decide +kernel) (by decide +kernel), zin 368 (by decide +kernel) (by decide +kernel), by decide +kernel, by decide +kernel, by decide +kernel⟩, zin 366 (by decide +kernel) (by decide +kernel), zin 367 (by decide +kernel) (by decide +kernel), by decide, rfl⟩
set_option maxRecDepth 20000 in
theorem k_Cp_fault : zMv m_Cp_fault 0 10 := ⟨⟨zin 77 (by decide +kernel) (by decide +kernel), zin 372 (by decide +kernel) (by decide +kernel), by decide +kernel, by decide +kernel, by decide +kernel⟩, zin 370 (by decide +kernel) (by decide +kernel), zin 371 (by decide +kernel) (by decide +kernel), by decide, rfl⟩
set_option maxRecDepth 20000 in
theorem k_Cp_plane : zMv m_Cp_plane 0 10 := ⟨⟨zin 77 (by decide +kernel) (by decide +kernel), zin 388 (by decide +kernel) (by decide +kernel), by decide +kernel, by decide +kernel, by decide +kernel⟩, zin 386 (by decide +kernel) (by decide +kernel), zin 387 (by decide +kernel) (by decide +kernel), by decide, rfl⟩
set_option maxRecDepth 20000 in
theorem k_Cp_curve : zMv m_Cp_curve 2 10 := ⟨⟨zin 77 (by decide +kernel) (by decide +kernel), zin 512 (by decide +kernel) (by decide +kernel), by decide +kernel, by decide +kernel, by decide +kernel⟩, zin 510 (by decide +kernel) (by decide +kernel), zin 511 (by decide +kernel) (by decide +kernel), by decide, rfl⟩
set_option maxRecDepth 20000 in
theorem k_Cp_as : zMv m_Cp_as 2 10 := ⟨⟨zin 77 (by decide +kernel) (by decide +kernel), zin 544 (by decide +kernel) (by decide +kernel), by decide +kernel, by decide +kernel, by decide +kernel⟩, zin 542 (by decide +kernel) (by decide +kernel), zin 543 (by decide +kernel) (by decide +kernel), by decide, rfl⟩
set_option maxRecDepth 20000 in
theorem k_Cp_point : zMv m_Cp_point 2 10 := ⟨⟨zin 77 (by decide +kernel) (by decide +kernel), zin 555 (by decide +kernel) (by decide +kernel), by decide +kernel, by decide +kernel, by decide +kernel⟩, zin 553 (by decide +kernel) (by decide +kernel), zin 554 (by decide +kernel) (by decide +kernel), by decide, rfl⟩
set_option maxRecDepth 20000 in
theorem k_Cp_stack : zMv m_Cp_stack 1 10 := ⟨⟨zin 77 (by decide +kernel) (by decide +kernel), zin 586 (by decide +kernel) (by decide +kernel), by decide +kernel, by decide +kernel, by decide +kernel⟩, zin 584 (by decide +kernel) (by decide +kernel), zin 585 (by decide +kernel) (by decide +kernel), by decide, rfl⟩
set_option maxRecDepth 20000 in
theorem k_Cp_cell : zMv m_Cp_cell 3 10 := ⟨⟨zin 77 (by decide +kernel) (by decide +kernel), zin 594 (by decide +kernel) (by decide +kernel), by decide +kernel, by decide +kernel, by decide +kernel⟩, zin 592 (by decide +kernel) (by decide +kernel), zin 593 (by decide +kernel) (by decide +kernel), by decide, rfl⟩
set_option maxRecDepth 20000 in
theorem k_Cp_neighbours : zMv m_Cp_neighbours 2 10 := ⟨⟨zin 77 (by decide +kernel) (by decide +kernel), zin 607 (by decide +kernel) (by decide +kernel), by decide +kernel, by decide +kernel, by decide +kernel⟩, zin 605 (by decide +kernel) (by decide +kernel), zin 606 (by decide +kernel) (by decide +kernel), by decide, rfl⟩
set_option maxRecDepth 20000 in
theorem k_Cp_put : zMv m_Cp_put 3 10 := ⟨⟨zin 77 (by decide +kernel) (by decide +kernel), zin 631 (by decide +kernel) (by decide +kernel), by decide +kernel, by decide +kernel, by decide +kernel⟩, zin 629 (by decide +kernel) (by decide +kernel), zin 630 (by decide +kernel) (by decide +kernel), by decide, rfl⟩
set_option maxRecDepth 20000 in
theorem k_Cp_take : zMv m_Cp_take 1 10 := ⟨⟨zin 77 (by decide +kernel) (by decide +kernel), zin 638 (by decide +kernel) (by decide +kernel), by decide +kernel, by decide +kernel, by decide +kernel⟩, zin 636 (by decide +kernel) (by decide +kernel), zin 637 (by decide +kernel) (by decide +kernel), by decide, rfl⟩
set_option maxRecDepth 20000 in
theorem k_Cp_move : zMv m_Cp_move 3 10 := ⟨⟨zin 77 (by decide +kernel) (by decide +kernel), zin 647 (by decide +kernel) (by decide +kernel), by decide +kernel, by decide +kernel, by decide +kernel⟩, zin 645 (by decide +kernel) (by decide +kernel), zin 646 (by decide +kernel) (by decide +kernel), by decide, rfl⟩
set_option maxRecDepth 20000 in
theorem k_Cp_change : zMv m_Cp_change 2 10 := ⟨⟨zin 77 (by decide +kernel) (by decide +kernel), zin 659 (by decide +kernel) (by decide +kernel), by decide +kernel, by decide +kernel, by decide +kernel⟩, zin 657 (by decide +kernel) (by decide +kernel), zin 658 (by decide +kernel) (by decide +kernel), by decide, rfl⟩
set_option maxRecDepth 20000 in
theorem k_Cp_mirror : zMv m_Cp_mirror 0 10 := ⟨⟨zin 77 (by decide +kernel) (by decide +kernel), zin 663 (by decide +kernel) (by decide +kernel), by decide +kernel, by decide +kernel, by decide +kernel⟩, zin 661 (by decide +kernel) (by decide +kernel), zin 662 (by decide +kernel) (by decide +kernel), by decide, rfl⟩
set_option maxRecDepth 20000 in
theorem k_Cp_sentence : zMv m_Cp_sentence 4 10 := ⟨⟨zin 77 (by decide +kernel) (by decide +kernel), zin 672 (by decide +kernel) (by decide +kernel), by decide +kernel, by decide +kernel, by decide +kernel⟩, zin 670 (by decide +kernel) (by decide +kernel), zin 671 (by decide +kernel) (by decide +kernel), by decide, rfl⟩
set_option maxRecDepth 20000 in
theorem k_Cp_pieces : zMv m_Cp_pieces 2 10 := ⟨⟨zin 77 (by decide +kernel) (by decide +kernel), zin 709 (by decide +kernel) (by decide +kernel), by decide +kernel, by decide +kernel, by decide +kernel⟩, zin 707 (by decide +kernel) (by decide +kernel), zin 708 (by decide +kernel) (by decide +kernel), by decide, rfl⟩
set_option maxRecDepth 20000 in
theorem k_Cp_loose : zMv m_Cp_loose 0 10 := ⟨⟨zin 77 (by decide +kernel) (by decide +kernel), zin 742 (by decide +kernel) (by decide +kernel), by decide +kernel, by decide +kernel, by decide +kernel⟩, zin 740 (by decide +kernel) (by decide +kernel), zin 741 (by decide +kernel) (by decide +kernel), by decide, rfl⟩
set_option maxRecDepth 20000 in
theorem k_Cp_see : zMv m_Cp_see 4 10 := ⟨⟨zin 77 (by decide +kernel) (by decide +kernel), zin 750 (by decide +kernel) (by decide +kernel), by decide +kernel, by decide +kernel, by decide +kernel⟩, zin 748 (by decide +kernel) (by decide +kernel), zin 749 (by decide +kernel) (by decide +kernel), by decide, rfl⟩
set_option maxRecDepth 20000 in
theorem k_Cp_forget : zMv m_Cp_forget 0 10 := ⟨⟨zin 77 (by decide +kernel) (by decide +kernel), zin 758 (by decide +kernel) (by decide +kernel), by decide +kernel, by decide +kernel, by decide +kernel⟩, zin 756 (by decide +kernel) (by decide +kernel), zin 757 (by decide +kernel) (by decide +kernel), by decide, rfl⟩
set_option maxRecDepth 20000 in
theorem k_Cp_dice : zMv m_Cp_dice 1 10 := ⟨⟨zin 77 (by decide +kernel) (by decide +kernel), zin 762 (by decide +kernel) (by decide +kernel), by decide +kernel, by decide +kernel, by decide +kernel⟩, zin 760 (by decide +kernel) (by decide +kernel), zin 761 (by decide +kernel) (by decide +kernel), by decide, rfl⟩
set_option maxRecDepth 20000 in
theorem k_Cp_latest : zMv m_Cp_latest 1 10 := ⟨⟨zin 77 (by decide +kernel) (by decide +kernel), zin 774 (by decide +kernel) (by decide +kernel), by decide +kernel, by decide +kernel, by decide +kernel⟩, zin 772 (by decide +kernel) (by decide +kernel), zin 773 (by decide +kernel) (by decide +kernel), by decide, rfl⟩
set_option maxRecDepth 20000 in
theorem k_Cp_image : zMv m_Cp_image 0 10 := ⟨⟨zin 77 (by decide +kernel) (by decide +kernel), zin 785 (by decide +kernel) (by decide +kernel), by decide +kernel, by decide +kernel, by decide +kernel⟩, zin 783 (by decide +kernel) (by decide +kernel), zin 784 (by decide +kernel) (by decide +kernel), by decide, rfl⟩
set_option maxRecDepth 20000 in
theorem k_Cp_restore : zMv m_Cp_restore 0 10 := ⟨⟨zin 77 (by decide +kernel) (by decide +kernel), zin 793 (by decide +kernel) (by decide +kernel), by decide +kernel, by decide +kernel, by decide +kernel⟩, zin 791 (by decide +kernel) (by decide +kernel), zin 792 (by decide +kernel) (by decide +kernel), by decide, rfl⟩
set_option maxRecDepth 20000 in
theorem k_Cp_count : zMv m_Cp_count 1 10 := ⟨⟨zin 77 (by decide +kernel) (by decide +kernel), zin 797 (by decide +kernel) (by decide +kernel), by decide +kernel, by decide +kernel, by decide +kernel⟩, zin 795 (by decide +kernel) (by decide +kernel), zin 796 (by decide +kernel) (by decide +kernel), by decide, rfl⟩
set_option maxRecDepth 20000 in
theorem k_Cp_digest : zMv m_Cp_digest 0 10 := ⟨⟨zin 77 (by decide +kernel) (by decide +kernel), zin 802 (by decide +kernel) (by decide +kernel), by decide +kernel, by decide +kernel, by decide +kernel⟩, zin 800 (by decide +kernel) (by decide +kernel), zin 801 (by decide +kernel) (by decide +kernel), by decide, rfl⟩
set_option maxRecDepth 20000 in
theorem k_Cp_mix : zMs m_Cp_mix 2 := ⟨⟨zin 77 (by decide +kernel) (by decide +kernel), zin 811 (by decide +kernel) (by decide +kernel), by decide +kernel, by decide +kernel, by decide +kernel⟩, zin 810 (by decide +kernel) (by decide +kernel)⟩
set_option maxRecDepth 20000 in
theorem k_Cp_mixCurves : zMv m_Cp_mixCurves 1 10 := ⟨⟨zin 77 (by decide +kernel) (by decide +kernel), zin 807 (by decide +kernel) (by decide +kernel), by decide +kernel, by decide +kernel, by decide +kernel⟩, zin 806 (by decide +kernel) (by decide +kernel), zin 24 (by decide +kernel) (by decide +kernel), by decide, rfl⟩
set_option maxRecDepth 20000 in
theorem k_Cp_mixPoints : zMv m_Cp_mixPoints 1 10 := ⟨⟨zin 77 (by decide +kernel) (by decide +kernel), zin 816 (by decide +kernel) (by decide +kernel), by decide +kernel, by decide +kernel, by decide +kernel⟩, zin 815 (by decide +kernel) (by decide +kernel), zin 25 (by decide +kernel) (by decide +kernel), by decide, rfl⟩
set_option maxRecDepth 20000 in
theorem k_Cp_mixStacks : zMv m_Cp_mixStacks 1 10 := ⟨⟨zin 77 (by decide +kernel) (by decide +kernel), zin 821 (by decide +kernel) (by decide +kernel), by decide +kernel, by decide +kernel, by decide +kernel⟩, zin 820 (by decide +kernel) (by decide +kernel), zin 26 (by decide +kernel) (by decide +kernel), by decide, rfl⟩
set_option maxRecDepth 20000 in
theorem k_Cp_isKind : zMs m_Cp_isKind 1 := ⟨⟨zin 77 (by decide +kernel) (by decide +kernel), zin 547 (by decide +kernel) (by decide +kernel), by decide +kernel, by decide +kernel, by decide +kernel⟩, zin 546 (by decide +kernel) (by decide +kernel)⟩
set_option maxRecDepth 20000 in
theorem k_Cp_isNear : zMs m_Cp_isNear 1 := ⟨⟨zin 77 (by decide +kernel) (by decide +kernel), zin 634 (by decide +kernel) (by decide +kernel), by decide +kernel, by decide +kernel, by decide +kernel⟩, zin 633 (by decide +kernel) (by decide +kernel)⟩
set_option maxRecDepth 20000 in
theorem k_Cp_isBit : zMs m_Cp_isBit 1 := ⟨⟨zin 77 (by decide +kernel) (by decide +kernel), zin 675 (by decide +kernel) (by decide +kernel), by decide +kernel, by decide +kernel, by decide +kernel⟩, zin 674 (by decide +kernel) (by decide +kernel)⟩
set_option maxRecDepth 20000 in
theorem k_Cp_appendCurve : zMv m_Cp_appendCurve 3 10 := ⟨⟨zin 77 (by decide +kernel) (by decide +kernel), zin 402 (by decide +kernel) (by decide +kernel), by decide +kernel, by decide +kernel, by decide +kernel⟩, zin 401 (by decide +kernel) (by decide +kernel), zin 1 (by decide +kernel) (by decide +kernel), by decide, rfl⟩
set_option maxRecDepth 20000 in
theorem k_Cp_isSo : zMv m_Cp_isSo 2 10 := ⟨⟨zin 77 (by decide +kernel) (by decide +kernel), zin 686 (by decide +kernel) (by decide +kernel), by decide +kernel, by decide +kernel, by decide +kernel⟩, zin 685 (by decide +kernel) (by decide +kernel), zin 18 (by decide +kernel) (by decide +kernel), by decide, rfl⟩
set_option maxRecDepth 20000 in
theorem k_Cp_isSoOver : zMv m_Cp_isSoOver 2 10 := ⟨⟨zin 77 (by decide +kernel) (by decide +kernel), zin 690 (by decide +kernel) (by decide +kernel), by decide +kernel, by decide +kernel, by decide +kernel⟩, zin 689 (by decide +kernel) (by decide +kernel), zin 19 (by decide +kernel) (by decide +kernel), by decide, rfl⟩
set_option maxRecDepth 20000 in
theorem k_Mo_init : zMi m_Mo_init 0 := ⟨⟨zin 88 (by decide +kernel) (by decide +kernel), zin 828 (by decide +kernel) (by decide +kernel), by decide +kernel, by decide +kernel, by decide +kernel⟩, zin 827 (by decide +kernel) (by decide +kernel), rfl, rfl⟩
set_option maxRecDepth 20000 in
theorem k_Mo_in : zMs m_Mo_in 3 := ⟨⟨zin 88 (by decide +kernel) (by decide +kernel), zin 941 (by decide +kernel) (by decide +kernel), by decide +kernel, by decide +kernel, by decide +kernel⟩, zin 940 (by decide +kernel) (by decide +kernel)⟩
set_option maxRecDepth 20000 in
theorem k_Mo_copy : zMs m_Mo_copy 2 := ⟨⟨zin 88 (by decide +kernel) (by decide +kernel), zin 1252 (by decide +kernel) (by decide +kernel), by decide +kernel, by decide +kernel, by decide +kernel⟩, zin 1251 (by decide +kernel) (by decide +kernel)⟩
set_option maxRecDepth 20000 in
theorem k_Mo_letter : zMv m_Mo_letter 1 11 := ⟨⟨zin 88 (by decide +kernel) (by decide +kernel), zin 937 (by decide +kernel) (by decide +kernel), by decide +kernel, by decide +kernel, by decide +kernel⟩, zin 935 (by decide +kernel) (by decide +kernel), zin 936 (by decide +kernel) (by decide +kernel), by decide, rfl⟩
set_option maxRecDepth 20000 in
theorem k_Mo_blank : zMv m_Mo_blank 0 11 := ⟨⟨zin 88 (by decide +kernel) (by decide +kernel), zin 945 (by decide +kernel) (by decide +kernel), by decide +kernel, by decide +kernel, by decide +kernel⟩, zin 943 (by decide +kernel) (by decide +kernel), zin 944 (by decide +kernel) (by decide +kernel), by decide, rfl⟩
set_option maxRecDepth 20000 in
theorem k_Mo_kindBy : zMs m_Mo_kindBy 1 := ⟨⟨zin 88 (by decide +kernel) (by decide +kernel), zin 960 (by decide +kernel) (by decide +kernel), by decide +kernel, by decide +kernel, by decide +kernel⟩, zin 959 (by decide +kernel) (by decide +kernel)⟩
set_option maxRecDepth 20000 in
theorem k_Mo_isGood : zMv m_Mo_isGood 1 11 := ⟨⟨zin 88 (by decide +kernel) (by decide +kernel), zin 957 (by decide +kernel) (by decide +kernel), by decide +kernel, by decide +kernel, by decide +kernel⟩, zin 956 (by decide +kernel) (by decide +kernel), zin 28 (by decide +kernel) (by decide +kernel), by decide, rfl⟩
set_option maxRecDepth 20000 in
theorem k_Mo_faultOf : zMv m_Mo_faultOf 0 11 := ⟨⟨zin 88 (by decide +kernel) (by decide +kernel), zin 953 (by decide +kernel) (by decide +kernel), by decide +kernel, by decide +kernel, by decide +kernel⟩, zin 952 (by decide +kernel) (by decide +kernel), zin 27 (by decide +kernel) (by decide +kernel), by decide, rfl⟩
set_option maxRecDepth 20000 in
theorem k_Mo_fault : zMv m_Mo_fault 0 11 := ⟨⟨zin 88 (by decide +kernel) (by decide +kernel), zin 949 (by decide +kernel) (by decide +kernel), by decide +kernel, by decide +kernel, by decide +kernel⟩, zin 947 (by decide +kernel) (by decide +kernel), zin 948 (by decide +kernel) (by decide +kernel), by decide, rfl⟩
set_option maxRecDepth 20000 in
theorem k_Mo_numberAt : zMv m_Mo_numberAt 1 11 := ⟨⟨zin 88 (by decide +kernel) (by decide +kernel), zin 970 (by decide +kernel) (by decide +kernel), by decide +kernel, by decide +kernel, by decide +kernel⟩, zin 969 (by decide +kernel) (by decide +kernel), zin 29 (by decide +kernel) (by decide +kernel), by decide, rfl⟩
set_option maxRecDepth 20000 in
theorem k_Mo_name : zMv m_Mo_name 1 11 := ⟨⟨zin 88 (by decide +kernel) (by decide +kernel), zin 974 (by decide +kernel) (by decide +kernel), by decide +kernel, by decide +kernel, by decide +kernel⟩, zin 973 (by decide +kernel) (by decide +kernel), zin 30 (by decide +kernel) (by decide +kernel), by decide, rfl⟩
set_option maxRecDepth 20000 in
theorem k_Mo_plane : zMv m_Mo_plane 0 11 := ⟨⟨zin 88 (by decide +kernel) (by decide +kernel), zin 966 (by decide +kernel) (by decide +kernel), by decide +kernel, by decide +kernel, by decide +kernel⟩, zin 964 (by decide +kernel) (by decide +kernel), zin 965 (by decide +kernel) (by decide +kernel), by decide, rfl⟩
set_option maxRecDepth 20000 in
theorem k_Mo_lacks : zMv m_Mo_lacks 0 11 := ⟨⟨zin 88 (by decide +kernel) (by decide +kernel), zin 986 (by decide +kernel) (by decide +kernel), by decide +kernel, by decide +kernel, by decide +kernel⟩, zin 985 (by decide +kernel) (by decide +kernel), zin 32 (by decide +kernel) (by decide +kernel), by decide, rfl⟩
set_option maxRecDepth 20000 in
theorem k_Mo_isCurve : zMv m_Mo_isCurve 1 11 := ⟨⟨zin 88 (by decide +kernel) (by decide +kernel), zin 1087 (by decide +kernel) (by decide +kernel), by decide +kernel, by decide +kernel, by decide +kernel⟩, zin 1086 (by decide +kernel) (by decide +kernel), zin 52 (by decide +kernel) (by decide +kernel), by decide, rfl⟩
set_option maxRecDepth 20000 in
theorem k_Mo_squareBy : zMs m_Mo_squareBy 1 := ⟨⟨zin 88 (by decide +kernel) (by decide +kernel), zin 1035 (by decide +kernel) (by decide +kernel), by decide +kernel, by decide +kernel, by decide +kernel⟩, zin 1034 (by decide +kernel) (by decide +kernel)⟩
set_option maxRecDepth 20000 in
theorem k_Mo_square : zMv m_Mo_square 1 11 := ⟨⟨zin 88 (by decide +kernel) (by decide +kernel), zin 1032 (by decide +kernel) (by decide +kernel), by decide +kernel, by decide +kernel, by decide +kernel⟩, zin 1031 (by decide +kernel) (by decide +kernel), zin 41 (by decide +kernel) (by decide +kernel), by decide, rfl⟩
set_option maxRecDepth 20000 in
theorem k_Mo_slope : zMv m_Mo_slope 1 11 := ⟨⟨zin 88 (by decide +kernel) (by decide +kernel), zin 1039 (by decide +kernel) (by decide +kernel), by decide +kernel, by decide +kernel, by decide +kernel⟩, zin 1038 (by decide +kernel) (by decide +kernel), zin 42 (by decide +kernel) (by decide +kernel), by decide, rfl⟩
set_option maxRecDepth 20000 in
theorem k_Mo_isFlat : zMv m_Mo_isFlat 1 11 := ⟨⟨zin 88 (by decide +kernel) (by decide +kernel), zin 1002 (by decide +kernel) (by decide +kernel), by decide +kernel, by decide +kernel, by decide +kernel⟩, zin 1001 (by decide +kernel) (by decide +kernel), zin 36 (by decide +kernel) (by decide +kernel), by decide, rfl⟩
set_option maxRecDepth 20000 in
theorem k_Mo_isSame : zMv m_Mo_isSame 2 11 := ⟨⟨zin 88 (by decide +kernel) (by decide +kernel), zin 1196 (by decide +kernel) (by decide +kernel), by decide +kernel, by decide +kernel, by decide +kernel⟩, zin 1195 (by decide +kernel) (by decide +kernel), zin 68 (by decide +kernel) (by decide +kernel), by decide, rfl⟩
set_option maxRecDepth 20000 in
theorem k_Mo_signOf : zMs m_Mo_signOf 1 := ⟨⟨zin 88 (by decide +kernel) (by decide +kernel), zin 1023 (by decide +kernel) (by decide +kernel), by decide +kernel, by decide +kernel, by decide +kernel⟩, zin 1022 (by decide +kernel) (by decide +kernel)⟩
set_option maxRecDepth 20000 in
theorem k_Mo_signRoot : zMs m_Mo_signRoot 3 := ⟨⟨zin 88 (by decide +kernel) (by decide +kernel), zin 1020 (by decide +kernel) (by decide +kernel), by decide +kernel, by decide +kernel, by decide +kernel⟩, zin 1019 (by decide +kernel) (by decide +kernel)⟩
set_option maxRecDepth 20000 in
theorem k_Mo_signRoots : zMs m_Mo_signRoots 5 := ⟨⟨zin 88 (by decide +kernel) (by decide +kernel), zin 1017 (by decide +kernel) (by decide +kernel), by decide +kernel, by decide +kernel, by decide +kernel⟩, zin 1016 (by decide +kernel) (by decide +kernel)⟩
set_option maxRecDepth 20000 in
theorem k_Mo_layNumber : zMv m_Mo_layNumber 5 11 := ⟨⟨zin 88 (by decide +kernel) (by decide +kernel), zin 1010 (by decide +kernel) (by decide +kernel), by decide +kernel, by decide +kernel, by decide +kernel⟩, zin 1009 (by decide +kernel) (by decide +kernel), zin 38 (by decide +kernel) (by decide +kernel), by decide, rfl⟩
set_option maxRecDepth 20000 in
theorem k_Mo_compare : zMv m_Mo_compare 2 11 := ⟨⟨zin 88 (by decide +kernel) (by decide +kernel), zin 1014 (by decide +kernel) (by decide +kernel), by decide +kernel, by decide +kernel, by decide +kernel⟩, zin 1013 (by decide +kernel) (by decide +kernel), zin 39 (by decide +kernel) (by decide +kernel), by decide, rfl⟩
set_option maxRecDepth 20000 in
theorem k_Mo_compareTo : zMv m_Mo_compareTo 3 11 := ⟨⟨zin 88 (by decide +kernel) (by decide +kernel), zin 1059 (by decide +kernel) (by decide +kernel), by decide +kernel, by decide +kernel, by decide +kernel⟩, zin 1058 (by decide +kernel) (by decide +kernel), zin 46 (by decide +kernel) (by decide +kernel), by decide, rfl⟩
set_option maxRecDepth 20000 in
theorem k_Mo_floorOf : zMv m_Mo_floorOf 2 11 := ⟨⟨zin 88 (by decide +kernel) (by decide +kernel), zin 1052 (by decide +kernel) (by decide +kernel), by decide +kernel, by decide +kernel, by decide +kernel⟩, zin 1051 (by decide +kernel) (by decide +kernel), zin 45 (by decide +kernel) (by decide +kernel), by decide, rfl⟩
set_option maxRecDepth 20000 in
theorem k_Mo_difference : zMv m_Mo_difference 3 11 := ⟨⟨zin 88 (by decide +kernel) (by decide +kernel), zin 1067 (by decide +kernel) (by decide +kernel), by decide +kernel, by decide +kernel, by decide +kernel⟩, zin 1066 (by decide +kernel) (by decide +kernel), zin 48 (by decide +kernel) (by decide +kernel), by decide, rfl⟩
set_option maxRecDepth 20000 in
theorem k_Mo_addPoint : zMv m_Mo_addPoint 4 11 := ⟨⟨zin 88 (by decide +kernel) (by decide +kernel), zin 1006 (by decide +kernel) (by decide +kernel), by decide +kernel, by decide +kernel, by decide +kernel⟩, zin 1005 (by decide +kernel) (by decide +kernel), zin 37 (by decide +kernel) (by decide +kernel), by decide, rfl⟩
set_option maxRecDepth 20000 in
theorem k_Mo_addRoots : zMv m_Mo_addRoots 2 11 := ⟨⟨zin 88 (by decide +kernel) (by decide +kernel), zin 1028 (by decide +kernel) (by decide +kernel), by decide +kernel, by decide +kernel, by decide +kernel⟩, zin 1027 (by decide +kernel) (by decide +kernel), zin 40 (by decide +kernel) (by decide +kernel), by decide, rfl⟩
set_option maxRecDepth 20000 in
theorem k_Mo_layPoints : zMv m_Mo_layPoints 1 11 := ⟨⟨zin 88 (by decide +kernel) (by decide +kernel), zin 998 (by decide +kernel) (by decide +kernel), by decide +kernel, by decide +kernel, by decide +kernel⟩, zin 997 (by decide +kernel) (by decide +kernel), zin 35 (by decide +kernel) (by decide +kernel), by decide, rfl⟩
set_option maxRecDepth 20000 in
theorem k_Mo_laySample : zMv m_Mo_laySample 2 11 := ⟨⟨zin 88 (by decide +kernel) (by decide +kernel), zin 1048 (by decide +kernel) (by decide +kernel), by decide +kernel, by decide +kernel, by decide +kernel⟩, zin 1047 (by decide +kernel) (by decide +kernel), zin 44 (by decide +kernel) (by decide +kernel), by decide, rfl⟩
set_option maxRecDepth 20000 in
theorem k_Mo_laySamples : zMv m_Mo_laySamples 0 11 := ⟨⟨zin 88 (by decide +kernel) (by decide +kernel), zin 1044 (by decide +kernel) (by decide +kernel), by decide +kernel, by decide +kernel, by decide +kernel⟩, zin 1043 (by decide +kernel) (by decide +kernel), zin 43 (by decide +kernel) (by decide +kernel), by decide, rfl⟩
set_option maxRecDepth 20000 in
theorem k_Mo_layRanks : zMv m_Mo_layRanks 1 11 := ⟨⟨zin 88 (by decide +kernel) (by decide +kernel), zin 1063 (by decide +kernel) (by decide +kernel), by decide +kernel, by decide +kernel, by decide +kernel⟩, zin 1062 (by decide +kernel) (by decide +kernel), zin 47 (by decide +kernel) (by decide +kernel), by decide, rfl⟩
set_option maxRecDepth 20000 in
theorem k_Mo_isFirst : zMv m_Mo_isFirst 3 11 := ⟨⟨zin 88 (by decide +kernel) (by decide +kernel), zin 1071 (by decide +kernel) (by decide +kernel), by decide +kernel, by decide +kernel, by decide +kernel⟩, zin 1070 (by decide +kernel) (by decide +kernel), zin 49 (by decide +kernel) (by decide +kernel), by decide, rfl⟩
set_option maxRecDepth 20000 in
theorem k_Mo_layAll : zMv m_Mo_layAll 1 11 := ⟨⟨zin 88 (by decide +kernel) (by decide +kernel), zin 994 (by decide +kernel) (by decide +kernel), by decide +kernel, by decide +kernel, by decide +kernel⟩, zin 993 (by decide +kernel) (by decide +kernel), zin 34 (by decide +kernel) (by decide +kernel), by decide, rfl⟩
set_option maxRecDepth 20000 in
theorem k_Mo_freshen : zMv m_Mo_freshen 0 11 := ⟨⟨zin 88 (by decide +kernel) (by decide +kernel), zin 990 (by decide +kernel) (by decide +kernel), by decide +kernel, by decide +kernel, by decide +kernel⟩, zin 989 (by decide +kernel) (by decide +kernel), zin 33 (by decide +kernel) (by decide +kernel), by decide, rfl⟩
set_option maxRecDepth 20000 in
theorem k_Mo_cellsIn : zMv m_Mo_cellsIn 1 11 := ⟨⟨zin 88 (by decide +kernel) (by decide +kernel), zin 1075 (by decide +kernel) (by decide +kernel), by decide +kernel, by decide +kernel, by decide +kernel⟩, zin 1074 (by decide +kernel) (by decide +kernel), zin 50 (by decide +kernel) (by decide +kernel), by decide, rfl⟩
set_option maxRecDepth 20000 in
theorem k_Mo_cellsAll : zMv m_Mo_cellsAll 0 11 := ⟨⟨zin 88 (by decide +kernel) (by decide +kernel), zin 1153 (by decide +kernel) (by decide +kernel), by decide +kernel, by decide +kernel, by decide +kernel⟩, zin 1152 (by decide +kernel) (by decide +kernel), zin 61 (by decide +kernel) (by decide +kernel), by decide, rfl⟩
set_option maxRecDepth 20000 in
theorem k_Mo_isStack : zMv m_Mo_isStack 1 11 := ⟨⟨zin 88 (by decide +kernel) (by decide +kernel), zin 982 (by decide +kernel) (by decide +kernel), by decide +kernel, by decide +kernel, by decide +kernel⟩, zin 981 (by decide +kernel) (by decide +kernel), zin 31 (by decide +kernel) (by decide +kernel), by decide, rfl⟩
set_option maxRecDepth 20000 in
theorem k_Mo_isCell : zMv m_Mo_isCell 2 11 := ⟨⟨zin 88 (by decide +kernel) (by decide +kernel), zin 1083 (by decide +kernel) (by decide +kernel), by decide +kernel, by decide +kernel, by decide +kernel⟩, zin 1082 (by decide +kernel) (by decide +kernel), zin 51 (by decide +kernel) (by decide +kernel), by decide, rfl⟩
set_option maxRecDepth 20000 in
theorem k_Mo_lies : zMv m_Mo_lies 3 11 := ⟨⟨zin 88 (by decide +kernel) (by decide +kernel), zin 1091 (by decide +kernel) (by decide +kernel), by decide +kernel, by decide +kernel, by decide +kernel⟩, zin 1090 (by decide +kernel) (by decide +kernel), zin 53 (by decide +kernel) (by decide +kernel), by decide, rfl⟩
set_option maxRecDepth 20000 in
theorem k_Mo_stack : zMv m_Mo_stack 1 11 := ⟨⟨zin 88 (by decide +kernel) (by decide +kernel), zin 978 (by decide +kernel) (by decide +kernel), by decide +kernel, by decide +kernel, by decide +kernel⟩, zin 976 (by decide +kernel) (by decide +kernel), zin 977 (by decide +kernel) (by decide +kernel), by decide, rfl⟩
set_option maxRecDepth 20000 in
theorem k_Mo_cell : zMv m_Mo_cell 3 11 := ⟨⟨zin 88 (by decide +kernel) (by decide +kernel), zin 1079 (by decide +kernel) (by decide +kernel), by decide +kernel, by decide +kernel, by decide +kernel⟩, zin 1077 (by decide +kernel) (by decide +kernel), zin 1078 (by decide +kernel) (by decide +kernel), by decide, rfl⟩
set_option maxRecDepth 20000 in
theorem k_Mo_comesTo : zMv m_Mo_comesTo 3 11 := ⟨⟨zin 88 (by decide +kernel) (by decide +kernel), zin 1107 (by decide +kernel) (by decide +kernel), by decide +kernel, by decide +kernel, by decide +kernel⟩, zin 1106 (by decide +kernel) (by decide +kernel), zin 56 (by decide +kernel) (by decide +kernel), by decide, rfl⟩
set_option maxRecDepth 20000 in
theorem k_Mo_isBeside : zMv m_Mo_isBeside 4 11 := ⟨⟨zin 88 (by decide +kernel) (by decide +kernel), zin 1103 (by decide +kernel) (by decide +kernel), by decide +kernel, by decide +kernel, by decide +kernel⟩, zin 1102 (by decide +kernel) (by decide +kernel), zin 55 (by decide +kernel) (by decide +kernel), by decide, rfl⟩
set_option maxRecDepth 20000 in
theorem k_Mo_isNeighbour : zMv m_Mo_isNeighbour 4 11 := ⟨⟨zin 88 (by decide +kernel) (by decide +kernel), zin 1099 (by decide +kernel) (by decide +kernel), by decide +kernel, by decide +kernel, by decide +kernel⟩, zin 1098 (by decide +kernel) (by decide +kernel), zin 54 (by decide +kernel) (by decide +kernel), by decide, rfl⟩
set_option maxRecDepth 20000 in
theorem k_Mo_neighbours : zMv m_Mo_neighbours 2 11 := ⟨⟨zin 88 (by decide +kernel) (by decide +kernel), zin 1095 (by decide +kernel) (by decide +kernel), by decide +kernel, by decide +kernel, by decide +kernel⟩, zin 1093 (by decide +kernel) (by decide +kernel), zin 1094 (by decide +kernel) (by decide +kernel), by decide, rfl⟩
set_option maxRecDepth 20000 in
theorem k_Mo_isForm : zMs m_Mo_isForm 1 := ⟨⟨zin 88 (by decide +kernel) (by decide +kernel), zin 1114 (by decide +kernel) (by decide +kernel), by decide +kernel, by decide +kernel, by decide +kernel⟩, zin 1113 (by decide +kernel) (by decide +kernel)⟩
set_option maxRecDepth 20000 in
theorem k_Mo_figureOf : zMs m_Mo_figureOf 2 := ⟨⟨zin 88 (by decide +kernel) (by decide +kernel), zin 1126 (by decide +kernel) (by decide +kernel), by decide +kernel, by decide +kernel, by decide +kernel⟩, zin 1125 (by decide +kernel) (by decide +kernel)⟩
set_option maxRecDepth 20000 in
theorem k_Mo_isSo : zMs m_Mo_isSo 2 := ⟨⟨zin 88 (by decide +kernel) (by decide +kernel), zin 1129 (by decide +kernel) (by decide +kernel), by decide +kernel, by decide +kernel, by decide +kernel⟩, zin 1128 (by decide +kernel) (by decide +kernel)⟩
set_option maxRecDepth 20000 in
theorem k_Mo_holds : zMv m_Mo_holds 4 11 := ⟨⟨zin 88 (by decide +kernel) (by decide +kernel), zin 1123 (by decide +kernel) (by decide +kernel), by decide +kernel, by decide +kernel, by decide +kernel⟩, zin 1122 (by decide +kernel) (by decide +kernel), zin 58 (by decide +kernel) (by decide +kernel), by decide, rfl⟩
set_option maxRecDepth 20000 in
theorem k_Mo_holdsIn : zMv m_Mo_holdsIn 4 11 := ⟨⟨zin 88 (by decide +kernel) (by decide +kernel), zin 1119 (by decide +kernel) (by decide +kernel), by decide +kernel, by decide +kernel, by decide +kernel⟩, zin 1118 (by decide +kernel) (by decide +kernel), zin 57 (by decide +kernel) (by decide +kernel), by decide, rfl⟩
set_option maxRecDepth 20000 in
theorem k_Mo_sentence : zMv m_Mo_sentence 4 11 := ⟨⟨zin 88 (by decide +kernel) (by decide +kernel), zin 1111 (by decide +kernel) (by decide +kernel), by decide +kernel, by decide +kernel, by decide +kernel⟩, zin 1109 (by decide +kernel) (by decide +kernel), zin 1110 (by decide +kernel) (by decide +kernel), by decide, rfl⟩
set_option maxRecDepth 20000 in
theorem k_Mo_latest : zMv m_Mo_latest 1 11 := ⟨⟨zin 88 (by decide +kernel) (by decide +kernel), zin 1133 (by decide +kernel) (by decide +kernel), by decide +kernel, by decide +kernel, by decide +kernel⟩, zin 1131 (by decide +kernel) (by decide +kernel), zin 1132 (by decide +kernel) (by decide +kernel), by decide, rfl⟩
set_option maxRecDepth 20000 in
theorem k_Mo_isSpread : zMv m_Mo_isSpread 0 11 := ⟨⟨zin 88 (by decide +kernel) (by decide +kernel), zin 1145 (by decide +kernel) (by decide +kernel), by decide +kernel, by decide +kernel, by decide +kernel⟩, zin 1144 (by decide +kernel) (by decide +kernel), zin 60 (by decide +kernel) (by decide +kernel), by decide, rfl⟩
set_option maxRecDepth 20000 in
theorem k_Mo_piecesOf : zMv m_Mo_piecesOf 2 11 := ⟨⟨zin 88 (by decide +kernel) (by decide +kernel), zin 1141 (by decide +kernel) (by decide +kernel), by decide +kernel, by decide +kernel, by decide +kernel⟩, zin 1140 (by decide +kernel) (by decide +kernel), zin 59 (by decide +kernel) (by decide +kernel), by decide, rfl⟩
set_option maxRecDepth 20000 in
theorem k_Mo_pieces : zMv m_Mo_pieces 2 11 := ⟨⟨zin 88 (by decide +kernel) (by decide +kernel), zin 1137 (by decide +kernel) (by decide +kernel), by decide +kernel, by decide +kernel, by decide +kernel⟩, zin 1135 (by decide +kernel) (by decide +kernel), zin 1136 (by decide +kernel) (by decide +kernel), by decide, rfl⟩
set_option maxRecDepth 20000 in
theorem k_Mo_loose : zMv m_Mo_loose 0 11 := ⟨⟨zin 88 (by decide +kernel) (by decide +kernel), zin 1149 (by decide +kernel) (by decide +kernel), by decide +kernel, by decide +kernel, by decide +kernel⟩, zin 1147 (by decide +kernel) (by decide +kernel), zin 1148 (by decide +kernel) (by decide +kernel), by decide, rfl⟩
set_option maxRecDepth 20000 in
theorem k_Mo_tellCurve : zMv m_Mo_tellCurve 2 11 := ⟨⟨zin 88 (by decide +kernel) (by decide +kernel), zin 1161 (by decide +kernel) (by decide +kernel), by decide +kernel, by decide +kernel, by decide +kernel⟩, zin 1160 (by decide +kernel) (by decide +kernel), zin 62 (by decide +kernel) (by decide +kernel), by decide, rfl⟩
set_option maxRecDepth 20000 in
theorem k_Mo_curve : zMv m_Mo_curve 2 11 := ⟨⟨zin 88 (by decide +kernel) (by decide +kernel), zin 1157 (by decide +kernel) (by decide +kernel), by decide +kernel, by decide +kernel, by decide +kernel⟩, zin 1155 (by decide +kernel) (by decide +kernel), zin 1156 (by decide +kernel) (by decide +kernel), by decide, rfl⟩
set_option maxRecDepth 20000 in
theorem k_Mo_as : zMv m_Mo_as 2 11 := ⟨⟨zin 88 (by decide +kernel) (by decide +kernel), zin 1177 (by decide +kernel) (by decide +kernel), by decide +kernel, by decide +kernel, by decide +kernel⟩, zin 1175 (by decide +kernel) (by decide +kernel), zin 1176 (by decide +kernel) (by decide +kernel), by decide, rfl⟩
set_option maxRecDepth 20000 in
theorem k_Mo_meeting : zMv m_Mo_meeting 1 11 := ⟨⟨zin 88 (by decide +kernel) (by decide +kernel), zin 1192 (by decide +kernel) (by decide +kernel), by decide +kernel, by decide +kernel, by decide +kernel⟩, zin 1191 (by decide +kernel) (by decide +kernel), zin 67 (by decide +kernel) (by decide +kernel), by decide, rfl⟩
set_option maxRecDepth 20000 in
theorem k_Mo_standing : zMv m_Mo_standing 1 11 := ⟨⟨zin 88 (by decide +kernel) (by decide +kernel), zin 1200 (by decide +kernel) (by decide +kernel), by decide +kernel, by decide +kernel, by decide +kernel⟩, zin 1199 (by decide +kernel) (by decide +kernel), zin 69 (by decide +kernel) (by decide +kernel), by decide, rfl⟩
set_option maxRecDepth 20000 in
theorem k_Mo_tellPoint : zMv m_Mo_tellPoint 2 11 := ⟨⟨zin 88 (by decide +kernel) (by decide +kernel), zin 1186 (by decide +kernel) (by decide +kernel), by decide +kernel, by decide +kernel, by decide +kernel⟩, zin 1185 (by decide +kernel) (by decide +kernel), zin 66 (by decide +kernel) (by decide +kernel), by decide, rfl⟩
set_option maxRecDepth 20000 in
theorem k_Mo_point : zMv m_Mo_point 2 11 := ⟨⟨zin 88 (by decide +kernel) (by decide +kernel), zin 1182 (by decide +kernel) (by decide +kernel), by decide +kernel, by decide +kernel, by decide +kernel⟩, zin 1180 (by decide +kernel) (by decide +kernel), zin 1181 (by decide +kernel) (by decide +kernel), by decide, rfl⟩
set_option maxRecDepth 20000 in
theorem k_Mo_isNumber : zMs m_Mo_isNumber 1 := ⟨⟨zin 88 (by decide +kernel) (by decide +kernel), zin 1207 (by decide +kernel) (by decide +kernel), by decide +kernel, by decide +kernel, by decide +kernel⟩, zin 1206 (by decide +kernel) (by decide +kernel)⟩
set_option maxRecDepth 20000 in
theorem k_Mo_put : zMv m_Mo_put 3 11 := ⟨⟨zin 88 (by decide +kernel) (by decide +kernel), zin 1204 (by decide +kernel) (by decide +kernel), by decide +kernel, by decide +kernel, by decide +kernel⟩, zin 1202 (by decide +kernel) (by decide +kernel), zin 1203 (by decide +kernel) (by decide +kernel), by decide, rfl⟩
set_option maxRecDepth 20000 in
theorem k_Mo_take : zMv m_Mo_take 1 11 := ⟨⟨zin 88 (by decide +kernel) (by decide +kernel), zin 1213 (by decide +kernel) (by decide +kernel), by decide +kernel, by decide +kernel, by decide +kernel⟩, zin 1211 (by decide +kernel) (by decide +kernel), zin 1212 (by decide +kernel) (by decide +kernel), by decide, rfl⟩
set_option maxRecDepth 20000 in
theorem k_Mo_cellsNow : zMv m_Mo_cellsNow 0 11 := ⟨⟨zin 88 (by decide +kernel) (by decide +kernel), zin 1221 (by decide +kernel) (by decide +kernel), by decide +kernel, by decide +kernel, by decide +kernel⟩, zin 1220 (by decide +kernel) (by decide +kernel), zin 70 (by decide +kernel) (by decide +kernel), by decide, rfl⟩
set_option maxRecDepth 20000 in
theorem k_Mo_move : zMv m_Mo_move 3 11 := ⟨⟨zin 88 (by decide +kernel) (by decide +kernel), zin 1217 (by decide +kernel) (by decide +kernel), by decide +kernel, by decide +kernel, by decide +kernel⟩, zin 1215 (by decide +kernel) (by decide +kernel), zin 1216 (by decide +kernel) (by decide +kernel), by decide, rfl⟩
set_option maxRecDepth 20000 in
theorem k_Mo_change : zMv m_Mo_change 2 11 := ⟨⟨zin 88 (by decide +kernel) (by decide +kernel), zin 1225 (by decide +kernel) (by decide +kernel), by decide +kernel, by decide +kernel, by decide +kernel⟩, zin 1223 (by decide +kernel) (by decide +kernel), zin 1224 (by decide +kernel) (by decide +kernel), by decide, rfl⟩
set_option maxRecDepth 20000 in
theorem k_Mo_mirror : zMv m_Mo_mirror 0 11 := ⟨⟨zin 88 (by decide +kernel) (by decide +kernel), zin 1229 (by decide +kernel) (by decide +kernel), by decide +kernel, by decide +kernel, by decide +kernel⟩, zin 1227 (by decide +kernel) (by decide +kernel), zin 1228 (by decide +kernel) (by decide +kernel), by decide, rfl⟩
set_option maxRecDepth 20000 in
theorem k_Mo_see : zMv m_Mo_see 4 11 := ⟨⟨zin 88 (by decide +kernel) (by decide +kernel), zin 1233 (by decide +kernel) (by decide +kernel), by decide +kernel, by decide +kernel, by decide +kernel⟩, zin 1231 (by decide +kernel) (by decide +kernel), zin 1232 (by decide +kernel) (by decide +kernel), by decide, rfl⟩
set_option maxRecDepth 20000 in
theorem k_Mo_forget : zMv m_Mo_forget 0 11 := ⟨⟨zin 88 (by decide +kernel) (by decide +kernel), zin 1237 (by decide +kernel) (by decide +kernel), by decide +kernel, by decide +kernel, by decide +kernel⟩, zin 1235 (by decide +kernel) (by decide +kernel), zin 1236 (by decide +kernel) (by decide +kernel), by decide, rfl⟩
set_option maxRecDepth 20000 in
theorem k_Mo_liesAt : zMv m_Mo_liesAt 4 11 := ⟨⟨zin 88 (by decide +kernel) (by decide +kernel), zin 1169 (by decide +kernel) (by decide +kernel), by decide +kernel, by decide +kernel, by decide +kernel⟩, zin 1168 (by decide +kernel) (by decide +kernel), zin 64 (by decide +kernel) (by decide +kernel), by decide, rfl⟩
set_option maxRecDepth 20000 in
theorem k_Mo_sortsOf : zMv m_Mo_sortsOf 1 11 := ⟨⟨zin 88 (by decide +kernel) (by decide +kernel), zin 1165 (by decide +kernel) (by decide +kernel), by decide +kernel, by decide +kernel, by decide +kernel⟩, zin 1164 (by decide +kernel) (by decide +kernel), zin 63 (by decide +kernel) (by decide +kernel), by decide, rfl⟩
set_option maxRecDepth 20000 in
theorem k_Mo_askOf : zMv m_Mo_askOf 1 11 := ⟨⟨zin 88 (by decide +kernel) (by decide +kernel), zin 1173 (by decide +kernel) (by decide +kernel), by decide +kernel, by decide +kernel, by decide +kernel⟩, zin 1172 (by decide +kernel) (by decide +kernel), zin 65 (by decide +kernel) (by decide +kernel), by decide, rfl⟩
set_option maxRecDepth 20000 in
theorem k_Mo_dice : zMv m_Mo_dice 1 11 := ⟨⟨zin 88 (by decide +kernel) (by decide +kernel), zin 1241 (by decide +kernel) (by decide +kernel), by decide +kernel, by decide +kernel, by decide +kernel⟩, zin 1239 (by decide +kernel) (by decide +kernel), zin 1240 (by decide +kernel) (by decide +kernel), by decide, rfl⟩
set_option maxRecDepth 20000 in
theorem k_Mo_image : zMv m_Mo_image 0 11 := ⟨⟨zin 88 (by decide +kernel) (by decide +kernel), zin 1249 (by decide +kernel) (by decide +kernel), by decide +kernel, by decide +kernel, by decide +kernel⟩, zin 1247 (by decide +kernel) (by decide +kernel), zin 1248 (by decide +kernel) (by decide +kernel), by decide, rfl⟩
set_option maxRecDepth 20000 in
theorem k_Mo_restore : zMv m_Mo_restore 0 11 := ⟨⟨zin 88 (by decide +kernel) (by decide +kernel), zin 1256 (by decide +kernel) (by decide +kernel), by decide +kernel, by decide +kernel, by decide +kernel⟩, zin 1254 (by decide +kernel) (by decide +kernel), zin 1255 (by decide +kernel) (by decide +kernel), by decide, rfl⟩
set_option maxRecDepth 20000 in
theorem k_Mo_sectionsAll : zMv m_Mo_sectionsAll 0 11 := ⟨⟨zin 88 (by decide +kernel) (by decide +kernel), zin 1272 (by decide +kernel) (by decide +kernel), by decide +kernel, by decide +kernel, by decide +kernel⟩, zin 1271 (by decide +kernel) (by decide +kernel), zin 73 (by decide +kernel) (by decide +kernel), by decide, rfl⟩
set_option maxRecDepth 20000 in
theorem k_Mo_countPlane : zMv m_Mo_countPlane 1 11 := ⟨⟨zin 88 (by decide +kernel) (by decide +kernel), zin 1268 (by decide +kernel) (by decide +kernel), by decide +kernel, by decide +kernel, by decide +kernel⟩, zin 1267 (by decide +kernel) (by decide +kernel), zin 72 (by decide +kernel) (by decide +kernel), by decide, rfl⟩
set_option maxRecDepth 20000 in
theorem k_Mo_countOf : zMv m_Mo_countOf 1 11 := ⟨⟨zin 88 (by decide +kernel) (by decide +kernel), zin 1264 (by decide +kernel) (by decide +kernel), by decide +kernel, by decide +kernel, by decide +kernel⟩, zin 1263 (by decide +kernel) (by decide +kernel), zin 71 (by decide +kernel) (by decide +kernel), by decide, rfl⟩
set_option maxRecDepth 20000 in
theorem k_Mo_count : zMv m_Mo_count 1 11 := ⟨⟨zin 88 (by decide +kernel) (by decide +kernel), zin 1260 (by decide +kernel) (by decide +kernel), by decide +kernel, by decide +kernel, by decide +kernel⟩, zin 1258 (by decide +kernel) (by decide +kernel), zin 1259 (by decide +kernel) (by decide +kernel), by decide, rfl⟩
set_option maxRecDepth 20000 in
theorem k_Mo_say : zMv m_Mo_say 1 11 := ⟨⟨zin 88 (by decide +kernel) (by decide +kernel), zin 1281 (by decide +kernel) (by decide +kernel), by decide +kernel, by decide +kernel, by decide +kernel⟩, zin 1280 (by decide +kernel) (by decide +kernel), zin 74 (by decide +kernel) (by decide +kernel), by decide, rfl⟩
set_option maxRecDepth 20000 in
theorem k_Mo_sayStacks : zMv m_Mo_sayStacks 0 11 := ⟨⟨zin 88 (by decide +kernel) (by decide +kernel), zin 1286 (by decide +kernel) (by decide +kernel), by decide +kernel, by decide +kernel, by decide +kernel⟩, zin 1285 (by decide +kernel) (by decide +kernel), zin 75 (by decide +kernel) (by decide +kernel), by decide, rfl⟩
set_option maxRecDepth 20000 in
theorem k_Mo_digest : zMv m_Mo_digest 0 11 := ⟨⟨zin 88 (by decide +kernel) (by decide +kernel), zin 1276 (by decide +kernel) (by decide +kernel), by decide +kernel, by decide +kernel, by decide +kernel⟩, zin 1274 (by decide +kernel) (by decide +kernel), zin 1275 (by decide +kernel) (by decide +kernel), by decide, rfl⟩
set_option maxRecDepth 20000 in
theorem k_In_compare : zMs m_In_compare 2 := ⟨⟨zin 91 (by decide +kernel) (by decide +kernel), zin 470 (by decide +kernel) (by decide +kernel), by decide +kernel, by decide +kernel, by decide +kernel⟩, zin 469 (by decide +kernel) (by decide +kernel)⟩
set_option maxRecDepth 20000 in
theorem k_Lo_compare : zMs m_Lo_compare 2 := ⟨⟨zin 90 (by decide +kernel) (by decide +kernel), zin 451 (by decide +kernel) (by decide +kernel), by decide +kernel, by decide +kernel, by decide +kernel⟩, zin 450 (by decide +kernel) (by decide +kernel)⟩
set_option maxRecDepth 20000 in
theorem k_Ma_floorDiv : zMs m_Ma_floorDiv 2 := ⟨⟨zin 92 (by decide +kernel) (by decide +kernel), zin 566 (by decide +kernel) (by decide +kernel), by decide +kernel, by decide +kernel, by decide +kernel⟩, zin 565 (by decide +kernel) (by decide +kernel)⟩
set_option maxRecDepth 20000 in
theorem k_Ma_floorMod : zMs m_Ma_floorMod 2 := ⟨⟨zin 92 (by decide +kernel) (by decide +kernel), zin 781 (by decide +kernel) (by decide +kernel), by decide +kernel, by decide +kernel, by decide +kernel⟩, zin 780 (by decide +kernel) (by decide +kernel)⟩
set_option maxRecDepth 20000 in
theorem k_Ma_max : zMs m_Ma_max 2 := ⟨⟨zin 92 (by decide +kernel) (by decide +kernel), zin 540 (by decide +kernel) (by decide +kernel), by decide +kernel, by decide +kernel, by decide +kernel⟩, zin 539 (by decide +kernel) (by decide +kernel)⟩
set_option maxRecDepth 20000 in
theorem k_Ma_min : zMs m_Ma_min 2 := ⟨⟨zin 92 (by decide +kernel) (by decide +kernel), zin 705 (by decide +kernel) (by decide +kernel), by decide +kernel, by decide +kernel, by decide +kernel⟩, zin 704 (by decide +kernel) (by decide +kernel)⟩
set_option maxRecDepth 20000 in
theorem c_La_7 : zCk RL 7 10 := ⟨by decide, zin 93 (by decide +kernel) (by decide +kernel), zin 94 (by decide +kernel) (by decide +kernel), zin 77 (by decide +kernel) (by decide +kernel)⟩
set_option maxRecDepth 20000 in
theorem a_La_7 : Cond.classLink RL 7 RX11 ∈ zwsG := zin 93 (by decide +kernel) (by decide +kernel)
set_option maxRecDepth 20000 in
theorem l_La_9 : Cond.methodLink RL 9 yX11_init ∈ zwsG := zin 95 (by decide +kernel) (by decide +kernel)
set_option maxRecDepth 20000 in
theorem l_Cp_3 : Cond.methodLink RX11 3 objectInit ∈ zwsG := zin 98 (by decide +kernel) (by decide +kernel)
set_option maxRecDepth 20000 in
theorem c_Cp_9 : zCk RX11 9 4 := ⟨by decide, zin 101 (by decide +kernel) (by decide +kernel), zin 102 (by decide +kernel) (by decide +kernel), zin 78 (by decide +kernel) (by decide +kernel)⟩
set_option maxRecDepth 20000 in
theorem a_Cp_9 : Cond.classLink RX11 9 RX5 ∈ zwsG := zin 101 (by decide +kernel) (by decide +kernel)
set_option maxRecDepth 20000 in
theorem l_Pa_5 : Cond.methodLink RX5 5 objectInit ∈ zwsG := zin 106 (by decide +kernel) (by decide +kernel)
set_option maxRecDepth 20000 in
theorem f_Pa_11 : zFl RX5 11 4 0 2 0 := ⟨zin 107 (by decide +kernel) (by decide +kernel), by decide, by decide +kernel, by decide +kernel, rfl⟩
set_option maxRecDepth 20000 in
theorem f_Cp_267 : zFl RX11 267 4 0 2 0 := ⟨zin 108 (by decide +kernel) (by decide +kernel), by decide, by decide +kernel, by decide +kernel, rfl⟩
set_option maxRecDepth 20000 in
theorem f_Pa_15 : zFl RX5 15 4 1 0 1 := ⟨zin 109 (by decide +kernel) (by decide +kernel), by decide, by decide +kernel, by decide +kernel, rfl⟩
set_option maxRecDepth 20000 in
theorem f_Cp_95 : zFl RX11 95 4 1 0 1 := ⟨zin 110 (by decide +kernel) (by decide +kernel), by decide, by decide +kernel, by decide +kernel, rfl⟩
set_option maxRecDepth 20000 in
theorem c_Cp_16 : zCk RX11 16 7 := ⟨by decide, zin 117 (by decide +kernel) (by decide +kernel), zin 118 (by decide +kernel) (by decide +kernel), zin 79 (by decide +kernel) (by decide +kernel)⟩
set_option maxRecDepth 20000 in
theorem a_Cp_16 : Cond.classLink RX11 16 RX8 ∈ zwsG := zin 117 (by decide +kernel) (by decide +kernel)
set_option maxRecDepth 20000 in
theorem l_Cp_18 : Cond.methodLink RX11 18 yX8_init ∈ zwsG := zin 119 (by decide +kernel) (by decide +kernel)
set_option maxRecDepth 20000 in
theorem l_Rw_3 : Cond.methodLink RX8 3 objectInit ∈ zwsG := zin 122 (by decide +kernel) (by decide +kernel)
set_option maxRecDepth 20000 in
theorem c_Rw_9 : zCk RX8 9 0 := ⟨by decide, zin 123 (by decide +kernel) (by decide +kernel), zin 125 (by decide +kernel) (by decide +kernel), zin 80 (by decide +kernel) (by decide +kernel)⟩
set_option maxRecDepth 20000 in
theorem a_Rw_9 : Cond.classLink RX8 9 RX0 ∈ zwsG := zin 123 (by decide +kernel) (by decide +kernel)
set_option maxRecDepth 20000 in
theorem l_Cu_3 : Cond.methodLink RX0 3 objectInit ∈ zwsG := zin 129 (by decide +kernel) (by decide +kernel)
set_option maxRecDepth 20000 in
theorem f_Cu_9 : zFl RX0 9 0 0 0 0 := ⟨zin 130 (by decide +kernel) (by decide +kernel), by decide, by decide +kernel, by decide +kernel, rfl⟩
set_option maxRecDepth 20000 in
theorem f_St_93 : zFl RX10 93 0 0 0 0 := ⟨zin 131 (by decide +kernel) (by decide +kernel), by decide, by decide +kernel, by decide +kernel, rfl⟩
set_option maxRecDepth 20000 in
theorem f_Rw_30 : zFl RX8 30 0 0 0 0 := ⟨zin 132 (by decide +kernel) (by decide +kernel), by decide, by decide +kernel, by decide +kernel, rfl⟩
set_option maxRecDepth 20000 in
theorem f_Cp_130 : zFl RX11 130 0 0 0 0 := ⟨zin 133 (by decide +kernel) (by decide +kernel), by decide, by decide +kernel, by decide +kernel, rfl⟩
set_option maxRecDepth 20000 in
theorem f_Cu_15 : zFl RX0 15 0 1 0 1 := ⟨zin 134 (by decide +kernel) (by decide +kernel), by decide, by decide +kernel, by decide +kernel, rfl⟩
set_option maxRecDepth 20000 in
theorem f_Rw_33 : zFl RX8 33 0 1 0 1 := ⟨zin 135 (by decide +kernel) (by decide +kernel), by decide, by decide +kernel, by decide +kernel, rfl⟩
set_option maxRecDepth 20000 in
theorem f_Cp_135 : zFl RX11 135 0 1 0 1 := ⟨zin 136 (by decide +kernel) (by decide +kernel), by decide, by decide +kernel, by decide +kernel, rfl⟩
set_option maxRecDepth 20000 in
theorem f_Cu_18 : zFl RX0 18 0 2 0 2 := ⟨zin 137 (by decide +kernel) (by decide +kernel), by decide, by decide +kernel, by decide +kernel, rfl⟩
set_option maxRecDepth 20000 in
theorem f_St_103 : zFl RX10 103 0 2 0 2 := ⟨zin 138 (by decide +kernel) (by decide +kernel), by decide, by decide +kernel, by decide +kernel, rfl⟩
set_option maxRecDepth 20000 in
theorem f_Rw_36 : zFl RX8 36 0 2 0 2 := ⟨zin 139 (by decide +kernel) (by decide +kernel), by decide, by decide +kernel, by decide +kernel, rfl⟩
set_option maxRecDepth 20000 in
theorem f_Cp_138 : zFl RX11 138 0 2 0 2 := ⟨zin 140 (by decide +kernel) (by decide +kernel), by decide, by decide +kernel, by decide +kernel, rfl⟩
set_option maxRecDepth 20000 in
theorem f_Cu_21 : zFl RX0 21 0 3 0 3 := ⟨zin 141 (by decide +kernel) (by decide +kernel), by decide, by decide +kernel, by decide +kernel, rfl⟩
set_option maxRecDepth 20000 in
theorem f_Rw_39 : zFl RX8 39 0 3 0 3 := ⟨zin 142 (by decide +kernel) (by decide +kernel), by decide, by decide +kernel, by decide +kernel, rfl⟩
set_option maxRecDepth 20000 in
theorem f_Cp_141 : zFl RX11 141 0 3 0 3 := ⟨zin 143 (by decide +kernel) (by decide +kernel), by decide, by decide +kernel, by decide +kernel, rfl⟩
set_option maxRecDepth 20000 in
theorem f_Rw_11 : zFl RX8 11 7 0 2 0 := ⟨zin 153 (by decide +kernel) (by decide +kernel), by decide, by decide +kernel, by decide +kernel, rfl⟩
set_option maxRecDepth 20000 in
theorem f_St_83 : zFl RX10 83 7 0 2 0 := ⟨zin 154 (by decide +kernel) (by decide +kernel), by decide, by decide +kernel, by decide +kernel, rfl⟩
set_option maxRecDepth 20000 in
theorem f_Cp_126 : zFl RX11 126 7 0 2 0 := ⟨zin 155 (by decide +kernel) (by decide +kernel), by decide, by decide +kernel, by decide +kernel, rfl⟩
set_option maxRecDepth 20000 in
theorem f_Rw_17 : zFl RX8 17 7 1 0 1 := ⟨zin 156 (by decide +kernel) (by decide +kernel), by decide, by decide +kernel, by decide +kernel, rfl⟩
set_option maxRecDepth 20000 in
theorem f_St_80 : zFl RX10 80 7 1 0 1 := ⟨zin 157 (by decide +kernel) (by decide +kernel), by decide, by decide +kernel, by decide +kernel, rfl⟩
set_option maxRecDepth 20000 in
theorem f_Cp_106 : zFl RX11 106 7 1 0 1 := ⟨zin 158 (by decide +kernel) (by decide +kernel), by decide, by decide +kernel, by decide +kernel, rfl⟩
set_option maxRecDepth 20000 in
theorem c_Cp_29 : zCk RX11 29 8 := ⟨by decide, zin 164 (by decide +kernel) (by decide +kernel), zin 165 (by decide +kernel) (by decide +kernel), zin 81 (by decide +kernel) (by decide +kernel)⟩
set_option maxRecDepth 20000 in
theorem a_Cp_29 : Cond.classLink RX11 29 RX9 ∈ zwsG := zin 164 (by decide +kernel) (by decide +kernel)
set_option maxRecDepth 20000 in
theorem l_Se_3 : Cond.methodLink RX9 3 objectInit ∈ zwsG := zin 169 (by decide +kernel) (by decide +kernel)
set_option maxRecDepth 20000 in
theorem f_Se_9 : zFl RX9 9 8 0 2 0 := ⟨zin 170 (by decide +kernel) (by decide +kernel), by decide, by decide +kernel, by decide +kernel, rfl⟩
set_option maxRecDepth 20000 in
theorem f_Se_15 : zFl RX9 15 8 1 2 1 := ⟨zin 171 (by decide +kernel) (by decide +kernel), by decide, by decide +kernel, by decide +kernel, rfl⟩
set_option maxRecDepth 20000 in
theorem f_Se_18 : zFl RX9 18 8 2 2 2 := ⟨zin 172 (by decide +kernel) (by decide +kernel), by decide, by decide +kernel, by decide +kernel, rfl⟩
set_option maxRecDepth 20000 in
theorem f_Se_21 : zFl RX9 21 8 3 2 3 := ⟨zin 173 (by decide +kernel) (by decide +kernel), by decide, by decide +kernel, by decide +kernel, rfl⟩
set_option maxRecDepth 20000 in
theorem f_Se_24 : zFl RX9 24 8 4 0 4 := ⟨zin 174 (by decide +kernel) (by decide +kernel), by decide, by decide +kernel, by decide +kernel, rfl⟩
set_option maxRecDepth 20000 in
theorem f_Cp_118 : zFl RX11 118 8 4 0 4 := ⟨zin 175 (by decide +kernel) (by decide +kernel), by decide, by decide +kernel, by decide +kernel, rfl⟩
set_option maxRecDepth 20000 in
theorem c_Cp_39 : zCk RX11 39 9 := ⟨by decide, zin 187 (by decide +kernel) (by decide +kernel), zin 188 (by decide +kernel) (by decide +kernel), zin 82 (by decide +kernel) (by decide +kernel)⟩
set_option maxRecDepth 20000 in
theorem a_Cp_39 : Cond.classLink RX11 39 RX10 ∈ zwsG := zin 187 (by decide +kernel) (by decide +kernel)
set_option maxRecDepth 20000 in
theorem l_Cp_41 : Cond.methodLink RX11 41 yX10_init ∈ zwsG := zin 189 (by decide +kernel) (by decide +kernel)
set_option maxRecDepth 20000 in
theorem l_St_3 : Cond.methodLink RX10 3 objectInit ∈ zwsG := zin 192 (by decide +kernel) (by decide +kernel)
set_option maxRecDepth 20000 in
theorem c_St_9 : zCk RX10 9 6 := ⟨by decide, zin 193 (by decide +kernel) (by decide +kernel), zin 195 (by decide +kernel) (by decide +kernel), zin 83 (by decide +kernel) (by decide +kernel)⟩
set_option maxRecDepth 20000 in
theorem a_St_9 : Cond.classLink RX10 9 RX7 ∈ zwsG := zin 193 (by decide +kernel) (by decide +kernel)
set_option maxRecDepth 20000 in
theorem l_Ro_1 : Cond.methodLink RX7 1 objectInit ∈ zwsG := zin 199 (by decide +kernel) (by decide +kernel)
set_option maxRecDepth 20000 in
theorem f_Ro_7 : zFl RX7 7 6 0 1 0 := ⟨zin 200 (by decide +kernel) (by decide +kernel), by decide, by decide +kernel, by decide +kernel, rfl⟩
set_option maxRecDepth 20000 in
theorem f_Ro_13 : zFl RX7 13 6 1 1 1 := ⟨zin 201 (by decide +kernel) (by decide +kernel), by decide, by decide +kernel, by decide +kernel, rfl⟩
set_option maxRecDepth 20000 in
theorem f_Ro_16 : zFl RX7 16 6 2 1 2 := ⟨zin 202 (by decide +kernel) (by decide +kernel), by decide, by decide +kernel, by decide +kernel, rfl⟩
set_option maxRecDepth 20000 in
theorem f_Ro_19 : zFl RX7 19 6 3 1 3 := ⟨zin 203 (by decide +kernel) (by decide +kernel), by decide, by decide +kernel, by decide +kernel, rfl⟩
set_option maxRecDepth 20000 in
theorem f_St_11 : zFl RX10 11 9 0 2 0 := ⟨zin 214 (by decide +kernel) (by decide +kernel), by decide, by decide +kernel, by decide +kernel, rfl⟩
set_option maxRecDepth 20000 in
theorem f_Cp_161 : zFl RX11 161 9 0 2 0 := ⟨zin 215 (by decide +kernel) (by decide +kernel), by decide, by decide +kernel, by decide +kernel, rfl⟩
set_option maxRecDepth 20000 in
theorem f_St_17 : zFl RX10 17 9 1 0 1 := ⟨zin 216 (by decide +kernel) (by decide +kernel), by decide, by decide +kernel, by decide +kernel, rfl⟩
set_option maxRecDepth 20000 in
theorem f_Cp_157 : zFl RX11 157 9 1 0 1 := ⟨zin 217 (by decide +kernel) (by decide +kernel), by decide, by decide +kernel, by decide +kernel, rfl⟩
set_option maxRecDepth 20000 in
theorem f_St_21 : zFl RX10 21 9 2 0 2 := ⟨zin 218 (by decide +kernel) (by decide +kernel), by decide, by decide +kernel, by decide +kernel, rfl⟩
set_option maxRecDepth 20000 in
theorem f_Gr_19 : zFl RX4 19 9 2 0 2 := ⟨zin 219 (by decide +kernel) (by decide +kernel), by decide, by decide +kernel, by decide +kernel, rfl⟩
set_option maxRecDepth 20000 in
theorem f_Cp_244 : zFl RX11 244 9 2 0 2 := ⟨zin 220 (by decide +kernel) (by decide +kernel), by decide, by decide +kernel, by decide +kernel, rfl⟩
set_option maxRecDepth 20000 in
theorem f_St_24 : zFl RX10 24 9 3 0 3 := ⟨zin 221 (by decide +kernel) (by decide +kernel), by decide, by decide +kernel, by decide +kernel, rfl⟩
set_option maxRecDepth 20000 in
theorem f_Fo_19 : zFl RX3 19 9 3 0 3 := ⟨zin 222 (by decide +kernel) (by decide +kernel), by decide, by decide +kernel, by decide +kernel, rfl⟩
set_option maxRecDepth 20000 in
theorem f_St_27 : zFl RX10 27 9 4 2 4 := ⟨zin 223 (by decide +kernel) (by decide +kernel), by decide, by decide +kernel, by decide +kernel, rfl⟩
set_option maxRecDepth 20000 in
theorem f_Gr_24 : zFl RX4 24 9 4 2 4 := ⟨zin 224 (by decide +kernel) (by decide +kernel), by decide, by decide +kernel, by decide +kernel, rfl⟩
set_option maxRecDepth 20000 in
theorem f_Cp_180 : zFl RX11 180 9 4 2 4 := ⟨zin 225 (by decide +kernel) (by decide +kernel), by decide, by decide +kernel, by decide +kernel, rfl⟩
set_option maxRecDepth 20000 in
theorem f_St_31 : zFl RX10 31 9 5 2 5 := ⟨zin 226 (by decide +kernel) (by decide +kernel), by decide, by decide +kernel, by decide +kernel, rfl⟩
set_option maxRecDepth 20000 in
theorem f_St_34 : zFl RX10 34 9 6 2 6 := ⟨zin 227 (by decide +kernel) (by decide +kernel), by decide, by decide +kernel, by decide +kernel, rfl⟩
set_option maxRecDepth 20000 in
theorem f_St_38 : zFl RX10 38 9 7 2 7 := ⟨zin 228 (by decide +kernel) (by decide +kernel), by decide, by decide +kernel, by decide +kernel, rfl⟩
set_option maxRecDepth 20000 in
theorem f_St_41 : zFl RX10 41 9 8 2 8 := ⟨zin 229 (by decide +kernel) (by decide +kernel), by decide, by decide +kernel, by decide +kernel, rfl⟩
set_option maxRecDepth 20000 in
theorem f_St_44 : zFl RX10 44 9 9 2 9 := ⟨zin 230 (by decide +kernel) (by decide +kernel), by decide, by decide +kernel, by decide +kernel, rfl⟩
set_option maxRecDepth 20000 in
theorem f_St_47 : zFl RX10 47 9 10 2 10 := ⟨zin 231 (by decide +kernel) (by decide +kernel), by decide, by decide +kernel, by decide +kernel, rfl⟩
set_option maxRecDepth 20000 in
theorem c_Cp_49 : zCk RX11 49 2 := ⟨by decide, zin 255 (by decide +kernel) (by decide +kernel), zin 256 (by decide +kernel) (by decide +kernel), zin 84 (by decide +kernel) (by decide +kernel)⟩
set_option maxRecDepth 20000 in
theorem a_Cp_49 : Cond.classLink RX11 49 RX3 ∈ zwsG := zin 255 (by decide +kernel) (by decide +kernel)
set_option maxRecDepth 20000 in
theorem l_Fo_3 : Cond.methodLink RX3 3 objectInit ∈ zwsG := zin 260 (by decide +kernel) (by decide +kernel)
set_option maxRecDepth 20000 in
theorem f_Fo_9 : zFl RX3 9 2 0 2 0 := ⟨zin 261 (by decide +kernel) (by decide +kernel), by decide, by decide +kernel, by decide +kernel, rfl⟩
set_option maxRecDepth 20000 in
theorem f_Fo_15 : zFl RX3 15 2 1 0 1 := ⟨zin 262 (by decide +kernel) (by decide +kernel), by decide, by decide +kernel, by decide +kernel, rfl⟩
set_option maxRecDepth 20000 in
theorem c_Cp_56 : zCk RX11 56 3 := ⟨by decide, zin 268 (by decide +kernel) (by decide +kernel), zin 269 (by decide +kernel) (by decide +kernel), zin 85 (by decide +kernel) (by decide +kernel)⟩
set_option maxRecDepth 20000 in
theorem a_Cp_56 : Cond.classLink RX11 56 RX4 ∈ zwsG := zin 268 (by decide +kernel) (by decide +kernel)
set_option maxRecDepth 20000 in
theorem l_Gr_3 : Cond.methodLink RX4 3 objectInit ∈ zwsG := zin 273 (by decide +kernel) (by decide +kernel)
set_option maxRecDepth 20000 in
theorem f_Gr_9 : zFl RX4 9 3 0 2 0 := ⟨zin 274 (by decide +kernel) (by decide +kernel), by decide, by decide +kernel, by decide +kernel, rfl⟩
set_option maxRecDepth 20000 in
theorem f_Gr_15 : zFl RX4 15 3 1 0 1 := ⟨zin 275 (by decide +kernel) (by decide +kernel), by decide, by decide +kernel, by decide +kernel, rfl⟩
set_option maxRecDepth 20000 in
theorem c_Cp_63 : zCk RX11 63 1 := ⟨by decide, zin 281 (by decide +kernel) (by decide +kernel), zin 282 (by decide +kernel) (by decide +kernel), zin 86 (by decide +kernel) (by decide +kernel)⟩
set_option maxRecDepth 20000 in
theorem a_Cp_63 : Cond.classLink RX11 63 RX1 ∈ zwsG := zin 281 (by decide +kernel) (by decide +kernel)
set_option maxRecDepth 20000 in
theorem l_Di_1 : Cond.methodLink RX1 1 objectInit ∈ zwsG := zin 286 (by decide +kernel) (by decide +kernel)
set_option maxRecDepth 20000 in
theorem f_Di_7 : zFl RX1 7 1 0 1 0 := ⟨zin 287 (by decide +kernel) (by decide +kernel), by decide, by decide +kernel, by decide +kernel, rfl⟩
set_option maxRecDepth 20000 in
theorem c_Cp_70 : zCk RX11 70 5 := ⟨by decide, zin 291 (by decide +kernel) (by decide +kernel), zin 292 (by decide +kernel) (by decide +kernel), zin 87 (by decide +kernel) (by decide +kernel)⟩
set_option maxRecDepth 20000 in
theorem a_Cp_70 : Cond.classLink RX11 70 RX6 ∈ zwsG := zin 291 (by decide +kernel) (by decide +kernel)
set_option maxRecDepth 20000 in
theorem l_Ri_3 : Cond.methodLink RX6 3 objectInit ∈ zwsG := zin 296 (by decide +kernel) (by decide +kernel)
set_option maxRecDepth 20000 in
theorem f_Ri_9 : zFl RX6 9 5 0 2 0 := ⟨zin 297 (by decide +kernel) (by decide +kernel), by decide, by decide +kernel, by decide +kernel, rfl⟩
set_option maxRecDepth 20000 in
theorem f_Ri_15 : zFl RX6 15 5 1 0 1 := ⟨zin 298 (by decide +kernel) (by decide +kernel), by decide, by decide +kernel, by decide +kernel, rfl⟩
set_option maxRecDepth 20000 in
theorem f_Ri_19 : zFl RX6 19 5 2 0 2 := ⟨zin 299 (by decide +kernel) (by decide +kernel), by decide, by decide +kernel, by decide +kernel, rfl⟩
set_option maxRecDepth 20000 in
theorem f_Cp_237 : zFl RX11 237 5 2 0 2 := ⟨zin 300 (by decide +kernel) (by decide +kernel), by decide, by decide +kernel, by decide +kernel, rfl⟩
set_option maxRecDepth 20000 in
theorem f_Cp_12 : zFl RX11 12 10 0 2 0 := ⟨zin 308 (by decide +kernel) (by decide +kernel), by decide, by decide +kernel, by decide +kernel, rfl⟩
set_option maxRecDepth 20000 in
theorem f_Cp_19 : zFl RX11 19 10 1 2 1 := ⟨zin 309 (by decide +kernel) (by decide +kernel), by decide, by decide +kernel, by decide +kernel, rfl⟩
set_option maxRecDepth 20000 in
theorem f_Cp_23 : zFl RX11 23 10 2 2 2 := ⟨zin 310 (by decide +kernel) (by decide +kernel), by decide, by decide +kernel, by decide +kernel, rfl⟩
set_option maxRecDepth 20000 in
theorem f_Cp_26 : zFl RX11 26 10 3 2 3 := ⟨zin 311 (by decide +kernel) (by decide +kernel), by decide, by decide +kernel, by decide +kernel, rfl⟩
set_option maxRecDepth 20000 in
theorem f_Cp_32 : zFl RX11 32 10 4 2 4 := ⟨zin 312 (by decide +kernel) (by decide +kernel), by decide, by decide +kernel, by decide +kernel, rfl⟩
set_option maxRecDepth 20000 in
theorem f_Cp_36 : zFl RX11 36 10 5 2 5 := ⟨zin 313 (by decide +kernel) (by decide +kernel), by decide, by decide +kernel, by decide +kernel, rfl⟩
set_option maxRecDepth 20000 in
theorem f_Cp_42 : zFl RX11 42 10 6 2 6 := ⟨zin 314 (by decide +kernel) (by decide +kernel), by decide, by decide +kernel, by decide +kernel, rfl⟩
set_option maxRecDepth 20000 in
theorem f_Cp_46 : zFl RX11 46 10 7 2 7 := ⟨zin 315 (by decide +kernel) (by decide +kernel), by decide, by decide +kernel, by decide +kernel, rfl⟩
set_option maxRecDepth 20000 in
theorem f_Cp_52 : zFl RX11 52 10 8 2 8 := ⟨zin 316 (by decide +kernel) (by decide +kernel), by decide, by decide +kernel, by decide +kernel, rfl⟩
set_option maxRecDepth 20000 in
theorem f_Cp_59 : zFl RX11 59 10 9 2 9 := ⟨zin 317 (by decide +kernel) (by decide +kernel), by decide, by decide +kernel, by decide +kernel, rfl⟩
set_option maxRecDepth 20000 in
theorem f_Cp_66 : zFl RX11 66 10 10 2 10 := ⟨zin 318 (by decide +kernel) (by decide +kernel), by decide, by decide +kernel, by decide +kernel, rfl⟩
set_option maxRecDepth 20000 in
theorem f_Cp_73 : zFl RX11 73 10 11 2 11 := ⟨zin 319 (by decide +kernel) (by decide +kernel), by decide, by decide +kernel, by decide +kernel, rfl⟩
set_option maxRecDepth 20000 in
theorem f_Cp_77 : zFl RX11 77 10 12 0 12 := ⟨zin 320 (by decide +kernel) (by decide +kernel), by decide, by decide +kernel, by decide +kernel, rfl⟩
set_option maxRecDepth 20000 in
theorem f_Cp_81 : zFl RX11 81 10 13 0 13 := ⟨zin 321 (by decide +kernel) (by decide +kernel), by decide, by decide +kernel, by decide +kernel, rfl⟩
set_option maxRecDepth 20000 in
theorem f_Cp_85 : zFl RX11 85 10 14 0 14 := ⟨zin 322 (by decide +kernel) (by decide +kernel), by decide, by decide +kernel, by decide +kernel, rfl⟩
set_option maxRecDepth 20000 in
theorem f_Cp_88 : zFl RX11 88 10 15 0 15 := ⟨zin 323 (by decide +kernel) (by decide +kernel), by decide, by decide +kernel, by decide +kernel, rfl⟩
set_option maxRecDepth 20000 in
theorem l_La_13 : Cond.methodLink RL 13 yX11_letter ∈ zwsG := zin 357 (by decide +kernel) (by decide +kernel)
set_option maxRecDepth 20000 in
theorem l_Cp_91 : Cond.methodLink RX11 91 yX5_append ∈ zwsG := zin 361 (by decide +kernel) (by decide +kernel)
set_option maxRecDepth 20000 in
theorem l_La_18 : Cond.methodLink RL 18 yX11_blank ∈ zwsG := zin 365 (by decide +kernel) (by decide +kernel)
set_option maxRecDepth 20000 in
theorem l_La_23 : Cond.methodLink RL 23 yX11_fault ∈ zwsG := zin 369 (by decide +kernel) (by decide +kernel)
set_option maxRecDepth 20000 in
theorem l_Cp_98 : Cond.methodLink RX11 98 yX5_firstFault ∈ zwsG := zin 373 (by decide +kernel) (by decide +kernel)
set_option maxRecDepth 20000 in
theorem l_Pa_19 : Cond.methodLink RX5 19 yX5_fits ∈ zwsG := zin 377 (by decide +kernel) (by decide +kernel)
set_option maxRecDepth 20000 in
theorem l_Pa_27 : Cond.methodLink RX5 27 yX5_kindAt ∈ zwsG := zin 381 (by decide +kernel) (by decide +kernel)
set_option maxRecDepth 20000 in
theorem l_La_27 : Cond.methodLink RL 27 yX11_plane ∈ zwsG := zin 385 (by decide +kernel) (by decide +kernel)
set_option maxRecDepth 20000 in
theorem l_Cp_102 : Cond.methodLink RX11 102 yX5_isPlane ∈ zwsG := zin 389 (by decide +kernel) (by decide +kernel)
set_option maxRecDepth 20000 in
theorem l_Pa_23 : Cond.methodLink RX5 23 yX5_firstFault ∈ zwsG := zin 393 (by decide +kernel) (by decide +kernel)
set_option maxRecDepth 20000 in
theorem l_Cp_107 : Cond.methodLink RX11 107 yX5_numberAt ∈ zwsG := zin 394 (by decide +kernel) (by decide +kernel)
set_option maxRecDepth 20000 in
theorem l_Cp_111 : Cond.methodLink RX11 111 yX5_kindAt ∈ zwsG := zin 398 (by decide +kernel) (by decide +kernel)
set_option maxRecDepth 20000 in
theorem l_Cp_114 : Cond.methodLink RX11 114 yX11_appendCurve ∈ zwsG := zin 399 (by decide +kernel) (by decide +kernel)
set_option maxRecDepth 20000 in
theorem l_Cp_281 : Cond.methodLink RX11 281 yX8_append ∈ zwsG := zin 403 (by decide +kernel) (by decide +kernel)
set_option maxRecDepth 20000 in
theorem l_Rw_22 : Cond.methodLink RX8 22 yX0_write ∈ zwsG := zin 407 (by decide +kernel) (by decide +kernel)
set_option maxRecDepth 20000 in
theorem l_Cp_119 : Cond.methodLink RX11 119 yX10_build ∈ zwsG := zin 411 (by decide +kernel) (by decide +kernel)
set_option maxRecDepth 20000 in
theorem l_St_51 : Cond.methodLink RX10 51 yX10_readCurves ∈ zwsG := zin 415 (by decide +kernel) (by decide +kernel)
set_option maxRecDepth 20000 in
theorem l_St_87 : Cond.methodLink RX10 87 yX0_isUpright ∈ zwsG := zin 419 (by decide +kernel) (by decide +kernel)
set_option maxRecDepth 20000 in
theorem l_St_96 : Cond.methodLink RX10 96 yX0_squareOf ∈ zwsG := zin 423 (by decide +kernel) (by decide +kernel)
set_option maxRecDepth 20000 in
theorem l_St_100 : Cond.methodLink RX10 100 yX0_slopeAs ∈ zwsG := zin 426 (by decide +kernel) (by decide +kernel)
set_option maxRecDepth 20000 in
theorem l_St_55 : Cond.methodLink RX10 55 yX10_enter ∈ zwsG := zin 430 (by decide +kernel) (by decide +kernel)
set_option maxRecDepth 20000 in
theorem l_St_118 : Cond.methodLink RX10 118 yX7_write ∈ zwsG := zin 434 (by decide +kernel) (by decide +kernel)
set_option maxRecDepth 20000 in
theorem n_Ro_22 : Cond.constantLong RX7 22 (-1 : Int64) ∈ zwsG := zin 438 (by decide +kernel) (by decide +kernel)
set_option maxRecDepth 20000 in
theorem l_St_121 : Cond.methodLink RX10 121 yX7_orderTo ∈ zwsG := zin 439 (by decide +kernel) (by decide +kernel)
set_option maxRecDepth 20000 in
theorem l_Ro_24 : Cond.methodLink RX7 24 yX2_sign_ ∈ zwsG := zin 443 (by decide +kernel) (by decide +kernel)
set_option maxRecDepth 20000 in
theorem l_Ex_13 : Cond.methodLink RX2 13 yX2_sign ∈ zwsG := zin 446 (by decide +kernel) (by decide +kernel)
set_option maxRecDepth 20000 in
theorem l_Ex_7 : Cond.methodLink RX2 7 yJ13_compare_74951 ∈ zwsG := zin 449 (by decide +kernel) (by decide +kernel)
set_option maxRecDepth 20000 in
theorem n_Ex_19 : Cond.constantLong RX2 19 (2 : Int64) ∈ zwsG := zin 452 (by decide +kernel) (by decide +kernel)
set_option maxRecDepth 20000 in
theorem l_St_59 : Cond.methodLink RX10 59 yX10_meet ∈ zwsG := zin 453 (by decide +kernel) (by decide +kernel)
set_option maxRecDepth 20000 in
theorem n_St_106 : Cond.constantLong RX10 106 (4 : Int64) ∈ zwsG := zin 457 (by decide +kernel) (by decide +kernel)
set_option maxRecDepth 20000 in
theorem l_St_108 : Cond.methodLink RX10 108 yX2_rootDown ∈ zwsG := zin 458 (by decide +kernel) (by decide +kernel)
set_option maxRecDepth 20000 in
theorem n_Ex_21 : Cond.constantLong RX2 21 (32768 : Int64) ∈ zwsG := zin 461 (by decide +kernel) (by decide +kernel)
set_option maxRecDepth 20000 in
theorem n_St_114 : Cond.constantLong RX10 114 (2 : Int64) ∈ zwsG := zin 462 (by decide +kernel) (by decide +kernel)
set_option maxRecDepth 20000 in
theorem n_St_116 : Cond.constantLong RX10 116 (-1 : Int64) ∈ zwsG := zin 463 (by decide +kernel) (by decide +kernel)
set_option maxRecDepth 20000 in
theorem l_St_63 : Cond.methodLink RX10 63 yX10_comeFromFarLeft ∈ zwsG := zin 464 (by decide +kernel) (by decide +kernel)
set_option maxRecDepth 20000 in
theorem l_St_125 : Cond.methodLink RX10 125 yJ6_compare_7cf53 ∈ zwsG := zin 468 (by decide +kernel) (by decide +kernel)
set_option maxRecDepth 20000 in
theorem l_St_131 : Cond.methodLink RX10 131 yX10_note ∈ zwsG := zin 471 (by decide +kernel) (by decide +kernel)
set_option maxRecDepth 20000 in
theorem l_St_66 : Cond.methodLink RX10 66 yX10_settle ∈ zwsG := zin 475 (by decide +kernel) (by decide +kernel)
set_option maxRecDepth 20000 in
theorem l_St_139 : Cond.methodLink RX10 139 yX10_isFirstOfItsY ∈ zwsG := zin 479 (by decide +kernel) (by decide +kernel)
set_option maxRecDepth 20000 in
theorem l_St_143 : Cond.methodLink RX10 143 yX10_sectionsBelow ∈ zwsG := zin 483 (by decide +kernel) (by decide +kernel)
set_option maxRecDepth 20000 in
theorem l_St_70 : Cond.methodLink RX10 70 yX10_stopAt ∈ zwsG := zin 487 (by decide +kernel) (by decide +kernel)
set_option maxRecDepth 20000 in
theorem l_St_135 : Cond.methodLink RX10 135 yX7_signOf ∈ zwsG := zin 491 (by decide +kernel) (by decide +kernel)
set_option maxRecDepth 20000 in
theorem n_Ro_30 : Cond.constantLong RX7 30 (2 : Int64) ∈ zwsG := zin 495 (by decide +kernel) (by decide +kernel)
set_option maxRecDepth 20000 in
theorem l_Ro_32 : Cond.methodLink RX7 32 yX2_sign ∈ zwsG := zin 496 (by decide +kernel) (by decide +kernel)
set_option maxRecDepth 20000 in
theorem l_St_74 : Cond.methodLink RX10 74 yX10_goOnFrom ∈ zwsG := zin 497 (by decide +kernel) (by decide +kernel)
set_option maxRecDepth 20000 in
theorem l_St_77 : Cond.methodLink RX10 77 yX10_placeUprights ∈ zwsG := zin 501 (by decide +kernel) (by decide +kernel)
set_option maxRecDepth 20000 in
theorem l_St_146 : Cond.methodLink RX10 146 yX10_stackAt ∈ zwsG := zin 505 (by decide +kernel) (by decide +kernel)
set_option maxRecDepth 20000 in
theorem l_La_31 : Cond.methodLink RL 31 yX11_curve ∈ zwsG := zin 509 (by decide +kernel) (by decide +kernel)
set_option maxRecDepth 20000 in
theorem l_Cp_123 : Cond.methodLink RX11 123 yX8_has ∈ zwsG := zin 513 (by decide +kernel) (by decide +kernel)
set_option maxRecDepth 20000 in
theorem l_Cp_144 : Cond.methodLink RX11 144 yX9_sortsOf ∈ zwsG := zin 517 (by decide +kernel) (by decide +kernel)
set_option maxRecDepth 20000 in
theorem l_Se_28 : Cond.methodLink RX9 28 yX9_canBe ∈ zwsG := zin 521 (by decide +kernel) (by decide +kernel)
set_option maxRecDepth 20000 in
theorem l_Se_32 : Cond.methodLink RX9 32 yX0_sideAs ∈ zwsG := zin 525 (by decide +kernel) (by decide +kernel)
set_option maxRecDepth 20000 in
theorem l_Cu_24 : Cond.methodLink RX0 24 yX0_squareOf ∈ zwsG := zin 529 (by decide +kernel) (by decide +kernel)
set_option maxRecDepth 20000 in
theorem l_Cu_28 : Cond.methodLink RX0 28 yX0_slopeAs ∈ zwsG := zin 530 (by decide +kernel) (by decide +kernel)
set_option maxRecDepth 20000 in
theorem l_Cu_31 : Cond.methodLink RX0 31 yJ6_compare_7cf53 ∈ zwsG := zin 531 (by decide +kernel) (by decide +kernel)
set_option maxRecDepth 20000 in
theorem l_Cp_148 : Cond.methodLink RX11 148 yX9_nextAsk ∈ zwsG := zin 532 (by decide +kernel) (by decide +kernel)
set_option maxRecDepth 20000 in
theorem l_Se_38 : Cond.methodLink RX9 38 yX9_leftAtWorst ∈ zwsG := zin 535 (by decide +kernel) (by decide +kernel)
set_option maxRecDepth 20000 in
theorem l_Se_42 : Cond.methodLink RX9 42 yJ9_max_7cf53 ∈ zwsG := zin 538 (by decide +kernel) (by decide +kernel)
set_option maxRecDepth 20000 in
theorem l_La_36 : Cond.methodLink RL 36 yX11_as ∈ zwsG := zin 541 (by decide +kernel) (by decide +kernel)
set_option maxRecDepth 20000 in
theorem l_Cp_151 : Cond.methodLink RX11 151 yX11_isKind ∈ zwsG := zin 545 (by decide +kernel) (by decide +kernel)
set_option maxRecDepth 20000 in
theorem l_Cp_154 : Cond.methodLink RX11 154 yX0_isSuch ∈ zwsG := zin 548 (by decide +kernel) (by decide +kernel)
set_option maxRecDepth 20000 in
theorem l_La_40 : Cond.methodLink RL 40 yX11_point ∈ zwsG := zin 552 (by decide +kernel) (by decide +kernel)
set_option maxRecDepth 20000 in
theorem n_Cp_160 : Cond.constant RX11 160 (100000 : Int32) ∈ zwsG := zin 556 (by decide +kernel) (by decide +kernel)
set_option maxRecDepth 20000 in
theorem l_Cp_165 : Cond.methodLink RX11 165 yX7_thousandths ∈ zwsG := zin 557 (by decide +kernel) (by decide +kernel)
set_option maxRecDepth 20000 in
theorem n_Ro_35 : Cond.constantLong RX7 35 (1000000 : Int64) ∈ zwsG := zin 561 (by decide +kernel) (by decide +kernel)
set_option maxRecDepth 20000 in
theorem l_Ro_37 : Cond.methodLink RX7 37 yX2_rootDown ∈ zwsG := zin 562 (by decide +kernel) (by decide +kernel)
set_option maxRecDepth 20000 in
theorem n_Ro_41 : Cond.constantLong RX7 41 (1000 : Int64) ∈ zwsG := zin 563 (by decide +kernel) (by decide +kernel)
set_option maxRecDepth 20000 in
theorem l_Ro_43 : Cond.methodLink RX7 43 yJ9_floorDiv_f86c9 ∈ zwsG := zin 564 (by decide +kernel) (by decide +kernel)
set_option maxRecDepth 20000 in
theorem l_Cp_170 : Cond.methodLink RX11 170 yX7_isFraction ∈ zwsG := zin 567 (by decide +kernel) (by decide +kernel)
set_option maxRecDepth 20000 in
theorem l_Cp_173 : Cond.methodLink RX11 173 yX10_pairsMeetingAt ∈ zwsG := zin 571 (by decide +kernel) (by decide +kernel)
set_option maxRecDepth 20000 in
theorem l_St_156 : Cond.methodLink RX10 156 yX10_meetAt ∈ zwsG := zin 575 (by decide +kernel) (by decide +kernel)
set_option maxRecDepth 20000 in
theorem l_Cp_176 : Cond.methodLink RX11 176 yX10_uprightsAt ∈ zwsG := zin 579 (by decide +kernel) (by decide +kernel)
set_option maxRecDepth 20000 in
theorem l_La_44 : Cond.methodLink RL 44 yX11_stack ∈ zwsG := zin 583 (by decide +kernel) (by decide +kernel)
set_option maxRecDepth 20000 in
theorem l_Cp_179 : Cond.methodLink RX11 179 yX10_has ∈ zwsG := zin 587 (by decide +kernel) (by decide +kernel)
set_option maxRecDepth 20000 in
theorem l_La_48 : Cond.methodLink RL 48 yX11_cell ∈ zwsG := zin 591 (by decide +kernel) (by decide +kernel)
set_option maxRecDepth 20000 in
theorem l_Cp_184 : Cond.methodLink RX11 184 yX10_hasCell ∈ zwsG := zin 595 (by decide +kernel) (by decide +kernel)
set_option maxRecDepth 20000 in
theorem l_St_149 : Cond.methodLink RX10 149 yX10_has ∈ zwsG := zin 599 (by decide +kernel) (by decide +kernel)
set_option maxRecDepth 20000 in
theorem l_Cp_188 : Cond.methodLink RX11 188 yX10_sideOf ∈ zwsG := zin 600 (by decide +kernel) (by decide +kernel)
set_option maxRecDepth 20000 in
theorem l_La_53 : Cond.methodLink RL 53 yX11_neighbours ∈ zwsG := zin 604 (by decide +kernel) (by decide +kernel)
set_option maxRecDepth 20000 in
theorem l_Cp_192 : Cond.methodLink RX11 192 yX10_neighboursOf ∈ zwsG := zin 608 (by decide +kernel) (by decide +kernel)
set_option maxRecDepth 20000 in
theorem l_St_160 : Cond.methodLink RX10 160 yX10_highestBeside ∈ zwsG := zin 612 (by decide +kernel) (by decide +kernel)
set_option maxRecDepth 20000 in
theorem l_St_170 : Cond.methodLink RX10 170 yX10_sectionBeside ∈ zwsG := zin 616 (by decide +kernel) (by decide +kernel)
set_option maxRecDepth 20000 in
theorem l_St_164 : Cond.methodLink RX10 164 yX10_lowestBeside ∈ zwsG := zin 620 (by decide +kernel) (by decide +kernel)
set_option maxRecDepth 20000 in
theorem l_St_167 : Cond.methodLink RX10 167 yX10_comingTo ∈ zwsG := zin 624 (by decide +kernel) (by decide +kernel)
set_option maxRecDepth 20000 in
theorem l_La_57 : Cond.methodLink RL 57 yX11_put ∈ zwsG := zin 628 (by decide +kernel) (by decide +kernel)
set_option maxRecDepth 20000 in
theorem l_Cp_196 : Cond.methodLink RX11 196 yX11_isNear ∈ zwsG := zin 632 (by decide +kernel) (by decide +kernel)
set_option maxRecDepth 20000 in
theorem l_La_61 : Cond.methodLink RL 61 yX11_take ∈ zwsG := zin 635 (by decide +kernel) (by decide +kernel)
set_option maxRecDepth 20000 in
theorem l_Cp_199 : Cond.methodLink RX11 199 yX8_remove ∈ zwsG := zin 639 (by decide +kernel) (by decide +kernel)
set_option maxRecDepth 20000 in
theorem l_Rw_26 : Cond.methodLink RX8 26 yX8_has ∈ zwsG := zin 643 (by decide +kernel) (by decide +kernel)
set_option maxRecDepth 20000 in
theorem l_La_65 : Cond.methodLink RL 65 yX11_move ∈ zwsG := zin 644 (by decide +kernel) (by decide +kernel)
set_option maxRecDepth 20000 in
theorem l_Cp_203 : Cond.methodLink RX11 203 yX10_cells ∈ zwsG := zin 648 (by decide +kernel) (by decide +kernel)
set_option maxRecDepth 20000 in
theorem l_St_152 : Cond.methodLink RX10 152 yX10_sections ∈ zwsG := zin 652 (by decide +kernel) (by decide +kernel)
set_option maxRecDepth 20000 in
theorem l_La_69 : Cond.methodLink RL 69 yX11_change ∈ zwsG := zin 656 (by decide +kernel) (by decide +kernel)
set_option maxRecDepth 20000 in
theorem l_La_73 : Cond.methodLink RL 73 yX11_mirror ∈ zwsG := zin 660 (by decide +kernel) (by decide +kernel)
set_option maxRecDepth 20000 in
theorem l_Cp_206 : Cond.methodLink RX11 206 yX0_turnOver ∈ zwsG := zin 664 (by decide +kernel) (by decide +kernel)
set_option maxRecDepth 20000 in
theorem l_Cu_37 : Cond.methodLink RX0 37 yX0_isUpright ∈ zwsG := zin 668 (by decide +kernel) (by decide +kernel)
set_option maxRecDepth 20000 in
theorem l_La_77 : Cond.methodLink RL 77 yX11_sentence ∈ zwsG := zin 669 (by decide +kernel) (by decide +kernel)
set_option maxRecDepth 20000 in
theorem l_Cp_209 : Cond.methodLink RX11 209 yX11_isBit ∈ zwsG := zin 673 (by decide +kernel) (by decide +kernel)
set_option maxRecDepth 20000 in
theorem l_Cp_212 : Cond.methodLink RX11 212 yX3_isForm ∈ zwsG := zin 676 (by decide +kernel) (by decide +kernel)
set_option maxRecDepth 20000 in
theorem l_Cp_215 : Cond.methodLink RX11 215 yX3_read ∈ zwsG := zin 679 (by decide +kernel) (by decide +kernel)
set_option maxRecDepth 20000 in
theorem l_Cp_219 : Cond.methodLink RX11 219 yX11_isSo ∈ zwsG := zin 683 (by decide +kernel) (by decide +kernel)
set_option maxRecDepth 20000 in
theorem l_Cp_282 : Cond.methodLink RX11 282 yX11_isSoOver ∈ zwsG := zin 687 (by decide +kernel) (by decide +kernel)
set_option maxRecDepth 20000 in
theorem l_Cp_285 : Cond.methodLink RX11 285 yX3_holdsIn ∈ zwsG := zin 691 (by decide +kernel) (by decide +kernel)
set_option maxRecDepth 20000 in
theorem l_Fo_25 : Cond.methodLink RX3 25 yX10_sideOf ∈ zwsG := zin 695 (by decide +kernel) (by decide +kernel)
set_option maxRecDepth 20000 in
theorem l_Fo_29 : Cond.methodLink RX3 29 yX3_allows ∈ zwsG := zin 696 (by decide +kernel) (by decide +kernel)
set_option maxRecDepth 20000 in
theorem l_Cp_222 : Cond.methodLink RX11 222 yX6_append ∈ zwsG := zin 699 (by decide +kernel) (by decide +kernel)
set_option maxRecDepth 20000 in
theorem l_Ri_22 : Cond.methodLink RX6 22 yJ9_min_7cf53 ∈ zwsG := zin 703 (by decide +kernel) (by decide +kernel)
set_option maxRecDepth 20000 in
theorem l_La_82 : Cond.methodLink RL 82 yX11_pieces ∈ zwsG := zin 706 (by decide +kernel) (by decide +kernel)
set_option maxRecDepth 20000 in
theorem l_Cp_224 : Cond.methodLink RX11 224 yX4_number ∈ zwsG := zin 710 (by decide +kernel) (by decide +kernel)
set_option maxRecDepth 20000 in
theorem l_Gr_27 : Cond.methodLink RX4 27 yX4_placeOf ∈ zwsG := zin 714 (by decide +kernel) (by decide +kernel)
set_option maxRecDepth 20000 in
theorem l_Gr_31 : Cond.methodLink RX4 31 yX3_holdsIn ∈ zwsG := zin 717 (by decide +kernel) (by decide +kernel)
set_option maxRecDepth 20000 in
theorem l_Gr_37 : Cond.methodLink RX4 37 yX4_begin ∈ zwsG := zin 718 (by decide +kernel) (by decide +kernel)
set_option maxRecDepth 20000 in
theorem l_Gr_41 : Cond.methodLink RX4 41 yX4_joinNeighbours ∈ zwsG := zin 722 (by decide +kernel) (by decide +kernel)
set_option maxRecDepth 20000 in
theorem l_Gr_45 : Cond.methodLink RX4 45 yX4_join ∈ zwsG := zin 726 (by decide +kernel) (by decide +kernel)
set_option maxRecDepth 20000 in
theorem l_Gr_60 : Cond.methodLink RX4 60 yX4_standsFor ∈ zwsG := zin 730 (by decide +kernel) (by decide +kernel)
set_option maxRecDepth 20000 in
theorem l_Gr_64 : Cond.methodLink RX4 64 yJ9_max_7cf53 ∈ zwsG := zin 734 (by decide +kernel) (by decide +kernel)
set_option maxRecDepth 20000 in
theorem l_Gr_69 : Cond.methodLink RX4 69 yJ9_min_7cf53 ∈ zwsG := zin 735 (by decide +kernel) (by decide +kernel)
set_option maxRecDepth 20000 in
theorem l_Gr_49 : Cond.methodLink RX4 49 yX10_has ∈ zwsG := zin 736 (by decide +kernel) (by decide +kernel)
set_option maxRecDepth 20000 in
theorem l_Gr_53 : Cond.methodLink RX4 53 yX10_highestBeside ∈ zwsG := zin 737 (by decide +kernel) (by decide +kernel)
set_option maxRecDepth 20000 in
theorem l_Gr_57 : Cond.methodLink RX4 57 yX10_lowestBeside ∈ zwsG := zin 738 (by decide +kernel) (by decide +kernel)
set_option maxRecDepth 20000 in
theorem l_La_86 : Cond.methodLink RL 86 yX11_loose ∈ zwsG := zin 739 (by decide +kernel) (by decide +kernel)
set_option maxRecDepth 20000 in
theorem l_Cp_228 : Cond.methodLink RX11 228 yX8_copy ∈ zwsG := zin 743 (by decide +kernel) (by decide +kernel)
set_option maxRecDepth 20000 in
theorem l_La_90 : Cond.methodLink RL 90 yX11_see ∈ zwsG := zin 747 (by decide +kernel) (by decide +kernel)
set_option maxRecDepth 20000 in
theorem l_Cp_231 : Cond.methodLink RX11 231 yX9_append ∈ zwsG := zin 751 (by decide +kernel) (by decide +kernel)
set_option maxRecDepth 20000 in
theorem l_La_94 : Cond.methodLink RL 94 yX11_forget ∈ zwsG := zin 755 (by decide +kernel) (by decide +kernel)
set_option maxRecDepth 20000 in
theorem l_La_98 : Cond.methodLink RL 98 yX11_dice ∈ zwsG := zin 759 (by decide +kernel) (by decide +kernel)
set_option maxRecDepth 20000 in
theorem l_Cp_234 : Cond.methodLink RX11 234 yX1_next ∈ zwsG := zin 763 (by decide +kernel) (by decide +kernel)
set_option maxRecDepth 20000 in
theorem n_Di_13 : Cond.constantLong RX1 13 (1103515245 : Int64) ∈ zwsG := zin 767 (by decide +kernel) (by decide +kernel)
set_option maxRecDepth 20000 in
theorem n_Di_15 : Cond.constantLong RX1 15 (12345 : Int64) ∈ zwsG := zin 768 (by decide +kernel) (by decide +kernel)
set_option maxRecDepth 20000 in
theorem n_Di_17 : Cond.constantLong RX1 17 (2147483648 : Int64) ∈ zwsG := zin 769 (by decide +kernel) (by decide +kernel)
set_option maxRecDepth 20000 in
theorem n_Di_19 : Cond.constantLong RX1 19 (65536 : Int64) ∈ zwsG := zin 770 (by decide +kernel) (by decide +kernel)
set_option maxRecDepth 20000 in
theorem l_La_102 : Cond.methodLink RL 102 yX11_latest ∈ zwsG := zin 771 (by decide +kernel) (by decide +kernel)
set_option maxRecDepth 20000 in
theorem l_Cp_238 : Cond.methodLink RX11 238 yX6_back ∈ zwsG := zin 775 (by decide +kernel) (by decide +kernel)
set_option maxRecDepth 20000 in
theorem l_Ri_28 : Cond.methodLink RX6 28 yJ9_floorMod_7cf53 ∈ zwsG := zin 779 (by decide +kernel) (by decide +kernel)
set_option maxRecDepth 20000 in
theorem l_La_106 : Cond.methodLink RL 106 yX11_image ∈ zwsG := zin 782 (by decide +kernel) (by decide +kernel)
set_option maxRecDepth 20000 in
theorem l_Cp_241 : Cond.methodLink RX11 241 yX9_copy ∈ zwsG := zin 786 (by decide +kernel) (by decide +kernel)
set_option maxRecDepth 20000 in
theorem l_La_110 : Cond.methodLink RL 110 yX11_restore ∈ zwsG := zin 790 (by decide +kernel) (by decide +kernel)
set_option maxRecDepth 20000 in
theorem l_La_114 : Cond.methodLink RL 114 yX11_count ∈ zwsG := zin 794 (by decide +kernel) (by decide +kernel)
set_option maxRecDepth 20000 in
theorem l_Cp_245 : Cond.methodLink RX11 245 yX10_sections ∈ zwsG := zin 798 (by decide +kernel) (by decide +kernel)
set_option maxRecDepth 20000 in
theorem l_La_118 : Cond.methodLink RL 118 yX11_digest ∈ zwsG := zin 799 (by decide +kernel) (by decide +kernel)
set_option maxRecDepth 20000 in
theorem n_Cp_248 : Cond.constantLong RX11 248 (1433 : Int64) ∈ zwsG := zin 803 (by decide +kernel) (by decide +kernel)
set_option maxRecDepth 20000 in
theorem l_Cp_250 : Cond.methodLink RX11 250 yX11_mixCurves ∈ zwsG := zin 804 (by decide +kernel) (by decide +kernel)
set_option maxRecDepth 20000 in
theorem l_Cp_275 : Cond.methodLink RX11 275 yX11_curve ∈ zwsG := zin 808 (by decide +kernel) (by decide +kernel)
set_option maxRecDepth 20000 in
theorem l_Cp_263 : Cond.methodLink RX11 263 yX11_mix ∈ zwsG := zin 809 (by decide +kernel) (by decide +kernel)
set_option maxRecDepth 20000 in
theorem n_Cp_273 : Cond.constantLong RX11 273 (31 : Int64) ∈ zwsG := zin 812 (by decide +kernel) (by decide +kernel)
set_option maxRecDepth 20000 in
theorem l_Cp_254 : Cond.methodLink RX11 254 yX11_mixPoints ∈ zwsG := zin 813 (by decide +kernel) (by decide +kernel)
set_option maxRecDepth 20000 in
theorem l_Cp_278 : Cond.methodLink RX11 278 yX11_point ∈ zwsG := zin 817 (by decide +kernel) (by decide +kernel)
set_option maxRecDepth 20000 in
theorem l_Cp_257 : Cond.methodLink RX11 257 yX11_mixStacks ∈ zwsG := zin 818 (by decide +kernel) (by decide +kernel)
set_option maxRecDepth 20000 in
theorem l_Cp_260 : Cond.methodLink RX11 260 yX11_pieces ∈ zwsG := zin 822 (by decide +kernel) (by decide +kernel)
set_option maxRecDepth 20000 in
theorem l_Cp_270 : Cond.methodLink RX11 270 yX11_count ∈ zwsG := zin 823 (by decide +kernel) (by decide +kernel)
set_option maxRecDepth 20000 in
theorem c_La_10 : zCk RL 10 11 := ⟨by decide, zin 824 (by decide +kernel) (by decide +kernel), zin 825 (by decide +kernel) (by decide +kernel), zin 88 (by decide +kernel) (by decide +kernel)⟩
set_option maxRecDepth 20000 in
theorem a_La_10 : Cond.classLink RL 10 RX12 ∈ zwsG := zin 824 (by decide +kernel) (by decide +kernel)
set_option maxRecDepth 20000 in
theorem l_La_12 : Cond.methodLink RL 12 yX12_init ∈ zwsG := zin 826 (by decide +kernel) (by decide +kernel)
set_option maxRecDepth 20000 in
theorem l_Mo_1 : Cond.methodLink RX12 1 objectInit ∈ zwsG := zin 829 (by decide +kernel) (by decide +kernel)
set_option maxRecDepth 20000 in
theorem f_Mo_7 : zFl RX12 7 11 0 2 0 := ⟨zin 830 (by decide +kernel) (by decide +kernel), by decide, by decide +kernel, by decide +kernel, rfl⟩
set_option maxRecDepth 20000 in
theorem f_Mo_84 : zFl RX12 84 11 1 0 1 := ⟨zin 831 (by decide +kernel) (by decide +kernel), by decide, by decide +kernel, by decide +kernel, rfl⟩
set_option maxRecDepth 20000 in
theorem f_Mo_103 : zFl RX12 103 11 2 0 2 := ⟨zin 832 (by decide +kernel) (by decide +kernel), by decide, by decide +kernel, by decide +kernel, rfl⟩
set_option maxRecDepth 20000 in
theorem f_Mo_116 : zFl RX12 116 11 3 0 3 := ⟨zin 833 (by decide +kernel) (by decide +kernel), by decide, by decide +kernel, by decide +kernel, rfl⟩
set_option maxRecDepth 20000 in
theorem f_Mo_72 : zFl RX12 72 11 4 0 4 := ⟨zin 834 (by decide +kernel) (by decide +kernel), by decide, by decide +kernel, by decide +kernel, rfl⟩
set_option maxRecDepth 20000 in
theorem f_Mo_13 : zFl RX12 13 11 5 2 5 := ⟨zin 835 (by decide +kernel) (by decide +kernel), by decide, by decide +kernel, by decide +kernel, rfl⟩
set_option maxRecDepth 20000 in
theorem f_Mo_16 : zFl RX12 16 11 6 2 6 := ⟨zin 836 (by decide +kernel) (by decide +kernel), by decide, by decide +kernel, by decide +kernel, rfl⟩
set_option maxRecDepth 20000 in
theorem f_Mo_19 : zFl RX12 19 11 7 2 7 := ⟨zin 837 (by decide +kernel) (by decide +kernel), by decide, by decide +kernel, by decide +kernel, rfl⟩
set_option maxRecDepth 20000 in
theorem f_Mo_22 : zFl RX12 22 11 8 2 8 := ⟨zin 838 (by decide +kernel) (by decide +kernel), by decide, by decide +kernel, by decide +kernel, rfl⟩
set_option maxRecDepth 20000 in
theorem f_Mo_119 : zFl RX12 119 11 9 0 9 := ⟨zin 839 (by decide +kernel) (by decide +kernel), by decide, by decide +kernel, by decide +kernel, rfl⟩
set_option maxRecDepth 20000 in
theorem f_Mo_25 : zFl RX12 25 11 10 2 10 := ⟨zin 840 (by decide +kernel) (by decide +kernel), by decide, by decide +kernel, by decide +kernel, rfl⟩
set_option maxRecDepth 20000 in
theorem f_Mo_29 : zFl RX12 29 11 11 2 11 := ⟨zin 841 (by decide +kernel) (by decide +kernel), by decide, by decide +kernel, by decide +kernel, rfl⟩
set_option maxRecDepth 20000 in
theorem f_Mo_32 : zFl RX12 32 11 12 2 12 := ⟨zin 842 (by decide +kernel) (by decide +kernel), by decide, by decide +kernel, by decide +kernel, rfl⟩
set_option maxRecDepth 20000 in
theorem f_Mo_35 : zFl RX12 35 11 13 2 13 := ⟨zin 843 (by decide +kernel) (by decide +kernel), by decide, by decide +kernel, by decide +kernel, rfl⟩
set_option maxRecDepth 20000 in
theorem f_Mo_156 : zFl RX12 156 11 14 0 14 := ⟨zin 844 (by decide +kernel) (by decide +kernel), by decide, by decide +kernel, by decide +kernel, rfl⟩
set_option maxRecDepth 20000 in
theorem f_Mo_184 : zFl RX12 184 11 15 0 15 := ⟨zin 845 (by decide +kernel) (by decide +kernel), by decide, by decide +kernel, by decide +kernel, rfl⟩
set_option maxRecDepth 20000 in
theorem f_Mo_38 : zFl RX12 38 11 16 2 16 := ⟨zin 846 (by decide +kernel) (by decide +kernel), by decide, by decide +kernel, by decide +kernel, rfl⟩
set_option maxRecDepth 20000 in
theorem f_Mo_41 : zFl RX12 41 11 17 2 17 := ⟨zin 847 (by decide +kernel) (by decide +kernel), by decide, by decide +kernel, by decide +kernel, rfl⟩
set_option maxRecDepth 20000 in
theorem f_Mo_263 : zFl RX12 263 11 18 0 18 := ⟨zin 848 (by decide +kernel) (by decide +kernel), by decide, by decide +kernel, by decide +kernel, rfl⟩
set_option maxRecDepth 20000 in
theorem f_Mo_44 : zFl RX12 44 11 19 2 19 := ⟨zin 849 (by decide +kernel) (by decide +kernel), by decide, by decide +kernel, by decide +kernel, rfl⟩
set_option maxRecDepth 20000 in
theorem f_Mo_260 : zFl RX12 260 11 20 0 20 := ⟨zin 850 (by decide +kernel) (by decide +kernel), by decide, by decide +kernel, by decide +kernel, rfl⟩
set_option maxRecDepth 20000 in
theorem f_Mo_47 : zFl RX12 47 11 21 2 21 := ⟨zin 851 (by decide +kernel) (by decide +kernel), by decide, by decide +kernel, by decide +kernel, rfl⟩
set_option maxRecDepth 20000 in
theorem f_Mo_113 : zFl RX12 113 11 22 0 22 := ⟨zin 852 (by decide +kernel) (by decide +kernel), by decide, by decide +kernel, by decide +kernel, rfl⟩
set_option maxRecDepth 20000 in
theorem f_Mo_50 : zFl RX12 50 11 23 2 23 := ⟨zin 853 (by decide +kernel) (by decide +kernel), by decide, by decide +kernel, by decide +kernel, rfl⟩
set_option maxRecDepth 20000 in
theorem f_Mo_75 : zFl RX12 75 11 24 0 24 := ⟨zin 854 (by decide +kernel) (by decide +kernel), by decide, by decide +kernel, by decide +kernel, rfl⟩
set_option maxRecDepth 20000 in
theorem f_Mo_68 : zFl RX12 68 11 25 0 25 := ⟨zin 855 (by decide +kernel) (by decide +kernel), by decide, by decide +kernel, by decide +kernel, rfl⟩
set_option maxRecDepth 20000 in
theorem f_Mo_326 : zFl RX12 326 11 26 0 26 := ⟨zin 856 (by decide +kernel) (by decide +kernel), by decide, by decide +kernel, by decide +kernel, rfl⟩
set_option maxRecDepth 20000 in
theorem f_Mo_329 : zFl RX12 329 11 27 0 27 := ⟨zin 857 (by decide +kernel) (by decide +kernel), by decide, by decide +kernel, by decide +kernel, rfl⟩
set_option maxRecDepth 20000 in
theorem f_Mo_53 : zFl RX12 53 11 28 2 28 := ⟨zin 858 (by decide +kernel) (by decide +kernel), by decide, by decide +kernel, by decide +kernel, rfl⟩
set_option maxRecDepth 20000 in
theorem f_Mo_56 : zFl RX12 56 11 29 2 29 := ⟨zin 859 (by decide +kernel) (by decide +kernel), by decide, by decide +kernel, by decide +kernel, rfl⟩
set_option maxRecDepth 20000 in
theorem f_Mo_59 : zFl RX12 59 11 30 2 30 := ⟨zin 860 (by decide +kernel) (by decide +kernel), by decide, by decide +kernel, by decide +kernel, rfl⟩
set_option maxRecDepth 20000 in
theorem f_Mo_62 : zFl RX12 62 11 31 2 31 := ⟨zin 861 (by decide +kernel) (by decide +kernel), by decide, by decide +kernel, by decide +kernel, rfl⟩
set_option maxRecDepth 20000 in
theorem f_Mo_65 : zFl RX12 65 11 32 2 32 := ⟨zin 862 (by decide +kernel) (by decide +kernel), by decide, by decide +kernel, by decide +kernel, rfl⟩
set_option maxRecDepth 20000 in
theorem f_Mo_343 : zFl RX12 343 11 33 1 33 := ⟨zin 863 (by decide +kernel) (by decide +kernel), by decide, by decide +kernel, by decide +kernel, rfl⟩
set_option maxRecDepth 20000 in
theorem l_La_17 : Cond.methodLink RL 17 yX12_letter ∈ zwsG := zin 934 (by decide +kernel) (by decide +kernel)
set_option maxRecDepth 20000 in
theorem n_Mo_78 : Cond.constantLong RX12 78 (126 : Int64) ∈ zwsG := zin 938 (by decide +kernel) (by decide +kernel)
set_option maxRecDepth 20000 in
theorem l_Mo_80 : Cond.methodLink RX12 80 yX12_in ∈ zwsG := zin 939 (by decide +kernel) (by decide +kernel)
set_option maxRecDepth 20000 in
theorem l_La_22 : Cond.methodLink RL 22 yX12_blank ∈ zwsG := zin 942 (by decide +kernel) (by decide +kernel)
set_option maxRecDepth 20000 in
theorem l_La_26 : Cond.methodLink RL 26 yX12_fault ∈ zwsG := zin 946 (by decide +kernel) (by decide +kernel)
set_option maxRecDepth 20000 in
theorem l_Mo_99 : Cond.methodLink RX12 99 yX12_faultOf ∈ zwsG := zin 950 (by decide +kernel) (by decide +kernel)
set_option maxRecDepth 20000 in
theorem l_Mo_95 : Cond.methodLink RX12 95 yX12_isGood ∈ zwsG := zin 954 (by decide +kernel) (by decide +kernel)
set_option maxRecDepth 20000 in
theorem l_Mo_87 : Cond.methodLink RX12 87 yX12_kindBy ∈ zwsG := zin 958 (by decide +kernel) (by decide +kernel)
set_option maxRecDepth 20000 in
theorem n_Mo_91 : Cond.constantLong RX12 91 (48 : Int64) ∈ zwsG := zin 961 (by decide +kernel) (by decide +kernel)
set_option maxRecDepth 20000 in
theorem n_Mo_93 : Cond.constantLong RX12 93 (57 : Int64) ∈ zwsG := zin 962 (by decide +kernel) (by decide +kernel)
set_option maxRecDepth 20000 in
theorem l_La_30 : Cond.methodLink RL 30 yX12_plane ∈ zwsG := zin 963 (by decide +kernel) (by decide +kernel)
set_option maxRecDepth 20000 in
theorem l_Mo_106 : Cond.methodLink RX12 106 yX12_numberAt ∈ zwsG := zin 967 (by decide +kernel) (by decide +kernel)
set_option maxRecDepth 20000 in
theorem l_Mo_109 : Cond.methodLink RX12 109 yX12_name ∈ zwsG := zin 971 (by decide +kernel) (by decide +kernel)
set_option maxRecDepth 20000 in
theorem l_La_47 : Cond.methodLink RL 47 yX12_stack ∈ zwsG := zin 975 (by decide +kernel) (by decide +kernel)
set_option maxRecDepth 20000 in
theorem l_Mo_220 : Cond.methodLink RX12 220 yX12_isStack ∈ zwsG := zin 979 (by decide +kernel) (by decide +kernel)
set_option maxRecDepth 20000 in
theorem l_Mo_213 : Cond.methodLink RX12 213 yX12_lacks ∈ zwsG := zin 983 (by decide +kernel) (by decide +kernel)
set_option maxRecDepth 20000 in
theorem l_Mo_217 : Cond.methodLink RX12 217 yX12_freshen ∈ zwsG := zin 987 (by decide +kernel) (by decide +kernel)
set_option maxRecDepth 20000 in
theorem l_Mo_207 : Cond.methodLink RX12 207 yX12_layAll ∈ zwsG := zin 991 (by decide +kernel) (by decide +kernel)
set_option maxRecDepth 20000 in
theorem l_Mo_198 : Cond.methodLink RX12 198 yX12_layPoints ∈ zwsG := zin 995 (by decide +kernel) (by decide +kernel)
set_option maxRecDepth 20000 in
theorem l_Mo_173 : Cond.methodLink RX12 173 yX12_isFlat ∈ zwsG := zin 999 (by decide +kernel) (by decide +kernel)
set_option maxRecDepth 20000 in
theorem l_Mo_167 : Cond.methodLink RX12 167 yX12_addPoint ∈ zwsG := zin 1003 (by decide +kernel) (by decide +kernel)
set_option maxRecDepth 20000 in
theorem l_Mo_159 : Cond.methodLink RX12 159 yX12_layNumber ∈ zwsG := zin 1007 (by decide +kernel) (by decide +kernel)
set_option maxRecDepth 20000 in
theorem l_Mo_163 : Cond.methodLink RX12 163 yX12_compare ∈ zwsG := zin 1011 (by decide +kernel) (by decide +kernel)
set_option maxRecDepth 20000 in
theorem l_Mo_142 : Cond.methodLink RX12 142 yX12_signRoots ∈ zwsG := zin 1015 (by decide +kernel) (by decide +kernel)
set_option maxRecDepth 20000 in
theorem l_Mo_136 : Cond.methodLink RX12 136 yX12_signRoot ∈ zwsG := zin 1018 (by decide +kernel) (by decide +kernel)
set_option maxRecDepth 20000 in
theorem l_Mo_132 : Cond.methodLink RX12 132 yX12_signOf ∈ zwsG := zin 1021 (by decide +kernel) (by decide +kernel)
set_option maxRecDepth 20000 in
theorem n_Mo_140 : Cond.constantLong RX12 140 (-2 : Int64) ∈ zwsG := zin 1024 (by decide +kernel) (by decide +kernel)
set_option maxRecDepth 20000 in
theorem l_Mo_176 : Cond.methodLink RX12 176 yX12_addRoots ∈ zwsG := zin 1025 (by decide +kernel) (by decide +kernel)
set_option maxRecDepth 20000 in
theorem l_Mo_126 : Cond.methodLink RX12 126 yX12_square ∈ zwsG := zin 1029 (by decide +kernel) (by decide +kernel)
set_option maxRecDepth 20000 in
theorem l_Mo_123 : Cond.methodLink RX12 123 yX12_squareBy ∈ zwsG := zin 1033 (by decide +kernel) (by decide +kernel)
set_option maxRecDepth 20000 in
theorem l_Mo_129 : Cond.methodLink RX12 129 yX12_slope ∈ zwsG := zin 1036 (by decide +kernel) (by decide +kernel)
set_option maxRecDepth 20000 in
theorem n_Mo_171 : Cond.constantLong RX12 171 (-1 : Int64) ∈ zwsG := zin 1040 (by decide +kernel) (by decide +kernel)
set_option maxRecDepth 20000 in
theorem l_Mo_201 : Cond.methodLink RX12 201 yX12_laySamples ∈ zwsG := zin 1041 (by decide +kernel) (by decide +kernel)
set_option maxRecDepth 20000 in
theorem l_Mo_187 : Cond.methodLink RX12 187 yX12_laySample ∈ zwsG := zin 1045 (by decide +kernel) (by decide +kernel)
set_option maxRecDepth 20000 in
theorem l_Mo_180 : Cond.methodLink RX12 180 yX12_floorOf ∈ zwsG := zin 1049 (by decide +kernel) (by decide +kernel)
set_option maxRecDepth 20000 in
theorem n_Mo_146 : Cond.constantLong RX12 146 (-100 : Int64) ∈ zwsG := zin 1053 (by decide +kernel) (by decide +kernel)
set_option maxRecDepth 20000 in
theorem n_Mo_148 : Cond.constantLong RX12 148 (100 : Int64) ∈ zwsG := zin 1054 (by decide +kernel) (by decide +kernel)
set_option maxRecDepth 20000 in
theorem n_Mo_150 : Cond.constantLong RX12 150 (2 : Int64) ∈ zwsG := zin 1055 (by decide +kernel) (by decide +kernel)
set_option maxRecDepth 20000 in
theorem l_Mo_152 : Cond.methodLink RX12 152 yX12_compareTo ∈ zwsG := zin 1056 (by decide +kernel) (by decide +kernel)
set_option maxRecDepth 20000 in
theorem l_Mo_204 : Cond.methodLink RX12 204 yX12_layRanks ∈ zwsG := zin 1060 (by decide +kernel) (by decide +kernel)
set_option maxRecDepth 20000 in
theorem l_Mo_190 : Cond.methodLink RX12 190 yX12_difference ∈ zwsG := zin 1064 (by decide +kernel) (by decide +kernel)
set_option maxRecDepth 20000 in
theorem l_Mo_194 : Cond.methodLink RX12 194 yX12_isFirst ∈ zwsG := zin 1068 (by decide +kernel) (by decide +kernel)
set_option maxRecDepth 20000 in
theorem l_Mo_210 : Cond.methodLink RX12 210 yX12_cellsIn ∈ zwsG := zin 1072 (by decide +kernel) (by decide +kernel)
set_option maxRecDepth 20000 in
theorem l_La_52 : Cond.methodLink RL 52 yX12_cell ∈ zwsG := zin 1076 (by decide +kernel) (by decide +kernel)
set_option maxRecDepth 20000 in
theorem l_Mo_223 : Cond.methodLink RX12 223 yX12_isCell ∈ zwsG := zin 1080 (by decide +kernel) (by decide +kernel)
set_option maxRecDepth 20000 in
theorem l_Mo_227 : Cond.methodLink RX12 227 yX12_isCurve ∈ zwsG := zin 1084 (by decide +kernel) (by decide +kernel)
set_option maxRecDepth 20000 in
theorem l_Mo_230 : Cond.methodLink RX12 230 yX12_lies ∈ zwsG := zin 1088 (by decide +kernel) (by decide +kernel)
set_option maxRecDepth 20000 in
theorem l_La_56 : Cond.methodLink RL 56 yX12_neighbours ∈ zwsG := zin 1092 (by decide +kernel) (by decide +kernel)
set_option maxRecDepth 20000 in
theorem l_Mo_240 : Cond.methodLink RX12 240 yX12_isNeighbour ∈ zwsG := zin 1096 (by decide +kernel) (by decide +kernel)
set_option maxRecDepth 20000 in
theorem l_Mo_236 : Cond.methodLink RX12 236 yX12_isBeside ∈ zwsG := zin 1100 (by decide +kernel) (by decide +kernel)
set_option maxRecDepth 20000 in
theorem l_Mo_233 : Cond.methodLink RX12 233 yX12_comesTo ∈ zwsG := zin 1104 (by decide +kernel) (by decide +kernel)
set_option maxRecDepth 20000 in
theorem l_La_81 : Cond.methodLink RL 81 yX12_sentence ∈ zwsG := zin 1108 (by decide +kernel) (by decide +kernel)
set_option maxRecDepth 20000 in
theorem l_Mo_254 : Cond.methodLink RX12 254 yX12_isForm ∈ zwsG := zin 1112 (by decide +kernel) (by decide +kernel)
set_option maxRecDepth 20000 in
theorem n_Mo_243 : Cond.constantLong RX12 243 (6666 : Int64) ∈ zwsG := zin 1115 (by decide +kernel) (by decide +kernel)
set_option maxRecDepth 20000 in
theorem l_Mo_257 : Cond.methodLink RX12 257 yX12_holdsIn ∈ zwsG := zin 1116 (by decide +kernel) (by decide +kernel)
set_option maxRecDepth 20000 in
theorem l_Mo_251 : Cond.methodLink RX12 251 yX12_holds ∈ zwsG := zin 1120 (by decide +kernel) (by decide +kernel)
set_option maxRecDepth 20000 in
theorem l_Mo_245 : Cond.methodLink RX12 245 yX12_figureOf ∈ zwsG := zin 1124 (by decide +kernel) (by decide +kernel)
set_option maxRecDepth 20000 in
theorem l_Mo_248 : Cond.methodLink RX12 248 yX12_isSo ∈ zwsG := zin 1127 (by decide +kernel) (by decide +kernel)
set_option maxRecDepth 20000 in
theorem l_La_105 : Cond.methodLink RL 105 yX12_latest ∈ zwsG := zin 1130 (by decide +kernel) (by decide +kernel)
set_option maxRecDepth 20000 in
theorem l_La_85 : Cond.methodLink RL 85 yX12_pieces ∈ zwsG := zin 1134 (by decide +kernel) (by decide +kernel)
set_option maxRecDepth 20000 in
theorem l_Mo_269 : Cond.methodLink RX12 269 yX12_piecesOf ∈ zwsG := zin 1138 (by decide +kernel) (by decide +kernel)
set_option maxRecDepth 20000 in
theorem l_Mo_266 : Cond.methodLink RX12 266 yX12_isSpread ∈ zwsG := zin 1142 (by decide +kernel) (by decide +kernel)
set_option maxRecDepth 20000 in
theorem l_La_89 : Cond.methodLink RL 89 yX12_loose ∈ zwsG := zin 1146 (by decide +kernel) (by decide +kernel)
set_option maxRecDepth 20000 in
theorem l_Mo_272 : Cond.methodLink RX12 272 yX12_cellsAll ∈ zwsG := zin 1150 (by decide +kernel) (by decide +kernel)
set_option maxRecDepth 20000 in
theorem l_La_35 : Cond.methodLink RL 35 yX12_curve ∈ zwsG := zin 1154 (by decide +kernel) (by decide +kernel)
set_option maxRecDepth 20000 in
theorem l_Mo_281 : Cond.methodLink RX12 281 yX12_tellCurve ∈ zwsG := zin 1158 (by decide +kernel) (by decide +kernel)
set_option maxRecDepth 20000 in
theorem l_Mo_275 : Cond.methodLink RX12 275 yX12_sortsOf ∈ zwsG := zin 1162 (by decide +kernel) (by decide +kernel)
set_option maxRecDepth 20000 in
theorem l_Mo_311 : Cond.methodLink RX12 311 yX12_liesAt ∈ zwsG := zin 1166 (by decide +kernel) (by decide +kernel)
set_option maxRecDepth 20000 in
theorem l_Mo_278 : Cond.methodLink RX12 278 yX12_askOf ∈ zwsG := zin 1170 (by decide +kernel) (by decide +kernel)
set_option maxRecDepth 20000 in
theorem l_La_39 : Cond.methodLink RL 39 yX12_as ∈ zwsG := zin 1174 (by decide +kernel) (by decide +kernel)
set_option maxRecDepth 20000 in
theorem n_Mo_284 : Cond.constantLong RX12 284 (4 : Int64) ∈ zwsG := zin 1178 (by decide +kernel) (by decide +kernel)
set_option maxRecDepth 20000 in
theorem l_La_43 : Cond.methodLink RL 43 yX12_point ∈ zwsG := zin 1179 (by decide +kernel) (by decide +kernel)
set_option maxRecDepth 20000 in
theorem l_Mo_298 : Cond.methodLink RX12 298 yX12_tellPoint ∈ zwsG := zin 1183 (by decide +kernel) (by decide +kernel)
set_option maxRecDepth 20000 in
theorem n_Mo_289 : Cond.constant RX12 289 (100000 : Int32) ∈ zwsG := zin 1187 (by decide +kernel) (by decide +kernel)
set_option maxRecDepth 20000 in
theorem n_Mo_290 : Cond.constantLong RX12 290 (1000 : Int64) ∈ zwsG := zin 1188 (by decide +kernel) (by decide +kernel)
set_option maxRecDepth 20000 in
theorem l_Mo_292 : Cond.methodLink RX12 292 yX12_meeting ∈ zwsG := zin 1189 (by decide +kernel) (by decide +kernel)
set_option maxRecDepth 20000 in
theorem l_Mo_286 : Cond.methodLink RX12 286 yX12_isSame ∈ zwsG := zin 1193 (by decide +kernel) (by decide +kernel)
set_option maxRecDepth 20000 in
theorem l_Mo_295 : Cond.methodLink RX12 295 yX12_standing ∈ zwsG := zin 1197 (by decide +kernel) (by decide +kernel)
set_option maxRecDepth 20000 in
theorem l_La_60 : Cond.methodLink RL 60 yX12_put ∈ zwsG := zin 1201 (by decide +kernel) (by decide +kernel)
set_option maxRecDepth 20000 in
theorem l_Mo_305 : Cond.methodLink RX12 305 yX12_isNumber ∈ zwsG := zin 1205 (by decide +kernel) (by decide +kernel)
set_option maxRecDepth 20000 in
theorem n_Mo_301 : Cond.constantLong RX12 301 (-9 : Int64) ∈ zwsG := zin 1208 (by decide +kernel) (by decide +kernel)
set_option maxRecDepth 20000 in
theorem n_Mo_303 : Cond.constantLong RX12 303 (9 : Int64) ∈ zwsG := zin 1209 (by decide +kernel) (by decide +kernel)
set_option maxRecDepth 20000 in
theorem l_La_64 : Cond.methodLink RL 64 yX12_take ∈ zwsG := zin 1210 (by decide +kernel) (by decide +kernel)
set_option maxRecDepth 20000 in
theorem l_La_68 : Cond.methodLink RL 68 yX12_move ∈ zwsG := zin 1214 (by decide +kernel) (by decide +kernel)
set_option maxRecDepth 20000 in
theorem l_Mo_308 : Cond.methodLink RX12 308 yX12_cellsNow ∈ zwsG := zin 1218 (by decide +kernel) (by decide +kernel)
set_option maxRecDepth 20000 in
theorem l_La_72 : Cond.methodLink RL 72 yX12_change ∈ zwsG := zin 1222 (by decide +kernel) (by decide +kernel)
set_option maxRecDepth 20000 in
theorem l_La_76 : Cond.methodLink RL 76 yX12_mirror ∈ zwsG := zin 1226 (by decide +kernel) (by decide +kernel)
set_option maxRecDepth 20000 in
theorem l_La_93 : Cond.methodLink RL 93 yX12_see ∈ zwsG := zin 1230 (by decide +kernel) (by decide +kernel)
set_option maxRecDepth 20000 in
theorem l_La_97 : Cond.methodLink RL 97 yX12_forget ∈ zwsG := zin 1234 (by decide +kernel) (by decide +kernel)
set_option maxRecDepth 20000 in
theorem l_La_101 : Cond.methodLink RL 101 yX12_dice ∈ zwsG := zin 1238 (by decide +kernel) (by decide +kernel)
set_option maxRecDepth 20000 in
theorem n_Mo_315 : Cond.constantLong RX12 315 (1103515245 : Int64) ∈ zwsG := zin 1242 (by decide +kernel) (by decide +kernel)
set_option maxRecDepth 20000 in
theorem n_Mo_317 : Cond.constantLong RX12 317 (12345 : Int64) ∈ zwsG := zin 1243 (by decide +kernel) (by decide +kernel)
set_option maxRecDepth 20000 in
theorem n_Mo_319 : Cond.constantLong RX12 319 (2147483647 : Int64) ∈ zwsG := zin 1244 (by decide +kernel) (by decide +kernel)
set_option maxRecDepth 20000 in
theorem n_Mo_321 : Cond.constant RX12 321 (65536 : Int32) ∈ zwsG := zin 1245 (by decide +kernel) (by decide +kernel)
set_option maxRecDepth 20000 in
theorem l_La_109 : Cond.methodLink RL 109 yX12_image ∈ zwsG := zin 1246 (by decide +kernel) (by decide +kernel)
set_option maxRecDepth 20000 in
theorem l_Mo_322 : Cond.methodLink RX12 322 yX12_copy ∈ zwsG := zin 1250 (by decide +kernel) (by decide +kernel)
set_option maxRecDepth 20000 in
theorem l_La_113 : Cond.methodLink RL 113 yX12_restore ∈ zwsG := zin 1253 (by decide +kernel) (by decide +kernel)
set_option maxRecDepth 20000 in
theorem l_La_117 : Cond.methodLink RL 117 yX12_count ∈ zwsG := zin 1257 (by decide +kernel) (by decide +kernel)
set_option maxRecDepth 20000 in
theorem l_Mo_338 : Cond.methodLink RX12 338 yX12_countOf ∈ zwsG := zin 1261 (by decide +kernel) (by decide +kernel)
set_option maxRecDepth 20000 in
theorem l_Mo_335 : Cond.methodLink RX12 335 yX12_countPlane ∈ zwsG := zin 1265 (by decide +kernel) (by decide +kernel)
set_option maxRecDepth 20000 in
theorem l_Mo_332 : Cond.methodLink RX12 332 yX12_sectionsAll ∈ zwsG := zin 1269 (by decide +kernel) (by decide +kernel)
set_option maxRecDepth 20000 in
theorem l_La_122 : Cond.methodLink RL 122 yX12_digest ∈ zwsG := zin 1273 (by decide +kernel) (by decide +kernel)
set_option maxRecDepth 20000 in
theorem n_Mo_351 : Cond.constantLong RX12 351 (1433 : Int64) ∈ zwsG := zin 1277 (by decide +kernel) (by decide +kernel)
set_option maxRecDepth 20000 in
theorem l_Mo_347 : Cond.methodLink RX12 347 yX12_say ∈ zwsG := zin 1278 (by decide +kernel) (by decide +kernel)
set_option maxRecDepth 20000 in
theorem n_Mo_341 : Cond.constantLong RX12 341 (31 : Int64) ∈ zwsG := zin 1282 (by decide +kernel) (by decide +kernel)
set_option maxRecDepth 20000 in
theorem l_Mo_353 : Cond.methodLink RX12 353 yX12_sayStacks ∈ zwsG := zin 1283 (by decide +kernel) (by decide +kernel)
set_option maxRecDepth 20000 in
theorem zo_inst : Cond.instanceMethod objectInit ∈ zwsG := zin 99 (by decide +kernel) (by decide +kernel)
set_option maxRecDepth 20000 in
theorem zo_code : Cond.code objectInit ⟨#[0xb1]⟩ 1 none ∈ zwsG := zin 100 (by decide +kernel) (by decide +kernel)
set_option maxRecDepth 20000 in
theorem zw_int : Cond.arrayClass .int ∈ zwsG := zin 116 (by decide +kernel) (by decide +kernel)
set_option maxRecDepth 20000 in
theorem zw_long : Cond.arrayClass .long ∈ zwsG := zin 933 (by decide +kernel) (by decide +kernel)
set_option maxRecDepth 20000 in
theorem zw_boolean : Cond.arrayClass .boolean ∈ zwsG := zin 213 (by decide +kernel) (by decide +kernel)
end
section
theorem d_Cu_init_0 : decode m_Cu_init.2.1 0 = .ok (.aload_n 0, 1) ∧ 0 + 1 = 1 := ⟨by decide +kernel, rfl⟩
theorem d_Cu_init_1 : decode m_Cu_init.2.1 1 = .ok (.invokespecial 3, 3) ∧ 1 + 3 = 4 := ⟨by decide +kernel, rfl⟩
theorem d_Cu_init_4 : decode m_Cu_init.2.1 4 = .ok (.aload_n 0, 1) ∧ 4 + 1 = 5 := ⟨by decide +kernel, rfl⟩
theorem d_Cu_init_5 : decode m_Cu_init.2.1 5 = .ok (.iconst 0, 1) ∧ 5 + 1 = 6 := ⟨by decide +kernel, rfl⟩
theorem d_Cu_init_6 : decode m_Cu_init.2.1 6 = .ok (.putfield 9, 3) ∧ 6 + 3 = 9 := ⟨by decide +kernel, rfl⟩
theorem d_Cu_init_9 : decode m_Cu_init.2.1 9 = .ok (.aload_n 0, 1) ∧ 9 + 1 = 10 := ⟨by decide +kernel, rfl⟩
theorem d_Cu_init_10 : decode m_Cu_init.2.1 10 = .ok (.iconst 0, 1) ∧ 10 + 1 = 11 := ⟨by decide +kernel, rfl⟩
theorem d_Cu_init_11 : decode m_Cu_init.2.1 11 = .ok (.putfield 15, 3) ∧ 11 + 3 = 14 := ⟨by decide +kernel, rfl⟩
theorem d_Cu_init_14 : decode m_Cu_init.2.1 14 = .ok (.aload_n 0, 1) ∧ 14 + 1 = 15 := ⟨by decide +kernel, rfl⟩
theorem d_Cu_init_15 : decode m_Cu_init.2.1 15 = .ok (.iconst 0, 1) ∧ 15 + 1 = 16 := ⟨by decide +kernel, rfl⟩
theorem d_Cu_init_16 : decode m_Cu_init.2.1 16 = .ok (.putfield 18, 3) ∧ 16 + 3 = 19 := ⟨by decide +kernel, rfl⟩
theorem d_Cu_init_19 : decode m_Cu_init.2.1 19 = .ok (.aload_n 0, 1) ∧ 19 + 1 = 20 := ⟨by decide +kernel, rfl⟩
theorem d_Cu_init_20 : decode m_Cu_init.2.1 20 = .ok (.iconst 0, 1) ∧ 20 + 1 = 21 := ⟨by decide +kernel, rfl⟩
theorem d_Cu_init_21 : decode m_Cu_init.2.1 21 = .ok (.putfield 21, 3) ∧ 21 + 3 = 24 := ⟨by decide +kernel, rfl⟩
theorem d_Cu_init_24 : decode m_Cu_init.2.1 24 = .ok (.return_, 1) := by decide +kernel
theorem d_Cu_write_0 : decode m_Cu_write.2.1 0 = .ok (.aload_n 0, 1) ∧ 0 + 1 = 1 := ⟨by decide +kernel, rfl⟩
theorem d_Cu_write_1 : decode m_Cu_write.2.1 1 = .ok (.iload_n 1, 1) ∧ 1 + 1 = 2 := ⟨by decide +kernel, rfl⟩
theorem d_Cu_write_2 : decode m_Cu_write.2.1 2 = .ok (.putfield 9, 3) ∧ 2 + 3 = 5 := ⟨by decide +kernel, rfl⟩
theorem d_Cu_write_5 : decode m_Cu_write.2.1 5 = .ok (.aload_n 0, 1) ∧ 5 + 1 = 6 := ⟨by decide +kernel, rfl⟩
theorem d_Cu_write_6 : decode m_Cu_write.2.1 6 = .ok (.iload_n 2, 1) ∧ 6 + 1 = 7 := ⟨by decide +kernel, rfl⟩
theorem d_Cu_write_7 : decode m_Cu_write.2.1 7 = .ok (.putfield 15, 3) ∧ 7 + 3 = 10 := ⟨by decide +kernel, rfl⟩
theorem d_Cu_write_10 : decode m_Cu_write.2.1 10 = .ok (.aload_n 0, 1) ∧ 10 + 1 = 11 := ⟨by decide +kernel, rfl⟩
theorem d_Cu_write_11 : decode m_Cu_write.2.1 11 = .ok (.iload_n 3, 1) ∧ 11 + 1 = 12 := ⟨by decide +kernel, rfl⟩
theorem d_Cu_write_12 : decode m_Cu_write.2.1 12 = .ok (.putfield 18, 3) ∧ 12 + 3 = 15 := ⟨by decide +kernel, rfl⟩
theorem d_Cu_write_15 : decode m_Cu_write.2.1 15 = .ok (.aload_n 0, 1) ∧ 15 + 1 = 16 := ⟨by decide +kernel, rfl⟩
theorem d_Cu_write_16 : decode m_Cu_write.2.1 16 = .ok (.iload 4, 2) ∧ 16 + 2 = 18 := ⟨by decide +kernel, rfl⟩
theorem d_Cu_write_18 : decode m_Cu_write.2.1 18 = .ok (.putfield 21, 3) ∧ 18 + 3 = 21 := ⟨by decide +kernel, rfl⟩
theorem d_Cu_write_21 : decode m_Cu_write.2.1 21 = .ok (.return_, 1) := by decide +kernel
theorem d_Cu_isUpright_0 : decode m_Cu_isUpright.2.1 0 = .ok (.aload_n 0, 1) ∧ 0 + 1 = 1 := ⟨by decide +kernel, rfl⟩
theorem d_Cu_isUpright_1 : decode m_Cu_isUpright.2.1 1 = .ok (.getfield 9, 3) ∧ 1 + 3 = 4 := ⟨by decide +kernel, rfl⟩
theorem d_Cu_isUpright_4 : decode m_Cu_isUpright.2.1 4 = .ok (.iconst 3, 1) ∧ 4 + 1 = 5 := ⟨by decide +kernel, rfl⟩
theorem d_Cu_isUpright_5 : decode m_Cu_isUpright.2.1 5 = .ok (.if_icmp .ne 7, 3) ∧ 5 + 3 = 8 ∧ (((5 : Nat) : Int) + (7) = ((12 : Nat) : Int)) := ⟨by decide +kernel, rfl, by decide⟩
theorem d_Cu_isUpright_8 : decode m_Cu_isUpright.2.1 8 = .ok (.iconst 1, 1) ∧ 8 + 1 = 9 := ⟨by decide +kernel, rfl⟩
theorem d_Cu_isUpright_9 : decode m_Cu_isUpright.2.1 9 = .ok (.goto 4, 3) ∧ (((9 : Nat) : Int) + (4) = ((13 : Nat) : Int)) := ⟨by decide +kernel, by decide⟩
theorem d_Cu_isUpright_12 : decode m_Cu_isUpright.2.1 12 = .ok (.iconst 0, 1) ∧ 12 + 1 = 13 := ⟨by decide +kernel, rfl⟩
theorem d_Cu_isUpright_13 : decode m_Cu_isUpright.2.1 13 = .ok (.ireturn, 1) := by decide +kernel
theorem d_Cu_isSuch_0 : decode m_Cu_isSuch.2.1 0 = .ok (.iload_n 1, 1) ∧ 0 + 1 = 1 := ⟨by decide +kernel, rfl⟩
theorem d_Cu_isSuch_1 : decode m_Cu_isSuch.2.1 1 = .ok (.ifCond .eq 24, 3) ∧ 1 + 3 = 4 ∧ (((1 : Nat) : Int) + (24) = ((25 : Nat) : Int)) := ⟨by decide +kernel, rfl, by decide⟩
theorem d_Cu_isSuch_4 : decode m_Cu_isSuch.2.1 4 = .ok (.iload_n 1, 1) ∧ 4 + 1 = 5 := ⟨by decide +kernel, rfl⟩
theorem d_Cu_isSuch_5 : decode m_Cu_isSuch.2.1 5 = .ok (.aload_n 0, 1) ∧ 5 + 1 = 6 := ⟨by decide +kernel, rfl⟩
theorem d_Cu_isSuch_6 : decode m_Cu_isSuch.2.1 6 = .ok (.getfield 9, 3) ∧ 6 + 3 = 9 := ⟨by decide +kernel, rfl⟩
theorem d_Cu_isSuch_9 : decode m_Cu_isSuch.2.1 9 = .ok (.if_icmp .eq 16, 3) ∧ 9 + 3 = 12 ∧ (((9 : Nat) : Int) + (16) = ((25 : Nat) : Int)) := ⟨by decide +kernel, rfl, by decide⟩
theorem d_Cu_isSuch_12 : decode m_Cu_isSuch.2.1 12 = .ok (.iload_n 1, 1) ∧ 12 + 1 = 13 := ⟨by decide +kernel, rfl⟩
theorem d_Cu_isSuch_13 : decode m_Cu_isSuch.2.1 13 = .ok (.iconst 1, 1) ∧ 13 + 1 = 14 := ⟨by decide +kernel, rfl⟩
theorem d_Cu_isSuch_14 : decode m_Cu_isSuch.2.1 14 = .ok (.if_icmp .ne 15, 3) ∧ 14 + 3 = 17 ∧ (((14 : Nat) : Int) + (15) = ((29 : Nat) : Int)) := ⟨by decide +kernel, rfl, by decide⟩
theorem d_Cu_isSuch_17 : decode m_Cu_isSuch.2.1 17 = .ok (.aload_n 0, 1) ∧ 17 + 1 = 18 := ⟨by decide +kernel, rfl⟩
theorem d_Cu_isSuch_18 : decode m_Cu_isSuch.2.1 18 = .ok (.getfield 9, 3) ∧ 18 + 3 = 21 := ⟨by decide +kernel, rfl⟩
theorem d_Cu_isSuch_21 : decode m_Cu_isSuch.2.1 21 = .ok (.iconst 2, 1) ∧ 21 + 1 = 22 := ⟨by decide +kernel, rfl⟩
theorem d_Cu_isSuch_22 : decode m_Cu_isSuch.2.1 22 = .ok (.if_icmp .ne 7, 3) ∧ 22 + 3 = 25 ∧ (((22 : Nat) : Int) + (7) = ((29 : Nat) : Int)) := ⟨by decide +kernel, rfl, by decide⟩
theorem d_Cu_isSuch_25 : decode m_Cu_isSuch.2.1 25 = .ok (.iconst 1, 1) ∧ 25 + 1 = 26 := ⟨by decide +kernel, rfl⟩
theorem d_Cu_isSuch_26 : decode m_Cu_isSuch.2.1 26 = .ok (.goto 4, 3) ∧ (((26 : Nat) : Int) + (4) = ((30 : Nat) : Int)) := ⟨by decide +kernel, by decide⟩
theorem d_Cu_isSuch_29 : decode m_Cu_isSuch.2.1 29 = .ok (.iconst 0, 1) ∧ 29 + 1 = 30 := ⟨by decide +kernel, rfl⟩
theorem d_Cu_isSuch_30 : decode m_Cu_isSuch.2.1 30 = .ok (.ireturn, 1) := by decide +kernel
theorem d_Cu_squareOf_0 : decode m_Cu_squareOf.2.1 0 = .ok (.iload_n 0, 1) ∧ 0 + 1 = 1 := ⟨by decide +kernel, rfl⟩
theorem d_Cu_squareOf_1 : decode m_Cu_squareOf.2.1 1 = .ok (.ifCond .ne 7, 3) ∧ 1 + 3 = 4 ∧ (((1 : Nat) : Int) + (7) = ((8 : Nat) : Int)) := ⟨by decide +kernel, rfl, by decide⟩
theorem d_Cu_squareOf_4 : decode m_Cu_squareOf.2.1 4 = .ok (.iconst 1, 1) ∧ 4 + 1 = 5 := ⟨by decide +kernel, rfl⟩
theorem d_Cu_squareOf_5 : decode m_Cu_squareOf.2.1 5 = .ok (.goto 13, 3) ∧ (((5 : Nat) : Int) + (13) = ((18 : Nat) : Int)) := ⟨by decide +kernel, by decide⟩
theorem d_Cu_squareOf_8 : decode m_Cu_squareOf.2.1 8 = .ok (.iload_n 0, 1) ∧ 8 + 1 = 9 := ⟨by decide +kernel, rfl⟩
theorem d_Cu_squareOf_9 : decode m_Cu_squareOf.2.1 9 = .ok (.iconst 4, 1) ∧ 9 + 1 = 10 := ⟨by decide +kernel, rfl⟩
theorem d_Cu_squareOf_10 : decode m_Cu_squareOf.2.1 10 = .ok (.if_icmp .ne 7, 3) ∧ 10 + 3 = 13 ∧ (((10 : Nat) : Int) + (7) = ((17 : Nat) : Int)) := ⟨by decide +kernel, rfl, by decide⟩
theorem d_Cu_squareOf_13 : decode m_Cu_squareOf.2.1 13 = .ok (.iconst (-1), 1) ∧ 13 + 1 = 14 := ⟨by decide +kernel, rfl⟩
theorem d_Cu_squareOf_14 : decode m_Cu_squareOf.2.1 14 = .ok (.goto 4, 3) ∧ (((14 : Nat) : Int) + (4) = ((18 : Nat) : Int)) := ⟨by decide +kernel, by decide⟩
theorem d_Cu_squareOf_17 : decode m_Cu_squareOf.2.1 17 = .ok (.iconst 0, 1) ∧ 17 + 1 = 18 := ⟨by decide +kernel, rfl⟩
theorem d_Cu_squareOf_18 : decode m_Cu_squareOf.2.1 18 = .ok (.ireturn, 1) := by decide +kernel
theorem d_Cu_slopeAs_0 : decode m_Cu_slopeAs.2.1 0 = .ok (.iload_n 1, 1) ∧ 0 + 1 = 1 := ⟨by decide +kernel, rfl⟩
theorem d_Cu_slopeAs_1 : decode m_Cu_slopeAs.2.1 1 = .ok (.iconst 2, 1) ∧ 1 + 1 = 2 := ⟨by decide +kernel, rfl⟩
theorem d_Cu_slopeAs_2 : decode m_Cu_slopeAs.2.1 2 = .ok (.if_icmp .ne 7, 3) ∧ 2 + 3 = 5 ∧ (((2 : Nat) : Int) + (7) = ((9 : Nat) : Int)) := ⟨by decide +kernel, rfl, by decide⟩
theorem d_Cu_slopeAs_5 : decode m_Cu_slopeAs.2.1 5 = .ok (.iconst 0, 1) ∧ 5 + 1 = 6 := ⟨by decide +kernel, rfl⟩
theorem d_Cu_slopeAs_6 : decode m_Cu_slopeAs.2.1 6 = .ok (.goto 7, 3) ∧ (((6 : Nat) : Int) + (7) = ((13 : Nat) : Int)) := ⟨by decide +kernel, by decide⟩
theorem d_Cu_slopeAs_9 : decode m_Cu_slopeAs.2.1 9 = .ok (.aload_n 0, 1) ∧ 9 + 1 = 10 := ⟨by decide +kernel, rfl⟩
theorem d_Cu_slopeAs_10 : decode m_Cu_slopeAs.2.1 10 = .ok (.getfield 15, 3) ∧ 10 + 3 = 13 := ⟨by decide +kernel, rfl⟩
theorem d_Cu_slopeAs_13 : decode m_Cu_slopeAs.2.1 13 = .ok (.ireturn, 1) := by decide +kernel
theorem d_Cu_sideAs_0 : decode m_Cu_sideAs.2.1 0 = .ok (.iload_n 1, 1) ∧ 0 + 1 = 1 := ⟨by decide +kernel, rfl⟩
theorem d_Cu_sideAs_1 : decode m_Cu_sideAs.2.1 1 = .ok (.iconst 3, 1) ∧ 1 + 1 = 2 := ⟨by decide +kernel, rfl⟩
theorem d_Cu_sideAs_2 : decode m_Cu_sideAs.2.1 2 = .ok (.if_icmp .ne 12, 3) ∧ 2 + 3 = 5 ∧ (((2 : Nat) : Int) + (12) = ((14 : Nat) : Int)) := ⟨by decide +kernel, rfl, by decide⟩
theorem d_Cu_sideAs_5 : decode m_Cu_sideAs.2.1 5 = .ok (.aload_n 0, 1) ∧ 5 + 1 = 6 := ⟨by decide +kernel, rfl⟩
theorem d_Cu_sideAs_6 : decode m_Cu_sideAs.2.1 6 = .ok (.getfield 18, 3) ∧ 6 + 3 = 9 := ⟨by decide +kernel, rfl⟩
theorem d_Cu_sideAs_9 : decode m_Cu_sideAs.2.1 9 = .ok (.iload_n 2, 1) ∧ 9 + 1 = 10 := ⟨by decide +kernel, rfl⟩
theorem d_Cu_sideAs_10 : decode m_Cu_sideAs.2.1 10 = .ok (.isub, 1) ∧ 10 + 1 = 11 := ⟨by decide +kernel, rfl⟩
theorem d_Cu_sideAs_11 : decode m_Cu_sideAs.2.1 11 = .ok (.goto 26, 3) ∧ (((11 : Nat) : Int) + (26) = ((37 : Nat) : Int)) := ⟨by decide +kernel, by decide⟩
theorem d_Cu_sideAs_14 : decode m_Cu_sideAs.2.1 14 = .ok (.iload_n 1, 1) ∧ 14 + 1 = 15 := ⟨by decide +kernel, rfl⟩
theorem d_Cu_sideAs_15 : decode m_Cu_sideAs.2.1 15 = .ok (.invokestatic 24, 3) ∧ 15 + 3 = 18 := ⟨by decide +kernel, rfl⟩
theorem d_Cu_sideAs_18 : decode m_Cu_sideAs.2.1 18 = .ok (.iload_n 2, 1) ∧ 18 + 1 = 19 := ⟨by decide +kernel, rfl⟩
theorem d_Cu_sideAs_19 : decode m_Cu_sideAs.2.1 19 = .ok (.imul, 1) ∧ 19 + 1 = 20 := ⟨by decide +kernel, rfl⟩
theorem d_Cu_sideAs_20 : decode m_Cu_sideAs.2.1 20 = .ok (.iload_n 2, 1) ∧ 20 + 1 = 21 := ⟨by decide +kernel, rfl⟩
theorem d_Cu_sideAs_21 : decode m_Cu_sideAs.2.1 21 = .ok (.imul, 1) ∧ 21 + 1 = 22 := ⟨by decide +kernel, rfl⟩
theorem d_Cu_sideAs_22 : decode m_Cu_sideAs.2.1 22 = .ok (.aload_n 0, 1) ∧ 22 + 1 = 23 := ⟨by decide +kernel, rfl⟩
theorem d_Cu_sideAs_23 : decode m_Cu_sideAs.2.1 23 = .ok (.iload_n 1, 1) ∧ 23 + 1 = 24 := ⟨by decide +kernel, rfl⟩
theorem d_Cu_sideAs_24 : decode m_Cu_sideAs.2.1 24 = .ok (.invokevirtual 28, 3) ∧ 24 + 3 = 27 := ⟨by decide +kernel, rfl⟩
theorem d_Cu_sideAs_27 : decode m_Cu_sideAs.2.1 27 = .ok (.iload_n 2, 1) ∧ 27 + 1 = 28 := ⟨by decide +kernel, rfl⟩
theorem d_Cu_sideAs_28 : decode m_Cu_sideAs.2.1 28 = .ok (.imul, 1) ∧ 28 + 1 = 29 := ⟨by decide +kernel, rfl⟩
theorem d_Cu_sideAs_29 : decode m_Cu_sideAs.2.1 29 = .ok (.iadd, 1) ∧ 29 + 1 = 30 := ⟨by decide +kernel, rfl⟩
theorem d_Cu_sideAs_30 : decode m_Cu_sideAs.2.1 30 = .ok (.aload_n 0, 1) ∧ 30 + 1 = 31 := ⟨by decide +kernel, rfl⟩
theorem d_Cu_sideAs_31 : decode m_Cu_sideAs.2.1 31 = .ok (.getfield 18, 3) ∧ 31 + 3 = 34 := ⟨by decide +kernel, rfl⟩
theorem d_Cu_sideAs_34 : decode m_Cu_sideAs.2.1 34 = .ok (.iadd, 1) ∧ 34 + 1 = 35 := ⟨by decide +kernel, rfl⟩
theorem d_Cu_sideAs_35 : decode m_Cu_sideAs.2.1 35 = .ok (.iload_n 3, 1) ∧ 35 + 1 = 36 := ⟨by decide +kernel, rfl⟩
theorem d_Cu_sideAs_36 : decode m_Cu_sideAs.2.1 36 = .ok (.isub, 1) ∧ 36 + 1 = 37 := ⟨by decide +kernel, rfl⟩
theorem d_Cu_sideAs_37 : decode m_Cu_sideAs.2.1 37 = .ok (.istore 4, 2) ∧ 37 + 2 = 39 := ⟨by decide +kernel, rfl⟩
theorem d_Cu_sideAs_39 : decode m_Cu_sideAs.2.1 39 = .ok (.iload 4, 2) ∧ 39 + 2 = 41 := ⟨by decide +kernel, rfl⟩
theorem d_Cu_sideAs_41 : decode m_Cu_sideAs.2.1 41 = .ok (.iconst 0, 1) ∧ 41 + 1 = 42 := ⟨by decide +kernel, rfl⟩
theorem d_Cu_sideAs_42 : decode m_Cu_sideAs.2.1 42 = .ok (.invokestatic 31, 3) ∧ 42 + 3 = 45 := ⟨by decide +kernel, rfl⟩
theorem d_Cu_sideAs_45 : decode m_Cu_sideAs.2.1 45 = .ok (.iconst 1, 1) ∧ 45 + 1 = 46 := ⟨by decide +kernel, rfl⟩
theorem d_Cu_sideAs_46 : decode m_Cu_sideAs.2.1 46 = .ok (.iadd, 1) ∧ 46 + 1 = 47 := ⟨by decide +kernel, rfl⟩
theorem d_Cu_sideAs_47 : decode m_Cu_sideAs.2.1 47 = .ok (.ireturn, 1) := by decide +kernel
theorem d_Cu_turnOver_0 : decode m_Cu_turnOver.2.1 0 = .ok (.aload_n 0, 1) ∧ 0 + 1 = 1 := ⟨by decide +kernel, rfl⟩
theorem d_Cu_turnOver_1 : decode m_Cu_turnOver.2.1 1 = .ok (.aload_n 0, 1) ∧ 1 + 1 = 2 := ⟨by decide +kernel, rfl⟩
theorem d_Cu_turnOver_2 : decode m_Cu_turnOver.2.1 2 = .ok (.getfield 15, 3) ∧ 2 + 3 = 5 := ⟨by decide +kernel, rfl⟩
theorem d_Cu_turnOver_5 : decode m_Cu_turnOver.2.1 5 = .ok (.ineg, 1) ∧ 5 + 1 = 6 := ⟨by decide +kernel, rfl⟩
theorem d_Cu_turnOver_6 : decode m_Cu_turnOver.2.1 6 = .ok (.putfield 15, 3) ∧ 6 + 3 = 9 := ⟨by decide +kernel, rfl⟩
theorem d_Cu_turnOver_9 : decode m_Cu_turnOver.2.1 9 = .ok (.aload_n 0, 1) ∧ 9 + 1 = 10 := ⟨by decide +kernel, rfl⟩
theorem d_Cu_turnOver_10 : decode m_Cu_turnOver.2.1 10 = .ok (.invokevirtual 37, 3) ∧ 10 + 3 = 13 := ⟨by decide +kernel, rfl⟩
theorem d_Cu_turnOver_13 : decode m_Cu_turnOver.2.1 13 = .ok (.ifCond .eq 12, 3) ∧ 13 + 3 = 16 ∧ (((13 : Nat) : Int) + (12) = ((25 : Nat) : Int)) := ⟨by decide +kernel, rfl, by decide⟩
theorem d_Cu_turnOver_16 : decode m_Cu_turnOver.2.1 16 = .ok (.aload_n 0, 1) ∧ 16 + 1 = 17 := ⟨by decide +kernel, rfl⟩
theorem d_Cu_turnOver_17 : decode m_Cu_turnOver.2.1 17 = .ok (.aload_n 0, 1) ∧ 17 + 1 = 18 := ⟨by decide +kernel, rfl⟩
theorem d_Cu_turnOver_18 : decode m_Cu_turnOver.2.1 18 = .ok (.getfield 18, 3) ∧ 18 + 3 = 21 := ⟨by decide +kernel, rfl⟩
theorem d_Cu_turnOver_21 : decode m_Cu_turnOver.2.1 21 = .ok (.ineg, 1) ∧ 21 + 1 = 22 := ⟨by decide +kernel, rfl⟩
theorem d_Cu_turnOver_22 : decode m_Cu_turnOver.2.1 22 = .ok (.putfield 18, 3) ∧ 22 + 3 = 25 := ⟨by decide +kernel, rfl⟩
theorem d_Cu_turnOver_25 : decode m_Cu_turnOver.2.1 25 = .ok (.return_, 1) := by decide +kernel
theorem d_Di_init_0 : decode m_Di_init.2.1 0 = .ok (.aload_n 0, 1) ∧ 0 + 1 = 1 := ⟨by decide +kernel, rfl⟩
theorem d_Di_init_1 : decode m_Di_init.2.1 1 = .ok (.invokespecial 1, 3) ∧ 1 + 3 = 4 := ⟨by decide +kernel, rfl⟩
theorem d_Di_init_4 : decode m_Di_init.2.1 4 = .ok (.aload_n 0, 1) ∧ 4 + 1 = 5 := ⟨by decide +kernel, rfl⟩
theorem d_Di_init_5 : decode m_Di_init.2.1 5 = .ok (.lconst 1, 1) ∧ 5 + 1 = 6 := ⟨by decide +kernel, rfl⟩
theorem d_Di_init_6 : decode m_Di_init.2.1 6 = .ok (.putfield 7, 3) ∧ 6 + 3 = 9 := ⟨by decide +kernel, rfl⟩
theorem d_Di_init_9 : decode m_Di_init.2.1 9 = .ok (.return_, 1) := by decide +kernel
theorem d_Di_next_0 : decode m_Di_next.2.1 0 = .ok (.aload_n 0, 1) ∧ 0 + 1 = 1 := ⟨by decide +kernel, rfl⟩
theorem d_Di_next_1 : decode m_Di_next.2.1 1 = .ok (.ldc2_w 13, 3) ∧ 1 + 3 = 4 := ⟨by decide +kernel, rfl⟩
theorem d_Di_next_4 : decode m_Di_next.2.1 4 = .ok (.aload_n 0, 1) ∧ 4 + 1 = 5 := ⟨by decide +kernel, rfl⟩
theorem d_Di_next_5 : decode m_Di_next.2.1 5 = .ok (.getfield 7, 3) ∧ 5 + 3 = 8 := ⟨by decide +kernel, rfl⟩
theorem d_Di_next_8 : decode m_Di_next.2.1 8 = .ok (.lmul, 1) ∧ 8 + 1 = 9 := ⟨by decide +kernel, rfl⟩
theorem d_Di_next_9 : decode m_Di_next.2.1 9 = .ok (.ldc2_w 15, 3) ∧ 9 + 3 = 12 := ⟨by decide +kernel, rfl⟩
theorem d_Di_next_12 : decode m_Di_next.2.1 12 = .ok (.ladd, 1) ∧ 12 + 1 = 13 := ⟨by decide +kernel, rfl⟩
theorem d_Di_next_13 : decode m_Di_next.2.1 13 = .ok (.ldc2_w 17, 3) ∧ 13 + 3 = 16 := ⟨by decide +kernel, rfl⟩
theorem d_Di_next_16 : decode m_Di_next.2.1 16 = .ok (.lrem, 1) ∧ 16 + 1 = 17 := ⟨by decide +kernel, rfl⟩
theorem d_Di_next_17 : decode m_Di_next.2.1 17 = .ok (.putfield 7, 3) ∧ 17 + 3 = 20 := ⟨by decide +kernel, rfl⟩
theorem d_Di_next_20 : decode m_Di_next.2.1 20 = .ok (.iload_n 1, 1) ∧ 20 + 1 = 21 := ⟨by decide +kernel, rfl⟩
theorem d_Di_next_21 : decode m_Di_next.2.1 21 = .ok (.iconst 1, 1) ∧ 21 + 1 = 22 := ⟨by decide +kernel, rfl⟩
theorem d_Di_next_22 : decode m_Di_next.2.1 22 = .ok (.if_icmp .ge 7, 3) ∧ 22 + 3 = 25 ∧ (((22 : Nat) : Int) + (7) = ((29 : Nat) : Int)) := ⟨by decide +kernel, rfl, by decide⟩
theorem d_Di_next_25 : decode m_Di_next.2.1 25 = .ok (.iconst 0, 1) ∧ 25 + 1 = 26 := ⟨by decide +kernel, rfl⟩
theorem d_Di_next_26 : decode m_Di_next.2.1 26 = .ok (.goto 15, 3) ∧ (((26 : Nat) : Int) + (15) = ((41 : Nat) : Int)) := ⟨by decide +kernel, by decide⟩
theorem d_Di_next_29 : decode m_Di_next.2.1 29 = .ok (.aload_n 0, 1) ∧ 29 + 1 = 30 := ⟨by decide +kernel, rfl⟩
theorem d_Di_next_30 : decode m_Di_next.2.1 30 = .ok (.getfield 7, 3) ∧ 30 + 3 = 33 := ⟨by decide +kernel, rfl⟩
theorem d_Di_next_33 : decode m_Di_next.2.1 33 = .ok (.ldc2_w 19, 3) ∧ 33 + 3 = 36 := ⟨by decide +kernel, rfl⟩
theorem d_Di_next_36 : decode m_Di_next.2.1 36 = .ok (.ldiv, 1) ∧ 36 + 1 = 37 := ⟨by decide +kernel, rfl⟩
theorem d_Di_next_37 : decode m_Di_next.2.1 37 = .ok (.iload_n 1, 1) ∧ 37 + 1 = 38 := ⟨by decide +kernel, rfl⟩
theorem d_Di_next_38 : decode m_Di_next.2.1 38 = .ok (.i2l, 1) ∧ 38 + 1 = 39 := ⟨by decide +kernel, rfl⟩
theorem d_Di_next_39 : decode m_Di_next.2.1 39 = .ok (.lrem, 1) ∧ 39 + 1 = 40 := ⟨by decide +kernel, rfl⟩
theorem d_Di_next_40 : decode m_Di_next.2.1 40 = .ok (.l2i, 1) ∧ 40 + 1 = 41 := ⟨by decide +kernel, rfl⟩
theorem d_Di_next_41 : decode m_Di_next.2.1 41 = .ok (.ireturn, 1) := by decide +kernel
theorem d_Ex_sign3_0 : decode m_Ex_sign3.2.1 0 = .ok (.lload_n 0, 1) ∧ 0 + 1 = 1 := ⟨by decide +kernel, rfl⟩
theorem d_Ex_sign3_1 : decode m_Ex_sign3.2.1 1 = .ok (.lconst 0, 1) ∧ 1 + 1 = 2 := ⟨by decide +kernel, rfl⟩
theorem d_Ex_sign3_2 : decode m_Ex_sign3.2.1 2 = .ok (.invokestatic 7, 3) ∧ 2 + 3 = 5 := ⟨by decide +kernel, rfl⟩
theorem d_Ex_sign3_5 : decode m_Ex_sign3.2.1 5 = .ok (.istore 6, 2) ∧ 5 + 2 = 7 := ⟨by decide +kernel, rfl⟩
theorem d_Ex_sign3_7 : decode m_Ex_sign3.2.1 7 = .ok (.lload 4, 2) ∧ 7 + 2 = 9 := ⟨by decide +kernel, rfl⟩
theorem d_Ex_sign3_9 : decode m_Ex_sign3.2.1 9 = .ok (.lconst 0, 1) ∧ 9 + 1 = 10 := ⟨by decide +kernel, rfl⟩
theorem d_Ex_sign3_10 : decode m_Ex_sign3.2.1 10 = .ok (.lcmp, 1) ∧ 10 + 1 = 11 := ⟨by decide +kernel, rfl⟩
theorem d_Ex_sign3_11 : decode m_Ex_sign3.2.1 11 = .ok (.ifCond .ne 7, 3) ∧ 11 + 3 = 14 ∧ (((11 : Nat) : Int) + (7) = ((18 : Nat) : Int)) := ⟨by decide +kernel, rfl, by decide⟩
theorem d_Ex_sign3_14 : decode m_Ex_sign3.2.1 14 = .ok (.iconst 0, 1) ∧ 14 + 1 = 15 := ⟨by decide +kernel, rfl⟩
theorem d_Ex_sign3_15 : decode m_Ex_sign3.2.1 15 = .ok (.goto 8, 3) ∧ (((15 : Nat) : Int) + (8) = ((23 : Nat) : Int)) := ⟨by decide +kernel, by decide⟩
theorem d_Ex_sign3_18 : decode m_Ex_sign3.2.1 18 = .ok (.lload_n 2, 1) ∧ 18 + 1 = 19 := ⟨by decide +kernel, rfl⟩
theorem d_Ex_sign3_19 : decode m_Ex_sign3.2.1 19 = .ok (.lconst 0, 1) ∧ 19 + 1 = 20 := ⟨by decide +kernel, rfl⟩
theorem d_Ex_sign3_20 : decode m_Ex_sign3.2.1 20 = .ok (.invokestatic 7, 3) ∧ 20 + 3 = 23 := ⟨by decide +kernel, rfl⟩
theorem d_Ex_sign3_23 : decode m_Ex_sign3.2.1 23 = .ok (.istore 7, 2) ∧ 23 + 2 = 25 := ⟨by decide +kernel, rfl⟩
theorem d_Ex_sign3_25 : decode m_Ex_sign3.2.1 25 = .ok (.iload 6, 2) ∧ 25 + 2 = 27 := ⟨by decide +kernel, rfl⟩
theorem d_Ex_sign3_27 : decode m_Ex_sign3.2.1 27 = .ok (.ifCond .eq 10, 3) ∧ 27 + 3 = 30 ∧ (((27 : Nat) : Int) + (10) = ((37 : Nat) : Int)) := ⟨by decide +kernel, rfl, by decide⟩
theorem d_Ex_sign3_30 : decode m_Ex_sign3.2.1 30 = .ok (.iload 6, 2) ∧ 30 + 2 = 32 := ⟨by decide +kernel, rfl⟩
theorem d_Ex_sign3_32 : decode m_Ex_sign3.2.1 32 = .ok (.iload 7, 2) ∧ 32 + 2 = 34 := ⟨by decide +kernel, rfl⟩
theorem d_Ex_sign3_34 : decode m_Ex_sign3.2.1 34 = .ok (.if_icmp .ne 6, 3) ∧ 34 + 3 = 37 ∧ (((34 : Nat) : Int) + (6) = ((40 : Nat) : Int)) := ⟨by decide +kernel, rfl, by decide⟩
theorem d_Ex_sign3_37 : decode m_Ex_sign3.2.1 37 = .ok (.iload 7, 2) ∧ 37 + 2 = 39 := ⟨by decide +kernel, rfl⟩
theorem d_Ex_sign3_39 : decode m_Ex_sign3.2.1 39 = .ok (.ireturn, 1) := by decide +kernel
theorem d_Ex_sign3_40 : decode m_Ex_sign3.2.1 40 = .ok (.iload 7, 2) ∧ 40 + 2 = 42 := ⟨by decide +kernel, rfl⟩
theorem d_Ex_sign3_42 : decode m_Ex_sign3.2.1 42 = .ok (.ifCond .ne 8, 3) ∧ 42 + 3 = 45 ∧ (((42 : Nat) : Int) + (8) = ((50 : Nat) : Int)) := ⟨by decide +kernel, rfl, by decide⟩
theorem d_Ex_sign3_45 : decode m_Ex_sign3.2.1 45 = .ok (.iload 6, 2) ∧ 45 + 2 = 47 := ⟨by decide +kernel, rfl⟩
theorem d_Ex_sign3_47 : decode m_Ex_sign3.2.1 47 = .ok (.goto 18, 3) ∧ (((47 : Nat) : Int) + (18) = ((65 : Nat) : Int)) := ⟨by decide +kernel, by decide⟩
theorem d_Ex_sign3_50 : decode m_Ex_sign3.2.1 50 = .ok (.iload 6, 2) ∧ 50 + 2 = 52 := ⟨by decide +kernel, rfl⟩
theorem d_Ex_sign3_52 : decode m_Ex_sign3.2.1 52 = .ok (.lload_n 0, 1) ∧ 52 + 1 = 53 := ⟨by decide +kernel, rfl⟩
theorem d_Ex_sign3_53 : decode m_Ex_sign3.2.1 53 = .ok (.lload_n 0, 1) ∧ 53 + 1 = 54 := ⟨by decide +kernel, rfl⟩
theorem d_Ex_sign3_54 : decode m_Ex_sign3.2.1 54 = .ok (.lmul, 1) ∧ 54 + 1 = 55 := ⟨by decide +kernel, rfl⟩
theorem d_Ex_sign3_55 : decode m_Ex_sign3.2.1 55 = .ok (.lload_n 2, 1) ∧ 55 + 1 = 56 := ⟨by decide +kernel, rfl⟩
theorem d_Ex_sign3_56 : decode m_Ex_sign3.2.1 56 = .ok (.lload_n 2, 1) ∧ 56 + 1 = 57 := ⟨by decide +kernel, rfl⟩
theorem d_Ex_sign3_57 : decode m_Ex_sign3.2.1 57 = .ok (.lmul, 1) ∧ 57 + 1 = 58 := ⟨by decide +kernel, rfl⟩
theorem d_Ex_sign3_58 : decode m_Ex_sign3.2.1 58 = .ok (.lload 4, 2) ∧ 58 + 2 = 60 := ⟨by decide +kernel, rfl⟩
theorem d_Ex_sign3_60 : decode m_Ex_sign3.2.1 60 = .ok (.lmul, 1) ∧ 60 + 1 = 61 := ⟨by decide +kernel, rfl⟩
theorem d_Ex_sign3_61 : decode m_Ex_sign3.2.1 61 = .ok (.invokestatic 7, 3) ∧ 61 + 3 = 64 := ⟨by decide +kernel, rfl⟩
theorem d_Ex_sign3_64 : decode m_Ex_sign3.2.1 64 = .ok (.imul, 1) ∧ 64 + 1 = 65 := ⟨by decide +kernel, rfl⟩
theorem d_Ex_sign3_65 : decode m_Ex_sign3.2.1 65 = .ok (.ireturn, 1) := by decide +kernel
theorem d_Ex_sign5_0 : decode m_Ex_sign5.2.1 0 = .ok (.lload_n 0, 1) ∧ 0 + 1 = 1 := ⟨by decide +kernel, rfl⟩
theorem d_Ex_sign5_1 : decode m_Ex_sign5.2.1 1 = .ok (.lload_n 2, 1) ∧ 1 + 1 = 2 := ⟨by decide +kernel, rfl⟩
theorem d_Ex_sign5_2 : decode m_Ex_sign5.2.1 2 = .ok (.lload 4, 2) ∧ 2 + 2 = 4 := ⟨by decide +kernel, rfl⟩
theorem d_Ex_sign5_4 : decode m_Ex_sign5.2.1 4 = .ok (.invokestatic 13, 3) ∧ 4 + 3 = 7 := ⟨by decide +kernel, rfl⟩
theorem d_Ex_sign5_7 : decode m_Ex_sign5.2.1 7 = .ok (.istore 10, 2) ∧ 7 + 2 = 9 := ⟨by decide +kernel, rfl⟩
theorem d_Ex_sign5_9 : decode m_Ex_sign5.2.1 9 = .ok (.lconst 0, 1) ∧ 9 + 1 = 10 := ⟨by decide +kernel, rfl⟩
theorem d_Ex_sign5_10 : decode m_Ex_sign5.2.1 10 = .ok (.lload 6, 2) ∧ 10 + 2 = 12 := ⟨by decide +kernel, rfl⟩
theorem d_Ex_sign5_12 : decode m_Ex_sign5.2.1 12 = .ok (.lload 8, 2) ∧ 12 + 2 = 14 := ⟨by decide +kernel, rfl⟩
theorem d_Ex_sign5_14 : decode m_Ex_sign5.2.1 14 = .ok (.invokestatic 13, 3) ∧ 14 + 3 = 17 := ⟨by decide +kernel, rfl⟩
theorem d_Ex_sign5_17 : decode m_Ex_sign5.2.1 17 = .ok (.istore 11, 2) ∧ 17 + 2 = 19 := ⟨by decide +kernel, rfl⟩
theorem d_Ex_sign5_19 : decode m_Ex_sign5.2.1 19 = .ok (.iload 10, 2) ∧ 19 + 2 = 21 := ⟨by decide +kernel, rfl⟩
theorem d_Ex_sign5_21 : decode m_Ex_sign5.2.1 21 = .ok (.ifCond .eq 10, 3) ∧ 21 + 3 = 24 ∧ (((21 : Nat) : Int) + (10) = ((31 : Nat) : Int)) := ⟨by decide +kernel, rfl, by decide⟩
theorem d_Ex_sign5_24 : decode m_Ex_sign5.2.1 24 = .ok (.iload 10, 2) ∧ 24 + 2 = 26 := ⟨by decide +kernel, rfl⟩
theorem d_Ex_sign5_26 : decode m_Ex_sign5.2.1 26 = .ok (.iload 11, 2) ∧ 26 + 2 = 28 := ⟨by decide +kernel, rfl⟩
theorem d_Ex_sign5_28 : decode m_Ex_sign5.2.1 28 = .ok (.if_icmp .ne 6, 3) ∧ 28 + 3 = 31 ∧ (((28 : Nat) : Int) + (6) = ((34 : Nat) : Int)) := ⟨by decide +kernel, rfl, by decide⟩
theorem d_Ex_sign5_31 : decode m_Ex_sign5.2.1 31 = .ok (.iload 11, 2) ∧ 31 + 2 = 33 := ⟨by decide +kernel, rfl⟩
theorem d_Ex_sign5_33 : decode m_Ex_sign5.2.1 33 = .ok (.ireturn, 1) := by decide +kernel
theorem d_Ex_sign5_34 : decode m_Ex_sign5.2.1 34 = .ok (.iload 11, 2) ∧ 34 + 2 = 36 := ⟨by decide +kernel, rfl⟩
theorem d_Ex_sign5_36 : decode m_Ex_sign5.2.1 36 = .ok (.ifCond .ne 8, 3) ∧ 36 + 3 = 39 ∧ (((36 : Nat) : Int) + (8) = ((44 : Nat) : Int)) := ⟨by decide +kernel, rfl, by decide⟩
theorem d_Ex_sign5_39 : decode m_Ex_sign5.2.1 39 = .ok (.iload 10, 2) ∧ 39 + 2 = 41 := ⟨by decide +kernel, rfl⟩
theorem d_Ex_sign5_41 : decode m_Ex_sign5.2.1 41 = .ok (.goto 37, 3) ∧ (((41 : Nat) : Int) + (37) = ((78 : Nat) : Int)) := ⟨by decide +kernel, by decide⟩
theorem d_Ex_sign5_44 : decode m_Ex_sign5.2.1 44 = .ok (.iload 10, 2) ∧ 44 + 2 = 46 := ⟨by decide +kernel, rfl⟩
theorem d_Ex_sign5_46 : decode m_Ex_sign5.2.1 46 = .ok (.lload_n 0, 1) ∧ 46 + 1 = 47 := ⟨by decide +kernel, rfl⟩
theorem d_Ex_sign5_47 : decode m_Ex_sign5.2.1 47 = .ok (.lload_n 0, 1) ∧ 47 + 1 = 48 := ⟨by decide +kernel, rfl⟩
theorem d_Ex_sign5_48 : decode m_Ex_sign5.2.1 48 = .ok (.lmul, 1) ∧ 48 + 1 = 49 := ⟨by decide +kernel, rfl⟩
theorem d_Ex_sign5_49 : decode m_Ex_sign5.2.1 49 = .ok (.lload_n 2, 1) ∧ 49 + 1 = 50 := ⟨by decide +kernel, rfl⟩
theorem d_Ex_sign5_50 : decode m_Ex_sign5.2.1 50 = .ok (.lload_n 2, 1) ∧ 50 + 1 = 51 := ⟨by decide +kernel, rfl⟩
theorem d_Ex_sign5_51 : decode m_Ex_sign5.2.1 51 = .ok (.lmul, 1) ∧ 51 + 1 = 52 := ⟨by decide +kernel, rfl⟩
theorem d_Ex_sign5_52 : decode m_Ex_sign5.2.1 52 = .ok (.lload 4, 2) ∧ 52 + 2 = 54 := ⟨by decide +kernel, rfl⟩
theorem d_Ex_sign5_54 : decode m_Ex_sign5.2.1 54 = .ok (.lmul, 1) ∧ 54 + 1 = 55 := ⟨by decide +kernel, rfl⟩
theorem d_Ex_sign5_55 : decode m_Ex_sign5.2.1 55 = .ok (.ladd, 1) ∧ 55 + 1 = 56 := ⟨by decide +kernel, rfl⟩
theorem d_Ex_sign5_56 : decode m_Ex_sign5.2.1 56 = .ok (.lload 6, 2) ∧ 56 + 2 = 58 := ⟨by decide +kernel, rfl⟩
theorem d_Ex_sign5_58 : decode m_Ex_sign5.2.1 58 = .ok (.lload 6, 2) ∧ 58 + 2 = 60 := ⟨by decide +kernel, rfl⟩
theorem d_Ex_sign5_60 : decode m_Ex_sign5.2.1 60 = .ok (.lmul, 1) ∧ 60 + 1 = 61 := ⟨by decide +kernel, rfl⟩
theorem d_Ex_sign5_61 : decode m_Ex_sign5.2.1 61 = .ok (.lload 8, 2) ∧ 61 + 2 = 63 := ⟨by decide +kernel, rfl⟩
theorem d_Ex_sign5_63 : decode m_Ex_sign5.2.1 63 = .ok (.lmul, 1) ∧ 63 + 1 = 64 := ⟨by decide +kernel, rfl⟩
theorem d_Ex_sign5_64 : decode m_Ex_sign5.2.1 64 = .ok (.lsub, 1) ∧ 64 + 1 = 65 := ⟨by decide +kernel, rfl⟩
theorem d_Ex_sign5_65 : decode m_Ex_sign5.2.1 65 = .ok (.ldc2_w 19, 3) ∧ 65 + 3 = 68 := ⟨by decide +kernel, rfl⟩
theorem d_Ex_sign5_68 : decode m_Ex_sign5.2.1 68 = .ok (.lload_n 0, 1) ∧ 68 + 1 = 69 := ⟨by decide +kernel, rfl⟩
theorem d_Ex_sign5_69 : decode m_Ex_sign5.2.1 69 = .ok (.lmul, 1) ∧ 69 + 1 = 70 := ⟨by decide +kernel, rfl⟩
theorem d_Ex_sign5_70 : decode m_Ex_sign5.2.1 70 = .ok (.lload_n 2, 1) ∧ 70 + 1 = 71 := ⟨by decide +kernel, rfl⟩
theorem d_Ex_sign5_71 : decode m_Ex_sign5.2.1 71 = .ok (.lmul, 1) ∧ 71 + 1 = 72 := ⟨by decide +kernel, rfl⟩
theorem d_Ex_sign5_72 : decode m_Ex_sign5.2.1 72 = .ok (.lload 4, 2) ∧ 72 + 2 = 74 := ⟨by decide +kernel, rfl⟩
theorem d_Ex_sign5_74 : decode m_Ex_sign5.2.1 74 = .ok (.invokestatic 13, 3) ∧ 74 + 3 = 77 := ⟨by decide +kernel, rfl⟩
theorem d_Ex_sign5_77 : decode m_Ex_sign5.2.1 77 = .ok (.imul, 1) ∧ 77 + 1 = 78 := ⟨by decide +kernel, rfl⟩
theorem d_Ex_sign5_78 : decode m_Ex_sign5.2.1 78 = .ok (.ireturn, 1) := by decide +kernel
theorem d_Ex_rootDown_0 : decode m_Ex_rootDown.2.1 0 = .ok (.lconst 0, 1) ∧ 0 + 1 = 1 := ⟨by decide +kernel, rfl⟩
theorem d_Ex_rootDown_1 : decode m_Ex_rootDown.2.1 1 = .ok (.lstore_n 2, 1) ∧ 1 + 1 = 2 := ⟨by decide +kernel, rfl⟩
theorem d_Ex_rootDown_2 : decode m_Ex_rootDown.2.1 2 = .ok (.ldc2_w 21, 3) ∧ 2 + 3 = 5 := ⟨by decide +kernel, rfl⟩
theorem d_Ex_rootDown_5 : decode m_Ex_rootDown.2.1 5 = .ok (.lstore 4, 2) ∧ 5 + 2 = 7 := ⟨by decide +kernel, rfl⟩
theorem d_Ex_rootDown_7 : decode m_Ex_rootDown.2.1 7 = .ok (.lload 4, 2) ∧ 7 + 2 = 9 := ⟨by decide +kernel, rfl⟩
theorem d_Ex_rootDown_9 : decode m_Ex_rootDown.2.1 9 = .ok (.lconst 0, 1) ∧ 9 + 1 = 10 := ⟨by decide +kernel, rfl⟩
theorem d_Ex_rootDown_10 : decode m_Ex_rootDown.2.1 10 = .ok (.lcmp, 1) ∧ 10 + 1 = 11 := ⟨by decide +kernel, rfl⟩
theorem d_Ex_rootDown_11 : decode m_Ex_rootDown.2.1 11 = .ok (.ifCond .le 31, 3) ∧ 11 + 3 = 14 ∧ (((11 : Nat) : Int) + (31) = ((42 : Nat) : Int)) := ⟨by decide +kernel, rfl, by decide⟩
theorem d_Ex_rootDown_14 : decode m_Ex_rootDown.2.1 14 = .ok (.lload_n 2, 1) ∧ 14 + 1 = 15 := ⟨by decide +kernel, rfl⟩
theorem d_Ex_rootDown_15 : decode m_Ex_rootDown.2.1 15 = .ok (.lload 4, 2) ∧ 15 + 2 = 17 := ⟨by decide +kernel, rfl⟩
theorem d_Ex_rootDown_17 : decode m_Ex_rootDown.2.1 17 = .ok (.ladd, 1) ∧ 17 + 1 = 18 := ⟨by decide +kernel, rfl⟩
theorem d_Ex_rootDown_18 : decode m_Ex_rootDown.2.1 18 = .ok (.lload_n 2, 1) ∧ 18 + 1 = 19 := ⟨by decide +kernel, rfl⟩
theorem d_Ex_rootDown_19 : decode m_Ex_rootDown.2.1 19 = .ok (.lload 4, 2) ∧ 19 + 2 = 21 := ⟨by decide +kernel, rfl⟩
theorem d_Ex_rootDown_21 : decode m_Ex_rootDown.2.1 21 = .ok (.ladd, 1) ∧ 21 + 1 = 22 := ⟨by decide +kernel, rfl⟩
theorem d_Ex_rootDown_22 : decode m_Ex_rootDown.2.1 22 = .ok (.lmul, 1) ∧ 22 + 1 = 23 := ⟨by decide +kernel, rfl⟩
theorem d_Ex_rootDown_23 : decode m_Ex_rootDown.2.1 23 = .ok (.lload_n 0, 1) ∧ 23 + 1 = 24 := ⟨by decide +kernel, rfl⟩
theorem d_Ex_rootDown_24 : decode m_Ex_rootDown.2.1 24 = .ok (.lcmp, 1) ∧ 24 + 1 = 25 := ⟨by decide +kernel, rfl⟩
theorem d_Ex_rootDown_25 : decode m_Ex_rootDown.2.1 25 = .ok (.ifCond .gt 8, 3) ∧ 25 + 3 = 28 ∧ (((25 : Nat) : Int) + (8) = ((33 : Nat) : Int)) := ⟨by decide +kernel, rfl, by decide⟩
theorem d_Ex_rootDown_28 : decode m_Ex_rootDown.2.1 28 = .ok (.lload_n 2, 1) ∧ 28 + 1 = 29 := ⟨by decide +kernel, rfl⟩
theorem d_Ex_rootDown_29 : decode m_Ex_rootDown.2.1 29 = .ok (.lload 4, 2) ∧ 29 + 2 = 31 := ⟨by decide +kernel, rfl⟩
theorem d_Ex_rootDown_31 : decode m_Ex_rootDown.2.1 31 = .ok (.ladd, 1) ∧ 31 + 1 = 32 := ⟨by decide +kernel, rfl⟩
theorem d_Ex_rootDown_32 : decode m_Ex_rootDown.2.1 32 = .ok (.lstore_n 2, 1) ∧ 32 + 1 = 33 := ⟨by decide +kernel, rfl⟩
theorem d_Ex_rootDown_33 : decode m_Ex_rootDown.2.1 33 = .ok (.lload 4, 2) ∧ 33 + 2 = 35 := ⟨by decide +kernel, rfl⟩
theorem d_Ex_rootDown_35 : decode m_Ex_rootDown.2.1 35 = .ok (.iconst 1, 1) ∧ 35 + 1 = 36 := ⟨by decide +kernel, rfl⟩
theorem d_Ex_rootDown_36 : decode m_Ex_rootDown.2.1 36 = .ok (.lshr, 1) ∧ 36 + 1 = 37 := ⟨by decide +kernel, rfl⟩
theorem d_Ex_rootDown_37 : decode m_Ex_rootDown.2.1 37 = .ok (.lstore 4, 2) ∧ 37 + 2 = 39 := ⟨by decide +kernel, rfl⟩
theorem d_Ex_rootDown_39 : decode m_Ex_rootDown.2.1 39 = .ok (.goto (-32), 3) ∧ (((39 : Nat) : Int) + (-32) = ((7 : Nat) : Int)) := ⟨by decide +kernel, by decide⟩
theorem d_Ex_rootDown_42 : decode m_Ex_rootDown.2.1 42 = .ok (.lload_n 2, 1) ∧ 42 + 1 = 43 := ⟨by decide +kernel, rfl⟩
theorem d_Ex_rootDown_43 : decode m_Ex_rootDown.2.1 43 = .ok (.lreturn, 1) := by decide +kernel
theorem d_Fo_init_0 : decode m_Fo_init.2.1 0 = .ok (.aload_n 0, 1) ∧ 0 + 1 = 1 := ⟨by decide +kernel, rfl⟩
theorem d_Fo_init_1 : decode m_Fo_init.2.1 1 = .ok (.invokespecial 3, 3) ∧ 1 + 3 = 4 := ⟨by decide +kernel, rfl⟩
theorem d_Fo_init_4 : decode m_Fo_init.2.1 4 = .ok (.aload_n 0, 1) ∧ 4 + 1 = 5 := ⟨by decide +kernel, rfl⟩
theorem d_Fo_init_5 : decode m_Fo_init.2.1 5 = .ok (.iconst 4, 1) ∧ 5 + 1 = 6 := ⟨by decide +kernel, rfl⟩
theorem d_Fo_init_6 : decode m_Fo_init.2.1 6 = .ok (.newarray .int, 2) ∧ 6 + 2 = 8 := ⟨by decide +kernel, rfl⟩
theorem d_Fo_init_8 : decode m_Fo_init.2.1 8 = .ok (.putfield 9, 3) ∧ 8 + 3 = 11 := ⟨by decide +kernel, rfl⟩
theorem d_Fo_init_11 : decode m_Fo_init.2.1 11 = .ok (.aload_n 0, 1) ∧ 11 + 1 = 12 := ⟨by decide +kernel, rfl⟩
theorem d_Fo_init_12 : decode m_Fo_init.2.1 12 = .ok (.iconst 1, 1) ∧ 12 + 1 = 13 := ⟨by decide +kernel, rfl⟩
theorem d_Fo_init_13 : decode m_Fo_init.2.1 13 = .ok (.putfield 15, 3) ∧ 13 + 3 = 16 := ⟨by decide +kernel, rfl⟩
theorem d_Fo_init_16 : decode m_Fo_init.2.1 16 = .ok (.return_, 1) := by decide +kernel
theorem d_Fo_isForm_0 : decode m_Fo_isForm.2.1 0 = .ok (.iload_n 0, 1) ∧ 0 + 1 = 1 := ⟨by decide +kernel, rfl⟩
theorem d_Fo_isForm_1 : decode m_Fo_isForm.2.1 1 = .ok (.ifCond .lt 47, 3) ∧ 1 + 3 = 4 ∧ (((1 : Nat) : Int) + (47) = ((48 : Nat) : Int)) := ⟨by decide +kernel, rfl, by decide⟩
theorem d_Fo_isForm_4 : decode m_Fo_isForm.2.1 4 = .ok (.iload_n 0, 1) ∧ 4 + 1 = 5 := ⟨by decide +kernel, rfl⟩
theorem d_Fo_isForm_5 : decode m_Fo_isForm.2.1 5 = .ok (.sipush 6666, 3) ∧ 5 + 3 = 8 ∧ (Int16.ofInt 6666).toInt32 = Int32.ofInt 6666 := ⟨by decide +kernel, rfl, by decide +kernel⟩
theorem d_Fo_isForm_8 : decode m_Fo_isForm.2.1 8 = .ok (.if_icmp .gt 40, 3) ∧ 8 + 3 = 11 ∧ (((8 : Nat) : Int) + (40) = ((48 : Nat) : Int)) := ⟨by decide +kernel, rfl, by decide⟩
theorem d_Fo_isForm_11 : decode m_Fo_isForm.2.1 11 = .ok (.iload_n 0, 1) ∧ 11 + 1 = 12 := ⟨by decide +kernel, rfl⟩
theorem d_Fo_isForm_12 : decode m_Fo_isForm.2.1 12 = .ok (.bipush 100, 2) ∧ 12 + 2 = 14 ∧ (Int8.ofInt 100).toInt32 = Int32.ofInt 100 := ⟨by decide +kernel, rfl, by decide +kernel⟩
theorem d_Fo_isForm_14 : decode m_Fo_isForm.2.1 14 = .ok (.idiv, 1) ∧ 14 + 1 = 15 := ⟨by decide +kernel, rfl⟩
theorem d_Fo_isForm_15 : decode m_Fo_isForm.2.1 15 = .ok (.bipush 10, 2) ∧ 15 + 2 = 17 ∧ (Int8.ofInt 10).toInt32 = Int32.ofInt 10 := ⟨by decide +kernel, rfl, by decide +kernel⟩
theorem d_Fo_isForm_17 : decode m_Fo_isForm.2.1 17 = .ok (.irem, 1) ∧ 17 + 1 = 18 := ⟨by decide +kernel, rfl⟩
theorem d_Fo_isForm_18 : decode m_Fo_isForm.2.1 18 = .ok (.bipush 6, 2) ∧ 18 + 2 = 20 ∧ (Int8.ofInt 6).toInt32 = Int32.ofInt 6 := ⟨by decide +kernel, rfl, by decide +kernel⟩
theorem d_Fo_isForm_20 : decode m_Fo_isForm.2.1 20 = .ok (.if_icmp .gt 28, 3) ∧ 20 + 3 = 23 ∧ (((20 : Nat) : Int) + (28) = ((48 : Nat) : Int)) := ⟨by decide +kernel, rfl, by decide⟩
theorem d_Fo_isForm_23 : decode m_Fo_isForm.2.1 23 = .ok (.iload_n 0, 1) ∧ 23 + 1 = 24 := ⟨by decide +kernel, rfl⟩
theorem d_Fo_isForm_24 : decode m_Fo_isForm.2.1 24 = .ok (.bipush 10, 2) ∧ 24 + 2 = 26 ∧ (Int8.ofInt 10).toInt32 = Int32.ofInt 10 := ⟨by decide +kernel, rfl, by decide +kernel⟩
theorem d_Fo_isForm_26 : decode m_Fo_isForm.2.1 26 = .ok (.idiv, 1) ∧ 26 + 1 = 27 := ⟨by decide +kernel, rfl⟩
theorem d_Fo_isForm_27 : decode m_Fo_isForm.2.1 27 = .ok (.bipush 10, 2) ∧ 27 + 2 = 29 ∧ (Int8.ofInt 10).toInt32 = Int32.ofInt 10 := ⟨by decide +kernel, rfl, by decide +kernel⟩
theorem d_Fo_isForm_29 : decode m_Fo_isForm.2.1 29 = .ok (.irem, 1) ∧ 29 + 1 = 30 := ⟨by decide +kernel, rfl⟩
theorem d_Fo_isForm_30 : decode m_Fo_isForm.2.1 30 = .ok (.bipush 6, 2) ∧ 30 + 2 = 32 ∧ (Int8.ofInt 6).toInt32 = Int32.ofInt 6 := ⟨by decide +kernel, rfl, by decide +kernel⟩
theorem d_Fo_isForm_32 : decode m_Fo_isForm.2.1 32 = .ok (.if_icmp .gt 16, 3) ∧ 32 + 3 = 35 ∧ (((32 : Nat) : Int) + (16) = ((48 : Nat) : Int)) := ⟨by decide +kernel, rfl, by decide⟩
theorem d_Fo_isForm_35 : decode m_Fo_isForm.2.1 35 = .ok (.iload_n 0, 1) ∧ 35 + 1 = 36 := ⟨by decide +kernel, rfl⟩
theorem d_Fo_isForm_36 : decode m_Fo_isForm.2.1 36 = .ok (.bipush 10, 2) ∧ 36 + 2 = 38 ∧ (Int8.ofInt 10).toInt32 = Int32.ofInt 10 := ⟨by decide +kernel, rfl, by decide +kernel⟩
theorem d_Fo_isForm_38 : decode m_Fo_isForm.2.1 38 = .ok (.irem, 1) ∧ 38 + 1 = 39 := ⟨by decide +kernel, rfl⟩
theorem d_Fo_isForm_39 : decode m_Fo_isForm.2.1 39 = .ok (.bipush 6, 2) ∧ 39 + 2 = 41 ∧ (Int8.ofInt 6).toInt32 = Int32.ofInt 6 := ⟨by decide +kernel, rfl, by decide +kernel⟩
theorem d_Fo_isForm_41 : decode m_Fo_isForm.2.1 41 = .ok (.if_icmp .gt 7, 3) ∧ 41 + 3 = 44 ∧ (((41 : Nat) : Int) + (7) = ((48 : Nat) : Int)) := ⟨by decide +kernel, rfl, by decide⟩
theorem d_Fo_isForm_44 : decode m_Fo_isForm.2.1 44 = .ok (.iconst 1, 1) ∧ 44 + 1 = 45 := ⟨by decide +kernel, rfl⟩
theorem d_Fo_isForm_45 : decode m_Fo_isForm.2.1 45 = .ok (.goto 4, 3) ∧ (((45 : Nat) : Int) + (4) = ((49 : Nat) : Int)) := ⟨by decide +kernel, by decide⟩
theorem d_Fo_isForm_48 : decode m_Fo_isForm.2.1 48 = .ok (.iconst 0, 1) ∧ 48 + 1 = 49 := ⟨by decide +kernel, rfl⟩
theorem d_Fo_isForm_49 : decode m_Fo_isForm.2.1 49 = .ok (.ireturn, 1) := by decide +kernel
theorem d_Fo_read_0 : decode m_Fo_read.2.1 0 = .ok (.aload_n 0, 1) ∧ 0 + 1 = 1 := ⟨by decide +kernel, rfl⟩
theorem d_Fo_read_1 : decode m_Fo_read.2.1 1 = .ok (.iload_n 1, 1) ∧ 1 + 1 = 2 := ⟨by decide +kernel, rfl⟩
theorem d_Fo_read_2 : decode m_Fo_read.2.1 2 = .ok (.ifCond .ne 7, 3) ∧ 2 + 3 = 5 ∧ (((2 : Nat) : Int) + (7) = ((9 : Nat) : Int)) := ⟨by decide +kernel, rfl, by decide⟩
theorem d_Fo_read_5 : decode m_Fo_read.2.1 5 = .ok (.iconst 1, 1) ∧ 5 + 1 = 6 := ⟨by decide +kernel, rfl⟩
theorem d_Fo_read_6 : decode m_Fo_read.2.1 6 = .ok (.goto 4, 3) ∧ (((6 : Nat) : Int) + (4) = ((10 : Nat) : Int)) := ⟨by decide +kernel, by decide⟩
theorem d_Fo_read_9 : decode m_Fo_read.2.1 9 = .ok (.iconst 0, 1) ∧ 9 + 1 = 10 := ⟨by decide +kernel, rfl⟩
theorem d_Fo_read_10 : decode m_Fo_read.2.1 10 = .ok (.putfield 15, 3) ∧ 10 + 3 = 13 := ⟨by decide +kernel, rfl⟩
theorem d_Fo_read_13 : decode m_Fo_read.2.1 13 = .ok (.iload_n 2, 1) ∧ 13 + 1 = 14 := ⟨by decide +kernel, rfl⟩
theorem d_Fo_read_14 : decode m_Fo_read.2.1 14 = .ok (.istore_n 3, 1) ∧ 14 + 1 = 15 := ⟨by decide +kernel, rfl⟩
theorem d_Fo_read_15 : decode m_Fo_read.2.1 15 = .ok (.iconst 3, 1) ∧ 15 + 1 = 16 := ⟨by decide +kernel, rfl⟩
theorem d_Fo_read_16 : decode m_Fo_read.2.1 16 = .ok (.istore 4, 2) ∧ 16 + 2 = 18 := ⟨by decide +kernel, rfl⟩
theorem d_Fo_read_18 : decode m_Fo_read.2.1 18 = .ok (.iload 4, 2) ∧ 18 + 2 = 20 := ⟨by decide +kernel, rfl⟩
theorem d_Fo_read_20 : decode m_Fo_read.2.1 20 = .ok (.ifCond .lt 25, 3) ∧ 20 + 3 = 23 ∧ (((20 : Nat) : Int) + (25) = ((45 : Nat) : Int)) := ⟨by decide +kernel, rfl, by decide⟩
theorem d_Fo_read_23 : decode m_Fo_read.2.1 23 = .ok (.aload_n 0, 1) ∧ 23 + 1 = 24 := ⟨by decide +kernel, rfl⟩
theorem d_Fo_read_24 : decode m_Fo_read.2.1 24 = .ok (.getfield 9, 3) ∧ 24 + 3 = 27 := ⟨by decide +kernel, rfl⟩
theorem d_Fo_read_27 : decode m_Fo_read.2.1 27 = .ok (.iload 4, 2) ∧ 27 + 2 = 29 := ⟨by decide +kernel, rfl⟩
theorem d_Fo_read_29 : decode m_Fo_read.2.1 29 = .ok (.iload_n 3, 1) ∧ 29 + 1 = 30 := ⟨by decide +kernel, rfl⟩
theorem d_Fo_read_30 : decode m_Fo_read.2.1 30 = .ok (.bipush 10, 2) ∧ 30 + 2 = 32 ∧ (Int8.ofInt 10).toInt32 = Int32.ofInt 10 := ⟨by decide +kernel, rfl, by decide +kernel⟩
theorem d_Fo_read_32 : decode m_Fo_read.2.1 32 = .ok (.irem, 1) ∧ 32 + 1 = 33 := ⟨by decide +kernel, rfl⟩
theorem d_Fo_read_33 : decode m_Fo_read.2.1 33 = .ok (.iastore, 1) ∧ 33 + 1 = 34 := ⟨by decide +kernel, rfl⟩
theorem d_Fo_read_34 : decode m_Fo_read.2.1 34 = .ok (.iload_n 3, 1) ∧ 34 + 1 = 35 := ⟨by decide +kernel, rfl⟩
theorem d_Fo_read_35 : decode m_Fo_read.2.1 35 = .ok (.bipush 10, 2) ∧ 35 + 2 = 37 ∧ (Int8.ofInt 10).toInt32 = Int32.ofInt 10 := ⟨by decide +kernel, rfl, by decide +kernel⟩
theorem d_Fo_read_37 : decode m_Fo_read.2.1 37 = .ok (.idiv, 1) ∧ 37 + 1 = 38 := ⟨by decide +kernel, rfl⟩
theorem d_Fo_read_38 : decode m_Fo_read.2.1 38 = .ok (.istore_n 3, 1) ∧ 38 + 1 = 39 := ⟨by decide +kernel, rfl⟩
theorem d_Fo_read_39 : decode m_Fo_read.2.1 39 = .ok (.iinc 4 (-1), 3) ∧ 39 + 3 = 42 := ⟨by decide +kernel, rfl⟩
theorem d_Fo_read_42 : decode m_Fo_read.2.1 42 = .ok (.goto (-24), 3) ∧ (((42 : Nat) : Int) + (-24) = ((18 : Nat) : Int)) := ⟨by decide +kernel, by decide⟩
theorem d_Fo_read_45 : decode m_Fo_read.2.1 45 = .ok (.return_, 1) := by decide +kernel
theorem d_Fo_holdsIn_0 : decode m_Fo_holdsIn.2.1 0 = .ok (.iconst 0, 1) ∧ 0 + 1 = 1 := ⟨by decide +kernel, rfl⟩
theorem d_Fo_holdsIn_1 : decode m_Fo_holdsIn.2.1 1 = .ok (.istore 4, 2) ∧ 1 + 2 = 3 := ⟨by decide +kernel, rfl⟩
theorem d_Fo_holdsIn_3 : decode m_Fo_holdsIn.2.1 3 = .ok (.iload 4, 2) ∧ 3 + 2 = 5 := ⟨by decide +kernel, rfl⟩
theorem d_Fo_holdsIn_5 : decode m_Fo_holdsIn.2.1 5 = .ok (.aload_n 1, 1) ∧ 5 + 1 = 6 := ⟨by decide +kernel, rfl⟩
theorem d_Fo_holdsIn_6 : decode m_Fo_holdsIn.2.1 6 = .ok (.getfield 19, 3) ∧ 6 + 3 = 9 := ⟨by decide +kernel, rfl⟩
theorem d_Fo_holdsIn_9 : decode m_Fo_holdsIn.2.1 9 = .ok (.if_icmp .ge 57, 3) ∧ 9 + 3 = 12 ∧ (((9 : Nat) : Int) + (57) = ((66 : Nat) : Int)) := ⟨by decide +kernel, rfl, by decide⟩
theorem d_Fo_holdsIn_12 : decode m_Fo_holdsIn.2.1 12 = .ok (.aload_n 0, 1) ∧ 12 + 1 = 13 := ⟨by decide +kernel, rfl⟩
theorem d_Fo_holdsIn_13 : decode m_Fo_holdsIn.2.1 13 = .ok (.getfield 9, 3) ∧ 13 + 3 = 16 := ⟨by decide +kernel, rfl⟩
theorem d_Fo_holdsIn_16 : decode m_Fo_holdsIn.2.1 16 = .ok (.iload 4, 2) ∧ 16 + 2 = 18 := ⟨by decide +kernel, rfl⟩
theorem d_Fo_holdsIn_18 : decode m_Fo_holdsIn.2.1 18 = .ok (.iaload, 1) ∧ 18 + 1 = 19 := ⟨by decide +kernel, rfl⟩
theorem d_Fo_holdsIn_19 : decode m_Fo_holdsIn.2.1 19 = .ok (.ifCond .eq 41, 3) ∧ 19 + 3 = 22 ∧ (((19 : Nat) : Int) + (41) = ((60 : Nat) : Int)) := ⟨by decide +kernel, rfl, by decide⟩
theorem d_Fo_holdsIn_22 : decode m_Fo_holdsIn.2.1 22 = .ok (.aload_n 0, 1) ∧ 22 + 1 = 23 := ⟨by decide +kernel, rfl⟩
theorem d_Fo_holdsIn_23 : decode m_Fo_holdsIn.2.1 23 = .ok (.getfield 9, 3) ∧ 23 + 3 = 26 := ⟨by decide +kernel, rfl⟩
theorem d_Fo_holdsIn_26 : decode m_Fo_holdsIn.2.1 26 = .ok (.iload 4, 2) ∧ 26 + 2 = 28 := ⟨by decide +kernel, rfl⟩
theorem d_Fo_holdsIn_28 : decode m_Fo_holdsIn.2.1 28 = .ok (.iaload, 1) ∧ 28 + 1 = 29 := ⟨by decide +kernel, rfl⟩
theorem d_Fo_holdsIn_29 : decode m_Fo_holdsIn.2.1 29 = .ok (.aload_n 1, 1) ∧ 29 + 1 = 30 := ⟨by decide +kernel, rfl⟩
theorem d_Fo_holdsIn_30 : decode m_Fo_holdsIn.2.1 30 = .ok (.iload_n 2, 1) ∧ 30 + 1 = 31 := ⟨by decide +kernel, rfl⟩
theorem d_Fo_holdsIn_31 : decode m_Fo_holdsIn.2.1 31 = .ok (.iload_n 3, 1) ∧ 31 + 1 = 32 := ⟨by decide +kernel, rfl⟩
theorem d_Fo_holdsIn_32 : decode m_Fo_holdsIn.2.1 32 = .ok (.iload 4, 2) ∧ 32 + 2 = 34 := ⟨by decide +kernel, rfl⟩
theorem d_Fo_holdsIn_34 : decode m_Fo_holdsIn.2.1 34 = .ok (.invokevirtual 25, 3) ∧ 34 + 3 = 37 := ⟨by decide +kernel, rfl⟩
theorem d_Fo_holdsIn_37 : decode m_Fo_holdsIn.2.1 37 = .ok (.invokestatic 29, 3) ∧ 37 + 3 = 40 := ⟨by decide +kernel, rfl⟩
theorem d_Fo_holdsIn_40 : decode m_Fo_holdsIn.2.1 40 = .ok (.aload_n 0, 1) ∧ 40 + 1 = 41 := ⟨by decide +kernel, rfl⟩
theorem d_Fo_holdsIn_41 : decode m_Fo_holdsIn.2.1 41 = .ok (.getfield 15, 3) ∧ 41 + 3 = 44 := ⟨by decide +kernel, rfl⟩
theorem d_Fo_holdsIn_44 : decode m_Fo_holdsIn.2.1 44 = .ok (.if_icmp .eq 16, 3) ∧ 44 + 3 = 47 ∧ (((44 : Nat) : Int) + (16) = ((60 : Nat) : Int)) := ⟨by decide +kernel, rfl, by decide⟩
theorem d_Fo_holdsIn_47 : decode m_Fo_holdsIn.2.1 47 = .ok (.aload_n 0, 1) ∧ 47 + 1 = 48 := ⟨by decide +kernel, rfl⟩
theorem d_Fo_holdsIn_48 : decode m_Fo_holdsIn.2.1 48 = .ok (.getfield 15, 3) ∧ 48 + 3 = 51 := ⟨by decide +kernel, rfl⟩
theorem d_Fo_holdsIn_51 : decode m_Fo_holdsIn.2.1 51 = .ok (.ifCond .ne 7, 3) ∧ 51 + 3 = 54 ∧ (((51 : Nat) : Int) + (7) = ((58 : Nat) : Int)) := ⟨by decide +kernel, rfl, by decide⟩
theorem d_Fo_holdsIn_54 : decode m_Fo_holdsIn.2.1 54 = .ok (.iconst 1, 1) ∧ 54 + 1 = 55 := ⟨by decide +kernel, rfl⟩
theorem d_Fo_holdsIn_55 : decode m_Fo_holdsIn.2.1 55 = .ok (.goto 4, 3) ∧ (((55 : Nat) : Int) + (4) = ((59 : Nat) : Int)) := ⟨by decide +kernel, by decide⟩
theorem d_Fo_holdsIn_58 : decode m_Fo_holdsIn.2.1 58 = .ok (.iconst 0, 1) ∧ 58 + 1 = 59 := ⟨by decide +kernel, rfl⟩
theorem d_Fo_holdsIn_59 : decode m_Fo_holdsIn.2.1 59 = .ok (.ireturn, 1) := by decide +kernel
theorem d_Fo_holdsIn_60 : decode m_Fo_holdsIn.2.1 60 = .ok (.iinc 4 1, 3) ∧ 60 + 3 = 63 := ⟨by decide +kernel, rfl⟩
theorem d_Fo_holdsIn_63 : decode m_Fo_holdsIn.2.1 63 = .ok (.goto (-60), 3) ∧ (((63 : Nat) : Int) + (-60) = ((3 : Nat) : Int)) := ⟨by decide +kernel, by decide⟩
theorem d_Fo_holdsIn_66 : decode m_Fo_holdsIn.2.1 66 = .ok (.aload_n 0, 1) ∧ 66 + 1 = 67 := ⟨by decide +kernel, rfl⟩
theorem d_Fo_holdsIn_67 : decode m_Fo_holdsIn.2.1 67 = .ok (.getfield 15, 3) ∧ 67 + 3 = 70 := ⟨by decide +kernel, rfl⟩
theorem d_Fo_holdsIn_70 : decode m_Fo_holdsIn.2.1 70 = .ok (.ireturn, 1) := by decide +kernel
theorem d_Fo_allows_0 : decode m_Fo_allows.2.1 0 = .ok (.iload_n 0, 1) ∧ 0 + 1 = 1 := ⟨by decide +kernel, rfl⟩
theorem d_Fo_allows_1 : decode m_Fo_allows.2.1 1 = .ok (.tableswitch 88 1 5 #[35, 45, 56, 67, 78], 35) := by decide +kernel
theorem d_Fo_allows_36 : decode m_Fo_allows.2.1 36 = .ok (.iload_n 1, 1) ∧ 36 + 1 = 37 := ⟨by decide +kernel, rfl⟩
theorem d_Fo_allows_37 : decode m_Fo_allows.2.1 37 = .ok (.ifCond .ne 7, 3) ∧ 37 + 3 = 40 ∧ (((37 : Nat) : Int) + (7) = ((44 : Nat) : Int)) := ⟨by decide +kernel, rfl, by decide⟩
theorem d_Fo_allows_40 : decode m_Fo_allows.2.1 40 = .ok (.iconst 1, 1) ∧ 40 + 1 = 41 := ⟨by decide +kernel, rfl⟩
theorem d_Fo_allows_41 : decode m_Fo_allows.2.1 41 = .ok (.goto 4, 3) ∧ (((41 : Nat) : Int) + (4) = ((45 : Nat) : Int)) := ⟨by decide +kernel, by decide⟩
theorem d_Fo_allows_44 : decode m_Fo_allows.2.1 44 = .ok (.iconst 0, 1) ∧ 44 + 1 = 45 := ⟨by decide +kernel, rfl⟩
theorem d_Fo_allows_45 : decode m_Fo_allows.2.1 45 = .ok (.ireturn, 1) := by decide +kernel
theorem d_Fo_allows_46 : decode m_Fo_allows.2.1 46 = .ok (.iload_n 1, 1) ∧ 46 + 1 = 47 := ⟨by decide +kernel, rfl⟩
theorem d_Fo_allows_47 : decode m_Fo_allows.2.1 47 = .ok (.iconst 1, 1) ∧ 47 + 1 = 48 := ⟨by decide +kernel, rfl⟩
theorem d_Fo_allows_48 : decode m_Fo_allows.2.1 48 = .ok (.if_icmp .ne 7, 3) ∧ 48 + 3 = 51 ∧ (((48 : Nat) : Int) + (7) = ((55 : Nat) : Int)) := ⟨by decide +kernel, rfl, by decide⟩
theorem d_Fo_allows_51 : decode m_Fo_allows.2.1 51 = .ok (.iconst 1, 1) ∧ 51 + 1 = 52 := ⟨by decide +kernel, rfl⟩
theorem d_Fo_allows_52 : decode m_Fo_allows.2.1 52 = .ok (.goto 4, 3) ∧ (((52 : Nat) : Int) + (4) = ((56 : Nat) : Int)) := ⟨by decide +kernel, by decide⟩
theorem d_Fo_allows_55 : decode m_Fo_allows.2.1 55 = .ok (.iconst 0, 1) ∧ 55 + 1 = 56 := ⟨by decide +kernel, rfl⟩
theorem d_Fo_allows_56 : decode m_Fo_allows.2.1 56 = .ok (.ireturn, 1) := by decide +kernel
theorem d_Fo_allows_57 : decode m_Fo_allows.2.1 57 = .ok (.iload_n 1, 1) ∧ 57 + 1 = 58 := ⟨by decide +kernel, rfl⟩
theorem d_Fo_allows_58 : decode m_Fo_allows.2.1 58 = .ok (.iconst 2, 1) ∧ 58 + 1 = 59 := ⟨by decide +kernel, rfl⟩
theorem d_Fo_allows_59 : decode m_Fo_allows.2.1 59 = .ok (.if_icmp .ne 7, 3) ∧ 59 + 3 = 62 ∧ (((59 : Nat) : Int) + (7) = ((66 : Nat) : Int)) := ⟨by decide +kernel, rfl, by decide⟩
theorem d_Fo_allows_62 : decode m_Fo_allows.2.1 62 = .ok (.iconst 1, 1) ∧ 62 + 1 = 63 := ⟨by decide +kernel, rfl⟩
theorem d_Fo_allows_63 : decode m_Fo_allows.2.1 63 = .ok (.goto 4, 3) ∧ (((63 : Nat) : Int) + (4) = ((67 : Nat) : Int)) := ⟨by decide +kernel, by decide⟩
theorem d_Fo_allows_66 : decode m_Fo_allows.2.1 66 = .ok (.iconst 0, 1) ∧ 66 + 1 = 67 := ⟨by decide +kernel, rfl⟩
theorem d_Fo_allows_67 : decode m_Fo_allows.2.1 67 = .ok (.ireturn, 1) := by decide +kernel
theorem d_Fo_allows_68 : decode m_Fo_allows.2.1 68 = .ok (.iload_n 1, 1) ∧ 68 + 1 = 69 := ⟨by decide +kernel, rfl⟩
theorem d_Fo_allows_69 : decode m_Fo_allows.2.1 69 = .ok (.iconst 1, 1) ∧ 69 + 1 = 70 := ⟨by decide +kernel, rfl⟩
theorem d_Fo_allows_70 : decode m_Fo_allows.2.1 70 = .ok (.if_icmp .eq 7, 3) ∧ 70 + 3 = 73 ∧ (((70 : Nat) : Int) + (7) = ((77 : Nat) : Int)) := ⟨by decide +kernel, rfl, by decide⟩
theorem d_Fo_allows_73 : decode m_Fo_allows.2.1 73 = .ok (.iconst 1, 1) ∧ 73 + 1 = 74 := ⟨by decide +kernel, rfl⟩
theorem d_Fo_allows_74 : decode m_Fo_allows.2.1 74 = .ok (.goto 4, 3) ∧ (((74 : Nat) : Int) + (4) = ((78 : Nat) : Int)) := ⟨by decide +kernel, by decide⟩
theorem d_Fo_allows_77 : decode m_Fo_allows.2.1 77 = .ok (.iconst 0, 1) ∧ 77 + 1 = 78 := ⟨by decide +kernel, rfl⟩
theorem d_Fo_allows_78 : decode m_Fo_allows.2.1 78 = .ok (.ireturn, 1) := by decide +kernel
theorem d_Fo_allows_79 : decode m_Fo_allows.2.1 79 = .ok (.iload_n 1, 1) ∧ 79 + 1 = 80 := ⟨by decide +kernel, rfl⟩
theorem d_Fo_allows_80 : decode m_Fo_allows.2.1 80 = .ok (.ifCond .eq 7, 3) ∧ 80 + 3 = 83 ∧ (((80 : Nat) : Int) + (7) = ((87 : Nat) : Int)) := ⟨by decide +kernel, rfl, by decide⟩
theorem d_Fo_allows_83 : decode m_Fo_allows.2.1 83 = .ok (.iconst 1, 1) ∧ 83 + 1 = 84 := ⟨by decide +kernel, rfl⟩
theorem d_Fo_allows_84 : decode m_Fo_allows.2.1 84 = .ok (.goto 4, 3) ∧ (((84 : Nat) : Int) + (4) = ((88 : Nat) : Int)) := ⟨by decide +kernel, by decide⟩
theorem d_Fo_allows_87 : decode m_Fo_allows.2.1 87 = .ok (.iconst 0, 1) ∧ 87 + 1 = 88 := ⟨by decide +kernel, rfl⟩
theorem d_Fo_allows_88 : decode m_Fo_allows.2.1 88 = .ok (.ireturn, 1) := by decide +kernel
theorem d_Fo_allows_89 : decode m_Fo_allows.2.1 89 = .ok (.iload_n 1, 1) ∧ 89 + 1 = 90 := ⟨by decide +kernel, rfl⟩
theorem d_Fo_allows_90 : decode m_Fo_allows.2.1 90 = .ok (.iconst 2, 1) ∧ 90 + 1 = 91 := ⟨by decide +kernel, rfl⟩
theorem d_Fo_allows_91 : decode m_Fo_allows.2.1 91 = .ok (.if_icmp .eq 7, 3) ∧ 91 + 3 = 94 ∧ (((91 : Nat) : Int) + (7) = ((98 : Nat) : Int)) := ⟨by decide +kernel, rfl, by decide⟩
theorem d_Fo_allows_94 : decode m_Fo_allows.2.1 94 = .ok (.iconst 1, 1) ∧ 94 + 1 = 95 := ⟨by decide +kernel, rfl⟩
theorem d_Fo_allows_95 : decode m_Fo_allows.2.1 95 = .ok (.goto 4, 3) ∧ (((95 : Nat) : Int) + (4) = ((99 : Nat) : Int)) := ⟨by decide +kernel, by decide⟩
theorem d_Fo_allows_98 : decode m_Fo_allows.2.1 98 = .ok (.iconst 0, 1) ∧ 98 + 1 = 99 := ⟨by decide +kernel, rfl⟩
theorem d_Fo_allows_99 : decode m_Fo_allows.2.1 99 = .ok (.ireturn, 1) := by decide +kernel
theorem d_Gr_init_0 : decode m_Gr_init.2.1 0 = .ok (.aload_n 0, 1) ∧ 0 + 1 = 1 := ⟨by decide +kernel, rfl⟩
theorem d_Gr_init_1 : decode m_Gr_init.2.1 1 = .ok (.invokespecial 3, 3) ∧ 1 + 3 = 4 := ⟨by decide +kernel, rfl⟩
theorem d_Gr_init_4 : decode m_Gr_init.2.1 4 = .ok (.aload_n 0, 1) ∧ 4 + 1 = 5 := ⟨by decide +kernel, rfl⟩
theorem d_Gr_init_5 : decode m_Gr_init.2.1 5 = .ok (.sipush 225, 3) ∧ 5 + 3 = 8 ∧ (Int16.ofInt 225).toInt32 = Int32.ofInt 225 := ⟨by decide +kernel, rfl, by decide +kernel⟩
theorem d_Gr_init_8 : decode m_Gr_init.2.1 8 = .ok (.newarray .int, 2) ∧ 8 + 2 = 10 := ⟨by decide +kernel, rfl⟩
theorem d_Gr_init_10 : decode m_Gr_init.2.1 10 = .ok (.putfield 9, 3) ∧ 10 + 3 = 13 := ⟨by decide +kernel, rfl⟩
theorem d_Gr_init_13 : decode m_Gr_init.2.1 13 = .ok (.aload_n 0, 1) ∧ 13 + 1 = 14 := ⟨by decide +kernel, rfl⟩
theorem d_Gr_init_14 : decode m_Gr_init.2.1 14 = .ok (.iconst 0, 1) ∧ 14 + 1 = 15 := ⟨by decide +kernel, rfl⟩
theorem d_Gr_init_15 : decode m_Gr_init.2.1 15 = .ok (.putfield 15, 3) ∧ 15 + 3 = 18 := ⟨by decide +kernel, rfl⟩
theorem d_Gr_init_18 : decode m_Gr_init.2.1 18 = .ok (.return_, 1) := by decide +kernel
theorem d_Gr_number_0 : decode m_Gr_number.2.1 0 = .ok (.aload_n 0, 1) ∧ 0 + 1 = 1 := ⟨by decide +kernel, rfl⟩
theorem d_Gr_number_1 : decode m_Gr_number.2.1 1 = .ok (.iconst 0, 1) ∧ 1 + 1 = 2 := ⟨by decide +kernel, rfl⟩
theorem d_Gr_number_2 : decode m_Gr_number.2.1 2 = .ok (.putfield 15, 3) ∧ 2 + 3 = 5 := ⟨by decide +kernel, rfl⟩
theorem d_Gr_number_5 : decode m_Gr_number.2.1 5 = .ok (.iconst 0, 1) ∧ 5 + 1 = 6 := ⟨by decide +kernel, rfl⟩
theorem d_Gr_number_6 : decode m_Gr_number.2.1 6 = .ok (.istore_n 3, 1) ∧ 6 + 1 = 7 := ⟨by decide +kernel, rfl⟩
theorem d_Gr_number_7 : decode m_Gr_number.2.1 7 = .ok (.iload_n 3, 1) ∧ 7 + 1 = 8 := ⟨by decide +kernel, rfl⟩
theorem d_Gr_number_8 : decode m_Gr_number.2.1 8 = .ok (.aload_n 1, 1) ∧ 8 + 1 = 9 := ⟨by decide +kernel, rfl⟩
theorem d_Gr_number_9 : decode m_Gr_number.2.1 9 = .ok (.getfield 19, 3) ∧ 9 + 3 = 12 := ⟨by decide +kernel, rfl⟩
theorem d_Gr_number_12 : decode m_Gr_number.2.1 12 = .ok (.if_icmp .ge 47, 3) ∧ 12 + 3 = 15 ∧ (((12 : Nat) : Int) + (47) = ((59 : Nat) : Int)) := ⟨by decide +kernel, rfl, by decide⟩
theorem d_Gr_number_15 : decode m_Gr_number.2.1 15 = .ok (.iconst 0, 1) ∧ 15 + 1 = 16 := ⟨by decide +kernel, rfl⟩
theorem d_Gr_number_16 : decode m_Gr_number.2.1 16 = .ok (.istore 4, 2) ∧ 16 + 2 = 18 := ⟨by decide +kernel, rfl⟩
theorem d_Gr_number_18 : decode m_Gr_number.2.1 18 = .ok (.iload 4, 2) ∧ 18 + 2 = 20 := ⟨by decide +kernel, rfl⟩
theorem d_Gr_number_20 : decode m_Gr_number.2.1 20 = .ok (.aload_n 1, 1) ∧ 20 + 1 = 21 := ⟨by decide +kernel, rfl⟩
theorem d_Gr_number_21 : decode m_Gr_number.2.1 21 = .ok (.getfield 24, 3) ∧ 21 + 3 = 24 := ⟨by decide +kernel, rfl⟩
theorem d_Gr_number_24 : decode m_Gr_number.2.1 24 = .ok (.iload_n 3, 1) ∧ 24 + 1 = 25 := ⟨by decide +kernel, rfl⟩
theorem d_Gr_number_25 : decode m_Gr_number.2.1 25 = .ok (.iaload, 1) ∧ 25 + 1 = 26 := ⟨by decide +kernel, rfl⟩
theorem d_Gr_number_26 : decode m_Gr_number.2.1 26 = .ok (.if_icmp .gt 27, 3) ∧ 26 + 3 = 29 ∧ (((26 : Nat) : Int) + (27) = ((53 : Nat) : Int)) := ⟨by decide +kernel, rfl, by decide⟩
theorem d_Gr_number_29 : decode m_Gr_number.2.1 29 = .ok (.aload_n 0, 1) ∧ 29 + 1 = 30 := ⟨by decide +kernel, rfl⟩
theorem d_Gr_number_30 : decode m_Gr_number.2.1 30 = .ok (.iload_n 3, 1) ∧ 30 + 1 = 31 := ⟨by decide +kernel, rfl⟩
theorem d_Gr_number_31 : decode m_Gr_number.2.1 31 = .ok (.iload 4, 2) ∧ 31 + 2 = 33 := ⟨by decide +kernel, rfl⟩
theorem d_Gr_number_33 : decode m_Gr_number.2.1 33 = .ok (.invokestatic 27, 3) ∧ 33 + 3 = 36 := ⟨by decide +kernel, rfl⟩
theorem d_Gr_number_36 : decode m_Gr_number.2.1 36 = .ok (.aload_n 2, 1) ∧ 36 + 1 = 37 := ⟨by decide +kernel, rfl⟩
theorem d_Gr_number_37 : decode m_Gr_number.2.1 37 = .ok (.aload_n 1, 1) ∧ 37 + 1 = 38 := ⟨by decide +kernel, rfl⟩
theorem d_Gr_number_38 : decode m_Gr_number.2.1 38 = .ok (.iload_n 3, 1) ∧ 38 + 1 = 39 := ⟨by decide +kernel, rfl⟩
theorem d_Gr_number_39 : decode m_Gr_number.2.1 39 = .ok (.iload 4, 2) ∧ 39 + 2 = 41 := ⟨by decide +kernel, rfl⟩
theorem d_Gr_number_41 : decode m_Gr_number.2.1 41 = .ok (.invokevirtual 31, 3) ∧ 41 + 3 = 44 := ⟨by decide +kernel, rfl⟩
theorem d_Gr_number_44 : decode m_Gr_number.2.1 44 = .ok (.invokevirtual 37, 3) ∧ 44 + 3 = 47 := ⟨by decide +kernel, rfl⟩
theorem d_Gr_number_47 : decode m_Gr_number.2.1 47 = .ok (.iinc 4 1, 3) ∧ 47 + 3 = 50 := ⟨by decide +kernel, rfl⟩
theorem d_Gr_number_50 : decode m_Gr_number.2.1 50 = .ok (.goto (-32), 3) ∧ (((50 : Nat) : Int) + (-32) = ((18 : Nat) : Int)) := ⟨by decide +kernel, by decide⟩
theorem d_Gr_number_53 : decode m_Gr_number.2.1 53 = .ok (.iinc 3 1, 3) ∧ 53 + 3 = 56 := ⟨by decide +kernel, rfl⟩
theorem d_Gr_number_56 : decode m_Gr_number.2.1 56 = .ok (.goto (-49), 3) ∧ (((56 : Nat) : Int) + (-49) = ((7 : Nat) : Int)) := ⟨by decide +kernel, by decide⟩
theorem d_Gr_number_59 : decode m_Gr_number.2.1 59 = .ok (.iconst 0, 1) ∧ 59 + 1 = 60 := ⟨by decide +kernel, rfl⟩
theorem d_Gr_number_60 : decode m_Gr_number.2.1 60 = .ok (.istore_n 3, 1) ∧ 60 + 1 = 61 := ⟨by decide +kernel, rfl⟩
theorem d_Gr_number_61 : decode m_Gr_number.2.1 61 = .ok (.iload_n 3, 1) ∧ 61 + 1 = 62 := ⟨by decide +kernel, rfl⟩
theorem d_Gr_number_62 : decode m_Gr_number.2.1 62 = .ok (.aload_n 1, 1) ∧ 62 + 1 = 63 := ⟨by decide +kernel, rfl⟩
theorem d_Gr_number_63 : decode m_Gr_number.2.1 63 = .ok (.getfield 19, 3) ∧ 63 + 3 = 66 := ⟨by decide +kernel, rfl⟩
theorem d_Gr_number_66 : decode m_Gr_number.2.1 66 = .ok (.if_icmp .ge 52, 3) ∧ 66 + 3 = 69 ∧ (((66 : Nat) : Int) + (52) = ((118 : Nat) : Int)) := ⟨by decide +kernel, rfl, by decide⟩
theorem d_Gr_number_69 : decode m_Gr_number.2.1 69 = .ok (.iconst 0, 1) ∧ 69 + 1 = 70 := ⟨by decide +kernel, rfl⟩
theorem d_Gr_number_70 : decode m_Gr_number.2.1 70 = .ok (.istore 4, 2) ∧ 70 + 2 = 72 := ⟨by decide +kernel, rfl⟩
theorem d_Gr_number_72 : decode m_Gr_number.2.1 72 = .ok (.iload 4, 2) ∧ 72 + 2 = 74 := ⟨by decide +kernel, rfl⟩
theorem d_Gr_number_74 : decode m_Gr_number.2.1 74 = .ok (.aload_n 1, 1) ∧ 74 + 1 = 75 := ⟨by decide +kernel, rfl⟩
theorem d_Gr_number_75 : decode m_Gr_number.2.1 75 = .ok (.getfield 24, 3) ∧ 75 + 3 = 78 := ⟨by decide +kernel, rfl⟩
theorem d_Gr_number_78 : decode m_Gr_number.2.1 78 = .ok (.iload_n 3, 1) ∧ 78 + 1 = 79 := ⟨by decide +kernel, rfl⟩
theorem d_Gr_number_79 : decode m_Gr_number.2.1 79 = .ok (.iaload, 1) ∧ 79 + 1 = 80 := ⟨by decide +kernel, rfl⟩
theorem d_Gr_number_80 : decode m_Gr_number.2.1 80 = .ok (.if_icmp .gt 32, 3) ∧ 80 + 3 = 83 ∧ (((80 : Nat) : Int) + (32) = ((112 : Nat) : Int)) := ⟨by decide +kernel, rfl, by decide⟩
theorem d_Gr_number_83 : decode m_Gr_number.2.1 83 = .ok (.aload_n 0, 1) ∧ 83 + 1 = 84 := ⟨by decide +kernel, rfl⟩
theorem d_Gr_number_84 : decode m_Gr_number.2.1 84 = .ok (.getfield 9, 3) ∧ 84 + 3 = 87 := ⟨by decide +kernel, rfl⟩
theorem d_Gr_number_87 : decode m_Gr_number.2.1 87 = .ok (.iload_n 3, 1) ∧ 87 + 1 = 88 := ⟨by decide +kernel, rfl⟩
theorem d_Gr_number_88 : decode m_Gr_number.2.1 88 = .ok (.iload 4, 2) ∧ 88 + 2 = 90 := ⟨by decide +kernel, rfl⟩
theorem d_Gr_number_90 : decode m_Gr_number.2.1 90 = .ok (.invokestatic 27, 3) ∧ 90 + 3 = 93 := ⟨by decide +kernel, rfl⟩
theorem d_Gr_number_93 : decode m_Gr_number.2.1 93 = .ok (.iaload, 1) ∧ 93 + 1 = 94 := ⟨by decide +kernel, rfl⟩
theorem d_Gr_number_94 : decode m_Gr_number.2.1 94 = .ok (.iconst (-1), 1) ∧ 94 + 1 = 95 := ⟨by decide +kernel, rfl⟩
theorem d_Gr_number_95 : decode m_Gr_number.2.1 95 = .ok (.if_icmp .eq 11, 3) ∧ 95 + 3 = 98 ∧ (((95 : Nat) : Int) + (11) = ((106 : Nat) : Int)) := ⟨by decide +kernel, rfl, by decide⟩
theorem d_Gr_number_98 : decode m_Gr_number.2.1 98 = .ok (.aload_n 0, 1) ∧ 98 + 1 = 99 := ⟨by decide +kernel, rfl⟩
theorem d_Gr_number_99 : decode m_Gr_number.2.1 99 = .ok (.aload_n 1, 1) ∧ 99 + 1 = 100 := ⟨by decide +kernel, rfl⟩
theorem d_Gr_number_100 : decode m_Gr_number.2.1 100 = .ok (.iload_n 3, 1) ∧ 100 + 1 = 101 := ⟨by decide +kernel, rfl⟩
theorem d_Gr_number_101 : decode m_Gr_number.2.1 101 = .ok (.iload 4, 2) ∧ 101 + 2 = 103 := ⟨by decide +kernel, rfl⟩
theorem d_Gr_number_103 : decode m_Gr_number.2.1 103 = .ok (.invokevirtual 41, 3) ∧ 103 + 3 = 106 := ⟨by decide +kernel, rfl⟩
theorem d_Gr_number_106 : decode m_Gr_number.2.1 106 = .ok (.iinc 4 1, 3) ∧ 106 + 3 = 109 := ⟨by decide +kernel, rfl⟩
theorem d_Gr_number_109 : decode m_Gr_number.2.1 109 = .ok (.goto (-37), 3) ∧ (((109 : Nat) : Int) + (-37) = ((72 : Nat) : Int)) := ⟨by decide +kernel, by decide⟩
theorem d_Gr_number_112 : decode m_Gr_number.2.1 112 = .ok (.iinc 3 1, 3) ∧ 112 + 3 = 115 := ⟨by decide +kernel, rfl⟩
theorem d_Gr_number_115 : decode m_Gr_number.2.1 115 = .ok (.goto (-54), 3) ∧ (((115 : Nat) : Int) + (-54) = ((61 : Nat) : Int)) := ⟨by decide +kernel, by decide⟩
theorem d_Gr_number_118 : decode m_Gr_number.2.1 118 = .ok (.aload_n 0, 1) ∧ 118 + 1 = 119 := ⟨by decide +kernel, rfl⟩
theorem d_Gr_number_119 : decode m_Gr_number.2.1 119 = .ok (.getfield 15, 3) ∧ 119 + 3 = 122 := ⟨by decide +kernel, rfl⟩
theorem d_Gr_number_122 : decode m_Gr_number.2.1 122 = .ok (.ireturn, 1) := by decide +kernel
theorem d_Gr_placeOf_0 : decode m_Gr_placeOf.2.1 0 = .ok (.bipush 9, 2) ∧ 0 + 2 = 2 ∧ (Int8.ofInt 9).toInt32 = Int32.ofInt 9 := ⟨by decide +kernel, rfl, by decide +kernel⟩
theorem d_Gr_placeOf_2 : decode m_Gr_placeOf.2.1 2 = .ok (.iload_n 0, 1) ∧ 2 + 1 = 3 := ⟨by decide +kernel, rfl⟩
theorem d_Gr_placeOf_3 : decode m_Gr_placeOf.2.1 3 = .ok (.imul, 1) ∧ 3 + 1 = 4 := ⟨by decide +kernel, rfl⟩
theorem d_Gr_placeOf_4 : decode m_Gr_placeOf.2.1 4 = .ok (.iload_n 1, 1) ∧ 4 + 1 = 5 := ⟨by decide +kernel, rfl⟩
theorem d_Gr_placeOf_5 : decode m_Gr_placeOf.2.1 5 = .ok (.iadd, 1) ∧ 5 + 1 = 6 := ⟨by decide +kernel, rfl⟩
theorem d_Gr_placeOf_6 : decode m_Gr_placeOf.2.1 6 = .ok (.ireturn, 1) := by decide +kernel
theorem d_Gr_begin_0 : decode m_Gr_begin.2.1 0 = .ok (.aload_n 0, 1) ∧ 0 + 1 = 1 := ⟨by decide +kernel, rfl⟩
theorem d_Gr_begin_1 : decode m_Gr_begin.2.1 1 = .ok (.getfield 9, 3) ∧ 1 + 3 = 4 := ⟨by decide +kernel, rfl⟩
theorem d_Gr_begin_4 : decode m_Gr_begin.2.1 4 = .ok (.iload_n 1, 1) ∧ 4 + 1 = 5 := ⟨by decide +kernel, rfl⟩
theorem d_Gr_begin_5 : decode m_Gr_begin.2.1 5 = .ok (.iload_n 2, 1) ∧ 5 + 1 = 6 := ⟨by decide +kernel, rfl⟩
theorem d_Gr_begin_6 : decode m_Gr_begin.2.1 6 = .ok (.ifCond .eq 7, 3) ∧ 6 + 3 = 9 ∧ (((6 : Nat) : Int) + (7) = ((13 : Nat) : Int)) := ⟨by decide +kernel, rfl, by decide⟩
theorem d_Gr_begin_9 : decode m_Gr_begin.2.1 9 = .ok (.iload_n 1, 1) ∧ 9 + 1 = 10 := ⟨by decide +kernel, rfl⟩
theorem d_Gr_begin_10 : decode m_Gr_begin.2.1 10 = .ok (.goto 4, 3) ∧ (((10 : Nat) : Int) + (4) = ((14 : Nat) : Int)) := ⟨by decide +kernel, by decide⟩
theorem d_Gr_begin_13 : decode m_Gr_begin.2.1 13 = .ok (.iconst (-1), 1) ∧ 13 + 1 = 14 := ⟨by decide +kernel, rfl⟩
theorem d_Gr_begin_14 : decode m_Gr_begin.2.1 14 = .ok (.iastore, 1) ∧ 14 + 1 = 15 := ⟨by decide +kernel, rfl⟩
theorem d_Gr_begin_15 : decode m_Gr_begin.2.1 15 = .ok (.iload_n 2, 1) ∧ 15 + 1 = 16 := ⟨by decide +kernel, rfl⟩
theorem d_Gr_begin_16 : decode m_Gr_begin.2.1 16 = .ok (.ifCond .eq 13, 3) ∧ 16 + 3 = 19 ∧ (((16 : Nat) : Int) + (13) = ((29 : Nat) : Int)) := ⟨by decide +kernel, rfl, by decide⟩
theorem d_Gr_begin_19 : decode m_Gr_begin.2.1 19 = .ok (.aload_n 0, 1) ∧ 19 + 1 = 20 := ⟨by decide +kernel, rfl⟩
theorem d_Gr_begin_20 : decode m_Gr_begin.2.1 20 = .ok (.dup, 1) ∧ 20 + 1 = 21 := ⟨by decide +kernel, rfl⟩
theorem d_Gr_begin_21 : decode m_Gr_begin.2.1 21 = .ok (.getfield 15, 3) ∧ 21 + 3 = 24 := ⟨by decide +kernel, rfl⟩
theorem d_Gr_begin_24 : decode m_Gr_begin.2.1 24 = .ok (.iconst 1, 1) ∧ 24 + 1 = 25 := ⟨by decide +kernel, rfl⟩
theorem d_Gr_begin_25 : decode m_Gr_begin.2.1 25 = .ok (.iadd, 1) ∧ 25 + 1 = 26 := ⟨by decide +kernel, rfl⟩
theorem d_Gr_begin_26 : decode m_Gr_begin.2.1 26 = .ok (.putfield 15, 3) ∧ 26 + 3 = 29 := ⟨by decide +kernel, rfl⟩
theorem d_Gr_begin_29 : decode m_Gr_begin.2.1 29 = .ok (.return_, 1) := by decide +kernel
theorem d_Gr_joinNeighbours_0 : decode m_Gr_joinNeighbours.2.1 0 = .ok (.iload_n 2, 1) ∧ 0 + 1 = 1 := ⟨by decide +kernel, rfl⟩
theorem d_Gr_joinNeighbours_1 : decode m_Gr_joinNeighbours.2.1 1 = .ok (.iload_n 3, 1) ∧ 1 + 1 = 2 := ⟨by decide +kernel, rfl⟩
theorem d_Gr_joinNeighbours_2 : decode m_Gr_joinNeighbours.2.1 2 = .ok (.invokestatic 27, 3) ∧ 2 + 3 = 5 := ⟨by decide +kernel, rfl⟩
theorem d_Gr_joinNeighbours_5 : decode m_Gr_joinNeighbours.2.1 5 = .ok (.istore 4, 2) ∧ 5 + 2 = 7 := ⟨by decide +kernel, rfl⟩
theorem d_Gr_joinNeighbours_7 : decode m_Gr_joinNeighbours.2.1 7 = .ok (.iload_n 3, 1) ∧ 7 + 1 = 8 := ⟨by decide +kernel, rfl⟩
theorem d_Gr_joinNeighbours_8 : decode m_Gr_joinNeighbours.2.1 8 = .ok (.ifCond .le 13, 3) ∧ 8 + 3 = 11 ∧ (((8 : Nat) : Int) + (13) = ((21 : Nat) : Int)) := ⟨by decide +kernel, rfl, by decide⟩
theorem d_Gr_joinNeighbours_11 : decode m_Gr_joinNeighbours.2.1 11 = .ok (.aload_n 0, 1) ∧ 11 + 1 = 12 := ⟨by decide +kernel, rfl⟩
theorem d_Gr_joinNeighbours_12 : decode m_Gr_joinNeighbours.2.1 12 = .ok (.iload 4, 2) ∧ 12 + 2 = 14 := ⟨by decide +kernel, rfl⟩
theorem d_Gr_joinNeighbours_14 : decode m_Gr_joinNeighbours.2.1 14 = .ok (.iload 4, 2) ∧ 14 + 2 = 16 := ⟨by decide +kernel, rfl⟩
theorem d_Gr_joinNeighbours_16 : decode m_Gr_joinNeighbours.2.1 16 = .ok (.iconst 1, 1) ∧ 16 + 1 = 17 := ⟨by decide +kernel, rfl⟩
theorem d_Gr_joinNeighbours_17 : decode m_Gr_joinNeighbours.2.1 17 = .ok (.isub, 1) ∧ 17 + 1 = 18 := ⟨by decide +kernel, rfl⟩
theorem d_Gr_joinNeighbours_18 : decode m_Gr_joinNeighbours.2.1 18 = .ok (.invokevirtual 45, 3) ∧ 18 + 3 = 21 := ⟨by decide +kernel, rfl⟩
theorem d_Gr_joinNeighbours_21 : decode m_Gr_joinNeighbours.2.1 21 = .ok (.iload_n 2, 1) ∧ 21 + 1 = 22 := ⟨by decide +kernel, rfl⟩
theorem d_Gr_joinNeighbours_22 : decode m_Gr_joinNeighbours.2.1 22 = .ok (.iconst 2, 1) ∧ 22 + 1 = 23 := ⟨by decide +kernel, rfl⟩
theorem d_Gr_joinNeighbours_23 : decode m_Gr_joinNeighbours.2.1 23 = .ok (.irem, 1) ∧ 23 + 1 = 24 := ⟨by decide +kernel, rfl⟩
theorem d_Gr_joinNeighbours_24 : decode m_Gr_joinNeighbours.2.1 24 = .ok (.iconst 1, 1) ∧ 24 + 1 = 25 := ⟨by decide +kernel, rfl⟩
theorem d_Gr_joinNeighbours_25 : decode m_Gr_joinNeighbours.2.1 25 = .ok (.if_icmp .ne 4, 3) ∧ 25 + 3 = 28 ∧ (((25 : Nat) : Int) + (4) = ((29 : Nat) : Int)) := ⟨by decide +kernel, rfl, by decide⟩
theorem d_Gr_joinNeighbours_28 : decode m_Gr_joinNeighbours.2.1 28 = .ok (.return_, 1) := by decide +kernel
theorem d_Gr_joinNeighbours_29 : decode m_Gr_joinNeighbours.2.1 29 = .ok (.iload_n 2, 1) ∧ 29 + 1 = 30 := ⟨by decide +kernel, rfl⟩
theorem d_Gr_joinNeighbours_30 : decode m_Gr_joinNeighbours.2.1 30 = .ok (.iconst 1, 1) ∧ 30 + 1 = 31 := ⟨by decide +kernel, rfl⟩
theorem d_Gr_joinNeighbours_31 : decode m_Gr_joinNeighbours.2.1 31 = .ok (.isub, 1) ∧ 31 + 1 = 32 := ⟨by decide +kernel, rfl⟩
theorem d_Gr_joinNeighbours_32 : decode m_Gr_joinNeighbours.2.1 32 = .ok (.istore 5, 2) ∧ 32 + 2 = 34 := ⟨by decide +kernel, rfl⟩
theorem d_Gr_joinNeighbours_34 : decode m_Gr_joinNeighbours.2.1 34 = .ok (.iload 5, 2) ∧ 34 + 2 = 36 := ⟨by decide +kernel, rfl⟩
theorem d_Gr_joinNeighbours_36 : decode m_Gr_joinNeighbours.2.1 36 = .ok (.iload_n 2, 1) ∧ 36 + 1 = 37 := ⟨by decide +kernel, rfl⟩
theorem d_Gr_joinNeighbours_37 : decode m_Gr_joinNeighbours.2.1 37 = .ok (.iconst 1, 1) ∧ 37 + 1 = 38 := ⟨by decide +kernel, rfl⟩
theorem d_Gr_joinNeighbours_38 : decode m_Gr_joinNeighbours.2.1 38 = .ok (.iadd, 1) ∧ 38 + 1 = 39 := ⟨by decide +kernel, rfl⟩
theorem d_Gr_joinNeighbours_39 : decode m_Gr_joinNeighbours.2.1 39 = .ok (.if_icmp .gt 64, 3) ∧ 39 + 3 = 42 ∧ (((39 : Nat) : Int) + (64) = ((103 : Nat) : Int)) := ⟨by decide +kernel, rfl, by decide⟩
theorem d_Gr_joinNeighbours_42 : decode m_Gr_joinNeighbours.2.1 42 = .ok (.aload_n 1, 1) ∧ 42 + 1 = 43 := ⟨by decide +kernel, rfl⟩
theorem d_Gr_joinNeighbours_43 : decode m_Gr_joinNeighbours.2.1 43 = .ok (.iload 5, 2) ∧ 43 + 2 = 45 := ⟨by decide +kernel, rfl⟩
theorem d_Gr_joinNeighbours_45 : decode m_Gr_joinNeighbours.2.1 45 = .ok (.invokevirtual 49, 3) ∧ 45 + 3 = 48 := ⟨by decide +kernel, rfl⟩
theorem d_Gr_joinNeighbours_48 : decode m_Gr_joinNeighbours.2.1 48 = .ok (.ifCond .eq 49, 3) ∧ 48 + 3 = 51 ∧ (((48 : Nat) : Int) + (49) = ((97 : Nat) : Int)) := ⟨by decide +kernel, rfl, by decide⟩
theorem d_Gr_joinNeighbours_51 : decode m_Gr_joinNeighbours.2.1 51 = .ok (.aload_n 1, 1) ∧ 51 + 1 = 52 := ⟨by decide +kernel, rfl⟩
theorem d_Gr_joinNeighbours_52 : decode m_Gr_joinNeighbours.2.1 52 = .ok (.iload_n 2, 1) ∧ 52 + 1 = 53 := ⟨by decide +kernel, rfl⟩
theorem d_Gr_joinNeighbours_53 : decode m_Gr_joinNeighbours.2.1 53 = .ok (.iload_n 3, 1) ∧ 53 + 1 = 54 := ⟨by decide +kernel, rfl⟩
theorem d_Gr_joinNeighbours_54 : decode m_Gr_joinNeighbours.2.1 54 = .ok (.iload 5, 2) ∧ 54 + 2 = 56 := ⟨by decide +kernel, rfl⟩
theorem d_Gr_joinNeighbours_56 : decode m_Gr_joinNeighbours.2.1 56 = .ok (.invokevirtual 53, 3) ∧ 56 + 3 = 59 := ⟨by decide +kernel, rfl⟩
theorem d_Gr_joinNeighbours_59 : decode m_Gr_joinNeighbours.2.1 59 = .ok (.istore 6, 2) ∧ 59 + 2 = 61 := ⟨by decide +kernel, rfl⟩
theorem d_Gr_joinNeighbours_61 : decode m_Gr_joinNeighbours.2.1 61 = .ok (.aload_n 1, 1) ∧ 61 + 1 = 62 := ⟨by decide +kernel, rfl⟩
theorem d_Gr_joinNeighbours_62 : decode m_Gr_joinNeighbours.2.1 62 = .ok (.iload_n 2, 1) ∧ 62 + 1 = 63 := ⟨by decide +kernel, rfl⟩
theorem d_Gr_joinNeighbours_63 : decode m_Gr_joinNeighbours.2.1 63 = .ok (.iload_n 3, 1) ∧ 63 + 1 = 64 := ⟨by decide +kernel, rfl⟩
theorem d_Gr_joinNeighbours_64 : decode m_Gr_joinNeighbours.2.1 64 = .ok (.iload 5, 2) ∧ 64 + 2 = 66 := ⟨by decide +kernel, rfl⟩
theorem d_Gr_joinNeighbours_66 : decode m_Gr_joinNeighbours.2.1 66 = .ok (.invokevirtual 57, 3) ∧ 66 + 3 = 69 := ⟨by decide +kernel, rfl⟩
theorem d_Gr_joinNeighbours_69 : decode m_Gr_joinNeighbours.2.1 69 = .ok (.istore 7, 2) ∧ 69 + 2 = 71 := ⟨by decide +kernel, rfl⟩
theorem d_Gr_joinNeighbours_71 : decode m_Gr_joinNeighbours.2.1 71 = .ok (.iload 7, 2) ∧ 71 + 2 = 73 := ⟨by decide +kernel, rfl⟩
theorem d_Gr_joinNeighbours_73 : decode m_Gr_joinNeighbours.2.1 73 = .ok (.iload 6, 2) ∧ 73 + 2 = 75 := ⟨by decide +kernel, rfl⟩
theorem d_Gr_joinNeighbours_75 : decode m_Gr_joinNeighbours.2.1 75 = .ok (.if_icmp .gt 22, 3) ∧ 75 + 3 = 78 ∧ (((75 : Nat) : Int) + (22) = ((97 : Nat) : Int)) := ⟨by decide +kernel, rfl, by decide⟩
theorem d_Gr_joinNeighbours_78 : decode m_Gr_joinNeighbours.2.1 78 = .ok (.aload_n 0, 1) ∧ 78 + 1 = 79 := ⟨by decide +kernel, rfl⟩
theorem d_Gr_joinNeighbours_79 : decode m_Gr_joinNeighbours.2.1 79 = .ok (.iload 4, 2) ∧ 79 + 2 = 81 := ⟨by decide +kernel, rfl⟩
theorem d_Gr_joinNeighbours_81 : decode m_Gr_joinNeighbours.2.1 81 = .ok (.iload 5, 2) ∧ 81 + 2 = 83 := ⟨by decide +kernel, rfl⟩
theorem d_Gr_joinNeighbours_83 : decode m_Gr_joinNeighbours.2.1 83 = .ok (.iload 7, 2) ∧ 83 + 2 = 85 := ⟨by decide +kernel, rfl⟩
theorem d_Gr_joinNeighbours_85 : decode m_Gr_joinNeighbours.2.1 85 = .ok (.invokestatic 27, 3) ∧ 85 + 3 = 88 := ⟨by decide +kernel, rfl⟩
theorem d_Gr_joinNeighbours_88 : decode m_Gr_joinNeighbours.2.1 88 = .ok (.invokevirtual 45, 3) ∧ 88 + 3 = 91 := ⟨by decide +kernel, rfl⟩
theorem d_Gr_joinNeighbours_91 : decode m_Gr_joinNeighbours.2.1 91 = .ok (.iinc 7 1, 3) ∧ 91 + 3 = 94 := ⟨by decide +kernel, rfl⟩
theorem d_Gr_joinNeighbours_94 : decode m_Gr_joinNeighbours.2.1 94 = .ok (.goto (-23), 3) ∧ (((94 : Nat) : Int) + (-23) = ((71 : Nat) : Int)) := ⟨by decide +kernel, by decide⟩
theorem d_Gr_joinNeighbours_97 : decode m_Gr_joinNeighbours.2.1 97 = .ok (.iinc 5 2, 3) ∧ 97 + 3 = 100 := ⟨by decide +kernel, rfl⟩
theorem d_Gr_joinNeighbours_100 : decode m_Gr_joinNeighbours.2.1 100 = .ok (.goto (-66), 3) ∧ (((100 : Nat) : Int) + (-66) = ((34 : Nat) : Int)) := ⟨by decide +kernel, by decide⟩
theorem d_Gr_joinNeighbours_103 : decode m_Gr_joinNeighbours.2.1 103 = .ok (.return_, 1) := by decide +kernel
theorem d_Gr_join_0 : decode m_Gr_join.2.1 0 = .ok (.aload_n 0, 1) ∧ 0 + 1 = 1 := ⟨by decide +kernel, rfl⟩
theorem d_Gr_join_1 : decode m_Gr_join.2.1 1 = .ok (.getfield 9, 3) ∧ 1 + 3 = 4 := ⟨by decide +kernel, rfl⟩
theorem d_Gr_join_4 : decode m_Gr_join.2.1 4 = .ok (.iload_n 2, 1) ∧ 4 + 1 = 5 := ⟨by decide +kernel, rfl⟩
theorem d_Gr_join_5 : decode m_Gr_join.2.1 5 = .ok (.iaload, 1) ∧ 5 + 1 = 6 := ⟨by decide +kernel, rfl⟩
theorem d_Gr_join_6 : decode m_Gr_join.2.1 6 = .ok (.iconst (-1), 1) ∧ 6 + 1 = 7 := ⟨by decide +kernel, rfl⟩
theorem d_Gr_join_7 : decode m_Gr_join.2.1 7 = .ok (.if_icmp .ne 4, 3) ∧ 7 + 3 = 10 ∧ (((7 : Nat) : Int) + (4) = ((11 : Nat) : Int)) := ⟨by decide +kernel, rfl, by decide⟩
theorem d_Gr_join_10 : decode m_Gr_join.2.1 10 = .ok (.return_, 1) := by decide +kernel
theorem d_Gr_join_11 : decode m_Gr_join.2.1 11 = .ok (.aload_n 0, 1) ∧ 11 + 1 = 12 := ⟨by decide +kernel, rfl⟩
theorem d_Gr_join_12 : decode m_Gr_join.2.1 12 = .ok (.iload_n 1, 1) ∧ 12 + 1 = 13 := ⟨by decide +kernel, rfl⟩
theorem d_Gr_join_13 : decode m_Gr_join.2.1 13 = .ok (.invokevirtual 60, 3) ∧ 13 + 3 = 16 := ⟨by decide +kernel, rfl⟩
theorem d_Gr_join_16 : decode m_Gr_join.2.1 16 = .ok (.istore_n 3, 1) ∧ 16 + 1 = 17 := ⟨by decide +kernel, rfl⟩
theorem d_Gr_join_17 : decode m_Gr_join.2.1 17 = .ok (.aload_n 0, 1) ∧ 17 + 1 = 18 := ⟨by decide +kernel, rfl⟩
theorem d_Gr_join_18 : decode m_Gr_join.2.1 18 = .ok (.iload_n 2, 1) ∧ 18 + 1 = 19 := ⟨by decide +kernel, rfl⟩
theorem d_Gr_join_19 : decode m_Gr_join.2.1 19 = .ok (.invokevirtual 60, 3) ∧ 19 + 3 = 22 := ⟨by decide +kernel, rfl⟩
theorem d_Gr_join_22 : decode m_Gr_join.2.1 22 = .ok (.istore 4, 2) ∧ 22 + 2 = 24 := ⟨by decide +kernel, rfl⟩
theorem d_Gr_join_24 : decode m_Gr_join.2.1 24 = .ok (.iload_n 3, 1) ∧ 24 + 1 = 25 := ⟨by decide +kernel, rfl⟩
theorem d_Gr_join_25 : decode m_Gr_join.2.1 25 = .ok (.iload 4, 2) ∧ 25 + 2 = 27 := ⟨by decide +kernel, rfl⟩
theorem d_Gr_join_27 : decode m_Gr_join.2.1 27 = .ok (.if_icmp .eq 30, 3) ∧ 27 + 3 = 30 ∧ (((27 : Nat) : Int) + (30) = ((57 : Nat) : Int)) := ⟨by decide +kernel, rfl, by decide⟩
theorem d_Gr_join_30 : decode m_Gr_join.2.1 30 = .ok (.aload_n 0, 1) ∧ 30 + 1 = 31 := ⟨by decide +kernel, rfl⟩
theorem d_Gr_join_31 : decode m_Gr_join.2.1 31 = .ok (.getfield 9, 3) ∧ 31 + 3 = 34 := ⟨by decide +kernel, rfl⟩
theorem d_Gr_join_34 : decode m_Gr_join.2.1 34 = .ok (.iload_n 3, 1) ∧ 34 + 1 = 35 := ⟨by decide +kernel, rfl⟩
theorem d_Gr_join_35 : decode m_Gr_join.2.1 35 = .ok (.iload 4, 2) ∧ 35 + 2 = 37 := ⟨by decide +kernel, rfl⟩
theorem d_Gr_join_37 : decode m_Gr_join.2.1 37 = .ok (.invokestatic 64, 3) ∧ 37 + 3 = 40 := ⟨by decide +kernel, rfl⟩
theorem d_Gr_join_40 : decode m_Gr_join.2.1 40 = .ok (.iload_n 3, 1) ∧ 40 + 1 = 41 := ⟨by decide +kernel, rfl⟩
theorem d_Gr_join_41 : decode m_Gr_join.2.1 41 = .ok (.iload 4, 2) ∧ 41 + 2 = 43 := ⟨by decide +kernel, rfl⟩
theorem d_Gr_join_43 : decode m_Gr_join.2.1 43 = .ok (.invokestatic 69, 3) ∧ 43 + 3 = 46 := ⟨by decide +kernel, rfl⟩
theorem d_Gr_join_46 : decode m_Gr_join.2.1 46 = .ok (.iastore, 1) ∧ 46 + 1 = 47 := ⟨by decide +kernel, rfl⟩
theorem d_Gr_join_47 : decode m_Gr_join.2.1 47 = .ok (.aload_n 0, 1) ∧ 47 + 1 = 48 := ⟨by decide +kernel, rfl⟩
theorem d_Gr_join_48 : decode m_Gr_join.2.1 48 = .ok (.dup, 1) ∧ 48 + 1 = 49 := ⟨by decide +kernel, rfl⟩
theorem d_Gr_join_49 : decode m_Gr_join.2.1 49 = .ok (.getfield 15, 3) ∧ 49 + 3 = 52 := ⟨by decide +kernel, rfl⟩
theorem d_Gr_join_52 : decode m_Gr_join.2.1 52 = .ok (.iconst 1, 1) ∧ 52 + 1 = 53 := ⟨by decide +kernel, rfl⟩
theorem d_Gr_join_53 : decode m_Gr_join.2.1 53 = .ok (.isub, 1) ∧ 53 + 1 = 54 := ⟨by decide +kernel, rfl⟩
theorem d_Gr_join_54 : decode m_Gr_join.2.1 54 = .ok (.putfield 15, 3) ∧ 54 + 3 = 57 := ⟨by decide +kernel, rfl⟩
theorem d_Gr_join_57 : decode m_Gr_join.2.1 57 = .ok (.return_, 1) := by decide +kernel
theorem d_Gr_standsFor_0 : decode m_Gr_standsFor.2.1 0 = .ok (.iload_n 1, 1) ∧ 0 + 1 = 1 := ⟨by decide +kernel, rfl⟩
theorem d_Gr_standsFor_1 : decode m_Gr_standsFor.2.1 1 = .ok (.istore_n 2, 1) ∧ 1 + 1 = 2 := ⟨by decide +kernel, rfl⟩
theorem d_Gr_standsFor_2 : decode m_Gr_standsFor.2.1 2 = .ok (.iconst 0, 1) ∧ 2 + 1 = 3 := ⟨by decide +kernel, rfl⟩
theorem d_Gr_standsFor_3 : decode m_Gr_standsFor.2.1 3 = .ok (.istore_n 3, 1) ∧ 3 + 1 = 4 := ⟨by decide +kernel, rfl⟩
theorem d_Gr_standsFor_4 : decode m_Gr_standsFor.2.1 4 = .ok (.iload_n 3, 1) ∧ 4 + 1 = 5 := ⟨by decide +kernel, rfl⟩
theorem d_Gr_standsFor_5 : decode m_Gr_standsFor.2.1 5 = .ok (.sipush 225, 3) ∧ 5 + 3 = 8 ∧ (Int16.ofInt 225).toInt32 = Int32.ofInt 225 := ⟨by decide +kernel, rfl, by decide +kernel⟩
theorem d_Gr_standsFor_8 : decode m_Gr_standsFor.2.1 8 = .ok (.if_icmp .ge 26, 3) ∧ 8 + 3 = 11 ∧ (((8 : Nat) : Int) + (26) = ((34 : Nat) : Int)) := ⟨by decide +kernel, rfl, by decide⟩
theorem d_Gr_standsFor_11 : decode m_Gr_standsFor.2.1 11 = .ok (.aload_n 0, 1) ∧ 11 + 1 = 12 := ⟨by decide +kernel, rfl⟩
theorem d_Gr_standsFor_12 : decode m_Gr_standsFor.2.1 12 = .ok (.getfield 9, 3) ∧ 12 + 3 = 15 := ⟨by decide +kernel, rfl⟩
theorem d_Gr_standsFor_15 : decode m_Gr_standsFor.2.1 15 = .ok (.iload_n 2, 1) ∧ 15 + 1 = 16 := ⟨by decide +kernel, rfl⟩
theorem d_Gr_standsFor_16 : decode m_Gr_standsFor.2.1 16 = .ok (.iaload, 1) ∧ 16 + 1 = 17 := ⟨by decide +kernel, rfl⟩
theorem d_Gr_standsFor_17 : decode m_Gr_standsFor.2.1 17 = .ok (.iload_n 2, 1) ∧ 17 + 1 = 18 := ⟨by decide +kernel, rfl⟩
theorem d_Gr_standsFor_18 : decode m_Gr_standsFor.2.1 18 = .ok (.if_icmp .eq 16, 3) ∧ 18 + 3 = 21 ∧ (((18 : Nat) : Int) + (16) = ((34 : Nat) : Int)) := ⟨by decide +kernel, rfl, by decide⟩
theorem d_Gr_standsFor_21 : decode m_Gr_standsFor.2.1 21 = .ok (.aload_n 0, 1) ∧ 21 + 1 = 22 := ⟨by decide +kernel, rfl⟩
theorem d_Gr_standsFor_22 : decode m_Gr_standsFor.2.1 22 = .ok (.getfield 9, 3) ∧ 22 + 3 = 25 := ⟨by decide +kernel, rfl⟩
theorem d_Gr_standsFor_25 : decode m_Gr_standsFor.2.1 25 = .ok (.iload_n 2, 1) ∧ 25 + 1 = 26 := ⟨by decide +kernel, rfl⟩
theorem d_Gr_standsFor_26 : decode m_Gr_standsFor.2.1 26 = .ok (.iaload, 1) ∧ 26 + 1 = 27 := ⟨by decide +kernel, rfl⟩
theorem d_Gr_standsFor_27 : decode m_Gr_standsFor.2.1 27 = .ok (.istore_n 2, 1) ∧ 27 + 1 = 28 := ⟨by decide +kernel, rfl⟩
theorem d_Gr_standsFor_28 : decode m_Gr_standsFor.2.1 28 = .ok (.iinc 3 1, 3) ∧ 28 + 3 = 31 := ⟨by decide +kernel, rfl⟩
theorem d_Gr_standsFor_31 : decode m_Gr_standsFor.2.1 31 = .ok (.goto (-27), 3) ∧ (((31 : Nat) : Int) + (-27) = ((4 : Nat) : Int)) := ⟨by decide +kernel, by decide⟩
theorem d_Gr_standsFor_34 : decode m_Gr_standsFor.2.1 34 = .ok (.aload_n 0, 1) ∧ 34 + 1 = 35 := ⟨by decide +kernel, rfl⟩
theorem d_Gr_standsFor_35 : decode m_Gr_standsFor.2.1 35 = .ok (.getfield 9, 3) ∧ 35 + 3 = 38 := ⟨by decide +kernel, rfl⟩
theorem d_Gr_standsFor_38 : decode m_Gr_standsFor.2.1 38 = .ok (.iload_n 1, 1) ∧ 38 + 1 = 39 := ⟨by decide +kernel, rfl⟩
theorem d_Gr_standsFor_39 : decode m_Gr_standsFor.2.1 39 = .ok (.iload_n 2, 1) ∧ 39 + 1 = 40 := ⟨by decide +kernel, rfl⟩
theorem d_Gr_standsFor_40 : decode m_Gr_standsFor.2.1 40 = .ok (.iastore, 1) ∧ 40 + 1 = 41 := ⟨by decide +kernel, rfl⟩
theorem d_Gr_standsFor_41 : decode m_Gr_standsFor.2.1 41 = .ok (.iload_n 2, 1) ∧ 41 + 1 = 42 := ⟨by decide +kernel, rfl⟩
theorem d_Gr_standsFor_42 : decode m_Gr_standsFor.2.1 42 = .ok (.ireturn, 1) := by decide +kernel
theorem d_Pa_init_0 : decode m_Pa_init.2.1 0 = .ok (.aload_n 0, 1) ∧ 0 + 1 = 1 := ⟨by decide +kernel, rfl⟩
theorem d_Pa_init_1 : decode m_Pa_init.2.1 1 = .ok (.invokespecial 5, 3) ∧ 1 + 3 = 4 := ⟨by decide +kernel, rfl⟩
theorem d_Pa_init_4 : decode m_Pa_init.2.1 4 = .ok (.aload_n 0, 1) ∧ 4 + 1 = 5 := ⟨by decide +kernel, rfl⟩
theorem d_Pa_init_5 : decode m_Pa_init.2.1 5 = .ok (.bipush 24, 2) ∧ 5 + 2 = 7 ∧ (Int8.ofInt 24).toInt32 = Int32.ofInt 24 := ⟨by decide +kernel, rfl, by decide +kernel⟩
theorem d_Pa_init_7 : decode m_Pa_init.2.1 7 = .ok (.newarray .int, 2) ∧ 7 + 2 = 9 := ⟨by decide +kernel, rfl⟩
theorem d_Pa_init_9 : decode m_Pa_init.2.1 9 = .ok (.putfield 11, 3) ∧ 9 + 3 = 12 := ⟨by decide +kernel, rfl⟩
theorem d_Pa_init_12 : decode m_Pa_init.2.1 12 = .ok (.aload_n 0, 1) ∧ 12 + 1 = 13 := ⟨by decide +kernel, rfl⟩
theorem d_Pa_init_13 : decode m_Pa_init.2.1 13 = .ok (.iconst 0, 1) ∧ 13 + 1 = 14 := ⟨by decide +kernel, rfl⟩
theorem d_Pa_init_14 : decode m_Pa_init.2.1 14 = .ok (.putfield 15, 3) ∧ 14 + 3 = 17 := ⟨by decide +kernel, rfl⟩
theorem d_Pa_init_17 : decode m_Pa_init.2.1 17 = .ok (.return_, 1) := by decide +kernel
theorem d_Pa_append_0 : decode m_Pa_append.2.1 0 = .ok (.aload_n 0, 1) ∧ 0 + 1 = 1 := ⟨by decide +kernel, rfl⟩
theorem d_Pa_append_1 : decode m_Pa_append.2.1 1 = .ok (.getfield 15, 3) ∧ 1 + 3 = 4 := ⟨by decide +kernel, rfl⟩
theorem d_Pa_append_4 : decode m_Pa_append.2.1 4 = .ok (.bipush 24, 2) ∧ 4 + 2 = 6 ∧ (Int8.ofInt 24).toInt32 = Int32.ofInt 24 := ⟨by decide +kernel, rfl, by decide +kernel⟩
theorem d_Pa_append_6 : decode m_Pa_append.2.1 6 = .ok (.if_icmp .lt 5, 3) ∧ 6 + 3 = 9 ∧ (((6 : Nat) : Int) + (5) = ((11 : Nat) : Int)) := ⟨by decide +kernel, rfl, by decide⟩
theorem d_Pa_append_9 : decode m_Pa_append.2.1 9 = .ok (.iconst 0, 1) ∧ 9 + 1 = 10 := ⟨by decide +kernel, rfl⟩
theorem d_Pa_append_10 : decode m_Pa_append.2.1 10 = .ok (.ireturn, 1) := by decide +kernel
theorem d_Pa_append_11 : decode m_Pa_append.2.1 11 = .ok (.aload_n 0, 1) ∧ 11 + 1 = 12 := ⟨by decide +kernel, rfl⟩
theorem d_Pa_append_12 : decode m_Pa_append.2.1 12 = .ok (.getfield 11, 3) ∧ 12 + 3 = 15 := ⟨by decide +kernel, rfl⟩
theorem d_Pa_append_15 : decode m_Pa_append.2.1 15 = .ok (.aload_n 0, 1) ∧ 15 + 1 = 16 := ⟨by decide +kernel, rfl⟩
theorem d_Pa_append_16 : decode m_Pa_append.2.1 16 = .ok (.getfield 15, 3) ∧ 16 + 3 = 19 := ⟨by decide +kernel, rfl⟩
theorem d_Pa_append_19 : decode m_Pa_append.2.1 19 = .ok (.iload_n 1, 1) ∧ 19 + 1 = 20 := ⟨by decide +kernel, rfl⟩
theorem d_Pa_append_20 : decode m_Pa_append.2.1 20 = .ok (.iastore, 1) ∧ 20 + 1 = 21 := ⟨by decide +kernel, rfl⟩
theorem d_Pa_append_21 : decode m_Pa_append.2.1 21 = .ok (.aload_n 0, 1) ∧ 21 + 1 = 22 := ⟨by decide +kernel, rfl⟩
theorem d_Pa_append_22 : decode m_Pa_append.2.1 22 = .ok (.dup, 1) ∧ 22 + 1 = 23 := ⟨by decide +kernel, rfl⟩
theorem d_Pa_append_23 : decode m_Pa_append.2.1 23 = .ok (.getfield 15, 3) ∧ 23 + 3 = 26 := ⟨by decide +kernel, rfl⟩
theorem d_Pa_append_26 : decode m_Pa_append.2.1 26 = .ok (.iconst 1, 1) ∧ 26 + 1 = 27 := ⟨by decide +kernel, rfl⟩
theorem d_Pa_append_27 : decode m_Pa_append.2.1 27 = .ok (.iadd, 1) ∧ 27 + 1 = 28 := ⟨by decide +kernel, rfl⟩
theorem d_Pa_append_28 : decode m_Pa_append.2.1 28 = .ok (.putfield 15, 3) ∧ 28 + 3 = 31 := ⟨by decide +kernel, rfl⟩
theorem d_Pa_append_31 : decode m_Pa_append.2.1 31 = .ok (.iconst 1, 1) ∧ 31 + 1 = 32 := ⟨by decide +kernel, rfl⟩
theorem d_Pa_append_32 : decode m_Pa_append.2.1 32 = .ok (.ireturn, 1) := by decide +kernel
theorem d_Pa_firstFault_0 : decode m_Pa_firstFault.2.1 0 = .ok (.iconst 0, 1) ∧ 0 + 1 = 1 := ⟨by decide +kernel, rfl⟩
theorem d_Pa_firstFault_1 : decode m_Pa_firstFault.2.1 1 = .ok (.istore_n 1, 1) ∧ 1 + 1 = 2 := ⟨by decide +kernel, rfl⟩
theorem d_Pa_firstFault_2 : decode m_Pa_firstFault.2.1 2 = .ok (.iload_n 1, 1) ∧ 2 + 1 = 3 := ⟨by decide +kernel, rfl⟩
theorem d_Pa_firstFault_3 : decode m_Pa_firstFault.2.1 3 = .ok (.aload_n 0, 1) ∧ 3 + 1 = 4 := ⟨by decide +kernel, rfl⟩
theorem d_Pa_firstFault_4 : decode m_Pa_firstFault.2.1 4 = .ok (.getfield 15, 3) ∧ 4 + 3 = 7 := ⟨by decide +kernel, rfl⟩
theorem d_Pa_firstFault_7 : decode m_Pa_firstFault.2.1 7 = .ok (.if_icmp .ge 19, 3) ∧ 7 + 3 = 10 ∧ (((7 : Nat) : Int) + (19) = ((26 : Nat) : Int)) := ⟨by decide +kernel, rfl, by decide⟩
theorem d_Pa_firstFault_10 : decode m_Pa_firstFault.2.1 10 = .ok (.aload_n 0, 1) ∧ 10 + 1 = 11 := ⟨by decide +kernel, rfl⟩
theorem d_Pa_firstFault_11 : decode m_Pa_firstFault.2.1 11 = .ok (.iload_n 1, 1) ∧ 11 + 1 = 12 := ⟨by decide +kernel, rfl⟩
theorem d_Pa_firstFault_12 : decode m_Pa_firstFault.2.1 12 = .ok (.invokevirtual 19, 3) ∧ 12 + 3 = 15 := ⟨by decide +kernel, rfl⟩
theorem d_Pa_firstFault_15 : decode m_Pa_firstFault.2.1 15 = .ok (.ifCond .ne 5, 3) ∧ 15 + 3 = 18 ∧ (((15 : Nat) : Int) + (5) = ((20 : Nat) : Int)) := ⟨by decide +kernel, rfl, by decide⟩
theorem d_Pa_firstFault_18 : decode m_Pa_firstFault.2.1 18 = .ok (.iload_n 1, 1) ∧ 18 + 1 = 19 := ⟨by decide +kernel, rfl⟩
theorem d_Pa_firstFault_19 : decode m_Pa_firstFault.2.1 19 = .ok (.ireturn, 1) := by decide +kernel
theorem d_Pa_firstFault_20 : decode m_Pa_firstFault.2.1 20 = .ok (.iinc 1 1, 3) ∧ 20 + 3 = 23 := ⟨by decide +kernel, rfl⟩
theorem d_Pa_firstFault_23 : decode m_Pa_firstFault.2.1 23 = .ok (.goto (-21), 3) ∧ (((23 : Nat) : Int) + (-21) = ((2 : Nat) : Int)) := ⟨by decide +kernel, by decide⟩
theorem d_Pa_firstFault_26 : decode m_Pa_firstFault.2.1 26 = .ok (.aload_n 0, 1) ∧ 26 + 1 = 27 := ⟨by decide +kernel, rfl⟩
theorem d_Pa_firstFault_27 : decode m_Pa_firstFault.2.1 27 = .ok (.getfield 15, 3) ∧ 27 + 3 = 30 := ⟨by decide +kernel, rfl⟩
theorem d_Pa_firstFault_30 : decode m_Pa_firstFault.2.1 30 = .ok (.ireturn, 1) := by decide +kernel
theorem d_Pa_isPlane_0 : decode m_Pa_isPlane.2.1 0 = .ok (.aload_n 0, 1) ∧ 0 + 1 = 1 := ⟨by decide +kernel, rfl⟩
theorem d_Pa_isPlane_1 : decode m_Pa_isPlane.2.1 1 = .ok (.getfield 15, 3) ∧ 1 + 3 = 4 := ⟨by decide +kernel, rfl⟩
theorem d_Pa_isPlane_4 : decode m_Pa_isPlane.2.1 4 = .ok (.bipush 6, 2) ∧ 4 + 2 = 6 ∧ (Int8.ofInt 6).toInt32 = Int32.ofInt 6 := ⟨by decide +kernel, rfl, by decide +kernel⟩
theorem d_Pa_isPlane_6 : decode m_Pa_isPlane.2.1 6 = .ok (.irem, 1) ∧ 6 + 1 = 7 := ⟨by decide +kernel, rfl⟩
theorem d_Pa_isPlane_7 : decode m_Pa_isPlane.2.1 7 = .ok (.iconst 5, 1) ∧ 7 + 1 = 8 := ⟨by decide +kernel, rfl⟩
theorem d_Pa_isPlane_8 : decode m_Pa_isPlane.2.1 8 = .ok (.if_icmp .ne 18, 3) ∧ 8 + 3 = 11 ∧ (((8 : Nat) : Int) + (18) = ((26 : Nat) : Int)) := ⟨by decide +kernel, rfl, by decide⟩
theorem d_Pa_isPlane_11 : decode m_Pa_isPlane.2.1 11 = .ok (.aload_n 0, 1) ∧ 11 + 1 = 12 := ⟨by decide +kernel, rfl⟩
theorem d_Pa_isPlane_12 : decode m_Pa_isPlane.2.1 12 = .ok (.invokevirtual 23, 3) ∧ 12 + 3 = 15 := ⟨by decide +kernel, rfl⟩
theorem d_Pa_isPlane_15 : decode m_Pa_isPlane.2.1 15 = .ok (.aload_n 0, 1) ∧ 15 + 1 = 16 := ⟨by decide +kernel, rfl⟩
theorem d_Pa_isPlane_16 : decode m_Pa_isPlane.2.1 16 = .ok (.getfield 15, 3) ∧ 16 + 3 = 19 := ⟨by decide +kernel, rfl⟩
theorem d_Pa_isPlane_19 : decode m_Pa_isPlane.2.1 19 = .ok (.if_icmp .ne 7, 3) ∧ 19 + 3 = 22 ∧ (((19 : Nat) : Int) + (7) = ((26 : Nat) : Int)) := ⟨by decide +kernel, rfl, by decide⟩
theorem d_Pa_isPlane_22 : decode m_Pa_isPlane.2.1 22 = .ok (.iconst 1, 1) ∧ 22 + 1 = 23 := ⟨by decide +kernel, rfl⟩
theorem d_Pa_isPlane_23 : decode m_Pa_isPlane.2.1 23 = .ok (.goto 4, 3) ∧ (((23 : Nat) : Int) + (4) = ((27 : Nat) : Int)) := ⟨by decide +kernel, by decide⟩
theorem d_Pa_isPlane_26 : decode m_Pa_isPlane.2.1 26 = .ok (.iconst 0, 1) ∧ 26 + 1 = 27 := ⟨by decide +kernel, rfl⟩
theorem d_Pa_isPlane_27 : decode m_Pa_isPlane.2.1 27 = .ok (.ireturn, 1) := by decide +kernel
theorem d_Pa_fits_0 : decode m_Pa_fits.2.1 0 = .ok (.aload_n 0, 1) ∧ 0 + 1 = 1 := ⟨by decide +kernel, rfl⟩
theorem d_Pa_fits_1 : decode m_Pa_fits.2.1 1 = .ok (.getfield 11, 3) ∧ 1 + 3 = 4 := ⟨by decide +kernel, rfl⟩
theorem d_Pa_fits_4 : decode m_Pa_fits.2.1 4 = .ok (.iload_n 1, 1) ∧ 4 + 1 = 5 := ⟨by decide +kernel, rfl⟩
theorem d_Pa_fits_5 : decode m_Pa_fits.2.1 5 = .ok (.iaload, 1) ∧ 5 + 1 = 6 := ⟨by decide +kernel, rfl⟩
theorem d_Pa_fits_6 : decode m_Pa_fits.2.1 6 = .ok (.istore_n 2, 1) ∧ 6 + 1 = 7 := ⟨by decide +kernel, rfl⟩
theorem d_Pa_fits_7 : decode m_Pa_fits.2.1 7 = .ok (.iload_n 1, 1) ∧ 7 + 1 = 8 := ⟨by decide +kernel, rfl⟩
theorem d_Pa_fits_8 : decode m_Pa_fits.2.1 8 = .ok (.bipush 23, 2) ∧ 8 + 2 = 10 ∧ (Int8.ofInt 23).toInt32 = Int32.ofInt 23 := ⟨by decide +kernel, rfl, by decide +kernel⟩
theorem d_Pa_fits_10 : decode m_Pa_fits.2.1 10 = .ok (.if_icmp .lt 5, 3) ∧ 10 + 3 = 13 ∧ (((10 : Nat) : Int) + (5) = ((15 : Nat) : Int)) := ⟨by decide +kernel, rfl, by decide⟩
theorem d_Pa_fits_13 : decode m_Pa_fits.2.1 13 = .ok (.iconst 0, 1) ∧ 13 + 1 = 14 := ⟨by decide +kernel, rfl⟩
theorem d_Pa_fits_14 : decode m_Pa_fits.2.1 14 = .ok (.ireturn, 1) := by decide +kernel
theorem d_Pa_fits_15 : decode m_Pa_fits.2.1 15 = .ok (.iload_n 1, 1) ∧ 15 + 1 = 16 := ⟨by decide +kernel, rfl⟩
theorem d_Pa_fits_16 : decode m_Pa_fits.2.1 16 = .ok (.bipush 6, 2) ∧ 16 + 2 = 18 ∧ (Int8.ofInt 6).toInt32 = Int32.ofInt 6 := ⟨by decide +kernel, rfl, by decide +kernel⟩
theorem d_Pa_fits_18 : decode m_Pa_fits.2.1 18 = .ok (.irem, 1) ∧ 18 + 1 = 19 := ⟨by decide +kernel, rfl⟩
theorem d_Pa_fits_19 : decode m_Pa_fits.2.1 19 = .ok (.tableswitch 84 0 4 #[33, 48, 66, 48, 66], 33) := by decide +kernel
theorem d_Pa_fits_52 : decode m_Pa_fits.2.1 52 = .ok (.aload_n 0, 1) ∧ 52 + 1 = 53 := ⟨by decide +kernel, rfl⟩
theorem d_Pa_fits_53 : decode m_Pa_fits.2.1 53 = .ok (.iload_n 1, 1) ∧ 53 + 1 = 54 := ⟨by decide +kernel, rfl⟩
theorem d_Pa_fits_54 : decode m_Pa_fits.2.1 54 = .ok (.invokevirtual 27, 3) ∧ 54 + 3 = 57 := ⟨by decide +kernel, rfl⟩
theorem d_Pa_fits_57 : decode m_Pa_fits.2.1 57 = .ok (.iconst (-1), 1) ∧ 57 + 1 = 58 := ⟨by decide +kernel, rfl⟩
theorem d_Pa_fits_58 : decode m_Pa_fits.2.1 58 = .ok (.if_icmp .eq 7, 3) ∧ 58 + 3 = 61 ∧ (((58 : Nat) : Int) + (7) = ((65 : Nat) : Int)) := ⟨by decide +kernel, rfl, by decide⟩
theorem d_Pa_fits_61 : decode m_Pa_fits.2.1 61 = .ok (.iconst 1, 1) ∧ 61 + 1 = 62 := ⟨by decide +kernel, rfl⟩
theorem d_Pa_fits_62 : decode m_Pa_fits.2.1 62 = .ok (.goto 4, 3) ∧ (((62 : Nat) : Int) + (4) = ((66 : Nat) : Int)) := ⟨by decide +kernel, by decide⟩
theorem d_Pa_fits_65 : decode m_Pa_fits.2.1 65 = .ok (.iconst 0, 1) ∧ 65 + 1 = 66 := ⟨by decide +kernel, rfl⟩
theorem d_Pa_fits_66 : decode m_Pa_fits.2.1 66 = .ok (.ireturn, 1) := by decide +kernel
theorem d_Pa_fits_67 : decode m_Pa_fits.2.1 67 = .ok (.iload_n 2, 1) ∧ 67 + 1 = 68 := ⟨by decide +kernel, rfl⟩
theorem d_Pa_fits_68 : decode m_Pa_fits.2.1 68 = .ok (.bipush 43, 2) ∧ 68 + 2 = 70 ∧ (Int8.ofInt 43).toInt32 = Int32.ofInt 43 := ⟨by decide +kernel, rfl, by decide +kernel⟩
theorem d_Pa_fits_70 : decode m_Pa_fits.2.1 70 = .ok (.if_icmp .eq 9, 3) ∧ 70 + 3 = 73 ∧ (((70 : Nat) : Int) + (9) = ((79 : Nat) : Int)) := ⟨by decide +kernel, rfl, by decide⟩
theorem d_Pa_fits_73 : decode m_Pa_fits.2.1 73 = .ok (.iload_n 2, 1) ∧ 73 + 1 = 74 := ⟨by decide +kernel, rfl⟩
theorem d_Pa_fits_74 : decode m_Pa_fits.2.1 74 = .ok (.bipush 45, 2) ∧ 74 + 2 = 76 ∧ (Int8.ofInt 45).toInt32 = Int32.ofInt 45 := ⟨by decide +kernel, rfl, by decide +kernel⟩
theorem d_Pa_fits_76 : decode m_Pa_fits.2.1 76 = .ok (.if_icmp .ne 7, 3) ∧ 76 + 3 = 79 ∧ (((76 : Nat) : Int) + (7) = ((83 : Nat) : Int)) := ⟨by decide +kernel, rfl, by decide⟩
theorem d_Pa_fits_79 : decode m_Pa_fits.2.1 79 = .ok (.iconst 1, 1) ∧ 79 + 1 = 80 := ⟨by decide +kernel, rfl⟩
theorem d_Pa_fits_80 : decode m_Pa_fits.2.1 80 = .ok (.goto 4, 3) ∧ (((80 : Nat) : Int) + (4) = ((84 : Nat) : Int)) := ⟨by decide +kernel, by decide⟩
theorem d_Pa_fits_83 : decode m_Pa_fits.2.1 83 = .ok (.iconst 0, 1) ∧ 83 + 1 = 84 := ⟨by decide +kernel, rfl⟩
theorem d_Pa_fits_84 : decode m_Pa_fits.2.1 84 = .ok (.ireturn, 1) := by decide +kernel
theorem d_Pa_fits_85 : decode m_Pa_fits.2.1 85 = .ok (.iload_n 2, 1) ∧ 85 + 1 = 86 := ⟨by decide +kernel, rfl⟩
theorem d_Pa_fits_86 : decode m_Pa_fits.2.1 86 = .ok (.bipush 48, 2) ∧ 86 + 2 = 88 ∧ (Int8.ofInt 48).toInt32 = Int32.ofInt 48 := ⟨by decide +kernel, rfl, by decide +kernel⟩
theorem d_Pa_fits_88 : decode m_Pa_fits.2.1 88 = .ok (.if_icmp .lt 13, 3) ∧ 88 + 3 = 91 ∧ (((88 : Nat) : Int) + (13) = ((101 : Nat) : Int)) := ⟨by decide +kernel, rfl, by decide⟩
theorem d_Pa_fits_91 : decode m_Pa_fits.2.1 91 = .ok (.iload_n 2, 1) ∧ 91 + 1 = 92 := ⟨by decide +kernel, rfl⟩
theorem d_Pa_fits_92 : decode m_Pa_fits.2.1 92 = .ok (.bipush 57, 2) ∧ 92 + 2 = 94 ∧ (Int8.ofInt 57).toInt32 = Int32.ofInt 57 := ⟨by decide +kernel, rfl, by decide +kernel⟩
theorem d_Pa_fits_94 : decode m_Pa_fits.2.1 94 = .ok (.if_icmp .gt 7, 3) ∧ 94 + 3 = 97 ∧ (((94 : Nat) : Int) + (7) = ((101 : Nat) : Int)) := ⟨by decide +kernel, rfl, by decide⟩
theorem d_Pa_fits_97 : decode m_Pa_fits.2.1 97 = .ok (.iconst 1, 1) ∧ 97 + 1 = 98 := ⟨by decide +kernel, rfl⟩
theorem d_Pa_fits_98 : decode m_Pa_fits.2.1 98 = .ok (.goto 4, 3) ∧ (((98 : Nat) : Int) + (4) = ((102 : Nat) : Int)) := ⟨by decide +kernel, by decide⟩
theorem d_Pa_fits_101 : decode m_Pa_fits.2.1 101 = .ok (.iconst 0, 1) ∧ 101 + 1 = 102 := ⟨by decide +kernel, rfl⟩
theorem d_Pa_fits_102 : decode m_Pa_fits.2.1 102 = .ok (.ireturn, 1) := by decide +kernel
theorem d_Pa_fits_103 : decode m_Pa_fits.2.1 103 = .ok (.iload_n 2, 1) ∧ 103 + 1 = 104 := ⟨by decide +kernel, rfl⟩
theorem d_Pa_fits_104 : decode m_Pa_fits.2.1 104 = .ok (.bipush 44, 2) ∧ 104 + 2 = 106 ∧ (Int8.ofInt 44).toInt32 = Int32.ofInt 44 := ⟨by decide +kernel, rfl, by decide +kernel⟩
theorem d_Pa_fits_106 : decode m_Pa_fits.2.1 106 = .ok (.if_icmp .ne 7, 3) ∧ 106 + 3 = 109 ∧ (((106 : Nat) : Int) + (7) = ((113 : Nat) : Int)) := ⟨by decide +kernel, rfl, by decide⟩
theorem d_Pa_fits_109 : decode m_Pa_fits.2.1 109 = .ok (.iconst 1, 1) ∧ 109 + 1 = 110 := ⟨by decide +kernel, rfl⟩
theorem d_Pa_fits_110 : decode m_Pa_fits.2.1 110 = .ok (.goto 4, 3) ∧ (((110 : Nat) : Int) + (4) = ((114 : Nat) : Int)) := ⟨by decide +kernel, by decide⟩
theorem d_Pa_fits_113 : decode m_Pa_fits.2.1 113 = .ok (.iconst 0, 1) ∧ 113 + 1 = 114 := ⟨by decide +kernel, rfl⟩
theorem d_Pa_fits_114 : decode m_Pa_fits.2.1 114 = .ok (.ireturn, 1) := by decide +kernel
theorem d_Pa_kindAt_0 : decode m_Pa_kindAt.2.1 0 = .ok (.aload_n 0, 1) ∧ 0 + 1 = 1 := ⟨by decide +kernel, rfl⟩
theorem d_Pa_kindAt_1 : decode m_Pa_kindAt.2.1 1 = .ok (.getfield 11, 3) ∧ 1 + 3 = 4 := ⟨by decide +kernel, rfl⟩
theorem d_Pa_kindAt_4 : decode m_Pa_kindAt.2.1 4 = .ok (.iload_n 1, 1) ∧ 4 + 1 = 5 := ⟨by decide +kernel, rfl⟩
theorem d_Pa_kindAt_5 : decode m_Pa_kindAt.2.1 5 = .ok (.iaload, 1) ∧ 5 + 1 = 6 := ⟨by decide +kernel, rfl⟩
theorem d_Pa_kindAt_6 : decode m_Pa_kindAt.2.1 6 = .ok (.lookupswitch 60 #[(102, 58), (104, 54), (108, 52), (112, 50), (117, 56)], 50) := by decide +kernel
theorem d_Pa_kindAt_56 : decode m_Pa_kindAt.2.1 56 = .ok (.iconst 0, 1) ∧ 56 + 1 = 57 := ⟨by decide +kernel, rfl⟩
theorem d_Pa_kindAt_57 : decode m_Pa_kindAt.2.1 57 = .ok (.ireturn, 1) := by decide +kernel
theorem d_Pa_kindAt_58 : decode m_Pa_kindAt.2.1 58 = .ok (.iconst 1, 1) ∧ 58 + 1 = 59 := ⟨by decide +kernel, rfl⟩
theorem d_Pa_kindAt_59 : decode m_Pa_kindAt.2.1 59 = .ok (.ireturn, 1) := by decide +kernel
theorem d_Pa_kindAt_60 : decode m_Pa_kindAt.2.1 60 = .ok (.iconst 2, 1) ∧ 60 + 1 = 61 := ⟨by decide +kernel, rfl⟩
theorem d_Pa_kindAt_61 : decode m_Pa_kindAt.2.1 61 = .ok (.ireturn, 1) := by decide +kernel
theorem d_Pa_kindAt_62 : decode m_Pa_kindAt.2.1 62 = .ok (.iconst 3, 1) ∧ 62 + 1 = 63 := ⟨by decide +kernel, rfl⟩
theorem d_Pa_kindAt_63 : decode m_Pa_kindAt.2.1 63 = .ok (.ireturn, 1) := by decide +kernel
theorem d_Pa_kindAt_64 : decode m_Pa_kindAt.2.1 64 = .ok (.iconst 4, 1) ∧ 64 + 1 = 65 := ⟨by decide +kernel, rfl⟩
theorem d_Pa_kindAt_65 : decode m_Pa_kindAt.2.1 65 = .ok (.ireturn, 1) := by decide +kernel
theorem d_Pa_kindAt_66 : decode m_Pa_kindAt.2.1 66 = .ok (.iconst (-1), 1) ∧ 66 + 1 = 67 := ⟨by decide +kernel, rfl⟩
theorem d_Pa_kindAt_67 : decode m_Pa_kindAt.2.1 67 = .ok (.ireturn, 1) := by decide +kernel
theorem d_Pa_numberAt_0 : decode m_Pa_numberAt.2.1 0 = .ok (.aload_n 0, 1) ∧ 0 + 1 = 1 := ⟨by decide +kernel, rfl⟩
theorem d_Pa_numberAt_1 : decode m_Pa_numberAt.2.1 1 = .ok (.getfield 11, 3) ∧ 1 + 3 = 4 := ⟨by decide +kernel, rfl⟩
theorem d_Pa_numberAt_4 : decode m_Pa_numberAt.2.1 4 = .ok (.iload_n 1, 1) ∧ 4 + 1 = 5 := ⟨by decide +kernel, rfl⟩
theorem d_Pa_numberAt_5 : decode m_Pa_numberAt.2.1 5 = .ok (.iconst 1, 1) ∧ 5 + 1 = 6 := ⟨by decide +kernel, rfl⟩
theorem d_Pa_numberAt_6 : decode m_Pa_numberAt.2.1 6 = .ok (.iadd, 1) ∧ 6 + 1 = 7 := ⟨by decide +kernel, rfl⟩
theorem d_Pa_numberAt_7 : decode m_Pa_numberAt.2.1 7 = .ok (.iaload, 1) ∧ 7 + 1 = 8 := ⟨by decide +kernel, rfl⟩
theorem d_Pa_numberAt_8 : decode m_Pa_numberAt.2.1 8 = .ok (.bipush 48, 2) ∧ 8 + 2 = 10 ∧ (Int8.ofInt 48).toInt32 = Int32.ofInt 48 := ⟨by decide +kernel, rfl, by decide +kernel⟩
theorem d_Pa_numberAt_10 : decode m_Pa_numberAt.2.1 10 = .ok (.isub, 1) ∧ 10 + 1 = 11 := ⟨by decide +kernel, rfl⟩
theorem d_Pa_numberAt_11 : decode m_Pa_numberAt.2.1 11 = .ok (.istore_n 2, 1) ∧ 11 + 1 = 12 := ⟨by decide +kernel, rfl⟩
theorem d_Pa_numberAt_12 : decode m_Pa_numberAt.2.1 12 = .ok (.aload_n 0, 1) ∧ 12 + 1 = 13 := ⟨by decide +kernel, rfl⟩
theorem d_Pa_numberAt_13 : decode m_Pa_numberAt.2.1 13 = .ok (.getfield 11, 3) ∧ 13 + 3 = 16 := ⟨by decide +kernel, rfl⟩
theorem d_Pa_numberAt_16 : decode m_Pa_numberAt.2.1 16 = .ok (.iload_n 1, 1) ∧ 16 + 1 = 17 := ⟨by decide +kernel, rfl⟩
theorem d_Pa_numberAt_17 : decode m_Pa_numberAt.2.1 17 = .ok (.iaload, 1) ∧ 17 + 1 = 18 := ⟨by decide +kernel, rfl⟩
theorem d_Pa_numberAt_18 : decode m_Pa_numberAt.2.1 18 = .ok (.bipush 45, 2) ∧ 18 + 2 = 20 ∧ (Int8.ofInt 45).toInt32 = Int32.ofInt 45 := ⟨by decide +kernel, rfl, by decide +kernel⟩
theorem d_Pa_numberAt_20 : decode m_Pa_numberAt.2.1 20 = .ok (.if_icmp .ne 8, 3) ∧ 20 + 3 = 23 ∧ (((20 : Nat) : Int) + (8) = ((28 : Nat) : Int)) := ⟨by decide +kernel, rfl, by decide⟩
theorem d_Pa_numberAt_23 : decode m_Pa_numberAt.2.1 23 = .ok (.iload_n 2, 1) ∧ 23 + 1 = 24 := ⟨by decide +kernel, rfl⟩
theorem d_Pa_numberAt_24 : decode m_Pa_numberAt.2.1 24 = .ok (.ineg, 1) ∧ 24 + 1 = 25 := ⟨by decide +kernel, rfl⟩
theorem d_Pa_numberAt_25 : decode m_Pa_numberAt.2.1 25 = .ok (.goto 4, 3) ∧ (((25 : Nat) : Int) + (4) = ((29 : Nat) : Int)) := ⟨by decide +kernel, by decide⟩
theorem d_Pa_numberAt_28 : decode m_Pa_numberAt.2.1 28 = .ok (.iload_n 2, 1) ∧ 28 + 1 = 29 := ⟨by decide +kernel, rfl⟩
theorem d_Pa_numberAt_29 : decode m_Pa_numberAt.2.1 29 = .ok (.ireturn, 1) := by decide +kernel
theorem d_Ri_init_0 : decode m_Ri_init.2.1 0 = .ok (.aload_n 0, 1) ∧ 0 + 1 = 1 := ⟨by decide +kernel, rfl⟩
theorem d_Ri_init_1 : decode m_Ri_init.2.1 1 = .ok (.invokespecial 3, 3) ∧ 1 + 3 = 4 := ⟨by decide +kernel, rfl⟩
theorem d_Ri_init_4 : decode m_Ri_init.2.1 4 = .ok (.aload_n 0, 1) ∧ 4 + 1 = 5 := ⟨by decide +kernel, rfl⟩
theorem d_Ri_init_5 : decode m_Ri_init.2.1 5 = .ok (.bipush 8, 2) ∧ 5 + 2 = 7 ∧ (Int8.ofInt 8).toInt32 = Int32.ofInt 8 := ⟨by decide +kernel, rfl, by decide +kernel⟩
theorem d_Ri_init_7 : decode m_Ri_init.2.1 7 = .ok (.newarray .int, 2) ∧ 7 + 2 = 9 := ⟨by decide +kernel, rfl⟩
theorem d_Ri_init_9 : decode m_Ri_init.2.1 9 = .ok (.putfield 9, 3) ∧ 9 + 3 = 12 := ⟨by decide +kernel, rfl⟩
theorem d_Ri_init_12 : decode m_Ri_init.2.1 12 = .ok (.aload_n 0, 1) ∧ 12 + 1 = 13 := ⟨by decide +kernel, rfl⟩
theorem d_Ri_init_13 : decode m_Ri_init.2.1 13 = .ok (.iconst 0, 1) ∧ 13 + 1 = 14 := ⟨by decide +kernel, rfl⟩
theorem d_Ri_init_14 : decode m_Ri_init.2.1 14 = .ok (.putfield 15, 3) ∧ 14 + 3 = 17 := ⟨by decide +kernel, rfl⟩
theorem d_Ri_init_17 : decode m_Ri_init.2.1 17 = .ok (.aload_n 0, 1) ∧ 17 + 1 = 18 := ⟨by decide +kernel, rfl⟩
theorem d_Ri_init_18 : decode m_Ri_init.2.1 18 = .ok (.iconst 0, 1) ∧ 18 + 1 = 19 := ⟨by decide +kernel, rfl⟩
theorem d_Ri_init_19 : decode m_Ri_init.2.1 19 = .ok (.putfield 19, 3) ∧ 19 + 3 = 22 := ⟨by decide +kernel, rfl⟩
theorem d_Ri_init_22 : decode m_Ri_init.2.1 22 = .ok (.return_, 1) := by decide +kernel
theorem d_Ri_append_0 : decode m_Ri_append.2.1 0 = .ok (.aload_n 0, 1) ∧ 0 + 1 = 1 := ⟨by decide +kernel, rfl⟩
theorem d_Ri_append_1 : decode m_Ri_append.2.1 1 = .ok (.getfield 9, 3) ∧ 1 + 3 = 4 := ⟨by decide +kernel, rfl⟩
theorem d_Ri_append_4 : decode m_Ri_append.2.1 4 = .ok (.aload_n 0, 1) ∧ 4 + 1 = 5 := ⟨by decide +kernel, rfl⟩
theorem d_Ri_append_5 : decode m_Ri_append.2.1 5 = .ok (.getfield 15, 3) ∧ 5 + 3 = 8 := ⟨by decide +kernel, rfl⟩
theorem d_Ri_append_8 : decode m_Ri_append.2.1 8 = .ok (.iload_n 1, 1) ∧ 8 + 1 = 9 := ⟨by decide +kernel, rfl⟩
theorem d_Ri_append_9 : decode m_Ri_append.2.1 9 = .ok (.iastore, 1) ∧ 9 + 1 = 10 := ⟨by decide +kernel, rfl⟩
theorem d_Ri_append_10 : decode m_Ri_append.2.1 10 = .ok (.aload_n 0, 1) ∧ 10 + 1 = 11 := ⟨by decide +kernel, rfl⟩
theorem d_Ri_append_11 : decode m_Ri_append.2.1 11 = .ok (.aload_n 0, 1) ∧ 11 + 1 = 12 := ⟨by decide +kernel, rfl⟩
theorem d_Ri_append_12 : decode m_Ri_append.2.1 12 = .ok (.getfield 15, 3) ∧ 12 + 3 = 15 := ⟨by decide +kernel, rfl⟩
theorem d_Ri_append_15 : decode m_Ri_append.2.1 15 = .ok (.iconst 1, 1) ∧ 15 + 1 = 16 := ⟨by decide +kernel, rfl⟩
theorem d_Ri_append_16 : decode m_Ri_append.2.1 16 = .ok (.iadd, 1) ∧ 16 + 1 = 17 := ⟨by decide +kernel, rfl⟩
theorem d_Ri_append_17 : decode m_Ri_append.2.1 17 = .ok (.bipush 8, 2) ∧ 17 + 2 = 19 ∧ (Int8.ofInt 8).toInt32 = Int32.ofInt 8 := ⟨by decide +kernel, rfl, by decide +kernel⟩
theorem d_Ri_append_19 : decode m_Ri_append.2.1 19 = .ok (.irem, 1) ∧ 19 + 1 = 20 := ⟨by decide +kernel, rfl⟩
theorem d_Ri_append_20 : decode m_Ri_append.2.1 20 = .ok (.putfield 15, 3) ∧ 20 + 3 = 23 := ⟨by decide +kernel, rfl⟩
theorem d_Ri_append_23 : decode m_Ri_append.2.1 23 = .ok (.aload_n 0, 1) ∧ 23 + 1 = 24 := ⟨by decide +kernel, rfl⟩
theorem d_Ri_append_24 : decode m_Ri_append.2.1 24 = .ok (.aload_n 0, 1) ∧ 24 + 1 = 25 := ⟨by decide +kernel, rfl⟩
theorem d_Ri_append_25 : decode m_Ri_append.2.1 25 = .ok (.getfield 19, 3) ∧ 25 + 3 = 28 := ⟨by decide +kernel, rfl⟩
theorem d_Ri_append_28 : decode m_Ri_append.2.1 28 = .ok (.iconst 1, 1) ∧ 28 + 1 = 29 := ⟨by decide +kernel, rfl⟩
theorem d_Ri_append_29 : decode m_Ri_append.2.1 29 = .ok (.iadd, 1) ∧ 29 + 1 = 30 := ⟨by decide +kernel, rfl⟩
theorem d_Ri_append_30 : decode m_Ri_append.2.1 30 = .ok (.bipush 8, 2) ∧ 30 + 2 = 32 ∧ (Int8.ofInt 8).toInt32 = Int32.ofInt 8 := ⟨by decide +kernel, rfl, by decide +kernel⟩
theorem d_Ri_append_32 : decode m_Ri_append.2.1 32 = .ok (.invokestatic 22, 3) ∧ 32 + 3 = 35 := ⟨by decide +kernel, rfl⟩
theorem d_Ri_append_35 : decode m_Ri_append.2.1 35 = .ok (.putfield 19, 3) ∧ 35 + 3 = 38 := ⟨by decide +kernel, rfl⟩
theorem d_Ri_append_38 : decode m_Ri_append.2.1 38 = .ok (.return_, 1) := by decide +kernel
theorem d_Ri_back_0 : decode m_Ri_back.2.1 0 = .ok (.aload_n 0, 1) ∧ 0 + 1 = 1 := ⟨by decide +kernel, rfl⟩
theorem d_Ri_back_1 : decode m_Ri_back.2.1 1 = .ok (.getfield 9, 3) ∧ 1 + 3 = 4 := ⟨by decide +kernel, rfl⟩
theorem d_Ri_back_4 : decode m_Ri_back.2.1 4 = .ok (.aload_n 0, 1) ∧ 4 + 1 = 5 := ⟨by decide +kernel, rfl⟩
theorem d_Ri_back_5 : decode m_Ri_back.2.1 5 = .ok (.getfield 15, 3) ∧ 5 + 3 = 8 := ⟨by decide +kernel, rfl⟩
theorem d_Ri_back_8 : decode m_Ri_back.2.1 8 = .ok (.iconst 1, 1) ∧ 8 + 1 = 9 := ⟨by decide +kernel, rfl⟩
theorem d_Ri_back_9 : decode m_Ri_back.2.1 9 = .ok (.isub, 1) ∧ 9 + 1 = 10 := ⟨by decide +kernel, rfl⟩
theorem d_Ri_back_10 : decode m_Ri_back.2.1 10 = .ok (.iload_n 1, 1) ∧ 10 + 1 = 11 := ⟨by decide +kernel, rfl⟩
theorem d_Ri_back_11 : decode m_Ri_back.2.1 11 = .ok (.isub, 1) ∧ 11 + 1 = 12 := ⟨by decide +kernel, rfl⟩
theorem d_Ri_back_12 : decode m_Ri_back.2.1 12 = .ok (.bipush 8, 2) ∧ 12 + 2 = 14 ∧ (Int8.ofInt 8).toInt32 = Int32.ofInt 8 := ⟨by decide +kernel, rfl, by decide +kernel⟩
theorem d_Ri_back_14 : decode m_Ri_back.2.1 14 = .ok (.invokestatic 28, 3) ∧ 14 + 3 = 17 := ⟨by decide +kernel, rfl⟩
theorem d_Ri_back_17 : decode m_Ri_back.2.1 17 = .ok (.iaload, 1) ∧ 17 + 1 = 18 := ⟨by decide +kernel, rfl⟩
theorem d_Ri_back_18 : decode m_Ri_back.2.1 18 = .ok (.ireturn, 1) := by decide +kernel
theorem d_Ro_init_0 : decode m_Ro_init.2.1 0 = .ok (.aload_n 0, 1) ∧ 0 + 1 = 1 := ⟨by decide +kernel, rfl⟩
theorem d_Ro_init_1 : decode m_Ro_init.2.1 1 = .ok (.invokespecial 1, 3) ∧ 1 + 3 = 4 := ⟨by decide +kernel, rfl⟩
theorem d_Ro_init_4 : decode m_Ro_init.2.1 4 = .ok (.aload_n 0, 1) ∧ 4 + 1 = 5 := ⟨by decide +kernel, rfl⟩
theorem d_Ro_init_5 : decode m_Ro_init.2.1 5 = .ok (.lconst 0, 1) ∧ 5 + 1 = 6 := ⟨by decide +kernel, rfl⟩
theorem d_Ro_init_6 : decode m_Ro_init.2.1 6 = .ok (.putfield 7, 3) ∧ 6 + 3 = 9 := ⟨by decide +kernel, rfl⟩
theorem d_Ro_init_9 : decode m_Ro_init.2.1 9 = .ok (.aload_n 0, 1) ∧ 9 + 1 = 10 := ⟨by decide +kernel, rfl⟩
theorem d_Ro_init_10 : decode m_Ro_init.2.1 10 = .ok (.lconst 0, 1) ∧ 10 + 1 = 11 := ⟨by decide +kernel, rfl⟩
theorem d_Ro_init_11 : decode m_Ro_init.2.1 11 = .ok (.putfield 13, 3) ∧ 11 + 3 = 14 := ⟨by decide +kernel, rfl⟩
theorem d_Ro_init_14 : decode m_Ro_init.2.1 14 = .ok (.aload_n 0, 1) ∧ 14 + 1 = 15 := ⟨by decide +kernel, rfl⟩
theorem d_Ro_init_15 : decode m_Ro_init.2.1 15 = .ok (.lconst 0, 1) ∧ 15 + 1 = 16 := ⟨by decide +kernel, rfl⟩
theorem d_Ro_init_16 : decode m_Ro_init.2.1 16 = .ok (.putfield 16, 3) ∧ 16 + 3 = 19 := ⟨by decide +kernel, rfl⟩
theorem d_Ro_init_19 : decode m_Ro_init.2.1 19 = .ok (.aload_n 0, 1) ∧ 19 + 1 = 20 := ⟨by decide +kernel, rfl⟩
theorem d_Ro_init_20 : decode m_Ro_init.2.1 20 = .ok (.lconst 1, 1) ∧ 20 + 1 = 21 := ⟨by decide +kernel, rfl⟩
theorem d_Ro_init_21 : decode m_Ro_init.2.1 21 = .ok (.putfield 19, 3) ∧ 21 + 3 = 24 := ⟨by decide +kernel, rfl⟩
theorem d_Ro_init_24 : decode m_Ro_init.2.1 24 = .ok (.return_, 1) := by decide +kernel
theorem d_Ro_write_0 : decode m_Ro_write.2.1 0 = .ok (.lload 7, 2) ∧ 0 + 2 = 2 := ⟨by decide +kernel, rfl⟩
theorem d_Ro_write_2 : decode m_Ro_write.2.1 2 = .ok (.lconst 0, 1) ∧ 2 + 1 = 3 := ⟨by decide +kernel, rfl⟩
theorem d_Ro_write_3 : decode m_Ro_write.2.1 3 = .ok (.lcmp, 1) ∧ 3 + 1 = 4 := ⟨by decide +kernel, rfl⟩
theorem d_Ro_write_4 : decode m_Ro_write.2.1 4 = .ok (.ifCond .ge 9, 3) ∧ 4 + 3 = 7 ∧ (((4 : Nat) : Int) + (9) = ((13 : Nat) : Int)) := ⟨by decide +kernel, rfl, by decide⟩
theorem d_Ro_write_7 : decode m_Ro_write.2.1 7 = .ok (.ldc2_w 22, 3) ∧ 7 + 3 = 10 := ⟨by decide +kernel, rfl⟩
theorem d_Ro_write_10 : decode m_Ro_write.2.1 10 = .ok (.goto 4, 3) ∧ (((10 : Nat) : Int) + (4) = ((14 : Nat) : Int)) := ⟨by decide +kernel, by decide⟩
theorem d_Ro_write_13 : decode m_Ro_write.2.1 13 = .ok (.lconst 1, 1) ∧ 13 + 1 = 14 := ⟨by decide +kernel, rfl⟩
theorem d_Ro_write_14 : decode m_Ro_write.2.1 14 = .ok (.lstore 9, 2) ∧ 14 + 2 = 16 := ⟨by decide +kernel, rfl⟩
theorem d_Ro_write_16 : decode m_Ro_write.2.1 16 = .ok (.aload_n 0, 1) ∧ 16 + 1 = 17 := ⟨by decide +kernel, rfl⟩
theorem d_Ro_write_17 : decode m_Ro_write.2.1 17 = .ok (.lload 9, 2) ∧ 17 + 2 = 19 := ⟨by decide +kernel, rfl⟩
theorem d_Ro_write_19 : decode m_Ro_write.2.1 19 = .ok (.lload_n 1, 1) ∧ 19 + 1 = 20 := ⟨by decide +kernel, rfl⟩
theorem d_Ro_write_20 : decode m_Ro_write.2.1 20 = .ok (.lmul, 1) ∧ 20 + 1 = 21 := ⟨by decide +kernel, rfl⟩
theorem d_Ro_write_21 : decode m_Ro_write.2.1 21 = .ok (.putfield 7, 3) ∧ 21 + 3 = 24 := ⟨by decide +kernel, rfl⟩
theorem d_Ro_write_24 : decode m_Ro_write.2.1 24 = .ok (.aload_n 0, 1) ∧ 24 + 1 = 25 := ⟨by decide +kernel, rfl⟩
theorem d_Ro_write_25 : decode m_Ro_write.2.1 25 = .ok (.lload 9, 2) ∧ 25 + 2 = 27 := ⟨by decide +kernel, rfl⟩
theorem d_Ro_write_27 : decode m_Ro_write.2.1 27 = .ok (.lload_n 3, 1) ∧ 27 + 1 = 28 := ⟨by decide +kernel, rfl⟩
theorem d_Ro_write_28 : decode m_Ro_write.2.1 28 = .ok (.lmul, 1) ∧ 28 + 1 = 29 := ⟨by decide +kernel, rfl⟩
theorem d_Ro_write_29 : decode m_Ro_write.2.1 29 = .ok (.putfield 13, 3) ∧ 29 + 3 = 32 := ⟨by decide +kernel, rfl⟩
theorem d_Ro_write_32 : decode m_Ro_write.2.1 32 = .ok (.aload_n 0, 1) ∧ 32 + 1 = 33 := ⟨by decide +kernel, rfl⟩
theorem d_Ro_write_33 : decode m_Ro_write.2.1 33 = .ok (.lload 5, 2) ∧ 33 + 2 = 35 := ⟨by decide +kernel, rfl⟩
theorem d_Ro_write_35 : decode m_Ro_write.2.1 35 = .ok (.putfield 16, 3) ∧ 35 + 3 = 38 := ⟨by decide +kernel, rfl⟩
theorem d_Ro_write_38 : decode m_Ro_write.2.1 38 = .ok (.aload_n 0, 1) ∧ 38 + 1 = 39 := ⟨by decide +kernel, rfl⟩
theorem d_Ro_write_39 : decode m_Ro_write.2.1 39 = .ok (.lload 9, 2) ∧ 39 + 2 = 41 := ⟨by decide +kernel, rfl⟩
theorem d_Ro_write_41 : decode m_Ro_write.2.1 41 = .ok (.lload 7, 2) ∧ 41 + 2 = 43 := ⟨by decide +kernel, rfl⟩
theorem d_Ro_write_43 : decode m_Ro_write.2.1 43 = .ok (.lmul, 1) ∧ 43 + 1 = 44 := ⟨by decide +kernel, rfl⟩
theorem d_Ro_write_44 : decode m_Ro_write.2.1 44 = .ok (.putfield 19, 3) ∧ 44 + 3 = 47 := ⟨by decide +kernel, rfl⟩
theorem d_Ro_write_47 : decode m_Ro_write.2.1 47 = .ok (.return_, 1) := by decide +kernel
theorem d_Ro_isFraction_0 : decode m_Ro_isFraction.2.1 0 = .ok (.aload_n 0, 1) ∧ 0 + 1 = 1 := ⟨by decide +kernel, rfl⟩
theorem d_Ro_isFraction_1 : decode m_Ro_isFraction.2.1 1 = .ok (.getfield 13, 3) ∧ 1 + 3 = 4 := ⟨by decide +kernel, rfl⟩
theorem d_Ro_isFraction_4 : decode m_Ro_isFraction.2.1 4 = .ok (.lconst 0, 1) ∧ 4 + 1 = 5 := ⟨by decide +kernel, rfl⟩
theorem d_Ro_isFraction_5 : decode m_Ro_isFraction.2.1 5 = .ok (.lcmp, 1) ∧ 5 + 1 = 6 := ⟨by decide +kernel, rfl⟩
theorem d_Ro_isFraction_6 : decode m_Ro_isFraction.2.1 6 = .ok (.ifCond .ne 7, 3) ∧ 6 + 3 = 9 ∧ (((6 : Nat) : Int) + (7) = ((13 : Nat) : Int)) := ⟨by decide +kernel, rfl, by decide⟩
theorem d_Ro_isFraction_9 : decode m_Ro_isFraction.2.1 9 = .ok (.iconst 1, 1) ∧ 9 + 1 = 10 := ⟨by decide +kernel, rfl⟩
theorem d_Ro_isFraction_10 : decode m_Ro_isFraction.2.1 10 = .ok (.goto 4, 3) ∧ (((10 : Nat) : Int) + (4) = ((14 : Nat) : Int)) := ⟨by decide +kernel, by decide⟩
theorem d_Ro_isFraction_13 : decode m_Ro_isFraction.2.1 13 = .ok (.iconst 0, 1) ∧ 13 + 1 = 14 := ⟨by decide +kernel, rfl⟩
theorem d_Ro_isFraction_14 : decode m_Ro_isFraction.2.1 14 = .ok (.ireturn, 1) := by decide +kernel
theorem d_Ro_orderTo_0 : decode m_Ro_orderTo.2.1 0 = .ok (.aload_n 0, 1) ∧ 0 + 1 = 1 := ⟨by decide +kernel, rfl⟩
theorem d_Ro_orderTo_1 : decode m_Ro_orderTo.2.1 1 = .ok (.getfield 7, 3) ∧ 1 + 3 = 4 := ⟨by decide +kernel, rfl⟩
theorem d_Ro_orderTo_4 : decode m_Ro_orderTo.2.1 4 = .ok (.aload_n 1, 1) ∧ 4 + 1 = 5 := ⟨by decide +kernel, rfl⟩
theorem d_Ro_orderTo_5 : decode m_Ro_orderTo.2.1 5 = .ok (.getfield 19, 3) ∧ 5 + 3 = 8 := ⟨by decide +kernel, rfl⟩
theorem d_Ro_orderTo_8 : decode m_Ro_orderTo.2.1 8 = .ok (.lmul, 1) ∧ 8 + 1 = 9 := ⟨by decide +kernel, rfl⟩
theorem d_Ro_orderTo_9 : decode m_Ro_orderTo.2.1 9 = .ok (.aload_n 1, 1) ∧ 9 + 1 = 10 := ⟨by decide +kernel, rfl⟩
theorem d_Ro_orderTo_10 : decode m_Ro_orderTo.2.1 10 = .ok (.getfield 7, 3) ∧ 10 + 3 = 13 := ⟨by decide +kernel, rfl⟩
theorem d_Ro_orderTo_13 : decode m_Ro_orderTo.2.1 13 = .ok (.aload_n 0, 1) ∧ 13 + 1 = 14 := ⟨by decide +kernel, rfl⟩
theorem d_Ro_orderTo_14 : decode m_Ro_orderTo.2.1 14 = .ok (.getfield 19, 3) ∧ 14 + 3 = 17 := ⟨by decide +kernel, rfl⟩
theorem d_Ro_orderTo_17 : decode m_Ro_orderTo.2.1 17 = .ok (.lmul, 1) ∧ 17 + 1 = 18 := ⟨by decide +kernel, rfl⟩
theorem d_Ro_orderTo_18 : decode m_Ro_orderTo.2.1 18 = .ok (.lsub, 1) ∧ 18 + 1 = 19 := ⟨by decide +kernel, rfl⟩
theorem d_Ro_orderTo_19 : decode m_Ro_orderTo.2.1 19 = .ok (.lstore_n 2, 1) ∧ 19 + 1 = 20 := ⟨by decide +kernel, rfl⟩
theorem d_Ro_orderTo_20 : decode m_Ro_orderTo.2.1 20 = .ok (.lload_n 2, 1) ∧ 20 + 1 = 21 := ⟨by decide +kernel, rfl⟩
theorem d_Ro_orderTo_21 : decode m_Ro_orderTo.2.1 21 = .ok (.aload_n 0, 1) ∧ 21 + 1 = 22 := ⟨by decide +kernel, rfl⟩
theorem d_Ro_orderTo_22 : decode m_Ro_orderTo.2.1 22 = .ok (.getfield 13, 3) ∧ 22 + 3 = 25 := ⟨by decide +kernel, rfl⟩
theorem d_Ro_orderTo_25 : decode m_Ro_orderTo.2.1 25 = .ok (.aload_n 1, 1) ∧ 25 + 1 = 26 := ⟨by decide +kernel, rfl⟩
theorem d_Ro_orderTo_26 : decode m_Ro_orderTo.2.1 26 = .ok (.getfield 19, 3) ∧ 26 + 3 = 29 := ⟨by decide +kernel, rfl⟩
theorem d_Ro_orderTo_29 : decode m_Ro_orderTo.2.1 29 = .ok (.lmul, 1) ∧ 29 + 1 = 30 := ⟨by decide +kernel, rfl⟩
theorem d_Ro_orderTo_30 : decode m_Ro_orderTo.2.1 30 = .ok (.aload_n 0, 1) ∧ 30 + 1 = 31 := ⟨by decide +kernel, rfl⟩
theorem d_Ro_orderTo_31 : decode m_Ro_orderTo.2.1 31 = .ok (.getfield 16, 3) ∧ 31 + 3 = 34 := ⟨by decide +kernel, rfl⟩
theorem d_Ro_orderTo_34 : decode m_Ro_orderTo.2.1 34 = .ok (.aload_n 1, 1) ∧ 34 + 1 = 35 := ⟨by decide +kernel, rfl⟩
theorem d_Ro_orderTo_35 : decode m_Ro_orderTo.2.1 35 = .ok (.getfield 13, 3) ∧ 35 + 3 = 38 := ⟨by decide +kernel, rfl⟩
theorem d_Ro_orderTo_38 : decode m_Ro_orderTo.2.1 38 = .ok (.lneg, 1) ∧ 38 + 1 = 39 := ⟨by decide +kernel, rfl⟩
theorem d_Ro_orderTo_39 : decode m_Ro_orderTo.2.1 39 = .ok (.aload_n 0, 1) ∧ 39 + 1 = 40 := ⟨by decide +kernel, rfl⟩
theorem d_Ro_orderTo_40 : decode m_Ro_orderTo.2.1 40 = .ok (.getfield 19, 3) ∧ 40 + 3 = 43 := ⟨by decide +kernel, rfl⟩
theorem d_Ro_orderTo_43 : decode m_Ro_orderTo.2.1 43 = .ok (.lmul, 1) ∧ 43 + 1 = 44 := ⟨by decide +kernel, rfl⟩
theorem d_Ro_orderTo_44 : decode m_Ro_orderTo.2.1 44 = .ok (.aload_n 1, 1) ∧ 44 + 1 = 45 := ⟨by decide +kernel, rfl⟩
theorem d_Ro_orderTo_45 : decode m_Ro_orderTo.2.1 45 = .ok (.getfield 16, 3) ∧ 45 + 3 = 48 := ⟨by decide +kernel, rfl⟩
theorem d_Ro_orderTo_48 : decode m_Ro_orderTo.2.1 48 = .ok (.invokestatic 24, 3) ∧ 48 + 3 = 51 := ⟨by decide +kernel, rfl⟩
theorem d_Ro_orderTo_51 : decode m_Ro_orderTo.2.1 51 = .ok (.ireturn, 1) := by decide +kernel
theorem d_Ro_signOf_0 : decode m_Ro_signOf.2.1 0 = .ok (.lload_n 1, 1) ∧ 0 + 1 = 1 := ⟨by decide +kernel, rfl⟩
theorem d_Ro_signOf_1 : decode m_Ro_signOf.2.1 1 = .ok (.aload_n 0, 1) ∧ 1 + 1 = 2 := ⟨by decide +kernel, rfl⟩
theorem d_Ro_signOf_2 : decode m_Ro_signOf.2.1 2 = .ok (.getfield 7, 3) ∧ 2 + 3 = 5 := ⟨by decide +kernel, rfl⟩
theorem d_Ro_signOf_5 : decode m_Ro_signOf.2.1 5 = .ok (.aload_n 0, 1) ∧ 5 + 1 = 6 := ⟨by decide +kernel, rfl⟩
theorem d_Ro_signOf_6 : decode m_Ro_signOf.2.1 6 = .ok (.getfield 7, 3) ∧ 6 + 3 = 9 := ⟨by decide +kernel, rfl⟩
theorem d_Ro_signOf_9 : decode m_Ro_signOf.2.1 9 = .ok (.lmul, 1) ∧ 9 + 1 = 10 := ⟨by decide +kernel, rfl⟩
theorem d_Ro_signOf_10 : decode m_Ro_signOf.2.1 10 = .ok (.aload_n 0, 1) ∧ 10 + 1 = 11 := ⟨by decide +kernel, rfl⟩
theorem d_Ro_signOf_11 : decode m_Ro_signOf.2.1 11 = .ok (.getfield 13, 3) ∧ 11 + 3 = 14 := ⟨by decide +kernel, rfl⟩
theorem d_Ro_signOf_14 : decode m_Ro_signOf.2.1 14 = .ok (.aload_n 0, 1) ∧ 14 + 1 = 15 := ⟨by decide +kernel, rfl⟩
theorem d_Ro_signOf_15 : decode m_Ro_signOf.2.1 15 = .ok (.getfield 13, 3) ∧ 15 + 3 = 18 := ⟨by decide +kernel, rfl⟩
theorem d_Ro_signOf_18 : decode m_Ro_signOf.2.1 18 = .ok (.lmul, 1) ∧ 18 + 1 = 19 := ⟨by decide +kernel, rfl⟩
theorem d_Ro_signOf_19 : decode m_Ro_signOf.2.1 19 = .ok (.aload_n 0, 1) ∧ 19 + 1 = 20 := ⟨by decide +kernel, rfl⟩
theorem d_Ro_signOf_20 : decode m_Ro_signOf.2.1 20 = .ok (.getfield 16, 3) ∧ 20 + 3 = 23 := ⟨by decide +kernel, rfl⟩
theorem d_Ro_signOf_23 : decode m_Ro_signOf.2.1 23 = .ok (.lmul, 1) ∧ 23 + 1 = 24 := ⟨by decide +kernel, rfl⟩
theorem d_Ro_signOf_24 : decode m_Ro_signOf.2.1 24 = .ok (.ladd, 1) ∧ 24 + 1 = 25 := ⟨by decide +kernel, rfl⟩
theorem d_Ro_signOf_25 : decode m_Ro_signOf.2.1 25 = .ok (.lmul, 1) ∧ 25 + 1 = 26 := ⟨by decide +kernel, rfl⟩
theorem d_Ro_signOf_26 : decode m_Ro_signOf.2.1 26 = .ok (.lload_n 3, 1) ∧ 26 + 1 = 27 := ⟨by decide +kernel, rfl⟩
theorem d_Ro_signOf_27 : decode m_Ro_signOf.2.1 27 = .ok (.aload_n 0, 1) ∧ 27 + 1 = 28 := ⟨by decide +kernel, rfl⟩
theorem d_Ro_signOf_28 : decode m_Ro_signOf.2.1 28 = .ok (.getfield 7, 3) ∧ 28 + 3 = 31 := ⟨by decide +kernel, rfl⟩
theorem d_Ro_signOf_31 : decode m_Ro_signOf.2.1 31 = .ok (.lmul, 1) ∧ 31 + 1 = 32 := ⟨by decide +kernel, rfl⟩
theorem d_Ro_signOf_32 : decode m_Ro_signOf.2.1 32 = .ok (.lload 5, 2) ∧ 32 + 2 = 34 := ⟨by decide +kernel, rfl⟩
theorem d_Ro_signOf_34 : decode m_Ro_signOf.2.1 34 = .ok (.aload_n 0, 1) ∧ 34 + 1 = 35 := ⟨by decide +kernel, rfl⟩
theorem d_Ro_signOf_35 : decode m_Ro_signOf.2.1 35 = .ok (.getfield 19, 3) ∧ 35 + 3 = 38 := ⟨by decide +kernel, rfl⟩
theorem d_Ro_signOf_38 : decode m_Ro_signOf.2.1 38 = .ok (.lmul, 1) ∧ 38 + 1 = 39 := ⟨by decide +kernel, rfl⟩
theorem d_Ro_signOf_39 : decode m_Ro_signOf.2.1 39 = .ok (.ladd, 1) ∧ 39 + 1 = 40 := ⟨by decide +kernel, rfl⟩
theorem d_Ro_signOf_40 : decode m_Ro_signOf.2.1 40 = .ok (.aload_n 0, 1) ∧ 40 + 1 = 41 := ⟨by decide +kernel, rfl⟩
theorem d_Ro_signOf_41 : decode m_Ro_signOf.2.1 41 = .ok (.getfield 19, 3) ∧ 41 + 3 = 44 := ⟨by decide +kernel, rfl⟩
theorem d_Ro_signOf_44 : decode m_Ro_signOf.2.1 44 = .ok (.lmul, 1) ∧ 44 + 1 = 45 := ⟨by decide +kernel, rfl⟩
theorem d_Ro_signOf_45 : decode m_Ro_signOf.2.1 45 = .ok (.ladd, 1) ∧ 45 + 1 = 46 := ⟨by decide +kernel, rfl⟩
theorem d_Ro_signOf_46 : decode m_Ro_signOf.2.1 46 = .ok (.lstore 7, 2) ∧ 46 + 2 = 48 := ⟨by decide +kernel, rfl⟩
theorem d_Ro_signOf_48 : decode m_Ro_signOf.2.1 48 = .ok (.aload_n 0, 1) ∧ 48 + 1 = 49 := ⟨by decide +kernel, rfl⟩
theorem d_Ro_signOf_49 : decode m_Ro_signOf.2.1 49 = .ok (.getfield 13, 3) ∧ 49 + 3 = 52 := ⟨by decide +kernel, rfl⟩
theorem d_Ro_signOf_52 : decode m_Ro_signOf.2.1 52 = .ok (.ldc2_w 30, 3) ∧ 52 + 3 = 55 := ⟨by decide +kernel, rfl⟩
theorem d_Ro_signOf_55 : decode m_Ro_signOf.2.1 55 = .ok (.lload_n 1, 1) ∧ 55 + 1 = 56 := ⟨by decide +kernel, rfl⟩
theorem d_Ro_signOf_56 : decode m_Ro_signOf.2.1 56 = .ok (.lmul, 1) ∧ 56 + 1 = 57 := ⟨by decide +kernel, rfl⟩
theorem d_Ro_signOf_57 : decode m_Ro_signOf.2.1 57 = .ok (.aload_n 0, 1) ∧ 57 + 1 = 58 := ⟨by decide +kernel, rfl⟩
theorem d_Ro_signOf_58 : decode m_Ro_signOf.2.1 58 = .ok (.getfield 7, 3) ∧ 58 + 3 = 61 := ⟨by decide +kernel, rfl⟩
theorem d_Ro_signOf_61 : decode m_Ro_signOf.2.1 61 = .ok (.lmul, 1) ∧ 61 + 1 = 62 := ⟨by decide +kernel, rfl⟩
theorem d_Ro_signOf_62 : decode m_Ro_signOf.2.1 62 = .ok (.lload_n 3, 1) ∧ 62 + 1 = 63 := ⟨by decide +kernel, rfl⟩
theorem d_Ro_signOf_63 : decode m_Ro_signOf.2.1 63 = .ok (.aload_n 0, 1) ∧ 63 + 1 = 64 := ⟨by decide +kernel, rfl⟩
theorem d_Ro_signOf_64 : decode m_Ro_signOf.2.1 64 = .ok (.getfield 19, 3) ∧ 64 + 3 = 67 := ⟨by decide +kernel, rfl⟩
theorem d_Ro_signOf_67 : decode m_Ro_signOf.2.1 67 = .ok (.lmul, 1) ∧ 67 + 1 = 68 := ⟨by decide +kernel, rfl⟩
theorem d_Ro_signOf_68 : decode m_Ro_signOf.2.1 68 = .ok (.ladd, 1) ∧ 68 + 1 = 69 := ⟨by decide +kernel, rfl⟩
theorem d_Ro_signOf_69 : decode m_Ro_signOf.2.1 69 = .ok (.lmul, 1) ∧ 69 + 1 = 70 := ⟨by decide +kernel, rfl⟩
theorem d_Ro_signOf_70 : decode m_Ro_signOf.2.1 70 = .ok (.lstore 9, 2) ∧ 70 + 2 = 72 := ⟨by decide +kernel, rfl⟩
theorem d_Ro_signOf_72 : decode m_Ro_signOf.2.1 72 = .ok (.lload 7, 2) ∧ 72 + 2 = 74 := ⟨by decide +kernel, rfl⟩
theorem d_Ro_signOf_74 : decode m_Ro_signOf.2.1 74 = .ok (.lload 9, 2) ∧ 74 + 2 = 76 := ⟨by decide +kernel, rfl⟩
theorem d_Ro_signOf_76 : decode m_Ro_signOf.2.1 76 = .ok (.aload_n 0, 1) ∧ 76 + 1 = 77 := ⟨by decide +kernel, rfl⟩
theorem d_Ro_signOf_77 : decode m_Ro_signOf.2.1 77 = .ok (.getfield 16, 3) ∧ 77 + 3 = 80 := ⟨by decide +kernel, rfl⟩
theorem d_Ro_signOf_80 : decode m_Ro_signOf.2.1 80 = .ok (.invokestatic 32, 3) ∧ 80 + 3 = 83 := ⟨by decide +kernel, rfl⟩
theorem d_Ro_signOf_83 : decode m_Ro_signOf.2.1 83 = .ok (.ireturn, 1) := by decide +kernel
theorem d_Ro_thousandths_0 : decode m_Ro_thousandths.2.1 0 = .ok (.aload_n 0, 1) ∧ 0 + 1 = 1 := ⟨by decide +kernel, rfl⟩
theorem d_Ro_thousandths_1 : decode m_Ro_thousandths.2.1 1 = .ok (.getfield 19, 3) ∧ 1 + 3 = 4 := ⟨by decide +kernel, rfl⟩
theorem d_Ro_thousandths_4 : decode m_Ro_thousandths.2.1 4 = .ok (.lconst 1, 1) ∧ 4 + 1 = 5 := ⟨by decide +kernel, rfl⟩
theorem d_Ro_thousandths_5 : decode m_Ro_thousandths.2.1 5 = .ok (.lcmp, 1) ∧ 5 + 1 = 6 := ⟨by decide +kernel, rfl⟩
theorem d_Ro_thousandths_6 : decode m_Ro_thousandths.2.1 6 = .ok (.ifCond .ge 5, 3) ∧ 6 + 3 = 9 ∧ (((6 : Nat) : Int) + (5) = ((11 : Nat) : Int)) := ⟨by decide +kernel, rfl, by decide⟩
theorem d_Ro_thousandths_9 : decode m_Ro_thousandths.2.1 9 = .ok (.iconst 0, 1) ∧ 9 + 1 = 10 := ⟨by decide +kernel, rfl⟩
theorem d_Ro_thousandths_10 : decode m_Ro_thousandths.2.1 10 = .ok (.ireturn, 1) := by decide +kernel
theorem d_Ro_thousandths_11 : decode m_Ro_thousandths.2.1 11 = .ok (.ldc2_w 35, 3) ∧ 11 + 3 = 14 := ⟨by decide +kernel, rfl⟩
theorem d_Ro_thousandths_14 : decode m_Ro_thousandths.2.1 14 = .ok (.aload_n 0, 1) ∧ 14 + 1 = 15 := ⟨by decide +kernel, rfl⟩
theorem d_Ro_thousandths_15 : decode m_Ro_thousandths.2.1 15 = .ok (.getfield 16, 3) ∧ 15 + 3 = 18 := ⟨by decide +kernel, rfl⟩
theorem d_Ro_thousandths_18 : decode m_Ro_thousandths.2.1 18 = .ok (.lmul, 1) ∧ 18 + 1 = 19 := ⟨by decide +kernel, rfl⟩
theorem d_Ro_thousandths_19 : decode m_Ro_thousandths.2.1 19 = .ok (.invokestatic 37, 3) ∧ 19 + 3 = 22 := ⟨by decide +kernel, rfl⟩
theorem d_Ro_thousandths_22 : decode m_Ro_thousandths.2.1 22 = .ok (.lstore_n 1, 1) ∧ 22 + 1 = 23 := ⟨by decide +kernel, rfl⟩
theorem d_Ro_thousandths_23 : decode m_Ro_thousandths.2.1 23 = .ok (.aload_n 0, 1) ∧ 23 + 1 = 24 := ⟨by decide +kernel, rfl⟩
theorem d_Ro_thousandths_24 : decode m_Ro_thousandths.2.1 24 = .ok (.getfield 13, 3) ∧ 24 + 3 = 27 := ⟨by decide +kernel, rfl⟩
theorem d_Ro_thousandths_27 : decode m_Ro_thousandths.2.1 27 = .ok (.lconst 0, 1) ∧ 27 + 1 = 28 := ⟨by decide +kernel, rfl⟩
theorem d_Ro_thousandths_28 : decode m_Ro_thousandths.2.1 28 = .ok (.lcmp, 1) ∧ 28 + 1 = 29 := ⟨by decide +kernel, rfl⟩
theorem d_Ro_thousandths_29 : decode m_Ro_thousandths.2.1 29 = .ok (.ifCond .le 7, 3) ∧ 29 + 3 = 32 ∧ (((29 : Nat) : Int) + (7) = ((36 : Nat) : Int)) := ⟨by decide +kernel, rfl, by decide⟩
theorem d_Ro_thousandths_32 : decode m_Ro_thousandths.2.1 32 = .ok (.lload_n 1, 1) ∧ 32 + 1 = 33 := ⟨by decide +kernel, rfl⟩
theorem d_Ro_thousandths_33 : decode m_Ro_thousandths.2.1 33 = .ok (.goto 20, 3) ∧ (((33 : Nat) : Int) + (20) = ((53 : Nat) : Int)) := ⟨by decide +kernel, by decide⟩
theorem d_Ro_thousandths_36 : decode m_Ro_thousandths.2.1 36 = .ok (.aload_n 0, 1) ∧ 36 + 1 = 37 := ⟨by decide +kernel, rfl⟩
theorem d_Ro_thousandths_37 : decode m_Ro_thousandths.2.1 37 = .ok (.getfield 13, 3) ∧ 37 + 3 = 40 := ⟨by decide +kernel, rfl⟩
theorem d_Ro_thousandths_40 : decode m_Ro_thousandths.2.1 40 = .ok (.lconst 0, 1) ∧ 40 + 1 = 41 := ⟨by decide +kernel, rfl⟩
theorem d_Ro_thousandths_41 : decode m_Ro_thousandths.2.1 41 = .ok (.lcmp, 1) ∧ 41 + 1 = 42 := ⟨by decide +kernel, rfl⟩
theorem d_Ro_thousandths_42 : decode m_Ro_thousandths.2.1 42 = .ok (.ifCond .ge 10, 3) ∧ 42 + 3 = 45 ∧ (((42 : Nat) : Int) + (10) = ((52 : Nat) : Int)) := ⟨by decide +kernel, rfl, by decide⟩
theorem d_Ro_thousandths_45 : decode m_Ro_thousandths.2.1 45 = .ok (.lload_n 1, 1) ∧ 45 + 1 = 46 := ⟨by decide +kernel, rfl⟩
theorem d_Ro_thousandths_46 : decode m_Ro_thousandths.2.1 46 = .ok (.lneg, 1) ∧ 46 + 1 = 47 := ⟨by decide +kernel, rfl⟩
theorem d_Ro_thousandths_47 : decode m_Ro_thousandths.2.1 47 = .ok (.lconst 1, 1) ∧ 47 + 1 = 48 := ⟨by decide +kernel, rfl⟩
theorem d_Ro_thousandths_48 : decode m_Ro_thousandths.2.1 48 = .ok (.lsub, 1) ∧ 48 + 1 = 49 := ⟨by decide +kernel, rfl⟩
theorem d_Ro_thousandths_49 : decode m_Ro_thousandths.2.1 49 = .ok (.goto 4, 3) ∧ (((49 : Nat) : Int) + (4) = ((53 : Nat) : Int)) := ⟨by decide +kernel, by decide⟩
theorem d_Ro_thousandths_52 : decode m_Ro_thousandths.2.1 52 = .ok (.lconst 0, 1) ∧ 52 + 1 = 53 := ⟨by decide +kernel, rfl⟩
theorem d_Ro_thousandths_53 : decode m_Ro_thousandths.2.1 53 = .ok (.lstore_n 3, 1) ∧ 53 + 1 = 54 := ⟨by decide +kernel, rfl⟩
theorem d_Ro_thousandths_54 : decode m_Ro_thousandths.2.1 54 = .ok (.ldc2_w 41, 3) ∧ 54 + 3 = 57 := ⟨by decide +kernel, rfl⟩
theorem d_Ro_thousandths_57 : decode m_Ro_thousandths.2.1 57 = .ok (.aload_n 0, 1) ∧ 57 + 1 = 58 := ⟨by decide +kernel, rfl⟩
theorem d_Ro_thousandths_58 : decode m_Ro_thousandths.2.1 58 = .ok (.getfield 7, 3) ∧ 58 + 3 = 61 := ⟨by decide +kernel, rfl⟩
theorem d_Ro_thousandths_61 : decode m_Ro_thousandths.2.1 61 = .ok (.lmul, 1) ∧ 61 + 1 = 62 := ⟨by decide +kernel, rfl⟩
theorem d_Ro_thousandths_62 : decode m_Ro_thousandths.2.1 62 = .ok (.lload_n 3, 1) ∧ 62 + 1 = 63 := ⟨by decide +kernel, rfl⟩
theorem d_Ro_thousandths_63 : decode m_Ro_thousandths.2.1 63 = .ok (.ladd, 1) ∧ 63 + 1 = 64 := ⟨by decide +kernel, rfl⟩
theorem d_Ro_thousandths_64 : decode m_Ro_thousandths.2.1 64 = .ok (.aload_n 0, 1) ∧ 64 + 1 = 65 := ⟨by decide +kernel, rfl⟩
theorem d_Ro_thousandths_65 : decode m_Ro_thousandths.2.1 65 = .ok (.getfield 19, 3) ∧ 65 + 3 = 68 := ⟨by decide +kernel, rfl⟩
theorem d_Ro_thousandths_68 : decode m_Ro_thousandths.2.1 68 = .ok (.invokestatic 43, 3) ∧ 68 + 3 = 71 := ⟨by decide +kernel, rfl⟩
theorem d_Ro_thousandths_71 : decode m_Ro_thousandths.2.1 71 = .ok (.l2i, 1) ∧ 71 + 1 = 72 := ⟨by decide +kernel, rfl⟩
theorem d_Ro_thousandths_72 : decode m_Ro_thousandths.2.1 72 = .ok (.ireturn, 1) := by decide +kernel
theorem d_Rw_init_0 : decode m_Rw_init.2.1 0 = .ok (.aload_n 0, 1) ∧ 0 + 1 = 1 := ⟨by decide +kernel, rfl⟩
theorem d_Rw_init_1 : decode m_Rw_init.2.1 1 = .ok (.invokespecial 3, 3) ∧ 1 + 3 = 4 := ⟨by decide +kernel, rfl⟩
theorem d_Rw_init_4 : decode m_Rw_init.2.1 4 = .ok (.aload_n 0, 1) ∧ 4 + 1 = 5 := ⟨by decide +kernel, rfl⟩
theorem d_Rw_init_5 : decode m_Rw_init.2.1 5 = .ok (.iconst 4, 1) ∧ 5 + 1 = 6 := ⟨by decide +kernel, rfl⟩
theorem d_Rw_init_6 : decode m_Rw_init.2.1 6 = .ok (.anewarray 9, 3) ∧ 6 + 3 = 9 := ⟨by decide +kernel, rfl⟩
theorem d_Rw_init_9 : decode m_Rw_init.2.1 9 = .ok (.putfield 11, 3) ∧ 9 + 3 = 12 := ⟨by decide +kernel, rfl⟩
theorem d_Rw_init_12 : decode m_Rw_init.2.1 12 = .ok (.aload_n 0, 1) ∧ 12 + 1 = 13 := ⟨by decide +kernel, rfl⟩
theorem d_Rw_init_13 : decode m_Rw_init.2.1 13 = .ok (.iconst 0, 1) ∧ 13 + 1 = 14 := ⟨by decide +kernel, rfl⟩
theorem d_Rw_init_14 : decode m_Rw_init.2.1 14 = .ok (.putfield 17, 3) ∧ 14 + 3 = 17 := ⟨by decide +kernel, rfl⟩
theorem d_Rw_init_17 : decode m_Rw_init.2.1 17 = .ok (.iconst 0, 1) ∧ 17 + 1 = 18 := ⟨by decide +kernel, rfl⟩
theorem d_Rw_init_18 : decode m_Rw_init.2.1 18 = .ok (.istore_n 1, 1) ∧ 18 + 1 = 19 := ⟨by decide +kernel, rfl⟩
theorem d_Rw_init_19 : decode m_Rw_init.2.1 19 = .ok (.iload_n 1, 1) ∧ 19 + 1 = 20 := ⟨by decide +kernel, rfl⟩
theorem d_Rw_init_20 : decode m_Rw_init.2.1 20 = .ok (.iconst 4, 1) ∧ 20 + 1 = 21 := ⟨by decide +kernel, rfl⟩
theorem d_Rw_init_21 : decode m_Rw_init.2.1 21 = .ok (.if_icmp .ge 22, 3) ∧ 21 + 3 = 24 ∧ (((21 : Nat) : Int) + (22) = ((43 : Nat) : Int)) := ⟨by decide +kernel, rfl, by decide⟩
theorem d_Rw_init_24 : decode m_Rw_init.2.1 24 = .ok (.aload_n 0, 1) ∧ 24 + 1 = 25 := ⟨by decide +kernel, rfl⟩
theorem d_Rw_init_25 : decode m_Rw_init.2.1 25 = .ok (.getfield 11, 3) ∧ 25 + 3 = 28 := ⟨by decide +kernel, rfl⟩
theorem d_Rw_init_28 : decode m_Rw_init.2.1 28 = .ok (.iload_n 1, 1) ∧ 28 + 1 = 29 := ⟨by decide +kernel, rfl⟩
theorem d_Rw_init_29 : decode m_Rw_init.2.1 29 = .ok (.new 9, 3) ∧ 29 + 3 = 32 := ⟨by decide +kernel, rfl⟩
theorem d_Rw_init_32 : decode m_Rw_init.2.1 32 = .ok (.dup, 1) ∧ 32 + 1 = 33 := ⟨by decide +kernel, rfl⟩
theorem d_Rw_init_33 : decode m_Rw_init.2.1 33 = .ok (.invokespecial 21, 3) ∧ 33 + 3 = 36 := ⟨by decide +kernel, rfl⟩
theorem d_Rw_init_36 : decode m_Rw_init.2.1 36 = .ok (.aastore, 1) ∧ 36 + 1 = 37 := ⟨by decide +kernel, rfl⟩
theorem d_Rw_init_37 : decode m_Rw_init.2.1 37 = .ok (.iinc 1 1, 3) ∧ 37 + 3 = 40 := ⟨by decide +kernel, rfl⟩
theorem d_Rw_init_40 : decode m_Rw_init.2.1 40 = .ok (.goto (-21), 3) ∧ (((40 : Nat) : Int) + (-21) = ((19 : Nat) : Int)) := ⟨by decide +kernel, by decide⟩
theorem d_Rw_init_43 : decode m_Rw_init.2.1 43 = .ok (.return_, 1) := by decide +kernel
theorem d_Rw_has_0 : decode m_Rw_has.2.1 0 = .ok (.iload_n 1, 1) ∧ 0 + 1 = 1 := ⟨by decide +kernel, rfl⟩
theorem d_Rw_has_1 : decode m_Rw_has.2.1 1 = .ok (.ifCond .lt 15, 3) ∧ 1 + 3 = 4 ∧ (((1 : Nat) : Int) + (15) = ((16 : Nat) : Int)) := ⟨by decide +kernel, rfl, by decide⟩
theorem d_Rw_has_4 : decode m_Rw_has.2.1 4 = .ok (.iload_n 1, 1) ∧ 4 + 1 = 5 := ⟨by decide +kernel, rfl⟩
theorem d_Rw_has_5 : decode m_Rw_has.2.1 5 = .ok (.aload_n 0, 1) ∧ 5 + 1 = 6 := ⟨by decide +kernel, rfl⟩
theorem d_Rw_has_6 : decode m_Rw_has.2.1 6 = .ok (.getfield 17, 3) ∧ 6 + 3 = 9 := ⟨by decide +kernel, rfl⟩
theorem d_Rw_has_9 : decode m_Rw_has.2.1 9 = .ok (.if_icmp .ge 7, 3) ∧ 9 + 3 = 12 ∧ (((9 : Nat) : Int) + (7) = ((16 : Nat) : Int)) := ⟨by decide +kernel, rfl, by decide⟩
theorem d_Rw_has_12 : decode m_Rw_has.2.1 12 = .ok (.iconst 1, 1) ∧ 12 + 1 = 13 := ⟨by decide +kernel, rfl⟩
theorem d_Rw_has_13 : decode m_Rw_has.2.1 13 = .ok (.goto 4, 3) ∧ (((13 : Nat) : Int) + (4) = ((17 : Nat) : Int)) := ⟨by decide +kernel, by decide⟩
theorem d_Rw_has_16 : decode m_Rw_has.2.1 16 = .ok (.iconst 0, 1) ∧ 16 + 1 = 17 := ⟨by decide +kernel, rfl⟩
theorem d_Rw_has_17 : decode m_Rw_has.2.1 17 = .ok (.ireturn, 1) := by decide +kernel
theorem d_Rw_append_0 : decode m_Rw_append.2.1 0 = .ok (.aload_n 0, 1) ∧ 0 + 1 = 1 := ⟨by decide +kernel, rfl⟩
theorem d_Rw_append_1 : decode m_Rw_append.2.1 1 = .ok (.getfield 17, 3) ∧ 1 + 3 = 4 := ⟨by decide +kernel, rfl⟩
theorem d_Rw_append_4 : decode m_Rw_append.2.1 4 = .ok (.iconst 4, 1) ∧ 4 + 1 = 5 := ⟨by decide +kernel, rfl⟩
theorem d_Rw_append_5 : decode m_Rw_append.2.1 5 = .ok (.if_icmp .lt 5, 3) ∧ 5 + 3 = 8 ∧ (((5 : Nat) : Int) + (5) = ((10 : Nat) : Int)) := ⟨by decide +kernel, rfl, by decide⟩
theorem d_Rw_append_8 : decode m_Rw_append.2.1 8 = .ok (.iconst 0, 1) ∧ 8 + 1 = 9 := ⟨by decide +kernel, rfl⟩
theorem d_Rw_append_9 : decode m_Rw_append.2.1 9 = .ok (.ireturn, 1) := by decide +kernel
theorem d_Rw_append_10 : decode m_Rw_append.2.1 10 = .ok (.aload_n 0, 1) ∧ 10 + 1 = 11 := ⟨by decide +kernel, rfl⟩
theorem d_Rw_append_11 : decode m_Rw_append.2.1 11 = .ok (.getfield 11, 3) ∧ 11 + 3 = 14 := ⟨by decide +kernel, rfl⟩
theorem d_Rw_append_14 : decode m_Rw_append.2.1 14 = .ok (.aload_n 0, 1) ∧ 14 + 1 = 15 := ⟨by decide +kernel, rfl⟩
theorem d_Rw_append_15 : decode m_Rw_append.2.1 15 = .ok (.getfield 17, 3) ∧ 15 + 3 = 18 := ⟨by decide +kernel, rfl⟩
theorem d_Rw_append_18 : decode m_Rw_append.2.1 18 = .ok (.aaload, 1) ∧ 18 + 1 = 19 := ⟨by decide +kernel, rfl⟩
theorem d_Rw_append_19 : decode m_Rw_append.2.1 19 = .ok (.iload_n 1, 1) ∧ 19 + 1 = 20 := ⟨by decide +kernel, rfl⟩
theorem d_Rw_append_20 : decode m_Rw_append.2.1 20 = .ok (.iload_n 2, 1) ∧ 20 + 1 = 21 := ⟨by decide +kernel, rfl⟩
theorem d_Rw_append_21 : decode m_Rw_append.2.1 21 = .ok (.iload_n 3, 1) ∧ 21 + 1 = 22 := ⟨by decide +kernel, rfl⟩
theorem d_Rw_append_22 : decode m_Rw_append.2.1 22 = .ok (.iload 4, 2) ∧ 22 + 2 = 24 := ⟨by decide +kernel, rfl⟩
theorem d_Rw_append_24 : decode m_Rw_append.2.1 24 = .ok (.invokevirtual 22, 3) ∧ 24 + 3 = 27 := ⟨by decide +kernel, rfl⟩
theorem d_Rw_append_27 : decode m_Rw_append.2.1 27 = .ok (.aload_n 0, 1) ∧ 27 + 1 = 28 := ⟨by decide +kernel, rfl⟩
theorem d_Rw_append_28 : decode m_Rw_append.2.1 28 = .ok (.dup, 1) ∧ 28 + 1 = 29 := ⟨by decide +kernel, rfl⟩
theorem d_Rw_append_29 : decode m_Rw_append.2.1 29 = .ok (.getfield 17, 3) ∧ 29 + 3 = 32 := ⟨by decide +kernel, rfl⟩
theorem d_Rw_append_32 : decode m_Rw_append.2.1 32 = .ok (.iconst 1, 1) ∧ 32 + 1 = 33 := ⟨by decide +kernel, rfl⟩
theorem d_Rw_append_33 : decode m_Rw_append.2.1 33 = .ok (.iadd, 1) ∧ 33 + 1 = 34 := ⟨by decide +kernel, rfl⟩
theorem d_Rw_append_34 : decode m_Rw_append.2.1 34 = .ok (.putfield 17, 3) ∧ 34 + 3 = 37 := ⟨by decide +kernel, rfl⟩
theorem d_Rw_append_37 : decode m_Rw_append.2.1 37 = .ok (.iconst 1, 1) ∧ 37 + 1 = 38 := ⟨by decide +kernel, rfl⟩
theorem d_Rw_append_38 : decode m_Rw_append.2.1 38 = .ok (.ireturn, 1) := by decide +kernel
theorem d_Rw_remove_0 : decode m_Rw_remove.2.1 0 = .ok (.aload_n 0, 1) ∧ 0 + 1 = 1 := ⟨by decide +kernel, rfl⟩
theorem d_Rw_remove_1 : decode m_Rw_remove.2.1 1 = .ok (.iload_n 1, 1) ∧ 1 + 1 = 2 := ⟨by decide +kernel, rfl⟩
theorem d_Rw_remove_2 : decode m_Rw_remove.2.1 2 = .ok (.invokevirtual 26, 3) ∧ 2 + 3 = 5 := ⟨by decide +kernel, rfl⟩
theorem d_Rw_remove_5 : decode m_Rw_remove.2.1 5 = .ok (.ifCond .ne 4, 3) ∧ 5 + 3 = 8 ∧ (((5 : Nat) : Int) + (4) = ((9 : Nat) : Int)) := ⟨by decide +kernel, rfl, by decide⟩
theorem d_Rw_remove_8 : decode m_Rw_remove.2.1 8 = .ok (.return_, 1) := by decide +kernel
theorem d_Rw_remove_9 : decode m_Rw_remove.2.1 9 = .ok (.iload_n 1, 1) ∧ 9 + 1 = 10 := ⟨by decide +kernel, rfl⟩
theorem d_Rw_remove_10 : decode m_Rw_remove.2.1 10 = .ok (.istore_n 2, 1) ∧ 10 + 1 = 11 := ⟨by decide +kernel, rfl⟩
theorem d_Rw_remove_11 : decode m_Rw_remove.2.1 11 = .ok (.iload_n 2, 1) ∧ 11 + 1 = 12 := ⟨by decide +kernel, rfl⟩
theorem d_Rw_remove_12 : decode m_Rw_remove.2.1 12 = .ok (.aload_n 0, 1) ∧ 12 + 1 = 13 := ⟨by decide +kernel, rfl⟩
theorem d_Rw_remove_13 : decode m_Rw_remove.2.1 13 = .ok (.getfield 17, 3) ∧ 13 + 3 = 16 := ⟨by decide +kernel, rfl⟩
theorem d_Rw_remove_16 : decode m_Rw_remove.2.1 16 = .ok (.iconst 1, 1) ∧ 16 + 1 = 17 := ⟨by decide +kernel, rfl⟩
theorem d_Rw_remove_17 : decode m_Rw_remove.2.1 17 = .ok (.isub, 1) ∧ 17 + 1 = 18 := ⟨by decide +kernel, rfl⟩
theorem d_Rw_remove_18 : decode m_Rw_remove.2.1 18 = .ok (.if_icmp .ge 43, 3) ∧ 18 + 3 = 21 ∧ (((18 : Nat) : Int) + (43) = ((61 : Nat) : Int)) := ⟨by decide +kernel, rfl, by decide⟩
theorem d_Rw_remove_21 : decode m_Rw_remove.2.1 21 = .ok (.aload_n 0, 1) ∧ 21 + 1 = 22 := ⟨by decide +kernel, rfl⟩
theorem d_Rw_remove_22 : decode m_Rw_remove.2.1 22 = .ok (.getfield 11, 3) ∧ 22 + 3 = 25 := ⟨by decide +kernel, rfl⟩
theorem d_Rw_remove_25 : decode m_Rw_remove.2.1 25 = .ok (.iload_n 2, 1) ∧ 25 + 1 = 26 := ⟨by decide +kernel, rfl⟩
theorem d_Rw_remove_26 : decode m_Rw_remove.2.1 26 = .ok (.iconst 1, 1) ∧ 26 + 1 = 27 := ⟨by decide +kernel, rfl⟩
theorem d_Rw_remove_27 : decode m_Rw_remove.2.1 27 = .ok (.iadd, 1) ∧ 27 + 1 = 28 := ⟨by decide +kernel, rfl⟩
theorem d_Rw_remove_28 : decode m_Rw_remove.2.1 28 = .ok (.aaload, 1) ∧ 28 + 1 = 29 := ⟨by decide +kernel, rfl⟩
theorem d_Rw_remove_29 : decode m_Rw_remove.2.1 29 = .ok (.astore_n 3, 1) ∧ 29 + 1 = 30 := ⟨by decide +kernel, rfl⟩
theorem d_Rw_remove_30 : decode m_Rw_remove.2.1 30 = .ok (.aload_n 0, 1) ∧ 30 + 1 = 31 := ⟨by decide +kernel, rfl⟩
theorem d_Rw_remove_31 : decode m_Rw_remove.2.1 31 = .ok (.getfield 11, 3) ∧ 31 + 3 = 34 := ⟨by decide +kernel, rfl⟩
theorem d_Rw_remove_34 : decode m_Rw_remove.2.1 34 = .ok (.iload_n 2, 1) ∧ 34 + 1 = 35 := ⟨by decide +kernel, rfl⟩
theorem d_Rw_remove_35 : decode m_Rw_remove.2.1 35 = .ok (.aaload, 1) ∧ 35 + 1 = 36 := ⟨by decide +kernel, rfl⟩
theorem d_Rw_remove_36 : decode m_Rw_remove.2.1 36 = .ok (.aload_n 3, 1) ∧ 36 + 1 = 37 := ⟨by decide +kernel, rfl⟩
theorem d_Rw_remove_37 : decode m_Rw_remove.2.1 37 = .ok (.getfield 30, 3) ∧ 37 + 3 = 40 := ⟨by decide +kernel, rfl⟩
theorem d_Rw_remove_40 : decode m_Rw_remove.2.1 40 = .ok (.aload_n 3, 1) ∧ 40 + 1 = 41 := ⟨by decide +kernel, rfl⟩
theorem d_Rw_remove_41 : decode m_Rw_remove.2.1 41 = .ok (.getfield 33, 3) ∧ 41 + 3 = 44 := ⟨by decide +kernel, rfl⟩
theorem d_Rw_remove_44 : decode m_Rw_remove.2.1 44 = .ok (.aload_n 3, 1) ∧ 44 + 1 = 45 := ⟨by decide +kernel, rfl⟩
theorem d_Rw_remove_45 : decode m_Rw_remove.2.1 45 = .ok (.getfield 36, 3) ∧ 45 + 3 = 48 := ⟨by decide +kernel, rfl⟩
theorem d_Rw_remove_48 : decode m_Rw_remove.2.1 48 = .ok (.aload_n 3, 1) ∧ 48 + 1 = 49 := ⟨by decide +kernel, rfl⟩
theorem d_Rw_remove_49 : decode m_Rw_remove.2.1 49 = .ok (.getfield 39, 3) ∧ 49 + 3 = 52 := ⟨by decide +kernel, rfl⟩
theorem d_Rw_remove_52 : decode m_Rw_remove.2.1 52 = .ok (.invokevirtual 22, 3) ∧ 52 + 3 = 55 := ⟨by decide +kernel, rfl⟩
theorem d_Rw_remove_55 : decode m_Rw_remove.2.1 55 = .ok (.iinc 2 1, 3) ∧ 55 + 3 = 58 := ⟨by decide +kernel, rfl⟩
theorem d_Rw_remove_58 : decode m_Rw_remove.2.1 58 = .ok (.goto (-47), 3) ∧ (((58 : Nat) : Int) + (-47) = ((11 : Nat) : Int)) := ⟨by decide +kernel, by decide⟩
theorem d_Rw_remove_61 : decode m_Rw_remove.2.1 61 = .ok (.aload_n 0, 1) ∧ 61 + 1 = 62 := ⟨by decide +kernel, rfl⟩
theorem d_Rw_remove_62 : decode m_Rw_remove.2.1 62 = .ok (.dup, 1) ∧ 62 + 1 = 63 := ⟨by decide +kernel, rfl⟩
theorem d_Rw_remove_63 : decode m_Rw_remove.2.1 63 = .ok (.getfield 17, 3) ∧ 63 + 3 = 66 := ⟨by decide +kernel, rfl⟩
theorem d_Rw_remove_66 : decode m_Rw_remove.2.1 66 = .ok (.iconst 1, 1) ∧ 66 + 1 = 67 := ⟨by decide +kernel, rfl⟩
theorem d_Rw_remove_67 : decode m_Rw_remove.2.1 67 = .ok (.isub, 1) ∧ 67 + 1 = 68 := ⟨by decide +kernel, rfl⟩
theorem d_Rw_remove_68 : decode m_Rw_remove.2.1 68 = .ok (.putfield 17, 3) ∧ 68 + 3 = 71 := ⟨by decide +kernel, rfl⟩
theorem d_Rw_remove_71 : decode m_Rw_remove.2.1 71 = .ok (.return_, 1) := by decide +kernel
theorem d_Rw_copy_0 : decode m_Rw_copy.2.1 0 = .ok (.iconst 0, 1) ∧ 0 + 1 = 1 := ⟨by decide +kernel, rfl⟩
theorem d_Rw_copy_1 : decode m_Rw_copy.2.1 1 = .ok (.istore_n 2, 1) ∧ 1 + 1 = 2 := ⟨by decide +kernel, rfl⟩
theorem d_Rw_copy_2 : decode m_Rw_copy.2.1 2 = .ok (.iload_n 2, 1) ∧ 2 + 1 = 3 := ⟨by decide +kernel, rfl⟩
theorem d_Rw_copy_3 : decode m_Rw_copy.2.1 3 = .ok (.aload_n 1, 1) ∧ 3 + 1 = 4 := ⟨by decide +kernel, rfl⟩
theorem d_Rw_copy_4 : decode m_Rw_copy.2.1 4 = .ok (.getfield 17, 3) ∧ 4 + 3 = 7 := ⟨by decide +kernel, rfl⟩
theorem d_Rw_copy_7 : decode m_Rw_copy.2.1 7 = .ok (.if_icmp .ge 41, 3) ∧ 7 + 3 = 10 ∧ (((7 : Nat) : Int) + (41) = ((48 : Nat) : Int)) := ⟨by decide +kernel, rfl, by decide⟩
theorem d_Rw_copy_10 : decode m_Rw_copy.2.1 10 = .ok (.aload_n 1, 1) ∧ 10 + 1 = 11 := ⟨by decide +kernel, rfl⟩
theorem d_Rw_copy_11 : decode m_Rw_copy.2.1 11 = .ok (.getfield 11, 3) ∧ 11 + 3 = 14 := ⟨by decide +kernel, rfl⟩
theorem d_Rw_copy_14 : decode m_Rw_copy.2.1 14 = .ok (.iload_n 2, 1) ∧ 14 + 1 = 15 := ⟨by decide +kernel, rfl⟩
theorem d_Rw_copy_15 : decode m_Rw_copy.2.1 15 = .ok (.aaload, 1) ∧ 15 + 1 = 16 := ⟨by decide +kernel, rfl⟩
theorem d_Rw_copy_16 : decode m_Rw_copy.2.1 16 = .ok (.astore_n 3, 1) ∧ 16 + 1 = 17 := ⟨by decide +kernel, rfl⟩
theorem d_Rw_copy_17 : decode m_Rw_copy.2.1 17 = .ok (.aload_n 0, 1) ∧ 17 + 1 = 18 := ⟨by decide +kernel, rfl⟩
theorem d_Rw_copy_18 : decode m_Rw_copy.2.1 18 = .ok (.getfield 11, 3) ∧ 18 + 3 = 21 := ⟨by decide +kernel, rfl⟩
theorem d_Rw_copy_21 : decode m_Rw_copy.2.1 21 = .ok (.iload_n 2, 1) ∧ 21 + 1 = 22 := ⟨by decide +kernel, rfl⟩
theorem d_Rw_copy_22 : decode m_Rw_copy.2.1 22 = .ok (.aaload, 1) ∧ 22 + 1 = 23 := ⟨by decide +kernel, rfl⟩
theorem d_Rw_copy_23 : decode m_Rw_copy.2.1 23 = .ok (.aload_n 3, 1) ∧ 23 + 1 = 24 := ⟨by decide +kernel, rfl⟩
theorem d_Rw_copy_24 : decode m_Rw_copy.2.1 24 = .ok (.getfield 30, 3) ∧ 24 + 3 = 27 := ⟨by decide +kernel, rfl⟩
theorem d_Rw_copy_27 : decode m_Rw_copy.2.1 27 = .ok (.aload_n 3, 1) ∧ 27 + 1 = 28 := ⟨by decide +kernel, rfl⟩
theorem d_Rw_copy_28 : decode m_Rw_copy.2.1 28 = .ok (.getfield 33, 3) ∧ 28 + 3 = 31 := ⟨by decide +kernel, rfl⟩
theorem d_Rw_copy_31 : decode m_Rw_copy.2.1 31 = .ok (.aload_n 3, 1) ∧ 31 + 1 = 32 := ⟨by decide +kernel, rfl⟩
theorem d_Rw_copy_32 : decode m_Rw_copy.2.1 32 = .ok (.getfield 36, 3) ∧ 32 + 3 = 35 := ⟨by decide +kernel, rfl⟩
theorem d_Rw_copy_35 : decode m_Rw_copy.2.1 35 = .ok (.aload_n 3, 1) ∧ 35 + 1 = 36 := ⟨by decide +kernel, rfl⟩
theorem d_Rw_copy_36 : decode m_Rw_copy.2.1 36 = .ok (.getfield 39, 3) ∧ 36 + 3 = 39 := ⟨by decide +kernel, rfl⟩
theorem d_Rw_copy_39 : decode m_Rw_copy.2.1 39 = .ok (.invokevirtual 22, 3) ∧ 39 + 3 = 42 := ⟨by decide +kernel, rfl⟩
theorem d_Rw_copy_42 : decode m_Rw_copy.2.1 42 = .ok (.iinc 2 1, 3) ∧ 42 + 3 = 45 := ⟨by decide +kernel, rfl⟩
theorem d_Rw_copy_45 : decode m_Rw_copy.2.1 45 = .ok (.goto (-43), 3) ∧ (((45 : Nat) : Int) + (-43) = ((2 : Nat) : Int)) := ⟨by decide +kernel, by decide⟩
theorem d_Rw_copy_48 : decode m_Rw_copy.2.1 48 = .ok (.aload_n 0, 1) ∧ 48 + 1 = 49 := ⟨by decide +kernel, rfl⟩
theorem d_Rw_copy_49 : decode m_Rw_copy.2.1 49 = .ok (.aload_n 1, 1) ∧ 49 + 1 = 50 := ⟨by decide +kernel, rfl⟩
theorem d_Rw_copy_50 : decode m_Rw_copy.2.1 50 = .ok (.getfield 17, 3) ∧ 50 + 3 = 53 := ⟨by decide +kernel, rfl⟩
theorem d_Rw_copy_53 : decode m_Rw_copy.2.1 53 = .ok (.putfield 17, 3) ∧ 53 + 3 = 56 := ⟨by decide +kernel, rfl⟩
theorem d_Rw_copy_56 : decode m_Rw_copy.2.1 56 = .ok (.return_, 1) := by decide +kernel
theorem d_Se_init_0 : decode m_Se_init.2.1 0 = .ok (.aload_n 0, 1) ∧ 0 + 1 = 1 := ⟨by decide +kernel, rfl⟩
theorem d_Se_init_1 : decode m_Se_init.2.1 1 = .ok (.invokespecial 3, 3) ∧ 1 + 3 = 4 := ⟨by decide +kernel, rfl⟩
theorem d_Se_init_4 : decode m_Se_init.2.1 4 = .ok (.aload_n 0, 1) ∧ 4 + 1 = 5 := ⟨by decide +kernel, rfl⟩
theorem d_Se_init_5 : decode m_Se_init.2.1 5 = .ok (.bipush 6, 2) ∧ 5 + 2 = 7 ∧ (Int8.ofInt 6).toInt32 = Int32.ofInt 6 := ⟨by decide +kernel, rfl, by decide +kernel⟩
theorem d_Se_init_7 : decode m_Se_init.2.1 7 = .ok (.newarray .int, 2) ∧ 7 + 2 = 9 := ⟨by decide +kernel, rfl⟩
theorem d_Se_init_9 : decode m_Se_init.2.1 9 = .ok (.putfield 9, 3) ∧ 9 + 3 = 12 := ⟨by decide +kernel, rfl⟩
theorem d_Se_init_12 : decode m_Se_init.2.1 12 = .ok (.aload_n 0, 1) ∧ 12 + 1 = 13 := ⟨by decide +kernel, rfl⟩
theorem d_Se_init_13 : decode m_Se_init.2.1 13 = .ok (.bipush 6, 2) ∧ 13 + 2 = 15 ∧ (Int8.ofInt 6).toInt32 = Int32.ofInt 6 := ⟨by decide +kernel, rfl, by decide +kernel⟩
theorem d_Se_init_15 : decode m_Se_init.2.1 15 = .ok (.newarray .int, 2) ∧ 15 + 2 = 17 := ⟨by decide +kernel, rfl⟩
theorem d_Se_init_17 : decode m_Se_init.2.1 17 = .ok (.putfield 15, 3) ∧ 17 + 3 = 20 := ⟨by decide +kernel, rfl⟩
theorem d_Se_init_20 : decode m_Se_init.2.1 20 = .ok (.aload_n 0, 1) ∧ 20 + 1 = 21 := ⟨by decide +kernel, rfl⟩
theorem d_Se_init_21 : decode m_Se_init.2.1 21 = .ok (.bipush 6, 2) ∧ 21 + 2 = 23 ∧ (Int8.ofInt 6).toInt32 = Int32.ofInt 6 := ⟨by decide +kernel, rfl, by decide +kernel⟩
theorem d_Se_init_23 : decode m_Se_init.2.1 23 = .ok (.newarray .int, 2) ∧ 23 + 2 = 25 := ⟨by decide +kernel, rfl⟩
theorem d_Se_init_25 : decode m_Se_init.2.1 25 = .ok (.putfield 18, 3) ∧ 25 + 3 = 28 := ⟨by decide +kernel, rfl⟩
theorem d_Se_init_28 : decode m_Se_init.2.1 28 = .ok (.aload_n 0, 1) ∧ 28 + 1 = 29 := ⟨by decide +kernel, rfl⟩
theorem d_Se_init_29 : decode m_Se_init.2.1 29 = .ok (.bipush 6, 2) ∧ 29 + 2 = 31 ∧ (Int8.ofInt 6).toInt32 = Int32.ofInt 6 := ⟨by decide +kernel, rfl, by decide +kernel⟩
theorem d_Se_init_31 : decode m_Se_init.2.1 31 = .ok (.newarray .int, 2) ∧ 31 + 2 = 33 := ⟨by decide +kernel, rfl⟩
theorem d_Se_init_33 : decode m_Se_init.2.1 33 = .ok (.putfield 21, 3) ∧ 33 + 3 = 36 := ⟨by decide +kernel, rfl⟩
theorem d_Se_init_36 : decode m_Se_init.2.1 36 = .ok (.aload_n 0, 1) ∧ 36 + 1 = 37 := ⟨by decide +kernel, rfl⟩
theorem d_Se_init_37 : decode m_Se_init.2.1 37 = .ok (.iconst 0, 1) ∧ 37 + 1 = 38 := ⟨by decide +kernel, rfl⟩
theorem d_Se_init_38 : decode m_Se_init.2.1 38 = .ok (.putfield 24, 3) ∧ 38 + 3 = 41 := ⟨by decide +kernel, rfl⟩
theorem d_Se_init_41 : decode m_Se_init.2.1 41 = .ok (.return_, 1) := by decide +kernel
theorem d_Se_append_0 : decode m_Se_append.2.1 0 = .ok (.aload_n 0, 1) ∧ 0 + 1 = 1 := ⟨by decide +kernel, rfl⟩
theorem d_Se_append_1 : decode m_Se_append.2.1 1 = .ok (.getfield 24, 3) ∧ 1 + 3 = 4 := ⟨by decide +kernel, rfl⟩
theorem d_Se_append_4 : decode m_Se_append.2.1 4 = .ok (.bipush 6, 2) ∧ 4 + 2 = 6 ∧ (Int8.ofInt 6).toInt32 = Int32.ofInt 6 := ⟨by decide +kernel, rfl, by decide +kernel⟩
theorem d_Se_append_6 : decode m_Se_append.2.1 6 = .ok (.if_icmp .lt 5, 3) ∧ 6 + 3 = 9 ∧ (((6 : Nat) : Int) + (5) = ((11 : Nat) : Int)) := ⟨by decide +kernel, rfl, by decide⟩
theorem d_Se_append_9 : decode m_Se_append.2.1 9 = .ok (.iconst 0, 1) ∧ 9 + 1 = 10 := ⟨by decide +kernel, rfl⟩
theorem d_Se_append_10 : decode m_Se_append.2.1 10 = .ok (.ireturn, 1) := by decide +kernel
theorem d_Se_append_11 : decode m_Se_append.2.1 11 = .ok (.aload_n 0, 1) ∧ 11 + 1 = 12 := ⟨by decide +kernel, rfl⟩
theorem d_Se_append_12 : decode m_Se_append.2.1 12 = .ok (.getfield 9, 3) ∧ 12 + 3 = 15 := ⟨by decide +kernel, rfl⟩
theorem d_Se_append_15 : decode m_Se_append.2.1 15 = .ok (.aload_n 0, 1) ∧ 15 + 1 = 16 := ⟨by decide +kernel, rfl⟩
theorem d_Se_append_16 : decode m_Se_append.2.1 16 = .ok (.getfield 24, 3) ∧ 16 + 3 = 19 := ⟨by decide +kernel, rfl⟩
theorem d_Se_append_19 : decode m_Se_append.2.1 19 = .ok (.iload_n 1, 1) ∧ 19 + 1 = 20 := ⟨by decide +kernel, rfl⟩
theorem d_Se_append_20 : decode m_Se_append.2.1 20 = .ok (.iastore, 1) ∧ 20 + 1 = 21 := ⟨by decide +kernel, rfl⟩
theorem d_Se_append_21 : decode m_Se_append.2.1 21 = .ok (.aload_n 0, 1) ∧ 21 + 1 = 22 := ⟨by decide +kernel, rfl⟩
theorem d_Se_append_22 : decode m_Se_append.2.1 22 = .ok (.getfield 15, 3) ∧ 22 + 3 = 25 := ⟨by decide +kernel, rfl⟩
theorem d_Se_append_25 : decode m_Se_append.2.1 25 = .ok (.aload_n 0, 1) ∧ 25 + 1 = 26 := ⟨by decide +kernel, rfl⟩
theorem d_Se_append_26 : decode m_Se_append.2.1 26 = .ok (.getfield 24, 3) ∧ 26 + 3 = 29 := ⟨by decide +kernel, rfl⟩
theorem d_Se_append_29 : decode m_Se_append.2.1 29 = .ok (.iload_n 2, 1) ∧ 29 + 1 = 30 := ⟨by decide +kernel, rfl⟩
theorem d_Se_append_30 : decode m_Se_append.2.1 30 = .ok (.iastore, 1) ∧ 30 + 1 = 31 := ⟨by decide +kernel, rfl⟩
theorem d_Se_append_31 : decode m_Se_append.2.1 31 = .ok (.aload_n 0, 1) ∧ 31 + 1 = 32 := ⟨by decide +kernel, rfl⟩
theorem d_Se_append_32 : decode m_Se_append.2.1 32 = .ok (.getfield 18, 3) ∧ 32 + 3 = 35 := ⟨by decide +kernel, rfl⟩
theorem d_Se_append_35 : decode m_Se_append.2.1 35 = .ok (.aload_n 0, 1) ∧ 35 + 1 = 36 := ⟨by decide +kernel, rfl⟩
theorem d_Se_append_36 : decode m_Se_append.2.1 36 = .ok (.getfield 24, 3) ∧ 36 + 3 = 39 := ⟨by decide +kernel, rfl⟩
theorem d_Se_append_39 : decode m_Se_append.2.1 39 = .ok (.iload_n 3, 1) ∧ 39 + 1 = 40 := ⟨by decide +kernel, rfl⟩
theorem d_Se_append_40 : decode m_Se_append.2.1 40 = .ok (.iastore, 1) ∧ 40 + 1 = 41 := ⟨by decide +kernel, rfl⟩
theorem d_Se_append_41 : decode m_Se_append.2.1 41 = .ok (.aload_n 0, 1) ∧ 41 + 1 = 42 := ⟨by decide +kernel, rfl⟩
theorem d_Se_append_42 : decode m_Se_append.2.1 42 = .ok (.getfield 21, 3) ∧ 42 + 3 = 45 := ⟨by decide +kernel, rfl⟩
theorem d_Se_append_45 : decode m_Se_append.2.1 45 = .ok (.aload_n 0, 1) ∧ 45 + 1 = 46 := ⟨by decide +kernel, rfl⟩
theorem d_Se_append_46 : decode m_Se_append.2.1 46 = .ok (.getfield 24, 3) ∧ 46 + 3 = 49 := ⟨by decide +kernel, rfl⟩
theorem d_Se_append_49 : decode m_Se_append.2.1 49 = .ok (.iload 4, 2) ∧ 49 + 2 = 51 := ⟨by decide +kernel, rfl⟩
theorem d_Se_append_51 : decode m_Se_append.2.1 51 = .ok (.iastore, 1) ∧ 51 + 1 = 52 := ⟨by decide +kernel, rfl⟩
theorem d_Se_append_52 : decode m_Se_append.2.1 52 = .ok (.aload_n 0, 1) ∧ 52 + 1 = 53 := ⟨by decide +kernel, rfl⟩
theorem d_Se_append_53 : decode m_Se_append.2.1 53 = .ok (.dup, 1) ∧ 53 + 1 = 54 := ⟨by decide +kernel, rfl⟩
theorem d_Se_append_54 : decode m_Se_append.2.1 54 = .ok (.getfield 24, 3) ∧ 54 + 3 = 57 := ⟨by decide +kernel, rfl⟩
theorem d_Se_append_57 : decode m_Se_append.2.1 57 = .ok (.iconst 1, 1) ∧ 57 + 1 = 58 := ⟨by decide +kernel, rfl⟩
theorem d_Se_append_58 : decode m_Se_append.2.1 58 = .ok (.iadd, 1) ∧ 58 + 1 = 59 := ⟨by decide +kernel, rfl⟩
theorem d_Se_append_59 : decode m_Se_append.2.1 59 = .ok (.putfield 24, 3) ∧ 59 + 3 = 62 := ⟨by decide +kernel, rfl⟩
theorem d_Se_append_62 : decode m_Se_append.2.1 62 = .ok (.iconst 1, 1) ∧ 62 + 1 = 63 := ⟨by decide +kernel, rfl⟩
theorem d_Se_append_63 : decode m_Se_append.2.1 63 = .ok (.ireturn, 1) := by decide +kernel
theorem d_Se_copy_0 : decode m_Se_copy.2.1 0 = .ok (.iconst 0, 1) ∧ 0 + 1 = 1 := ⟨by decide +kernel, rfl⟩
theorem d_Se_copy_1 : decode m_Se_copy.2.1 1 = .ok (.istore_n 2, 1) ∧ 1 + 1 = 2 := ⟨by decide +kernel, rfl⟩
theorem d_Se_copy_2 : decode m_Se_copy.2.1 2 = .ok (.iload_n 2, 1) ∧ 2 + 1 = 3 := ⟨by decide +kernel, rfl⟩
theorem d_Se_copy_3 : decode m_Se_copy.2.1 3 = .ok (.aload_n 1, 1) ∧ 3 + 1 = 4 := ⟨by decide +kernel, rfl⟩
theorem d_Se_copy_4 : decode m_Se_copy.2.1 4 = .ok (.getfield 24, 3) ∧ 4 + 3 = 7 := ⟨by decide +kernel, rfl⟩
theorem d_Se_copy_7 : decode m_Se_copy.2.1 7 = .ok (.if_icmp .ge 57, 3) ∧ 7 + 3 = 10 ∧ (((7 : Nat) : Int) + (57) = ((64 : Nat) : Int)) := ⟨by decide +kernel, rfl, by decide⟩
theorem d_Se_copy_10 : decode m_Se_copy.2.1 10 = .ok (.aload_n 0, 1) ∧ 10 + 1 = 11 := ⟨by decide +kernel, rfl⟩
theorem d_Se_copy_11 : decode m_Se_copy.2.1 11 = .ok (.getfield 9, 3) ∧ 11 + 3 = 14 := ⟨by decide +kernel, rfl⟩
theorem d_Se_copy_14 : decode m_Se_copy.2.1 14 = .ok (.iload_n 2, 1) ∧ 14 + 1 = 15 := ⟨by decide +kernel, rfl⟩
theorem d_Se_copy_15 : decode m_Se_copy.2.1 15 = .ok (.aload_n 1, 1) ∧ 15 + 1 = 16 := ⟨by decide +kernel, rfl⟩
theorem d_Se_copy_16 : decode m_Se_copy.2.1 16 = .ok (.getfield 9, 3) ∧ 16 + 3 = 19 := ⟨by decide +kernel, rfl⟩
theorem d_Se_copy_19 : decode m_Se_copy.2.1 19 = .ok (.iload_n 2, 1) ∧ 19 + 1 = 20 := ⟨by decide +kernel, rfl⟩
theorem d_Se_copy_20 : decode m_Se_copy.2.1 20 = .ok (.iaload, 1) ∧ 20 + 1 = 21 := ⟨by decide +kernel, rfl⟩
theorem d_Se_copy_21 : decode m_Se_copy.2.1 21 = .ok (.iastore, 1) ∧ 21 + 1 = 22 := ⟨by decide +kernel, rfl⟩
theorem d_Se_copy_22 : decode m_Se_copy.2.1 22 = .ok (.aload_n 0, 1) ∧ 22 + 1 = 23 := ⟨by decide +kernel, rfl⟩
theorem d_Se_copy_23 : decode m_Se_copy.2.1 23 = .ok (.getfield 15, 3) ∧ 23 + 3 = 26 := ⟨by decide +kernel, rfl⟩
theorem d_Se_copy_26 : decode m_Se_copy.2.1 26 = .ok (.iload_n 2, 1) ∧ 26 + 1 = 27 := ⟨by decide +kernel, rfl⟩
theorem d_Se_copy_27 : decode m_Se_copy.2.1 27 = .ok (.aload_n 1, 1) ∧ 27 + 1 = 28 := ⟨by decide +kernel, rfl⟩
theorem d_Se_copy_28 : decode m_Se_copy.2.1 28 = .ok (.getfield 15, 3) ∧ 28 + 3 = 31 := ⟨by decide +kernel, rfl⟩
theorem d_Se_copy_31 : decode m_Se_copy.2.1 31 = .ok (.iload_n 2, 1) ∧ 31 + 1 = 32 := ⟨by decide +kernel, rfl⟩
theorem d_Se_copy_32 : decode m_Se_copy.2.1 32 = .ok (.iaload, 1) ∧ 32 + 1 = 33 := ⟨by decide +kernel, rfl⟩
theorem d_Se_copy_33 : decode m_Se_copy.2.1 33 = .ok (.iastore, 1) ∧ 33 + 1 = 34 := ⟨by decide +kernel, rfl⟩
theorem d_Se_copy_34 : decode m_Se_copy.2.1 34 = .ok (.aload_n 0, 1) ∧ 34 + 1 = 35 := ⟨by decide +kernel, rfl⟩
theorem d_Se_copy_35 : decode m_Se_copy.2.1 35 = .ok (.getfield 18, 3) ∧ 35 + 3 = 38 := ⟨by decide +kernel, rfl⟩
theorem d_Se_copy_38 : decode m_Se_copy.2.1 38 = .ok (.iload_n 2, 1) ∧ 38 + 1 = 39 := ⟨by decide +kernel, rfl⟩
theorem d_Se_copy_39 : decode m_Se_copy.2.1 39 = .ok (.aload_n 1, 1) ∧ 39 + 1 = 40 := ⟨by decide +kernel, rfl⟩
theorem d_Se_copy_40 : decode m_Se_copy.2.1 40 = .ok (.getfield 18, 3) ∧ 40 + 3 = 43 := ⟨by decide +kernel, rfl⟩
theorem d_Se_copy_43 : decode m_Se_copy.2.1 43 = .ok (.iload_n 2, 1) ∧ 43 + 1 = 44 := ⟨by decide +kernel, rfl⟩
theorem d_Se_copy_44 : decode m_Se_copy.2.1 44 = .ok (.iaload, 1) ∧ 44 + 1 = 45 := ⟨by decide +kernel, rfl⟩
theorem d_Se_copy_45 : decode m_Se_copy.2.1 45 = .ok (.iastore, 1) ∧ 45 + 1 = 46 := ⟨by decide +kernel, rfl⟩
theorem d_Se_copy_46 : decode m_Se_copy.2.1 46 = .ok (.aload_n 0, 1) ∧ 46 + 1 = 47 := ⟨by decide +kernel, rfl⟩
theorem d_Se_copy_47 : decode m_Se_copy.2.1 47 = .ok (.getfield 21, 3) ∧ 47 + 3 = 50 := ⟨by decide +kernel, rfl⟩
theorem d_Se_copy_50 : decode m_Se_copy.2.1 50 = .ok (.iload_n 2, 1) ∧ 50 + 1 = 51 := ⟨by decide +kernel, rfl⟩
theorem d_Se_copy_51 : decode m_Se_copy.2.1 51 = .ok (.aload_n 1, 1) ∧ 51 + 1 = 52 := ⟨by decide +kernel, rfl⟩
theorem d_Se_copy_52 : decode m_Se_copy.2.1 52 = .ok (.getfield 21, 3) ∧ 52 + 3 = 55 := ⟨by decide +kernel, rfl⟩
theorem d_Se_copy_55 : decode m_Se_copy.2.1 55 = .ok (.iload_n 2, 1) ∧ 55 + 1 = 56 := ⟨by decide +kernel, rfl⟩
theorem d_Se_copy_56 : decode m_Se_copy.2.1 56 = .ok (.iaload, 1) ∧ 56 + 1 = 57 := ⟨by decide +kernel, rfl⟩
theorem d_Se_copy_57 : decode m_Se_copy.2.1 57 = .ok (.iastore, 1) ∧ 57 + 1 = 58 := ⟨by decide +kernel, rfl⟩
theorem d_Se_copy_58 : decode m_Se_copy.2.1 58 = .ok (.iinc 2 1, 3) ∧ 58 + 3 = 61 := ⟨by decide +kernel, rfl⟩
theorem d_Se_copy_61 : decode m_Se_copy.2.1 61 = .ok (.goto (-59), 3) ∧ (((61 : Nat) : Int) + (-59) = ((2 : Nat) : Int)) := ⟨by decide +kernel, by decide⟩
theorem d_Se_copy_64 : decode m_Se_copy.2.1 64 = .ok (.aload_n 0, 1) ∧ 64 + 1 = 65 := ⟨by decide +kernel, rfl⟩
theorem d_Se_copy_65 : decode m_Se_copy.2.1 65 = .ok (.aload_n 1, 1) ∧ 65 + 1 = 66 := ⟨by decide +kernel, rfl⟩
theorem d_Se_copy_66 : decode m_Se_copy.2.1 66 = .ok (.getfield 24, 3) ∧ 66 + 3 = 69 := ⟨by decide +kernel, rfl⟩
theorem d_Se_copy_69 : decode m_Se_copy.2.1 69 = .ok (.putfield 24, 3) ∧ 69 + 3 = 72 := ⟨by decide +kernel, rfl⟩
theorem d_Se_copy_72 : decode m_Se_copy.2.1 72 = .ok (.return_, 1) := by decide +kernel
theorem d_Se_sortsOf_0 : decode m_Se_sortsOf.2.1 0 = .ok (.iconst 0, 1) ∧ 0 + 1 = 1 := ⟨by decide +kernel, rfl⟩
theorem d_Se_sortsOf_1 : decode m_Se_sortsOf.2.1 1 = .ok (.istore_n 3, 1) ∧ 1 + 1 = 2 := ⟨by decide +kernel, rfl⟩
theorem d_Se_sortsOf_2 : decode m_Se_sortsOf.2.1 2 = .ok (.iconst 0, 1) ∧ 2 + 1 = 3 := ⟨by decide +kernel, rfl⟩
theorem d_Se_sortsOf_3 : decode m_Se_sortsOf.2.1 3 = .ok (.istore 4, 2) ∧ 3 + 2 = 5 := ⟨by decide +kernel, rfl⟩
theorem d_Se_sortsOf_5 : decode m_Se_sortsOf.2.1 5 = .ok (.iload 4, 2) ∧ 5 + 2 = 7 := ⟨by decide +kernel, rfl⟩
theorem d_Se_sortsOf_7 : decode m_Se_sortsOf.2.1 7 = .ok (.iconst 5, 1) ∧ 7 + 1 = 8 := ⟨by decide +kernel, rfl⟩
theorem d_Se_sortsOf_8 : decode m_Se_sortsOf.2.1 8 = .ok (.if_icmp .ge 27, 3) ∧ 8 + 3 = 11 ∧ (((8 : Nat) : Int) + (27) = ((35 : Nat) : Int)) := ⟨by decide +kernel, rfl, by decide⟩
theorem d_Se_sortsOf_11 : decode m_Se_sortsOf.2.1 11 = .ok (.aload_n 0, 1) ∧ 11 + 1 = 12 := ⟨by decide +kernel, rfl⟩
theorem d_Se_sortsOf_12 : decode m_Se_sortsOf.2.1 12 = .ok (.iload 4, 2) ∧ 12 + 2 = 14 := ⟨by decide +kernel, rfl⟩
theorem d_Se_sortsOf_14 : decode m_Se_sortsOf.2.1 14 = .ok (.iload_n 1, 1) ∧ 14 + 1 = 15 := ⟨by decide +kernel, rfl⟩
theorem d_Se_sortsOf_15 : decode m_Se_sortsOf.2.1 15 = .ok (.aload_n 2, 1) ∧ 15 + 1 = 16 := ⟨by decide +kernel, rfl⟩
theorem d_Se_sortsOf_16 : decode m_Se_sortsOf.2.1 16 = .ok (.invokevirtual 28, 3) ∧ 16 + 3 = 19 := ⟨by decide +kernel, rfl⟩
theorem d_Se_sortsOf_19 : decode m_Se_sortsOf.2.1 19 = .ok (.ifCond .eq 10, 3) ∧ 19 + 3 = 22 ∧ (((19 : Nat) : Int) + (10) = ((29 : Nat) : Int)) := ⟨by decide +kernel, rfl, by decide⟩
theorem d_Se_sortsOf_22 : decode m_Se_sortsOf.2.1 22 = .ok (.iload_n 3, 1) ∧ 22 + 1 = 23 := ⟨by decide +kernel, rfl⟩
theorem d_Se_sortsOf_23 : decode m_Se_sortsOf.2.1 23 = .ok (.iconst 1, 1) ∧ 23 + 1 = 24 := ⟨by decide +kernel, rfl⟩
theorem d_Se_sortsOf_24 : decode m_Se_sortsOf.2.1 24 = .ok (.iload 4, 2) ∧ 24 + 2 = 26 := ⟨by decide +kernel, rfl⟩
theorem d_Se_sortsOf_26 : decode m_Se_sortsOf.2.1 26 = .ok (.ishl, 1) ∧ 26 + 1 = 27 := ⟨by decide +kernel, rfl⟩
theorem d_Se_sortsOf_27 : decode m_Se_sortsOf.2.1 27 = .ok (.ior, 1) ∧ 27 + 1 = 28 := ⟨by decide +kernel, rfl⟩
theorem d_Se_sortsOf_28 : decode m_Se_sortsOf.2.1 28 = .ok (.istore_n 3, 1) ∧ 28 + 1 = 29 := ⟨by decide +kernel, rfl⟩
theorem d_Se_sortsOf_29 : decode m_Se_sortsOf.2.1 29 = .ok (.iinc 4 1, 3) ∧ 29 + 3 = 32 := ⟨by decide +kernel, rfl⟩
theorem d_Se_sortsOf_32 : decode m_Se_sortsOf.2.1 32 = .ok (.goto (-27), 3) ∧ (((32 : Nat) : Int) + (-27) = ((5 : Nat) : Int)) := ⟨by decide +kernel, by decide⟩
theorem d_Se_sortsOf_35 : decode m_Se_sortsOf.2.1 35 = .ok (.iload_n 3, 1) ∧ 35 + 1 = 36 := ⟨by decide +kernel, rfl⟩
theorem d_Se_sortsOf_36 : decode m_Se_sortsOf.2.1 36 = .ok (.ireturn, 1) := by decide +kernel
theorem d_Se_canBe_0 : decode m_Se_canBe.2.1 0 = .ok (.iconst 0, 1) ∧ 0 + 1 = 1 := ⟨by decide +kernel, rfl⟩
theorem d_Se_canBe_1 : decode m_Se_canBe.2.1 1 = .ok (.istore 4, 2) ∧ 1 + 2 = 3 := ⟨by decide +kernel, rfl⟩
theorem d_Se_canBe_3 : decode m_Se_canBe.2.1 3 = .ok (.iload 4, 2) ∧ 3 + 2 = 5 := ⟨by decide +kernel, rfl⟩
theorem d_Se_canBe_5 : decode m_Se_canBe.2.1 5 = .ok (.aload_n 0, 1) ∧ 5 + 1 = 6 := ⟨by decide +kernel, rfl⟩
theorem d_Se_canBe_6 : decode m_Se_canBe.2.1 6 = .ok (.getfield 24, 3) ∧ 6 + 3 = 9 := ⟨by decide +kernel, rfl⟩
theorem d_Se_canBe_9 : decode m_Se_canBe.2.1 9 = .ok (.if_icmp .ge 51, 3) ∧ 9 + 3 = 12 ∧ (((9 : Nat) : Int) + (51) = ((60 : Nat) : Int)) := ⟨by decide +kernel, rfl, by decide⟩
theorem d_Se_canBe_12 : decode m_Se_canBe.2.1 12 = .ok (.aload_n 0, 1) ∧ 12 + 1 = 13 := ⟨by decide +kernel, rfl⟩
theorem d_Se_canBe_13 : decode m_Se_canBe.2.1 13 = .ok (.getfield 9, 3) ∧ 13 + 3 = 16 := ⟨by decide +kernel, rfl⟩
theorem d_Se_canBe_16 : decode m_Se_canBe.2.1 16 = .ok (.iload 4, 2) ∧ 16 + 2 = 18 := ⟨by decide +kernel, rfl⟩
theorem d_Se_canBe_18 : decode m_Se_canBe.2.1 18 = .ok (.iaload, 1) ∧ 18 + 1 = 19 := ⟨by decide +kernel, rfl⟩
theorem d_Se_canBe_19 : decode m_Se_canBe.2.1 19 = .ok (.iload_n 2, 1) ∧ 19 + 1 = 20 := ⟨by decide +kernel, rfl⟩
theorem d_Se_canBe_20 : decode m_Se_canBe.2.1 20 = .ok (.if_icmp .ne 34, 3) ∧ 20 + 3 = 23 ∧ (((20 : Nat) : Int) + (34) = ((54 : Nat) : Int)) := ⟨by decide +kernel, rfl, by decide⟩
theorem d_Se_canBe_23 : decode m_Se_canBe.2.1 23 = .ok (.aload_n 3, 1) ∧ 23 + 1 = 24 := ⟨by decide +kernel, rfl⟩
theorem d_Se_canBe_24 : decode m_Se_canBe.2.1 24 = .ok (.iload_n 1, 1) ∧ 24 + 1 = 25 := ⟨by decide +kernel, rfl⟩
theorem d_Se_canBe_25 : decode m_Se_canBe.2.1 25 = .ok (.aload_n 0, 1) ∧ 25 + 1 = 26 := ⟨by decide +kernel, rfl⟩
theorem d_Se_canBe_26 : decode m_Se_canBe.2.1 26 = .ok (.getfield 15, 3) ∧ 26 + 3 = 29 := ⟨by decide +kernel, rfl⟩
theorem d_Se_canBe_29 : decode m_Se_canBe.2.1 29 = .ok (.iload 4, 2) ∧ 29 + 2 = 31 := ⟨by decide +kernel, rfl⟩
theorem d_Se_canBe_31 : decode m_Se_canBe.2.1 31 = .ok (.iaload, 1) ∧ 31 + 1 = 32 := ⟨by decide +kernel, rfl⟩
theorem d_Se_canBe_32 : decode m_Se_canBe.2.1 32 = .ok (.aload_n 0, 1) ∧ 32 + 1 = 33 := ⟨by decide +kernel, rfl⟩
theorem d_Se_canBe_33 : decode m_Se_canBe.2.1 33 = .ok (.getfield 18, 3) ∧ 33 + 3 = 36 := ⟨by decide +kernel, rfl⟩
theorem d_Se_canBe_36 : decode m_Se_canBe.2.1 36 = .ok (.iload 4, 2) ∧ 36 + 2 = 38 := ⟨by decide +kernel, rfl⟩
theorem d_Se_canBe_38 : decode m_Se_canBe.2.1 38 = .ok (.iaload, 1) ∧ 38 + 1 = 39 := ⟨by decide +kernel, rfl⟩
theorem d_Se_canBe_39 : decode m_Se_canBe.2.1 39 = .ok (.invokevirtual 32, 3) ∧ 39 + 3 = 42 := ⟨by decide +kernel, rfl⟩
theorem d_Se_canBe_42 : decode m_Se_canBe.2.1 42 = .ok (.aload_n 0, 1) ∧ 42 + 1 = 43 := ⟨by decide +kernel, rfl⟩
theorem d_Se_canBe_43 : decode m_Se_canBe.2.1 43 = .ok (.getfield 21, 3) ∧ 43 + 3 = 46 := ⟨by decide +kernel, rfl⟩
theorem d_Se_canBe_46 : decode m_Se_canBe.2.1 46 = .ok (.iload 4, 2) ∧ 46 + 2 = 48 := ⟨by decide +kernel, rfl⟩
theorem d_Se_canBe_48 : decode m_Se_canBe.2.1 48 = .ok (.iaload, 1) ∧ 48 + 1 = 49 := ⟨by decide +kernel, rfl⟩
theorem d_Se_canBe_49 : decode m_Se_canBe.2.1 49 = .ok (.if_icmp .eq 5, 3) ∧ 49 + 3 = 52 ∧ (((49 : Nat) : Int) + (5) = ((54 : Nat) : Int)) := ⟨by decide +kernel, rfl, by decide⟩
theorem d_Se_canBe_52 : decode m_Se_canBe.2.1 52 = .ok (.iconst 0, 1) ∧ 52 + 1 = 53 := ⟨by decide +kernel, rfl⟩
theorem d_Se_canBe_53 : decode m_Se_canBe.2.1 53 = .ok (.ireturn, 1) := by decide +kernel
theorem d_Se_canBe_54 : decode m_Se_canBe.2.1 54 = .ok (.iinc 4 1, 3) ∧ 54 + 3 = 57 := ⟨by decide +kernel, rfl⟩
theorem d_Se_canBe_57 : decode m_Se_canBe.2.1 57 = .ok (.goto (-54), 3) ∧ (((57 : Nat) : Int) + (-54) = ((3 : Nat) : Int)) := ⟨by decide +kernel, by decide⟩
theorem d_Se_canBe_60 : decode m_Se_canBe.2.1 60 = .ok (.iconst 1, 1) ∧ 60 + 1 = 61 := ⟨by decide +kernel, rfl⟩
theorem d_Se_canBe_61 : decode m_Se_canBe.2.1 61 = .ok (.ireturn, 1) := by decide +kernel
theorem d_Se_nextAsk_0 : decode m_Se_nextAsk.2.1 0 = .ok (.iload_n 0, 1) ∧ 0 + 1 = 1 := ⟨by decide +kernel, rfl⟩
theorem d_Se_nextAsk_1 : decode m_Se_nextAsk.2.1 1 = .ok (.ifCond .ne 5, 3) ∧ 1 + 3 = 4 ∧ (((1 : Nat) : Int) + (5) = ((6 : Nat) : Int)) := ⟨by decide +kernel, rfl, by decide⟩
theorem d_Se_nextAsk_4 : decode m_Se_nextAsk.2.1 4 = .ok (.iconst (-1), 1) ∧ 4 + 1 = 5 := ⟨by decide +kernel, rfl⟩
theorem d_Se_nextAsk_5 : decode m_Se_nextAsk.2.1 5 = .ok (.ireturn, 1) := by decide +kernel
theorem d_Se_nextAsk_6 : decode m_Se_nextAsk.2.1 6 = .ok (.bipush (-9), 2) ∧ 6 + 2 = 8 ∧ (Int8.ofInt (-9)).toInt32 = Int32.ofInt (-9) := ⟨by decide +kernel, rfl, by decide +kernel⟩
theorem d_Se_nextAsk_8 : decode m_Se_nextAsk.2.1 8 = .ok (.istore_n 2, 1) ∧ 8 + 1 = 9 := ⟨by decide +kernel, rfl⟩
theorem d_Se_nextAsk_9 : decode m_Se_nextAsk.2.1 9 = .ok (.bipush 6, 2) ∧ 9 + 2 = 11 ∧ (Int8.ofInt 6).toInt32 = Int32.ofInt 6 := ⟨by decide +kernel, rfl, by decide +kernel⟩
theorem d_Se_nextAsk_11 : decode m_Se_nextAsk.2.1 11 = .ok (.istore_n 3, 1) ∧ 11 + 1 = 12 := ⟨by decide +kernel, rfl⟩
theorem d_Se_nextAsk_12 : decode m_Se_nextAsk.2.1 12 = .ok (.bipush (-9), 2) ∧ 12 + 2 = 14 ∧ (Int8.ofInt (-9)).toInt32 = Int32.ofInt (-9) := ⟨by decide +kernel, rfl, by decide +kernel⟩
theorem d_Se_nextAsk_14 : decode m_Se_nextAsk.2.1 14 = .ok (.istore 4, 2) ∧ 14 + 2 = 16 := ⟨by decide +kernel, rfl⟩
theorem d_Se_nextAsk_16 : decode m_Se_nextAsk.2.1 16 = .ok (.iload 4, 2) ∧ 16 + 2 = 18 := ⟨by decide +kernel, rfl⟩
theorem d_Se_nextAsk_18 : decode m_Se_nextAsk.2.1 18 = .ok (.bipush 9, 2) ∧ 18 + 2 = 20 ∧ (Int8.ofInt 9).toInt32 = Int32.ofInt 9 := ⟨by decide +kernel, rfl, by decide +kernel⟩
theorem d_Se_nextAsk_20 : decode m_Se_nextAsk.2.1 20 = .ok (.if_icmp .gt 30, 3) ∧ 20 + 3 = 23 ∧ (((20 : Nat) : Int) + (30) = ((50 : Nat) : Int)) := ⟨by decide +kernel, rfl, by decide⟩
theorem d_Se_nextAsk_23 : decode m_Se_nextAsk.2.1 23 = .ok (.iload_n 0, 1) ∧ 23 + 1 = 24 := ⟨by decide +kernel, rfl⟩
theorem d_Se_nextAsk_24 : decode m_Se_nextAsk.2.1 24 = .ok (.aload_n 1, 1) ∧ 24 + 1 = 25 := ⟨by decide +kernel, rfl⟩
theorem d_Se_nextAsk_25 : decode m_Se_nextAsk.2.1 25 = .ok (.iload 4, 2) ∧ 25 + 2 = 27 := ⟨by decide +kernel, rfl⟩
theorem d_Se_nextAsk_27 : decode m_Se_nextAsk.2.1 27 = .ok (.invokestatic 38, 3) ∧ 27 + 3 = 30 := ⟨by decide +kernel, rfl⟩
theorem d_Se_nextAsk_30 : decode m_Se_nextAsk.2.1 30 = .ok (.istore 5, 2) ∧ 30 + 2 = 32 := ⟨by decide +kernel, rfl⟩
theorem d_Se_nextAsk_32 : decode m_Se_nextAsk.2.1 32 = .ok (.iload 5, 2) ∧ 32 + 2 = 34 := ⟨by decide +kernel, rfl⟩
theorem d_Se_nextAsk_34 : decode m_Se_nextAsk.2.1 34 = .ok (.iload_n 3, 1) ∧ 34 + 1 = 35 := ⟨by decide +kernel, rfl⟩
theorem d_Se_nextAsk_35 : decode m_Se_nextAsk.2.1 35 = .ok (.if_icmp .ge 9, 3) ∧ 35 + 3 = 38 ∧ (((35 : Nat) : Int) + (9) = ((44 : Nat) : Int)) := ⟨by decide +kernel, rfl, by decide⟩
theorem d_Se_nextAsk_38 : decode m_Se_nextAsk.2.1 38 = .ok (.iload 5, 2) ∧ 38 + 2 = 40 := ⟨by decide +kernel, rfl⟩
theorem d_Se_nextAsk_40 : decode m_Se_nextAsk.2.1 40 = .ok (.istore_n 3, 1) ∧ 40 + 1 = 41 := ⟨by decide +kernel, rfl⟩
theorem d_Se_nextAsk_41 : decode m_Se_nextAsk.2.1 41 = .ok (.iload 4, 2) ∧ 41 + 2 = 43 := ⟨by decide +kernel, rfl⟩
theorem d_Se_nextAsk_43 : decode m_Se_nextAsk.2.1 43 = .ok (.istore_n 2, 1) ∧ 43 + 1 = 44 := ⟨by decide +kernel, rfl⟩
theorem d_Se_nextAsk_44 : decode m_Se_nextAsk.2.1 44 = .ok (.iinc 4 1, 3) ∧ 44 + 3 = 47 := ⟨by decide +kernel, rfl⟩
theorem d_Se_nextAsk_47 : decode m_Se_nextAsk.2.1 47 = .ok (.goto (-31), 3) ∧ (((47 : Nat) : Int) + (-31) = ((16 : Nat) : Int)) := ⟨by decide +kernel, by decide⟩
theorem d_Se_nextAsk_50 : decode m_Se_nextAsk.2.1 50 = .ok (.iload_n 2, 1) ∧ 50 + 1 = 51 := ⟨by decide +kernel, rfl⟩
theorem d_Se_nextAsk_51 : decode m_Se_nextAsk.2.1 51 = .ok (.bipush 9, 2) ∧ 51 + 2 = 53 ∧ (Int8.ofInt 9).toInt32 = Int32.ofInt 9 := ⟨by decide +kernel, rfl, by decide +kernel⟩
theorem d_Se_nextAsk_53 : decode m_Se_nextAsk.2.1 53 = .ok (.iadd, 1) ∧ 53 + 1 = 54 := ⟨by decide +kernel, rfl⟩
theorem d_Se_nextAsk_54 : decode m_Se_nextAsk.2.1 54 = .ok (.ireturn, 1) := by decide +kernel
theorem d_Se_leftAtWorst_0 : decode m_Se_leftAtWorst.2.1 0 = .ok (.iconst 0, 1) ∧ 0 + 1 = 1 := ⟨by decide +kernel, rfl⟩
theorem d_Se_leftAtWorst_1 : decode m_Se_leftAtWorst.2.1 1 = .ok (.istore_n 3, 1) ∧ 1 + 1 = 2 := ⟨by decide +kernel, rfl⟩
theorem d_Se_leftAtWorst_2 : decode m_Se_leftAtWorst.2.1 2 = .ok (.iconst 0, 1) ∧ 2 + 1 = 3 := ⟨by decide +kernel, rfl⟩
theorem d_Se_leftAtWorst_3 : decode m_Se_leftAtWorst.2.1 3 = .ok (.istore 4, 2) ∧ 3 + 2 = 5 := ⟨by decide +kernel, rfl⟩
theorem d_Se_leftAtWorst_5 : decode m_Se_leftAtWorst.2.1 5 = .ok (.iconst 0, 1) ∧ 5 + 1 = 6 := ⟨by decide +kernel, rfl⟩
theorem d_Se_leftAtWorst_6 : decode m_Se_leftAtWorst.2.1 6 = .ok (.istore 5, 2) ∧ 6 + 2 = 8 := ⟨by decide +kernel, rfl⟩
theorem d_Se_leftAtWorst_8 : decode m_Se_leftAtWorst.2.1 8 = .ok (.iconst 0, 1) ∧ 8 + 1 = 9 := ⟨by decide +kernel, rfl⟩
theorem d_Se_leftAtWorst_9 : decode m_Se_leftAtWorst.2.1 9 = .ok (.istore 6, 2) ∧ 9 + 2 = 11 := ⟨by decide +kernel, rfl⟩
theorem d_Se_leftAtWorst_11 : decode m_Se_leftAtWorst.2.1 11 = .ok (.iload 6, 2) ∧ 11 + 2 = 13 := ⟨by decide +kernel, rfl⟩
theorem d_Se_leftAtWorst_13 : decode m_Se_leftAtWorst.2.1 13 = .ok (.iconst 5, 1) ∧ 13 + 1 = 14 := ⟨by decide +kernel, rfl⟩
theorem d_Se_leftAtWorst_14 : decode m_Se_leftAtWorst.2.1 14 = .ok (.if_icmp .ge 74, 3) ∧ 14 + 3 = 17 ∧ (((14 : Nat) : Int) + (74) = ((88 : Nat) : Int)) := ⟨by decide +kernel, rfl, by decide⟩
theorem d_Se_leftAtWorst_17 : decode m_Se_leftAtWorst.2.1 17 = .ok (.iload_n 0, 1) ∧ 17 + 1 = 18 := ⟨by decide +kernel, rfl⟩
theorem d_Se_leftAtWorst_18 : decode m_Se_leftAtWorst.2.1 18 = .ok (.iload 6, 2) ∧ 18 + 2 = 20 := ⟨by decide +kernel, rfl⟩
theorem d_Se_leftAtWorst_20 : decode m_Se_leftAtWorst.2.1 20 = .ok (.ishr, 1) ∧ 20 + 1 = 21 := ⟨by decide +kernel, rfl⟩
theorem d_Se_leftAtWorst_21 : decode m_Se_leftAtWorst.2.1 21 = .ok (.iconst 1, 1) ∧ 21 + 1 = 22 := ⟨by decide +kernel, rfl⟩
theorem d_Se_leftAtWorst_22 : decode m_Se_leftAtWorst.2.1 22 = .ok (.iand, 1) ∧ 22 + 1 = 23 := ⟨by decide +kernel, rfl⟩
theorem d_Se_leftAtWorst_23 : decode m_Se_leftAtWorst.2.1 23 = .ok (.iconst 1, 1) ∧ 23 + 1 = 24 := ⟨by decide +kernel, rfl⟩
theorem d_Se_leftAtWorst_24 : decode m_Se_leftAtWorst.2.1 24 = .ok (.if_icmp .ne 58, 3) ∧ 24 + 3 = 27 ∧ (((24 : Nat) : Int) + (58) = ((82 : Nat) : Int)) := ⟨by decide +kernel, rfl, by decide⟩
theorem d_Se_leftAtWorst_27 : decode m_Se_leftAtWorst.2.1 27 = .ok (.aload_n 1, 1) ∧ 27 + 1 = 28 := ⟨by decide +kernel, rfl⟩
theorem d_Se_leftAtWorst_28 : decode m_Se_leftAtWorst.2.1 28 = .ok (.iload 6, 2) ∧ 28 + 2 = 30 := ⟨by decide +kernel, rfl⟩
theorem d_Se_leftAtWorst_30 : decode m_Se_leftAtWorst.2.1 30 = .ok (.iload_n 2, 1) ∧ 30 + 1 = 31 := ⟨by decide +kernel, rfl⟩
theorem d_Se_leftAtWorst_31 : decode m_Se_leftAtWorst.2.1 31 = .ok (.iconst 0, 1) ∧ 31 + 1 = 32 := ⟨by decide +kernel, rfl⟩
theorem d_Se_leftAtWorst_32 : decode m_Se_leftAtWorst.2.1 32 = .ok (.invokevirtual 32, 3) ∧ 32 + 3 = 35 := ⟨by decide +kernel, rfl⟩
theorem d_Se_leftAtWorst_35 : decode m_Se_leftAtWorst.2.1 35 = .ok (.istore 7, 2) ∧ 35 + 2 = 37 := ⟨by decide +kernel, rfl⟩
theorem d_Se_leftAtWorst_37 : decode m_Se_leftAtWorst.2.1 37 = .ok (.iload_n 3, 1) ∧ 37 + 1 = 38 := ⟨by decide +kernel, rfl⟩
theorem d_Se_leftAtWorst_38 : decode m_Se_leftAtWorst.2.1 38 = .ok (.iload 7, 2) ∧ 38 + 2 = 40 := ⟨by decide +kernel, rfl⟩
theorem d_Se_leftAtWorst_40 : decode m_Se_leftAtWorst.2.1 40 = .ok (.ifCond .ne 7, 3) ∧ 40 + 3 = 43 ∧ (((40 : Nat) : Int) + (7) = ((47 : Nat) : Int)) := ⟨by decide +kernel, rfl, by decide⟩
theorem d_Se_leftAtWorst_43 : decode m_Se_leftAtWorst.2.1 43 = .ok (.iconst 1, 1) ∧ 43 + 1 = 44 := ⟨by decide +kernel, rfl⟩
theorem d_Se_leftAtWorst_44 : decode m_Se_leftAtWorst.2.1 44 = .ok (.goto 4, 3) ∧ (((44 : Nat) : Int) + (4) = ((48 : Nat) : Int)) := ⟨by decide +kernel, by decide⟩
theorem d_Se_leftAtWorst_47 : decode m_Se_leftAtWorst.2.1 47 = .ok (.iconst 0, 1) ∧ 47 + 1 = 48 := ⟨by decide +kernel, rfl⟩
theorem d_Se_leftAtWorst_48 : decode m_Se_leftAtWorst.2.1 48 = .ok (.iadd, 1) ∧ 48 + 1 = 49 := ⟨by decide +kernel, rfl⟩
theorem d_Se_leftAtWorst_49 : decode m_Se_leftAtWorst.2.1 49 = .ok (.istore_n 3, 1) ∧ 49 + 1 = 50 := ⟨by decide +kernel, rfl⟩
theorem d_Se_leftAtWorst_50 : decode m_Se_leftAtWorst.2.1 50 = .ok (.iload 4, 2) ∧ 50 + 2 = 52 := ⟨by decide +kernel, rfl⟩
theorem d_Se_leftAtWorst_52 : decode m_Se_leftAtWorst.2.1 52 = .ok (.iload 7, 2) ∧ 52 + 2 = 54 := ⟨by decide +kernel, rfl⟩
theorem d_Se_leftAtWorst_54 : decode m_Se_leftAtWorst.2.1 54 = .ok (.iconst 1, 1) ∧ 54 + 1 = 55 := ⟨by decide +kernel, rfl⟩
theorem d_Se_leftAtWorst_55 : decode m_Se_leftAtWorst.2.1 55 = .ok (.if_icmp .ne 7, 3) ∧ 55 + 3 = 58 ∧ (((55 : Nat) : Int) + (7) = ((62 : Nat) : Int)) := ⟨by decide +kernel, rfl, by decide⟩
theorem d_Se_leftAtWorst_58 : decode m_Se_leftAtWorst.2.1 58 = .ok (.iconst 1, 1) ∧ 58 + 1 = 59 := ⟨by decide +kernel, rfl⟩
theorem d_Se_leftAtWorst_59 : decode m_Se_leftAtWorst.2.1 59 = .ok (.goto 4, 3) ∧ (((59 : Nat) : Int) + (4) = ((63 : Nat) : Int)) := ⟨by decide +kernel, by decide⟩
theorem d_Se_leftAtWorst_62 : decode m_Se_leftAtWorst.2.1 62 = .ok (.iconst 0, 1) ∧ 62 + 1 = 63 := ⟨by decide +kernel, rfl⟩
theorem d_Se_leftAtWorst_63 : decode m_Se_leftAtWorst.2.1 63 = .ok (.iadd, 1) ∧ 63 + 1 = 64 := ⟨by decide +kernel, rfl⟩
theorem d_Se_leftAtWorst_64 : decode m_Se_leftAtWorst.2.1 64 = .ok (.istore 4, 2) ∧ 64 + 2 = 66 := ⟨by decide +kernel, rfl⟩
theorem d_Se_leftAtWorst_66 : decode m_Se_leftAtWorst.2.1 66 = .ok (.iload 5, 2) ∧ 66 + 2 = 68 := ⟨by decide +kernel, rfl⟩
theorem d_Se_leftAtWorst_68 : decode m_Se_leftAtWorst.2.1 68 = .ok (.iload 7, 2) ∧ 68 + 2 = 70 := ⟨by decide +kernel, rfl⟩
theorem d_Se_leftAtWorst_70 : decode m_Se_leftAtWorst.2.1 70 = .ok (.iconst 2, 1) ∧ 70 + 1 = 71 := ⟨by decide +kernel, rfl⟩
theorem d_Se_leftAtWorst_71 : decode m_Se_leftAtWorst.2.1 71 = .ok (.if_icmp .ne 7, 3) ∧ 71 + 3 = 74 ∧ (((71 : Nat) : Int) + (7) = ((78 : Nat) : Int)) := ⟨by decide +kernel, rfl, by decide⟩
theorem d_Se_leftAtWorst_74 : decode m_Se_leftAtWorst.2.1 74 = .ok (.iconst 1, 1) ∧ 74 + 1 = 75 := ⟨by decide +kernel, rfl⟩
theorem d_Se_leftAtWorst_75 : decode m_Se_leftAtWorst.2.1 75 = .ok (.goto 4, 3) ∧ (((75 : Nat) : Int) + (4) = ((79 : Nat) : Int)) := ⟨by decide +kernel, by decide⟩
theorem d_Se_leftAtWorst_78 : decode m_Se_leftAtWorst.2.1 78 = .ok (.iconst 0, 1) ∧ 78 + 1 = 79 := ⟨by decide +kernel, rfl⟩
theorem d_Se_leftAtWorst_79 : decode m_Se_leftAtWorst.2.1 79 = .ok (.iadd, 1) ∧ 79 + 1 = 80 := ⟨by decide +kernel, rfl⟩
theorem d_Se_leftAtWorst_80 : decode m_Se_leftAtWorst.2.1 80 = .ok (.istore 5, 2) ∧ 80 + 2 = 82 := ⟨by decide +kernel, rfl⟩
theorem d_Se_leftAtWorst_82 : decode m_Se_leftAtWorst.2.1 82 = .ok (.iinc 6 1, 3) ∧ 82 + 3 = 85 := ⟨by decide +kernel, rfl⟩
theorem d_Se_leftAtWorst_85 : decode m_Se_leftAtWorst.2.1 85 = .ok (.goto (-74), 3) ∧ (((85 : Nat) : Int) + (-74) = ((11 : Nat) : Int)) := ⟨by decide +kernel, by decide⟩
theorem d_Se_leftAtWorst_88 : decode m_Se_leftAtWorst.2.1 88 = .ok (.iload_n 3, 1) ∧ 88 + 1 = 89 := ⟨by decide +kernel, rfl⟩
theorem d_Se_leftAtWorst_89 : decode m_Se_leftAtWorst.2.1 89 = .ok (.iload 4, 2) ∧ 89 + 2 = 91 := ⟨by decide +kernel, rfl⟩
theorem d_Se_leftAtWorst_91 : decode m_Se_leftAtWorst.2.1 91 = .ok (.iload 5, 2) ∧ 91 + 2 = 93 := ⟨by decide +kernel, rfl⟩
theorem d_Se_leftAtWorst_93 : decode m_Se_leftAtWorst.2.1 93 = .ok (.invokestatic 42, 3) ∧ 93 + 3 = 96 := ⟨by decide +kernel, rfl⟩
theorem d_Se_leftAtWorst_96 : decode m_Se_leftAtWorst.2.1 96 = .ok (.invokestatic 42, 3) ∧ 96 + 3 = 99 := ⟨by decide +kernel, rfl⟩
theorem d_Se_leftAtWorst_99 : decode m_Se_leftAtWorst.2.1 99 = .ok (.ireturn, 1) := by decide +kernel
theorem d_In_compare_0 : decode m_In_compare.2.1 0 = .ok (.iload_n 0, 1) ∧ 0 + 1 = 1 := ⟨by decide +kernel, rfl⟩
theorem d_In_compare_1 : decode m_In_compare.2.1 1 = .ok (.iload_n 1, 1) ∧ 1 + 1 = 2 := ⟨by decide +kernel, rfl⟩
theorem d_In_compare_2 : decode m_In_compare.2.1 2 = .ok (.if_icmp .ge 7, 3) ∧ 2 + 3 = 5 ∧ (((2 : Nat) : Int) + (7) = ((9 : Nat) : Int)) := ⟨by decide +kernel, rfl, by decide⟩
theorem d_In_compare_5 : decode m_In_compare.2.1 5 = .ok (.iconst (-1), 1) ∧ 5 + 1 = 6 := ⟨by decide +kernel, rfl⟩
theorem d_In_compare_6 : decode m_In_compare.2.1 6 = .ok (.goto 13, 3) ∧ (((6 : Nat) : Int) + (13) = ((19 : Nat) : Int)) := ⟨by decide +kernel, by decide⟩
theorem d_In_compare_9 : decode m_In_compare.2.1 9 = .ok (.iload_n 0, 1) ∧ 9 + 1 = 10 := ⟨by decide +kernel, rfl⟩
theorem d_In_compare_10 : decode m_In_compare.2.1 10 = .ok (.iload_n 1, 1) ∧ 10 + 1 = 11 := ⟨by decide +kernel, rfl⟩
theorem d_In_compare_11 : decode m_In_compare.2.1 11 = .ok (.if_icmp .ne 7, 3) ∧ 11 + 3 = 14 ∧ (((11 : Nat) : Int) + (7) = ((18 : Nat) : Int)) := ⟨by decide +kernel, rfl, by decide⟩
theorem d_In_compare_14 : decode m_In_compare.2.1 14 = .ok (.iconst 0, 1) ∧ 14 + 1 = 15 := ⟨by decide +kernel, rfl⟩
theorem d_In_compare_15 : decode m_In_compare.2.1 15 = .ok (.goto 4, 3) ∧ (((15 : Nat) : Int) + (4) = ((19 : Nat) : Int)) := ⟨by decide +kernel, by decide⟩
theorem d_In_compare_18 : decode m_In_compare.2.1 18 = .ok (.iconst 1, 1) ∧ 18 + 1 = 19 := ⟨by decide +kernel, rfl⟩
theorem d_In_compare_19 : decode m_In_compare.2.1 19 = .ok (.ireturn, 1) := by decide +kernel
theorem d_Lo_compare_0 : decode m_Lo_compare.2.1 0 = .ok (.lload_n 0, 1) ∧ 0 + 1 = 1 := ⟨by decide +kernel, rfl⟩
theorem d_Lo_compare_1 : decode m_Lo_compare.2.1 1 = .ok (.lload_n 2, 1) ∧ 1 + 1 = 2 := ⟨by decide +kernel, rfl⟩
theorem d_Lo_compare_2 : decode m_Lo_compare.2.1 2 = .ok (.lcmp, 1) ∧ 2 + 1 = 3 := ⟨by decide +kernel, rfl⟩
theorem d_Lo_compare_3 : decode m_Lo_compare.2.1 3 = .ok (.ifCond .ge 7, 3) ∧ 3 + 3 = 6 ∧ (((3 : Nat) : Int) + (7) = ((10 : Nat) : Int)) := ⟨by decide +kernel, rfl, by decide⟩
theorem d_Lo_compare_6 : decode m_Lo_compare.2.1 6 = .ok (.iconst (-1), 1) ∧ 6 + 1 = 7 := ⟨by decide +kernel, rfl⟩
theorem d_Lo_compare_7 : decode m_Lo_compare.2.1 7 = .ok (.goto 14, 3) ∧ (((7 : Nat) : Int) + (14) = ((21 : Nat) : Int)) := ⟨by decide +kernel, by decide⟩
theorem d_Lo_compare_10 : decode m_Lo_compare.2.1 10 = .ok (.lload_n 0, 1) ∧ 10 + 1 = 11 := ⟨by decide +kernel, rfl⟩
theorem d_Lo_compare_11 : decode m_Lo_compare.2.1 11 = .ok (.lload_n 2, 1) ∧ 11 + 1 = 12 := ⟨by decide +kernel, rfl⟩
theorem d_Lo_compare_12 : decode m_Lo_compare.2.1 12 = .ok (.lcmp, 1) ∧ 12 + 1 = 13 := ⟨by decide +kernel, rfl⟩
theorem d_Lo_compare_13 : decode m_Lo_compare.2.1 13 = .ok (.ifCond .ne 7, 3) ∧ 13 + 3 = 16 ∧ (((13 : Nat) : Int) + (7) = ((20 : Nat) : Int)) := ⟨by decide +kernel, rfl, by decide⟩
theorem d_Lo_compare_16 : decode m_Lo_compare.2.1 16 = .ok (.iconst 0, 1) ∧ 16 + 1 = 17 := ⟨by decide +kernel, rfl⟩
theorem d_Lo_compare_17 : decode m_Lo_compare.2.1 17 = .ok (.goto 4, 3) ∧ (((17 : Nat) : Int) + (4) = ((21 : Nat) : Int)) := ⟨by decide +kernel, by decide⟩
theorem d_Lo_compare_20 : decode m_Lo_compare.2.1 20 = .ok (.iconst 1, 1) ∧ 20 + 1 = 21 := ⟨by decide +kernel, rfl⟩
theorem d_Lo_compare_21 : decode m_Lo_compare.2.1 21 = .ok (.ireturn, 1) := by decide +kernel
theorem d_Ma_floorDiv_0 : decode m_Ma_floorDiv.2.1 0 = .ok (.lload_n 0, 1) ∧ 0 + 1 = 1 := ⟨by decide +kernel, rfl⟩
theorem d_Ma_floorDiv_1 : decode m_Ma_floorDiv.2.1 1 = .ok (.lload_n 2, 1) ∧ 1 + 1 = 2 := ⟨by decide +kernel, rfl⟩
theorem d_Ma_floorDiv_2 : decode m_Ma_floorDiv.2.1 2 = .ok (.ldiv, 1) ∧ 2 + 1 = 3 := ⟨by decide +kernel, rfl⟩
theorem d_Ma_floorDiv_3 : decode m_Ma_floorDiv.2.1 3 = .ok (.lstore 4, 2) ∧ 3 + 2 = 5 := ⟨by decide +kernel, rfl⟩
theorem d_Ma_floorDiv_5 : decode m_Ma_floorDiv.2.1 5 = .ok (.lload_n 0, 1) ∧ 5 + 1 = 6 := ⟨by decide +kernel, rfl⟩
theorem d_Ma_floorDiv_6 : decode m_Ma_floorDiv.2.1 6 = .ok (.lload_n 2, 1) ∧ 6 + 1 = 7 := ⟨by decide +kernel, rfl⟩
theorem d_Ma_floorDiv_7 : decode m_Ma_floorDiv.2.1 7 = .ok (.lxor, 1) ∧ 7 + 1 = 8 := ⟨by decide +kernel, rfl⟩
theorem d_Ma_floorDiv_8 : decode m_Ma_floorDiv.2.1 8 = .ok (.lconst 0, 1) ∧ 8 + 1 = 9 := ⟨by decide +kernel, rfl⟩
theorem d_Ma_floorDiv_9 : decode m_Ma_floorDiv.2.1 9 = .ok (.lcmp, 1) ∧ 9 + 1 = 10 := ⟨by decide +kernel, rfl⟩
theorem d_Ma_floorDiv_10 : decode m_Ma_floorDiv.2.1 10 = .ok (.ifCond .ge 17, 3) ∧ 10 + 3 = 13 ∧ (((10 : Nat) : Int) + (17) = ((27 : Nat) : Int)) := ⟨by decide +kernel, rfl, by decide⟩
theorem d_Ma_floorDiv_13 : decode m_Ma_floorDiv.2.1 13 = .ok (.lload 4, 2) ∧ 13 + 2 = 15 := ⟨by decide +kernel, rfl⟩
theorem d_Ma_floorDiv_15 : decode m_Ma_floorDiv.2.1 15 = .ok (.lload_n 2, 1) ∧ 15 + 1 = 16 := ⟨by decide +kernel, rfl⟩
theorem d_Ma_floorDiv_16 : decode m_Ma_floorDiv.2.1 16 = .ok (.lmul, 1) ∧ 16 + 1 = 17 := ⟨by decide +kernel, rfl⟩
theorem d_Ma_floorDiv_17 : decode m_Ma_floorDiv.2.1 17 = .ok (.lload_n 0, 1) ∧ 17 + 1 = 18 := ⟨by decide +kernel, rfl⟩
theorem d_Ma_floorDiv_18 : decode m_Ma_floorDiv.2.1 18 = .ok (.lcmp, 1) ∧ 18 + 1 = 19 := ⟨by decide +kernel, rfl⟩
theorem d_Ma_floorDiv_19 : decode m_Ma_floorDiv.2.1 19 = .ok (.ifCond .eq 8, 3) ∧ 19 + 3 = 22 ∧ (((19 : Nat) : Int) + (8) = ((27 : Nat) : Int)) := ⟨by decide +kernel, rfl, by decide⟩
theorem d_Ma_floorDiv_22 : decode m_Ma_floorDiv.2.1 22 = .ok (.lload 4, 2) ∧ 22 + 2 = 24 := ⟨by decide +kernel, rfl⟩
theorem d_Ma_floorDiv_24 : decode m_Ma_floorDiv.2.1 24 = .ok (.lconst 1, 1) ∧ 24 + 1 = 25 := ⟨by decide +kernel, rfl⟩
theorem d_Ma_floorDiv_25 : decode m_Ma_floorDiv.2.1 25 = .ok (.lsub, 1) ∧ 25 + 1 = 26 := ⟨by decide +kernel, rfl⟩
theorem d_Ma_floorDiv_26 : decode m_Ma_floorDiv.2.1 26 = .ok (.lreturn, 1) := by decide +kernel
theorem d_Ma_floorDiv_27 : decode m_Ma_floorDiv.2.1 27 = .ok (.lload 4, 2) ∧ 27 + 2 = 29 := ⟨by decide +kernel, rfl⟩
theorem d_Ma_floorDiv_29 : decode m_Ma_floorDiv.2.1 29 = .ok (.lreturn, 1) := by decide +kernel
theorem d_Ma_floorMod_0 : decode m_Ma_floorMod.2.1 0 = .ok (.iload_n 0, 1) ∧ 0 + 1 = 1 := ⟨by decide +kernel, rfl⟩
theorem d_Ma_floorMod_1 : decode m_Ma_floorMod.2.1 1 = .ok (.iload_n 1, 1) ∧ 1 + 1 = 2 := ⟨by decide +kernel, rfl⟩
theorem d_Ma_floorMod_2 : decode m_Ma_floorMod.2.1 2 = .ok (.irem, 1) ∧ 2 + 1 = 3 := ⟨by decide +kernel, rfl⟩
theorem d_Ma_floorMod_3 : decode m_Ma_floorMod.2.1 3 = .ok (.istore_n 2, 1) ∧ 3 + 1 = 4 := ⟨by decide +kernel, rfl⟩
theorem d_Ma_floorMod_4 : decode m_Ma_floorMod.2.1 4 = .ok (.iload_n 0, 1) ∧ 4 + 1 = 5 := ⟨by decide +kernel, rfl⟩
theorem d_Ma_floorMod_5 : decode m_Ma_floorMod.2.1 5 = .ok (.iload_n 1, 1) ∧ 5 + 1 = 6 := ⟨by decide +kernel, rfl⟩
theorem d_Ma_floorMod_6 : decode m_Ma_floorMod.2.1 6 = .ok (.ixor, 1) ∧ 6 + 1 = 7 := ⟨by decide +kernel, rfl⟩
theorem d_Ma_floorMod_7 : decode m_Ma_floorMod.2.1 7 = .ok (.ifCond .ge 11, 3) ∧ 7 + 3 = 10 ∧ (((7 : Nat) : Int) + (11) = ((18 : Nat) : Int)) := ⟨by decide +kernel, rfl, by decide⟩
theorem d_Ma_floorMod_10 : decode m_Ma_floorMod.2.1 10 = .ok (.iload_n 2, 1) ∧ 10 + 1 = 11 := ⟨by decide +kernel, rfl⟩
theorem d_Ma_floorMod_11 : decode m_Ma_floorMod.2.1 11 = .ok (.ifCond .eq 7, 3) ∧ 11 + 3 = 14 ∧ (((11 : Nat) : Int) + (7) = ((18 : Nat) : Int)) := ⟨by decide +kernel, rfl, by decide⟩
theorem d_Ma_floorMod_14 : decode m_Ma_floorMod.2.1 14 = .ok (.iload_n 2, 1) ∧ 14 + 1 = 15 := ⟨by decide +kernel, rfl⟩
theorem d_Ma_floorMod_15 : decode m_Ma_floorMod.2.1 15 = .ok (.iload_n 1, 1) ∧ 15 + 1 = 16 := ⟨by decide +kernel, rfl⟩
theorem d_Ma_floorMod_16 : decode m_Ma_floorMod.2.1 16 = .ok (.iadd, 1) ∧ 16 + 1 = 17 := ⟨by decide +kernel, rfl⟩
theorem d_Ma_floorMod_17 : decode m_Ma_floorMod.2.1 17 = .ok (.ireturn, 1) := by decide +kernel
theorem d_Ma_floorMod_18 : decode m_Ma_floorMod.2.1 18 = .ok (.iload_n 2, 1) ∧ 18 + 1 = 19 := ⟨by decide +kernel, rfl⟩
theorem d_Ma_floorMod_19 : decode m_Ma_floorMod.2.1 19 = .ok (.ireturn, 1) := by decide +kernel
theorem d_Ma_max_0 : decode m_Ma_max.2.1 0 = .ok (.iload_n 0, 1) ∧ 0 + 1 = 1 := ⟨by decide +kernel, rfl⟩
theorem d_Ma_max_1 : decode m_Ma_max.2.1 1 = .ok (.iload_n 1, 1) ∧ 1 + 1 = 2 := ⟨by decide +kernel, rfl⟩
theorem d_Ma_max_2 : decode m_Ma_max.2.1 2 = .ok (.if_icmp .lt 7, 3) ∧ 2 + 3 = 5 ∧ (((2 : Nat) : Int) + (7) = ((9 : Nat) : Int)) := ⟨by decide +kernel, rfl, by decide⟩
theorem d_Ma_max_5 : decode m_Ma_max.2.1 5 = .ok (.iload_n 0, 1) ∧ 5 + 1 = 6 := ⟨by decide +kernel, rfl⟩
theorem d_Ma_max_6 : decode m_Ma_max.2.1 6 = .ok (.goto 4, 3) ∧ (((6 : Nat) : Int) + (4) = ((10 : Nat) : Int)) := ⟨by decide +kernel, by decide⟩
theorem d_Ma_max_9 : decode m_Ma_max.2.1 9 = .ok (.iload_n 1, 1) ∧ 9 + 1 = 10 := ⟨by decide +kernel, rfl⟩
theorem d_Ma_max_10 : decode m_Ma_max.2.1 10 = .ok (.ireturn, 1) := by decide +kernel
theorem d_Ma_min_0 : decode m_Ma_min.2.1 0 = .ok (.iload_n 0, 1) ∧ 0 + 1 = 1 := ⟨by decide +kernel, rfl⟩
theorem d_Ma_min_1 : decode m_Ma_min.2.1 1 = .ok (.iload_n 1, 1) ∧ 1 + 1 = 2 := ⟨by decide +kernel, rfl⟩
theorem d_Ma_min_2 : decode m_Ma_min.2.1 2 = .ok (.if_icmp .gt 7, 3) ∧ 2 + 3 = 5 ∧ (((2 : Nat) : Int) + (7) = ((9 : Nat) : Int)) := ⟨by decide +kernel, rfl, by decide⟩
theorem d_Ma_min_5 : decode m_Ma_min.2.1 5 = .ok (.iload_n 0, 1) ∧ 5 + 1 = 6 := ⟨by decide +kernel, rfl⟩
theorem d_Ma_min_6 : decode m_Ma_min.2.1 6 = .ok (.goto 4, 3) ∧ (((6 : Nat) : Int) + (4) = ((10 : Nat) : Int)) := ⟨by decide +kernel, by decide⟩
theorem d_Ma_min_9 : decode m_Ma_min.2.1 9 = .ok (.iload_n 1, 1) ∧ 9 + 1 = 10 := ⟨by decide +kernel, rfl⟩
theorem d_Ma_min_10 : decode m_Ma_min.2.1 10 = .ok (.ireturn, 1) := by decide +kernel
end
