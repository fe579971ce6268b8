section
-- ===== PART A: goes FIRST, ahead of the names: the tables' words, and 'selects' of the private methods out of them =====
/-- a private method of a class that the tables say can be made, by its rows of tables_1 -/
def lw_okq (q : MethodName × Nat) : Prop := (q.1.cls ≠ "java/lang/invoke/MethodHandle" ∧ q.1.cls ≠ "java/lang/invoke/VarHandle") ∧ Cond.instantiable q.1.cls q.2 ∈ tables_1 ∧ Cond.privateMethod q.1 ∈ tables_1 ∧ Cond.instanceMethod q.1 ∈ tables_1
theorem lw_p0 : lw_okq (⟨"CellPlane$Page", "fits", "(I)Z"⟩, 2) := ⟨⟨by decide +kernel, by decide +kernel⟩, List.mem_of_getElem? (i := 26) (by decide +kernel), List.mem_of_getElem? (i := 302) (by decide +kernel), List.mem_of_getElem? (i := 303) (by decide +kernel)⟩
theorem lw_p1 : lw_okq (⟨"CellPlane", "appendCurve", "(III)V"⟩, 16) := ⟨⟨by decide +kernel, by decide +kernel⟩, List.mem_of_getElem? (i := 18) (by decide +kernel), List.mem_of_getElem? (i := 324) (by decide +kernel), List.mem_of_getElem? (i := 325) (by decide +kernel)⟩
theorem lw_p2 : lw_okq (⟨"CellPlane$Stacks", "readCurves", "(LCellPlane$Row;)V"⟩, 11) := ⟨⟨by decide +kernel, by decide +kernel⟩, List.mem_of_getElem? (i := 112) (by decide +kernel), List.mem_of_getElem? (i := 340) (by decide +kernel), List.mem_of_getElem? (i := 341) (by decide +kernel)⟩
theorem lw_p3 : lw_okq (⟨"CellPlane$Stacks", "enter", "(JJJJ)V"⟩, 11) := ⟨⟨by decide +kernel, by decide +kernel⟩, List.mem_of_getElem? (i := 112) (by decide +kernel), List.mem_of_getElem? (i := 355) (by decide +kernel), List.mem_of_getElem? (i := 356) (by decide +kernel)⟩
theorem lw_p4 : lw_okq (⟨"CellPlane$Stacks", "meet", "(II)V"⟩, 11) := ⟨⟨by decide +kernel, by decide +kernel⟩, List.mem_of_getElem? (i := 112) (by decide +kernel), List.mem_of_getElem? (i := 378) (by decide +kernel), List.mem_of_getElem? (i := 379) (by decide +kernel)⟩
theorem lw_p5 : lw_okq (⟨"CellPlane$Stacks", "comeFromFarLeft", "()V"⟩, 11) := ⟨⟨by decide +kernel, by decide +kernel⟩, List.mem_of_getElem? (i := 112) (by decide +kernel), List.mem_of_getElem? (i := 389) (by decide +kernel), List.mem_of_getElem? (i := 390) (by decide +kernel)⟩
theorem lw_p6 : lw_okq (⟨"CellPlane$Stacks", "note", "(III)V"⟩, 11) := ⟨⟨by decide +kernel, by decide +kernel⟩, List.mem_of_getElem? (i := 112) (by decide +kernel), List.mem_of_getElem? (i := 396) (by decide +kernel), List.mem_of_getElem? (i := 397) (by decide +kernel)⟩
theorem lw_p7 : lw_okq (⟨"CellPlane$Stacks", "settle", "(I)V"⟩, 11) := ⟨⟨by decide +kernel, by decide +kernel⟩, List.mem_of_getElem? (i := 112) (by decide +kernel), List.mem_of_getElem? (i := 400) (by decide +kernel), List.mem_of_getElem? (i := 401) (by decide +kernel)⟩
theorem lw_p8 : lw_okq (⟨"CellPlane$Stacks", "isFirstOfItsY", "(I)Z"⟩, 11) := ⟨⟨by decide +kernel, by decide +kernel⟩, List.mem_of_getElem? (i := 112) (by decide +kernel), List.mem_of_getElem? (i := 404) (by decide +kernel), List.mem_of_getElem? (i := 405) (by decide +kernel)⟩
theorem lw_p9 : lw_okq (⟨"CellPlane$Stacks", "sectionsBelow", "(I)I"⟩, 11) := ⟨⟨by decide +kernel, by decide +kernel⟩, List.mem_of_getElem? (i := 112) (by decide +kernel), List.mem_of_getElem? (i := 408) (by decide +kernel), List.mem_of_getElem? (i := 409) (by decide +kernel)⟩
theorem lw_p10 : lw_okq (⟨"CellPlane$Stacks", "stopAt", "(LCellPlane$Root;)V"⟩, 11) := ⟨⟨by decide +kernel, by decide +kernel⟩, List.mem_of_getElem? (i := 112) (by decide +kernel), List.mem_of_getElem? (i := 412) (by decide +kernel), List.mem_of_getElem? (i := 413) (by decide +kernel)⟩
theorem lw_p11 : lw_okq (⟨"CellPlane$Stacks", "goOnFrom", "(LCellPlane$Root;)V"⟩, 11) := ⟨⟨by decide +kernel, by decide +kernel⟩, List.mem_of_getElem? (i := 112) (by decide +kernel), List.mem_of_getElem? (i := 422) (by decide +kernel), List.mem_of_getElem? (i := 423) (by decide +kernel)⟩
theorem lw_p12 : lw_okq (⟨"CellPlane$Stacks", "placeUprights", "()V"⟩, 11) := ⟨⟨by decide +kernel, by decide +kernel⟩, List.mem_of_getElem? (i := 112) (by decide +kernel), List.mem_of_getElem? (i := 426) (by decide +kernel), List.mem_of_getElem? (i := 427) (by decide +kernel)⟩
theorem lw_p13 : lw_okq (⟨"CellPlane$Stacks", "stackAt", "(I)I"⟩, 11) := ⟨⟨by decide +kernel, by decide +kernel⟩, List.mem_of_getElem? (i := 112) (by decide +kernel), List.mem_of_getElem? (i := 430) (by decide +kernel), List.mem_of_getElem? (i := 431) (by decide +kernel)⟩
theorem lw_p14 : lw_okq (⟨"CellPlane$Seen", "canBe", "(IILCellPlane$Curve;)Z"⟩, 5) := ⟨⟨by decide +kernel, by decide +kernel⟩, List.mem_of_getElem? (i := 89) (by decide +kernel), List.mem_of_getElem? (i := 446) (by decide +kernel), List.mem_of_getElem? (i := 447) (by decide +kernel)⟩
theorem lw_p15 : lw_okq (⟨"CellPlane$Stacks", "meetAt", "(III)Z"⟩, 11) := ⟨⟨by decide +kernel, by decide +kernel⟩, List.mem_of_getElem? (i := 112) (by decide +kernel), List.mem_of_getElem? (i := 500) (by decide +kernel), List.mem_of_getElem? (i := 501) (by decide +kernel)⟩
def lw_privs_1 : List (MethodName × Nat) := [(⟨"CellPlane$Page", "fits", "(I)Z"⟩, 2), (⟨"CellPlane", "appendCurve", "(III)V"⟩, 16), (⟨"CellPlane$Stacks", "readCurves", "(LCellPlane$Row;)V"⟩, 11), (⟨"CellPlane$Stacks", "enter", "(JJJJ)V"⟩, 11), (⟨"CellPlane$Stacks", "meet", "(II)V"⟩, 11), (⟨"CellPlane$Stacks", "comeFromFarLeft", "()V"⟩, 11), (⟨"CellPlane$Stacks", "note", "(III)V"⟩, 11), (⟨"CellPlane$Stacks", "settle", "(I)V"⟩, 11), (⟨"CellPlane$Stacks", "isFirstOfItsY", "(I)Z"⟩, 11), (⟨"CellPlane$Stacks", "sectionsBelow", "(I)I"⟩, 11), (⟨"CellPlane$Stacks", "stopAt", "(LCellPlane$Root;)V"⟩, 11), (⟨"CellPlane$Stacks", "goOnFrom", "(LCellPlane$Root;)V"⟩, 11), (⟨"CellPlane$Stacks", "placeUprights", "()V"⟩, 11), (⟨"CellPlane$Stacks", "stackAt", "(I)I"⟩, 11), (⟨"CellPlane$Seen", "canBe", "(IILCellPlane$Curve;)Z"⟩, 5), (⟨"CellPlane$Stacks", "meetAt", "(III)Z"⟩, 11)]
theorem lw_r1 : ∀ q ∈ lw_privs_1, lw_okq q := List.forall_mem_cons.mpr ⟨lw_p0, List.forall_mem_cons.mpr ⟨lw_p1, List.forall_mem_cons.mpr ⟨lw_p2, List.forall_mem_cons.mpr ⟨lw_p3, List.forall_mem_cons.mpr ⟨lw_p4, List.forall_mem_cons.mpr ⟨lw_p5, List.forall_mem_cons.mpr ⟨lw_p6, List.forall_mem_cons.mpr ⟨lw_p7, List.forall_mem_cons.mpr ⟨lw_p8, List.forall_mem_cons.mpr ⟨lw_p9, List.forall_mem_cons.mpr ⟨lw_p10, List.forall_mem_cons.mpr ⟨lw_p11, List.forall_mem_cons.mpr ⟨lw_p12, List.forall_mem_cons.mpr ⟨lw_p13, List.forall_mem_cons.mpr ⟨lw_p14, List.forall_mem_cons.mpr ⟨lw_p15, fun _ h => absurd h List.not_mem_nil⟩⟩⟩⟩⟩⟩⟩⟩⟩⟩⟩⟩⟩⟩⟩⟩
theorem lw_p16 : lw_okq (⟨"CellPlane$Stacks", "sectionBeside", "(III)I"⟩, 11) := ⟨⟨by decide +kernel, by decide +kernel⟩, List.mem_of_getElem? (i := 112) (by decide +kernel), List.mem_of_getElem? (i := 541) (by decide +kernel), List.mem_of_getElem? (i := 542) (by decide +kernel)⟩
theorem lw_p17 : lw_okq (⟨"CellPlane$Stacks", "comingTo", "(III)I"⟩, 11) := ⟨⟨by decide +kernel, by decide +kernel⟩, List.mem_of_getElem? (i := 112) (by decide +kernel), List.mem_of_getElem? (i := 549) (by decide +kernel), List.mem_of_getElem? (i := 550) (by decide +kernel)⟩
theorem lw_p18 : lw_okq (⟨"CellPlane", "isSo", "(II)Z"⟩, 16) := ⟨⟨by decide +kernel, by decide +kernel⟩, List.mem_of_getElem? (i := 18) (by decide +kernel), List.mem_of_getElem? (i := 608) (by decide +kernel), List.mem_of_getElem? (i := 609) (by decide +kernel)⟩
theorem lw_p19 : lw_okq (⟨"CellPlane", "isSoOver", "(II)Z"⟩, 16) := ⟨⟨by decide +kernel, by decide +kernel⟩, List.mem_of_getElem? (i := 18) (by decide +kernel), List.mem_of_getElem? (i := 612) (by decide +kernel), List.mem_of_getElem? (i := 613) (by decide +kernel)⟩
theorem lw_p20 : lw_okq (⟨"CellPlane$Groups", "begin", "(IZ)V"⟩, 2) := ⟨⟨by decide +kernel, by decide +kernel⟩, List.mem_of_getElem? (i := 193) (by decide +kernel), List.mem_of_getElem? (i := 643) (by decide +kernel), List.mem_of_getElem? (i := 644) (by decide +kernel)⟩
theorem lw_p21 : lw_okq (⟨"CellPlane$Groups", "joinNeighbours", "(LCellPlane$Stacks;II)V"⟩, 2) := ⟨⟨by decide +kernel, by decide +kernel⟩, List.mem_of_getElem? (i := 193) (by decide +kernel), List.mem_of_getElem? (i := 647) (by decide +kernel), List.mem_of_getElem? (i := 648) (by decide +kernel)⟩
theorem lw_p22 : lw_okq (⟨"CellPlane$Groups", "join", "(II)V"⟩, 2) := ⟨⟨by decide +kernel, by decide +kernel⟩, List.mem_of_getElem? (i := 193) (by decide +kernel), List.mem_of_getElem? (i := 651) (by decide +kernel), List.mem_of_getElem? (i := 652) (by decide +kernel)⟩
theorem lw_p23 : lw_okq (⟨"CellPlane$Groups", "standsFor", "(I)I"⟩, 2) := ⟨⟨by decide +kernel, by decide +kernel⟩, List.mem_of_getElem? (i := 193) (by decide +kernel), List.mem_of_getElem? (i := 655) (by decide +kernel), List.mem_of_getElem? (i := 656) (by decide +kernel)⟩
theorem lw_p24 : lw_okq (⟨"CellPlane", "mixCurves", "(J)J"⟩, 16) := ⟨⟨by decide +kernel, by decide +kernel⟩, List.mem_of_getElem? (i := 18) (by decide +kernel), List.mem_of_getElem? (i := 729) (by decide +kernel), List.mem_of_getElem? (i := 730) (by decide +kernel)⟩
theorem lw_p25 : lw_okq (⟨"CellPlane", "mixPoints", "(J)J"⟩, 16) := ⟨⟨by decide +kernel, by decide +kernel⟩, List.mem_of_getElem? (i := 18) (by decide +kernel), List.mem_of_getElem? (i := 738) (by decide +kernel), List.mem_of_getElem? (i := 739) (by decide +kernel)⟩
theorem lw_p26 : lw_okq (⟨"CellPlane", "mixStacks", "(J)J"⟩, 16) := ⟨⟨by decide +kernel, by decide +kernel⟩, List.mem_of_getElem? (i := 18) (by decide +kernel), List.mem_of_getElem? (i := 743) (by decide +kernel), List.mem_of_getElem? (i := 744) (by decide +kernel)⟩
theorem lw_p27 : lw_okq (⟨"CellPlaneModel", "faultOf", "()I"⟩, 34) := ⟨⟨by decide +kernel, by decide +kernel⟩, List.mem_of_getElem? (i := 749) (by decide +kernel), List.mem_of_getElem? (i := 875) (by decide +kernel), List.mem_of_getElem? (i := 876) (by decide +kernel)⟩
theorem lw_p28 : lw_okq (⟨"CellPlaneModel", "isGood", "(I)Z"⟩, 34) := ⟨⟨by decide +kernel, by decide +kernel⟩, List.mem_of_getElem? (i := 749) (by decide +kernel), List.mem_of_getElem? (i := 879) (by decide +kernel), List.mem_of_getElem? (i := 880) (by decide +kernel)⟩
theorem lw_p29 : lw_okq (⟨"CellPlaneModel", "numberAt", "(I)I"⟩, 34) := ⟨⟨by decide +kernel, by decide +kernel⟩, List.mem_of_getElem? (i := 749) (by decide +kernel), List.mem_of_getElem? (i := 892) (by decide +kernel), List.mem_of_getElem? (i := 893) (by decide +kernel)⟩
theorem lw_p30 : lw_okq (⟨"CellPlaneModel", "name", "(I)V"⟩, 34) := ⟨⟨by decide +kernel, by decide +kernel⟩, List.mem_of_getElem? (i := 749) (by decide +kernel), List.mem_of_getElem? (i := 896) (by decide +kernel), List.mem_of_getElem? (i := 897) (by decide +kernel)⟩
theorem lw_p31 : lw_okq (⟨"CellPlaneModel", "isStack", "(I)Z"⟩, 34) := ⟨⟨by decide +kernel, by decide +kernel⟩, List.mem_of_getElem? (i := 749) (by decide +kernel), List.mem_of_getElem? (i := 904) (by decide +kernel), List.mem_of_getElem? (i := 905) (by decide +kernel)⟩
def lw_privs_2 : List (MethodName × Nat) := [(⟨"CellPlane$Stacks", "sectionBeside", "(III)I"⟩, 11), (⟨"CellPlane$Stacks", "comingTo", "(III)I"⟩, 11), (⟨"CellPlane", "isSo", "(II)Z"⟩, 16), (⟨"CellPlane", "isSoOver", "(II)Z"⟩, 16), (⟨"CellPlane$Groups", "begin", "(IZ)V"⟩, 2), (⟨"CellPlane$Groups", "joinNeighbours", "(LCellPlane$Stacks;II)V"⟩, 2), (⟨"CellPlane$Groups", "join", "(II)V"⟩, 2), (⟨"CellPlane$Groups", "standsFor", "(I)I"⟩, 2), (⟨"CellPlane", "mixCurves", "(J)J"⟩, 16), (⟨"CellPlane", "mixPoints", "(J)J"⟩, 16), (⟨"CellPlane", "mixStacks", "(J)J"⟩, 16), (⟨"CellPlaneModel", "faultOf", "()I"⟩, 34), (⟨"CellPlaneModel", "isGood", "(I)Z"⟩, 34), (⟨"CellPlaneModel", "numberAt", "(I)I"⟩, 34), (⟨"CellPlaneModel", "name", "(I)V"⟩, 34), (⟨"CellPlaneModel", "isStack", "(I)Z"⟩, 34)]
theorem lw_r2 : ∀ q ∈ lw_privs_2, lw_okq q := List.forall_mem_cons.mpr ⟨lw_p16, List.forall_mem_cons.mpr ⟨lw_p17, List.forall_mem_cons.mpr ⟨lw_p18, List.forall_mem_cons.mpr ⟨lw_p19, List.forall_mem_cons.mpr ⟨lw_p20, List.forall_mem_cons.mpr ⟨lw_p21, List.forall_mem_cons.mpr ⟨lw_p22, List.forall_mem_cons.mpr ⟨lw_p23, List.forall_mem_cons.mpr ⟨lw_p24, List.forall_mem_cons.mpr ⟨lw_p25, List.forall_mem_cons.mpr ⟨lw_p26, List.forall_mem_cons.mpr ⟨lw_p27, List.forall_mem_cons.mpr ⟨lw_p28, List.forall_mem_cons.mpr ⟨lw_p29, List.forall_mem_cons.mpr ⟨lw_p30, List.forall_mem_cons.mpr ⟨lw_p31, fun _ h => absurd h List.not_mem_nil⟩⟩⟩⟩⟩⟩⟩⟩⟩⟩⟩⟩⟩⟩⟩⟩
theorem lw_p32 : lw_okq (⟨"CellPlaneModel", "lacks", "()Z"⟩, 34) := ⟨⟨by decide +kernel, by decide +kernel⟩, List.mem_of_getElem? (i := 749) (by decide +kernel), List.mem_of_getElem? (i := 908) (by decide +kernel), List.mem_of_getElem? (i := 909) (by decide +kernel)⟩
theorem lw_p33 : lw_okq (⟨"CellPlaneModel", "freshen", "()V"⟩, 34) := ⟨⟨by decide +kernel, by decide +kernel⟩, List.mem_of_getElem? (i := 749) (by decide +kernel), List.mem_of_getElem? (i := 912) (by decide +kernel), List.mem_of_getElem? (i := 913) (by decide +kernel)⟩
theorem lw_p34 : lw_okq (⟨"CellPlaneModel", "layAll", "(I)V"⟩, 34) := ⟨⟨by decide +kernel, by decide +kernel⟩, List.mem_of_getElem? (i := 749) (by decide +kernel), List.mem_of_getElem? (i := 916) (by decide +kernel), List.mem_of_getElem? (i := 917) (by decide +kernel)⟩
theorem lw_p35 : lw_okq (⟨"CellPlaneModel", "layPoints", "(I)V"⟩, 34) := ⟨⟨by decide +kernel, by decide +kernel⟩, List.mem_of_getElem? (i := 749) (by decide +kernel), List.mem_of_getElem? (i := 920) (by decide +kernel), List.mem_of_getElem? (i := 921) (by decide +kernel)⟩
theorem lw_p36 : lw_okq (⟨"CellPlaneModel", "isFlat", "(I)Z"⟩, 34) := ⟨⟨by decide +kernel, by decide +kernel⟩, List.mem_of_getElem? (i := 749) (by decide +kernel), List.mem_of_getElem? (i := 924) (by decide +kernel), List.mem_of_getElem? (i := 925) (by decide +kernel)⟩
theorem lw_p37 : lw_okq (⟨"CellPlaneModel", "addPoint", "(JJJJ)V"⟩, 34) := ⟨⟨by decide +kernel, by decide +kernel⟩, List.mem_of_getElem? (i := 749) (by decide +kernel), List.mem_of_getElem? (i := 928) (by decide +kernel), List.mem_of_getElem? (i := 929) (by decide +kernel)⟩
theorem lw_p38 : lw_okq (⟨"CellPlaneModel", "layNumber", "(IJJJJ)V"⟩, 34) := ⟨⟨by decide +kernel, by decide +kernel⟩, List.mem_of_getElem? (i := 749) (by decide +kernel), List.mem_of_getElem? (i := 932) (by decide +kernel), List.mem_of_getElem? (i := 933) (by decide +kernel)⟩
theorem lw_p39 : lw_okq (⟨"CellPlaneModel", "compare", "(II)I"⟩, 34) := ⟨⟨by decide +kernel, by decide +kernel⟩, List.mem_of_getElem? (i := 749) (by decide +kernel), List.mem_of_getElem? (i := 936) (by decide +kernel), List.mem_of_getElem? (i := 937) (by decide +kernel)⟩
theorem lw_p40 : lw_okq (⟨"CellPlaneModel", "addRoots", "(II)V"⟩, 34) := ⟨⟨by decide +kernel, by decide +kernel⟩, List.mem_of_getElem? (i := 749) (by decide +kernel), List.mem_of_getElem? (i := 950) (by decide +kernel), List.mem_of_getElem? (i := 951) (by decide +kernel)⟩
theorem lw_p41 : lw_okq (⟨"CellPlaneModel", "square", "(I)I"⟩, 34) := ⟨⟨by decide +kernel, by decide +kernel⟩, List.mem_of_getElem? (i := 749) (by decide +kernel), List.mem_of_getElem? (i := 954) (by decide +kernel), List.mem_of_getElem? (i := 955) (by decide +kernel)⟩
theorem lw_p42 : lw_okq (⟨"CellPlaneModel", "slope", "(I)I"⟩, 34) := ⟨⟨by decide +kernel, by decide +kernel⟩, List.mem_of_getElem? (i := 749) (by decide +kernel), List.mem_of_getElem? (i := 961) (by decide +kernel), List.mem_of_getElem? (i := 962) (by decide +kernel)⟩
theorem lw_p43 : lw_okq (⟨"CellPlaneModel", "laySamples", "()V"⟩, 34) := ⟨⟨by decide +kernel, by decide +kernel⟩, List.mem_of_getElem? (i := 749) (by decide +kernel), List.mem_of_getElem? (i := 966) (by decide +kernel), List.mem_of_getElem? (i := 967) (by decide +kernel)⟩
theorem lw_p44 : lw_okq (⟨"CellPlaneModel", "laySample", "(II)V"⟩, 34) := ⟨⟨by decide +kernel, by decide +kernel⟩, List.mem_of_getElem? (i := 749) (by decide +kernel), List.mem_of_getElem? (i := 970) (by decide +kernel), List.mem_of_getElem? (i := 971) (by decide +kernel)⟩
theorem lw_p45 : lw_okq (⟨"CellPlaneModel", "floorOf", "(IJ)J"⟩, 34) := ⟨⟨by decide +kernel, by decide +kernel⟩, List.mem_of_getElem? (i := 749) (by decide +kernel), List.mem_of_getElem? (i := 974) (by decide +kernel), List.mem_of_getElem? (i := 975) (by decide +kernel)⟩
theorem lw_p46 : lw_okq (⟨"CellPlaneModel", "compareTo", "(IJJ)I"⟩, 34) := ⟨⟨by decide +kernel, by decide +kernel⟩, List.mem_of_getElem? (i := 749) (by decide +kernel), List.mem_of_getElem? (i := 981) (by decide +kernel), List.mem_of_getElem? (i := 982) (by decide +kernel)⟩
theorem lw_p47 : lw_okq (⟨"CellPlaneModel", "layRanks", "(I)V"⟩, 34) := ⟨⟨by decide +kernel, by decide +kernel⟩, List.mem_of_getElem? (i := 749) (by decide +kernel), List.mem_of_getElem? (i := 985) (by decide +kernel), List.mem_of_getElem? (i := 986) (by decide +kernel)⟩
def lw_privs_3 : List (MethodName × Nat) := [(⟨"CellPlaneModel", "lacks", "()Z"⟩, 34), (⟨"CellPlaneModel", "freshen", "()V"⟩, 34), (⟨"CellPlaneModel", "layAll", "(I)V"⟩, 34), (⟨"CellPlaneModel", "layPoints", "(I)V"⟩, 34), (⟨"CellPlaneModel", "isFlat", "(I)Z"⟩, 34), (⟨"CellPlaneModel", "addPoint", "(JJJJ)V"⟩, 34), (⟨"CellPlaneModel", "layNumber", "(IJJJJ)V"⟩, 34), (⟨"CellPlaneModel", "compare", "(II)I"⟩, 34), (⟨"CellPlaneModel", "addRoots", "(II)V"⟩, 34), (⟨"CellPlaneModel", "square", "(I)I"⟩, 34), (⟨"CellPlaneModel", "slope", "(I)I"⟩, 34), (⟨"CellPlaneModel", "laySamples", "()V"⟩, 34), (⟨"CellPlaneModel", "laySample", "(II)V"⟩, 34), (⟨"CellPlaneModel", "floorOf", "(IJ)J"⟩, 34), (⟨"CellPlaneModel", "compareTo", "(IJJ)I"⟩, 34), (⟨"CellPlaneModel", "layRanks", "(I)V"⟩, 34)]
theorem lw_r3 : ∀ q ∈ lw_privs_3, lw_okq q := List.forall_mem_cons.mpr ⟨lw_p32, List.forall_mem_cons.mpr ⟨lw_p33, List.forall_mem_cons.mpr ⟨lw_p34, List.forall_mem_cons.mpr ⟨lw_p35, List.forall_mem_cons.mpr ⟨lw_p36, List.forall_mem_cons.mpr ⟨lw_p37, List.forall_mem_cons.mpr ⟨lw_p38, List.forall_mem_cons.mpr ⟨lw_p39, List.forall_mem_cons.mpr ⟨lw_p40, List.forall_mem_cons.mpr ⟨lw_p41, List.forall_mem_cons.mpr ⟨lw_p42, List.forall_mem_cons.mpr ⟨lw_p43, List.forall_mem_cons.mpr ⟨lw_p44, List.forall_mem_cons.mpr ⟨lw_p45, List.forall_mem_cons.mpr ⟨lw_p46, List.forall_mem_cons.mpr ⟨lw_p47, fun _ h => absurd h List.not_mem_nil⟩⟩⟩⟩⟩⟩⟩⟩⟩⟩⟩⟩⟩⟩⟩⟩
theorem lw_p48 : lw_okq (⟨"CellPlaneModel", "difference", "(III)I"⟩, 34) := ⟨⟨by decide +kernel, by decide +kernel⟩, List.mem_of_getElem? (i := 749) (by decide +kernel), List.mem_of_getElem? (i := 989) (by decide +kernel), List.mem_of_getElem? (i := 990) (by decide +kernel)⟩
theorem lw_p49 : lw_okq (⟨"CellPlaneModel", "isFirst", "(III)Z"⟩, 34) := ⟨⟨by decide +kernel, by decide +kernel⟩, List.mem_of_getElem? (i := 749) (by decide +kernel), List.mem_of_getElem? (i := 993) (by decide +kernel), List.mem_of_getElem? (i := 994) (by decide +kernel)⟩
theorem lw_p50 : lw_okq (⟨"CellPlaneModel", "cellsIn", "(I)I"⟩, 34) := ⟨⟨by decide +kernel, by decide +kernel⟩, List.mem_of_getElem? (i := 749) (by decide +kernel), List.mem_of_getElem? (i := 997) (by decide +kernel), List.mem_of_getElem? (i := 998) (by decide +kernel)⟩
theorem lw_p51 : lw_okq (⟨"CellPlaneModel", "isCell", "(II)Z"⟩, 34) := ⟨⟨by decide +kernel, by decide +kernel⟩, List.mem_of_getElem? (i := 749) (by decide +kernel), List.mem_of_getElem? (i := 1005) (by decide +kernel), List.mem_of_getElem? (i := 1006) (by decide +kernel)⟩
theorem lw_p52 : lw_okq (⟨"CellPlaneModel", "isCurve", "(I)Z"⟩, 34) := ⟨⟨by decide +kernel, by decide +kernel⟩, List.mem_of_getElem? (i := 749) (by decide +kernel), List.mem_of_getElem? (i := 1009) (by decide +kernel), List.mem_of_getElem? (i := 1010) (by decide +kernel)⟩
theorem lw_p53 : lw_okq (⟨"CellPlaneModel", "lies", "(III)I"⟩, 34) := ⟨⟨by decide +kernel, by decide +kernel⟩, List.mem_of_getElem? (i := 749) (by decide +kernel), List.mem_of_getElem? (i := 1013) (by decide +kernel), List.mem_of_getElem? (i := 1014) (by decide +kernel)⟩
theorem lw_p54 : lw_okq (⟨"CellPlaneModel", "isNeighbour", "(IIII)Z"⟩, 34) := ⟨⟨by decide +kernel, by decide +kernel⟩, List.mem_of_getElem? (i := 749) (by decide +kernel), List.mem_of_getElem? (i := 1021) (by decide +kernel), List.mem_of_getElem? (i := 1022) (by decide +kernel)⟩
theorem lw_p55 : lw_okq (⟨"CellPlaneModel", "isBeside", "(IIII)Z"⟩, 34) := ⟨⟨by decide +kernel, by decide +kernel⟩, List.mem_of_getElem? (i := 749) (by decide +kernel), List.mem_of_getElem? (i := 1025) (by decide +kernel), List.mem_of_getElem? (i := 1026) (by decide +kernel)⟩
theorem lw_p56 : lw_okq (⟨"CellPlaneModel", "comesTo", "(III)I"⟩, 34) := ⟨⟨by decide +kernel, by decide +kernel⟩, List.mem_of_getElem? (i := 749) (by decide +kernel), List.mem_of_getElem? (i := 1029) (by decide +kernel), List.mem_of_getElem? (i := 1030) (by decide +kernel)⟩
theorem lw_p57 : lw_okq (⟨"CellPlaneModel", "holdsIn", "(IIII)Z"⟩, 34) := ⟨⟨by decide +kernel, by decide +kernel⟩, List.mem_of_getElem? (i := 749) (by decide +kernel), List.mem_of_getElem? (i := 1041) (by decide +kernel), List.mem_of_getElem? (i := 1042) (by decide +kernel)⟩
theorem lw_p58 : lw_okq (⟨"CellPlaneModel", "holds", "(IIII)Z"⟩, 34) := ⟨⟨by decide +kernel, by decide +kernel⟩, List.mem_of_getElem? (i := 749) (by decide +kernel), List.mem_of_getElem? (i := 1045) (by decide +kernel), List.mem_of_getElem? (i := 1046) (by decide +kernel)⟩
theorem lw_p59 : lw_okq (⟨"CellPlaneModel", "piecesOf", "(II)I"⟩, 34) := ⟨⟨by decide +kernel, by decide +kernel⟩, List.mem_of_getElem? (i := 749) (by decide +kernel), List.mem_of_getElem? (i := 1063) (by decide +kernel), List.mem_of_getElem? (i := 1064) (by decide +kernel)⟩
theorem lw_p60 : lw_okq (⟨"CellPlaneModel", "isSpread", "()Z"⟩, 34) := ⟨⟨by decide +kernel, by decide +kernel⟩, List.mem_of_getElem? (i := 749) (by decide +kernel), List.mem_of_getElem? (i := 1067) (by decide +kernel), List.mem_of_getElem? (i := 1068) (by decide +kernel)⟩
theorem lw_p61 : lw_okq (⟨"CellPlaneModel", "cellsAll", "()I"⟩, 34) := ⟨⟨by decide +kernel, by decide +kernel⟩, List.mem_of_getElem? (i := 749) (by decide +kernel), List.mem_of_getElem? (i := 1075) (by decide +kernel), List.mem_of_getElem? (i := 1076) (by decide +kernel)⟩
theorem lw_p62 : lw_okq (⟨"CellPlaneModel", "tellCurve", "(II)I"⟩, 34) := ⟨⟨by decide +kernel, by decide +kernel⟩, List.mem_of_getElem? (i := 749) (by decide +kernel), List.mem_of_getElem? (i := 1083) (by decide +kernel), List.mem_of_getElem? (i := 1084) (by decide +kernel)⟩
theorem lw_p63 : lw_okq (⟨"CellPlaneModel", "sortsOf", "(I)I"⟩, 34) := ⟨⟨by decide +kernel, by decide +kernel⟩, List.mem_of_getElem? (i := 749) (by decide +kernel), List.mem_of_getElem? (i := 1087) (by decide +kernel), List.mem_of_getElem? (i := 1088) (by decide +kernel)⟩
def lw_privs_4 : List (MethodName × Nat) := [(⟨"CellPlaneModel", "difference", "(III)I"⟩, 34), (⟨"CellPlaneModel", "isFirst", "(III)Z"⟩, 34), (⟨"CellPlaneModel", "cellsIn", "(I)I"⟩, 34), (⟨"CellPlaneModel", "isCell", "(II)Z"⟩, 34), (⟨"CellPlaneModel", "isCurve", "(I)Z"⟩, 34), (⟨"CellPlaneModel", "lies", "(III)I"⟩, 34), (⟨"CellPlaneModel", "isNeighbour", "(IIII)Z"⟩, 34), (⟨"CellPlaneModel", "isBeside", "(IIII)Z"⟩, 34), (⟨"CellPlaneModel", "comesTo", "(III)I"⟩, 34), (⟨"CellPlaneModel", "holdsIn", "(IIII)Z"⟩, 34), (⟨"CellPlaneModel", "holds", "(IIII)Z"⟩, 34), (⟨"CellPlaneModel", "piecesOf", "(II)I"⟩, 34), (⟨"CellPlaneModel", "isSpread", "()Z"⟩, 34), (⟨"CellPlaneModel", "cellsAll", "()I"⟩, 34), (⟨"CellPlaneModel", "tellCurve", "(II)I"⟩, 34), (⟨"CellPlaneModel", "sortsOf", "(I)I"⟩, 34)]
theorem lw_r4 : ∀ q ∈ lw_privs_4, lw_okq q := List.forall_mem_cons.mpr ⟨lw_p48, List.forall_mem_cons.mpr ⟨lw_p49, List.forall_mem_cons.mpr ⟨lw_p50, List.forall_mem_cons.mpr ⟨lw_p51, List.forall_mem_cons.mpr ⟨lw_p52, List.forall_mem_cons.mpr ⟨lw_p53, List.forall_mem_cons.mpr ⟨lw_p54, List.forall_mem_cons.mpr ⟨lw_p55, List.forall_mem_cons.mpr ⟨lw_p56, List.forall_mem_cons.mpr ⟨lw_p57, List.forall_mem_cons.mpr ⟨lw_p58, List.forall_mem_cons.mpr ⟨lw_p59, List.forall_mem_cons.mpr ⟨lw_p60, List.forall_mem_cons.mpr ⟨lw_p61, List.forall_mem_cons.mpr ⟨lw_p62, List.forall_mem_cons.mpr ⟨lw_p63, fun _ h => absurd h List.not_mem_nil⟩⟩⟩⟩⟩⟩⟩⟩⟩⟩⟩⟩⟩⟩⟩⟩
theorem lw_p64 : lw_okq (⟨"CellPlaneModel", "liesAt", "(IIII)I"⟩, 34) := ⟨⟨by decide +kernel, by decide +kernel⟩, List.mem_of_getElem? (i := 749) (by decide +kernel), List.mem_of_getElem? (i := 1091) (by decide +kernel), List.mem_of_getElem? (i := 1092) (by decide +kernel)⟩
theorem lw_p65 : lw_okq (⟨"CellPlaneModel", "askOf", "(I)I"⟩, 34) := ⟨⟨by decide +kernel, by decide +kernel⟩, List.mem_of_getElem? (i := 749) (by decide +kernel), List.mem_of_getElem? (i := 1095) (by decide +kernel), List.mem_of_getElem? (i := 1096) (by decide +kernel)⟩
theorem lw_p66 : lw_okq (⟨"CellPlaneModel", "tellPoint", "(II)I"⟩, 34) := ⟨⟨by decide +kernel, by decide +kernel⟩, List.mem_of_getElem? (i := 749) (by decide +kernel), List.mem_of_getElem? (i := 1108) (by decide +kernel), List.mem_of_getElem? (i := 1109) (by decide +kernel)⟩
theorem lw_p67 : lw_okq (⟨"CellPlaneModel", "meeting", "(I)I"⟩, 34) := ⟨⟨by decide +kernel, by decide +kernel⟩, List.mem_of_getElem? (i := 749) (by decide +kernel), List.mem_of_getElem? (i := 1114) (by decide +kernel), List.mem_of_getElem? (i := 1115) (by decide +kernel)⟩
theorem lw_p68 : lw_okq (⟨"CellPlaneModel", "isSame", "(II)Z"⟩, 34) := ⟨⟨by decide +kernel, by decide +kernel⟩, List.mem_of_getElem? (i := 749) (by decide +kernel), List.mem_of_getElem? (i := 1118) (by decide +kernel), List.mem_of_getElem? (i := 1119) (by decide +kernel)⟩
theorem lw_p69 : lw_okq (⟨"CellPlaneModel", "standing", "(I)I"⟩, 34) := ⟨⟨by decide +kernel, by decide +kernel⟩, List.mem_of_getElem? (i := 749) (by decide +kernel), List.mem_of_getElem? (i := 1122) (by decide +kernel), List.mem_of_getElem? (i := 1123) (by decide +kernel)⟩
theorem lw_p70 : lw_okq (⟨"CellPlaneModel", "cellsNow", "()I"⟩, 34) := ⟨⟨by decide +kernel, by decide +kernel⟩, List.mem_of_getElem? (i := 749) (by decide +kernel), List.mem_of_getElem? (i := 1143) (by decide +kernel), List.mem_of_getElem? (i := 1144) (by decide +kernel)⟩
theorem lw_p71 : lw_okq (⟨"CellPlaneModel", "countOf", "(I)I"⟩, 34) := ⟨⟨by decide +kernel, by decide +kernel⟩, List.mem_of_getElem? (i := 749) (by decide +kernel), List.mem_of_getElem? (i := 1186) (by decide +kernel), List.mem_of_getElem? (i := 1187) (by decide +kernel)⟩
theorem lw_p72 : lw_okq (⟨"CellPlaneModel", "countPlane", "(I)I"⟩, 34) := ⟨⟨by decide +kernel, by decide +kernel⟩, List.mem_of_getElem? (i := 749) (by decide +kernel), List.mem_of_getElem? (i := 1190) (by decide +kernel), List.mem_of_getElem? (i := 1191) (by decide +kernel)⟩
theorem lw_p73 : lw_okq (⟨"CellPlaneModel", "sectionsAll", "()I"⟩, 34) := ⟨⟨by decide +kernel, by decide +kernel⟩, List.mem_of_getElem? (i := 749) (by decide +kernel), List.mem_of_getElem? (i := 1194) (by decide +kernel), List.mem_of_getElem? (i := 1195) (by decide +kernel)⟩
theorem lw_p74 : lw_okq (⟨"CellPlaneModel", "say", "(J)V"⟩, 34) := ⟨⟨by decide +kernel, by decide +kernel⟩, List.mem_of_getElem? (i := 749) (by decide +kernel), List.mem_of_getElem? (i := 1203) (by decide +kernel), List.mem_of_getElem? (i := 1204) (by decide +kernel)⟩
theorem lw_p75 : lw_okq (⟨"CellPlaneModel", "sayStacks", "()V"⟩, 34) := ⟨⟨by decide +kernel, by decide +kernel⟩, List.mem_of_getElem? (i := 749) (by decide +kernel), List.mem_of_getElem? (i := 1208) (by decide +kernel), List.mem_of_getElem? (i := 1209) (by decide +kernel)⟩
def lw_privs_5 : List (MethodName × Nat) := [(⟨"CellPlaneModel", "liesAt", "(IIII)I"⟩, 34), (⟨"CellPlaneModel", "askOf", "(I)I"⟩, 34), (⟨"CellPlaneModel", "tellPoint", "(II)I"⟩, 34), (⟨"CellPlaneModel", "meeting", "(I)I"⟩, 34), (⟨"CellPlaneModel", "isSame", "(II)Z"⟩, 34), (⟨"CellPlaneModel", "standing", "(I)I"⟩, 34), (⟨"CellPlaneModel", "cellsNow", "()I"⟩, 34), (⟨"CellPlaneModel", "countOf", "(I)I"⟩, 34), (⟨"CellPlaneModel", "countPlane", "(I)I"⟩, 34), (⟨"CellPlaneModel", "sectionsAll", "()I"⟩, 34), (⟨"CellPlaneModel", "say", "(J)V"⟩, 34), (⟨"CellPlaneModel", "sayStacks", "()V"⟩, 34)]
theorem lw_r5 : ∀ q ∈ lw_privs_5, lw_okq q := List.forall_mem_cons.mpr ⟨lw_p64, List.forall_mem_cons.mpr ⟨lw_p65, List.forall_mem_cons.mpr ⟨lw_p66, List.forall_mem_cons.mpr ⟨lw_p67, List.forall_mem_cons.mpr ⟨lw_p68, List.forall_mem_cons.mpr ⟨lw_p69, List.forall_mem_cons.mpr ⟨lw_p70, List.forall_mem_cons.mpr ⟨lw_p71, List.forall_mem_cons.mpr ⟨lw_p72, List.forall_mem_cons.mpr ⟨lw_p73, List.forall_mem_cons.mpr ⟨lw_p74, List.forall_mem_cons.mpr ⟨lw_p75, fun _ h => absurd h List.not_mem_nil⟩⟩⟩⟩⟩⟩⟩⟩⟩⟩⟩⟩
def lw_privs : List (MethodName × Nat) := lw_privs_1 ++ (lw_privs_2 ++ (lw_privs_3 ++ (lw_privs_4 ++ (lw_privs_5))))
def lw_tbl : List Cond := k2_sels lw_privs ++ tables_1
theorem lw_privs_ok : ∀ q ∈ lw_privs, lw_okq q := by
  show ∀ q ∈ lw_privs_1 ++ (lw_privs_2 ++ (lw_privs_3 ++ (lw_privs_4 ++ (lw_privs_5)))), lw_okq q
  exact List.forall_mem_append.mpr ⟨lw_r1, List.forall_mem_append.mpr ⟨lw_r2, List.forall_mem_append.mpr ⟨lw_r3, List.forall_mem_append.mpr ⟨lw_r4, lw_r5⟩⟩⟩⟩
end
section
/-! ===== BEGIN printed: names, fields, word lists, decode rows ===== -/
def RX0 : String := "CellPlane$Curve"
def TX0 : u_T := fun k => match k with
  | 0 => ("CellPlane$Curve", "kind", "I", false)
  | 1 => ("CellPlane$Curve", "b", "I", false)
  | 2 => ("CellPlane$Curve", "c", "I", false)
  | _ => ("CellPlane$Curve", "name", "I", false)
def tyX0 : Nat → FieldType := fun k => match k with
  | 0 => .int
  | 1 => .int
  | 2 => .int
  | _ => .int
abbrev wsX00 : List Cond := u_ws RX0 TX0 4
theorem nmX0 : ∀ a, a < 4 → ∀ b, b < 4 → a ≠ b → (TX0 a).2.1 ≠ (TX0 b).2.1 := by decide +kernel
theorem tyX0_ok : ∀ k, k < 4 → parseFieldDescriptor (TX0 k).2.2.1 = some (tyX0 k) := by decide +kernel
abbrev cX0_init : ByteArray := prog_2_method_1_code
def yX0_init : MethodName := ⟨RX0, "<init>", "()V"⟩
abbrev cX0_write : ByteArray := prog_2_method_2_code
def yX0_write : MethodName := ⟨RX0, "write", "(IIII)V"⟩
abbrev cX0_isUpright : ByteArray := prog_2_method_3_code
def yX0_isUpright : MethodName := ⟨RX0, "isUpright", "()Z"⟩
abbrev cX0_isSuch : ByteArray := prog_2_method_4_code
def yX0_isSuch : MethodName := ⟨RX0, "isSuch", "(I)Z"⟩
abbrev cX0_squareOf : ByteArray := prog_2_method_5_code
def yX0_squareOf : MethodName := ⟨RX0, "squareOf", "(I)I"⟩
abbrev cX0_slopeAs : ByteArray := prog_2_method_6_code
def yX0_slopeAs : MethodName := ⟨RX0, "slopeAs", "(I)I"⟩
abbrev cX0_sideAs : ByteArray := prog_2_method_7_code
def yX0_sideAs : MethodName := ⟨RX0, "sideAs", "(III)I"⟩
abbrev cX0_turnOver : ByteArray := prog_2_method_8_code
def yX0_turnOver : MethodName := ⟨RX0, "turnOver", "()V"⟩
def RX1 : String := "CellPlane$Dice"
def TX1 : u_T := fun k => match k with
  | _ => ("CellPlane$Dice", "seed", "J", false)
def tyX1 : Nat → FieldType := fun k => match k with
  | _ => .long
abbrev wsX10 : List Cond := u_ws RX1 TX1 1
theorem nmX1 : ∀ a, a < 1 → ∀ b, b < 1 → a ≠ b → (TX1 a).2.1 ≠ (TX1 b).2.1 := by decide +kernel
theorem tyX1_ok : ∀ k, k < 1 → parseFieldDescriptor (TX1 k).2.2.1 = some (tyX1 k) := by decide +kernel
abbrev cX1_init : ByteArray := prog_3_method_1_code
def yX1_init : MethodName := ⟨RX1, "<init>", "()V"⟩
abbrev cX1_next : ByteArray := prog_3_method_2_code
def yX1_next : MethodName := ⟨RX1, "next", "(I)I"⟩
def RX2 : String := "CellPlane$Exact"
def TX2 : u_T := fun k => match k with
  | _ => ("", "", "", false)
def tyX2 : Nat → FieldType := fun k => match k with
  | _ => .int
abbrev wsX20 : List Cond := u_ws RX2 TX2 0
theorem nmX2 : ∀ a, a < 0 → ∀ b, b < 0 → a ≠ b → (TX2 a).2.1 ≠ (TX2 b).2.1 := by decide +kernel
theorem tyX2_ok : ∀ k, k < 0 → parseFieldDescriptor (TX2 k).2.2.1 = some (tyX2 k) := by decide +kernel
abbrev cX2_sign : ByteArray := prog_4_method_2_code
def yX2_sign : MethodName := ⟨RX2, "sign", "(JJJ)I"⟩
abbrev cX2_sign_ : ByteArray := prog_4_method_3_code
def yX2_sign_ : MethodName := ⟨RX2, "sign", "(JJJJJ)I"⟩
abbrev cX2_rootDown : ByteArray := prog_4_method_4_code
def yX2_rootDown : MethodName := ⟨RX2, "rootDown", "(J)J"⟩
def RX3 : String := "CellPlane$Form"
def TX3 : u_T := fun k => match k with
  | 0 => ("CellPlane$Form", "figures", "[I", true)
  | _ => ("CellPlane$Form", "forAll", "Z", false)
def tyX3 : Nat → FieldType := fun k => match k with
  | 0 => .array .int
  | _ => .boolean
abbrev wsX30 : List Cond := u_ws RX3 TX3 2
theorem nmX3 : ∀ a, a < 2 → ∀ b, b < 2 → a ≠ b → (TX3 a).2.1 ≠ (TX3 b).2.1 := by decide +kernel
theorem tyX3_ok : ∀ k, k < 2 → parseFieldDescriptor (TX3 k).2.2.1 = some (tyX3 k) := by decide +kernel
abbrev cX3_init : ByteArray := prog_5_method_1_code
def yX3_init : MethodName := ⟨RX3, "<init>", "()V"⟩
abbrev cX3_isForm : ByteArray := prog_5_method_2_code
def yX3_isForm : MethodName := ⟨RX3, "isForm", "(I)Z"⟩
abbrev cX3_read : ByteArray := prog_5_method_3_code
def yX3_read : MethodName := ⟨RX3, "read", "(II)V"⟩
abbrev cX3_holdsIn : ByteArray := prog_5_method_4_code
def yX3_holdsIn : MethodName := ⟨RX3, "holdsIn", "(LCellPlane$Stacks;II)Z"⟩
abbrev cX3_allows : ByteArray := prog_5_method_5_code
def yX3_allows : MethodName := ⟨RX3, "allows", "(II)Z"⟩
def RX4 : String := "CellPlane$Groups"
def TX4 : u_T := fun k => match k with
  | 0 => ("CellPlane$Groups", "nearer", "[I", true)
  | _ => ("CellPlane$Groups", "pieces", "I", false)
def tyX4 : Nat → FieldType := fun k => match k with
  | 0 => .array .int
  | _ => .int
abbrev wsX40 : List Cond := u_ws RX4 TX4 2
theorem nmX4 : ∀ a, a < 2 → ∀ b, b < 2 → a ≠ b → (TX4 a).2.1 ≠ (TX4 b).2.1 := by decide +kernel
theorem tyX4_ok : ∀ k, k < 2 → parseFieldDescriptor (TX4 k).2.2.1 = some (tyX4 k) := by decide +kernel
abbrev cX4_init : ByteArray := prog_6_method_1_code
def yX4_init : MethodName := ⟨RX4, "<init>", "()V"⟩
abbrev cX4_number : ByteArray := prog_6_method_2_code
def yX4_number : MethodName := ⟨RX4, "number", "(LCellPlane$Stacks;LCellPlane$Form;)I"⟩
abbrev cX4_placeOf : ByteArray := prog_6_method_3_code
def yX4_placeOf : MethodName := ⟨RX4, "placeOf", "(II)I"⟩
abbrev cX4_begin : ByteArray := prog_6_method_4_code
def yX4_begin : MethodName := ⟨RX4, "begin", "(IZ)V"⟩
abbrev cX4_joinNeighbours : ByteArray := prog_6_method_5_code
def yX4_joinNeighbours : MethodName := ⟨RX4, "joinNeighbours", "(LCellPlane$Stacks;II)V"⟩
abbrev cX4_join : ByteArray := prog_6_method_6_code
def yX4_join : MethodName := ⟨RX4, "join", "(II)V"⟩
abbrev cX4_standsFor : ByteArray := prog_6_method_7_code
def yX4_standsFor : MethodName := ⟨RX4, "standsFor", "(I)I"⟩
def RX5 : String := "CellPlane$Page"
def TX5 : u_T := fun k => match k with
  | 0 => ("CellPlane$Page", "codes", "[I", true)
  | _ => ("CellPlane$Page", "size", "I", false)
def tyX5 : Nat → FieldType := fun k => match k with
  | 0 => .array .int
  | _ => .int
abbrev wsX50 : List Cond := u_ws RX5 TX5 2
theorem nmX5 : ∀ a, a < 2 → ∀ b, b < 2 → a ≠ b → (TX5 a).2.1 ≠ (TX5 b).2.1 := by decide +kernel
theorem tyX5_ok : ∀ k, k < 2 → parseFieldDescriptor (TX5 k).2.2.1 = some (tyX5 k) := by decide +kernel
abbrev cX5_init : ByteArray := prog_7_method_1_code
def yX5_init : MethodName := ⟨RX5, "<init>", "()V"⟩
abbrev cX5_append : ByteArray := prog_7_method_2_code
def yX5_append : MethodName := ⟨RX5, "append", "(I)Z"⟩
abbrev cX5_firstFault : ByteArray := prog_7_method_3_code
def yX5_firstFault : MethodName := ⟨RX5, "firstFault", "()I"⟩
abbrev cX5_isPlane : ByteArray := prog_7_method_4_code
def yX5_isPlane : MethodName := ⟨RX5, "isPlane", "()Z"⟩
abbrev cX5_fits : ByteArray := prog_7_method_5_code
def yX5_fits : MethodName := ⟨RX5, "fits", "(I)Z"⟩
abbrev cX5_kindAt : ByteArray := prog_7_method_6_code
def yX5_kindAt : MethodName := ⟨RX5, "kindAt", "(I)I"⟩
abbrev cX5_numberAt : ByteArray := prog_7_method_7_code
def yX5_numberAt : MethodName := ⟨RX5, "numberAt", "(I)I"⟩
def RX6 : String := "CellPlane$Ring"
def TX6 : u_T := fun k => match k with
  | 0 => ("CellPlane$Ring", "answers", "[I", true)
  | 1 => ("CellPlane$Ring", "next", "I", false)
  | _ => ("CellPlane$Ring", "size", "I", false)
def tyX6 : Nat → FieldType := fun k => match k with
  | 0 => .array .int
  | 1 => .int
  | _ => .int
abbrev wsX60 : List Cond := u_ws RX6 TX6 3
theorem nmX6 : ∀ a, a < 3 → ∀ b, b < 3 → a ≠ b → (TX6 a).2.1 ≠ (TX6 b).2.1 := by decide +kernel
theorem tyX6_ok : ∀ k, k < 3 → parseFieldDescriptor (TX6 k).2.2.1 = some (tyX6 k) := by decide +kernel
abbrev cX6_init : ByteArray := prog_8_method_1_code
def yX6_init : MethodName := ⟨RX6, "<init>", "()V"⟩
abbrev cX6_append : ByteArray := prog_8_method_2_code
def yX6_append : MethodName := ⟨RX6, "append", "(I)V"⟩
abbrev cX6_back : ByteArray := prog_8_method_3_code
def yX6_back : MethodName := ⟨RX6, "back", "(I)I"⟩
def RX7 : String := "CellPlane$Root"
def TX7 : u_T := fun k => match k with
  | 0 => ("CellPlane$Root", "whole", "J", false)
  | 1 => ("CellPlane$Root", "way", "J", false)
  | 2 => ("CellPlane$Root", "under", "J", false)
  | _ => ("CellPlane$Root", "part", "J", false)
def tyX7 : Nat → FieldType := fun k => match k with
  | 0 => .long
  | 1 => .long
  | 2 => .long
  | _ => .long
abbrev wsX70 : List Cond := u_ws RX7 TX7 4
theorem nmX7 : ∀ a, a < 4 → ∀ b, b < 4 → a ≠ b → (TX7 a).2.1 ≠ (TX7 b).2.1 := by decide +kernel
theorem tyX7_ok : ∀ k, k < 4 → parseFieldDescriptor (TX7 k).2.2.1 = some (tyX7 k) := by decide +kernel
abbrev cX7_init : ByteArray := prog_9_method_1_code
def yX7_init : MethodName := ⟨RX7, "<init>", "()V"⟩
abbrev cX7_write : ByteArray := prog_9_method_2_code
def yX7_write : MethodName := ⟨RX7, "write", "(JJJJ)V"⟩
abbrev cX7_isFraction : ByteArray := prog_9_method_3_code
def yX7_isFraction : MethodName := ⟨RX7, "isFraction", "()Z"⟩
abbrev cX7_orderTo : ByteArray := prog_9_method_4_code
def yX7_orderTo : MethodName := ⟨RX7, "orderTo", "(LCellPlane$Root;)I"⟩
abbrev cX7_signOf : ByteArray := prog_9_method_5_code
def yX7_signOf : MethodName := ⟨RX7, "signOf", "(JJJ)I"⟩
abbrev cX7_thousandths : ByteArray := prog_9_method_6_code
def yX7_thousandths : MethodName := ⟨RX7, "thousandths", "()I"⟩
def RX8 : String := "CellPlane$Row"
def TX8 : u_T := fun k => match k with
  | 0 => ("CellPlane$Row", "all", "[LCellPlane$Curve;", true)
  | _ => ("CellPlane$Row", "size", "I", false)
def tyX8 : Nat → FieldType := fun k => match k with
  | 0 => .array (.object "CellPlane$Curve")
  | _ => .int
abbrev wsX80 : List Cond := u_ws RX8 TX8 2
theorem nmX8 : ∀ a, a < 2 → ∀ b, b < 2 → a ≠ b → (TX8 a).2.1 ≠ (TX8 b).2.1 := by decide +kernel
theorem tyX8_ok : ∀ k, k < 2 → parseFieldDescriptor (TX8 k).2.2.1 = some (tyX8 k) := by decide +kernel
abbrev cX8_init : ByteArray := prog_10_method_1_code
def yX8_init : MethodName := ⟨RX8, "<init>", "()V"⟩
abbrev cX8_has : ByteArray := prog_10_method_2_code
def yX8_has : MethodName := ⟨RX8, "has", "(I)Z"⟩
abbrev cX8_append : ByteArray := prog_10_method_3_code
def yX8_append : MethodName := ⟨RX8, "append", "(IIII)Z"⟩
abbrev cX8_remove : ByteArray := prog_10_method_4_code
def yX8_remove : MethodName := ⟨RX8, "remove", "(I)V"⟩
abbrev cX8_copy : ByteArray := prog_10_method_5_code
def yX8_copy : MethodName := ⟨RX8, "copy", "(LCellPlane$Row;)V"⟩
def RX9 : String := "CellPlane$Seen"
def TX9 : u_T := fun k => match k with
  | 0 => ("CellPlane$Seen", "curves", "[I", true)
  | 1 => ("CellPlane$Seen", "xs", "[I", true)
  | 2 => ("CellPlane$Seen", "ys", "[I", true)
  | 3 => ("CellPlane$Seen", "hows", "[I", true)
  | _ => ("CellPlane$Seen", "size", "I", false)
def tyX9 : Nat → FieldType := fun k => match k with
  | 0 => .array .int
  | 1 => .array .int
  | 2 => .array .int
  | 3 => .array .int
  | _ => .int
abbrev wsX90 : List Cond := u_ws RX9 TX9 5
theorem nmX9 : ∀ a, a < 5 → ∀ b, b < 5 → a ≠ b → (TX9 a).2.1 ≠ (TX9 b).2.1 := by decide +kernel
theorem tyX9_ok : ∀ k, k < 5 → parseFieldDescriptor (TX9 k).2.2.1 = some (tyX9 k) := by decide +kernel
abbrev cX9_init : ByteArray := prog_11_method_1_code
def yX9_init : MethodName := ⟨RX9, "<init>", "()V"⟩
abbrev cX9_append : ByteArray := prog_11_method_2_code
def yX9_append : MethodName := ⟨RX9, "append", "(IIII)Z"⟩
abbrev cX9_copy : ByteArray := prog_11_method_3_code
def yX9_copy : MethodName := ⟨RX9, "copy", "(LCellPlane$Seen;)V"⟩
abbrev cX9_sortsOf : ByteArray := prog_11_method_4_code
def yX9_sortsOf : MethodName := ⟨RX9, "sortsOf", "(ILCellPlane$Curve;)I"⟩
abbrev cX9_canBe : ByteArray := prog_11_method_5_code
def yX9_canBe : MethodName := ⟨RX9, "canBe", "(IILCellPlane$Curve;)Z"⟩
abbrev cX9_nextAsk : ByteArray := prog_11_method_6_code
def yX9_nextAsk : MethodName := ⟨RX9, "nextAsk", "(ILCellPlane$Curve;)I"⟩
abbrev cX9_leftAtWorst : ByteArray := prog_11_method_7_code
def yX9_leftAtWorst : MethodName := ⟨RX9, "leftAtWorst", "(ILCellPlane$Curve;I)I"⟩
def RX10 : String := "CellPlane$Stacks"
def TX10 : u_T := fun k => match k with
  | 0 => ("CellPlane$Stacks", "roots", "[LCellPlane$Root;", true)
  | 1 => ("CellPlane$Stacks", "points", "I", false)
  | 2 => ("CellPlane$Stacks", "size", "I", false)
  | 3 => ("CellPlane$Stacks", "curves", "I", false)
  | 4 => ("CellPlane$Stacks", "tops", "[I", true)
  | 5 => ("CellPlane$Stacks", "places", "[I", true)
  | 6 => ("CellPlane$Stacks", "upright", "[Z", true)
  | 7 => ("CellPlane$Stacks", "squares", "[I", true)
  | 8 => ("CellPlane$Stacks", "slopes", "[I", true)
  | 9 => ("CellPlane$Stacks", "heights", "[I", true)
  | _ => ("CellPlane$Stacks", "signs", "[I", true)
def tyX10 : Nat → FieldType := fun k => match k with
  | 0 => .array (.object "CellPlane$Root")
  | 1 => .int
  | 2 => .int
  | 3 => .int
  | 4 => .array .int
  | 5 => .array .int
  | 6 => .array .boolean
  | 7 => .array .int
  | 8 => .array .int
  | 9 => .array .int
  | _ => .array .int
abbrev wsX100 : List Cond := u_ws RX10 TX10 11
theorem nmX10 : ∀ a, a < 11 → ∀ b, b < 11 → a ≠ b → (TX10 a).2.1 ≠ (TX10 b).2.1 := by decide +kernel
theorem tyX10_ok : ∀ k, k < 11 → parseFieldDescriptor (TX10 k).2.2.1 = some (tyX10 k) := by decide +kernel
abbrev cX10_init : ByteArray := prog_12_method_1_code
def yX10_init : MethodName := ⟨RX10, "<init>", "()V"⟩
abbrev cX10_build : ByteArray := prog_12_method_2_code
def yX10_build : MethodName := ⟨RX10, "build", "(LCellPlane$Row;)V"⟩
abbrev cX10_readCurves : ByteArray := prog_12_method_3_code
def yX10_readCurves : MethodName := ⟨RX10, "readCurves", "(LCellPlane$Row;)V"⟩
abbrev cX10_meet : ByteArray := prog_12_method_4_code
def yX10_meet : MethodName := ⟨RX10, "meet", "(II)V"⟩
abbrev cX10_enter : ByteArray := prog_12_method_5_code
def yX10_enter : MethodName := ⟨RX10, "enter", "(JJJJ)V"⟩
abbrev cX10_comeFromFarLeft : ByteArray := prog_12_method_6_code
def yX10_comeFromFarLeft : MethodName := ⟨RX10, "comeFromFarLeft", "()V"⟩
abbrev cX10_stopAt : ByteArray := prog_12_method_7_code
def yX10_stopAt : MethodName := ⟨RX10, "stopAt", "(LCellPlane$Root;)V"⟩
abbrev cX10_goOnFrom : ByteArray := prog_12_method_8_code
def yX10_goOnFrom : MethodName := ⟨RX10, "goOnFrom", "(LCellPlane$Root;)V"⟩
abbrev cX10_note : ByteArray := prog_12_method_9_code
def yX10_note : MethodName := ⟨RX10, "note", "(III)V"⟩
abbrev cX10_settle : ByteArray := prog_12_method_10_code
def yX10_settle : MethodName := ⟨RX10, "settle", "(I)V"⟩
abbrev cX10_isFirstOfItsY : ByteArray := prog_12_method_11_code
def yX10_isFirstOfItsY : MethodName := ⟨RX10, "isFirstOfItsY", "(I)Z"⟩
abbrev cX10_sectionsBelow : ByteArray := prog_12_method_12_code
def yX10_sectionsBelow : MethodName := ⟨RX10, "sectionsBelow", "(I)I"⟩
abbrev cX10_placeUprights : ByteArray := prog_12_method_13_code
def yX10_placeUprights : MethodName := ⟨RX10, "placeUprights", "()V"⟩
abbrev cX10_stackAt : ByteArray := prog_12_method_14_code
def yX10_stackAt : MethodName := ⟨RX10, "stackAt", "(I)I"⟩
abbrev cX10_has : ByteArray := prog_12_method_15_code
def yX10_has : MethodName := ⟨RX10, "has", "(I)Z"⟩
abbrev cX10_hasCell : ByteArray := prog_12_method_16_code
def yX10_hasCell : MethodName := ⟨RX10, "hasCell", "(II)Z"⟩
abbrev cX10_sections : ByteArray := prog_12_method_17_code
def yX10_sections : MethodName := ⟨RX10, "sections", "()I"⟩
abbrev cX10_cells : ByteArray := prog_12_method_18_code
def yX10_cells : MethodName := ⟨RX10, "cells", "()I"⟩
abbrev cX10_sideOf : ByteArray := prog_12_method_19_code
def yX10_sideOf : MethodName := ⟨RX10, "sideOf", "(III)I"⟩
abbrev cX10_uprightsAt : ByteArray := prog_12_method_20_code
def yX10_uprightsAt : MethodName := ⟨RX10, "uprightsAt", "(I)I"⟩
abbrev cX10_pairsMeetingAt : ByteArray := prog_12_method_21_code
def yX10_pairsMeetingAt : MethodName := ⟨RX10, "pairsMeetingAt", "(I)I"⟩
abbrev cX10_meetAt : ByteArray := prog_12_method_22_code
def yX10_meetAt : MethodName := ⟨RX10, "meetAt", "(III)Z"⟩
abbrev cX10_neighboursOf : ByteArray := prog_12_method_23_code
def yX10_neighboursOf : MethodName := ⟨RX10, "neighboursOf", "(II)I"⟩
abbrev cX10_comingTo : ByteArray := prog_12_method_24_code
def yX10_comingTo : MethodName := ⟨RX10, "comingTo", "(III)I"⟩
abbrev cX10_lowestBeside : ByteArray := prog_12_method_25_code
def yX10_lowestBeside : MethodName := ⟨RX10, "lowestBeside", "(III)I"⟩
abbrev cX10_highestBeside : ByteArray := prog_12_method_26_code
def yX10_highestBeside : MethodName := ⟨RX10, "highestBeside", "(III)I"⟩
abbrev cX10_sectionBeside : ByteArray := prog_12_method_27_code
def yX10_sectionBeside : MethodName := ⟨RX10, "sectionBeside", "(III)I"⟩
def RX11 : String := "CellPlane"
def TX11 : u_T := fun k => match k with
  | 0 => ("CellPlane", "page", "LCellPlane$Page;", true)
  | 1 => ("CellPlane", "row", "LCellPlane$Row;", true)
  | 2 => ("CellPlane", "keptRow", "LCellPlane$Row;", true)
  | 3 => ("CellPlane", "fewerRow", "LCellPlane$Row;", true)
  | 4 => ("CellPlane", "seen", "LCellPlane$Seen;", true)
  | 5 => ("CellPlane", "keptSeen", "LCellPlane$Seen;", true)
  | 6 => ("CellPlane", "stacks", "LCellPlane$Stacks;", true)
  | 7 => ("CellPlane", "fewerStacks", "LCellPlane$Stacks;", true)
  | 8 => ("CellPlane", "asked", "LCellPlane$Form;", true)
  | 9 => ("CellPlane", "groups", "LCellPlane$Groups;", true)
  | 10 => ("CellPlane", "thrown", "LCellPlane$Dice;", true)
  | 11 => ("CellPlane", "ring", "LCellPlane$Ring;", true)
  | 12 => ("CellPlane", "imageStands", "Z", false)
  | 13 => ("CellPlane", "planesRead", "I", false)
  | 14 => ("CellPlane", "sentences", "I", false)
  | _ => ("CellPlane", "nextName", "I", false)
def tyX11 : Nat → FieldType := fun k => match k with
  | 0 => .object "CellPlane$Page"
  | 1 => .object "CellPlane$Row"
  | 2 => .object "CellPlane$Row"
  | 3 => .object "CellPlane$Row"
  | 4 => .object "CellPlane$Seen"
  | 5 => .object "CellPlane$Seen"
  | 6 => .object "CellPlane$Stacks"
  | 7 => .object "CellPlane$Stacks"
  | 8 => .object "CellPlane$Form"
  | 9 => .object "CellPlane$Groups"
  | 10 => .object "CellPlane$Dice"
  | 11 => .object "CellPlane$Ring"
  | 12 => .boolean
  | 13 => .int
  | 14 => .int
  | _ => .int
abbrev wsX110 : List Cond := u_ws RX11 TX11 16
theorem nmX11 : ∀ a, a < 16 → ∀ b, b < 16 → a ≠ b → (TX11 a).2.1 ≠ (TX11 b).2.1 := by decide +kernel
theorem tyX11_ok : ∀ k, k < 16 → parseFieldDescriptor (TX11 k).2.2.1 = some (tyX11 k) := by decide +kernel
abbrev cX11_init : ByteArray := prog_1_method_1_code
def yX11_init : MethodName := ⟨RX11, "<init>", "()V"⟩
abbrev cX11_letter : ByteArray := prog_1_method_2_code
def yX11_letter : MethodName := ⟨RX11, "letter", "(I)I"⟩
abbrev cX11_blank : ByteArray := prog_1_method_3_code
def yX11_blank : MethodName := ⟨RX11, "blank", "()I"⟩
abbrev cX11_fault : ByteArray := prog_1_method_4_code
def yX11_fault : MethodName := ⟨RX11, "fault", "()I"⟩
abbrev cX11_plane : ByteArray := prog_1_method_5_code
def yX11_plane : MethodName := ⟨RX11, "plane", "()I"⟩
abbrev cX11_curve : ByteArray := prog_1_method_6_code
def yX11_curve : MethodName := ⟨RX11, "curve", "(II)I"⟩
abbrev cX11_as : ByteArray := prog_1_method_7_code
def yX11_as : MethodName := ⟨RX11, "as", "(II)I"⟩
abbrev cX11_point : ByteArray := prog_1_method_8_code
def yX11_point : MethodName := ⟨RX11, "point", "(II)I"⟩
abbrev cX11_stack : ByteArray := prog_1_method_9_code
def yX11_stack : MethodName := ⟨RX11, "stack", "(I)I"⟩
abbrev cX11_cell : ByteArray := prog_1_method_10_code
def yX11_cell : MethodName := ⟨RX11, "cell", "(III)I"⟩
abbrev cX11_neighbours : ByteArray := prog_1_method_11_code
def yX11_neighbours : MethodName := ⟨RX11, "neighbours", "(II)I"⟩
abbrev cX11_put : ByteArray := prog_1_method_12_code
def yX11_put : MethodName := ⟨RX11, "put", "(III)I"⟩
abbrev cX11_take : ByteArray := prog_1_method_13_code
def yX11_take : MethodName := ⟨RX11, "take", "(I)I"⟩
abbrev cX11_move : ByteArray := prog_1_method_14_code
def yX11_move : MethodName := ⟨RX11, "move", "(III)I"⟩
abbrev cX11_change : ByteArray := prog_1_method_15_code
def yX11_change : MethodName := ⟨RX11, "change", "(II)I"⟩
abbrev cX11_mirror : ByteArray := prog_1_method_16_code
def yX11_mirror : MethodName := ⟨RX11, "mirror", "()I"⟩
abbrev cX11_sentence : ByteArray := prog_1_method_17_code
def yX11_sentence : MethodName := ⟨RX11, "sentence", "(IIII)I"⟩
abbrev cX11_pieces : ByteArray := prog_1_method_18_code
def yX11_pieces : MethodName := ⟨RX11, "pieces", "(II)I"⟩
abbrev cX11_loose : ByteArray := prog_1_method_19_code
def yX11_loose : MethodName := ⟨RX11, "loose", "()I"⟩
abbrev cX11_see : ByteArray := prog_1_method_20_code
def yX11_see : MethodName := ⟨RX11, "see", "(IIII)I"⟩
abbrev cX11_forget : ByteArray := prog_1_method_21_code
def yX11_forget : MethodName := ⟨RX11, "forget", "()I"⟩
abbrev cX11_dice : ByteArray := prog_1_method_22_code
def yX11_dice : MethodName := ⟨RX11, "dice", "(I)I"⟩
abbrev cX11_latest : ByteArray := prog_1_method_23_code
def yX11_latest : MethodName := ⟨RX11, "latest", "(I)I"⟩
abbrev cX11_image : ByteArray := prog_1_method_24_code
def yX11_image : MethodName := ⟨RX11, "image", "()I"⟩
abbrev cX11_restore : ByteArray := prog_1_method_25_code
def yX11_restore : MethodName := ⟨RX11, "restore", "()I"⟩
abbrev cX11_count : ByteArray := prog_1_method_26_code
def yX11_count : MethodName := ⟨RX11, "count", "(I)I"⟩
abbrev cX11_digest : ByteArray := prog_1_method_27_code
def yX11_digest : MethodName := ⟨RX11, "digest", "()J"⟩
abbrev cX11_mix : ByteArray := prog_1_method_28_code
def yX11_mix : MethodName := ⟨RX11, "mix", "(JI)J"⟩
abbrev cX11_mixCurves : ByteArray := prog_1_method_29_code
def yX11_mixCurves : MethodName := ⟨RX11, "mixCurves", "(J)J"⟩
abbrev cX11_mixPoints : ByteArray := prog_1_method_30_code
def yX11_mixPoints : MethodName := ⟨RX11, "mixPoints", "(J)J"⟩
abbrev cX11_mixStacks : ByteArray := prog_1_method_31_code
def yX11_mixStacks : MethodName := ⟨RX11, "mixStacks", "(J)J"⟩
abbrev cX11_isKind : ByteArray := prog_1_method_32_code
def yX11_isKind : MethodName := ⟨RX11, "isKind", "(I)Z"⟩
abbrev cX11_isNear : ByteArray := prog_1_method_33_code
def yX11_isNear : MethodName := ⟨RX11, "isNear", "(I)Z"⟩
abbrev cX11_isBit : ByteArray := prog_1_method_34_code
def yX11_isBit : MethodName := ⟨RX11, "isBit", "(I)Z"⟩
abbrev cX11_appendCurve : ByteArray := prog_1_method_35_code
def yX11_appendCurve : MethodName := ⟨RX11, "appendCurve", "(III)V"⟩
abbrev cX11_isSo : ByteArray := prog_1_method_36_code
def yX11_isSo : MethodName := ⟨RX11, "isSo", "(II)Z"⟩
abbrev cX11_isSoOver : ByteArray := prog_1_method_37_code
def yX11_isSoOver : MethodName := ⟨RX11, "isSoOver", "(II)Z"⟩
def RX12 : String := "CellPlaneModel"
def TX12 : u_T := fun k => match k with
  | 0 => ("CellPlaneModel", "page", "[I", true)
  | 1 => ("CellPlaneModel", "pageMany", "I", false)
  | 2 => ("CellPlaneModel", "curves", "I", false)
  | 3 => ("CellPlaneModel", "planesRead", "I", false)
  | 4 => ("CellPlaneModel", "nextName", "I", false)
  | 5 => ("CellPlaneModel", "kinds", "[I", true)
  | 6 => ("CellPlaneModel", "bs", "[I", true)
  | 7 => ("CellPlaneModel", "cs", "[I", true)
  | 8 => ("CellPlaneModel", "names", "[I", true)
  | 9 => ("CellPlaneModel", "old", "Z", false)
  | 10 => ("CellPlaneModel", "part", "[J", true)
  | 11 => ("CellPlaneModel", "sign", "[J", true)
  | 12 => ("CellPlaneModel", "root", "[J", true)
  | 13 => ("CellPlaneModel", "whole", "[J", true)
  | 14 => ("CellPlaneModel", "points", "I", false)
  | 15 => ("CellPlaneModel", "stacks", "I", false)
  | 16 => ("CellPlaneModel", "ranks", "[I", true)
  | 17 => ("CellPlaneModel", "sections", "[I", true)
  | 18 => ("CellPlaneModel", "sentences", "I", false)
  | 19 => ("CellPlaneModel", "ring", "[I", true)
  | 20 => ("CellPlaneModel", "ringMany", "I", false)
  | 21 => ("CellPlaneModel", "pieceOf", "[I", true)
  | 22 => ("CellPlaneModel", "seenMany", "I", false)
  | 23 => ("CellPlaneModel", "sights", "[I", true)
  | 24 => ("CellPlaneModel", "seedNow", "I", false)
  | 25 => ("CellPlaneModel", "keptPlane", "I", false)
  | 26 => ("CellPlaneModel", "keptCurves", "I", false)
  | 27 => ("CellPlaneModel", "keptSeen", "I", false)
  | 28 => ("CellPlaneModel", "keptKinds", "[I", true)
  | 29 => ("CellPlaneModel", "keptBs", "[I", true)
  | 30 => ("CellPlaneModel", "keptCs", "[I", true)
  | 31 => ("CellPlaneModel", "keptNames", "[I", true)
  | 32 => ("CellPlaneModel", "keptSights", "[I", true)
  | _ => ("CellPlaneModel", "hash", "J", false)
def tyX12 : Nat → FieldType := fun k => match k with
  | 0 => .array .int
  | 1 => .int
  | 2 => .int
  | 3 => .int
  | 4 => .int
  | 5 => .array .int
  | 6 => .array .int
  | 7 => .array .int
  | 8 => .array .int
  | 9 => .boolean
  | 10 => .array .long
  | 11 => .array .long
  | 12 => .array .long
  | 13 => .array .long
  | 14 => .int
  | 15 => .int
  | 16 => .array .int
  | 17 => .array .int
  | 18 => .int
  | 19 => .array .int
  | 20 => .int
  | 21 => .array .int
  | 22 => .int
  | 23 => .array .int
  | 24 => .int
  | 25 => .int
  | 26 => .int
  | 27 => .int
  | 28 => .array .int
  | 29 => .array .int
  | 30 => .array .int
  | 31 => .array .int
  | 32 => .array .int
  | _ => .long
abbrev wsX120 : List Cond := u_ws RX12 TX12 34
theorem nmX12 : ∀ a, a < 34 → ∀ b, b < 34 → a ≠ b → (TX12 a).2.1 ≠ (TX12 b).2.1 := by decide +kernel
theorem tyX12_ok : ∀ k, k < 34 → parseFieldDescriptor (TX12 k).2.2.1 = some (tyX12 k) := by decide +kernel
abbrev cX12_init : ByteArray := prog_14_method_1_code
def yX12_init : MethodName := ⟨RX12, "<init>", "()V"⟩
abbrev cX12_in : ByteArray := prog_14_method_2_code
def yX12_in : MethodName := ⟨RX12, "in", "(JJJ)Z"⟩
abbrev cX12_copy : ByteArray := prog_14_method_3_code
def yX12_copy : MethodName := ⟨RX12, "copy", "([I[I)V"⟩
abbrev cX12_letter : ByteArray := prog_14_method_4_code
def yX12_letter : MethodName := ⟨RX12, "letter", "(I)I"⟩
abbrev cX12_blank : ByteArray := prog_14_method_5_code
def yX12_blank : MethodName := ⟨RX12, "blank", "()I"⟩
abbrev cX12_kindBy : ByteArray := prog_14_method_6_code
def yX12_kindBy : MethodName := ⟨RX12, "kindBy", "(I)I"⟩
abbrev cX12_isGood : ByteArray := prog_14_method_7_code
def yX12_isGood : MethodName := ⟨RX12, "isGood", "(I)Z"⟩
abbrev cX12_faultOf : ByteArray := prog_14_method_8_code
def yX12_faultOf : MethodName := ⟨RX12, "faultOf", "()I"⟩
abbrev cX12_fault : ByteArray := prog_14_method_9_code
def yX12_fault : MethodName := ⟨RX12, "fault", "()I"⟩
abbrev cX12_numberAt : ByteArray := prog_14_method_10_code
def yX12_numberAt : MethodName := ⟨RX12, "numberAt", "(I)I"⟩
abbrev cX12_name : ByteArray := prog_14_method_11_code
def yX12_name : MethodName := ⟨RX12, "name", "(I)V"⟩
abbrev cX12_plane : ByteArray := prog_14_method_12_code
def yX12_plane : MethodName := ⟨RX12, "plane", "()I"⟩
abbrev cX12_lacks : ByteArray := prog_14_method_13_code
def yX12_lacks : MethodName := ⟨RX12, "lacks", "()Z"⟩
abbrev cX12_isCurve : ByteArray := prog_14_method_14_code
def yX12_isCurve : MethodName := ⟨RX12, "isCurve", "(I)Z"⟩
abbrev cX12_squareBy : ByteArray := prog_14_method_15_code
def yX12_squareBy : MethodName := ⟨RX12, "squareBy", "(I)I"⟩
abbrev cX12_square : ByteArray := prog_14_method_16_code
def yX12_square : MethodName := ⟨RX12, "square", "(I)I"⟩
abbrev cX12_slope : ByteArray := prog_14_method_17_code
def yX12_slope : MethodName := ⟨RX12, "slope", "(I)I"⟩
abbrev cX12_isFlat : ByteArray := prog_14_method_18_code
def yX12_isFlat : MethodName := ⟨RX12, "isFlat", "(I)Z"⟩
abbrev cX12_isSame : ByteArray := prog_14_method_19_code
def yX12_isSame : MethodName := ⟨RX12, "isSame", "(II)Z"⟩
abbrev cX12_signOf : ByteArray := prog_14_method_20_code
def yX12_signOf : MethodName := ⟨RX12, "signOf", "(J)I"⟩
abbrev cX12_signRoot : ByteArray := prog_14_method_21_code
def yX12_signRoot : MethodName := ⟨RX12, "signRoot", "(JJJ)I"⟩
abbrev cX12_signRoots : ByteArray := prog_14_method_22_code
def yX12_signRoots : MethodName := ⟨RX12, "signRoots", "(JJJJJ)I"⟩
abbrev cX12_layNumber : ByteArray := prog_14_method_23_code
def yX12_layNumber : MethodName := ⟨RX12, "layNumber", "(IJJJJ)V"⟩
abbrev cX12_compare : ByteArray := prog_14_method_24_code
def yX12_compare : MethodName := ⟨RX12, "compare", "(II)I"⟩
abbrev cX12_compareTo : ByteArray := prog_14_method_25_code
def yX12_compareTo : MethodName := ⟨RX12, "compareTo", "(IJJ)I"⟩
abbrev cX12_floorOf : ByteArray := prog_14_method_26_code
def yX12_floorOf : MethodName := ⟨RX12, "floorOf", "(IJ)J"⟩
abbrev cX12_difference : ByteArray := prog_14_method_27_code
def yX12_difference : MethodName := ⟨RX12, "difference", "(III)I"⟩
abbrev cX12_addPoint : ByteArray := prog_14_method_28_code
def yX12_addPoint : MethodName := ⟨RX12, "addPoint", "(JJJJ)V"⟩
abbrev cX12_addRoots : ByteArray := prog_14_method_29_code
def yX12_addRoots : MethodName := ⟨RX12, "addRoots", "(II)V"⟩
abbrev cX12_layPoints : ByteArray := prog_14_method_30_code
def yX12_layPoints : MethodName := ⟨RX12, "layPoints", "(I)V"⟩
abbrev cX12_laySample : ByteArray := prog_14_method_31_code
def yX12_laySample : MethodName := ⟨RX12, "laySample", "(II)V"⟩
abbrev cX12_laySamples : ByteArray := prog_14_method_32_code
def yX12_laySamples : MethodName := ⟨RX12, "laySamples", "()V"⟩
abbrev cX12_layRanks : ByteArray := prog_14_method_33_code
def yX12_layRanks : MethodName := ⟨RX12, "layRanks", "(I)V"⟩
abbrev cX12_isFirst : ByteArray := prog_14_method_34_code
def yX12_isFirst : MethodName := ⟨RX12, "isFirst", "(III)Z"⟩
abbrev cX12_layAll : ByteArray := prog_14_method_35_code
def yX12_layAll : MethodName := ⟨RX12, "layAll", "(I)V"⟩
abbrev cX12_freshen : ByteArray := prog_14_method_36_code
def yX12_freshen : MethodName := ⟨RX12, "freshen", "()V"⟩
abbrev cX12_cellsIn : ByteArray := prog_14_method_37_code
def yX12_cellsIn : MethodName := ⟨RX12, "cellsIn", "(I)I"⟩
abbrev cX12_cellsAll : ByteArray := prog_14_method_38_code
def yX12_cellsAll : MethodName := ⟨RX12, "cellsAll", "()I"⟩
abbrev cX12_isStack : ByteArray := prog_14_method_39_code
def yX12_isStack : MethodName := ⟨RX12, "isStack", "(I)Z"⟩
abbrev cX12_isCell : ByteArray := prog_14_method_40_code
def yX12_isCell : MethodName := ⟨RX12, "isCell", "(II)Z"⟩
abbrev cX12_lies : ByteArray := prog_14_method_41_code
def yX12_lies : MethodName := ⟨RX12, "lies", "(III)I"⟩
abbrev cX12_stack : ByteArray := prog_14_method_42_code
def yX12_stack : MethodName := ⟨RX12, "stack", "(I)I"⟩
abbrev cX12_cell : ByteArray := prog_14_method_43_code
def yX12_cell : MethodName := ⟨RX12, "cell", "(III)I"⟩
abbrev cX12_comesTo : ByteArray := prog_14_method_44_code
def yX12_comesTo : MethodName := ⟨RX12, "comesTo", "(III)I"⟩
abbrev cX12_isBeside : ByteArray := prog_14_method_45_code
def yX12_isBeside : MethodName := ⟨RX12, "isBeside", "(IIII)Z"⟩
abbrev cX12_isNeighbour : ByteArray := prog_14_method_46_code
def yX12_isNeighbour : MethodName := ⟨RX12, "isNeighbour", "(IIII)Z"⟩
abbrev cX12_neighbours : ByteArray := prog_14_method_47_code
def yX12_neighbours : MethodName := ⟨RX12, "neighbours", "(II)I"⟩
abbrev cX12_isForm : ByteArray := prog_14_method_48_code
def yX12_isForm : MethodName := ⟨RX12, "isForm", "(I)Z"⟩
abbrev cX12_figureOf : ByteArray := prog_14_method_49_code
def yX12_figureOf : MethodName := ⟨RX12, "figureOf", "(II)I"⟩
abbrev cX12_isSo : ByteArray := prog_14_method_50_code
def yX12_isSo : MethodName := ⟨RX12, "isSo", "(II)Z"⟩
abbrev cX12_holds : ByteArray := prog_14_method_51_code
def yX12_holds : MethodName := ⟨RX12, "holds", "(IIII)Z"⟩
abbrev cX12_holdsIn : ByteArray := prog_14_method_52_code
def yX12_holdsIn : MethodName := ⟨RX12, "holdsIn", "(IIII)Z"⟩
abbrev cX12_sentence : ByteArray := prog_14_method_53_code
def yX12_sentence : MethodName := ⟨RX12, "sentence", "(IIII)I"⟩
abbrev cX12_latest : ByteArray := prog_14_method_54_code
def yX12_latest : MethodName := ⟨RX12, "latest", "(I)I"⟩
abbrev cX12_isSpread : ByteArray := prog_14_method_55_code
def yX12_isSpread : MethodName := ⟨RX12, "isSpread", "()Z"⟩
abbrev cX12_piecesOf : ByteArray := prog_14_method_56_code
def yX12_piecesOf : MethodName := ⟨RX12, "piecesOf", "(II)I"⟩
abbrev cX12_pieces : ByteArray := prog_14_method_57_code
def yX12_pieces : MethodName := ⟨RX12, "pieces", "(II)I"⟩
abbrev cX12_loose : ByteArray := prog_14_method_58_code
def yX12_loose : MethodName := ⟨RX12, "loose", "()I"⟩
abbrev cX12_tellCurve : ByteArray := prog_14_method_59_code
def yX12_tellCurve : MethodName := ⟨RX12, "tellCurve", "(II)I"⟩
abbrev cX12_curve : ByteArray := prog_14_method_60_code
def yX12_curve : MethodName := ⟨RX12, "curve", "(II)I"⟩
abbrev cX12_as : ByteArray := prog_14_method_61_code
def yX12_as : MethodName := ⟨RX12, "as", "(II)I"⟩
abbrev cX12_meeting : ByteArray := prog_14_method_62_code
def yX12_meeting : MethodName := ⟨RX12, "meeting", "(I)I"⟩
abbrev cX12_standing : ByteArray := prog_14_method_63_code
def yX12_standing : MethodName := ⟨RX12, "standing", "(I)I"⟩
abbrev cX12_tellPoint : ByteArray := prog_14_method_64_code
def yX12_tellPoint : MethodName := ⟨RX12, "tellPoint", "(II)I"⟩
abbrev cX12_point : ByteArray := prog_14_method_65_code
def yX12_point : MethodName := ⟨RX12, "point", "(II)I"⟩
abbrev cX12_isNumber : ByteArray := prog_14_method_66_code
def yX12_isNumber : MethodName := ⟨RX12, "isNumber", "(I)Z"⟩
abbrev cX12_put : ByteArray := prog_14_method_67_code
def yX12_put : MethodName := ⟨RX12, "put", "(III)I"⟩
abbrev cX12_take : ByteArray := prog_14_method_68_code
def yX12_take : MethodName := ⟨RX12, "take", "(I)I"⟩
abbrev cX12_cellsNow : ByteArray := prog_14_method_69_code
def yX12_cellsNow : MethodName := ⟨RX12, "cellsNow", "()I"⟩
abbrev cX12_move : ByteArray := prog_14_method_70_code
def yX12_move : MethodName := ⟨RX12, "move", "(III)I"⟩
abbrev cX12_change : ByteArray := prog_14_method_71_code
def yX12_change : MethodName := ⟨RX12, "change", "(II)I"⟩
abbrev cX12_mirror : ByteArray := prog_14_method_72_code
def yX12_mirror : MethodName := ⟨RX12, "mirror", "()I"⟩
abbrev cX12_see : ByteArray := prog_14_method_73_code
def yX12_see : MethodName := ⟨RX12, "see", "(IIII)I"⟩
abbrev cX12_forget : ByteArray := prog_14_method_74_code
def yX12_forget : MethodName := ⟨RX12, "forget", "()I"⟩
abbrev cX12_liesAt : ByteArray := prog_14_method_75_code
def yX12_liesAt : MethodName := ⟨RX12, "liesAt", "(IIII)I"⟩
abbrev cX12_sortsOf : ByteArray := prog_14_method_76_code
def yX12_sortsOf : MethodName := ⟨RX12, "sortsOf", "(I)I"⟩
abbrev cX12_askOf : ByteArray := prog_14_method_77_code
def yX12_askOf : MethodName := ⟨RX12, "askOf", "(I)I"⟩
abbrev cX12_dice : ByteArray := prog_14_method_78_code
def yX12_dice : MethodName := ⟨RX12, "dice", "(I)I"⟩
abbrev cX12_image : ByteArray := prog_14_method_79_code
def yX12_image : MethodName := ⟨RX12, "image", "()I"⟩
abbrev cX12_restore : ByteArray := prog_14_method_80_code
def yX12_restore : MethodName := ⟨RX12, "restore", "()I"⟩
abbrev cX12_sectionsAll : ByteArray := prog_14_method_81_code
def yX12_sectionsAll : MethodName := ⟨RX12, "sectionsAll", "()I"⟩
abbrev cX12_countPlane : ByteArray := prog_14_method_82_code
def yX12_countPlane : MethodName := ⟨RX12, "countPlane", "(I)I"⟩
abbrev cX12_countOf : ByteArray := prog_14_method_83_code
def yX12_countOf : MethodName := ⟨RX12, "countOf", "(I)I"⟩
abbrev cX12_count : ByteArray := prog_14_method_84_code
def yX12_count : MethodName := ⟨RX12, "count", "(I)I"⟩
abbrev cX12_say : ByteArray := prog_14_method_85_code
def yX12_say : MethodName := ⟨RX12, "say", "(J)V"⟩
abbrev cX12_sayStacks : ByteArray := prog_14_method_86_code
def yX12_sayStacks : MethodName := ⟨RX12, "sayStacks", "()V"⟩
abbrev cX12_digest : ByteArray := prog_14_method_87_code
def yX12_digest : MethodName := ⟨RX12, "digest", "()J"⟩
def RJ6 : String := "java/lang/Integer"
def TJ6 : u_T := fun k => match k with
  | _ => ("", "", "", false)
def tyJ6 : Nat → FieldType := fun k => match k with
  | _ => .int
abbrev wsJ60 : List Cond := u_ws RJ6 TJ6 0
theorem nmJ6 : ∀ a, a < 0 → ∀ b, b < 0 → a ≠ b → (TJ6 a).2.1 ≠ (TJ6 b).2.1 := by decide +kernel
theorem tyJ6_ok : ∀ k, k < 0 → parseFieldDescriptor (TJ6 k).2.2.1 = some (tyJ6 k) := by decide +kernel
abbrev cJ6_compare_7cf53 : ByteArray := prog_15_method_40_code
def yJ6_compare_7cf53 : MethodName := ⟨RJ6, "compare", "(II)I"⟩
def RJ13 : String := "java/lang/Long"
def TJ13 : u_T := fun k => match k with
  | _ => ("", "", "", false)
def tyJ13 : Nat → FieldType := fun k => match k with
  | _ => .int
abbrev wsJ130 : List Cond := u_ws RJ13 TJ13 0
theorem nmJ13 : ∀ a, a < 0 → ∀ b, b < 0 → a ≠ b → (TJ13 a).2.1 ≠ (TJ13 b).2.1 := by decide +kernel
theorem tyJ13_ok : ∀ k, k < 0 → parseFieldDescriptor (TJ13 k).2.2.1 = some (tyJ13 k) := by decide +kernel
abbrev cJ13_compare_74951 : ByteArray := prog_16_method_42_code
def yJ13_compare_74951 : MethodName := ⟨RJ13, "compare", "(JJ)I"⟩
def RJ9 : String := "java/lang/Math"
def TJ9 : u_T := fun k => match k with
  | _ => ("", "", "", false)
def tyJ9 : Nat → FieldType := fun k => match k with
  | _ => .int
abbrev wsJ90 : List Cond := u_ws RJ9 TJ9 0
theorem nmJ9 : ∀ a, a < 0 → ∀ b, b < 0 → a ≠ b → (TJ9 a).2.1 ≠ (TJ9 b).2.1 := by decide +kernel
theorem tyJ9_ok : ∀ k, k < 0 → parseFieldDescriptor (TJ9 k).2.2.1 = some (tyJ9 k) := by decide +kernel
abbrev cJ9_floorDiv_f86c9 : ByteArray := prog_17_method_49_code
def yJ9_floorDiv_f86c9 : MethodName := ⟨RJ9, "floorDiv", "(JJ)J"⟩
abbrev cJ9_floorMod_7cf53 : ByteArray := prog_17_method_50_code
def yJ9_floorMod_7cf53 : MethodName := ⟨RJ9, "floorMod", "(II)I"⟩
abbrev cJ9_max_7cf53 : ByteArray := prog_17_method_65_code
def yJ9_max_7cf53 : MethodName := ⟨RJ9, "max", "(II)I"⟩
abbrev cJ9_min_7cf53 : ByteArray := prog_17_method_69_code
def yJ9_min_7cf53 : MethodName := ⟨RJ9, "min", "(II)I"⟩
def RL : String := "CellPlaneLaw"
abbrev cL_law : ByteArray := code
def yL_law : MethodName := ⟨RL, "law", "([I)Z"⟩
abbrev vwCl : List vw_C := [(RX0, TX0, 4), (RX1, TX1, 1), (RX3, TX3, 2), (RX4, TX4, 2), (RX5, TX5, 2), (RX6, TX6, 3), (RX7, TX7, 4), (RX8, TX8, 2), (RX9, TX9, 5), (RX10, TX10, 11), (RX11, TX11, 16), (RX12, TX12, 34)]
end
section
/-! the abstract state: values (tag, number), memory by cell and slot, shapes; what a machine state must be to hold one -/
abbrev zAV : Type := Nat × Int
abbrev zMem : Type := Int → Int → Int
abbrev zSh : Type := List (Nat × Nat)
/-- name, bytes, locals, answer, frames, locals' room, cells, slots -/
abbrev zMT : Type := MethodName × ByteArray × Nat × Option FieldType × Nat × Nat × Nat × Nat
/-- the script's cell, the heap at the law's start, class ids, slots of fields, array class ids, the script -/
abbrev zCT : Type := Nat × Heap × (Nat → ClassId) × (Nat → Nat → Nat) × (Nat → ClassId) × Nat × (Nat → Int32)
def zwsG : List Cond := lw_tbl.filter goodWord
def zws (mt : zMT) : List Cond := .code mt.1 mt.2.1 mt.2.2.1 mt.2.2.2.1 :: zwsG
def zrm (mt : zMT) : Room := { frames := mt.2.2.2.2.1, locals := mt.2.2.2.2.2.1, cells := mt.2.2.2.2.2.2.1, slots := mt.2.2.2.2.2.2.2 }
def zro (X : zCT) (v : Int) : Option Nat := if v = -2 then some X.1 else if v < 0 then none else some (X.2.1.size + v.toNat)
def zcV (X : zCT) (v : zAV) : Value := match v.1 with
  | 0 => .int (Int32.ofInt v.2)
  | 1 => .long (Int64.ofInt v.2)
  | _ => va_rf (zro X v.2)
def ztag (ty : FieldType) : Nat := match ty with
  | .long => 1
  | .object _ => 2
  | .array _ => 2
  | _ => 0
def zN (c : Nat) : Nat := match vwCl[c]? with
  | some q => q.2.2
  | none => 0
def zty (c k : Nat) : FieldType := match c with
  | 0 => tyX0 k
  | 1 => tyX1 k
  | 2 => tyX3 k
  | 3 => tyX4 k
  | 4 => tyX5 k
  | 5 => tyX6 k
  | 6 => tyX7 k
  | 7 => tyX8 k
  | 8 => tyX9 k
  | 9 => tyX10 k
  | 10 => tyX11 k
  | _ => tyX12 k
def zE (X : zCT) (mem : zMem) (i : Nat) (q : Nat × Nat) : va_E := match q.1 with
  | 12 => .inl (X.2.2.2.2.1 12, q.2, .inl (fun k => Int32.ofInt (mem i k)))
  | 13 => .inl (X.2.2.2.2.1 13, q.2, .inr (.inl (fun k => Int64.ofInt (mem i k))))
  | 14 => .inl (X.2.2.2.2.1 14, q.2, .inl (fun k => Int32.ofInt (mem i k)))
  | 15 => .inl (X.2.2.2.2.1 15, q.2, .inr (.inr (.inr (.inr (fun k => zro X (mem i k))))))
  | 16 => .inl (X.2.2.2.2.1 16, q.2, .inr (.inr (.inr (.inr (fun k => zro X (mem i k))))))
  | c => .inr (c, (List.range (zN c)).map (fun k => zcV X (ztag (zty c k), mem i k)))
def zW (X : zCT) (sh : zSh) (mem : zMem) : va_W := sh.zipIdx.map (fun p => (X.2.1.size + p.2, zE X mem p.2 p.1))
theorem zW_get (X : zCT) (sh : zSh) (mem : zMem) (i : Nat) : (zW X sh mem)[i]? = (sh[i]?).map (fun q => (X.2.1.size + i, zE X mem i q)) := by
  unfold zW
  rw [List.getElem?_map, List.getElem?_zipIdx]
  cases sh[i]? <;> simp
theorem zW_len (X : zCT) (sh : zSh) (mem : zMem) : (zW X sh mem).length = sh.length := by simp [zW]
theorem zW_app (X : zCT) (sh : zSh) (mem : zMem) (q : Nat × Nat) : zW X (sh ++ [q]) mem = zW X sh mem ++ [(X.2.1.size + sh.length, zE X mem sh.length q)] := by
  simp [zW, List.zipIdx_append]
theorem zW_D (X : zCT) (sh : zSh) (mem : zMem) : va_D (fun q => X.2.1.size ≤ q) (zW X sh mem) := by
  refine ⟨fun i j p q hi hj h => ?_, fun k q hk => ?_⟩
  · rw [zW_get] at hi hj
    obtain ⟨a, -, rfl⟩ := Option.map_eq_some_iff.mp hi
    obtain ⟨b, -, rfl⟩ := Option.map_eq_some_iff.mp hj
    simp only at h
    omega
  · rw [zW_get] at hk
    obtain ⟨a, -, rfl⟩ := Option.map_eq_some_iff.mp hk
    exact Nat.le_add_right _ _
/-- another memory that differs at one cell -/
theorem zW_set (X : zCT) (sh : zSh) (mem mem' : zMem) (i : Nat) (q : Nat × Nat) (e : va_E) (hq : sh[i]? = some q) (he : zE X mem' i q = e) (ho : ∀ j : Nat, j ≠ i → mem' j = mem j) : (zW X sh mem).set i (X.2.1.size + i, e) = zW X sh mem' := by
  apply List.ext_getElem?
  intro j
  by_cases h : j = i
  · subst h
    have hl : j < sh.length := (List.getElem?_eq_some_iff.mp hq).1
    rw [List.getElem?_set_self (by rw [zW_len]; exact hl), zW_get, hq]
    simp [he]
  · rw [List.getElem?_set_ne (Ne.symm h), zW_get, zW_get]
    cases hs : sh[j]? with
    | none => rfl
    | some p =>
      simp only [Option.map_some]
      have : zE X mem' j p = zE X mem j p := by
        unfold zE
        rw [ho j h]
      rw [this]
def zup (mem : zMem) (a k v : Int) : zMem := fun a' k' => if a' = a ∧ k' = k then v else mem a' k'
def zkd (sh : zSh) (a : Int) : Nat × Nat := match a with
  | .ofNat i => sh.getD i (99, 0)
  | .negSucc _ => (99, 0)
theorem zkd_at {sh : zSh} {a : Int} {q : Nat × Nat} (h : zkd sh a = q) (hq : q.1 < 99) : ∃ i : Nat, a = (i : Int) ∧ sh[i]? = some q := by
  cases a with
  | ofNat i =>
    refine ⟨i, rfl, ?_⟩
    have h1 : sh.getD i (99, 0) = q := h
    rw [List.getD_eq_getElem?_getD] at h1
    cases hs : sh[i]? with
    | none => rw [hs] at h1; subst h1; exact absurd hq (by decide)
    | some p => rw [hs] at h1; rw [← h1]; rfl
  | negSucc i =>
    have h1 : ((99, 0) : Nat × Nat) = q := h
    subst h1
    exact absurd hq (by decide)
theorem zro_nat (X : zCT) (i : Nat) : zro X (i : Int) = some (X.2.1.size + i) := by
  unfold zro
  rw [if_neg (by omega), if_neg (by omega)]
  simp
theorem zcV_ref (X : zCT) (i : Nat) : zcV X (2, (i : Int)) = .ref (X.2.1.size + i) := by
  show va_rf (zro X (i : Int)) = _
  rw [zro_nat]; rfl
theorem zcV_scr (X : zCT) : zcV X (2, -2) = .ref X.1 := rfl
def zH (X : zCT) (sh : zSh) (mem : zMem) (H : Heap) : Prop := va_P (X.2.2.1, X.2.2.2.1) vwCl (zW X sh mem) H ∧ H.size = X.2.1.size + sh.length ∧ ∀ q : Nat, q < X.2.1.size → H[q]? = X.2.1[q]?
def ztys (X : zCT) : List (ClassId × FieldType) := [(X.2.2.2.2.1 12, .int), (X.2.2.2.2.1 13, .long), (X.2.2.2.2.1 14, .boolean), (X.2.2.2.2.1 15, .object "CellPlane$Curve"), (X.2.2.2.2.1 16, .object "CellPlane$Root")]
end
section
/-! contexts, the judgement zV, contracts zSp -/
def znest : List (String × Nat × MethodName × String) := [("CellPlane", 11, yX5_init, "CellPlane"), ("CellPlane$Row", 21, yX0_init, "CellPlane"), ("CellPlane", 31, yX9_init, "CellPlane"), ("CellPlane$Stacks", 50, yX7_init, "CellPlane"), ("CellPlane", 51, yX3_init, "CellPlane"), ("CellPlane", 58, yX4_init, "CellPlane"), ("CellPlane", 65, yX1_init, "CellPlane"), ("CellPlane", 72, yX6_init, "CellPlane")]
def zK (X : zCT) (U : State) : Prop := va_K (X.2.2.1, X.2.2.2.1) vwCl (ztys X) U ∧ (va_X X.1 X.2.2.2.2.2.1 X.2.2.2.2.2.2 U X.2.1 ∧ X.1 < X.2.1.size) ∧ (∀ q ∈ znest, va_Nw (.methodLinkNest q.1 q.2.1 q.2.2.1 q.2.2.2) U) ∧ va_AO "CellPlane$Curve" U ∧ va_AO "CellPlane$Root" U
theorem zK_moved {X : zCT} {s U : State} (hW : s.WarmedH U.vm) (h : zK X s) : zK X U :=
  ⟨va_K.moved hW.alike h.1, ⟨va_X.moved hW.alike h.2.1.1, h.2.1.2⟩, fun q hq => va_Nw.warmM hW (h.2.2.1 q hq), va_AO.moved hW.alike h.2.2.2.1, va_AO.moved hW.alike h.2.2.2.2⟩
theorem zK_calling {X : zCT} {U : State} (g : JFrame) (mk : MethodId) (a : Array Value) (h : zK X U) : zK X (U.calling g mk a) :=
  ⟨va_K.moved (u := U) (U := U.calling g mk a) (Vm.Alike.refl U.vm) h.1, ⟨va_X.moved (u := U) (U := U.calling g mk a) (Vm.Alike.refl U.vm) h.2.1.1, h.2.1.2⟩, fun q hq => va_Nw.same rfl (u := U) (U := U.calling g mk a) rfl (h.2.2.1 q hq), va_AO.moved (u := U) (U := U.calling g mk a) (Vm.Alike.refl U.vm) h.2.2.2.1, va_AO.moved (u := U) (U := U.calling g mk a) (Vm.Alike.refl U.vm) h.2.2.2.2⟩
def zgl : List (Option zAV) → Nat → Option zAV
  | [], _ => none
  | x :: _, 0 => x
  | _ :: l, n + 1 => zgl l n
def zsl : List (Option zAV) → Nat → Option zAV → List (Option zAV)
  | [], _, _ => []
  | _ :: l, 0, x => x :: l
  | y :: l, n + 1, x => y :: zsl l n x
def zcp (L : List (Option zAV)) (i : Nat) : List (Option zAV) := match i with
  | 0 => L
  | j + 1 => match zgl L j with
    | some (1, _) => zsl L j none
    | _ => L
def zs1 (L : List (Option zAV)) (i : Nat) (v : zAV) : List (Option zAV) := zsl (zcp L i) i (some v)
def zs2 (L : List (Option zAV)) (i : Nat) (v : zAV) : List (Option zAV) := zsl (zsl (zcp L i) i (some v)) (i + 1) none
theorem zgl_sl (L : List (Option zAV)) (x : Option zAV) : ∀ (i j : Nat) (v : zAV), zgl (zsl L i x) j = some v → (j = i ∧ x = some v) ∨ (j ≠ i ∧ zgl L j = some v) := by
  induction L with
  | nil => intro i j v h; simp [zsl, zgl] at h
  | cons y l ih =>
    intro i j v h
    cases i with
    | zero =>
      cases j with
      | zero => exact Or.inl ⟨rfl, h⟩
      | succ j => exact Or.inr ⟨by omega, h⟩
    | succ i =>
      cases j with
      | zero => exact Or.inr ⟨by omega, h⟩
      | succ j =>
        rcases ih i j v h with ⟨a, b⟩ | ⟨a, b⟩
        · exact Or.inl ⟨by omega, b⟩
        · exact Or.inr ⟨by omega, b⟩
theorem zgl_cp (L : List (Option zAV)) (i j : Nat) (v : zAV) (h : zgl (zcp L i) j = some v) : zgl L j = some v ∧ ¬ (j + 1 = i ∧ v.1 = 1) := by
  cases i with
  | zero => exact ⟨h, fun q => by omega⟩
  | succ k =>
    have key : zgl (match zgl L k with
      | some (1, _) => zsl L k none
      | _ => L) j = some v := h
    cases hk : zgl L k with
    | none =>
      rw [hk] at key
      refine ⟨key, fun q => ?_⟩
      have e : j = k := by omega
      subst e
      rw [hk] at key
      cases key
    | some w =>
      obtain ⟨t, x⟩ := w
      by_cases ht : t = 1
      · subst ht
        rw [hk] at key
        rcases zgl_sl L none k j v key with ⟨_, b⟩ | ⟨a, b⟩
        · cases b
        · exact ⟨b, fun q => a (by omega)⟩
      · rw [hk] at key
        have key2 : zgl L j = some v := by
          split at key
          · next h9 => cases h9; exact absurd rfl ht
          · exact key
        refine ⟨key2, fun q => ?_⟩
        have e : j = k := by omega
        subst e
        rw [hk] at key2
        cases key2
        exact ht q.2
def zL (X : zCT) (ls : Array Slot) (n : Nat) (L : List (Option zAV)) : Prop := ls.size = n ∧ lv_wf ls ∧ ∀ (i : Nat) (v : zAV), zgl L i = some v → ls[i]? = some (.val (zcV X v))
theorem zcat (X : zCT) (v : zAV) : (zcV X v).category = 2 ↔ v.1 = 1 := by
  obtain ⟨t, x⟩ := v
  match t with
  | 0 => simp [zcV, Value.category]
  | 1 => simp [zcV, Value.category]
  | t + 2 =>
    show (va_rf (zro X x)).category = 2 ↔ _
    cases zro X x <;> simp [va_rf, Value.category]
def zas (X : zCT) (n : Nat) (L : List (Option zAV)) : List (Nat × Value) := (List.range n).filterMap (fun i => (zgl L i).map (fun v => (i, zcV X v)))
theorem zgl_lt (L : List (Option zAV)) : ∀ (i : Nat) (v : zAV), zgl L i = some v → i < L.length := by
  induction L with
  | nil => intro i v h; simp [zgl] at h
  | cons x l ih =>
    intro i v h
    cases i with
    | zero => simp
    | succ i => have := ih i v h; simp; omega
theorem zas_mem {X : zCT} {n : Nat} {L : List (Option zAV)} {i : Nat} {v : zAV} (hi : i < n) (h : zgl L i = some v) : (i, zcV X v) ∈ zas X n L :=
  List.mem_filterMap.mpr ⟨i, List.mem_range.mpr hi, by rw [h]; rfl⟩
theorem zL_has {X : zCT} {ls : Array Slot} {n : Nat} {L : List (Option zAV)} (h : zL X ls n L) : lv_has ls n (zas X n L) := by
  refine ⟨h.1, h.2.1, fun q hq => ?_⟩
  obtain ⟨i, -, hi⟩ := List.mem_filterMap.mp hq
  obtain ⟨v, hv, rfl⟩ := Option.map_eq_some_iff.mp hi
  exact h.2.2 i v hv
theorem zL_s1 {X : zCT} {ls ls' : Array Slot} {n i : Nat} {L : List (Option zAV)} {v : zAV} (h : zL X ls n L) (h' : lv_has ls' n ((i, zcV X v) :: (zas X n L).filter (fun q => !(q.1 == i) && !(q.1 + 1 == i && q.2.category == 2)))) : zL X ls' n (zs1 L i v) := by
  refine ⟨h'.1, h'.2.1, fun j w hw => ?_⟩
  rcases zgl_sl _ _ i j w hw with ⟨a, b⟩ | ⟨a, b⟩
  · cases b
    subst a
    exact h'.2.2 _ List.mem_cons_self
  · obtain ⟨c1, c2⟩ := zgl_cp L i j w b
    have hj : j < n := by rw [← h.1]; exact lv_lt (h.2.2 j w c1)
    refine h'.2.2 (j, zcV X w) (List.mem_cons_of_mem _ (List.mem_filter.mpr ⟨zas_mem hj c1, ?_⟩))
    have hc := zcat X w
    simp only [Bool.and_eq_true, Bool.not_eq_true', beq_eq_false_iff_ne, ne_eq, Bool.and_eq_false_iff]
    refine ⟨a, ?_⟩
    by_cases e : j + 1 = i
    · exact Or.inr (fun q => c2 ⟨e, hc.mp q⟩)
    · exact Or.inl e
theorem zL_s2 {X : zCT} {ls ls' : Array Slot} {n i : Nat} {L : List (Option zAV)} {v : zAV} (h : zL X ls n L) (h' : lv_has ls' n ((i, zcV X v) :: (zas X n L).filter (fun q => !(q.1 == i) && (!(q.1 == i + 1) && !(q.1 + 1 == i && q.2.category == 2))))) : zL X ls' n (zs2 L i v) := by
  refine ⟨h'.1, h'.2.1, fun j w hw => ?_⟩
  rcases zgl_sl _ _ (i + 1) j w hw with ⟨_, b⟩ | ⟨a0, b0⟩
  · cases b
  · rcases zgl_sl _ _ i j w b0 with ⟨a, b⟩ | ⟨a, b⟩
    · cases b
      subst a
      exact h'.2.2 _ List.mem_cons_self
    · obtain ⟨c1, c2⟩ := zgl_cp L i j w b
      have hj : j < n := by rw [← h.1]; exact lv_lt (h.2.2 j w c1)
      refine h'.2.2 (j, zcV X w) (List.mem_cons_of_mem _ (List.mem_filter.mpr ⟨zas_mem hj c1, ?_⟩))
      have hc := zcat X w
      simp only [Bool.and_eq_true, Bool.not_eq_true', beq_eq_false_iff_ne, ne_eq, Bool.and_eq_false_iff]
      refine ⟨a, a0, ?_⟩
      by_cases e : j + 1 = i
      · exact Or.inr (fun q => c2 ⟨e, hc.mp q⟩)
      · exact Or.inl e
/-- the context of a method's body -/
def zC (mt : zMT) (X : zCT) (p : Program) (s : State) (m : MethodId) (args : Array Value) (meth : Method) (c : Code) : Prop :=
  p.tables.exec = Jvm.exec ∧ c.code = mt.2.1 ∧ c.maxLocals = mt.2.2.1 ∧ meth.sig.returnType = mt.2.2.2.1 ∧ meth.locks = false ∧ s.vm.findClass mt.1.cls = some m.cls ∧ (∀ w ∈ zwsG, w.before args s = true) ∧ zK X s ∧ meth.name = mt.1.name
/-- what a return instruction gives back -/
def zri (mt : zMT) (i : Instr) (r : Option zAV) : Prop :=
  (i = .ireturn ∧ ∃ v : Int, r = some (0, v) ∧ (mt.2.2.2.1 = some .int ∨ (mt.2.2.2.1 = some .boolean ∧ (v = 0 ∨ v = 1)))) ∨ (i = .lreturn ∧ mt.2.2.2.1 = some .long ∧ ∃ v : Int, r = some (1, v)) ∨ (i = .return_ ∧ mt.2.2.2.1 = none ∧ r = none)
abbrev zQT : Type := Option zAV → zSh → zMem → Prop
def zlo (X : zCT) (locs : List Loc) : Prop := ∀ q ∈ locs, X.2.1.size ≤ q.base
def zR (mt : zMT) (X : zCT) (Q : zQT) (p : Program) (l : Launch) (e : Env) (s : State) (m : MethodId) (args : Array Value) (below : List Frame) (meth : Method) (c : Code) (Z : State → Prop) : Prop :=
  ∀ (pc : Nat) (ls : Array Slot) (H : Heap) (locs : List Loc) (cells slots : Nat) (r : Option zAV) (sh : zSh) (mem : zMem) (i : Instr), decode mt.2.1 pc = .ok (i, 1) → zri mt i r → zH X sh mem H → zlo X locs → cells ≤ (zrm mt).cells → slots ≤ (zrm mt).slots → Q r sh mem →
    W p l e (zrm mt) s m args below meth c H locs cells slots Z (F0 m pc ls (r.toList.map (zcV X)))
def zT : zCT → Prop := fun _ => True
def zV (P : zCT → Prop) (mt : zMT) (sh : zSh) (u : Nat × Nat) (pc : Nat) (L : List (Option zAV)) (st : List zAV) (mem : zMem) (Q : zQT) : Prop :=
  ∀ (X : zCT) (p : Program) (l : Launch) (e : Env) (s : State) (m : MethodId) (args : Array Value) (below : List Frame) (meth : Method) (c : Code) (Z : State → Prop), P X → zC mt X p s m args meth c → zR mt X Q p l e s m args below meth c Z →
    ∀ (H : Heap) (locs : List Loc) (ls : Array Slot), zH X sh mem H → zlo X locs → zL X ls mt.2.2.1 L → W p l e (zrm mt) s m args below meth c H locs u.1 u.2 Z (F0 m pc ls (st.map (zcV X)))
def zPc (X : zCT) (avs : List zAV) (sh : zSh) (mem : zMem) : Array Value → State → Prop := fun v U => v = (avs.map (zcV X)).toArray ∧ zK X U ∧ zH X sh mem U.heap
def zQc (X : zCT) (Q : zQT) : Array Value → State → Outcome → State → Prop := fun _ _ o t => ∃ (r : Option zAV) (sh : zSh) (mem : zMem), o = .returned (r.map (zcV X)) ∧ Q r sh mem ∧ zH X sh mem t.heap
def zSp (mt : zMT) (avs : List zAV) (sh : zSh) (mem : zMem) (Q : zQT) : Prop :=
  ∀ (l : Launch) (X : zCT), Met l mt.1 (zws mt) (zrm mt) (zPc X avs sh mem) (zQc X Q) (zrm mt).cells (zrm mt).slots (fun q => X.2.1.size ≤ q)
/-- the locals with which a method begins -/
def zal : List zAV → List (Option zAV)
  | [] => []
  | v :: vs => if v.1 = 1 then some v :: none :: zal vs else some v :: zal vs
theorem zal_args (X : zCT) (vs : List zAV) : ∀ (k i : Nat) (v : zAV), zgl (zal vs) i = some v → (k + i, zcV X v) ∈ lv_args k (vs.map (zcV X)) := by
  induction vs with
  | nil => intro k i v h; simp [zal, zgl] at h
  | cons w ws ih =>
    intro k i v h
    have hc := zcat X w
    unfold zal at h
    simp only [List.map_cons, lv_args]
    by_cases hw : w.1 = 1
    · rw [if_pos hw] at h
      rw [if_pos (hc.mpr hw)]
      match i, h with
      | 0, h => cases h; exact List.mem_cons_self
      | 1, h => cases h
      | i + 2, h =>
        have := ih (k + 2) i v h
        rw [show k + (i + 2) = k + 2 + i by omega]
        exact List.mem_cons_of_mem _ this
    · rw [if_neg hw] at h
      rw [if_neg (fun q => hw (hc.mp q))]
      match i, h with
      | 0, h => cases h; exact List.mem_cons_self
      | i + 1, h =>
        have := ih (k + 1) i v h
        rw [show k + (i + 1) = k + 1 + i by omega]
        exact List.mem_cons_of_mem _ this
theorem zgl_app (L M : List (Option zAV)) : ∀ (i : Nat) (v : zAV), zgl (L ++ List.replicate M.length none) i = some v → zgl L i = some v := by
  induction L with
  | nil =>
    intro i v h
    exfalso
    revert i
    induction M with
    | nil => intro i h; simp [zgl] at h
    | cons x l ih =>
      intro i h
      cases i with
      | zero => cases h
      | succ i => exact ih i h
  | cons x l ih =>
    intro i v h
    cases i with
    | zero => exact h
    | succ i => exact ih i v h
def zpad : Nat → List (Option zAV) → List (Option zAV)
  | 0, L => L
  | n + 1, [] => none :: zpad n []
  | n + 1, x :: L => x :: zpad n L
theorem zgl_pad : ∀ (n : Nat) (L : List (Option zAV)) (i : Nat) (v : zAV), zgl (zpad n L) i = some v → zgl L i = some v
  | 0, L, i, v, h => h
  | n + 1, [], 0, v, h => by cases h
  | n + 1, [], i + 1, v, h => by
    have := zgl_pad n [] i v h
    simp [zgl] at this
  | n + 1, x :: L, 0, v, h => h
  | n + 1, x :: L, i + 1, v, h => zgl_pad n L i v h
theorem zal_len (X : zCT) (vs : List zAV) : (lg_sl (vs.map (zcV X))).length = (zal vs).length := by
  induction vs with
  | nil => rfl
  | cons w ws ih =>
    have hc := zcat X w
    unfold zal
    by_cases hw : w.1 = 1
    · rw [if_pos hw]
      simp only [List.map_cons, lg_sl, List.flatMap_cons, if_pos (hc.mpr hw), List.length_append, List.length_cons, List.length_nil]
      have := ih
      simp only [lg_sl] at this
      omega
    · rw [if_neg hw]
      simp only [List.map_cons, lg_sl, List.flatMap_cons, if_neg (fun q => hw (hc.mp q)), List.length_append, List.length_cons, List.length_nil]
      have := ih
      simp only [lg_sl] at this
      omega
/-- a contract out of a walk -/
theorem zSp_of {mt : zMT} {avs : List zAV} {sh : zSh} {mem : zMem} {Q : zQT} (hy : plainName mt.1.cls = true) (hn : (zal avs).length ≤ mt.2.2.1) (hw : zV zT mt sh (0, 0) 0 (zpad mt.2.2.1 (zal avs)) [] mem Q) : zSp mt avs sh mem Q := by
  intro l X
  refine Met.ofW (cc := mt.2.1) (maxL := mt.2.2.1) (ret := mt.2.2.2.1) (ws' := zwsG) hy rfl ?_
  intro p e s m args below meth c s₁ B hml hv
  obtain ⟨rfl, hk, hh⟩ := hv
  have hts := atoms_spec (ws := zws mt) B.pre
  rw [lg_entry_eq]
  have hl := lv_entry (avs.map (zcV X)) (n := mt.2.2.1) (by rw [zal_len]; exact hn)
  generalize (lg_sl (avs.map (zcV X)) ++ List.replicate (mt.2.2.1 - (lg_sl (avs.map (zcV X))).length) Slot.unset).toArray = ls at hl ⊢
  have C : zC mt X p s m ((avs.map (zcV X)).toArray) meth c := ⟨B.exec, B.bytes, hml, B.returns, B.notSynchronized, findClass_of_methodNamed B.named, fun w h => hts w (List.mem_cons_of_mem _ h), hk, (name_of_methodNamed B.named B.method).1⟩
  refine hw X p l e s m _ below meth c _ trivial C ?_ s.heap [] ls hh (fun q h => by cases h) ⟨hl.1, hl.2.1, fun i v h => ?_⟩
  · intro pc ls H locs cells slots r sh mem i hd hi hH hlo hc1 hc2 hq
    refine W.widen hc1 hc2 ?_
    rcases hi with ⟨rfl, v, rfl, hr⟩ | ⟨rfl, hr, v, rfl⟩ | ⟨rfl, hr, rfl⟩
    · have post : ∀ t : State, t.heap = H → s.WarmedH t.vm → zQc X Q ((avs.map (zcV X)).toArray) s (.returned (some (.int (Int32.ofInt v)))) t := fun t ht _ => ⟨some (0, v), sh, mem, rfl, hq, by rw [ht]; exact hH⟩
      rcases hr with hr | ⟨hr, hv⟩
      · exact W.iret B.exec B.bytes (B.returns.trans hr) post hlo hd B.notSynchronized
      · refine W.zret B.exec B.bytes (B.returns.trans hr) ?_ post hlo hd B.notSynchronized
        rcases hv with rfl | rfl
        · exact narrow_b0
        · exact narrow_b1
    · exact W.lret B.exec B.bytes (B.returns.trans hr) (fun t ht _ => ⟨some (1, v), sh, mem, rfl, hq, by rw [ht]; exact hH⟩) hlo hd B.notSynchronized
    · exact W.vret B.exec B.bytes (B.returns.trans hr) (fun t ht _ => ⟨none, sh, mem, rfl, hq, by rw [ht]; exact hH⟩) hlo hd B.notSynchronized
  · have h1 := zal_args X avs 0 i v (zgl_pad _ _ i v h)
    rw [Nat.zero_add] at h1
    exact hl.2.2 _ h1
end
section
/-! one rule an instruction -/
def I32 (v : Int) : Prop := -2147483648 ≤ v ∧ v < 2147483648
def I64 (v : Int) : Prop := -9223372036854775808 ≤ v ∧ v < 9223372036854775808
theorem i32_toInt {a : Int} (h : I32 a) : (Int32.ofInt a).toInt = a := Int32.toInt_ofInt_of_le (by have := h.1; omega) (by have := h.2; omega)
theorem i64_toInt {a : Int} (h : I64 a) : (Int64.ofInt a).toInt = a := Int64.toInt_ofInt_of_le (by have := h.1; omega) (by have := h.2; omega)
theorem i32_lt {a b : Int} (ha : I32 a) (hb : I32 b) : Int32.ofInt a < Int32.ofInt b ↔ a < b := by rw [Int32.lt_iff_toInt_lt, i32_toInt ha, i32_toInt hb]
theorem i32_le {a b : Int} (ha : I32 a) (hb : I32 b) : Int32.ofInt a ≤ Int32.ofInt b ↔ a ≤ b := by rw [Int32.le_iff_toInt_le, i32_toInt ha, i32_toInt hb]
theorem i32_eq {a b : Int} (ha : I32 a) (hb : I32 b) : Int32.ofInt a = Int32.ofInt b ↔ a = b := by rw [← Int32.toInt_inj, i32_toInt ha, i32_toInt hb]
theorem i64_lt {a b : Int} (ha : I64 a) (hb : I64 b) : Int64.ofInt a < Int64.ofInt b ↔ a < b := by rw [Int64.lt_iff_toInt_lt, i64_toInt ha, i64_toInt hb]
theorem i64_eq {a b : Int} (ha : I64 a) (hb : I64 b) : Int64.ofInt a = Int64.ofInt b ↔ a = b := by rw [← Int64.toInt_inj, i64_toInt ha, i64_toInt hb]
theorem i32_0 : I32 0 := ⟨by decide, by decide⟩
theorem i32_idx {i : Int} {n : Nat} (h0 : 0 ≤ i) (h1 : i < n) (hn : Nat.ble n 100000 = true) : vp_in (Int32.ofInt i) n ∧ (((Int32.ofInt i).toNatClampNeg : Nat) : Int) = i := by
  have hn' := Nat.le_of_ble_eq_true hn
  have hr : I32 i := ⟨by omega, by omega⟩
  have e : (Int32.ofInt i).toInt = i := i32_toInt hr
  refine ⟨vp_in_iff.mpr ⟨by rw [e]; exact h0, by rw [e]; exact h1⟩, ?_⟩
  rw [Int32.toNatClampNeg_ofInt_of_le (by omega) (by omega)]
  omega
section zRULES
variable {P : zCT → Prop} {mt : zMT} {sh : zSh} {u : Nat × Nat} {pc n : Nat} {L L' : List (Option zAV)} {st : List zAV} {mem : zMem} {Q : zQT} {a b : Int}
theorem zV_iconst (hd : decode mt.2.1 pc = .ok (.iconst a, 1) ∧ pc + 1 = n) (k : zV P mt sh u n L ((0, a) :: st) mem Q) : zV P mt sh u pc L st mem Q := by
  intro X p l ev s m args below meth c Z hP C R H locs ls hH hl hL
  rw [← hd.2] at k
  exact lv_iconst C.1 C.2.1 hd.1 rfl (k X p l ev s m args below meth c Z hP C R H locs ls hH hl hL)
theorem zV_bipush (hd : decode mt.2.1 pc = .ok (.bipush a, 2) ∧ pc + 2 = n ∧ (Int8.ofInt a).toInt32 = Int32.ofInt a) (k : zV P mt sh u n L ((0, a) :: st) mem Q) : zV P mt sh u pc L st mem Q := by
  intro X p l ev s m args below meth c Z hP C R H locs ls hH hl hL
  rw [← hd.2.1] at k
  exact lv_bipush C.1 C.2.1 hd.1 hd.2.2 (k X p l ev s m args below meth c Z hP C R H locs ls hH hl hL)
theorem zV_sipush (hd : decode mt.2.1 pc = .ok (.sipush a, 3) ∧ pc + 3 = n ∧ (Int16.ofInt a).toInt32 = Int32.ofInt a) (k : zV P mt sh u n L ((0, a) :: st) mem Q) : zV P mt sh u pc L st mem Q := by
  intro X p l ev s m args below meth c Z hP C R H locs ls hH hl hL
  rw [← hd.2.1] at k
  exact lv_sipush C.1 C.2.1 hd.1 hd.2.2 (k X p l ev s m args below meth c Z hP C R H locs ls hH hl hL)
theorem zV_lconst0 (hd : decode mt.2.1 pc = .ok (.lconst 0, 1) ∧ pc + 1 = n) (k : zV P mt sh u n L ((1, 0) :: st) mem Q) : zV P mt sh u pc L st mem Q := by
  intro X p l ev s m args below meth c Z hP C R H locs ls hH hl hL
  rw [← hd.2] at k
  exact lv_lconst C.1 C.2.1 hd.1 (show Int64.ofNat ((0 : Fin 2) : Nat) = Int64.ofInt 0 from by decide) (k X p l ev s m args below meth c Z hP C R H locs ls hH hl hL)
theorem zV_lconst1 (hd : decode mt.2.1 pc = .ok (.lconst 1, 1) ∧ pc + 1 = n) (k : zV P mt sh u n L ((1, 1) :: st) mem Q) : zV P mt sh u pc L st mem Q := by
  intro X p l ev s m args below meth c Z hP C R H locs ls hH hl hL
  rw [← hd.2] at k
  exact lv_lconst C.1 C.2.1 hd.1 (show Int64.ofNat ((1 : Fin 2) : Nat) = Int64.ofInt 1 from by decide) (k X p l ev s m args below meth c Z hP C R H locs ls hH hl hL)
theorem zV_ldc {i : Nat} {v : Int32} (hd : decode mt.2.1 pc = .ok (.ldc i, 2) ∧ pc + 2 = n) (hw : Cond.constant mt.1.cls i v ∈ zwsG) (hv : v = Int32.ofInt a) (k : zV P mt sh u n L ((0, a) :: st) mem Q) : zV P mt sh u pc L st mem Q := by
  intro X p l ev s m args below meth c Z hP C R H locs ls hH hl hL
  rw [← hd.2] at k
  subst hv
  exact lv_ldc C.1 C.2.1 C.2.2.2.2.2.1 (C.2.2.2.2.2.2.1 _ hw) hd.1 (k X p l ev s m args below meth c Z hP C R H locs ls hH hl hL)
theorem zV_ldcw {i : Nat} {v : Int32} (hd : decode mt.2.1 pc = .ok (.ldc_w i, 3) ∧ pc + 3 = n) (hw : Cond.constant mt.1.cls i v ∈ zwsG) (hv : v = Int32.ofInt a) (k : zV P mt sh u n L ((0, a) :: st) mem Q) : zV P mt sh u pc L st mem Q := by
  intro X p l ev s m args below meth c Z hP C R H locs ls hH hl hL
  rw [← hd.2] at k
  subst hv
  exact lv_ldcw C.1 C.2.1 C.2.2.2.2.2.1 (C.2.2.2.2.2.2.1 _ hw) hd.1 (k X p l ev s m args below meth c Z hP C R H locs ls hH hl hL)
theorem zV_ldc2 {i : Nat} {v : Int64} (hd : decode mt.2.1 pc = .ok (.ldc2_w i, 3) ∧ pc + 3 = n) (hw : Cond.constantLong mt.1.cls i v ∈ zwsG) (hv : v = Int64.ofInt a) (k : zV P mt sh u n L ((1, a) :: st) mem Q) : zV P mt sh u pc L st mem Q := by
  intro X p l ev s m args below meth c Z hP C R H locs ls hH hl hL
  rw [← hd.2] at k
  subst hv
  exact lv_ldc2 C.1 C.2.1 C.2.2.2.2.2.1 (C.2.2.2.2.2.2.1 _ hw) hd.1 (k X p l ev s m args below meth c Z hP C R H locs ls hH hl hL)
theorem zV_iload_n {k9 : Fin 4} (hd : decode mt.2.1 pc = .ok (.iload_n k9, 1) ∧ pc + 1 = n) (hg : zgl L (k9 : Nat) = some (0, a)) (k : zV P mt sh u n L ((0, a) :: st) mem Q) : zV P mt sh u pc L st mem Q := by
  intro X p l ev s m args below meth c Z hP C R H locs ls hH hl hL
  rw [← hd.2] at k
  exact lv_iload_n C.1 C.2.1 hd.1 rfl (hL.2.2 _ _ hg) (k X p l ev s m args below meth c Z hP C R H locs ls hH hl hL)
theorem zV_iload {i : Nat} (hd : decode mt.2.1 pc = .ok (.iload i, 2) ∧ pc + 2 = n) (hg : zgl L i = some (0, a)) (k : zV P mt sh u n L ((0, a) :: st) mem Q) : zV P mt sh u pc L st mem Q := by
  intro X p l ev s m args below meth c Z hP C R H locs ls hH hl hL
  rw [← hd.2] at k
  exact lv_iload C.1 C.2.1 hd.1 (hL.2.2 _ _ hg) (k X p l ev s m args below meth c Z hP C R H locs ls hH hl hL)
theorem zV_lload_n {k9 : Fin 4} (hd : decode mt.2.1 pc = .ok (.lload_n k9, 1) ∧ pc + 1 = n) (hg : zgl L (k9 : Nat) = some (1, a)) (k : zV P mt sh u n L ((1, a) :: st) mem Q) : zV P mt sh u pc L st mem Q := by
  intro X p l ev s m args below meth c Z hP C R H locs ls hH hl hL
  rw [← hd.2] at k
  exact lv_lload_n C.1 C.2.1 hd.1 rfl (hL.2.2 _ _ hg) (k X p l ev s m args below meth c Z hP C R H locs ls hH hl hL)
theorem zV_lload {i : Nat} (hd : decode mt.2.1 pc = .ok (.lload i, 2) ∧ pc + 2 = n) (hg : zgl L i = some (1, a)) (k : zV P mt sh u n L ((1, a) :: st) mem Q) : zV P mt sh u pc L st mem Q := by
  intro X p l ev s m args below meth c Z hP C R H locs ls hH hl hL
  rw [← hd.2] at k
  exact lv_lload C.1 C.2.1 hd.1 (hL.2.2 _ _ hg) (k X p l ev s m args below meth c Z hP C R H locs ls hH hl hL)
theorem zV_aload_n {k9 : Fin 4} (hd : decode mt.2.1 pc = .ok (.aload_n k9, 1) ∧ pc + 1 = n) (hg : zgl L (k9 : Nat) = some (2, a)) (k : zV P mt sh u n L ((2, a) :: st) mem Q) : zV P mt sh u pc L st mem Q := by
  intro X p l ev s m args below meth c Z hP C R H locs ls hH hl hL
  rw [← hd.2] at k
  have h1 := hL.2.2 _ _ hg
  have h2 := k X p l ev s m args below meth c Z hP C R H locs ls hH hl hL
  cases hz : zro X a with
  | none =>
    have e : zcV X (2, a) = .null := by show va_rf (zro X a) = _; rw [hz]; rfl
    rw [e] at h1
    rw [List.map_cons, e] at h2
    exact lv_aload_nN C.1 C.2.1 hd.1 rfl h1 h2
  | some q =>
    have e : zcV X (2, a) = .ref q := by show va_rf (zro X a) = _; rw [hz]; rfl
    rw [e] at h1
    rw [List.map_cons, e] at h2
    exact lv_aload_n C.1 C.2.1 hd.1 rfl h1 h2
theorem zV_aload {i : Nat} (hd : decode mt.2.1 pc = .ok (.aload i, 2) ∧ pc + 2 = n) (hg : zgl L i = some (2, a)) (k : zV P mt sh u n L ((2, a) :: st) mem Q) : zV P mt sh u pc L st mem Q := by
  intro X p l ev s m args below meth c Z hP C R H locs ls hH hl hL
  rw [← hd.2] at k
  have h1 := hL.2.2 _ _ hg
  have h2 := k X p l ev s m args below meth c Z hP C R H locs ls hH hl hL
  cases hz : zro X a with
  | none =>
    have e : zcV X (2, a) = .null := by show va_rf (zro X a) = _; rw [hz]; rfl
    rw [e] at h1
    rw [List.map_cons, e] at h2
    exact lv_aloadN C.1 C.2.1 hd.1 h1 h2
  | some q =>
    have e : zcV X (2, a) = .ref q := by show va_rf (zro X a) = _; rw [hz]; rfl
    rw [e] at h1
    rw [List.map_cons, e] at h2
    exact lv_aload C.1 C.2.1 hd.1 h1 h2
theorem zV_istore_n {k9 : Fin 4} (hd : decode mt.2.1 pc = .ok (.istore_n k9, 1) ∧ pc + 1 = n) (hn : (k9 : Nat) < mt.2.2.1) (hs : zs1 L (k9 : Nat) (0, a) = L') (k : zV P mt sh u n L' st mem Q) : zV P mt sh u pc L ((0, a) :: st) mem Q := by
  intro X p l ev s m args below meth c Z hP C R H locs ls hH hl hL
  rw [← hd.2] at k
  exact lv_istore_n C.1 C.2.1 hd.1 rfl (zL_has hL) hn rfl (fun ls' hl' => k X p l ev s m args below meth c Z hP C R H locs ls' hH hl (by rw [← hs]; exact zL_s1 hL hl'))
theorem zV_istore {i : Nat} (hd : decode mt.2.1 pc = .ok (.istore i, 2) ∧ pc + 2 = n) (hn : i < mt.2.2.1) (hs : zs1 L i (0, a) = L') (k : zV P mt sh u n L' st mem Q) : zV P mt sh u pc L ((0, a) :: st) mem Q := by
  intro X p l ev s m args below meth c Z hP C R H locs ls hH hl hL
  rw [← hd.2] at k
  exact lv_istore C.1 C.2.1 hd.1 (zL_has hL) hn rfl (fun ls' hl' => k X p l ev s m args below meth c Z hP C R H locs ls' hH hl (by rw [← hs]; exact zL_s1 hL hl'))
theorem zV_lstore_n {k9 : Fin 4} (hd : decode mt.2.1 pc = .ok (.lstore_n k9, 1) ∧ pc + 1 = n) (hn : (k9 : Nat) + 1 < mt.2.2.1) (hs : zs2 L (k9 : Nat) (1, a) = L') (k : zV P mt sh u n L' st mem Q) : zV P mt sh u pc L ((1, a) :: st) mem Q := by
  intro X p l ev s m args below meth c Z hP C R H locs ls hH hl hL
  rw [← hd.2] at k
  exact lv_lstore_n C.1 C.2.1 hd.1 rfl (zL_has hL) hn rfl (fun ls' hl' => k X p l ev s m args below meth c Z hP C R H locs ls' hH hl (by rw [← hs]; exact zL_s2 hL hl'))
theorem zV_lstore {i : Nat} (hd : decode mt.2.1 pc = .ok (.lstore i, 2) ∧ pc + 2 = n) (hn : i + 1 < mt.2.2.1) (hs : zs2 L i (1, a) = L') (k : zV P mt sh u n L' st mem Q) : zV P mt sh u pc L ((1, a) :: st) mem Q := by
  intro X p l ev s m args below meth c Z hP C R H locs ls hH hl hL
  rw [← hd.2] at k
  exact lv_lstore C.1 C.2.1 hd.1 (zL_has hL) hn rfl (fun ls' hl' => k X p l ev s m args below meth c Z hP C R H locs ls' hH hl (by rw [← hs]; exact zL_s2 hL hl'))
theorem zV_astore_n {k9 : Fin 4} (hd : decode mt.2.1 pc = .ok (.astore_n k9, 1) ∧ pc + 1 = n) (hn : (k9 : Nat) < mt.2.2.1) (hs : zs1 L (k9 : Nat) (2, a) = L') (k : zV P mt sh u n L' st mem Q) : zV P mt sh u pc L ((2, a) :: st) mem Q := by
  intro X p l ev s m args below meth c Z hP C R H locs ls hH hl hL
  rw [← hd.2] at k
  cases hz : zro X a with
  | none =>
    have e : zcV X (2, a) = .null := by show va_rf (zro X a) = _; rw [hz]; rfl
    rw [List.map_cons, e]
    exact lv_astore_nN C.1 C.2.1 hd.1 rfl (zL_has hL) hn rfl (fun ls' hl' => k X p l ev s m args below meth c Z hP C R H locs ls' hH hl (by rw [← hs]; exact zL_s1 hL (by rw [e]; exact hl')))
  | some q =>
    have e : zcV X (2, a) = .ref q := by show va_rf (zro X a) = _; rw [hz]; rfl
    rw [List.map_cons, e]
    exact lv_astore_n C.1 C.2.1 hd.1 rfl (zL_has hL) hn rfl (fun ls' hl' => k X p l ev s m args below meth c Z hP C R H locs ls' hH hl (by rw [← hs]; exact zL_s1 hL (by rw [e]; exact hl')))
theorem zV_astore {i : Nat} (hd : decode mt.2.1 pc = .ok (.astore i, 2) ∧ pc + 2 = n) (hn : i < mt.2.2.1) (hs : zs1 L i (2, a) = L') (k : zV P mt sh u n L' st mem Q) : zV P mt sh u pc L ((2, a) :: st) mem Q := by
  intro X p l ev s m args below meth c Z hP C R H locs ls hH hl hL
  rw [← hd.2] at k
  cases hz : zro X a with
  | none =>
    have e : zcV X (2, a) = .null := by show va_rf (zro X a) = _; rw [hz]; rfl
    rw [List.map_cons, e]
    exact lv_astoreN C.1 C.2.1 hd.1 (zL_has hL) hn rfl (fun ls' hl' => k X p l ev s m args below meth c Z hP C R H locs ls' hH hl (by rw [← hs]; exact zL_s1 hL (by rw [e]; exact hl')))
  | some q =>
    have e : zcV X (2, a) = .ref q := by show va_rf (zro X a) = _; rw [hz]; rfl
    rw [List.map_cons, e]
    exact lv_astore C.1 C.2.1 hd.1 (zL_has hL) hn rfl (fun ls' hl' => k X p l ev s m args below meth c Z hP C R H locs ls' hH hl (by rw [← hs]; exact zL_s1 hL (by rw [e]; exact hl')))
theorem zV_iinc {i : Nat} {d : Int} (hd : decode mt.2.1 pc = .ok (.iinc i d, 3) ∧ pc + 3 = n) (hn : i < mt.2.2.1) (hg : zgl L i = some (0, a)) (hs : zs1 L i (0, a + d) = L') (k : zV P mt sh u n L' st mem Q) : zV P mt sh u pc L st mem Q := by
  intro X p l ev s m args below meth c Z hP C R H locs ls hH hl hL
  rw [← hd.2] at k
  have hm : (i, zcV X (0, a)) ∈ zas X mt.2.2.1 L := zas_mem hn hg
  obtain ⟨j, hj⟩ := List.getElem?_of_mem hm
  exact lv_iinc C.1 C.2.1 hd.1 (zL_has hL) (k := j) (x := Int32.ofInt a) (v := Int32.ofInt (a + d)) hj (by rw [Int32.ofInt_add]) hn rfl (fun ls' hl' => k X p l ev s m args below meth c Z hP C R H locs ls' hH hl (by rw [← hs]; exact zL_s1 hL hl'))
theorem zV_iadd (hd : decode mt.2.1 pc = .ok (.iadd, 1) ∧ pc + 1 = n) (k : zV P mt sh u n L ((0, a + b) :: st) mem Q) : zV P mt sh u pc L ((0, b) :: (0, a) :: st) mem Q := by
  intro X p l ev s m args below meth c Z hP C R H locs ls hH hl hL
  rw [← hd.2] at k
  have h2 := k X p l ev s m args below meth c Z hP C R H locs ls hH hl hL
  have e : zcV X (0, a + b) = .int (Int32.ofInt a + Int32.ofInt b) := by show Value.int (Int32.ofInt _) = _; rw [Int32.ofInt_add]
  rw [List.map_cons, e] at h2
  exact lv_iadd C.1 C.2.1 hd.1 h2
theorem zV_isub (hd : decode mt.2.1 pc = .ok (.isub, 1) ∧ pc + 1 = n) (k : zV P mt sh u n L ((0, a - b) :: st) mem Q) : zV P mt sh u pc L ((0, b) :: (0, a) :: st) mem Q := by
  intro X p l ev s m args below meth c Z hP C R H locs ls hH hl hL
  rw [← hd.2] at k
  have h2 := k X p l ev s m args below meth c Z hP C R H locs ls hH hl hL
  have e : zcV X (0, a - b) = .int (Int32.ofInt a - Int32.ofInt b) := by show Value.int (Int32.ofInt _) = _; rw [Int32.ofInt_sub]
  rw [List.map_cons, e] at h2
  exact lv_isub C.1 C.2.1 hd.1 h2
theorem zV_imul (hd : decode mt.2.1 pc = .ok (.imul, 1) ∧ pc + 1 = n) (k : zV P mt sh u n L ((0, a * b) :: st) mem Q) : zV P mt sh u pc L ((0, b) :: (0, a) :: st) mem Q := by
  intro X p l ev s m args below meth c Z hP C R H locs ls hH hl hL
  rw [← hd.2] at k
  have h2 := k X p l ev s m args below meth c Z hP C R H locs ls hH hl hL
  have e : zcV X (0, a * b) = .int (Int32.ofInt a * Int32.ofInt b) := by show Value.int (Int32.ofInt _) = _; rw [Int32.ofInt_mul]
  rw [List.map_cons, e] at h2
  exact lv_imul C.1 C.2.1 hd.1 h2
theorem zV_ladd (hd : decode mt.2.1 pc = .ok (.ladd, 1) ∧ pc + 1 = n) (k : zV P mt sh u n L ((1, a + b) :: st) mem Q) : zV P mt sh u pc L ((1, b) :: (1, a) :: st) mem Q := by
  intro X p l ev s m args below meth c Z hP C R H locs ls hH hl hL
  rw [← hd.2] at k
  have h2 := k X p l ev s m args below meth c Z hP C R H locs ls hH hl hL
  have e : zcV X (1, a + b) = .long (Int64.ofInt a + Int64.ofInt b) := by show Value.long (Int64.ofInt _) = _; rw [Int64.ofInt_add]
  rw [List.map_cons, e] at h2
  exact lv_ladd C.1 C.2.1 hd.1 h2
theorem zV_lsub (hd : decode mt.2.1 pc = .ok (.lsub, 1) ∧ pc + 1 = n) (k : zV P mt sh u n L ((1, a - b) :: st) mem Q) : zV P mt sh u pc L ((1, b) :: (1, a) :: st) mem Q := by
  intro X p l ev s m args below meth c Z hP C R H locs ls hH hl hL
  rw [← hd.2] at k
  have h2 := k X p l ev s m args below meth c Z hP C R H locs ls hH hl hL
  have e : zcV X (1, a - b) = .long (Int64.ofInt a - Int64.ofInt b) := by show Value.long (Int64.ofInt _) = _; rw [Int64.ofInt_sub]
  rw [List.map_cons, e] at h2
  exact lv_lsub C.1 C.2.1 hd.1 h2
theorem zV_lmul (hd : decode mt.2.1 pc = .ok (.lmul, 1) ∧ pc + 1 = n) (k : zV P mt sh u n L ((1, a * b) :: st) mem Q) : zV P mt sh u pc L ((1, b) :: (1, a) :: st) mem Q := by
  intro X p l ev s m args below meth c Z hP C R H locs ls hH hl hL
  rw [← hd.2] at k
  have h2 := k X p l ev s m args below meth c Z hP C R H locs ls hH hl hL
  have e : zcV X (1, a * b) = .long (Int64.ofInt a * Int64.ofInt b) := by show Value.long (Int64.ofInt _) = _; rw [Int64.ofInt_mul]
  rw [List.map_cons, e] at h2
  exact lv_lmul C.1 C.2.1 hd.1 h2
theorem zV_ineg (hd : decode mt.2.1 pc = .ok (.ineg, 1) ∧ pc + 1 = n) (k : zV P mt sh u n L ((0, -a) :: st) mem Q) : zV P mt sh u pc L ((0, a) :: st) mem Q := by
  intro X p l ev s m args below meth c Z hP C R H locs ls hH hl hL
  rw [← hd.2] at k
  have h2 := k X p l ev s m args below meth c Z hP C R H locs ls hH hl hL
  have e : zcV X (0, -a) = .int (-Int32.ofInt a) := by show Value.int (Int32.ofInt _) = _; rw [Int32.ofInt_neg]
  rw [List.map_cons, e] at h2
  exact lv_ineg C.1 C.2.1 hd.1 h2
theorem zV_lneg (hd : decode mt.2.1 pc = .ok (.lneg, 1) ∧ pc + 1 = n) (k : zV P mt sh u n L ((1, -a) :: st) mem Q) : zV P mt sh u pc L ((1, a) :: st) mem Q := by
  intro X p l ev s m args below meth c Z hP C R H locs ls hH hl hL
  rw [← hd.2] at k
  have h2 := k X p l ev s m args below meth c Z hP C R H locs ls hH hl hL
  have e : zcV X (1, -a) = .long (-Int64.ofInt a) := by show Value.long (Int64.ofInt _) = _; rw [Int64.ofInt_neg]
  rw [List.map_cons, e] at h2
  exact lv_lneg C.1 C.2.1 hd.1 h2
theorem zV_idiv (hd : decode mt.2.1 pc = .ok (.idiv, 1) ∧ pc + 1 = n) (ha : I32 a) (hb : I32 b) (hne : b ≠ 0) (k : zV P mt sh u n L ((0, Int.tdiv a b) :: st) mem Q) : zV P mt sh u pc L ((0, b) :: (0, a) :: st) mem Q := by
  intro X p l ev s m args below meth c Z hP C R H locs ls hH hl hL
  rw [← hd.2] at k
  have h2 := k X p l ev s m args below meth c Z hP C R H locs ls hH hl hL
  have hdiv : Int32.ofInt (Int.tdiv a b) = Int32.ofInt a / Int32.ofInt b := by
    apply Int32.toInt_inj.mp
    rw [Int32.toInt_div, i32_toInt ha, i32_toInt hb, Int32.toInt_ofInt]
  have e : zcV X (0, Int.tdiv a b) = .int (Int32.ofInt a / Int32.ofInt b) := by
    show Value.int (Int32.ofInt _) = _
    rw [hdiv]
  rw [List.map_cons, e] at h2
  exact lv_idiv C.1 C.2.1 hd.1 (fun q => hne ((i32_eq hb ⟨by decide, by decide⟩).mp q)) h2
theorem zV_irem (hd : decode mt.2.1 pc = .ok (.irem, 1) ∧ pc + 1 = n) (ha : I32 a) (hb : I32 b) (hne : b ≠ 0) (k : zV P mt sh u n L ((0, Int.tmod a b) :: st) mem Q) : zV P mt sh u pc L ((0, b) :: (0, a) :: st) mem Q := by
  intro X p l ev s m args below meth c Z hP C R H locs ls hH hl hL
  rw [← hd.2] at k
  have h2 := k X p l ev s m args below meth c Z hP C R H locs ls hH hl hL
  have hdiv : Int32.ofInt (Int.tdiv a b) = Int32.ofInt a / Int32.ofInt b := by
    apply Int32.toInt_inj.mp
    rw [Int32.toInt_div, i32_toInt ha, i32_toInt hb, Int32.toInt_ofInt]
  have e : zcV X (0, Int.tmod a b) = .int (Int32.ofInt a - Int32.ofInt a / Int32.ofInt b * Int32.ofInt b) := by
    show Value.int (Int32.ofInt _) = _
    rw [← hdiv, ← Int32.ofInt_mul, ← Int32.ofInt_sub, Int.tmod_def, Int.mul_comm]
  rw [List.map_cons, e] at h2
  exact lv_irem C.1 C.2.1 hd.1 (fun q => hne ((i32_eq hb ⟨by decide, by decide⟩).mp q)) h2
theorem zV_ldiv (hd : decode mt.2.1 pc = .ok (.ldiv, 1) ∧ pc + 1 = n) (ha : I64 a) (hb : I64 b) (hne : b ≠ 0) (k : zV P mt sh u n L ((1, Int.tdiv a b) :: st) mem Q) : zV P mt sh u pc L ((1, b) :: (1, a) :: st) mem Q := by
  intro X p l ev s m args below meth c Z hP C R H locs ls hH hl hL
  rw [← hd.2] at k
  have h2 := k X p l ev s m args below meth c Z hP C R H locs ls hH hl hL
  have hdiv : Int64.ofInt (Int.tdiv a b) = Int64.ofInt a / Int64.ofInt b := by
    apply Int64.toInt_inj.mp
    rw [Int64.toInt_div, i64_toInt ha, i64_toInt hb, Int64.toInt_ofInt]
  have e : zcV X (1, Int.tdiv a b) = .long (Int64.ofInt a / Int64.ofInt b) := by
    show Value.long (Int64.ofInt _) = _
    rw [hdiv]
  rw [List.map_cons, e] at h2
  exact lv_ldiv C.1 C.2.1 hd.1 (fun q => hne ((i64_eq hb ⟨by decide, by decide⟩).mp q)) h2
theorem zV_lrem (hd : decode mt.2.1 pc = .ok (.lrem, 1) ∧ pc + 1 = n) (ha : I64 a) (hb : I64 b) (hne : b ≠ 0) (k : zV P mt sh u n L ((1, Int.tmod a b) :: st) mem Q) : zV P mt sh u pc L ((1, b) :: (1, a) :: st) mem Q := by
  intro X p l ev s m args below meth c Z hP C R H locs ls hH hl hL
  rw [← hd.2] at k
  have h2 := k X p l ev s m args below meth c Z hP C R H locs ls hH hl hL
  have hdiv : Int64.ofInt (Int.tdiv a b) = Int64.ofInt a / Int64.ofInt b := by
    apply Int64.toInt_inj.mp
    rw [Int64.toInt_div, i64_toInt ha, i64_toInt hb, Int64.toInt_ofInt]
  have e : zcV X (1, Int.tmod a b) = .long (Int64.ofInt a - Int64.ofInt a / Int64.ofInt b * Int64.ofInt b) := by
    show Value.long (Int64.ofInt _) = _
    rw [← hdiv, ← Int64.ofInt_mul, ← Int64.ofInt_sub, Int.tmod_def, Int.mul_comm]
  rw [List.map_cons, e] at h2
  exact lv_lrem C.1 C.2.1 hd.1 (fun q => hne ((i64_eq hb ⟨by decide, by decide⟩).mp q)) h2
theorem zV_i2l (hd : decode mt.2.1 pc = .ok (.i2l, 1) ∧ pc + 1 = n) (ha : I32 a) (k : zV P mt sh u n L ((1, a) :: st) mem Q) : zV P mt sh u pc L ((0, a) :: st) mem Q := by
  intro X p l ev s m args below meth c Z hP C R H locs ls hH hl hL
  rw [← hd.2] at k
  have h1 : Int32.minValue.toInt ≤ a := by have := ha.1; simpa using this
  have h2 : a ≤ Int32.maxValue.toInt := by
    have h3 : a ≤ 2147483647 := by have := ha.2; omega
    have h4 : Int32.maxValue.toInt = 2147483647 := by decide
    rw [h4]; exact h3
  exact lv_i2l C.1 C.2.1 hd.1 (Int32.toInt64_ofInt h1 h2) (k X p l ev s m args below meth c Z hP C R H locs ls hH hl hL)
theorem zV_l2i (hd : decode mt.2.1 pc = .ok (.l2i, 1) ∧ pc + 1 = n) (k : zV P mt sh u n L ((0, a) :: st) mem Q) : zV P mt sh u pc L ((1, a) :: st) mem Q := by
  intro X p l ev s m args below meth c Z hP C R H locs ls hH hl hL
  rw [← hd.2] at k
  exact lv_l2i C.1 C.2.1 hd.1 Int64.toInt32_ofInt (k X p l ev s m args below meth c Z hP C R H locs ls hH hl hL)
theorem zV_dup {v : zAV} (hd : decode mt.2.1 pc = .ok (.dup, 1) ∧ pc + 1 = n) (hv : v.1 ≠ 1) (k : zV P mt sh u n L (v :: v :: st) mem Q) : zV P mt sh u pc L (v :: st) mem Q := by
  intro X p l ev s m args below meth c Z hP C R H locs ls hH hl hL
  rw [← hd.2] at k
  have hc := zcat X v
  exact lv_dup C.1 C.2.1 hd.1 (by rcases lv_cat (zcV X v) with q | q; exact q; exact absurd (hc.mp q) hv) (k X p l ev s m args below meth c Z hP C R H locs ls hH hl hL)
theorem zV_dup2 {v w : zAV} (hd : decode mt.2.1 pc = .ok (.dup2, 1) ∧ pc + 1 = n) (hv : v.1 ≠ 1) (hw : w.1 ≠ 1) (k : zV P mt sh u n L (v :: w :: v :: w :: st) mem Q) : zV P mt sh u pc L (v :: w :: st) mem Q := by
  intro X p l ev s m args below meth c Z hP C R H locs ls hH hl hL
  rw [← hd.2] at k
  have hc := zcat X v
  have hc2 := zcat X w
  exact lv_dup2_11 C.1 C.2.1 hd.1 (by rcases lv_cat (zcV X v) with q | q; exact q; exact absurd (hc.mp q) hv) (by rcases lv_cat (zcV X w) with q | q; exact q; exact absurd (hc2.mp q) hw) (k X p l ev s m args below meth c Z hP C R H locs ls hH hl hL)
theorem zV_goto {off : Int} {tgt : Nat} (hd : decode mt.2.1 pc = .ok (.goto off, 3) ∧ (pc : Int) + off = (tgt : Int)) (k : zV P mt sh u tgt L st mem Q) : zV P mt sh u pc L st mem Q := by
  intro X p l ev s m args below meth c Z hP C R H locs ls hH hl hL
  exact lv_goto C.1 C.2.1 hd.1 hd.2 (k X p l ev s m args below meth c Z hP C R H locs ls hH hl hL)
theorem zV_top {t : Nat} (k : ∀ y : Int, y = a → zV P mt sh u pc L ((t, y) :: st) mem Q) : zV P mt sh u pc L ((t, a) :: st) mem Q := k a rfl
theorem zV_icmp_eq {off : Int} {tgt : Nat} (hd : decode mt.2.1 pc = .ok (.if_icmp .eq off, 3) ∧ pc + 3 = n ∧ (pc : Int) + off = (tgt : Int)) (ha : I32 a) (hb : I32 b) (kt : a = b → zV P mt sh u tgt L st mem Q) (kf : ¬ a = b → zV P mt sh u n L st mem Q) : zV P mt sh u pc L ((0, b) :: (0, a) :: st) mem Q := by
  intro X p l ev s m args below meth c Z hP C R H locs ls hH hl hL
  rw [← hd.2.1] at kf
  have q1 := i32_eq ha hb
  have q2 := i32_lt ha hb
  have q3 := i32_le ha hb
  have q4 := i32_lt hb ha
  have q5 := i32_le hb ha
  refine lv_icmp_eq C.1 C.2.1 hd.1 hd.2.2 (fun h => kt ?_ X p l ev s m args below meth c Z hP C R H locs ls hH hl hL) (fun h => kf ?_ X p l ev s m args below meth c Z hP C R H locs ls hH hl hL)
  · first | exact q1.mp h | exact fun z => h (q1.mpr z) | exact q2.mp h | exact q3.mp h | exact q4.mp h | exact q5.mp h
  · first | exact q1.mp h | exact fun z => h (q1.mpr z) | exact Int.not_lt.mp (fun z => h (q2.mpr z)) | exact Int.not_le.mp (fun z => h (q3.mpr z)) | exact Int.not_lt.mp (fun z => h (q4.mpr z)) | exact Int.not_le.mp (fun z => h (q5.mpr z)) | exact q2.mp h | exact q3.mp h | exact q4.mp h | exact q5.mp h
theorem zV_if_eq {off : Int} {tgt : Nat} (hd : decode mt.2.1 pc = .ok (.ifCond .eq off, 3) ∧ pc + 3 = n ∧ (pc : Int) + off = (tgt : Int)) (ha : I32 a) (kt : a = 0 → zV P mt sh u tgt L st mem Q) (kf : ¬ a = 0 → zV P mt sh u n L st mem Q) : zV P mt sh u pc L ((0, a) :: st) mem Q := by
  intro X p l ev s m args below meth c Z hP C R H locs ls hH hl hL
  rw [← hd.2.1] at kf
  have z0 : Int32.ofInt 0 = 0 := rfl
  have q1 := i32_eq ha i32_0
  have q2 := i32_lt ha i32_0
  have q3 := i32_le ha i32_0
  have q4 := i32_lt i32_0 ha
  have q5 := i32_le i32_0 ha
  rw [z0] at q1 q2 q3 q4 q5
  refine lv_if_eq C.1 C.2.1 hd.1 hd.2.2 (fun h => kt ?_ X p l ev s m args below meth c Z hP C R H locs ls hH hl hL) (fun h => kf ?_ X p l ev s m args below meth c Z hP C R H locs ls hH hl hL)
  · first | exact q1.mp h | exact fun z => h (q1.mpr z) | exact q2.mp h | exact q3.mp h | exact q4.mp h | exact q5.mp h
  · first | exact q1.mp h | exact fun z => h (q1.mpr z) | exact Int.not_lt.mp (fun z => h (q2.mpr z)) | exact Int.not_le.mp (fun z => h (q3.mpr z)) | exact Int.not_lt.mp (fun z => h (q4.mpr z)) | exact Int.not_le.mp (fun z => h (q5.mpr z)) | exact q2.mp h | exact q3.mp h | exact q4.mp h | exact q5.mp h
theorem zV_icmp_ne {off : Int} {tgt : Nat} (hd : decode mt.2.1 pc = .ok (.if_icmp .ne off, 3) ∧ pc + 3 = n ∧ (pc : Int) + off = (tgt : Int)) (ha : I32 a) (hb : I32 b) (kt : ¬ a = b → zV P mt sh u tgt L st mem Q) (kf : a = b → zV P mt sh u n L st mem Q) : zV P mt sh u pc L ((0, b) :: (0, a) :: st) mem Q := by
  intro X p l ev s m args below meth c Z hP C R H locs ls hH hl hL
  rw [← hd.2.1] at kf
  have q1 := i32_eq ha hb
  have q2 := i32_lt ha hb
  have q3 := i32_le ha hb
  have q4 := i32_lt hb ha
  have q5 := i32_le hb ha
  refine lv_icmp_ne C.1 C.2.1 hd.1 hd.2.2 (fun h => kt ?_ X p l ev s m args below meth c Z hP C R H locs ls hH hl hL) (fun h => kf ?_ X p l ev s m args below meth c Z hP C R H locs ls hH hl hL)
  · first | exact q1.mp h | exact fun z => h (q1.mpr z) | exact q2.mp h | exact q3.mp h | exact q4.mp h | exact q5.mp h
  · first | exact q1.mp h | exact fun z => h (q1.mpr z) | exact Int.not_lt.mp (fun z => h (q2.mpr z)) | exact Int.not_le.mp (fun z => h (q3.mpr z)) | exact Int.not_lt.mp (fun z => h (q4.mpr z)) | exact Int.not_le.mp (fun z => h (q5.mpr z)) | exact q2.mp h | exact q3.mp h | exact q4.mp h | exact q5.mp h
theorem zV_if_ne {off : Int} {tgt : Nat} (hd : decode mt.2.1 pc = .ok (.ifCond .ne off, 3) ∧ pc + 3 = n ∧ (pc : Int) + off = (tgt : Int)) (ha : I32 a) (kt : ¬ a = 0 → zV P mt sh u tgt L st mem Q) (kf : a = 0 → zV P mt sh u n L st mem Q) : zV P mt sh u pc L ((0, a) :: st) mem Q := by
  intro X p l ev s m args below meth c Z hP C R H locs ls hH hl hL
  rw [← hd.2.1] at kf
  have z0 : Int32.ofInt 0 = 0 := rfl
  have q1 := i32_eq ha i32_0
  have q2 := i32_lt ha i32_0
  have q3 := i32_le ha i32_0
  have q4 := i32_lt i32_0 ha
  have q5 := i32_le i32_0 ha
  rw [z0] at q1 q2 q3 q4 q5
  refine lv_if_ne C.1 C.2.1 hd.1 hd.2.2 (fun h => kt ?_ X p l ev s m args below meth c Z hP C R H locs ls hH hl hL) (fun h => kf ?_ X p l ev s m args below meth c Z hP C R H locs ls hH hl hL)
  · first | exact q1.mp h | exact fun z => h (q1.mpr z) | exact q2.mp h | exact q3.mp h | exact q4.mp h | exact q5.mp h
  · first | exact q1.mp h | exact fun z => h (q1.mpr z) | exact Int.not_lt.mp (fun z => h (q2.mpr z)) | exact Int.not_le.mp (fun z => h (q3.mpr z)) | exact Int.not_lt.mp (fun z => h (q4.mpr z)) | exact Int.not_le.mp (fun z => h (q5.mpr z)) | exact q2.mp h | exact q3.mp h | exact q4.mp h | exact q5.mp h
theorem zV_icmp_lt {off : Int} {tgt : Nat} (hd : decode mt.2.1 pc = .ok (.if_icmp .lt off, 3) ∧ pc + 3 = n ∧ (pc : Int) + off = (tgt : Int)) (ha : I32 a) (hb : I32 b) (kt : a < b → zV P mt sh u tgt L st mem Q) (kf : b ≤ a → zV P mt sh u n L st mem Q) : zV P mt sh u pc L ((0, b) :: (0, a) :: st) mem Q := by
  intro X p l ev s m args below meth c Z hP C R H locs ls hH hl hL
  rw [← hd.2.1] at kf
  have q1 := i32_eq ha hb
  have q2 := i32_lt ha hb
  have q3 := i32_le ha hb
  have q4 := i32_lt hb ha
  have q5 := i32_le hb ha
  refine lv_icmp_lt C.1 C.2.1 hd.1 hd.2.2 (fun h => kt ?_ X p l ev s m args below meth c Z hP C R H locs ls hH hl hL) (fun h => kf ?_ X p l ev s m args below meth c Z hP C R H locs ls hH hl hL)
  · first | exact q1.mp h | exact fun z => h (q1.mpr z) | exact q2.mp h | exact q3.mp h | exact q4.mp h | exact q5.mp h
  · first | exact q1.mp h | exact fun z => h (q1.mpr z) | exact Int.not_lt.mp (fun z => h (q2.mpr z)) | exact Int.not_le.mp (fun z => h (q3.mpr z)) | exact Int.not_lt.mp (fun z => h (q4.mpr z)) | exact Int.not_le.mp (fun z => h (q5.mpr z)) | exact q2.mp h | exact q3.mp h | exact q4.mp h | exact q5.mp h
theorem zV_if_lt {off : Int} {tgt : Nat} (hd : decode mt.2.1 pc = .ok (.ifCond .lt off, 3) ∧ pc + 3 = n ∧ (pc : Int) + off = (tgt : Int)) (ha : I32 a) (kt : a < 0 → zV P mt sh u tgt L st mem Q) (kf : 0 ≤ a → zV P mt sh u n L st mem Q) : zV P mt sh u pc L ((0, a) :: st) mem Q := by
  intro X p l ev s m args below meth c Z hP C R H locs ls hH hl hL
  rw [← hd.2.1] at kf
  have z0 : Int32.ofInt 0 = 0 := rfl
  have q1 := i32_eq ha i32_0
  have q2 := i32_lt ha i32_0
  have q3 := i32_le ha i32_0
  have q4 := i32_lt i32_0 ha
  have q5 := i32_le i32_0 ha
  rw [z0] at q1 q2 q3 q4 q5
  refine lv_if_lt C.1 C.2.1 hd.1 hd.2.2 (fun h => kt ?_ X p l ev s m args below meth c Z hP C R H locs ls hH hl hL) (fun h => kf ?_ X p l ev s m args below meth c Z hP C R H locs ls hH hl hL)
  · first | exact q1.mp h | exact fun z => h (q1.mpr z) | exact q2.mp h | exact q3.mp h | exact q4.mp h | exact q5.mp h
  · first | exact q1.mp h | exact fun z => h (q1.mpr z) | exact Int.not_lt.mp (fun z => h (q2.mpr z)) | exact Int.not_le.mp (fun z => h (q3.mpr z)) | exact Int.not_lt.mp (fun z => h (q4.mpr z)) | exact Int.not_le.mp (fun z => h (q5.mpr z)) | exact q2.mp h | exact q3.mp h | exact q4.mp h | exact q5.mp h
theorem zV_icmp_ge {off : Int} {tgt : Nat} (hd : decode mt.2.1 pc = .ok (.if_icmp .ge off, 3) ∧ pc + 3 = n ∧ (pc : Int) + off = (tgt : Int)) (ha : I32 a) (hb : I32 b) (kt : b ≤ a → zV P mt sh u tgt L st mem Q) (kf : a < b → zV P mt sh u n L st mem Q) : zV P mt sh u pc L ((0, b) :: (0, a) :: st) mem Q := by
  intro X p l ev s m args below meth c Z hP C R H locs ls hH hl hL
  rw [← hd.2.1] at kf
  have q1 := i32_eq ha hb
  have q2 := i32_lt ha hb
  have q3 := i32_le ha hb
  have q4 := i32_lt hb ha
  have q5 := i32_le hb ha
  refine lv_icmp_ge C.1 C.2.1 hd.1 hd.2.2 (fun h => kt ?_ X p l ev s m args below meth c Z hP C R H locs ls hH hl hL) (fun h => kf ?_ X p l ev s m args below meth c Z hP C R H locs ls hH hl hL)
  · first | exact q1.mp h | exact fun z => h (q1.mpr z) | exact q2.mp h | exact q3.mp h | exact q4.mp h | exact q5.mp h
  · first | exact q1.mp h | exact fun z => h (q1.mpr z) | exact Int.not_lt.mp (fun z => h (q2.mpr z)) | exact Int.not_le.mp (fun z => h (q3.mpr z)) | exact Int.not_lt.mp (fun z => h (q4.mpr z)) | exact Int.not_le.mp (fun z => h (q5.mpr z)) | exact q2.mp h | exact q3.mp h | exact q4.mp h | exact q5.mp h
theorem zV_if_ge {off : Int} {tgt : Nat} (hd : decode mt.2.1 pc = .ok (.ifCond .ge off, 3) ∧ pc + 3 = n ∧ (pc : Int) + off = (tgt : Int)) (ha : I32 a) (kt : 0 ≤ a → zV P mt sh u tgt L st mem Q) (kf : a < 0 → zV P mt sh u n L st mem Q) : zV P mt sh u pc L ((0, a) :: st) mem Q := by
  intro X p l ev s m args below meth c Z hP C R H locs ls hH hl hL
  rw [← hd.2.1] at kf
  have z0 : Int32.ofInt 0 = 0 := rfl
  have q1 := i32_eq ha i32_0
  have q2 := i32_lt ha i32_0
  have q3 := i32_le ha i32_0
  have q4 := i32_lt i32_0 ha
  have q5 := i32_le i32_0 ha
  rw [z0] at q1 q2 q3 q4 q5
  refine lv_if_ge C.1 C.2.1 hd.1 hd.2.2 (fun h => kt ?_ X p l ev s m args below meth c Z hP C R H locs ls hH hl hL) (fun h => kf ?_ X p l ev s m args below meth c Z hP C R H locs ls hH hl hL)
  · first | exact q1.mp h | exact fun z => h (q1.mpr z) | exact q2.mp h | exact q3.mp h | exact q4.mp h | exact q5.mp h
  · first | exact q1.mp h | exact fun z => h (q1.mpr z) | exact Int.not_lt.mp (fun z => h (q2.mpr z)) | exact Int.not_le.mp (fun z => h (q3.mpr z)) | exact Int.not_lt.mp (fun z => h (q4.mpr z)) | exact Int.not_le.mp (fun z => h (q5.mpr z)) | exact q2.mp h | exact q3.mp h | exact q4.mp h | exact q5.mp h
theorem zV_icmp_gt {off : Int} {tgt : Nat} (hd : decode mt.2.1 pc = .ok (.if_icmp .gt off, 3) ∧ pc + 3 = n ∧ (pc : Int) + off = (tgt : Int)) (ha : I32 a) (hb : I32 b) (kt : b < a → zV P mt sh u tgt L st mem Q) (kf : a ≤ b → zV P mt sh u n L st mem Q) : zV P mt sh u pc L ((0, b) :: (0, a) :: st) mem Q := by
  intro X p l ev s m args below meth c Z hP C R H locs ls hH hl hL
  rw [← hd.2.1] at kf
  have q1 := i32_eq ha hb
  have q2 := i32_lt ha hb
  have q3 := i32_le ha hb
  have q4 := i32_lt hb ha
  have q5 := i32_le hb ha
  refine lv_icmp_gt C.1 C.2.1 hd.1 hd.2.2 (fun h => kt ?_ X p l ev s m args below meth c Z hP C R H locs ls hH hl hL) (fun h => kf ?_ X p l ev s m args below meth c Z hP C R H locs ls hH hl hL)
  · first | exact q1.mp h | exact fun z => h (q1.mpr z) | exact q2.mp h | exact q3.mp h | exact q4.mp h | exact q5.mp h
  · first | exact q1.mp h | exact fun z => h (q1.mpr z) | exact Int.not_lt.mp (fun z => h (q2.mpr z)) | exact Int.not_le.mp (fun z => h (q3.mpr z)) | exact Int.not_lt.mp (fun z => h (q4.mpr z)) | exact Int.not_le.mp (fun z => h (q5.mpr z)) | exact q2.mp h | exact q3.mp h | exact q4.mp h | exact q5.mp h
theorem zV_if_gt {off : Int} {tgt : Nat} (hd : decode mt.2.1 pc = .ok (.ifCond .gt off, 3) ∧ pc + 3 = n ∧ (pc : Int) + off = (tgt : Int)) (ha : I32 a) (kt : 0 < a → zV P mt sh u tgt L st mem Q) (kf : a ≤ 0 → zV P mt sh u n L st mem Q) : zV P mt sh u pc L ((0, a) :: st) mem Q := by
  intro X p l ev s m args below meth c Z hP C R H locs ls hH hl hL
  rw [← hd.2.1] at kf
  have z0 : Int32.ofInt 0 = 0 := rfl
  have q1 := i32_eq ha i32_0
  have q2 := i32_lt ha i32_0
  have q3 := i32_le ha i32_0
  have q4 := i32_lt i32_0 ha
  have q5 := i32_le i32_0 ha
  rw [z0] at q1 q2 q3 q4 q5
  refine lv_if_gt C.1 C.2.1 hd.1 hd.2.2 (fun h => kt ?_ X p l ev s m args below meth c Z hP C R H locs ls hH hl hL) (fun h => kf ?_ X p l ev s m args below meth c Z hP C R H locs ls hH hl hL)
  · first | exact q1.mp h | exact fun z => h (q1.mpr z) | exact q2.mp h | exact q3.mp h | exact q4.mp h | exact q5.mp h
  · first | exact q1.mp h | exact fun z => h (q1.mpr z) | exact Int.not_lt.mp (fun z => h (q2.mpr z)) | exact Int.not_le.mp (fun z => h (q3.mpr z)) | exact Int.not_lt.mp (fun z => h (q4.mpr z)) | exact Int.not_le.mp (fun z => h (q5.mpr z)) | exact q2.mp h | exact q3.mp h | exact q4.mp h | exact q5.mp h
theorem zV_icmp_le {off : Int} {tgt : Nat} (hd : decode mt.2.1 pc = .ok (.if_icmp .le off, 3) ∧ pc + 3 = n ∧ (pc : Int) + off = (tgt : Int)) (ha : I32 a) (hb : I32 b) (kt : a ≤ b → zV P mt sh u tgt L st mem Q) (kf : b < a → zV P mt sh u n L st mem Q) : zV P mt sh u pc L ((0, b) :: (0, a) :: st) mem Q := by
  intro X p l ev s m args below meth c Z hP C R H locs ls hH hl hL
  rw [← hd.2.1] at kf
  have q1 := i32_eq ha hb
  have q2 := i32_lt ha hb
  have q3 := i32_le ha hb
  have q4 := i32_lt hb ha
  have q5 := i32_le hb ha
  refine lv_icmp_le C.1 C.2.1 hd.1 hd.2.2 (fun h => kt ?_ X p l ev s m args below meth c Z hP C R H locs ls hH hl hL) (fun h => kf ?_ X p l ev s m args below meth c Z hP C R H locs ls hH hl hL)
  · first | exact q1.mp h | exact fun z => h (q1.mpr z) | exact q2.mp h | exact q3.mp h | exact q4.mp h | exact q5.mp h
  · first | exact q1.mp h | exact fun z => h (q1.mpr z) | exact Int.not_lt.mp (fun z => h (q2.mpr z)) | exact Int.not_le.mp (fun z => h (q3.mpr z)) | exact Int.not_lt.mp (fun z => h (q4.mpr z)) | exact Int.not_le.mp (fun z => h (q5.mpr z)) | exact q2.mp h | exact q3.mp h | exact q4.mp h | exact q5.mp h
theorem zV_if_le {off : Int} {tgt : Nat} (hd : decode mt.2.1 pc = .ok (.ifCond .le off, 3) ∧ pc + 3 = n ∧ (pc : Int) + off = (tgt : Int)) (ha : I32 a) (kt : a ≤ 0 → zV P mt sh u tgt L st mem Q) (kf : 0 < a → zV P mt sh u n L st mem Q) : zV P mt sh u pc L ((0, a) :: st) mem Q := by
  intro X p l ev s m args below meth c Z hP C R H locs ls hH hl hL
  rw [← hd.2.1] at kf
  have z0 : Int32.ofInt 0 = 0 := rfl
  have q1 := i32_eq ha i32_0
  have q2 := i32_lt ha i32_0
  have q3 := i32_le ha i32_0
  have q4 := i32_lt i32_0 ha
  have q5 := i32_le i32_0 ha
  rw [z0] at q1 q2 q3 q4 q5
  refine lv_if_le C.1 C.2.1 hd.1 hd.2.2 (fun h => kt ?_ X p l ev s m args below meth c Z hP C R H locs ls hH hl hL) (fun h => kf ?_ X p l ev s m args below meth c Z hP C R H locs ls hH hl hL)
  · first | exact q1.mp h | exact fun z => h (q1.mpr z) | exact q2.mp h | exact q3.mp h | exact q4.mp h | exact q5.mp h
  · first | exact q1.mp h | exact fun z => h (q1.mpr z) | exact Int.not_lt.mp (fun z => h (q2.mpr z)) | exact Int.not_le.mp (fun z => h (q3.mpr z)) | exact Int.not_lt.mp (fun z => h (q4.mpr z)) | exact Int.not_le.mp (fun z => h (q5.mpr z)) | exact q2.mp h | exact q3.mp h | exact q4.mp h | exact q5.mp h
def zcm (a b : Int) : Int := if b < a then 1 else if a = b then 0 else -1
theorem zcm_r (a b : Int) : I32 (zcm a b) := by
  unfold zcm I32
  split
  · omega
  · split <;> omega
theorem zV_lcmp (hd : decode mt.2.1 pc = .ok (.lcmp, 1) ∧ pc + 1 = n) (ha : I64 a) (hb : I64 b) (k : zV P mt sh u n L ((0, zcm a b) :: st) mem Q) : zV P mt sh u pc L ((1, b) :: (1, a) :: st) mem Q := by
  intro X p l ev s m args below meth c Z hP C R H locs ls hH hl hL
  rw [← hd.2] at k
  have h2 := k X p l ev s m args below meth c Z hP C R H locs ls hH hl hL
  have e : zcV X (0, zcm a b) = .int (lg_cmp (Int64.ofInt a) (Int64.ofInt b)) := by
    have q1 := i64_lt hb ha
    have q2 := i64_eq ha hb
    show Value.int (Int32.ofInt _) = _
    unfold zcm lg_cmp
    by_cases h : b < a
    · simp [h, q1]
    · by_cases h3 : a = b
      · subst h3; simp
      · simp [h, h3, q1, q2]
  rw [List.map_cons, e] at h2
  exact W.lcmp C.1 C.2.1 hd.1 h2
theorem zV_lcmp_eq {off : Int} {n1 tgt : Nat} (hd : decode mt.2.1 pc = .ok (.lcmp, 1) ∧ pc + 1 = n1) (hd2 : decode mt.2.1 n1 = .ok (.ifCond .eq off, 3) ∧ n1 + 3 = n ∧ (n1 : Int) + off = (tgt : Int)) (ha : I64 a) (hb : I64 b) (kt : a = b → zV P mt sh u tgt L st mem Q) (kf : ¬ a = b → zV P mt sh u n L st mem Q) : zV P mt sh u pc L ((1, b) :: (1, a) :: st) mem Q := by
  refine zV_lcmp hd ha hb (zV_if_eq hd2 (zcm_r a b) (fun h => kt ?_) (fun h => kf ?_))
  · unfold zcm at h; split at h <;> (try split at h) <;> omega
  · unfold zcm at h; split at h <;> (try split at h) <;> omega
/-- two equal longs: no range is wanted -/
theorem zV_lcmp_same (hd : decode mt.2.1 pc = .ok (.lcmp, 1) ∧ pc + 1 = n) (he : a = b) (k : zV P mt sh u n L ((0, 0) :: st) mem Q) : zV P mt sh u pc L ((1, b) :: (1, a) :: st) mem Q := by
  intro X p l ev s m args below meth c Z hP C R H locs ls hH hl hL
  rw [← hd.2] at k
  have h2 := k X p l ev s m args below meth c Z hP C R H locs ls hH hl hL
  subst he
  have e : zcV X (0, 0) = .int (lg_cmp (Int64.ofInt a) (Int64.ofInt a)) := by
    show Value.int (Int32.ofInt 0) = _
    simp [lg_cmp]
  rw [List.map_cons, e] at h2
  exact W.lcmp C.1 C.2.1 hd.1 h2
theorem zV_lcmp_ne {off : Int} {n1 tgt : Nat} (hd : decode mt.2.1 pc = .ok (.lcmp, 1) ∧ pc + 1 = n1) (hd2 : decode mt.2.1 n1 = .ok (.ifCond .ne off, 3) ∧ n1 + 3 = n ∧ (n1 : Int) + off = (tgt : Int)) (ha : I64 a) (hb : I64 b) (kt : ¬ a = b → zV P mt sh u tgt L st mem Q) (kf : a = b → zV P mt sh u n L st mem Q) : zV P mt sh u pc L ((1, b) :: (1, a) :: st) mem Q := by
  refine zV_lcmp hd ha hb (zV_if_ne hd2 (zcm_r a b) (fun h => kt ?_) (fun h => kf ?_))
  · unfold zcm at h; split at h <;> (try split at h) <;> omega
  · unfold zcm at h; split at h <;> (try split at h) <;> omega
theorem zV_lcmp_lt {off : Int} {n1 tgt : Nat} (hd : decode mt.2.1 pc = .ok (.lcmp, 1) ∧ pc + 1 = n1) (hd2 : decode mt.2.1 n1 = .ok (.ifCond .lt off, 3) ∧ n1 + 3 = n ∧ (n1 : Int) + off = (tgt : Int)) (ha : I64 a) (hb : I64 b) (kt : a < b → zV P mt sh u tgt L st mem Q) (kf : b ≤ a → zV P mt sh u n L st mem Q) : zV P mt sh u pc L ((1, b) :: (1, a) :: st) mem Q := by
  refine zV_lcmp hd ha hb (zV_if_lt hd2 (zcm_r a b) (fun h => kt ?_) (fun h => kf ?_))
  · unfold zcm at h; split at h <;> (try split at h) <;> omega
  · unfold zcm at h; split at h <;> (try split at h) <;> omega
theorem zV_lcmp_ge {off : Int} {n1 tgt : Nat} (hd : decode mt.2.1 pc = .ok (.lcmp, 1) ∧ pc + 1 = n1) (hd2 : decode mt.2.1 n1 = .ok (.ifCond .ge off, 3) ∧ n1 + 3 = n ∧ (n1 : Int) + off = (tgt : Int)) (ha : I64 a) (hb : I64 b) (kt : b ≤ a → zV P mt sh u tgt L st mem Q) (kf : a < b → zV P mt sh u n L st mem Q) : zV P mt sh u pc L ((1, b) :: (1, a) :: st) mem Q := by
  refine zV_lcmp hd ha hb (zV_if_ge hd2 (zcm_r a b) (fun h => kt ?_) (fun h => kf ?_))
  · unfold zcm at h; split at h <;> (try split at h) <;> omega
  · unfold zcm at h; split at h <;> (try split at h) <;> omega
theorem zV_lcmp_gt {off : Int} {n1 tgt : Nat} (hd : decode mt.2.1 pc = .ok (.lcmp, 1) ∧ pc + 1 = n1) (hd2 : decode mt.2.1 n1 = .ok (.ifCond .gt off, 3) ∧ n1 + 3 = n ∧ (n1 : Int) + off = (tgt : Int)) (ha : I64 a) (hb : I64 b) (kt : b < a → zV P mt sh u tgt L st mem Q) (kf : a ≤ b → zV P mt sh u n L st mem Q) : zV P mt sh u pc L ((1, b) :: (1, a) :: st) mem Q := by
  refine zV_lcmp hd ha hb (zV_if_gt hd2 (zcm_r a b) (fun h => kt ?_) (fun h => kf ?_))
  · unfold zcm at h; split at h <;> (try split at h) <;> omega
  · unfold zcm at h; split at h <;> (try split at h) <;> omega
theorem zV_lcmp_le {off : Int} {n1 tgt : Nat} (hd : decode mt.2.1 pc = .ok (.lcmp, 1) ∧ pc + 1 = n1) (hd2 : decode mt.2.1 n1 = .ok (.ifCond .le off, 3) ∧ n1 + 3 = n ∧ (n1 : Int) + off = (tgt : Int)) (ha : I64 a) (hb : I64 b) (kt : a ≤ b → zV P mt sh u tgt L st mem Q) (kf : b < a → zV P mt sh u n L st mem Q) : zV P mt sh u pc L ((1, b) :: (1, a) :: st) mem Q := by
  refine zV_lcmp hd ha hb (zV_if_le hd2 (zcm_r a b) (fun h => kt ?_) (fun h => kf ?_))
  · unfold zcm at h; split at h <;> (try split at h) <;> omega
  · unfold zcm at h; split at h <;> (try split at h) <;> omega
theorem zV_tsIn {dflt lo hi : Int} {offs : Array Int} {len : Nat} {off : Int} {tgt : Nat} (hd : decode mt.2.1 pc = .ok (.tableswitch dflt lo hi offs, len)) (ha : I32 a) {v : Int} (hv : a = v) (ho : (¬ v < lo ∧ ¬ hi < v) ∧ offs[(v - lo).toNat]? = some off ∧ (pc : Int) + off = (tgt : Int)) (k : zV P mt sh u tgt L st mem Q) : zV P mt sh u pc L ((0, a) :: st) mem Q := by
  intro X p l ev s m args below meth c Z hP C R H locs ls hH hl hL
  subst hv
  have e : (Int32.ofInt a).toInt = a := i32_toInt ha
  exact lv_tableIn C.1 C.2.1 hd (by rw [e]; exact ho.1.1) (by rw [e]; exact ho.1.2) (by rw [e]; exact ho.2.1) ho.2.2 (k X p l ev s m args below meth c Z hP C R H locs ls hH hl hL)
theorem zV_tsOut {dflt lo hi : Int} {offs : Array Int} {len : Nat} {tgt : Nat} (hd : decode mt.2.1 pc = .ok (.tableswitch dflt lo hi offs, len)) (ha : I32 a) (ho : a < lo ∨ hi < a) (ht : (pc : Int) + dflt = (tgt : Int)) (k : zV P mt sh u tgt L st mem Q) : zV P mt sh u pc L ((0, a) :: st) mem Q := by
  intro X p l ev s m args below meth c Z hP C R H locs ls hH hl hL
  have e : (Int32.ofInt a).toInt = a := i32_toInt ha
  exact lv_tableOut C.1 C.2.1 hd (by rw [e]; exact ho) ht (k X p l ev s m args below meth c Z hP C R H locs ls hH hl hL)
theorem zV_lsw {dflt : Int} {ps : Array (Int × Int)} {len : Nat} {off : Int} {tgt : Nat} (hd : decode mt.2.1 pc = .ok (.lookupswitch dflt ps, len)) (ha : I32 a) (hp : (ps.toList.zip (ps.toList.drop 1)).all (fun (a, next) => a.1 < next.1) = true) (ho : Op.lookupswitch.offset ps.toList dflt a = off) (ht : (pc : Int) + off = (tgt : Int)) (k : zV P mt sh u tgt L st mem Q) : zV P mt sh u pc L ((0, a) :: st) mem Q := by
  intro X p l ev s m args below meth c Z hP C R H locs ls hH hl hL
  have e : (Int32.ofInt a).toInt = a := i32_toInt ha
  exact lv_lookup C.1 C.2.1 hd hp (by rw [e]; exact ho) ht (k X p l ev s m args below meth c Z hP C R H locs ls hH hl hL)
theorem zV_iret (hd : decode mt.2.1 pc = .ok (.ireturn, 1)) (hr : mt.2.2.2.1 = some .int) (hu : u.1 ≤ (zrm mt).cells ∧ u.2 ≤ (zrm mt).slots) (hq : Q (some (0, a)) sh mem) : zV P mt sh u pc L [(0, a)] mem Q := by
  intro X p l ev s m args below meth c Z hP C R H locs ls hH hl hL
  exact R pc ls H locs u.1 u.2 (some (0, a)) sh mem .ireturn hd (Or.inl ⟨rfl, a, rfl, Or.inl hr⟩) hH hl hu.1 hu.2 hq
theorem zV_zret (hd : decode mt.2.1 pc = .ok (.ireturn, 1)) (hr : mt.2.2.2.1 = some .boolean) (hu : u.1 ≤ (zrm mt).cells ∧ u.2 ≤ (zrm mt).slots) (hb : a = 0 ∨ a = 1) (hq : Q (some (0, a)) sh mem) : zV P mt sh u pc L [(0, a)] mem Q := by
  intro X p l ev s m args below meth c Z hP C R H locs ls hH hl hL
  exact R pc ls H locs u.1 u.2 (some (0, a)) sh mem .ireturn hd (Or.inl ⟨rfl, a, rfl, Or.inr ⟨hr, hb⟩⟩) hH hl hu.1 hu.2 hq
theorem zV_lret (hd : decode mt.2.1 pc = .ok (.lreturn, 1)) (hr : mt.2.2.2.1 = some .long) (hu : u.1 ≤ (zrm mt).cells ∧ u.2 ≤ (zrm mt).slots) (hq : Q (some (1, a)) sh mem) : zV P mt sh u pc L [(1, a)] mem Q := by
  intro X p l ev s m args below meth c Z hP C R H locs ls hH hl hL
  exact R pc ls H locs u.1 u.2 (some (1, a)) sh mem .lreturn hd (Or.inr (Or.inl ⟨rfl, hr, a, rfl⟩)) hH hl hu.1 hu.2 hq
theorem zV_vret (hd : decode mt.2.1 pc = .ok (.return_, 1)) (hr : mt.2.2.2.1 = none) (hu : u.1 ≤ (zrm mt).cells ∧ u.2 ≤ (zrm mt).slots) (hq : Q none sh mem) : zV P mt sh u pc L [] mem Q := by
  intro X p l ev s m args below meth c Z hP C R H locs ls hH hl hL
  exact R pc ls H locs u.1 u.2 none sh mem .return_ hd (Or.inr (Or.inr ⟨rfl, hr, rfl⟩)) hH hl hu.1 hu.2 hq
end zRULES
end
section
/-! words by place -/
theorem zin {w : Cond} (i : Nat) (h : lw_tbl[i]? = some w) (g : goodWord w = true) : w ∈ zwsG := List.mem_filter.mpr ⟨List.mem_of_getElem? h, g⟩
theorem zin_r (ws : List Cond) (ps : List Nat) (hp : ws = ps.filterMap (fun i => lw_tbl[i]?)) (hg : ws.all goodWord = true) : ∀ w ∈ ws, w ∈ zwsG := by
  intro w hw
  have h1 := List.all_eq_true.mp hg w hw
  rw [hp] at hw
  obtain ⟨i, -, hi⟩ := List.mem_filterMap.mp hw
  exact zin i hi h1
theorem zgood {ws : List Cond} (h : ∀ w ∈ ws, w ∈ zwsG) : GoodIn zwsG ws := fun w hw => ⟨h w hw, good_of_word (List.mem_filter.mp (h w hw)).2⟩
def zcl (c : Nat) : vw_C := vwCl.getD c (RX0, TX0, 4)
set_option maxRecDepth 20000 in
theorem zlay0 : ∀ w ∈ u_ws RX0 TX0 4, w ∈ zwsG := zin_r _ [144, 146, 148, 150] (by decide +kernel) (by decide +kernel)
set_option maxRecDepth 20000 in
theorem zlay1 : ∀ w ∈ u_ws RX1 TX1 1, w ∈ zwsG := zin_r _ [288] (by decide +kernel) (by decide +kernel)
set_option maxRecDepth 20000 in
theorem zlay2 : ∀ w ∈ u_ws RX3 TX3 2, w ∈ zwsG := zin_r _ [263, 265] (by decide +kernel) (by decide +kernel)
set_option maxRecDepth 20000 in
theorem zlay3 : ∀ w ∈ u_ws RX4 TX4 2, w ∈ zwsG := zin_r _ [276, 278] (by decide +kernel) (by decide +kernel)
set_option maxRecDepth 20000 in
theorem zlay4 : ∀ w ∈ u_ws RX5 TX5 2, w ∈ zwsG := zin_r _ [111, 113] (by decide +kernel) (by decide +kernel)
set_option maxRecDepth 20000 in
theorem zlay5 : ∀ w ∈ u_ws RX6 TX6 3, w ∈ zwsG := zin_r _ [301, 303, 305] (by decide +kernel) (by decide +kernel)
set_option maxRecDepth 20000 in
theorem zlay6 : ∀ w ∈ u_ws RX7 TX7 4, w ∈ zwsG := zin_r _ [204, 206, 208, 210] (by decide +kernel) (by decide +kernel)
set_option maxRecDepth 20000 in
theorem zlay7 : ∀ w ∈ u_ws RX8 TX8 2, w ∈ zwsG := zin_r _ [159, 161] (by decide +kernel) (by decide +kernel)
set_option maxRecDepth 20000 in
theorem zlay8 : ∀ w ∈ u_ws RX9 TX9 5, w ∈ zwsG := zin_r _ [176, 178, 180, 182, 184] (by decide +kernel) (by decide +kernel)
set_option maxRecDepth 20000 in
theorem zlay9 : ∀ w ∈ u_ws RX10 TX10 11, w ∈ zwsG := zin_r _ [232, 234, 236, 238, 240, 242, 244, 246, 248, 250, 252] (by decide +kernel) (by decide +kernel)
set_option maxRecDepth 20000 in
theorem zlay10 : ∀ w ∈ u_ws RX11 TX11 16, w ∈ zwsG := zin_r _ [324, 326, 328, 330, 332, 334, 336, 338, 340, 342, 344, 346, 348, 350, 352, 354] (by decide +kernel) (by decide +kernel)
set_option maxRecDepth 20000 in
theorem zlay11 : ∀ w ∈ u_ws RX12 TX12 34, w ∈ zwsG := zin_r _ [864, 866, 868, 870, 872, 874, 876, 878, 880, 882, 884, 886, 888, 890, 892, 894, 896, 898, 900, 902, 904, 906, 908, 910, 912, 914, 916, 918, 920, 922, 924, 926, 928, 930] (by decide +kernel) (by decide +kernel)
theorem zcl_ok : ∀ c, c < 12 → vwCl[c]? = some (zcl c) ∧ (∀ w ∈ u_ws (zcl c).1 (zcl c).2.1 (zcl c).2.2, w ∈ zwsG) ∧ (∀ k, k < (zcl c).2.2 → parseFieldDescriptor ((zcl c).2.1 k).2.2.1 = some (zty c k)) ∧ (∀ a, a < (zcl c).2.2 → ∀ b, b < (zcl c).2.2 → a ≠ b → ((zcl c).2.1 a).2.1 ≠ ((zcl c).2.1 b).2.1) ∧ zN c = (zcl c).2.2
  | 0, _ => ⟨rfl, zlay0, tyX0_ok, nmX0, rfl⟩
  | 1, _ => ⟨rfl, zlay1, tyX1_ok, nmX1, rfl⟩
  | 2, _ => ⟨rfl, zlay2, tyX3_ok, nmX3, rfl⟩
  | 3, _ => ⟨rfl, zlay3, tyX4_ok, nmX4, rfl⟩
  | 4, _ => ⟨rfl, zlay4, tyX5_ok, nmX5, rfl⟩
  | 5, _ => ⟨rfl, zlay5, tyX6_ok, nmX6, rfl⟩
  | 6, _ => ⟨rfl, zlay6, tyX7_ok, nmX7, rfl⟩
  | 7, _ => ⟨rfl, zlay7, tyX8_ok, nmX8, rfl⟩
  | 8, _ => ⟨rfl, zlay8, tyX9_ok, nmX9, rfl⟩
  | 9, _ => ⟨rfl, zlay9, tyX10_ok, nmX10, rfl⟩
  | 10, _ => ⟨rfl, zlay10, tyX11_ok, nmX11, rfl⟩
  | 11, _ => ⟨rfl, zlay11, tyX12_ok, nmX12, rfl⟩
  | n + 12, h => absurd h (by omega)
theorem zE_cls (X : zCT) (mem : zMem) (i c m : Nat) (h : c < 12) : zE X mem i (c, m) = .inr (c, (List.range (zN c)).map (fun k => zcV X (ztag (zty c k), mem i k))) := by
  unfold zE
  match c, h with
  | 0, _ => rfl
  | 1, _ => rfl
  | 2, _ => rfl
  | 3, _ => rfl
  | 4, _ => rfl
  | 5, _ => rfl
  | 6, _ => rfl
  | 7, _ => rfl
  | 8, _ => rfl
  | 9, _ => rfl
  | 10, _ => rfl
  | 11, _ => rfl
/-- a field's entry of the pool: class, slot, tag; the slot as an Int -/
def zFl (own : String) (i c k t : Nat) (kI : Int) : Prop := Cond.fieldLink own i ((zcl c).2.1 k).1 ((zcl c).2.1 k).2.1 ((zcl c).2.1 k).2.2.1 ∈ zwsG ∧ c < 12 ∧ k < zN c ∧ ztag (zty c k) = t ∧ (k : Int) = kI
theorem zat {X : zCT} {sh : zSh} {mem : zMem} {a : Int} {q : Nat × Nat} (h : zkd sh a = q) (hq : q.1 < 99) : ∃ i : Nat, a = (i : Int) ∧ sh[i]? = some q ∧ (zW X sh mem)[i]? = some (X.2.1.size + i, zE X mem i q) ∧ zcV X (2, a) = .ref (X.2.1.size + i) := by
  obtain ⟨i, h1, h2⟩ := zkd_at h hq
  refine ⟨i, h1, h2, by rw [zW_get, h2]; rfl, by rw [h1]; exact zcV_ref X i⟩
theorem zH_set {X : zCT} {sh : zSh} {mem mem' : zMem} {H H1 : Heap} {i : Nat} {q : Nat × Nat} {e : va_E} (hH : zH X sh mem H) (hq : sh[i]? = some q) (he : zE X mem' i q = e) (ho : ∀ j : Nat, j ≠ i → mem' j = mem j) (h1 : va_at (X.2.2.1, X.2.2.2.1) vwCl (X.2.1.size + i, e) H1) (z : H1.size = H.size) (oq : ∀ x : Nat, x ≠ X.2.1.size + i → H1[x]? = H[x]?) : zH X sh mem' H1 := by
  obtain ⟨hP, hs, hb⟩ := hH
  refine ⟨?_, by rw [z, hs], fun x hx => by rw [oq x (by omega)]; exact hb x hx⟩
  rw [← zW_set X sh mem mem' i q e hq he ho]
  exact hP.set (zW_D X sh mem) (by rw [zW_get, hq]; rfl) h1 oq
theorem zlo_put {X : zCT} {locs : List Loc} {i k : Nat} (h : zlo X locs) : zlo X (locs ++ [⟨X.2.1.size + i, k⟩]) := by
  intro q hq
  rcases List.mem_append.mp hq with h1 | h1
  · exact h q h1
  · rw [List.mem_singleton.mp h1]
    exact Nat.le_add_right _ _
theorem zup_o (mem : zMem) (i : Nat) (k v : Int) : ∀ j : Nat, j ≠ i → zup mem (i : Int) k v j = mem j := by
  intro j hj
  funext k'
  unfold zup
  rw [if_neg (by omega)]
section zHEAP
variable {P : zCT → Prop} {mt : zMT} {sh : zSh} {u : Nat × Nat} {pc n : Nat} {L L' : List (Option zAV)} {st : List zAV} {mem : zMem} {Q : zQT} {a b : Int}
theorem zV_getf {i c k t m9 : Nat} {kI : Int} (hd : decode mt.2.1 pc = .ok (.getfield i, 3) ∧ pc + 3 = n) (hf : zFl mt.1.cls i c k t kI) (hk : zkd sh a = (c, m9)) (kk : zV P mt sh u n L ((t, mem a kI) :: st) mem Q) : zV P mt sh u pc L ((2, a) :: st) mem Q := by
  intro X p l ev s m args below meth cq Z hP C R H locs ls hH hl hL
  rw [← hd.2] at kk
  obtain ⟨hlink, hc, hkN, ht, hkI⟩ := hf
  obtain ⟨q1, q2, q3, q4, q5⟩ := zcl_ok c hc
  obtain ⟨i', rfl, h2, h3, h4⟩ := zat (X := X) (mem := mem) hk (by show c < 99; omega)
  have h5 := kk X p l ev s m args below meth cq Z hP C R H locs ls hH hl hL
  rw [List.map_cons] at h5 ⊢
  rw [h4]
  subst ht; subst hkI
  refine va_get (D := (X.2.2.1, X.2.2.2.1)) (cl := vwCl) (tys := ztys X) (ws := zW X sh mem) (C := (zcl c).1) (T := (zcl c).2.1) (N := (zcl c).2.2) (ci := c) C.1 C.2.1 C.2.2.2.2.2.2.1 q2 C.2.2.2.2.2.1 C.2.2.2.2.2.2.2.1.1 hH.1 i' (by rw [h3, zE_cls X mem i' c m9 hc]) q1 k (by rw [← q5]; exact hkN) (C.2.2.2.2.2.2.1 _ hlink) (fun _ h9 => h9) (v := zcV X (ztag (zty c k), mem i' k)) ?_ hd.1 h5
  rw [List.getElem?_map, List.getElem?_range hkN]
  rfl
/-- storing into a field that isn't final -/
theorem zV_put0 {i c k t m9 : Nat} {kI : Int} (hd : decode mt.2.1 pc = .ok (.putfield i, 3) ∧ pc + 3 = n) (hf : zFl mt.1.cls i c k t kI) (hk : zkd sh a = (c, m9)) (hfin : ((zcl c).2.1 k).2.2.2 = false ∨ (((zcl c).2.1 k).2.2.2 = true ∧ mt.1.name = "<init>" ∧ ((zcl c).2.1 k).1 = mt.1.cls)) (hnf : ∀ X : zCT, narrow (zty c k) (zcV X (t, b)) = zcV X (t, b) ∧ fits (zty c k) (zcV X (t, b)) = true) (kk : zV P mt sh u n L st (zup mem a kI b) Q) : zV P mt sh u pc L ((t, b) :: (2, a) :: st) mem Q := by
  intro X p l ev s m args below meth cq Z hP C R H locs ls hH hl hL
  rw [← hd.2] at kk
  obtain ⟨hlink, hc, hkN, ht, hkI⟩ := hf
  obtain ⟨w1, w2, w3, w4, w5⟩ := zcl_ok c hc
  obtain ⟨i', rfl, h2, h3, h4⟩ := zat (X := X) (mem := mem) hk (by show c < 99; omega)
  rw [List.map_cons, List.map_cons, h4]
  have hK := C.2.2.2.2.2.2.2.1.1
  have hts := C.2.2.2.2.2.2.1
  have hown := C.2.2.2.2.2.1
  have hap := va_apart (own := mt.1.cls) hts w2 (zty c) w3 w4 hK w1
  have hPP := hH.1
  rw [zE_cls X mem i' c m9 hc] at h3
  obtain ⟨r, g1, cell, q1, q2, q3, q4⟩ := hPP i' _ h3
  have hr : r = zcl c := Option.some.inj (g1.symm.trans w1)
  subst hr
  obtain ⟨hS, hfc, kC, hkC, hkind⟩ := hK.1 c _ w1
  have hkN' : k < (zcl c).2.2 := by rw [← w5]; exact hkN
  obtain ⟨cf, kf, fi, f, hi, hsl⟩ := hS k hkN'
  have hst := (u_facts hfc hkC (u_lays hts w2 hkN') hi).1
  have fin : ∀ H' : Heap, H'[X.2.1.size + i']? = some (cell.setSlot f.slot (zcV X (t, b))) → H'.size = H.size → (∀ q, q ≠ X.2.1.size + i' → H'[q]? = H[q]?) → W p l ev (zrm mt) s m args below meth cq H' (locs ++ [⟨X.2.1.size + i', f.slot⟩]) u.1 u.2 Z (F0 m (pc + 3) ls (st.map (zcV X))) := by
    intro H' e1 e2 e3
    rw [hsl] at e1
    refine kk X p l ev s m args below meth cq Z hP C R H' _ ls (zH_set (e := .inr (c, ((List.range (zN c)).map (fun k => zcV X (ztag (zty c k), mem i' k))).set k (zcV X (t, b)))) hH h2 ?_ (zup_o mem i' kI b) ?_ e2 e3) (zlo_put hl) hL
    · rw [zE_cls X _ i' c m9 hc]
      congr 2
      apply List.ext_getElem?
      intro j
      by_cases hj : j = k
      · subst hj
        rw [List.getElem?_set_self (by simp; exact hkN), List.getElem?_map, List.getElem?_range hkN]
        simp [zup, hkI, ht]
      · rw [List.getElem?_set_ne (Ne.symm hj), List.getElem?_map, List.getElem?_map]
        have hx : ∀ x : Nat, x ≠ k → zup mem (i' : Int) kI b i' x = mem i' x := by
          intro x hx
          unfold zup
          rw [if_neg (by omega)]
        cases hr : (List.range (zN c))[j]? with
        | none => rfl
        | some x =>
          have hxj : x = j := by
            have := List.getElem?_eq_some_iff.mp hr
            obtain ⟨_, h⟩ := this
            simpa using h.symm
          subst hxj
          simp [hx x hj]
    · exact ⟨_, w1, t_OB.to (V := updV (vp_V ((List.range (zN c)).map (fun k => zcV X (ztag (zty c k), mem i' k)))) k (zcV X (t, b))) ⟨_, e1, q2, q3, t_set q4 hap hkN' _⟩ (fun j _ => vp_updV_set (by simp; exact hkN) _ j)⟩
  have hlay := hts _ (w2 _ (u_in_lay hkN'))
  unfold u_lay at hlay
  rcases hfin with hfin | ⟨hfin, hin, hdecl⟩
  · rw [if_neg (by rw [hfin]; decide)] at hlay
    have h6 := u_store hfc hkC hkind hlay hi (w3 k hkN') (hnf X).1 (hnf X).2
    exact W.putK C.1 C.2.1 (f := f) ⟨hown, hts _ hlink, ⟨_, _, _, hi⟩, hst⟩ (by rw [q2]; exact h6) q1 q3 (by rw [hsl]; exact k2_hasslot (q4 k hkN')) rfl rfl hd.1 fin
  · rw [if_pos hfin] at hlay
    have hcf : m.cls = cf := by
      obtain ⟨_, _, c', _, _, _, -, -, hf', -, -, -, hown2, -⟩ := Cond.laysFinal_spec hlay
      have e1 : c' = cf := by have := hi.symm.trans hf'; simp at this; exact this.1.symm
      rw [hdecl] at hown2
      rw [← e1]; exact Option.some.inj (hown.symm.trans hown2)
    have h6 := u_fits hfc hkC hkind (Or.inr hlay) hi (w3 k hkN') (hnf X).1 (hnf X).2
    exact W.putFinK C.1 C.2.1 hown (hts _ hlink) hi hst hcf (C.2.2.2.2.2.2.2.2.trans hin) (by rw [q2]; exact h6) q1 q3 (by rw [hsl]; exact k2_hasslot (q4 k hkN')) rfl rfl hd.1 fin
theorem zV_puti {i c k m9 : Nat} {kI : Int} (hd : decode mt.2.1 pc = .ok (.putfield i, 3) ∧ pc + 3 = n) (hf : zFl mt.1.cls i c k 0 kI) (hk : zkd sh a = (c, m9)) (hfin : ((zcl c).2.1 k).2.2.2 = false ∧ zty c k = .int) (kk : zV P mt sh u n L st (zup mem a kI b) Q) : zV P mt sh u pc L ((0, b) :: (2, a) :: st) mem Q :=
  zV_put0 hd hf hk (Or.inl hfin.1) (fun X => by rw [hfin.2]; exact ⟨rfl, rfl⟩) kk
theorem zV_putl {i c k m9 : Nat} {kI : Int} (hd : decode mt.2.1 pc = .ok (.putfield i, 3) ∧ pc + 3 = n) (hf : zFl mt.1.cls i c k 1 kI) (hk : zkd sh a = (c, m9)) (hfin : ((zcl c).2.1 k).2.2.2 = false ∧ zty c k = .long) (kk : zV P mt sh u n L st (zup mem a kI b) Q) : zV P mt sh u pc L ((1, b) :: (2, a) :: st) mem Q :=
  zV_put0 hd hf hk (Or.inl hfin.1) (fun X => by rw [hfin.2]; exact ⟨rfl, rfl⟩) kk
theorem zV_putz {i c k m9 : Nat} {kI : Int} (hd : decode mt.2.1 pc = .ok (.putfield i, 3) ∧ pc + 3 = n) (hf : zFl mt.1.cls i c k 0 kI) (hk : zkd sh a = (c, m9)) (hfin : ((zcl c).2.1 k).2.2.2 = false ∧ zty c k = .boolean) (hb : b = 0 ∨ b = 1) (kk : zV P mt sh u n L st (zup mem a kI b) Q) : zV P mt sh u pc L ((0, b) :: (2, a) :: st) mem Q :=
  zV_put0 hd hf hk (Or.inl hfin.1) (fun X => by rw [hfin.2]; rcases hb with rfl | rfl <;> exact ⟨rfl, rfl⟩) kk
theorem zV_putF {i c k m9 : Nat} {kI : Int} (hd : decode mt.2.1 pc = .ok (.putfield i, 3) ∧ pc + 3 = n) (hf : zFl mt.1.cls i c k 2 kI) (hk : zkd sh a = (c, m9)) (hfin : ((zcl c).2.1 k).2.2.2 = true ∧ mt.1.name = "<init>" ∧ ((zcl c).2.1 k).1 = mt.1.cls) (kk : zV P mt sh u n L st (zup mem a kI b) Q) : zV P mt sh u pc L ((2, b) :: (2, a) :: st) mem Q := by
  refine zV_put0 hd hf hk (Or.inr hfin) (fun X => ?_) kk
  have ht := hf.2.2.2.1
  show narrow _ (va_rf (zro X b)) = va_rf (zro X b) ∧ fits _ (va_rf (zro X b)) = true
  cases hty : zty c k <;> rw [hty] at ht <;> first | (exact absurd ht (by decide)) | (cases zro X b <;> exact ⟨rfl, rfl⟩)
theorem zV_iald {m9 : Nat} (hd : decode mt.2.1 pc = .ok (.iaload, 1) ∧ pc + 1 = n) (hk : zkd sh a = (12, m9)) (hm : Nat.ble m9 100000 = true) (hb : 0 ≤ b ∧ b < m9) (kk : zV P mt sh u n L ((0, mem a b) :: st) mem Q) : zV P mt sh u pc L ((0, b) :: (2, a) :: st) mem Q := by
  intro X p l ev s m args below meth cq Z hP C R H locs ls hH hl hL
  rw [← hd.2] at kk
  obtain ⟨i', rfl, h2, h3, h4⟩ := zat (X := X) (mem := mem) hk (by show 12 < 99; omega)
  obtain ⟨g1, g2⟩ := i32_idx hb.1 hb.2 hm
  have h5 := kk X p l ev s m args below meth cq Z hP C R H locs ls hH hl hL
  rw [List.map_cons] at h5
  rw [List.map_cons, List.map_cons, h4]
  refine va_iald (D := (X.2.2.1, X.2.2.2.1)) (cl := vwCl) C.1 C.2.1 C.2.2.2.2.2.2.2.1.1 hH.1 i' 0 (h3.trans rfl) rfl g1 hd.1 ?_
  dsimp only
  rw [g2]
  exact h5
theorem zV_lald {m9 : Nat} (hd : decode mt.2.1 pc = .ok (.laload, 1) ∧ pc + 1 = n) (hk : zkd sh a = (13, m9)) (hm : Nat.ble m9 100000 = true) (hb : 0 ≤ b ∧ b < m9) (kk : zV P mt sh u n L ((1, mem a b) :: st) mem Q) : zV P mt sh u pc L ((0, b) :: (2, a) :: st) mem Q := by
  intro X p l ev s m args below meth cq Z hP C R H locs ls hH hl hL
  rw [← hd.2] at kk
  obtain ⟨i', rfl, h2, h3, h4⟩ := zat (X := X) (mem := mem) hk (by show 13 < 99; omega)
  obtain ⟨g1, g2⟩ := i32_idx hb.1 hb.2 hm
  have h5 := kk X p l ev s m args below meth cq Z hP C R H locs ls hH hl hL
  rw [List.map_cons] at h5
  rw [List.map_cons, List.map_cons, h4]
  refine va_lald (D := (X.2.2.1, X.2.2.2.1)) (cl := vwCl) C.1 C.2.1 C.2.2.2.2.2.2.2.1.1 hH.1 i' 1 (h3.trans rfl) rfl g1 hd.1 ?_
  dsimp only
  rw [g2]
  exact h5
theorem zV_zald {m9 : Nat} (hd : decode mt.2.1 pc = .ok (.baload, 1) ∧ pc + 1 = n) (hk : zkd sh a = (14, m9)) (hm : Nat.ble m9 100000 = true) (hb : 0 ≤ b ∧ b < m9) (kk : zV P mt sh u n L ((0, mem a b) :: st) mem Q) : zV P mt sh u pc L ((0, b) :: (2, a) :: st) mem Q := by
  intro X p l ev s m args below meth cq Z hP C R H locs ls hH hl hL
  rw [← hd.2] at kk
  obtain ⟨i', rfl, h2, h3, h4⟩ := zat (X := X) (mem := mem) hk (by show 14 < 99; omega)
  obtain ⟨g1, g2⟩ := i32_idx hb.1 hb.2 hm
  have h5 := kk X p l ev s m args below meth cq Z hP C R H locs ls hH hl hL
  rw [List.map_cons] at h5
  rw [List.map_cons, List.map_cons, h4]
  refine va_zald (D := (X.2.2.1, X.2.2.2.1)) (cl := vwCl) C.1 C.2.1 C.2.2.2.2.2.2.2.1.1 hH.1 i' 2 (h3.trans rfl) rfl g1 hd.1 ?_
  dsimp only
  rw [g2]
  exact h5
theorem zV_ald15 {m9 : Nat} (hd : decode mt.2.1 pc = .ok (.aaload, 1) ∧ pc + 1 = n) (hk : zkd sh a = (15, m9)) (hm : Nat.ble m9 100000 = true) (hb : 0 ≤ b ∧ b < m9) (kk : zV P mt sh u n L ((2, mem a b) :: st) mem Q) : zV P mt sh u pc L ((0, b) :: (2, a) :: st) mem Q := by
  intro X p l ev s m args below meth cq Z hP C R H locs ls hH hl hL
  rw [← hd.2] at kk
  obtain ⟨i', rfl, h2, h3, h4⟩ := zat (X := X) (mem := mem) hk (by show 15 < 99; omega)
  obtain ⟨g1, g2⟩ := i32_idx hb.1 hb.2 hm
  have h5 := kk X p l ev s m args below meth cq Z hP C R H locs ls hH hl hL
  rw [List.map_cons] at h5
  rw [List.map_cons, List.map_cons, h4]
  refine va_aldq (D := (X.2.2.1, X.2.2.2.1)) (cl := vwCl) C.1 C.2.1 C.2.2.2.2.2.2.2.1.1 hH.1 i' 3 (h3.trans rfl) rfl g1 hd.1 ?_
  dsimp only
  rw [g2]
  exact h5
theorem zV_ald16 {m9 : Nat} (hd : decode mt.2.1 pc = .ok (.aaload, 1) ∧ pc + 1 = n) (hk : zkd sh a = (16, m9)) (hm : Nat.ble m9 100000 = true) (hb : 0 ≤ b ∧ b < m9) (kk : zV P mt sh u n L ((2, mem a b) :: st) mem Q) : zV P mt sh u pc L ((0, b) :: (2, a) :: st) mem Q := by
  intro X p l ev s m args below meth cq Z hP C R H locs ls hH hl hL
  rw [← hd.2] at kk
  obtain ⟨i', rfl, h2, h3, h4⟩ := zat (X := X) (mem := mem) hk (by show 16 < 99; omega)
  obtain ⟨g1, g2⟩ := i32_idx hb.1 hb.2 hm
  have h5 := kk X p l ev s m args below meth cq Z hP C R H locs ls hH hl hL
  rw [List.map_cons] at h5
  rw [List.map_cons, List.map_cons, h4]
  refine va_aldq (D := (X.2.2.1, X.2.2.2.1)) (cl := vwCl) C.1 C.2.1 C.2.2.2.2.2.2.2.1.1 hH.1 i' 4 (h3.trans rfl) rfl g1 hd.1 ?_
  dsimp only
  rw [g2]
  exact h5
theorem zup_upd {α : Type} (g : Int → α) (mem : zMem) (i : Nat) (k v : Int) (kn : Nat) (hk : (kn : Int) = k) : (fun j : Nat => g (zup mem (i : Int) k v i j)) = (fun j : Nat => if j = kn then g v else g (mem i j)) := by
  funext j
  unfold zup
  by_cases h : j = kn
  · subst h
    rw [if_pos ⟨rfl, hk⟩, if_pos rfl]
  · rw [if_neg (by omega), if_neg h]
theorem zV_iast {m9 : Nat} {x : Int} (hd : decode mt.2.1 pc = .ok (.iastore, 1) ∧ pc + 1 = n) (hk : zkd sh a = (12, m9)) (hm : Nat.ble m9 100000 = true) (hb : 0 ≤ b ∧ b < m9) (kk : zV P mt sh u n L st (zup mem a b x) Q) : zV P mt sh u pc L ((0, x) :: (0, b) :: (2, a) :: st) mem Q := by
  intro X p l ev s m args below meth cq Z hP C R H locs ls hH hl hL
  rw [← hd.2] at kk
  obtain ⟨i', rfl, h2, h3, h4⟩ := zat (X := X) (mem := mem) hk (by show 12 < 99; omega)
  obtain ⟨g1, g2⟩ := i32_idx hb.1 hb.2 hm
  rw [List.map_cons, List.map_cons, List.map_cons, h4]
  have hat := hH.1 i' _ (h3.trans rfl)
  have hat2 : H[X.2.1.size + i']? = some (arrV (X.2.2.2.2.1 12) m9 (fun k => .int (Int32.ofInt (mem i' k)))) := hat
  refine W.iast C.1 C.2.1 hat2 ((C.2.2.2.2.2.2.2.1.1.2 0 _ rfl).1 m9 _) (fun q => by cases q) (by rw [arrV_size]; exact g1) rfl rfl hd.1 fun H1 e1 z oq => ?_
  refine kk X p l ev s m args below meth cq Z hP C R H1 _ ls (zH_set (e := zE X (zup mem i' b x) i' (12, m9)) hH h2 rfl (zup_o mem i' b x) ?_ z oq) (zlo_put hl) hL
  show H1[X.2.1.size + i']? = some (arrV (X.2.2.2.2.1 12) m9 (fun k => .int (Int32.ofInt (zup mem i' b x i' k))))
  rw [e1, arrV_store]
  congr 2
  rw [zup_upd (fun y => Value.int (Int32.ofInt y)) mem i' b x _ g2]
  funext q
  by_cases hq : q = (Int32.ofInt b).toNatClampNeg
  · subst hq; simp [updV]; try rfl
  · simp [updV, hq]; try rfl
theorem zV_last {m9 : Nat} {x : Int} (hd : decode mt.2.1 pc = .ok (.lastore, 1) ∧ pc + 1 = n) (hk : zkd sh a = (13, m9)) (hm : Nat.ble m9 100000 = true) (hb : 0 ≤ b ∧ b < m9) (kk : zV P mt sh u n L st (zup mem a b x) Q) : zV P mt sh u pc L ((1, x) :: (0, b) :: (2, a) :: st) mem Q := by
  intro X p l ev s m args below meth cq Z hP C R H locs ls hH hl hL
  rw [← hd.2] at kk
  obtain ⟨i', rfl, h2, h3, h4⟩ := zat (X := X) (mem := mem) hk (by show 13 < 99; omega)
  obtain ⟨g1, g2⟩ := i32_idx hb.1 hb.2 hm
  rw [List.map_cons, List.map_cons, List.map_cons, h4]
  have hat := hH.1 i' _ (h3.trans rfl)
  have hat2 : H[X.2.1.size + i']? = some (arrV (X.2.2.2.2.1 13) m9 (fun k => .long (Int64.ofInt (mem i' k)))) := hat
  refine W.last C.1 C.2.1 hat2 ((C.2.2.2.2.2.2.2.1.1.2 1 _ rfl).1 m9 _) (fun q => by cases q) (by rw [arrV_size]; exact g1) rfl rfl hd.1 fun H1 e1 z oq => ?_
  refine kk X p l ev s m args below meth cq Z hP C R H1 _ ls (zH_set (e := zE X (zup mem i' b x) i' (13, m9)) hH h2 rfl (zup_o mem i' b x) ?_ z oq) (zlo_put hl) hL
  show H1[X.2.1.size + i']? = some (arrV (X.2.2.2.2.1 13) m9 (fun k => .long (Int64.ofInt (zup mem i' b x i' k))))
  rw [e1, arrV_store]
  congr 2
  rw [zup_upd (fun y => Value.long (Int64.ofInt y)) mem i' b x _ g2]
  funext q
  by_cases hq : q = (Int32.ofInt b).toNatClampNeg
  · subst hq; simp [updV]; try rfl
  · simp [updV, hq]; try rfl
theorem zV_zast {m9 : Nat} {x : Int} (hd : decode mt.2.1 pc = .ok (.bastore, 1) ∧ pc + 1 = n) (hk : zkd sh a = (14, m9)) (hm : Nat.ble m9 100000 = true) (hb : 0 ≤ b ∧ b < m9) (hx : x = 0 ∨ x = 1) (kk : zV P mt sh u n L st (zup mem a b x) Q) : zV P mt sh u pc L ((0, x) :: (0, b) :: (2, a) :: st) mem Q := by
  intro X p l ev s m args below meth cq Z hP C R H locs ls hH hl hL
  rw [← hd.2] at kk
  obtain ⟨i', rfl, h2, h3, h4⟩ := zat (X := X) (mem := mem) hk (by show 14 < 99; omega)
  obtain ⟨g1, g2⟩ := i32_idx hb.1 hb.2 hm
  rw [List.map_cons, List.map_cons, List.map_cons, h4]
  have hat := hH.1 i' _ (h3.trans rfl)
  have hat2 : H[X.2.1.size + i']? = some (arrV (X.2.2.2.2.1 14) m9 (fun k => .int (Int32.ofInt (mem i' k)))) := hat
  refine W.zast C.1 C.2.1 hat2 ((C.2.2.2.2.2.2.2.1.1.2 2 _ rfl).1 m9 _) (fun q => by cases q) (by rw [arrV_size]; exact g1) rfl rfl hd.1 fun H1 e1 z oq => ?_
  have hnar : narrow .boolean (.int (Int32.ofInt x)) = .int (Int32.ofInt x) := by rcases hx with rfl | rfl <;> rfl
  rw [hnar] at e1
  refine kk X p l ev s m args below meth cq Z hP C R H1 _ ls (zH_set (e := zE X (zup mem i' b x) i' (14, m9)) hH h2 rfl (zup_o mem i' b x) ?_ z oq) (zlo_put hl) hL
  show H1[X.2.1.size + i']? = some (arrV (X.2.2.2.2.1 14) m9 (fun k => .int (Int32.ofInt (zup mem i' b x i' k))))
  rw [e1, arrV_store]
  congr 2
  rw [zup_upd (fun y => Value.int (Int32.ofInt y)) mem i' b x _ g2]
  funext q
  by_cases hq : q = (Int32.ofInt b).toNatClampNeg
  · subst hq; simp [updV]; try rfl
  · simp [updV, hq]; try rfl
theorem zV_aast {m9 m8 ck : Nat} {x : Int} (kd t0 : Nat) (hkd : (kd = 15 ∧ t0 = 3 ∧ ck = 0) ∨ (kd = 16 ∧ t0 = 4 ∧ ck = 6)) (hd : decode mt.2.1 pc = .ok (.aastore, 1) ∧ pc + 1 = n) (hk : zkd sh a = (kd, m9)) (hm : Nat.ble m9 100000 = true) (hb : 0 ≤ b ∧ b < m9) (hx : zkd sh x = (ck, m8)) (kk : zV P mt sh u n L st (zup mem a b x) Q) : zV P mt sh u pc L ((2, x) :: (0, b) :: (2, a) :: st) mem Q := by
  intro X p l ev s m args below meth cq Z hP C R H locs ls hH hl hL
  rw [← hd.2] at kk
  have hkd9 : kd < 99 := by omega
  have hck : ck < 12 := by omega
  obtain ⟨i', rfl, h2, h3, h4⟩ := zat (X := X) (mem := mem) hk hkd9
  obtain ⟨x', rfl, x2, x3, x4⟩ := zat (X := X) (mem := mem) hx (by show ck < 99; omega)
  obtain ⟨g1, g2⟩ := i32_idx hb.1 hb.2 hm
  rw [List.map_cons, List.map_cons, List.map_cons, h4, x4]
  have hE : ∀ mem : zMem, zE X mem i' (kd, m9) = .inl (X.2.2.2.2.1 kd, m9, .inr (.inr (.inr (.inr (fun k => zro X (mem i' k)))))) := by
    intro mem
    rcases hkd with ⟨rfl, -, -⟩ | ⟨rfl, -, -⟩ <;> rfl
  rw [hE] at h3
  have hat : H[X.2.1.size + i']? = some (arrV (X.2.2.2.2.1 kd) m9 (fun k => va_rf (zro X (mem i' k)))) := hH.1 i' _ h3
  rw [zE_cls X mem x' ck m8 hck] at x3
  obtain ⟨r', hr', cellV, v1, v2, v3, -⟩ := hH.1 x' _ x3
  have hK := C.2.2.2.2.2.2.2.1.1
  obtain ⟨w1, w2, w3, w4, w5⟩ := zcl_ok ck hck
  have hcls := (hK.1 ck _ w1).2
  have ht : (ztys X)[t0]? = some (X.2.2.2.2.1 kd, .object (zcl ck).1) := by
    rcases hkd with ⟨rfl, rfl, rfl⟩ | ⟨rfl, rfl, rfl⟩ <;> rfl
  obtain ⟨kA, comp, k1, k2, k3, -⟩ := (hK.2 t0 _ ht).2
  have hcomp : comp = X.2.2.1 ck := Option.some.inj (k3.symm.trans hcls.1)
  subst hcomp
  obtain ⟨kC, hkC, -⟩ := hcls.2
  have h0 : ¬ Int32.ofInt b < 0 := fun q => g1 (Or.inl q)
  have hlt : (Int32.ofInt b).toNatClampNeg < m9 := Nat.not_le.mp fun q => g1 (Or.inr q)
  refine W.aast C.1 C.2.1 hat (fun q h => by cases h) (fun h => by cases h) k1 k2 rfl hkC ⟨h0, by rw [arrV_size]; exact hlt⟩ v1 (fun q h => by rw [v3] at h; cases h) (by rw [v2]; exact hkC) (by rw [v2]; exact va_assign hcls) rfl rfl hd.1 fun H1 e1 z oq => ?_
  refine kk X p l ev s m args below meth cq Z hP C R H1 _ ls (zH_set (e := zE X (zup mem i' b x') i' (kd, m9)) hH h2 rfl (zup_o mem i' b x') ?_ z oq) (zlo_put hl) hL
  rw [hE]
  show H1[X.2.1.size + i']? = some (arrV (X.2.2.2.2.1 kd) m9 (fun k => va_rf (zro X (zup mem i' b x' i' k))))
  rw [e1, arrV_store]
  congr 2
  rw [zup_upd (fun y => va_rf (zro X y)) mem i' b x' _ g2]
  funext q
  by_cases hq : q = (Int32.ofInt b).toNatClampNeg
  · subst hq; simp [updV, zro_nat, va_rf]
  · simp [updV, hq]
theorem zV_alen {m9 kd : Nat} (hd : decode mt.2.1 pc = .ok (.arraylength, 1) ∧ pc + 1 = n) (hk : zkd sh a = (12, m9)) (kk : zV P mt sh u n L ((0, (m9 : Int)) :: st) mem Q) : zV P mt sh u pc L ((2, a) :: st) mem Q := by
  intro X p l ev s m args below meth cq Z hP C R H locs ls hH hl hL
  rw [← hd.2] at kk
  obtain ⟨i', rfl, h2, h3, h4⟩ := zat (X := X) (mem := mem) hk (by show 12 < 99; omega)
  have h5 := kk X p l ev s m args below meth cq Z hP C R H locs ls hH hl hL
  rw [List.map_cons] at h5
  rw [List.map_cons, h4]
  have hat : H[X.2.1.size + i']? = some (arrV (X.2.2.2.2.1 12) m9 (fun k => .int (Int32.ofInt (mem i' k)))) := hH.1 i' _ (h3.trans rfl)
  refine W.alen (n := Int32.ofInt (m9 : Int)) C.1 C.2.1 hat ((C.2.2.2.2.2.2.2.1.1.2 0 _ rfl).1 m9 _) ?_ rfl rfl hd.1 h5
  rw [arrV_size, Int32.ofInt_eq_ofNat]
/-- the script -/
theorem zV_slen {m9 : Nat} (hd : decode mt.2.1 pc = .ok (.arraylength, 1) ∧ pc + 1 = n) (hS : ∀ X, P X → X.2.2.2.2.2.1 = m9) (kk : zV P mt sh u n L ((0, (m9 : Int)) :: st) mem Q) : zV P mt sh u pc L ((2, -2) :: st) mem Q := by
  intro X p l ev s m args below meth cq Z hP C R H locs ls hH hl hL
  rw [← hd.2] at kk
  have h5 := kk X p l ev s m args below meth cq Z hP C R H locs ls hH hl hL
  rw [List.map_cons] at h5
  rw [List.map_cons, zcV_scr]
  obtain ⟨⟨scr, x1, x2, x3, x4, x5⟩, x6⟩ := C.2.2.2.2.2.2.2.1.2.1
  refine W.alen (n := Int32.ofInt (m9 : Int)) C.1 C.2.1 (by rw [hH.2.2 _ x6]; exact x1) x2 ?_ rfl rfl hd.1 h5
  rw [x4, hS X hP, Int32.ofInt_eq_ofNat]
theorem zV_sld {m9 : Nat} {xs : Nat → Int32} (hd : decode mt.2.1 pc = .ok (.iaload, 1) ∧ pc + 1 = n) (hS : ∀ X, P X → X.2.2.2.2.2.1 = m9 ∧ X.2.2.2.2.2.2 = xs) (hm : m9 ≤ 100000) (hb : 0 ≤ b ∧ b < m9) (kk : zV P mt sh u n L ((0, (xs b.toNat).toInt) :: st) mem Q) : zV P mt sh u pc L ((0, b) :: (2, -2) :: st) mem Q := by
  intro X p l ev s m args below meth cq Z hP C R H locs ls hH hl hL
  rw [← hd.2] at kk
  have h5 := kk X p l ev s m args below meth cq Z hP C R H locs ls hH hl hL
  rw [List.map_cons] at h5
  rw [List.map_cons, List.map_cons, zcV_scr]
  obtain ⟨⟨scr, x1, x2, x3, x4, x5⟩, x6⟩ := C.2.2.2.2.2.2.2.1.2.1
  obtain ⟨s1, s2⟩ := hS X hP
  obtain ⟨g1, g2⟩ := i32_idx hb.1 hb.2 (Nat.ble_eq.mpr hm)
  have hlt : (Int32.ofInt b).toNatClampNeg < m9 := Nat.not_le.mp fun q => g1 (Or.inr q)
  have hbn : (Int32.ofInt b).toNatClampNeg = b.toNat := by omega
  refine W.iald (v := .int (xs b.toNat)) C.1 C.2.1 (by rw [hH.2.2 _ x6]; exact x1) x2 x3 (by rw [x4, s1]; exact g1) ?_ rfl rfl hd.1 ?_
  · rw [x5 _ (by rw [s1]; exact hlt), s2, hbn]
  · have e : zcV X (0, (xs b.toNat).toInt) = .int (xs b.toNat) := by show Value.int (Int32.ofInt _) = _; rw [Int32.ofInt_toInt]
    rw [e] at h5
    exact h5
def zblk (c : Nat) (k : Int) : Int := if ztag (zty c k.toNat) = 2 then -1 else 0
theorem zty_nf : ∀ c, c < 12 → ∀ k, k < zN c → zty c k ≠ .float ∧ zty c k ≠ .double := by decide +kernel
theorem zdef (X : zCT) (ty : FieldType) (h : ty ≠ .float ∧ ty ≠ .double) : defaultValue ty = zcV X (ztag ty, if ztag ty = 2 then -1 else 0) := by cases ty <;> first | rfl | exact absurd rfl h.1 | exact absurd rfl h.2
def zupA (mem : zMem) (a : Int) (f : Int → Int) : zMem := fun a' k' => if a' = a then f k' else mem a' k'
theorem zW_new (X : zCT) (sh : zSh) (mem : zMem) (f : Int → Int) (q : Nat × Nat) : zW X (sh ++ [q]) (zupA mem (sh.length : Int) f) = zW X sh mem ++ [(X.2.1.size + sh.length, zE X (fun _ => f) sh.length q)] := by
  rw [zW_app]
  have e1 : zE X (zupA mem (sh.length : Int) f) sh.length q = zE X (fun _ => f) sh.length q := by
    unfold zE zupA
    simp
  rw [e1]
  congr 1
  apply List.ext_getElem?
  intro j
  rw [zW_get, zW_get]
  cases hs : sh[j]? with
  | none => rfl
  | some p =>
    have hj : j < sh.length := (List.getElem?_eq_some_iff.mp hs).1
    have e : zupA mem (sh.length : Int) f (j : Int) = mem j := by
      funext k
      unfold zupA
      rw [if_neg (by omega)]
    simp only [Option.map_some]
    unfold zE
    rw [e]
theorem zH_new {X : zCT} {sh : zSh} {mem : zMem} {H H1 : Heap} {q : Nat × Nat} {f : Int → Int} (hH : zH X sh mem H) (h1 : va_at (X.2.2.1, X.2.2.2.1) vwCl (X.2.1.size + sh.length, zE X (fun _ => f) sh.length q) H1) (z : H1.size = H.size + 1) (oq : ∀ x : Nat, x < H.size → H1[x]? = H[x]?) : zH X (sh ++ [q]) (zupA mem (sh.length : Int) f) H1 := by
  obtain ⟨hP, hs, hb⟩ := hH
  refine ⟨?_, by rw [z, hs]; simp; omega, fun x hx => by rw [oq x (by omega)]; exact hb x hx⟩
  rw [zW_new]
  refine va_P.app (hP.kept fun k x hx => oq x.1 ((hP k x hx).lt)) (fun k x hx => ?_)
  have hz : k < 1 := (List.getElem?_eq_some_iff.mp hx).1
  rw [show k = 0 by omega] at hx
  cases hx
  exact h1
/-- a class's entry of the pool -/
def zCk (own : String) (i c : Nat) : Prop := c < 12 ∧ Cond.classLink own i (zcl c).1 ∈ zwsG ∧ Cond.instantiable (zcl c).1 (zN c) ∈ zwsG ∧ Cond.initialized (zcl c).1 ∈ zwsG
theorem zV_new {i c : Nat} {nI : Int} (hd : decode mt.2.1 pc = .ok (.new i, 3) ∧ pc + 3 = n) (hc : zCk mt.1.cls i c) (hn : (sh.length : Int) = nI) (hu : u.1 + 1 ≤ (zrm mt).cells ∧ u.2 + zN c ≤ (zrm mt).slots) (kk : zV P mt (sh ++ [(c, 0)]) (u.1 + 1, u.2 + zN c) n L ((2, nI) :: st) (zupA mem nI (zblk c)) Q) : zV P mt sh u pc L st mem Q := by
  intro X p l ev s m args below meth cq Z hP C R H locs ls hH hl hL
  rw [← hd.2] at kk
  subst hn
  obtain ⟨hc12, hcl, hin, hini⟩ := hc
  obtain ⟨w1, w2, w3, w4, w5⟩ := zcl_ok c hc12
  have hts := C.2.2.2.2.2.2.1
  have hKn := C.2.2.2.2.2.2.2.1.1.1 c _ w1
  refine W.newcK C.1 C.2.1 C.2.2.2.2.2.1 (hts _ hcl) (hts _ hin) (hts _ hini) rfl hd.1 hu.1 hu.2 hKn.2.1 hH.2.1 fun H1 kC hkC e1 z1 o1 => ?_
  have h5 := kk X p l ev s m args below meth cq Z hP C R H1 locs ls (zH_new hH ?_ (by rw [z1, hH.2.1]) (fun x hx => o1 x (by rw [← hH.2.1]; exact hx))) hl hL
  · rw [List.map_cons, zcV_ref] at h5
    exact h5
  · rw [zE_cls X _ _ c 0 hc12]
    refine ⟨_, w1, (u_born (zty c) hts w2 hKn hkC e1 w3).to fun j hj => ?_⟩
    have hj' : j < zN c := by rw [w5]; exact hj
    unfold vp_V
    rw [List.getD_eq_getElem?_getD, List.getElem?_map, List.getElem?_range hj']
    show defaultValue (zty c j) = zcV X (ztag (zty c j), zblk c j)
    unfold zblk
    simp only [Int.toNat_natCast]
    exact zdef X (zty c j) (zty_nf c hc12 j hj')
theorem zV_newa {kd m9 : Nat} {nI : Int} (aty : ArrayType) (ty : FieldType) (hk : (kd = 12 ∧ aty = .int ∧ ty = .int) ∨ (kd = 13 ∧ aty = .long ∧ ty = .long) ∨ (kd = 14 ∧ aty = .boolean ∧ ty = .boolean)) (hd : decode mt.2.1 pc = .ok (.newarray aty, 2) ∧ pc + 2 = n) (hw : Cond.arrayClass ty ∈ zwsG) (hm : (m9 : Int) = a ∧ Nat.ble m9 100000 = true) (hn : (sh.length : Int) = nI) (hu : u.1 + 1 ≤ (zrm mt).cells ∧ u.2 + m9 ≤ (zrm mt).slots) (kk : zV P mt (sh ++ [(kd, m9)]) (u.1 + 1, u.2 + m9) n L ((2, nI) :: st) (zupA mem nI (fun _ => 0)) Q) : zV P mt sh u pc L ((0, a) :: st) mem Q := by
  intro X p l ev s m args below meth cq Z hP C R H locs ls hH hl hL
  rw [← hd.2] at kk
  subst hn
  obtain ⟨rfl, hm9⟩ := hm
  have hm9' := Nat.le_of_ble_eq_true hm9
  have hts := C.2.2.2.2.2.2.1
  have hty : newarray.typeOf aty = ty := by rcases hk with ⟨-, rfl, rfl⟩ | ⟨-, rfl, rfl⟩ | ⟨-, rfl, rfl⟩ <;> rfl
  have hcl : (Int32.ofInt (m9 : Int)).toNatClampNeg = m9 := by
    rw [Int32.toNatClampNeg_ofInt_of_le (by omega) (by omega)]
    omega
  have hcb : componentBytes ty ≤ 8 := by rcases hk with ⟨-, -, rfl⟩ | ⟨-, -, rfl⟩ | ⟨-, -, rfl⟩ <;> decide
  refine va_newaK (N := m9) (h := X.2.1.size + sh.length) C.1 C.2.1 (by rw [hty]; exact hts _ hw) rfl hd.1 rfl ?_ hcl ?_ hu.1 hu.2 hH.2.1 fun H1 cA e1 z1 o1 hAr hNm => ?_
  · show ¬ Int32.ofInt (m9 : Int) < 0
    rw [Int32.lt_iff_toInt_lt, i32_toInt ⟨by omega, by omega⟩, Int32.toInt_zero]
    omega
  · rw [hty]
    have := Nat.mul_le_mul hm9' hcb
    omega
  rw [hty] at e1 hAr hNm
  have hK := C.2.2.2.2.2.2.2.1.1
  have hcA : X.2.2.2.2.1 kd = cA := by
    rcases hk with ⟨rfl, -, rfl⟩ | ⟨rfl, -, rfl⟩ | ⟨rfl, -, rfl⟩
    · exact Option.some.inj ((hK.2 0 _ rfl).2.symm.trans hNm)
    · exact Option.some.inj ((hK.2 1 _ rfl).2.symm.trans hNm)
    · exact Option.some.inj ((hK.2 2 _ rfl).2.symm.trans hNm)
  have h5 := kk X p l ev s m args below meth cq Z hP C R H1 locs ls (zH_new hH ?_ (by rw [z1, hH.2.1]) (fun x hx => o1 x (by rw [← hH.2.1]; exact hx))) hl hL
  · rw [List.map_cons, zcV_ref] at h5
    exact h5
  · rcases hk with ⟨rfl, -, rfl⟩ | ⟨rfl, -, rfl⟩ | ⟨rfl, -, rfl⟩
    · show H1[_]? = some (arrV (X.2.2.2.2.1 12) m9 (fun _ => .int (Int32.ofInt 0)))
      rw [hcA, e1]; rfl
    · show H1[_]? = some (arrV (X.2.2.2.2.1 13) m9 (fun _ => .long (Int64.ofInt 0)))
      rw [hcA, e1]; rfl
    · show H1[_]? = some (arrV (X.2.2.2.2.1 14) m9 (fun _ => .int (Int32.ofInt 0)))
      rw [hcA, e1]; rfl
theorem zV_anew {kd m9 i : Nat} {nI : Int} (Cn : String) (hk : (kd = 15 ∧ Cn = "CellPlane$Curve") ∨ (kd = 16 ∧ Cn = "CellPlane$Root")) (hd : decode mt.2.1 pc = .ok (.anewarray i, 3) ∧ pc + 3 = n) (hw : Cond.classLink mt.1.cls i Cn ∈ zwsG) (hm : (m9 : Int) = a ∧ Nat.ble m9 100000 = true) (hn : (sh.length : Int) = nI) (hu : u.1 + 1 ≤ (zrm mt).cells ∧ u.2 + m9 ≤ (zrm mt).slots) (kk : zV P mt (sh ++ [(kd, m9)]) (u.1 + 1, u.2 + m9) n L ((2, nI) :: st) (zupA mem nI (fun _ => -1)) Q) : zV P mt sh u pc L ((0, a) :: st) mem Q := by
  intro X p l ev s m args below meth cq Z hP C R H locs ls hH hl hL
  rw [← hd.2] at kk
  subst hn
  obtain ⟨rfl, hm9⟩ := hm
  have hm9' := Nat.le_of_ble_eq_true hm9
  have hts := C.2.2.2.2.2.2.1
  have hcl : (Int32.ofInt (m9 : Int)).toNatClampNeg = m9 := by
    rw [Int32.toNatClampNeg_ofInt_of_le (by omega) (by omega)]
    omega
  have hover : (Cond.arrayOver (.object Cn)).before args s = true := by
    rcases hk with ⟨-, rfl⟩ | ⟨-, rfl⟩
    · exact va_AO.use C.2.2.2.2.2.2.2.1.2.2.2.1
    · exact va_AO.use C.2.2.2.2.2.2.2.1.2.2.2.2
  refine W.anew C.1 C.2.1 C.2.2.2.2.2.1 (hts _ hw) hover rfl hd.1 rfl ?_ (by rw [hcl]; omega) hu.1 (by rw [hcl]; exact hu.2) fun cA kA comp f1 f2 f3 f4 => ?_
  · show ¬ Int32.ofInt (m9 : Int) < 0
    rw [Int32.lt_iff_toInt_lt, i32_toInt ⟨by omega, by omega⟩, Int32.toInt_zero]
    omega
  rw [hcl]
  have hK := C.2.2.2.2.2.2.2.1.1
  have hcA : X.2.2.2.2.1 kd = cA := by
    rcases hk with ⟨rfl, rfl⟩ | ⟨rfl, rfl⟩
    · obtain ⟨_, _, _, _, _, h9⟩ := (hK.2 3 _ rfl).2
      exact Option.some.inj (h9.symm.trans f1)
    · obtain ⟨_, _, _, _, _, h9⟩ := (hK.2 4 _ rfl).2
      exact Option.some.inj (h9.symm.trans f1)
  have h5 := kk X p l ev s m args below meth cq Z hP C R (H.push ({ cls := cA, slots := Array.replicate m9 .null, vm := .none } : Cell)) locs ls (zH_new hH ?_ (by rw [Array.size_push]) (fun x hx => by rw [Array.getElem?_push, if_neg (Nat.ne_of_lt hx)])) hl hL
  · rw [List.map_cons, zcV_ref, ← hH.2.1] at h5
    exact h5
  · have e1 : (H.push ({ cls := cA, slots := Array.replicate m9 .null, vm := .none } : Cell))[X.2.1.size + sh.length]? = some (arrV cA m9 (fun _ => .null)) := by rw [← hH.2.1, Array.getElem?_push_size, ← arrV_new]
    rcases hk with ⟨rfl, -⟩ | ⟨rfl, -⟩
    · show _ = some (arrV (X.2.2.2.2.1 15) m9 (fun _ => .null))
      rw [hcA, e1]
    · show _ = some (arrV (X.2.2.2.2.1 16) m9 (fun _ => .null))
      rw [hcA, e1]
end zHEAP
end
section
/-! calls -/
def zrk (mt mt' : zMT) (u : Nat × Nat) : Bool := Nat.ble (mt'.2.2.2.2.1 + 1) mt.2.2.2.2.1 && (Nat.ble (8 + (mt'.2.2.1 + 11) + mt'.2.2.2.2.2.1) mt.2.2.2.2.2.1 && (Nat.ble (u.1 + mt'.2.2.2.2.2.2.1) mt.2.2.2.2.2.2.1 && Nat.ble (u.2 + mt'.2.2.2.2.2.2.2) mt.2.2.2.2.2.2.2))
theorem zrk_spec {mt mt' : zMT} {u : Nat × Nat} (h : zrk mt mt' u = true) : ((zrm mt').frames + 1 ≤ (zrm mt).frames ∧ 8 + (mt'.2.2.1 + 11) + (zrm mt').locals ≤ (zrm mt).locals) ∧ (u.1 + (zrm mt').cells ≤ (zrm mt).cells ∧ u.2 + (zrm mt').slots ≤ (zrm mt).slots) := by
  unfold zrk at h
  simp only [Bool.and_eq_true] at h
  exact ⟨⟨Nat.le_of_ble_eq_true h.1, Nat.le_of_ble_eq_true h.2.1⟩, Nat.le_of_ble_eq_true h.2.2.1, Nat.le_of_ble_eq_true h.2.2.2⟩
def zcs : List zAV → Nat
  | [] => 0
  | v :: l => (if v.1 = 1 then 2 else 1) + zcs l
theorem zcs_spec (X : zCT) (st : List zAV) : ((st.map (zcV X)).map fun v => v.category).sum = zcs st := by
  induction st with
  | nil => rfl
  | cons v l ih =>
    have hc := zcat X v
    rw [List.map_cons, List.map_cons, List.sum_cons, ih]
    show _ = (if v.1 = 1 then 2 else 1) + zcs l
    congr 1
    by_cases h : v.1 = 1
    · rw [if_pos h, hc.mpr h]
    · rw [if_neg h]
      rcases lv_cat (zcV X v) with q | q
      · exact q
      · exact absurd (hc.mp q) h
/-- what the tables say of a method -/
def zMk (mt : zMT) (n : Nat) : Prop := Cond.initialized mt.1.cls ∈ zwsG ∧ Cond.code mt.1 mt.2.1 mt.2.2.1 mt.2.2.2.1 ∈ zwsG ∧ (mt.1.cls ≠ "java/lang/invoke/MethodHandle" ∧ mt.1.cls ≠ "java/lang/invoke/VarHandle" ∧ (parseMethodDescriptor mt.1.desc).map (fun d => d.parameters.length) = some n)
def zMs (mt : zMT) (n : Nat) : Prop := zMk mt n ∧ Cond.static mt.1 ∈ zwsG
def zMv (mt : zMT) (n c : Nat) : Prop := zMk mt n ∧ Cond.instanceMethod mt.1 ∈ zwsG ∧ Cond.selects mt.1.cls mt.1 mt.1 ∈ zwsG ∧ c < 12 ∧ (zcl c).1 = mt.1.cls
def zMi (mt : zMT) (n : Nat) : Prop := zMk mt n ∧ Cond.instanceMethod mt.1 ∈ zwsG ∧ mt.1.name = "<init>" ∧ mt.2.2.2.1 = none
theorem zPc_blind (X : zCT) (avs : List zAV) (sh : zSh) (mem : zMem) : FrameBlind (zPc X avs sh mem) := fun a U g mk q => ⟨q.1, zK_calling g mk a q.2.1, q.2.2⟩
theorem zGood (mt : zMT) {n : Nat} (h : zMk mt n) : GoodIn zwsG (zws mt) := zgood (fun w hw => by
  rcases List.mem_cons.mp hw with rfl | hw
  · exact h.2.1
  · exact hw)
section zCALL
variable {P : zCT → Prop} {mt mt' : zMT} {sh : zSh} {u : Nat × Nat} {pc n : Nat} {L L' : List (Option zAV)} {st st0 : List zAV} {mem : zMem} {Q Q' : zQT} {a b : Int} {avs : List zAV}
theorem zV_back {X : zCT} {p : Program} {l : Launch} {ev : Env} {s : State} {m : MethodId} {args : Array Value} {below : List Frame} {meth : Method} {c : Code} {Z : State → Prop} {H : Heap} {locs : List Loc} {ls : Array Slot} {u' : Nat × Nat} {a9 : Array Value} {st9 : List Value} (hu : u' = (u.1 + (zrm mt').cells, u.2 + (zrm mt').slots)) (hP : P X) (C : zC mt X p s m args meth c) (R : zR mt X Q p l ev s m args below meth c Z) (hl : zlo X locs) (hL : zL X ls mt.2.2.1 L)
    (hr : va_Run p l ev (zrm mt) s m args below meth c H locs u.1 u.2 (zrm mt').cells (zrm mt').slots (F0 m pc ls st9) (st.map (zcV X)) (zQc X Q' a9) (fun q => X.2.1.size ≤ q))
    (kk : ∀ r sh' mem', Q' r sh' mem' → zV P mt sh' u' (pc + 3) L (r.toList ++ st) mem' Q) : W p l ev (zrm mt) s m args below meth c H locs u.1 u.2 Z (F0 m pc ls st9) := by
  intro T hT XT
  obtain ⟨v, st₀, t, T', L9, h0, X', hL9, e1, e2, ⟨r, sh', mem', hv, hq, hh⟩, hgo⟩ := hr T hT XT
  cases hv
  have h5 := kk r sh' mem' hq X p l ev s m args below meth c Z hP C R T'.heap (locs ++ L9) ls (by rw [e1]; exact hh) (fun q hq => by
    rcases List.mem_append.mp hq with h | h
    · exact hl q h
    · exact hL9 q h) hL
  subst hu
  obtain ⟨t2, a1, b1⟩ := h5 T' rfl X'
  refine ⟨t2, hgo t2 ?_, b1⟩
  have e : (r.toList ++ st).map (zcV X) = (r.map (zcV X)).toList ++ st.map (zcV X) := by cases r <;> simp
  rw [e] at a1
  exact a1
theorem zV_invs {i : Nat} {u' : Nat × Nat} (mt' : zMT) (avs : List zAV) (hd : decode mt.2.1 pc = .ok (.invokestatic i, 3) ∧ pc + 3 = n) (hl1 : Cond.methodLink mt.1.cls i mt'.1 ∈ zwsG) (hm : zMs mt' avs.length) (hst : avs.reverse ++ st = st0) (hrk : zrk mt mt' u = true) (hcs : Nat.ble (zcs st) 8 = true) (hu : u' = (u.1 + (zrm mt').cells, u.2 + (zrm mt').slots)) (sp : zSp mt' avs sh mem Q')
    (kk : ∀ r sh' mem', Q' r sh' mem' → zV P mt sh' u' n L (r.toList ++ st) mem' Q) : zV P mt sh u pc L st0 mem Q := by
  intro X p l ev s m args below meth c Z hP C R H locs ls hH hl hL
  rw [← hd.2] at kk
  obtain ⟨hR, hf⟩ := zrk_spec hrk
  have hts := C.2.2.2.2.2.2.1
  have cb : CallB (zrm mt) s args mt.1.cls i mt'.1 mt'.2.1 mt'.2.2.1 mt'.2.2.2.1 (zws mt') (zrm mt') (zrm mt').cells (zrm mt').slots avs.length :=
    callB_of avs.length hts (zGood mt' hm.1) rfl rfl rfl (hts _ hm.1.1) (hts _ hl1) hm.1.2.2 hR
  refine zV_back hu hP C R hl hL (va_runS (As := avs.map (zcV X)) (rest := st.map (zcV X)) ⟨C.1, C.2.1, C.2.2.1, C.2.2.2.2.2.1, hts⟩ (sp l X) ⟨cb, hts _ hm.2⟩ ⟨zPc_blind X avs sh mem, fun U hU hW => ⟨rfl, zK_moved hW C.2.2.2.2.2.2.2.1, by rw [hU]; exact hH⟩⟩ rfl (by simp) hL.1 ?_ ?_ hd.1 hf) kk
  · show st0.map (zcV X) = _
    rw [← hst]; simp
  · exact lv_room (by rw [zcs_spec]; exact Nat.le_of_ble_eq_true hcs)
theorem zV_invv {i c m9 : Nat} {u' : Nat × Nat} (mt' : zMT) (avs : List zAV) (hd : decode mt.2.1 pc = .ok (.invokevirtual i, 3) ∧ pc + 3 = n) (hl1 : Cond.methodLink mt.1.cls i mt'.1 ∈ zwsG) (hm : zMv mt' avs.length c) (hk : zkd sh a = (c, m9)) (hst : avs.reverse ++ (2, a) :: st = st0) (hrk : zrk mt mt' u = true) (hcs : Nat.ble (zcs st) 8 = true) (hu : u' = (u.1 + (zrm mt').cells, u.2 + (zrm mt').slots)) (sp : zSp mt' ((2, a) :: avs) sh mem Q')
    (kk : ∀ r sh' mem', Q' r sh' mem' → zV P mt sh' u' n L (r.toList ++ st) mem' Q) : zV P mt sh u pc L st0 mem Q := by
  intro X p l ev s m args below meth cq Z hP C R H locs ls hH hl hL
  rw [← hd.2] at kk
  obtain ⟨hR, hf⟩ := zrk_spec hrk
  have hts := C.2.2.2.2.2.2.1
  obtain ⟨hm1, hm2, hm3, hc, hcn⟩ := hm
  obtain ⟨i', rfl, h2, h3, h4⟩ := zat (X := X) (mem := mem) hk (by show c < 99; omega)
  obtain ⟨w1, w2, w3, w4, w5⟩ := zcl_ok c hc
  rw [zE_cls X mem i' c m9 hc] at h3
  have cb : CallB (zrm mt) s args mt.1.cls i mt'.1 mt'.2.1 mt'.2.2.1 mt'.2.2.2.1 (zws mt') (zrm mt') (zrm mt').cells (zrm mt').slots avs.length :=
    callB_of avs.length hts (zGood mt' hm1) rfl rfl rfl (hts _ hm1.1) (hts _ hl1) hm1.2.2 hR
  have hrecv := va_recv C.2.2.2.2.2.2.2.1.1 hH.1 w1 h3
  rw [hcn] at hrecv
  refine zV_back hu hP C R hl hL (va_runV (C := mt'.1.cls) (b := X.2.1.size + i') (As := avs.map (zcV X)) (rest := st.map (zcV X)) ⟨C.1, C.2.1, C.2.2.1, C.2.2.2.2.2.1, hts⟩ (sp l X) ⟨cb, hts _ hm2, hts _ hm3⟩ ⟨zPc_blind X _ sh mem, hrecv, fun U hU hW => ⟨by rw [List.map_cons, h4], zK_moved hW C.2.2.2.2.2.2.2.1, by rw [hU]; exact hH⟩⟩ rfl (by simp) hL.1 ?_ ?_ hd.1 hf) kk
  · show st0.map (zcV X) = _
    rw [← hst]; simp [h4]
  · exact lv_room (by rw [zcs_spec]; exact Nat.le_of_ble_eq_true hcs)
theorem zV_invi {i c m9 : Nat} {u' : Nat × Nat} (mt' : zMT) (avs : List zAV) (hd : decode mt.2.1 pc = .ok (.invokespecial i, 3) ∧ pc + 3 = n) (hl1 : Cond.methodLink mt.1.cls i mt'.1 ∈ zwsG ∨ (mt.1.cls, i, mt'.1, "CellPlane") ∈ znest) (hm : zMi mt' avs.length) (hk : zkd sh a = (c, m9)) (hc : c < 12) (hst : avs.reverse ++ (2, a) :: st = st0) (hrk : zrk mt mt' u = true) (hcs : Nat.ble (zcs st) 8 = true) (hu : u' = (u.1 + (zrm mt').cells, u.2 + (zrm mt').slots)) (sp : zSp mt' ((2, a) :: avs) sh mem Q')
    (kk : ∀ r sh' mem', Q' r sh' mem' → zV P mt sh' u' n L (r.toList ++ st) mem' Q) : zV P mt sh u pc L st0 mem Q := by
  intro X p l ev s m args below meth cq Z hP C R H locs ls hH hl hL
  rw [← hd.2] at kk
  obtain ⟨hR, hf⟩ := zrk_spec hrk
  have hts := C.2.2.2.2.2.2.1
  obtain ⟨hm1, hm2, hm3, hm4⟩ := hm
  obtain ⟨i', rfl, h2, h3, h4⟩ := zat (X := X) (mem := mem) hk (by show c < 99; omega)
  have hG := zGood mt' hm1
  have hpc := zPc_blind X ((2, (i' : Int)) :: avs) sh mem
  have hpre : ∀ U : State, U.heap = H → s.WarmedH U.vm → zPc X ((2, (i' : Int)) :: avs) sh mem (Value.ref (X.2.1.size + i') :: avs.map (zcV X)).toArray U := fun U hU hW => ⟨by rw [List.map_cons, h4], zK_moved hW C.2.2.2.2.2.2.2.1, by rw [hU]; exact hH⟩
  have hsk : st0.map (zcV X) = (avs.map (zcV X)).reverse ++ .ref (X.2.1.size + i') :: st.map (zcV X) := by rw [← hst]; simp [h4]
  have hrm := lv_room (m := m) (pc := pc) (ls := ls) (rest := st0.map (zcV X)) (st := st.map (zcV X)) (by rw [zcs_spec]; exact Nat.le_of_ble_eq_true hcs)
  rcases hl1 with hl1 | hl1
  · have cb : CallB (zrm mt) s args mt.1.cls i mt'.1 mt'.2.1 mt'.2.2.1 none (zws mt') (zrm mt') (zrm mt').cells (zrm mt').slots avs.length :=
      callB_of avs.length hts hG (by unfold zws; rw [hm4]) rfl rfl (hts _ hm1.1) (hts _ hl1) hm1.2.2 hR
    exact zV_back hu hP C R hl hL (va_runI (b := X.2.1.size + i') (As := avs.map (zcV X)) (rest := st.map (zcV X)) ⟨C.1, C.2.1, C.2.2.1, C.2.2.2.2.2.1, hts⟩ (sp l X) ⟨cb, hm3, hts _ hm2⟩ ⟨hpc, hpre⟩ rfl (by simp) hL.1 hsk hrm hd.1 hf) kk
  · have cb : va_CN (zrm mt) s args mt.1.cls i mt'.1 "CellPlane" mt'.2.1 mt'.2.2.1 none (zws mt') (zrm mt') (zrm mt').cells (zrm mt').slots avs.length :=
      va_cnB avs.length hts hG (by unfold zws; rw [hm4]) rfl rfl (C.2.2.2.2.2.2.2.1.2.2.1 _ hl1) (hts _ hm1.1) hm1.2.2 hR
    exact zV_back hu hP C R hl hL (va_runIN (b := X.2.1.size + i') (As := avs.map (zcV X)) (rest := st.map (zcV X)) ⟨C.1, C.2.1, C.2.2.1, C.2.2.2.2.2.1, hts⟩ (sp l X) ⟨cb, hm3, hts _ hm2⟩ ⟨hpc, hpre⟩ rfl (by simp) hL.1 hsk hrm hd.1 hf) kk
theorem zV_obj {i c m9 : Nat} (hd : decode mt.2.1 pc = .ok (.invokespecial i, 3) ∧ pc + 3 = n) (hl1 : Cond.methodLink mt.1.cls i objectInit ∈ zwsG) (hl2 : Cond.instanceMethod objectInit ∈ zwsG) (hl3 : Cond.code objectInit ⟨#[0xb1]⟩ 1 none ∈ zwsG) (hk : zkd sh a = (c, m9)) (hc : c < 12) (hcs : Nat.ble (zcs st) 8 = true) (hrm : 1 ≤ (zrm mt).frames ∧ 20 ≤ (zrm mt).locals) (kk : zV P mt sh u n L st mem Q) : zV P mt sh u pc L ((2, a) :: st) mem Q := by
  intro X p l ev s m args below meth cq Z hP C R H locs ls hH hl hL
  rw [← hd.2] at kk
  have hts := C.2.2.2.2.2.2.1
  obtain ⟨i', rfl, h2, h3, h4⟩ := zat (X := X) (mem := mem) hk (by show c < 99; omega)
  have h5 := kk X p l ev s m args below meth cq Z hP C R H locs ls hH hl hL
  have hcs' := Nat.le_of_ble_eq_true hcs
  rw [List.map_cons, h4]
  refine W.objInit C.1 C.2.1 C.2.2.2.2.2.1 (hts _ hl1) (hts _ hl2) (hts _ hl3) rfl (hL.1.trans C.2.2.1.symm) rfl hd.1 hrm.1 ?_ h5
  have := lv_room (m := m) (pc := pc) (ls := ls) (rest := .ref (X.2.1.size + i') :: st.map (zcV X)) (st := st.map (zcV X)) (by rw [zcs_spec]; exact hcs')
  omega
/-! bits -/
theorem i32_mask (a : Int) (k : Nat) (m : Int32) (hm : m.toBitVec.toNat = 2 ^ k - 1) (hk : k ≤ 31) : Int32.ofInt a &&& m = Int32.ofInt (a % (2 ^ k : Int)) := by
  rw [pk_and _ k hm]
  have h1 : ((Int32.ofInt a).toBitVec.toNat : Int) = a % 4294967296 := by
    rw [Int32.toBitVec_ofInt, BitVec.toNat_ofInt]
    have : (0 : Int) ≤ a % 4294967296 := by omega
    show ((a % ((2 ^ 32 : Nat) : Int)).toNat : Int) = _
    have e : ((2 ^ 32 : Nat) : Int) = 4294967296 := by decide
    rw [e]
    omega
  have h2 : (((Int32.ofInt a).toBitVec.toNat % 2 ^ k : Nat) : Int) = a % (2 ^ k : Int) := by
    rw [Int.natCast_emod, h1]
    have hd : ((2 ^ k : Nat) : Int) ∣ 4294967296 := by
      have : (2 ^ k : Nat) ∣ 2 ^ 32 := Nat.pow_dvd_pow 2 (by omega)
      have h3 := Int.natCast_dvd_natCast.mpr this
      exact h3
    rw [Int.emod_emod_of_dvd a hd]
    simp
  rw [← h2, Int32.ofInt_eq_ofNat]
  rfl
theorem zV_iand (k9 : Nat) (hd : decode mt.2.1 pc = .ok (.iand, 1) ∧ pc + 1 = n) (hb : (Int32.ofInt b).toBitVec.toNat = 2 ^ k9 - 1 ∧ Nat.ble k9 31 = true) (k : zV P mt sh u n L ((0, a % (2 ^ k9 : Int)) :: st) mem Q) : zV P mt sh u pc L ((0, b) :: (0, a) :: st) mem Q := by
  intro X p l ev s m args below meth c Z hP C R H locs ls hH hl hL
  rw [← hd.2] at k
  have h2 := k X p l ev s m args below meth c Z hP C R H locs ls hH hl hL
  have e : zcV X (0, a % (2 ^ k9 : Int)) = .int (Int32.ofInt a &&& Int32.ofInt b) := by
    show Value.int (Int32.ofInt _) = _
    rw [i32_mask a k9 _ hb.1 (Nat.le_of_ble_eq_true hb.2)]
  rw [List.map_cons, e] at h2
  exact lv_iand C.1 C.2.1 hd.1 h2
theorem i64_mask (a : Int) (k : Nat) (m : Int64) (hm : m.toBitVec.toNat = 2 ^ k - 1) (hk : k ≤ 63) : Int64.ofInt a &&& m = Int64.ofInt (a % (2 ^ k : Int)) := by
  apply Int64.toBitVec_inj.mp
  apply BitVec.eq_of_toNat_eq
  have h1 : ((Int64.ofInt a).toBitVec.toNat : Int) = a % 18446744073709551616 := by
    rw [Int64.toBitVec_ofInt, BitVec.toNat_ofInt]
    have : (0 : Int) ≤ a % 18446744073709551616 := by omega
    show ((a % ((2 ^ 64 : Nat) : Int)).toNat : Int) = _
    have e : ((2 ^ 64 : Nat) : Int) = 18446744073709551616 := by decide
    rw [e]
    omega
  have hd : ((2 ^ k : Nat) : Int) ∣ 18446744073709551616 := by
    have : (2 ^ k : Nat) ∣ 2 ^ 64 := Nat.pow_dvd_pow 2 (by omega)
    have h3 := Int.natCast_dvd_natCast.mpr this
    exact h3
  rw [Int64.toBitVec_and, BitVec.toNat_and, hm, Nat.and_two_pow_sub_one_eq_mod]
  apply Int.ofNat_inj.mp
  rw [Int.natCast_emod, h1, Int.emod_emod_of_dvd a hd, Int64.toBitVec_ofInt, BitVec.toNat_ofInt]
  have e : ((2 ^ 64 : Nat) : Int) = 18446744073709551616 := by decide
  have e2 : ((2 ^ k : Nat) : Int) = (2 ^ k : Int) := by simp
  rw [e2]
  have hle : (2 ^ k : Int) ≤ 18446744073709551616 := by
    have h3 : (2 ^ k : Nat) ≤ 2 ^ 64 := Nat.pow_le_pow_right (by decide) (by omega)
    have h4 : ((2 ^ k : Nat) : Int) ≤ ((2 ^ 64 : Nat) : Int) := by exact_mod_cast h3
    rw [e2, e] at h4
    exact h4
  have hpos : (0 : Int) < 2 ^ k := by
    have h3 : 0 < (2 ^ k : Nat) := Nat.pow_pos (by decide)
    have h4 : (0 : Int) < ((2 ^ k : Nat) : Int) := by exact_mod_cast h3
    rw [e2] at h4
    exact h4
  have h0 := Int.emod_nonneg a (Int.ne_of_gt hpos)
  have h9 := Int.emod_lt_of_pos a hpos
  show _ = ((a % (2 ^ k : Int) % ((2 ^ 64 : Nat) : Int)).toNat : Int)
  rw [e, Int.emod_eq_of_lt h0 (by omega)]
  omega
theorem zV_land (k9 : Nat) (hd : decode mt.2.1 pc = .ok (.land, 1) ∧ pc + 1 = n) (hb : (Int64.ofInt b).toBitVec.toNat = 2 ^ k9 - 1 ∧ Nat.ble k9 63 = true) (k : zV P mt sh u n L ((1, a % (2 ^ k9 : Int)) :: st) mem Q) : zV P mt sh u pc L ((1, b) :: (1, a) :: st) mem Q := by
  intro X p l ev s m args below meth c Z hP C R H locs ls hH hl hL
  rw [← hd.2] at k
  have h2 := k X p l ev s m args below meth c Z hP C R H locs ls hH hl hL
  have e : zcV X (1, a % (2 ^ k9 : Int)) = .long (Int64.ofInt a &&& Int64.ofInt b) := by
    show Value.long (Int64.ofInt _) = _
    rw [i64_mask a k9 _ hb.1 (Nat.le_of_ble_eq_true hb.2)]
  rw [List.map_cons, e] at h2
  exact lv_land C.1 C.2.1 hd.1 h2
/-- 1 shifted left; a small number shifted right; or of small numbers; a long shifted right by one: by cases over the literal amount -/
theorem zV_ishl (v : Int) (hd : decode mt.2.1 pc = .ok (.ishl, 1) ∧ pc + 1 = n) (hv : Int32.ofInt a <<< (Int32.ofInt b &&& 31) = Int32.ofInt v) (k : zV P mt sh u n L ((0, v) :: st) mem Q) : zV P mt sh u pc L ((0, b) :: (0, a) :: st) mem Q := by
  intro X p l ev s m args below meth c Z hP C R H locs ls hH hl hL
  rw [← hd.2] at k
  have h2 := k X p l ev s m args below meth c Z hP C R H locs ls hH hl hL
  have e : zcV X (0, v) = .int (Int32.ofInt a <<< (Int32.ofInt b &&& 31)) := by
    show Value.int (Int32.ofInt _) = _
    rw [hv]
  rw [List.map_cons, e] at h2
  exact lv_ishl C.1 C.2.1 hd.1 h2
theorem zV_ishr (v : Int) (hd : decode mt.2.1 pc = .ok (.ishr, 1) ∧ pc + 1 = n) (hv : Int32.ofInt a >>> (Int32.ofInt b &&& 31) = Int32.ofInt v) (k : zV P mt sh u n L ((0, v) :: st) mem Q) : zV P mt sh u pc L ((0, b) :: (0, a) :: st) mem Q := by
  intro X p l ev s m args below meth c Z hP C R H locs ls hH hl hL
  rw [← hd.2] at k
  have h2 := k X p l ev s m args below meth c Z hP C R H locs ls hH hl hL
  have e : zcV X (0, v) = .int (Int32.ofInt a >>> (Int32.ofInt b &&& 31)) := by
    show Value.int (Int32.ofInt _) = _
    rw [hv]
  rw [List.map_cons, e] at h2
  exact lv_ishr C.1 C.2.1 hd.1 h2
theorem zV_ior (v : Int) (hd : decode mt.2.1 pc = .ok (.ior, 1) ∧ pc + 1 = n) (hv : Int32.ofInt a ||| Int32.ofInt b = Int32.ofInt v) (k : zV P mt sh u n L ((0, v) :: st) mem Q) : zV P mt sh u pc L ((0, b) :: (0, a) :: st) mem Q := by
  intro X p l ev s m args below meth c Z hP C R H locs ls hH hl hL
  rw [← hd.2] at k
  have h2 := k X p l ev s m args below meth c Z hP C R H locs ls hH hl hL
  have e : zcV X (0, v) = .int (Int32.ofInt a ||| Int32.ofInt b) := by
    show Value.int (Int32.ofInt _) = _
    rw [hv]
  rw [List.map_cons, e] at h2
  exact lv_ior C.1 C.2.1 hd.1 h2
theorem zV_lshr (v : Int) (hd : decode mt.2.1 pc = .ok (.lshr, 1) ∧ pc + 1 = n) (hv : Int64.ofInt a >>> ((Int32.ofInt b).toInt64 &&& 63) = Int64.ofInt v) (k : zV P mt sh u n L ((1, v) :: st) mem Q) : zV P mt sh u pc L ((0, b) :: (1, a) :: st) mem Q := by
  intro X p l ev s m args below meth c Z hP C R H locs ls hH hl hL
  rw [← hd.2] at k
  exact lv_lshr C.1 C.2.1 hd.1 hv (k X p l ev s m args below meth c Z hP C R H locs ls hH hl hL)
theorem zV_ixor (v : Int) (hd : decode mt.2.1 pc = .ok (.ixor, 1) ∧ pc + 1 = n) (hv : Int32.ofInt a ^^^ Int32.ofInt b = Int32.ofInt v) (k : zV P mt sh u n L ((0, v) :: st) mem Q) : zV P mt sh u pc L ((0, b) :: (0, a) :: st) mem Q := by
  intro X p l ev s m args below meth c Z hP C R H locs ls hH hl hL
  rw [← hd.2] at k
  have h2 := k X p l ev s m args below meth c Z hP C R H locs ls hH hl hL
  have e : zcV X (0, v) = .int (Int32.ofInt a ^^^ Int32.ofInt b) := by
    show Value.int (Int32.ofInt _) = _
    rw [hv]
  rw [List.map_cons, e] at h2
  exact lv_ixor C.1 C.2.1 hd.1 h2
theorem zV_lxor (v : Int) (hd : decode mt.2.1 pc = .ok (.lxor, 1) ∧ pc + 1 = n) (hv : Int64.ofInt a ^^^ Int64.ofInt b = Int64.ofInt v) (k : zV P mt sh u n L ((1, v) :: st) mem Q) : zV P mt sh u pc L ((1, b) :: (1, a) :: st) mem Q := by
  intro X p l ev s m args below meth c Z hP C R H locs ls hH hl hL
  rw [← hd.2] at k
  have h2 := k X p l ev s m args below meth c Z hP C R H locs ls hH hl hL
  have e : zcV X (1, v) = .long (Int64.ofInt a ^^^ Int64.ofInt b) := by
    show Value.long (Int64.ofInt _) = _
    rw [hv]
  rw [List.map_cons, e] at h2
  exact lv_lxor C.1 C.2.1 hd.1 h2
end zCALL
end
