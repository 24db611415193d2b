section
-- ===== PART A: goes FIRST, ahead of the names: the tables' words, and 'selects' of the private methods out of them =====
/-- a private method of a class that the tables say can be made, by its rows of tables_1 -/
def lw_okq (q : MethodName × Nat) : Prop := (q.1.cls ≠ "java/lang/invoke/MethodHandle" ∧ q.1.cls ≠ "java/lang/invoke/VarHandle") ∧ Cond.instantiable q.1.cls q.2 ∈ tables_1 ∧ Cond.privateMethod q.1 ∈ tables_1 ∧ Cond.instanceMethod q.1 ∈ tables_1
theorem lw_p0 : lw_okq (⟨"BondedWall", "forgetWhatCanBe", "()V"⟩, 5) := ⟨⟨by decide +kernel, by decide +kernel⟩, List.mem_of_getElem? (i := 15) (by decide +kernel), List.mem_of_getElem? (i := 216) (by decide +kernel), List.mem_of_getElem? (i := 217) (by decide +kernel)⟩
theorem lw_p1 : lw_okq (⟨"BondedWall", "spansOf", "(LBondedWall$Course;)I"⟩, 5) := ⟨⟨by decide +kernel, by decide +kernel⟩, List.mem_of_getElem? (i := 15) (by decide +kernel), List.mem_of_getElem? (i := 289) (by decide +kernel), List.mem_of_getElem? (i := 290) (by decide +kernel)⟩
theorem lw_p2 : lw_okq (⟨"BondedWall$Wall", "bounds", "(LBondedWall$Course;I)I"⟩, 6) := ⟨⟨by decide +kernel, by decide +kernel⟩, List.mem_of_getElem? (i := 23) (by decide +kernel), List.mem_of_getElem? (i := 304) (by decide +kernel), List.mem_of_getElem? (i := 305) (by decide +kernel)⟩
theorem lw_p3 : lw_okq (⟨"BondedWall$Rows", "sumLeftOfHighest", "(I[I)V"⟩, 3) := ⟨⟨by decide +kernel, by decide +kernel⟩, List.mem_of_getElem? (i := 108) (by decide +kernel), List.mem_of_getElem? (i := 332) (by decide +kernel), List.mem_of_getElem? (i := 333) (by decide +kernel)⟩
theorem lw_p4 : lw_okq (⟨"BondedWall$Wall", "ruleBrokenByPiece", "(III)I"⟩, 6) := ⟨⟨by decide +kernel, by decide +kernel⟩, List.mem_of_getElem? (i := 23) (by decide +kernel), List.mem_of_getElem? (i := 344) (by decide +kernel), List.mem_of_getElem? (i := 345) (by decide +kernel)⟩
theorem lw_p5 : lw_okq (⟨"BondedWall$Rows", "closeRight", "(I[I)V"⟩, 3) := ⟨⟨by decide +kernel, by decide +kernel⟩, List.mem_of_getElem? (i := 108) (by decide +kernel), List.mem_of_getElem? (i := 358) (by decide +kernel), List.mem_of_getElem? (i := 359) (by decide +kernel)⟩
theorem lw_p6 : lw_okq (⟨"BondedWall$Count", "addCourse", "(II)J"⟩, 7) := ⟨⟨by decide +kernel, by decide +kernel⟩, List.mem_of_getElem? (i := 125) (by decide +kernel), List.mem_of_getElem? (i := 401) (by decide +kernel), List.mem_of_getElem? (i := 402) (by decide +kernel)⟩
theorem lw_p7 : lw_okq (⟨"BondedWall$Count", "sumSubsets", "(I)V"⟩, 7) := ⟨⟨by decide +kernel, by decide +kernel⟩, List.mem_of_getElem? (i := 125) (by decide +kernel), List.mem_of_getElem? (i := 418) (by decide +kernel), List.mem_of_getElem? (i := 419) (by decide +kernel)⟩
theorem lw_p8 : lw_okq (⟨"BondedWall$Plan", "weighCourse", "(I[II)V"⟩, 7) := ⟨⟨by decide +kernel, by decide +kernel⟩, List.mem_of_getElem? (i := 156) (by decide +kernel), List.mem_of_getElem? (i := 433) (by decide +kernel), List.mem_of_getElem? (i := 434) (by decide +kernel)⟩
theorem lw_p9 : lw_okq (⟨"BondedWall$Plan", "takeLeastOfSubsets", "(I)V"⟩, 7) := ⟨⟨by decide +kernel, by decide +kernel⟩, List.mem_of_getElem? (i := 156) (by decide +kernel), List.mem_of_getElem? (i := 442) (by decide +kernel), List.mem_of_getElem? (i := 443) (by decide +kernel)⟩
theorem lw_p10 : lw_okq (⟨"BondedWall$Plan", "choose", "(I)V"⟩, 7) := ⟨⟨by decide +kernel, by decide +kernel⟩, List.mem_of_getElem? (i := 156) (by decide +kernel), List.mem_of_getElem? (i := 446) (by decide +kernel), List.mem_of_getElem? (i := 447) (by decide +kernel)⟩
theorem lw_p11 : lw_okq (⟨"BondedWall$Plan", "cheapest", "([II)I"⟩, 7) := ⟨⟨by decide +kernel, by decide +kernel⟩, List.mem_of_getElem? (i := 156) (by decide +kernel), List.mem_of_getElem? (i := 450) (by decide +kernel), List.mem_of_getElem? (i := 451) (by decide +kernel)⟩
theorem lw_p12 : lw_okq (⟨"BondedWall$Wall", "ruleBrokenByPieces", "(II)I"⟩, 6) := ⟨⟨by decide +kernel, by decide +kernel⟩, List.mem_of_getElem? (i := 23) (by decide +kernel), List.mem_of_getElem? (i := 500) (by decide +kernel), List.mem_of_getElem? (i := 501) (by decide +kernel)⟩
theorem lw_p13 : lw_okq (⟨"BondedWall", "tallyLaid", "()V"⟩, 5) := ⟨⟨by decide +kernel, by decide +kernel⟩, List.mem_of_getElem? (i := 15) (by decide +kernel), List.mem_of_getElem? (i := 509) (by decide +kernel), List.mem_of_getElem? (i := 510) (by decide +kernel)⟩
theorem lw_p14 : lw_okq (⟨"BondedWall", "openCells", "()I"⟩, 5) := ⟨⟨by decide +kernel, by decide +kernel⟩, List.mem_of_getElem? (i := 15) (by decide +kernel), List.mem_of_getElem? (i := 547) (by decide +kernel), List.mem_of_getElem? (i := 548) (by decide +kernel)⟩
theorem lw_p15 : lw_okq (⟨"BondedWall", "laidJoints", "()I"⟩, 5) := ⟨⟨by decide +kernel, by decide +kernel⟩, List.mem_of_getElem? (i := 15) (by decide +kernel), List.mem_of_getElem? (i := 557) (by decide +kernel), List.mem_of_getElem? (i := 558) (by decide +kernel)⟩
def lw_privs_1 : List (MethodName × Nat) := [(⟨"BondedWall", "forgetWhatCanBe", "()V"⟩, 5), (⟨"BondedWall", "spansOf", "(LBondedWall$Course;)I"⟩, 5), (⟨"BondedWall$Wall", "bounds", "(LBondedWall$Course;I)I"⟩, 6), (⟨"BondedWall$Rows", "sumLeftOfHighest", "(I[I)V"⟩, 3), (⟨"BondedWall$Wall", "ruleBrokenByPiece", "(III)I"⟩, 6), (⟨"BondedWall$Rows", "closeRight", "(I[I)V"⟩, 3), (⟨"BondedWall$Count", "addCourse", "(II)J"⟩, 7), (⟨"BondedWall$Count", "sumSubsets", "(I)V"⟩, 7), (⟨"BondedWall$Plan", "weighCourse", "(I[II)V"⟩, 7), (⟨"BondedWall$Plan", "takeLeastOfSubsets", "(I)V"⟩, 7), (⟨"BondedWall$Plan", "choose", "(I)V"⟩, 7), (⟨"BondedWall$Plan", "cheapest", "([II)I"⟩, 7), (⟨"BondedWall$Wall", "ruleBrokenByPieces", "(II)I"⟩, 6), (⟨"BondedWall", "tallyLaid", "()V"⟩, 5), (⟨"BondedWall", "openCells", "()I"⟩, 5), (⟨"BondedWall", "laidJoints", "()I"⟩, 5)]
theorem lw_r1 : ∀ q ∈ lw_privs_1, lw_okq q := List.forall_mem_cons.mpr ⟨lw_p0, List.forall_mem_cons.mpr ⟨lw_p1, List.forall_mem_cons.mpr ⟨lw_p2, List.forall_mem_cons.mpr ⟨lw_p3, List.forall_mem_cons.mpr ⟨lw_p4, List.forall_mem_cons.mpr ⟨lw_p5, List.forall_mem_cons.mpr ⟨lw_p6, List.forall_mem_cons.mpr ⟨lw_p7, List.forall_mem_cons.mpr ⟨lw_p8, List.forall_mem_cons.mpr ⟨lw_p9, List.forall_mem_cons.mpr ⟨lw_p10, List.forall_mem_cons.mpr ⟨lw_p11, List.forall_mem_cons.mpr ⟨lw_p12, List.forall_mem_cons.mpr ⟨lw_p13, List.forall_mem_cons.mpr ⟨lw_p14, List.forall_mem_cons.mpr ⟨lw_p15, fun _ h => absurd h List.not_mem_nil⟩⟩⟩⟩⟩⟩⟩⟩⟩⟩⟩⟩⟩⟩⟩⟩
theorem lw_p16 : lw_okq (⟨"BondedWallModel", "isCourse", "(I)Z"⟩, 15) := ⟨⟨by decide +kernel, by decide +kernel⟩, List.mem_of_getElem? (i := 561) (by decide +kernel), List.mem_of_getElem? (i := 633) (by decide +kernel), List.mem_of_getElem? (i := 634) (by decide +kernel)⟩
theorem lw_p17 : lw_okq (⟨"BondedWallModel", "arePlaces", "(I)Z"⟩, 15) := ⟨⟨by decide +kernel, by decide +kernel⟩, List.mem_of_getElem? (i := 561) (by decide +kernel), List.mem_of_getElem? (i := 641) (by decide +kernel), List.mem_of_getElem? (i := 642) (by decide +kernel)⟩
theorem lw_p18 : lw_okq (⟨"BondedWallModel", "spansOf", "(I)I"⟩, 15) := ⟨⟨by decide +kernel, by decide +kernel⟩, List.mem_of_getElem? (i := 561) (by decide +kernel), List.mem_of_getElem? (i := 661) (by decide +kernel), List.mem_of_getElem? (i := 662) (by decide +kernel)⟩
theorem lw_p19 : lw_okq (⟨"BondedWallModel", "findRows", "(I)V"⟩, 15) := ⟨⟨by decide +kernel, by decide +kernel⟩, List.mem_of_getElem? (i := 561) (by decide +kernel), List.mem_of_getElem? (i := 672) (by decide +kernel), List.mem_of_getElem? (i := 673) (by decide +kernel)⟩
theorem lw_p20 : lw_okq (⟨"BondedWallModel", "ruleOf", "(II)I"⟩, 15) := ⟨⟨by decide +kernel, by decide +kernel⟩, List.mem_of_getElem? (i := 561) (by decide +kernel), List.mem_of_getElem? (i := 676) (by decide +kernel), List.mem_of_getElem? (i := 677) (by decide +kernel)⟩
theorem lw_p21 : lw_okq (⟨"BondedWallModel", "isWithin", "(II)Z"⟩, 15) := ⟨⟨by decide +kernel, by decide +kernel⟩, List.mem_of_getElem? (i := 561) (by decide +kernel), List.mem_of_getElem? (i := 680) (by decide +kernel), List.mem_of_getElem? (i := 681) (by decide +kernel)⟩
theorem lw_p22 : lw_okq (⟨"BondedWallModel", "somePiece", "(III)Z"⟩, 15) := ⟨⟨by decide +kernel, by decide +kernel⟩, List.mem_of_getElem? (i := 561) (by decide +kernel), List.mem_of_getElem? (i := 684) (by decide +kernel), List.mem_of_getElem? (i := 685) (by decide +kernel)⟩
theorem lw_p23 : lw_okq (⟨"BondedWallModel", "begins", "(III)Z"⟩, 15) := ⟨⟨by decide +kernel, by decide +kernel⟩, List.mem_of_getElem? (i := 561) (by decide +kernel), List.mem_of_getElem? (i := 688) (by decide +kernel), List.mem_of_getElem? (i := 689) (by decide +kernel)⟩
theorem lw_p24 : lw_okq (⟨"BondedWallModel", "lengthFrom", "(III)I"⟩, 15) := ⟨⟨by decide +kernel, by decide +kernel⟩, List.mem_of_getElem? (i := 561) (by decide +kernel), List.mem_of_getElem? (i := 692) (by decide +kernel), List.mem_of_getElem? (i := 693) (by decide +kernel)⟩
theorem lw_p25 : lw_okq (⟨"BondedWallModel", "breaks", "(IIII)Z"⟩, 15) := ⟨⟨by decide +kernel, by decide +kernel⟩, List.mem_of_getElem? (i := 561) (by decide +kernel), List.mem_of_getElem? (i := 696) (by decide +kernel), List.mem_of_getElem? (i := 697) (by decide +kernel)⟩
theorem lw_p26 : lw_okq (⟨"BondedWallModel", "isPriced", "(I)Z"⟩, 15) := ⟨⟨by decide +kernel, by decide +kernel⟩, List.mem_of_getElem? (i := 561) (by decide +kernel), List.mem_of_getElem? (i := 700) (by decide +kernel), List.mem_of_getElem? (i := 701) (by decide +kernel)⟩
theorem lw_p27 : lw_okq (⟨"BondedWallModel", "areEnds", "(II)Z"⟩, 15) := ⟨⟨by decide +kernel, by decide +kernel⟩, List.mem_of_getElem? (i := 561) (by decide +kernel), List.mem_of_getElem? (i := 704) (by decide +kernel), List.mem_of_getElem? (i := 705) (by decide +kernel)⟩
theorem lw_p28 : lw_okq (⟨"BondedWallModel", "firstOf", "(III)I"⟩, 15) := ⟨⟨by decide +kernel, by decide +kernel⟩, List.mem_of_getElem? (i := 561) (by decide +kernel), List.mem_of_getElem? (i := 708) (by decide +kernel), List.mem_of_getElem? (i := 709) (by decide +kernel)⟩
theorem lw_p29 : lw_okq (⟨"BondedWallModel", "findAll", "(I)V"⟩, 15) := ⟨⟨by decide +kernel, by decide +kernel⟩, List.mem_of_getElem? (i := 561) (by decide +kernel), List.mem_of_getElem? (i := 716) (by decide +kernel), List.mem_of_getElem? (i := 717) (by decide +kernel)⟩
theorem lw_p30 : lw_okq (⟨"BondedWallModel", "findFrom", "(III)V"⟩, 15) := ⟨⟨by decide +kernel, by decide +kernel⟩, List.mem_of_getElem? (i := 561) (by decide +kernel), List.mem_of_getElem? (i := 720) (by decide +kernel), List.mem_of_getElem? (i := 721) (by decide +kernel)⟩
theorem lw_p31 : lw_okq (⟨"BondedWallModel", "costOf", "(II)I"⟩, 15) := ⟨⟨by decide +kernel, by decide +kernel⟩, List.mem_of_getElem? (i := 561) (by decide +kernel), List.mem_of_getElem? (i := 728) (by decide +kernel), List.mem_of_getElem? (i := 729) (by decide +kernel)⟩
def lw_privs_2 : List (MethodName × Nat) := [(⟨"BondedWallModel", "isCourse", "(I)Z"⟩, 15), (⟨"BondedWallModel", "arePlaces", "(I)Z"⟩, 15), (⟨"BondedWallModel", "spansOf", "(I)I"⟩, 15), (⟨"BondedWallModel", "findRows", "(I)V"⟩, 15), (⟨"BondedWallModel", "ruleOf", "(II)I"⟩, 15), (⟨"BondedWallModel", "isWithin", "(II)Z"⟩, 15), (⟨"BondedWallModel", "somePiece", "(III)Z"⟩, 15), (⟨"BondedWallModel", "begins", "(III)Z"⟩, 15), (⟨"BondedWallModel", "lengthFrom", "(III)I"⟩, 15), (⟨"BondedWallModel", "breaks", "(IIII)Z"⟩, 15), (⟨"BondedWallModel", "isPriced", "(I)Z"⟩, 15), (⟨"BondedWallModel", "areEnds", "(II)Z"⟩, 15), (⟨"BondedWallModel", "firstOf", "(III)I"⟩, 15), (⟨"BondedWallModel", "findAll", "(I)V"⟩, 15), (⟨"BondedWallModel", "findFrom", "(III)V"⟩, 15), (⟨"BondedWallModel", "costOf", "(II)I"⟩, 15)]
theorem lw_r2 : ∀ q ∈ lw_privs_2, lw_okq q := List.forall_mem_cons.mpr ⟨lw_p16, List.forall_mem_cons.mpr ⟨lw_p17, List.forall_mem_cons.mpr ⟨lw_p18, List.forall_mem_cons.mpr ⟨lw_p19, List.forall_mem_cons.mpr ⟨lw_p20, List.forall_mem_cons.mpr ⟨lw_p21, List.forall_mem_cons.mpr ⟨lw_p22, List.forall_mem_cons.mpr ⟨lw_p23, List.forall_mem_cons.mpr ⟨lw_p24, List.forall_mem_cons.mpr ⟨lw_p25, List.forall_mem_cons.mpr ⟨lw_p26, List.forall_mem_cons.mpr ⟨lw_p27, List.forall_mem_cons.mpr ⟨lw_p28, List.forall_mem_cons.mpr ⟨lw_p29, List.forall_mem_cons.mpr ⟨lw_p30, List.forall_mem_cons.mpr ⟨lw_p31, fun _ h => absurd h List.not_mem_nil⟩⟩⟩⟩⟩⟩⟩⟩⟩⟩⟩⟩⟩⟩⟩⟩
theorem lw_p32 : lw_okq (⟨"BondedWallModel", "leastCost", "(I)I"⟩, 15) := ⟨⟨by decide +kernel, by decide +kernel⟩, List.mem_of_getElem? (i := 561) (by decide +kernel), List.mem_of_getElem? (i := 736) (by decide +kernel), List.mem_of_getElem? (i := 737) (by decide +kernel)⟩
theorem lw_p33 : lw_okq (⟨"BondedWallModel", "hasBest", "()Z"⟩, 15) := ⟨⟨by decide +kernel, by decide +kernel⟩, List.mem_of_getElem? (i := 561) (by decide +kernel), List.mem_of_getElem? (i := 744) (by decide +kernel), List.mem_of_getElem? (i := 745) (by decide +kernel)⟩
theorem lw_p34 : lw_okq (⟨"BondedWallModel", "piecesIn", "(III)I"⟩, 15) := ⟨⟨by decide +kernel, by decide +kernel⟩, List.mem_of_getElem? (i := 561) (by decide +kernel), List.mem_of_getElem? (i := 752) (by decide +kernel), List.mem_of_getElem? (i := 753) (by decide +kernel)⟩
theorem lw_p35 : lw_okq (⟨"BondedWallModel", "reaches", "(I)Z"⟩, 15) := ⟨⟨by decide +kernel, by decide +kernel⟩, List.mem_of_getElem? (i := 561) (by decide +kernel), List.mem_of_getElem? (i := 760) (by decide +kernel), List.mem_of_getElem? (i := 761) (by decide +kernel)⟩
theorem lw_p36 : lw_okq (⟨"BondedWallModel", "laidCost", "()I"⟩, 15) := ⟨⟨by decide +kernel, by decide +kernel⟩, List.mem_of_getElem? (i := 561) (by decide +kernel), List.mem_of_getElem? (i := 776) (by decide +kernel), List.mem_of_getElem? (i := 777) (by decide +kernel)⟩
theorem lw_p37 : lw_okq (⟨"BondedWallModel", "laidRule", "(I)I"⟩, 15) := ⟨⟨by decide +kernel, by decide +kernel⟩, List.mem_of_getElem? (i := 561) (by decide +kernel), List.mem_of_getElem? (i := 784) (by decide +kernel), List.mem_of_getElem? (i := 785) (by decide +kernel)⟩
theorem lw_p38 : lw_okq (⟨"BondedWallModel", "laidPieces", "(I)I"⟩, 15) := ⟨⟨by decide +kernel, by decide +kernel⟩, List.mem_of_getElem? (i := 561) (by decide +kernel), List.mem_of_getElem? (i := 796) (by decide +kernel), List.mem_of_getElem? (i := 797) (by decide +kernel)⟩
theorem lw_p39 : lw_okq (⟨"BondedWallModel", "sumOf", "([I)I"⟩, 15) := ⟨⟨by decide +kernel, by decide +kernel⟩, List.mem_of_getElem? (i := 561) (by decide +kernel), List.mem_of_getElem? (i := 812) (by decide +kernel), List.mem_of_getElem? (i := 813) (by decide +kernel)⟩
theorem lw_p40 : lw_okq (⟨"BondedWallModel", "allPieces", "()I"⟩, 15) := ⟨⟨by decide +kernel, by decide +kernel⟩, List.mem_of_getElem? (i := 561) (by decide +kernel), List.mem_of_getElem? (i := 819) (by decide +kernel), List.mem_of_getElem? (i := 820) (by decide +kernel)⟩
def lw_privs_3 : List (MethodName × Nat) := [(⟨"BondedWallModel", "leastCost", "(I)I"⟩, 15), (⟨"BondedWallModel", "hasBest", "()Z"⟩, 15), (⟨"BondedWallModel", "piecesIn", "(III)I"⟩, 15), (⟨"BondedWallModel", "reaches", "(I)Z"⟩, 15), (⟨"BondedWallModel", "laidCost", "()I"⟩, 15), (⟨"BondedWallModel", "laidRule", "(I)I"⟩, 15), (⟨"BondedWallModel", "laidPieces", "(I)I"⟩, 15), (⟨"BondedWallModel", "sumOf", "([I)I"⟩, 15), (⟨"BondedWallModel", "allPieces", "()I"⟩, 15)]
theorem lw_r3 : ∀ q ∈ lw_privs_3, lw_okq q := List.forall_mem_cons.mpr ⟨lw_p32, List.forall_mem_cons.mpr ⟨lw_p33, List.forall_mem_cons.mpr ⟨lw_p34, List.forall_mem_cons.mpr ⟨lw_p35, List.forall_mem_cons.mpr ⟨lw_p36, List.forall_mem_cons.mpr ⟨lw_p37, List.forall_mem_cons.mpr ⟨lw_p38, List.forall_mem_cons.mpr ⟨lw_p39, List.forall_mem_cons.mpr ⟨lw_p40, fun _ h => absurd h List.not_mem_nil⟩⟩⟩⟩⟩⟩⟩⟩⟩
def lw_privs : List (MethodName × Nat) := lw_privs_1 ++ (lw_privs_2 ++ (lw_privs_3))
def lw_tbl : List Cond := k2_sels lw_privs ++ tables_1
theorem lw_privs_ok : ∀ q ∈ lw_privs, lw_okq q := by
  show ∀ q ∈ lw_privs_1 ++ (lw_privs_2 ++ (lw_privs_3)), lw_okq q
  exact List.forall_mem_append.mpr ⟨lw_r1, List.forall_mem_append.mpr ⟨lw_r2, lw_r3⟩⟩
def RX0 : String := "BondedWall$Bricks"
def TX0 : u_T := fun k => match k with
  | 0 => ("BondedWall$Bricks", "prices", "[I", true)
  | _ => ("BondedWall$Bricks", "endLengths", "[[I", true)
def tyX0 : Nat → FieldType := fun k => match k with
  | 0 => .array .int
  | _ => .array (.array .int)
abbrev wsX00 : List Cond := u_ws RX0 TX0 2
theorem nmX0 : ∀ a, a < 2 → ∀ b, b < 2 → a ≠ b → (TX0 a).2.1 ≠ (TX0 b).2.1 := by decide +kernel
theorem tyX0_ok : ∀ k, k < 2 → parseFieldDescriptor (TX0 k).2.2.1 = some (tyX0 k) := by decide +kernel
abbrev cX0_init : ByteArray := prog_2_method_1_code
def yX0_init : MethodName := ⟨RX0, "<init>", "()V"⟩
abbrev cX0_priceOf : ByteArray := prog_2_method_2_code
def yX0_priceOf : MethodName := ⟨RX0, "priceOf", "(I)I"⟩
abbrev cX0_mayEnd : ByteArray := prog_2_method_3_code
def yX0_mayEnd : MethodName := ⟨RX0, "mayEnd", "(III)Z"⟩
def RX1 : String := "BondedWall$Count"
def TX1 : u_T := fun k => match k with
  | 0 => ("BondedWall$Count", "wall", "LBondedWall$Wall;", true)
  | 1 => ("BondedWall$Count", "rows", "LBondedWall$Rows;", true)
  | 2 => ("BondedWall$Count", "within", "[J", true)
  | 3 => ("BondedWall$Count", "just", "[J", true)
  | 4 => ("BondedWall$Count", "countedLap", "I", false)
  | 5 => ("BondedWall$Count", "rightWalls", "J", false)
  | _ => ("BondedWall$Count", "rightCourses", "I", false)
def tyX1 : Nat → FieldType := fun k => match k with
  | 0 => .object "BondedWall$Wall"
  | 1 => .object "BondedWall$Rows"
  | 2 => .array .long
  | 3 => .array .long
  | 4 => .int
  | 5 => .long
  | _ => .int
abbrev wsX10 : List Cond := u_ws RX1 TX1 7
theorem nmX1 : ∀ a, a < 7 → ∀ b, b < 7 → a ≠ b → (TX1 a).2.1 ≠ (TX1 b).2.1 := by decide +kernel
theorem tyX1_ok : ∀ k, k < 7 → parseFieldDescriptor (TX1 k).2.2.1 = some (tyX1 k) := by decide +kernel
abbrev cX1_init : ByteArray := prog_3_method_1_code
def yX1_init : MethodName := ⟨RX1, "<init>", "(LBondedWall$Wall;LBondedWall$Rows;)V"⟩
abbrev cX1_forget : ByteArray := prog_3_method_2_code
def yX1_forget : MethodName := ⟨RX1, "forget", "()V"⟩
abbrev cX1_renew : ByteArray := prog_3_method_3_code
def yX1_renew : MethodName := ⟨RX1, "renew", "(I)V"⟩
abbrev cX1_addCourse : ByteArray := prog_3_method_4_code
def yX1_addCourse : MethodName := ⟨RX1, "addCourse", "(II)J"⟩
abbrev cX1_sumSubsets : ByteArray := prog_3_method_5_code
def yX1_sumSubsets : MethodName := ⟨RX1, "sumSubsets", "(I)V"⟩
def RX2 : String := "BondedWall$Course"
def TX2 : u_T := fun k => match k with
  | 0 => ("BondedWall$Course", "opened", "I", false)
  | 1 => ("BondedWall$Course", "demanded", "I", false)
  | 2 => ("BondedWall$Course", "barred", "I", false)
  | _ => ("BondedWall$Course", "laid", "I", false)
def tyX2 : Nat → FieldType := fun k => match k with
  | 0 => .int
  | 1 => .int
  | 2 => .int
  | _ => .int
abbrev wsX20 : List Cond := u_ws RX2 TX2 4
theorem nmX2 : ∀ a, a < 4 → ∀ b, b < 4 → a ≠ b → (TX2 a).2.1 ≠ (TX2 b).2.1 := by decide +kernel
theorem tyX2_ok : ∀ k, k < 4 → parseFieldDescriptor (TX2 k).2.2.1 = some (tyX2 k) := by decide +kernel
abbrev cX2_init : ByteArray := prog_4_method_1_code
def yX2_init : MethodName := ⟨RX2, "<init>", "()V"⟩
abbrev cX2_clear : ByteArray := prog_4_method_2_code
def yX2_clear : MethodName := ⟨RX2, "clear", "()V"⟩
abbrev cX2_isOpen : ByteArray := prog_4_method_3_code
def yX2_isOpen : MethodName := ⟨RX2, "isOpen", "(I)Z"⟩
abbrev cX2_besideOpen : ByteArray := prog_4_method_4_code
def yX2_besideOpen : MethodName := ⟨RX2, "besideOpen", "()I"⟩
abbrev cX2_keepsWithinSpans : ByteArray := prog_4_method_5_code
def yX2_keepsWithinSpans : MethodName := ⟨RX2, "keepsWithinSpans", "(I)Z"⟩
abbrev cX2_keepsDemands : ByteArray := prog_4_method_6_code
def yX2_keepsDemands : MethodName := ⟨RX2, "keepsDemands", "(I)Z"⟩
def RX3 : String := "BondedWall$Plan"
def TX3 : u_T := fun k => match k with
  | 0 => ("BondedWall$Plan", "wall", "LBondedWall$Wall;", true)
  | 1 => ("BondedWall$Plan", "rows", "LBondedWall$Rows;", true)
  | 2 => ("BondedWall$Plan", "just", "[[I", true)
  | 3 => ("BondedWall$Plan", "within", "[I", true)
  | 4 => ("BondedWall$Plan", "chosen", "[I", true)
  | 5 => ("BondedWall$Plan", "plannedLap", "I", false)
  | _ => ("BondedWall$Plan", "leastCost", "I", false)
def tyX3 : Nat → FieldType := fun k => match k with
  | 0 => .object "BondedWall$Wall"
  | 1 => .object "BondedWall$Rows"
  | 2 => .array (.array .int)
  | 3 => .array .int
  | 4 => .array .int
  | 5 => .int
  | _ => .int
abbrev wsX30 : List Cond := u_ws RX3 TX3 7
theorem nmX3 : ∀ a, a < 7 → ∀ b, b < 7 → a ≠ b → (TX3 a).2.1 ≠ (TX3 b).2.1 := by decide +kernel
theorem tyX3_ok : ∀ k, k < 7 → parseFieldDescriptor (TX3 k).2.2.1 = some (tyX3 k) := by decide +kernel
abbrev cX3_init : ByteArray := prog_5_method_1_code
def yX3_init : MethodName := ⟨RX3, "<init>", "(LBondedWall$Wall;LBondedWall$Rows;)V"⟩
abbrev cX3_forget : ByteArray := prog_5_method_2_code
def yX3_forget : MethodName := ⟨RX3, "forget", "()V"⟩
abbrev cX3_isNone : ByteArray := prog_5_method_3_code
def yX3_isNone : MethodName := ⟨RX3, "isNone", "()Z"⟩
abbrev cX3_jointsOf : ByteArray := prog_5_method_4_code
def yX3_jointsOf : MethodName := ⟨RX3, "jointsOf", "(I)I"⟩
abbrev cX3_renew : ByteArray := prog_5_method_5_code
def yX3_renew : MethodName := ⟨RX3, "renew", "(I)V"⟩
abbrev cX3_weighCourse : ByteArray := prog_5_method_6_code
def yX3_weighCourse : MethodName := ⟨RX3, "weighCourse", "(I[II)V"⟩
abbrev cX3_takeLeastOfSubsets : ByteArray := prog_5_method_7_code
def yX3_takeLeastOfSubsets : MethodName := ⟨RX3, "takeLeastOfSubsets", "(I)V"⟩
abbrev cX3_choose : ByteArray := prog_5_method_8_code
def yX3_choose : MethodName := ⟨RX3, "choose", "(I)V"⟩
abbrev cX3_cheapest : ByteArray := prog_5_method_9_code
def yX3_cheapest : MethodName := ⟨RX3, "cheapest", "([II)I"⟩
def RX4 : String := "BondedWall$Rows"
def TX4 : u_T := fun k => match k with
  | 0 => ("BondedWall$Rows", "wall", "LBondedWall$Wall;", true)
  | 1 => ("BondedWall$Rows", "costs", "[[I", true)
  | _ => ("BondedWall$Rows", "fresh", "Z", false)
def tyX4 : Nat → FieldType := fun k => match k with
  | 0 => .object "BondedWall$Wall"
  | 1 => .array (.array .int)
  | _ => .boolean
abbrev wsX40 : List Cond := u_ws RX4 TX4 3
theorem nmX4 : ∀ a, a < 3 → ∀ b, b < 3 → a ≠ b → (TX4 a).2.1 ≠ (TX4 b).2.1 := by decide +kernel
theorem tyX4_ok : ∀ k, k < 3 → parseFieldDescriptor (TX4 k).2.2.1 = some (tyX4 k) := by decide +kernel
abbrev cX4_init : ByteArray := prog_6_method_1_code
def yX4_init : MethodName := ⟨RX4, "<init>", "(LBondedWall$Wall;)V"⟩
abbrev cX4_forget : ByteArray := prog_6_method_2_code
def yX4_forget : MethodName := ⟨RX4, "forget", "()V"⟩
abbrev cX4_renew : ByteArray := prog_6_method_3_code
def yX4_renew : MethodName := ⟨RX4, "renew", "()V"⟩
abbrev cX4_firstWith : ByteArray := prog_6_method_4_code
def yX4_firstWith : MethodName := ⟨RX4, "firstWith", "(I)I"⟩
abbrev cX4_sumLeftOfHighest : ByteArray := prog_6_method_5_code
def yX4_sumLeftOfHighest : MethodName := ⟨RX4, "sumLeftOfHighest", "(I[I)V"⟩
abbrev cX4_closeRight : ByteArray := prog_6_method_6_code
def yX4_closeRight : MethodName := ⟨RX4, "closeRight", "(I[I)V"⟩
abbrev cX4_costOf : ByteArray := prog_6_method_7_code
def yX4_costOf : MethodName := ⟨RX4, "costOf", "(II)I"⟩
abbrev cX4_howMany : ByteArray := prog_6_method_8_code
def yX4_howMany : MethodName := ⟨RX4, "howMany", "(I)I"⟩
abbrev cX4_jointsOf : ByteArray := prog_6_method_9_code
def yX4_jointsOf : MethodName := ⟨RX4, "jointsOf", "(II)I"⟩
abbrev cX4_apartFrom : ByteArray := prog_6_method_10_code
def yX4_apartFrom : MethodName := ⟨RX4, "apartFrom", "(II)I"⟩
def RX5 : String := "BondedWall$Tally"
def TX5 : u_T := fun k => match k with
  | _ => ("BondedWall$Tally", "byLength", "[I", true)
def tyX5 : Nat → FieldType := fun k => match k with
  | _ => .array .int
abbrev wsX50 : List Cond := u_ws RX5 TX5 1
theorem nmX5 : ∀ a, a < 1 → ∀ b, b < 1 → a ≠ b → (TX5 a).2.1 ≠ (TX5 b).2.1 := by decide +kernel
theorem tyX5_ok : ∀ k, k < 1 → parseFieldDescriptor (TX5 k).2.2.1 = some (tyX5 k) := by decide +kernel
abbrev cX5_init : ByteArray := prog_7_method_1_code
def yX5_init : MethodName := ⟨RX5, "<init>", "()V"⟩
abbrev cX5_clear : ByteArray := prog_7_method_2_code
def yX5_clear : MethodName := ⟨RX5, "clear", "()V"⟩
abbrev cX5_add : ByteArray := prog_7_method_3_code
def yX5_add : MethodName := ⟨RX5, "add", "(I)V"⟩
abbrev cX5_of : ByteArray := prog_7_method_4_code
def yX5_of : MethodName := ⟨RX5, "of", "(I)I"⟩
abbrev cX5_total : ByteArray := prog_7_method_5_code
def yX5_total : MethodName := ⟨RX5, "total", "()I"⟩
abbrev cX5_costBy : ByteArray := prog_7_method_6_code
def yX5_costBy : MethodName := ⟨RX5, "costBy", "(LBondedWall$Bricks;)I"⟩
abbrev cX5_wholeBricks : ByteArray := prog_7_method_7_code
def yX5_wholeBricks : MethodName := ⟨RX5, "wholeBricks", "()I"⟩
def RX6 : String := "BondedWall$Wall"
def TX6 : u_T := fun k => match k with
  | 0 => ("BondedWall$Wall", "bricks", "LBondedWall$Bricks;", true)
  | 1 => ("BondedWall$Wall", "courses", "[LBondedWall$Course;", true)
  | 2 => ("BondedWall$Wall", "ground", "LBondedWall$Course;", true)
  | 3 => ("BondedWall$Wall", "cellsWide", "I", false)
  | 4 => ("BondedWall$Wall", "height", "I", false)
  | _ => ("BondedWall$Wall", "overlap", "I", false)
def tyX6 : Nat → FieldType := fun k => match k with
  | 0 => .object "BondedWall$Bricks"
  | 1 => .array (.object "BondedWall$Course")
  | 2 => .object "BondedWall$Course"
  | 3 => .int
  | 4 => .int
  | _ => .int
abbrev wsX60 : List Cond := u_ws RX6 TX6 6
theorem nmX6 : ∀ a, a < 6 → ∀ b, b < 6 → a ≠ b → (TX6 a).2.1 ≠ (TX6 b).2.1 := by decide +kernel
theorem tyX6_ok : ∀ k, k < 6 → parseFieldDescriptor (TX6 k).2.2.1 = some (tyX6 k) := by decide +kernel
abbrev cX6_init : ByteArray := prog_8_method_1_code
def yX6_init : MethodName := ⟨RX6, "<init>", "()V"⟩
abbrev cX6_has : ByteArray := prog_8_method_2_code
def yX6_has : MethodName := ⟨RX6, "has", "(I)Z"⟩
abbrev cX6_at : ByteArray := prog_8_method_3_code
def yX6_at : MethodName := ⟨RX6, "at", "(I)LBondedWall$Course;"⟩
abbrev cX6_cells : ByteArray := prog_8_method_4_code
def yX6_cells : MethodName := ⟨RX6, "cells", "()I"⟩
abbrev cX6_places : ByteArray := prog_8_method_5_code
def yX6_places : MethodName := ⟨RX6, "places", "()I"⟩
abbrev cX6_sets : ByteArray := prog_8_method_6_code
def yX6_sets : MethodName := ⟨RX6, "sets", "()I"⟩
abbrev cX6_bounds : ByteArray := prog_8_method_7_code
def yX6_bounds : MethodName := ⟨RX6, "bounds", "(LBondedWall$Course;I)I"⟩
abbrev cX6_addPieces : ByteArray := prog_8_method_8_code
def yX6_addPieces : MethodName := ⟨RX6, "addPieces", "(LBondedWall$Course;ILBondedWall$Tally;)V"⟩
abbrev cX6_lengthAround : ByteArray := prog_8_method_9_code
def yX6_lengthAround : MethodName := ⟨RX6, "lengthAround", "(LBondedWall$Course;I)I"⟩
abbrev cX6_ruleBrokenIn : ByteArray := prog_8_method_10_code
def yX6_ruleBrokenIn : MethodName := ⟨RX6, "ruleBrokenIn", "(I)I"⟩
abbrev cX6_ruleBrokenByPieces : ByteArray := prog_8_method_11_code
def yX6_ruleBrokenByPieces : MethodName := ⟨RX6, "ruleBrokenByPieces", "(II)I"⟩
abbrev cX6_ruleBrokenByPiece : ByteArray := prog_8_method_12_code
def yX6_ruleBrokenByPiece : MethodName := ⟨RX6, "ruleBrokenByPiece", "(III)I"⟩
abbrev cX6_costBetween : ByteArray := prog_8_method_13_code
def yX6_costBetween : MethodName := ⟨RX6, "costBetween", "(III)I"⟩
abbrev cX6_near : ByteArray := prog_8_method_14_code
def yX6_near : MethodName := ⟨RX6, "near", "(II)I"⟩
def RX7 : String := "BondedWall"
def TX7 : u_T := fun k => match k with
  | 0 => ("BondedWall", "wall", "LBondedWall$Wall;", true)
  | 1 => ("BondedWall", "rows", "LBondedWall$Rows;", true)
  | 2 => ("BondedWall", "count", "LBondedWall$Count;", true)
  | 3 => ("BondedWall", "plan", "LBondedWall$Plan;", true)
  | _ => ("BondedWall", "tally", "LBondedWall$Tally;", true)
def tyX7 : Nat → FieldType := fun k => match k with
  | 0 => .object "BondedWall$Wall"
  | 1 => .object "BondedWall$Rows"
  | 2 => .object "BondedWall$Count"
  | 3 => .object "BondedWall$Plan"
  | _ => .object "BondedWall$Tally"
abbrev wsX70 : List Cond := u_ws RX7 TX7 5
theorem nmX7 : ∀ a, a < 5 → ∀ b, b < 5 → a ≠ b → (TX7 a).2.1 ≠ (TX7 b).2.1 := by decide +kernel
theorem tyX7_ok : ∀ k, k < 5 → parseFieldDescriptor (TX7 k).2.2.1 = some (tyX7 k) := by decide +kernel
abbrev cX7_init : ByteArray := prog_1_method_1_code
def yX7_init : MethodName := ⟨RX7, "<init>", "()V"⟩
abbrev cX7_width : ByteArray := prog_1_method_2_code
def yX7_width : MethodName := ⟨RX7, "width", "(I)I"⟩
abbrev cX7_course : ByteArray := prog_1_method_3_code
def yX7_course : MethodName := ⟨RX7, "course", "()I"⟩
abbrev cX7_take : ByteArray := prog_1_method_4_code
def yX7_take : MethodName := ⟨RX7, "take", "()I"⟩
abbrev cX7_open : ByteArray := prog_1_method_5_code
def yX7_open : MethodName := ⟨RX7, "open", "(II)I"⟩
abbrev cX7_must : ByteArray := prog_1_method_6_code
def yX7_must : MethodName := ⟨RX7, "must", "(III)I"⟩
abbrev cX7_price : ByteArray := prog_1_method_7_code
def yX7_price : MethodName := ⟨RX7, "price", "(II)I"⟩
abbrev cX7_lap : ByteArray := prog_1_method_8_code
def yX7_lap : MethodName := ⟨RX7, "lap", "(I)I"⟩
abbrev cX7_ends : ByteArray := prog_1_method_9_code
def yX7_ends : MethodName := ⟨RX7, "ends", "(III)I"⟩
abbrev cX7_ofCourse : ByteArray := prog_1_method_10_code
def yX7_ofCourse : MethodName := ⟨RX7, "ofCourse", "(II)I"⟩
abbrev cX7_row : ByteArray := prog_1_method_11_code
def yX7_row : MethodName := ⟨RX7, "row", "(II)I"⟩
abbrev cX7_walls : ByteArray := prog_1_method_12_code
def yX7_walls : MethodName := ⟨RX7, "walls", "()J"⟩
abbrev cX7_best : ByteArray := prog_1_method_13_code
def yX7_best : MethodName := ⟨RX7, "best", "()I"⟩
abbrev cX7_bestRow : ByteArray := prog_1_method_14_code
def yX7_bestRow : MethodName := ⟨RX7, "bestRow", "(I)I"⟩
abbrev cX7_bestOf : ByteArray := prog_1_method_15_code
def yX7_bestOf : MethodName := ⟨RX7, "bestOf", "(I)I"⟩
abbrev cX7_highest : ByteArray := prog_1_method_16_code
def yX7_highest : MethodName := ⟨RX7, "highest", "()I"⟩
abbrev cX7_byLap : ByteArray := prog_1_method_17_code
def yX7_byLap : MethodName := ⟨RX7, "byLap", "(I)I"⟩
abbrev cX7_lay : ByteArray := prog_1_method_18_code
def yX7_lay : MethodName := ⟨RX7, "lay", "(II)I"⟩
abbrev cX7_layBest : ByteArray := prog_1_method_19_code
def yX7_layBest : MethodName := ⟨RX7, "layBest", "()I"⟩
abbrev cX7_wrong : ByteArray := prog_1_method_20_code
def yX7_wrong : MethodName := ⟨RX7, "wrong", "(I)I"⟩
abbrev cX7_cost : ByteArray := prog_1_method_21_code
def yX7_cost : MethodName := ⟨RX7, "cost", "()I"⟩
abbrev cX7_pieces : ByteArray := prog_1_method_22_code
def yX7_pieces : MethodName := ⟨RX7, "pieces", "(I)I"⟩
abbrev cX7_piece : ByteArray := prog_1_method_23_code
def yX7_piece : MethodName := ⟨RX7, "piece", "(II)I"⟩
abbrev cX7_cut : ByteArray := prog_1_method_24_code
def yX7_cut : MethodName := ⟨RX7, "cut", "()I"⟩
abbrev cX7_many : ByteArray := prog_1_method_25_code
def yX7_many : MethodName := ⟨RX7, "many", "(I)I"⟩
abbrev cX7_forgetWhatCanBe : ByteArray := prog_1_method_26_code
def yX7_forgetWhatCanBe : MethodName := ⟨RX7, "forgetWhatCanBe", "()V"⟩
abbrev cX7_tallyLaid : ByteArray := prog_1_method_27_code
def yX7_tallyLaid : MethodName := ⟨RX7, "tallyLaid", "()V"⟩
abbrev cX7_spansOf : ByteArray := prog_1_method_28_code
def yX7_spansOf : MethodName := ⟨RX7, "spansOf", "(LBondedWall$Course;)I"⟩
abbrev cX7_openCells : ByteArray := prog_1_method_29_code
def yX7_openCells : MethodName := ⟨RX7, "openCells", "()I"⟩
abbrev cX7_laidJoints : ByteArray := prog_1_method_30_code
def yX7_laidJoints : MethodName := ⟨RX7, "laidJoints", "()I"⟩
def RX8 : String := "BondedWallModel"
def TX8 : u_T := fun k => match k with
  | 0 => ("BondedWallModel", "wide", "I", false)
  | 1 => ("BondedWallModel", "courses", "I", false)
  | 2 => ("BondedWallModel", "openOf", "[I", true)
  | 3 => ("BondedWallModel", "mustOf", "[I", true)
  | 4 => ("BondedWallModel", "barredOf", "[I", true)
  | 5 => ("BondedWallModel", "laidOf", "[I", true)
  | 6 => ("BondedWallModel", "priceOf", "[I", true)
  | 7 => ("BondedWallModel", "endsOf", "[I", true)
  | 8 => ("BondedWallModel", "lapNow", "I", false)
  | 9 => ("BondedWallModel", "rowMany", "[I", true)
  | 10 => ("BondedWallModel", "rowAt", "[I", true)
  | 11 => ("BondedWallModel", "leastFrom", "[I", true)
  | 12 => ("BondedWallModel", "waysFrom", "[J", true)
  | 13 => ("BondedWallModel", "bestAt", "[I", true)
  | _ => ("BondedWallModel", "isReached", "[Z", true)
def tyX8 : Nat → FieldType := fun k => match k with
  | 0 => .int
  | 1 => .int
  | 2 => .array .int
  | 3 => .array .int
  | 4 => .array .int
  | 5 => .array .int
  | 6 => .array .int
  | 7 => .array .int
  | 8 => .int
  | 9 => .array .int
  | 10 => .array .int
  | 11 => .array .int
  | 12 => .array .long
  | 13 => .array .int
  | _ => .array .boolean
abbrev wsX80 : List Cond := u_ws RX8 TX8 15
theorem nmX8 : ∀ a, a < 15 → ∀ b, b < 15 → a ≠ b → (TX8 a).2.1 ≠ (TX8 b).2.1 := by decide +kernel
theorem tyX8_ok : ∀ k, k < 15 → parseFieldDescriptor (TX8 k).2.2.1 = some (tyX8 k) := by decide +kernel
abbrev cX8_init : ByteArray := prog_10_method_1_code
def yX8_init : MethodName := ⟨RX8, "<init>", "()V"⟩
abbrev cX8_within : ByteArray := prog_10_method_2_code
def yX8_within : MethodName := ⟨RX8, "within", "(III)Z"⟩
abbrev cX8_has : ByteArray := prog_10_method_3_code
def yX8_has : MethodName := ⟨RX8, "has", "(II)Z"⟩
abbrev cX8_sizeOf : ByteArray := prog_10_method_4_code
def yX8_sizeOf : MethodName := ⟨RX8, "sizeOf", "(I)I"⟩
abbrev cX8_isCourse : ByteArray := prog_10_method_5_code
def yX8_isCourse : MethodName := ⟨RX8, "isCourse", "(I)Z"⟩
abbrev cX8_arePlaces : ByteArray := prog_10_method_6_code
def yX8_arePlaces : MethodName := ⟨RX8, "arePlaces", "(I)Z"⟩
abbrev cX8_width : ByteArray := prog_10_method_7_code
def yX8_width : MethodName := ⟨RX8, "width", "(I)I"⟩
abbrev cX8_course : ByteArray := prog_10_method_8_code
def yX8_course : MethodName := ⟨RX8, "course", "()I"⟩
abbrev cX8_take : ByteArray := prog_10_method_9_code
def yX8_take : MethodName := ⟨RX8, "take", "()I"⟩
abbrev cX8_open : ByteArray := prog_10_method_10_code
def yX8_open : MethodName := ⟨RX8, "open", "(II)I"⟩
abbrev cX8_must : ByteArray := prog_10_method_11_code
def yX8_must : MethodName := ⟨RX8, "must", "(III)I"⟩
abbrev cX8_price : ByteArray := prog_10_method_12_code
def yX8_price : MethodName := ⟨RX8, "price", "(II)I"⟩
abbrev cX8_lap : ByteArray := prog_10_method_13_code
def yX8_lap : MethodName := ⟨RX8, "lap", "(I)I"⟩
abbrev cX8_ends : ByteArray := prog_10_method_14_code
def yX8_ends : MethodName := ⟨RX8, "ends", "(III)I"⟩
abbrev cX8_spansOf : ByteArray := prog_10_method_15_code
def yX8_spansOf : MethodName := ⟨RX8, "spansOf", "(I)I"⟩
abbrev cX8_ofCourse : ByteArray := prog_10_method_16_code
def yX8_ofCourse : MethodName := ⟨RX8, "ofCourse", "(II)I"⟩
abbrev cX8_begins : ByteArray := prog_10_method_17_code
def yX8_begins : MethodName := ⟨RX8, "begins", "(III)Z"⟩
abbrev cX8_lengthFrom : ByteArray := prog_10_method_18_code
def yX8_lengthFrom : MethodName := ⟨RX8, "lengthFrom", "(III)I"⟩
abbrev cX8_firstOf : ByteArray := prog_10_method_19_code
def yX8_firstOf : MethodName := ⟨RX8, "firstOf", "(III)I"⟩
abbrev cX8_isWithin : ByteArray := prog_10_method_20_code
def yX8_isWithin : MethodName := ⟨RX8, "isWithin", "(II)Z"⟩
abbrev cX8_isPriced : ByteArray := prog_10_method_21_code
def yX8_isPriced : MethodName := ⟨RX8, "isPriced", "(I)Z"⟩
abbrev cX8_areEnds : ByteArray := prog_10_method_22_code
def yX8_areEnds : MethodName := ⟨RX8, "areEnds", "(II)Z"⟩
abbrev cX8_breaks : ByteArray := prog_10_method_23_code
def yX8_breaks : MethodName := ⟨RX8, "breaks", "(IIII)Z"⟩
abbrev cX8_somePiece : ByteArray := prog_10_method_24_code
def yX8_somePiece : MethodName := ⟨RX8, "somePiece", "(III)Z"⟩
abbrev cX8_ruleOf : ByteArray := prog_10_method_25_code
def yX8_ruleOf : MethodName := ⟨RX8, "ruleOf", "(II)I"⟩
abbrev cX8_around : ByteArray := prog_10_method_26_code
def yX8_around : MethodName := ⟨RX8, "around", "(II)I"⟩
abbrev cX8_costOf : ByteArray := prog_10_method_27_code
def yX8_costOf : MethodName := ⟨RX8, "costOf", "(II)I"⟩
abbrev cX8_findRows : ByteArray := prog_10_method_28_code
def yX8_findRows : MethodName := ⟨RX8, "findRows", "(I)V"⟩
abbrev cX8_findAll : ByteArray := prog_10_method_29_code
def yX8_findAll : MethodName := ⟨RX8, "findAll", "(I)V"⟩
abbrev cX8_findFrom : ByteArray := prog_10_method_30_code
def yX8_findFrom : MethodName := ⟨RX8, "findFrom", "(III)V"⟩
abbrev cX8_row : ByteArray := prog_10_method_31_code
def yX8_row : MethodName := ⟨RX8, "row", "(II)I"⟩
abbrev cX8_walls : ByteArray := prog_10_method_32_code
def yX8_walls : MethodName := ⟨RX8, "walls", "()J"⟩
abbrev cX8_leastCost : ByteArray := prog_10_method_33_code
def yX8_leastCost : MethodName := ⟨RX8, "leastCost", "(I)I"⟩
abbrev cX8_hasBest : ByteArray := prog_10_method_34_code
def yX8_hasBest : MethodName := ⟨RX8, "hasBest", "()Z"⟩
abbrev cX8_best : ByteArray := prog_10_method_35_code
def yX8_best : MethodName := ⟨RX8, "best", "()I"⟩
abbrev cX8_bestRow : ByteArray := prog_10_method_36_code
def yX8_bestRow : MethodName := ⟨RX8, "bestRow", "(I)I"⟩
abbrev cX8_piecesIn : ByteArray := prog_10_method_37_code
def yX8_piecesIn : MethodName := ⟨RX8, "piecesIn", "(III)I"⟩
abbrev cX8_bestOf : ByteArray := prog_10_method_38_code
def yX8_bestOf : MethodName := ⟨RX8, "bestOf", "(I)I"⟩
abbrev cX8_reaches : ByteArray := prog_10_method_39_code
def yX8_reaches : MethodName := ⟨RX8, "reaches", "(I)Z"⟩
abbrev cX8_highest : ByteArray := prog_10_method_40_code
def yX8_highest : MethodName := ⟨RX8, "highest", "()I"⟩
abbrev cX8_byLap : ByteArray := prog_10_method_41_code
def yX8_byLap : MethodName := ⟨RX8, "byLap", "(I)I"⟩
abbrev cX8_lay : ByteArray := prog_10_method_42_code
def yX8_lay : MethodName := ⟨RX8, "lay", "(II)I"⟩
abbrev cX8_laidCost : ByteArray := prog_10_method_43_code
def yX8_laidCost : MethodName := ⟨RX8, "laidCost", "()I"⟩
abbrev cX8_layBest : ByteArray := prog_10_method_44_code
def yX8_layBest : MethodName := ⟨RX8, "layBest", "()I"⟩
abbrev cX8_laidRule : ByteArray := prog_10_method_45_code
def yX8_laidRule : MethodName := ⟨RX8, "laidRule", "(I)I"⟩
abbrev cX8_wrong : ByteArray := prog_10_method_46_code
def yX8_wrong : MethodName := ⟨RX8, "wrong", "(I)I"⟩
abbrev cX8_cost : ByteArray := prog_10_method_47_code
def yX8_cost : MethodName := ⟨RX8, "cost", "()I"⟩
abbrev cX8_laidPieces : ByteArray := prog_10_method_48_code
def yX8_laidPieces : MethodName := ⟨RX8, "laidPieces", "(I)I"⟩
abbrev cX8_pieces : ByteArray := prog_10_method_49_code
def yX8_pieces : MethodName := ⟨RX8, "pieces", "(I)I"⟩
abbrev cX8_piece : ByteArray := prog_10_method_50_code
def yX8_piece : MethodName := ⟨RX8, "piece", "(II)I"⟩
abbrev cX8_cut : ByteArray := prog_10_method_51_code
def yX8_cut : MethodName := ⟨RX8, "cut", "()I"⟩
abbrev cX8_many : ByteArray := prog_10_method_52_code
def yX8_many : MethodName := ⟨RX8, "many", "(I)I"⟩
abbrev cX8_sumOf : ByteArray := prog_10_method_53_code
def yX8_sumOf : MethodName := ⟨RX8, "sumOf", "([I)I"⟩
abbrev cX8_allPieces : ByteArray := prog_10_method_54_code
def yX8_allPieces : MethodName := ⟨RX8, "allPieces", "()I"⟩
def RJx8e188 : String := "java/lang/Cloneable"
def TJx8e188 : u_T := fun k => match k with
  | _ => ("", "", "", false)
def tyJx8e188 : Nat → FieldType := fun k => match k with
  | _ => .int
theorem nmJx8e188 : ∀ a, a < 0 → ∀ b, b < 0 → a ≠ b → (TJx8e188 a).2.1 ≠ (TJx8e188 b).2.1 := by decide +kernel
theorem tyJx8e188_ok : ∀ k, k < 0 → parseFieldDescriptor (TJx8e188 k).2.2.1 = some (tyJx8e188 k) := by decide +kernel
def RJ6 : String := "java/lang/Integer"
def TJ6 : u_T := fun k => match k with
  | _ => ("", "", "", false)
def tyJ6 : Nat → FieldType := fun k => match k with
  | _ => .int
abbrev wsJ60 : List Cond := u_ws RJ6 TJ6 0
theorem nmJ6 : ∀ a, a < 0 → ∀ b, b < 0 → a ≠ b → (TJ6 a).2.1 ≠ (TJ6 b).2.1 := by decide +kernel
theorem tyJ6_ok : ∀ k, k < 0 → parseFieldDescriptor (TJ6 k).2.2.1 = some (tyJ6 k) := by decide +kernel
abbrev cJ6_bitCount_0f7a4 : ByteArray := prog_12_method_49_code
def yJ6_bitCount_0f7a4 : MethodName := ⟨RJ6, "bitCount", "(I)I"⟩
def RJ9 : String := "java/lang/Math"
def TJ9 : u_T := fun k => match k with
  | _ => ("", "", "", false)
def tyJ9 : Nat → FieldType := fun k => match k with
  | _ => .int
abbrev wsJ90 : List Cond := u_ws RJ9 TJ9 0
theorem nmJ9 : ∀ a, a < 0 → ∀ b, b < 0 → a ≠ b → (TJ9 a).2.1 ≠ (TJ9 b).2.1 := by decide +kernel
theorem tyJ9_ok : ∀ k, k < 0 → parseFieldDescriptor (TJ9 k).2.2.1 = some (tyJ9 k) := by decide +kernel
abbrev cJ9_max_7cf53 : ByteArray := prog_13_method_65_code
def yJ9_max_7cf53 : MethodName := ⟨RJ9, "max", "(II)I"⟩
abbrev cJ9_min_7cf53 : ByteArray := prog_13_method_69_code
def yJ9_min_7cf53 : MethodName := ⟨RJ9, "min", "(II)I"⟩
def RJ10 : String := "java/lang/System"
def TJ10 : u_T := fun k => match k with
  | _ => ("", "", "", false)
def tyJ10 : Nat → FieldType := fun k => match k with
  | _ => .int
abbrev wsJ100 : List Cond := u_ws RJ10 TJ10 0
theorem nmJ10 : ∀ a, a < 0 → ∀ b, b < 0 → a ≠ b → (TJ10 a).2.1 ≠ (TJ10 b).2.1 := by decide +kernel
theorem tyJ10_ok : ∀ k, k < 0 → parseFieldDescriptor (TJ10 k).2.2.1 = some (tyJ10 k) := by decide +kernel
def RJ7 : String := "java/util/Arrays"
def TJ7 : u_T := fun k => match k with
  | _ => ("", "", "", false)
def tyJ7 : Nat → FieldType := fun k => match k with
  | _ => .int
abbrev wsJ70 : List Cond := u_ws RJ7 TJ7 0
theorem nmJ7 : ∀ a, a < 0 → ∀ b, b < 0 → a ≠ b → (TJ7 a).2.1 ≠ (TJ7 b).2.1 := by decide +kernel
theorem tyJ7_ok : ∀ k, k < 0 → parseFieldDescriptor (TJ7 k).2.2.1 = some (tyJ7 k) := by decide +kernel
abbrev cJ7_fill_d0a16 : ByteArray := prog_15_method_101_code
def yJ7_fill_d0a16 : MethodName := ⟨RJ7, "fill", "([JJ)V"⟩
abbrev cJ7_fill_53178 : ByteArray := prog_15_method_103_code
def yJ7_fill_53178 : MethodName := ⟨RJ7, "fill", "([II)V"⟩
def RL : String := "BondedWallLaw"
abbrev cL_law : ByteArray := code
def yL_law : MethodName := ⟨RL, "law", "([I)Z"⟩
end
section
def lw_tb : List Cond := lw_tbl.filter goodWord
theorem tb_all : ∀ w ∈ lw_tb, w ∈ lw_tbl := fun w h => (List.mem_filter.mp h).1
theorem tb_in {w : Cond} (k : Nat) (h : (match lw_tbl[k]? with | some v => decide (v = w) && goodWord v | none => false) = true) : w ∈ lw_tb := by
  cases hk : lw_tbl[k]? with
  | none => rw [hk] at h; cases h
  | some v =>
    rw [hk] at h
    simp only [Bool.and_eq_true, decide_eq_true_eq] at h
    obtain ⟨rfl, h2⟩ := h
    exact List.mem_filter.mpr ⟨List.mem_of_getElem? hk, h2⟩
theorem tw_0 : Cond.selects RX7 yX7_forgetWhatCanBe yX7_forgetWhatCanBe ∈ lw_tb := tb_in 0 (by decide +kernel)
theorem tw_1 : Cond.selects RX7 yX7_spansOf yX7_spansOf ∈ lw_tb := tb_in 1 (by decide +kernel)
theorem tw_2 : Cond.selects RX6 yX6_bounds yX6_bounds ∈ lw_tb := tb_in 2 (by decide +kernel)
theorem tw_3 : Cond.selects RX4 yX4_sumLeftOfHighest yX4_sumLeftOfHighest ∈ lw_tb := tb_in 3 (by decide +kernel)
theorem tw_4 : Cond.selects RX6 yX6_ruleBrokenByPiece yX6_ruleBrokenByPiece ∈ lw_tb := tb_in 4 (by decide +kernel)
theorem tw_5 : Cond.selects RX4 yX4_closeRight yX4_closeRight ∈ lw_tb := tb_in 5 (by decide +kernel)
theorem tw_6 : Cond.selects RX1 yX1_addCourse yX1_addCourse ∈ lw_tb := tb_in 6 (by decide +kernel)
theorem tw_7 : Cond.selects RX1 yX1_sumSubsets yX1_sumSubsets ∈ lw_tb := tb_in 7 (by decide +kernel)
theorem tw_8 : Cond.selects RX3 yX3_weighCourse yX3_weighCourse ∈ lw_tb := tb_in 8 (by decide +kernel)
theorem tw_9 : Cond.selects RX3 yX3_takeLeastOfSubsets yX3_takeLeastOfSubsets ∈ lw_tb := tb_in 9 (by decide +kernel)
theorem tw_10 : Cond.selects RX3 yX3_choose yX3_choose ∈ lw_tb := tb_in 10 (by decide +kernel)
theorem tw_11 : Cond.selects RX3 yX3_cheapest yX3_cheapest ∈ lw_tb := tb_in 11 (by decide +kernel)
theorem tw_12 : Cond.selects RX6 yX6_ruleBrokenByPieces yX6_ruleBrokenByPieces ∈ lw_tb := tb_in 12 (by decide +kernel)
theorem tw_13 : Cond.selects RX7 yX7_tallyLaid yX7_tallyLaid ∈ lw_tb := tb_in 13 (by decide +kernel)
theorem tw_14 : Cond.selects RX7 yX7_openCells yX7_openCells ∈ lw_tb := tb_in 14 (by decide +kernel)
theorem tw_15 : Cond.selects RX7 yX7_laidJoints yX7_laidJoints ∈ lw_tb := tb_in 15 (by decide +kernel)
theorem tw_16 : Cond.selects RX8 yX8_isCourse yX8_isCourse ∈ lw_tb := tb_in 16 (by decide +kernel)
theorem tw_17 : Cond.selects RX8 yX8_arePlaces yX8_arePlaces ∈ lw_tb := tb_in 17 (by decide +kernel)
theorem tw_18 : Cond.selects RX8 yX8_spansOf yX8_spansOf ∈ lw_tb := tb_in 18 (by decide +kernel)
theorem tw_19 : Cond.selects RX8 yX8_findRows yX8_findRows ∈ lw_tb := tb_in 19 (by decide +kernel)
theorem tw_20 : Cond.selects RX8 yX8_ruleOf yX8_ruleOf ∈ lw_tb := tb_in 20 (by decide +kernel)
theorem tw_21 : Cond.selects RX8 yX8_isWithin yX8_isWithin ∈ lw_tb := tb_in 21 (by decide +kernel)
theorem tw_22 : Cond.selects RX8 yX8_somePiece yX8_somePiece ∈ lw_tb := tb_in 22 (by decide +kernel)
theorem tw_23 : Cond.selects RX8 yX8_begins yX8_begins ∈ lw_tb := tb_in 23 (by decide +kernel)
theorem tw_24 : Cond.selects RX8 yX8_lengthFrom yX8_lengthFrom ∈ lw_tb := tb_in 24 (by decide +kernel)
theorem tw_25 : Cond.selects RX8 yX8_breaks yX8_breaks ∈ lw_tb := tb_in 25 (by decide +kernel)
theorem tw_26 : Cond.selects RX8 yX8_isPriced yX8_isPriced ∈ lw_tb := tb_in 26 (by decide +kernel)
theorem tw_27 : Cond.selects RX8 yX8_areEnds yX8_areEnds ∈ lw_tb := tb_in 27 (by decide +kernel)
theorem tw_28 : Cond.selects RX8 yX8_firstOf yX8_firstOf ∈ lw_tb := tb_in 28 (by decide +kernel)
theorem tw_29 : Cond.selects RX8 yX8_findAll yX8_findAll ∈ lw_tb := tb_in 29 (by decide +kernel)
theorem tw_30 : Cond.selects RX8 yX8_findFrom yX8_findFrom ∈ lw_tb := tb_in 30 (by decide +kernel)
theorem tw_31 : Cond.selects RX8 yX8_costOf yX8_costOf ∈ lw_tb := tb_in 31 (by decide +kernel)
theorem tw_32 : Cond.selects RX8 yX8_leastCost yX8_leastCost ∈ lw_tb := tb_in 32 (by decide +kernel)
theorem tw_33 : Cond.selects RX8 yX8_hasBest yX8_hasBest ∈ lw_tb := tb_in 33 (by decide +kernel)
theorem tw_34 : Cond.selects RX8 yX8_piecesIn yX8_piecesIn ∈ lw_tb := tb_in 34 (by decide +kernel)
theorem tw_35 : Cond.selects RX8 yX8_reaches yX8_reaches ∈ lw_tb := tb_in 35 (by decide +kernel)
theorem tw_36 : Cond.selects RX8 yX8_laidCost yX8_laidCost ∈ lw_tb := tb_in 36 (by decide +kernel)
theorem tw_37 : Cond.selects RX8 yX8_laidRule yX8_laidRule ∈ lw_tb := tb_in 37 (by decide +kernel)
theorem tw_38 : Cond.selects RX8 yX8_laidPieces yX8_laidPieces ∈ lw_tb := tb_in 38 (by decide +kernel)
theorem tw_39 : Cond.selects RX8 yX8_sumOf yX8_sumOf ∈ lw_tb := tb_in 39 (by decide +kernel)
theorem tw_40 : Cond.selects RX8 yX8_allPieces yX8_allPieces ∈ lw_tb := tb_in 40 (by decide +kernel)
theorem tw_41 : Cond.initialized RL ∈ lw_tb := tb_in 41 (by decide +kernel)
theorem tw_42 : Cond.initialized RX7 ∈ lw_tb := tb_in 42 (by decide +kernel)
theorem tw_43 : Cond.initialized RX6 ∈ lw_tb := tb_in 43 (by decide +kernel)
theorem tw_44 : Cond.initialized RX0 ∈ lw_tb := tb_in 44 (by decide +kernel)
theorem tw_45 : Cond.initialized RX2 ∈ lw_tb := tb_in 45 (by decide +kernel)
theorem tw_46 : Cond.initialized RX4 ∈ lw_tb := tb_in 46 (by decide +kernel)
theorem tw_47 : Cond.initialized RX1 ∈ lw_tb := tb_in 47 (by decide +kernel)
theorem tw_48 : Cond.initialized RX3 ∈ lw_tb := tb_in 48 (by decide +kernel)
theorem tw_49 : Cond.initialized RX5 ∈ lw_tb := tb_in 49 (by decide +kernel)
theorem tw_50 : Cond.initialized RX8 ∈ lw_tb := tb_in 50 (by decide +kernel)
theorem tw_51 : Cond.initialized RJ7 ∈ lw_tb := tb_in 51 (by decide +kernel)
theorem tw_52 : Cond.initialized RJ9 ∈ lw_tb := tb_in 52 (by decide +kernel)
theorem tw_53 : Cond.initialized RJ10 ∈ lw_tb := tb_in 53 (by decide +kernel)
theorem tw_54 : Cond.initialized RJ6 ∈ lw_tb := tb_in 54 (by decide +kernel)
theorem tw_55 : Cond.classLink RL 7 RX7 ∈ lw_tb := tb_in 55 (by decide +kernel)
theorem tw_56 : Cond.instantiable RX7 5 ∈ lw_tb := tb_in 56 (by decide +kernel)
theorem tw_57 : Cond.methodLink RL 9 yX7_init ∈ lw_tb := tb_in 57 (by decide +kernel)
theorem tw_58 : Cond.instanceMethod yX7_init ∈ lw_tb := tb_in 58 (by decide +kernel)
theorem tw_59 : Cond.code yX7_init cX7_init 1 none ∈ lw_tb := tb_in 59 (by decide +kernel)
theorem tw_60 : Cond.methodLink RX7 3 objectInit ∈ lw_tb := tb_in 60 (by decide +kernel)
theorem tw_61 : Cond.instanceMethod objectInit ∈ lw_tb := tb_in 61 (by decide +kernel)
theorem tw_62 : Cond.code objectInit ⟨#[0xb1]⟩ 1 none ∈ lw_tb := tb_in 62 (by decide +kernel)
theorem tw_63 : Cond.classLink RX7 9 RX6 ∈ lw_tb := tb_in 63 (by decide +kernel)
theorem tw_64 : Cond.instantiable RX6 6 ∈ lw_tb := tb_in 64 (by decide +kernel)
theorem tw_65 : Cond.methodLink RX7 11 yX6_init ∈ lw_tb := tb_in 65 (by decide +kernel)
theorem tw_66 : Cond.instanceMethod yX6_init ∈ lw_tb := tb_in 66 (by decide +kernel)
theorem tw_67 : Cond.code yX6_init cX6_init 2 none ∈ lw_tb := tb_in 67 (by decide +kernel)
theorem tw_68 : Cond.methodLink RX6 3 objectInit ∈ lw_tb := tb_in 68 (by decide +kernel)
theorem tw_69 : Cond.classLink RX6 9 RX0 ∈ lw_tb := tb_in 69 (by decide +kernel)
theorem tw_70 : Cond.instantiable RX0 2 ∈ lw_tb := tb_in 70 (by decide +kernel)
theorem tn_71 : Cond.methodLinkNest RX6 11 yX0_init "BondedWall" ∈ lw_tbl := List.mem_of_getElem? (i := 71) (by decide +kernel)
theorem tw_72 : Cond.instanceMethod yX0_init ∈ lw_tb := tb_in 72 (by decide +kernel)
theorem tw_73 : Cond.code yX0_init cX0_init 1 none ∈ lw_tb := tb_in 73 (by decide +kernel)
theorem tw_74 : Cond.methodLink RX0 3 objectInit ∈ lw_tb := tb_in 74 (by decide +kernel)
theorem tn_75 : Cond.fieldLinkNest RX0 9 "BondedWall" "FIRST_PRICES" "[I" "BondedWall" ∈ lw_tbl := List.mem_of_getElem? (i := 75) (by decide +kernel)
theorem tn_76 : Cond.laysStatic "BondedWall" "FIRST_PRICES" "[I" ∈ lw_tbl := List.mem_of_getElem? (i := 76) (by decide +kernel)
theorem tw_77 : Cond.methodLink RX0 13 ⟨"[I", "clone", "()Ljava/lang/Object;"⟩ ∈ lw_tb := tb_in 77 (by decide +kernel)
theorem tw_78 : Cond.sameMethod "[I" "java/lang/Object" "clone" "()Ljava/lang/Object;" ∈ lw_tb := tb_in 78 (by decide +kernel)
theorem tw_79 : Cond.native ⟨"java/lang/Object", "clone", "()Ljava/lang/Object;"⟩ ∈ lw_tb := tb_in 79 (by decide +kernel)
theorem tw_80 : Cond.instanceMethod ⟨"java/lang/Object", "clone", "()Ljava/lang/Object;"⟩ ∈ lw_tb := tb_in 80 (by decide +kernel)
theorem tw_81 : Cond.selects "[I" ⟨"[I", "clone", "()Ljava/lang/Object;"⟩ ⟨"java/lang/Object", "clone", "()Ljava/lang/Object;"⟩ ∈ lw_tb := tb_in 81 (by decide +kernel)
theorem tn_82 : Cond.castable "[I" "java/lang/Cloneable" ∈ lw_tbl := List.mem_of_getElem? (i := 82) (by decide +kernel)
theorem tw_83 : Cond.classLink RX0 14 "[I" ∈ lw_tb := tb_in 83 (by decide +kernel)
theorem tn_84 : Cond.arrayOver (.array .int) ∈ lw_tbl := List.mem_of_getElem? (i := 84) (by decide +kernel)
theorem tw_85 : Cond.fieldLink RX0 18 "BondedWall$Bricks" "prices" "[I" ∈ lw_tb := tb_in 85 (by decide +kernel)
theorem tw_86 : Cond.fieldLink RX7 99 "BondedWall$Bricks" "prices" "[I" ∈ lw_tb := tb_in 86 (by decide +kernel)
theorem tw_87 : Cond.fieldLink RX0 23 "BondedWall$Bricks" "endLengths" "[[I" ∈ lw_tb := tb_in 87 (by decide +kernel)
theorem tw_88 : Cond.fieldLink RX7 106 "BondedWall$Bricks" "endLengths" "[[I" ∈ lw_tb := tb_in 88 (by decide +kernel)
theorem tw_89 : Cond.laysFinal "BondedWall$Bricks" "BondedWall$Bricks" "prices" "[I" ∈ lw_tb := tb_in 89 (by decide +kernel)
theorem tw_90 : Cond.soleField "BondedWall$Bricks" "prices" ∈ lw_tb := tb_in 90 (by decide +kernel)
theorem tw_91 : Cond.laysFinal "BondedWall$Bricks" "BondedWall$Bricks" "endLengths" "[[I" ∈ lw_tb := tb_in 91 (by decide +kernel)
theorem tw_92 : Cond.soleField "BondedWall$Bricks" "endLengths" ∈ lw_tb := tb_in 92 (by decide +kernel)
theorem tw_93 : Cond.superclass "BondedWall$Bricks" "java/lang/Object" ∈ lw_tb := tb_in 93 (by decide +kernel)
theorem tw_94 : Cond.arrayClass .int ∈ lw_tb := tb_in 94 (by decide +kernel)
theorem tw_95 : Cond.classLink RX6 18 RX2 ∈ lw_tb := tb_in 95 (by decide +kernel)
theorem tn_96 : Cond.arrayOver (.object "BondedWall$Course") ∈ lw_tbl := List.mem_of_getElem? (i := 96) (by decide +kernel)
theorem tw_97 : Cond.instantiable RX2 4 ∈ lw_tb := tb_in 97 (by decide +kernel)
theorem tn_98 : Cond.methodLinkNest RX6 24 yX2_init "BondedWall" ∈ lw_tbl := List.mem_of_getElem? (i := 98) (by decide +kernel)
theorem tw_99 : Cond.instanceMethod yX2_init ∈ lw_tb := tb_in 99 (by decide +kernel)
theorem tw_100 : Cond.code yX2_init cX2_init 1 none ∈ lw_tb := tb_in 100 (by decide +kernel)
theorem tw_101 : Cond.methodLink RX2 1 objectInit ∈ lw_tb := tb_in 101 (by decide +kernel)
theorem tw_102 : Cond.fieldLink RX2 7 "BondedWall$Course" "opened" "I" ∈ lw_tb := tb_in 102 (by decide +kernel)
theorem tw_103 : Cond.fieldLink RX7 77 "BondedWall$Course" "opened" "I" ∈ lw_tb := tb_in 103 (by decide +kernel)
theorem tw_104 : Cond.fieldLink RX6 97 "BondedWall$Course" "opened" "I" ∈ lw_tb := tb_in 104 (by decide +kernel)
theorem tw_105 : Cond.fieldLink RX2 13 "BondedWall$Course" "demanded" "I" ∈ lw_tb := tb_in 105 (by decide +kernel)
theorem tw_106 : Cond.fieldLink RX7 83 "BondedWall$Course" "demanded" "I" ∈ lw_tb := tb_in 106 (by decide +kernel)
theorem tw_107 : Cond.fieldLink RX2 16 "BondedWall$Course" "barred" "I" ∈ lw_tb := tb_in 107 (by decide +kernel)
theorem tw_108 : Cond.fieldLink RX7 86 "BondedWall$Course" "barred" "I" ∈ lw_tb := tb_in 108 (by decide +kernel)
theorem tw_109 : Cond.fieldLink RX2 19 "BondedWall$Course" "laid" "I" ∈ lw_tb := tb_in 109 (by decide +kernel)
theorem tw_110 : Cond.fieldLink RX6 66 "BondedWall$Course" "laid" "I" ∈ lw_tb := tb_in 110 (by decide +kernel)
theorem tw_111 : Cond.fieldLink RX7 114 "BondedWall$Course" "laid" "I" ∈ lw_tb := tb_in 111 (by decide +kernel)
theorem tw_112 : Cond.lays "BondedWall$Course" "BondedWall$Course" "opened" "I" ∈ lw_tb := tb_in 112 (by decide +kernel)
theorem tw_113 : Cond.soleField "BondedWall$Course" "opened" ∈ lw_tb := tb_in 113 (by decide +kernel)
theorem tw_114 : Cond.lays "BondedWall$Course" "BondedWall$Course" "demanded" "I" ∈ lw_tb := tb_in 114 (by decide +kernel)
theorem tw_115 : Cond.soleField "BondedWall$Course" "demanded" ∈ lw_tb := tb_in 115 (by decide +kernel)
theorem tw_116 : Cond.lays "BondedWall$Course" "BondedWall$Course" "barred" "I" ∈ lw_tb := tb_in 116 (by decide +kernel)
theorem tw_117 : Cond.soleField "BondedWall$Course" "barred" ∈ lw_tb := tb_in 117 (by decide +kernel)
theorem tw_118 : Cond.lays "BondedWall$Course" "BondedWall$Course" "laid" "I" ∈ lw_tb := tb_in 118 (by decide +kernel)
theorem tw_119 : Cond.soleField "BondedWall$Course" "laid" ∈ lw_tb := tb_in 119 (by decide +kernel)
theorem tw_120 : Cond.superclass "BondedWall$Course" "java/lang/Object" ∈ lw_tb := tb_in 120 (by decide +kernel)
theorem tw_121 : Cond.fieldLink RX6 12 "BondedWall$Wall" "bricks" "LBondedWall$Bricks;" ∈ lw_tb := tb_in 121 (by decide +kernel)
theorem tw_122 : Cond.fieldLink RX7 89 "BondedWall$Wall" "bricks" "LBondedWall$Bricks;" ∈ lw_tb := tb_in 122 (by decide +kernel)
theorem tw_123 : Cond.fieldLink RX6 20 "BondedWall$Wall" "courses" "[LBondedWall$Course;" ∈ lw_tb := tb_in 123 (by decide +kernel)
theorem tw_124 : Cond.fieldLink RX6 25 "BondedWall$Wall" "ground" "LBondedWall$Course;" ∈ lw_tb := tb_in 124 (by decide +kernel)
theorem tw_125 : Cond.fieldLink RX6 29 "BondedWall$Wall" "cellsWide" "I" ∈ lw_tb := tb_in 125 (by decide +kernel)
theorem tw_126 : Cond.fieldLink RX7 50 "BondedWall$Wall" "cellsWide" "I" ∈ lw_tb := tb_in 126 (by decide +kernel)
theorem tw_127 : Cond.fieldLink RX4 37 "BondedWall$Wall" "cellsWide" "I" ∈ lw_tb := tb_in 127 (by decide +kernel)
theorem tw_128 : Cond.fieldLink RX6 33 "BondedWall$Wall" "height" "I" ∈ lw_tb := tb_in 128 (by decide +kernel)
theorem tw_129 : Cond.fieldLink RX7 54 "BondedWall$Wall" "height" "I" ∈ lw_tb := tb_in 129 (by decide +kernel)
theorem tw_130 : Cond.fieldLink RX4 24 "BondedWall$Wall" "height" "I" ∈ lw_tb := tb_in 130 (by decide +kernel)
theorem tw_131 : Cond.fieldLink RX1 48 "BondedWall$Wall" "height" "I" ∈ lw_tb := tb_in 131 (by decide +kernel)
theorem tw_132 : Cond.fieldLink RX3 50 "BondedWall$Wall" "height" "I" ∈ lw_tb := tb_in 132 (by decide +kernel)
theorem tw_133 : Cond.fieldLink RX6 36 "BondedWall$Wall" "overlap" "I" ∈ lw_tb := tb_in 133 (by decide +kernel)
theorem tw_134 : Cond.fieldLink RX7 103 "BondedWall$Wall" "overlap" "I" ∈ lw_tb := tb_in 134 (by decide +kernel)
theorem tw_135 : Cond.laysFinal "BondedWall$Wall" "BondedWall$Wall" "bricks" "LBondedWall$Bricks;" ∈ lw_tb := tb_in 135 (by decide +kernel)
theorem tw_136 : Cond.soleField "BondedWall$Wall" "bricks" ∈ lw_tb := tb_in 136 (by decide +kernel)
theorem tw_137 : Cond.laysFinal "BondedWall$Wall" "BondedWall$Wall" "courses" "[LBondedWall$Course;" ∈ lw_tb := tb_in 137 (by decide +kernel)
theorem tw_138 : Cond.soleField "BondedWall$Wall" "courses" ∈ lw_tb := tb_in 138 (by decide +kernel)
theorem tw_139 : Cond.laysFinal "BondedWall$Wall" "BondedWall$Wall" "ground" "LBondedWall$Course;" ∈ lw_tb := tb_in 139 (by decide +kernel)
theorem tw_140 : Cond.soleField "BondedWall$Wall" "ground" ∈ lw_tb := tb_in 140 (by decide +kernel)
theorem tw_141 : Cond.lays "BondedWall$Wall" "BondedWall$Wall" "cellsWide" "I" ∈ lw_tb := tb_in 141 (by decide +kernel)
theorem tw_142 : Cond.soleField "BondedWall$Wall" "cellsWide" ∈ lw_tb := tb_in 142 (by decide +kernel)
theorem tw_143 : Cond.lays "BondedWall$Wall" "BondedWall$Wall" "height" "I" ∈ lw_tb := tb_in 143 (by decide +kernel)
theorem tw_144 : Cond.soleField "BondedWall$Wall" "height" ∈ lw_tb := tb_in 144 (by decide +kernel)
theorem tw_145 : Cond.lays "BondedWall$Wall" "BondedWall$Wall" "overlap" "I" ∈ lw_tb := tb_in 145 (by decide +kernel)
theorem tw_146 : Cond.soleField "BondedWall$Wall" "overlap" ∈ lw_tb := tb_in 146 (by decide +kernel)
theorem tw_147 : Cond.superclass "BondedWall$Wall" "java/lang/Object" ∈ lw_tb := tb_in 147 (by decide +kernel)
theorem tw_148 : Cond.classLink RX7 18 RX4 ∈ lw_tb := tb_in 148 (by decide +kernel)
theorem tw_149 : Cond.instantiable RX4 3 ∈ lw_tb := tb_in 149 (by decide +kernel)
theorem tw_150 : Cond.methodLink RX7 20 yX4_init ∈ lw_tb := tb_in 150 (by decide +kernel)
theorem tw_151 : Cond.instanceMethod yX4_init ∈ lw_tb := tb_in 151 (by decide +kernel)
theorem tw_152 : Cond.code yX4_init cX4_init 2 none ∈ lw_tb := tb_in 152 (by decide +kernel)
theorem tw_153 : Cond.methodLink RX4 3 objectInit ∈ lw_tb := tb_in 153 (by decide +kernel)
theorem tw_154 : Cond.classLink RX4 9 "[[I" ∈ lw_tb := tb_in 154 (by decide +kernel)
theorem tw_155 : Cond.fieldLink RX4 20 "BondedWall$Rows" "wall" "LBondedWall$Wall;" ∈ lw_tb := tb_in 155 (by decide +kernel)
theorem tw_156 : Cond.fieldLink RX4 11 "BondedWall$Rows" "costs" "[[I" ∈ lw_tb := tb_in 156 (by decide +kernel)
theorem tw_157 : Cond.fieldLink RX4 16 "BondedWall$Rows" "fresh" "Z" ∈ lw_tb := tb_in 157 (by decide +kernel)
theorem tw_158 : Cond.laysFinal "BondedWall$Rows" "BondedWall$Rows" "wall" "LBondedWall$Wall;" ∈ lw_tb := tb_in 158 (by decide +kernel)
theorem tw_159 : Cond.soleField "BondedWall$Rows" "wall" ∈ lw_tb := tb_in 159 (by decide +kernel)
theorem tw_160 : Cond.laysFinal "BondedWall$Rows" "BondedWall$Rows" "costs" "[[I" ∈ lw_tb := tb_in 160 (by decide +kernel)
theorem tw_161 : Cond.soleField "BondedWall$Rows" "costs" ∈ lw_tb := tb_in 161 (by decide +kernel)
theorem tw_162 : Cond.lays "BondedWall$Rows" "BondedWall$Rows" "fresh" "Z" ∈ lw_tb := tb_in 162 (by decide +kernel)
theorem tw_163 : Cond.soleField "BondedWall$Rows" "fresh" ∈ lw_tb := tb_in 163 (by decide +kernel)
theorem tw_164 : Cond.superclass "BondedWall$Rows" "java/lang/Object" ∈ lw_tb := tb_in 164 (by decide +kernel)
theorem tw_165 : Cond.classLink RX7 27 RX1 ∈ lw_tb := tb_in 165 (by decide +kernel)
theorem tw_166 : Cond.instantiable RX1 7 ∈ lw_tb := tb_in 166 (by decide +kernel)
theorem tw_167 : Cond.methodLink RX7 29 yX1_init ∈ lw_tb := tb_in 167 (by decide +kernel)
theorem tw_168 : Cond.instanceMethod yX1_init ∈ lw_tb := tb_in 168 (by decide +kernel)
theorem tw_169 : Cond.code yX1_init cX1_init 3 none ∈ lw_tb := tb_in 169 (by decide +kernel)
theorem tw_170 : Cond.methodLink RX1 3 objectInit ∈ lw_tb := tb_in 170 (by decide +kernel)
theorem tw_171 : Cond.fieldLink RX1 29 "BondedWall$Count" "wall" "LBondedWall$Wall;" ∈ lw_tb := tb_in 171 (by decide +kernel)
theorem tw_172 : Cond.fieldLink RX1 33 "BondedWall$Count" "rows" "LBondedWall$Rows;" ∈ lw_tb := tb_in 172 (by decide +kernel)
theorem tw_173 : Cond.fieldLink RX1 9 "BondedWall$Count" "within" "[J" ∈ lw_tb := tb_in 173 (by decide +kernel)
theorem tw_174 : Cond.fieldLink RX1 15 "BondedWall$Count" "just" "[J" ∈ lw_tb := tb_in 174 (by decide +kernel)
theorem tw_175 : Cond.fieldLink RX1 18 "BondedWall$Count" "countedLap" "I" ∈ lw_tb := tb_in 175 (by decide +kernel)
theorem tw_176 : Cond.fieldLink RX1 22 "BondedWall$Count" "rightWalls" "J" ∈ lw_tb := tb_in 176 (by decide +kernel)
theorem tw_177 : Cond.fieldLink RX7 130 "BondedWall$Count" "rightWalls" "J" ∈ lw_tb := tb_in 177 (by decide +kernel)
theorem tw_178 : Cond.fieldLink RX1 26 "BondedWall$Count" "rightCourses" "I" ∈ lw_tb := tb_in 178 (by decide +kernel)
theorem tw_179 : Cond.fieldLink RX7 152 "BondedWall$Count" "rightCourses" "I" ∈ lw_tb := tb_in 179 (by decide +kernel)
theorem tw_180 : Cond.laysFinal "BondedWall$Count" "BondedWall$Count" "wall" "LBondedWall$Wall;" ∈ lw_tb := tb_in 180 (by decide +kernel)
theorem tw_181 : Cond.soleField "BondedWall$Count" "wall" ∈ lw_tb := tb_in 181 (by decide +kernel)
theorem tw_182 : Cond.laysFinal "BondedWall$Count" "BondedWall$Count" "rows" "LBondedWall$Rows;" ∈ lw_tb := tb_in 182 (by decide +kernel)
theorem tw_183 : Cond.soleField "BondedWall$Count" "rows" ∈ lw_tb := tb_in 183 (by decide +kernel)
theorem tw_184 : Cond.laysFinal "BondedWall$Count" "BondedWall$Count" "within" "[J" ∈ lw_tb := tb_in 184 (by decide +kernel)
theorem tw_185 : Cond.soleField "BondedWall$Count" "within" ∈ lw_tb := tb_in 185 (by decide +kernel)
theorem tw_186 : Cond.laysFinal "BondedWall$Count" "BondedWall$Count" "just" "[J" ∈ lw_tb := tb_in 186 (by decide +kernel)
theorem tw_187 : Cond.soleField "BondedWall$Count" "just" ∈ lw_tb := tb_in 187 (by decide +kernel)
theorem tw_188 : Cond.lays "BondedWall$Count" "BondedWall$Count" "countedLap" "I" ∈ lw_tb := tb_in 188 (by decide +kernel)
theorem tw_189 : Cond.soleField "BondedWall$Count" "countedLap" ∈ lw_tb := tb_in 189 (by decide +kernel)
theorem tw_190 : Cond.lays "BondedWall$Count" "BondedWall$Count" "rightWalls" "J" ∈ lw_tb := tb_in 190 (by decide +kernel)
theorem tw_191 : Cond.soleField "BondedWall$Count" "rightWalls" ∈ lw_tb := tb_in 191 (by decide +kernel)
theorem tw_192 : Cond.lays "BondedWall$Count" "BondedWall$Count" "rightCourses" "I" ∈ lw_tb := tb_in 192 (by decide +kernel)
theorem tw_193 : Cond.soleField "BondedWall$Count" "rightCourses" ∈ lw_tb := tb_in 193 (by decide +kernel)
theorem tw_194 : Cond.superclass "BondedWall$Count" "java/lang/Object" ∈ lw_tb := tb_in 194 (by decide +kernel)
theorem tw_195 : Cond.arrayClass .long ∈ lw_tb := tb_in 195 (by decide +kernel)
theorem tw_196 : Cond.classLink RX7 36 RX3 ∈ lw_tb := tb_in 196 (by decide +kernel)
theorem tw_197 : Cond.instantiable RX3 7 ∈ lw_tb := tb_in 197 (by decide +kernel)
theorem tw_198 : Cond.methodLink RX7 38 yX3_init ∈ lw_tb := tb_in 198 (by decide +kernel)
theorem tw_199 : Cond.instanceMethod yX3_init ∈ lw_tb := tb_in 199 (by decide +kernel)
theorem tw_200 : Cond.code yX3_init cX3_init 3 none ∈ lw_tb := tb_in 200 (by decide +kernel)
theorem tw_201 : Cond.methodLink RX3 3 objectInit ∈ lw_tb := tb_in 201 (by decide +kernel)
theorem tw_202 : Cond.classLink RX3 9 "[[I" ∈ lw_tb := tb_in 202 (by decide +kernel)
theorem tw_203 : Cond.fieldLink RX3 30 "BondedWall$Plan" "wall" "LBondedWall$Wall;" ∈ lw_tb := tb_in 203 (by decide +kernel)
theorem tw_204 : Cond.fieldLink RX3 34 "BondedWall$Plan" "rows" "LBondedWall$Rows;" ∈ lw_tb := tb_in 204 (by decide +kernel)
theorem tw_205 : Cond.fieldLink RX3 11 "BondedWall$Plan" "just" "[[I" ∈ lw_tb := tb_in 205 (by decide +kernel)
theorem tw_206 : Cond.fieldLink RX3 16 "BondedWall$Plan" "within" "[I" ∈ lw_tb := tb_in 206 (by decide +kernel)
theorem tw_207 : Cond.fieldLink RX3 20 "BondedWall$Plan" "chosen" "[I" ∈ lw_tb := tb_in 207 (by decide +kernel)
theorem tw_208 : Cond.fieldLink RX3 23 "BondedWall$Plan" "plannedLap" "I" ∈ lw_tb := tb_in 208 (by decide +kernel)
theorem tw_209 : Cond.fieldLink RX3 27 "BondedWall$Plan" "leastCost" "I" ∈ lw_tb := tb_in 209 (by decide +kernel)
theorem tw_210 : Cond.fieldLink RX7 139 "BondedWall$Plan" "leastCost" "I" ∈ lw_tb := tb_in 210 (by decide +kernel)
theorem tw_211 : Cond.laysFinal "BondedWall$Plan" "BondedWall$Plan" "wall" "LBondedWall$Wall;" ∈ lw_tb := tb_in 211 (by decide +kernel)
theorem tw_212 : Cond.soleField "BondedWall$Plan" "wall" ∈ lw_tb := tb_in 212 (by decide +kernel)
theorem tw_213 : Cond.laysFinal "BondedWall$Plan" "BondedWall$Plan" "rows" "LBondedWall$Rows;" ∈ lw_tb := tb_in 213 (by decide +kernel)
theorem tw_214 : Cond.soleField "BondedWall$Plan" "rows" ∈ lw_tb := tb_in 214 (by decide +kernel)
theorem tw_215 : Cond.laysFinal "BondedWall$Plan" "BondedWall$Plan" "just" "[[I" ∈ lw_tb := tb_in 215 (by decide +kernel)
theorem tw_216 : Cond.soleField "BondedWall$Plan" "just" ∈ lw_tb := tb_in 216 (by decide +kernel)
theorem tw_217 : Cond.laysFinal "BondedWall$Plan" "BondedWall$Plan" "within" "[I" ∈ lw_tb := tb_in 217 (by decide +kernel)
theorem tw_218 : Cond.soleField "BondedWall$Plan" "within" ∈ lw_tb := tb_in 218 (by decide +kernel)
theorem tw_219 : Cond.laysFinal "BondedWall$Plan" "BondedWall$Plan" "chosen" "[I" ∈ lw_tb := tb_in 219 (by decide +kernel)
theorem tw_220 : Cond.soleField "BondedWall$Plan" "chosen" ∈ lw_tb := tb_in 220 (by decide +kernel)
theorem tw_221 : Cond.lays "BondedWall$Plan" "BondedWall$Plan" "plannedLap" "I" ∈ lw_tb := tb_in 221 (by decide +kernel)
theorem tw_222 : Cond.soleField "BondedWall$Plan" "plannedLap" ∈ lw_tb := tb_in 222 (by decide +kernel)
theorem tw_223 : Cond.lays "BondedWall$Plan" "BondedWall$Plan" "leastCost" "I" ∈ lw_tb := tb_in 223 (by decide +kernel)
theorem tw_224 : Cond.soleField "BondedWall$Plan" "leastCost" ∈ lw_tb := tb_in 224 (by decide +kernel)
theorem tw_225 : Cond.superclass "BondedWall$Plan" "java/lang/Object" ∈ lw_tb := tb_in 225 (by decide +kernel)
theorem tw_226 : Cond.classLink RX7 43 RX5 ∈ lw_tb := tb_in 226 (by decide +kernel)
theorem tw_227 : Cond.instantiable RX5 1 ∈ lw_tb := tb_in 227 (by decide +kernel)
theorem tn_228 : Cond.methodLinkNest RX7 45 yX5_init "BondedWall" ∈ lw_tbl := List.mem_of_getElem? (i := 228) (by decide +kernel)
theorem tw_229 : Cond.instanceMethod yX5_init ∈ lw_tb := tb_in 229 (by decide +kernel)
theorem tw_230 : Cond.code yX5_init cX5_init 1 none ∈ lw_tb := tb_in 230 (by decide +kernel)
theorem tw_231 : Cond.methodLink RX5 3 objectInit ∈ lw_tb := tb_in 231 (by decide +kernel)
theorem tw_232 : Cond.fieldLink RX5 9 "BondedWall$Tally" "byLength" "[I" ∈ lw_tb := tb_in 232 (by decide +kernel)
theorem tw_233 : Cond.laysFinal "BondedWall$Tally" "BondedWall$Tally" "byLength" "[I" ∈ lw_tb := tb_in 233 (by decide +kernel)
theorem tw_234 : Cond.soleField "BondedWall$Tally" "byLength" ∈ lw_tb := tb_in 234 (by decide +kernel)
theorem tw_235 : Cond.superclass "BondedWall$Tally" "java/lang/Object" ∈ lw_tb := tb_in 235 (by decide +kernel)
theorem tw_236 : Cond.fieldLink RX7 12 "BondedWall" "wall" "LBondedWall$Wall;" ∈ lw_tb := tb_in 236 (by decide +kernel)
theorem tw_237 : Cond.fieldLink RX7 23 "BondedWall" "rows" "LBondedWall$Rows;" ∈ lw_tb := tb_in 237 (by decide +kernel)
theorem tw_238 : Cond.fieldLink RX7 32 "BondedWall" "count" "LBondedWall$Count;" ∈ lw_tb := tb_in 238 (by decide +kernel)
theorem tw_239 : Cond.fieldLink RX7 39 "BondedWall" "plan" "LBondedWall$Plan;" ∈ lw_tb := tb_in 239 (by decide +kernel)
theorem tw_240 : Cond.fieldLink RX7 46 "BondedWall" "tally" "LBondedWall$Tally;" ∈ lw_tb := tb_in 240 (by decide +kernel)
theorem tw_241 : Cond.laysFinal "BondedWall" "BondedWall" "wall" "LBondedWall$Wall;" ∈ lw_tb := tb_in 241 (by decide +kernel)
theorem tw_242 : Cond.soleField "BondedWall" "wall" ∈ lw_tb := tb_in 242 (by decide +kernel)
theorem tw_243 : Cond.laysFinal "BondedWall" "BondedWall" "rows" "LBondedWall$Rows;" ∈ lw_tb := tb_in 243 (by decide +kernel)
theorem tw_244 : Cond.soleField "BondedWall" "rows" ∈ lw_tb := tb_in 244 (by decide +kernel)
theorem tw_245 : Cond.laysFinal "BondedWall" "BondedWall" "count" "LBondedWall$Count;" ∈ lw_tb := tb_in 245 (by decide +kernel)
theorem tw_246 : Cond.soleField "BondedWall" "count" ∈ lw_tb := tb_in 246 (by decide +kernel)
theorem tw_247 : Cond.laysFinal "BondedWall" "BondedWall" "plan" "LBondedWall$Plan;" ∈ lw_tb := tb_in 247 (by decide +kernel)
theorem tw_248 : Cond.soleField "BondedWall" "plan" ∈ lw_tb := tb_in 248 (by decide +kernel)
theorem tw_249 : Cond.laysFinal "BondedWall" "BondedWall" "tally" "LBondedWall$Tally;" ∈ lw_tb := tb_in 249 (by decide +kernel)
theorem tw_250 : Cond.soleField "BondedWall" "tally" ∈ lw_tb := tb_in 250 (by decide +kernel)
theorem tw_251 : Cond.superclass "BondedWall" "java/lang/Object" ∈ lw_tb := tb_in 251 (by decide +kernel)
theorem tw_252 : Cond.methodLink RL 13 yX7_width ∈ lw_tb := tb_in 252 (by decide +kernel)
theorem tw_253 : Cond.instanceMethod yX7_width ∈ lw_tb := tb_in 253 (by decide +kernel)
theorem tw_254 : Cond.selects RX7 yX7_width yX7_width ∈ lw_tb := tb_in 254 (by decide +kernel)
theorem tw_255 : Cond.code yX7_width cX7_width 2 (some .int) ∈ lw_tb := tb_in 255 (by decide +kernel)
theorem tw_256 : Cond.methodLink RX7 57 yX7_forgetWhatCanBe ∈ lw_tb := tb_in 256 (by decide +kernel)
theorem tn_257 : Cond.privateMethod yX7_forgetWhatCanBe ∈ lw_tbl := List.mem_of_getElem? (i := 257) (by decide +kernel)
theorem tw_258 : Cond.instanceMethod yX7_forgetWhatCanBe ∈ lw_tb := tb_in 258 (by decide +kernel)
theorem tw_259 : Cond.code yX7_forgetWhatCanBe cX7_forgetWhatCanBe 1 none ∈ lw_tb := tb_in 259 (by decide +kernel)
theorem tw_260 : Cond.methodLink RX7 184 yX4_forget ∈ lw_tb := tb_in 260 (by decide +kernel)
theorem tw_261 : Cond.instanceMethod yX4_forget ∈ lw_tb := tb_in 261 (by decide +kernel)
theorem tw_262 : Cond.selects RX4 yX4_forget yX4_forget ∈ lw_tb := tb_in 262 (by decide +kernel)
theorem tw_263 : Cond.code yX4_forget cX4_forget 1 none ∈ lw_tb := tb_in 263 (by decide +kernel)
theorem tw_264 : Cond.methodLink RX7 187 yX1_forget ∈ lw_tb := tb_in 264 (by decide +kernel)
theorem tw_265 : Cond.instanceMethod yX1_forget ∈ lw_tb := tb_in 265 (by decide +kernel)
theorem tw_266 : Cond.selects RX1 yX1_forget yX1_forget ∈ lw_tb := tb_in 266 (by decide +kernel)
theorem tw_267 : Cond.code yX1_forget cX1_forget 1 none ∈ lw_tb := tb_in 267 (by decide +kernel)
theorem tw_268 : Cond.methodLink RX7 188 yX3_forget ∈ lw_tb := tb_in 268 (by decide +kernel)
theorem tw_269 : Cond.instanceMethod yX3_forget ∈ lw_tb := tb_in 269 (by decide +kernel)
theorem tw_270 : Cond.selects RX3 yX3_forget yX3_forget ∈ lw_tb := tb_in 270 (by decide +kernel)
theorem tw_271 : Cond.code yX3_forget cX3_forget 1 none ∈ lw_tb := tb_in 271 (by decide +kernel)
theorem tw_272 : Cond.methodLink RL 18 yX7_course ∈ lw_tb := tb_in 272 (by decide +kernel)
theorem tw_273 : Cond.instanceMethod yX7_course ∈ lw_tb := tb_in 273 (by decide +kernel)
theorem tw_274 : Cond.selects RX7 yX7_course yX7_course ∈ lw_tb := tb_in 274 (by decide +kernel)
theorem tw_275 : Cond.code yX7_course cX7_course 2 (some .int) ∈ lw_tb := tb_in 275 (by decide +kernel)
theorem tw_276 : Cond.methodLink RX7 60 yX6_at ∈ lw_tb := tb_in 276 (by decide +kernel)
theorem tw_277 : Cond.instanceMethod yX6_at ∈ lw_tb := tb_in 277 (by decide +kernel)
theorem tw_278 : Cond.selects RX6 yX6_at yX6_at ∈ lw_tb := tb_in 278 (by decide +kernel)
theorem tw_279 : Cond.code yX6_at cX6_at 3 (some (.object "BondedWall$Course")) ∈ lw_tb := tb_in 279 (by decide +kernel)
theorem tw_280 : Cond.methodLink RX7 64 yX2_clear ∈ lw_tb := tb_in 280 (by decide +kernel)
theorem tw_281 : Cond.instanceMethod yX2_clear ∈ lw_tb := tb_in 281 (by decide +kernel)
theorem tw_282 : Cond.selects RX2 yX2_clear yX2_clear ∈ lw_tb := tb_in 282 (by decide +kernel)
theorem tw_283 : Cond.code yX2_clear cX2_clear 1 none ∈ lw_tb := tb_in 283 (by decide +kernel)
theorem tw_284 : Cond.methodLink RL 23 yX7_take ∈ lw_tb := tb_in 284 (by decide +kernel)
theorem tw_285 : Cond.instanceMethod yX7_take ∈ lw_tb := tb_in 285 (by decide +kernel)
theorem tw_286 : Cond.selects RX7 yX7_take yX7_take ∈ lw_tb := tb_in 286 (by decide +kernel)
theorem tw_287 : Cond.code yX7_take cX7_take 1 (some .int) ∈ lw_tb := tb_in 287 (by decide +kernel)
theorem tw_288 : Cond.methodLink RL 27 yX7_open ∈ lw_tb := tb_in 288 (by decide +kernel)
theorem tw_289 : Cond.instanceMethod yX7_open ∈ lw_tb := tb_in 289 (by decide +kernel)
theorem tw_290 : Cond.selects RX7 yX7_open yX7_open ∈ lw_tb := tb_in 290 (by decide +kernel)
theorem tw_291 : Cond.code yX7_open cX7_open 5 (some .int) ∈ lw_tb := tb_in 291 (by decide +kernel)
theorem tw_292 : Cond.methodLink RX7 69 yX6_has ∈ lw_tb := tb_in 292 (by decide +kernel)
theorem tw_293 : Cond.instanceMethod yX6_has ∈ lw_tb := tb_in 293 (by decide +kernel)
theorem tw_294 : Cond.selects RX6 yX6_has yX6_has ∈ lw_tb := tb_in 294 (by decide +kernel)
theorem tw_295 : Cond.code yX6_has cX6_has 2 (some .boolean) ∈ lw_tb := tb_in 295 (by decide +kernel)
theorem tw_296 : Cond.methodLink RX7 73 yX6_cells ∈ lw_tb := tb_in 296 (by decide +kernel)
theorem tw_297 : Cond.instanceMethod yX6_cells ∈ lw_tb := tb_in 297 (by decide +kernel)
theorem tw_298 : Cond.selects RX6 yX6_cells yX6_cells ∈ lw_tb := tb_in 298 (by decide +kernel)
theorem tw_299 : Cond.code yX6_cells cX6_cells 1 (some .int) ∈ lw_tb := tb_in 299 (by decide +kernel)
theorem tw_300 : Cond.methodLink RL 32 yX7_must ∈ lw_tb := tb_in 300 (by decide +kernel)
theorem tw_301 : Cond.instanceMethod yX7_must ∈ lw_tb := tb_in 301 (by decide +kernel)
theorem tw_302 : Cond.selects RX7 yX7_must yX7_must ∈ lw_tb := tb_in 302 (by decide +kernel)
theorem tw_303 : Cond.code yX7_must cX7_must 6 (some .int) ∈ lw_tb := tb_in 303 (by decide +kernel)
theorem tw_304 : Cond.methodLink RX7 80 yX6_places ∈ lw_tb := tb_in 304 (by decide +kernel)
theorem tw_305 : Cond.instanceMethod yX6_places ∈ lw_tb := tb_in 305 (by decide +kernel)
theorem tw_306 : Cond.selects RX6 yX6_places yX6_places ∈ lw_tb := tb_in 306 (by decide +kernel)
theorem tw_307 : Cond.code yX6_places cX6_places 1 (some .int) ∈ lw_tb := tb_in 307 (by decide +kernel)
theorem tw_308 : Cond.methodLink RX6 39 yX6_cells ∈ lw_tb := tb_in 308 (by decide +kernel)
theorem tw_309 : Cond.methodLink RL 37 yX7_price ∈ lw_tb := tb_in 309 (by decide +kernel)
theorem tw_310 : Cond.instanceMethod yX7_price ∈ lw_tb := tb_in 310 (by decide +kernel)
theorem tw_311 : Cond.selects RX7 yX7_price yX7_price ∈ lw_tb := tb_in 311 (by decide +kernel)
theorem tw_312 : Cond.code yX7_price cX7_price 5 (some .int) ∈ lw_tb := tb_in 312 (by decide +kernel)
theorem tw_313 : Cond.methodLink RX7 93 yX0_priceOf ∈ lw_tb := tb_in 313 (by decide +kernel)
theorem tw_314 : Cond.instanceMethod yX0_priceOf ∈ lw_tb := tb_in 314 (by decide +kernel)
theorem tw_315 : Cond.selects RX0 yX0_priceOf yX0_priceOf ∈ lw_tb := tb_in 315 (by decide +kernel)
theorem tw_316 : Cond.code yX0_priceOf cX0_priceOf 2 (some .int) ∈ lw_tb := tb_in 316 (by decide +kernel)
theorem tw_317 : Cond.methodLink RL 41 yX7_lap ∈ lw_tb := tb_in 317 (by decide +kernel)
theorem tw_318 : Cond.instanceMethod yX7_lap ∈ lw_tb := tb_in 318 (by decide +kernel)
theorem tw_319 : Cond.selects RX7 yX7_lap yX7_lap ∈ lw_tb := tb_in 319 (by decide +kernel)
theorem tw_320 : Cond.code yX7_lap cX7_lap 3 (some .int) ∈ lw_tb := tb_in 320 (by decide +kernel)
theorem tw_321 : Cond.methodLink RL 45 yX7_ends ∈ lw_tb := tb_in 321 (by decide +kernel)
theorem tw_322 : Cond.instanceMethod yX7_ends ∈ lw_tb := tb_in 322 (by decide +kernel)
theorem tw_323 : Cond.selects RX7 yX7_ends yX7_ends ∈ lw_tb := tb_in 323 (by decide +kernel)
theorem tw_324 : Cond.code yX7_ends cX7_ends 6 (some .int) ∈ lw_tb := tb_in 324 (by decide +kernel)
theorem tw_325 : Cond.methodLink RL 49 yX7_ofCourse ∈ lw_tb := tb_in 325 (by decide +kernel)
theorem tw_326 : Cond.instanceMethod yX7_ofCourse ∈ lw_tb := tb_in 326 (by decide +kernel)
theorem tw_327 : Cond.selects RX7 yX7_ofCourse yX7_ofCourse ∈ lw_tb := tb_in 327 (by decide +kernel)
theorem tw_328 : Cond.code yX7_ofCourse cX7_ofCourse 4 (some .int) ∈ lw_tb := tb_in 328 (by decide +kernel)
theorem tw_329 : Cond.methodLink RX7 110 yX7_spansOf ∈ lw_tb := tb_in 329 (by decide +kernel)
theorem tn_330 : Cond.privateMethod yX7_spansOf ∈ lw_tbl := List.mem_of_getElem? (i := 330) (by decide +kernel)
theorem tw_331 : Cond.instanceMethod yX7_spansOf ∈ lw_tb := tb_in 331 (by decide +kernel)
theorem tw_332 : Cond.code yX7_spansOf cX7_spansOf 2 (some .int) ∈ lw_tb := tb_in 332 (by decide +kernel)
theorem tw_333 : Cond.methodLink RX7 144 yX5_clear ∈ lw_tb := tb_in 333 (by decide +kernel)
theorem tw_334 : Cond.instanceMethod yX5_clear ∈ lw_tb := tb_in 334 (by decide +kernel)
theorem tw_335 : Cond.selects RX5 yX5_clear yX5_clear ∈ lw_tb := tb_in 335 (by decide +kernel)
theorem tw_336 : Cond.code yX5_clear cX5_clear 1 none ∈ lw_tb := tb_in 336 (by decide +kernel)
theorem tw_337 : Cond.methodLink RX5 15 yJ7_fill_53178 ∈ lw_tb := tb_in 337 (by decide +kernel)
theorem tw_338 : Cond.static yJ7_fill_53178 ∈ lw_tb := tb_in 338 (by decide +kernel)
theorem tw_339 : Cond.code yJ7_fill_53178 cJ7_fill_53178 4 none ∈ lw_tb := tb_in 339 (by decide +kernel)
theorem tw_340 : Cond.methodLink RX7 145 yX6_addPieces ∈ lw_tb := tb_in 340 (by decide +kernel)
theorem tw_341 : Cond.instanceMethod yX6_addPieces ∈ lw_tb := tb_in 341 (by decide +kernel)
theorem tw_342 : Cond.selects RX6 yX6_addPieces yX6_addPieces ∈ lw_tb := tb_in 342 (by decide +kernel)
theorem tw_343 : Cond.code yX6_addPieces cX6_addPieces 7 none ∈ lw_tb := tb_in 343 (by decide +kernel)
theorem tw_344 : Cond.methodLink RX6 52 yX6_bounds ∈ lw_tb := tb_in 344 (by decide +kernel)
theorem tn_345 : Cond.privateMethod yX6_bounds ∈ lw_tbl := List.mem_of_getElem? (i := 345) (by decide +kernel)
theorem tw_346 : Cond.instanceMethod yX6_bounds ∈ lw_tb := tb_in 346 (by decide +kernel)
theorem tw_347 : Cond.code yX6_bounds cX6_bounds 3 (some .int) ∈ lw_tb := tb_in 347 (by decide +kernel)
theorem tw_348 : Cond.methodLink RX6 49 yX2_besideOpen ∈ lw_tb := tb_in 348 (by decide +kernel)
theorem tw_349 : Cond.instanceMethod yX2_besideOpen ∈ lw_tb := tb_in 349 (by decide +kernel)
theorem tw_350 : Cond.selects RX2 yX2_besideOpen yX2_besideOpen ∈ lw_tb := tb_in 350 (by decide +kernel)
theorem tw_351 : Cond.code yX2_besideOpen cX2_besideOpen 1 (some .int) ∈ lw_tb := tb_in 351 (by decide +kernel)
theorem tw_352 : Cond.methodLink RX6 56 yX2_isOpen ∈ lw_tb := tb_in 352 (by decide +kernel)
theorem tw_353 : Cond.instanceMethod yX2_isOpen ∈ lw_tb := tb_in 353 (by decide +kernel)
theorem tw_354 : Cond.selects RX2 yX2_isOpen yX2_isOpen ∈ lw_tb := tb_in 354 (by decide +kernel)
theorem tw_355 : Cond.code yX2_isOpen cX2_isOpen 2 (some .boolean) ∈ lw_tb := tb_in 355 (by decide +kernel)
theorem tw_356 : Cond.methodLink RX6 60 yX5_add ∈ lw_tb := tb_in 356 (by decide +kernel)
theorem tw_357 : Cond.instanceMethod yX5_add ∈ lw_tb := tb_in 357 (by decide +kernel)
theorem tw_358 : Cond.selects RX5 yX5_add yX5_add ∈ lw_tb := tb_in 358 (by decide +kernel)
theorem tw_359 : Cond.code yX5_add cX5_add 2 none ∈ lw_tb := tb_in 359 (by decide +kernel)
theorem tw_360 : Cond.methodLink RX7 178 yX5_total ∈ lw_tb := tb_in 360 (by decide +kernel)
theorem tw_361 : Cond.instanceMethod yX5_total ∈ lw_tb := tb_in 361 (by decide +kernel)
theorem tw_362 : Cond.selects RX5 yX5_total yX5_total ∈ lw_tb := tb_in 362 (by decide +kernel)
theorem tw_363 : Cond.code yX5_total cX5_total 6 (some .int) ∈ lw_tb := tb_in 363 (by decide +kernel)
theorem tw_364 : Cond.methodLink RL 53 yX7_row ∈ lw_tb := tb_in 364 (by decide +kernel)
theorem tw_365 : Cond.instanceMethod yX7_row ∈ lw_tb := tb_in 365 (by decide +kernel)
theorem tw_366 : Cond.selects RX7 yX7_row yX7_row ∈ lw_tb := tb_in 366 (by decide +kernel)
theorem tw_367 : Cond.code yX7_row cX7_row 3 (some .int) ∈ lw_tb := tb_in 367 (by decide +kernel)
theorem tw_368 : Cond.methodLink RX7 117 yX4_renew ∈ lw_tb := tb_in 368 (by decide +kernel)
theorem tw_369 : Cond.instanceMethod yX4_renew ∈ lw_tb := tb_in 369 (by decide +kernel)
theorem tw_370 : Cond.selects RX4 yX4_renew yX4_renew ∈ lw_tb := tb_in 370 (by decide +kernel)
theorem tw_371 : Cond.code yX4_renew cX4_renew 2 none ∈ lw_tb := tb_in 371 (by decide +kernel)
theorem tw_372 : Cond.methodLink RX4 30 yX4_sumLeftOfHighest ∈ lw_tb := tb_in 372 (by decide +kernel)
theorem tn_373 : Cond.privateMethod yX4_sumLeftOfHighest ∈ lw_tbl := List.mem_of_getElem? (i := 373) (by decide +kernel)
theorem tw_374 : Cond.instanceMethod yX4_sumLeftOfHighest ∈ lw_tb := tb_in 374 (by decide +kernel)
theorem tw_375 : Cond.code yX4_sumLeftOfHighest cX4_sumLeftOfHighest 8 none ∈ lw_tb := tb_in 375 (by decide +kernel)
theorem tw_376 : Cond.methodLink RX4 40 yX4_firstWith ∈ lw_tb := tb_in 376 (by decide +kernel)
theorem tw_377 : Cond.static yX4_firstWith ∈ lw_tb := tb_in 377 (by decide +kernel)
theorem tw_378 : Cond.code yX4_firstWith cX4_firstWith 1 (some .int) ∈ lw_tb := tb_in 378 (by decide +kernel)
theorem tw_379 : Cond.methodLink RX4 44 yX6_costBetween ∈ lw_tb := tb_in 379 (by decide +kernel)
theorem tw_380 : Cond.instanceMethod yX6_costBetween ∈ lw_tb := tb_in 380 (by decide +kernel)
theorem tw_381 : Cond.selects RX6 yX6_costBetween yX6_costBetween ∈ lw_tb := tb_in 381 (by decide +kernel)
theorem tw_382 : Cond.code yX6_costBetween cX6_costBetween 9 (some .int) ∈ lw_tb := tb_in 382 (by decide +kernel)
theorem tw_383 : Cond.methodLink RX6 69 yX6_at ∈ lw_tb := tb_in 383 (by decide +kernel)
theorem tw_384 : Cond.methodLink RX6 85 yX6_ruleBrokenByPiece ∈ lw_tb := tb_in 384 (by decide +kernel)
theorem tn_385 : Cond.privateMethod yX6_ruleBrokenByPiece ∈ lw_tbl := List.mem_of_getElem? (i := 385) (by decide +kernel)
theorem tw_386 : Cond.instanceMethod yX6_ruleBrokenByPiece ∈ lw_tb := tb_in 386 (by decide +kernel)
theorem tw_387 : Cond.code yX6_ruleBrokenByPiece cX6_ruleBrokenByPiece 9 (some .int) ∈ lw_tb := tb_in 387 (by decide +kernel)
theorem tw_388 : Cond.methodLink RX6 89 yX0_priceOf ∈ lw_tb := tb_in 388 (by decide +kernel)
theorem tw_389 : Cond.methodLink RX6 93 yX0_mayEnd ∈ lw_tb := tb_in 389 (by decide +kernel)
theorem tw_390 : Cond.instanceMethod yX0_mayEnd ∈ lw_tb := tb_in 390 (by decide +kernel)
theorem tw_391 : Cond.selects RX0 yX0_mayEnd yX0_mayEnd ∈ lw_tb := tb_in 391 (by decide +kernel)
theorem tw_392 : Cond.code yX0_mayEnd cX0_mayEnd 4 (some .boolean) ∈ lw_tb := tb_in 392 (by decide +kernel)
theorem tw_393 : Cond.constant RX6 100 (1000000 : Int32) ∈ lw_tb := tb_in 393 (by decide +kernel)
theorem tw_394 : Cond.constant RX4 48 (1000000 : Int32) ∈ lw_tb := tb_in 394 (by decide +kernel)
theorem tw_395 : Cond.methodLink RX4 49 yJ9_min_7cf53 ∈ lw_tb := tb_in 395 (by decide +kernel)
theorem tw_396 : Cond.static yJ9_min_7cf53 ∈ lw_tb := tb_in 396 (by decide +kernel)
theorem tw_397 : Cond.code yJ9_min_7cf53 cJ9_min_7cf53 2 (some .int) ∈ lw_tb := tb_in 397 (by decide +kernel)
theorem tw_398 : Cond.methodLink RX4 34 yX4_closeRight ∈ lw_tb := tb_in 398 (by decide +kernel)
theorem tn_399 : Cond.privateMethod yX4_closeRight ∈ lw_tbl := List.mem_of_getElem? (i := 399) (by decide +kernel)
theorem tw_400 : Cond.instanceMethod yX4_closeRight ∈ lw_tb := tb_in 400 (by decide +kernel)
theorem tw_401 : Cond.code yX4_closeRight cX4_closeRight 9 none ∈ lw_tb := tb_in 401 (by decide +kernel)
theorem tw_402 : Cond.methodLink RX4 55 yX6_at ∈ lw_tb := tb_in 402 (by decide +kernel)
theorem tw_403 : Cond.methodLink RX4 59 yX2_keepsWithinSpans ∈ lw_tb := tb_in 403 (by decide +kernel)
theorem tw_404 : Cond.instanceMethod yX2_keepsWithinSpans ∈ lw_tb := tb_in 404 (by decide +kernel)
theorem tw_405 : Cond.selects RX2 yX2_keepsWithinSpans yX2_keepsWithinSpans ∈ lw_tb := tb_in 405 (by decide +kernel)
theorem tw_406 : Cond.code yX2_keepsWithinSpans cX2_keepsWithinSpans 2 (some .boolean) ∈ lw_tb := tb_in 406 (by decide +kernel)
theorem tw_407 : Cond.methodLink RX2 22 yX2_besideOpen ∈ lw_tb := tb_in 407 (by decide +kernel)
theorem tw_408 : Cond.methodLink RX4 65 yX2_keepsDemands ∈ lw_tb := tb_in 408 (by decide +kernel)
theorem tw_409 : Cond.instanceMethod yX2_keepsDemands ∈ lw_tb := tb_in 409 (by decide +kernel)
theorem tw_410 : Cond.selects RX2 yX2_keepsDemands yX2_keepsDemands ∈ lw_tb := tb_in 410 (by decide +kernel)
theorem tw_411 : Cond.code yX2_keepsDemands cX2_keepsDemands 2 (some .boolean) ∈ lw_tb := tb_in 411 (by decide +kernel)
theorem tw_412 : Cond.methodLink RX7 120 yX4_howMany ∈ lw_tb := tb_in 412 (by decide +kernel)
theorem tw_413 : Cond.instanceMethod yX4_howMany ∈ lw_tb := tb_in 413 (by decide +kernel)
theorem tw_414 : Cond.selects RX4 yX4_howMany yX4_howMany ∈ lw_tb := tb_in 414 (by decide +kernel)
theorem tw_415 : Cond.code yX4_howMany cX4_howMany 5 (some .int) ∈ lw_tb := tb_in 415 (by decide +kernel)
theorem tw_416 : Cond.methodLink RX4 68 yX6_sets ∈ lw_tb := tb_in 416 (by decide +kernel)
theorem tw_417 : Cond.instanceMethod yX6_sets ∈ lw_tb := tb_in 417 (by decide +kernel)
theorem tw_418 : Cond.selects RX6 yX6_sets yX6_sets ∈ lw_tb := tb_in 418 (by decide +kernel)
theorem tw_419 : Cond.code yX6_sets cX6_sets 1 (some .int) ∈ lw_tb := tb_in 419 (by decide +kernel)
theorem tw_420 : Cond.methodLink RX6 43 yJ9_min_7cf53 ∈ lw_tb := tb_in 420 (by decide +kernel)
theorem tw_421 : Cond.methodLink RX4 72 yX4_costOf ∈ lw_tb := tb_in 421 (by decide +kernel)
theorem tw_422 : Cond.instanceMethod yX4_costOf ∈ lw_tb := tb_in 422 (by decide +kernel)
theorem tw_423 : Cond.selects RX4 yX4_costOf yX4_costOf ∈ lw_tb := tb_in 423 (by decide +kernel)
theorem tw_424 : Cond.code yX4_costOf cX4_costOf 4 (some .int) ∈ lw_tb := tb_in 424 (by decide +kernel)
theorem tw_425 : Cond.methodLink RX7 123 yX4_jointsOf ∈ lw_tb := tb_in 425 (by decide +kernel)
theorem tw_426 : Cond.instanceMethod yX4_jointsOf ∈ lw_tb := tb_in 426 (by decide +kernel)
theorem tw_427 : Cond.selects RX4 yX4_jointsOf yX4_jointsOf ∈ lw_tb := tb_in 427 (by decide +kernel)
theorem tw_428 : Cond.code yX4_jointsOf cX4_jointsOf 6 (some .int) ∈ lw_tb := tb_in 428 (by decide +kernel)
theorem tw_429 : Cond.methodLink RL 57 yX7_walls ∈ lw_tb := tb_in 429 (by decide +kernel)
theorem tw_430 : Cond.instanceMethod yX7_walls ∈ lw_tb := tb_in 430 (by decide +kernel)
theorem tw_431 : Cond.selects RX7 yX7_walls yX7_walls ∈ lw_tb := tb_in 431 (by decide +kernel)
theorem tw_432 : Cond.code yX7_walls cX7_walls 1 (some .long) ∈ lw_tb := tb_in 432 (by decide +kernel)
theorem tw_433 : Cond.methodLink RX7 127 yX1_renew ∈ lw_tb := tb_in 433 (by decide +kernel)
theorem tw_434 : Cond.instanceMethod yX1_renew ∈ lw_tb := tb_in 434 (by decide +kernel)
theorem tw_435 : Cond.selects RX1 yX1_renew yX1_renew ∈ lw_tb := tb_in 435 (by decide +kernel)
theorem tw_436 : Cond.code yX1_renew cX1_renew 3 none ∈ lw_tb := tb_in 436 (by decide +kernel)
theorem tw_437 : Cond.methodLink RX1 37 yX4_renew ∈ lw_tb := tb_in 437 (by decide +kernel)
theorem tw_438 : Cond.methodLink RX1 42 yJ7_fill_d0a16 ∈ lw_tb := tb_in 438 (by decide +kernel)
theorem tw_439 : Cond.static yJ7_fill_d0a16 ∈ lw_tb := tb_in 439 (by decide +kernel)
theorem tw_440 : Cond.code yJ7_fill_d0a16 cJ7_fill_d0a16 5 none ∈ lw_tb := tb_in 440 (by decide +kernel)
theorem tw_441 : Cond.methodLink RX1 53 yX1_addCourse ∈ lw_tb := tb_in 441 (by decide +kernel)
theorem tn_442 : Cond.privateMethod yX1_addCourse ∈ lw_tbl := List.mem_of_getElem? (i := 442) (by decide +kernel)
theorem tw_443 : Cond.instanceMethod yX1_addCourse ∈ lw_tb := tb_in 443 (by decide +kernel)
theorem tw_444 : Cond.code yX1_addCourse cX1_addCourse 5 (some .long) ∈ lw_tb := tb_in 444 (by decide +kernel)
theorem tw_445 : Cond.methodLink RX1 57 yX6_sets ∈ lw_tb := tb_in 445 (by decide +kernel)
theorem tw_446 : Cond.methodLink RX1 61 yX4_costOf ∈ lw_tb := tb_in 446 (by decide +kernel)
theorem tw_447 : Cond.constant RX1 65 (1000000 : Int32) ∈ lw_tb := tb_in 447 (by decide +kernel)
theorem tw_448 : Cond.methodLink RX1 66 yX4_apartFrom ∈ lw_tb := tb_in 448 (by decide +kernel)
theorem tw_449 : Cond.instanceMethod yX4_apartFrom ∈ lw_tb := tb_in 449 (by decide +kernel)
theorem tw_450 : Cond.selects RX4 yX4_apartFrom yX4_apartFrom ∈ lw_tb := tb_in 450 (by decide +kernel)
theorem tw_451 : Cond.code yX4_apartFrom cX4_apartFrom 3 (some .int) ∈ lw_tb := tb_in 451 (by decide +kernel)
theorem tw_452 : Cond.methodLink RX4 75 yX6_near ∈ lw_tb := tb_in 452 (by decide +kernel)
theorem tw_453 : Cond.static yX6_near ∈ lw_tb := tb_in 453 (by decide +kernel)
theorem tw_454 : Cond.code yX6_near cX6_near 4 (some .int) ∈ lw_tb := tb_in 454 (by decide +kernel)
theorem tw_455 : Cond.methodLink RX1 69 ⟨"java/lang/System", "arraycopy", "(Ljava/lang/Object;ILjava/lang/Object;II)V"⟩ ∈ lw_tb := tb_in 455 (by decide +kernel)
theorem tw_456 : Cond.static ⟨"java/lang/System", "arraycopy", "(Ljava/lang/Object;ILjava/lang/Object;II)V"⟩ ∈ lw_tb := tb_in 456 (by decide +kernel)
theorem tw_457 : Cond.native ⟨"java/lang/System", "arraycopy", "(Ljava/lang/Object;ILjava/lang/Object;II)V"⟩ ∈ lw_tb := tb_in 457 (by decide +kernel)
theorem tw_458 : Cond.methodLink RX1 75 yX1_sumSubsets ∈ lw_tb := tb_in 458 (by decide +kernel)
theorem tn_459 : Cond.privateMethod yX1_sumSubsets ∈ lw_tbl := List.mem_of_getElem? (i := 459) (by decide +kernel)
theorem tw_460 : Cond.instanceMethod yX1_sumSubsets ∈ lw_tb := tb_in 460 (by decide +kernel)
theorem tw_461 : Cond.code yX1_sumSubsets cX1_sumSubsets 4 none ∈ lw_tb := tb_in 461 (by decide +kernel)
theorem tw_462 : Cond.methodLink RL 62 yX7_best ∈ lw_tb := tb_in 462 (by decide +kernel)
theorem tw_463 : Cond.instanceMethod yX7_best ∈ lw_tb := tb_in 463 (by decide +kernel)
theorem tw_464 : Cond.selects RX7 yX7_best yX7_best ∈ lw_tb := tb_in 464 (by decide +kernel)
theorem tw_465 : Cond.code yX7_best cX7_best 1 (some .int) ∈ lw_tb := tb_in 465 (by decide +kernel)
theorem tw_466 : Cond.methodLink RX7 134 yX3_renew ∈ lw_tb := tb_in 466 (by decide +kernel)
theorem tw_467 : Cond.instanceMethod yX3_renew ∈ lw_tb := tb_in 467 (by decide +kernel)
theorem tw_468 : Cond.selects RX3 yX3_renew yX3_renew ∈ lw_tb := tb_in 468 (by decide +kernel)
theorem tw_469 : Cond.code yX3_renew cX3_renew 3 none ∈ lw_tb := tb_in 469 (by decide +kernel)
theorem tw_470 : Cond.methodLink RX3 39 yX4_renew ∈ lw_tb := tb_in 470 (by decide +kernel)
theorem tw_471 : Cond.methodLink RX3 44 yJ7_fill_53178 ∈ lw_tb := tb_in 471 (by decide +kernel)
theorem tw_472 : Cond.methodLink RX3 55 yJ9_min_7cf53 ∈ lw_tb := tb_in 472 (by decide +kernel)
theorem tw_473 : Cond.methodLink RX3 61 yX3_weighCourse ∈ lw_tb := tb_in 473 (by decide +kernel)
theorem tn_474 : Cond.privateMethod yX3_weighCourse ∈ lw_tbl := List.mem_of_getElem? (i := 474) (by decide +kernel)
theorem tw_475 : Cond.instanceMethod yX3_weighCourse ∈ lw_tb := tb_in 475 (by decide +kernel)
theorem tw_476 : Cond.code yX3_weighCourse cX3_weighCourse 7 none ∈ lw_tb := tb_in 476 (by decide +kernel)
theorem tw_477 : Cond.methodLink RX3 65 yX6_sets ∈ lw_tb := tb_in 477 (by decide +kernel)
theorem tw_478 : Cond.methodLink RX3 73 yX4_costOf ∈ lw_tb := tb_in 478 (by decide +kernel)
theorem tw_479 : Cond.constant RX3 38 (1000000 : Int32) ∈ lw_tb := tb_in 479 (by decide +kernel)
theorem tw_480 : Cond.methodLink RX3 76 yX4_apartFrom ∈ lw_tb := tb_in 480 (by decide +kernel)
theorem tw_481 : Cond.methodLink RX3 79 ⟨"java/lang/System", "arraycopy", "(Ljava/lang/Object;ILjava/lang/Object;II)V"⟩ ∈ lw_tb := tb_in 481 (by decide +kernel)
theorem tw_482 : Cond.methodLink RX3 85 yX3_takeLeastOfSubsets ∈ lw_tb := tb_in 482 (by decide +kernel)
theorem tn_483 : Cond.privateMethod yX3_takeLeastOfSubsets ∈ lw_tbl := List.mem_of_getElem? (i := 483) (by decide +kernel)
theorem tw_484 : Cond.instanceMethod yX3_takeLeastOfSubsets ∈ lw_tb := tb_in 484 (by decide +kernel)
theorem tw_485 : Cond.code yX3_takeLeastOfSubsets cX3_takeLeastOfSubsets 4 none ∈ lw_tb := tb_in 485 (by decide +kernel)
theorem tw_486 : Cond.methodLink RX3 69 yX3_choose ∈ lw_tb := tb_in 486 (by decide +kernel)
theorem tn_487 : Cond.privateMethod yX3_choose ∈ lw_tbl := List.mem_of_getElem? (i := 487) (by decide +kernel)
theorem tw_488 : Cond.instanceMethod yX3_choose ∈ lw_tb := tb_in 488 (by decide +kernel)
theorem tw_489 : Cond.code yX3_choose cX3_choose 4 none ∈ lw_tb := tb_in 489 (by decide +kernel)
theorem tw_490 : Cond.methodLink RX3 88 yX3_cheapest ∈ lw_tb := tb_in 490 (by decide +kernel)
theorem tn_491 : Cond.privateMethod yX3_cheapest ∈ lw_tbl := List.mem_of_getElem? (i := 491) (by decide +kernel)
theorem tw_492 : Cond.instanceMethod yX3_cheapest ∈ lw_tb := tb_in 492 (by decide +kernel)
theorem tw_493 : Cond.code yX3_cheapest cX3_cheapest 7 (some .int) ∈ lw_tb := tb_in 493 (by decide +kernel)
theorem tw_494 : Cond.methodLink RX7 135 yX3_isNone ∈ lw_tb := tb_in 494 (by decide +kernel)
theorem tw_495 : Cond.instanceMethod yX3_isNone ∈ lw_tb := tb_in 495 (by decide +kernel)
theorem tw_496 : Cond.selects RX3 yX3_isNone yX3_isNone ∈ lw_tb := tb_in 496 (by decide +kernel)
theorem tw_497 : Cond.code yX3_isNone cX3_isNone 1 (some .boolean) ∈ lw_tb := tb_in 497 (by decide +kernel)
theorem tw_498 : Cond.methodLink RL 66 yX7_bestRow ∈ lw_tb := tb_in 498 (by decide +kernel)
theorem tw_499 : Cond.instanceMethod yX7_bestRow ∈ lw_tb := tb_in 499 (by decide +kernel)
theorem tw_500 : Cond.selects RX7 yX7_bestRow yX7_bestRow ∈ lw_tb := tb_in 500 (by decide +kernel)
theorem tw_501 : Cond.code yX7_bestRow cX7_bestRow 2 (some .int) ∈ lw_tb := tb_in 501 (by decide +kernel)
theorem tw_502 : Cond.methodLink RX7 142 yX3_jointsOf ∈ lw_tb := tb_in 502 (by decide +kernel)
theorem tw_503 : Cond.instanceMethod yX3_jointsOf ∈ lw_tb := tb_in 503 (by decide +kernel)
theorem tw_504 : Cond.selects RX3 yX3_jointsOf yX3_jointsOf ∈ lw_tb := tb_in 504 (by decide +kernel)
theorem tw_505 : Cond.code yX3_jointsOf cX3_jointsOf 2 (some .int) ∈ lw_tb := tb_in 505 (by decide +kernel)
theorem tw_506 : Cond.methodLink RL 70 yX7_bestOf ∈ lw_tb := tb_in 506 (by decide +kernel)
theorem tw_507 : Cond.instanceMethod yX7_bestOf ∈ lw_tb := tb_in 507 (by decide +kernel)
theorem tw_508 : Cond.selects RX7 yX7_bestOf yX7_bestOf ∈ lw_tb := tb_in 508 (by decide +kernel)
theorem tw_509 : Cond.code yX7_bestOf cX7_bestOf 3 (some .int) ∈ lw_tb := tb_in 509 (by decide +kernel)
theorem tw_510 : Cond.methodLink RX7 149 yX5_of ∈ lw_tb := tb_in 510 (by decide +kernel)
theorem tw_511 : Cond.instanceMethod yX5_of ∈ lw_tb := tb_in 511 (by decide +kernel)
theorem tw_512 : Cond.selects RX5 yX5_of yX5_of ∈ lw_tb := tb_in 512 (by decide +kernel)
theorem tw_513 : Cond.code yX5_of cX5_of 2 (some .int) ∈ lw_tb := tb_in 513 (by decide +kernel)
theorem tw_514 : Cond.methodLink RL 74 yX7_highest ∈ lw_tb := tb_in 514 (by decide +kernel)
theorem tw_515 : Cond.instanceMethod yX7_highest ∈ lw_tb := tb_in 515 (by decide +kernel)
theorem tw_516 : Cond.selects RX7 yX7_highest yX7_highest ∈ lw_tb := tb_in 516 (by decide +kernel)
theorem tw_517 : Cond.code yX7_highest cX7_highest 1 (some .int) ∈ lw_tb := tb_in 517 (by decide +kernel)
theorem tw_518 : Cond.methodLink RL 78 yX7_byLap ∈ lw_tb := tb_in 518 (by decide +kernel)
theorem tw_519 : Cond.instanceMethod yX7_byLap ∈ lw_tb := tb_in 519 (by decide +kernel)
theorem tw_520 : Cond.selects RX7 yX7_byLap yX7_byLap ∈ lw_tb := tb_in 520 (by decide +kernel)
theorem tw_521 : Cond.code yX7_byLap cX7_byLap 2 (some .int) ∈ lw_tb := tb_in 521 (by decide +kernel)
theorem tw_522 : Cond.methodLink RL 82 yX7_lay ∈ lw_tb := tb_in 522 (by decide +kernel)
theorem tw_523 : Cond.instanceMethod yX7_lay ∈ lw_tb := tb_in 523 (by decide +kernel)
theorem tw_524 : Cond.selects RX7 yX7_lay yX7_lay ∈ lw_tb := tb_in 524 (by decide +kernel)
theorem tw_525 : Cond.code yX7_lay cX7_lay 5 (some .int) ∈ lw_tb := tb_in 525 (by decide +kernel)
theorem tw_526 : Cond.methodLink RL 86 yX7_layBest ∈ lw_tb := tb_in 526 (by decide +kernel)
theorem tw_527 : Cond.instanceMethod yX7_layBest ∈ lw_tb := tb_in 527 (by decide +kernel)
theorem tw_528 : Cond.selects RX7 yX7_layBest yX7_layBest ∈ lw_tb := tb_in 528 (by decide +kernel)
theorem tw_529 : Cond.code yX7_layBest cX7_layBest 2 (some .int) ∈ lw_tb := tb_in 529 (by decide +kernel)
theorem tw_530 : Cond.methodLink RL 90 yX7_wrong ∈ lw_tb := tb_in 530 (by decide +kernel)
theorem tw_531 : Cond.instanceMethod yX7_wrong ∈ lw_tb := tb_in 531 (by decide +kernel)
theorem tw_532 : Cond.selects RX7 yX7_wrong yX7_wrong ∈ lw_tb := tb_in 532 (by decide +kernel)
theorem tw_533 : Cond.code yX7_wrong cX7_wrong 4 (some .int) ∈ lw_tb := tb_in 533 (by decide +kernel)
theorem tw_534 : Cond.methodLink RX7 155 yX6_ruleBrokenIn ∈ lw_tb := tb_in 534 (by decide +kernel)
theorem tw_535 : Cond.instanceMethod yX6_ruleBrokenIn ∈ lw_tb := tb_in 535 (by decide +kernel)
theorem tw_536 : Cond.selects RX6 yX6_ruleBrokenIn yX6_ruleBrokenIn ∈ lw_tb := tb_in 536 (by decide +kernel)
theorem tw_537 : Cond.code yX6_ruleBrokenIn cX6_ruleBrokenIn 5 (some .int) ∈ lw_tb := tb_in 537 (by decide +kernel)
theorem tw_538 : Cond.methodLink RX6 73 yX2_keepsWithinSpans ∈ lw_tb := tb_in 538 (by decide +kernel)
theorem tw_539 : Cond.methodLink RX6 76 yX2_keepsDemands ∈ lw_tb := tb_in 539 (by decide +kernel)
theorem tw_540 : Cond.methodLink RX6 79 yX6_ruleBrokenByPieces ∈ lw_tb := tb_in 540 (by decide +kernel)
theorem tn_541 : Cond.privateMethod yX6_ruleBrokenByPieces ∈ lw_tbl := List.mem_of_getElem? (i := 541) (by decide +kernel)
theorem tw_542 : Cond.instanceMethod yX6_ruleBrokenByPieces ∈ lw_tb := tb_in 542 (by decide +kernel)
theorem tw_543 : Cond.code yX6_ruleBrokenByPieces cX6_ruleBrokenByPieces 9 (some .int) ∈ lw_tb := tb_in 543 (by decide +kernel)
theorem tw_544 : Cond.methodLink RX6 82 yX6_near ∈ lw_tb := tb_in 544 (by decide +kernel)
theorem tw_545 : Cond.methodLink RL 94 yX7_cost ∈ lw_tb := tb_in 545 (by decide +kernel)
theorem tw_546 : Cond.instanceMethod yX7_cost ∈ lw_tb := tb_in 546 (by decide +kernel)
theorem tw_547 : Cond.selects RX7 yX7_cost yX7_cost ∈ lw_tb := tb_in 547 (by decide +kernel)
theorem tw_548 : Cond.code yX7_cost cX7_cost 1 (some .int) ∈ lw_tb := tb_in 548 (by decide +kernel)
theorem tw_549 : Cond.methodLink RX7 158 yX7_tallyLaid ∈ lw_tb := tb_in 549 (by decide +kernel)
theorem tn_550 : Cond.privateMethod yX7_tallyLaid ∈ lw_tbl := List.mem_of_getElem? (i := 550) (by decide +kernel)
theorem tw_551 : Cond.instanceMethod yX7_tallyLaid ∈ lw_tb := tb_in 551 (by decide +kernel)
theorem tw_552 : Cond.code yX7_tallyLaid cX7_tallyLaid 3 none ∈ lw_tb := tb_in 552 (by decide +kernel)
theorem tw_553 : Cond.methodLink RX7 161 yX5_costBy ∈ lw_tb := tb_in 553 (by decide +kernel)
theorem tw_554 : Cond.instanceMethod yX5_costBy ∈ lw_tb := tb_in 554 (by decide +kernel)
theorem tw_555 : Cond.selects RX5 yX5_costBy yX5_costBy ∈ lw_tb := tb_in 555 (by decide +kernel)
theorem tw_556 : Cond.code yX5_costBy cX5_costBy 5 (some .int) ∈ lw_tb := tb_in 556 (by decide +kernel)
theorem tw_557 : Cond.methodLink RX5 21 yX0_priceOf ∈ lw_tb := tb_in 557 (by decide +kernel)
theorem tw_558 : Cond.methodLink RL 98 yX7_pieces ∈ lw_tb := tb_in 558 (by decide +kernel)
theorem tw_559 : Cond.instanceMethod yX7_pieces ∈ lw_tb := tb_in 559 (by decide +kernel)
theorem tw_560 : Cond.selects RX7 yX7_pieces yX7_pieces ∈ lw_tb := tb_in 560 (by decide +kernel)
theorem tw_561 : Cond.code yX7_pieces cX7_pieces 2 (some .int) ∈ lw_tb := tb_in 561 (by decide +kernel)
theorem tw_562 : Cond.methodLink RL 102 yX7_piece ∈ lw_tb := tb_in 562 (by decide +kernel)
theorem tw_563 : Cond.instanceMethod yX7_piece ∈ lw_tb := tb_in 563 (by decide +kernel)
theorem tw_564 : Cond.selects RX7 yX7_piece yX7_piece ∈ lw_tb := tb_in 564 (by decide +kernel)
theorem tw_565 : Cond.code yX7_piece cX7_piece 4 (some .int) ∈ lw_tb := tb_in 565 (by decide +kernel)
theorem tw_566 : Cond.methodLink RX7 165 yX2_isOpen ∈ lw_tb := tb_in 566 (by decide +kernel)
theorem tw_567 : Cond.methodLink RX7 168 yX6_lengthAround ∈ lw_tb := tb_in 567 (by decide +kernel)
theorem tw_568 : Cond.instanceMethod yX6_lengthAround ∈ lw_tb := tb_in 568 (by decide +kernel)
theorem tw_569 : Cond.selects RX6 yX6_lengthAround yX6_lengthAround ∈ lw_tb := tb_in 569 (by decide +kernel)
theorem tw_570 : Cond.code yX6_lengthAround cX6_lengthAround 6 (some .int) ∈ lw_tb := tb_in 570 (by decide +kernel)
theorem tw_571 : Cond.methodLink RL 106 yX7_cut ∈ lw_tb := tb_in 571 (by decide +kernel)
theorem tw_572 : Cond.instanceMethod yX7_cut ∈ lw_tb := tb_in 572 (by decide +kernel)
theorem tw_573 : Cond.selects RX7 yX7_cut yX7_cut ∈ lw_tb := tb_in 573 (by decide +kernel)
theorem tw_574 : Cond.code yX7_cut cX7_cut 1 (some .int) ∈ lw_tb := tb_in 574 (by decide +kernel)
theorem tw_575 : Cond.methodLink RX7 172 yX5_wholeBricks ∈ lw_tb := tb_in 575 (by decide +kernel)
theorem tw_576 : Cond.instanceMethod yX5_wholeBricks ∈ lw_tb := tb_in 576 (by decide +kernel)
theorem tw_577 : Cond.selects RX5 yX5_wholeBricks yX5_wholeBricks ∈ lw_tb := tb_in 577 (by decide +kernel)
theorem tw_578 : Cond.code yX5_wholeBricks cX5_wholeBricks 6 (some .int) ∈ lw_tb := tb_in 578 (by decide +kernel)
theorem tw_579 : Cond.methodLink RX5 27 yX5_of ∈ lw_tb := tb_in 579 (by decide +kernel)
theorem tw_580 : Cond.methodLink RX5 30 yJ9_max_7cf53 ∈ lw_tb := tb_in 580 (by decide +kernel)
theorem tw_581 : Cond.static yJ9_max_7cf53 ∈ lw_tb := tb_in 581 (by decide +kernel)
theorem tw_582 : Cond.code yJ9_max_7cf53 cJ9_max_7cf53 2 (some .int) ∈ lw_tb := tb_in 582 (by decide +kernel)
theorem tw_583 : Cond.methodLink RL 110 yX7_many ∈ lw_tb := tb_in 583 (by decide +kernel)
theorem tw_584 : Cond.instanceMethod yX7_many ∈ lw_tb := tb_in 584 (by decide +kernel)
theorem tw_585 : Cond.selects RX7 yX7_many yX7_many ∈ lw_tb := tb_in 585 (by decide +kernel)
theorem tw_586 : Cond.code yX7_many cX7_many 2 (some .int) ∈ lw_tb := tb_in 586 (by decide +kernel)
theorem tw_587 : Cond.methodLink RX7 175 yX7_openCells ∈ lw_tb := tb_in 587 (by decide +kernel)
theorem tn_588 : Cond.privateMethod yX7_openCells ∈ lw_tbl := List.mem_of_getElem? (i := 588) (by decide +kernel)
theorem tw_589 : Cond.instanceMethod yX7_openCells ∈ lw_tb := tb_in 589 (by decide +kernel)
theorem tw_590 : Cond.code yX7_openCells cX7_openCells 3 (some .int) ∈ lw_tb := tb_in 590 (by decide +kernel)
theorem tw_591 : Cond.methodLink RX7 189 yJ6_bitCount_0f7a4 ∈ lw_tb := tb_in 591 (by decide +kernel)
theorem tw_592 : Cond.static yJ6_bitCount_0f7a4 ∈ lw_tb := tb_in 592 (by decide +kernel)
theorem tw_593 : Cond.code yJ6_bitCount_0f7a4 cJ6_bitCount_0f7a4 1 (some .int) ∈ lw_tb := tb_in 593 (by decide +kernel)
theorem tw_594 : Cond.constant RJ6 265 (1431655765 : Int32) ∈ lw_tb := tb_in 594 (by decide +kernel)
theorem tw_595 : Cond.constant RJ6 266 (858993459 : Int32) ∈ lw_tb := tb_in 595 (by decide +kernel)
theorem tw_596 : Cond.constant RJ6 267 (252645135 : Int32) ∈ lw_tb := tb_in 596 (by decide +kernel)
theorem tw_597 : Cond.methodLink RX7 181 yX7_laidJoints ∈ lw_tb := tb_in 597 (by decide +kernel)
theorem tn_598 : Cond.privateMethod yX7_laidJoints ∈ lw_tbl := List.mem_of_getElem? (i := 598) (by decide +kernel)
theorem tw_599 : Cond.instanceMethod yX7_laidJoints ∈ lw_tb := tb_in 599 (by decide +kernel)
theorem tw_600 : Cond.code yX7_laidJoints cX7_laidJoints 3 (some .int) ∈ lw_tb := tb_in 600 (by decide +kernel)
theorem tw_601 : Cond.classLink RL 10 RX8 ∈ lw_tb := tb_in 601 (by decide +kernel)
theorem tw_602 : Cond.instantiable RX8 15 ∈ lw_tb := tb_in 602 (by decide +kernel)
theorem tw_603 : Cond.methodLink RL 12 yX8_init ∈ lw_tb := tb_in 603 (by decide +kernel)
theorem tw_604 : Cond.instanceMethod yX8_init ∈ lw_tb := tb_in 604 (by decide +kernel)
theorem tw_605 : Cond.code yX8_init cX8_init 2 none ∈ lw_tb := tb_in 605 (by decide +kernel)
theorem tw_606 : Cond.methodLink RX8 1 objectInit ∈ lw_tb := tb_in 606 (by decide +kernel)
theorem tw_607 : Cond.fieldLink RX8 7 "BondedWallModel" "wide" "I" ∈ lw_tb := tb_in 607 (by decide +kernel)
theorem tw_608 : Cond.fieldLink RX8 55 "BondedWallModel" "courses" "I" ∈ lw_tb := tb_in 608 (by decide +kernel)
theorem tw_609 : Cond.fieldLink RX8 13 "BondedWallModel" "openOf" "[I" ∈ lw_tb := tb_in 609 (by decide +kernel)
theorem tw_610 : Cond.fieldLink RX8 17 "BondedWallModel" "mustOf" "[I" ∈ lw_tb := tb_in 610 (by decide +kernel)
theorem tw_611 : Cond.fieldLink RX8 20 "BondedWallModel" "barredOf" "[I" ∈ lw_tb := tb_in 611 (by decide +kernel)
theorem tw_612 : Cond.fieldLink RX8 23 "BondedWallModel" "laidOf" "[I" ∈ lw_tb := tb_in 612 (by decide +kernel)
theorem tw_613 : Cond.fieldLink RX8 26 "BondedWallModel" "priceOf" "[I" ∈ lw_tb := tb_in 613 (by decide +kernel)
theorem tw_614 : Cond.fieldLink RX8 29 "BondedWallModel" "endsOf" "[I" ∈ lw_tb := tb_in 614 (by decide +kernel)
theorem tw_615 : Cond.fieldLink RX8 32 "BondedWallModel" "lapNow" "I" ∈ lw_tb := tb_in 615 (by decide +kernel)
theorem tw_616 : Cond.fieldLink RX8 35 "BondedWallModel" "rowMany" "[I" ∈ lw_tb := tb_in 616 (by decide +kernel)
theorem tw_617 : Cond.fieldLink RX8 38 "BondedWallModel" "rowAt" "[I" ∈ lw_tb := tb_in 617 (by decide +kernel)
theorem tw_618 : Cond.fieldLink RX8 41 "BondedWallModel" "leastFrom" "[I" ∈ lw_tb := tb_in 618 (by decide +kernel)
theorem tw_619 : Cond.fieldLink RX8 44 "BondedWallModel" "waysFrom" "[J" ∈ lw_tb := tb_in 619 (by decide +kernel)
theorem tw_620 : Cond.fieldLink RX8 48 "BondedWallModel" "bestAt" "[I" ∈ lw_tb := tb_in 620 (by decide +kernel)
theorem tw_621 : Cond.fieldLink RX8 51 "BondedWallModel" "isReached" "[Z" ∈ lw_tb := tb_in 621 (by decide +kernel)
theorem tw_622 : Cond.lays "BondedWallModel" "BondedWallModel" "wide" "I" ∈ lw_tb := tb_in 622 (by decide +kernel)
theorem tw_623 : Cond.soleField "BondedWallModel" "wide" ∈ lw_tb := tb_in 623 (by decide +kernel)
theorem tw_624 : Cond.lays "BondedWallModel" "BondedWallModel" "courses" "I" ∈ lw_tb := tb_in 624 (by decide +kernel)
theorem tw_625 : Cond.soleField "BondedWallModel" "courses" ∈ lw_tb := tb_in 625 (by decide +kernel)
theorem tw_626 : Cond.laysFinal "BondedWallModel" "BondedWallModel" "openOf" "[I" ∈ lw_tb := tb_in 626 (by decide +kernel)
theorem tw_627 : Cond.soleField "BondedWallModel" "openOf" ∈ lw_tb := tb_in 627 (by decide +kernel)
theorem tw_628 : Cond.laysFinal "BondedWallModel" "BondedWallModel" "mustOf" "[I" ∈ lw_tb := tb_in 628 (by decide +kernel)
theorem tw_629 : Cond.soleField "BondedWallModel" "mustOf" ∈ lw_tb := tb_in 629 (by decide +kernel)
theorem tw_630 : Cond.laysFinal "BondedWallModel" "BondedWallModel" "barredOf" "[I" ∈ lw_tb := tb_in 630 (by decide +kernel)
theorem tw_631 : Cond.soleField "BondedWallModel" "barredOf" ∈ lw_tb := tb_in 631 (by decide +kernel)
theorem tw_632 : Cond.laysFinal "BondedWallModel" "BondedWallModel" "laidOf" "[I" ∈ lw_tb := tb_in 632 (by decide +kernel)
theorem tw_633 : Cond.soleField "BondedWallModel" "laidOf" ∈ lw_tb := tb_in 633 (by decide +kernel)
theorem tw_634 : Cond.laysFinal "BondedWallModel" "BondedWallModel" "priceOf" "[I" ∈ lw_tb := tb_in 634 (by decide +kernel)
theorem tw_635 : Cond.soleField "BondedWallModel" "priceOf" ∈ lw_tb := tb_in 635 (by decide +kernel)
theorem tw_636 : Cond.laysFinal "BondedWallModel" "BondedWallModel" "endsOf" "[I" ∈ lw_tb := tb_in 636 (by decide +kernel)
theorem tw_637 : Cond.soleField "BondedWallModel" "endsOf" ∈ lw_tb := tb_in 637 (by decide +kernel)
theorem tw_638 : Cond.lays "BondedWallModel" "BondedWallModel" "lapNow" "I" ∈ lw_tb := tb_in 638 (by decide +kernel)
theorem tw_639 : Cond.soleField "BondedWallModel" "lapNow" ∈ lw_tb := tb_in 639 (by decide +kernel)
theorem tw_640 : Cond.laysFinal "BondedWallModel" "BondedWallModel" "rowMany" "[I" ∈ lw_tb := tb_in 640 (by decide +kernel)
theorem tw_641 : Cond.soleField "BondedWallModel" "rowMany" ∈ lw_tb := tb_in 641 (by decide +kernel)
theorem tw_642 : Cond.laysFinal "BondedWallModel" "BondedWallModel" "rowAt" "[I" ∈ lw_tb := tb_in 642 (by decide +kernel)
theorem tw_643 : Cond.soleField "BondedWallModel" "rowAt" ∈ lw_tb := tb_in 643 (by decide +kernel)
theorem tw_644 : Cond.laysFinal "BondedWallModel" "BondedWallModel" "leastFrom" "[I" ∈ lw_tb := tb_in 644 (by decide +kernel)
theorem tw_645 : Cond.soleField "BondedWallModel" "leastFrom" ∈ lw_tb := tb_in 645 (by decide +kernel)
theorem tw_646 : Cond.laysFinal "BondedWallModel" "BondedWallModel" "waysFrom" "[J" ∈ lw_tb := tb_in 646 (by decide +kernel)
theorem tw_647 : Cond.soleField "BondedWallModel" "waysFrom" ∈ lw_tb := tb_in 647 (by decide +kernel)
theorem tw_648 : Cond.laysFinal "BondedWallModel" "BondedWallModel" "bestAt" "[I" ∈ lw_tb := tb_in 648 (by decide +kernel)
theorem tw_649 : Cond.soleField "BondedWallModel" "bestAt" ∈ lw_tb := tb_in 649 (by decide +kernel)
theorem tw_650 : Cond.laysFinal "BondedWallModel" "BondedWallModel" "isReached" "[Z" ∈ lw_tb := tb_in 650 (by decide +kernel)
theorem tw_651 : Cond.soleField "BondedWallModel" "isReached" ∈ lw_tb := tb_in 651 (by decide +kernel)
theorem tw_652 : Cond.superclass "BondedWallModel" "java/lang/Object" ∈ lw_tb := tb_in 652 (by decide +kernel)
theorem tw_653 : Cond.arrayClass .boolean ∈ lw_tb := tb_in 653 (by decide +kernel)
theorem tw_654 : Cond.methodLink RL 17 yX8_width ∈ lw_tb := tb_in 654 (by decide +kernel)
theorem tw_655 : Cond.instanceMethod yX8_width ∈ lw_tb := tb_in 655 (by decide +kernel)
theorem tw_656 : Cond.selects RX8 yX8_width yX8_width ∈ lw_tb := tb_in 656 (by decide +kernel)
theorem tw_657 : Cond.code yX8_width cX8_width 2 (some .int) ∈ lw_tb := tb_in 657 (by decide +kernel)
theorem tw_658 : Cond.methodLink RX8 58 yX8_within ∈ lw_tb := tb_in 658 (by decide +kernel)
theorem tw_659 : Cond.static yX8_within ∈ lw_tb := tb_in 659 (by decide +kernel)
theorem tw_660 : Cond.code yX8_within cX8_within 3 (some .boolean) ∈ lw_tb := tb_in 660 (by decide +kernel)
theorem tw_661 : Cond.methodLink RL 22 yX8_course ∈ lw_tb := tb_in 661 (by decide +kernel)
theorem tw_662 : Cond.instanceMethod yX8_course ∈ lw_tb := tb_in 662 (by decide +kernel)
theorem tw_663 : Cond.selects RX8 yX8_course yX8_course ∈ lw_tb := tb_in 663 (by decide +kernel)
theorem tw_664 : Cond.code yX8_course cX8_course 1 (some .int) ∈ lw_tb := tb_in 664 (by decide +kernel)
theorem tw_665 : Cond.methodLink RL 26 yX8_take ∈ lw_tb := tb_in 665 (by decide +kernel)
theorem tw_666 : Cond.instanceMethod yX8_take ∈ lw_tb := tb_in 666 (by decide +kernel)
theorem tw_667 : Cond.selects RX8 yX8_take yX8_take ∈ lw_tb := tb_in 667 (by decide +kernel)
theorem tw_668 : Cond.code yX8_take cX8_take 1 (some .int) ∈ lw_tb := tb_in 668 (by decide +kernel)
theorem tw_669 : Cond.methodLink RL 31 yX8_open ∈ lw_tb := tb_in 669 (by decide +kernel)
theorem tw_670 : Cond.instanceMethod yX8_open ∈ lw_tb := tb_in 670 (by decide +kernel)
theorem tw_671 : Cond.selects RX8 yX8_open yX8_open ∈ lw_tb := tb_in 671 (by decide +kernel)
theorem tw_672 : Cond.code yX8_open cX8_open 4 (some .int) ∈ lw_tb := tb_in 672 (by decide +kernel)
theorem tw_673 : Cond.methodLink RX8 62 yX8_isCourse ∈ lw_tb := tb_in 673 (by decide +kernel)
theorem tn_674 : Cond.privateMethod yX8_isCourse ∈ lw_tbl := List.mem_of_getElem? (i := 674) (by decide +kernel)
theorem tw_675 : Cond.instanceMethod yX8_isCourse ∈ lw_tb := tb_in 675 (by decide +kernel)
theorem tw_676 : Cond.code yX8_isCourse cX8_isCourse 2 (some .boolean) ∈ lw_tb := tb_in 676 (by decide +kernel)
theorem tw_677 : Cond.methodLink RL 36 yX8_must ∈ lw_tb := tb_in 677 (by decide +kernel)
theorem tw_678 : Cond.instanceMethod yX8_must ∈ lw_tb := tb_in 678 (by decide +kernel)
theorem tw_679 : Cond.selects RX8 yX8_must yX8_must ∈ lw_tb := tb_in 679 (by decide +kernel)
theorem tw_680 : Cond.code yX8_must cX8_must 5 (some .int) ∈ lw_tb := tb_in 680 (by decide +kernel)
theorem tw_681 : Cond.methodLink RX8 66 yX8_arePlaces ∈ lw_tb := tb_in 681 (by decide +kernel)
theorem tn_682 : Cond.privateMethod yX8_arePlaces ∈ lw_tbl := List.mem_of_getElem? (i := 682) (by decide +kernel)
theorem tw_683 : Cond.instanceMethod yX8_arePlaces ∈ lw_tb := tb_in 683 (by decide +kernel)
theorem tw_684 : Cond.code yX8_arePlaces cX8_arePlaces 2 (some .boolean) ∈ lw_tb := tb_in 684 (by decide +kernel)
theorem tw_685 : Cond.methodLink RL 40 yX8_price ∈ lw_tb := tb_in 685 (by decide +kernel)
theorem tw_686 : Cond.instanceMethod yX8_price ∈ lw_tb := tb_in 686 (by decide +kernel)
theorem tw_687 : Cond.selects RX8 yX8_price yX8_price ∈ lw_tb := tb_in 687 (by decide +kernel)
theorem tw_688 : Cond.code yX8_price cX8_price 4 (some .int) ∈ lw_tb := tb_in 688 (by decide +kernel)
theorem tw_689 : Cond.methodLink RL 44 yX8_lap ∈ lw_tb := tb_in 689 (by decide +kernel)
theorem tw_690 : Cond.instanceMethod yX8_lap ∈ lw_tb := tb_in 690 (by decide +kernel)
theorem tw_691 : Cond.selects RX8 yX8_lap yX8_lap ∈ lw_tb := tb_in 691 (by decide +kernel)
theorem tw_692 : Cond.code yX8_lap cX8_lap 3 (some .int) ∈ lw_tb := tb_in 692 (by decide +kernel)
theorem tw_693 : Cond.methodLink RL 48 yX8_ends ∈ lw_tb := tb_in 693 (by decide +kernel)
theorem tw_694 : Cond.instanceMethod yX8_ends ∈ lw_tb := tb_in 694 (by decide +kernel)
theorem tw_695 : Cond.selects RX8 yX8_ends yX8_ends ∈ lw_tb := tb_in 695 (by decide +kernel)
theorem tw_696 : Cond.code yX8_ends cX8_ends 5 (some .int) ∈ lw_tb := tb_in 696 (by decide +kernel)
theorem tw_697 : Cond.methodLink RL 52 yX8_ofCourse ∈ lw_tb := tb_in 697 (by decide +kernel)
theorem tw_698 : Cond.instanceMethod yX8_ofCourse ∈ lw_tb := tb_in 698 (by decide +kernel)
theorem tw_699 : Cond.selects RX8 yX8_ofCourse yX8_ofCourse ∈ lw_tb := tb_in 699 (by decide +kernel)
theorem tw_700 : Cond.code yX8_ofCourse cX8_ofCourse 3 (some .int) ∈ lw_tb := tb_in 700 (by decide +kernel)
theorem tw_701 : Cond.methodLink RX8 73 yX8_spansOf ∈ lw_tb := tb_in 701 (by decide +kernel)
theorem tn_702 : Cond.privateMethod yX8_spansOf ∈ lw_tbl := List.mem_of_getElem? (i := 702) (by decide +kernel)
theorem tw_703 : Cond.instanceMethod yX8_spansOf ∈ lw_tb := tb_in 703 (by decide +kernel)
theorem tw_704 : Cond.code yX8_spansOf cX8_spansOf 4 (some .int) ∈ lw_tb := tb_in 704 (by decide +kernel)
theorem tw_705 : Cond.methodLink RX8 69 yX8_has ∈ lw_tb := tb_in 705 (by decide +kernel)
theorem tw_706 : Cond.static yX8_has ∈ lw_tb := tb_in 706 (by decide +kernel)
theorem tw_707 : Cond.code yX8_has cX8_has 2 (some .boolean) ∈ lw_tb := tb_in 707 (by decide +kernel)
theorem tw_708 : Cond.methodLink RL 56 yX8_row ∈ lw_tb := tb_in 708 (by decide +kernel)
theorem tw_709 : Cond.instanceMethod yX8_row ∈ lw_tb := tb_in 709 (by decide +kernel)
theorem tw_710 : Cond.selects RX8 yX8_row yX8_row ∈ lw_tb := tb_in 710 (by decide +kernel)
theorem tw_711 : Cond.code yX8_row cX8_row 3 (some .int) ∈ lw_tb := tb_in 711 (by decide +kernel)
theorem tw_712 : Cond.methodLink RX8 107 yX8_findRows ∈ lw_tb := tb_in 712 (by decide +kernel)
theorem tn_713 : Cond.privateMethod yX8_findRows ∈ lw_tbl := List.mem_of_getElem? (i := 713) (by decide +kernel)
theorem tw_714 : Cond.instanceMethod yX8_findRows ∈ lw_tb := tb_in 714 (by decide +kernel)
theorem tw_715 : Cond.code yX8_findRows cX8_findRows 3 none ∈ lw_tb := tb_in 715 (by decide +kernel)
theorem tw_716 : Cond.methodLink RX8 103 yX8_ruleOf ∈ lw_tb := tb_in 716 (by decide +kernel)
theorem tn_717 : Cond.privateMethod yX8_ruleOf ∈ lw_tbl := List.mem_of_getElem? (i := 717) (by decide +kernel)
theorem tw_718 : Cond.instanceMethod yX8_ruleOf ∈ lw_tb := tb_in 718 (by decide +kernel)
theorem tw_719 : Cond.code yX8_ruleOf cX8_ruleOf 3 (some .int) ∈ lw_tb := tb_in 719 (by decide +kernel)
theorem tw_720 : Cond.methodLink RX8 94 yX8_isWithin ∈ lw_tb := tb_in 720 (by decide +kernel)
theorem tn_721 : Cond.privateMethod yX8_isWithin ∈ lw_tbl := List.mem_of_getElem? (i := 721) (by decide +kernel)
theorem tw_722 : Cond.instanceMethod yX8_isWithin ∈ lw_tb := tb_in 722 (by decide +kernel)
theorem tw_723 : Cond.code yX8_isWithin cX8_isWithin 5 (some .boolean) ∈ lw_tb := tb_in 723 (by decide +kernel)
theorem tw_724 : Cond.methodLink RX8 97 yX8_somePiece ∈ lw_tb := tb_in 724 (by decide +kernel)
theorem tn_725 : Cond.privateMethod yX8_somePiece ∈ lw_tbl := List.mem_of_getElem? (i := 725) (by decide +kernel)
theorem tw_726 : Cond.instanceMethod yX8_somePiece ∈ lw_tb := tb_in 726 (by decide +kernel)
theorem tw_727 : Cond.code yX8_somePiece cX8_somePiece 6 (some .boolean) ∈ lw_tb := tb_in 727 (by decide +kernel)
theorem tw_728 : Cond.methodLink RX8 77 yX8_begins ∈ lw_tb := tb_in 728 (by decide +kernel)
theorem tn_729 : Cond.privateMethod yX8_begins ∈ lw_tbl := List.mem_of_getElem? (i := 729) (by decide +kernel)
theorem tw_730 : Cond.instanceMethod yX8_begins ∈ lw_tb := tb_in 730 (by decide +kernel)
theorem tw_731 : Cond.code yX8_begins cX8_begins 4 (some .boolean) ∈ lw_tb := tb_in 731 (by decide +kernel)
theorem tw_732 : Cond.methodLink RX8 80 yX8_lengthFrom ∈ lw_tb := tb_in 732 (by decide +kernel)
theorem tn_733 : Cond.privateMethod yX8_lengthFrom ∈ lw_tbl := List.mem_of_getElem? (i := 733) (by decide +kernel)
theorem tw_734 : Cond.instanceMethod yX8_lengthFrom ∈ lw_tb := tb_in 734 (by decide +kernel)
theorem tw_735 : Cond.code yX8_lengthFrom cX8_lengthFrom 5 (some .int) ∈ lw_tb := tb_in 735 (by decide +kernel)
theorem tw_736 : Cond.methodLink RX8 90 yX8_breaks ∈ lw_tb := tb_in 736 (by decide +kernel)
theorem tn_737 : Cond.privateMethod yX8_breaks ∈ lw_tbl := List.mem_of_getElem? (i := 737) (by decide +kernel)
theorem tw_738 : Cond.instanceMethod yX8_breaks ∈ lw_tb := tb_in 738 (by decide +kernel)
theorem tw_739 : Cond.code yX8_breaks cX8_breaks 8 (some .boolean) ∈ lw_tb := tb_in 739 (by decide +kernel)
theorem tw_740 : Cond.methodLink RX8 87 yX8_isPriced ∈ lw_tb := tb_in 740 (by decide +kernel)
theorem tn_741 : Cond.privateMethod yX8_isPriced ∈ lw_tbl := List.mem_of_getElem? (i := 741) (by decide +kernel)
theorem tw_742 : Cond.instanceMethod yX8_isPriced ∈ lw_tb := tb_in 742 (by decide +kernel)
theorem tw_743 : Cond.code yX8_isPriced cX8_isPriced 2 (some .boolean) ∈ lw_tb := tb_in 743 (by decide +kernel)
theorem tw_744 : Cond.methodLink RX8 100 yX8_areEnds ∈ lw_tb := tb_in 744 (by decide +kernel)
theorem tn_745 : Cond.privateMethod yX8_areEnds ∈ lw_tbl := List.mem_of_getElem? (i := 745) (by decide +kernel)
theorem tw_746 : Cond.instanceMethod yX8_areEnds ∈ lw_tb := tb_in 746 (by decide +kernel)
theorem tw_747 : Cond.code yX8_areEnds cX8_areEnds 6 (some .boolean) ∈ lw_tb := tb_in 747 (by decide +kernel)
theorem tw_748 : Cond.methodLink RX8 84 yX8_firstOf ∈ lw_tb := tb_in 748 (by decide +kernel)
theorem tn_749 : Cond.privateMethod yX8_firstOf ∈ lw_tbl := List.mem_of_getElem? (i := 749) (by decide +kernel)
theorem tw_750 : Cond.instanceMethod yX8_firstOf ∈ lw_tb := tb_in 750 (by decide +kernel)
theorem tw_751 : Cond.code yX8_firstOf cX8_firstOf 5 (some .int) ∈ lw_tb := tb_in 751 (by decide +kernel)
theorem tw_752 : Cond.methodLink RL 61 yX8_walls ∈ lw_tb := tb_in 752 (by decide +kernel)
theorem tw_753 : Cond.instanceMethod yX8_walls ∈ lw_tb := tb_in 753 (by decide +kernel)
theorem tw_754 : Cond.selects RX8 yX8_walls yX8_walls ∈ lw_tb := tb_in 754 (by decide +kernel)
theorem tw_755 : Cond.code yX8_walls cX8_walls 4 (some .long) ∈ lw_tb := tb_in 755 (by decide +kernel)
theorem tw_756 : Cond.methodLink RX8 122 yX8_findAll ∈ lw_tb := tb_in 756 (by decide +kernel)
theorem tn_757 : Cond.privateMethod yX8_findAll ∈ lw_tbl := List.mem_of_getElem? (i := 757) (by decide +kernel)
theorem tw_758 : Cond.instanceMethod yX8_findAll ∈ lw_tb := tb_in 758 (by decide +kernel)
theorem tw_759 : Cond.code yX8_findAll cX8_findAll 4 none ∈ lw_tb := tb_in 759 (by decide +kernel)
theorem tw_760 : Cond.methodLink RX8 111 yX8_findFrom ∈ lw_tb := tb_in 760 (by decide +kernel)
theorem tn_761 : Cond.privateMethod yX8_findFrom ∈ lw_tbl := List.mem_of_getElem? (i := 761) (by decide +kernel)
theorem tw_762 : Cond.instanceMethod yX8_findFrom ∈ lw_tb := tb_in 762 (by decide +kernel)
theorem tw_763 : Cond.code yX8_findFrom cX8_findFrom 11 none ∈ lw_tb := tb_in 763 (by decide +kernel)
theorem tw_764 : Cond.constant RX8 115 (1000000000 : Int32) ∈ lw_tb := tb_in 764 (by decide +kernel)
theorem tw_765 : Cond.methodLink RX8 116 yX8_around ∈ lw_tb := tb_in 765 (by decide +kernel)
theorem tw_766 : Cond.static yX8_around ∈ lw_tb := tb_in 766 (by decide +kernel)
theorem tw_767 : Cond.code yX8_around cX8_around 4 (some .int) ∈ lw_tb := tb_in 767 (by decide +kernel)
theorem tw_768 : Cond.methodLink RX8 119 yX8_costOf ∈ lw_tb := tb_in 768 (by decide +kernel)
theorem tn_769 : Cond.privateMethod yX8_costOf ∈ lw_tbl := List.mem_of_getElem? (i := 769) (by decide +kernel)
theorem tw_770 : Cond.instanceMethod yX8_costOf ∈ lw_tb := tb_in 770 (by decide +kernel)
theorem tw_771 : Cond.code yX8_costOf cX8_costOf 6 (some .int) ∈ lw_tb := tb_in 771 (by decide +kernel)
theorem tw_772 : Cond.methodLink RL 65 yX8_best ∈ lw_tb := tb_in 772 (by decide +kernel)
theorem tw_773 : Cond.instanceMethod yX8_best ∈ lw_tb := tb_in 773 (by decide +kernel)
theorem tw_774 : Cond.selects RX8 yX8_best yX8_best ∈ lw_tb := tb_in 774 (by decide +kernel)
theorem tw_775 : Cond.code yX8_best cX8_best 1 (some .int) ∈ lw_tb := tb_in 775 (by decide +kernel)
theorem tw_776 : Cond.methodLink RX8 125 yX8_leastCost ∈ lw_tb := tb_in 776 (by decide +kernel)
theorem tn_777 : Cond.privateMethod yX8_leastCost ∈ lw_tbl := List.mem_of_getElem? (i := 777) (by decide +kernel)
theorem tw_778 : Cond.instanceMethod yX8_leastCost ∈ lw_tb := tb_in 778 (by decide +kernel)
theorem tw_779 : Cond.code yX8_leastCost cX8_leastCost 4 (some .int) ∈ lw_tb := tb_in 779 (by decide +kernel)
theorem tw_780 : Cond.methodLink RL 69 yX8_bestRow ∈ lw_tb := tb_in 780 (by decide +kernel)
theorem tw_781 : Cond.instanceMethod yX8_bestRow ∈ lw_tb := tb_in 781 (by decide +kernel)
theorem tw_782 : Cond.selects RX8 yX8_bestRow yX8_bestRow ∈ lw_tb := tb_in 782 (by decide +kernel)
theorem tw_783 : Cond.code yX8_bestRow cX8_bestRow 2 (some .int) ∈ lw_tb := tb_in 783 (by decide +kernel)
theorem tw_784 : Cond.methodLink RX8 128 yX8_hasBest ∈ lw_tb := tb_in 784 (by decide +kernel)
theorem tn_785 : Cond.privateMethod yX8_hasBest ∈ lw_tbl := List.mem_of_getElem? (i := 785) (by decide +kernel)
theorem tw_786 : Cond.instanceMethod yX8_hasBest ∈ lw_tb := tb_in 786 (by decide +kernel)
theorem tw_787 : Cond.code yX8_hasBest cX8_hasBest 5 (some .boolean) ∈ lw_tb := tb_in 787 (by decide +kernel)
theorem tw_788 : Cond.methodLink RL 73 yX8_bestOf ∈ lw_tb := tb_in 788 (by decide +kernel)
theorem tw_789 : Cond.instanceMethod yX8_bestOf ∈ lw_tb := tb_in 789 (by decide +kernel)
theorem tw_790 : Cond.selects RX8 yX8_bestOf yX8_bestOf ∈ lw_tb := tb_in 790 (by decide +kernel)
theorem tw_791 : Cond.code yX8_bestOf cX8_bestOf 4 (some .int) ∈ lw_tb := tb_in 791 (by decide +kernel)
theorem tw_792 : Cond.methodLink RX8 132 yX8_piecesIn ∈ lw_tb := tb_in 792 (by decide +kernel)
theorem tn_793 : Cond.privateMethod yX8_piecesIn ∈ lw_tbl := List.mem_of_getElem? (i := 793) (by decide +kernel)
theorem tw_794 : Cond.instanceMethod yX8_piecesIn ∈ lw_tb := tb_in 794 (by decide +kernel)
theorem tw_795 : Cond.code yX8_piecesIn cX8_piecesIn 6 (some .int) ∈ lw_tb := tb_in 795 (by decide +kernel)
theorem tw_796 : Cond.methodLink RL 77 yX8_highest ∈ lw_tb := tb_in 796 (by decide +kernel)
theorem tw_797 : Cond.instanceMethod yX8_highest ∈ lw_tb := tb_in 797 (by decide +kernel)
theorem tw_798 : Cond.selects RX8 yX8_highest yX8_highest ∈ lw_tb := tb_in 798 (by decide +kernel)
theorem tw_799 : Cond.code yX8_highest cX8_highest 3 (some .int) ∈ lw_tb := tb_in 799 (by decide +kernel)
theorem tw_800 : Cond.methodLink RX8 135 yX8_reaches ∈ lw_tb := tb_in 800 (by decide +kernel)
theorem tn_801 : Cond.privateMethod yX8_reaches ∈ lw_tbl := List.mem_of_getElem? (i := 801) (by decide +kernel)
theorem tw_802 : Cond.instanceMethod yX8_reaches ∈ lw_tb := tb_in 802 (by decide +kernel)
theorem tw_803 : Cond.code yX8_reaches cX8_reaches 6 (some .boolean) ∈ lw_tb := tb_in 803 (by decide +kernel)
theorem tw_804 : Cond.methodLink RL 81 yX8_byLap ∈ lw_tb := tb_in 804 (by decide +kernel)
theorem tw_805 : Cond.instanceMethod yX8_byLap ∈ lw_tb := tb_in 805 (by decide +kernel)
theorem tw_806 : Cond.selects RX8 yX8_byLap yX8_byLap ∈ lw_tb := tb_in 806 (by decide +kernel)
theorem tw_807 : Cond.code yX8_byLap cX8_byLap 2 (some .int) ∈ lw_tb := tb_in 807 (by decide +kernel)
theorem tw_808 : Cond.methodLink RL 85 yX8_lay ∈ lw_tb := tb_in 808 (by decide +kernel)
theorem tw_809 : Cond.instanceMethod yX8_lay ∈ lw_tb := tb_in 809 (by decide +kernel)
theorem tw_810 : Cond.selects RX8 yX8_lay yX8_lay ∈ lw_tb := tb_in 810 (by decide +kernel)
theorem tw_811 : Cond.code yX8_lay cX8_lay 4 (some .int) ∈ lw_tb := tb_in 811 (by decide +kernel)
theorem tw_812 : Cond.methodLink RL 89 yX8_layBest ∈ lw_tb := tb_in 812 (by decide +kernel)
theorem tw_813 : Cond.instanceMethod yX8_layBest ∈ lw_tb := tb_in 813 (by decide +kernel)
theorem tw_814 : Cond.selects RX8 yX8_layBest yX8_layBest ∈ lw_tb := tb_in 814 (by decide +kernel)
theorem tw_815 : Cond.code yX8_layBest cX8_layBest 2 (some .int) ∈ lw_tb := tb_in 815 (by decide +kernel)
theorem tw_816 : Cond.methodLink RX8 138 yX8_laidCost ∈ lw_tb := tb_in 816 (by decide +kernel)
theorem tn_817 : Cond.privateMethod yX8_laidCost ∈ lw_tbl := List.mem_of_getElem? (i := 817) (by decide +kernel)
theorem tw_818 : Cond.instanceMethod yX8_laidCost ∈ lw_tb := tb_in 818 (by decide +kernel)
theorem tw_819 : Cond.code yX8_laidCost cX8_laidCost 3 (some .int) ∈ lw_tb := tb_in 819 (by decide +kernel)
theorem tw_820 : Cond.methodLink RL 93 yX8_wrong ∈ lw_tb := tb_in 820 (by decide +kernel)
theorem tw_821 : Cond.instanceMethod yX8_wrong ∈ lw_tb := tb_in 821 (by decide +kernel)
theorem tw_822 : Cond.selects RX8 yX8_wrong yX8_wrong ∈ lw_tb := tb_in 822 (by decide +kernel)
theorem tw_823 : Cond.code yX8_wrong cX8_wrong 4 (some .int) ∈ lw_tb := tb_in 823 (by decide +kernel)
theorem tw_824 : Cond.methodLink RX8 142 yX8_laidRule ∈ lw_tb := tb_in 824 (by decide +kernel)
theorem tn_825 : Cond.privateMethod yX8_laidRule ∈ lw_tbl := List.mem_of_getElem? (i := 825) (by decide +kernel)
theorem tw_826 : Cond.instanceMethod yX8_laidRule ∈ lw_tb := tb_in 826 (by decide +kernel)
theorem tw_827 : Cond.code yX8_laidRule cX8_laidRule 4 (some .int) ∈ lw_tb := tb_in 827 (by decide +kernel)
theorem tw_828 : Cond.methodLink RL 97 yX8_cost ∈ lw_tb := tb_in 828 (by decide +kernel)
theorem tw_829 : Cond.instanceMethod yX8_cost ∈ lw_tb := tb_in 829 (by decide +kernel)
theorem tw_830 : Cond.selects RX8 yX8_cost yX8_cost ∈ lw_tb := tb_in 830 (by decide +kernel)
theorem tw_831 : Cond.code yX8_cost cX8_cost 1 (some .int) ∈ lw_tb := tb_in 831 (by decide +kernel)
theorem tw_832 : Cond.methodLink RL 101 yX8_pieces ∈ lw_tb := tb_in 832 (by decide +kernel)
theorem tw_833 : Cond.instanceMethod yX8_pieces ∈ lw_tb := tb_in 833 (by decide +kernel)
theorem tw_834 : Cond.selects RX8 yX8_pieces yX8_pieces ∈ lw_tb := tb_in 834 (by decide +kernel)
theorem tw_835 : Cond.code yX8_pieces cX8_pieces 2 (some .int) ∈ lw_tb := tb_in 835 (by decide +kernel)
theorem tw_836 : Cond.methodLink RX8 145 yX8_laidPieces ∈ lw_tb := tb_in 836 (by decide +kernel)
theorem tn_837 : Cond.privateMethod yX8_laidPieces ∈ lw_tbl := List.mem_of_getElem? (i := 837) (by decide +kernel)
theorem tw_838 : Cond.instanceMethod yX8_laidPieces ∈ lw_tb := tb_in 838 (by decide +kernel)
theorem tw_839 : Cond.code yX8_laidPieces cX8_laidPieces 4 (some .int) ∈ lw_tb := tb_in 839 (by decide +kernel)
theorem tw_840 : Cond.methodLink RL 105 yX8_piece ∈ lw_tb := tb_in 840 (by decide +kernel)
theorem tw_841 : Cond.instanceMethod yX8_piece ∈ lw_tb := tb_in 841 (by decide +kernel)
theorem tw_842 : Cond.selects RX8 yX8_piece yX8_piece ∈ lw_tb := tb_in 842 (by decide +kernel)
theorem tw_843 : Cond.code yX8_piece cX8_piece 3 (some .int) ∈ lw_tb := tb_in 843 (by decide +kernel)
theorem tw_844 : Cond.methodLink RL 109 yX8_cut ∈ lw_tb := tb_in 844 (by decide +kernel)
theorem tw_845 : Cond.instanceMethod yX8_cut ∈ lw_tb := tb_in 845 (by decide +kernel)
theorem tw_846 : Cond.selects RX8 yX8_cut yX8_cut ∈ lw_tb := tb_in 846 (by decide +kernel)
theorem tw_847 : Cond.code yX8_cut cX8_cut 3 (some .int) ∈ lw_tb := tb_in 847 (by decide +kernel)
theorem tw_848 : Cond.methodLink RL 113 yX8_many ∈ lw_tb := tb_in 848 (by decide +kernel)
theorem tw_849 : Cond.instanceMethod yX8_many ∈ lw_tb := tb_in 849 (by decide +kernel)
theorem tw_850 : Cond.selects RX8 yX8_many yX8_many ∈ lw_tb := tb_in 850 (by decide +kernel)
theorem tw_851 : Cond.code yX8_many cX8_many 2 (some .int) ∈ lw_tb := tb_in 851 (by decide +kernel)
theorem tw_852 : Cond.methodLink RX8 148 yX8_sumOf ∈ lw_tb := tb_in 852 (by decide +kernel)
theorem tn_853 : Cond.privateMethod yX8_sumOf ∈ lw_tbl := List.mem_of_getElem? (i := 853) (by decide +kernel)
theorem tw_854 : Cond.instanceMethod yX8_sumOf ∈ lw_tb := tb_in 854 (by decide +kernel)
theorem tw_855 : Cond.code yX8_sumOf cX8_sumOf 4 (some .int) ∈ lw_tb := tb_in 855 (by decide +kernel)
theorem tw_856 : Cond.methodLink RX8 155 yX8_sizeOf ∈ lw_tb := tb_in 856 (by decide +kernel)
theorem tw_857 : Cond.static yX8_sizeOf ∈ lw_tb := tb_in 857 (by decide +kernel)
theorem tw_858 : Cond.code yX8_sizeOf cX8_sizeOf 3 (some .int) ∈ lw_tb := tb_in 858 (by decide +kernel)
theorem tw_859 : Cond.methodLink RX8 152 yX8_allPieces ∈ lw_tb := tb_in 859 (by decide +kernel)
theorem tn_860 : Cond.privateMethod yX8_allPieces ∈ lw_tbl := List.mem_of_getElem? (i := 860) (by decide +kernel)
theorem tw_861 : Cond.instanceMethod yX8_allPieces ∈ lw_tb := tb_in 861 (by decide +kernel)
theorem tw_862 : Cond.code yX8_allPieces cX8_allPieces 3 (some .int) ∈ lw_tb := tb_in 862 (by decide +kernel)
end
section
theorem dX8_init_0 : decode cX8_init 0 = .ok (.aload_n 0, 1) := by decide +kernel
theorem dX8_init_1 : decode cX8_init 1 = .ok (.invokespecial 1, 3) := by decide +kernel
theorem dX8_init_4 : decode cX8_init 4 = .ok (.aload_n 0, 1) := by decide +kernel
theorem dX8_init_5 : decode cX8_init 5 = .ok (.bipush 8, 2) := by decide +kernel
theorem dX8_init_7 : decode cX8_init 7 = .ok (.putfield 7, 3) := by decide +kernel
theorem dX8_init_10 : decode cX8_init 10 = .ok (.aload_n 0, 1) := by decide +kernel
theorem dX8_init_11 : decode cX8_init 11 = .ok (.bipush 8, 2) := by decide +kernel
theorem dX8_init_13 : decode cX8_init 13 = .ok (.newarray .int, 2) := by decide +kernel
theorem dX8_init_15 : decode cX8_init 15 = .ok (.putfield 13, 3) := by decide +kernel
theorem dX8_init_18 : decode cX8_init 18 = .ok (.aload_n 0, 1) := by decide +kernel
theorem dX8_init_19 : decode cX8_init 19 = .ok (.bipush 8, 2) := by decide +kernel
theorem dX8_init_21 : decode cX8_init 21 = .ok (.newarray .int, 2) := by decide +kernel
theorem dX8_init_23 : decode cX8_init 23 = .ok (.putfield 17, 3) := by decide +kernel
theorem dX8_init_26 : decode cX8_init 26 = .ok (.aload_n 0, 1) := by decide +kernel
theorem dX8_init_27 : decode cX8_init 27 = .ok (.bipush 8, 2) := by decide +kernel
theorem dX8_init_29 : decode cX8_init 29 = .ok (.newarray .int, 2) := by decide +kernel
theorem dX8_init_31 : decode cX8_init 31 = .ok (.putfield 20, 3) := by decide +kernel
theorem dX8_init_34 : decode cX8_init 34 = .ok (.aload_n 0, 1) := by decide +kernel
theorem dX8_init_35 : decode cX8_init 35 = .ok (.bipush 8, 2) := by decide +kernel
theorem dX8_init_37 : decode cX8_init 37 = .ok (.newarray .int, 2) := by decide +kernel
theorem dX8_init_39 : decode cX8_init 39 = .ok (.putfield 23, 3) := by decide +kernel
theorem dX8_init_42 : decode cX8_init 42 = .ok (.aload_n 0, 1) := by decide +kernel
theorem dX8_init_43 : decode cX8_init 43 = .ok (.bipush 7, 2) := by decide +kernel
theorem dX8_init_45 : decode cX8_init 45 = .ok (.newarray .int, 2) := by decide +kernel
theorem dX8_init_47 : decode cX8_init 47 = .ok (.putfield 26, 3) := by decide +kernel
theorem dX8_init_50 : decode cX8_init 50 = .ok (.aload_n 0, 1) := by decide +kernel
theorem dX8_init_51 : decode cX8_init 51 = .ok (.iconst 4, 1) := by decide +kernel
theorem dX8_init_52 : decode cX8_init 52 = .ok (.newarray .int, 2) := by decide +kernel
theorem dX8_init_54 : decode cX8_init 54 = .ok (.putfield 29, 3) := by decide +kernel
theorem dX8_init_57 : decode cX8_init 57 = .ok (.aload_n 0, 1) := by decide +kernel
theorem dX8_init_58 : decode cX8_init 58 = .ok (.iconst 1, 1) := by decide +kernel
theorem dX8_init_59 : decode cX8_init 59 = .ok (.putfield 32, 3) := by decide +kernel
theorem dX8_init_62 : decode cX8_init 62 = .ok (.aload_n 0, 1) := by decide +kernel
theorem dX8_init_63 : decode cX8_init 63 = .ok (.bipush 8, 2) := by decide +kernel
theorem dX8_init_65 : decode cX8_init 65 = .ok (.newarray .int, 2) := by decide +kernel
theorem dX8_init_67 : decode cX8_init 67 = .ok (.putfield 35, 3) := by decide +kernel
theorem dX8_init_70 : decode cX8_init 70 = .ok (.aload_n 0, 1) := by decide +kernel
theorem dX8_init_71 : decode cX8_init 71 = .ok (.sipush 4096, 3) := by decide +kernel
theorem dX8_init_74 : decode cX8_init 74 = .ok (.newarray .int, 2) := by decide +kernel
theorem dX8_init_76 : decode cX8_init 76 = .ok (.putfield 38, 3) := by decide +kernel
theorem dX8_init_79 : decode cX8_init 79 = .ok (.aload_n 0, 1) := by decide +kernel
theorem dX8_init_80 : decode cX8_init 80 = .ok (.sipush 4096, 3) := by decide +kernel
theorem dX8_init_83 : decode cX8_init 83 = .ok (.newarray .int, 2) := by decide +kernel
theorem dX8_init_85 : decode cX8_init 85 = .ok (.putfield 41, 3) := by decide +kernel
theorem dX8_init_88 : decode cX8_init 88 = .ok (.aload_n 0, 1) := by decide +kernel
theorem dX8_init_89 : decode cX8_init 89 = .ok (.sipush 4096, 3) := by decide +kernel
theorem dX8_init_92 : decode cX8_init 92 = .ok (.newarray .long, 2) := by decide +kernel
theorem dX8_init_94 : decode cX8_init 94 = .ok (.putfield 44, 3) := by decide +kernel
theorem dX8_init_97 : decode cX8_init 97 = .ok (.aload_n 0, 1) := by decide +kernel
theorem dX8_init_98 : decode cX8_init 98 = .ok (.bipush 8, 2) := by decide +kernel
theorem dX8_init_100 : decode cX8_init 100 = .ok (.newarray .int, 2) := by decide +kernel
theorem dX8_init_102 : decode cX8_init 102 = .ok (.putfield 48, 3) := by decide +kernel
theorem dX8_init_105 : decode cX8_init 105 = .ok (.aload_n 0, 1) := by decide +kernel
theorem dX8_init_106 : decode cX8_init 106 = .ok (.sipush 4096, 3) := by decide +kernel
theorem dX8_init_109 : decode cX8_init 109 = .ok (.newarray .boolean, 2) := by decide +kernel
theorem dX8_init_111 : decode cX8_init 111 = .ok (.putfield 51, 3) := by decide +kernel
theorem dX8_init_114 : decode cX8_init 114 = .ok (.aload_n 0, 1) := by decide +kernel
theorem dX8_init_115 : decode cX8_init 115 = .ok (.getfield 26, 3) := by decide +kernel
theorem dX8_init_118 : decode cX8_init 118 = .ok (.iconst 1, 1) := by decide +kernel
theorem dX8_init_119 : decode cX8_init 119 = .ok (.iconst 3, 1) := by decide +kernel
theorem dX8_init_120 : decode cX8_init 120 = .ok (.iastore, 1) := by decide +kernel
theorem dX8_init_121 : decode cX8_init 121 = .ok (.aload_n 0, 1) := by decide +kernel
theorem dX8_init_122 : decode cX8_init 122 = .ok (.getfield 26, 3) := by decide +kernel
theorem dX8_init_125 : decode cX8_init 125 = .ok (.iconst 2, 1) := by decide +kernel
theorem dX8_init_126 : decode cX8_init 126 = .ok (.iconst 2, 1) := by decide +kernel
theorem dX8_init_127 : decode cX8_init 127 = .ok (.iastore, 1) := by decide +kernel
theorem dX8_init_128 : decode cX8_init 128 = .ok (.aload_n 0, 1) := by decide +kernel
theorem dX8_init_129 : decode cX8_init 129 = .ok (.getfield 26, 3) := by decide +kernel
theorem dX8_init_132 : decode cX8_init 132 = .ok (.iconst 3, 1) := by decide +kernel
theorem dX8_init_133 : decode cX8_init 133 = .ok (.iconst 2, 1) := by decide +kernel
theorem dX8_init_134 : decode cX8_init 134 = .ok (.iastore, 1) := by decide +kernel
theorem dX8_init_135 : decode cX8_init 135 = .ok (.aload_n 0, 1) := by decide +kernel
theorem dX8_init_136 : decode cX8_init 136 = .ok (.getfield 26, 3) := by decide +kernel
theorem dX8_init_139 : decode cX8_init 139 = .ok (.iconst 4, 1) := by decide +kernel
theorem dX8_init_140 : decode cX8_init 140 = .ok (.iconst 0, 1) := by decide +kernel
theorem dX8_init_141 : decode cX8_init 141 = .ok (.iastore, 1) := by decide +kernel
theorem dX8_init_142 : decode cX8_init 142 = .ok (.aload_n 0, 1) := by decide +kernel
theorem dX8_init_143 : decode cX8_init 143 = .ok (.getfield 26, 3) := by decide +kernel
theorem dX8_init_146 : decode cX8_init 146 = .ok (.iconst 5, 1) := by decide +kernel
theorem dX8_init_147 : decode cX8_init 147 = .ok (.iconst 5, 1) := by decide +kernel
theorem dX8_init_148 : decode cX8_init 148 = .ok (.iastore, 1) := by decide +kernel
theorem dX8_init_149 : decode cX8_init 149 = .ok (.aload_n 0, 1) := by decide +kernel
theorem dX8_init_150 : decode cX8_init 150 = .ok (.getfield 26, 3) := by decide +kernel
theorem dX8_init_153 : decode cX8_init 153 = .ok (.bipush 6, 2) := by decide +kernel
theorem dX8_init_155 : decode cX8_init 155 = .ok (.bipush 6, 2) := by decide +kernel
theorem dX8_init_157 : decode cX8_init 157 = .ok (.iastore, 1) := by decide +kernel
theorem dX8_init_158 : decode cX8_init 158 = .ok (.iconst 0, 1) := by decide +kernel
theorem dX8_init_159 : decode cX8_init 159 = .ok (.istore_n 1, 1) := by decide +kernel
theorem dX8_init_160 : decode cX8_init 160 = .ok (.iload_n 1, 1) := by decide +kernel
theorem dX8_init_161 : decode cX8_init 161 = .ok (.iconst 4, 1) := by decide +kernel
theorem dX8_init_162 : decode cX8_init 162 = .ok (.if_icmp .ge 17, 3) := by decide +kernel
theorem dX8_init_165 : decode cX8_init 165 = .ok (.aload_n 0, 1) := by decide +kernel
theorem dX8_init_166 : decode cX8_init 166 = .ok (.getfield 29, 3) := by decide +kernel
theorem dX8_init_169 : decode cX8_init 169 = .ok (.iload_n 1, 1) := by decide +kernel
theorem dX8_init_170 : decode cX8_init 170 = .ok (.bipush 126, 2) := by decide +kernel
theorem dX8_init_172 : decode cX8_init 172 = .ok (.iastore, 1) := by decide +kernel
theorem dX8_init_173 : decode cX8_init 173 = .ok (.iinc 1 1, 3) := by decide +kernel
theorem dX8_init_176 : decode cX8_init 176 = .ok (.goto (-16), 3) := by decide +kernel
theorem dX8_init_179 : decode cX8_init 179 = .ok (.return_, 1) := by decide +kernel
theorem dX8_within_0 : decode cX8_within 0 = .ok (.iload_n 0, 1) := by decide +kernel
theorem dX8_within_1 : decode cX8_within 1 = .ok (.iload_n 1, 1) := by decide +kernel
theorem dX8_within_2 : decode cX8_within 2 = .ok (.if_icmp .lt 12, 3) := by decide +kernel
theorem dX8_within_5 : decode cX8_within 5 = .ok (.iload_n 0, 1) := by decide +kernel
theorem dX8_within_6 : decode cX8_within 6 = .ok (.iload_n 2, 1) := by decide +kernel
theorem dX8_within_7 : decode cX8_within 7 = .ok (.if_icmp .gt 7, 3) := by decide +kernel
theorem dX8_within_10 : decode cX8_within 10 = .ok (.iconst 1, 1) := by decide +kernel
theorem dX8_within_11 : decode cX8_within 11 = .ok (.goto 4, 3) := by decide +kernel
theorem dX8_within_14 : decode cX8_within 14 = .ok (.iconst 0, 1) := by decide +kernel
theorem dX8_within_15 : decode cX8_within 15 = .ok (.ireturn, 1) := by decide +kernel
theorem dX8_has_0 : decode cX8_has 0 = .ok (.iload_n 0, 1) := by decide +kernel
theorem dX8_has_1 : decode cX8_has 1 = .ok (.iload_n 1, 1) := by decide +kernel
theorem dX8_has_2 : decode cX8_has 2 = .ok (.ishr, 1) := by decide +kernel
theorem dX8_has_3 : decode cX8_has 3 = .ok (.iconst 1, 1) := by decide +kernel
theorem dX8_has_4 : decode cX8_has 4 = .ok (.iand, 1) := by decide +kernel
theorem dX8_has_5 : decode cX8_has 5 = .ok (.iconst 1, 1) := by decide +kernel
theorem dX8_has_6 : decode cX8_has 6 = .ok (.if_icmp .ne 7, 3) := by decide +kernel
theorem dX8_has_9 : decode cX8_has 9 = .ok (.iconst 1, 1) := by decide +kernel
theorem dX8_has_10 : decode cX8_has 10 = .ok (.goto 4, 3) := by decide +kernel
theorem dX8_has_13 : decode cX8_has 13 = .ok (.iconst 0, 1) := by decide +kernel
theorem dX8_has_14 : decode cX8_has 14 = .ok (.ireturn, 1) := by decide +kernel
theorem dX8_sizeOf_0 : decode cX8_sizeOf 0 = .ok (.iconst 0, 1) := by decide +kernel
theorem dX8_sizeOf_1 : decode cX8_sizeOf 1 = .ok (.istore_n 1, 1) := by decide +kernel
theorem dX8_sizeOf_2 : decode cX8_sizeOf 2 = .ok (.iload_n 0, 1) := by decide +kernel
theorem dX8_sizeOf_3 : decode cX8_sizeOf 3 = .ok (.istore_n 2, 1) := by decide +kernel
theorem dX8_sizeOf_4 : decode cX8_sizeOf 4 = .ok (.iload_n 2, 1) := by decide +kernel
theorem dX8_sizeOf_5 : decode cX8_sizeOf 5 = .ok (.ifCond .le 16, 3) := by decide +kernel
theorem dX8_sizeOf_8 : decode cX8_sizeOf 8 = .ok (.iload_n 1, 1) := by decide +kernel
theorem dX8_sizeOf_9 : decode cX8_sizeOf 9 = .ok (.iload_n 2, 1) := by decide +kernel
theorem dX8_sizeOf_10 : decode cX8_sizeOf 10 = .ok (.iconst 1, 1) := by decide +kernel
theorem dX8_sizeOf_11 : decode cX8_sizeOf 11 = .ok (.iand, 1) := by decide +kernel
theorem dX8_sizeOf_12 : decode cX8_sizeOf 12 = .ok (.iadd, 1) := by decide +kernel
theorem dX8_sizeOf_13 : decode cX8_sizeOf 13 = .ok (.istore_n 1, 1) := by decide +kernel
theorem dX8_sizeOf_14 : decode cX8_sizeOf 14 = .ok (.iload_n 2, 1) := by decide +kernel
theorem dX8_sizeOf_15 : decode cX8_sizeOf 15 = .ok (.iconst 1, 1) := by decide +kernel
theorem dX8_sizeOf_16 : decode cX8_sizeOf 16 = .ok (.ishr, 1) := by decide +kernel
theorem dX8_sizeOf_17 : decode cX8_sizeOf 17 = .ok (.istore_n 2, 1) := by decide +kernel
theorem dX8_sizeOf_18 : decode cX8_sizeOf 18 = .ok (.goto (-14), 3) := by decide +kernel
theorem dX8_sizeOf_21 : decode cX8_sizeOf 21 = .ok (.iload_n 1, 1) := by decide +kernel
theorem dX8_sizeOf_22 : decode cX8_sizeOf 22 = .ok (.ireturn, 1) := by decide +kernel
theorem dX8_isCourse_0 : decode cX8_isCourse 0 = .ok (.iload_n 1, 1) := by decide +kernel
theorem dX8_isCourse_1 : decode cX8_isCourse 1 = .ok (.iconst 0, 1) := by decide +kernel
theorem dX8_isCourse_2 : decode cX8_isCourse 2 = .ok (.aload_n 0, 1) := by decide +kernel
theorem dX8_isCourse_3 : decode cX8_isCourse 3 = .ok (.getfield 55, 3) := by decide +kernel
theorem dX8_isCourse_6 : decode cX8_isCourse 6 = .ok (.iconst 1, 1) := by decide +kernel
theorem dX8_isCourse_7 : decode cX8_isCourse 7 = .ok (.isub, 1) := by decide +kernel
theorem dX8_isCourse_8 : decode cX8_isCourse 8 = .ok (.invokestatic 58, 3) := by decide +kernel
theorem dX8_isCourse_11 : decode cX8_isCourse 11 = .ok (.ireturn, 1) := by decide +kernel
theorem dX8_arePlaces_0 : decode cX8_arePlaces 0 = .ok (.iload_n 1, 1) := by decide +kernel
theorem dX8_arePlaces_1 : decode cX8_arePlaces 1 = .ok (.iconst 0, 1) := by decide +kernel
theorem dX8_arePlaces_2 : decode cX8_arePlaces 2 = .ok (.iconst 1, 1) := by decide +kernel
theorem dX8_arePlaces_3 : decode cX8_arePlaces 3 = .ok (.aload_n 0, 1) := by decide +kernel
theorem dX8_arePlaces_4 : decode cX8_arePlaces 4 = .ok (.getfield 7, 3) := by decide +kernel
theorem dX8_arePlaces_7 : decode cX8_arePlaces 7 = .ok (.ishl, 1) := by decide +kernel
theorem dX8_arePlaces_8 : decode cX8_arePlaces 8 = .ok (.iconst 1, 1) := by decide +kernel
theorem dX8_arePlaces_9 : decode cX8_arePlaces 9 = .ok (.isub, 1) := by decide +kernel
theorem dX8_arePlaces_10 : decode cX8_arePlaces 10 = .ok (.invokestatic 58, 3) := by decide +kernel
theorem dX8_arePlaces_13 : decode cX8_arePlaces 13 = .ok (.ifCond .eq 13, 3) := by decide +kernel
theorem dX8_arePlaces_16 : decode cX8_arePlaces 16 = .ok (.iload_n 1, 1) := by decide +kernel
theorem dX8_arePlaces_17 : decode cX8_arePlaces 17 = .ok (.iconst 2, 1) := by decide +kernel
theorem dX8_arePlaces_18 : decode cX8_arePlaces 18 = .ok (.irem, 1) := by decide +kernel
theorem dX8_arePlaces_19 : decode cX8_arePlaces 19 = .ok (.ifCond .ne 7, 3) := by decide +kernel
theorem dX8_arePlaces_22 : decode cX8_arePlaces 22 = .ok (.iconst 1, 1) := by decide +kernel
theorem dX8_arePlaces_23 : decode cX8_arePlaces 23 = .ok (.goto 4, 3) := by decide +kernel
theorem dX8_arePlaces_26 : decode cX8_arePlaces 26 = .ok (.iconst 0, 1) := by decide +kernel
theorem dX8_arePlaces_27 : decode cX8_arePlaces 27 = .ok (.ireturn, 1) := by decide +kernel
theorem dX8_width_0 : decode cX8_width 0 = .ok (.iload_n 1, 1) := by decide +kernel
theorem dX8_width_1 : decode cX8_width 1 = .ok (.iconst 2, 1) := by decide +kernel
theorem dX8_width_2 : decode cX8_width 2 = .ok (.bipush 10, 2) := by decide +kernel
theorem dX8_width_4 : decode cX8_width 4 = .ok (.invokestatic 58, 3) := by decide +kernel
theorem dX8_width_7 : decode cX8_width 7 = .ok (.ifCond .ne 6, 3) := by decide +kernel
theorem dX8_width_10 : decode cX8_width 10 = .ok (.bipush (-2), 2) := by decide +kernel
theorem dX8_width_12 : decode cX8_width 12 = .ok (.ireturn, 1) := by decide +kernel
theorem dX8_width_13 : decode cX8_width 13 = .ok (.aload_n 0, 1) := by decide +kernel
theorem dX8_width_14 : decode cX8_width 14 = .ok (.iload_n 1, 1) := by decide +kernel
theorem dX8_width_15 : decode cX8_width 15 = .ok (.putfield 7, 3) := by decide +kernel
theorem dX8_width_18 : decode cX8_width 18 = .ok (.aload_n 0, 1) := by decide +kernel
theorem dX8_width_19 : decode cX8_width 19 = .ok (.iconst 0, 1) := by decide +kernel
theorem dX8_width_20 : decode cX8_width 20 = .ok (.putfield 55, 3) := by decide +kernel
theorem dX8_width_23 : decode cX8_width 23 = .ok (.iconst 1, 1) := by decide +kernel
theorem dX8_width_24 : decode cX8_width 24 = .ok (.ireturn, 1) := by decide +kernel
theorem dX8_course_0 : decode cX8_course 0 = .ok (.aload_n 0, 1) := by decide +kernel
theorem dX8_course_1 : decode cX8_course 1 = .ok (.getfield 55, 3) := by decide +kernel
theorem dX8_course_4 : decode cX8_course 4 = .ok (.bipush 8, 2) := by decide +kernel
theorem dX8_course_6 : decode cX8_course 6 = .ok (.if_icmp .ne 6, 3) := by decide +kernel
theorem dX8_course_9 : decode cX8_course 9 = .ok (.bipush (-4), 2) := by decide +kernel
theorem dX8_course_11 : decode cX8_course 11 = .ok (.ireturn, 1) := by decide +kernel
theorem dX8_course_12 : decode cX8_course 12 = .ok (.aload_n 0, 1) := by decide +kernel
theorem dX8_course_13 : decode cX8_course 13 = .ok (.getfield 13, 3) := by decide +kernel
theorem dX8_course_16 : decode cX8_course 16 = .ok (.aload_n 0, 1) := by decide +kernel
theorem dX8_course_17 : decode cX8_course 17 = .ok (.getfield 55, 3) := by decide +kernel
theorem dX8_course_20 : decode cX8_course 20 = .ok (.iconst 0, 1) := by decide +kernel
theorem dX8_course_21 : decode cX8_course 21 = .ok (.iastore, 1) := by decide +kernel
theorem dX8_course_22 : decode cX8_course 22 = .ok (.aload_n 0, 1) := by decide +kernel
theorem dX8_course_23 : decode cX8_course 23 = .ok (.getfield 17, 3) := by decide +kernel
theorem dX8_course_26 : decode cX8_course 26 = .ok (.aload_n 0, 1) := by decide +kernel
theorem dX8_course_27 : decode cX8_course 27 = .ok (.getfield 55, 3) := by decide +kernel
theorem dX8_course_30 : decode cX8_course 30 = .ok (.iconst 0, 1) := by decide +kernel
theorem dX8_course_31 : decode cX8_course 31 = .ok (.iastore, 1) := by decide +kernel
theorem dX8_course_32 : decode cX8_course 32 = .ok (.aload_n 0, 1) := by decide +kernel
theorem dX8_course_33 : decode cX8_course 33 = .ok (.getfield 20, 3) := by decide +kernel
theorem dX8_course_36 : decode cX8_course 36 = .ok (.aload_n 0, 1) := by decide +kernel
theorem dX8_course_37 : decode cX8_course 37 = .ok (.getfield 55, 3) := by decide +kernel
theorem dX8_course_40 : decode cX8_course 40 = .ok (.iconst 0, 1) := by decide +kernel
theorem dX8_course_41 : decode cX8_course 41 = .ok (.iastore, 1) := by decide +kernel
theorem dX8_course_42 : decode cX8_course 42 = .ok (.aload_n 0, 1) := by decide +kernel
theorem dX8_course_43 : decode cX8_course 43 = .ok (.getfield 23, 3) := by decide +kernel
theorem dX8_course_46 : decode cX8_course 46 = .ok (.aload_n 0, 1) := by decide +kernel
theorem dX8_course_47 : decode cX8_course 47 = .ok (.getfield 55, 3) := by decide +kernel
theorem dX8_course_50 : decode cX8_course 50 = .ok (.iconst 0, 1) := by decide +kernel
theorem dX8_course_51 : decode cX8_course 51 = .ok (.iastore, 1) := by decide +kernel
theorem dX8_course_52 : decode cX8_course 52 = .ok (.aload_n 0, 1) := by decide +kernel
theorem dX8_course_53 : decode cX8_course 53 = .ok (.dup, 1) := by decide +kernel
theorem dX8_course_54 : decode cX8_course 54 = .ok (.getfield 55, 3) := by decide +kernel
theorem dX8_course_57 : decode cX8_course 57 = .ok (.iconst 1, 1) := by decide +kernel
theorem dX8_course_58 : decode cX8_course 58 = .ok (.iadd, 1) := by decide +kernel
theorem dX8_course_59 : decode cX8_course 59 = .ok (.putfield 55, 3) := by decide +kernel
theorem dX8_course_62 : decode cX8_course 62 = .ok (.aload_n 0, 1) := by decide +kernel
theorem dX8_course_63 : decode cX8_course 63 = .ok (.getfield 55, 3) := by decide +kernel
theorem dX8_course_66 : decode cX8_course 66 = .ok (.iconst 1, 1) := by decide +kernel
theorem dX8_course_67 : decode cX8_course 67 = .ok (.isub, 1) := by decide +kernel
theorem dX8_course_68 : decode cX8_course 68 = .ok (.ireturn, 1) := by decide +kernel
theorem dX8_take_0 : decode cX8_take 0 = .ok (.aload_n 0, 1) := by decide +kernel
theorem dX8_take_1 : decode cX8_take 1 = .ok (.getfield 55, 3) := by decide +kernel
theorem dX8_take_4 : decode cX8_take 4 = .ok (.ifCond .ne 6, 3) := by decide +kernel
theorem dX8_take_7 : decode cX8_take 7 = .ok (.bipush (-3), 2) := by decide +kernel
theorem dX8_take_9 : decode cX8_take 9 = .ok (.ireturn, 1) := by decide +kernel
theorem dX8_take_10 : decode cX8_take 10 = .ok (.aload_n 0, 1) := by decide +kernel
theorem dX8_take_11 : decode cX8_take 11 = .ok (.dup, 1) := by decide +kernel
theorem dX8_take_12 : decode cX8_take 12 = .ok (.getfield 55, 3) := by decide +kernel
theorem dX8_take_15 : decode cX8_take 15 = .ok (.iconst 1, 1) := by decide +kernel
theorem dX8_take_16 : decode cX8_take 16 = .ok (.isub, 1) := by decide +kernel
theorem dX8_take_17 : decode cX8_take 17 = .ok (.putfield 55, 3) := by decide +kernel
theorem dX8_take_20 : decode cX8_take 20 = .ok (.aload_n 0, 1) := by decide +kernel
theorem dX8_take_21 : decode cX8_take 21 = .ok (.getfield 55, 3) := by decide +kernel
theorem dX8_take_24 : decode cX8_take 24 = .ok (.ireturn, 1) := by decide +kernel
theorem dX8_open_0 : decode cX8_open 0 = .ok (.aload_n 0, 1) := by decide +kernel
theorem dX8_open_1 : decode cX8_open 1 = .ok (.iload_n 1, 1) := by decide +kernel
theorem dX8_open_2 : decode cX8_open 2 = .ok (.invokevirtual 62, 3) := by decide +kernel
theorem dX8_open_5 : decode cX8_open 5 = .ok (.ifCond .ne 5, 3) := by decide +kernel
theorem dX8_open_8 : decode cX8_open 8 = .ok (.iconst (-1), 1) := by decide +kernel
theorem dX8_open_9 : decode cX8_open 9 = .ok (.ireturn, 1) := by decide +kernel
theorem dX8_open_10 : decode cX8_open 10 = .ok (.iload_n 2, 1) := by decide +kernel
theorem dX8_open_11 : decode cX8_open 11 = .ok (.iconst 0, 1) := by decide +kernel
theorem dX8_open_12 : decode cX8_open 12 = .ok (.iconst 1, 1) := by decide +kernel
theorem dX8_open_13 : decode cX8_open 13 = .ok (.aload_n 0, 1) := by decide +kernel
theorem dX8_open_14 : decode cX8_open 14 = .ok (.getfield 7, 3) := by decide +kernel
theorem dX8_open_17 : decode cX8_open 17 = .ok (.ishl, 1) := by decide +kernel
theorem dX8_open_18 : decode cX8_open 18 = .ok (.iconst 1, 1) := by decide +kernel
theorem dX8_open_19 : decode cX8_open 19 = .ok (.isub, 1) := by decide +kernel
theorem dX8_open_20 : decode cX8_open 20 = .ok (.invokestatic 58, 3) := by decide +kernel
theorem dX8_open_23 : decode cX8_open 23 = .ok (.ifCond .ne 6, 3) := by decide +kernel
theorem dX8_open_26 : decode cX8_open 26 = .ok (.bipush (-2), 2) := by decide +kernel
theorem dX8_open_28 : decode cX8_open 28 = .ok (.ireturn, 1) := by decide +kernel
theorem dX8_open_29 : decode cX8_open 29 = .ok (.aload_n 0, 1) := by decide +kernel
theorem dX8_open_30 : decode cX8_open 30 = .ok (.getfield 13, 3) := by decide +kernel
theorem dX8_open_33 : decode cX8_open 33 = .ok (.iload_n 1, 1) := by decide +kernel
theorem dX8_open_34 : decode cX8_open 34 = .ok (.iaload, 1) := by decide +kernel
theorem dX8_open_35 : decode cX8_open 35 = .ok (.istore_n 3, 1) := by decide +kernel
theorem dX8_open_36 : decode cX8_open 36 = .ok (.aload_n 0, 1) := by decide +kernel
theorem dX8_open_37 : decode cX8_open 37 = .ok (.getfield 13, 3) := by decide +kernel
theorem dX8_open_40 : decode cX8_open 40 = .ok (.iload_n 1, 1) := by decide +kernel
theorem dX8_open_41 : decode cX8_open 41 = .ok (.iload_n 2, 1) := by decide +kernel
theorem dX8_open_42 : decode cX8_open 42 = .ok (.iastore, 1) := by decide +kernel
theorem dX8_open_43 : decode cX8_open 43 = .ok (.iload_n 3, 1) := by decide +kernel
theorem dX8_open_44 : decode cX8_open 44 = .ok (.ireturn, 1) := by decide +kernel
theorem dX8_must_0 : decode cX8_must 0 = .ok (.aload_n 0, 1) := by decide +kernel
theorem dX8_must_1 : decode cX8_must 1 = .ok (.iload_n 1, 1) := by decide +kernel
theorem dX8_must_2 : decode cX8_must 2 = .ok (.invokevirtual 62, 3) := by decide +kernel
theorem dX8_must_5 : decode cX8_must 5 = .ok (.ifCond .ne 5, 3) := by decide +kernel
theorem dX8_must_8 : decode cX8_must 8 = .ok (.iconst (-1), 1) := by decide +kernel
theorem dX8_must_9 : decode cX8_must 9 = .ok (.ireturn, 1) := by decide +kernel
theorem dX8_must_10 : decode cX8_must 10 = .ok (.iload_n 2, 1) := by decide +kernel
theorem dX8_must_11 : decode cX8_must 11 = .ok (.iconst 0, 1) := by decide +kernel
theorem dX8_must_12 : decode cX8_must 12 = .ok (.iconst 1, 1) := by decide +kernel
theorem dX8_must_13 : decode cX8_must 13 = .ok (.invokestatic 58, 3) := by decide +kernel
theorem dX8_must_16 : decode cX8_must 16 = .ok (.ifCond .eq 11, 3) := by decide +kernel
theorem dX8_must_19 : decode cX8_must 19 = .ok (.aload_n 0, 1) := by decide +kernel
theorem dX8_must_20 : decode cX8_must 20 = .ok (.iload_n 3, 1) := by decide +kernel
theorem dX8_must_21 : decode cX8_must 21 = .ok (.invokevirtual 66, 3) := by decide +kernel
theorem dX8_must_24 : decode cX8_must 24 = .ok (.ifCond .ne 6, 3) := by decide +kernel
theorem dX8_must_27 : decode cX8_must 27 = .ok (.bipush (-2), 2) := by decide +kernel
theorem dX8_must_29 : decode cX8_must 29 = .ok (.ireturn, 1) := by decide +kernel
theorem dX8_must_30 : decode cX8_must 30 = .ok (.iload_n 2, 1) := by decide +kernel
theorem dX8_must_31 : decode cX8_must 31 = .ok (.iconst 1, 1) := by decide +kernel
theorem dX8_must_32 : decode cX8_must 32 = .ok (.if_icmp .ne 12, 3) := by decide +kernel
theorem dX8_must_35 : decode cX8_must 35 = .ok (.aload_n 0, 1) := by decide +kernel
theorem dX8_must_36 : decode cX8_must 36 = .ok (.getfield 17, 3) := by decide +kernel
theorem dX8_must_39 : decode cX8_must 39 = .ok (.iload_n 1, 1) := by decide +kernel
theorem dX8_must_40 : decode cX8_must 40 = .ok (.iaload, 1) := by decide +kernel
theorem dX8_must_41 : decode cX8_must 41 = .ok (.goto 9, 3) := by decide +kernel
theorem dX8_must_44 : decode cX8_must 44 = .ok (.aload_n 0, 1) := by decide +kernel
theorem dX8_must_45 : decode cX8_must 45 = .ok (.getfield 20, 3) := by decide +kernel
theorem dX8_must_48 : decode cX8_must 48 = .ok (.iload_n 1, 1) := by decide +kernel
theorem dX8_must_49 : decode cX8_must 49 = .ok (.iaload, 1) := by decide +kernel
theorem dX8_must_50 : decode cX8_must 50 = .ok (.istore 4, 2) := by decide +kernel
theorem dX8_must_52 : decode cX8_must 52 = .ok (.aload_n 0, 1) := by decide +kernel
theorem dX8_must_53 : decode cX8_must 53 = .ok (.getfield 17, 3) := by decide +kernel
theorem dX8_must_56 : decode cX8_must 56 = .ok (.iload_n 1, 1) := by decide +kernel
theorem dX8_must_57 : decode cX8_must 57 = .ok (.iload_n 2, 1) := by decide +kernel
theorem dX8_must_58 : decode cX8_must 58 = .ok (.iconst 1, 1) := by decide +kernel
theorem dX8_must_59 : decode cX8_must 59 = .ok (.if_icmp .ne 7, 3) := by decide +kernel
theorem dX8_must_62 : decode cX8_must 62 = .ok (.iload_n 3, 1) := by decide +kernel
theorem dX8_must_63 : decode cX8_must 63 = .ok (.goto 9, 3) := by decide +kernel
theorem dX8_must_66 : decode cX8_must 66 = .ok (.aload_n 0, 1) := by decide +kernel
theorem dX8_must_67 : decode cX8_must 67 = .ok (.getfield 17, 3) := by decide +kernel
theorem dX8_must_70 : decode cX8_must 70 = .ok (.iload_n 1, 1) := by decide +kernel
theorem dX8_must_71 : decode cX8_must 71 = .ok (.iaload, 1) := by decide +kernel
theorem dX8_must_72 : decode cX8_must 72 = .ok (.iastore, 1) := by decide +kernel
theorem dX8_must_73 : decode cX8_must 73 = .ok (.aload_n 0, 1) := by decide +kernel
theorem dX8_must_74 : decode cX8_must 74 = .ok (.getfield 20, 3) := by decide +kernel
theorem dX8_must_77 : decode cX8_must 77 = .ok (.iload_n 1, 1) := by decide +kernel
theorem dX8_must_78 : decode cX8_must 78 = .ok (.iload_n 2, 1) := by decide +kernel
theorem dX8_must_79 : decode cX8_must 79 = .ok (.iconst 1, 1) := by decide +kernel
theorem dX8_must_80 : decode cX8_must 80 = .ok (.if_icmp .ne 12, 3) := by decide +kernel
theorem dX8_must_83 : decode cX8_must 83 = .ok (.aload_n 0, 1) := by decide +kernel
theorem dX8_must_84 : decode cX8_must 84 = .ok (.getfield 20, 3) := by decide +kernel
theorem dX8_must_87 : decode cX8_must 87 = .ok (.iload_n 1, 1) := by decide +kernel
theorem dX8_must_88 : decode cX8_must 88 = .ok (.iaload, 1) := by decide +kernel
theorem dX8_must_89 : decode cX8_must 89 = .ok (.goto 4, 3) := by decide +kernel
theorem dX8_must_92 : decode cX8_must 92 = .ok (.iload_n 3, 1) := by decide +kernel
theorem dX8_must_93 : decode cX8_must 93 = .ok (.iastore, 1) := by decide +kernel
theorem dX8_must_94 : decode cX8_must 94 = .ok (.iload 4, 2) := by decide +kernel
theorem dX8_must_96 : decode cX8_must 96 = .ok (.ireturn, 1) := by decide +kernel
theorem dX8_price_0 : decode cX8_price 0 = .ok (.iload_n 1, 1) := by decide +kernel
theorem dX8_price_1 : decode cX8_price 1 = .ok (.iconst 1, 1) := by decide +kernel
theorem dX8_price_2 : decode cX8_price 2 = .ok (.bipush 6, 2) := by decide +kernel
theorem dX8_price_4 : decode cX8_price 4 = .ok (.invokestatic 58, 3) := by decide +kernel
theorem dX8_price_7 : decode cX8_price 7 = .ok (.ifCond .eq 19, 3) := by decide +kernel
theorem dX8_price_10 : decode cX8_price 10 = .ok (.iload_n 2, 1) := by decide +kernel
theorem dX8_price_11 : decode cX8_price 11 = .ok (.bipush (-9), 2) := by decide +kernel
theorem dX8_price_13 : decode cX8_price 13 = .ok (.if_icmp .eq 16, 3) := by decide +kernel
theorem dX8_price_16 : decode cX8_price 16 = .ok (.iload_n 2, 1) := by decide +kernel
theorem dX8_price_17 : decode cX8_price 17 = .ok (.iconst 0, 1) := by decide +kernel
theorem dX8_price_18 : decode cX8_price 18 = .ok (.bipush 99, 2) := by decide +kernel
theorem dX8_price_20 : decode cX8_price 20 = .ok (.invokestatic 58, 3) := by decide +kernel
theorem dX8_price_23 : decode cX8_price 23 = .ok (.ifCond .ne 6, 3) := by decide +kernel
theorem dX8_price_26 : decode cX8_price 26 = .ok (.bipush (-2), 2) := by decide +kernel
theorem dX8_price_28 : decode cX8_price 28 = .ok (.ireturn, 1) := by decide +kernel
theorem dX8_price_29 : decode cX8_price 29 = .ok (.aload_n 0, 1) := by decide +kernel
theorem dX8_price_30 : decode cX8_price 30 = .ok (.getfield 26, 3) := by decide +kernel
theorem dX8_price_33 : decode cX8_price 33 = .ok (.iload_n 1, 1) := by decide +kernel
theorem dX8_price_34 : decode cX8_price 34 = .ok (.iaload, 1) := by decide +kernel
theorem dX8_price_35 : decode cX8_price 35 = .ok (.istore_n 3, 1) := by decide +kernel
theorem dX8_price_36 : decode cX8_price 36 = .ok (.aload_n 0, 1) := by decide +kernel
theorem dX8_price_37 : decode cX8_price 37 = .ok (.getfield 26, 3) := by decide +kernel
theorem dX8_price_40 : decode cX8_price 40 = .ok (.iload_n 1, 1) := by decide +kernel
theorem dX8_price_41 : decode cX8_price 41 = .ok (.iload_n 2, 1) := by decide +kernel
theorem dX8_price_42 : decode cX8_price 42 = .ok (.iastore, 1) := by decide +kernel
theorem dX8_price_43 : decode cX8_price 43 = .ok (.iload_n 3, 1) := by decide +kernel
theorem dX8_price_44 : decode cX8_price 44 = .ok (.ireturn, 1) := by decide +kernel
theorem dX8_lap_0 : decode cX8_lap 0 = .ok (.iload_n 1, 1) := by decide +kernel
theorem dX8_lap_1 : decode cX8_lap 1 = .ok (.iconst 1, 1) := by decide +kernel
theorem dX8_lap_2 : decode cX8_lap 2 = .ok (.iconst 3, 1) := by decide +kernel
theorem dX8_lap_3 : decode cX8_lap 3 = .ok (.invokestatic 58, 3) := by decide +kernel
theorem dX8_lap_6 : decode cX8_lap 6 = .ok (.ifCond .ne 6, 3) := by decide +kernel
theorem dX8_lap_9 : decode cX8_lap 9 = .ok (.bipush (-2), 2) := by decide +kernel
theorem dX8_lap_11 : decode cX8_lap 11 = .ok (.ireturn, 1) := by decide +kernel
theorem dX8_lap_12 : decode cX8_lap 12 = .ok (.aload_n 0, 1) := by decide +kernel
theorem dX8_lap_13 : decode cX8_lap 13 = .ok (.getfield 32, 3) := by decide +kernel
theorem dX8_lap_16 : decode cX8_lap 16 = .ok (.istore_n 2, 1) := by decide +kernel
theorem dX8_lap_17 : decode cX8_lap 17 = .ok (.aload_n 0, 1) := by decide +kernel
theorem dX8_lap_18 : decode cX8_lap 18 = .ok (.iload_n 1, 1) := by decide +kernel
theorem dX8_lap_19 : decode cX8_lap 19 = .ok (.putfield 32, 3) := by decide +kernel
theorem dX8_lap_22 : decode cX8_lap 22 = .ok (.iload_n 2, 1) := by decide +kernel
theorem dX8_lap_23 : decode cX8_lap 23 = .ok (.ireturn, 1) := by decide +kernel
theorem dX8_ends_0 : decode cX8_ends 0 = .ok (.iload_n 1, 1) := by decide +kernel
theorem dX8_ends_1 : decode cX8_ends 1 = .ok (.iconst 0, 1) := by decide +kernel
theorem dX8_ends_2 : decode cX8_ends 2 = .ok (.iconst 1, 1) := by decide +kernel
theorem dX8_ends_3 : decode cX8_ends 3 = .ok (.invokestatic 58, 3) := by decide +kernel
theorem dX8_ends_6 : decode cX8_ends 6 = .ok (.ifCond .eq 29, 3) := by decide +kernel
theorem dX8_ends_9 : decode cX8_ends 9 = .ok (.iload_n 2, 1) := by decide +kernel
theorem dX8_ends_10 : decode cX8_ends 10 = .ok (.iconst 0, 1) := by decide +kernel
theorem dX8_ends_11 : decode cX8_ends 11 = .ok (.iconst 1, 1) := by decide +kernel
theorem dX8_ends_12 : decode cX8_ends 12 = .ok (.invokestatic 58, 3) := by decide +kernel
theorem dX8_ends_15 : decode cX8_ends 15 = .ok (.ifCond .eq 20, 3) := by decide +kernel
theorem dX8_ends_18 : decode cX8_ends 18 = .ok (.iload_n 3, 1) := by decide +kernel
theorem dX8_ends_19 : decode cX8_ends 19 = .ok (.iconst 0, 1) := by decide +kernel
theorem dX8_ends_20 : decode cX8_ends 20 = .ok (.bipush 126, 2) := by decide +kernel
theorem dX8_ends_22 : decode cX8_ends 22 = .ok (.invokestatic 58, 3) := by decide +kernel
theorem dX8_ends_25 : decode cX8_ends 25 = .ok (.ifCond .eq 10, 3) := by decide +kernel
theorem dX8_ends_28 : decode cX8_ends 28 = .ok (.iload_n 3, 1) := by decide +kernel
theorem dX8_ends_29 : decode cX8_ends 29 = .ok (.iconst 2, 1) := by decide +kernel
theorem dX8_ends_30 : decode cX8_ends 30 = .ok (.irem, 1) := by decide +kernel
theorem dX8_ends_31 : decode cX8_ends 31 = .ok (.iconst 1, 1) := by decide +kernel
theorem dX8_ends_32 : decode cX8_ends 32 = .ok (.if_icmp .ne 6, 3) := by decide +kernel
theorem dX8_ends_35 : decode cX8_ends 35 = .ok (.bipush (-2), 2) := by decide +kernel
theorem dX8_ends_37 : decode cX8_ends 37 = .ok (.ireturn, 1) := by decide +kernel
theorem dX8_ends_38 : decode cX8_ends 38 = .ok (.aload_n 0, 1) := by decide +kernel
theorem dX8_ends_39 : decode cX8_ends 39 = .ok (.getfield 29, 3) := by decide +kernel
theorem dX8_ends_42 : decode cX8_ends 42 = .ok (.iconst 2, 1) := by decide +kernel
theorem dX8_ends_43 : decode cX8_ends 43 = .ok (.iload_n 1, 1) := by decide +kernel
theorem dX8_ends_44 : decode cX8_ends 44 = .ok (.imul, 1) := by decide +kernel
theorem dX8_ends_45 : decode cX8_ends 45 = .ok (.iload_n 2, 1) := by decide +kernel
theorem dX8_ends_46 : decode cX8_ends 46 = .ok (.iadd, 1) := by decide +kernel
theorem dX8_ends_47 : decode cX8_ends 47 = .ok (.iaload, 1) := by decide +kernel
theorem dX8_ends_48 : decode cX8_ends 48 = .ok (.istore 4, 2) := by decide +kernel
theorem dX8_ends_50 : decode cX8_ends 50 = .ok (.aload_n 0, 1) := by decide +kernel
theorem dX8_ends_51 : decode cX8_ends 51 = .ok (.getfield 29, 3) := by decide +kernel
theorem dX8_ends_54 : decode cX8_ends 54 = .ok (.iconst 2, 1) := by decide +kernel
theorem dX8_ends_55 : decode cX8_ends 55 = .ok (.iload_n 1, 1) := by decide +kernel
theorem dX8_ends_56 : decode cX8_ends 56 = .ok (.imul, 1) := by decide +kernel
theorem dX8_ends_57 : decode cX8_ends 57 = .ok (.iload_n 2, 1) := by decide +kernel
theorem dX8_ends_58 : decode cX8_ends 58 = .ok (.iadd, 1) := by decide +kernel
theorem dX8_ends_59 : decode cX8_ends 59 = .ok (.iload_n 3, 1) := by decide +kernel
theorem dX8_ends_60 : decode cX8_ends 60 = .ok (.iastore, 1) := by decide +kernel
theorem dX8_ends_61 : decode cX8_ends 61 = .ok (.iload 4, 2) := by decide +kernel
theorem dX8_ends_63 : decode cX8_ends 63 = .ok (.ireturn, 1) := by decide +kernel
theorem dX8_spansOf_0 : decode cX8_spansOf 0 = .ok (.iconst 0, 1) := by decide +kernel
theorem dX8_spansOf_1 : decode cX8_spansOf 1 = .ok (.istore_n 2, 1) := by decide +kernel
theorem dX8_spansOf_2 : decode cX8_spansOf 2 = .ok (.iconst 0, 1) := by decide +kernel
theorem dX8_spansOf_3 : decode cX8_spansOf 3 = .ok (.istore_n 3, 1) := by decide +kernel
theorem dX8_spansOf_4 : decode cX8_spansOf 4 = .ok (.iload_n 3, 1) := by decide +kernel
theorem dX8_spansOf_5 : decode cX8_spansOf 5 = .ok (.aload_n 0, 1) := by decide +kernel
theorem dX8_spansOf_6 : decode cX8_spansOf 6 = .ok (.getfield 7, 3) := by decide +kernel
theorem dX8_spansOf_9 : decode cX8_spansOf 9 = .ok (.if_icmp .ge 49, 3) := by decide +kernel
theorem dX8_spansOf_12 : decode cX8_spansOf 12 = .ok (.iload_n 2, 1) := by decide +kernel
theorem dX8_spansOf_13 : decode cX8_spansOf 13 = .ok (.aload_n 0, 1) := by decide +kernel
theorem dX8_spansOf_14 : decode cX8_spansOf 14 = .ok (.getfield 13, 3) := by decide +kernel
theorem dX8_spansOf_17 : decode cX8_spansOf 17 = .ok (.iload_n 1, 1) := by decide +kernel
theorem dX8_spansOf_18 : decode cX8_spansOf 18 = .ok (.iaload, 1) := by decide +kernel
theorem dX8_spansOf_19 : decode cX8_spansOf 19 = .ok (.iload_n 3, 1) := by decide +kernel
theorem dX8_spansOf_20 : decode cX8_spansOf 20 = .ok (.invokestatic 69, 3) := by decide +kernel
theorem dX8_spansOf_23 : decode cX8_spansOf 23 = .ok (.ifCond .ne 26, 3) := by decide +kernel
theorem dX8_spansOf_26 : decode cX8_spansOf 26 = .ok (.iload_n 3, 1) := by decide +kernel
theorem dX8_spansOf_27 : decode cX8_spansOf 27 = .ok (.ifCond .eq 18, 3) := by decide +kernel
theorem dX8_spansOf_30 : decode cX8_spansOf 30 = .ok (.aload_n 0, 1) := by decide +kernel
theorem dX8_spansOf_31 : decode cX8_spansOf 31 = .ok (.getfield 13, 3) := by decide +kernel
theorem dX8_spansOf_34 : decode cX8_spansOf 34 = .ok (.iload_n 1, 1) := by decide +kernel
theorem dX8_spansOf_35 : decode cX8_spansOf 35 = .ok (.iaload, 1) := by decide +kernel
theorem dX8_spansOf_36 : decode cX8_spansOf 36 = .ok (.iload_n 3, 1) := by decide +kernel
theorem dX8_spansOf_37 : decode cX8_spansOf 37 = .ok (.iconst 1, 1) := by decide +kernel
theorem dX8_spansOf_38 : decode cX8_spansOf 38 = .ok (.isub, 1) := by decide +kernel
theorem dX8_spansOf_39 : decode cX8_spansOf 39 = .ok (.invokestatic 69, 3) := by decide +kernel
theorem dX8_spansOf_42 : decode cX8_spansOf 42 = .ok (.ifCond .eq 7, 3) := by decide +kernel
theorem dX8_spansOf_45 : decode cX8_spansOf 45 = .ok (.iconst 1, 1) := by decide +kernel
theorem dX8_spansOf_46 : decode cX8_spansOf 46 = .ok (.goto 4, 3) := by decide +kernel
theorem dX8_spansOf_49 : decode cX8_spansOf 49 = .ok (.iconst 0, 1) := by decide +kernel
theorem dX8_spansOf_50 : decode cX8_spansOf 50 = .ok (.iadd, 1) := by decide +kernel
theorem dX8_spansOf_51 : decode cX8_spansOf 51 = .ok (.istore_n 2, 1) := by decide +kernel
theorem dX8_spansOf_52 : decode cX8_spansOf 52 = .ok (.iinc 3 1, 3) := by decide +kernel
theorem dX8_spansOf_55 : decode cX8_spansOf 55 = .ok (.goto (-51), 3) := by decide +kernel
theorem dX8_spansOf_58 : decode cX8_spansOf 58 = .ok (.iload_n 2, 1) := by decide +kernel
theorem dX8_spansOf_59 : decode cX8_spansOf 59 = .ok (.ireturn, 1) := by decide +kernel
theorem dX8_ofCourse_0 : decode cX8_ofCourse 0 = .ok (.aload_n 0, 1) := by decide +kernel
theorem dX8_ofCourse_1 : decode cX8_ofCourse 1 = .ok (.iload_n 1, 1) := by decide +kernel
theorem dX8_ofCourse_2 : decode cX8_ofCourse 2 = .ok (.invokevirtual 62, 3) := by decide +kernel
theorem dX8_ofCourse_5 : decode cX8_ofCourse 5 = .ok (.ifCond .ne 5, 3) := by decide +kernel
theorem dX8_ofCourse_8 : decode cX8_ofCourse 8 = .ok (.iconst (-1), 1) := by decide +kernel
theorem dX8_ofCourse_9 : decode cX8_ofCourse 9 = .ok (.ireturn, 1) := by decide +kernel
theorem dX8_ofCourse_10 : decode cX8_ofCourse 10 = .ok (.iload_n 2, 1) := by decide +kernel
theorem dX8_ofCourse_11 : decode cX8_ofCourse 11 = .ok (.tableswitch 67 0 4 #[33, 40, 47, 54, 60], 33) := by decide +kernel
theorem dX8_ofCourse_44 : decode cX8_ofCourse 44 = .ok (.aload_n 0, 1) := by decide +kernel
theorem dX8_ofCourse_45 : decode cX8_ofCourse 45 = .ok (.getfield 13, 3) := by decide +kernel
theorem dX8_ofCourse_48 : decode cX8_ofCourse 48 = .ok (.iload_n 1, 1) := by decide +kernel
theorem dX8_ofCourse_49 : decode cX8_ofCourse 49 = .ok (.iaload, 1) := by decide +kernel
theorem dX8_ofCourse_50 : decode cX8_ofCourse 50 = .ok (.ireturn, 1) := by decide +kernel
theorem dX8_ofCourse_51 : decode cX8_ofCourse 51 = .ok (.aload_n 0, 1) := by decide +kernel
theorem dX8_ofCourse_52 : decode cX8_ofCourse 52 = .ok (.getfield 17, 3) := by decide +kernel
theorem dX8_ofCourse_55 : decode cX8_ofCourse 55 = .ok (.iload_n 1, 1) := by decide +kernel
theorem dX8_ofCourse_56 : decode cX8_ofCourse 56 = .ok (.iaload, 1) := by decide +kernel
theorem dX8_ofCourse_57 : decode cX8_ofCourse 57 = .ok (.ireturn, 1) := by decide +kernel
theorem dX8_ofCourse_58 : decode cX8_ofCourse 58 = .ok (.aload_n 0, 1) := by decide +kernel
theorem dX8_ofCourse_59 : decode cX8_ofCourse 59 = .ok (.getfield 20, 3) := by decide +kernel
theorem dX8_ofCourse_62 : decode cX8_ofCourse 62 = .ok (.iload_n 1, 1) := by decide +kernel
theorem dX8_ofCourse_63 : decode cX8_ofCourse 63 = .ok (.iaload, 1) := by decide +kernel
theorem dX8_ofCourse_64 : decode cX8_ofCourse 64 = .ok (.ireturn, 1) := by decide +kernel
theorem dX8_ofCourse_65 : decode cX8_ofCourse 65 = .ok (.aload_n 0, 1) := by decide +kernel
theorem dX8_ofCourse_66 : decode cX8_ofCourse 66 = .ok (.iload_n 1, 1) := by decide +kernel
theorem dX8_ofCourse_67 : decode cX8_ofCourse 67 = .ok (.invokevirtual 73, 3) := by decide +kernel
theorem dX8_ofCourse_70 : decode cX8_ofCourse 70 = .ok (.ireturn, 1) := by decide +kernel
theorem dX8_ofCourse_71 : decode cX8_ofCourse 71 = .ok (.aload_n 0, 1) := by decide +kernel
theorem dX8_ofCourse_72 : decode cX8_ofCourse 72 = .ok (.getfield 23, 3) := by decide +kernel
theorem dX8_ofCourse_75 : decode cX8_ofCourse 75 = .ok (.iload_n 1, 1) := by decide +kernel
theorem dX8_ofCourse_76 : decode cX8_ofCourse 76 = .ok (.iaload, 1) := by decide +kernel
theorem dX8_ofCourse_77 : decode cX8_ofCourse 77 = .ok (.ireturn, 1) := by decide +kernel
theorem dX8_ofCourse_78 : decode cX8_ofCourse 78 = .ok (.bipush (-2), 2) := by decide +kernel
theorem dX8_ofCourse_80 : decode cX8_ofCourse 80 = .ok (.ireturn, 1) := by decide +kernel
theorem dX8_begins_0 : decode cX8_begins 0 = .ok (.aload_n 0, 1) := by decide +kernel
theorem dX8_begins_1 : decode cX8_begins 1 = .ok (.getfield 13, 3) := by decide +kernel
theorem dX8_begins_4 : decode cX8_begins 4 = .ok (.iload_n 1, 1) := by decide +kernel
theorem dX8_begins_5 : decode cX8_begins 5 = .ok (.iaload, 1) := by decide +kernel
theorem dX8_begins_6 : decode cX8_begins 6 = .ok (.iload_n 3, 1) := by decide +kernel
theorem dX8_begins_7 : decode cX8_begins 7 = .ok (.invokestatic 69, 3) := by decide +kernel
theorem dX8_begins_10 : decode cX8_begins 10 = .ok (.ifCond .ne 34, 3) := by decide +kernel
theorem dX8_begins_13 : decode cX8_begins 13 = .ok (.iload_n 3, 1) := by decide +kernel
theorem dX8_begins_14 : decode cX8_begins 14 = .ok (.ifCond .eq 26, 3) := by decide +kernel
theorem dX8_begins_17 : decode cX8_begins 17 = .ok (.aload_n 0, 1) := by decide +kernel
theorem dX8_begins_18 : decode cX8_begins 18 = .ok (.getfield 13, 3) := by decide +kernel
theorem dX8_begins_21 : decode cX8_begins 21 = .ok (.iload_n 1, 1) := by decide +kernel
theorem dX8_begins_22 : decode cX8_begins 22 = .ok (.iaload, 1) := by decide +kernel
theorem dX8_begins_23 : decode cX8_begins 23 = .ok (.iload_n 3, 1) := by decide +kernel
theorem dX8_begins_24 : decode cX8_begins 24 = .ok (.iconst 1, 1) := by decide +kernel
theorem dX8_begins_25 : decode cX8_begins 25 = .ok (.isub, 1) := by decide +kernel
theorem dX8_begins_26 : decode cX8_begins 26 = .ok (.invokestatic 69, 3) := by decide +kernel
theorem dX8_begins_29 : decode cX8_begins 29 = .ok (.ifCond .ne 11, 3) := by decide +kernel
theorem dX8_begins_32 : decode cX8_begins 32 = .ok (.iload_n 2, 1) := by decide +kernel
theorem dX8_begins_33 : decode cX8_begins 33 = .ok (.iload_n 3, 1) := by decide +kernel
theorem dX8_begins_34 : decode cX8_begins 34 = .ok (.invokestatic 69, 3) := by decide +kernel
theorem dX8_begins_37 : decode cX8_begins 37 = .ok (.ifCond .eq 7, 3) := by decide +kernel
theorem dX8_begins_40 : decode cX8_begins 40 = .ok (.iconst 1, 1) := by decide +kernel
theorem dX8_begins_41 : decode cX8_begins 41 = .ok (.goto 4, 3) := by decide +kernel
theorem dX8_begins_44 : decode cX8_begins 44 = .ok (.iconst 0, 1) := by decide +kernel
theorem dX8_begins_45 : decode cX8_begins 45 = .ok (.ireturn, 1) := by decide +kernel
theorem dX8_lengthFrom_0 : decode cX8_lengthFrom 0 = .ok (.iconst 1, 1) := by decide +kernel
theorem dX8_lengthFrom_1 : decode cX8_lengthFrom 1 = .ok (.istore 4, 2) := by decide +kernel
theorem dX8_lengthFrom_3 : decode cX8_lengthFrom 3 = .ok (.iload_n 3, 1) := by decide +kernel
theorem dX8_lengthFrom_4 : decode cX8_lengthFrom 4 = .ok (.iload 4, 2) := by decide +kernel
theorem dX8_lengthFrom_6 : decode cX8_lengthFrom 6 = .ok (.iadd, 1) := by decide +kernel
theorem dX8_lengthFrom_7 : decode cX8_lengthFrom 7 = .ok (.aload_n 0, 1) := by decide +kernel
theorem dX8_lengthFrom_8 : decode cX8_lengthFrom 8 = .ok (.getfield 7, 3) := by decide +kernel
theorem dX8_lengthFrom_11 : decode cX8_lengthFrom 11 = .ok (.if_icmp .ge 38, 3) := by decide +kernel
theorem dX8_lengthFrom_14 : decode cX8_lengthFrom 14 = .ok (.aload_n 0, 1) := by decide +kernel
theorem dX8_lengthFrom_15 : decode cX8_lengthFrom 15 = .ok (.getfield 13, 3) := by decide +kernel
theorem dX8_lengthFrom_18 : decode cX8_lengthFrom 18 = .ok (.iload_n 1, 1) := by decide +kernel
theorem dX8_lengthFrom_19 : decode cX8_lengthFrom 19 = .ok (.iaload, 1) := by decide +kernel
theorem dX8_lengthFrom_20 : decode cX8_lengthFrom 20 = .ok (.iload_n 3, 1) := by decide +kernel
theorem dX8_lengthFrom_21 : decode cX8_lengthFrom 21 = .ok (.iload 4, 2) := by decide +kernel
theorem dX8_lengthFrom_23 : decode cX8_lengthFrom 23 = .ok (.iadd, 1) := by decide +kernel
theorem dX8_lengthFrom_24 : decode cX8_lengthFrom 24 = .ok (.invokestatic 69, 3) := by decide +kernel
theorem dX8_lengthFrom_27 : decode cX8_lengthFrom 27 = .ok (.ifCond .ne 22, 3) := by decide +kernel
theorem dX8_lengthFrom_30 : decode cX8_lengthFrom 30 = .ok (.aload_n 0, 1) := by decide +kernel
theorem dX8_lengthFrom_31 : decode cX8_lengthFrom 31 = .ok (.iload_n 1, 1) := by decide +kernel
theorem dX8_lengthFrom_32 : decode cX8_lengthFrom 32 = .ok (.iload_n 2, 1) := by decide +kernel
theorem dX8_lengthFrom_33 : decode cX8_lengthFrom 33 = .ok (.iload_n 3, 1) := by decide +kernel
theorem dX8_lengthFrom_34 : decode cX8_lengthFrom 34 = .ok (.iload 4, 2) := by decide +kernel
theorem dX8_lengthFrom_36 : decode cX8_lengthFrom 36 = .ok (.iadd, 1) := by decide +kernel
theorem dX8_lengthFrom_37 : decode cX8_lengthFrom 37 = .ok (.invokevirtual 77, 3) := by decide +kernel
theorem dX8_lengthFrom_40 : decode cX8_lengthFrom 40 = .ok (.ifCond .ne 9, 3) := by decide +kernel
theorem dX8_lengthFrom_43 : decode cX8_lengthFrom 43 = .ok (.iinc 4 1, 3) := by decide +kernel
theorem dX8_lengthFrom_46 : decode cX8_lengthFrom 46 = .ok (.goto (-43), 3) := by decide +kernel
theorem dX8_lengthFrom_49 : decode cX8_lengthFrom 49 = .ok (.iload 4, 2) := by decide +kernel
theorem dX8_lengthFrom_51 : decode cX8_lengthFrom 51 = .ok (.ireturn, 1) := by decide +kernel
theorem dX8_firstOf_0 : decode cX8_firstOf 0 = .ok (.iload_n 3, 1) := by decide +kernel
theorem dX8_firstOf_1 : decode cX8_firstOf 1 = .ok (.istore 4, 2) := by decide +kernel
theorem dX8_firstOf_3 : decode cX8_firstOf 3 = .ok (.aload_n 0, 1) := by decide +kernel
theorem dX8_firstOf_4 : decode cX8_firstOf 4 = .ok (.iload_n 1, 1) := by decide +kernel
theorem dX8_firstOf_5 : decode cX8_firstOf 5 = .ok (.iload_n 2, 1) := by decide +kernel
theorem dX8_firstOf_6 : decode cX8_firstOf 6 = .ok (.iload 4, 2) := by decide +kernel
theorem dX8_firstOf_8 : decode cX8_firstOf 8 = .ok (.invokevirtual 77, 3) := by decide +kernel
theorem dX8_firstOf_11 : decode cX8_firstOf 11 = .ok (.ifCond .ne 9, 3) := by decide +kernel
theorem dX8_firstOf_14 : decode cX8_firstOf 14 = .ok (.iinc 4 (-1), 3) := by decide +kernel
theorem dX8_firstOf_17 : decode cX8_firstOf 17 = .ok (.goto (-14), 3) := by decide +kernel
theorem dX8_firstOf_20 : decode cX8_firstOf 20 = .ok (.iload 4, 2) := by decide +kernel
theorem dX8_firstOf_22 : decode cX8_firstOf 22 = .ok (.ireturn, 1) := by decide +kernel
theorem dX8_isWithin_0 : decode cX8_isWithin 0 = .ok (.iconst 1, 1) := by decide +kernel
theorem dX8_isWithin_1 : decode cX8_isWithin 1 = .ok (.istore_n 3, 1) := by decide +kernel
theorem dX8_isWithin_2 : decode cX8_isWithin 2 = .ok (.iconst 1, 1) := by decide +kernel
theorem dX8_isWithin_3 : decode cX8_isWithin 3 = .ok (.istore 4, 2) := by decide +kernel
theorem dX8_isWithin_5 : decode cX8_isWithin 5 = .ok (.iload 4, 2) := by decide +kernel
theorem dX8_isWithin_7 : decode cX8_isWithin 7 = .ok (.aload_n 0, 1) := by decide +kernel
theorem dX8_isWithin_8 : decode cX8_isWithin 8 = .ok (.getfield 7, 3) := by decide +kernel
theorem dX8_isWithin_11 : decode cX8_isWithin 11 = .ok (.if_icmp .ge 58, 3) := by decide +kernel
theorem dX8_isWithin_14 : decode cX8_isWithin 14 = .ok (.iload_n 3, 1) := by decide +kernel
theorem dX8_isWithin_15 : decode cX8_isWithin 15 = .ok (.ifCond .eq 46, 3) := by decide +kernel
theorem dX8_isWithin_18 : decode cX8_isWithin 18 = .ok (.iload_n 2, 1) := by decide +kernel
theorem dX8_isWithin_19 : decode cX8_isWithin 19 = .ok (.iload 4, 2) := by decide +kernel
theorem dX8_isWithin_21 : decode cX8_isWithin 21 = .ok (.invokestatic 69, 3) := by decide +kernel
theorem dX8_isWithin_24 : decode cX8_isWithin 24 = .ok (.ifCond .eq 33, 3) := by decide +kernel
theorem dX8_isWithin_27 : decode cX8_isWithin 27 = .ok (.aload_n 0, 1) := by decide +kernel
theorem dX8_isWithin_28 : decode cX8_isWithin 28 = .ok (.getfield 13, 3) := by decide +kernel
theorem dX8_isWithin_31 : decode cX8_isWithin 31 = .ok (.iload_n 1, 1) := by decide +kernel
theorem dX8_isWithin_32 : decode cX8_isWithin 32 = .ok (.iaload, 1) := by decide +kernel
theorem dX8_isWithin_33 : decode cX8_isWithin 33 = .ok (.iload 4, 2) := by decide +kernel
theorem dX8_isWithin_35 : decode cX8_isWithin 35 = .ok (.invokestatic 69, 3) := by decide +kernel
theorem dX8_isWithin_38 : decode cX8_isWithin 38 = .ok (.ifCond .ne 23, 3) := by decide +kernel
theorem dX8_isWithin_41 : decode cX8_isWithin 41 = .ok (.aload_n 0, 1) := by decide +kernel
theorem dX8_isWithin_42 : decode cX8_isWithin 42 = .ok (.getfield 13, 3) := by decide +kernel
theorem dX8_isWithin_45 : decode cX8_isWithin 45 = .ok (.iload_n 1, 1) := by decide +kernel
theorem dX8_isWithin_46 : decode cX8_isWithin 46 = .ok (.iaload, 1) := by decide +kernel
theorem dX8_isWithin_47 : decode cX8_isWithin 47 = .ok (.iload 4, 2) := by decide +kernel
theorem dX8_isWithin_49 : decode cX8_isWithin 49 = .ok (.iconst 1, 1) := by decide +kernel
theorem dX8_isWithin_50 : decode cX8_isWithin 50 = .ok (.isub, 1) := by decide +kernel
theorem dX8_isWithin_51 : decode cX8_isWithin 51 = .ok (.invokestatic 69, 3) := by decide +kernel
theorem dX8_isWithin_54 : decode cX8_isWithin 54 = .ok (.ifCond .ne 7, 3) := by decide +kernel
theorem dX8_isWithin_57 : decode cX8_isWithin 57 = .ok (.iconst 1, 1) := by decide +kernel
theorem dX8_isWithin_58 : decode cX8_isWithin 58 = .ok (.goto 4, 3) := by decide +kernel
theorem dX8_isWithin_61 : decode cX8_isWithin 61 = .ok (.iconst 0, 1) := by decide +kernel
theorem dX8_isWithin_62 : decode cX8_isWithin 62 = .ok (.istore_n 3, 1) := by decide +kernel
theorem dX8_isWithin_63 : decode cX8_isWithin 63 = .ok (.iinc 4 1, 3) := by decide +kernel
theorem dX8_isWithin_66 : decode cX8_isWithin 66 = .ok (.goto (-61), 3) := by decide +kernel
theorem dX8_isWithin_69 : decode cX8_isWithin 69 = .ok (.iload_n 3, 1) := by decide +kernel
theorem dX8_isWithin_70 : decode cX8_isWithin 70 = .ok (.ireturn, 1) := by decide +kernel
theorem dX8_isPriced_0 : decode cX8_isPriced 0 = .ok (.iload_n 1, 1) := by decide +kernel
theorem dX8_isPriced_1 : decode cX8_isPriced 1 = .ok (.bipush 6, 2) := by decide +kernel
theorem dX8_isPriced_3 : decode cX8_isPriced 3 = .ok (.if_icmp .gt 18, 3) := by decide +kernel
theorem dX8_isPriced_6 : decode cX8_isPriced 6 = .ok (.aload_n 0, 1) := by decide +kernel
theorem dX8_isPriced_7 : decode cX8_isPriced 7 = .ok (.getfield 26, 3) := by decide +kernel
theorem dX8_isPriced_10 : decode cX8_isPriced 10 = .ok (.iload_n 1, 1) := by decide +kernel
theorem dX8_isPriced_11 : decode cX8_isPriced 11 = .ok (.iaload, 1) := by decide +kernel
theorem dX8_isPriced_12 : decode cX8_isPriced 12 = .ok (.bipush (-9), 2) := by decide +kernel
theorem dX8_isPriced_14 : decode cX8_isPriced 14 = .ok (.if_icmp .eq 7, 3) := by decide +kernel
theorem dX8_isPriced_17 : decode cX8_isPriced 17 = .ok (.iconst 1, 1) := by decide +kernel
theorem dX8_isPriced_18 : decode cX8_isPriced 18 = .ok (.goto 4, 3) := by decide +kernel
theorem dX8_isPriced_21 : decode cX8_isPriced 21 = .ok (.iconst 0, 1) := by decide +kernel
theorem dX8_isPriced_22 : decode cX8_isPriced 22 = .ok (.ireturn, 1) := by decide +kernel
theorem dX8_areEnds_0 : decode cX8_areEnds 0 = .ok (.aload_n 0, 1) := by decide +kernel
theorem dX8_areEnds_1 : decode cX8_areEnds 1 = .ok (.getfield 13, 3) := by decide +kernel
theorem dX8_areEnds_4 : decode cX8_areEnds 4 = .ok (.iload_n 1, 1) := by decide +kernel
theorem dX8_areEnds_5 : decode cX8_areEnds 5 = .ok (.iaload, 1) := by decide +kernel
theorem dX8_areEnds_6 : decode cX8_areEnds 6 = .ok (.iconst 0, 1) := by decide +kernel
theorem dX8_areEnds_7 : decode cX8_areEnds 7 = .ok (.invokestatic 69, 3) := by decide +kernel
theorem dX8_areEnds_10 : decode cX8_areEnds 10 = .ok (.ifCond .ne 26, 3) := by decide +kernel
theorem dX8_areEnds_13 : decode cX8_areEnds 13 = .ok (.aload_n 0, 1) := by decide +kernel
theorem dX8_areEnds_14 : decode cX8_areEnds 14 = .ok (.getfield 29, 3) := by decide +kernel
theorem dX8_areEnds_17 : decode cX8_areEnds 17 = .ok (.iload_n 1, 1) := by decide +kernel
theorem dX8_areEnds_18 : decode cX8_areEnds 18 = .ok (.iconst 2, 1) := by decide +kernel
theorem dX8_areEnds_19 : decode cX8_areEnds 19 = .ok (.irem, 1) := by decide +kernel
theorem dX8_areEnds_20 : decode cX8_areEnds 20 = .ok (.iconst 2, 1) := by decide +kernel
theorem dX8_areEnds_21 : decode cX8_areEnds 21 = .ok (.imul, 1) := by decide +kernel
theorem dX8_areEnds_22 : decode cX8_areEnds 22 = .ok (.iaload, 1) := by decide +kernel
theorem dX8_areEnds_23 : decode cX8_areEnds 23 = .ok (.aload_n 0, 1) := by decide +kernel
theorem dX8_areEnds_24 : decode cX8_areEnds 24 = .ok (.iload_n 1, 1) := by decide +kernel
theorem dX8_areEnds_25 : decode cX8_areEnds 25 = .ok (.iload_n 2, 1) := by decide +kernel
theorem dX8_areEnds_26 : decode cX8_areEnds 26 = .ok (.iconst 0, 1) := by decide +kernel
theorem dX8_areEnds_27 : decode cX8_areEnds 27 = .ok (.invokevirtual 80, 3) := by decide +kernel
theorem dX8_areEnds_30 : decode cX8_areEnds 30 = .ok (.invokestatic 69, 3) := by decide +kernel
theorem dX8_areEnds_33 : decode cX8_areEnds 33 = .ok (.ifCond .eq 7, 3) := by decide +kernel
theorem dX8_areEnds_36 : decode cX8_areEnds 36 = .ok (.iconst 1, 1) := by decide +kernel
theorem dX8_areEnds_37 : decode cX8_areEnds 37 = .ok (.goto 4, 3) := by decide +kernel
theorem dX8_areEnds_40 : decode cX8_areEnds 40 = .ok (.iconst 0, 1) := by decide +kernel
theorem dX8_areEnds_41 : decode cX8_areEnds 41 = .ok (.istore_n 3, 1) := by decide +kernel
theorem dX8_areEnds_42 : decode cX8_areEnds 42 = .ok (.aload_n 0, 1) := by decide +kernel
theorem dX8_areEnds_43 : decode cX8_areEnds 43 = .ok (.getfield 7, 3) := by decide +kernel
theorem dX8_areEnds_46 : decode cX8_areEnds 46 = .ok (.iconst 1, 1) := by decide +kernel
theorem dX8_areEnds_47 : decode cX8_areEnds 47 = .ok (.isub, 1) := by decide +kernel
theorem dX8_areEnds_48 : decode cX8_areEnds 48 = .ok (.istore 4, 2) := by decide +kernel
theorem dX8_areEnds_50 : decode cX8_areEnds 50 = .ok (.aload_n 0, 1) := by decide +kernel
theorem dX8_areEnds_51 : decode cX8_areEnds 51 = .ok (.getfield 13, 3) := by decide +kernel
theorem dX8_areEnds_54 : decode cX8_areEnds 54 = .ok (.iload_n 1, 1) := by decide +kernel
theorem dX8_areEnds_55 : decode cX8_areEnds 55 = .ok (.iaload, 1) := by decide +kernel
theorem dX8_areEnds_56 : decode cX8_areEnds 56 = .ok (.iload 4, 2) := by decide +kernel
theorem dX8_areEnds_58 : decode cX8_areEnds 58 = .ok (.invokestatic 69, 3) := by decide +kernel
theorem dX8_areEnds_61 : decode cX8_areEnds 61 = .ok (.ifCond .ne 35, 3) := by decide +kernel
theorem dX8_areEnds_64 : decode cX8_areEnds 64 = .ok (.aload_n 0, 1) := by decide +kernel
theorem dX8_areEnds_65 : decode cX8_areEnds 65 = .ok (.getfield 29, 3) := by decide +kernel
theorem dX8_areEnds_68 : decode cX8_areEnds 68 = .ok (.iload_n 1, 1) := by decide +kernel
theorem dX8_areEnds_69 : decode cX8_areEnds 69 = .ok (.iconst 2, 1) := by decide +kernel
theorem dX8_areEnds_70 : decode cX8_areEnds 70 = .ok (.irem, 1) := by decide +kernel
theorem dX8_areEnds_71 : decode cX8_areEnds 71 = .ok (.iconst 2, 1) := by decide +kernel
theorem dX8_areEnds_72 : decode cX8_areEnds 72 = .ok (.imul, 1) := by decide +kernel
theorem dX8_areEnds_73 : decode cX8_areEnds 73 = .ok (.iconst 1, 1) := by decide +kernel
theorem dX8_areEnds_74 : decode cX8_areEnds 74 = .ok (.iadd, 1) := by decide +kernel
theorem dX8_areEnds_75 : decode cX8_areEnds 75 = .ok (.iaload, 1) := by decide +kernel
theorem dX8_areEnds_76 : decode cX8_areEnds 76 = .ok (.aload_n 0, 1) := by decide +kernel
theorem dX8_areEnds_77 : decode cX8_areEnds 77 = .ok (.iload_n 1, 1) := by decide +kernel
theorem dX8_areEnds_78 : decode cX8_areEnds 78 = .ok (.iload_n 2, 1) := by decide +kernel
theorem dX8_areEnds_79 : decode cX8_areEnds 79 = .ok (.aload_n 0, 1) := by decide +kernel
theorem dX8_areEnds_80 : decode cX8_areEnds 80 = .ok (.iload_n 1, 1) := by decide +kernel
theorem dX8_areEnds_81 : decode cX8_areEnds 81 = .ok (.iload_n 2, 1) := by decide +kernel
theorem dX8_areEnds_82 : decode cX8_areEnds 82 = .ok (.iload 4, 2) := by decide +kernel
theorem dX8_areEnds_84 : decode cX8_areEnds 84 = .ok (.invokevirtual 84, 3) := by decide +kernel
theorem dX8_areEnds_87 : decode cX8_areEnds 87 = .ok (.invokevirtual 80, 3) := by decide +kernel
theorem dX8_areEnds_90 : decode cX8_areEnds 90 = .ok (.invokestatic 69, 3) := by decide +kernel
theorem dX8_areEnds_93 : decode cX8_areEnds 93 = .ok (.ifCond .eq 7, 3) := by decide +kernel
theorem dX8_areEnds_96 : decode cX8_areEnds 96 = .ok (.iconst 1, 1) := by decide +kernel
theorem dX8_areEnds_97 : decode cX8_areEnds 97 = .ok (.goto 4, 3) := by decide +kernel
theorem dX8_areEnds_100 : decode cX8_areEnds 100 = .ok (.iconst 0, 1) := by decide +kernel
theorem dX8_areEnds_101 : decode cX8_areEnds 101 = .ok (.istore 5, 2) := by decide +kernel
theorem dX8_areEnds_103 : decode cX8_areEnds 103 = .ok (.iload_n 3, 1) := by decide +kernel
theorem dX8_areEnds_104 : decode cX8_areEnds 104 = .ok (.ifCond .eq 12, 3) := by decide +kernel
theorem dX8_areEnds_107 : decode cX8_areEnds 107 = .ok (.iload 5, 2) := by decide +kernel
theorem dX8_areEnds_109 : decode cX8_areEnds 109 = .ok (.ifCond .eq 7, 3) := by decide +kernel
theorem dX8_areEnds_112 : decode cX8_areEnds 112 = .ok (.iconst 1, 1) := by decide +kernel
theorem dX8_areEnds_113 : decode cX8_areEnds 113 = .ok (.goto 4, 3) := by decide +kernel
theorem dX8_areEnds_116 : decode cX8_areEnds 116 = .ok (.iconst 0, 1) := by decide +kernel
theorem dX8_areEnds_117 : decode cX8_areEnds 117 = .ok (.ireturn, 1) := by decide +kernel
theorem dX8_breaks_0 : decode cX8_breaks 0 = .ok (.iload_n 1, 1) := by decide +kernel
theorem dX8_breaks_1 : decode cX8_breaks 1 = .ok (.ifCond .ne 7, 3) := by decide +kernel
theorem dX8_breaks_4 : decode cX8_breaks 4 = .ok (.iconst 0, 1) := by decide +kernel
theorem dX8_breaks_5 : decode cX8_breaks 5 = .ok (.goto 11, 3) := by decide +kernel
theorem dX8_breaks_8 : decode cX8_breaks 8 = .ok (.aload_n 0, 1) := by decide +kernel
theorem dX8_breaks_9 : decode cX8_breaks 9 = .ok (.getfield 13, 3) := by decide +kernel
theorem dX8_breaks_12 : decode cX8_breaks 12 = .ok (.iload_n 1, 1) := by decide +kernel
theorem dX8_breaks_13 : decode cX8_breaks 13 = .ok (.iconst 1, 1) := by decide +kernel
theorem dX8_breaks_14 : decode cX8_breaks 14 = .ok (.isub, 1) := by decide +kernel
theorem dX8_breaks_15 : decode cX8_breaks 15 = .ok (.iaload, 1) := by decide +kernel
theorem dX8_breaks_16 : decode cX8_breaks 16 = .ok (.istore 5, 2) := by decide +kernel
theorem dX8_breaks_18 : decode cX8_breaks 18 = .ok (.iload 4, 2) := by decide +kernel
theorem dX8_breaks_20 : decode cX8_breaks 20 = .ok (.iconst 3, 1) := by decide +kernel
theorem dX8_breaks_21 : decode cX8_breaks 21 = .ok (.if_icmp .ne 17, 3) := by decide +kernel
theorem dX8_breaks_24 : decode cX8_breaks 24 = .ok (.aload_n 0, 1) := by decide +kernel
theorem dX8_breaks_25 : decode cX8_breaks 25 = .ok (.iload_n 3, 1) := by decide +kernel
theorem dX8_breaks_26 : decode cX8_breaks 26 = .ok (.invokevirtual 87, 3) := by decide +kernel
theorem dX8_breaks_29 : decode cX8_breaks 29 = .ok (.ifCond .ne 7, 3) := by decide +kernel
theorem dX8_breaks_32 : decode cX8_breaks 32 = .ok (.iconst 1, 1) := by decide +kernel
theorem dX8_breaks_33 : decode cX8_breaks 33 = .ok (.goto 4, 3) := by decide +kernel
theorem dX8_breaks_36 : decode cX8_breaks 36 = .ok (.iconst 0, 1) := by decide +kernel
theorem dX8_breaks_37 : decode cX8_breaks 37 = .ok (.ireturn, 1) := by decide +kernel
theorem dX8_breaks_38 : decode cX8_breaks 38 = .ok (.iload 4, 2) := by decide +kernel
theorem dX8_breaks_40 : decode cX8_breaks 40 = .ok (.iconst 5, 1) := by decide +kernel
theorem dX8_breaks_41 : decode cX8_breaks 41 = .ok (.if_icmp .ne 31, 3) := by decide +kernel
theorem dX8_breaks_44 : decode cX8_breaks 44 = .ok (.iload 5, 2) := by decide +kernel
theorem dX8_breaks_46 : decode cX8_breaks 46 = .ok (.iload_n 2, 1) := by decide +kernel
theorem dX8_breaks_47 : decode cX8_breaks 47 = .ok (.invokestatic 69, 3) := by decide +kernel
theorem dX8_breaks_50 : decode cX8_breaks 50 = .ok (.ifCond .ne 16, 3) := by decide +kernel
theorem dX8_breaks_53 : decode cX8_breaks 53 = .ok (.iload 5, 2) := by decide +kernel
theorem dX8_breaks_55 : decode cX8_breaks 55 = .ok (.iload_n 2, 1) := by decide +kernel
theorem dX8_breaks_56 : decode cX8_breaks 56 = .ok (.iload_n 3, 1) := by decide +kernel
theorem dX8_breaks_57 : decode cX8_breaks 57 = .ok (.iadd, 1) := by decide +kernel
theorem dX8_breaks_58 : decode cX8_breaks 58 = .ok (.iconst 1, 1) := by decide +kernel
theorem dX8_breaks_59 : decode cX8_breaks 59 = .ok (.isub, 1) := by decide +kernel
theorem dX8_breaks_60 : decode cX8_breaks 60 = .ok (.invokestatic 69, 3) := by decide +kernel
theorem dX8_breaks_63 : decode cX8_breaks 63 = .ok (.ifCond .eq 7, 3) := by decide +kernel
theorem dX8_breaks_66 : decode cX8_breaks 66 = .ok (.iconst 1, 1) := by decide +kernel
theorem dX8_breaks_67 : decode cX8_breaks 67 = .ok (.goto 4, 3) := by decide +kernel
theorem dX8_breaks_70 : decode cX8_breaks 70 = .ok (.iconst 0, 1) := by decide +kernel
theorem dX8_breaks_71 : decode cX8_breaks 71 = .ok (.ireturn, 1) := by decide +kernel
theorem dX8_breaks_72 : decode cX8_breaks 72 = .ok (.iconst 0, 1) := by decide +kernel
theorem dX8_breaks_73 : decode cX8_breaks 73 = .ok (.istore 6, 2) := by decide +kernel
theorem dX8_breaks_75 : decode cX8_breaks 75 = .ok (.iconst 0, 1) := by decide +kernel
theorem dX8_breaks_76 : decode cX8_breaks 76 = .ok (.istore 7, 2) := by decide +kernel
theorem dX8_breaks_78 : decode cX8_breaks 78 = .ok (.iload 7, 2) := by decide +kernel
theorem dX8_breaks_80 : decode cX8_breaks 80 = .ok (.iload_n 3, 1) := by decide +kernel
theorem dX8_breaks_81 : decode cX8_breaks 81 = .ok (.if_icmp .ge 33, 3) := by decide +kernel
theorem dX8_breaks_84 : decode cX8_breaks 84 = .ok (.iload 6, 2) := by decide +kernel
theorem dX8_breaks_86 : decode cX8_breaks 86 = .ok (.ifCond .ne 15, 3) := by decide +kernel
theorem dX8_breaks_89 : decode cX8_breaks 89 = .ok (.iload 5, 2) := by decide +kernel
theorem dX8_breaks_91 : decode cX8_breaks 91 = .ok (.iload_n 2, 1) := by decide +kernel
theorem dX8_breaks_92 : decode cX8_breaks 92 = .ok (.iload 7, 2) := by decide +kernel
theorem dX8_breaks_94 : decode cX8_breaks 94 = .ok (.iadd, 1) := by decide +kernel
theorem dX8_breaks_95 : decode cX8_breaks 95 = .ok (.invokestatic 69, 3) := by decide +kernel
theorem dX8_breaks_98 : decode cX8_breaks 98 = .ok (.ifCond .eq 7, 3) := by decide +kernel
theorem dX8_breaks_101 : decode cX8_breaks 101 = .ok (.iconst 1, 1) := by decide +kernel
theorem dX8_breaks_102 : decode cX8_breaks 102 = .ok (.goto 4, 3) := by decide +kernel
theorem dX8_breaks_105 : decode cX8_breaks 105 = .ok (.iconst 0, 1) := by decide +kernel
theorem dX8_breaks_106 : decode cX8_breaks 106 = .ok (.istore 6, 2) := by decide +kernel
theorem dX8_breaks_108 : decode cX8_breaks 108 = .ok (.iinc 7 1, 3) := by decide +kernel
theorem dX8_breaks_111 : decode cX8_breaks 111 = .ok (.goto (-33), 3) := by decide +kernel
theorem dX8_breaks_114 : decode cX8_breaks 114 = .ok (.iload_n 3, 1) := by decide +kernel
theorem dX8_breaks_115 : decode cX8_breaks 115 = .ok (.iconst 4, 1) := by decide +kernel
theorem dX8_breaks_116 : decode cX8_breaks 116 = .ok (.if_icmp .le 12, 3) := by decide +kernel
theorem dX8_breaks_119 : decode cX8_breaks 119 = .ok (.iload 6, 2) := by decide +kernel
theorem dX8_breaks_121 : decode cX8_breaks 121 = .ok (.ifCond .ne 7, 3) := by decide +kernel
theorem dX8_breaks_124 : decode cX8_breaks 124 = .ok (.iconst 1, 1) := by decide +kernel
theorem dX8_breaks_125 : decode cX8_breaks 125 = .ok (.goto 4, 3) := by decide +kernel
theorem dX8_breaks_128 : decode cX8_breaks 128 = .ok (.iconst 0, 1) := by decide +kernel
theorem dX8_breaks_129 : decode cX8_breaks 129 = .ok (.ireturn, 1) := by decide +kernel
theorem dX8_somePiece_0 : decode cX8_somePiece 0 = .ok (.iconst 0, 1) := by decide +kernel
theorem dX8_somePiece_1 : decode cX8_somePiece 1 = .ok (.istore 4, 2) := by decide +kernel
theorem dX8_somePiece_3 : decode cX8_somePiece 3 = .ok (.iconst 0, 1) := by decide +kernel
theorem dX8_somePiece_4 : decode cX8_somePiece 4 = .ok (.istore 5, 2) := by decide +kernel
theorem dX8_somePiece_6 : decode cX8_somePiece 6 = .ok (.iload 5, 2) := by decide +kernel
theorem dX8_somePiece_8 : decode cX8_somePiece 8 = .ok (.aload_n 0, 1) := by decide +kernel
theorem dX8_somePiece_9 : decode cX8_somePiece 9 = .ok (.getfield 7, 3) := by decide +kernel
theorem dX8_somePiece_12 : decode cX8_somePiece 12 = .ok (.if_icmp .ge 51, 3) := by decide +kernel
theorem dX8_somePiece_15 : decode cX8_somePiece 15 = .ok (.iload 4, 2) := by decide +kernel
theorem dX8_somePiece_17 : decode cX8_somePiece 17 = .ok (.ifCond .ne 33, 3) := by decide +kernel
theorem dX8_somePiece_20 : decode cX8_somePiece 20 = .ok (.aload_n 0, 1) := by decide +kernel
theorem dX8_somePiece_21 : decode cX8_somePiece 21 = .ok (.iload_n 1, 1) := by decide +kernel
theorem dX8_somePiece_22 : decode cX8_somePiece 22 = .ok (.iload_n 2, 1) := by decide +kernel
theorem dX8_somePiece_23 : decode cX8_somePiece 23 = .ok (.iload 5, 2) := by decide +kernel
theorem dX8_somePiece_25 : decode cX8_somePiece 25 = .ok (.invokevirtual 77, 3) := by decide +kernel
theorem dX8_somePiece_28 : decode cX8_somePiece 28 = .ok (.ifCond .eq 26, 3) := by decide +kernel
theorem dX8_somePiece_31 : decode cX8_somePiece 31 = .ok (.aload_n 0, 1) := by decide +kernel
theorem dX8_somePiece_32 : decode cX8_somePiece 32 = .ok (.iload_n 1, 1) := by decide +kernel
theorem dX8_somePiece_33 : decode cX8_somePiece 33 = .ok (.iload 5, 2) := by decide +kernel
theorem dX8_somePiece_35 : decode cX8_somePiece 35 = .ok (.aload_n 0, 1) := by decide +kernel
theorem dX8_somePiece_36 : decode cX8_somePiece 36 = .ok (.iload_n 1, 1) := by decide +kernel
theorem dX8_somePiece_37 : decode cX8_somePiece 37 = .ok (.iload_n 2, 1) := by decide +kernel
theorem dX8_somePiece_38 : decode cX8_somePiece 38 = .ok (.iload 5, 2) := by decide +kernel
theorem dX8_somePiece_40 : decode cX8_somePiece 40 = .ok (.invokevirtual 80, 3) := by decide +kernel
theorem dX8_somePiece_43 : decode cX8_somePiece 43 = .ok (.iload_n 3, 1) := by decide +kernel
theorem dX8_somePiece_44 : decode cX8_somePiece 44 = .ok (.invokevirtual 90, 3) := by decide +kernel
theorem dX8_somePiece_47 : decode cX8_somePiece 47 = .ok (.ifCond .eq 7, 3) := by decide +kernel
theorem dX8_somePiece_50 : decode cX8_somePiece 50 = .ok (.iconst 1, 1) := by decide +kernel
theorem dX8_somePiece_51 : decode cX8_somePiece 51 = .ok (.goto 4, 3) := by decide +kernel
theorem dX8_somePiece_54 : decode cX8_somePiece 54 = .ok (.iconst 0, 1) := by decide +kernel
theorem dX8_somePiece_55 : decode cX8_somePiece 55 = .ok (.istore 4, 2) := by decide +kernel
theorem dX8_somePiece_57 : decode cX8_somePiece 57 = .ok (.iinc 5 1, 3) := by decide +kernel
theorem dX8_somePiece_60 : decode cX8_somePiece 60 = .ok (.goto (-54), 3) := by decide +kernel
theorem dX8_somePiece_63 : decode cX8_somePiece 63 = .ok (.iload 4, 2) := by decide +kernel
theorem dX8_somePiece_65 : decode cX8_somePiece 65 = .ok (.ireturn, 1) := by decide +kernel
theorem dX8_ruleOf_0 : decode cX8_ruleOf 0 = .ok (.aload_n 0, 1) := by decide +kernel
theorem dX8_ruleOf_1 : decode cX8_ruleOf 1 = .ok (.iload_n 1, 1) := by decide +kernel
theorem dX8_ruleOf_2 : decode cX8_ruleOf 2 = .ok (.iload_n 2, 1) := by decide +kernel
theorem dX8_ruleOf_3 : decode cX8_ruleOf 3 = .ok (.invokevirtual 94, 3) := by decide +kernel
theorem dX8_ruleOf_6 : decode cX8_ruleOf 6 = .ok (.ifCond .ne 5, 3) := by decide +kernel
theorem dX8_ruleOf_9 : decode cX8_ruleOf 9 = .ok (.iconst 1, 1) := by decide +kernel
theorem dX8_ruleOf_10 : decode cX8_ruleOf 10 = .ok (.ireturn, 1) := by decide +kernel
theorem dX8_ruleOf_11 : decode cX8_ruleOf 11 = .ok (.aload_n 0, 1) := by decide +kernel
theorem dX8_ruleOf_12 : decode cX8_ruleOf 12 = .ok (.getfield 17, 3) := by decide +kernel
theorem dX8_ruleOf_15 : decode cX8_ruleOf 15 = .ok (.iload_n 1, 1) := by decide +kernel
theorem dX8_ruleOf_16 : decode cX8_ruleOf 16 = .ok (.iaload, 1) := by decide +kernel
theorem dX8_ruleOf_17 : decode cX8_ruleOf 17 = .ok (.iload_n 2, 1) := by decide +kernel
theorem dX8_ruleOf_18 : decode cX8_ruleOf 18 = .ok (.iconst (-1), 1) := by decide +kernel
theorem dX8_ruleOf_19 : decode cX8_ruleOf 19 = .ok (.ixor, 1) := by decide +kernel
theorem dX8_ruleOf_20 : decode cX8_ruleOf 20 = .ok (.iand, 1) := by decide +kernel
theorem dX8_ruleOf_21 : decode cX8_ruleOf 21 = .ok (.ifCond .ne 14, 3) := by decide +kernel
theorem dX8_ruleOf_24 : decode cX8_ruleOf 24 = .ok (.aload_n 0, 1) := by decide +kernel
theorem dX8_ruleOf_25 : decode cX8_ruleOf 25 = .ok (.getfield 20, 3) := by decide +kernel
theorem dX8_ruleOf_28 : decode cX8_ruleOf 28 = .ok (.iload_n 1, 1) := by decide +kernel
theorem dX8_ruleOf_29 : decode cX8_ruleOf 29 = .ok (.iaload, 1) := by decide +kernel
theorem dX8_ruleOf_30 : decode cX8_ruleOf 30 = .ok (.iload_n 2, 1) := by decide +kernel
theorem dX8_ruleOf_31 : decode cX8_ruleOf 31 = .ok (.iand, 1) := by decide +kernel
theorem dX8_ruleOf_32 : decode cX8_ruleOf 32 = .ok (.ifCond .eq 5, 3) := by decide +kernel
theorem dX8_ruleOf_35 : decode cX8_ruleOf 35 = .ok (.iconst 2, 1) := by decide +kernel
theorem dX8_ruleOf_36 : decode cX8_ruleOf 36 = .ok (.ireturn, 1) := by decide +kernel
theorem dX8_ruleOf_37 : decode cX8_ruleOf 37 = .ok (.aload_n 0, 1) := by decide +kernel
theorem dX8_ruleOf_38 : decode cX8_ruleOf 38 = .ok (.iload_n 1, 1) := by decide +kernel
theorem dX8_ruleOf_39 : decode cX8_ruleOf 39 = .ok (.iload_n 2, 1) := by decide +kernel
theorem dX8_ruleOf_40 : decode cX8_ruleOf 40 = .ok (.iconst 3, 1) := by decide +kernel
theorem dX8_ruleOf_41 : decode cX8_ruleOf 41 = .ok (.invokevirtual 97, 3) := by decide +kernel
theorem dX8_ruleOf_44 : decode cX8_ruleOf 44 = .ok (.ifCond .eq 5, 3) := by decide +kernel
theorem dX8_ruleOf_47 : decode cX8_ruleOf 47 = .ok (.iconst 3, 1) := by decide +kernel
theorem dX8_ruleOf_48 : decode cX8_ruleOf 48 = .ok (.ireturn, 1) := by decide +kernel
theorem dX8_ruleOf_49 : decode cX8_ruleOf 49 = .ok (.aload_n 0, 1) := by decide +kernel
theorem dX8_ruleOf_50 : decode cX8_ruleOf 50 = .ok (.iload_n 1, 1) := by decide +kernel
theorem dX8_ruleOf_51 : decode cX8_ruleOf 51 = .ok (.iload_n 2, 1) := by decide +kernel
theorem dX8_ruleOf_52 : decode cX8_ruleOf 52 = .ok (.invokevirtual 100, 3) := by decide +kernel
theorem dX8_ruleOf_55 : decode cX8_ruleOf 55 = .ok (.ifCond .ne 5, 3) := by decide +kernel
theorem dX8_ruleOf_58 : decode cX8_ruleOf 58 = .ok (.iconst 4, 1) := by decide +kernel
theorem dX8_ruleOf_59 : decode cX8_ruleOf 59 = .ok (.ireturn, 1) := by decide +kernel
theorem dX8_ruleOf_60 : decode cX8_ruleOf 60 = .ok (.aload_n 0, 1) := by decide +kernel
theorem dX8_ruleOf_61 : decode cX8_ruleOf 61 = .ok (.iload_n 1, 1) := by decide +kernel
theorem dX8_ruleOf_62 : decode cX8_ruleOf 62 = .ok (.iload_n 2, 1) := by decide +kernel
theorem dX8_ruleOf_63 : decode cX8_ruleOf 63 = .ok (.iconst 5, 1) := by decide +kernel
theorem dX8_ruleOf_64 : decode cX8_ruleOf 64 = .ok (.invokevirtual 97, 3) := by decide +kernel
theorem dX8_ruleOf_67 : decode cX8_ruleOf 67 = .ok (.ifCond .eq 7, 3) := by decide +kernel
theorem dX8_ruleOf_70 : decode cX8_ruleOf 70 = .ok (.iconst 5, 1) := by decide +kernel
theorem dX8_ruleOf_71 : decode cX8_ruleOf 71 = .ok (.goto 20, 3) := by decide +kernel
theorem dX8_ruleOf_74 : decode cX8_ruleOf 74 = .ok (.aload_n 0, 1) := by decide +kernel
theorem dX8_ruleOf_75 : decode cX8_ruleOf 75 = .ok (.iload_n 1, 1) := by decide +kernel
theorem dX8_ruleOf_76 : decode cX8_ruleOf 76 = .ok (.iload_n 2, 1) := by decide +kernel
theorem dX8_ruleOf_77 : decode cX8_ruleOf 77 = .ok (.bipush 6, 2) := by decide +kernel
theorem dX8_ruleOf_79 : decode cX8_ruleOf 79 = .ok (.invokevirtual 97, 3) := by decide +kernel
theorem dX8_ruleOf_82 : decode cX8_ruleOf 82 = .ok (.ifCond .eq 8, 3) := by decide +kernel
theorem dX8_ruleOf_85 : decode cX8_ruleOf 85 = .ok (.bipush 6, 2) := by decide +kernel
theorem dX8_ruleOf_87 : decode cX8_ruleOf 87 = .ok (.goto 4, 3) := by decide +kernel
theorem dX8_ruleOf_90 : decode cX8_ruleOf 90 = .ok (.iconst 0, 1) := by decide +kernel
theorem dX8_ruleOf_91 : decode cX8_ruleOf 91 = .ok (.ireturn, 1) := by decide +kernel
theorem dX8_around_0 : decode cX8_around 0 = .ok (.iload_n 0, 1) := by decide +kernel
theorem dX8_around_1 : decode cX8_around 1 = .ok (.istore_n 2, 1) := by decide +kernel
theorem dX8_around_2 : decode cX8_around 2 = .ok (.iconst 1, 1) := by decide +kernel
theorem dX8_around_3 : decode cX8_around 3 = .ok (.istore_n 3, 1) := by decide +kernel
theorem dX8_around_4 : decode cX8_around 4 = .ok (.iload_n 3, 1) := by decide +kernel
theorem dX8_around_5 : decode cX8_around 5 = .ok (.iload_n 1, 1) := by decide +kernel
theorem dX8_around_6 : decode cX8_around 6 = .ok (.if_icmp .ge 19, 3) := by decide +kernel
theorem dX8_around_9 : decode cX8_around 9 = .ok (.iload_n 2, 1) := by decide +kernel
theorem dX8_around_10 : decode cX8_around 10 = .ok (.iload_n 0, 1) := by decide +kernel
theorem dX8_around_11 : decode cX8_around 11 = .ok (.iload_n 3, 1) := by decide +kernel
theorem dX8_around_12 : decode cX8_around 12 = .ok (.ishl, 1) := by decide +kernel
theorem dX8_around_13 : decode cX8_around 13 = .ok (.iload_n 0, 1) := by decide +kernel
theorem dX8_around_14 : decode cX8_around 14 = .ok (.iload_n 3, 1) := by decide +kernel
theorem dX8_around_15 : decode cX8_around 15 = .ok (.ishr, 1) := by decide +kernel
theorem dX8_around_16 : decode cX8_around 16 = .ok (.ior, 1) := by decide +kernel
theorem dX8_around_17 : decode cX8_around 17 = .ok (.ior, 1) := by decide +kernel
theorem dX8_around_18 : decode cX8_around 18 = .ok (.istore_n 2, 1) := by decide +kernel
theorem dX8_around_19 : decode cX8_around 19 = .ok (.iinc 3 1, 3) := by decide +kernel
theorem dX8_around_22 : decode cX8_around 22 = .ok (.goto (-18), 3) := by decide +kernel
theorem dX8_around_25 : decode cX8_around 25 = .ok (.iload_n 2, 1) := by decide +kernel
theorem dX8_around_26 : decode cX8_around 26 = .ok (.ireturn, 1) := by decide +kernel
theorem dX8_costOf_0 : decode cX8_costOf 0 = .ok (.iconst 0, 1) := by decide +kernel
theorem dX8_costOf_1 : decode cX8_costOf 1 = .ok (.istore_n 3, 1) := by decide +kernel
theorem dX8_costOf_2 : decode cX8_costOf 2 = .ok (.iconst 0, 1) := by decide +kernel
theorem dX8_costOf_3 : decode cX8_costOf 3 = .ok (.istore 4, 2) := by decide +kernel
theorem dX8_costOf_5 : decode cX8_costOf 5 = .ok (.iload 4, 2) := by decide +kernel
theorem dX8_costOf_7 : decode cX8_costOf 7 = .ok (.aload_n 0, 1) := by decide +kernel
theorem dX8_costOf_8 : decode cX8_costOf 8 = .ok (.getfield 7, 3) := by decide +kernel
theorem dX8_costOf_11 : decode cX8_costOf 11 = .ok (.if_icmp .ge 54, 3) := by decide +kernel
theorem dX8_costOf_14 : decode cX8_costOf 14 = .ok (.aload_n 0, 1) := by decide +kernel
theorem dX8_costOf_15 : decode cX8_costOf 15 = .ok (.iload_n 1, 1) := by decide +kernel
theorem dX8_costOf_16 : decode cX8_costOf 16 = .ok (.iload_n 2, 1) := by decide +kernel
theorem dX8_costOf_17 : decode cX8_costOf 17 = .ok (.iload 4, 2) := by decide +kernel
theorem dX8_costOf_19 : decode cX8_costOf 19 = .ok (.invokevirtual 77, 3) := by decide +kernel
theorem dX8_costOf_22 : decode cX8_costOf 22 = .ok (.ifCond .eq 37, 3) := by decide +kernel
theorem dX8_costOf_25 : decode cX8_costOf 25 = .ok (.aload_n 0, 1) := by decide +kernel
theorem dX8_costOf_26 : decode cX8_costOf 26 = .ok (.iload_n 1, 1) := by decide +kernel
theorem dX8_costOf_27 : decode cX8_costOf 27 = .ok (.iload_n 2, 1) := by decide +kernel
theorem dX8_costOf_28 : decode cX8_costOf 28 = .ok (.iload 4, 2) := by decide +kernel
theorem dX8_costOf_30 : decode cX8_costOf 30 = .ok (.invokevirtual 80, 3) := by decide +kernel
theorem dX8_costOf_33 : decode cX8_costOf 33 = .ok (.istore 5, 2) := by decide +kernel
theorem dX8_costOf_35 : decode cX8_costOf 35 = .ok (.iload_n 3, 1) := by decide +kernel
theorem dX8_costOf_36 : decode cX8_costOf 36 = .ok (.aload_n 0, 1) := by decide +kernel
theorem dX8_costOf_37 : decode cX8_costOf 37 = .ok (.iload 5, 2) := by decide +kernel
theorem dX8_costOf_39 : decode cX8_costOf 39 = .ok (.invokevirtual 87, 3) := by decide +kernel
theorem dX8_costOf_42 : decode cX8_costOf 42 = .ok (.ifCond .eq 13, 3) := by decide +kernel
theorem dX8_costOf_45 : decode cX8_costOf 45 = .ok (.aload_n 0, 1) := by decide +kernel
theorem dX8_costOf_46 : decode cX8_costOf 46 = .ok (.getfield 26, 3) := by decide +kernel
theorem dX8_costOf_49 : decode cX8_costOf 49 = .ok (.iload 5, 2) := by decide +kernel
theorem dX8_costOf_51 : decode cX8_costOf 51 = .ok (.iaload, 1) := by decide +kernel
theorem dX8_costOf_52 : decode cX8_costOf 52 = .ok (.goto 5, 3) := by decide +kernel
theorem dX8_costOf_55 : decode cX8_costOf 55 = .ok (.bipush 100, 2) := by decide +kernel
theorem dX8_costOf_57 : decode cX8_costOf 57 = .ok (.iadd, 1) := by decide +kernel
theorem dX8_costOf_58 : decode cX8_costOf 58 = .ok (.istore_n 3, 1) := by decide +kernel
theorem dX8_costOf_59 : decode cX8_costOf 59 = .ok (.iinc 4 1, 3) := by decide +kernel
theorem dX8_costOf_62 : decode cX8_costOf 62 = .ok (.goto (-57), 3) := by decide +kernel
theorem dX8_costOf_65 : decode cX8_costOf 65 = .ok (.iload_n 3, 1) := by decide +kernel
theorem dX8_costOf_66 : decode cX8_costOf 66 = .ok (.ireturn, 1) := by decide +kernel
theorem dX8_findRows_0 : decode cX8_findRows 0 = .ok (.aload_n 0, 1) := by decide +kernel
theorem dX8_findRows_1 : decode cX8_findRows 1 = .ok (.getfield 35, 3) := by decide +kernel
theorem dX8_findRows_4 : decode cX8_findRows 4 = .ok (.iload_n 1, 1) := by decide +kernel
theorem dX8_findRows_5 : decode cX8_findRows 5 = .ok (.iconst 0, 1) := by decide +kernel
theorem dX8_findRows_6 : decode cX8_findRows 6 = .ok (.iastore, 1) := by decide +kernel
theorem dX8_findRows_7 : decode cX8_findRows 7 = .ok (.iconst 0, 1) := by decide +kernel
theorem dX8_findRows_8 : decode cX8_findRows 8 = .ok (.istore_n 2, 1) := by decide +kernel
theorem dX8_findRows_9 : decode cX8_findRows 9 = .ok (.iload_n 2, 1) := by decide +kernel
theorem dX8_findRows_10 : decode cX8_findRows 10 = .ok (.iconst 1, 1) := by decide +kernel
theorem dX8_findRows_11 : decode cX8_findRows 11 = .ok (.aload_n 0, 1) := by decide +kernel
theorem dX8_findRows_12 : decode cX8_findRows 12 = .ok (.getfield 7, 3) := by decide +kernel
theorem dX8_findRows_15 : decode cX8_findRows 15 = .ok (.ishl, 1) := by decide +kernel
theorem dX8_findRows_16 : decode cX8_findRows 16 = .ok (.if_icmp .ge 46, 3) := by decide +kernel
theorem dX8_findRows_19 : decode cX8_findRows 19 = .ok (.aload_n 0, 1) := by decide +kernel
theorem dX8_findRows_20 : decode cX8_findRows 20 = .ok (.iload_n 1, 1) := by decide +kernel
theorem dX8_findRows_21 : decode cX8_findRows 21 = .ok (.iload_n 2, 1) := by decide +kernel
theorem dX8_findRows_22 : decode cX8_findRows 22 = .ok (.invokevirtual 103, 3) := by decide +kernel
theorem dX8_findRows_25 : decode cX8_findRows 25 = .ok (.ifCond .ne 31, 3) := by decide +kernel
theorem dX8_findRows_28 : decode cX8_findRows 28 = .ok (.aload_n 0, 1) := by decide +kernel
theorem dX8_findRows_29 : decode cX8_findRows 29 = .ok (.getfield 38, 3) := by decide +kernel
theorem dX8_findRows_32 : decode cX8_findRows 32 = .ok (.sipush 512, 3) := by decide +kernel
theorem dX8_findRows_35 : decode cX8_findRows 35 = .ok (.iload_n 1, 1) := by decide +kernel
theorem dX8_findRows_36 : decode cX8_findRows 36 = .ok (.imul, 1) := by decide +kernel
theorem dX8_findRows_37 : decode cX8_findRows 37 = .ok (.aload_n 0, 1) := by decide +kernel
theorem dX8_findRows_38 : decode cX8_findRows 38 = .ok (.getfield 35, 3) := by decide +kernel
theorem dX8_findRows_41 : decode cX8_findRows 41 = .ok (.iload_n 1, 1) := by decide +kernel
theorem dX8_findRows_42 : decode cX8_findRows 42 = .ok (.iaload, 1) := by decide +kernel
theorem dX8_findRows_43 : decode cX8_findRows 43 = .ok (.iadd, 1) := by decide +kernel
theorem dX8_findRows_44 : decode cX8_findRows 44 = .ok (.iload_n 2, 1) := by decide +kernel
theorem dX8_findRows_45 : decode cX8_findRows 45 = .ok (.iastore, 1) := by decide +kernel
theorem dX8_findRows_46 : decode cX8_findRows 46 = .ok (.aload_n 0, 1) := by decide +kernel
theorem dX8_findRows_47 : decode cX8_findRows 47 = .ok (.getfield 35, 3) := by decide +kernel
theorem dX8_findRows_50 : decode cX8_findRows 50 = .ok (.iload_n 1, 1) := by decide +kernel
theorem dX8_findRows_51 : decode cX8_findRows 51 = .ok (.dup2, 1) := by decide +kernel
theorem dX8_findRows_52 : decode cX8_findRows 52 = .ok (.iaload, 1) := by decide +kernel
theorem dX8_findRows_53 : decode cX8_findRows 53 = .ok (.iconst 1, 1) := by decide +kernel
theorem dX8_findRows_54 : decode cX8_findRows 54 = .ok (.iadd, 1) := by decide +kernel
theorem dX8_findRows_55 : decode cX8_findRows 55 = .ok (.iastore, 1) := by decide +kernel
theorem dX8_findRows_56 : decode cX8_findRows 56 = .ok (.iinc 2 2, 3) := by decide +kernel
theorem dX8_findRows_59 : decode cX8_findRows 59 = .ok (.goto (-50), 3) := by decide +kernel
theorem dX8_findRows_62 : decode cX8_findRows 62 = .ok (.return_, 1) := by decide +kernel
theorem dX8_findAll_0 : decode cX8_findAll 0 = .ok (.aload_n 0, 1) := by decide +kernel
theorem dX8_findAll_1 : decode cX8_findAll 1 = .ok (.getfield 55, 3) := by decide +kernel
theorem dX8_findAll_4 : decode cX8_findAll 4 = .ok (.iconst 1, 1) := by decide +kernel
theorem dX8_findAll_5 : decode cX8_findAll 5 = .ok (.isub, 1) := by decide +kernel
theorem dX8_findAll_6 : decode cX8_findAll 6 = .ok (.istore_n 2, 1) := by decide +kernel
theorem dX8_findAll_7 : decode cX8_findAll 7 = .ok (.iload_n 2, 1) := by decide +kernel
theorem dX8_findAll_8 : decode cX8_findAll 8 = .ok (.ifCond .lt 39, 3) := by decide +kernel
theorem dX8_findAll_11 : decode cX8_findAll 11 = .ok (.aload_n 0, 1) := by decide +kernel
theorem dX8_findAll_12 : decode cX8_findAll 12 = .ok (.iload_n 2, 1) := by decide +kernel
theorem dX8_findAll_13 : decode cX8_findAll 13 = .ok (.invokevirtual 107, 3) := by decide +kernel
theorem dX8_findAll_16 : decode cX8_findAll 16 = .ok (.iconst 0, 1) := by decide +kernel
theorem dX8_findAll_17 : decode cX8_findAll 17 = .ok (.istore_n 3, 1) := by decide +kernel
theorem dX8_findAll_18 : decode cX8_findAll 18 = .ok (.iload_n 3, 1) := by decide +kernel
theorem dX8_findAll_19 : decode cX8_findAll 19 = .ok (.aload_n 0, 1) := by decide +kernel
theorem dX8_findAll_20 : decode cX8_findAll 20 = .ok (.getfield 35, 3) := by decide +kernel
theorem dX8_findAll_23 : decode cX8_findAll 23 = .ok (.iload_n 2, 1) := by decide +kernel
theorem dX8_findAll_24 : decode cX8_findAll 24 = .ok (.iaload, 1) := by decide +kernel
theorem dX8_findAll_25 : decode cX8_findAll 25 = .ok (.if_icmp .ge 16, 3) := by decide +kernel
theorem dX8_findAll_28 : decode cX8_findAll 28 = .ok (.aload_n 0, 1) := by decide +kernel
theorem dX8_findAll_29 : decode cX8_findAll 29 = .ok (.iload_n 2, 1) := by decide +kernel
theorem dX8_findAll_30 : decode cX8_findAll 30 = .ok (.iload_n 3, 1) := by decide +kernel
theorem dX8_findAll_31 : decode cX8_findAll 31 = .ok (.iload_n 1, 1) := by decide +kernel
theorem dX8_findAll_32 : decode cX8_findAll 32 = .ok (.invokevirtual 111, 3) := by decide +kernel
theorem dX8_findAll_35 : decode cX8_findAll 35 = .ok (.iinc 3 1, 3) := by decide +kernel
theorem dX8_findAll_38 : decode cX8_findAll 38 = .ok (.goto (-20), 3) := by decide +kernel
theorem dX8_findAll_41 : decode cX8_findAll 41 = .ok (.iinc 2 (-1), 3) := by decide +kernel
theorem dX8_findAll_44 : decode cX8_findAll 44 = .ok (.goto (-37), 3) := by decide +kernel
theorem dX8_findAll_47 : decode cX8_findAll 47 = .ok (.return_, 1) := by decide +kernel
theorem dX8_findFrom_0 : decode cX8_findFrom 0 = .ok (.sipush 512, 3) := by decide +kernel
theorem dX8_findFrom_3 : decode cX8_findFrom 3 = .ok (.iload_n 1, 1) := by decide +kernel
theorem dX8_findFrom_4 : decode cX8_findFrom 4 = .ok (.imul, 1) := by decide +kernel
theorem dX8_findFrom_5 : decode cX8_findFrom 5 = .ok (.iload_n 2, 1) := by decide +kernel
theorem dX8_findFrom_6 : decode cX8_findFrom 6 = .ok (.iadd, 1) := by decide +kernel
theorem dX8_findFrom_7 : decode cX8_findFrom 7 = .ok (.istore 4, 2) := by decide +kernel
theorem dX8_findFrom_9 : decode cX8_findFrom 9 = .ok (.iload_n 1, 1) := by decide +kernel
theorem dX8_findFrom_10 : decode cX8_findFrom 10 = .ok (.aload_n 0, 1) := by decide +kernel
theorem dX8_findFrom_11 : decode cX8_findFrom 11 = .ok (.getfield 55, 3) := by decide +kernel
theorem dX8_findFrom_14 : decode cX8_findFrom 14 = .ok (.iconst 1, 1) := by decide +kernel
theorem dX8_findFrom_15 : decode cX8_findFrom 15 = .ok (.isub, 1) := by decide +kernel
theorem dX8_findFrom_16 : decode cX8_findFrom 16 = .ok (.if_icmp .ne 7, 3) := by decide +kernel
theorem dX8_findFrom_19 : decode cX8_findFrom 19 = .ok (.iconst 0, 1) := by decide +kernel
theorem dX8_findFrom_20 : decode cX8_findFrom 20 = .ok (.goto 5, 3) := by decide +kernel
theorem dX8_findFrom_23 : decode cX8_findFrom 23 = .ok (.ldc 115, 2) := by decide +kernel
theorem dX8_findFrom_25 : decode cX8_findFrom 25 = .ok (.istore 5, 2) := by decide +kernel
theorem dX8_findFrom_27 : decode cX8_findFrom 27 = .ok (.iload_n 1, 1) := by decide +kernel
theorem dX8_findFrom_28 : decode cX8_findFrom 28 = .ok (.aload_n 0, 1) := by decide +kernel
theorem dX8_findFrom_29 : decode cX8_findFrom 29 = .ok (.getfield 55, 3) := by decide +kernel
theorem dX8_findFrom_32 : decode cX8_findFrom 32 = .ok (.iconst 1, 1) := by decide +kernel
theorem dX8_findFrom_33 : decode cX8_findFrom 33 = .ok (.isub, 1) := by decide +kernel
theorem dX8_findFrom_34 : decode cX8_findFrom 34 = .ok (.if_icmp .ne 7, 3) := by decide +kernel
theorem dX8_findFrom_37 : decode cX8_findFrom 37 = .ok (.lconst 1, 1) := by decide +kernel
theorem dX8_findFrom_38 : decode cX8_findFrom 38 = .ok (.goto 4, 3) := by decide +kernel
theorem dX8_findFrom_41 : decode cX8_findFrom 41 = .ok (.lconst 0, 1) := by decide +kernel
theorem dX8_findFrom_42 : decode cX8_findFrom 42 = .ok (.lstore 6, 2) := by decide +kernel
theorem dX8_findFrom_44 : decode cX8_findFrom 44 = .ok (.aload_n 0, 1) := by decide +kernel
theorem dX8_findFrom_45 : decode cX8_findFrom 45 = .ok (.getfield 38, 3) := by decide +kernel
theorem dX8_findFrom_48 : decode cX8_findFrom 48 = .ok (.iload 4, 2) := by decide +kernel
theorem dX8_findFrom_50 : decode cX8_findFrom 50 = .ok (.iaload, 1) := by decide +kernel
theorem dX8_findFrom_51 : decode cX8_findFrom 51 = .ok (.iload_n 3, 1) := by decide +kernel
theorem dX8_findFrom_52 : decode cX8_findFrom 52 = .ok (.invokestatic 116, 3) := by decide +kernel
theorem dX8_findFrom_55 : decode cX8_findFrom 55 = .ok (.istore 8, 2) := by decide +kernel
theorem dX8_findFrom_57 : decode cX8_findFrom 57 = .ok (.iconst 0, 1) := by decide +kernel
theorem dX8_findFrom_58 : decode cX8_findFrom 58 = .ok (.istore 9, 2) := by decide +kernel
theorem dX8_findFrom_60 : decode cX8_findFrom 60 = .ok (.iload_n 1, 1) := by decide +kernel
theorem dX8_findFrom_61 : decode cX8_findFrom 61 = .ok (.aload_n 0, 1) := by decide +kernel
theorem dX8_findFrom_62 : decode cX8_findFrom 62 = .ok (.getfield 55, 3) := by decide +kernel
theorem dX8_findFrom_65 : decode cX8_findFrom 65 = .ok (.iconst 1, 1) := by decide +kernel
theorem dX8_findFrom_66 : decode cX8_findFrom 66 = .ok (.isub, 1) := by decide +kernel
theorem dX8_findFrom_67 : decode cX8_findFrom 67 = .ok (.if_icmp .ge 85, 3) := by decide +kernel
theorem dX8_findFrom_70 : decode cX8_findFrom 70 = .ok (.iload 9, 2) := by decide +kernel
theorem dX8_findFrom_72 : decode cX8_findFrom 72 = .ok (.aload_n 0, 1) := by decide +kernel
theorem dX8_findFrom_73 : decode cX8_findFrom 73 = .ok (.getfield 35, 3) := by decide +kernel
theorem dX8_findFrom_76 : decode cX8_findFrom 76 = .ok (.iload_n 1, 1) := by decide +kernel
theorem dX8_findFrom_77 : decode cX8_findFrom 77 = .ok (.iconst 1, 1) := by decide +kernel
theorem dX8_findFrom_78 : decode cX8_findFrom 78 = .ok (.iadd, 1) := by decide +kernel
theorem dX8_findFrom_79 : decode cX8_findFrom 79 = .ok (.iaload, 1) := by decide +kernel
theorem dX8_findFrom_80 : decode cX8_findFrom 80 = .ok (.if_icmp .ge 72, 3) := by decide +kernel
theorem dX8_findFrom_83 : decode cX8_findFrom 83 = .ok (.sipush 512, 3) := by decide +kernel
theorem dX8_findFrom_86 : decode cX8_findFrom 86 = .ok (.iload_n 1, 1) := by decide +kernel
theorem dX8_findFrom_87 : decode cX8_findFrom 87 = .ok (.iconst 1, 1) := by decide +kernel
theorem dX8_findFrom_88 : decode cX8_findFrom 88 = .ok (.iadd, 1) := by decide +kernel
theorem dX8_findFrom_89 : decode cX8_findFrom 89 = .ok (.imul, 1) := by decide +kernel
theorem dX8_findFrom_90 : decode cX8_findFrom 90 = .ok (.iload 9, 2) := by decide +kernel
theorem dX8_findFrom_92 : decode cX8_findFrom 92 = .ok (.iadd, 1) := by decide +kernel
theorem dX8_findFrom_93 : decode cX8_findFrom 93 = .ok (.istore 10, 2) := by decide +kernel
theorem dX8_findFrom_95 : decode cX8_findFrom 95 = .ok (.aload_n 0, 1) := by decide +kernel
theorem dX8_findFrom_96 : decode cX8_findFrom 96 = .ok (.getfield 38, 3) := by decide +kernel
theorem dX8_findFrom_99 : decode cX8_findFrom 99 = .ok (.iload 10, 2) := by decide +kernel
theorem dX8_findFrom_101 : decode cX8_findFrom 101 = .ok (.iaload, 1) := by decide +kernel
theorem dX8_findFrom_102 : decode cX8_findFrom 102 = .ok (.iload 8, 2) := by decide +kernel
theorem dX8_findFrom_104 : decode cX8_findFrom 104 = .ok (.iand, 1) := by decide +kernel
theorem dX8_findFrom_105 : decode cX8_findFrom 105 = .ok (.ifCond .ne 41, 3) := by decide +kernel
theorem dX8_findFrom_108 : decode cX8_findFrom 108 = .ok (.aload_n 0, 1) := by decide +kernel
theorem dX8_findFrom_109 : decode cX8_findFrom 109 = .ok (.getfield 41, 3) := by decide +kernel
theorem dX8_findFrom_112 : decode cX8_findFrom 112 = .ok (.iload 10, 2) := by decide +kernel
theorem dX8_findFrom_114 : decode cX8_findFrom 114 = .ok (.iaload, 1) := by decide +kernel
theorem dX8_findFrom_115 : decode cX8_findFrom 115 = .ok (.iload 5, 2) := by decide +kernel
theorem dX8_findFrom_117 : decode cX8_findFrom 117 = .ok (.if_icmp .ge 13, 3) := by decide +kernel
theorem dX8_findFrom_120 : decode cX8_findFrom 120 = .ok (.aload_n 0, 1) := by decide +kernel
theorem dX8_findFrom_121 : decode cX8_findFrom 121 = .ok (.getfield 41, 3) := by decide +kernel
theorem dX8_findFrom_124 : decode cX8_findFrom 124 = .ok (.iload 10, 2) := by decide +kernel
theorem dX8_findFrom_126 : decode cX8_findFrom 126 = .ok (.iaload, 1) := by decide +kernel
theorem dX8_findFrom_127 : decode cX8_findFrom 127 = .ok (.goto 5, 3) := by decide +kernel
theorem dX8_findFrom_130 : decode cX8_findFrom 130 = .ok (.iload 5, 2) := by decide +kernel
theorem dX8_findFrom_132 : decode cX8_findFrom 132 = .ok (.istore 5, 2) := by decide +kernel
theorem dX8_findFrom_134 : decode cX8_findFrom 134 = .ok (.lload 6, 2) := by decide +kernel
theorem dX8_findFrom_136 : decode cX8_findFrom 136 = .ok (.aload_n 0, 1) := by decide +kernel
theorem dX8_findFrom_137 : decode cX8_findFrom 137 = .ok (.getfield 44, 3) := by decide +kernel
theorem dX8_findFrom_140 : decode cX8_findFrom 140 = .ok (.iload 10, 2) := by decide +kernel
theorem dX8_findFrom_142 : decode cX8_findFrom 142 = .ok (.laload, 1) := by decide +kernel
theorem dX8_findFrom_143 : decode cX8_findFrom 143 = .ok (.ladd, 1) := by decide +kernel
theorem dX8_findFrom_144 : decode cX8_findFrom 144 = .ok (.lstore 6, 2) := by decide +kernel
theorem dX8_findFrom_146 : decode cX8_findFrom 146 = .ok (.iinc 9 1, 3) := by decide +kernel
theorem dX8_findFrom_149 : decode cX8_findFrom 149 = .ok (.goto (-89), 3) := by decide +kernel
theorem dX8_findFrom_152 : decode cX8_findFrom 152 = .ok (.aload_n 0, 1) := by decide +kernel
theorem dX8_findFrom_153 : decode cX8_findFrom 153 = .ok (.getfield 41, 3) := by decide +kernel
theorem dX8_findFrom_156 : decode cX8_findFrom 156 = .ok (.iload 4, 2) := by decide +kernel
theorem dX8_findFrom_158 : decode cX8_findFrom 158 = .ok (.iload 5, 2) := by decide +kernel
theorem dX8_findFrom_160 : decode cX8_findFrom 160 = .ok (.ldc 115, 2) := by decide +kernel
theorem dX8_findFrom_162 : decode cX8_findFrom 162 = .ok (.if_icmp .ne 8, 3) := by decide +kernel
theorem dX8_findFrom_165 : decode cX8_findFrom 165 = .ok (.ldc 115, 2) := by decide +kernel
theorem dX8_findFrom_167 : decode cX8_findFrom 167 = .ok (.goto 18, 3) := by decide +kernel
theorem dX8_findFrom_170 : decode cX8_findFrom 170 = .ok (.iload 5, 2) := by decide +kernel
theorem dX8_findFrom_172 : decode cX8_findFrom 172 = .ok (.aload_n 0, 1) := by decide +kernel
theorem dX8_findFrom_173 : decode cX8_findFrom 173 = .ok (.iload_n 1, 1) := by decide +kernel
theorem dX8_findFrom_174 : decode cX8_findFrom 174 = .ok (.aload_n 0, 1) := by decide +kernel
theorem dX8_findFrom_175 : decode cX8_findFrom 175 = .ok (.getfield 38, 3) := by decide +kernel
theorem dX8_findFrom_178 : decode cX8_findFrom 178 = .ok (.iload 4, 2) := by decide +kernel
theorem dX8_findFrom_180 : decode cX8_findFrom 180 = .ok (.iaload, 1) := by decide +kernel
theorem dX8_findFrom_181 : decode cX8_findFrom 181 = .ok (.invokevirtual 119, 3) := by decide +kernel
theorem dX8_findFrom_184 : decode cX8_findFrom 184 = .ok (.iadd, 1) := by decide +kernel
theorem dX8_findFrom_185 : decode cX8_findFrom 185 = .ok (.iastore, 1) := by decide +kernel
theorem dX8_findFrom_186 : decode cX8_findFrom 186 = .ok (.aload_n 0, 1) := by decide +kernel
theorem dX8_findFrom_187 : decode cX8_findFrom 187 = .ok (.getfield 44, 3) := by decide +kernel
theorem dX8_findFrom_190 : decode cX8_findFrom 190 = .ok (.iload 4, 2) := by decide +kernel
theorem dX8_findFrom_192 : decode cX8_findFrom 192 = .ok (.lload 6, 2) := by decide +kernel
theorem dX8_findFrom_194 : decode cX8_findFrom 194 = .ok (.lastore, 1) := by decide +kernel
theorem dX8_findFrom_195 : decode cX8_findFrom 195 = .ok (.return_, 1) := by decide +kernel
theorem dX8_row_0 : decode cX8_row 0 = .ok (.aload_n 0, 1) := by decide +kernel
theorem dX8_row_1 : decode cX8_row 1 = .ok (.iload_n 1, 1) := by decide +kernel
theorem dX8_row_2 : decode cX8_row 2 = .ok (.invokevirtual 62, 3) := by decide +kernel
theorem dX8_row_5 : decode cX8_row 5 = .ok (.ifCond .ne 5, 3) := by decide +kernel
theorem dX8_row_8 : decode cX8_row 8 = .ok (.iconst (-1), 1) := by decide +kernel
theorem dX8_row_9 : decode cX8_row 9 = .ok (.ireturn, 1) := by decide +kernel
theorem dX8_row_10 : decode cX8_row 10 = .ok (.iload_n 2, 1) := by decide +kernel
theorem dX8_row_11 : decode cX8_row 11 = .ok (.iconst (-1), 1) := by decide +kernel
theorem dX8_row_12 : decode cX8_row 12 = .ok (.sipush 511, 3) := by decide +kernel
theorem dX8_row_15 : decode cX8_row 15 = .ok (.invokestatic 58, 3) := by decide +kernel
theorem dX8_row_18 : decode cX8_row 18 = .ok (.ifCond .ne 6, 3) := by decide +kernel
theorem dX8_row_21 : decode cX8_row 21 = .ok (.bipush (-2), 2) := by decide +kernel
theorem dX8_row_23 : decode cX8_row 23 = .ok (.ireturn, 1) := by decide +kernel
theorem dX8_row_24 : decode cX8_row 24 = .ok (.aload_n 0, 1) := by decide +kernel
theorem dX8_row_25 : decode cX8_row 25 = .ok (.iload_n 1, 1) := by decide +kernel
theorem dX8_row_26 : decode cX8_row 26 = .ok (.invokevirtual 107, 3) := by decide +kernel
theorem dX8_row_29 : decode cX8_row 29 = .ok (.iload_n 2, 1) := by decide +kernel
theorem dX8_row_30 : decode cX8_row 30 = .ok (.ifCond .ge 12, 3) := by decide +kernel
theorem dX8_row_33 : decode cX8_row 33 = .ok (.aload_n 0, 1) := by decide +kernel
theorem dX8_row_34 : decode cX8_row 34 = .ok (.getfield 35, 3) := by decide +kernel
theorem dX8_row_37 : decode cX8_row 37 = .ok (.iload_n 1, 1) := by decide +kernel
theorem dX8_row_38 : decode cX8_row 38 = .ok (.iaload, 1) := by decide +kernel
theorem dX8_row_39 : decode cX8_row 39 = .ok (.goto 30, 3) := by decide +kernel
theorem dX8_row_42 : decode cX8_row 42 = .ok (.iload_n 2, 1) := by decide +kernel
theorem dX8_row_43 : decode cX8_row 43 = .ok (.aload_n 0, 1) := by decide +kernel
theorem dX8_row_44 : decode cX8_row 44 = .ok (.getfield 35, 3) := by decide +kernel
theorem dX8_row_47 : decode cX8_row 47 = .ok (.iload_n 1, 1) := by decide +kernel
theorem dX8_row_48 : decode cX8_row 48 = .ok (.iaload, 1) := by decide +kernel
theorem dX8_row_49 : decode cX8_row 49 = .ok (.if_icmp .ge 18, 3) := by decide +kernel
theorem dX8_row_52 : decode cX8_row 52 = .ok (.aload_n 0, 1) := by decide +kernel
theorem dX8_row_53 : decode cX8_row 53 = .ok (.getfield 38, 3) := by decide +kernel
theorem dX8_row_56 : decode cX8_row 56 = .ok (.sipush 512, 3) := by decide +kernel
theorem dX8_row_59 : decode cX8_row 59 = .ok (.iload_n 1, 1) := by decide +kernel
theorem dX8_row_60 : decode cX8_row 60 = .ok (.imul, 1) := by decide +kernel
theorem dX8_row_61 : decode cX8_row 61 = .ok (.iload_n 2, 1) := by decide +kernel
theorem dX8_row_62 : decode cX8_row 62 = .ok (.iadd, 1) := by decide +kernel
theorem dX8_row_63 : decode cX8_row 63 = .ok (.iaload, 1) := by decide +kernel
theorem dX8_row_64 : decode cX8_row 64 = .ok (.goto 5, 3) := by decide +kernel
theorem dX8_row_67 : decode cX8_row 67 = .ok (.bipush (-9), 2) := by decide +kernel
theorem dX8_row_69 : decode cX8_row 69 = .ok (.ireturn, 1) := by decide +kernel
theorem dX8_walls_0 : decode cX8_walls 0 = .ok (.aload_n 0, 1) := by decide +kernel
theorem dX8_walls_1 : decode cX8_walls 1 = .ok (.aload_n 0, 1) := by decide +kernel
theorem dX8_walls_2 : decode cX8_walls 2 = .ok (.getfield 32, 3) := by decide +kernel
theorem dX8_walls_5 : decode cX8_walls 5 = .ok (.invokevirtual 122, 3) := by decide +kernel
theorem dX8_walls_8 : decode cX8_walls 8 = .ok (.aload_n 0, 1) := by decide +kernel
theorem dX8_walls_9 : decode cX8_walls 9 = .ok (.getfield 55, 3) := by decide +kernel
theorem dX8_walls_12 : decode cX8_walls 12 = .ok (.ifCond .ne 7, 3) := by decide +kernel
theorem dX8_walls_15 : decode cX8_walls 15 = .ok (.lconst 1, 1) := by decide +kernel
theorem dX8_walls_16 : decode cX8_walls 16 = .ok (.goto 4, 3) := by decide +kernel
theorem dX8_walls_19 : decode cX8_walls 19 = .ok (.lconst 0, 1) := by decide +kernel
theorem dX8_walls_20 : decode cX8_walls 20 = .ok (.lstore_n 1, 1) := by decide +kernel
theorem dX8_walls_21 : decode cX8_walls 21 = .ok (.iconst 0, 1) := by decide +kernel
theorem dX8_walls_22 : decode cX8_walls 22 = .ok (.istore_n 3, 1) := by decide +kernel
theorem dX8_walls_23 : decode cX8_walls 23 = .ok (.aload_n 0, 1) := by decide +kernel
theorem dX8_walls_24 : decode cX8_walls 24 = .ok (.getfield 55, 3) := by decide +kernel
theorem dX8_walls_27 : decode cX8_walls 27 = .ok (.ifCond .le 28, 3) := by decide +kernel
theorem dX8_walls_30 : decode cX8_walls 30 = .ok (.iload_n 3, 1) := by decide +kernel
theorem dX8_walls_31 : decode cX8_walls 31 = .ok (.aload_n 0, 1) := by decide +kernel
theorem dX8_walls_32 : decode cX8_walls 32 = .ok (.getfield 35, 3) := by decide +kernel
theorem dX8_walls_35 : decode cX8_walls 35 = .ok (.iconst 0, 1) := by decide +kernel
theorem dX8_walls_36 : decode cX8_walls 36 = .ok (.iaload, 1) := by decide +kernel
theorem dX8_walls_37 : decode cX8_walls 37 = .ok (.if_icmp .ge 18, 3) := by decide +kernel
theorem dX8_walls_40 : decode cX8_walls 40 = .ok (.lload_n 1, 1) := by decide +kernel
theorem dX8_walls_41 : decode cX8_walls 41 = .ok (.aload_n 0, 1) := by decide +kernel
theorem dX8_walls_42 : decode cX8_walls 42 = .ok (.getfield 44, 3) := by decide +kernel
theorem dX8_walls_45 : decode cX8_walls 45 = .ok (.iload_n 3, 1) := by decide +kernel
theorem dX8_walls_46 : decode cX8_walls 46 = .ok (.laload, 1) := by decide +kernel
theorem dX8_walls_47 : decode cX8_walls 47 = .ok (.ladd, 1) := by decide +kernel
theorem dX8_walls_48 : decode cX8_walls 48 = .ok (.lstore_n 1, 1) := by decide +kernel
theorem dX8_walls_49 : decode cX8_walls 49 = .ok (.iinc 3 1, 3) := by decide +kernel
theorem dX8_walls_52 : decode cX8_walls 52 = .ok (.goto (-29), 3) := by decide +kernel
theorem dX8_walls_55 : decode cX8_walls 55 = .ok (.lload_n 1, 1) := by decide +kernel
theorem dX8_walls_56 : decode cX8_walls 56 = .ok (.lreturn, 1) := by decide +kernel
theorem dX8_leastCost_0 : decode cX8_leastCost 0 = .ok (.aload_n 0, 1) := by decide +kernel
theorem dX8_leastCost_1 : decode cX8_leastCost 1 = .ok (.iload_n 1, 1) := by decide +kernel
theorem dX8_leastCost_2 : decode cX8_leastCost 2 = .ok (.invokevirtual 122, 3) := by decide +kernel
theorem dX8_leastCost_5 : decode cX8_leastCost 5 = .ok (.aload_n 0, 1) := by decide +kernel
theorem dX8_leastCost_6 : decode cX8_leastCost 6 = .ok (.getfield 55, 3) := by decide +kernel
theorem dX8_leastCost_9 : decode cX8_leastCost 9 = .ok (.ifCond .ne 7, 3) := by decide +kernel
theorem dX8_leastCost_12 : decode cX8_leastCost 12 = .ok (.iconst 0, 1) := by decide +kernel
theorem dX8_leastCost_13 : decode cX8_leastCost 13 = .ok (.goto 5, 3) := by decide +kernel
theorem dX8_leastCost_16 : decode cX8_leastCost 16 = .ok (.ldc 115, 2) := by decide +kernel
theorem dX8_leastCost_18 : decode cX8_leastCost 18 = .ok (.istore_n 2, 1) := by decide +kernel
theorem dX8_leastCost_19 : decode cX8_leastCost 19 = .ok (.iconst 0, 1) := by decide +kernel
theorem dX8_leastCost_20 : decode cX8_leastCost 20 = .ok (.istore_n 3, 1) := by decide +kernel
theorem dX8_leastCost_21 : decode cX8_leastCost 21 = .ok (.aload_n 0, 1) := by decide +kernel
theorem dX8_leastCost_22 : decode cX8_leastCost 22 = .ok (.getfield 55, 3) := by decide +kernel
theorem dX8_leastCost_25 : decode cX8_leastCost 25 = .ok (.ifCond .le 40, 3) := by decide +kernel
theorem dX8_leastCost_28 : decode cX8_leastCost 28 = .ok (.iload_n 3, 1) := by decide +kernel
theorem dX8_leastCost_29 : decode cX8_leastCost 29 = .ok (.aload_n 0, 1) := by decide +kernel
theorem dX8_leastCost_30 : decode cX8_leastCost 30 = .ok (.getfield 35, 3) := by decide +kernel
theorem dX8_leastCost_33 : decode cX8_leastCost 33 = .ok (.iconst 0, 1) := by decide +kernel
theorem dX8_leastCost_34 : decode cX8_leastCost 34 = .ok (.iaload, 1) := by decide +kernel
theorem dX8_leastCost_35 : decode cX8_leastCost 35 = .ok (.if_icmp .ge 30, 3) := by decide +kernel
theorem dX8_leastCost_38 : decode cX8_leastCost 38 = .ok (.aload_n 0, 1) := by decide +kernel
theorem dX8_leastCost_39 : decode cX8_leastCost 39 = .ok (.getfield 41, 3) := by decide +kernel
theorem dX8_leastCost_42 : decode cX8_leastCost 42 = .ok (.iload_n 3, 1) := by decide +kernel
theorem dX8_leastCost_43 : decode cX8_leastCost 43 = .ok (.iaload, 1) := by decide +kernel
theorem dX8_leastCost_44 : decode cX8_leastCost 44 = .ok (.iload_n 2, 1) := by decide +kernel
theorem dX8_leastCost_45 : decode cX8_leastCost 45 = .ok (.if_icmp .ge 12, 3) := by decide +kernel
theorem dX8_leastCost_48 : decode cX8_leastCost 48 = .ok (.aload_n 0, 1) := by decide +kernel
theorem dX8_leastCost_49 : decode cX8_leastCost 49 = .ok (.getfield 41, 3) := by decide +kernel
theorem dX8_leastCost_52 : decode cX8_leastCost 52 = .ok (.iload_n 3, 1) := by decide +kernel
theorem dX8_leastCost_53 : decode cX8_leastCost 53 = .ok (.iaload, 1) := by decide +kernel
theorem dX8_leastCost_54 : decode cX8_leastCost 54 = .ok (.goto 4, 3) := by decide +kernel
theorem dX8_leastCost_57 : decode cX8_leastCost 57 = .ok (.iload_n 2, 1) := by decide +kernel
theorem dX8_leastCost_58 : decode cX8_leastCost 58 = .ok (.istore_n 2, 1) := by decide +kernel
theorem dX8_leastCost_59 : decode cX8_leastCost 59 = .ok (.iinc 3 1, 3) := by decide +kernel
theorem dX8_leastCost_62 : decode cX8_leastCost 62 = .ok (.goto (-41), 3) := by decide +kernel
theorem dX8_leastCost_65 : decode cX8_leastCost 65 = .ok (.iload_n 2, 1) := by decide +kernel
theorem dX8_leastCost_66 : decode cX8_leastCost 66 = .ok (.ldc 115, 2) := by decide +kernel
theorem dX8_leastCost_68 : decode cX8_leastCost 68 = .ok (.if_icmp .ne 8, 3) := by decide +kernel
theorem dX8_leastCost_71 : decode cX8_leastCost 71 = .ok (.bipush (-9), 2) := by decide +kernel
theorem dX8_leastCost_73 : decode cX8_leastCost 73 = .ok (.goto 4, 3) := by decide +kernel
theorem dX8_leastCost_76 : decode cX8_leastCost 76 = .ok (.iload_n 2, 1) := by decide +kernel
theorem dX8_leastCost_77 : decode cX8_leastCost 77 = .ok (.ireturn, 1) := by decide +kernel
theorem dX8_hasBest_0 : decode cX8_hasBest 0 = .ok (.aload_n 0, 1) := by decide +kernel
theorem dX8_hasBest_1 : decode cX8_hasBest 1 = .ok (.aload_n 0, 1) := by decide +kernel
theorem dX8_hasBest_2 : decode cX8_hasBest 2 = .ok (.getfield 32, 3) := by decide +kernel
theorem dX8_hasBest_5 : decode cX8_hasBest 5 = .ok (.invokevirtual 125, 3) := by decide +kernel
theorem dX8_hasBest_8 : decode cX8_hasBest 8 = .ok (.istore_n 1, 1) := by decide +kernel
theorem dX8_hasBest_9 : decode cX8_hasBest 9 = .ok (.iload_n 1, 1) := by decide +kernel
theorem dX8_hasBest_10 : decode cX8_hasBest 10 = .ok (.bipush (-9), 2) := by decide +kernel
theorem dX8_hasBest_12 : decode cX8_hasBest 12 = .ok (.if_icmp .ne 5, 3) := by decide +kernel
theorem dX8_hasBest_15 : decode cX8_hasBest 15 = .ok (.iconst 0, 1) := by decide +kernel
theorem dX8_hasBest_16 : decode cX8_hasBest 16 = .ok (.ireturn, 1) := by decide +kernel
theorem dX8_hasBest_17 : decode cX8_hasBest 17 = .ok (.iconst 0, 1) := by decide +kernel
theorem dX8_hasBest_18 : decode cX8_hasBest 18 = .ok (.istore_n 2, 1) := by decide +kernel
theorem dX8_hasBest_19 : decode cX8_hasBest 19 = .ok (.iconst 0, 1) := by decide +kernel
theorem dX8_hasBest_20 : decode cX8_hasBest 20 = .ok (.istore_n 3, 1) := by decide +kernel
theorem dX8_hasBest_21 : decode cX8_hasBest 21 = .ok (.iload_n 3, 1) := by decide +kernel
theorem dX8_hasBest_22 : decode cX8_hasBest 22 = .ok (.aload_n 0, 1) := by decide +kernel
theorem dX8_hasBest_23 : decode cX8_hasBest 23 = .ok (.getfield 55, 3) := by decide +kernel
theorem dX8_hasBest_26 : decode cX8_hasBest 26 = .ok (.if_icmp .ge 100, 3) := by decide +kernel
theorem dX8_hasBest_29 : decode cX8_hasBest 29 = .ok (.iconst 0, 1) := by decide +kernel
theorem dX8_hasBest_30 : decode cX8_hasBest 30 = .ok (.istore 4, 2) := by decide +kernel
theorem dX8_hasBest_32 : decode cX8_hasBest 32 = .ok (.aload_n 0, 1) := by decide +kernel
theorem dX8_hasBest_33 : decode cX8_hasBest 33 = .ok (.getfield 41, 3) := by decide +kernel
theorem dX8_hasBest_36 : decode cX8_hasBest 36 = .ok (.sipush 512, 3) := by decide +kernel
theorem dX8_hasBest_39 : decode cX8_hasBest 39 = .ok (.iload_n 3, 1) := by decide +kernel
theorem dX8_hasBest_40 : decode cX8_hasBest 40 = .ok (.imul, 1) := by decide +kernel
theorem dX8_hasBest_41 : decode cX8_hasBest 41 = .ok (.iload 4, 2) := by decide +kernel
theorem dX8_hasBest_43 : decode cX8_hasBest 43 = .ok (.iadd, 1) := by decide +kernel
theorem dX8_hasBest_44 : decode cX8_hasBest 44 = .ok (.iaload, 1) := by decide +kernel
theorem dX8_hasBest_45 : decode cX8_hasBest 45 = .ok (.iload_n 1, 1) := by decide +kernel
theorem dX8_hasBest_46 : decode cX8_hasBest 46 = .ok (.if_icmp .ne 21, 3) := by decide +kernel
theorem dX8_hasBest_49 : decode cX8_hasBest 49 = .ok (.aload_n 0, 1) := by decide +kernel
theorem dX8_hasBest_50 : decode cX8_hasBest 50 = .ok (.getfield 38, 3) := by decide +kernel
theorem dX8_hasBest_53 : decode cX8_hasBest 53 = .ok (.sipush 512, 3) := by decide +kernel
theorem dX8_hasBest_56 : decode cX8_hasBest 56 = .ok (.iload_n 3, 1) := by decide +kernel
theorem dX8_hasBest_57 : decode cX8_hasBest 57 = .ok (.imul, 1) := by decide +kernel
theorem dX8_hasBest_58 : decode cX8_hasBest 58 = .ok (.iload 4, 2) := by decide +kernel
theorem dX8_hasBest_60 : decode cX8_hasBest 60 = .ok (.iadd, 1) := by decide +kernel
theorem dX8_hasBest_61 : decode cX8_hasBest 61 = .ok (.iaload, 1) := by decide +kernel
theorem dX8_hasBest_62 : decode cX8_hasBest 62 = .ok (.iload_n 2, 1) := by decide +kernel
theorem dX8_hasBest_63 : decode cX8_hasBest 63 = .ok (.iand, 1) := by decide +kernel
theorem dX8_hasBest_64 : decode cX8_hasBest 64 = .ok (.ifCond .eq 9, 3) := by decide +kernel
theorem dX8_hasBest_67 : decode cX8_hasBest 67 = .ok (.iinc 4 1, 3) := by decide +kernel
theorem dX8_hasBest_70 : decode cX8_hasBest 70 = .ok (.goto (-38), 3) := by decide +kernel
theorem dX8_hasBest_73 : decode cX8_hasBest 73 = .ok (.aload_n 0, 1) := by decide +kernel
theorem dX8_hasBest_74 : decode cX8_hasBest 74 = .ok (.getfield 48, 3) := by decide +kernel
theorem dX8_hasBest_77 : decode cX8_hasBest 77 = .ok (.iload_n 3, 1) := by decide +kernel
theorem dX8_hasBest_78 : decode cX8_hasBest 78 = .ok (.aload_n 0, 1) := by decide +kernel
theorem dX8_hasBest_79 : decode cX8_hasBest 79 = .ok (.getfield 38, 3) := by decide +kernel
theorem dX8_hasBest_82 : decode cX8_hasBest 82 = .ok (.sipush 512, 3) := by decide +kernel
theorem dX8_hasBest_85 : decode cX8_hasBest 85 = .ok (.iload_n 3, 1) := by decide +kernel
theorem dX8_hasBest_86 : decode cX8_hasBest 86 = .ok (.imul, 1) := by decide +kernel
theorem dX8_hasBest_87 : decode cX8_hasBest 87 = .ok (.iload 4, 2) := by decide +kernel
theorem dX8_hasBest_89 : decode cX8_hasBest 89 = .ok (.iadd, 1) := by decide +kernel
theorem dX8_hasBest_90 : decode cX8_hasBest 90 = .ok (.iaload, 1) := by decide +kernel
theorem dX8_hasBest_91 : decode cX8_hasBest 91 = .ok (.iastore, 1) := by decide +kernel
theorem dX8_hasBest_92 : decode cX8_hasBest 92 = .ok (.iload_n 1, 1) := by decide +kernel
theorem dX8_hasBest_93 : decode cX8_hasBest 93 = .ok (.aload_n 0, 1) := by decide +kernel
theorem dX8_hasBest_94 : decode cX8_hasBest 94 = .ok (.iload_n 3, 1) := by decide +kernel
theorem dX8_hasBest_95 : decode cX8_hasBest 95 = .ok (.aload_n 0, 1) := by decide +kernel
theorem dX8_hasBest_96 : decode cX8_hasBest 96 = .ok (.getfield 48, 3) := by decide +kernel
theorem dX8_hasBest_99 : decode cX8_hasBest 99 = .ok (.iload_n 3, 1) := by decide +kernel
theorem dX8_hasBest_100 : decode cX8_hasBest 100 = .ok (.iaload, 1) := by decide +kernel
theorem dX8_hasBest_101 : decode cX8_hasBest 101 = .ok (.invokevirtual 119, 3) := by decide +kernel
theorem dX8_hasBest_104 : decode cX8_hasBest 104 = .ok (.isub, 1) := by decide +kernel
theorem dX8_hasBest_105 : decode cX8_hasBest 105 = .ok (.istore_n 1, 1) := by decide +kernel
theorem dX8_hasBest_106 : decode cX8_hasBest 106 = .ok (.aload_n 0, 1) := by decide +kernel
theorem dX8_hasBest_107 : decode cX8_hasBest 107 = .ok (.getfield 48, 3) := by decide +kernel
theorem dX8_hasBest_110 : decode cX8_hasBest 110 = .ok (.iload_n 3, 1) := by decide +kernel
theorem dX8_hasBest_111 : decode cX8_hasBest 111 = .ok (.iaload, 1) := by decide +kernel
theorem dX8_hasBest_112 : decode cX8_hasBest 112 = .ok (.aload_n 0, 1) := by decide +kernel
theorem dX8_hasBest_113 : decode cX8_hasBest 113 = .ok (.getfield 32, 3) := by decide +kernel
theorem dX8_hasBest_116 : decode cX8_hasBest 116 = .ok (.invokestatic 116, 3) := by decide +kernel
theorem dX8_hasBest_119 : decode cX8_hasBest 119 = .ok (.istore_n 2, 1) := by decide +kernel
theorem dX8_hasBest_120 : decode cX8_hasBest 120 = .ok (.iinc 3 1, 3) := by decide +kernel
theorem dX8_hasBest_123 : decode cX8_hasBest 123 = .ok (.goto (-102), 3) := by decide +kernel
theorem dX8_hasBest_126 : decode cX8_hasBest 126 = .ok (.iconst 1, 1) := by decide +kernel
theorem dX8_hasBest_127 : decode cX8_hasBest 127 = .ok (.ireturn, 1) := by decide +kernel
theorem dX8_best_0 : decode cX8_best 0 = .ok (.aload_n 0, 1) := by decide +kernel
theorem dX8_best_1 : decode cX8_best 1 = .ok (.aload_n 0, 1) := by decide +kernel
theorem dX8_best_2 : decode cX8_best 2 = .ok (.getfield 32, 3) := by decide +kernel
theorem dX8_best_5 : decode cX8_best 5 = .ok (.invokevirtual 125, 3) := by decide +kernel
theorem dX8_best_8 : decode cX8_best 8 = .ok (.ireturn, 1) := by decide +kernel
theorem dX8_bestRow_0 : decode cX8_bestRow 0 = .ok (.aload_n 0, 1) := by decide +kernel
theorem dX8_bestRow_1 : decode cX8_bestRow 1 = .ok (.iload_n 1, 1) := by decide +kernel
theorem dX8_bestRow_2 : decode cX8_bestRow 2 = .ok (.invokevirtual 62, 3) := by decide +kernel
theorem dX8_bestRow_5 : decode cX8_bestRow 5 = .ok (.ifCond .ne 5, 3) := by decide +kernel
theorem dX8_bestRow_8 : decode cX8_bestRow 8 = .ok (.iconst (-1), 1) := by decide +kernel
theorem dX8_bestRow_9 : decode cX8_bestRow 9 = .ok (.ireturn, 1) := by decide +kernel
theorem dX8_bestRow_10 : decode cX8_bestRow 10 = .ok (.aload_n 0, 1) := by decide +kernel
theorem dX8_bestRow_11 : decode cX8_bestRow 11 = .ok (.invokevirtual 128, 3) := by decide +kernel
theorem dX8_bestRow_14 : decode cX8_bestRow 14 = .ok (.ifCond .eq 12, 3) := by decide +kernel
theorem dX8_bestRow_17 : decode cX8_bestRow 17 = .ok (.aload_n 0, 1) := by decide +kernel
theorem dX8_bestRow_18 : decode cX8_bestRow 18 = .ok (.getfield 48, 3) := by decide +kernel
theorem dX8_bestRow_21 : decode cX8_bestRow 21 = .ok (.iload_n 1, 1) := by decide +kernel
theorem dX8_bestRow_22 : decode cX8_bestRow 22 = .ok (.iaload, 1) := by decide +kernel
theorem dX8_bestRow_23 : decode cX8_bestRow 23 = .ok (.goto 5, 3) := by decide +kernel
theorem dX8_bestRow_26 : decode cX8_bestRow 26 = .ok (.bipush (-3), 2) := by decide +kernel
theorem dX8_bestRow_28 : decode cX8_bestRow 28 = .ok (.ireturn, 1) := by decide +kernel
theorem dX8_piecesIn_0 : decode cX8_piecesIn 0 = .ok (.iconst 0, 1) := by decide +kernel
theorem dX8_piecesIn_1 : decode cX8_piecesIn 1 = .ok (.istore 4, 2) := by decide +kernel
theorem dX8_piecesIn_3 : decode cX8_piecesIn 3 = .ok (.iconst 0, 1) := by decide +kernel
theorem dX8_piecesIn_4 : decode cX8_piecesIn 4 = .ok (.istore 5, 2) := by decide +kernel
theorem dX8_piecesIn_6 : decode cX8_piecesIn 6 = .ok (.iload 5, 2) := by decide +kernel
theorem dX8_piecesIn_8 : decode cX8_piecesIn 8 = .ok (.aload_n 0, 1) := by decide +kernel
theorem dX8_piecesIn_9 : decode cX8_piecesIn 9 = .ok (.getfield 7, 3) := by decide +kernel
theorem dX8_piecesIn_12 : decode cX8_piecesIn 12 = .ok (.if_icmp .ge 42, 3) := by decide +kernel
theorem dX8_piecesIn_15 : decode cX8_piecesIn 15 = .ok (.iload 4, 2) := by decide +kernel
theorem dX8_piecesIn_17 : decode cX8_piecesIn 17 = .ok (.aload_n 0, 1) := by decide +kernel
theorem dX8_piecesIn_18 : decode cX8_piecesIn 18 = .ok (.iload_n 1, 1) := by decide +kernel
theorem dX8_piecesIn_19 : decode cX8_piecesIn 19 = .ok (.iload_n 2, 1) := by decide +kernel
theorem dX8_piecesIn_20 : decode cX8_piecesIn 20 = .ok (.iload 5, 2) := by decide +kernel
theorem dX8_piecesIn_22 : decode cX8_piecesIn 22 = .ok (.invokevirtual 77, 3) := by decide +kernel
theorem dX8_piecesIn_25 : decode cX8_piecesIn 25 = .ok (.ifCond .eq 19, 3) := by decide +kernel
theorem dX8_piecesIn_28 : decode cX8_piecesIn 28 = .ok (.aload_n 0, 1) := by decide +kernel
theorem dX8_piecesIn_29 : decode cX8_piecesIn 29 = .ok (.iload_n 1, 1) := by decide +kernel
theorem dX8_piecesIn_30 : decode cX8_piecesIn 30 = .ok (.iload_n 2, 1) := by decide +kernel
theorem dX8_piecesIn_31 : decode cX8_piecesIn 31 = .ok (.iload 5, 2) := by decide +kernel
theorem dX8_piecesIn_33 : decode cX8_piecesIn 33 = .ok (.invokevirtual 80, 3) := by decide +kernel
theorem dX8_piecesIn_36 : decode cX8_piecesIn 36 = .ok (.iload_n 3, 1) := by decide +kernel
theorem dX8_piecesIn_37 : decode cX8_piecesIn 37 = .ok (.if_icmp .ne 7, 3) := by decide +kernel
theorem dX8_piecesIn_40 : decode cX8_piecesIn 40 = .ok (.iconst 1, 1) := by decide +kernel
theorem dX8_piecesIn_41 : decode cX8_piecesIn 41 = .ok (.goto 4, 3) := by decide +kernel
theorem dX8_piecesIn_44 : decode cX8_piecesIn 44 = .ok (.iconst 0, 1) := by decide +kernel
theorem dX8_piecesIn_45 : decode cX8_piecesIn 45 = .ok (.iadd, 1) := by decide +kernel
theorem dX8_piecesIn_46 : decode cX8_piecesIn 46 = .ok (.istore 4, 2) := by decide +kernel
theorem dX8_piecesIn_48 : decode cX8_piecesIn 48 = .ok (.iinc 5 1, 3) := by decide +kernel
theorem dX8_piecesIn_51 : decode cX8_piecesIn 51 = .ok (.goto (-45), 3) := by decide +kernel
theorem dX8_piecesIn_54 : decode cX8_piecesIn 54 = .ok (.iload 4, 2) := by decide +kernel
theorem dX8_piecesIn_56 : decode cX8_piecesIn 56 = .ok (.ireturn, 1) := by decide +kernel
theorem dX8_bestOf_0 : decode cX8_bestOf 0 = .ok (.iload_n 1, 1) := by decide +kernel
theorem dX8_bestOf_1 : decode cX8_bestOf 1 = .ok (.iconst 1, 1) := by decide +kernel
theorem dX8_bestOf_2 : decode cX8_bestOf 2 = .ok (.bipush 6, 2) := by decide +kernel
theorem dX8_bestOf_4 : decode cX8_bestOf 4 = .ok (.invokestatic 58, 3) := by decide +kernel
theorem dX8_bestOf_7 : decode cX8_bestOf 7 = .ok (.ifCond .ne 6, 3) := by decide +kernel
theorem dX8_bestOf_10 : decode cX8_bestOf 10 = .ok (.bipush (-2), 2) := by decide +kernel
theorem dX8_bestOf_12 : decode cX8_bestOf 12 = .ok (.ireturn, 1) := by decide +kernel
theorem dX8_bestOf_13 : decode cX8_bestOf 13 = .ok (.aload_n 0, 1) := by decide +kernel
theorem dX8_bestOf_14 : decode cX8_bestOf 14 = .ok (.invokevirtual 128, 3) := by decide +kernel
theorem dX8_bestOf_17 : decode cX8_bestOf 17 = .ok (.ifCond .ne 6, 3) := by decide +kernel
theorem dX8_bestOf_20 : decode cX8_bestOf 20 = .ok (.bipush (-3), 2) := by decide +kernel
theorem dX8_bestOf_22 : decode cX8_bestOf 22 = .ok (.ireturn, 1) := by decide +kernel
theorem dX8_bestOf_23 : decode cX8_bestOf 23 = .ok (.iconst 0, 1) := by decide +kernel
theorem dX8_bestOf_24 : decode cX8_bestOf 24 = .ok (.istore_n 2, 1) := by decide +kernel
theorem dX8_bestOf_25 : decode cX8_bestOf 25 = .ok (.iconst 0, 1) := by decide +kernel
theorem dX8_bestOf_26 : decode cX8_bestOf 26 = .ok (.istore_n 3, 1) := by decide +kernel
theorem dX8_bestOf_27 : decode cX8_bestOf 27 = .ok (.iload_n 3, 1) := by decide +kernel
theorem dX8_bestOf_28 : decode cX8_bestOf 28 = .ok (.aload_n 0, 1) := by decide +kernel
theorem dX8_bestOf_29 : decode cX8_bestOf 29 = .ok (.getfield 55, 3) := by decide +kernel
theorem dX8_bestOf_32 : decode cX8_bestOf 32 = .ok (.if_icmp .ge 24, 3) := by decide +kernel
theorem dX8_bestOf_35 : decode cX8_bestOf 35 = .ok (.iload_n 2, 1) := by decide +kernel
theorem dX8_bestOf_36 : decode cX8_bestOf 36 = .ok (.aload_n 0, 1) := by decide +kernel
theorem dX8_bestOf_37 : decode cX8_bestOf 37 = .ok (.iload_n 3, 1) := by decide +kernel
theorem dX8_bestOf_38 : decode cX8_bestOf 38 = .ok (.aload_n 0, 1) := by decide +kernel
theorem dX8_bestOf_39 : decode cX8_bestOf 39 = .ok (.getfield 48, 3) := by decide +kernel
theorem dX8_bestOf_42 : decode cX8_bestOf 42 = .ok (.iload_n 3, 1) := by decide +kernel
theorem dX8_bestOf_43 : decode cX8_bestOf 43 = .ok (.iaload, 1) := by decide +kernel
theorem dX8_bestOf_44 : decode cX8_bestOf 44 = .ok (.iload_n 1, 1) := by decide +kernel
theorem dX8_bestOf_45 : decode cX8_bestOf 45 = .ok (.invokevirtual 132, 3) := by decide +kernel
theorem dX8_bestOf_48 : decode cX8_bestOf 48 = .ok (.iadd, 1) := by decide +kernel
theorem dX8_bestOf_49 : decode cX8_bestOf 49 = .ok (.istore_n 2, 1) := by decide +kernel
theorem dX8_bestOf_50 : decode cX8_bestOf 50 = .ok (.iinc 3 1, 3) := by decide +kernel
theorem dX8_bestOf_53 : decode cX8_bestOf 53 = .ok (.goto (-26), 3) := by decide +kernel
theorem dX8_bestOf_56 : decode cX8_bestOf 56 = .ok (.iload_n 2, 1) := by decide +kernel
theorem dX8_bestOf_57 : decode cX8_bestOf 57 = .ok (.ireturn, 1) := by decide +kernel
theorem dX8_reaches_0 : decode cX8_reaches 0 = .ok (.iconst 0, 1) := by decide +kernel
theorem dX8_reaches_1 : decode cX8_reaches 1 = .ok (.istore_n 2, 1) := by decide +kernel
theorem dX8_reaches_2 : decode cX8_reaches 2 = .ok (.iconst 0, 1) := by decide +kernel
theorem dX8_reaches_3 : decode cX8_reaches 3 = .ok (.istore_n 3, 1) := by decide +kernel
theorem dX8_reaches_4 : decode cX8_reaches 4 = .ok (.iload_n 3, 1) := by decide +kernel
theorem dX8_reaches_5 : decode cX8_reaches 5 = .ok (.aload_n 0, 1) := by decide +kernel
theorem dX8_reaches_6 : decode cX8_reaches 6 = .ok (.getfield 35, 3) := by decide +kernel
theorem dX8_reaches_9 : decode cX8_reaches 9 = .ok (.iload_n 1, 1) := by decide +kernel
theorem dX8_reaches_10 : decode cX8_reaches 10 = .ok (.iaload, 1) := by decide +kernel
theorem dX8_reaches_11 : decode cX8_reaches 11 = .ok (.if_icmp .ge 143, 3) := by decide +kernel
theorem dX8_reaches_14 : decode cX8_reaches 14 = .ok (.iload_n 1, 1) := by decide +kernel
theorem dX8_reaches_15 : decode cX8_reaches 15 = .ok (.ifCond .ne 7, 3) := by decide +kernel
theorem dX8_reaches_18 : decode cX8_reaches 18 = .ok (.iconst 1, 1) := by decide +kernel
theorem dX8_reaches_19 : decode cX8_reaches 19 = .ok (.goto 4, 3) := by decide +kernel
theorem dX8_reaches_22 : decode cX8_reaches 22 = .ok (.iconst 0, 1) := by decide +kernel
theorem dX8_reaches_23 : decode cX8_reaches 23 = .ok (.istore 4, 2) := by decide +kernel
theorem dX8_reaches_25 : decode cX8_reaches 25 = .ok (.iconst 0, 1) := by decide +kernel
theorem dX8_reaches_26 : decode cX8_reaches 26 = .ok (.istore 5, 2) := by decide +kernel
theorem dX8_reaches_28 : decode cX8_reaches 28 = .ok (.iload_n 1, 1) := by decide +kernel
theorem dX8_reaches_29 : decode cX8_reaches 29 = .ok (.ifCond .le 90, 3) := by decide +kernel
theorem dX8_reaches_32 : decode cX8_reaches 32 = .ok (.iload 5, 2) := by decide +kernel
theorem dX8_reaches_34 : decode cX8_reaches 34 = .ok (.aload_n 0, 1) := by decide +kernel
theorem dX8_reaches_35 : decode cX8_reaches 35 = .ok (.getfield 35, 3) := by decide +kernel
theorem dX8_reaches_38 : decode cX8_reaches 38 = .ok (.iload_n 1, 1) := by decide +kernel
theorem dX8_reaches_39 : decode cX8_reaches 39 = .ok (.iconst 1, 1) := by decide +kernel
theorem dX8_reaches_40 : decode cX8_reaches 40 = .ok (.isub, 1) := by decide +kernel
theorem dX8_reaches_41 : decode cX8_reaches 41 = .ok (.iaload, 1) := by decide +kernel
theorem dX8_reaches_42 : decode cX8_reaches 42 = .ok (.if_icmp .ge 77, 3) := by decide +kernel
theorem dX8_reaches_45 : decode cX8_reaches 45 = .ok (.iload 4, 2) := by decide +kernel
theorem dX8_reaches_47 : decode cX8_reaches 47 = .ok (.ifCond .ne 72, 3) := by decide +kernel
theorem dX8_reaches_50 : decode cX8_reaches 50 = .ok (.aload_n 0, 1) := by decide +kernel
theorem dX8_reaches_51 : decode cX8_reaches 51 = .ok (.getfield 51, 3) := by decide +kernel
theorem dX8_reaches_54 : decode cX8_reaches 54 = .ok (.sipush 512, 3) := by decide +kernel
theorem dX8_reaches_57 : decode cX8_reaches 57 = .ok (.iload_n 1, 1) := by decide +kernel
theorem dX8_reaches_58 : decode cX8_reaches 58 = .ok (.iconst 1, 1) := by decide +kernel
theorem dX8_reaches_59 : decode cX8_reaches 59 = .ok (.isub, 1) := by decide +kernel
theorem dX8_reaches_60 : decode cX8_reaches 60 = .ok (.imul, 1) := by decide +kernel
theorem dX8_reaches_61 : decode cX8_reaches 61 = .ok (.iload 5, 2) := by decide +kernel
theorem dX8_reaches_63 : decode cX8_reaches 63 = .ok (.iadd, 1) := by decide +kernel
theorem dX8_reaches_64 : decode cX8_reaches 64 = .ok (.baload, 1) := by decide +kernel
theorem dX8_reaches_65 : decode cX8_reaches 65 = .ok (.ifCond .eq 45, 3) := by decide +kernel
theorem dX8_reaches_68 : decode cX8_reaches 68 = .ok (.aload_n 0, 1) := by decide +kernel
theorem dX8_reaches_69 : decode cX8_reaches 69 = .ok (.getfield 38, 3) := by decide +kernel
theorem dX8_reaches_72 : decode cX8_reaches 72 = .ok (.sipush 512, 3) := by decide +kernel
theorem dX8_reaches_75 : decode cX8_reaches 75 = .ok (.iload_n 1, 1) := by decide +kernel
theorem dX8_reaches_76 : decode cX8_reaches 76 = .ok (.iconst 1, 1) := by decide +kernel
theorem dX8_reaches_77 : decode cX8_reaches 77 = .ok (.isub, 1) := by decide +kernel
theorem dX8_reaches_78 : decode cX8_reaches 78 = .ok (.imul, 1) := by decide +kernel
theorem dX8_reaches_79 : decode cX8_reaches 79 = .ok (.iload 5, 2) := by decide +kernel
theorem dX8_reaches_81 : decode cX8_reaches 81 = .ok (.iadd, 1) := by decide +kernel
theorem dX8_reaches_82 : decode cX8_reaches 82 = .ok (.iaload, 1) := by decide +kernel
theorem dX8_reaches_83 : decode cX8_reaches 83 = .ok (.aload_n 0, 1) := by decide +kernel
theorem dX8_reaches_84 : decode cX8_reaches 84 = .ok (.getfield 32, 3) := by decide +kernel
theorem dX8_reaches_87 : decode cX8_reaches 87 = .ok (.invokestatic 116, 3) := by decide +kernel
theorem dX8_reaches_90 : decode cX8_reaches 90 = .ok (.aload_n 0, 1) := by decide +kernel
theorem dX8_reaches_91 : decode cX8_reaches 91 = .ok (.getfield 38, 3) := by decide +kernel
theorem dX8_reaches_94 : decode cX8_reaches 94 = .ok (.sipush 512, 3) := by decide +kernel
theorem dX8_reaches_97 : decode cX8_reaches 97 = .ok (.iload_n 1, 1) := by decide +kernel
theorem dX8_reaches_98 : decode cX8_reaches 98 = .ok (.imul, 1) := by decide +kernel
theorem dX8_reaches_99 : decode cX8_reaches 99 = .ok (.iload_n 3, 1) := by decide +kernel
theorem dX8_reaches_100 : decode cX8_reaches 100 = .ok (.iadd, 1) := by decide +kernel
theorem dX8_reaches_101 : decode cX8_reaches 101 = .ok (.iaload, 1) := by decide +kernel
theorem dX8_reaches_102 : decode cX8_reaches 102 = .ok (.iand, 1) := by decide +kernel
theorem dX8_reaches_103 : decode cX8_reaches 103 = .ok (.ifCond .ne 7, 3) := by decide +kernel
theorem dX8_reaches_106 : decode cX8_reaches 106 = .ok (.iconst 1, 1) := by decide +kernel
theorem dX8_reaches_107 : decode cX8_reaches 107 = .ok (.goto 4, 3) := by decide +kernel
theorem dX8_reaches_110 : decode cX8_reaches 110 = .ok (.iconst 0, 1) := by decide +kernel
theorem dX8_reaches_111 : decode cX8_reaches 111 = .ok (.istore 4, 2) := by decide +kernel
theorem dX8_reaches_113 : decode cX8_reaches 113 = .ok (.iinc 5 1, 3) := by decide +kernel
theorem dX8_reaches_116 : decode cX8_reaches 116 = .ok (.goto (-88), 3) := by decide +kernel
theorem dX8_reaches_119 : decode cX8_reaches 119 = .ok (.aload_n 0, 1) := by decide +kernel
theorem dX8_reaches_120 : decode cX8_reaches 120 = .ok (.getfield 51, 3) := by decide +kernel
theorem dX8_reaches_123 : decode cX8_reaches 123 = .ok (.sipush 512, 3) := by decide +kernel
theorem dX8_reaches_126 : decode cX8_reaches 126 = .ok (.iload_n 1, 1) := by decide +kernel
theorem dX8_reaches_127 : decode cX8_reaches 127 = .ok (.imul, 1) := by decide +kernel
theorem dX8_reaches_128 : decode cX8_reaches 128 = .ok (.iload_n 3, 1) := by decide +kernel
theorem dX8_reaches_129 : decode cX8_reaches 129 = .ok (.iadd, 1) := by decide +kernel
theorem dX8_reaches_130 : decode cX8_reaches 130 = .ok (.iload 4, 2) := by decide +kernel
theorem dX8_reaches_132 : decode cX8_reaches 132 = .ok (.bastore, 1) := by decide +kernel
theorem dX8_reaches_133 : decode cX8_reaches 133 = .ok (.iload_n 2, 1) := by decide +kernel
theorem dX8_reaches_134 : decode cX8_reaches 134 = .ok (.ifCond .ne 8, 3) := by decide +kernel
theorem dX8_reaches_137 : decode cX8_reaches 137 = .ok (.iload 4, 2) := by decide +kernel
theorem dX8_reaches_139 : decode cX8_reaches 139 = .ok (.ifCond .eq 7, 3) := by decide +kernel
theorem dX8_reaches_142 : decode cX8_reaches 142 = .ok (.iconst 1, 1) := by decide +kernel
theorem dX8_reaches_143 : decode cX8_reaches 143 = .ok (.goto 4, 3) := by decide +kernel
theorem dX8_reaches_146 : decode cX8_reaches 146 = .ok (.iconst 0, 1) := by decide +kernel
theorem dX8_reaches_147 : decode cX8_reaches 147 = .ok (.istore_n 2, 1) := by decide +kernel
theorem dX8_reaches_148 : decode cX8_reaches 148 = .ok (.iinc 3 1, 3) := by decide +kernel
theorem dX8_reaches_151 : decode cX8_reaches 151 = .ok (.goto (-147), 3) := by decide +kernel
theorem dX8_reaches_154 : decode cX8_reaches 154 = .ok (.iload_n 2, 1) := by decide +kernel
theorem dX8_reaches_155 : decode cX8_reaches 155 = .ok (.ireturn, 1) := by decide +kernel
theorem dX8_highest_0 : decode cX8_highest 0 = .ok (.iconst 0, 1) := by decide +kernel
theorem dX8_highest_1 : decode cX8_highest 1 = .ok (.istore_n 1, 1) := by decide +kernel
theorem dX8_highest_2 : decode cX8_highest 2 = .ok (.iconst 1, 1) := by decide +kernel
theorem dX8_highest_3 : decode cX8_highest 3 = .ok (.istore_n 2, 1) := by decide +kernel
theorem dX8_highest_4 : decode cX8_highest 4 = .ok (.iload_n 2, 1) := by decide +kernel
theorem dX8_highest_5 : decode cX8_highest 5 = .ok (.ifCond .eq 37, 3) := by decide +kernel
theorem dX8_highest_8 : decode cX8_highest 8 = .ok (.iload_n 1, 1) := by decide +kernel
theorem dX8_highest_9 : decode cX8_highest 9 = .ok (.aload_n 0, 1) := by decide +kernel
theorem dX8_highest_10 : decode cX8_highest 10 = .ok (.getfield 55, 3) := by decide +kernel
theorem dX8_highest_13 : decode cX8_highest 13 = .ok (.if_icmp .ge 29, 3) := by decide +kernel
theorem dX8_highest_16 : decode cX8_highest 16 = .ok (.aload_n 0, 1) := by decide +kernel
theorem dX8_highest_17 : decode cX8_highest 17 = .ok (.iload_n 1, 1) := by decide +kernel
theorem dX8_highest_18 : decode cX8_highest 18 = .ok (.invokevirtual 107, 3) := by decide +kernel
theorem dX8_highest_21 : decode cX8_highest 21 = .ok (.aload_n 0, 1) := by decide +kernel
theorem dX8_highest_22 : decode cX8_highest 22 = .ok (.iload_n 1, 1) := by decide +kernel
theorem dX8_highest_23 : decode cX8_highest 23 = .ok (.invokevirtual 135, 3) := by decide +kernel
theorem dX8_highest_26 : decode cX8_highest 26 = .ok (.istore_n 2, 1) := by decide +kernel
theorem dX8_highest_27 : decode cX8_highest 27 = .ok (.iload_n 1, 1) := by decide +kernel
theorem dX8_highest_28 : decode cX8_highest 28 = .ok (.iload_n 2, 1) := by decide +kernel
theorem dX8_highest_29 : decode cX8_highest 29 = .ok (.ifCond .eq 7, 3) := by decide +kernel
theorem dX8_highest_32 : decode cX8_highest 32 = .ok (.iconst 1, 1) := by decide +kernel
theorem dX8_highest_33 : decode cX8_highest 33 = .ok (.goto 4, 3) := by decide +kernel
theorem dX8_highest_36 : decode cX8_highest 36 = .ok (.iconst 0, 1) := by decide +kernel
theorem dX8_highest_37 : decode cX8_highest 37 = .ok (.iadd, 1) := by decide +kernel
theorem dX8_highest_38 : decode cX8_highest 38 = .ok (.istore_n 1, 1) := by decide +kernel
theorem dX8_highest_39 : decode cX8_highest 39 = .ok (.goto (-35), 3) := by decide +kernel
theorem dX8_highest_42 : decode cX8_highest 42 = .ok (.iload_n 1, 1) := by decide +kernel
theorem dX8_highest_43 : decode cX8_highest 43 = .ok (.ireturn, 1) := by decide +kernel
theorem dX8_byLap_0 : decode cX8_byLap 0 = .ok (.iload_n 1, 1) := by decide +kernel
theorem dX8_byLap_1 : decode cX8_byLap 1 = .ok (.iconst 1, 1) := by decide +kernel
theorem dX8_byLap_2 : decode cX8_byLap 2 = .ok (.iconst 3, 1) := by decide +kernel
theorem dX8_byLap_3 : decode cX8_byLap 3 = .ok (.invokestatic 58, 3) := by decide +kernel
theorem dX8_byLap_6 : decode cX8_byLap 6 = .ok (.ifCond .eq 11, 3) := by decide +kernel
theorem dX8_byLap_9 : decode cX8_byLap 9 = .ok (.aload_n 0, 1) := by decide +kernel
theorem dX8_byLap_10 : decode cX8_byLap 10 = .ok (.iload_n 1, 1) := by decide +kernel
theorem dX8_byLap_11 : decode cX8_byLap 11 = .ok (.invokevirtual 125, 3) := by decide +kernel
theorem dX8_byLap_14 : decode cX8_byLap 14 = .ok (.goto 5, 3) := by decide +kernel
theorem dX8_byLap_17 : decode cX8_byLap 17 = .ok (.bipush (-2), 2) := by decide +kernel
theorem dX8_byLap_19 : decode cX8_byLap 19 = .ok (.ireturn, 1) := by decide +kernel
theorem dX8_lay_0 : decode cX8_lay 0 = .ok (.aload_n 0, 1) := by decide +kernel
theorem dX8_lay_1 : decode cX8_lay 1 = .ok (.iload_n 1, 1) := by decide +kernel
theorem dX8_lay_2 : decode cX8_lay 2 = .ok (.invokevirtual 62, 3) := by decide +kernel
theorem dX8_lay_5 : decode cX8_lay 5 = .ok (.ifCond .ne 5, 3) := by decide +kernel
theorem dX8_lay_8 : decode cX8_lay 8 = .ok (.iconst (-1), 1) := by decide +kernel
theorem dX8_lay_9 : decode cX8_lay 9 = .ok (.ireturn, 1) := by decide +kernel
theorem dX8_lay_10 : decode cX8_lay 10 = .ok (.aload_n 0, 1) := by decide +kernel
theorem dX8_lay_11 : decode cX8_lay 11 = .ok (.iload_n 2, 1) := by decide +kernel
theorem dX8_lay_12 : decode cX8_lay 12 = .ok (.invokevirtual 66, 3) := by decide +kernel
theorem dX8_lay_15 : decode cX8_lay 15 = .ok (.ifCond .ne 6, 3) := by decide +kernel
theorem dX8_lay_18 : decode cX8_lay 18 = .ok (.bipush (-2), 2) := by decide +kernel
theorem dX8_lay_20 : decode cX8_lay 20 = .ok (.ireturn, 1) := by decide +kernel
theorem dX8_lay_21 : decode cX8_lay 21 = .ok (.aload_n 0, 1) := by decide +kernel
theorem dX8_lay_22 : decode cX8_lay 22 = .ok (.getfield 23, 3) := by decide +kernel
theorem dX8_lay_25 : decode cX8_lay 25 = .ok (.iload_n 1, 1) := by decide +kernel
theorem dX8_lay_26 : decode cX8_lay 26 = .ok (.iaload, 1) := by decide +kernel
theorem dX8_lay_27 : decode cX8_lay 27 = .ok (.istore_n 3, 1) := by decide +kernel
theorem dX8_lay_28 : decode cX8_lay 28 = .ok (.aload_n 0, 1) := by decide +kernel
theorem dX8_lay_29 : decode cX8_lay 29 = .ok (.getfield 23, 3) := by decide +kernel
theorem dX8_lay_32 : decode cX8_lay 32 = .ok (.iload_n 1, 1) := by decide +kernel
theorem dX8_lay_33 : decode cX8_lay 33 = .ok (.iload_n 2, 1) := by decide +kernel
theorem dX8_lay_34 : decode cX8_lay 34 = .ok (.iastore, 1) := by decide +kernel
theorem dX8_lay_35 : decode cX8_lay 35 = .ok (.iload_n 3, 1) := by decide +kernel
theorem dX8_lay_36 : decode cX8_lay 36 = .ok (.ireturn, 1) := by decide +kernel
theorem dX8_laidCost_0 : decode cX8_laidCost 0 = .ok (.iconst 0, 1) := by decide +kernel
theorem dX8_laidCost_1 : decode cX8_laidCost 1 = .ok (.istore_n 1, 1) := by decide +kernel
theorem dX8_laidCost_2 : decode cX8_laidCost 2 = .ok (.iconst 0, 1) := by decide +kernel
theorem dX8_laidCost_3 : decode cX8_laidCost 3 = .ok (.istore_n 2, 1) := by decide +kernel
theorem dX8_laidCost_4 : decode cX8_laidCost 4 = .ok (.iload_n 2, 1) := by decide +kernel
theorem dX8_laidCost_5 : decode cX8_laidCost 5 = .ok (.aload_n 0, 1) := by decide +kernel
theorem dX8_laidCost_6 : decode cX8_laidCost 6 = .ok (.getfield 55, 3) := by decide +kernel
theorem dX8_laidCost_9 : decode cX8_laidCost 9 = .ok (.if_icmp .ge 23, 3) := by decide +kernel
theorem dX8_laidCost_12 : decode cX8_laidCost 12 = .ok (.iload_n 1, 1) := by decide +kernel
theorem dX8_laidCost_13 : decode cX8_laidCost 13 = .ok (.aload_n 0, 1) := by decide +kernel
theorem dX8_laidCost_14 : decode cX8_laidCost 14 = .ok (.iload_n 2, 1) := by decide +kernel
theorem dX8_laidCost_15 : decode cX8_laidCost 15 = .ok (.aload_n 0, 1) := by decide +kernel
theorem dX8_laidCost_16 : decode cX8_laidCost 16 = .ok (.getfield 23, 3) := by decide +kernel
theorem dX8_laidCost_19 : decode cX8_laidCost 19 = .ok (.iload_n 2, 1) := by decide +kernel
theorem dX8_laidCost_20 : decode cX8_laidCost 20 = .ok (.iaload, 1) := by decide +kernel
theorem dX8_laidCost_21 : decode cX8_laidCost 21 = .ok (.invokevirtual 119, 3) := by decide +kernel
theorem dX8_laidCost_24 : decode cX8_laidCost 24 = .ok (.iadd, 1) := by decide +kernel
theorem dX8_laidCost_25 : decode cX8_laidCost 25 = .ok (.istore_n 1, 1) := by decide +kernel
theorem dX8_laidCost_26 : decode cX8_laidCost 26 = .ok (.iinc 2 1, 3) := by decide +kernel
theorem dX8_laidCost_29 : decode cX8_laidCost 29 = .ok (.goto (-25), 3) := by decide +kernel
theorem dX8_laidCost_32 : decode cX8_laidCost 32 = .ok (.iload_n 1, 1) := by decide +kernel
theorem dX8_laidCost_33 : decode cX8_laidCost 33 = .ok (.ireturn, 1) := by decide +kernel
theorem dX8_layBest_0 : decode cX8_layBest 0 = .ok (.aload_n 0, 1) := by decide +kernel
theorem dX8_layBest_1 : decode cX8_layBest 1 = .ok (.invokevirtual 128, 3) := by decide +kernel
theorem dX8_layBest_4 : decode cX8_layBest 4 = .ok (.ifCond .ne 6, 3) := by decide +kernel
theorem dX8_layBest_7 : decode cX8_layBest 7 = .ok (.bipush (-3), 2) := by decide +kernel
theorem dX8_layBest_9 : decode cX8_layBest 9 = .ok (.ireturn, 1) := by decide +kernel
theorem dX8_layBest_10 : decode cX8_layBest 10 = .ok (.iconst 0, 1) := by decide +kernel
theorem dX8_layBest_11 : decode cX8_layBest 11 = .ok (.istore_n 1, 1) := by decide +kernel
theorem dX8_layBest_12 : decode cX8_layBest 12 = .ok (.iload_n 1, 1) := by decide +kernel
theorem dX8_layBest_13 : decode cX8_layBest 13 = .ok (.aload_n 0, 1) := by decide +kernel
theorem dX8_layBest_14 : decode cX8_layBest 14 = .ok (.getfield 55, 3) := by decide +kernel
theorem dX8_layBest_17 : decode cX8_layBest 17 = .ok (.if_icmp .ge 21, 3) := by decide +kernel
theorem dX8_layBest_20 : decode cX8_layBest 20 = .ok (.aload_n 0, 1) := by decide +kernel
theorem dX8_layBest_21 : decode cX8_layBest 21 = .ok (.getfield 23, 3) := by decide +kernel
theorem dX8_layBest_24 : decode cX8_layBest 24 = .ok (.iload_n 1, 1) := by decide +kernel
theorem dX8_layBest_25 : decode cX8_layBest 25 = .ok (.aload_n 0, 1) := by decide +kernel
theorem dX8_layBest_26 : decode cX8_layBest 26 = .ok (.getfield 48, 3) := by decide +kernel
theorem dX8_layBest_29 : decode cX8_layBest 29 = .ok (.iload_n 1, 1) := by decide +kernel
theorem dX8_layBest_30 : decode cX8_layBest 30 = .ok (.iaload, 1) := by decide +kernel
theorem dX8_layBest_31 : decode cX8_layBest 31 = .ok (.iastore, 1) := by decide +kernel
theorem dX8_layBest_32 : decode cX8_layBest 32 = .ok (.iinc 1 1, 3) := by decide +kernel
theorem dX8_layBest_35 : decode cX8_layBest 35 = .ok (.goto (-23), 3) := by decide +kernel
theorem dX8_layBest_38 : decode cX8_layBest 38 = .ok (.aload_n 0, 1) := by decide +kernel
theorem dX8_layBest_39 : decode cX8_layBest 39 = .ok (.invokevirtual 138, 3) := by decide +kernel
theorem dX8_layBest_42 : decode cX8_layBest 42 = .ok (.ireturn, 1) := by decide +kernel
theorem dX8_laidRule_0 : decode cX8_laidRule 0 = .ok (.aload_n 0, 1) := by decide +kernel
theorem dX8_laidRule_1 : decode cX8_laidRule 1 = .ok (.iload_n 1, 1) := by decide +kernel
theorem dX8_laidRule_2 : decode cX8_laidRule 2 = .ok (.aload_n 0, 1) := by decide +kernel
theorem dX8_laidRule_3 : decode cX8_laidRule 3 = .ok (.getfield 23, 3) := by decide +kernel
theorem dX8_laidRule_6 : decode cX8_laidRule 6 = .ok (.iload_n 1, 1) := by decide +kernel
theorem dX8_laidRule_7 : decode cX8_laidRule 7 = .ok (.iaload, 1) := by decide +kernel
theorem dX8_laidRule_8 : decode cX8_laidRule 8 = .ok (.invokevirtual 103, 3) := by decide +kernel
theorem dX8_laidRule_11 : decode cX8_laidRule 11 = .ok (.istore_n 2, 1) := by decide +kernel
theorem dX8_laidRule_12 : decode cX8_laidRule 12 = .ok (.iload_n 1, 1) := by decide +kernel
theorem dX8_laidRule_13 : decode cX8_laidRule 13 = .ok (.ifCond .le 32, 3) := by decide +kernel
theorem dX8_laidRule_16 : decode cX8_laidRule 16 = .ok (.aload_n 0, 1) := by decide +kernel
theorem dX8_laidRule_17 : decode cX8_laidRule 17 = .ok (.getfield 23, 3) := by decide +kernel
theorem dX8_laidRule_20 : decode cX8_laidRule 20 = .ok (.iload_n 1, 1) := by decide +kernel
theorem dX8_laidRule_21 : decode cX8_laidRule 21 = .ok (.iconst 1, 1) := by decide +kernel
theorem dX8_laidRule_22 : decode cX8_laidRule 22 = .ok (.isub, 1) := by decide +kernel
theorem dX8_laidRule_23 : decode cX8_laidRule 23 = .ok (.iaload, 1) := by decide +kernel
theorem dX8_laidRule_24 : decode cX8_laidRule 24 = .ok (.aload_n 0, 1) := by decide +kernel
theorem dX8_laidRule_25 : decode cX8_laidRule 25 = .ok (.getfield 32, 3) := by decide +kernel
theorem dX8_laidRule_28 : decode cX8_laidRule 28 = .ok (.invokestatic 116, 3) := by decide +kernel
theorem dX8_laidRule_31 : decode cX8_laidRule 31 = .ok (.aload_n 0, 1) := by decide +kernel
theorem dX8_laidRule_32 : decode cX8_laidRule 32 = .ok (.getfield 23, 3) := by decide +kernel
theorem dX8_laidRule_35 : decode cX8_laidRule 35 = .ok (.iload_n 1, 1) := by decide +kernel
theorem dX8_laidRule_36 : decode cX8_laidRule 36 = .ok (.iaload, 1) := by decide +kernel
theorem dX8_laidRule_37 : decode cX8_laidRule 37 = .ok (.iand, 1) := by decide +kernel
theorem dX8_laidRule_38 : decode cX8_laidRule 38 = .ok (.ifCond .eq 7, 3) := by decide +kernel
theorem dX8_laidRule_41 : decode cX8_laidRule 41 = .ok (.iconst 1, 1) := by decide +kernel
theorem dX8_laidRule_42 : decode cX8_laidRule 42 = .ok (.goto 4, 3) := by decide +kernel
theorem dX8_laidRule_45 : decode cX8_laidRule 45 = .ok (.iconst 0, 1) := by decide +kernel
theorem dX8_laidRule_46 : decode cX8_laidRule 46 = .ok (.istore_n 3, 1) := by decide +kernel
theorem dX8_laidRule_47 : decode cX8_laidRule 47 = .ok (.iload_n 2, 1) := by decide +kernel
theorem dX8_laidRule_48 : decode cX8_laidRule 48 = .ok (.ifCond .eq 7, 3) := by decide +kernel
theorem dX8_laidRule_51 : decode cX8_laidRule 51 = .ok (.iload_n 2, 1) := by decide +kernel
theorem dX8_laidRule_52 : decode cX8_laidRule 52 = .ok (.goto 13, 3) := by decide +kernel
theorem dX8_laidRule_55 : decode cX8_laidRule 55 = .ok (.iload_n 3, 1) := by decide +kernel
theorem dX8_laidRule_56 : decode cX8_laidRule 56 = .ok (.ifCond .eq 8, 3) := by decide +kernel
theorem dX8_laidRule_59 : decode cX8_laidRule 59 = .ok (.bipush 7, 2) := by decide +kernel
theorem dX8_laidRule_61 : decode cX8_laidRule 61 = .ok (.goto 4, 3) := by decide +kernel
theorem dX8_laidRule_64 : decode cX8_laidRule 64 = .ok (.iconst 0, 1) := by decide +kernel
theorem dX8_laidRule_65 : decode cX8_laidRule 65 = .ok (.ireturn, 1) := by decide +kernel
theorem dX8_wrong_0 : decode cX8_wrong 0 = .ok (.iload_n 1, 1) := by decide +kernel
theorem dX8_wrong_1 : decode cX8_wrong 1 = .ok (.iconst 0, 1) := by decide +kernel
theorem dX8_wrong_2 : decode cX8_wrong 2 = .ok (.iconst 1, 1) := by decide +kernel
theorem dX8_wrong_3 : decode cX8_wrong 3 = .ok (.invokestatic 58, 3) := by decide +kernel
theorem dX8_wrong_6 : decode cX8_wrong 6 = .ok (.ifCond .ne 6, 3) := by decide +kernel
theorem dX8_wrong_9 : decode cX8_wrong 9 = .ok (.bipush (-2), 2) := by decide +kernel
theorem dX8_wrong_11 : decode cX8_wrong 11 = .ok (.ireturn, 1) := by decide +kernel
theorem dX8_wrong_12 : decode cX8_wrong 12 = .ok (.iconst 0, 1) := by decide +kernel
theorem dX8_wrong_13 : decode cX8_wrong 13 = .ok (.istore_n 2, 1) := by decide +kernel
theorem dX8_wrong_14 : decode cX8_wrong 14 = .ok (.iload_n 2, 1) := by decide +kernel
theorem dX8_wrong_15 : decode cX8_wrong 15 = .ok (.aload_n 0, 1) := by decide +kernel
theorem dX8_wrong_16 : decode cX8_wrong 16 = .ok (.getfield 55, 3) := by decide +kernel
theorem dX8_wrong_19 : decode cX8_wrong 19 = .ok (.if_icmp .ge 29, 3) := by decide +kernel
theorem dX8_wrong_22 : decode cX8_wrong 22 = .ok (.aload_n 0, 1) := by decide +kernel
theorem dX8_wrong_23 : decode cX8_wrong 23 = .ok (.iload_n 2, 1) := by decide +kernel
theorem dX8_wrong_24 : decode cX8_wrong 24 = .ok (.invokevirtual 142, 3) := by decide +kernel
theorem dX8_wrong_27 : decode cX8_wrong 27 = .ok (.istore_n 3, 1) := by decide +kernel
theorem dX8_wrong_28 : decode cX8_wrong 28 = .ok (.iload_n 3, 1) := by decide +kernel
theorem dX8_wrong_29 : decode cX8_wrong 29 = .ok (.ifCond .eq 13, 3) := by decide +kernel
theorem dX8_wrong_32 : decode cX8_wrong 32 = .ok (.iload_n 1, 1) := by decide +kernel
theorem dX8_wrong_33 : decode cX8_wrong 33 = .ok (.ifCond .ne 7, 3) := by decide +kernel
theorem dX8_wrong_36 : decode cX8_wrong 36 = .ok (.iload_n 2, 1) := by decide +kernel
theorem dX8_wrong_37 : decode cX8_wrong 37 = .ok (.goto 4, 3) := by decide +kernel
theorem dX8_wrong_40 : decode cX8_wrong 40 = .ok (.iload_n 3, 1) := by decide +kernel
theorem dX8_wrong_41 : decode cX8_wrong 41 = .ok (.ireturn, 1) := by decide +kernel
theorem dX8_wrong_42 : decode cX8_wrong 42 = .ok (.iinc 2 1, 3) := by decide +kernel
theorem dX8_wrong_45 : decode cX8_wrong 45 = .ok (.goto (-31), 3) := by decide +kernel
theorem dX8_wrong_48 : decode cX8_wrong 48 = .ok (.bipush (-9), 2) := by decide +kernel
theorem dX8_wrong_50 : decode cX8_wrong 50 = .ok (.ireturn, 1) := by decide +kernel
theorem dX8_cost_0 : decode cX8_cost 0 = .ok (.aload_n 0, 1) := by decide +kernel
theorem dX8_cost_1 : decode cX8_cost 1 = .ok (.invokevirtual 138, 3) := by decide +kernel
theorem dX8_cost_4 : decode cX8_cost 4 = .ok (.ireturn, 1) := by decide +kernel
theorem dX8_laidPieces_0 : decode cX8_laidPieces 0 = .ok (.iconst 0, 1) := by decide +kernel
theorem dX8_laidPieces_1 : decode cX8_laidPieces 1 = .ok (.istore_n 2, 1) := by decide +kernel
theorem dX8_laidPieces_2 : decode cX8_laidPieces 2 = .ok (.iconst 0, 1) := by decide +kernel
theorem dX8_laidPieces_3 : decode cX8_laidPieces 3 = .ok (.istore_n 3, 1) := by decide +kernel
theorem dX8_laidPieces_4 : decode cX8_laidPieces 4 = .ok (.iload_n 3, 1) := by decide +kernel
theorem dX8_laidPieces_5 : decode cX8_laidPieces 5 = .ok (.aload_n 0, 1) := by decide +kernel
theorem dX8_laidPieces_6 : decode cX8_laidPieces 6 = .ok (.getfield 55, 3) := by decide +kernel
theorem dX8_laidPieces_9 : decode cX8_laidPieces 9 = .ok (.if_icmp .ge 24, 3) := by decide +kernel
theorem dX8_laidPieces_12 : decode cX8_laidPieces 12 = .ok (.iload_n 2, 1) := by decide +kernel
theorem dX8_laidPieces_13 : decode cX8_laidPieces 13 = .ok (.aload_n 0, 1) := by decide +kernel
theorem dX8_laidPieces_14 : decode cX8_laidPieces 14 = .ok (.iload_n 3, 1) := by decide +kernel
theorem dX8_laidPieces_15 : decode cX8_laidPieces 15 = .ok (.aload_n 0, 1) := by decide +kernel
theorem dX8_laidPieces_16 : decode cX8_laidPieces 16 = .ok (.getfield 23, 3) := by decide +kernel
theorem dX8_laidPieces_19 : decode cX8_laidPieces 19 = .ok (.iload_n 3, 1) := by decide +kernel
theorem dX8_laidPieces_20 : decode cX8_laidPieces 20 = .ok (.iaload, 1) := by decide +kernel
theorem dX8_laidPieces_21 : decode cX8_laidPieces 21 = .ok (.iload_n 1, 1) := by decide +kernel
theorem dX8_laidPieces_22 : decode cX8_laidPieces 22 = .ok (.invokevirtual 132, 3) := by decide +kernel
theorem dX8_laidPieces_25 : decode cX8_laidPieces 25 = .ok (.iadd, 1) := by decide +kernel
theorem dX8_laidPieces_26 : decode cX8_laidPieces 26 = .ok (.istore_n 2, 1) := by decide +kernel
theorem dX8_laidPieces_27 : decode cX8_laidPieces 27 = .ok (.iinc 3 1, 3) := by decide +kernel
theorem dX8_laidPieces_30 : decode cX8_laidPieces 30 = .ok (.goto (-26), 3) := by decide +kernel
theorem dX8_laidPieces_33 : decode cX8_laidPieces 33 = .ok (.iload_n 2, 1) := by decide +kernel
theorem dX8_laidPieces_34 : decode cX8_laidPieces 34 = .ok (.ireturn, 1) := by decide +kernel
theorem dX8_pieces_0 : decode cX8_pieces 0 = .ok (.iload_n 1, 1) := by decide +kernel
theorem dX8_pieces_1 : decode cX8_pieces 1 = .ok (.iconst 1, 1) := by decide +kernel
theorem dX8_pieces_2 : decode cX8_pieces 2 = .ok (.bipush 10, 2) := by decide +kernel
theorem dX8_pieces_4 : decode cX8_pieces 4 = .ok (.invokestatic 58, 3) := by decide +kernel
theorem dX8_pieces_7 : decode cX8_pieces 7 = .ok (.ifCond .eq 11, 3) := by decide +kernel
theorem dX8_pieces_10 : decode cX8_pieces 10 = .ok (.aload_n 0, 1) := by decide +kernel
theorem dX8_pieces_11 : decode cX8_pieces 11 = .ok (.iload_n 1, 1) := by decide +kernel
theorem dX8_pieces_12 : decode cX8_pieces 12 = .ok (.invokevirtual 145, 3) := by decide +kernel
theorem dX8_pieces_15 : decode cX8_pieces 15 = .ok (.goto 5, 3) := by decide +kernel
theorem dX8_pieces_18 : decode cX8_pieces 18 = .ok (.bipush (-2), 2) := by decide +kernel
theorem dX8_pieces_20 : decode cX8_pieces 20 = .ok (.ireturn, 1) := by decide +kernel
theorem dX8_piece_0 : decode cX8_piece 0 = .ok (.aload_n 0, 1) := by decide +kernel
theorem dX8_piece_1 : decode cX8_piece 1 = .ok (.iload_n 1, 1) := by decide +kernel
theorem dX8_piece_2 : decode cX8_piece 2 = .ok (.invokevirtual 62, 3) := by decide +kernel
theorem dX8_piece_5 : decode cX8_piece 5 = .ok (.ifCond .ne 5, 3) := by decide +kernel
theorem dX8_piece_8 : decode cX8_piece 8 = .ok (.iconst (-1), 1) := by decide +kernel
theorem dX8_piece_9 : decode cX8_piece 9 = .ok (.ireturn, 1) := by decide +kernel
theorem dX8_piece_10 : decode cX8_piece 10 = .ok (.iload_n 2, 1) := by decide +kernel
theorem dX8_piece_11 : decode cX8_piece 11 = .ok (.iconst 0, 1) := by decide +kernel
theorem dX8_piece_12 : decode cX8_piece 12 = .ok (.aload_n 0, 1) := by decide +kernel
theorem dX8_piece_13 : decode cX8_piece 13 = .ok (.getfield 7, 3) := by decide +kernel
theorem dX8_piece_16 : decode cX8_piece 16 = .ok (.iconst 1, 1) := by decide +kernel
theorem dX8_piece_17 : decode cX8_piece 17 = .ok (.isub, 1) := by decide +kernel
theorem dX8_piece_18 : decode cX8_piece 18 = .ok (.invokestatic 58, 3) := by decide +kernel
theorem dX8_piece_21 : decode cX8_piece 21 = .ok (.ifCond .ne 6, 3) := by decide +kernel
theorem dX8_piece_24 : decode cX8_piece 24 = .ok (.bipush (-2), 2) := by decide +kernel
theorem dX8_piece_26 : decode cX8_piece 26 = .ok (.ireturn, 1) := by decide +kernel
theorem dX8_piece_27 : decode cX8_piece 27 = .ok (.aload_n 0, 1) := by decide +kernel
theorem dX8_piece_28 : decode cX8_piece 28 = .ok (.getfield 13, 3) := by decide +kernel
theorem dX8_piece_31 : decode cX8_piece 31 = .ok (.iload_n 1, 1) := by decide +kernel
theorem dX8_piece_32 : decode cX8_piece 32 = .ok (.iaload, 1) := by decide +kernel
theorem dX8_piece_33 : decode cX8_piece 33 = .ok (.iload_n 2, 1) := by decide +kernel
theorem dX8_piece_34 : decode cX8_piece 34 = .ok (.invokestatic 69, 3) := by decide +kernel
theorem dX8_piece_37 : decode cX8_piece 37 = .ok (.ifCond .eq 8, 3) := by decide +kernel
theorem dX8_piece_40 : decode cX8_piece 40 = .ok (.bipush (-9), 2) := by decide +kernel
theorem dX8_piece_42 : decode cX8_piece 42 = .ok (.goto 26, 3) := by decide +kernel
theorem dX8_piece_45 : decode cX8_piece 45 = .ok (.aload_n 0, 1) := by decide +kernel
theorem dX8_piece_46 : decode cX8_piece 46 = .ok (.iload_n 1, 1) := by decide +kernel
theorem dX8_piece_47 : decode cX8_piece 47 = .ok (.aload_n 0, 1) := by decide +kernel
theorem dX8_piece_48 : decode cX8_piece 48 = .ok (.getfield 23, 3) := by decide +kernel
theorem dX8_piece_51 : decode cX8_piece 51 = .ok (.iload_n 1, 1) := by decide +kernel
theorem dX8_piece_52 : decode cX8_piece 52 = .ok (.iaload, 1) := by decide +kernel
theorem dX8_piece_53 : decode cX8_piece 53 = .ok (.aload_n 0, 1) := by decide +kernel
theorem dX8_piece_54 : decode cX8_piece 54 = .ok (.iload_n 1, 1) := by decide +kernel
theorem dX8_piece_55 : decode cX8_piece 55 = .ok (.aload_n 0, 1) := by decide +kernel
theorem dX8_piece_56 : decode cX8_piece 56 = .ok (.getfield 23, 3) := by decide +kernel
theorem dX8_piece_59 : decode cX8_piece 59 = .ok (.iload_n 1, 1) := by decide +kernel
theorem dX8_piece_60 : decode cX8_piece 60 = .ok (.iaload, 1) := by decide +kernel
theorem dX8_piece_61 : decode cX8_piece 61 = .ok (.iload_n 2, 1) := by decide +kernel
theorem dX8_piece_62 : decode cX8_piece 62 = .ok (.invokevirtual 84, 3) := by decide +kernel
theorem dX8_piece_65 : decode cX8_piece 65 = .ok (.invokevirtual 80, 3) := by decide +kernel
theorem dX8_piece_68 : decode cX8_piece 68 = .ok (.ireturn, 1) := by decide +kernel
theorem dX8_cut_0 : decode cX8_cut 0 = .ok (.aload_n 0, 1) := by decide +kernel
theorem dX8_cut_1 : decode cX8_cut 1 = .ok (.iconst 1, 1) := by decide +kernel
theorem dX8_cut_2 : decode cX8_cut 2 = .ok (.invokevirtual 145, 3) := by decide +kernel
theorem dX8_cut_5 : decode cX8_cut 5 = .ok (.aload_n 0, 1) := by decide +kernel
theorem dX8_cut_6 : decode cX8_cut 6 = .ok (.iconst 3, 1) := by decide +kernel
theorem dX8_cut_7 : decode cX8_cut 7 = .ok (.invokevirtual 145, 3) := by decide +kernel
theorem dX8_cut_10 : decode cX8_cut 10 = .ok (.isub, 1) := by decide +kernel
theorem dX8_cut_11 : decode cX8_cut 11 = .ok (.istore_n 1, 1) := by decide +kernel
theorem dX8_cut_12 : decode cX8_cut 12 = .ok (.iload_n 1, 1) := by decide +kernel
theorem dX8_cut_13 : decode cX8_cut 13 = .ok (.ifCond .ge 7, 3) := by decide +kernel
theorem dX8_cut_16 : decode cX8_cut 16 = .ok (.iconst 0, 1) := by decide +kernel
theorem dX8_cut_17 : decode cX8_cut 17 = .ok (.goto 4, 3) := by decide +kernel
theorem dX8_cut_20 : decode cX8_cut 20 = .ok (.iload_n 1, 1) := by decide +kernel
theorem dX8_cut_21 : decode cX8_cut 21 = .ok (.istore_n 1, 1) := by decide +kernel
theorem dX8_cut_22 : decode cX8_cut 22 = .ok (.aload_n 0, 1) := by decide +kernel
theorem dX8_cut_23 : decode cX8_cut 23 = .ok (.iconst 2, 1) := by decide +kernel
theorem dX8_cut_24 : decode cX8_cut 24 = .ok (.invokevirtual 145, 3) := by decide +kernel
theorem dX8_cut_27 : decode cX8_cut 27 = .ok (.istore_n 2, 1) := by decide +kernel
theorem dX8_cut_28 : decode cX8_cut 28 = .ok (.iload_n 1, 1) := by decide +kernel
theorem dX8_cut_29 : decode cX8_cut 29 = .ok (.iload_n 2, 1) := by decide +kernel
theorem dX8_cut_30 : decode cX8_cut 30 = .ok (.iconst 2, 1) := by decide +kernel
theorem dX8_cut_31 : decode cX8_cut 31 = .ok (.irem, 1) := by decide +kernel
theorem dX8_cut_32 : decode cX8_cut 32 = .ok (.iconst 1, 1) := by decide +kernel
theorem dX8_cut_33 : decode cX8_cut 33 = .ok (.if_icmp .ne 7, 3) := by decide +kernel
theorem dX8_cut_36 : decode cX8_cut 36 = .ok (.iconst 2, 1) := by decide +kernel
theorem dX8_cut_37 : decode cX8_cut 37 = .ok (.goto 4, 3) := by decide +kernel
theorem dX8_cut_40 : decode cX8_cut 40 = .ok (.iconst 0, 1) := by decide +kernel
theorem dX8_cut_41 : decode cX8_cut 41 = .ok (.isub, 1) := by decide +kernel
theorem dX8_cut_42 : decode cX8_cut 42 = .ok (.istore_n 1, 1) := by decide +kernel
theorem dX8_cut_43 : decode cX8_cut 43 = .ok (.aload_n 0, 1) := by decide +kernel
theorem dX8_cut_44 : decode cX8_cut 44 = .ok (.iconst 4, 1) := by decide +kernel
theorem dX8_cut_45 : decode cX8_cut 45 = .ok (.invokevirtual 145, 3) := by decide +kernel
theorem dX8_cut_48 : decode cX8_cut 48 = .ok (.aload_n 0, 1) := by decide +kernel
theorem dX8_cut_49 : decode cX8_cut 49 = .ok (.iconst 3, 1) := by decide +kernel
theorem dX8_cut_50 : decode cX8_cut 50 = .ok (.invokevirtual 145, 3) := by decide +kernel
theorem dX8_cut_53 : decode cX8_cut 53 = .ok (.iadd, 1) := by decide +kernel
theorem dX8_cut_54 : decode cX8_cut 54 = .ok (.iload_n 2, 1) := by decide +kernel
theorem dX8_cut_55 : decode cX8_cut 55 = .ok (.iconst 1, 1) := by decide +kernel
theorem dX8_cut_56 : decode cX8_cut 56 = .ok (.iadd, 1) := by decide +kernel
theorem dX8_cut_57 : decode cX8_cut 57 = .ok (.iconst 2, 1) := by decide +kernel
theorem dX8_cut_58 : decode cX8_cut 58 = .ok (.idiv, 1) := by decide +kernel
theorem dX8_cut_59 : decode cX8_cut 59 = .ok (.iadd, 1) := by decide +kernel
theorem dX8_cut_60 : decode cX8_cut 60 = .ok (.iload_n 1, 1) := by decide +kernel
theorem dX8_cut_61 : decode cX8_cut 61 = .ok (.ifCond .le 11, 3) := by decide +kernel
theorem dX8_cut_64 : decode cX8_cut 64 = .ok (.iload_n 1, 1) := by decide +kernel
theorem dX8_cut_65 : decode cX8_cut 65 = .ok (.iconst 3, 1) := by decide +kernel
theorem dX8_cut_66 : decode cX8_cut 66 = .ok (.iadd, 1) := by decide +kernel
theorem dX8_cut_67 : decode cX8_cut 67 = .ok (.iconst 4, 1) := by decide +kernel
theorem dX8_cut_68 : decode cX8_cut 68 = .ok (.idiv, 1) := by decide +kernel
theorem dX8_cut_69 : decode cX8_cut 69 = .ok (.goto 4, 3) := by decide +kernel
theorem dX8_cut_72 : decode cX8_cut 72 = .ok (.iconst 0, 1) := by decide +kernel
theorem dX8_cut_73 : decode cX8_cut 73 = .ok (.iadd, 1) := by decide +kernel
theorem dX8_cut_74 : decode cX8_cut 74 = .ok (.ireturn, 1) := by decide +kernel
theorem dX8_many_0 : decode cX8_many 0 = .ok (.iload_n 1, 1) := by decide +kernel
theorem dX8_many_1 : decode cX8_many 1 = .ok (.tableswitch 77 0 5 #[39, 44, 49, 54, 63, 68], 39) := by decide +kernel
theorem dX8_many_40 : decode cX8_many 40 = .ok (.aload_n 0, 1) := by decide +kernel
theorem dX8_many_41 : decode cX8_many 41 = .ok (.getfield 55, 3) := by decide +kernel
theorem dX8_many_44 : decode cX8_many 44 = .ok (.ireturn, 1) := by decide +kernel
theorem dX8_many_45 : decode cX8_many 45 = .ok (.aload_n 0, 1) := by decide +kernel
theorem dX8_many_46 : decode cX8_many 46 = .ok (.getfield 7, 3) := by decide +kernel
theorem dX8_many_49 : decode cX8_many 49 = .ok (.ireturn, 1) := by decide +kernel
theorem dX8_many_50 : decode cX8_many 50 = .ok (.aload_n 0, 1) := by decide +kernel
theorem dX8_many_51 : decode cX8_many 51 = .ok (.getfield 32, 3) := by decide +kernel
theorem dX8_many_54 : decode cX8_many 54 = .ok (.ireturn, 1) := by decide +kernel
theorem dX8_many_55 : decode cX8_many 55 = .ok (.aload_n 0, 1) := by decide +kernel
theorem dX8_many_56 : decode cX8_many 56 = .ok (.aload_n 0, 1) := by decide +kernel
theorem dX8_many_57 : decode cX8_many 57 = .ok (.getfield 13, 3) := by decide +kernel
theorem dX8_many_60 : decode cX8_many 60 = .ok (.invokevirtual 148, 3) := by decide +kernel
theorem dX8_many_63 : decode cX8_many 63 = .ok (.ireturn, 1) := by decide +kernel
theorem dX8_many_64 : decode cX8_many 64 = .ok (.aload_n 0, 1) := by decide +kernel
theorem dX8_many_65 : decode cX8_many 65 = .ok (.invokevirtual 152, 3) := by decide +kernel
theorem dX8_many_68 : decode cX8_many 68 = .ok (.ireturn, 1) := by decide +kernel
theorem dX8_many_69 : decode cX8_many 69 = .ok (.aload_n 0, 1) := by decide +kernel
theorem dX8_many_70 : decode cX8_many 70 = .ok (.aload_n 0, 1) := by decide +kernel
theorem dX8_many_71 : decode cX8_many 71 = .ok (.getfield 23, 3) := by decide +kernel
theorem dX8_many_74 : decode cX8_many 74 = .ok (.invokevirtual 148, 3) := by decide +kernel
theorem dX8_many_77 : decode cX8_many 77 = .ok (.ireturn, 1) := by decide +kernel
theorem dX8_many_78 : decode cX8_many 78 = .ok (.bipush (-2), 2) := by decide +kernel
theorem dX8_many_80 : decode cX8_many 80 = .ok (.ireturn, 1) := by decide +kernel
theorem dX8_sumOf_0 : decode cX8_sumOf 0 = .ok (.iconst 0, 1) := by decide +kernel
theorem dX8_sumOf_1 : decode cX8_sumOf 1 = .ok (.istore_n 2, 1) := by decide +kernel
theorem dX8_sumOf_2 : decode cX8_sumOf 2 = .ok (.iconst 0, 1) := by decide +kernel
theorem dX8_sumOf_3 : decode cX8_sumOf 3 = .ok (.istore_n 3, 1) := by decide +kernel
theorem dX8_sumOf_4 : decode cX8_sumOf 4 = .ok (.iload_n 3, 1) := by decide +kernel
theorem dX8_sumOf_5 : decode cX8_sumOf 5 = .ok (.aload_n 0, 1) := by decide +kernel
theorem dX8_sumOf_6 : decode cX8_sumOf 6 = .ok (.getfield 55, 3) := by decide +kernel
theorem dX8_sumOf_9 : decode cX8_sumOf 9 = .ok (.if_icmp .ge 18, 3) := by decide +kernel
theorem dX8_sumOf_12 : decode cX8_sumOf 12 = .ok (.iload_n 2, 1) := by decide +kernel
theorem dX8_sumOf_13 : decode cX8_sumOf 13 = .ok (.aload_n 1, 1) := by decide +kernel
theorem dX8_sumOf_14 : decode cX8_sumOf 14 = .ok (.iload_n 3, 1) := by decide +kernel
theorem dX8_sumOf_15 : decode cX8_sumOf 15 = .ok (.iaload, 1) := by decide +kernel
theorem dX8_sumOf_16 : decode cX8_sumOf 16 = .ok (.invokestatic 155, 3) := by decide +kernel
theorem dX8_sumOf_19 : decode cX8_sumOf 19 = .ok (.iadd, 1) := by decide +kernel
theorem dX8_sumOf_20 : decode cX8_sumOf 20 = .ok (.istore_n 2, 1) := by decide +kernel
theorem dX8_sumOf_21 : decode cX8_sumOf 21 = .ok (.iinc 3 1, 3) := by decide +kernel
theorem dX8_sumOf_24 : decode cX8_sumOf 24 = .ok (.goto (-20), 3) := by decide +kernel
theorem dX8_sumOf_27 : decode cX8_sumOf 27 = .ok (.iload_n 2, 1) := by decide +kernel
theorem dX8_sumOf_28 : decode cX8_sumOf 28 = .ok (.ireturn, 1) := by decide +kernel
theorem dX8_allPieces_0 : decode cX8_allPieces 0 = .ok (.iconst 0, 1) := by decide +kernel
theorem dX8_allPieces_1 : decode cX8_allPieces 1 = .ok (.istore_n 1, 1) := by decide +kernel
theorem dX8_allPieces_2 : decode cX8_allPieces 2 = .ok (.iconst 1, 1) := by decide +kernel
theorem dX8_allPieces_3 : decode cX8_allPieces 3 = .ok (.istore_n 2, 1) := by decide +kernel
theorem dX8_allPieces_4 : decode cX8_allPieces 4 = .ok (.iload_n 2, 1) := by decide +kernel
theorem dX8_allPieces_5 : decode cX8_allPieces 5 = .ok (.bipush 10, 2) := by decide +kernel
theorem dX8_allPieces_7 : decode cX8_allPieces 7 = .ok (.if_icmp .gt 17, 3) := by decide +kernel
theorem dX8_allPieces_10 : decode cX8_allPieces 10 = .ok (.iload_n 1, 1) := by decide +kernel
theorem dX8_allPieces_11 : decode cX8_allPieces 11 = .ok (.aload_n 0, 1) := by decide +kernel
theorem dX8_allPieces_12 : decode cX8_allPieces 12 = .ok (.iload_n 2, 1) := by decide +kernel
theorem dX8_allPieces_13 : decode cX8_allPieces 13 = .ok (.invokevirtual 145, 3) := by decide +kernel
theorem dX8_allPieces_16 : decode cX8_allPieces 16 = .ok (.iadd, 1) := by decide +kernel
theorem dX8_allPieces_17 : decode cX8_allPieces 17 = .ok (.istore_n 1, 1) := by decide +kernel
theorem dX8_allPieces_18 : decode cX8_allPieces 18 = .ok (.iinc 2 1, 3) := by decide +kernel
theorem dX8_allPieces_21 : decode cX8_allPieces 21 = .ok (.goto (-17), 3) := by decide +kernel
theorem dX8_allPieces_24 : decode cX8_allPieces 24 = .ok (.iload_n 1, 1) := by decide +kernel
theorem dX8_allPieces_25 : decode cX8_allPieces 25 = .ok (.ireturn, 1) := by decide +kernel
end
section
theorem dX0_init_0 : decode cX0_init 0 = .ok (.aload_n 0, 1) := by decide +kernel
theorem dX0_init_1 : decode cX0_init 1 = .ok (.invokespecial 3, 3) := by decide +kernel
theorem dX0_init_4 : decode cX0_init 4 = .ok (.aload_n 0, 1) := by decide +kernel
theorem dX0_init_5 : decode cX0_init 5 = .ok (.getstatic 9, 3) := by decide +kernel
theorem dX0_init_8 : decode cX0_init 8 = .ok (.invokevirtual 13, 3) := by decide +kernel
theorem dX0_init_11 : decode cX0_init 11 = .ok (.checkcast 14, 3) := by decide +kernel
theorem dX0_init_14 : decode cX0_init 14 = .ok (.putfield 18, 3) := by decide +kernel
theorem dX0_init_17 : decode cX0_init 17 = .ok (.aload_n 0, 1) := by decide +kernel
theorem dX0_init_18 : decode cX0_init 18 = .ok (.iconst 2, 1) := by decide +kernel
theorem dX0_init_19 : decode cX0_init 19 = .ok (.anewarray 14, 3) := by decide +kernel
theorem dX0_init_22 : decode cX0_init 22 = .ok (.dup, 1) := by decide +kernel
theorem dX0_init_23 : decode cX0_init 23 = .ok (.iconst 0, 1) := by decide +kernel
theorem dX0_init_24 : decode cX0_init 24 = .ok (.iconst 2, 1) := by decide +kernel
theorem dX0_init_25 : decode cX0_init 25 = .ok (.newarray .int, 2) := by decide +kernel
theorem dX0_init_27 : decode cX0_init 27 = .ok (.dup, 1) := by decide +kernel
theorem dX0_init_28 : decode cX0_init 28 = .ok (.iconst 0, 1) := by decide +kernel
theorem dX0_init_29 : decode cX0_init 29 = .ok (.bipush 126, 2) := by decide +kernel
theorem dX0_init_31 : decode cX0_init 31 = .ok (.iastore, 1) := by decide +kernel
theorem dX0_init_32 : decode cX0_init 32 = .ok (.dup, 1) := by decide +kernel
theorem dX0_init_33 : decode cX0_init 33 = .ok (.iconst 1, 1) := by decide +kernel
theorem dX0_init_34 : decode cX0_init 34 = .ok (.bipush 126, 2) := by decide +kernel
theorem dX0_init_36 : decode cX0_init 36 = .ok (.iastore, 1) := by decide +kernel
theorem dX0_init_37 : decode cX0_init 37 = .ok (.aastore, 1) := by decide +kernel
theorem dX0_init_38 : decode cX0_init 38 = .ok (.dup, 1) := by decide +kernel
theorem dX0_init_39 : decode cX0_init 39 = .ok (.iconst 1, 1) := by decide +kernel
theorem dX0_init_40 : decode cX0_init 40 = .ok (.iconst 2, 1) := by decide +kernel
theorem dX0_init_41 : decode cX0_init 41 = .ok (.newarray .int, 2) := by decide +kernel
theorem dX0_init_43 : decode cX0_init 43 = .ok (.dup, 1) := by decide +kernel
theorem dX0_init_44 : decode cX0_init 44 = .ok (.iconst 0, 1) := by decide +kernel
theorem dX0_init_45 : decode cX0_init 45 = .ok (.bipush 126, 2) := by decide +kernel
theorem dX0_init_47 : decode cX0_init 47 = .ok (.iastore, 1) := by decide +kernel
theorem dX0_init_48 : decode cX0_init 48 = .ok (.dup, 1) := by decide +kernel
theorem dX0_init_49 : decode cX0_init 49 = .ok (.iconst 1, 1) := by decide +kernel
theorem dX0_init_50 : decode cX0_init 50 = .ok (.bipush 126, 2) := by decide +kernel
theorem dX0_init_52 : decode cX0_init 52 = .ok (.iastore, 1) := by decide +kernel
theorem dX0_init_53 : decode cX0_init 53 = .ok (.aastore, 1) := by decide +kernel
theorem dX0_init_54 : decode cX0_init 54 = .ok (.putfield 23, 3) := by decide +kernel
theorem dX0_init_57 : decode cX0_init 57 = .ok (.return_, 1) := by decide +kernel
theorem dX0_priceOf_0 : decode cX0_priceOf 0 = .ok (.iload_n 1, 1) := by decide +kernel
theorem dX0_priceOf_1 : decode cX0_priceOf 1 = .ok (.iconst 1, 1) := by decide +kernel
theorem dX0_priceOf_2 : decode cX0_priceOf 2 = .ok (.if_icmp .lt 9, 3) := by decide +kernel
theorem dX0_priceOf_5 : decode cX0_priceOf 5 = .ok (.iload_n 1, 1) := by decide +kernel
theorem dX0_priceOf_6 : decode cX0_priceOf 6 = .ok (.bipush 6, 2) := by decide +kernel
theorem dX0_priceOf_8 : decode cX0_priceOf 8 = .ok (.if_icmp .le 8, 3) := by decide +kernel
theorem dX0_priceOf_11 : decode cX0_priceOf 11 = .ok (.bipush (-9), 2) := by decide +kernel
theorem dX0_priceOf_13 : decode cX0_priceOf 13 = .ok (.goto 9, 3) := by decide +kernel
theorem dX0_priceOf_16 : decode cX0_priceOf 16 = .ok (.aload_n 0, 1) := by decide +kernel
theorem dX0_priceOf_17 : decode cX0_priceOf 17 = .ok (.getfield 18, 3) := by decide +kernel
theorem dX0_priceOf_20 : decode cX0_priceOf 20 = .ok (.iload_n 1, 1) := by decide +kernel
theorem dX0_priceOf_21 : decode cX0_priceOf 21 = .ok (.iaload, 1) := by decide +kernel
theorem dX0_priceOf_22 : decode cX0_priceOf 22 = .ok (.ireturn, 1) := by decide +kernel
theorem dX0_mayEnd_0 : decode cX0_mayEnd 0 = .ok (.aload_n 0, 1) := by decide +kernel
theorem dX0_mayEnd_1 : decode cX0_mayEnd 1 = .ok (.getfield 23, 3) := by decide +kernel
theorem dX0_mayEnd_4 : decode cX0_mayEnd 4 = .ok (.iload_n 1, 1) := by decide +kernel
theorem dX0_mayEnd_5 : decode cX0_mayEnd 5 = .ok (.iconst 1, 1) := by decide +kernel
theorem dX0_mayEnd_6 : decode cX0_mayEnd 6 = .ok (.iand, 1) := by decide +kernel
theorem dX0_mayEnd_7 : decode cX0_mayEnd 7 = .ok (.aaload, 1) := by decide +kernel
theorem dX0_mayEnd_8 : decode cX0_mayEnd 8 = .ok (.iload_n 2, 1) := by decide +kernel
theorem dX0_mayEnd_9 : decode cX0_mayEnd 9 = .ok (.iconst 1, 1) := by decide +kernel
theorem dX0_mayEnd_10 : decode cX0_mayEnd 10 = .ok (.iand, 1) := by decide +kernel
theorem dX0_mayEnd_11 : decode cX0_mayEnd 11 = .ok (.iaload, 1) := by decide +kernel
theorem dX0_mayEnd_12 : decode cX0_mayEnd 12 = .ok (.iload_n 3, 1) := by decide +kernel
theorem dX0_mayEnd_13 : decode cX0_mayEnd 13 = .ok (.ishr, 1) := by decide +kernel
theorem dX0_mayEnd_14 : decode cX0_mayEnd 14 = .ok (.iconst 1, 1) := by decide +kernel
theorem dX0_mayEnd_15 : decode cX0_mayEnd 15 = .ok (.iand, 1) := by decide +kernel
theorem dX0_mayEnd_16 : decode cX0_mayEnd 16 = .ok (.ifCond .eq 7, 3) := by decide +kernel
theorem dX0_mayEnd_19 : decode cX0_mayEnd 19 = .ok (.iconst 1, 1) := by decide +kernel
theorem dX0_mayEnd_20 : decode cX0_mayEnd 20 = .ok (.goto 4, 3) := by decide +kernel
theorem dX0_mayEnd_23 : decode cX0_mayEnd 23 = .ok (.iconst 0, 1) := by decide +kernel
theorem dX0_mayEnd_24 : decode cX0_mayEnd 24 = .ok (.ireturn, 1) := by decide +kernel
theorem dX1_init_0 : decode cX1_init 0 = .ok (.aload_n 0, 1) := by decide +kernel
theorem dX1_init_1 : decode cX1_init 1 = .ok (.invokespecial 3, 3) := by decide +kernel
theorem dX1_init_4 : decode cX1_init 4 = .ok (.aload_n 0, 1) := by decide +kernel
theorem dX1_init_5 : decode cX1_init 5 = .ok (.sipush 512, 3) := by decide +kernel
theorem dX1_init_8 : decode cX1_init 8 = .ok (.newarray .long, 2) := by decide +kernel
theorem dX1_init_10 : decode cX1_init 10 = .ok (.putfield 9, 3) := by decide +kernel
theorem dX1_init_13 : decode cX1_init 13 = .ok (.aload_n 0, 1) := by decide +kernel
theorem dX1_init_14 : decode cX1_init 14 = .ok (.sipush 512, 3) := by decide +kernel
theorem dX1_init_17 : decode cX1_init 17 = .ok (.newarray .long, 2) := by decide +kernel
theorem dX1_init_19 : decode cX1_init 19 = .ok (.putfield 15, 3) := by decide +kernel
theorem dX1_init_22 : decode cX1_init 22 = .ok (.aload_n 0, 1) := by decide +kernel
theorem dX1_init_23 : decode cX1_init 23 = .ok (.iconst 0, 1) := by decide +kernel
theorem dX1_init_24 : decode cX1_init 24 = .ok (.putfield 18, 3) := by decide +kernel
theorem dX1_init_27 : decode cX1_init 27 = .ok (.aload_n 0, 1) := by decide +kernel
theorem dX1_init_28 : decode cX1_init 28 = .ok (.lconst 1, 1) := by decide +kernel
theorem dX1_init_29 : decode cX1_init 29 = .ok (.putfield 22, 3) := by decide +kernel
theorem dX1_init_32 : decode cX1_init 32 = .ok (.aload_n 0, 1) := by decide +kernel
theorem dX1_init_33 : decode cX1_init 33 = .ok (.iconst 0, 1) := by decide +kernel
theorem dX1_init_34 : decode cX1_init 34 = .ok (.putfield 26, 3) := by decide +kernel
theorem dX1_init_37 : decode cX1_init 37 = .ok (.aload_n 0, 1) := by decide +kernel
theorem dX1_init_38 : decode cX1_init 38 = .ok (.aload_n 1, 1) := by decide +kernel
theorem dX1_init_39 : decode cX1_init 39 = .ok (.putfield 29, 3) := by decide +kernel
theorem dX1_init_42 : decode cX1_init 42 = .ok (.aload_n 0, 1) := by decide +kernel
theorem dX1_init_43 : decode cX1_init 43 = .ok (.aload_n 2, 1) := by decide +kernel
theorem dX1_init_44 : decode cX1_init 44 = .ok (.putfield 33, 3) := by decide +kernel
theorem dX1_init_47 : decode cX1_init 47 = .ok (.return_, 1) := by decide +kernel
theorem dX1_forget_0 : decode cX1_forget 0 = .ok (.aload_n 0, 1) := by decide +kernel
theorem dX1_forget_1 : decode cX1_forget 1 = .ok (.iconst 0, 1) := by decide +kernel
theorem dX1_forget_2 : decode cX1_forget 2 = .ok (.putfield 18, 3) := by decide +kernel
theorem dX1_forget_5 : decode cX1_forget 5 = .ok (.return_, 1) := by decide +kernel
theorem dX1_renew_0 : decode cX1_renew 0 = .ok (.aload_n 0, 1) := by decide +kernel
theorem dX1_renew_1 : decode cX1_renew 1 = .ok (.getfield 18, 3) := by decide +kernel
theorem dX1_renew_4 : decode cX1_renew 4 = .ok (.iload_n 1, 1) := by decide +kernel
theorem dX1_renew_5 : decode cX1_renew 5 = .ok (.if_icmp .ne 4, 3) := by decide +kernel
theorem dX1_renew_8 : decode cX1_renew 8 = .ok (.return_, 1) := by decide +kernel
theorem dX1_renew_9 : decode cX1_renew 9 = .ok (.aload_n 0, 1) := by decide +kernel
theorem dX1_renew_10 : decode cX1_renew 10 = .ok (.getfield 33, 3) := by decide +kernel
theorem dX1_renew_13 : decode cX1_renew 13 = .ok (.invokevirtual 37, 3) := by decide +kernel
theorem dX1_renew_16 : decode cX1_renew 16 = .ok (.aload_n 0, 1) := by decide +kernel
theorem dX1_renew_17 : decode cX1_renew 17 = .ok (.getfield 9, 3) := by decide +kernel
theorem dX1_renew_20 : decode cX1_renew 20 = .ok (.lconst 1, 1) := by decide +kernel
theorem dX1_renew_21 : decode cX1_renew 21 = .ok (.invokestatic 42, 3) := by decide +kernel
theorem dX1_renew_24 : decode cX1_renew 24 = .ok (.aload_n 0, 1) := by decide +kernel
theorem dX1_renew_25 : decode cX1_renew 25 = .ok (.lconst 1, 1) := by decide +kernel
theorem dX1_renew_26 : decode cX1_renew 26 = .ok (.putfield 22, 3) := by decide +kernel
theorem dX1_renew_29 : decode cX1_renew 29 = .ok (.aload_n 0, 1) := by decide +kernel
theorem dX1_renew_30 : decode cX1_renew 30 = .ok (.iconst 0, 1) := by decide +kernel
theorem dX1_renew_31 : decode cX1_renew 31 = .ok (.putfield 26, 3) := by decide +kernel
theorem dX1_renew_34 : decode cX1_renew 34 = .ok (.iconst 0, 1) := by decide +kernel
theorem dX1_renew_35 : decode cX1_renew 35 = .ok (.istore_n 2, 1) := by decide +kernel
theorem dX1_renew_36 : decode cX1_renew 36 = .ok (.iload_n 2, 1) := by decide +kernel
theorem dX1_renew_37 : decode cX1_renew 37 = .ok (.aload_n 0, 1) := by decide +kernel
theorem dX1_renew_38 : decode cX1_renew 38 = .ok (.getfield 29, 3) := by decide +kernel
theorem dX1_renew_41 : decode cX1_renew 41 = .ok (.getfield 48, 3) := by decide +kernel
theorem dX1_renew_44 : decode cX1_renew 44 = .ok (.if_icmp .ge 38, 3) := by decide +kernel
theorem dX1_renew_47 : decode cX1_renew 47 = .ok (.aload_n 0, 1) := by decide +kernel
theorem dX1_renew_48 : decode cX1_renew 48 = .ok (.aload_n 0, 1) := by decide +kernel
theorem dX1_renew_49 : decode cX1_renew 49 = .ok (.iload_n 2, 1) := by decide +kernel
theorem dX1_renew_50 : decode cX1_renew 50 = .ok (.iload_n 1, 1) := by decide +kernel
theorem dX1_renew_51 : decode cX1_renew 51 = .ok (.invokevirtual 53, 3) := by decide +kernel
theorem dX1_renew_54 : decode cX1_renew 54 = .ok (.putfield 22, 3) := by decide +kernel
theorem dX1_renew_57 : decode cX1_renew 57 = .ok (.aload_n 0, 1) := by decide +kernel
theorem dX1_renew_58 : decode cX1_renew 58 = .ok (.getfield 22, 3) := by decide +kernel
theorem dX1_renew_61 : decode cX1_renew 61 = .ok (.lconst 0, 1) := by decide +kernel
theorem dX1_renew_62 : decode cX1_renew 62 = .ok (.lcmp, 1) := by decide +kernel
theorem dX1_renew_63 : decode cX1_renew 63 = .ok (.ifCond .le 13, 3) := by decide +kernel
theorem dX1_renew_66 : decode cX1_renew 66 = .ok (.aload_n 0, 1) := by decide +kernel
theorem dX1_renew_67 : decode cX1_renew 67 = .ok (.dup, 1) := by decide +kernel
theorem dX1_renew_68 : decode cX1_renew 68 = .ok (.getfield 26, 3) := by decide +kernel
theorem dX1_renew_71 : decode cX1_renew 71 = .ok (.iconst 1, 1) := by decide +kernel
theorem dX1_renew_72 : decode cX1_renew 72 = .ok (.iadd, 1) := by decide +kernel
theorem dX1_renew_73 : decode cX1_renew 73 = .ok (.putfield 26, 3) := by decide +kernel
theorem dX1_renew_76 : decode cX1_renew 76 = .ok (.iinc 2 1, 3) := by decide +kernel
theorem dX1_renew_79 : decode cX1_renew 79 = .ok (.goto (-43), 3) := by decide +kernel
theorem dX1_renew_82 : decode cX1_renew 82 = .ok (.aload_n 0, 1) := by decide +kernel
theorem dX1_renew_83 : decode cX1_renew 83 = .ok (.iload_n 1, 1) := by decide +kernel
theorem dX1_renew_84 : decode cX1_renew 84 = .ok (.putfield 18, 3) := by decide +kernel
theorem dX1_renew_87 : decode cX1_renew 87 = .ok (.return_, 1) := by decide +kernel
theorem dX1_addCourse_0 : decode cX1_addCourse 0 = .ok (.aload_n 0, 1) := by decide +kernel
theorem dX1_addCourse_1 : decode cX1_addCourse 1 = .ok (.getfield 29, 3) := by decide +kernel
theorem dX1_addCourse_4 : decode cX1_addCourse 4 = .ok (.invokevirtual 57, 3) := by decide +kernel
theorem dX1_addCourse_7 : decode cX1_addCourse 7 = .ok (.istore_n 3, 1) := by decide +kernel
theorem dX1_addCourse_8 : decode cX1_addCourse 8 = .ok (.iconst 0, 1) := by decide +kernel
theorem dX1_addCourse_9 : decode cX1_addCourse 9 = .ok (.istore 4, 2) := by decide +kernel
theorem dX1_addCourse_11 : decode cX1_addCourse 11 = .ok (.iload 4, 2) := by decide +kernel
theorem dX1_addCourse_13 : decode cX1_addCourse 13 = .ok (.iload_n 3, 1) := by decide +kernel
theorem dX1_addCourse_14 : decode cX1_addCourse 14 = .ok (.if_icmp .ge 50, 3) := by decide +kernel
theorem dX1_addCourse_17 : decode cX1_addCourse 17 = .ok (.aload_n 0, 1) := by decide +kernel
theorem dX1_addCourse_18 : decode cX1_addCourse 18 = .ok (.getfield 15, 3) := by decide +kernel
theorem dX1_addCourse_21 : decode cX1_addCourse 21 = .ok (.iload 4, 2) := by decide +kernel
theorem dX1_addCourse_23 : decode cX1_addCourse 23 = .ok (.aload_n 0, 1) := by decide +kernel
theorem dX1_addCourse_24 : decode cX1_addCourse 24 = .ok (.getfield 33, 3) := by decide +kernel
theorem dX1_addCourse_27 : decode cX1_addCourse 27 = .ok (.iload_n 1, 1) := by decide +kernel
theorem dX1_addCourse_28 : decode cX1_addCourse 28 = .ok (.iload 4, 2) := by decide +kernel
theorem dX1_addCourse_30 : decode cX1_addCourse 30 = .ok (.invokevirtual 61, 3) := by decide +kernel
theorem dX1_addCourse_33 : decode cX1_addCourse 33 = .ok (.ldc 65, 2) := by decide +kernel
theorem dX1_addCourse_35 : decode cX1_addCourse 35 = .ok (.if_icmp .ge 21, 3) := by decide +kernel
theorem dX1_addCourse_38 : decode cX1_addCourse 38 = .ok (.aload_n 0, 1) := by decide +kernel
theorem dX1_addCourse_39 : decode cX1_addCourse 39 = .ok (.getfield 9, 3) := by decide +kernel
theorem dX1_addCourse_42 : decode cX1_addCourse 42 = .ok (.aload_n 0, 1) := by decide +kernel
theorem dX1_addCourse_43 : decode cX1_addCourse 43 = .ok (.getfield 33, 3) := by decide +kernel
theorem dX1_addCourse_46 : decode cX1_addCourse 46 = .ok (.iload 4, 2) := by decide +kernel
theorem dX1_addCourse_48 : decode cX1_addCourse 48 = .ok (.iload_n 2, 1) := by decide +kernel
theorem dX1_addCourse_49 : decode cX1_addCourse 49 = .ok (.invokevirtual 66, 3) := by decide +kernel
theorem dX1_addCourse_52 : decode cX1_addCourse 52 = .ok (.laload, 1) := by decide +kernel
theorem dX1_addCourse_53 : decode cX1_addCourse 53 = .ok (.goto 4, 3) := by decide +kernel
theorem dX1_addCourse_56 : decode cX1_addCourse 56 = .ok (.lconst 0, 1) := by decide +kernel
theorem dX1_addCourse_57 : decode cX1_addCourse 57 = .ok (.lastore, 1) := by decide +kernel
theorem dX1_addCourse_58 : decode cX1_addCourse 58 = .ok (.iinc 4 1, 3) := by decide +kernel
theorem dX1_addCourse_61 : decode cX1_addCourse 61 = .ok (.goto (-50), 3) := by decide +kernel
theorem dX1_addCourse_64 : decode cX1_addCourse 64 = .ok (.aload_n 0, 1) := by decide +kernel
theorem dX1_addCourse_65 : decode cX1_addCourse 65 = .ok (.getfield 15, 3) := by decide +kernel
theorem dX1_addCourse_68 : decode cX1_addCourse 68 = .ok (.iconst 0, 1) := by decide +kernel
theorem dX1_addCourse_69 : decode cX1_addCourse 69 = .ok (.aload_n 0, 1) := by decide +kernel
theorem dX1_addCourse_70 : decode cX1_addCourse 70 = .ok (.getfield 9, 3) := by decide +kernel
theorem dX1_addCourse_73 : decode cX1_addCourse 73 = .ok (.iconst 0, 1) := by decide +kernel
theorem dX1_addCourse_74 : decode cX1_addCourse 74 = .ok (.iload_n 3, 1) := by decide +kernel
theorem dX1_addCourse_75 : decode cX1_addCourse 75 = .ok (.invokestatic 69, 3) := by decide +kernel
theorem dX1_addCourse_78 : decode cX1_addCourse 78 = .ok (.aload_n 0, 1) := by decide +kernel
theorem dX1_addCourse_79 : decode cX1_addCourse 79 = .ok (.iload_n 3, 1) := by decide +kernel
theorem dX1_addCourse_80 : decode cX1_addCourse 80 = .ok (.invokevirtual 75, 3) := by decide +kernel
theorem dX1_addCourse_83 : decode cX1_addCourse 83 = .ok (.aload_n 0, 1) := by decide +kernel
theorem dX1_addCourse_84 : decode cX1_addCourse 84 = .ok (.getfield 9, 3) := by decide +kernel
theorem dX1_addCourse_87 : decode cX1_addCourse 87 = .ok (.iload_n 3, 1) := by decide +kernel
theorem dX1_addCourse_88 : decode cX1_addCourse 88 = .ok (.iconst 1, 1) := by decide +kernel
theorem dX1_addCourse_89 : decode cX1_addCourse 89 = .ok (.isub, 1) := by decide +kernel
theorem dX1_addCourse_90 : decode cX1_addCourse 90 = .ok (.laload, 1) := by decide +kernel
theorem dX1_addCourse_91 : decode cX1_addCourse 91 = .ok (.lreturn, 1) := by decide +kernel
theorem dX1_sumSubsets_0 : decode cX1_sumSubsets 0 = .ok (.iconst 1, 1) := by decide +kernel
theorem dX1_sumSubsets_1 : decode cX1_sumSubsets 1 = .ok (.istore_n 2, 1) := by decide +kernel
theorem dX1_sumSubsets_2 : decode cX1_sumSubsets 2 = .ok (.iload_n 2, 1) := by decide +kernel
theorem dX1_sumSubsets_3 : decode cX1_sumSubsets 3 = .ok (.iload_n 1, 1) := by decide +kernel
theorem dX1_sumSubsets_4 : decode cX1_sumSubsets 4 = .ok (.if_icmp .ge 46, 3) := by decide +kernel
theorem dX1_sumSubsets_7 : decode cX1_sumSubsets 7 = .ok (.iconst 0, 1) := by decide +kernel
theorem dX1_sumSubsets_8 : decode cX1_sumSubsets 8 = .ok (.istore_n 3, 1) := by decide +kernel
theorem dX1_sumSubsets_9 : decode cX1_sumSubsets 9 = .ok (.iload_n 3, 1) := by decide +kernel
theorem dX1_sumSubsets_10 : decode cX1_sumSubsets 10 = .ok (.iload_n 1, 1) := by decide +kernel
theorem dX1_sumSubsets_11 : decode cX1_sumSubsets 11 = .ok (.if_icmp .ge 32, 3) := by decide +kernel
theorem dX1_sumSubsets_14 : decode cX1_sumSubsets 14 = .ok (.iload_n 3, 1) := by decide +kernel
theorem dX1_sumSubsets_15 : decode cX1_sumSubsets 15 = .ok (.iload_n 2, 1) := by decide +kernel
theorem dX1_sumSubsets_16 : decode cX1_sumSubsets 16 = .ok (.iand, 1) := by decide +kernel
theorem dX1_sumSubsets_17 : decode cX1_sumSubsets 17 = .ok (.ifCond .eq 20, 3) := by decide +kernel
theorem dX1_sumSubsets_20 : decode cX1_sumSubsets 20 = .ok (.aload_n 0, 1) := by decide +kernel
theorem dX1_sumSubsets_21 : decode cX1_sumSubsets 21 = .ok (.getfield 9, 3) := by decide +kernel
theorem dX1_sumSubsets_24 : decode cX1_sumSubsets 24 = .ok (.iload_n 3, 1) := by decide +kernel
theorem dX1_sumSubsets_25 : decode cX1_sumSubsets 25 = .ok (.dup2, 1) := by decide +kernel
theorem dX1_sumSubsets_26 : decode cX1_sumSubsets 26 = .ok (.laload, 1) := by decide +kernel
theorem dX1_sumSubsets_27 : decode cX1_sumSubsets 27 = .ok (.aload_n 0, 1) := by decide +kernel
theorem dX1_sumSubsets_28 : decode cX1_sumSubsets 28 = .ok (.getfield 9, 3) := by decide +kernel
theorem dX1_sumSubsets_31 : decode cX1_sumSubsets 31 = .ok (.iload_n 3, 1) := by decide +kernel
theorem dX1_sumSubsets_32 : decode cX1_sumSubsets 32 = .ok (.iload_n 2, 1) := by decide +kernel
theorem dX1_sumSubsets_33 : decode cX1_sumSubsets 33 = .ok (.ixor, 1) := by decide +kernel
theorem dX1_sumSubsets_34 : decode cX1_sumSubsets 34 = .ok (.laload, 1) := by decide +kernel
theorem dX1_sumSubsets_35 : decode cX1_sumSubsets 35 = .ok (.ladd, 1) := by decide +kernel
theorem dX1_sumSubsets_36 : decode cX1_sumSubsets 36 = .ok (.lastore, 1) := by decide +kernel
theorem dX1_sumSubsets_37 : decode cX1_sumSubsets 37 = .ok (.iinc 3 1, 3) := by decide +kernel
theorem dX1_sumSubsets_40 : decode cX1_sumSubsets 40 = .ok (.goto (-31), 3) := by decide +kernel
theorem dX1_sumSubsets_43 : decode cX1_sumSubsets 43 = .ok (.iload_n 2, 1) := by decide +kernel
theorem dX1_sumSubsets_44 : decode cX1_sumSubsets 44 = .ok (.iconst 1, 1) := by decide +kernel
theorem dX1_sumSubsets_45 : decode cX1_sumSubsets 45 = .ok (.ishl, 1) := by decide +kernel
theorem dX1_sumSubsets_46 : decode cX1_sumSubsets 46 = .ok (.istore_n 2, 1) := by decide +kernel
theorem dX1_sumSubsets_47 : decode cX1_sumSubsets 47 = .ok (.goto (-45), 3) := by decide +kernel
theorem dX1_sumSubsets_50 : decode cX1_sumSubsets 50 = .ok (.return_, 1) := by decide +kernel
theorem dX2_init_0 : decode cX2_init 0 = .ok (.aload_n 0, 1) := by decide +kernel
theorem dX2_init_1 : decode cX2_init 1 = .ok (.invokespecial 1, 3) := by decide +kernel
theorem dX2_init_4 : decode cX2_init 4 = .ok (.return_, 1) := by decide +kernel
theorem dX2_clear_0 : decode cX2_clear 0 = .ok (.aload_n 0, 1) := by decide +kernel
theorem dX2_clear_1 : decode cX2_clear 1 = .ok (.iconst 0, 1) := by decide +kernel
theorem dX2_clear_2 : decode cX2_clear 2 = .ok (.putfield 7, 3) := by decide +kernel
theorem dX2_clear_5 : decode cX2_clear 5 = .ok (.aload_n 0, 1) := by decide +kernel
theorem dX2_clear_6 : decode cX2_clear 6 = .ok (.iconst 0, 1) := by decide +kernel
theorem dX2_clear_7 : decode cX2_clear 7 = .ok (.putfield 13, 3) := by decide +kernel
theorem dX2_clear_10 : decode cX2_clear 10 = .ok (.aload_n 0, 1) := by decide +kernel
theorem dX2_clear_11 : decode cX2_clear 11 = .ok (.iconst 0, 1) := by decide +kernel
theorem dX2_clear_12 : decode cX2_clear 12 = .ok (.putfield 16, 3) := by decide +kernel
theorem dX2_clear_15 : decode cX2_clear 15 = .ok (.aload_n 0, 1) := by decide +kernel
theorem dX2_clear_16 : decode cX2_clear 16 = .ok (.iconst 0, 1) := by decide +kernel
theorem dX2_clear_17 : decode cX2_clear 17 = .ok (.putfield 19, 3) := by decide +kernel
theorem dX2_clear_20 : decode cX2_clear 20 = .ok (.return_, 1) := by decide +kernel
theorem dX2_isOpen_0 : decode cX2_isOpen 0 = .ok (.aload_n 0, 1) := by decide +kernel
theorem dX2_isOpen_1 : decode cX2_isOpen 1 = .ok (.getfield 7, 3) := by decide +kernel
theorem dX2_isOpen_4 : decode cX2_isOpen 4 = .ok (.iload_n 1, 1) := by decide +kernel
theorem dX2_isOpen_5 : decode cX2_isOpen 5 = .ok (.ishr, 1) := by decide +kernel
theorem dX2_isOpen_6 : decode cX2_isOpen 6 = .ok (.iconst 1, 1) := by decide +kernel
theorem dX2_isOpen_7 : decode cX2_isOpen 7 = .ok (.iand, 1) := by decide +kernel
theorem dX2_isOpen_8 : decode cX2_isOpen 8 = .ok (.ifCond .eq 7, 3) := by decide +kernel
theorem dX2_isOpen_11 : decode cX2_isOpen 11 = .ok (.iconst 1, 1) := by decide +kernel
theorem dX2_isOpen_12 : decode cX2_isOpen 12 = .ok (.goto 4, 3) := by decide +kernel
theorem dX2_isOpen_15 : decode cX2_isOpen 15 = .ok (.iconst 0, 1) := by decide +kernel
theorem dX2_isOpen_16 : decode cX2_isOpen 16 = .ok (.ireturn, 1) := by decide +kernel
theorem dX2_besideOpen_0 : decode cX2_besideOpen 0 = .ok (.aload_n 0, 1) := by decide +kernel
theorem dX2_besideOpen_1 : decode cX2_besideOpen 1 = .ok (.getfield 7, 3) := by decide +kernel
theorem dX2_besideOpen_4 : decode cX2_besideOpen 4 = .ok (.aload_n 0, 1) := by decide +kernel
theorem dX2_besideOpen_5 : decode cX2_besideOpen 5 = .ok (.getfield 7, 3) := by decide +kernel
theorem dX2_besideOpen_8 : decode cX2_besideOpen 8 = .ok (.iconst 1, 1) := by decide +kernel
theorem dX2_besideOpen_9 : decode cX2_besideOpen 9 = .ok (.ishl, 1) := by decide +kernel
theorem dX2_besideOpen_10 : decode cX2_besideOpen 10 = .ok (.ior, 1) := by decide +kernel
theorem dX2_besideOpen_11 : decode cX2_besideOpen 11 = .ok (.ireturn, 1) := by decide +kernel
theorem dX2_keepsWithinSpans_0 : decode cX2_keepsWithinSpans 0 = .ok (.iload_n 1, 1) := by decide +kernel
theorem dX2_keepsWithinSpans_1 : decode cX2_keepsWithinSpans 1 = .ok (.aload_n 0, 1) := by decide +kernel
theorem dX2_keepsWithinSpans_2 : decode cX2_keepsWithinSpans 2 = .ok (.invokevirtual 22, 3) := by decide +kernel
theorem dX2_keepsWithinSpans_5 : decode cX2_keepsWithinSpans 5 = .ok (.iand, 1) := by decide +kernel
theorem dX2_keepsWithinSpans_6 : decode cX2_keepsWithinSpans 6 = .ok (.ifCond .ne 7, 3) := by decide +kernel
theorem dX2_keepsWithinSpans_9 : decode cX2_keepsWithinSpans 9 = .ok (.iconst 1, 1) := by decide +kernel
theorem dX2_keepsWithinSpans_10 : decode cX2_keepsWithinSpans 10 = .ok (.goto 4, 3) := by decide +kernel
theorem dX2_keepsWithinSpans_13 : decode cX2_keepsWithinSpans 13 = .ok (.iconst 0, 1) := by decide +kernel
theorem dX2_keepsWithinSpans_14 : decode cX2_keepsWithinSpans 14 = .ok (.ireturn, 1) := by decide +kernel
theorem dX2_keepsDemands_0 : decode cX2_keepsDemands 0 = .ok (.iload_n 1, 1) := by decide +kernel
theorem dX2_keepsDemands_1 : decode cX2_keepsDemands 1 = .ok (.aload_n 0, 1) := by decide +kernel
theorem dX2_keepsDemands_2 : decode cX2_keepsDemands 2 = .ok (.getfield 13, 3) := by decide +kernel
theorem dX2_keepsDemands_5 : decode cX2_keepsDemands 5 = .ok (.iand, 1) := by decide +kernel
theorem dX2_keepsDemands_6 : decode cX2_keepsDemands 6 = .ok (.aload_n 0, 1) := by decide +kernel
theorem dX2_keepsDemands_7 : decode cX2_keepsDemands 7 = .ok (.getfield 13, 3) := by decide +kernel
theorem dX2_keepsDemands_10 : decode cX2_keepsDemands 10 = .ok (.if_icmp .ne 16, 3) := by decide +kernel
theorem dX2_keepsDemands_13 : decode cX2_keepsDemands 13 = .ok (.iload_n 1, 1) := by decide +kernel
theorem dX2_keepsDemands_14 : decode cX2_keepsDemands 14 = .ok (.aload_n 0, 1) := by decide +kernel
theorem dX2_keepsDemands_15 : decode cX2_keepsDemands 15 = .ok (.getfield 16, 3) := by decide +kernel
theorem dX2_keepsDemands_18 : decode cX2_keepsDemands 18 = .ok (.iand, 1) := by decide +kernel
theorem dX2_keepsDemands_19 : decode cX2_keepsDemands 19 = .ok (.ifCond .ne 7, 3) := by decide +kernel
theorem dX2_keepsDemands_22 : decode cX2_keepsDemands 22 = .ok (.iconst 1, 1) := by decide +kernel
theorem dX2_keepsDemands_23 : decode cX2_keepsDemands 23 = .ok (.goto 4, 3) := by decide +kernel
theorem dX2_keepsDemands_26 : decode cX2_keepsDemands 26 = .ok (.iconst 0, 1) := by decide +kernel
theorem dX2_keepsDemands_27 : decode cX2_keepsDemands 27 = .ok (.ireturn, 1) := by decide +kernel
theorem dX3_init_0 : decode cX3_init 0 = .ok (.aload_n 0, 1) := by decide +kernel
theorem dX3_init_1 : decode cX3_init 1 = .ok (.invokespecial 3, 3) := by decide +kernel
theorem dX3_init_4 : decode cX3_init 4 = .ok (.aload_n 0, 1) := by decide +kernel
theorem dX3_init_5 : decode cX3_init 5 = .ok (.bipush 8, 2) := by decide +kernel
theorem dX3_init_7 : decode cX3_init 7 = .ok (.sipush 512, 3) := by decide +kernel
theorem dX3_init_10 : decode cX3_init 10 = .ok (.multianewarray 9 2, 4) := by decide +kernel
theorem dX3_init_14 : decode cX3_init 14 = .ok (.putfield 11, 3) := by decide +kernel
theorem dX3_init_17 : decode cX3_init 17 = .ok (.aload_n 0, 1) := by decide +kernel
theorem dX3_init_18 : decode cX3_init 18 = .ok (.sipush 512, 3) := by decide +kernel
theorem dX3_init_21 : decode cX3_init 21 = .ok (.newarray .int, 2) := by decide +kernel
theorem dX3_init_23 : decode cX3_init 23 = .ok (.putfield 16, 3) := by decide +kernel
theorem dX3_init_26 : decode cX3_init 26 = .ok (.aload_n 0, 1) := by decide +kernel
theorem dX3_init_27 : decode cX3_init 27 = .ok (.bipush 8, 2) := by decide +kernel
theorem dX3_init_29 : decode cX3_init 29 = .ok (.newarray .int, 2) := by decide +kernel
theorem dX3_init_31 : decode cX3_init 31 = .ok (.putfield 20, 3) := by decide +kernel
theorem dX3_init_34 : decode cX3_init 34 = .ok (.aload_n 0, 1) := by decide +kernel
theorem dX3_init_35 : decode cX3_init 35 = .ok (.iconst 0, 1) := by decide +kernel
theorem dX3_init_36 : decode cX3_init 36 = .ok (.putfield 23, 3) := by decide +kernel
theorem dX3_init_39 : decode cX3_init 39 = .ok (.aload_n 0, 1) := by decide +kernel
theorem dX3_init_40 : decode cX3_init 40 = .ok (.iconst 0, 1) := by decide +kernel
theorem dX3_init_41 : decode cX3_init 41 = .ok (.putfield 27, 3) := by decide +kernel
theorem dX3_init_44 : decode cX3_init 44 = .ok (.aload_n 0, 1) := by decide +kernel
theorem dX3_init_45 : decode cX3_init 45 = .ok (.aload_n 1, 1) := by decide +kernel
theorem dX3_init_46 : decode cX3_init 46 = .ok (.putfield 30, 3) := by decide +kernel
theorem dX3_init_49 : decode cX3_init 49 = .ok (.aload_n 0, 1) := by decide +kernel
theorem dX3_init_50 : decode cX3_init 50 = .ok (.aload_n 2, 1) := by decide +kernel
theorem dX3_init_51 : decode cX3_init 51 = .ok (.putfield 34, 3) := by decide +kernel
theorem dX3_init_54 : decode cX3_init 54 = .ok (.return_, 1) := by decide +kernel
theorem dX3_forget_0 : decode cX3_forget 0 = .ok (.aload_n 0, 1) := by decide +kernel
theorem dX3_forget_1 : decode cX3_forget 1 = .ok (.iconst 0, 1) := by decide +kernel
theorem dX3_forget_2 : decode cX3_forget 2 = .ok (.putfield 23, 3) := by decide +kernel
theorem dX3_forget_5 : decode cX3_forget 5 = .ok (.return_, 1) := by decide +kernel
theorem dX3_isNone_0 : decode cX3_isNone 0 = .ok (.aload_n 0, 1) := by decide +kernel
theorem dX3_isNone_1 : decode cX3_isNone 1 = .ok (.getfield 27, 3) := by decide +kernel
theorem dX3_isNone_4 : decode cX3_isNone 4 = .ok (.ldc 38, 2) := by decide +kernel
theorem dX3_isNone_6 : decode cX3_isNone 6 = .ok (.if_icmp .lt 7, 3) := by decide +kernel
theorem dX3_isNone_9 : decode cX3_isNone 9 = .ok (.iconst 1, 1) := by decide +kernel
theorem dX3_isNone_10 : decode cX3_isNone 10 = .ok (.goto 4, 3) := by decide +kernel
theorem dX3_isNone_13 : decode cX3_isNone 13 = .ok (.iconst 0, 1) := by decide +kernel
theorem dX3_isNone_14 : decode cX3_isNone 14 = .ok (.ireturn, 1) := by decide +kernel
theorem dX3_jointsOf_0 : decode cX3_jointsOf 0 = .ok (.iload_n 1, 1) := by decide +kernel
theorem dX3_jointsOf_1 : decode cX3_jointsOf 1 = .ok (.ifCond .lt 12, 3) := by decide +kernel
theorem dX3_jointsOf_4 : decode cX3_jointsOf 4 = .ok (.iload_n 1, 1) := by decide +kernel
theorem dX3_jointsOf_5 : decode cX3_jointsOf 5 = .ok (.aload_n 0, 1) := by decide +kernel
theorem dX3_jointsOf_6 : decode cX3_jointsOf 6 = .ok (.getfield 20, 3) := by decide +kernel
theorem dX3_jointsOf_9 : decode cX3_jointsOf 9 = .ok (.arraylength, 1) := by decide +kernel
theorem dX3_jointsOf_10 : decode cX3_jointsOf 10 = .ok (.if_icmp .lt 7, 3) := by decide +kernel
theorem dX3_jointsOf_13 : decode cX3_jointsOf 13 = .ok (.iconst 0, 1) := by decide +kernel
theorem dX3_jointsOf_14 : decode cX3_jointsOf 14 = .ok (.goto 11, 3) := by decide +kernel
theorem dX3_jointsOf_17 : decode cX3_jointsOf 17 = .ok (.aload_n 0, 1) := by decide +kernel
theorem dX3_jointsOf_18 : decode cX3_jointsOf 18 = .ok (.getfield 20, 3) := by decide +kernel
theorem dX3_jointsOf_21 : decode cX3_jointsOf 21 = .ok (.iload_n 1, 1) := by decide +kernel
theorem dX3_jointsOf_22 : decode cX3_jointsOf 22 = .ok (.iaload, 1) := by decide +kernel
theorem dX3_jointsOf_23 : decode cX3_jointsOf 23 = .ok (.iconst 1, 1) := by decide +kernel
theorem dX3_jointsOf_24 : decode cX3_jointsOf 24 = .ok (.ishl, 1) := by decide +kernel
theorem dX3_jointsOf_25 : decode cX3_jointsOf 25 = .ok (.ireturn, 1) := by decide +kernel
theorem dX3_renew_0 : decode cX3_renew 0 = .ok (.aload_n 0, 1) := by decide +kernel
theorem dX3_renew_1 : decode cX3_renew 1 = .ok (.getfield 23, 3) := by decide +kernel
theorem dX3_renew_4 : decode cX3_renew 4 = .ok (.iload_n 1, 1) := by decide +kernel
theorem dX3_renew_5 : decode cX3_renew 5 = .ok (.if_icmp .ne 4, 3) := by decide +kernel
theorem dX3_renew_8 : decode cX3_renew 8 = .ok (.return_, 1) := by decide +kernel
theorem dX3_renew_9 : decode cX3_renew 9 = .ok (.aload_n 0, 1) := by decide +kernel
theorem dX3_renew_10 : decode cX3_renew 10 = .ok (.getfield 34, 3) := by decide +kernel
theorem dX3_renew_13 : decode cX3_renew 13 = .ok (.invokevirtual 39, 3) := by decide +kernel
theorem dX3_renew_16 : decode cX3_renew 16 = .ok (.aload_n 0, 1) := by decide +kernel
theorem dX3_renew_17 : decode cX3_renew 17 = .ok (.getfield 16, 3) := by decide +kernel
theorem dX3_renew_20 : decode cX3_renew 20 = .ok (.iconst 0, 1) := by decide +kernel
theorem dX3_renew_21 : decode cX3_renew 21 = .ok (.invokestatic 44, 3) := by decide +kernel
theorem dX3_renew_24 : decode cX3_renew 24 = .ok (.aload_n 0, 1) := by decide +kernel
theorem dX3_renew_25 : decode cX3_renew 25 = .ok (.getfield 30, 3) := by decide +kernel
theorem dX3_renew_28 : decode cX3_renew 28 = .ok (.getfield 50, 3) := by decide +kernel
theorem dX3_renew_31 : decode cX3_renew 31 = .ok (.aload_n 0, 1) := by decide +kernel
theorem dX3_renew_32 : decode cX3_renew 32 = .ok (.getfield 11, 3) := by decide +kernel
theorem dX3_renew_35 : decode cX3_renew 35 = .ok (.arraylength, 1) := by decide +kernel
theorem dX3_renew_36 : decode cX3_renew 36 = .ok (.invokestatic 55, 3) := by decide +kernel
theorem dX3_renew_39 : decode cX3_renew 39 = .ok (.iconst 1, 1) := by decide +kernel
theorem dX3_renew_40 : decode cX3_renew 40 = .ok (.isub, 1) := by decide +kernel
theorem dX3_renew_41 : decode cX3_renew 41 = .ok (.istore_n 2, 1) := by decide +kernel
theorem dX3_renew_42 : decode cX3_renew 42 = .ok (.iload_n 2, 1) := by decide +kernel
theorem dX3_renew_43 : decode cX3_renew 43 = .ok (.ifCond .lt 21, 3) := by decide +kernel
theorem dX3_renew_46 : decode cX3_renew 46 = .ok (.aload_n 0, 1) := by decide +kernel
theorem dX3_renew_47 : decode cX3_renew 47 = .ok (.iload_n 2, 1) := by decide +kernel
theorem dX3_renew_48 : decode cX3_renew 48 = .ok (.aload_n 0, 1) := by decide +kernel
theorem dX3_renew_49 : decode cX3_renew 49 = .ok (.getfield 11, 3) := by decide +kernel
theorem dX3_renew_52 : decode cX3_renew 52 = .ok (.iload_n 2, 1) := by decide +kernel
theorem dX3_renew_53 : decode cX3_renew 53 = .ok (.aaload, 1) := by decide +kernel
theorem dX3_renew_54 : decode cX3_renew 54 = .ok (.iload_n 1, 1) := by decide +kernel
theorem dX3_renew_55 : decode cX3_renew 55 = .ok (.invokevirtual 61, 3) := by decide +kernel
theorem dX3_renew_58 : decode cX3_renew 58 = .ok (.iinc 2 (-1), 3) := by decide +kernel
theorem dX3_renew_61 : decode cX3_renew 61 = .ok (.goto (-19), 3) := by decide +kernel
theorem dX3_renew_64 : decode cX3_renew 64 = .ok (.aload_n 0, 1) := by decide +kernel
theorem dX3_renew_65 : decode cX3_renew 65 = .ok (.aload_n 0, 1) := by decide +kernel
theorem dX3_renew_66 : decode cX3_renew 66 = .ok (.getfield 16, 3) := by decide +kernel
theorem dX3_renew_69 : decode cX3_renew 69 = .ok (.aload_n 0, 1) := by decide +kernel
theorem dX3_renew_70 : decode cX3_renew 70 = .ok (.getfield 30, 3) := by decide +kernel
theorem dX3_renew_73 : decode cX3_renew 73 = .ok (.invokevirtual 65, 3) := by decide +kernel
theorem dX3_renew_76 : decode cX3_renew 76 = .ok (.iconst 1, 1) := by decide +kernel
theorem dX3_renew_77 : decode cX3_renew 77 = .ok (.isub, 1) := by decide +kernel
theorem dX3_renew_78 : decode cX3_renew 78 = .ok (.iaload, 1) := by decide +kernel
theorem dX3_renew_79 : decode cX3_renew 79 = .ok (.putfield 27, 3) := by decide +kernel
theorem dX3_renew_82 : decode cX3_renew 82 = .ok (.aload_n 0, 1) := by decide +kernel
theorem dX3_renew_83 : decode cX3_renew 83 = .ok (.iload_n 1, 1) := by decide +kernel
theorem dX3_renew_84 : decode cX3_renew 84 = .ok (.invokevirtual 69, 3) := by decide +kernel
theorem dX3_renew_87 : decode cX3_renew 87 = .ok (.aload_n 0, 1) := by decide +kernel
theorem dX3_renew_88 : decode cX3_renew 88 = .ok (.iload_n 1, 1) := by decide +kernel
theorem dX3_renew_89 : decode cX3_renew 89 = .ok (.putfield 23, 3) := by decide +kernel
theorem dX3_renew_92 : decode cX3_renew 92 = .ok (.return_, 1) := by decide +kernel
theorem dX3_weighCourse_0 : decode cX3_weighCourse 0 = .ok (.aload_n 0, 1) := by decide +kernel
theorem dX3_weighCourse_1 : decode cX3_weighCourse 1 = .ok (.getfield 30, 3) := by decide +kernel
theorem dX3_weighCourse_4 : decode cX3_weighCourse 4 = .ok (.invokevirtual 65, 3) := by decide +kernel
theorem dX3_weighCourse_7 : decode cX3_weighCourse 7 = .ok (.istore 4, 2) := by decide +kernel
theorem dX3_weighCourse_9 : decode cX3_weighCourse 9 = .ok (.iconst 0, 1) := by decide +kernel
theorem dX3_weighCourse_10 : decode cX3_weighCourse 10 = .ok (.istore 5, 2) := by decide +kernel
theorem dX3_weighCourse_12 : decode cX3_weighCourse 12 = .ok (.iload 5, 2) := by decide +kernel
theorem dX3_weighCourse_14 : decode cX3_weighCourse 14 = .ok (.iload 4, 2) := by decide +kernel
theorem dX3_weighCourse_16 : decode cX3_weighCourse 16 = .ok (.if_icmp .ge 48, 3) := by decide +kernel
theorem dX3_weighCourse_19 : decode cX3_weighCourse 19 = .ok (.aload_n 0, 1) := by decide +kernel
theorem dX3_weighCourse_20 : decode cX3_weighCourse 20 = .ok (.getfield 34, 3) := by decide +kernel
theorem dX3_weighCourse_23 : decode cX3_weighCourse 23 = .ok (.iload_n 1, 1) := by decide +kernel
theorem dX3_weighCourse_24 : decode cX3_weighCourse 24 = .ok (.iload 5, 2) := by decide +kernel
theorem dX3_weighCourse_26 : decode cX3_weighCourse 26 = .ok (.invokevirtual 73, 3) := by decide +kernel
theorem dX3_weighCourse_29 : decode cX3_weighCourse 29 = .ok (.istore 6, 2) := by decide +kernel
theorem dX3_weighCourse_31 : decode cX3_weighCourse 31 = .ok (.aload_n 2, 1) := by decide +kernel
theorem dX3_weighCourse_32 : decode cX3_weighCourse 32 = .ok (.iload 5, 2) := by decide +kernel
theorem dX3_weighCourse_34 : decode cX3_weighCourse 34 = .ok (.ldc 38, 2) := by decide +kernel
theorem dX3_weighCourse_36 : decode cX3_weighCourse 36 = .ok (.iload 6, 2) := by decide +kernel
theorem dX3_weighCourse_38 : decode cX3_weighCourse 38 = .ok (.aload_n 0, 1) := by decide +kernel
theorem dX3_weighCourse_39 : decode cX3_weighCourse 39 = .ok (.getfield 16, 3) := by decide +kernel
theorem dX3_weighCourse_42 : decode cX3_weighCourse 42 = .ok (.aload_n 0, 1) := by decide +kernel
theorem dX3_weighCourse_43 : decode cX3_weighCourse 43 = .ok (.getfield 34, 3) := by decide +kernel
theorem dX3_weighCourse_46 : decode cX3_weighCourse 46 = .ok (.iload 5, 2) := by decide +kernel
theorem dX3_weighCourse_48 : decode cX3_weighCourse 48 = .ok (.iload_n 3, 1) := by decide +kernel
theorem dX3_weighCourse_49 : decode cX3_weighCourse 49 = .ok (.invokevirtual 76, 3) := by decide +kernel
theorem dX3_weighCourse_52 : decode cX3_weighCourse 52 = .ok (.iaload, 1) := by decide +kernel
theorem dX3_weighCourse_53 : decode cX3_weighCourse 53 = .ok (.iadd, 1) := by decide +kernel
theorem dX3_weighCourse_54 : decode cX3_weighCourse 54 = .ok (.invokestatic 55, 3) := by decide +kernel
theorem dX3_weighCourse_57 : decode cX3_weighCourse 57 = .ok (.iastore, 1) := by decide +kernel
theorem dX3_weighCourse_58 : decode cX3_weighCourse 58 = .ok (.iinc 5 1, 3) := by decide +kernel
theorem dX3_weighCourse_61 : decode cX3_weighCourse 61 = .ok (.goto (-49), 3) := by decide +kernel
theorem dX3_weighCourse_64 : decode cX3_weighCourse 64 = .ok (.aload_n 2, 1) := by decide +kernel
theorem dX3_weighCourse_65 : decode cX3_weighCourse 65 = .ok (.iconst 0, 1) := by decide +kernel
theorem dX3_weighCourse_66 : decode cX3_weighCourse 66 = .ok (.aload_n 0, 1) := by decide +kernel
theorem dX3_weighCourse_67 : decode cX3_weighCourse 67 = .ok (.getfield 16, 3) := by decide +kernel
theorem dX3_weighCourse_70 : decode cX3_weighCourse 70 = .ok (.iconst 0, 1) := by decide +kernel
theorem dX3_weighCourse_71 : decode cX3_weighCourse 71 = .ok (.iload 4, 2) := by decide +kernel
theorem dX3_weighCourse_73 : decode cX3_weighCourse 73 = .ok (.invokestatic 79, 3) := by decide +kernel
theorem dX3_weighCourse_76 : decode cX3_weighCourse 76 = .ok (.aload_n 0, 1) := by decide +kernel
theorem dX3_weighCourse_77 : decode cX3_weighCourse 77 = .ok (.iload 4, 2) := by decide +kernel
theorem dX3_weighCourse_79 : decode cX3_weighCourse 79 = .ok (.invokevirtual 85, 3) := by decide +kernel
theorem dX3_weighCourse_82 : decode cX3_weighCourse 82 = .ok (.return_, 1) := by decide +kernel
theorem dX3_takeLeastOfSubsets_0 : decode cX3_takeLeastOfSubsets 0 = .ok (.iconst 1, 1) := by decide +kernel
theorem dX3_takeLeastOfSubsets_1 : decode cX3_takeLeastOfSubsets 1 = .ok (.istore_n 2, 1) := by decide +kernel
theorem dX3_takeLeastOfSubsets_2 : decode cX3_takeLeastOfSubsets 2 = .ok (.iload_n 2, 1) := by decide +kernel
theorem dX3_takeLeastOfSubsets_3 : decode cX3_takeLeastOfSubsets 3 = .ok (.iload_n 1, 1) := by decide +kernel
theorem dX3_takeLeastOfSubsets_4 : decode cX3_takeLeastOfSubsets 4 = .ok (.if_icmp .ge 52, 3) := by decide +kernel
theorem dX3_takeLeastOfSubsets_7 : decode cX3_takeLeastOfSubsets 7 = .ok (.iconst 0, 1) := by decide +kernel
theorem dX3_takeLeastOfSubsets_8 : decode cX3_takeLeastOfSubsets 8 = .ok (.istore_n 3, 1) := by decide +kernel
theorem dX3_takeLeastOfSubsets_9 : decode cX3_takeLeastOfSubsets 9 = .ok (.iload_n 3, 1) := by decide +kernel
theorem dX3_takeLeastOfSubsets_10 : decode cX3_takeLeastOfSubsets 10 = .ok (.iload_n 1, 1) := by decide +kernel
theorem dX3_takeLeastOfSubsets_11 : decode cX3_takeLeastOfSubsets 11 = .ok (.if_icmp .ge 38, 3) := by decide +kernel
theorem dX3_takeLeastOfSubsets_14 : decode cX3_takeLeastOfSubsets 14 = .ok (.iload_n 3, 1) := by decide +kernel
theorem dX3_takeLeastOfSubsets_15 : decode cX3_takeLeastOfSubsets 15 = .ok (.iload_n 2, 1) := by decide +kernel
theorem dX3_takeLeastOfSubsets_16 : decode cX3_takeLeastOfSubsets 16 = .ok (.iand, 1) := by decide +kernel
theorem dX3_takeLeastOfSubsets_17 : decode cX3_takeLeastOfSubsets 17 = .ok (.ifCond .eq 26, 3) := by decide +kernel
theorem dX3_takeLeastOfSubsets_20 : decode cX3_takeLeastOfSubsets 20 = .ok (.aload_n 0, 1) := by decide +kernel
theorem dX3_takeLeastOfSubsets_21 : decode cX3_takeLeastOfSubsets 21 = .ok (.getfield 16, 3) := by decide +kernel
theorem dX3_takeLeastOfSubsets_24 : decode cX3_takeLeastOfSubsets 24 = .ok (.iload_n 3, 1) := by decide +kernel
theorem dX3_takeLeastOfSubsets_25 : decode cX3_takeLeastOfSubsets 25 = .ok (.aload_n 0, 1) := by decide +kernel
theorem dX3_takeLeastOfSubsets_26 : decode cX3_takeLeastOfSubsets 26 = .ok (.getfield 16, 3) := by decide +kernel
theorem dX3_takeLeastOfSubsets_29 : decode cX3_takeLeastOfSubsets 29 = .ok (.iload_n 3, 1) := by decide +kernel
theorem dX3_takeLeastOfSubsets_30 : decode cX3_takeLeastOfSubsets 30 = .ok (.iaload, 1) := by decide +kernel
theorem dX3_takeLeastOfSubsets_31 : decode cX3_takeLeastOfSubsets 31 = .ok (.aload_n 0, 1) := by decide +kernel
theorem dX3_takeLeastOfSubsets_32 : decode cX3_takeLeastOfSubsets 32 = .ok (.getfield 16, 3) := by decide +kernel
theorem dX3_takeLeastOfSubsets_35 : decode cX3_takeLeastOfSubsets 35 = .ok (.iload_n 3, 1) := by decide +kernel
theorem dX3_takeLeastOfSubsets_36 : decode cX3_takeLeastOfSubsets 36 = .ok (.iload_n 2, 1) := by decide +kernel
theorem dX3_takeLeastOfSubsets_37 : decode cX3_takeLeastOfSubsets 37 = .ok (.ixor, 1) := by decide +kernel
theorem dX3_takeLeastOfSubsets_38 : decode cX3_takeLeastOfSubsets 38 = .ok (.iaload, 1) := by decide +kernel
theorem dX3_takeLeastOfSubsets_39 : decode cX3_takeLeastOfSubsets 39 = .ok (.invokestatic 55, 3) := by decide +kernel
theorem dX3_takeLeastOfSubsets_42 : decode cX3_takeLeastOfSubsets 42 = .ok (.iastore, 1) := by decide +kernel
theorem dX3_takeLeastOfSubsets_43 : decode cX3_takeLeastOfSubsets 43 = .ok (.iinc 3 1, 3) := by decide +kernel
theorem dX3_takeLeastOfSubsets_46 : decode cX3_takeLeastOfSubsets 46 = .ok (.goto (-37), 3) := by decide +kernel
theorem dX3_takeLeastOfSubsets_49 : decode cX3_takeLeastOfSubsets 49 = .ok (.iload_n 2, 1) := by decide +kernel
theorem dX3_takeLeastOfSubsets_50 : decode cX3_takeLeastOfSubsets 50 = .ok (.iconst 1, 1) := by decide +kernel
theorem dX3_takeLeastOfSubsets_51 : decode cX3_takeLeastOfSubsets 51 = .ok (.ishl, 1) := by decide +kernel
theorem dX3_takeLeastOfSubsets_52 : decode cX3_takeLeastOfSubsets 52 = .ok (.istore_n 2, 1) := by decide +kernel
theorem dX3_takeLeastOfSubsets_53 : decode cX3_takeLeastOfSubsets 53 = .ok (.goto (-51), 3) := by decide +kernel
theorem dX3_takeLeastOfSubsets_56 : decode cX3_takeLeastOfSubsets 56 = .ok (.return_, 1) := by decide +kernel
theorem dX3_choose_0 : decode cX3_choose 0 = .ok (.aload_n 0, 1) := by decide +kernel
theorem dX3_choose_1 : decode cX3_choose 1 = .ok (.getfield 30, 3) := by decide +kernel
theorem dX3_choose_4 : decode cX3_choose 4 = .ok (.invokevirtual 65, 3) := by decide +kernel
theorem dX3_choose_7 : decode cX3_choose 7 = .ok (.iconst 1, 1) := by decide +kernel
theorem dX3_choose_8 : decode cX3_choose 8 = .ok (.isub, 1) := by decide +kernel
theorem dX3_choose_9 : decode cX3_choose 9 = .ok (.istore_n 2, 1) := by decide +kernel
theorem dX3_choose_10 : decode cX3_choose 10 = .ok (.iconst 0, 1) := by decide +kernel
theorem dX3_choose_11 : decode cX3_choose 11 = .ok (.istore_n 3, 1) := by decide +kernel
theorem dX3_choose_12 : decode cX3_choose 12 = .ok (.iload_n 3, 1) := by decide +kernel
theorem dX3_choose_13 : decode cX3_choose 13 = .ok (.aload_n 0, 1) := by decide +kernel
theorem dX3_choose_14 : decode cX3_choose 14 = .ok (.getfield 30, 3) := by decide +kernel
theorem dX3_choose_17 : decode cX3_choose 17 = .ok (.getfield 50, 3) := by decide +kernel
theorem dX3_choose_20 : decode cX3_choose 20 = .ok (.if_icmp .ge 50, 3) := by decide +kernel
theorem dX3_choose_23 : decode cX3_choose 23 = .ok (.iload_n 3, 1) := by decide +kernel
theorem dX3_choose_24 : decode cX3_choose 24 = .ok (.aload_n 0, 1) := by decide +kernel
theorem dX3_choose_25 : decode cX3_choose 25 = .ok (.getfield 11, 3) := by decide +kernel
theorem dX3_choose_28 : decode cX3_choose 28 = .ok (.arraylength, 1) := by decide +kernel
theorem dX3_choose_29 : decode cX3_choose 29 = .ok (.if_icmp .ge 41, 3) := by decide +kernel
theorem dX3_choose_32 : decode cX3_choose 32 = .ok (.aload_n 0, 1) := by decide +kernel
theorem dX3_choose_33 : decode cX3_choose 33 = .ok (.getfield 20, 3) := by decide +kernel
theorem dX3_choose_36 : decode cX3_choose 36 = .ok (.iload_n 3, 1) := by decide +kernel
theorem dX3_choose_37 : decode cX3_choose 37 = .ok (.aload_n 0, 1) := by decide +kernel
theorem dX3_choose_38 : decode cX3_choose 38 = .ok (.aload_n 0, 1) := by decide +kernel
theorem dX3_choose_39 : decode cX3_choose 39 = .ok (.getfield 11, 3) := by decide +kernel
theorem dX3_choose_42 : decode cX3_choose 42 = .ok (.iload_n 3, 1) := by decide +kernel
theorem dX3_choose_43 : decode cX3_choose 43 = .ok (.aaload, 1) := by decide +kernel
theorem dX3_choose_44 : decode cX3_choose 44 = .ok (.iload_n 2, 1) := by decide +kernel
theorem dX3_choose_45 : decode cX3_choose 45 = .ok (.invokevirtual 88, 3) := by decide +kernel
theorem dX3_choose_48 : decode cX3_choose 48 = .ok (.iastore, 1) := by decide +kernel
theorem dX3_choose_49 : decode cX3_choose 49 = .ok (.aload_n 0, 1) := by decide +kernel
theorem dX3_choose_50 : decode cX3_choose 50 = .ok (.getfield 34, 3) := by decide +kernel
theorem dX3_choose_53 : decode cX3_choose 53 = .ok (.aload_n 0, 1) := by decide +kernel
theorem dX3_choose_54 : decode cX3_choose 54 = .ok (.getfield 20, 3) := by decide +kernel
theorem dX3_choose_57 : decode cX3_choose 57 = .ok (.iload_n 3, 1) := by decide +kernel
theorem dX3_choose_58 : decode cX3_choose 58 = .ok (.iaload, 1) := by decide +kernel
theorem dX3_choose_59 : decode cX3_choose 59 = .ok (.iload_n 1, 1) := by decide +kernel
theorem dX3_choose_60 : decode cX3_choose 60 = .ok (.invokevirtual 76, 3) := by decide +kernel
theorem dX3_choose_63 : decode cX3_choose 63 = .ok (.istore_n 2, 1) := by decide +kernel
theorem dX3_choose_64 : decode cX3_choose 64 = .ok (.iinc 3 1, 3) := by decide +kernel
theorem dX3_choose_67 : decode cX3_choose 67 = .ok (.goto (-55), 3) := by decide +kernel
theorem dX3_choose_70 : decode cX3_choose 70 = .ok (.return_, 1) := by decide +kernel
theorem dX3_cheapest_0 : decode cX3_cheapest 0 = .ok (.iconst 0, 1) := by decide +kernel
theorem dX3_cheapest_1 : decode cX3_cheapest 1 = .ok (.istore_n 3, 1) := by decide +kernel
theorem dX3_cheapest_2 : decode cX3_cheapest 2 = .ok (.ldc 38, 2) := by decide +kernel
theorem dX3_cheapest_4 : decode cX3_cheapest 4 = .ok (.istore 4, 2) := by decide +kernel
theorem dX3_cheapest_6 : decode cX3_cheapest 6 = .ok (.aload_n 0, 1) := by decide +kernel
theorem dX3_cheapest_7 : decode cX3_cheapest 7 = .ok (.getfield 30, 3) := by decide +kernel
theorem dX3_cheapest_10 : decode cX3_cheapest 10 = .ok (.invokevirtual 65, 3) := by decide +kernel
theorem dX3_cheapest_13 : decode cX3_cheapest 13 = .ok (.istore 5, 2) := by decide +kernel
theorem dX3_cheapest_15 : decode cX3_cheapest 15 = .ok (.iconst 0, 1) := by decide +kernel
theorem dX3_cheapest_16 : decode cX3_cheapest 16 = .ok (.istore 6, 2) := by decide +kernel
theorem dX3_cheapest_18 : decode cX3_cheapest 18 = .ok (.iload 6, 2) := by decide +kernel
theorem dX3_cheapest_20 : decode cX3_cheapest 20 = .ok (.iload 5, 2) := by decide +kernel
theorem dX3_cheapest_22 : decode cX3_cheapest 22 = .ok (.if_icmp .ge 36, 3) := by decide +kernel
theorem dX3_cheapest_25 : decode cX3_cheapest 25 = .ok (.iload 6, 2) := by decide +kernel
theorem dX3_cheapest_27 : decode cX3_cheapest 27 = .ok (.iload_n 2, 1) := by decide +kernel
theorem dX3_cheapest_28 : decode cX3_cheapest 28 = .ok (.iconst (-1), 1) := by decide +kernel
theorem dX3_cheapest_29 : decode cX3_cheapest 29 = .ok (.ixor, 1) := by decide +kernel
theorem dX3_cheapest_30 : decode cX3_cheapest 30 = .ok (.iand, 1) := by decide +kernel
theorem dX3_cheapest_31 : decode cX3_cheapest 31 = .ok (.ifCond .ne 21, 3) := by decide +kernel
theorem dX3_cheapest_34 : decode cX3_cheapest 34 = .ok (.aload_n 1, 1) := by decide +kernel
theorem dX3_cheapest_35 : decode cX3_cheapest 35 = .ok (.iload 6, 2) := by decide +kernel
theorem dX3_cheapest_37 : decode cX3_cheapest 37 = .ok (.iaload, 1) := by decide +kernel
theorem dX3_cheapest_38 : decode cX3_cheapest 38 = .ok (.iload 4, 2) := by decide +kernel
theorem dX3_cheapest_40 : decode cX3_cheapest 40 = .ok (.if_icmp .ge 12, 3) := by decide +kernel
theorem dX3_cheapest_43 : decode cX3_cheapest 43 = .ok (.iload 6, 2) := by decide +kernel
theorem dX3_cheapest_45 : decode cX3_cheapest 45 = .ok (.istore_n 3, 1) := by decide +kernel
theorem dX3_cheapest_46 : decode cX3_cheapest 46 = .ok (.aload_n 1, 1) := by decide +kernel
theorem dX3_cheapest_47 : decode cX3_cheapest 47 = .ok (.iload 6, 2) := by decide +kernel
theorem dX3_cheapest_49 : decode cX3_cheapest 49 = .ok (.iaload, 1) := by decide +kernel
theorem dX3_cheapest_50 : decode cX3_cheapest 50 = .ok (.istore 4, 2) := by decide +kernel
theorem dX3_cheapest_52 : decode cX3_cheapest 52 = .ok (.iinc 6 1, 3) := by decide +kernel
theorem dX3_cheapest_55 : decode cX3_cheapest 55 = .ok (.goto (-37), 3) := by decide +kernel
theorem dX3_cheapest_58 : decode cX3_cheapest 58 = .ok (.iload_n 3, 1) := by decide +kernel
theorem dX3_cheapest_59 : decode cX3_cheapest 59 = .ok (.ireturn, 1) := by decide +kernel
theorem dX4_init_0 : decode cX4_init 0 = .ok (.aload_n 0, 1) := by decide +kernel
theorem dX4_init_1 : decode cX4_init 1 = .ok (.invokespecial 3, 3) := by decide +kernel
theorem dX4_init_4 : decode cX4_init 4 = .ok (.aload_n 0, 1) := by decide +kernel
theorem dX4_init_5 : decode cX4_init 5 = .ok (.bipush 8, 2) := by decide +kernel
theorem dX4_init_7 : decode cX4_init 7 = .ok (.sipush 512, 3) := by decide +kernel
theorem dX4_init_10 : decode cX4_init 10 = .ok (.multianewarray 9 2, 4) := by decide +kernel
theorem dX4_init_14 : decode cX4_init 14 = .ok (.putfield 11, 3) := by decide +kernel
theorem dX4_init_17 : decode cX4_init 17 = .ok (.aload_n 0, 1) := by decide +kernel
theorem dX4_init_18 : decode cX4_init 18 = .ok (.iconst 0, 1) := by decide +kernel
theorem dX4_init_19 : decode cX4_init 19 = .ok (.putfield 16, 3) := by decide +kernel
theorem dX4_init_22 : decode cX4_init 22 = .ok (.aload_n 0, 1) := by decide +kernel
theorem dX4_init_23 : decode cX4_init 23 = .ok (.aload_n 1, 1) := by decide +kernel
theorem dX4_init_24 : decode cX4_init 24 = .ok (.putfield 20, 3) := by decide +kernel
theorem dX4_init_27 : decode cX4_init 27 = .ok (.return_, 1) := by decide +kernel
theorem dX4_forget_0 : decode cX4_forget 0 = .ok (.aload_n 0, 1) := by decide +kernel
theorem dX4_forget_1 : decode cX4_forget 1 = .ok (.iconst 0, 1) := by decide +kernel
theorem dX4_forget_2 : decode cX4_forget 2 = .ok (.putfield 16, 3) := by decide +kernel
theorem dX4_forget_5 : decode cX4_forget 5 = .ok (.return_, 1) := by decide +kernel
theorem dX4_renew_0 : decode cX4_renew 0 = .ok (.aload_n 0, 1) := by decide +kernel
theorem dX4_renew_1 : decode cX4_renew 1 = .ok (.getfield 16, 3) := by decide +kernel
theorem dX4_renew_4 : decode cX4_renew 4 = .ok (.ifCond .eq 4, 3) := by decide +kernel
theorem dX4_renew_7 : decode cX4_renew 7 = .ok (.return_, 1) := by decide +kernel
theorem dX4_renew_8 : decode cX4_renew 8 = .ok (.iconst 0, 1) := by decide +kernel
theorem dX4_renew_9 : decode cX4_renew 9 = .ok (.istore_n 1, 1) := by decide +kernel
theorem dX4_renew_10 : decode cX4_renew 10 = .ok (.iload_n 1, 1) := by decide +kernel
theorem dX4_renew_11 : decode cX4_renew 11 = .ok (.aload_n 0, 1) := by decide +kernel
theorem dX4_renew_12 : decode cX4_renew 12 = .ok (.getfield 20, 3) := by decide +kernel
theorem dX4_renew_15 : decode cX4_renew 15 = .ok (.getfield 24, 3) := by decide +kernel
theorem dX4_renew_18 : decode cX4_renew 18 = .ok (.if_icmp .ge 40, 3) := by decide +kernel
theorem dX4_renew_21 : decode cX4_renew 21 = .ok (.iload_n 1, 1) := by decide +kernel
theorem dX4_renew_22 : decode cX4_renew 22 = .ok (.aload_n 0, 1) := by decide +kernel
theorem dX4_renew_23 : decode cX4_renew 23 = .ok (.getfield 11, 3) := by decide +kernel
theorem dX4_renew_26 : decode cX4_renew 26 = .ok (.arraylength, 1) := by decide +kernel
theorem dX4_renew_27 : decode cX4_renew 27 = .ok (.if_icmp .ge 31, 3) := by decide +kernel
theorem dX4_renew_30 : decode cX4_renew 30 = .ok (.aload_n 0, 1) := by decide +kernel
theorem dX4_renew_31 : decode cX4_renew 31 = .ok (.iload_n 1, 1) := by decide +kernel
theorem dX4_renew_32 : decode cX4_renew 32 = .ok (.aload_n 0, 1) := by decide +kernel
theorem dX4_renew_33 : decode cX4_renew 33 = .ok (.getfield 11, 3) := by decide +kernel
theorem dX4_renew_36 : decode cX4_renew 36 = .ok (.iload_n 1, 1) := by decide +kernel
theorem dX4_renew_37 : decode cX4_renew 37 = .ok (.aaload, 1) := by decide +kernel
theorem dX4_renew_38 : decode cX4_renew 38 = .ok (.invokevirtual 30, 3) := by decide +kernel
theorem dX4_renew_41 : decode cX4_renew 41 = .ok (.aload_n 0, 1) := by decide +kernel
theorem dX4_renew_42 : decode cX4_renew 42 = .ok (.iload_n 1, 1) := by decide +kernel
theorem dX4_renew_43 : decode cX4_renew 43 = .ok (.aload_n 0, 1) := by decide +kernel
theorem dX4_renew_44 : decode cX4_renew 44 = .ok (.getfield 11, 3) := by decide +kernel
theorem dX4_renew_47 : decode cX4_renew 47 = .ok (.iload_n 1, 1) := by decide +kernel
theorem dX4_renew_48 : decode cX4_renew 48 = .ok (.aaload, 1) := by decide +kernel
theorem dX4_renew_49 : decode cX4_renew 49 = .ok (.invokevirtual 34, 3) := by decide +kernel
theorem dX4_renew_52 : decode cX4_renew 52 = .ok (.iinc 1 1, 3) := by decide +kernel
theorem dX4_renew_55 : decode cX4_renew 55 = .ok (.goto (-45), 3) := by decide +kernel
theorem dX4_renew_58 : decode cX4_renew 58 = .ok (.aload_n 0, 1) := by decide +kernel
theorem dX4_renew_59 : decode cX4_renew 59 = .ok (.iconst 1, 1) := by decide +kernel
theorem dX4_renew_60 : decode cX4_renew 60 = .ok (.putfield 16, 3) := by decide +kernel
theorem dX4_renew_63 : decode cX4_renew 63 = .ok (.return_, 1) := by decide +kernel
theorem dX4_firstWith_0 : decode cX4_firstWith 0 = .ok (.iconst 1, 1) := by decide +kernel
theorem dX4_firstWith_1 : decode cX4_firstWith 1 = .ok (.iload_n 0, 1) := by decide +kernel
theorem dX4_firstWith_2 : decode cX4_firstWith 2 = .ok (.ishl, 1) := by decide +kernel
theorem dX4_firstWith_3 : decode cX4_firstWith 3 = .ok (.iconst 1, 1) := by decide +kernel
theorem dX4_firstWith_4 : decode cX4_firstWith 4 = .ok (.ishr, 1) := by decide +kernel
theorem dX4_firstWith_5 : decode cX4_firstWith 5 = .ok (.ireturn, 1) := by decide +kernel
theorem dX4_sumLeftOfHighest_0 : decode cX4_sumLeftOfHighest 0 = .ok (.aload_n 2, 1) := by decide +kernel
theorem dX4_sumLeftOfHighest_1 : decode cX4_sumLeftOfHighest 1 = .ok (.iconst 0, 1) := by decide +kernel
theorem dX4_sumLeftOfHighest_2 : decode cX4_sumLeftOfHighest 2 = .ok (.iconst 0, 1) := by decide +kernel
theorem dX4_sumLeftOfHighest_3 : decode cX4_sumLeftOfHighest 3 = .ok (.iastore, 1) := by decide +kernel
theorem dX4_sumLeftOfHighest_4 : decode cX4_sumLeftOfHighest 4 = .ok (.iconst 1, 1) := by decide +kernel
theorem dX4_sumLeftOfHighest_5 : decode cX4_sumLeftOfHighest 5 = .ok (.istore_n 3, 1) := by decide +kernel
theorem dX4_sumLeftOfHighest_6 : decode cX4_sumLeftOfHighest 6 = .ok (.iload_n 3, 1) := by decide +kernel
theorem dX4_sumLeftOfHighest_7 : decode cX4_sumLeftOfHighest 7 = .ok (.aload_n 0, 1) := by decide +kernel
theorem dX4_sumLeftOfHighest_8 : decode cX4_sumLeftOfHighest 8 = .ok (.getfield 20, 3) := by decide +kernel
theorem dX4_sumLeftOfHighest_11 : decode cX4_sumLeftOfHighest 11 = .ok (.getfield 37, 3) := by decide +kernel
theorem dX4_sumLeftOfHighest_14 : decode cX4_sumLeftOfHighest 14 = .ok (.if_icmp .ge 97, 3) := by decide +kernel
theorem dX4_sumLeftOfHighest_17 : decode cX4_sumLeftOfHighest 17 = .ok (.iload_n 3, 1) := by decide +kernel
theorem dX4_sumLeftOfHighest_18 : decode cX4_sumLeftOfHighest 18 = .ok (.invokestatic 40, 3) := by decide +kernel
theorem dX4_sumLeftOfHighest_21 : decode cX4_sumLeftOfHighest 21 = .ok (.istore 4, 2) := by decide +kernel
theorem dX4_sumLeftOfHighest_23 : decode cX4_sumLeftOfHighest 23 = .ok (.iconst 0, 1) := by decide +kernel
theorem dX4_sumLeftOfHighest_24 : decode cX4_sumLeftOfHighest 24 = .ok (.istore 5, 2) := by decide +kernel
theorem dX4_sumLeftOfHighest_26 : decode cX4_sumLeftOfHighest 26 = .ok (.iload 5, 2) := by decide +kernel
theorem dX4_sumLeftOfHighest_28 : decode cX4_sumLeftOfHighest 28 = .ok (.iload_n 3, 1) := by decide +kernel
theorem dX4_sumLeftOfHighest_29 : decode cX4_sumLeftOfHighest 29 = .ok (.if_icmp .ge 76, 3) := by decide +kernel
theorem dX4_sumLeftOfHighest_32 : decode cX4_sumLeftOfHighest 32 = .ok (.aload_n 0, 1) := by decide +kernel
theorem dX4_sumLeftOfHighest_33 : decode cX4_sumLeftOfHighest 33 = .ok (.getfield 20, 3) := by decide +kernel
theorem dX4_sumLeftOfHighest_36 : decode cX4_sumLeftOfHighest 36 = .ok (.iload_n 1, 1) := by decide +kernel
theorem dX4_sumLeftOfHighest_37 : decode cX4_sumLeftOfHighest 37 = .ok (.iload 5, 2) := by decide +kernel
theorem dX4_sumLeftOfHighest_39 : decode cX4_sumLeftOfHighest 39 = .ok (.iload_n 3, 1) := by decide +kernel
theorem dX4_sumLeftOfHighest_40 : decode cX4_sumLeftOfHighest 40 = .ok (.invokevirtual 44, 3) := by decide +kernel
theorem dX4_sumLeftOfHighest_43 : decode cX4_sumLeftOfHighest 43 = .ok (.istore 6, 2) := by decide +kernel
theorem dX4_sumLeftOfHighest_45 : decode cX4_sumLeftOfHighest 45 = .ok (.iload 5, 2) := by decide +kernel
theorem dX4_sumLeftOfHighest_47 : decode cX4_sumLeftOfHighest 47 = .ok (.invokestatic 40, 3) := by decide +kernel
theorem dX4_sumLeftOfHighest_50 : decode cX4_sumLeftOfHighest 50 = .ok (.istore 7, 2) := by decide +kernel
theorem dX4_sumLeftOfHighest_52 : decode cX4_sumLeftOfHighest 52 = .ok (.iload 7, 2) := by decide +kernel
theorem dX4_sumLeftOfHighest_54 : decode cX4_sumLeftOfHighest 54 = .ok (.iload 5, 2) := by decide +kernel
theorem dX4_sumLeftOfHighest_56 : decode cX4_sumLeftOfHighest 56 = .ok (.iconst 1, 1) := by decide +kernel
theorem dX4_sumLeftOfHighest_57 : decode cX4_sumLeftOfHighest 57 = .ok (.iadd, 1) := by decide +kernel
theorem dX4_sumLeftOfHighest_58 : decode cX4_sumLeftOfHighest 58 = .ok (.invokestatic 40, 3) := by decide +kernel
theorem dX4_sumLeftOfHighest_61 : decode cX4_sumLeftOfHighest 61 = .ok (.if_icmp .ge 38, 3) := by decide +kernel
theorem dX4_sumLeftOfHighest_64 : decode cX4_sumLeftOfHighest 64 = .ok (.iload 7, 2) := by decide +kernel
theorem dX4_sumLeftOfHighest_66 : decode cX4_sumLeftOfHighest 66 = .ok (.iload 4, 2) := by decide +kernel
theorem dX4_sumLeftOfHighest_68 : decode cX4_sumLeftOfHighest 68 = .ok (.iadd, 1) := by decide +kernel
theorem dX4_sumLeftOfHighest_69 : decode cX4_sumLeftOfHighest 69 = .ok (.aload_n 2, 1) := by decide +kernel
theorem dX4_sumLeftOfHighest_70 : decode cX4_sumLeftOfHighest 70 = .ok (.arraylength, 1) := by decide +kernel
theorem dX4_sumLeftOfHighest_71 : decode cX4_sumLeftOfHighest 71 = .ok (.if_icmp .ge 22, 3) := by decide +kernel
theorem dX4_sumLeftOfHighest_74 : decode cX4_sumLeftOfHighest 74 = .ok (.aload_n 2, 1) := by decide +kernel
theorem dX4_sumLeftOfHighest_75 : decode cX4_sumLeftOfHighest 75 = .ok (.iload 7, 2) := by decide +kernel
theorem dX4_sumLeftOfHighest_77 : decode cX4_sumLeftOfHighest 77 = .ok (.iload 4, 2) := by decide +kernel
theorem dX4_sumLeftOfHighest_79 : decode cX4_sumLeftOfHighest 79 = .ok (.iadd, 1) := by decide +kernel
theorem dX4_sumLeftOfHighest_80 : decode cX4_sumLeftOfHighest 80 = .ok (.ldc 48, 2) := by decide +kernel
theorem dX4_sumLeftOfHighest_82 : decode cX4_sumLeftOfHighest 82 = .ok (.aload_n 2, 1) := by decide +kernel
theorem dX4_sumLeftOfHighest_83 : decode cX4_sumLeftOfHighest 83 = .ok (.iload 7, 2) := by decide +kernel
theorem dX4_sumLeftOfHighest_85 : decode cX4_sumLeftOfHighest 85 = .ok (.iaload, 1) := by decide +kernel
theorem dX4_sumLeftOfHighest_86 : decode cX4_sumLeftOfHighest 86 = .ok (.iload 6, 2) := by decide +kernel
theorem dX4_sumLeftOfHighest_88 : decode cX4_sumLeftOfHighest 88 = .ok (.iadd, 1) := by decide +kernel
theorem dX4_sumLeftOfHighest_89 : decode cX4_sumLeftOfHighest 89 = .ok (.invokestatic 49, 3) := by decide +kernel
theorem dX4_sumLeftOfHighest_92 : decode cX4_sumLeftOfHighest 92 = .ok (.iastore, 1) := by decide +kernel
theorem dX4_sumLeftOfHighest_93 : decode cX4_sumLeftOfHighest 93 = .ok (.iinc 7 1, 3) := by decide +kernel
theorem dX4_sumLeftOfHighest_96 : decode cX4_sumLeftOfHighest 96 = .ok (.goto (-44), 3) := by decide +kernel
theorem dX4_sumLeftOfHighest_99 : decode cX4_sumLeftOfHighest 99 = .ok (.iinc 5 1, 3) := by decide +kernel
theorem dX4_sumLeftOfHighest_102 : decode cX4_sumLeftOfHighest 102 = .ok (.goto (-76), 3) := by decide +kernel
theorem dX4_sumLeftOfHighest_105 : decode cX4_sumLeftOfHighest 105 = .ok (.iinc 3 1, 3) := by decide +kernel
theorem dX4_sumLeftOfHighest_108 : decode cX4_sumLeftOfHighest 108 = .ok (.goto (-102), 3) := by decide +kernel
theorem dX4_sumLeftOfHighest_111 : decode cX4_sumLeftOfHighest 111 = .ok (.return_, 1) := by decide +kernel
theorem dX4_closeRight_0 : decode cX4_closeRight 0 = .ok (.aload_n 0, 1) := by decide +kernel
theorem dX4_closeRight_1 : decode cX4_closeRight 1 = .ok (.getfield 20, 3) := by decide +kernel
theorem dX4_closeRight_4 : decode cX4_closeRight 4 = .ok (.iload_n 1, 1) := by decide +kernel
theorem dX4_closeRight_5 : decode cX4_closeRight 5 = .ok (.invokevirtual 55, 3) := by decide +kernel
theorem dX4_closeRight_8 : decode cX4_closeRight 8 = .ok (.astore_n 3, 1) := by decide +kernel
theorem dX4_closeRight_9 : decode cX4_closeRight 9 = .ok (.iconst 0, 1) := by decide +kernel
theorem dX4_closeRight_10 : decode cX4_closeRight 10 = .ok (.istore 4, 2) := by decide +kernel
theorem dX4_closeRight_12 : decode cX4_closeRight 12 = .ok (.iload 4, 2) := by decide +kernel
theorem dX4_closeRight_14 : decode cX4_closeRight 14 = .ok (.aload_n 0, 1) := by decide +kernel
theorem dX4_closeRight_15 : decode cX4_closeRight 15 = .ok (.getfield 20, 3) := by decide +kernel
theorem dX4_closeRight_18 : decode cX4_closeRight 18 = .ok (.getfield 37, 3) := by decide +kernel
theorem dX4_closeRight_21 : decode cX4_closeRight 21 = .ok (.if_icmp .ge 117, 3) := by decide +kernel
theorem dX4_closeRight_24 : decode cX4_closeRight 24 = .ok (.aload_n 0, 1) := by decide +kernel
theorem dX4_closeRight_25 : decode cX4_closeRight 25 = .ok (.getfield 20, 3) := by decide +kernel
theorem dX4_closeRight_28 : decode cX4_closeRight 28 = .ok (.iload_n 1, 1) := by decide +kernel
theorem dX4_closeRight_29 : decode cX4_closeRight 29 = .ok (.iload 4, 2) := by decide +kernel
theorem dX4_closeRight_31 : decode cX4_closeRight 31 = .ok (.aload_n 0, 1) := by decide +kernel
theorem dX4_closeRight_32 : decode cX4_closeRight 32 = .ok (.getfield 20, 3) := by decide +kernel
theorem dX4_closeRight_35 : decode cX4_closeRight 35 = .ok (.getfield 37, 3) := by decide +kernel
theorem dX4_closeRight_38 : decode cX4_closeRight 38 = .ok (.invokevirtual 44, 3) := by decide +kernel
theorem dX4_closeRight_41 : decode cX4_closeRight 41 = .ok (.istore 5, 2) := by decide +kernel
theorem dX4_closeRight_43 : decode cX4_closeRight 43 = .ok (.iload 4, 2) := by decide +kernel
theorem dX4_closeRight_45 : decode cX4_closeRight 45 = .ok (.invokestatic 40, 3) := by decide +kernel
theorem dX4_closeRight_48 : decode cX4_closeRight 48 = .ok (.istore 6, 2) := by decide +kernel
theorem dX4_closeRight_50 : decode cX4_closeRight 50 = .ok (.iload 6, 2) := by decide +kernel
theorem dX4_closeRight_52 : decode cX4_closeRight 52 = .ok (.iload 4, 2) := by decide +kernel
theorem dX4_closeRight_54 : decode cX4_closeRight 54 = .ok (.iconst 1, 1) := by decide +kernel
theorem dX4_closeRight_55 : decode cX4_closeRight 55 = .ok (.iadd, 1) := by decide +kernel
theorem dX4_closeRight_56 : decode cX4_closeRight 56 = .ok (.invokestatic 40, 3) := by decide +kernel
theorem dX4_closeRight_59 : decode cX4_closeRight 59 = .ok (.if_icmp .ge 73, 3) := by decide +kernel
theorem dX4_closeRight_62 : decode cX4_closeRight 62 = .ok (.iload 6, 2) := by decide +kernel
theorem dX4_closeRight_64 : decode cX4_closeRight 64 = .ok (.aload_n 2, 1) := by decide +kernel
theorem dX4_closeRight_65 : decode cX4_closeRight 65 = .ok (.arraylength, 1) := by decide +kernel
theorem dX4_closeRight_66 : decode cX4_closeRight 66 = .ok (.if_icmp .ge 66, 3) := by decide +kernel
theorem dX4_closeRight_69 : decode cX4_closeRight 69 = .ok (.iload 6, 2) := by decide +kernel
theorem dX4_closeRight_71 : decode cX4_closeRight 71 = .ok (.iconst 1, 1) := by decide +kernel
theorem dX4_closeRight_72 : decode cX4_closeRight 72 = .ok (.ishl, 1) := by decide +kernel
theorem dX4_closeRight_73 : decode cX4_closeRight 73 = .ok (.istore 7, 2) := by decide +kernel
theorem dX4_closeRight_75 : decode cX4_closeRight 75 = .ok (.aload_n 3, 1) := by decide +kernel
theorem dX4_closeRight_76 : decode cX4_closeRight 76 = .ok (.iload 7, 2) := by decide +kernel
theorem dX4_closeRight_78 : decode cX4_closeRight 78 = .ok (.invokevirtual 59, 3) := by decide +kernel
theorem dX4_closeRight_81 : decode cX4_closeRight 81 = .ok (.ifCond .eq 16, 3) := by decide +kernel
theorem dX4_closeRight_84 : decode cX4_closeRight 84 = .ok (.aload_n 3, 1) := by decide +kernel
theorem dX4_closeRight_85 : decode cX4_closeRight 85 = .ok (.iload 7, 2) := by decide +kernel
theorem dX4_closeRight_87 : decode cX4_closeRight 87 = .ok (.invokevirtual 65, 3) := by decide +kernel
theorem dX4_closeRight_90 : decode cX4_closeRight 90 = .ok (.ifCond .eq 7, 3) := by decide +kernel
theorem dX4_closeRight_93 : decode cX4_closeRight 93 = .ok (.iconst 1, 1) := by decide +kernel
theorem dX4_closeRight_94 : decode cX4_closeRight 94 = .ok (.goto 4, 3) := by decide +kernel
theorem dX4_closeRight_97 : decode cX4_closeRight 97 = .ok (.iconst 0, 1) := by decide +kernel
theorem dX4_closeRight_98 : decode cX4_closeRight 98 = .ok (.istore 8, 2) := by decide +kernel
theorem dX4_closeRight_100 : decode cX4_closeRight 100 = .ok (.aload_n 2, 1) := by decide +kernel
theorem dX4_closeRight_101 : decode cX4_closeRight 101 = .ok (.iload 6, 2) := by decide +kernel
theorem dX4_closeRight_103 : decode cX4_closeRight 103 = .ok (.iload 8, 2) := by decide +kernel
theorem dX4_closeRight_105 : decode cX4_closeRight 105 = .ok (.ifCond .eq 18, 3) := by decide +kernel
theorem dX4_closeRight_108 : decode cX4_closeRight 108 = .ok (.ldc 48, 2) := by decide +kernel
theorem dX4_closeRight_110 : decode cX4_closeRight 110 = .ok (.aload_n 2, 1) := by decide +kernel
theorem dX4_closeRight_111 : decode cX4_closeRight 111 = .ok (.iload 6, 2) := by decide +kernel
theorem dX4_closeRight_113 : decode cX4_closeRight 113 = .ok (.iaload, 1) := by decide +kernel
theorem dX4_closeRight_114 : decode cX4_closeRight 114 = .ok (.iload 5, 2) := by decide +kernel
theorem dX4_closeRight_116 : decode cX4_closeRight 116 = .ok (.iadd, 1) := by decide +kernel
theorem dX4_closeRight_117 : decode cX4_closeRight 117 = .ok (.invokestatic 49, 3) := by decide +kernel
theorem dX4_closeRight_120 : decode cX4_closeRight 120 = .ok (.goto 5, 3) := by decide +kernel
theorem dX4_closeRight_123 : decode cX4_closeRight 123 = .ok (.ldc 48, 2) := by decide +kernel
theorem dX4_closeRight_125 : decode cX4_closeRight 125 = .ok (.iastore, 1) := by decide +kernel
theorem dX4_closeRight_126 : decode cX4_closeRight 126 = .ok (.iinc 6 1, 3) := by decide +kernel
theorem dX4_closeRight_129 : decode cX4_closeRight 129 = .ok (.goto (-79), 3) := by decide +kernel
theorem dX4_closeRight_132 : decode cX4_closeRight 132 = .ok (.iinc 4 1, 3) := by decide +kernel
theorem dX4_closeRight_135 : decode cX4_closeRight 135 = .ok (.goto (-123), 3) := by decide +kernel
theorem dX4_closeRight_138 : decode cX4_closeRight 138 = .ok (.return_, 1) := by decide +kernel
theorem dX4_costOf_0 : decode cX4_costOf 0 = .ok (.iload_n 1, 1) := by decide +kernel
theorem dX4_costOf_1 : decode cX4_costOf 1 = .ok (.ifCond .lt 27, 3) := by decide +kernel
theorem dX4_costOf_4 : decode cX4_costOf 4 = .ok (.iload_n 1, 1) := by decide +kernel
theorem dX4_costOf_5 : decode cX4_costOf 5 = .ok (.aload_n 0, 1) := by decide +kernel
theorem dX4_costOf_6 : decode cX4_costOf 6 = .ok (.getfield 11, 3) := by decide +kernel
theorem dX4_costOf_9 : decode cX4_costOf 9 = .ok (.arraylength, 1) := by decide +kernel
theorem dX4_costOf_10 : decode cX4_costOf 10 = .ok (.if_icmp .ge 18, 3) := by decide +kernel
theorem dX4_costOf_13 : decode cX4_costOf 13 = .ok (.iload_n 2, 1) := by decide +kernel
theorem dX4_costOf_14 : decode cX4_costOf 14 = .ok (.ifCond .lt 14, 3) := by decide +kernel
theorem dX4_costOf_17 : decode cX4_costOf 17 = .ok (.iload_n 2, 1) := by decide +kernel
theorem dX4_costOf_18 : decode cX4_costOf 18 = .ok (.sipush 512, 3) := by decide +kernel
theorem dX4_costOf_21 : decode cX4_costOf 21 = .ok (.if_icmp .ge 7, 3) := by decide +kernel
theorem dX4_costOf_24 : decode cX4_costOf 24 = .ok (.iconst 1, 1) := by decide +kernel
theorem dX4_costOf_25 : decode cX4_costOf 25 = .ok (.goto 4, 3) := by decide +kernel
theorem dX4_costOf_28 : decode cX4_costOf 28 = .ok (.iconst 0, 1) := by decide +kernel
theorem dX4_costOf_29 : decode cX4_costOf 29 = .ok (.istore_n 3, 1) := by decide +kernel
theorem dX4_costOf_30 : decode cX4_costOf 30 = .ok (.iload_n 3, 1) := by decide +kernel
theorem dX4_costOf_31 : decode cX4_costOf 31 = .ok (.ifCond .eq 14, 3) := by decide +kernel
theorem dX4_costOf_34 : decode cX4_costOf 34 = .ok (.aload_n 0, 1) := by decide +kernel
theorem dX4_costOf_35 : decode cX4_costOf 35 = .ok (.getfield 11, 3) := by decide +kernel
theorem dX4_costOf_38 : decode cX4_costOf 38 = .ok (.iload_n 1, 1) := by decide +kernel
theorem dX4_costOf_39 : decode cX4_costOf 39 = .ok (.aaload, 1) := by decide +kernel
theorem dX4_costOf_40 : decode cX4_costOf 40 = .ok (.iload_n 2, 1) := by decide +kernel
theorem dX4_costOf_41 : decode cX4_costOf 41 = .ok (.iaload, 1) := by decide +kernel
theorem dX4_costOf_42 : decode cX4_costOf 42 = .ok (.goto 5, 3) := by decide +kernel
theorem dX4_costOf_45 : decode cX4_costOf 45 = .ok (.ldc 48, 2) := by decide +kernel
theorem dX4_costOf_47 : decode cX4_costOf 47 = .ok (.ireturn, 1) := by decide +kernel
theorem dX4_howMany_0 : decode cX4_howMany 0 = .ok (.iconst 0, 1) := by decide +kernel
theorem dX4_howMany_1 : decode cX4_howMany 1 = .ok (.istore_n 2, 1) := by decide +kernel
theorem dX4_howMany_2 : decode cX4_howMany 2 = .ok (.aload_n 0, 1) := by decide +kernel
theorem dX4_howMany_3 : decode cX4_howMany 3 = .ok (.getfield 20, 3) := by decide +kernel
theorem dX4_howMany_6 : decode cX4_howMany 6 = .ok (.invokevirtual 68, 3) := by decide +kernel
theorem dX4_howMany_9 : decode cX4_howMany 9 = .ok (.istore_n 3, 1) := by decide +kernel
theorem dX4_howMany_10 : decode cX4_howMany 10 = .ok (.iconst 0, 1) := by decide +kernel
theorem dX4_howMany_11 : decode cX4_howMany 11 = .ok (.istore 4, 2) := by decide +kernel
theorem dX4_howMany_13 : decode cX4_howMany 13 = .ok (.iload 4, 2) := by decide +kernel
theorem dX4_howMany_15 : decode cX4_howMany 15 = .ok (.iload_n 3, 1) := by decide +kernel
theorem dX4_howMany_16 : decode cX4_howMany 16 = .ok (.if_icmp .ge 24, 3) := by decide +kernel
theorem dX4_howMany_19 : decode cX4_howMany 19 = .ok (.aload_n 0, 1) := by decide +kernel
theorem dX4_howMany_20 : decode cX4_howMany 20 = .ok (.iload_n 1, 1) := by decide +kernel
theorem dX4_howMany_21 : decode cX4_howMany 21 = .ok (.iload 4, 2) := by decide +kernel
theorem dX4_howMany_23 : decode cX4_howMany 23 = .ok (.invokevirtual 72, 3) := by decide +kernel
theorem dX4_howMany_26 : decode cX4_howMany 26 = .ok (.ldc 48, 2) := by decide +kernel
theorem dX4_howMany_28 : decode cX4_howMany 28 = .ok (.if_icmp .ge 6, 3) := by decide +kernel
theorem dX4_howMany_31 : decode cX4_howMany 31 = .ok (.iinc 2 1, 3) := by decide +kernel
theorem dX4_howMany_34 : decode cX4_howMany 34 = .ok (.iinc 4 1, 3) := by decide +kernel
theorem dX4_howMany_37 : decode cX4_howMany 37 = .ok (.goto (-24), 3) := by decide +kernel
theorem dX4_howMany_40 : decode cX4_howMany 40 = .ok (.iload_n 2, 1) := by decide +kernel
theorem dX4_howMany_41 : decode cX4_howMany 41 = .ok (.ireturn, 1) := by decide +kernel
theorem dX4_jointsOf_0 : decode cX4_jointsOf 0 = .ok (.iconst 0, 1) := by decide +kernel
theorem dX4_jointsOf_1 : decode cX4_jointsOf 1 = .ok (.istore_n 3, 1) := by decide +kernel
theorem dX4_jointsOf_2 : decode cX4_jointsOf 2 = .ok (.aload_n 0, 1) := by decide +kernel
theorem dX4_jointsOf_3 : decode cX4_jointsOf 3 = .ok (.getfield 20, 3) := by decide +kernel
theorem dX4_jointsOf_6 : decode cX4_jointsOf 6 = .ok (.invokevirtual 68, 3) := by decide +kernel
theorem dX4_jointsOf_9 : decode cX4_jointsOf 9 = .ok (.istore 4, 2) := by decide +kernel
theorem dX4_jointsOf_11 : decode cX4_jointsOf 11 = .ok (.iconst 0, 1) := by decide +kernel
theorem dX4_jointsOf_12 : decode cX4_jointsOf 12 = .ok (.istore 5, 2) := by decide +kernel
theorem dX4_jointsOf_14 : decode cX4_jointsOf 14 = .ok (.iload 5, 2) := by decide +kernel
theorem dX4_jointsOf_16 : decode cX4_jointsOf 16 = .ok (.iload 4, 2) := by decide +kernel
theorem dX4_jointsOf_18 : decode cX4_jointsOf 18 = .ok (.if_icmp .ge 34, 3) := by decide +kernel
theorem dX4_jointsOf_21 : decode cX4_jointsOf 21 = .ok (.aload_n 0, 1) := by decide +kernel
theorem dX4_jointsOf_22 : decode cX4_jointsOf 22 = .ok (.iload_n 1, 1) := by decide +kernel
theorem dX4_jointsOf_23 : decode cX4_jointsOf 23 = .ok (.iload 5, 2) := by decide +kernel
theorem dX4_jointsOf_25 : decode cX4_jointsOf 25 = .ok (.invokevirtual 72, 3) := by decide +kernel
theorem dX4_jointsOf_28 : decode cX4_jointsOf 28 = .ok (.ldc 48, 2) := by decide +kernel
theorem dX4_jointsOf_30 : decode cX4_jointsOf 30 = .ok (.if_icmp .ge 16, 3) := by decide +kernel
theorem dX4_jointsOf_33 : decode cX4_jointsOf 33 = .ok (.iload_n 3, 1) := by decide +kernel
theorem dX4_jointsOf_34 : decode cX4_jointsOf 34 = .ok (.iload_n 2, 1) := by decide +kernel
theorem dX4_jointsOf_35 : decode cX4_jointsOf 35 = .ok (.if_icmp .ne 8, 3) := by decide +kernel
theorem dX4_jointsOf_38 : decode cX4_jointsOf 38 = .ok (.iload 5, 2) := by decide +kernel
theorem dX4_jointsOf_40 : decode cX4_jointsOf 40 = .ok (.iconst 1, 1) := by decide +kernel
theorem dX4_jointsOf_41 : decode cX4_jointsOf 41 = .ok (.ishl, 1) := by decide +kernel
theorem dX4_jointsOf_42 : decode cX4_jointsOf 42 = .ok (.ireturn, 1) := by decide +kernel
theorem dX4_jointsOf_43 : decode cX4_jointsOf 43 = .ok (.iinc 3 1, 3) := by decide +kernel
theorem dX4_jointsOf_46 : decode cX4_jointsOf 46 = .ok (.iinc 5 1, 3) := by decide +kernel
theorem dX4_jointsOf_49 : decode cX4_jointsOf 49 = .ok (.goto (-35), 3) := by decide +kernel
theorem dX4_jointsOf_52 : decode cX4_jointsOf 52 = .ok (.bipush (-9), 2) := by decide +kernel
theorem dX4_jointsOf_54 : decode cX4_jointsOf 54 = .ok (.ireturn, 1) := by decide +kernel
theorem dX4_apartFrom_0 : decode cX4_apartFrom 0 = .ok (.iload_n 1, 1) := by decide +kernel
theorem dX4_apartFrom_1 : decode cX4_apartFrom 1 = .ok (.iload_n 2, 1) := by decide +kernel
theorem dX4_apartFrom_2 : decode cX4_apartFrom 2 = .ok (.invokestatic 75, 3) := by decide +kernel
theorem dX4_apartFrom_5 : decode cX4_apartFrom 5 = .ok (.iconst (-1), 1) := by decide +kernel
theorem dX4_apartFrom_6 : decode cX4_apartFrom 6 = .ok (.ixor, 1) := by decide +kernel
theorem dX4_apartFrom_7 : decode cX4_apartFrom 7 = .ok (.aload_n 0, 1) := by decide +kernel
theorem dX4_apartFrom_8 : decode cX4_apartFrom 8 = .ok (.getfield 20, 3) := by decide +kernel
theorem dX4_apartFrom_11 : decode cX4_apartFrom 11 = .ok (.invokevirtual 68, 3) := by decide +kernel
theorem dX4_apartFrom_14 : decode cX4_apartFrom 14 = .ok (.iconst 1, 1) := by decide +kernel
theorem dX4_apartFrom_15 : decode cX4_apartFrom 15 = .ok (.isub, 1) := by decide +kernel
theorem dX4_apartFrom_16 : decode cX4_apartFrom 16 = .ok (.iand, 1) := by decide +kernel
theorem dX4_apartFrom_17 : decode cX4_apartFrom 17 = .ok (.ireturn, 1) := by decide +kernel
theorem dX5_init_0 : decode cX5_init 0 = .ok (.aload_n 0, 1) := by decide +kernel
theorem dX5_init_1 : decode cX5_init 1 = .ok (.invokespecial 3, 3) := by decide +kernel
theorem dX5_init_4 : decode cX5_init 4 = .ok (.aload_n 0, 1) := by decide +kernel
theorem dX5_init_5 : decode cX5_init 5 = .ok (.bipush 11, 2) := by decide +kernel
theorem dX5_init_7 : decode cX5_init 7 = .ok (.newarray .int, 2) := by decide +kernel
theorem dX5_init_9 : decode cX5_init 9 = .ok (.putfield 9, 3) := by decide +kernel
theorem dX5_init_12 : decode cX5_init 12 = .ok (.return_, 1) := by decide +kernel
theorem dX5_clear_0 : decode cX5_clear 0 = .ok (.aload_n 0, 1) := by decide +kernel
theorem dX5_clear_1 : decode cX5_clear 1 = .ok (.getfield 9, 3) := by decide +kernel
theorem dX5_clear_4 : decode cX5_clear 4 = .ok (.iconst 0, 1) := by decide +kernel
theorem dX5_clear_5 : decode cX5_clear 5 = .ok (.invokestatic 15, 3) := by decide +kernel
theorem dX5_clear_8 : decode cX5_clear 8 = .ok (.return_, 1) := by decide +kernel
theorem dX5_add_0 : decode cX5_add 0 = .ok (.iload_n 1, 1) := by decide +kernel
theorem dX5_add_1 : decode cX5_add 1 = .ok (.ifCond .lt 22, 3) := by decide +kernel
theorem dX5_add_4 : decode cX5_add 4 = .ok (.iload_n 1, 1) := by decide +kernel
theorem dX5_add_5 : decode cX5_add 5 = .ok (.aload_n 0, 1) := by decide +kernel
theorem dX5_add_6 : decode cX5_add 6 = .ok (.getfield 9, 3) := by decide +kernel
theorem dX5_add_9 : decode cX5_add 9 = .ok (.arraylength, 1) := by decide +kernel
theorem dX5_add_10 : decode cX5_add 10 = .ok (.if_icmp .ge 13, 3) := by decide +kernel
theorem dX5_add_13 : decode cX5_add 13 = .ok (.aload_n 0, 1) := by decide +kernel
theorem dX5_add_14 : decode cX5_add 14 = .ok (.getfield 9, 3) := by decide +kernel
theorem dX5_add_17 : decode cX5_add 17 = .ok (.iload_n 1, 1) := by decide +kernel
theorem dX5_add_18 : decode cX5_add 18 = .ok (.dup2, 1) := by decide +kernel
theorem dX5_add_19 : decode cX5_add 19 = .ok (.iaload, 1) := by decide +kernel
theorem dX5_add_20 : decode cX5_add 20 = .ok (.iconst 1, 1) := by decide +kernel
theorem dX5_add_21 : decode cX5_add 21 = .ok (.iadd, 1) := by decide +kernel
theorem dX5_add_22 : decode cX5_add 22 = .ok (.iastore, 1) := by decide +kernel
theorem dX5_add_23 : decode cX5_add 23 = .ok (.return_, 1) := by decide +kernel
theorem dX5_of_0 : decode cX5_of 0 = .ok (.iload_n 1, 1) := by decide +kernel
theorem dX5_of_1 : decode cX5_of 1 = .ok (.ifCond .lt 12, 3) := by decide +kernel
theorem dX5_of_4 : decode cX5_of 4 = .ok (.iload_n 1, 1) := by decide +kernel
theorem dX5_of_5 : decode cX5_of 5 = .ok (.aload_n 0, 1) := by decide +kernel
theorem dX5_of_6 : decode cX5_of 6 = .ok (.getfield 9, 3) := by decide +kernel
theorem dX5_of_9 : decode cX5_of 9 = .ok (.arraylength, 1) := by decide +kernel
theorem dX5_of_10 : decode cX5_of 10 = .ok (.if_icmp .lt 7, 3) := by decide +kernel
theorem dX5_of_13 : decode cX5_of 13 = .ok (.iconst 0, 1) := by decide +kernel
theorem dX5_of_14 : decode cX5_of 14 = .ok (.goto 9, 3) := by decide +kernel
theorem dX5_of_17 : decode cX5_of 17 = .ok (.aload_n 0, 1) := by decide +kernel
theorem dX5_of_18 : decode cX5_of 18 = .ok (.getfield 9, 3) := by decide +kernel
theorem dX5_of_21 : decode cX5_of 21 = .ok (.iload_n 1, 1) := by decide +kernel
theorem dX5_of_22 : decode cX5_of 22 = .ok (.iaload, 1) := by decide +kernel
theorem dX5_of_23 : decode cX5_of 23 = .ok (.ireturn, 1) := by decide +kernel
theorem dX5_total_0 : decode cX5_total 0 = .ok (.iconst 0, 1) := by decide +kernel
theorem dX5_total_1 : decode cX5_total 1 = .ok (.istore_n 1, 1) := by decide +kernel
theorem dX5_total_2 : decode cX5_total 2 = .ok (.aload_n 0, 1) := by decide +kernel
theorem dX5_total_3 : decode cX5_total 3 = .ok (.getfield 9, 3) := by decide +kernel
theorem dX5_total_6 : decode cX5_total 6 = .ok (.astore_n 2, 1) := by decide +kernel
theorem dX5_total_7 : decode cX5_total 7 = .ok (.aload_n 2, 1) := by decide +kernel
theorem dX5_total_8 : decode cX5_total 8 = .ok (.arraylength, 1) := by decide +kernel
theorem dX5_total_9 : decode cX5_total 9 = .ok (.istore_n 3, 1) := by decide +kernel
theorem dX5_total_10 : decode cX5_total 10 = .ok (.iconst 0, 1) := by decide +kernel
theorem dX5_total_11 : decode cX5_total 11 = .ok (.istore 4, 2) := by decide +kernel
theorem dX5_total_13 : decode cX5_total 13 = .ok (.iload 4, 2) := by decide +kernel
theorem dX5_total_15 : decode cX5_total 15 = .ok (.iload_n 3, 1) := by decide +kernel
theorem dX5_total_16 : decode cX5_total 16 = .ok (.if_icmp .ge 20, 3) := by decide +kernel
theorem dX5_total_19 : decode cX5_total 19 = .ok (.aload_n 2, 1) := by decide +kernel
theorem dX5_total_20 : decode cX5_total 20 = .ok (.iload 4, 2) := by decide +kernel
theorem dX5_total_22 : decode cX5_total 22 = .ok (.iaload, 1) := by decide +kernel
theorem dX5_total_23 : decode cX5_total 23 = .ok (.istore 5, 2) := by decide +kernel
theorem dX5_total_25 : decode cX5_total 25 = .ok (.iload_n 1, 1) := by decide +kernel
theorem dX5_total_26 : decode cX5_total 26 = .ok (.iload 5, 2) := by decide +kernel
theorem dX5_total_28 : decode cX5_total 28 = .ok (.iadd, 1) := by decide +kernel
theorem dX5_total_29 : decode cX5_total 29 = .ok (.istore_n 1, 1) := by decide +kernel
theorem dX5_total_30 : decode cX5_total 30 = .ok (.iinc 4 1, 3) := by decide +kernel
theorem dX5_total_33 : decode cX5_total 33 = .ok (.goto (-20), 3) := by decide +kernel
theorem dX5_total_36 : decode cX5_total 36 = .ok (.iload_n 1, 1) := by decide +kernel
theorem dX5_total_37 : decode cX5_total 37 = .ok (.ireturn, 1) := by decide +kernel
theorem dX5_costBy_0 : decode cX5_costBy 0 = .ok (.iconst 0, 1) := by decide +kernel
theorem dX5_costBy_1 : decode cX5_costBy 1 = .ok (.istore_n 2, 1) := by decide +kernel
theorem dX5_costBy_2 : decode cX5_costBy 2 = .ok (.iconst 1, 1) := by decide +kernel
theorem dX5_costBy_3 : decode cX5_costBy 3 = .ok (.istore_n 3, 1) := by decide +kernel
theorem dX5_costBy_4 : decode cX5_costBy 4 = .ok (.iload_n 3, 1) := by decide +kernel
theorem dX5_costBy_5 : decode cX5_costBy 5 = .ok (.aload_n 0, 1) := by decide +kernel
theorem dX5_costBy_6 : decode cX5_costBy 6 = .ok (.getfield 9, 3) := by decide +kernel
theorem dX5_costBy_9 : decode cX5_costBy 9 = .ok (.arraylength, 1) := by decide +kernel
theorem dX5_costBy_10 : decode cX5_costBy 10 = .ok (.if_icmp .ge 40, 3) := by decide +kernel
theorem dX5_costBy_13 : decode cX5_costBy 13 = .ok (.aload_n 1, 1) := by decide +kernel
theorem dX5_costBy_14 : decode cX5_costBy 14 = .ok (.iload_n 3, 1) := by decide +kernel
theorem dX5_costBy_15 : decode cX5_costBy 15 = .ok (.invokevirtual 21, 3) := by decide +kernel
theorem dX5_costBy_18 : decode cX5_costBy 18 = .ok (.istore 4, 2) := by decide +kernel
theorem dX5_costBy_20 : decode cX5_costBy 20 = .ok (.iload_n 2, 1) := by decide +kernel
theorem dX5_costBy_21 : decode cX5_costBy 21 = .ok (.aload_n 0, 1) := by decide +kernel
theorem dX5_costBy_22 : decode cX5_costBy 22 = .ok (.getfield 9, 3) := by decide +kernel
theorem dX5_costBy_25 : decode cX5_costBy 25 = .ok (.iload_n 3, 1) := by decide +kernel
theorem dX5_costBy_26 : decode cX5_costBy 26 = .ok (.iaload, 1) := by decide +kernel
theorem dX5_costBy_27 : decode cX5_costBy 27 = .ok (.iload 4, 2) := by decide +kernel
theorem dX5_costBy_29 : decode cX5_costBy 29 = .ok (.bipush (-9), 2) := by decide +kernel
theorem dX5_costBy_31 : decode cX5_costBy 31 = .ok (.if_icmp .ne 8, 3) := by decide +kernel
theorem dX5_costBy_34 : decode cX5_costBy 34 = .ok (.bipush 100, 2) := by decide +kernel
theorem dX5_costBy_36 : decode cX5_costBy 36 = .ok (.goto 5, 3) := by decide +kernel
theorem dX5_costBy_39 : decode cX5_costBy 39 = .ok (.iload 4, 2) := by decide +kernel
theorem dX5_costBy_41 : decode cX5_costBy 41 = .ok (.imul, 1) := by decide +kernel
theorem dX5_costBy_42 : decode cX5_costBy 42 = .ok (.iadd, 1) := by decide +kernel
theorem dX5_costBy_43 : decode cX5_costBy 43 = .ok (.istore_n 2, 1) := by decide +kernel
theorem dX5_costBy_44 : decode cX5_costBy 44 = .ok (.iinc 3 1, 3) := by decide +kernel
theorem dX5_costBy_47 : decode cX5_costBy 47 = .ok (.goto (-43), 3) := by decide +kernel
theorem dX5_costBy_50 : decode cX5_costBy 50 = .ok (.iload_n 2, 1) := by decide +kernel
theorem dX5_costBy_51 : decode cX5_costBy 51 = .ok (.ireturn, 1) := by decide +kernel
theorem dX5_wholeBricks_0 : decode cX5_wholeBricks 0 = .ok (.aload_n 0, 1) := by decide +kernel
theorem dX5_wholeBricks_1 : decode cX5_wholeBricks 1 = .ok (.iconst 3, 1) := by decide +kernel
theorem dX5_wholeBricks_2 : decode cX5_wholeBricks 2 = .ok (.invokevirtual 27, 3) := by decide +kernel
theorem dX5_wholeBricks_5 : decode cX5_wholeBricks 5 = .ok (.istore_n 1, 1) := by decide +kernel
theorem dX5_wholeBricks_6 : decode cX5_wholeBricks 6 = .ok (.aload_n 0, 1) := by decide +kernel
theorem dX5_wholeBricks_7 : decode cX5_wholeBricks 7 = .ok (.iconst 2, 1) := by decide +kernel
theorem dX5_wholeBricks_8 : decode cX5_wholeBricks 8 = .ok (.invokevirtual 27, 3) := by decide +kernel
theorem dX5_wholeBricks_11 : decode cX5_wholeBricks 11 = .ok (.istore_n 2, 1) := by decide +kernel
theorem dX5_wholeBricks_12 : decode cX5_wholeBricks 12 = .ok (.aload_n 0, 1) := by decide +kernel
theorem dX5_wholeBricks_13 : decode cX5_wholeBricks 13 = .ok (.iconst 4, 1) := by decide +kernel
theorem dX5_wholeBricks_14 : decode cX5_wholeBricks 14 = .ok (.invokevirtual 27, 3) := by decide +kernel
theorem dX5_wholeBricks_17 : decode cX5_wholeBricks 17 = .ok (.iload_n 1, 1) := by decide +kernel
theorem dX5_wholeBricks_18 : decode cX5_wholeBricks 18 = .ok (.iadd, 1) := by decide +kernel
theorem dX5_wholeBricks_19 : decode cX5_wholeBricks 19 = .ok (.iload_n 2, 1) := by decide +kernel
theorem dX5_wholeBricks_20 : decode cX5_wholeBricks 20 = .ok (.iconst 1, 1) := by decide +kernel
theorem dX5_wholeBricks_21 : decode cX5_wholeBricks 21 = .ok (.iadd, 1) := by decide +kernel
theorem dX5_wholeBricks_22 : decode cX5_wholeBricks 22 = .ok (.iconst 2, 1) := by decide +kernel
theorem dX5_wholeBricks_23 : decode cX5_wholeBricks 23 = .ok (.idiv, 1) := by decide +kernel
theorem dX5_wholeBricks_24 : decode cX5_wholeBricks 24 = .ok (.iadd, 1) := by decide +kernel
theorem dX5_wholeBricks_25 : decode cX5_wholeBricks 25 = .ok (.istore_n 3, 1) := by decide +kernel
theorem dX5_wholeBricks_26 : decode cX5_wholeBricks 26 = .ok (.iload_n 1, 1) := by decide +kernel
theorem dX5_wholeBricks_27 : decode cX5_wholeBricks 27 = .ok (.iload_n 2, 1) := by decide +kernel
theorem dX5_wholeBricks_28 : decode cX5_wholeBricks 28 = .ok (.iconst 2, 1) := by decide +kernel
theorem dX5_wholeBricks_29 : decode cX5_wholeBricks 29 = .ok (.irem, 1) := by decide +kernel
theorem dX5_wholeBricks_30 : decode cX5_wholeBricks 30 = .ok (.iconst 2, 1) := by decide +kernel
theorem dX5_wholeBricks_31 : decode cX5_wholeBricks 31 = .ok (.imul, 1) := by decide +kernel
theorem dX5_wholeBricks_32 : decode cX5_wholeBricks 32 = .ok (.iadd, 1) := by decide +kernel
theorem dX5_wholeBricks_33 : decode cX5_wholeBricks 33 = .ok (.istore 4, 2) := by decide +kernel
theorem dX5_wholeBricks_35 : decode cX5_wholeBricks 35 = .ok (.iconst 0, 1) := by decide +kernel
theorem dX5_wholeBricks_36 : decode cX5_wholeBricks 36 = .ok (.aload_n 0, 1) := by decide +kernel
theorem dX5_wholeBricks_37 : decode cX5_wholeBricks 37 = .ok (.iconst 1, 1) := by decide +kernel
theorem dX5_wholeBricks_38 : decode cX5_wholeBricks 38 = .ok (.invokevirtual 27, 3) := by decide +kernel
theorem dX5_wholeBricks_41 : decode cX5_wholeBricks 41 = .ok (.iload 4, 2) := by decide +kernel
theorem dX5_wholeBricks_43 : decode cX5_wholeBricks 43 = .ok (.isub, 1) := by decide +kernel
theorem dX5_wholeBricks_44 : decode cX5_wholeBricks 44 = .ok (.invokestatic 30, 3) := by decide +kernel
theorem dX5_wholeBricks_47 : decode cX5_wholeBricks 47 = .ok (.istore 5, 2) := by decide +kernel
theorem dX5_wholeBricks_49 : decode cX5_wholeBricks 49 = .ok (.iload_n 3, 1) := by decide +kernel
theorem dX5_wholeBricks_50 : decode cX5_wholeBricks 50 = .ok (.iload 5, 2) := by decide +kernel
theorem dX5_wholeBricks_52 : decode cX5_wholeBricks 52 = .ok (.iconst 4, 1) := by decide +kernel
theorem dX5_wholeBricks_53 : decode cX5_wholeBricks 53 = .ok (.iadd, 1) := by decide +kernel
theorem dX5_wholeBricks_54 : decode cX5_wholeBricks 54 = .ok (.iconst 1, 1) := by decide +kernel
theorem dX5_wholeBricks_55 : decode cX5_wholeBricks 55 = .ok (.isub, 1) := by decide +kernel
theorem dX5_wholeBricks_56 : decode cX5_wholeBricks 56 = .ok (.iconst 4, 1) := by decide +kernel
theorem dX5_wholeBricks_57 : decode cX5_wholeBricks 57 = .ok (.idiv, 1) := by decide +kernel
theorem dX5_wholeBricks_58 : decode cX5_wholeBricks 58 = .ok (.iadd, 1) := by decide +kernel
theorem dX5_wholeBricks_59 : decode cX5_wholeBricks 59 = .ok (.ireturn, 1) := by decide +kernel
theorem dX6_init_0 : decode cX6_init 0 = .ok (.aload_n 0, 1) := by decide +kernel
theorem dX6_init_1 : decode cX6_init 1 = .ok (.invokespecial 3, 3) := by decide +kernel
theorem dX6_init_4 : decode cX6_init 4 = .ok (.aload_n 0, 1) := by decide +kernel
theorem dX6_init_5 : decode cX6_init 5 = .ok (.new 9, 3) := by decide +kernel
theorem dX6_init_8 : decode cX6_init 8 = .ok (.dup, 1) := by decide +kernel
theorem dX6_init_9 : decode cX6_init 9 = .ok (.invokespecial 11, 3) := by decide +kernel
theorem dX6_init_12 : decode cX6_init 12 = .ok (.putfield 12, 3) := by decide +kernel
theorem dX6_init_15 : decode cX6_init 15 = .ok (.aload_n 0, 1) := by decide +kernel
theorem dX6_init_16 : decode cX6_init 16 = .ok (.bipush 8, 2) := by decide +kernel
theorem dX6_init_18 : decode cX6_init 18 = .ok (.anewarray 18, 3) := by decide +kernel
theorem dX6_init_21 : decode cX6_init 21 = .ok (.putfield 20, 3) := by decide +kernel
theorem dX6_init_24 : decode cX6_init 24 = .ok (.aload_n 0, 1) := by decide +kernel
theorem dX6_init_25 : decode cX6_init 25 = .ok (.new 18, 3) := by decide +kernel
theorem dX6_init_28 : decode cX6_init 28 = .ok (.dup, 1) := by decide +kernel
theorem dX6_init_29 : decode cX6_init 29 = .ok (.invokespecial 24, 3) := by decide +kernel
theorem dX6_init_32 : decode cX6_init 32 = .ok (.putfield 25, 3) := by decide +kernel
theorem dX6_init_35 : decode cX6_init 35 = .ok (.aload_n 0, 1) := by decide +kernel
theorem dX6_init_36 : decode cX6_init 36 = .ok (.bipush 8, 2) := by decide +kernel
theorem dX6_init_38 : decode cX6_init 38 = .ok (.putfield 29, 3) := by decide +kernel
theorem dX6_init_41 : decode cX6_init 41 = .ok (.aload_n 0, 1) := by decide +kernel
theorem dX6_init_42 : decode cX6_init 42 = .ok (.iconst 0, 1) := by decide +kernel
theorem dX6_init_43 : decode cX6_init 43 = .ok (.putfield 33, 3) := by decide +kernel
theorem dX6_init_46 : decode cX6_init 46 = .ok (.aload_n 0, 1) := by decide +kernel
theorem dX6_init_47 : decode cX6_init 47 = .ok (.iconst 1, 1) := by decide +kernel
theorem dX6_init_48 : decode cX6_init 48 = .ok (.putfield 36, 3) := by decide +kernel
theorem dX6_init_51 : decode cX6_init 51 = .ok (.iconst 0, 1) := by decide +kernel
theorem dX6_init_52 : decode cX6_init 52 = .ok (.istore_n 1, 1) := by decide +kernel
theorem dX6_init_53 : decode cX6_init 53 = .ok (.iload_n 1, 1) := by decide +kernel
theorem dX6_init_54 : decode cX6_init 54 = .ok (.aload_n 0, 1) := by decide +kernel
theorem dX6_init_55 : decode cX6_init 55 = .ok (.getfield 20, 3) := by decide +kernel
theorem dX6_init_58 : decode cX6_init 58 = .ok (.arraylength, 1) := by decide +kernel
theorem dX6_init_59 : decode cX6_init 59 = .ok (.if_icmp .ge 22, 3) := by decide +kernel
theorem dX6_init_62 : decode cX6_init 62 = .ok (.aload_n 0, 1) := by decide +kernel
theorem dX6_init_63 : decode cX6_init 63 = .ok (.getfield 20, 3) := by decide +kernel
theorem dX6_init_66 : decode cX6_init 66 = .ok (.iload_n 1, 1) := by decide +kernel
theorem dX6_init_67 : decode cX6_init 67 = .ok (.new 18, 3) := by decide +kernel
theorem dX6_init_70 : decode cX6_init 70 = .ok (.dup, 1) := by decide +kernel
theorem dX6_init_71 : decode cX6_init 71 = .ok (.invokespecial 24, 3) := by decide +kernel
theorem dX6_init_74 : decode cX6_init 74 = .ok (.aastore, 1) := by decide +kernel
theorem dX6_init_75 : decode cX6_init 75 = .ok (.iinc 1 1, 3) := by decide +kernel
theorem dX6_init_78 : decode cX6_init 78 = .ok (.goto (-25), 3) := by decide +kernel
theorem dX6_init_81 : decode cX6_init 81 = .ok (.return_, 1) := by decide +kernel
theorem dX6_has_0 : decode cX6_has 0 = .ok (.iload_n 1, 1) := by decide +kernel
theorem dX6_has_1 : decode cX6_has 1 = .ok (.ifCond .lt 15, 3) := by decide +kernel
theorem dX6_has_4 : decode cX6_has 4 = .ok (.iload_n 1, 1) := by decide +kernel
theorem dX6_has_5 : decode cX6_has 5 = .ok (.aload_n 0, 1) := by decide +kernel
theorem dX6_has_6 : decode cX6_has 6 = .ok (.getfield 33, 3) := by decide +kernel
theorem dX6_has_9 : decode cX6_has 9 = .ok (.if_icmp .ge 7, 3) := by decide +kernel
theorem dX6_has_12 : decode cX6_has 12 = .ok (.iconst 1, 1) := by decide +kernel
theorem dX6_has_13 : decode cX6_has 13 = .ok (.goto 4, 3) := by decide +kernel
theorem dX6_has_16 : decode cX6_has 16 = .ok (.iconst 0, 1) := by decide +kernel
theorem dX6_has_17 : decode cX6_has 17 = .ok (.ireturn, 1) := by decide +kernel
theorem dX6_at_0 : decode cX6_at 0 = .ok (.iload_n 1, 1) := by decide +kernel
theorem dX6_at_1 : decode cX6_at 1 = .ok (.ifCond .lt 20, 3) := by decide +kernel
theorem dX6_at_4 : decode cX6_at 4 = .ok (.iload_n 1, 1) := by decide +kernel
theorem dX6_at_5 : decode cX6_at 5 = .ok (.aload_n 0, 1) := by decide +kernel
theorem dX6_at_6 : decode cX6_at 6 = .ok (.getfield 33, 3) := by decide +kernel
theorem dX6_at_9 : decode cX6_at 9 = .ok (.if_icmp .ge 12, 3) := by decide +kernel
theorem dX6_at_12 : decode cX6_at 12 = .ok (.iload_n 1, 1) := by decide +kernel
theorem dX6_at_13 : decode cX6_at 13 = .ok (.aload_n 0, 1) := by decide +kernel
theorem dX6_at_14 : decode cX6_at 14 = .ok (.getfield 20, 3) := by decide +kernel
theorem dX6_at_17 : decode cX6_at 17 = .ok (.arraylength, 1) := by decide +kernel
theorem dX6_at_18 : decode cX6_at 18 = .ok (.if_icmp .lt 7, 3) := by decide +kernel
theorem dX6_at_21 : decode cX6_at 21 = .ok (.iconst 1, 1) := by decide +kernel
theorem dX6_at_22 : decode cX6_at 22 = .ok (.goto 4, 3) := by decide +kernel
theorem dX6_at_25 : decode cX6_at 25 = .ok (.iconst 0, 1) := by decide +kernel
theorem dX6_at_26 : decode cX6_at 26 = .ok (.istore_n 2, 1) := by decide +kernel
theorem dX6_at_27 : decode cX6_at 27 = .ok (.iload_n 2, 1) := by decide +kernel
theorem dX6_at_28 : decode cX6_at 28 = .ok (.ifCond .eq 10, 3) := by decide +kernel
theorem dX6_at_31 : decode cX6_at 31 = .ok (.aload_n 0, 1) := by decide +kernel
theorem dX6_at_32 : decode cX6_at 32 = .ok (.getfield 25, 3) := by decide +kernel
theorem dX6_at_35 : decode cX6_at 35 = .ok (.goto 9, 3) := by decide +kernel
theorem dX6_at_38 : decode cX6_at 38 = .ok (.aload_n 0, 1) := by decide +kernel
theorem dX6_at_39 : decode cX6_at 39 = .ok (.getfield 20, 3) := by decide +kernel
theorem dX6_at_42 : decode cX6_at 42 = .ok (.iload_n 1, 1) := by decide +kernel
theorem dX6_at_43 : decode cX6_at 43 = .ok (.aaload, 1) := by decide +kernel
theorem dX6_at_44 : decode cX6_at 44 = .ok (.areturn, 1) := by decide +kernel
theorem dX6_cells_0 : decode cX6_cells 0 = .ok (.iconst 1, 1) := by decide +kernel
theorem dX6_cells_1 : decode cX6_cells 1 = .ok (.aload_n 0, 1) := by decide +kernel
theorem dX6_cells_2 : decode cX6_cells 2 = .ok (.getfield 29, 3) := by decide +kernel
theorem dX6_cells_5 : decode cX6_cells 5 = .ok (.ishl, 1) := by decide +kernel
theorem dX6_cells_6 : decode cX6_cells 6 = .ok (.iconst 1, 1) := by decide +kernel
theorem dX6_cells_7 : decode cX6_cells 7 = .ok (.isub, 1) := by decide +kernel
theorem dX6_cells_8 : decode cX6_cells 8 = .ok (.ireturn, 1) := by decide +kernel
theorem dX6_places_0 : decode cX6_places 0 = .ok (.aload_n 0, 1) := by decide +kernel
theorem dX6_places_1 : decode cX6_places 1 = .ok (.invokevirtual 39, 3) := by decide +kernel
theorem dX6_places_4 : decode cX6_places 4 = .ok (.bipush (-2), 2) := by decide +kernel
theorem dX6_places_6 : decode cX6_places 6 = .ok (.iand, 1) := by decide +kernel
theorem dX6_places_7 : decode cX6_places 7 = .ok (.ireturn, 1) := by decide +kernel
theorem dX6_sets_0 : decode cX6_sets 0 = .ok (.sipush 512, 3) := by decide +kernel
theorem dX6_sets_3 : decode cX6_sets 3 = .ok (.iconst 1, 1) := by decide +kernel
theorem dX6_sets_4 : decode cX6_sets 4 = .ok (.aload_n 0, 1) := by decide +kernel
theorem dX6_sets_5 : decode cX6_sets 5 = .ok (.getfield 29, 3) := by decide +kernel
theorem dX6_sets_8 : decode cX6_sets 8 = .ok (.iconst 1, 1) := by decide +kernel
theorem dX6_sets_9 : decode cX6_sets 9 = .ok (.isub, 1) := by decide +kernel
theorem dX6_sets_10 : decode cX6_sets 10 = .ok (.ishl, 1) := by decide +kernel
theorem dX6_sets_11 : decode cX6_sets 11 = .ok (.invokestatic 43, 3) := by decide +kernel
theorem dX6_sets_14 : decode cX6_sets 14 = .ok (.ireturn, 1) := by decide +kernel
theorem dX6_bounds_0 : decode cX6_bounds 0 = .ok (.iload_n 2, 1) := by decide +kernel
theorem dX6_bounds_1 : decode cX6_bounds 1 = .ok (.aload_n 1, 1) := by decide +kernel
theorem dX6_bounds_2 : decode cX6_bounds 2 = .ok (.invokevirtual 49, 3) := by decide +kernel
theorem dX6_bounds_5 : decode cX6_bounds 5 = .ok (.ior, 1) := by decide +kernel
theorem dX6_bounds_6 : decode cX6_bounds 6 = .ok (.iconst 1, 1) := by decide +kernel
theorem dX6_bounds_7 : decode cX6_bounds 7 = .ok (.aload_n 0, 1) := by decide +kernel
theorem dX6_bounds_8 : decode cX6_bounds 8 = .ok (.getfield 29, 3) := by decide +kernel
theorem dX6_bounds_11 : decode cX6_bounds 11 = .ok (.ishl, 1) := by decide +kernel
theorem dX6_bounds_12 : decode cX6_bounds 12 = .ok (.ior, 1) := by decide +kernel
theorem dX6_bounds_13 : decode cX6_bounds 13 = .ok (.ireturn, 1) := by decide +kernel
theorem dX6_addPieces_0 : decode cX6_addPieces 0 = .ok (.aload_n 0, 1) := by decide +kernel
theorem dX6_addPieces_1 : decode cX6_addPieces 1 = .ok (.aload_n 1, 1) := by decide +kernel
theorem dX6_addPieces_2 : decode cX6_addPieces 2 = .ok (.iload_n 2, 1) := by decide +kernel
theorem dX6_addPieces_3 : decode cX6_addPieces 3 = .ok (.invokevirtual 52, 3) := by decide +kernel
theorem dX6_addPieces_6 : decode cX6_addPieces 6 = .ok (.istore 4, 2) := by decide +kernel
theorem dX6_addPieces_8 : decode cX6_addPieces 8 = .ok (.iconst 0, 1) := by decide +kernel
theorem dX6_addPieces_9 : decode cX6_addPieces 9 = .ok (.istore 5, 2) := by decide +kernel
theorem dX6_addPieces_11 : decode cX6_addPieces 11 = .ok (.iconst 1, 1) := by decide +kernel
theorem dX6_addPieces_12 : decode cX6_addPieces 12 = .ok (.istore 6, 2) := by decide +kernel
theorem dX6_addPieces_14 : decode cX6_addPieces 14 = .ok (.iload 6, 2) := by decide +kernel
theorem dX6_addPieces_16 : decode cX6_addPieces 16 = .ok (.aload_n 0, 1) := by decide +kernel
theorem dX6_addPieces_17 : decode cX6_addPieces 17 = .ok (.getfield 29, 3) := by decide +kernel
theorem dX6_addPieces_20 : decode cX6_addPieces 20 = .ok (.if_icmp .gt 41, 3) := by decide +kernel
theorem dX6_addPieces_23 : decode cX6_addPieces 23 = .ok (.iload 4, 2) := by decide +kernel
theorem dX6_addPieces_25 : decode cX6_addPieces 25 = .ok (.iload 6, 2) := by decide +kernel
theorem dX6_addPieces_27 : decode cX6_addPieces 27 = .ok (.ishr, 1) := by decide +kernel
theorem dX6_addPieces_28 : decode cX6_addPieces 28 = .ok (.iconst 1, 1) := by decide +kernel
theorem dX6_addPieces_29 : decode cX6_addPieces 29 = .ok (.iand, 1) := by decide +kernel
theorem dX6_addPieces_30 : decode cX6_addPieces 30 = .ok (.ifCond .eq 25, 3) := by decide +kernel
theorem dX6_addPieces_33 : decode cX6_addPieces 33 = .ok (.aload_n 1, 1) := by decide +kernel
theorem dX6_addPieces_34 : decode cX6_addPieces 34 = .ok (.iload 5, 2) := by decide +kernel
theorem dX6_addPieces_36 : decode cX6_addPieces 36 = .ok (.invokevirtual 56, 3) := by decide +kernel
theorem dX6_addPieces_39 : decode cX6_addPieces 39 = .ok (.ifCond .ne 12, 3) := by decide +kernel
theorem dX6_addPieces_42 : decode cX6_addPieces 42 = .ok (.aload_n 3, 1) := by decide +kernel
theorem dX6_addPieces_43 : decode cX6_addPieces 43 = .ok (.iload 6, 2) := by decide +kernel
theorem dX6_addPieces_45 : decode cX6_addPieces 45 = .ok (.iload 5, 2) := by decide +kernel
theorem dX6_addPieces_47 : decode cX6_addPieces 47 = .ok (.isub, 1) := by decide +kernel
theorem dX6_addPieces_48 : decode cX6_addPieces 48 = .ok (.invokevirtual 60, 3) := by decide +kernel
theorem dX6_addPieces_51 : decode cX6_addPieces 51 = .ok (.iload 6, 2) := by decide +kernel
theorem dX6_addPieces_53 : decode cX6_addPieces 53 = .ok (.istore 5, 2) := by decide +kernel
theorem dX6_addPieces_55 : decode cX6_addPieces 55 = .ok (.iinc 6 1, 3) := by decide +kernel
theorem dX6_addPieces_58 : decode cX6_addPieces 58 = .ok (.goto (-44), 3) := by decide +kernel
theorem dX6_addPieces_61 : decode cX6_addPieces 61 = .ok (.return_, 1) := by decide +kernel
theorem dX6_lengthAround_0 : decode cX6_lengthAround 0 = .ok (.aload_n 0, 1) := by decide +kernel
theorem dX6_lengthAround_1 : decode cX6_lengthAround 1 = .ok (.aload_n 1, 1) := by decide +kernel
theorem dX6_lengthAround_2 : decode cX6_lengthAround 2 = .ok (.aload_n 1, 1) := by decide +kernel
theorem dX6_lengthAround_3 : decode cX6_lengthAround 3 = .ok (.getfield 66, 3) := by decide +kernel
theorem dX6_lengthAround_6 : decode cX6_lengthAround 6 = .ok (.invokevirtual 52, 3) := by decide +kernel
theorem dX6_lengthAround_9 : decode cX6_lengthAround 9 = .ok (.istore_n 3, 1) := by decide +kernel
theorem dX6_lengthAround_10 : decode cX6_lengthAround 10 = .ok (.iload_n 2, 1) := by decide +kernel
theorem dX6_lengthAround_11 : decode cX6_lengthAround 11 = .ok (.istore 4, 2) := by decide +kernel
theorem dX6_lengthAround_13 : decode cX6_lengthAround 13 = .ok (.iload 4, 2) := by decide +kernel
theorem dX6_lengthAround_15 : decode cX6_lengthAround 15 = .ok (.ifCond .le 18, 3) := by decide +kernel
theorem dX6_lengthAround_18 : decode cX6_lengthAround 18 = .ok (.iload_n 3, 1) := by decide +kernel
theorem dX6_lengthAround_19 : decode cX6_lengthAround 19 = .ok (.iload 4, 2) := by decide +kernel
theorem dX6_lengthAround_21 : decode cX6_lengthAround 21 = .ok (.ishr, 1) := by decide +kernel
theorem dX6_lengthAround_22 : decode cX6_lengthAround 22 = .ok (.iconst 1, 1) := by decide +kernel
theorem dX6_lengthAround_23 : decode cX6_lengthAround 23 = .ok (.iand, 1) := by decide +kernel
theorem dX6_lengthAround_24 : decode cX6_lengthAround 24 = .ok (.ifCond .ne 9, 3) := by decide +kernel
theorem dX6_lengthAround_27 : decode cX6_lengthAround 27 = .ok (.iinc 4 (-1), 3) := by decide +kernel
theorem dX6_lengthAround_30 : decode cX6_lengthAround 30 = .ok (.goto (-17), 3) := by decide +kernel
theorem dX6_lengthAround_33 : decode cX6_lengthAround 33 = .ok (.iload_n 2, 1) := by decide +kernel
theorem dX6_lengthAround_34 : decode cX6_lengthAround 34 = .ok (.iconst 1, 1) := by decide +kernel
theorem dX6_lengthAround_35 : decode cX6_lengthAround 35 = .ok (.iadd, 1) := by decide +kernel
theorem dX6_lengthAround_36 : decode cX6_lengthAround 36 = .ok (.istore 5, 2) := by decide +kernel
theorem dX6_lengthAround_38 : decode cX6_lengthAround 38 = .ok (.iload 5, 2) := by decide +kernel
theorem dX6_lengthAround_40 : decode cX6_lengthAround 40 = .ok (.aload_n 0, 1) := by decide +kernel
theorem dX6_lengthAround_41 : decode cX6_lengthAround 41 = .ok (.getfield 29, 3) := by decide +kernel
theorem dX6_lengthAround_44 : decode cX6_lengthAround 44 = .ok (.if_icmp .ge 18, 3) := by decide +kernel
theorem dX6_lengthAround_47 : decode cX6_lengthAround 47 = .ok (.iload_n 3, 1) := by decide +kernel
theorem dX6_lengthAround_48 : decode cX6_lengthAround 48 = .ok (.iload 5, 2) := by decide +kernel
theorem dX6_lengthAround_50 : decode cX6_lengthAround 50 = .ok (.ishr, 1) := by decide +kernel
theorem dX6_lengthAround_51 : decode cX6_lengthAround 51 = .ok (.iconst 1, 1) := by decide +kernel
theorem dX6_lengthAround_52 : decode cX6_lengthAround 52 = .ok (.iand, 1) := by decide +kernel
theorem dX6_lengthAround_53 : decode cX6_lengthAround 53 = .ok (.ifCond .ne 9, 3) := by decide +kernel
theorem dX6_lengthAround_56 : decode cX6_lengthAround 56 = .ok (.iinc 5 1, 3) := by decide +kernel
theorem dX6_lengthAround_59 : decode cX6_lengthAround 59 = .ok (.goto (-21), 3) := by decide +kernel
theorem dX6_lengthAround_62 : decode cX6_lengthAround 62 = .ok (.iload 5, 2) := by decide +kernel
theorem dX6_lengthAround_64 : decode cX6_lengthAround 64 = .ok (.iload 4, 2) := by decide +kernel
theorem dX6_lengthAround_66 : decode cX6_lengthAround 66 = .ok (.isub, 1) := by decide +kernel
theorem dX6_lengthAround_67 : decode cX6_lengthAround 67 = .ok (.ireturn, 1) := by decide +kernel
theorem dX6_ruleBrokenIn_0 : decode cX6_ruleBrokenIn 0 = .ok (.aload_n 0, 1) := by decide +kernel
theorem dX6_ruleBrokenIn_1 : decode cX6_ruleBrokenIn 1 = .ok (.iload_n 1, 1) := by decide +kernel
theorem dX6_ruleBrokenIn_2 : decode cX6_ruleBrokenIn 2 = .ok (.invokevirtual 69, 3) := by decide +kernel
theorem dX6_ruleBrokenIn_5 : decode cX6_ruleBrokenIn 5 = .ok (.astore_n 2, 1) := by decide +kernel
theorem dX6_ruleBrokenIn_6 : decode cX6_ruleBrokenIn 6 = .ok (.aload_n 2, 1) := by decide +kernel
theorem dX6_ruleBrokenIn_7 : decode cX6_ruleBrokenIn 7 = .ok (.getfield 66, 3) := by decide +kernel
theorem dX6_ruleBrokenIn_10 : decode cX6_ruleBrokenIn 10 = .ok (.istore_n 3, 1) := by decide +kernel
theorem dX6_ruleBrokenIn_11 : decode cX6_ruleBrokenIn 11 = .ok (.aload_n 2, 1) := by decide +kernel
theorem dX6_ruleBrokenIn_12 : decode cX6_ruleBrokenIn 12 = .ok (.iload_n 3, 1) := by decide +kernel
theorem dX6_ruleBrokenIn_13 : decode cX6_ruleBrokenIn 13 = .ok (.invokevirtual 73, 3) := by decide +kernel
theorem dX6_ruleBrokenIn_16 : decode cX6_ruleBrokenIn 16 = .ok (.ifCond .ne 5, 3) := by decide +kernel
theorem dX6_ruleBrokenIn_19 : decode cX6_ruleBrokenIn 19 = .ok (.iconst 1, 1) := by decide +kernel
theorem dX6_ruleBrokenIn_20 : decode cX6_ruleBrokenIn 20 = .ok (.ireturn, 1) := by decide +kernel
theorem dX6_ruleBrokenIn_21 : decode cX6_ruleBrokenIn 21 = .ok (.aload_n 2, 1) := by decide +kernel
theorem dX6_ruleBrokenIn_22 : decode cX6_ruleBrokenIn 22 = .ok (.iload_n 3, 1) := by decide +kernel
theorem dX6_ruleBrokenIn_23 : decode cX6_ruleBrokenIn 23 = .ok (.invokevirtual 76, 3) := by decide +kernel
theorem dX6_ruleBrokenIn_26 : decode cX6_ruleBrokenIn 26 = .ok (.ifCond .ne 5, 3) := by decide +kernel
theorem dX6_ruleBrokenIn_29 : decode cX6_ruleBrokenIn 29 = .ok (.iconst 2, 1) := by decide +kernel
theorem dX6_ruleBrokenIn_30 : decode cX6_ruleBrokenIn 30 = .ok (.ireturn, 1) := by decide +kernel
theorem dX6_ruleBrokenIn_31 : decode cX6_ruleBrokenIn 31 = .ok (.aload_n 0, 1) := by decide +kernel
theorem dX6_ruleBrokenIn_32 : decode cX6_ruleBrokenIn 32 = .ok (.iload_n 1, 1) := by decide +kernel
theorem dX6_ruleBrokenIn_33 : decode cX6_ruleBrokenIn 33 = .ok (.iload_n 3, 1) := by decide +kernel
theorem dX6_ruleBrokenIn_34 : decode cX6_ruleBrokenIn 34 = .ok (.invokevirtual 79, 3) := by decide +kernel
theorem dX6_ruleBrokenIn_37 : decode cX6_ruleBrokenIn 37 = .ok (.istore 4, 2) := by decide +kernel
theorem dX6_ruleBrokenIn_39 : decode cX6_ruleBrokenIn 39 = .ok (.iload 4, 2) := by decide +kernel
theorem dX6_ruleBrokenIn_41 : decode cX6_ruleBrokenIn 41 = .ok (.ifCond .eq 6, 3) := by decide +kernel
theorem dX6_ruleBrokenIn_44 : decode cX6_ruleBrokenIn 44 = .ok (.iload 4, 2) := by decide +kernel
theorem dX6_ruleBrokenIn_46 : decode cX6_ruleBrokenIn 46 = .ok (.ireturn, 1) := by decide +kernel
theorem dX6_ruleBrokenIn_47 : decode cX6_ruleBrokenIn 47 = .ok (.iload_n 3, 1) := by decide +kernel
theorem dX6_ruleBrokenIn_48 : decode cX6_ruleBrokenIn 48 = .ok (.aload_n 0, 1) := by decide +kernel
theorem dX6_ruleBrokenIn_49 : decode cX6_ruleBrokenIn 49 = .ok (.iload_n 1, 1) := by decide +kernel
theorem dX6_ruleBrokenIn_50 : decode cX6_ruleBrokenIn 50 = .ok (.iconst 1, 1) := by decide +kernel
theorem dX6_ruleBrokenIn_51 : decode cX6_ruleBrokenIn 51 = .ok (.isub, 1) := by decide +kernel
theorem dX6_ruleBrokenIn_52 : decode cX6_ruleBrokenIn 52 = .ok (.invokevirtual 69, 3) := by decide +kernel
theorem dX6_ruleBrokenIn_55 : decode cX6_ruleBrokenIn 55 = .ok (.getfield 66, 3) := by decide +kernel
theorem dX6_ruleBrokenIn_58 : decode cX6_ruleBrokenIn 58 = .ok (.aload_n 0, 1) := by decide +kernel
theorem dX6_ruleBrokenIn_59 : decode cX6_ruleBrokenIn 59 = .ok (.getfield 36, 3) := by decide +kernel
theorem dX6_ruleBrokenIn_62 : decode cX6_ruleBrokenIn 62 = .ok (.invokestatic 82, 3) := by decide +kernel
theorem dX6_ruleBrokenIn_65 : decode cX6_ruleBrokenIn 65 = .ok (.iand, 1) := by decide +kernel
theorem dX6_ruleBrokenIn_66 : decode cX6_ruleBrokenIn 66 = .ok (.ifCond .eq 8, 3) := by decide +kernel
theorem dX6_ruleBrokenIn_69 : decode cX6_ruleBrokenIn 69 = .ok (.bipush 7, 2) := by decide +kernel
theorem dX6_ruleBrokenIn_71 : decode cX6_ruleBrokenIn 71 = .ok (.goto 4, 3) := by decide +kernel
theorem dX6_ruleBrokenIn_74 : decode cX6_ruleBrokenIn 74 = .ok (.iconst 0, 1) := by decide +kernel
theorem dX6_ruleBrokenIn_75 : decode cX6_ruleBrokenIn 75 = .ok (.ireturn, 1) := by decide +kernel
theorem dX6_ruleBrokenByPieces_0 : decode cX6_ruleBrokenByPieces 0 = .ok (.aload_n 0, 1) := by decide +kernel
theorem dX6_ruleBrokenByPieces_1 : decode cX6_ruleBrokenByPieces 1 = .ok (.iload_n 1, 1) := by decide +kernel
theorem dX6_ruleBrokenByPieces_2 : decode cX6_ruleBrokenByPieces 2 = .ok (.invokevirtual 69, 3) := by decide +kernel
theorem dX6_ruleBrokenByPieces_5 : decode cX6_ruleBrokenByPieces 5 = .ok (.astore_n 3, 1) := by decide +kernel
theorem dX6_ruleBrokenByPieces_6 : decode cX6_ruleBrokenByPieces 6 = .ok (.aload_n 0, 1) := by decide +kernel
theorem dX6_ruleBrokenByPieces_7 : decode cX6_ruleBrokenByPieces 7 = .ok (.aload_n 3, 1) := by decide +kernel
theorem dX6_ruleBrokenByPieces_8 : decode cX6_ruleBrokenByPieces 8 = .ok (.iload_n 2, 1) := by decide +kernel
theorem dX6_ruleBrokenByPieces_9 : decode cX6_ruleBrokenByPieces 9 = .ok (.invokevirtual 52, 3) := by decide +kernel
theorem dX6_ruleBrokenByPieces_12 : decode cX6_ruleBrokenByPieces 12 = .ok (.istore 4, 2) := by decide +kernel
theorem dX6_ruleBrokenByPieces_14 : decode cX6_ruleBrokenByPieces 14 = .ok (.iconst 0, 1) := by decide +kernel
theorem dX6_ruleBrokenByPieces_15 : decode cX6_ruleBrokenByPieces 15 = .ok (.istore 5, 2) := by decide +kernel
theorem dX6_ruleBrokenByPieces_17 : decode cX6_ruleBrokenByPieces 17 = .ok (.iconst 0, 1) := by decide +kernel
theorem dX6_ruleBrokenByPieces_18 : decode cX6_ruleBrokenByPieces 18 = .ok (.istore 6, 2) := by decide +kernel
theorem dX6_ruleBrokenByPieces_20 : decode cX6_ruleBrokenByPieces 20 = .ok (.iconst 1, 1) := by decide +kernel
theorem dX6_ruleBrokenByPieces_21 : decode cX6_ruleBrokenByPieces 21 = .ok (.istore 7, 2) := by decide +kernel
theorem dX6_ruleBrokenByPieces_23 : decode cX6_ruleBrokenByPieces 23 = .ok (.iload 7, 2) := by decide +kernel
theorem dX6_ruleBrokenByPieces_25 : decode cX6_ruleBrokenByPieces 25 = .ok (.aload_n 0, 1) := by decide +kernel
theorem dX6_ruleBrokenByPieces_26 : decode cX6_ruleBrokenByPieces 26 = .ok (.getfield 29, 3) := by decide +kernel
theorem dX6_ruleBrokenByPieces_29 : decode cX6_ruleBrokenByPieces 29 = .ok (.if_icmp .gt 68, 3) := by decide +kernel
theorem dX6_ruleBrokenByPieces_32 : decode cX6_ruleBrokenByPieces 32 = .ok (.iload 4, 2) := by decide +kernel
theorem dX6_ruleBrokenByPieces_34 : decode cX6_ruleBrokenByPieces 34 = .ok (.iload 7, 2) := by decide +kernel
theorem dX6_ruleBrokenByPieces_36 : decode cX6_ruleBrokenByPieces 36 = .ok (.ishr, 1) := by decide +kernel
theorem dX6_ruleBrokenByPieces_37 : decode cX6_ruleBrokenByPieces 37 = .ok (.iconst 1, 1) := by decide +kernel
theorem dX6_ruleBrokenByPieces_38 : decode cX6_ruleBrokenByPieces 38 = .ok (.iand, 1) := by decide +kernel
theorem dX6_ruleBrokenByPieces_39 : decode cX6_ruleBrokenByPieces 39 = .ok (.ifCond .eq 52, 3) := by decide +kernel
theorem dX6_ruleBrokenByPieces_42 : decode cX6_ruleBrokenByPieces 42 = .ok (.aload_n 3, 1) := by decide +kernel
theorem dX6_ruleBrokenByPieces_43 : decode cX6_ruleBrokenByPieces 43 = .ok (.iload 6, 2) := by decide +kernel
theorem dX6_ruleBrokenByPieces_45 : decode cX6_ruleBrokenByPieces 45 = .ok (.invokevirtual 56, 3) := by decide +kernel
theorem dX6_ruleBrokenByPieces_48 : decode cX6_ruleBrokenByPieces 48 = .ok (.ifCond .eq 7, 3) := by decide +kernel
theorem dX6_ruleBrokenByPieces_51 : decode cX6_ruleBrokenByPieces 51 = .ok (.iconst 0, 1) := by decide +kernel
theorem dX6_ruleBrokenByPieces_52 : decode cX6_ruleBrokenByPieces 52 = .ok (.goto 12, 3) := by decide +kernel
theorem dX6_ruleBrokenByPieces_55 : decode cX6_ruleBrokenByPieces 55 = .ok (.aload_n 0, 1) := by decide +kernel
theorem dX6_ruleBrokenByPieces_56 : decode cX6_ruleBrokenByPieces 56 = .ok (.iload_n 1, 1) := by decide +kernel
theorem dX6_ruleBrokenByPieces_57 : decode cX6_ruleBrokenByPieces 57 = .ok (.iload 6, 2) := by decide +kernel
theorem dX6_ruleBrokenByPieces_59 : decode cX6_ruleBrokenByPieces 59 = .ok (.iload 7, 2) := by decide +kernel
theorem dX6_ruleBrokenByPieces_61 : decode cX6_ruleBrokenByPieces 61 = .ok (.invokevirtual 85, 3) := by decide +kernel
theorem dX6_ruleBrokenByPieces_64 : decode cX6_ruleBrokenByPieces 64 = .ok (.istore 8, 2) := by decide +kernel
theorem dX6_ruleBrokenByPieces_66 : decode cX6_ruleBrokenByPieces 66 = .ok (.iload 8, 2) := by decide +kernel
theorem dX6_ruleBrokenByPieces_68 : decode cX6_ruleBrokenByPieces 68 = .ok (.ifCond .eq 19, 3) := by decide +kernel
theorem dX6_ruleBrokenByPieces_71 : decode cX6_ruleBrokenByPieces 71 = .ok (.iload 5, 2) := by decide +kernel
theorem dX6_ruleBrokenByPieces_73 : decode cX6_ruleBrokenByPieces 73 = .ok (.ifCond .eq 10, 3) := by decide +kernel
theorem dX6_ruleBrokenByPieces_76 : decode cX6_ruleBrokenByPieces 76 = .ok (.iload 8, 2) := by decide +kernel
theorem dX6_ruleBrokenByPieces_78 : decode cX6_ruleBrokenByPieces 78 = .ok (.iload 5, 2) := by decide +kernel
theorem dX6_ruleBrokenByPieces_80 : decode cX6_ruleBrokenByPieces 80 = .ok (.if_icmp .ge 7, 3) := by decide +kernel
theorem dX6_ruleBrokenByPieces_83 : decode cX6_ruleBrokenByPieces 83 = .ok (.iload 8, 2) := by decide +kernel
theorem dX6_ruleBrokenByPieces_85 : decode cX6_ruleBrokenByPieces 85 = .ok (.istore 5, 2) := by decide +kernel
theorem dX6_ruleBrokenByPieces_87 : decode cX6_ruleBrokenByPieces 87 = .ok (.iload 7, 2) := by decide +kernel
theorem dX6_ruleBrokenByPieces_89 : decode cX6_ruleBrokenByPieces 89 = .ok (.istore 6, 2) := by decide +kernel
theorem dX6_ruleBrokenByPieces_91 : decode cX6_ruleBrokenByPieces 91 = .ok (.iinc 7 1, 3) := by decide +kernel
theorem dX6_ruleBrokenByPieces_94 : decode cX6_ruleBrokenByPieces 94 = .ok (.goto (-71), 3) := by decide +kernel
theorem dX6_ruleBrokenByPieces_97 : decode cX6_ruleBrokenByPieces 97 = .ok (.iload 5, 2) := by decide +kernel
theorem dX6_ruleBrokenByPieces_99 : decode cX6_ruleBrokenByPieces 99 = .ok (.ireturn, 1) := by decide +kernel
theorem dX6_ruleBrokenByPiece_0 : decode cX6_ruleBrokenByPiece 0 = .ok (.iload_n 3, 1) := by decide +kernel
theorem dX6_ruleBrokenByPiece_1 : decode cX6_ruleBrokenByPiece 1 = .ok (.iload_n 2, 1) := by decide +kernel
theorem dX6_ruleBrokenByPiece_2 : decode cX6_ruleBrokenByPiece 2 = .ok (.isub, 1) := by decide +kernel
theorem dX6_ruleBrokenByPiece_3 : decode cX6_ruleBrokenByPiece 3 = .ok (.istore 4, 2) := by decide +kernel
theorem dX6_ruleBrokenByPiece_5 : decode cX6_ruleBrokenByPiece 5 = .ok (.aload_n 0, 1) := by decide +kernel
theorem dX6_ruleBrokenByPiece_6 : decode cX6_ruleBrokenByPiece 6 = .ok (.getfield 12, 3) := by decide +kernel
theorem dX6_ruleBrokenByPiece_9 : decode cX6_ruleBrokenByPiece 9 = .ok (.iload 4, 2) := by decide +kernel
theorem dX6_ruleBrokenByPiece_11 : decode cX6_ruleBrokenByPiece 11 = .ok (.invokevirtual 89, 3) := by decide +kernel
theorem dX6_ruleBrokenByPiece_14 : decode cX6_ruleBrokenByPiece 14 = .ok (.bipush (-9), 2) := by decide +kernel
theorem dX6_ruleBrokenByPiece_16 : decode cX6_ruleBrokenByPiece 16 = .ok (.if_icmp .ne 5, 3) := by decide +kernel
theorem dX6_ruleBrokenByPiece_19 : decode cX6_ruleBrokenByPiece 19 = .ok (.iconst 3, 1) := by decide +kernel
theorem dX6_ruleBrokenByPiece_20 : decode cX6_ruleBrokenByPiece 20 = .ok (.ireturn, 1) := by decide +kernel
theorem dX6_ruleBrokenByPiece_21 : decode cX6_ruleBrokenByPiece 21 = .ok (.iload_n 2, 1) := by decide +kernel
theorem dX6_ruleBrokenByPiece_22 : decode cX6_ruleBrokenByPiece 22 = .ok (.ifCond .ne 21, 3) := by decide +kernel
theorem dX6_ruleBrokenByPiece_25 : decode cX6_ruleBrokenByPiece 25 = .ok (.aload_n 0, 1) := by decide +kernel
theorem dX6_ruleBrokenByPiece_26 : decode cX6_ruleBrokenByPiece 26 = .ok (.getfield 12, 3) := by decide +kernel
theorem dX6_ruleBrokenByPiece_29 : decode cX6_ruleBrokenByPiece 29 = .ok (.iload_n 1, 1) := by decide +kernel
theorem dX6_ruleBrokenByPiece_30 : decode cX6_ruleBrokenByPiece 30 = .ok (.iconst 0, 1) := by decide +kernel
theorem dX6_ruleBrokenByPiece_31 : decode cX6_ruleBrokenByPiece 31 = .ok (.iload 4, 2) := by decide +kernel
theorem dX6_ruleBrokenByPiece_33 : decode cX6_ruleBrokenByPiece 33 = .ok (.invokevirtual 93, 3) := by decide +kernel
theorem dX6_ruleBrokenByPiece_36 : decode cX6_ruleBrokenByPiece 36 = .ok (.ifCond .ne 7, 3) := by decide +kernel
theorem dX6_ruleBrokenByPiece_39 : decode cX6_ruleBrokenByPiece 39 = .ok (.iconst 1, 1) := by decide +kernel
theorem dX6_ruleBrokenByPiece_40 : decode cX6_ruleBrokenByPiece 40 = .ok (.goto 4, 3) := by decide +kernel
theorem dX6_ruleBrokenByPiece_43 : decode cX6_ruleBrokenByPiece 43 = .ok (.iconst 0, 1) := by decide +kernel
theorem dX6_ruleBrokenByPiece_44 : decode cX6_ruleBrokenByPiece 44 = .ok (.istore 5, 2) := by decide +kernel
theorem dX6_ruleBrokenByPiece_46 : decode cX6_ruleBrokenByPiece 46 = .ok (.iload_n 3, 1) := by decide +kernel
theorem dX6_ruleBrokenByPiece_47 : decode cX6_ruleBrokenByPiece 47 = .ok (.aload_n 0, 1) := by decide +kernel
theorem dX6_ruleBrokenByPiece_48 : decode cX6_ruleBrokenByPiece 48 = .ok (.getfield 29, 3) := by decide +kernel
theorem dX6_ruleBrokenByPiece_51 : decode cX6_ruleBrokenByPiece 51 = .ok (.if_icmp .ne 21, 3) := by decide +kernel
theorem dX6_ruleBrokenByPiece_54 : decode cX6_ruleBrokenByPiece 54 = .ok (.aload_n 0, 1) := by decide +kernel
theorem dX6_ruleBrokenByPiece_55 : decode cX6_ruleBrokenByPiece 55 = .ok (.getfield 12, 3) := by decide +kernel
theorem dX6_ruleBrokenByPiece_58 : decode cX6_ruleBrokenByPiece 58 = .ok (.iload_n 1, 1) := by decide +kernel
theorem dX6_ruleBrokenByPiece_59 : decode cX6_ruleBrokenByPiece 59 = .ok (.iconst 1, 1) := by decide +kernel
theorem dX6_ruleBrokenByPiece_60 : decode cX6_ruleBrokenByPiece 60 = .ok (.iload 4, 2) := by decide +kernel
theorem dX6_ruleBrokenByPiece_62 : decode cX6_ruleBrokenByPiece 62 = .ok (.invokevirtual 93, 3) := by decide +kernel
theorem dX6_ruleBrokenByPiece_65 : decode cX6_ruleBrokenByPiece 65 = .ok (.ifCond .ne 7, 3) := by decide +kernel
theorem dX6_ruleBrokenByPiece_68 : decode cX6_ruleBrokenByPiece 68 = .ok (.iconst 1, 1) := by decide +kernel
theorem dX6_ruleBrokenByPiece_69 : decode cX6_ruleBrokenByPiece 69 = .ok (.goto 4, 3) := by decide +kernel
theorem dX6_ruleBrokenByPiece_72 : decode cX6_ruleBrokenByPiece 72 = .ok (.iconst 0, 1) := by decide +kernel
theorem dX6_ruleBrokenByPiece_73 : decode cX6_ruleBrokenByPiece 73 = .ok (.istore 6, 2) := by decide +kernel
theorem dX6_ruleBrokenByPiece_75 : decode cX6_ruleBrokenByPiece 75 = .ok (.iload 5, 2) := by decide +kernel
theorem dX6_ruleBrokenByPiece_77 : decode cX6_ruleBrokenByPiece 77 = .ok (.ifCond .ne 8, 3) := by decide +kernel
theorem dX6_ruleBrokenByPiece_80 : decode cX6_ruleBrokenByPiece 80 = .ok (.iload 6, 2) := by decide +kernel
theorem dX6_ruleBrokenByPiece_82 : decode cX6_ruleBrokenByPiece 82 = .ok (.ifCond .eq 5, 3) := by decide +kernel
theorem dX6_ruleBrokenByPiece_85 : decode cX6_ruleBrokenByPiece 85 = .ok (.iconst 4, 1) := by decide +kernel
theorem dX6_ruleBrokenByPiece_86 : decode cX6_ruleBrokenByPiece 86 = .ok (.ireturn, 1) := by decide +kernel
theorem dX6_ruleBrokenByPiece_87 : decode cX6_ruleBrokenByPiece 87 = .ok (.aload_n 0, 1) := by decide +kernel
theorem dX6_ruleBrokenByPiece_88 : decode cX6_ruleBrokenByPiece 88 = .ok (.iload_n 1, 1) := by decide +kernel
theorem dX6_ruleBrokenByPiece_89 : decode cX6_ruleBrokenByPiece 89 = .ok (.iconst 1, 1) := by decide +kernel
theorem dX6_ruleBrokenByPiece_90 : decode cX6_ruleBrokenByPiece 90 = .ok (.isub, 1) := by decide +kernel
theorem dX6_ruleBrokenByPiece_91 : decode cX6_ruleBrokenByPiece 91 = .ok (.invokevirtual 69, 3) := by decide +kernel
theorem dX6_ruleBrokenByPiece_94 : decode cX6_ruleBrokenByPiece 94 = .ok (.astore 7, 2) := by decide +kernel
theorem dX6_ruleBrokenByPiece_96 : decode cX6_ruleBrokenByPiece 96 = .ok (.aload 7, 2) := by decide +kernel
theorem dX6_ruleBrokenByPiece_98 : decode cX6_ruleBrokenByPiece 98 = .ok (.iload_n 2, 1) := by decide +kernel
theorem dX6_ruleBrokenByPiece_99 : decode cX6_ruleBrokenByPiece 99 = .ok (.invokevirtual 56, 3) := by decide +kernel
theorem dX6_ruleBrokenByPiece_102 : decode cX6_ruleBrokenByPiece 102 = .ok (.ifCond .ne 14, 3) := by decide +kernel
theorem dX6_ruleBrokenByPiece_105 : decode cX6_ruleBrokenByPiece 105 = .ok (.aload 7, 2) := by decide +kernel
theorem dX6_ruleBrokenByPiece_107 : decode cX6_ruleBrokenByPiece 107 = .ok (.iload_n 3, 1) := by decide +kernel
theorem dX6_ruleBrokenByPiece_108 : decode cX6_ruleBrokenByPiece 108 = .ok (.iconst 1, 1) := by decide +kernel
theorem dX6_ruleBrokenByPiece_109 : decode cX6_ruleBrokenByPiece 109 = .ok (.isub, 1) := by decide +kernel
theorem dX6_ruleBrokenByPiece_110 : decode cX6_ruleBrokenByPiece 110 = .ok (.invokevirtual 56, 3) := by decide +kernel
theorem dX6_ruleBrokenByPiece_113 : decode cX6_ruleBrokenByPiece 113 = .ok (.ifCond .eq 5, 3) := by decide +kernel
theorem dX6_ruleBrokenByPiece_116 : decode cX6_ruleBrokenByPiece 116 = .ok (.iconst 5, 1) := by decide +kernel
theorem dX6_ruleBrokenByPiece_117 : decode cX6_ruleBrokenByPiece 117 = .ok (.ireturn, 1) := by decide +kernel
theorem dX6_ruleBrokenByPiece_118 : decode cX6_ruleBrokenByPiece 118 = .ok (.iconst 1, 1) := by decide +kernel
theorem dX6_ruleBrokenByPiece_119 : decode cX6_ruleBrokenByPiece 119 = .ok (.iload_n 3, 1) := by decide +kernel
theorem dX6_ruleBrokenByPiece_120 : decode cX6_ruleBrokenByPiece 120 = .ok (.ishl, 1) := by decide +kernel
theorem dX6_ruleBrokenByPiece_121 : decode cX6_ruleBrokenByPiece 121 = .ok (.iconst 1, 1) := by decide +kernel
theorem dX6_ruleBrokenByPiece_122 : decode cX6_ruleBrokenByPiece 122 = .ok (.iload_n 2, 1) := by decide +kernel
theorem dX6_ruleBrokenByPiece_123 : decode cX6_ruleBrokenByPiece 123 = .ok (.ishl, 1) := by decide +kernel
theorem dX6_ruleBrokenByPiece_124 : decode cX6_ruleBrokenByPiece 124 = .ok (.isub, 1) := by decide +kernel
theorem dX6_ruleBrokenByPiece_125 : decode cX6_ruleBrokenByPiece 125 = .ok (.istore 8, 2) := by decide +kernel
theorem dX6_ruleBrokenByPiece_127 : decode cX6_ruleBrokenByPiece 127 = .ok (.iload 4, 2) := by decide +kernel
theorem dX6_ruleBrokenByPiece_129 : decode cX6_ruleBrokenByPiece 129 = .ok (.iconst 4, 1) := by decide +kernel
theorem dX6_ruleBrokenByPiece_130 : decode cX6_ruleBrokenByPiece 130 = .ok (.if_icmp .le 17, 3) := by decide +kernel
theorem dX6_ruleBrokenByPiece_133 : decode cX6_ruleBrokenByPiece 133 = .ok (.aload 7, 2) := by decide +kernel
theorem dX6_ruleBrokenByPiece_135 : decode cX6_ruleBrokenByPiece 135 = .ok (.getfield 97, 3) := by decide +kernel
theorem dX6_ruleBrokenByPiece_138 : decode cX6_ruleBrokenByPiece 138 = .ok (.iload 8, 2) := by decide +kernel
theorem dX6_ruleBrokenByPiece_140 : decode cX6_ruleBrokenByPiece 140 = .ok (.iand, 1) := by decide +kernel
theorem dX6_ruleBrokenByPiece_141 : decode cX6_ruleBrokenByPiece 141 = .ok (.ifCond .ne 6, 3) := by decide +kernel
theorem dX6_ruleBrokenByPiece_144 : decode cX6_ruleBrokenByPiece 144 = .ok (.bipush 6, 2) := by decide +kernel
theorem dX6_ruleBrokenByPiece_146 : decode cX6_ruleBrokenByPiece 146 = .ok (.ireturn, 1) := by decide +kernel
theorem dX6_ruleBrokenByPiece_147 : decode cX6_ruleBrokenByPiece 147 = .ok (.iconst 0, 1) := by decide +kernel
theorem dX6_ruleBrokenByPiece_148 : decode cX6_ruleBrokenByPiece 148 = .ok (.ireturn, 1) := by decide +kernel
theorem dX6_costBetween_0 : decode cX6_costBetween 0 = .ok (.aload_n 0, 1) := by decide +kernel
theorem dX6_costBetween_1 : decode cX6_costBetween 1 = .ok (.iload_n 1, 1) := by decide +kernel
theorem dX6_costBetween_2 : decode cX6_costBetween 2 = .ok (.invokevirtual 69, 3) := by decide +kernel
theorem dX6_costBetween_5 : decode cX6_costBetween 5 = .ok (.astore 4, 2) := by decide +kernel
theorem dX6_costBetween_7 : decode cX6_costBetween 7 = .ok (.aload_n 0, 1) := by decide +kernel
theorem dX6_costBetween_8 : decode cX6_costBetween 8 = .ok (.aload 4, 2) := by decide +kernel
theorem dX6_costBetween_10 : decode cX6_costBetween 10 = .ok (.iconst 1, 1) := by decide +kernel
theorem dX6_costBetween_11 : decode cX6_costBetween 11 = .ok (.iload_n 3, 1) := by decide +kernel
theorem dX6_costBetween_12 : decode cX6_costBetween 12 = .ok (.ishl, 1) := by decide +kernel
theorem dX6_costBetween_13 : decode cX6_costBetween 13 = .ok (.invokevirtual 52, 3) := by decide +kernel
theorem dX6_costBetween_16 : decode cX6_costBetween 16 = .ok (.istore 5, 2) := by decide +kernel
theorem dX6_costBetween_18 : decode cX6_costBetween 18 = .ok (.iconst 0, 1) := by decide +kernel
theorem dX6_costBetween_19 : decode cX6_costBetween 19 = .ok (.istore 6, 2) := by decide +kernel
theorem dX6_costBetween_21 : decode cX6_costBetween 21 = .ok (.iload_n 2, 1) := by decide +kernel
theorem dX6_costBetween_22 : decode cX6_costBetween 22 = .ok (.istore 7, 2) := by decide +kernel
theorem dX6_costBetween_24 : decode cX6_costBetween 24 = .ok (.iload_n 2, 1) := by decide +kernel
theorem dX6_costBetween_25 : decode cX6_costBetween 25 = .ok (.iconst 1, 1) := by decide +kernel
theorem dX6_costBetween_26 : decode cX6_costBetween 26 = .ok (.iadd, 1) := by decide +kernel
theorem dX6_costBetween_27 : decode cX6_costBetween 27 = .ok (.istore 8, 2) := by decide +kernel
theorem dX6_costBetween_29 : decode cX6_costBetween 29 = .ok (.iload 8, 2) := by decide +kernel
theorem dX6_costBetween_31 : decode cX6_costBetween 31 = .ok (.iload_n 3, 1) := by decide +kernel
theorem dX6_costBetween_32 : decode cX6_costBetween 32 = .ok (.if_icmp .gt 65, 3) := by decide +kernel
theorem dX6_costBetween_35 : decode cX6_costBetween 35 = .ok (.iload 5, 2) := by decide +kernel
theorem dX6_costBetween_37 : decode cX6_costBetween 37 = .ok (.iload 8, 2) := by decide +kernel
theorem dX6_costBetween_39 : decode cX6_costBetween 39 = .ok (.ishr, 1) := by decide +kernel
theorem dX6_costBetween_40 : decode cX6_costBetween 40 = .ok (.iconst 1, 1) := by decide +kernel
theorem dX6_costBetween_41 : decode cX6_costBetween 41 = .ok (.iand, 1) := by decide +kernel
theorem dX6_costBetween_42 : decode cX6_costBetween 42 = .ok (.ifCond .eq 49, 3) := by decide +kernel
theorem dX6_costBetween_45 : decode cX6_costBetween 45 = .ok (.aload 4, 2) := by decide +kernel
theorem dX6_costBetween_47 : decode cX6_costBetween 47 = .ok (.iload 7, 2) := by decide +kernel
theorem dX6_costBetween_49 : decode cX6_costBetween 49 = .ok (.invokevirtual 56, 3) := by decide +kernel
theorem dX6_costBetween_52 : decode cX6_costBetween 52 = .ok (.ifCond .ne 35, 3) := by decide +kernel
theorem dX6_costBetween_55 : decode cX6_costBetween 55 = .ok (.aload_n 0, 1) := by decide +kernel
theorem dX6_costBetween_56 : decode cX6_costBetween 56 = .ok (.iload_n 1, 1) := by decide +kernel
theorem dX6_costBetween_57 : decode cX6_costBetween 57 = .ok (.iload 7, 2) := by decide +kernel
theorem dX6_costBetween_59 : decode cX6_costBetween 59 = .ok (.iload 8, 2) := by decide +kernel
theorem dX6_costBetween_61 : decode cX6_costBetween 61 = .ok (.invokevirtual 85, 3) := by decide +kernel
theorem dX6_costBetween_64 : decode cX6_costBetween 64 = .ok (.ifCond .eq 6, 3) := by decide +kernel
theorem dX6_costBetween_67 : decode cX6_costBetween 67 = .ok (.ldc 100, 2) := by decide +kernel
theorem dX6_costBetween_69 : decode cX6_costBetween 69 = .ok (.ireturn, 1) := by decide +kernel
theorem dX6_costBetween_70 : decode cX6_costBetween 70 = .ok (.iload 6, 2) := by decide +kernel
theorem dX6_costBetween_72 : decode cX6_costBetween 72 = .ok (.aload_n 0, 1) := by decide +kernel
theorem dX6_costBetween_73 : decode cX6_costBetween 73 = .ok (.getfield 12, 3) := by decide +kernel
theorem dX6_costBetween_76 : decode cX6_costBetween 76 = .ok (.iload 8, 2) := by decide +kernel
theorem dX6_costBetween_78 : decode cX6_costBetween 78 = .ok (.iload 7, 2) := by decide +kernel
theorem dX6_costBetween_80 : decode cX6_costBetween 80 = .ok (.isub, 1) := by decide +kernel
theorem dX6_costBetween_81 : decode cX6_costBetween 81 = .ok (.invokevirtual 89, 3) := by decide +kernel
theorem dX6_costBetween_84 : decode cX6_costBetween 84 = .ok (.iadd, 1) := by decide +kernel
theorem dX6_costBetween_85 : decode cX6_costBetween 85 = .ok (.istore 6, 2) := by decide +kernel
theorem dX6_costBetween_87 : decode cX6_costBetween 87 = .ok (.iload 8, 2) := by decide +kernel
theorem dX6_costBetween_89 : decode cX6_costBetween 89 = .ok (.istore 7, 2) := by decide +kernel
theorem dX6_costBetween_91 : decode cX6_costBetween 91 = .ok (.iinc 8 1, 3) := by decide +kernel
theorem dX6_costBetween_94 : decode cX6_costBetween 94 = .ok (.goto (-65), 3) := by decide +kernel
theorem dX6_costBetween_97 : decode cX6_costBetween 97 = .ok (.iload 6, 2) := by decide +kernel
theorem dX6_costBetween_99 : decode cX6_costBetween 99 = .ok (.ireturn, 1) := by decide +kernel
theorem dX6_near_0 : decode cX6_near 0 = .ok (.iload_n 0, 1) := by decide +kernel
theorem dX6_near_1 : decode cX6_near 1 = .ok (.istore_n 2, 1) := by decide +kernel
theorem dX6_near_2 : decode cX6_near 2 = .ok (.iconst 1, 1) := by decide +kernel
theorem dX6_near_3 : decode cX6_near 3 = .ok (.istore_n 3, 1) := by decide +kernel
theorem dX6_near_4 : decode cX6_near 4 = .ok (.iload_n 3, 1) := by decide +kernel
theorem dX6_near_5 : decode cX6_near 5 = .ok (.iload_n 1, 1) := by decide +kernel
theorem dX6_near_6 : decode cX6_near 6 = .ok (.if_icmp .ge 19, 3) := by decide +kernel
theorem dX6_near_9 : decode cX6_near 9 = .ok (.iload_n 2, 1) := by decide +kernel
theorem dX6_near_10 : decode cX6_near 10 = .ok (.iload_n 0, 1) := by decide +kernel
theorem dX6_near_11 : decode cX6_near 11 = .ok (.iload_n 3, 1) := by decide +kernel
theorem dX6_near_12 : decode cX6_near 12 = .ok (.ishl, 1) := by decide +kernel
theorem dX6_near_13 : decode cX6_near 13 = .ok (.iload_n 0, 1) := by decide +kernel
theorem dX6_near_14 : decode cX6_near 14 = .ok (.iload_n 3, 1) := by decide +kernel
theorem dX6_near_15 : decode cX6_near 15 = .ok (.ishr, 1) := by decide +kernel
theorem dX6_near_16 : decode cX6_near 16 = .ok (.ior, 1) := by decide +kernel
theorem dX6_near_17 : decode cX6_near 17 = .ok (.ior, 1) := by decide +kernel
theorem dX6_near_18 : decode cX6_near 18 = .ok (.istore_n 2, 1) := by decide +kernel
theorem dX6_near_19 : decode cX6_near 19 = .ok (.iinc 3 1, 3) := by decide +kernel
theorem dX6_near_22 : decode cX6_near 22 = .ok (.goto (-18), 3) := by decide +kernel
theorem dX6_near_25 : decode cX6_near 25 = .ok (.iload_n 2, 1) := by decide +kernel
theorem dX6_near_26 : decode cX6_near 26 = .ok (.ireturn, 1) := by decide +kernel
theorem dX7_init_0 : decode cX7_init 0 = .ok (.aload_n 0, 1) := by decide +kernel
theorem dX7_init_1 : decode cX7_init 1 = .ok (.invokespecial 3, 3) := by decide +kernel
theorem dX7_init_4 : decode cX7_init 4 = .ok (.aload_n 0, 1) := by decide +kernel
theorem dX7_init_5 : decode cX7_init 5 = .ok (.new 9, 3) := by decide +kernel
theorem dX7_init_8 : decode cX7_init 8 = .ok (.dup, 1) := by decide +kernel
theorem dX7_init_9 : decode cX7_init 9 = .ok (.invokespecial 11, 3) := by decide +kernel
theorem dX7_init_12 : decode cX7_init 12 = .ok (.putfield 12, 3) := by decide +kernel
theorem dX7_init_15 : decode cX7_init 15 = .ok (.aload_n 0, 1) := by decide +kernel
theorem dX7_init_16 : decode cX7_init 16 = .ok (.new 18, 3) := by decide +kernel
theorem dX7_init_19 : decode cX7_init 19 = .ok (.dup, 1) := by decide +kernel
theorem dX7_init_20 : decode cX7_init 20 = .ok (.aload_n 0, 1) := by decide +kernel
theorem dX7_init_21 : decode cX7_init 21 = .ok (.getfield 12, 3) := by decide +kernel
theorem dX7_init_24 : decode cX7_init 24 = .ok (.invokespecial 20, 3) := by decide +kernel
theorem dX7_init_27 : decode cX7_init 27 = .ok (.putfield 23, 3) := by decide +kernel
theorem dX7_init_30 : decode cX7_init 30 = .ok (.aload_n 0, 1) := by decide +kernel
theorem dX7_init_31 : decode cX7_init 31 = .ok (.new 27, 3) := by decide +kernel
theorem dX7_init_34 : decode cX7_init 34 = .ok (.dup, 1) := by decide +kernel
theorem dX7_init_35 : decode cX7_init 35 = .ok (.aload_n 0, 1) := by decide +kernel
theorem dX7_init_36 : decode cX7_init 36 = .ok (.getfield 12, 3) := by decide +kernel
theorem dX7_init_39 : decode cX7_init 39 = .ok (.aload_n 0, 1) := by decide +kernel
theorem dX7_init_40 : decode cX7_init 40 = .ok (.getfield 23, 3) := by decide +kernel
theorem dX7_init_43 : decode cX7_init 43 = .ok (.invokespecial 29, 3) := by decide +kernel
theorem dX7_init_46 : decode cX7_init 46 = .ok (.putfield 32, 3) := by decide +kernel
theorem dX7_init_49 : decode cX7_init 49 = .ok (.aload_n 0, 1) := by decide +kernel
theorem dX7_init_50 : decode cX7_init 50 = .ok (.new 36, 3) := by decide +kernel
theorem dX7_init_53 : decode cX7_init 53 = .ok (.dup, 1) := by decide +kernel
theorem dX7_init_54 : decode cX7_init 54 = .ok (.aload_n 0, 1) := by decide +kernel
theorem dX7_init_55 : decode cX7_init 55 = .ok (.getfield 12, 3) := by decide +kernel
theorem dX7_init_58 : decode cX7_init 58 = .ok (.aload_n 0, 1) := by decide +kernel
theorem dX7_init_59 : decode cX7_init 59 = .ok (.getfield 23, 3) := by decide +kernel
theorem dX7_init_62 : decode cX7_init 62 = .ok (.invokespecial 38, 3) := by decide +kernel
theorem dX7_init_65 : decode cX7_init 65 = .ok (.putfield 39, 3) := by decide +kernel
theorem dX7_init_68 : decode cX7_init 68 = .ok (.aload_n 0, 1) := by decide +kernel
theorem dX7_init_69 : decode cX7_init 69 = .ok (.new 43, 3) := by decide +kernel
theorem dX7_init_72 : decode cX7_init 72 = .ok (.dup, 1) := by decide +kernel
theorem dX7_init_73 : decode cX7_init 73 = .ok (.invokespecial 45, 3) := by decide +kernel
theorem dX7_init_76 : decode cX7_init 76 = .ok (.putfield 46, 3) := by decide +kernel
theorem dX7_init_79 : decode cX7_init 79 = .ok (.return_, 1) := by decide +kernel
theorem dX7_width_0 : decode cX7_width 0 = .ok (.iload_n 1, 1) := by decide +kernel
theorem dX7_width_1 : decode cX7_width 1 = .ok (.iconst 2, 1) := by decide +kernel
theorem dX7_width_2 : decode cX7_width 2 = .ok (.if_icmp .lt 9, 3) := by decide +kernel
theorem dX7_width_5 : decode cX7_width 5 = .ok (.iload_n 1, 1) := by decide +kernel
theorem dX7_width_6 : decode cX7_width 6 = .ok (.bipush 10, 2) := by decide +kernel
theorem dX7_width_8 : decode cX7_width 8 = .ok (.if_icmp .le 6, 3) := by decide +kernel
theorem dX7_width_11 : decode cX7_width 11 = .ok (.bipush (-2), 2) := by decide +kernel
theorem dX7_width_13 : decode cX7_width 13 = .ok (.ireturn, 1) := by decide +kernel
theorem dX7_width_14 : decode cX7_width 14 = .ok (.aload_n 0, 1) := by decide +kernel
theorem dX7_width_15 : decode cX7_width 15 = .ok (.getfield 12, 3) := by decide +kernel
theorem dX7_width_18 : decode cX7_width 18 = .ok (.iload_n 1, 1) := by decide +kernel
theorem dX7_width_19 : decode cX7_width 19 = .ok (.putfield 50, 3) := by decide +kernel
theorem dX7_width_22 : decode cX7_width 22 = .ok (.aload_n 0, 1) := by decide +kernel
theorem dX7_width_23 : decode cX7_width 23 = .ok (.getfield 12, 3) := by decide +kernel
theorem dX7_width_26 : decode cX7_width 26 = .ok (.iconst 0, 1) := by decide +kernel
theorem dX7_width_27 : decode cX7_width 27 = .ok (.putfield 54, 3) := by decide +kernel
theorem dX7_width_30 : decode cX7_width 30 = .ok (.aload_n 0, 1) := by decide +kernel
theorem dX7_width_31 : decode cX7_width 31 = .ok (.invokevirtual 57, 3) := by decide +kernel
theorem dX7_width_34 : decode cX7_width 34 = .ok (.iconst 1, 1) := by decide +kernel
theorem dX7_width_35 : decode cX7_width 35 = .ok (.ireturn, 1) := by decide +kernel
theorem dX7_course_0 : decode cX7_course 0 = .ok (.aload_n 0, 1) := by decide +kernel
theorem dX7_course_1 : decode cX7_course 1 = .ok (.getfield 12, 3) := by decide +kernel
theorem dX7_course_4 : decode cX7_course 4 = .ok (.getfield 54, 3) := by decide +kernel
theorem dX7_course_7 : decode cX7_course 7 = .ok (.bipush 8, 2) := by decide +kernel
theorem dX7_course_9 : decode cX7_course 9 = .ok (.if_icmp .lt 6, 3) := by decide +kernel
theorem dX7_course_12 : decode cX7_course 12 = .ok (.bipush (-4), 2) := by decide +kernel
theorem dX7_course_14 : decode cX7_course 14 = .ok (.ireturn, 1) := by decide +kernel
theorem dX7_course_15 : decode cX7_course 15 = .ok (.aload_n 0, 1) := by decide +kernel
theorem dX7_course_16 : decode cX7_course 16 = .ok (.getfield 12, 3) := by decide +kernel
theorem dX7_course_19 : decode cX7_course 19 = .ok (.getfield 54, 3) := by decide +kernel
theorem dX7_course_22 : decode cX7_course 22 = .ok (.istore_n 1, 1) := by decide +kernel
theorem dX7_course_23 : decode cX7_course 23 = .ok (.aload_n 0, 1) := by decide +kernel
theorem dX7_course_24 : decode cX7_course 24 = .ok (.getfield 12, 3) := by decide +kernel
theorem dX7_course_27 : decode cX7_course 27 = .ok (.iload_n 1, 1) := by decide +kernel
theorem dX7_course_28 : decode cX7_course 28 = .ok (.iconst 1, 1) := by decide +kernel
theorem dX7_course_29 : decode cX7_course 29 = .ok (.iadd, 1) := by decide +kernel
theorem dX7_course_30 : decode cX7_course 30 = .ok (.putfield 54, 3) := by decide +kernel
theorem dX7_course_33 : decode cX7_course 33 = .ok (.aload_n 0, 1) := by decide +kernel
theorem dX7_course_34 : decode cX7_course 34 = .ok (.getfield 12, 3) := by decide +kernel
theorem dX7_course_37 : decode cX7_course 37 = .ok (.iload_n 1, 1) := by decide +kernel
theorem dX7_course_38 : decode cX7_course 38 = .ok (.invokevirtual 60, 3) := by decide +kernel
theorem dX7_course_41 : decode cX7_course 41 = .ok (.invokevirtual 64, 3) := by decide +kernel
theorem dX7_course_44 : decode cX7_course 44 = .ok (.aload_n 0, 1) := by decide +kernel
theorem dX7_course_45 : decode cX7_course 45 = .ok (.invokevirtual 57, 3) := by decide +kernel
theorem dX7_course_48 : decode cX7_course 48 = .ok (.iload_n 1, 1) := by decide +kernel
theorem dX7_course_49 : decode cX7_course 49 = .ok (.ireturn, 1) := by decide +kernel
theorem dX7_take_0 : decode cX7_take 0 = .ok (.aload_n 0, 1) := by decide +kernel
theorem dX7_take_1 : decode cX7_take 1 = .ok (.getfield 12, 3) := by decide +kernel
theorem dX7_take_4 : decode cX7_take 4 = .ok (.getfield 54, 3) := by decide +kernel
theorem dX7_take_7 : decode cX7_take 7 = .ok (.ifCond .gt 6, 3) := by decide +kernel
theorem dX7_take_10 : decode cX7_take 10 = .ok (.bipush (-3), 2) := by decide +kernel
theorem dX7_take_12 : decode cX7_take 12 = .ok (.ireturn, 1) := by decide +kernel
theorem dX7_take_13 : decode cX7_take 13 = .ok (.aload_n 0, 1) := by decide +kernel
theorem dX7_take_14 : decode cX7_take 14 = .ok (.getfield 12, 3) := by decide +kernel
theorem dX7_take_17 : decode cX7_take 17 = .ok (.dup, 1) := by decide +kernel
theorem dX7_take_18 : decode cX7_take 18 = .ok (.getfield 54, 3) := by decide +kernel
theorem dX7_take_21 : decode cX7_take 21 = .ok (.iconst 1, 1) := by decide +kernel
theorem dX7_take_22 : decode cX7_take 22 = .ok (.isub, 1) := by decide +kernel
theorem dX7_take_23 : decode cX7_take 23 = .ok (.putfield 54, 3) := by decide +kernel
theorem dX7_take_26 : decode cX7_take 26 = .ok (.aload_n 0, 1) := by decide +kernel
theorem dX7_take_27 : decode cX7_take 27 = .ok (.invokevirtual 57, 3) := by decide +kernel
theorem dX7_take_30 : decode cX7_take 30 = .ok (.aload_n 0, 1) := by decide +kernel
theorem dX7_take_31 : decode cX7_take 31 = .ok (.getfield 12, 3) := by decide +kernel
theorem dX7_take_34 : decode cX7_take 34 = .ok (.getfield 54, 3) := by decide +kernel
theorem dX7_take_37 : decode cX7_take 37 = .ok (.ireturn, 1) := by decide +kernel
theorem dX7_open_0 : decode cX7_open 0 = .ok (.aload_n 0, 1) := by decide +kernel
theorem dX7_open_1 : decode cX7_open 1 = .ok (.getfield 12, 3) := by decide +kernel
theorem dX7_open_4 : decode cX7_open 4 = .ok (.iload_n 1, 1) := by decide +kernel
theorem dX7_open_5 : decode cX7_open 5 = .ok (.invokevirtual 69, 3) := by decide +kernel
theorem dX7_open_8 : decode cX7_open 8 = .ok (.ifCond .ne 5, 3) := by decide +kernel
theorem dX7_open_11 : decode cX7_open 11 = .ok (.iconst (-1), 1) := by decide +kernel
theorem dX7_open_12 : decode cX7_open 12 = .ok (.ireturn, 1) := by decide +kernel
theorem dX7_open_13 : decode cX7_open 13 = .ok (.iload_n 2, 1) := by decide +kernel
theorem dX7_open_14 : decode cX7_open 14 = .ok (.aload_n 0, 1) := by decide +kernel
theorem dX7_open_15 : decode cX7_open 15 = .ok (.getfield 12, 3) := by decide +kernel
theorem dX7_open_18 : decode cX7_open 18 = .ok (.invokevirtual 73, 3) := by decide +kernel
theorem dX7_open_21 : decode cX7_open 21 = .ok (.iconst (-1), 1) := by decide +kernel
theorem dX7_open_22 : decode cX7_open 22 = .ok (.ixor, 1) := by decide +kernel
theorem dX7_open_23 : decode cX7_open 23 = .ok (.iand, 1) := by decide +kernel
theorem dX7_open_24 : decode cX7_open 24 = .ok (.ifCond .eq 6, 3) := by decide +kernel
theorem dX7_open_27 : decode cX7_open 27 = .ok (.bipush (-2), 2) := by decide +kernel
theorem dX7_open_29 : decode cX7_open 29 = .ok (.ireturn, 1) := by decide +kernel
theorem dX7_open_30 : decode cX7_open 30 = .ok (.aload_n 0, 1) := by decide +kernel
theorem dX7_open_31 : decode cX7_open 31 = .ok (.getfield 12, 3) := by decide +kernel
theorem dX7_open_34 : decode cX7_open 34 = .ok (.iload_n 1, 1) := by decide +kernel
theorem dX7_open_35 : decode cX7_open 35 = .ok (.invokevirtual 60, 3) := by decide +kernel
theorem dX7_open_38 : decode cX7_open 38 = .ok (.astore_n 3, 1) := by decide +kernel
theorem dX7_open_39 : decode cX7_open 39 = .ok (.aload_n 3, 1) := by decide +kernel
theorem dX7_open_40 : decode cX7_open 40 = .ok (.getfield 77, 3) := by decide +kernel
theorem dX7_open_43 : decode cX7_open 43 = .ok (.istore 4, 2) := by decide +kernel
theorem dX7_open_45 : decode cX7_open 45 = .ok (.aload_n 3, 1) := by decide +kernel
theorem dX7_open_46 : decode cX7_open 46 = .ok (.iload_n 2, 1) := by decide +kernel
theorem dX7_open_47 : decode cX7_open 47 = .ok (.putfield 77, 3) := by decide +kernel
theorem dX7_open_50 : decode cX7_open 50 = .ok (.aload_n 0, 1) := by decide +kernel
theorem dX7_open_51 : decode cX7_open 51 = .ok (.invokevirtual 57, 3) := by decide +kernel
theorem dX7_open_54 : decode cX7_open 54 = .ok (.iload 4, 2) := by decide +kernel
theorem dX7_open_56 : decode cX7_open 56 = .ok (.ireturn, 1) := by decide +kernel
theorem dX7_must_0 : decode cX7_must 0 = .ok (.aload_n 0, 1) := by decide +kernel
theorem dX7_must_1 : decode cX7_must 1 = .ok (.getfield 12, 3) := by decide +kernel
theorem dX7_must_4 : decode cX7_must 4 = .ok (.iload_n 1, 1) := by decide +kernel
theorem dX7_must_5 : decode cX7_must 5 = .ok (.invokevirtual 69, 3) := by decide +kernel
theorem dX7_must_8 : decode cX7_must 8 = .ok (.ifCond .ne 5, 3) := by decide +kernel
theorem dX7_must_11 : decode cX7_must 11 = .ok (.iconst (-1), 1) := by decide +kernel
theorem dX7_must_12 : decode cX7_must 12 = .ok (.ireturn, 1) := by decide +kernel
theorem dX7_must_13 : decode cX7_must 13 = .ok (.iload_n 2, 1) := by decide +kernel
theorem dX7_must_14 : decode cX7_must 14 = .ok (.ifCond .lt 22, 3) := by decide +kernel
theorem dX7_must_17 : decode cX7_must 17 = .ok (.iload_n 2, 1) := by decide +kernel
theorem dX7_must_18 : decode cX7_must 18 = .ok (.iconst 1, 1) := by decide +kernel
theorem dX7_must_19 : decode cX7_must 19 = .ok (.if_icmp .gt 17, 3) := by decide +kernel
theorem dX7_must_22 : decode cX7_must 22 = .ok (.iload_n 3, 1) := by decide +kernel
theorem dX7_must_23 : decode cX7_must 23 = .ok (.aload_n 0, 1) := by decide +kernel
theorem dX7_must_24 : decode cX7_must 24 = .ok (.getfield 12, 3) := by decide +kernel
theorem dX7_must_27 : decode cX7_must 27 = .ok (.invokevirtual 80, 3) := by decide +kernel
theorem dX7_must_30 : decode cX7_must 30 = .ok (.iconst (-1), 1) := by decide +kernel
theorem dX7_must_31 : decode cX7_must 31 = .ok (.ixor, 1) := by decide +kernel
theorem dX7_must_32 : decode cX7_must 32 = .ok (.iand, 1) := by decide +kernel
theorem dX7_must_33 : decode cX7_must 33 = .ok (.ifCond .eq 6, 3) := by decide +kernel
theorem dX7_must_36 : decode cX7_must 36 = .ok (.bipush (-2), 2) := by decide +kernel
theorem dX7_must_38 : decode cX7_must 38 = .ok (.ireturn, 1) := by decide +kernel
theorem dX7_must_39 : decode cX7_must 39 = .ok (.aload_n 0, 1) := by decide +kernel
theorem dX7_must_40 : decode cX7_must 40 = .ok (.getfield 12, 3) := by decide +kernel
theorem dX7_must_43 : decode cX7_must 43 = .ok (.iload_n 1, 1) := by decide +kernel
theorem dX7_must_44 : decode cX7_must 44 = .ok (.invokevirtual 60, 3) := by decide +kernel
theorem dX7_must_47 : decode cX7_must 47 = .ok (.astore 4, 2) := by decide +kernel
theorem dX7_must_49 : decode cX7_must 49 = .ok (.iload_n 2, 1) := by decide +kernel
theorem dX7_must_50 : decode cX7_must 50 = .ok (.iconst 1, 1) := by decide +kernel
theorem dX7_must_51 : decode cX7_must 51 = .ok (.if_icmp .ne 19, 3) := by decide +kernel
theorem dX7_must_54 : decode cX7_must 54 = .ok (.aload 4, 2) := by decide +kernel
theorem dX7_must_56 : decode cX7_must 56 = .ok (.getfield 83, 3) := by decide +kernel
theorem dX7_must_59 : decode cX7_must 59 = .ok (.istore 5, 2) := by decide +kernel
theorem dX7_must_61 : decode cX7_must 61 = .ok (.aload 4, 2) := by decide +kernel
theorem dX7_must_63 : decode cX7_must 63 = .ok (.iload_n 3, 1) := by decide +kernel
theorem dX7_must_64 : decode cX7_must 64 = .ok (.putfield 83, 3) := by decide +kernel
theorem dX7_must_67 : decode cX7_must 67 = .ok (.goto 16, 3) := by decide +kernel
theorem dX7_must_70 : decode cX7_must 70 = .ok (.aload 4, 2) := by decide +kernel
theorem dX7_must_72 : decode cX7_must 72 = .ok (.getfield 86, 3) := by decide +kernel
theorem dX7_must_75 : decode cX7_must 75 = .ok (.istore 5, 2) := by decide +kernel
theorem dX7_must_77 : decode cX7_must 77 = .ok (.aload 4, 2) := by decide +kernel
theorem dX7_must_79 : decode cX7_must 79 = .ok (.iload_n 3, 1) := by decide +kernel
theorem dX7_must_80 : decode cX7_must 80 = .ok (.putfield 86, 3) := by decide +kernel
theorem dX7_must_83 : decode cX7_must 83 = .ok (.aload_n 0, 1) := by decide +kernel
theorem dX7_must_84 : decode cX7_must 84 = .ok (.invokevirtual 57, 3) := by decide +kernel
theorem dX7_must_87 : decode cX7_must 87 = .ok (.iload 5, 2) := by decide +kernel
theorem dX7_must_89 : decode cX7_must 89 = .ok (.ireturn, 1) := by decide +kernel
theorem dX7_price_0 : decode cX7_price 0 = .ok (.iload_n 2, 1) := by decide +kernel
theorem dX7_price_1 : decode cX7_price 1 = .ok (.bipush (-9), 2) := by decide +kernel
theorem dX7_price_3 : decode cX7_price 3 = .ok (.if_icmp .eq 13, 3) := by decide +kernel
theorem dX7_price_6 : decode cX7_price 6 = .ok (.iload_n 2, 1) := by decide +kernel
theorem dX7_price_7 : decode cX7_price 7 = .ok (.ifCond .lt 13, 3) := by decide +kernel
theorem dX7_price_10 : decode cX7_price 10 = .ok (.iload_n 2, 1) := by decide +kernel
theorem dX7_price_11 : decode cX7_price 11 = .ok (.bipush 99, 2) := by decide +kernel
theorem dX7_price_13 : decode cX7_price 13 = .ok (.if_icmp .gt 7, 3) := by decide +kernel
theorem dX7_price_16 : decode cX7_price 16 = .ok (.iconst 1, 1) := by decide +kernel
theorem dX7_price_17 : decode cX7_price 17 = .ok (.goto 4, 3) := by decide +kernel
theorem dX7_price_20 : decode cX7_price 20 = .ok (.iconst 0, 1) := by decide +kernel
theorem dX7_price_21 : decode cX7_price 21 = .ok (.istore_n 3, 1) := by decide +kernel
theorem dX7_price_22 : decode cX7_price 22 = .ok (.iload_n 1, 1) := by decide +kernel
theorem dX7_price_23 : decode cX7_price 23 = .ok (.iconst 1, 1) := by decide +kernel
theorem dX7_price_24 : decode cX7_price 24 = .ok (.if_icmp .lt 13, 3) := by decide +kernel
theorem dX7_price_27 : decode cX7_price 27 = .ok (.iload_n 1, 1) := by decide +kernel
theorem dX7_price_28 : decode cX7_price 28 = .ok (.bipush 6, 2) := by decide +kernel
theorem dX7_price_30 : decode cX7_price 30 = .ok (.if_icmp .gt 7, 3) := by decide +kernel
theorem dX7_price_33 : decode cX7_price 33 = .ok (.iload_n 3, 1) := by decide +kernel
theorem dX7_price_34 : decode cX7_price 34 = .ok (.ifCond .ne 6, 3) := by decide +kernel
theorem dX7_price_37 : decode cX7_price 37 = .ok (.bipush (-2), 2) := by decide +kernel
theorem dX7_price_39 : decode cX7_price 39 = .ok (.ireturn, 1) := by decide +kernel
theorem dX7_price_40 : decode cX7_price 40 = .ok (.aload_n 0, 1) := by decide +kernel
theorem dX7_price_41 : decode cX7_price 41 = .ok (.getfield 12, 3) := by decide +kernel
theorem dX7_price_44 : decode cX7_price 44 = .ok (.getfield 89, 3) := by decide +kernel
theorem dX7_price_47 : decode cX7_price 47 = .ok (.iload_n 1, 1) := by decide +kernel
theorem dX7_price_48 : decode cX7_price 48 = .ok (.invokevirtual 93, 3) := by decide +kernel
theorem dX7_price_51 : decode cX7_price 51 = .ok (.istore 4, 2) := by decide +kernel
theorem dX7_price_53 : decode cX7_price 53 = .ok (.aload_n 0, 1) := by decide +kernel
theorem dX7_price_54 : decode cX7_price 54 = .ok (.getfield 12, 3) := by decide +kernel
theorem dX7_price_57 : decode cX7_price 57 = .ok (.getfield 89, 3) := by decide +kernel
theorem dX7_price_60 : decode cX7_price 60 = .ok (.getfield 99, 3) := by decide +kernel
theorem dX7_price_63 : decode cX7_price 63 = .ok (.iload_n 1, 1) := by decide +kernel
theorem dX7_price_64 : decode cX7_price 64 = .ok (.iload_n 2, 1) := by decide +kernel
theorem dX7_price_65 : decode cX7_price 65 = .ok (.iastore, 1) := by decide +kernel
theorem dX7_price_66 : decode cX7_price 66 = .ok (.aload_n 0, 1) := by decide +kernel
theorem dX7_price_67 : decode cX7_price 67 = .ok (.invokevirtual 57, 3) := by decide +kernel
theorem dX7_price_70 : decode cX7_price 70 = .ok (.iload 4, 2) := by decide +kernel
theorem dX7_price_72 : decode cX7_price 72 = .ok (.ireturn, 1) := by decide +kernel
theorem dX7_lap_0 : decode cX7_lap 0 = .ok (.iload_n 1, 1) := by decide +kernel
theorem dX7_lap_1 : decode cX7_lap 1 = .ok (.iconst 1, 1) := by decide +kernel
theorem dX7_lap_2 : decode cX7_lap 2 = .ok (.if_icmp .lt 8, 3) := by decide +kernel
theorem dX7_lap_5 : decode cX7_lap 5 = .ok (.iload_n 1, 1) := by decide +kernel
theorem dX7_lap_6 : decode cX7_lap 6 = .ok (.iconst 3, 1) := by decide +kernel
theorem dX7_lap_7 : decode cX7_lap 7 = .ok (.if_icmp .le 6, 3) := by decide +kernel
theorem dX7_lap_10 : decode cX7_lap 10 = .ok (.bipush (-2), 2) := by decide +kernel
theorem dX7_lap_12 : decode cX7_lap 12 = .ok (.ireturn, 1) := by decide +kernel
theorem dX7_lap_13 : decode cX7_lap 13 = .ok (.aload_n 0, 1) := by decide +kernel
theorem dX7_lap_14 : decode cX7_lap 14 = .ok (.getfield 12, 3) := by decide +kernel
theorem dX7_lap_17 : decode cX7_lap 17 = .ok (.getfield 103, 3) := by decide +kernel
theorem dX7_lap_20 : decode cX7_lap 20 = .ok (.istore_n 2, 1) := by decide +kernel
theorem dX7_lap_21 : decode cX7_lap 21 = .ok (.aload_n 0, 1) := by decide +kernel
theorem dX7_lap_22 : decode cX7_lap 22 = .ok (.getfield 12, 3) := by decide +kernel
theorem dX7_lap_25 : decode cX7_lap 25 = .ok (.iload_n 1, 1) := by decide +kernel
theorem dX7_lap_26 : decode cX7_lap 26 = .ok (.putfield 103, 3) := by decide +kernel
theorem dX7_lap_29 : decode cX7_lap 29 = .ok (.iload_n 2, 1) := by decide +kernel
theorem dX7_lap_30 : decode cX7_lap 30 = .ok (.ireturn, 1) := by decide +kernel
theorem dX7_ends_0 : decode cX7_ends 0 = .ok (.iload_n 1, 1) := by decide +kernel
theorem dX7_ends_1 : decode cX7_ends 1 = .ok (.ifCond .lt 24, 3) := by decide +kernel
theorem dX7_ends_4 : decode cX7_ends 4 = .ok (.iload_n 1, 1) := by decide +kernel
theorem dX7_ends_5 : decode cX7_ends 5 = .ok (.iconst 1, 1) := by decide +kernel
theorem dX7_ends_6 : decode cX7_ends 6 = .ok (.if_icmp .gt 19, 3) := by decide +kernel
theorem dX7_ends_9 : decode cX7_ends 9 = .ok (.iload_n 2, 1) := by decide +kernel
theorem dX7_ends_10 : decode cX7_ends 10 = .ok (.ifCond .lt 15, 3) := by decide +kernel
theorem dX7_ends_13 : decode cX7_ends 13 = .ok (.iload_n 2, 1) := by decide +kernel
theorem dX7_ends_14 : decode cX7_ends 14 = .ok (.iconst 1, 1) := by decide +kernel
theorem dX7_ends_15 : decode cX7_ends 15 = .ok (.if_icmp .gt 10, 3) := by decide +kernel
theorem dX7_ends_18 : decode cX7_ends 18 = .ok (.iload_n 3, 1) := by decide +kernel
theorem dX7_ends_19 : decode cX7_ends 19 = .ok (.bipush (-127), 2) := by decide +kernel
theorem dX7_ends_21 : decode cX7_ends 21 = .ok (.iand, 1) := by decide +kernel
theorem dX7_ends_22 : decode cX7_ends 22 = .ok (.ifCond .eq 6, 3) := by decide +kernel
theorem dX7_ends_25 : decode cX7_ends 25 = .ok (.bipush (-2), 2) := by decide +kernel
theorem dX7_ends_27 : decode cX7_ends 27 = .ok (.ireturn, 1) := by decide +kernel
theorem dX7_ends_28 : decode cX7_ends 28 = .ok (.aload_n 0, 1) := by decide +kernel
theorem dX7_ends_29 : decode cX7_ends 29 = .ok (.getfield 12, 3) := by decide +kernel
theorem dX7_ends_32 : decode cX7_ends 32 = .ok (.getfield 89, 3) := by decide +kernel
theorem dX7_ends_35 : decode cX7_ends 35 = .ok (.getfield 106, 3) := by decide +kernel
theorem dX7_ends_38 : decode cX7_ends 38 = .ok (.iload_n 1, 1) := by decide +kernel
theorem dX7_ends_39 : decode cX7_ends 39 = .ok (.aaload, 1) := by decide +kernel
theorem dX7_ends_40 : decode cX7_ends 40 = .ok (.astore 4, 2) := by decide +kernel
theorem dX7_ends_42 : decode cX7_ends 42 = .ok (.aload 4, 2) := by decide +kernel
theorem dX7_ends_44 : decode cX7_ends 44 = .ok (.iload_n 2, 1) := by decide +kernel
theorem dX7_ends_45 : decode cX7_ends 45 = .ok (.iaload, 1) := by decide +kernel
theorem dX7_ends_46 : decode cX7_ends 46 = .ok (.istore 5, 2) := by decide +kernel
theorem dX7_ends_48 : decode cX7_ends 48 = .ok (.aload 4, 2) := by decide +kernel
theorem dX7_ends_50 : decode cX7_ends 50 = .ok (.iload_n 2, 1) := by decide +kernel
theorem dX7_ends_51 : decode cX7_ends 51 = .ok (.iload_n 3, 1) := by decide +kernel
theorem dX7_ends_52 : decode cX7_ends 52 = .ok (.iastore, 1) := by decide +kernel
theorem dX7_ends_53 : decode cX7_ends 53 = .ok (.aload_n 0, 1) := by decide +kernel
theorem dX7_ends_54 : decode cX7_ends 54 = .ok (.invokevirtual 57, 3) := by decide +kernel
theorem dX7_ends_57 : decode cX7_ends 57 = .ok (.iload 5, 2) := by decide +kernel
theorem dX7_ends_59 : decode cX7_ends 59 = .ok (.ireturn, 1) := by decide +kernel
theorem dX7_ofCourse_0 : decode cX7_ofCourse 0 = .ok (.aload_n 0, 1) := by decide +kernel
theorem dX7_ofCourse_1 : decode cX7_ofCourse 1 = .ok (.getfield 12, 3) := by decide +kernel
theorem dX7_ofCourse_4 : decode cX7_ofCourse 4 = .ok (.iload_n 1, 1) := by decide +kernel
theorem dX7_ofCourse_5 : decode cX7_ofCourse 5 = .ok (.invokevirtual 69, 3) := by decide +kernel
theorem dX7_ofCourse_8 : decode cX7_ofCourse 8 = .ok (.ifCond .ne 5, 3) := by decide +kernel
theorem dX7_ofCourse_11 : decode cX7_ofCourse 11 = .ok (.iconst (-1), 1) := by decide +kernel
theorem dX7_ofCourse_12 : decode cX7_ofCourse 12 = .ok (.ireturn, 1) := by decide +kernel
theorem dX7_ofCourse_13 : decode cX7_ofCourse 13 = .ok (.aload_n 0, 1) := by decide +kernel
theorem dX7_ofCourse_14 : decode cX7_ofCourse 14 = .ok (.getfield 12, 3) := by decide +kernel
theorem dX7_ofCourse_17 : decode cX7_ofCourse 17 = .ok (.iload_n 1, 1) := by decide +kernel
theorem dX7_ofCourse_18 : decode cX7_ofCourse 18 = .ok (.invokevirtual 60, 3) := by decide +kernel
theorem dX7_ofCourse_21 : decode cX7_ofCourse 21 = .ok (.astore_n 3, 1) := by decide +kernel
theorem dX7_ofCourse_22 : decode cX7_ofCourse 22 = .ok (.iload_n 2, 1) := by decide +kernel
theorem dX7_ofCourse_23 : decode cX7_ofCourse 23 = .ok (.tableswitch 59 0 4 #[33, 38, 43, 48, 54], 33) := by decide +kernel
theorem dX7_ofCourse_56 : decode cX7_ofCourse 56 = .ok (.aload_n 3, 1) := by decide +kernel
theorem dX7_ofCourse_57 : decode cX7_ofCourse 57 = .ok (.getfield 77, 3) := by decide +kernel
theorem dX7_ofCourse_60 : decode cX7_ofCourse 60 = .ok (.ireturn, 1) := by decide +kernel
theorem dX7_ofCourse_61 : decode cX7_ofCourse 61 = .ok (.aload_n 3, 1) := by decide +kernel
theorem dX7_ofCourse_62 : decode cX7_ofCourse 62 = .ok (.getfield 83, 3) := by decide +kernel
theorem dX7_ofCourse_65 : decode cX7_ofCourse 65 = .ok (.ireturn, 1) := by decide +kernel
theorem dX7_ofCourse_66 : decode cX7_ofCourse 66 = .ok (.aload_n 3, 1) := by decide +kernel
theorem dX7_ofCourse_67 : decode cX7_ofCourse 67 = .ok (.getfield 86, 3) := by decide +kernel
theorem dX7_ofCourse_70 : decode cX7_ofCourse 70 = .ok (.ireturn, 1) := by decide +kernel
theorem dX7_ofCourse_71 : decode cX7_ofCourse 71 = .ok (.aload_n 0, 1) := by decide +kernel
theorem dX7_ofCourse_72 : decode cX7_ofCourse 72 = .ok (.aload_n 3, 1) := by decide +kernel
theorem dX7_ofCourse_73 : decode cX7_ofCourse 73 = .ok (.invokevirtual 110, 3) := by decide +kernel
theorem dX7_ofCourse_76 : decode cX7_ofCourse 76 = .ok (.ireturn, 1) := by decide +kernel
theorem dX7_ofCourse_77 : decode cX7_ofCourse 77 = .ok (.aload_n 3, 1) := by decide +kernel
theorem dX7_ofCourse_78 : decode cX7_ofCourse 78 = .ok (.getfield 114, 3) := by decide +kernel
theorem dX7_ofCourse_81 : decode cX7_ofCourse 81 = .ok (.ireturn, 1) := by decide +kernel
theorem dX7_ofCourse_82 : decode cX7_ofCourse 82 = .ok (.bipush (-2), 2) := by decide +kernel
theorem dX7_ofCourse_84 : decode cX7_ofCourse 84 = .ok (.ireturn, 1) := by decide +kernel
theorem dX7_row_0 : decode cX7_row 0 = .ok (.aload_n 0, 1) := by decide +kernel
theorem dX7_row_1 : decode cX7_row 1 = .ok (.getfield 12, 3) := by decide +kernel
theorem dX7_row_4 : decode cX7_row 4 = .ok (.iload_n 1, 1) := by decide +kernel
theorem dX7_row_5 : decode cX7_row 5 = .ok (.invokevirtual 69, 3) := by decide +kernel
theorem dX7_row_8 : decode cX7_row 8 = .ok (.ifCond .ne 5, 3) := by decide +kernel
theorem dX7_row_11 : decode cX7_row 11 = .ok (.iconst (-1), 1) := by decide +kernel
theorem dX7_row_12 : decode cX7_row 12 = .ok (.ireturn, 1) := by decide +kernel
theorem dX7_row_13 : decode cX7_row 13 = .ok (.iload_n 2, 1) := by decide +kernel
theorem dX7_row_14 : decode cX7_row 14 = .ok (.iconst (-1), 1) := by decide +kernel
theorem dX7_row_15 : decode cX7_row 15 = .ok (.if_icmp .lt 10, 3) := by decide +kernel
theorem dX7_row_18 : decode cX7_row 18 = .ok (.iload_n 2, 1) := by decide +kernel
theorem dX7_row_19 : decode cX7_row 19 = .ok (.sipush 512, 3) := by decide +kernel
theorem dX7_row_22 : decode cX7_row 22 = .ok (.if_icmp .lt 6, 3) := by decide +kernel
theorem dX7_row_25 : decode cX7_row 25 = .ok (.bipush (-2), 2) := by decide +kernel
theorem dX7_row_27 : decode cX7_row 27 = .ok (.ireturn, 1) := by decide +kernel
theorem dX7_row_28 : decode cX7_row 28 = .ok (.aload_n 0, 1) := by decide +kernel
theorem dX7_row_29 : decode cX7_row 29 = .ok (.getfield 23, 3) := by decide +kernel
theorem dX7_row_32 : decode cX7_row 32 = .ok (.invokevirtual 117, 3) := by decide +kernel
theorem dX7_row_35 : decode cX7_row 35 = .ok (.iload_n 2, 1) := by decide +kernel
theorem dX7_row_36 : decode cX7_row 36 = .ok (.iconst (-1), 1) := by decide +kernel
theorem dX7_row_37 : decode cX7_row 37 = .ok (.if_icmp .ne 14, 3) := by decide +kernel
theorem dX7_row_40 : decode cX7_row 40 = .ok (.aload_n 0, 1) := by decide +kernel
theorem dX7_row_41 : decode cX7_row 41 = .ok (.getfield 23, 3) := by decide +kernel
theorem dX7_row_44 : decode cX7_row 44 = .ok (.iload_n 1, 1) := by decide +kernel
theorem dX7_row_45 : decode cX7_row 45 = .ok (.invokevirtual 120, 3) := by decide +kernel
theorem dX7_row_48 : decode cX7_row 48 = .ok (.goto 12, 3) := by decide +kernel
theorem dX7_row_51 : decode cX7_row 51 = .ok (.aload_n 0, 1) := by decide +kernel
theorem dX7_row_52 : decode cX7_row 52 = .ok (.getfield 23, 3) := by decide +kernel
theorem dX7_row_55 : decode cX7_row 55 = .ok (.iload_n 1, 1) := by decide +kernel
theorem dX7_row_56 : decode cX7_row 56 = .ok (.iload_n 2, 1) := by decide +kernel
theorem dX7_row_57 : decode cX7_row 57 = .ok (.invokevirtual 123, 3) := by decide +kernel
theorem dX7_row_60 : decode cX7_row 60 = .ok (.ireturn, 1) := by decide +kernel
theorem dX7_walls_0 : decode cX7_walls 0 = .ok (.aload_n 0, 1) := by decide +kernel
theorem dX7_walls_1 : decode cX7_walls 1 = .ok (.getfield 32, 3) := by decide +kernel
theorem dX7_walls_4 : decode cX7_walls 4 = .ok (.aload_n 0, 1) := by decide +kernel
theorem dX7_walls_5 : decode cX7_walls 5 = .ok (.getfield 12, 3) := by decide +kernel
theorem dX7_walls_8 : decode cX7_walls 8 = .ok (.getfield 103, 3) := by decide +kernel
theorem dX7_walls_11 : decode cX7_walls 11 = .ok (.invokevirtual 127, 3) := by decide +kernel
theorem dX7_walls_14 : decode cX7_walls 14 = .ok (.aload_n 0, 1) := by decide +kernel
theorem dX7_walls_15 : decode cX7_walls 15 = .ok (.getfield 32, 3) := by decide +kernel
theorem dX7_walls_18 : decode cX7_walls 18 = .ok (.getfield 130, 3) := by decide +kernel
theorem dX7_walls_21 : decode cX7_walls 21 = .ok (.lreturn, 1) := by decide +kernel
theorem dX7_best_0 : decode cX7_best 0 = .ok (.aload_n 0, 1) := by decide +kernel
theorem dX7_best_1 : decode cX7_best 1 = .ok (.getfield 39, 3) := by decide +kernel
theorem dX7_best_4 : decode cX7_best 4 = .ok (.aload_n 0, 1) := by decide +kernel
theorem dX7_best_5 : decode cX7_best 5 = .ok (.getfield 12, 3) := by decide +kernel
theorem dX7_best_8 : decode cX7_best 8 = .ok (.getfield 103, 3) := by decide +kernel
theorem dX7_best_11 : decode cX7_best 11 = .ok (.invokevirtual 134, 3) := by decide +kernel
theorem dX7_best_14 : decode cX7_best 14 = .ok (.aload_n 0, 1) := by decide +kernel
theorem dX7_best_15 : decode cX7_best 15 = .ok (.getfield 39, 3) := by decide +kernel
theorem dX7_best_18 : decode cX7_best 18 = .ok (.invokevirtual 135, 3) := by decide +kernel
theorem dX7_best_21 : decode cX7_best 21 = .ok (.ifCond .eq 8, 3) := by decide +kernel
theorem dX7_best_24 : decode cX7_best 24 = .ok (.bipush (-9), 2) := by decide +kernel
theorem dX7_best_26 : decode cX7_best 26 = .ok (.goto 10, 3) := by decide +kernel
theorem dX7_best_29 : decode cX7_best 29 = .ok (.aload_n 0, 1) := by decide +kernel
theorem dX7_best_30 : decode cX7_best 30 = .ok (.getfield 39, 3) := by decide +kernel
theorem dX7_best_33 : decode cX7_best 33 = .ok (.getfield 139, 3) := by decide +kernel
theorem dX7_best_36 : decode cX7_best 36 = .ok (.ireturn, 1) := by decide +kernel
theorem dX7_bestRow_0 : decode cX7_bestRow 0 = .ok (.aload_n 0, 1) := by decide +kernel
theorem dX7_bestRow_1 : decode cX7_bestRow 1 = .ok (.getfield 12, 3) := by decide +kernel
theorem dX7_bestRow_4 : decode cX7_bestRow 4 = .ok (.iload_n 1, 1) := by decide +kernel
theorem dX7_bestRow_5 : decode cX7_bestRow 5 = .ok (.invokevirtual 69, 3) := by decide +kernel
theorem dX7_bestRow_8 : decode cX7_bestRow 8 = .ok (.ifCond .ne 5, 3) := by decide +kernel
theorem dX7_bestRow_11 : decode cX7_bestRow 11 = .ok (.iconst (-1), 1) := by decide +kernel
theorem dX7_bestRow_12 : decode cX7_bestRow 12 = .ok (.ireturn, 1) := by decide +kernel
theorem dX7_bestRow_13 : decode cX7_bestRow 13 = .ok (.aload_n 0, 1) := by decide +kernel
theorem dX7_bestRow_14 : decode cX7_bestRow 14 = .ok (.getfield 39, 3) := by decide +kernel
theorem dX7_bestRow_17 : decode cX7_bestRow 17 = .ok (.aload_n 0, 1) := by decide +kernel
theorem dX7_bestRow_18 : decode cX7_bestRow 18 = .ok (.getfield 12, 3) := by decide +kernel
theorem dX7_bestRow_21 : decode cX7_bestRow 21 = .ok (.getfield 103, 3) := by decide +kernel
theorem dX7_bestRow_24 : decode cX7_bestRow 24 = .ok (.invokevirtual 134, 3) := by decide +kernel
theorem dX7_bestRow_27 : decode cX7_bestRow 27 = .ok (.aload_n 0, 1) := by decide +kernel
theorem dX7_bestRow_28 : decode cX7_bestRow 28 = .ok (.getfield 39, 3) := by decide +kernel
theorem dX7_bestRow_31 : decode cX7_bestRow 31 = .ok (.invokevirtual 135, 3) := by decide +kernel
theorem dX7_bestRow_34 : decode cX7_bestRow 34 = .ok (.ifCond .eq 8, 3) := by decide +kernel
theorem dX7_bestRow_37 : decode cX7_bestRow 37 = .ok (.bipush (-3), 2) := by decide +kernel
theorem dX7_bestRow_39 : decode cX7_bestRow 39 = .ok (.goto 11, 3) := by decide +kernel
theorem dX7_bestRow_42 : decode cX7_bestRow 42 = .ok (.aload_n 0, 1) := by decide +kernel
theorem dX7_bestRow_43 : decode cX7_bestRow 43 = .ok (.getfield 39, 3) := by decide +kernel
theorem dX7_bestRow_46 : decode cX7_bestRow 46 = .ok (.iload_n 1, 1) := by decide +kernel
theorem dX7_bestRow_47 : decode cX7_bestRow 47 = .ok (.invokevirtual 142, 3) := by decide +kernel
theorem dX7_bestRow_50 : decode cX7_bestRow 50 = .ok (.ireturn, 1) := by decide +kernel
theorem dX7_bestOf_0 : decode cX7_bestOf 0 = .ok (.iload_n 1, 1) := by decide +kernel
theorem dX7_bestOf_1 : decode cX7_bestOf 1 = .ok (.iconst 1, 1) := by decide +kernel
theorem dX7_bestOf_2 : decode cX7_bestOf 2 = .ok (.if_icmp .lt 9, 3) := by decide +kernel
theorem dX7_bestOf_5 : decode cX7_bestOf 5 = .ok (.iload_n 1, 1) := by decide +kernel
theorem dX7_bestOf_6 : decode cX7_bestOf 6 = .ok (.bipush 6, 2) := by decide +kernel
theorem dX7_bestOf_8 : decode cX7_bestOf 8 = .ok (.if_icmp .le 6, 3) := by decide +kernel
theorem dX7_bestOf_11 : decode cX7_bestOf 11 = .ok (.bipush (-2), 2) := by decide +kernel
theorem dX7_bestOf_13 : decode cX7_bestOf 13 = .ok (.ireturn, 1) := by decide +kernel
theorem dX7_bestOf_14 : decode cX7_bestOf 14 = .ok (.aload_n 0, 1) := by decide +kernel
theorem dX7_bestOf_15 : decode cX7_bestOf 15 = .ok (.getfield 39, 3) := by decide +kernel
theorem dX7_bestOf_18 : decode cX7_bestOf 18 = .ok (.aload_n 0, 1) := by decide +kernel
theorem dX7_bestOf_19 : decode cX7_bestOf 19 = .ok (.getfield 12, 3) := by decide +kernel
theorem dX7_bestOf_22 : decode cX7_bestOf 22 = .ok (.getfield 103, 3) := by decide +kernel
theorem dX7_bestOf_25 : decode cX7_bestOf 25 = .ok (.invokevirtual 134, 3) := by decide +kernel
theorem dX7_bestOf_28 : decode cX7_bestOf 28 = .ok (.aload_n 0, 1) := by decide +kernel
theorem dX7_bestOf_29 : decode cX7_bestOf 29 = .ok (.getfield 39, 3) := by decide +kernel
theorem dX7_bestOf_32 : decode cX7_bestOf 32 = .ok (.invokevirtual 135, 3) := by decide +kernel
theorem dX7_bestOf_35 : decode cX7_bestOf 35 = .ok (.ifCond .eq 6, 3) := by decide +kernel
theorem dX7_bestOf_38 : decode cX7_bestOf 38 = .ok (.bipush (-3), 2) := by decide +kernel
theorem dX7_bestOf_40 : decode cX7_bestOf 40 = .ok (.ireturn, 1) := by decide +kernel
theorem dX7_bestOf_41 : decode cX7_bestOf 41 = .ok (.aload_n 0, 1) := by decide +kernel
theorem dX7_bestOf_42 : decode cX7_bestOf 42 = .ok (.getfield 46, 3) := by decide +kernel
theorem dX7_bestOf_45 : decode cX7_bestOf 45 = .ok (.invokevirtual 144, 3) := by decide +kernel
theorem dX7_bestOf_48 : decode cX7_bestOf 48 = .ok (.iconst 0, 1) := by decide +kernel
theorem dX7_bestOf_49 : decode cX7_bestOf 49 = .ok (.istore_n 2, 1) := by decide +kernel
theorem dX7_bestOf_50 : decode cX7_bestOf 50 = .ok (.iload_n 2, 1) := by decide +kernel
theorem dX7_bestOf_51 : decode cX7_bestOf 51 = .ok (.aload_n 0, 1) := by decide +kernel
theorem dX7_bestOf_52 : decode cX7_bestOf 52 = .ok (.getfield 12, 3) := by decide +kernel
theorem dX7_bestOf_55 : decode cX7_bestOf 55 = .ok (.getfield 54, 3) := by decide +kernel
theorem dX7_bestOf_58 : decode cX7_bestOf 58 = .ok (.if_icmp .ge 36, 3) := by decide +kernel
theorem dX7_bestOf_61 : decode cX7_bestOf 61 = .ok (.aload_n 0, 1) := by decide +kernel
theorem dX7_bestOf_62 : decode cX7_bestOf 62 = .ok (.getfield 12, 3) := by decide +kernel
theorem dX7_bestOf_65 : decode cX7_bestOf 65 = .ok (.aload_n 0, 1) := by decide +kernel
theorem dX7_bestOf_66 : decode cX7_bestOf 66 = .ok (.getfield 12, 3) := by decide +kernel
theorem dX7_bestOf_69 : decode cX7_bestOf 69 = .ok (.iload_n 2, 1) := by decide +kernel
theorem dX7_bestOf_70 : decode cX7_bestOf 70 = .ok (.invokevirtual 60, 3) := by decide +kernel
theorem dX7_bestOf_73 : decode cX7_bestOf 73 = .ok (.aload_n 0, 1) := by decide +kernel
theorem dX7_bestOf_74 : decode cX7_bestOf 74 = .ok (.getfield 39, 3) := by decide +kernel
theorem dX7_bestOf_77 : decode cX7_bestOf 77 = .ok (.iload_n 2, 1) := by decide +kernel
theorem dX7_bestOf_78 : decode cX7_bestOf 78 = .ok (.invokevirtual 142, 3) := by decide +kernel
theorem dX7_bestOf_81 : decode cX7_bestOf 81 = .ok (.aload_n 0, 1) := by decide +kernel
theorem dX7_bestOf_82 : decode cX7_bestOf 82 = .ok (.getfield 46, 3) := by decide +kernel
theorem dX7_bestOf_85 : decode cX7_bestOf 85 = .ok (.invokevirtual 145, 3) := by decide +kernel
theorem dX7_bestOf_88 : decode cX7_bestOf 88 = .ok (.iinc 2 1, 3) := by decide +kernel
theorem dX7_bestOf_91 : decode cX7_bestOf 91 = .ok (.goto (-41), 3) := by decide +kernel
theorem dX7_bestOf_94 : decode cX7_bestOf 94 = .ok (.aload_n 0, 1) := by decide +kernel
theorem dX7_bestOf_95 : decode cX7_bestOf 95 = .ok (.getfield 46, 3) := by decide +kernel
theorem dX7_bestOf_98 : decode cX7_bestOf 98 = .ok (.iload_n 1, 1) := by decide +kernel
theorem dX7_bestOf_99 : decode cX7_bestOf 99 = .ok (.invokevirtual 149, 3) := by decide +kernel
theorem dX7_bestOf_102 : decode cX7_bestOf 102 = .ok (.ireturn, 1) := by decide +kernel
theorem dX7_highest_0 : decode cX7_highest 0 = .ok (.aload_n 0, 1) := by decide +kernel
theorem dX7_highest_1 : decode cX7_highest 1 = .ok (.getfield 32, 3) := by decide +kernel
theorem dX7_highest_4 : decode cX7_highest 4 = .ok (.aload_n 0, 1) := by decide +kernel
theorem dX7_highest_5 : decode cX7_highest 5 = .ok (.getfield 12, 3) := by decide +kernel
theorem dX7_highest_8 : decode cX7_highest 8 = .ok (.getfield 103, 3) := by decide +kernel
theorem dX7_highest_11 : decode cX7_highest 11 = .ok (.invokevirtual 127, 3) := by decide +kernel
theorem dX7_highest_14 : decode cX7_highest 14 = .ok (.aload_n 0, 1) := by decide +kernel
theorem dX7_highest_15 : decode cX7_highest 15 = .ok (.getfield 32, 3) := by decide +kernel
theorem dX7_highest_18 : decode cX7_highest 18 = .ok (.getfield 152, 3) := by decide +kernel
theorem dX7_highest_21 : decode cX7_highest 21 = .ok (.ireturn, 1) := by decide +kernel
theorem dX7_byLap_0 : decode cX7_byLap 0 = .ok (.iload_n 1, 1) := by decide +kernel
theorem dX7_byLap_1 : decode cX7_byLap 1 = .ok (.iconst 1, 1) := by decide +kernel
theorem dX7_byLap_2 : decode cX7_byLap 2 = .ok (.if_icmp .lt 8, 3) := by decide +kernel
theorem dX7_byLap_5 : decode cX7_byLap 5 = .ok (.iload_n 1, 1) := by decide +kernel
theorem dX7_byLap_6 : decode cX7_byLap 6 = .ok (.iconst 3, 1) := by decide +kernel
theorem dX7_byLap_7 : decode cX7_byLap 7 = .ok (.if_icmp .le 6, 3) := by decide +kernel
theorem dX7_byLap_10 : decode cX7_byLap 10 = .ok (.bipush (-2), 2) := by decide +kernel
theorem dX7_byLap_12 : decode cX7_byLap 12 = .ok (.ireturn, 1) := by decide +kernel
theorem dX7_byLap_13 : decode cX7_byLap 13 = .ok (.aload_n 0, 1) := by decide +kernel
theorem dX7_byLap_14 : decode cX7_byLap 14 = .ok (.getfield 39, 3) := by decide +kernel
theorem dX7_byLap_17 : decode cX7_byLap 17 = .ok (.iload_n 1, 1) := by decide +kernel
theorem dX7_byLap_18 : decode cX7_byLap 18 = .ok (.invokevirtual 134, 3) := by decide +kernel
theorem dX7_byLap_21 : decode cX7_byLap 21 = .ok (.aload_n 0, 1) := by decide +kernel
theorem dX7_byLap_22 : decode cX7_byLap 22 = .ok (.getfield 39, 3) := by decide +kernel
theorem dX7_byLap_25 : decode cX7_byLap 25 = .ok (.invokevirtual 135, 3) := by decide +kernel
theorem dX7_byLap_28 : decode cX7_byLap 28 = .ok (.ifCond .eq 8, 3) := by decide +kernel
theorem dX7_byLap_31 : decode cX7_byLap 31 = .ok (.bipush (-9), 2) := by decide +kernel
theorem dX7_byLap_33 : decode cX7_byLap 33 = .ok (.goto 10, 3) := by decide +kernel
theorem dX7_byLap_36 : decode cX7_byLap 36 = .ok (.aload_n 0, 1) := by decide +kernel
theorem dX7_byLap_37 : decode cX7_byLap 37 = .ok (.getfield 39, 3) := by decide +kernel
theorem dX7_byLap_40 : decode cX7_byLap 40 = .ok (.getfield 139, 3) := by decide +kernel
theorem dX7_byLap_43 : decode cX7_byLap 43 = .ok (.ireturn, 1) := by decide +kernel
theorem dX7_lay_0 : decode cX7_lay 0 = .ok (.aload_n 0, 1) := by decide +kernel
theorem dX7_lay_1 : decode cX7_lay 1 = .ok (.getfield 12, 3) := by decide +kernel
theorem dX7_lay_4 : decode cX7_lay 4 = .ok (.iload_n 1, 1) := by decide +kernel
theorem dX7_lay_5 : decode cX7_lay 5 = .ok (.invokevirtual 69, 3) := by decide +kernel
theorem dX7_lay_8 : decode cX7_lay 8 = .ok (.ifCond .ne 5, 3) := by decide +kernel
theorem dX7_lay_11 : decode cX7_lay 11 = .ok (.iconst (-1), 1) := by decide +kernel
theorem dX7_lay_12 : decode cX7_lay 12 = .ok (.ireturn, 1) := by decide +kernel
theorem dX7_lay_13 : decode cX7_lay 13 = .ok (.iload_n 2, 1) := by decide +kernel
theorem dX7_lay_14 : decode cX7_lay 14 = .ok (.aload_n 0, 1) := by decide +kernel
theorem dX7_lay_15 : decode cX7_lay 15 = .ok (.getfield 12, 3) := by decide +kernel
theorem dX7_lay_18 : decode cX7_lay 18 = .ok (.invokevirtual 80, 3) := by decide +kernel
theorem dX7_lay_21 : decode cX7_lay 21 = .ok (.iconst (-1), 1) := by decide +kernel
theorem dX7_lay_22 : decode cX7_lay 22 = .ok (.ixor, 1) := by decide +kernel
theorem dX7_lay_23 : decode cX7_lay 23 = .ok (.iand, 1) := by decide +kernel
theorem dX7_lay_24 : decode cX7_lay 24 = .ok (.ifCond .eq 6, 3) := by decide +kernel
theorem dX7_lay_27 : decode cX7_lay 27 = .ok (.bipush (-2), 2) := by decide +kernel
theorem dX7_lay_29 : decode cX7_lay 29 = .ok (.ireturn, 1) := by decide +kernel
theorem dX7_lay_30 : decode cX7_lay 30 = .ok (.aload_n 0, 1) := by decide +kernel
theorem dX7_lay_31 : decode cX7_lay 31 = .ok (.getfield 12, 3) := by decide +kernel
theorem dX7_lay_34 : decode cX7_lay 34 = .ok (.iload_n 1, 1) := by decide +kernel
theorem dX7_lay_35 : decode cX7_lay 35 = .ok (.invokevirtual 60, 3) := by decide +kernel
theorem dX7_lay_38 : decode cX7_lay 38 = .ok (.astore_n 3, 1) := by decide +kernel
theorem dX7_lay_39 : decode cX7_lay 39 = .ok (.aload_n 3, 1) := by decide +kernel
theorem dX7_lay_40 : decode cX7_lay 40 = .ok (.getfield 114, 3) := by decide +kernel
theorem dX7_lay_43 : decode cX7_lay 43 = .ok (.istore 4, 2) := by decide +kernel
theorem dX7_lay_45 : decode cX7_lay 45 = .ok (.aload_n 3, 1) := by decide +kernel
theorem dX7_lay_46 : decode cX7_lay 46 = .ok (.iload_n 2, 1) := by decide +kernel
theorem dX7_lay_47 : decode cX7_lay 47 = .ok (.putfield 114, 3) := by decide +kernel
theorem dX7_lay_50 : decode cX7_lay 50 = .ok (.iload 4, 2) := by decide +kernel
theorem dX7_lay_52 : decode cX7_lay 52 = .ok (.ireturn, 1) := by decide +kernel
theorem dX7_layBest_0 : decode cX7_layBest 0 = .ok (.aload_n 0, 1) := by decide +kernel
theorem dX7_layBest_1 : decode cX7_layBest 1 = .ok (.getfield 39, 3) := by decide +kernel
theorem dX7_layBest_4 : decode cX7_layBest 4 = .ok (.aload_n 0, 1) := by decide +kernel
theorem dX7_layBest_5 : decode cX7_layBest 5 = .ok (.getfield 12, 3) := by decide +kernel
theorem dX7_layBest_8 : decode cX7_layBest 8 = .ok (.getfield 103, 3) := by decide +kernel
theorem dX7_layBest_11 : decode cX7_layBest 11 = .ok (.invokevirtual 134, 3) := by decide +kernel
theorem dX7_layBest_14 : decode cX7_layBest 14 = .ok (.aload_n 0, 1) := by decide +kernel
theorem dX7_layBest_15 : decode cX7_layBest 15 = .ok (.getfield 39, 3) := by decide +kernel
theorem dX7_layBest_18 : decode cX7_layBest 18 = .ok (.invokevirtual 135, 3) := by decide +kernel
theorem dX7_layBest_21 : decode cX7_layBest 21 = .ok (.ifCond .eq 6, 3) := by decide +kernel
theorem dX7_layBest_24 : decode cX7_layBest 24 = .ok (.bipush (-3), 2) := by decide +kernel
theorem dX7_layBest_26 : decode cX7_layBest 26 = .ok (.ireturn, 1) := by decide +kernel
theorem dX7_layBest_27 : decode cX7_layBest 27 = .ok (.iconst 0, 1) := by decide +kernel
theorem dX7_layBest_28 : decode cX7_layBest 28 = .ok (.istore_n 1, 1) := by decide +kernel
theorem dX7_layBest_29 : decode cX7_layBest 29 = .ok (.iload_n 1, 1) := by decide +kernel
theorem dX7_layBest_30 : decode cX7_layBest 30 = .ok (.aload_n 0, 1) := by decide +kernel
theorem dX7_layBest_31 : decode cX7_layBest 31 = .ok (.getfield 12, 3) := by decide +kernel
theorem dX7_layBest_34 : decode cX7_layBest 34 = .ok (.getfield 54, 3) := by decide +kernel
theorem dX7_layBest_37 : decode cX7_layBest 37 = .ok (.if_icmp .ge 28, 3) := by decide +kernel
theorem dX7_layBest_40 : decode cX7_layBest 40 = .ok (.aload_n 0, 1) := by decide +kernel
theorem dX7_layBest_41 : decode cX7_layBest 41 = .ok (.getfield 12, 3) := by decide +kernel
theorem dX7_layBest_44 : decode cX7_layBest 44 = .ok (.iload_n 1, 1) := by decide +kernel
theorem dX7_layBest_45 : decode cX7_layBest 45 = .ok (.invokevirtual 60, 3) := by decide +kernel
theorem dX7_layBest_48 : decode cX7_layBest 48 = .ok (.aload_n 0, 1) := by decide +kernel
theorem dX7_layBest_49 : decode cX7_layBest 49 = .ok (.getfield 39, 3) := by decide +kernel
theorem dX7_layBest_52 : decode cX7_layBest 52 = .ok (.iload_n 1, 1) := by decide +kernel
theorem dX7_layBest_53 : decode cX7_layBest 53 = .ok (.invokevirtual 142, 3) := by decide +kernel
theorem dX7_layBest_56 : decode cX7_layBest 56 = .ok (.putfield 114, 3) := by decide +kernel
theorem dX7_layBest_59 : decode cX7_layBest 59 = .ok (.iinc 1 1, 3) := by decide +kernel
theorem dX7_layBest_62 : decode cX7_layBest 62 = .ok (.goto (-33), 3) := by decide +kernel
theorem dX7_layBest_65 : decode cX7_layBest 65 = .ok (.aload_n 0, 1) := by decide +kernel
theorem dX7_layBest_66 : decode cX7_layBest 66 = .ok (.getfield 39, 3) := by decide +kernel
theorem dX7_layBest_69 : decode cX7_layBest 69 = .ok (.getfield 139, 3) := by decide +kernel
theorem dX7_layBest_72 : decode cX7_layBest 72 = .ok (.ireturn, 1) := by decide +kernel
theorem dX7_wrong_0 : decode cX7_wrong 0 = .ok (.iload_n 1, 1) := by decide +kernel
theorem dX7_wrong_1 : decode cX7_wrong 1 = .ok (.ifCond .lt 8, 3) := by decide +kernel
theorem dX7_wrong_4 : decode cX7_wrong 4 = .ok (.iload_n 1, 1) := by decide +kernel
theorem dX7_wrong_5 : decode cX7_wrong 5 = .ok (.iconst 1, 1) := by decide +kernel
theorem dX7_wrong_6 : decode cX7_wrong 6 = .ok (.if_icmp .le 6, 3) := by decide +kernel
theorem dX7_wrong_9 : decode cX7_wrong 9 = .ok (.bipush (-2), 2) := by decide +kernel
theorem dX7_wrong_11 : decode cX7_wrong 11 = .ok (.ireturn, 1) := by decide +kernel
theorem dX7_wrong_12 : decode cX7_wrong 12 = .ok (.iconst 0, 1) := by decide +kernel
theorem dX7_wrong_13 : decode cX7_wrong 13 = .ok (.istore_n 2, 1) := by decide +kernel
theorem dX7_wrong_14 : decode cX7_wrong 14 = .ok (.iload_n 2, 1) := by decide +kernel
theorem dX7_wrong_15 : decode cX7_wrong 15 = .ok (.aload_n 0, 1) := by decide +kernel
theorem dX7_wrong_16 : decode cX7_wrong 16 = .ok (.getfield 12, 3) := by decide +kernel
theorem dX7_wrong_19 : decode cX7_wrong 19 = .ok (.getfield 54, 3) := by decide +kernel
theorem dX7_wrong_22 : decode cX7_wrong 22 = .ok (.if_icmp .ge 32, 3) := by decide +kernel
theorem dX7_wrong_25 : decode cX7_wrong 25 = .ok (.aload_n 0, 1) := by decide +kernel
theorem dX7_wrong_26 : decode cX7_wrong 26 = .ok (.getfield 12, 3) := by decide +kernel
theorem dX7_wrong_29 : decode cX7_wrong 29 = .ok (.iload_n 2, 1) := by decide +kernel
theorem dX7_wrong_30 : decode cX7_wrong 30 = .ok (.invokevirtual 155, 3) := by decide +kernel
theorem dX7_wrong_33 : decode cX7_wrong 33 = .ok (.istore_n 3, 1) := by decide +kernel
theorem dX7_wrong_34 : decode cX7_wrong 34 = .ok (.iload_n 3, 1) := by decide +kernel
theorem dX7_wrong_35 : decode cX7_wrong 35 = .ok (.ifCond .eq 13, 3) := by decide +kernel
theorem dX7_wrong_38 : decode cX7_wrong 38 = .ok (.iload_n 1, 1) := by decide +kernel
theorem dX7_wrong_39 : decode cX7_wrong 39 = .ok (.ifCond .ne 7, 3) := by decide +kernel
theorem dX7_wrong_42 : decode cX7_wrong 42 = .ok (.iload_n 2, 1) := by decide +kernel
theorem dX7_wrong_43 : decode cX7_wrong 43 = .ok (.goto 4, 3) := by decide +kernel
theorem dX7_wrong_46 : decode cX7_wrong 46 = .ok (.iload_n 3, 1) := by decide +kernel
theorem dX7_wrong_47 : decode cX7_wrong 47 = .ok (.ireturn, 1) := by decide +kernel
theorem dX7_wrong_48 : decode cX7_wrong 48 = .ok (.iinc 2 1, 3) := by decide +kernel
theorem dX7_wrong_51 : decode cX7_wrong 51 = .ok (.goto (-37), 3) := by decide +kernel
theorem dX7_wrong_54 : decode cX7_wrong 54 = .ok (.bipush (-9), 2) := by decide +kernel
theorem dX7_wrong_56 : decode cX7_wrong 56 = .ok (.ireturn, 1) := by decide +kernel
theorem dX7_cost_0 : decode cX7_cost 0 = .ok (.aload_n 0, 1) := by decide +kernel
theorem dX7_cost_1 : decode cX7_cost 1 = .ok (.invokevirtual 158, 3) := by decide +kernel
theorem dX7_cost_4 : decode cX7_cost 4 = .ok (.aload_n 0, 1) := by decide +kernel
theorem dX7_cost_5 : decode cX7_cost 5 = .ok (.getfield 46, 3) := by decide +kernel
theorem dX7_cost_8 : decode cX7_cost 8 = .ok (.aload_n 0, 1) := by decide +kernel
theorem dX7_cost_9 : decode cX7_cost 9 = .ok (.getfield 12, 3) := by decide +kernel
theorem dX7_cost_12 : decode cX7_cost 12 = .ok (.getfield 89, 3) := by decide +kernel
theorem dX7_cost_15 : decode cX7_cost 15 = .ok (.invokevirtual 161, 3) := by decide +kernel
theorem dX7_cost_18 : decode cX7_cost 18 = .ok (.ireturn, 1) := by decide +kernel
theorem dX7_pieces_0 : decode cX7_pieces 0 = .ok (.iload_n 1, 1) := by decide +kernel
theorem dX7_pieces_1 : decode cX7_pieces 1 = .ok (.iconst 1, 1) := by decide +kernel
theorem dX7_pieces_2 : decode cX7_pieces 2 = .ok (.if_icmp .lt 9, 3) := by decide +kernel
theorem dX7_pieces_5 : decode cX7_pieces 5 = .ok (.iload_n 1, 1) := by decide +kernel
theorem dX7_pieces_6 : decode cX7_pieces 6 = .ok (.bipush 10, 2) := by decide +kernel
theorem dX7_pieces_8 : decode cX7_pieces 8 = .ok (.if_icmp .le 6, 3) := by decide +kernel
theorem dX7_pieces_11 : decode cX7_pieces 11 = .ok (.bipush (-2), 2) := by decide +kernel
theorem dX7_pieces_13 : decode cX7_pieces 13 = .ok (.ireturn, 1) := by decide +kernel
theorem dX7_pieces_14 : decode cX7_pieces 14 = .ok (.aload_n 0, 1) := by decide +kernel
theorem dX7_pieces_15 : decode cX7_pieces 15 = .ok (.invokevirtual 158, 3) := by decide +kernel
theorem dX7_pieces_18 : decode cX7_pieces 18 = .ok (.aload_n 0, 1) := by decide +kernel
theorem dX7_pieces_19 : decode cX7_pieces 19 = .ok (.getfield 46, 3) := by decide +kernel
theorem dX7_pieces_22 : decode cX7_pieces 22 = .ok (.iload_n 1, 1) := by decide +kernel
theorem dX7_pieces_23 : decode cX7_pieces 23 = .ok (.invokevirtual 149, 3) := by decide +kernel
theorem dX7_pieces_26 : decode cX7_pieces 26 = .ok (.ireturn, 1) := by decide +kernel
theorem dX7_piece_0 : decode cX7_piece 0 = .ok (.aload_n 0, 1) := by decide +kernel
theorem dX7_piece_1 : decode cX7_piece 1 = .ok (.getfield 12, 3) := by decide +kernel
theorem dX7_piece_4 : decode cX7_piece 4 = .ok (.iload_n 1, 1) := by decide +kernel
theorem dX7_piece_5 : decode cX7_piece 5 = .ok (.invokevirtual 69, 3) := by decide +kernel
theorem dX7_piece_8 : decode cX7_piece 8 = .ok (.ifCond .ne 5, 3) := by decide +kernel
theorem dX7_piece_11 : decode cX7_piece 11 = .ok (.iconst (-1), 1) := by decide +kernel
theorem dX7_piece_12 : decode cX7_piece 12 = .ok (.ireturn, 1) := by decide +kernel
theorem dX7_piece_13 : decode cX7_piece 13 = .ok (.iload_n 2, 1) := by decide +kernel
theorem dX7_piece_14 : decode cX7_piece 14 = .ok (.ifCond .lt 14, 3) := by decide +kernel
theorem dX7_piece_17 : decode cX7_piece 17 = .ok (.iload_n 2, 1) := by decide +kernel
theorem dX7_piece_18 : decode cX7_piece 18 = .ok (.aload_n 0, 1) := by decide +kernel
theorem dX7_piece_19 : decode cX7_piece 19 = .ok (.getfield 12, 3) := by decide +kernel
theorem dX7_piece_22 : decode cX7_piece 22 = .ok (.getfield 50, 3) := by decide +kernel
theorem dX7_piece_25 : decode cX7_piece 25 = .ok (.if_icmp .lt 6, 3) := by decide +kernel
theorem dX7_piece_28 : decode cX7_piece 28 = .ok (.bipush (-2), 2) := by decide +kernel
theorem dX7_piece_30 : decode cX7_piece 30 = .ok (.ireturn, 1) := by decide +kernel
theorem dX7_piece_31 : decode cX7_piece 31 = .ok (.aload_n 0, 1) := by decide +kernel
theorem dX7_piece_32 : decode cX7_piece 32 = .ok (.getfield 12, 3) := by decide +kernel
theorem dX7_piece_35 : decode cX7_piece 35 = .ok (.iload_n 1, 1) := by decide +kernel
theorem dX7_piece_36 : decode cX7_piece 36 = .ok (.invokevirtual 60, 3) := by decide +kernel
theorem dX7_piece_39 : decode cX7_piece 39 = .ok (.astore_n 3, 1) := by decide +kernel
theorem dX7_piece_40 : decode cX7_piece 40 = .ok (.aload_n 3, 1) := by decide +kernel
theorem dX7_piece_41 : decode cX7_piece 41 = .ok (.iload_n 2, 1) := by decide +kernel
theorem dX7_piece_42 : decode cX7_piece 42 = .ok (.invokevirtual 165, 3) := by decide +kernel
theorem dX7_piece_45 : decode cX7_piece 45 = .ok (.ifCond .eq 8, 3) := by decide +kernel
theorem dX7_piece_48 : decode cX7_piece 48 = .ok (.bipush (-9), 2) := by decide +kernel
theorem dX7_piece_50 : decode cX7_piece 50 = .ok (.goto 12, 3) := by decide +kernel
theorem dX7_piece_53 : decode cX7_piece 53 = .ok (.aload_n 0, 1) := by decide +kernel
theorem dX7_piece_54 : decode cX7_piece 54 = .ok (.getfield 12, 3) := by decide +kernel
theorem dX7_piece_57 : decode cX7_piece 57 = .ok (.aload_n 3, 1) := by decide +kernel
theorem dX7_piece_58 : decode cX7_piece 58 = .ok (.iload_n 2, 1) := by decide +kernel
theorem dX7_piece_59 : decode cX7_piece 59 = .ok (.invokevirtual 168, 3) := by decide +kernel
theorem dX7_piece_62 : decode cX7_piece 62 = .ok (.ireturn, 1) := by decide +kernel
theorem dX7_cut_0 : decode cX7_cut 0 = .ok (.aload_n 0, 1) := by decide +kernel
theorem dX7_cut_1 : decode cX7_cut 1 = .ok (.invokevirtual 158, 3) := by decide +kernel
theorem dX7_cut_4 : decode cX7_cut 4 = .ok (.aload_n 0, 1) := by decide +kernel
theorem dX7_cut_5 : decode cX7_cut 5 = .ok (.getfield 46, 3) := by decide +kernel
theorem dX7_cut_8 : decode cX7_cut 8 = .ok (.invokevirtual 172, 3) := by decide +kernel
theorem dX7_cut_11 : decode cX7_cut 11 = .ok (.ireturn, 1) := by decide +kernel
theorem dX7_many_0 : decode cX7_many 0 = .ok (.iload_n 1, 1) := by decide +kernel
theorem dX7_many_1 : decode cX7_many 1 = .ok (.tableswitch 85 0 5 #[39, 47, 55, 63, 68, 80], 39) := by decide +kernel
theorem dX7_many_40 : decode cX7_many 40 = .ok (.aload_n 0, 1) := by decide +kernel
theorem dX7_many_41 : decode cX7_many 41 = .ok (.getfield 12, 3) := by decide +kernel
theorem dX7_many_44 : decode cX7_many 44 = .ok (.getfield 54, 3) := by decide +kernel
theorem dX7_many_47 : decode cX7_many 47 = .ok (.ireturn, 1) := by decide +kernel
theorem dX7_many_48 : decode cX7_many 48 = .ok (.aload_n 0, 1) := by decide +kernel
theorem dX7_many_49 : decode cX7_many 49 = .ok (.getfield 12, 3) := by decide +kernel
theorem dX7_many_52 : decode cX7_many 52 = .ok (.getfield 50, 3) := by decide +kernel
theorem dX7_many_55 : decode cX7_many 55 = .ok (.ireturn, 1) := by decide +kernel
theorem dX7_many_56 : decode cX7_many 56 = .ok (.aload_n 0, 1) := by decide +kernel
theorem dX7_many_57 : decode cX7_many 57 = .ok (.getfield 12, 3) := by decide +kernel
theorem dX7_many_60 : decode cX7_many 60 = .ok (.getfield 103, 3) := by decide +kernel
theorem dX7_many_63 : decode cX7_many 63 = .ok (.ireturn, 1) := by decide +kernel
theorem dX7_many_64 : decode cX7_many 64 = .ok (.aload_n 0, 1) := by decide +kernel
theorem dX7_many_65 : decode cX7_many 65 = .ok (.invokevirtual 175, 3) := by decide +kernel
theorem dX7_many_68 : decode cX7_many 68 = .ok (.ireturn, 1) := by decide +kernel
theorem dX7_many_69 : decode cX7_many 69 = .ok (.aload_n 0, 1) := by decide +kernel
theorem dX7_many_70 : decode cX7_many 70 = .ok (.invokevirtual 158, 3) := by decide +kernel
theorem dX7_many_73 : decode cX7_many 73 = .ok (.aload_n 0, 1) := by decide +kernel
theorem dX7_many_74 : decode cX7_many 74 = .ok (.getfield 46, 3) := by decide +kernel
theorem dX7_many_77 : decode cX7_many 77 = .ok (.invokevirtual 178, 3) := by decide +kernel
theorem dX7_many_80 : decode cX7_many 80 = .ok (.ireturn, 1) := by decide +kernel
theorem dX7_many_81 : decode cX7_many 81 = .ok (.aload_n 0, 1) := by decide +kernel
theorem dX7_many_82 : decode cX7_many 82 = .ok (.invokevirtual 181, 3) := by decide +kernel
theorem dX7_many_85 : decode cX7_many 85 = .ok (.ireturn, 1) := by decide +kernel
theorem dX7_many_86 : decode cX7_many 86 = .ok (.bipush (-2), 2) := by decide +kernel
theorem dX7_many_88 : decode cX7_many 88 = .ok (.ireturn, 1) := by decide +kernel
theorem dX7_forgetWhatCanBe_0 : decode cX7_forgetWhatCanBe 0 = .ok (.aload_n 0, 1) := by decide +kernel
theorem dX7_forgetWhatCanBe_1 : decode cX7_forgetWhatCanBe 1 = .ok (.getfield 23, 3) := by decide +kernel
theorem dX7_forgetWhatCanBe_4 : decode cX7_forgetWhatCanBe 4 = .ok (.invokevirtual 184, 3) := by decide +kernel
theorem dX7_forgetWhatCanBe_7 : decode cX7_forgetWhatCanBe 7 = .ok (.aload_n 0, 1) := by decide +kernel
theorem dX7_forgetWhatCanBe_8 : decode cX7_forgetWhatCanBe 8 = .ok (.getfield 32, 3) := by decide +kernel
theorem dX7_forgetWhatCanBe_11 : decode cX7_forgetWhatCanBe 11 = .ok (.invokevirtual 187, 3) := by decide +kernel
theorem dX7_forgetWhatCanBe_14 : decode cX7_forgetWhatCanBe 14 = .ok (.aload_n 0, 1) := by decide +kernel
theorem dX7_forgetWhatCanBe_15 : decode cX7_forgetWhatCanBe 15 = .ok (.getfield 39, 3) := by decide +kernel
theorem dX7_forgetWhatCanBe_18 : decode cX7_forgetWhatCanBe 18 = .ok (.invokevirtual 188, 3) := by decide +kernel
theorem dX7_forgetWhatCanBe_21 : decode cX7_forgetWhatCanBe 21 = .ok (.return_, 1) := by decide +kernel
theorem dX7_tallyLaid_0 : decode cX7_tallyLaid 0 = .ok (.aload_n 0, 1) := by decide +kernel
theorem dX7_tallyLaid_1 : decode cX7_tallyLaid 1 = .ok (.getfield 46, 3) := by decide +kernel
theorem dX7_tallyLaid_4 : decode cX7_tallyLaid 4 = .ok (.invokevirtual 144, 3) := by decide +kernel
theorem dX7_tallyLaid_7 : decode cX7_tallyLaid 7 = .ok (.iconst 0, 1) := by decide +kernel
theorem dX7_tallyLaid_8 : decode cX7_tallyLaid 8 = .ok (.istore_n 1, 1) := by decide +kernel
theorem dX7_tallyLaid_9 : decode cX7_tallyLaid 9 = .ok (.iload_n 1, 1) := by decide +kernel
theorem dX7_tallyLaid_10 : decode cX7_tallyLaid 10 = .ok (.aload_n 0, 1) := by decide +kernel
theorem dX7_tallyLaid_11 : decode cX7_tallyLaid 11 = .ok (.getfield 12, 3) := by decide +kernel
theorem dX7_tallyLaid_14 : decode cX7_tallyLaid 14 = .ok (.getfield 54, 3) := by decide +kernel
theorem dX7_tallyLaid_17 : decode cX7_tallyLaid 17 = .ok (.if_icmp .ge 34, 3) := by decide +kernel
theorem dX7_tallyLaid_20 : decode cX7_tallyLaid 20 = .ok (.aload_n 0, 1) := by decide +kernel
theorem dX7_tallyLaid_21 : decode cX7_tallyLaid 21 = .ok (.getfield 12, 3) := by decide +kernel
theorem dX7_tallyLaid_24 : decode cX7_tallyLaid 24 = .ok (.iload_n 1, 1) := by decide +kernel
theorem dX7_tallyLaid_25 : decode cX7_tallyLaid 25 = .ok (.invokevirtual 60, 3) := by decide +kernel
theorem dX7_tallyLaid_28 : decode cX7_tallyLaid 28 = .ok (.astore_n 2, 1) := by decide +kernel
theorem dX7_tallyLaid_29 : decode cX7_tallyLaid 29 = .ok (.aload_n 0, 1) := by decide +kernel
theorem dX7_tallyLaid_30 : decode cX7_tallyLaid 30 = .ok (.getfield 12, 3) := by decide +kernel
theorem dX7_tallyLaid_33 : decode cX7_tallyLaid 33 = .ok (.aload_n 2, 1) := by decide +kernel
theorem dX7_tallyLaid_34 : decode cX7_tallyLaid 34 = .ok (.aload_n 2, 1) := by decide +kernel
theorem dX7_tallyLaid_35 : decode cX7_tallyLaid 35 = .ok (.getfield 114, 3) := by decide +kernel
theorem dX7_tallyLaid_38 : decode cX7_tallyLaid 38 = .ok (.aload_n 0, 1) := by decide +kernel
theorem dX7_tallyLaid_39 : decode cX7_tallyLaid 39 = .ok (.getfield 46, 3) := by decide +kernel
theorem dX7_tallyLaid_42 : decode cX7_tallyLaid 42 = .ok (.invokevirtual 145, 3) := by decide +kernel
theorem dX7_tallyLaid_45 : decode cX7_tallyLaid 45 = .ok (.iinc 1 1, 3) := by decide +kernel
theorem dX7_tallyLaid_48 : decode cX7_tallyLaid 48 = .ok (.goto (-39), 3) := by decide +kernel
theorem dX7_tallyLaid_51 : decode cX7_tallyLaid 51 = .ok (.return_, 1) := by decide +kernel
theorem dX7_spansOf_0 : decode cX7_spansOf 0 = .ok (.aload_n 0, 1) := by decide +kernel
theorem dX7_spansOf_1 : decode cX7_spansOf 1 = .ok (.getfield 46, 3) := by decide +kernel
theorem dX7_spansOf_4 : decode cX7_spansOf 4 = .ok (.invokevirtual 144, 3) := by decide +kernel
theorem dX7_spansOf_7 : decode cX7_spansOf 7 = .ok (.aload_n 0, 1) := by decide +kernel
theorem dX7_spansOf_8 : decode cX7_spansOf 8 = .ok (.getfield 12, 3) := by decide +kernel
theorem dX7_spansOf_11 : decode cX7_spansOf 11 = .ok (.aload_n 1, 1) := by decide +kernel
theorem dX7_spansOf_12 : decode cX7_spansOf 12 = .ok (.iconst 0, 1) := by decide +kernel
theorem dX7_spansOf_13 : decode cX7_spansOf 13 = .ok (.aload_n 0, 1) := by decide +kernel
theorem dX7_spansOf_14 : decode cX7_spansOf 14 = .ok (.getfield 46, 3) := by decide +kernel
theorem dX7_spansOf_17 : decode cX7_spansOf 17 = .ok (.invokevirtual 145, 3) := by decide +kernel
theorem dX7_spansOf_20 : decode cX7_spansOf 20 = .ok (.aload_n 0, 1) := by decide +kernel
theorem dX7_spansOf_21 : decode cX7_spansOf 21 = .ok (.getfield 46, 3) := by decide +kernel
theorem dX7_spansOf_24 : decode cX7_spansOf 24 = .ok (.invokevirtual 178, 3) := by decide +kernel
theorem dX7_spansOf_27 : decode cX7_spansOf 27 = .ok (.ireturn, 1) := by decide +kernel
theorem dX7_openCells_0 : decode cX7_openCells 0 = .ok (.iconst 0, 1) := by decide +kernel
theorem dX7_openCells_1 : decode cX7_openCells 1 = .ok (.istore_n 1, 1) := by decide +kernel
theorem dX7_openCells_2 : decode cX7_openCells 2 = .ok (.iconst 0, 1) := by decide +kernel
theorem dX7_openCells_3 : decode cX7_openCells 3 = .ok (.istore_n 2, 1) := by decide +kernel
theorem dX7_openCells_4 : decode cX7_openCells 4 = .ok (.iload_n 2, 1) := by decide +kernel
theorem dX7_openCells_5 : decode cX7_openCells 5 = .ok (.aload_n 0, 1) := by decide +kernel
theorem dX7_openCells_6 : decode cX7_openCells 6 = .ok (.getfield 12, 3) := by decide +kernel
theorem dX7_openCells_9 : decode cX7_openCells 9 = .ok (.getfield 54, 3) := by decide +kernel
theorem dX7_openCells_12 : decode cX7_openCells 12 = .ok (.if_icmp .ge 26, 3) := by decide +kernel
theorem dX7_openCells_15 : decode cX7_openCells 15 = .ok (.iload_n 1, 1) := by decide +kernel
theorem dX7_openCells_16 : decode cX7_openCells 16 = .ok (.aload_n 0, 1) := by decide +kernel
theorem dX7_openCells_17 : decode cX7_openCells 17 = .ok (.getfield 12, 3) := by decide +kernel
theorem dX7_openCells_20 : decode cX7_openCells 20 = .ok (.iload_n 2, 1) := by decide +kernel
theorem dX7_openCells_21 : decode cX7_openCells 21 = .ok (.invokevirtual 60, 3) := by decide +kernel
theorem dX7_openCells_24 : decode cX7_openCells 24 = .ok (.getfield 77, 3) := by decide +kernel
theorem dX7_openCells_27 : decode cX7_openCells 27 = .ok (.invokestatic 189, 3) := by decide +kernel
theorem dX7_openCells_30 : decode cX7_openCells 30 = .ok (.iadd, 1) := by decide +kernel
theorem dX7_openCells_31 : decode cX7_openCells 31 = .ok (.istore_n 1, 1) := by decide +kernel
theorem dX7_openCells_32 : decode cX7_openCells 32 = .ok (.iinc 2 1, 3) := by decide +kernel
theorem dX7_openCells_35 : decode cX7_openCells 35 = .ok (.goto (-31), 3) := by decide +kernel
theorem dX7_openCells_38 : decode cX7_openCells 38 = .ok (.iload_n 1, 1) := by decide +kernel
theorem dX7_openCells_39 : decode cX7_openCells 39 = .ok (.ireturn, 1) := by decide +kernel
theorem dX7_laidJoints_0 : decode cX7_laidJoints 0 = .ok (.iconst 0, 1) := by decide +kernel
theorem dX7_laidJoints_1 : decode cX7_laidJoints 1 = .ok (.istore_n 1, 1) := by decide +kernel
theorem dX7_laidJoints_2 : decode cX7_laidJoints 2 = .ok (.iconst 0, 1) := by decide +kernel
theorem dX7_laidJoints_3 : decode cX7_laidJoints 3 = .ok (.istore_n 2, 1) := by decide +kernel
theorem dX7_laidJoints_4 : decode cX7_laidJoints 4 = .ok (.iload_n 2, 1) := by decide +kernel
theorem dX7_laidJoints_5 : decode cX7_laidJoints 5 = .ok (.aload_n 0, 1) := by decide +kernel
theorem dX7_laidJoints_6 : decode cX7_laidJoints 6 = .ok (.getfield 12, 3) := by decide +kernel
theorem dX7_laidJoints_9 : decode cX7_laidJoints 9 = .ok (.getfield 54, 3) := by decide +kernel
theorem dX7_laidJoints_12 : decode cX7_laidJoints 12 = .ok (.if_icmp .ge 26, 3) := by decide +kernel
theorem dX7_laidJoints_15 : decode cX7_laidJoints 15 = .ok (.iload_n 1, 1) := by decide +kernel
theorem dX7_laidJoints_16 : decode cX7_laidJoints 16 = .ok (.aload_n 0, 1) := by decide +kernel
theorem dX7_laidJoints_17 : decode cX7_laidJoints 17 = .ok (.getfield 12, 3) := by decide +kernel
theorem dX7_laidJoints_20 : decode cX7_laidJoints 20 = .ok (.iload_n 2, 1) := by decide +kernel
theorem dX7_laidJoints_21 : decode cX7_laidJoints 21 = .ok (.invokevirtual 60, 3) := by decide +kernel
theorem dX7_laidJoints_24 : decode cX7_laidJoints 24 = .ok (.getfield 114, 3) := by decide +kernel
theorem dX7_laidJoints_27 : decode cX7_laidJoints 27 = .ok (.invokestatic 189, 3) := by decide +kernel
theorem dX7_laidJoints_30 : decode cX7_laidJoints 30 = .ok (.iadd, 1) := by decide +kernel
theorem dX7_laidJoints_31 : decode cX7_laidJoints 31 = .ok (.istore_n 1, 1) := by decide +kernel
theorem dX7_laidJoints_32 : decode cX7_laidJoints 32 = .ok (.iinc 2 1, 3) := by decide +kernel
theorem dX7_laidJoints_35 : decode cX7_laidJoints 35 = .ok (.goto (-31), 3) := by decide +kernel
theorem dX7_laidJoints_38 : decode cX7_laidJoints 38 = .ok (.iload_n 1, 1) := by decide +kernel
theorem dX7_laidJoints_39 : decode cX7_laidJoints 39 = .ok (.ireturn, 1) := by decide +kernel
theorem dJ6_bitCount_0f7a4_0 : decode cJ6_bitCount_0f7a4 0 = .ok (.iload_n 0, 1) := by decide +kernel
theorem dJ6_bitCount_0f7a4_1 : decode cJ6_bitCount_0f7a4 1 = .ok (.iload_n 0, 1) := by decide +kernel
theorem dJ6_bitCount_0f7a4_2 : decode cJ6_bitCount_0f7a4 2 = .ok (.iconst 1, 1) := by decide +kernel
theorem dJ6_bitCount_0f7a4_3 : decode cJ6_bitCount_0f7a4 3 = .ok (.iushr, 1) := by decide +kernel
theorem dJ6_bitCount_0f7a4_4 : decode cJ6_bitCount_0f7a4 4 = .ok (.ldc_w 265, 3) := by decide +kernel
theorem dJ6_bitCount_0f7a4_7 : decode cJ6_bitCount_0f7a4 7 = .ok (.iand, 1) := by decide +kernel
theorem dJ6_bitCount_0f7a4_8 : decode cJ6_bitCount_0f7a4 8 = .ok (.isub, 1) := by decide +kernel
theorem dJ6_bitCount_0f7a4_9 : decode cJ6_bitCount_0f7a4 9 = .ok (.istore_n 0, 1) := by decide +kernel
theorem dJ6_bitCount_0f7a4_10 : decode cJ6_bitCount_0f7a4 10 = .ok (.iload_n 0, 1) := by decide +kernel
theorem dJ6_bitCount_0f7a4_11 : decode cJ6_bitCount_0f7a4 11 = .ok (.ldc_w 266, 3) := by decide +kernel
theorem dJ6_bitCount_0f7a4_14 : decode cJ6_bitCount_0f7a4 14 = .ok (.iand, 1) := by decide +kernel
theorem dJ6_bitCount_0f7a4_15 : decode cJ6_bitCount_0f7a4 15 = .ok (.iload_n 0, 1) := by decide +kernel
theorem dJ6_bitCount_0f7a4_16 : decode cJ6_bitCount_0f7a4 16 = .ok (.iconst 2, 1) := by decide +kernel
theorem dJ6_bitCount_0f7a4_17 : decode cJ6_bitCount_0f7a4 17 = .ok (.iushr, 1) := by decide +kernel
theorem dJ6_bitCount_0f7a4_18 : decode cJ6_bitCount_0f7a4 18 = .ok (.ldc_w 266, 3) := by decide +kernel
theorem dJ6_bitCount_0f7a4_21 : decode cJ6_bitCount_0f7a4 21 = .ok (.iand, 1) := by decide +kernel
theorem dJ6_bitCount_0f7a4_22 : decode cJ6_bitCount_0f7a4 22 = .ok (.iadd, 1) := by decide +kernel
theorem dJ6_bitCount_0f7a4_23 : decode cJ6_bitCount_0f7a4 23 = .ok (.istore_n 0, 1) := by decide +kernel
theorem dJ6_bitCount_0f7a4_24 : decode cJ6_bitCount_0f7a4 24 = .ok (.iload_n 0, 1) := by decide +kernel
theorem dJ6_bitCount_0f7a4_25 : decode cJ6_bitCount_0f7a4 25 = .ok (.iload_n 0, 1) := by decide +kernel
theorem dJ6_bitCount_0f7a4_26 : decode cJ6_bitCount_0f7a4 26 = .ok (.iconst 4, 1) := by decide +kernel
theorem dJ6_bitCount_0f7a4_27 : decode cJ6_bitCount_0f7a4 27 = .ok (.iushr, 1) := by decide +kernel
theorem dJ6_bitCount_0f7a4_28 : decode cJ6_bitCount_0f7a4 28 = .ok (.iadd, 1) := by decide +kernel
theorem dJ6_bitCount_0f7a4_29 : decode cJ6_bitCount_0f7a4 29 = .ok (.ldc_w 267, 3) := by decide +kernel
theorem dJ6_bitCount_0f7a4_32 : decode cJ6_bitCount_0f7a4 32 = .ok (.iand, 1) := by decide +kernel
theorem dJ6_bitCount_0f7a4_33 : decode cJ6_bitCount_0f7a4 33 = .ok (.istore_n 0, 1) := by decide +kernel
theorem dJ6_bitCount_0f7a4_34 : decode cJ6_bitCount_0f7a4 34 = .ok (.iload_n 0, 1) := by decide +kernel
theorem dJ6_bitCount_0f7a4_35 : decode cJ6_bitCount_0f7a4 35 = .ok (.iload_n 0, 1) := by decide +kernel
theorem dJ6_bitCount_0f7a4_36 : decode cJ6_bitCount_0f7a4 36 = .ok (.bipush 8, 2) := by decide +kernel
theorem dJ6_bitCount_0f7a4_38 : decode cJ6_bitCount_0f7a4 38 = .ok (.iushr, 1) := by decide +kernel
theorem dJ6_bitCount_0f7a4_39 : decode cJ6_bitCount_0f7a4 39 = .ok (.iadd, 1) := by decide +kernel
theorem dJ6_bitCount_0f7a4_40 : decode cJ6_bitCount_0f7a4 40 = .ok (.istore_n 0, 1) := by decide +kernel
theorem dJ6_bitCount_0f7a4_41 : decode cJ6_bitCount_0f7a4 41 = .ok (.iload_n 0, 1) := by decide +kernel
theorem dJ6_bitCount_0f7a4_42 : decode cJ6_bitCount_0f7a4 42 = .ok (.iload_n 0, 1) := by decide +kernel
theorem dJ6_bitCount_0f7a4_43 : decode cJ6_bitCount_0f7a4 43 = .ok (.bipush 16, 2) := by decide +kernel
theorem dJ6_bitCount_0f7a4_45 : decode cJ6_bitCount_0f7a4 45 = .ok (.iushr, 1) := by decide +kernel
theorem dJ6_bitCount_0f7a4_46 : decode cJ6_bitCount_0f7a4 46 = .ok (.iadd, 1) := by decide +kernel
theorem dJ6_bitCount_0f7a4_47 : decode cJ6_bitCount_0f7a4 47 = .ok (.istore_n 0, 1) := by decide +kernel
theorem dJ6_bitCount_0f7a4_48 : decode cJ6_bitCount_0f7a4 48 = .ok (.iload_n 0, 1) := by decide +kernel
theorem dJ6_bitCount_0f7a4_49 : decode cJ6_bitCount_0f7a4 49 = .ok (.bipush 63, 2) := by decide +kernel
theorem dJ6_bitCount_0f7a4_51 : decode cJ6_bitCount_0f7a4 51 = .ok (.iand, 1) := by decide +kernel
theorem dJ6_bitCount_0f7a4_52 : decode cJ6_bitCount_0f7a4 52 = .ok (.ireturn, 1) := by decide +kernel
theorem dJ9_max_7cf53_0 : decode cJ9_max_7cf53 0 = .ok (.iload_n 0, 1) := by decide +kernel
theorem dJ9_max_7cf53_1 : decode cJ9_max_7cf53 1 = .ok (.iload_n 1, 1) := by decide +kernel
theorem dJ9_max_7cf53_2 : decode cJ9_max_7cf53 2 = .ok (.if_icmp .lt 7, 3) := by decide +kernel
theorem dJ9_max_7cf53_5 : decode cJ9_max_7cf53 5 = .ok (.iload_n 0, 1) := by decide +kernel
theorem dJ9_max_7cf53_6 : decode cJ9_max_7cf53 6 = .ok (.goto 4, 3) := by decide +kernel
theorem dJ9_max_7cf53_9 : decode cJ9_max_7cf53 9 = .ok (.iload_n 1, 1) := by decide +kernel
theorem dJ9_max_7cf53_10 : decode cJ9_max_7cf53 10 = .ok (.ireturn, 1) := by decide +kernel
theorem dJ9_min_7cf53_0 : decode cJ9_min_7cf53 0 = .ok (.iload_n 0, 1) := by decide +kernel
theorem dJ9_min_7cf53_1 : decode cJ9_min_7cf53 1 = .ok (.iload_n 1, 1) := by decide +kernel
theorem dJ9_min_7cf53_2 : decode cJ9_min_7cf53 2 = .ok (.if_icmp .gt 7, 3) := by decide +kernel
theorem dJ9_min_7cf53_5 : decode cJ9_min_7cf53 5 = .ok (.iload_n 0, 1) := by decide +kernel
theorem dJ9_min_7cf53_6 : decode cJ9_min_7cf53 6 = .ok (.goto 4, 3) := by decide +kernel
theorem dJ9_min_7cf53_9 : decode cJ9_min_7cf53 9 = .ok (.iload_n 1, 1) := by decide +kernel
theorem dJ9_min_7cf53_10 : decode cJ9_min_7cf53 10 = .ok (.ireturn, 1) := by decide +kernel
theorem dJ7_fill_d0a16_0 : decode cJ7_fill_d0a16 0 = .ok (.iconst 0, 1) := by decide +kernel
theorem dJ7_fill_d0a16_1 : decode cJ7_fill_d0a16 1 = .ok (.istore_n 3, 1) := by decide +kernel
theorem dJ7_fill_d0a16_2 : decode cJ7_fill_d0a16 2 = .ok (.aload_n 0, 1) := by decide +kernel
theorem dJ7_fill_d0a16_3 : decode cJ7_fill_d0a16 3 = .ok (.arraylength, 1) := by decide +kernel
theorem dJ7_fill_d0a16_4 : decode cJ7_fill_d0a16 4 = .ok (.istore 4, 2) := by decide +kernel
theorem dJ7_fill_d0a16_6 : decode cJ7_fill_d0a16 6 = .ok (.iload_n 3, 1) := by decide +kernel
theorem dJ7_fill_d0a16_7 : decode cJ7_fill_d0a16 7 = .ok (.iload 4, 2) := by decide +kernel
theorem dJ7_fill_d0a16_9 : decode cJ7_fill_d0a16 9 = .ok (.if_icmp .ge 13, 3) := by decide +kernel
theorem dJ7_fill_d0a16_12 : decode cJ7_fill_d0a16 12 = .ok (.aload_n 0, 1) := by decide +kernel
theorem dJ7_fill_d0a16_13 : decode cJ7_fill_d0a16 13 = .ok (.iload_n 3, 1) := by decide +kernel
theorem dJ7_fill_d0a16_14 : decode cJ7_fill_d0a16 14 = .ok (.lload_n 1, 1) := by decide +kernel
theorem dJ7_fill_d0a16_15 : decode cJ7_fill_d0a16 15 = .ok (.lastore, 1) := by decide +kernel
theorem dJ7_fill_d0a16_16 : decode cJ7_fill_d0a16 16 = .ok (.iinc 3 1, 3) := by decide +kernel
theorem dJ7_fill_d0a16_19 : decode cJ7_fill_d0a16 19 = .ok (.goto (-13), 3) := by decide +kernel
theorem dJ7_fill_d0a16_22 : decode cJ7_fill_d0a16 22 = .ok (.return_, 1) := by decide +kernel
theorem dJ7_fill_53178_0 : decode cJ7_fill_53178 0 = .ok (.iconst 0, 1) := by decide +kernel
theorem dJ7_fill_53178_1 : decode cJ7_fill_53178 1 = .ok (.istore_n 2, 1) := by decide +kernel
theorem dJ7_fill_53178_2 : decode cJ7_fill_53178 2 = .ok (.aload_n 0, 1) := by decide +kernel
theorem dJ7_fill_53178_3 : decode cJ7_fill_53178 3 = .ok (.arraylength, 1) := by decide +kernel
theorem dJ7_fill_53178_4 : decode cJ7_fill_53178 4 = .ok (.istore_n 3, 1) := by decide +kernel
theorem dJ7_fill_53178_5 : decode cJ7_fill_53178 5 = .ok (.iload_n 2, 1) := by decide +kernel
theorem dJ7_fill_53178_6 : decode cJ7_fill_53178 6 = .ok (.iload_n 3, 1) := by decide +kernel
theorem dJ7_fill_53178_7 : decode cJ7_fill_53178 7 = .ok (.if_icmp .ge 13, 3) := by decide +kernel
theorem dJ7_fill_53178_10 : decode cJ7_fill_53178 10 = .ok (.aload_n 0, 1) := by decide +kernel
theorem dJ7_fill_53178_11 : decode cJ7_fill_53178 11 = .ok (.iload_n 2, 1) := by decide +kernel
theorem dJ7_fill_53178_12 : decode cJ7_fill_53178 12 = .ok (.iload_n 1, 1) := by decide +kernel
theorem dJ7_fill_53178_13 : decode cJ7_fill_53178 13 = .ok (.iastore, 1) := by decide +kernel
theorem dJ7_fill_53178_14 : decode cJ7_fill_53178 14 = .ok (.iinc 2 1, 3) := by decide +kernel
theorem dJ7_fill_53178_17 : decode cJ7_fill_53178 17 = .ok (.goto (-12), 3) := by decide +kernel
theorem dJ7_fill_53178_20 : decode cJ7_fill_53178 20 = .ok (.return_, 1) := by decide +kernel
end
section
theorem dL_law_0 : decode cL_law 0 = .ok (.new 7, 3) := by decide +kernel
theorem dL_law_3 : decode cL_law 3 = .ok (.dup, 1) := by decide +kernel
theorem dL_law_4 : decode cL_law 4 = .ok (.invokespecial 9, 3) := by decide +kernel
theorem dL_law_7 : decode cL_law 7 = .ok (.astore_n 1, 1) := by decide +kernel
theorem dL_law_8 : decode cL_law 8 = .ok (.new 10, 3) := by decide +kernel
theorem dL_law_11 : decode cL_law 11 = .ok (.dup, 1) := by decide +kernel
theorem dL_law_12 : decode cL_law 12 = .ok (.invokespecial 12, 3) := by decide +kernel
theorem dL_law_15 : decode cL_law 15 = .ok (.astore_n 2, 1) := by decide +kernel
theorem dL_law_16 : decode cL_law 16 = .ok (.iconst 0, 1) := by decide +kernel
theorem dL_law_17 : decode cL_law 17 = .ok (.istore_n 3, 1) := by decide +kernel
theorem dL_law_18 : decode cL_law 18 = .ok (.iload_n 3, 1) := by decide +kernel
theorem dL_law_19 : decode cL_law 19 = .ok (.aload_n 0, 1) := by decide +kernel
theorem dL_law_20 : decode cL_law 20 = .ok (.arraylength, 1) := by decide +kernel
theorem dL_law_21 : decode cL_law 21 = .ok (.iconst 4, 1) := by decide +kernel
theorem dL_law_22 : decode cL_law 22 = .ok (.isub, 1) := by decide +kernel
theorem dL_law_23 : decode cL_law 23 = .ok (.if_icmp .gt 700, 3) := by decide +kernel
theorem dL_law_26 : decode cL_law 26 = .ok (.aload_n 0, 1) := by decide +kernel
theorem dL_law_27 : decode cL_law 27 = .ok (.iload_n 3, 1) := by decide +kernel
theorem dL_law_28 : decode cL_law 28 = .ok (.iaload, 1) := by decide +kernel
theorem dL_law_29 : decode cL_law 29 = .ok (.bipush 31, 2) := by decide +kernel
theorem dL_law_31 : decode cL_law 31 = .ok (.iand, 1) := by decide +kernel
theorem dL_law_32 : decode cL_law 32 = .ok (.tableswitch 685 0 23 #[112, 135, 148, 161, 194, 237, 270, 293, 336, 369, 402, 416, 429, 452, 475, 488, 511, 544, 557, 580, 593, 616, 649, 662], 112) := by decide +kernel
theorem dL_law_144 : decode cL_law 144 = .ok (.aload_n 1, 1) := by decide +kernel
theorem dL_law_145 : decode cL_law 145 = .ok (.aload_n 0, 1) := by decide +kernel
theorem dL_law_146 : decode cL_law 146 = .ok (.iload_n 3, 1) := by decide +kernel
theorem dL_law_147 : decode cL_law 147 = .ok (.iconst 1, 1) := by decide +kernel
theorem dL_law_148 : decode cL_law 148 = .ok (.iadd, 1) := by decide +kernel
theorem dL_law_149 : decode cL_law 149 = .ok (.iaload, 1) := by decide +kernel
theorem dL_law_150 : decode cL_law 150 = .ok (.invokevirtual 13, 3) := by decide +kernel
theorem dL_law_153 : decode cL_law 153 = .ok (.aload_n 2, 1) := by decide +kernel
theorem dL_law_154 : decode cL_law 154 = .ok (.aload_n 0, 1) := by decide +kernel
theorem dL_law_155 : decode cL_law 155 = .ok (.iload_n 3, 1) := by decide +kernel
theorem dL_law_156 : decode cL_law 156 = .ok (.iconst 1, 1) := by decide +kernel
theorem dL_law_157 : decode cL_law 157 = .ok (.iadd, 1) := by decide +kernel
theorem dL_law_158 : decode cL_law 158 = .ok (.iaload, 1) := by decide +kernel
theorem dL_law_159 : decode cL_law 159 = .ok (.invokevirtual 17, 3) := by decide +kernel
theorem dL_law_162 : decode cL_law 162 = .ok (.if_icmp .eq 555, 3) := by decide +kernel
theorem dL_law_165 : decode cL_law 165 = .ok (.iconst 0, 1) := by decide +kernel
theorem dL_law_166 : decode cL_law 166 = .ok (.ireturn, 1) := by decide +kernel
theorem dL_law_167 : decode cL_law 167 = .ok (.aload_n 1, 1) := by decide +kernel
theorem dL_law_168 : decode cL_law 168 = .ok (.invokevirtual 18, 3) := by decide +kernel
theorem dL_law_171 : decode cL_law 171 = .ok (.aload_n 2, 1) := by decide +kernel
theorem dL_law_172 : decode cL_law 172 = .ok (.invokevirtual 22, 3) := by decide +kernel
theorem dL_law_175 : decode cL_law 175 = .ok (.if_icmp .eq 542, 3) := by decide +kernel
theorem dL_law_178 : decode cL_law 178 = .ok (.iconst 0, 1) := by decide +kernel
theorem dL_law_179 : decode cL_law 179 = .ok (.ireturn, 1) := by decide +kernel
theorem dL_law_180 : decode cL_law 180 = .ok (.aload_n 1, 1) := by decide +kernel
theorem dL_law_181 : decode cL_law 181 = .ok (.invokevirtual 23, 3) := by decide +kernel
theorem dL_law_184 : decode cL_law 184 = .ok (.aload_n 2, 1) := by decide +kernel
theorem dL_law_185 : decode cL_law 185 = .ok (.invokevirtual 26, 3) := by decide +kernel
theorem dL_law_188 : decode cL_law 188 = .ok (.if_icmp .eq 529, 3) := by decide +kernel
theorem dL_law_191 : decode cL_law 191 = .ok (.iconst 0, 1) := by decide +kernel
theorem dL_law_192 : decode cL_law 192 = .ok (.ireturn, 1) := by decide +kernel
theorem dL_law_193 : decode cL_law 193 = .ok (.aload_n 1, 1) := by decide +kernel
theorem dL_law_194 : decode cL_law 194 = .ok (.aload_n 0, 1) := by decide +kernel
theorem dL_law_195 : decode cL_law 195 = .ok (.iload_n 3, 1) := by decide +kernel
theorem dL_law_196 : decode cL_law 196 = .ok (.iconst 1, 1) := by decide +kernel
theorem dL_law_197 : decode cL_law 197 = .ok (.iadd, 1) := by decide +kernel
theorem dL_law_198 : decode cL_law 198 = .ok (.iaload, 1) := by decide +kernel
theorem dL_law_199 : decode cL_law 199 = .ok (.aload_n 0, 1) := by decide +kernel
theorem dL_law_200 : decode cL_law 200 = .ok (.iload_n 3, 1) := by decide +kernel
theorem dL_law_201 : decode cL_law 201 = .ok (.iconst 2, 1) := by decide +kernel
theorem dL_law_202 : decode cL_law 202 = .ok (.iadd, 1) := by decide +kernel
theorem dL_law_203 : decode cL_law 203 = .ok (.iaload, 1) := by decide +kernel
theorem dL_law_204 : decode cL_law 204 = .ok (.invokevirtual 27, 3) := by decide +kernel
theorem dL_law_207 : decode cL_law 207 = .ok (.aload_n 2, 1) := by decide +kernel
theorem dL_law_208 : decode cL_law 208 = .ok (.aload_n 0, 1) := by decide +kernel
theorem dL_law_209 : decode cL_law 209 = .ok (.iload_n 3, 1) := by decide +kernel
theorem dL_law_210 : decode cL_law 210 = .ok (.iconst 1, 1) := by decide +kernel
theorem dL_law_211 : decode cL_law 211 = .ok (.iadd, 1) := by decide +kernel
theorem dL_law_212 : decode cL_law 212 = .ok (.iaload, 1) := by decide +kernel
theorem dL_law_213 : decode cL_law 213 = .ok (.aload_n 0, 1) := by decide +kernel
theorem dL_law_214 : decode cL_law 214 = .ok (.iload_n 3, 1) := by decide +kernel
theorem dL_law_215 : decode cL_law 215 = .ok (.iconst 2, 1) := by decide +kernel
theorem dL_law_216 : decode cL_law 216 = .ok (.iadd, 1) := by decide +kernel
theorem dL_law_217 : decode cL_law 217 = .ok (.iaload, 1) := by decide +kernel
theorem dL_law_218 : decode cL_law 218 = .ok (.invokevirtual 31, 3) := by decide +kernel
theorem dL_law_221 : decode cL_law 221 = .ok (.if_icmp .eq 496, 3) := by decide +kernel
theorem dL_law_224 : decode cL_law 224 = .ok (.iconst 0, 1) := by decide +kernel
theorem dL_law_225 : decode cL_law 225 = .ok (.ireturn, 1) := by decide +kernel
theorem dL_law_226 : decode cL_law 226 = .ok (.aload_n 1, 1) := by decide +kernel
theorem dL_law_227 : decode cL_law 227 = .ok (.aload_n 0, 1) := by decide +kernel
theorem dL_law_228 : decode cL_law 228 = .ok (.iload_n 3, 1) := by decide +kernel
theorem dL_law_229 : decode cL_law 229 = .ok (.iconst 1, 1) := by decide +kernel
theorem dL_law_230 : decode cL_law 230 = .ok (.iadd, 1) := by decide +kernel
theorem dL_law_231 : decode cL_law 231 = .ok (.iaload, 1) := by decide +kernel
theorem dL_law_232 : decode cL_law 232 = .ok (.aload_n 0, 1) := by decide +kernel
theorem dL_law_233 : decode cL_law 233 = .ok (.iload_n 3, 1) := by decide +kernel
theorem dL_law_234 : decode cL_law 234 = .ok (.iconst 2, 1) := by decide +kernel
theorem dL_law_235 : decode cL_law 235 = .ok (.iadd, 1) := by decide +kernel
theorem dL_law_236 : decode cL_law 236 = .ok (.iaload, 1) := by decide +kernel
theorem dL_law_237 : decode cL_law 237 = .ok (.aload_n 0, 1) := by decide +kernel
theorem dL_law_238 : decode cL_law 238 = .ok (.iload_n 3, 1) := by decide +kernel
theorem dL_law_239 : decode cL_law 239 = .ok (.iconst 3, 1) := by decide +kernel
theorem dL_law_240 : decode cL_law 240 = .ok (.iadd, 1) := by decide +kernel
theorem dL_law_241 : decode cL_law 241 = .ok (.iaload, 1) := by decide +kernel
theorem dL_law_242 : decode cL_law 242 = .ok (.invokevirtual 32, 3) := by decide +kernel
theorem dL_law_245 : decode cL_law 245 = .ok (.aload_n 2, 1) := by decide +kernel
theorem dL_law_246 : decode cL_law 246 = .ok (.aload_n 0, 1) := by decide +kernel
theorem dL_law_247 : decode cL_law 247 = .ok (.iload_n 3, 1) := by decide +kernel
theorem dL_law_248 : decode cL_law 248 = .ok (.iconst 1, 1) := by decide +kernel
theorem dL_law_249 : decode cL_law 249 = .ok (.iadd, 1) := by decide +kernel
theorem dL_law_250 : decode cL_law 250 = .ok (.iaload, 1) := by decide +kernel
theorem dL_law_251 : decode cL_law 251 = .ok (.aload_n 0, 1) := by decide +kernel
theorem dL_law_252 : decode cL_law 252 = .ok (.iload_n 3, 1) := by decide +kernel
theorem dL_law_253 : decode cL_law 253 = .ok (.iconst 2, 1) := by decide +kernel
theorem dL_law_254 : decode cL_law 254 = .ok (.iadd, 1) := by decide +kernel
theorem dL_law_255 : decode cL_law 255 = .ok (.iaload, 1) := by decide +kernel
theorem dL_law_256 : decode cL_law 256 = .ok (.aload_n 0, 1) := by decide +kernel
theorem dL_law_257 : decode cL_law 257 = .ok (.iload_n 3, 1) := by decide +kernel
theorem dL_law_258 : decode cL_law 258 = .ok (.iconst 3, 1) := by decide +kernel
theorem dL_law_259 : decode cL_law 259 = .ok (.iadd, 1) := by decide +kernel
theorem dL_law_260 : decode cL_law 260 = .ok (.iaload, 1) := by decide +kernel
theorem dL_law_261 : decode cL_law 261 = .ok (.invokevirtual 36, 3) := by decide +kernel
theorem dL_law_264 : decode cL_law 264 = .ok (.if_icmp .eq 453, 3) := by decide +kernel
theorem dL_law_267 : decode cL_law 267 = .ok (.iconst 0, 1) := by decide +kernel
theorem dL_law_268 : decode cL_law 268 = .ok (.ireturn, 1) := by decide +kernel
theorem dL_law_269 : decode cL_law 269 = .ok (.aload_n 1, 1) := by decide +kernel
theorem dL_law_270 : decode cL_law 270 = .ok (.aload_n 0, 1) := by decide +kernel
theorem dL_law_271 : decode cL_law 271 = .ok (.iload_n 3, 1) := by decide +kernel
theorem dL_law_272 : decode cL_law 272 = .ok (.iconst 1, 1) := by decide +kernel
theorem dL_law_273 : decode cL_law 273 = .ok (.iadd, 1) := by decide +kernel
theorem dL_law_274 : decode cL_law 274 = .ok (.iaload, 1) := by decide +kernel
theorem dL_law_275 : decode cL_law 275 = .ok (.aload_n 0, 1) := by decide +kernel
theorem dL_law_276 : decode cL_law 276 = .ok (.iload_n 3, 1) := by decide +kernel
theorem dL_law_277 : decode cL_law 277 = .ok (.iconst 2, 1) := by decide +kernel
theorem dL_law_278 : decode cL_law 278 = .ok (.iadd, 1) := by decide +kernel
theorem dL_law_279 : decode cL_law 279 = .ok (.iaload, 1) := by decide +kernel
theorem dL_law_280 : decode cL_law 280 = .ok (.invokevirtual 37, 3) := by decide +kernel
theorem dL_law_283 : decode cL_law 283 = .ok (.aload_n 2, 1) := by decide +kernel
theorem dL_law_284 : decode cL_law 284 = .ok (.aload_n 0, 1) := by decide +kernel
theorem dL_law_285 : decode cL_law 285 = .ok (.iload_n 3, 1) := by decide +kernel
theorem dL_law_286 : decode cL_law 286 = .ok (.iconst 1, 1) := by decide +kernel
theorem dL_law_287 : decode cL_law 287 = .ok (.iadd, 1) := by decide +kernel
theorem dL_law_288 : decode cL_law 288 = .ok (.iaload, 1) := by decide +kernel
theorem dL_law_289 : decode cL_law 289 = .ok (.aload_n 0, 1) := by decide +kernel
theorem dL_law_290 : decode cL_law 290 = .ok (.iload_n 3, 1) := by decide +kernel
theorem dL_law_291 : decode cL_law 291 = .ok (.iconst 2, 1) := by decide +kernel
theorem dL_law_292 : decode cL_law 292 = .ok (.iadd, 1) := by decide +kernel
theorem dL_law_293 : decode cL_law 293 = .ok (.iaload, 1) := by decide +kernel
theorem dL_law_294 : decode cL_law 294 = .ok (.invokevirtual 40, 3) := by decide +kernel
theorem dL_law_297 : decode cL_law 297 = .ok (.if_icmp .eq 420, 3) := by decide +kernel
theorem dL_law_300 : decode cL_law 300 = .ok (.iconst 0, 1) := by decide +kernel
theorem dL_law_301 : decode cL_law 301 = .ok (.ireturn, 1) := by decide +kernel
theorem dL_law_302 : decode cL_law 302 = .ok (.aload_n 1, 1) := by decide +kernel
theorem dL_law_303 : decode cL_law 303 = .ok (.aload_n 0, 1) := by decide +kernel
theorem dL_law_304 : decode cL_law 304 = .ok (.iload_n 3, 1) := by decide +kernel
theorem dL_law_305 : decode cL_law 305 = .ok (.iconst 1, 1) := by decide +kernel
theorem dL_law_306 : decode cL_law 306 = .ok (.iadd, 1) := by decide +kernel
theorem dL_law_307 : decode cL_law 307 = .ok (.iaload, 1) := by decide +kernel
theorem dL_law_308 : decode cL_law 308 = .ok (.invokevirtual 41, 3) := by decide +kernel
theorem dL_law_311 : decode cL_law 311 = .ok (.aload_n 2, 1) := by decide +kernel
theorem dL_law_312 : decode cL_law 312 = .ok (.aload_n 0, 1) := by decide +kernel
theorem dL_law_313 : decode cL_law 313 = .ok (.iload_n 3, 1) := by decide +kernel
theorem dL_law_314 : decode cL_law 314 = .ok (.iconst 1, 1) := by decide +kernel
theorem dL_law_315 : decode cL_law 315 = .ok (.iadd, 1) := by decide +kernel
theorem dL_law_316 : decode cL_law 316 = .ok (.iaload, 1) := by decide +kernel
theorem dL_law_317 : decode cL_law 317 = .ok (.invokevirtual 44, 3) := by decide +kernel
theorem dL_law_320 : decode cL_law 320 = .ok (.if_icmp .eq 397, 3) := by decide +kernel
theorem dL_law_323 : decode cL_law 323 = .ok (.iconst 0, 1) := by decide +kernel
theorem dL_law_324 : decode cL_law 324 = .ok (.ireturn, 1) := by decide +kernel
theorem dL_law_325 : decode cL_law 325 = .ok (.aload_n 1, 1) := by decide +kernel
theorem dL_law_326 : decode cL_law 326 = .ok (.aload_n 0, 1) := by decide +kernel
theorem dL_law_327 : decode cL_law 327 = .ok (.iload_n 3, 1) := by decide +kernel
theorem dL_law_328 : decode cL_law 328 = .ok (.iconst 1, 1) := by decide +kernel
theorem dL_law_329 : decode cL_law 329 = .ok (.iadd, 1) := by decide +kernel
theorem dL_law_330 : decode cL_law 330 = .ok (.iaload, 1) := by decide +kernel
theorem dL_law_331 : decode cL_law 331 = .ok (.aload_n 0, 1) := by decide +kernel
theorem dL_law_332 : decode cL_law 332 = .ok (.iload_n 3, 1) := by decide +kernel
theorem dL_law_333 : decode cL_law 333 = .ok (.iconst 2, 1) := by decide +kernel
theorem dL_law_334 : decode cL_law 334 = .ok (.iadd, 1) := by decide +kernel
theorem dL_law_335 : decode cL_law 335 = .ok (.iaload, 1) := by decide +kernel
theorem dL_law_336 : decode cL_law 336 = .ok (.aload_n 0, 1) := by decide +kernel
theorem dL_law_337 : decode cL_law 337 = .ok (.iload_n 3, 1) := by decide +kernel
theorem dL_law_338 : decode cL_law 338 = .ok (.iconst 3, 1) := by decide +kernel
theorem dL_law_339 : decode cL_law 339 = .ok (.iadd, 1) := by decide +kernel
theorem dL_law_340 : decode cL_law 340 = .ok (.iaload, 1) := by decide +kernel
theorem dL_law_341 : decode cL_law 341 = .ok (.invokevirtual 45, 3) := by decide +kernel
theorem dL_law_344 : decode cL_law 344 = .ok (.aload_n 2, 1) := by decide +kernel
theorem dL_law_345 : decode cL_law 345 = .ok (.aload_n 0, 1) := by decide +kernel
theorem dL_law_346 : decode cL_law 346 = .ok (.iload_n 3, 1) := by decide +kernel
theorem dL_law_347 : decode cL_law 347 = .ok (.iconst 1, 1) := by decide +kernel
theorem dL_law_348 : decode cL_law 348 = .ok (.iadd, 1) := by decide +kernel
theorem dL_law_349 : decode cL_law 349 = .ok (.iaload, 1) := by decide +kernel
theorem dL_law_350 : decode cL_law 350 = .ok (.aload_n 0, 1) := by decide +kernel
theorem dL_law_351 : decode cL_law 351 = .ok (.iload_n 3, 1) := by decide +kernel
theorem dL_law_352 : decode cL_law 352 = .ok (.iconst 2, 1) := by decide +kernel
theorem dL_law_353 : decode cL_law 353 = .ok (.iadd, 1) := by decide +kernel
theorem dL_law_354 : decode cL_law 354 = .ok (.iaload, 1) := by decide +kernel
theorem dL_law_355 : decode cL_law 355 = .ok (.aload_n 0, 1) := by decide +kernel
theorem dL_law_356 : decode cL_law 356 = .ok (.iload_n 3, 1) := by decide +kernel
theorem dL_law_357 : decode cL_law 357 = .ok (.iconst 3, 1) := by decide +kernel
theorem dL_law_358 : decode cL_law 358 = .ok (.iadd, 1) := by decide +kernel
theorem dL_law_359 : decode cL_law 359 = .ok (.iaload, 1) := by decide +kernel
theorem dL_law_360 : decode cL_law 360 = .ok (.invokevirtual 48, 3) := by decide +kernel
theorem dL_law_363 : decode cL_law 363 = .ok (.if_icmp .eq 354, 3) := by decide +kernel
theorem dL_law_366 : decode cL_law 366 = .ok (.iconst 0, 1) := by decide +kernel
theorem dL_law_367 : decode cL_law 367 = .ok (.ireturn, 1) := by decide +kernel
theorem dL_law_368 : decode cL_law 368 = .ok (.aload_n 1, 1) := by decide +kernel
theorem dL_law_369 : decode cL_law 369 = .ok (.aload_n 0, 1) := by decide +kernel
theorem dL_law_370 : decode cL_law 370 = .ok (.iload_n 3, 1) := by decide +kernel
theorem dL_law_371 : decode cL_law 371 = .ok (.iconst 1, 1) := by decide +kernel
theorem dL_law_372 : decode cL_law 372 = .ok (.iadd, 1) := by decide +kernel
theorem dL_law_373 : decode cL_law 373 = .ok (.iaload, 1) := by decide +kernel
theorem dL_law_374 : decode cL_law 374 = .ok (.aload_n 0, 1) := by decide +kernel
theorem dL_law_375 : decode cL_law 375 = .ok (.iload_n 3, 1) := by decide +kernel
theorem dL_law_376 : decode cL_law 376 = .ok (.iconst 2, 1) := by decide +kernel
theorem dL_law_377 : decode cL_law 377 = .ok (.iadd, 1) := by decide +kernel
theorem dL_law_378 : decode cL_law 378 = .ok (.iaload, 1) := by decide +kernel
theorem dL_law_379 : decode cL_law 379 = .ok (.invokevirtual 49, 3) := by decide +kernel
theorem dL_law_382 : decode cL_law 382 = .ok (.aload_n 2, 1) := by decide +kernel
theorem dL_law_383 : decode cL_law 383 = .ok (.aload_n 0, 1) := by decide +kernel
theorem dL_law_384 : decode cL_law 384 = .ok (.iload_n 3, 1) := by decide +kernel
theorem dL_law_385 : decode cL_law 385 = .ok (.iconst 1, 1) := by decide +kernel
theorem dL_law_386 : decode cL_law 386 = .ok (.iadd, 1) := by decide +kernel
theorem dL_law_387 : decode cL_law 387 = .ok (.iaload, 1) := by decide +kernel
theorem dL_law_388 : decode cL_law 388 = .ok (.aload_n 0, 1) := by decide +kernel
theorem dL_law_389 : decode cL_law 389 = .ok (.iload_n 3, 1) := by decide +kernel
theorem dL_law_390 : decode cL_law 390 = .ok (.iconst 2, 1) := by decide +kernel
theorem dL_law_391 : decode cL_law 391 = .ok (.iadd, 1) := by decide +kernel
theorem dL_law_392 : decode cL_law 392 = .ok (.iaload, 1) := by decide +kernel
theorem dL_law_393 : decode cL_law 393 = .ok (.invokevirtual 52, 3) := by decide +kernel
theorem dL_law_396 : decode cL_law 396 = .ok (.if_icmp .eq 321, 3) := by decide +kernel
theorem dL_law_399 : decode cL_law 399 = .ok (.iconst 0, 1) := by decide +kernel
theorem dL_law_400 : decode cL_law 400 = .ok (.ireturn, 1) := by decide +kernel
theorem dL_law_401 : decode cL_law 401 = .ok (.aload_n 1, 1) := by decide +kernel
theorem dL_law_402 : decode cL_law 402 = .ok (.aload_n 0, 1) := by decide +kernel
theorem dL_law_403 : decode cL_law 403 = .ok (.iload_n 3, 1) := by decide +kernel
theorem dL_law_404 : decode cL_law 404 = .ok (.iconst 1, 1) := by decide +kernel
theorem dL_law_405 : decode cL_law 405 = .ok (.iadd, 1) := by decide +kernel
theorem dL_law_406 : decode cL_law 406 = .ok (.iaload, 1) := by decide +kernel
theorem dL_law_407 : decode cL_law 407 = .ok (.aload_n 0, 1) := by decide +kernel
theorem dL_law_408 : decode cL_law 408 = .ok (.iload_n 3, 1) := by decide +kernel
theorem dL_law_409 : decode cL_law 409 = .ok (.iconst 2, 1) := by decide +kernel
theorem dL_law_410 : decode cL_law 410 = .ok (.iadd, 1) := by decide +kernel
theorem dL_law_411 : decode cL_law 411 = .ok (.iaload, 1) := by decide +kernel
theorem dL_law_412 : decode cL_law 412 = .ok (.invokevirtual 53, 3) := by decide +kernel
theorem dL_law_415 : decode cL_law 415 = .ok (.aload_n 2, 1) := by decide +kernel
theorem dL_law_416 : decode cL_law 416 = .ok (.aload_n 0, 1) := by decide +kernel
theorem dL_law_417 : decode cL_law 417 = .ok (.iload_n 3, 1) := by decide +kernel
theorem dL_law_418 : decode cL_law 418 = .ok (.iconst 1, 1) := by decide +kernel
theorem dL_law_419 : decode cL_law 419 = .ok (.iadd, 1) := by decide +kernel
theorem dL_law_420 : decode cL_law 420 = .ok (.iaload, 1) := by decide +kernel
theorem dL_law_421 : decode cL_law 421 = .ok (.aload_n 0, 1) := by decide +kernel
theorem dL_law_422 : decode cL_law 422 = .ok (.iload_n 3, 1) := by decide +kernel
theorem dL_law_423 : decode cL_law 423 = .ok (.iconst 2, 1) := by decide +kernel
theorem dL_law_424 : decode cL_law 424 = .ok (.iadd, 1) := by decide +kernel
theorem dL_law_425 : decode cL_law 425 = .ok (.iaload, 1) := by decide +kernel
theorem dL_law_426 : decode cL_law 426 = .ok (.invokevirtual 56, 3) := by decide +kernel
theorem dL_law_429 : decode cL_law 429 = .ok (.if_icmp .eq 288, 3) := by decide +kernel
theorem dL_law_432 : decode cL_law 432 = .ok (.iconst 0, 1) := by decide +kernel
theorem dL_law_433 : decode cL_law 433 = .ok (.ireturn, 1) := by decide +kernel
theorem dL_law_434 : decode cL_law 434 = .ok (.aload_n 1, 1) := by decide +kernel
theorem dL_law_435 : decode cL_law 435 = .ok (.invokevirtual 57, 3) := by decide +kernel
theorem dL_law_438 : decode cL_law 438 = .ok (.aload_n 2, 1) := by decide +kernel
theorem dL_law_439 : decode cL_law 439 = .ok (.invokevirtual 61, 3) := by decide +kernel
theorem dL_law_442 : decode cL_law 442 = .ok (.lcmp, 1) := by decide +kernel
theorem dL_law_443 : decode cL_law 443 = .ok (.ifCond .eq 274, 3) := by decide +kernel
theorem dL_law_446 : decode cL_law 446 = .ok (.iconst 0, 1) := by decide +kernel
theorem dL_law_447 : decode cL_law 447 = .ok (.ireturn, 1) := by decide +kernel
theorem dL_law_448 : decode cL_law 448 = .ok (.aload_n 1, 1) := by decide +kernel
theorem dL_law_449 : decode cL_law 449 = .ok (.invokevirtual 62, 3) := by decide +kernel
theorem dL_law_452 : decode cL_law 452 = .ok (.aload_n 2, 1) := by decide +kernel
theorem dL_law_453 : decode cL_law 453 = .ok (.invokevirtual 65, 3) := by decide +kernel
theorem dL_law_456 : decode cL_law 456 = .ok (.if_icmp .eq 261, 3) := by decide +kernel
theorem dL_law_459 : decode cL_law 459 = .ok (.iconst 0, 1) := by decide +kernel
theorem dL_law_460 : decode cL_law 460 = .ok (.ireturn, 1) := by decide +kernel
theorem dL_law_461 : decode cL_law 461 = .ok (.aload_n 1, 1) := by decide +kernel
theorem dL_law_462 : decode cL_law 462 = .ok (.aload_n 0, 1) := by decide +kernel
theorem dL_law_463 : decode cL_law 463 = .ok (.iload_n 3, 1) := by decide +kernel
theorem dL_law_464 : decode cL_law 464 = .ok (.iconst 1, 1) := by decide +kernel
theorem dL_law_465 : decode cL_law 465 = .ok (.iadd, 1) := by decide +kernel
theorem dL_law_466 : decode cL_law 466 = .ok (.iaload, 1) := by decide +kernel
theorem dL_law_467 : decode cL_law 467 = .ok (.invokevirtual 66, 3) := by decide +kernel
theorem dL_law_470 : decode cL_law 470 = .ok (.aload_n 2, 1) := by decide +kernel
theorem dL_law_471 : decode cL_law 471 = .ok (.aload_n 0, 1) := by decide +kernel
theorem dL_law_472 : decode cL_law 472 = .ok (.iload_n 3, 1) := by decide +kernel
theorem dL_law_473 : decode cL_law 473 = .ok (.iconst 1, 1) := by decide +kernel
theorem dL_law_474 : decode cL_law 474 = .ok (.iadd, 1) := by decide +kernel
theorem dL_law_475 : decode cL_law 475 = .ok (.iaload, 1) := by decide +kernel
theorem dL_law_476 : decode cL_law 476 = .ok (.invokevirtual 69, 3) := by decide +kernel
theorem dL_law_479 : decode cL_law 479 = .ok (.if_icmp .eq 238, 3) := by decide +kernel
theorem dL_law_482 : decode cL_law 482 = .ok (.iconst 0, 1) := by decide +kernel
theorem dL_law_483 : decode cL_law 483 = .ok (.ireturn, 1) := by decide +kernel
theorem dL_law_484 : decode cL_law 484 = .ok (.aload_n 1, 1) := by decide +kernel
theorem dL_law_485 : decode cL_law 485 = .ok (.aload_n 0, 1) := by decide +kernel
theorem dL_law_486 : decode cL_law 486 = .ok (.iload_n 3, 1) := by decide +kernel
theorem dL_law_487 : decode cL_law 487 = .ok (.iconst 1, 1) := by decide +kernel
theorem dL_law_488 : decode cL_law 488 = .ok (.iadd, 1) := by decide +kernel
theorem dL_law_489 : decode cL_law 489 = .ok (.iaload, 1) := by decide +kernel
theorem dL_law_490 : decode cL_law 490 = .ok (.invokevirtual 70, 3) := by decide +kernel
theorem dL_law_493 : decode cL_law 493 = .ok (.aload_n 2, 1) := by decide +kernel
theorem dL_law_494 : decode cL_law 494 = .ok (.aload_n 0, 1) := by decide +kernel
theorem dL_law_495 : decode cL_law 495 = .ok (.iload_n 3, 1) := by decide +kernel
theorem dL_law_496 : decode cL_law 496 = .ok (.iconst 1, 1) := by decide +kernel
theorem dL_law_497 : decode cL_law 497 = .ok (.iadd, 1) := by decide +kernel
theorem dL_law_498 : decode cL_law 498 = .ok (.iaload, 1) := by decide +kernel
theorem dL_law_499 : decode cL_law 499 = .ok (.invokevirtual 73, 3) := by decide +kernel
theorem dL_law_502 : decode cL_law 502 = .ok (.if_icmp .eq 215, 3) := by decide +kernel
theorem dL_law_505 : decode cL_law 505 = .ok (.iconst 0, 1) := by decide +kernel
theorem dL_law_506 : decode cL_law 506 = .ok (.ireturn, 1) := by decide +kernel
theorem dL_law_507 : decode cL_law 507 = .ok (.aload_n 1, 1) := by decide +kernel
theorem dL_law_508 : decode cL_law 508 = .ok (.invokevirtual 74, 3) := by decide +kernel
theorem dL_law_511 : decode cL_law 511 = .ok (.aload_n 2, 1) := by decide +kernel
theorem dL_law_512 : decode cL_law 512 = .ok (.invokevirtual 77, 3) := by decide +kernel
theorem dL_law_515 : decode cL_law 515 = .ok (.if_icmp .eq 202, 3) := by decide +kernel
theorem dL_law_518 : decode cL_law 518 = .ok (.iconst 0, 1) := by decide +kernel
theorem dL_law_519 : decode cL_law 519 = .ok (.ireturn, 1) := by decide +kernel
theorem dL_law_520 : decode cL_law 520 = .ok (.aload_n 1, 1) := by decide +kernel
theorem dL_law_521 : decode cL_law 521 = .ok (.aload_n 0, 1) := by decide +kernel
theorem dL_law_522 : decode cL_law 522 = .ok (.iload_n 3, 1) := by decide +kernel
theorem dL_law_523 : decode cL_law 523 = .ok (.iconst 1, 1) := by decide +kernel
theorem dL_law_524 : decode cL_law 524 = .ok (.iadd, 1) := by decide +kernel
theorem dL_law_525 : decode cL_law 525 = .ok (.iaload, 1) := by decide +kernel
theorem dL_law_526 : decode cL_law 526 = .ok (.invokevirtual 78, 3) := by decide +kernel
theorem dL_law_529 : decode cL_law 529 = .ok (.aload_n 2, 1) := by decide +kernel
theorem dL_law_530 : decode cL_law 530 = .ok (.aload_n 0, 1) := by decide +kernel
theorem dL_law_531 : decode cL_law 531 = .ok (.iload_n 3, 1) := by decide +kernel
theorem dL_law_532 : decode cL_law 532 = .ok (.iconst 1, 1) := by decide +kernel
theorem dL_law_533 : decode cL_law 533 = .ok (.iadd, 1) := by decide +kernel
theorem dL_law_534 : decode cL_law 534 = .ok (.iaload, 1) := by decide +kernel
theorem dL_law_535 : decode cL_law 535 = .ok (.invokevirtual 81, 3) := by decide +kernel
theorem dL_law_538 : decode cL_law 538 = .ok (.if_icmp .eq 179, 3) := by decide +kernel
theorem dL_law_541 : decode cL_law 541 = .ok (.iconst 0, 1) := by decide +kernel
theorem dL_law_542 : decode cL_law 542 = .ok (.ireturn, 1) := by decide +kernel
theorem dL_law_543 : decode cL_law 543 = .ok (.aload_n 1, 1) := by decide +kernel
theorem dL_law_544 : decode cL_law 544 = .ok (.aload_n 0, 1) := by decide +kernel
theorem dL_law_545 : decode cL_law 545 = .ok (.iload_n 3, 1) := by decide +kernel
theorem dL_law_546 : decode cL_law 546 = .ok (.iconst 1, 1) := by decide +kernel
theorem dL_law_547 : decode cL_law 547 = .ok (.iadd, 1) := by decide +kernel
theorem dL_law_548 : decode cL_law 548 = .ok (.iaload, 1) := by decide +kernel
theorem dL_law_549 : decode cL_law 549 = .ok (.aload_n 0, 1) := by decide +kernel
theorem dL_law_550 : decode cL_law 550 = .ok (.iload_n 3, 1) := by decide +kernel
theorem dL_law_551 : decode cL_law 551 = .ok (.iconst 2, 1) := by decide +kernel
theorem dL_law_552 : decode cL_law 552 = .ok (.iadd, 1) := by decide +kernel
theorem dL_law_553 : decode cL_law 553 = .ok (.iaload, 1) := by decide +kernel
theorem dL_law_554 : decode cL_law 554 = .ok (.invokevirtual 82, 3) := by decide +kernel
theorem dL_law_557 : decode cL_law 557 = .ok (.aload_n 2, 1) := by decide +kernel
theorem dL_law_558 : decode cL_law 558 = .ok (.aload_n 0, 1) := by decide +kernel
theorem dL_law_559 : decode cL_law 559 = .ok (.iload_n 3, 1) := by decide +kernel
theorem dL_law_560 : decode cL_law 560 = .ok (.iconst 1, 1) := by decide +kernel
theorem dL_law_561 : decode cL_law 561 = .ok (.iadd, 1) := by decide +kernel
theorem dL_law_562 : decode cL_law 562 = .ok (.iaload, 1) := by decide +kernel
theorem dL_law_563 : decode cL_law 563 = .ok (.aload_n 0, 1) := by decide +kernel
theorem dL_law_564 : decode cL_law 564 = .ok (.iload_n 3, 1) := by decide +kernel
theorem dL_law_565 : decode cL_law 565 = .ok (.iconst 2, 1) := by decide +kernel
theorem dL_law_566 : decode cL_law 566 = .ok (.iadd, 1) := by decide +kernel
theorem dL_law_567 : decode cL_law 567 = .ok (.iaload, 1) := by decide +kernel
theorem dL_law_568 : decode cL_law 568 = .ok (.invokevirtual 85, 3) := by decide +kernel
theorem dL_law_571 : decode cL_law 571 = .ok (.if_icmp .eq 146, 3) := by decide +kernel
theorem dL_law_574 : decode cL_law 574 = .ok (.iconst 0, 1) := by decide +kernel
theorem dL_law_575 : decode cL_law 575 = .ok (.ireturn, 1) := by decide +kernel
theorem dL_law_576 : decode cL_law 576 = .ok (.aload_n 1, 1) := by decide +kernel
theorem dL_law_577 : decode cL_law 577 = .ok (.invokevirtual 86, 3) := by decide +kernel
theorem dL_law_580 : decode cL_law 580 = .ok (.aload_n 2, 1) := by decide +kernel
theorem dL_law_581 : decode cL_law 581 = .ok (.invokevirtual 89, 3) := by decide +kernel
theorem dL_law_584 : decode cL_law 584 = .ok (.if_icmp .eq 133, 3) := by decide +kernel
theorem dL_law_587 : decode cL_law 587 = .ok (.iconst 0, 1) := by decide +kernel
theorem dL_law_588 : decode cL_law 588 = .ok (.ireturn, 1) := by decide +kernel
theorem dL_law_589 : decode cL_law 589 = .ok (.aload_n 1, 1) := by decide +kernel
theorem dL_law_590 : decode cL_law 590 = .ok (.aload_n 0, 1) := by decide +kernel
theorem dL_law_591 : decode cL_law 591 = .ok (.iload_n 3, 1) := by decide +kernel
theorem dL_law_592 : decode cL_law 592 = .ok (.iconst 1, 1) := by decide +kernel
theorem dL_law_593 : decode cL_law 593 = .ok (.iadd, 1) := by decide +kernel
theorem dL_law_594 : decode cL_law 594 = .ok (.iaload, 1) := by decide +kernel
theorem dL_law_595 : decode cL_law 595 = .ok (.invokevirtual 90, 3) := by decide +kernel
theorem dL_law_598 : decode cL_law 598 = .ok (.aload_n 2, 1) := by decide +kernel
theorem dL_law_599 : decode cL_law 599 = .ok (.aload_n 0, 1) := by decide +kernel
theorem dL_law_600 : decode cL_law 600 = .ok (.iload_n 3, 1) := by decide +kernel
theorem dL_law_601 : decode cL_law 601 = .ok (.iconst 1, 1) := by decide +kernel
theorem dL_law_602 : decode cL_law 602 = .ok (.iadd, 1) := by decide +kernel
theorem dL_law_603 : decode cL_law 603 = .ok (.iaload, 1) := by decide +kernel
theorem dL_law_604 : decode cL_law 604 = .ok (.invokevirtual 93, 3) := by decide +kernel
theorem dL_law_607 : decode cL_law 607 = .ok (.if_icmp .eq 110, 3) := by decide +kernel
theorem dL_law_610 : decode cL_law 610 = .ok (.iconst 0, 1) := by decide +kernel
theorem dL_law_611 : decode cL_law 611 = .ok (.ireturn, 1) := by decide +kernel
theorem dL_law_612 : decode cL_law 612 = .ok (.aload_n 1, 1) := by decide +kernel
theorem dL_law_613 : decode cL_law 613 = .ok (.invokevirtual 94, 3) := by decide +kernel
theorem dL_law_616 : decode cL_law 616 = .ok (.aload_n 2, 1) := by decide +kernel
theorem dL_law_617 : decode cL_law 617 = .ok (.invokevirtual 97, 3) := by decide +kernel
theorem dL_law_620 : decode cL_law 620 = .ok (.if_icmp .eq 97, 3) := by decide +kernel
theorem dL_law_623 : decode cL_law 623 = .ok (.iconst 0, 1) := by decide +kernel
theorem dL_law_624 : decode cL_law 624 = .ok (.ireturn, 1) := by decide +kernel
theorem dL_law_625 : decode cL_law 625 = .ok (.aload_n 1, 1) := by decide +kernel
theorem dL_law_626 : decode cL_law 626 = .ok (.aload_n 0, 1) := by decide +kernel
theorem dL_law_627 : decode cL_law 627 = .ok (.iload_n 3, 1) := by decide +kernel
theorem dL_law_628 : decode cL_law 628 = .ok (.iconst 1, 1) := by decide +kernel
theorem dL_law_629 : decode cL_law 629 = .ok (.iadd, 1) := by decide +kernel
theorem dL_law_630 : decode cL_law 630 = .ok (.iaload, 1) := by decide +kernel
theorem dL_law_631 : decode cL_law 631 = .ok (.invokevirtual 98, 3) := by decide +kernel
theorem dL_law_634 : decode cL_law 634 = .ok (.aload_n 2, 1) := by decide +kernel
theorem dL_law_635 : decode cL_law 635 = .ok (.aload_n 0, 1) := by decide +kernel
theorem dL_law_636 : decode cL_law 636 = .ok (.iload_n 3, 1) := by decide +kernel
theorem dL_law_637 : decode cL_law 637 = .ok (.iconst 1, 1) := by decide +kernel
theorem dL_law_638 : decode cL_law 638 = .ok (.iadd, 1) := by decide +kernel
theorem dL_law_639 : decode cL_law 639 = .ok (.iaload, 1) := by decide +kernel
theorem dL_law_640 : decode cL_law 640 = .ok (.invokevirtual 101, 3) := by decide +kernel
theorem dL_law_643 : decode cL_law 643 = .ok (.if_icmp .eq 74, 3) := by decide +kernel
theorem dL_law_646 : decode cL_law 646 = .ok (.iconst 0, 1) := by decide +kernel
theorem dL_law_647 : decode cL_law 647 = .ok (.ireturn, 1) := by decide +kernel
theorem dL_law_648 : decode cL_law 648 = .ok (.aload_n 1, 1) := by decide +kernel
theorem dL_law_649 : decode cL_law 649 = .ok (.aload_n 0, 1) := by decide +kernel
theorem dL_law_650 : decode cL_law 650 = .ok (.iload_n 3, 1) := by decide +kernel
theorem dL_law_651 : decode cL_law 651 = .ok (.iconst 1, 1) := by decide +kernel
theorem dL_law_652 : decode cL_law 652 = .ok (.iadd, 1) := by decide +kernel
theorem dL_law_653 : decode cL_law 653 = .ok (.iaload, 1) := by decide +kernel
theorem dL_law_654 : decode cL_law 654 = .ok (.aload_n 0, 1) := by decide +kernel
theorem dL_law_655 : decode cL_law 655 = .ok (.iload_n 3, 1) := by decide +kernel
theorem dL_law_656 : decode cL_law 656 = .ok (.iconst 2, 1) := by decide +kernel
theorem dL_law_657 : decode cL_law 657 = .ok (.iadd, 1) := by decide +kernel
theorem dL_law_658 : decode cL_law 658 = .ok (.iaload, 1) := by decide +kernel
theorem dL_law_659 : decode cL_law 659 = .ok (.invokevirtual 102, 3) := by decide +kernel
theorem dL_law_662 : decode cL_law 662 = .ok (.aload_n 2, 1) := by decide +kernel
theorem dL_law_663 : decode cL_law 663 = .ok (.aload_n 0, 1) := by decide +kernel
theorem dL_law_664 : decode cL_law 664 = .ok (.iload_n 3, 1) := by decide +kernel
theorem dL_law_665 : decode cL_law 665 = .ok (.iconst 1, 1) := by decide +kernel
theorem dL_law_666 : decode cL_law 666 = .ok (.iadd, 1) := by decide +kernel
theorem dL_law_667 : decode cL_law 667 = .ok (.iaload, 1) := by decide +kernel
theorem dL_law_668 : decode cL_law 668 = .ok (.aload_n 0, 1) := by decide +kernel
theorem dL_law_669 : decode cL_law 669 = .ok (.iload_n 3, 1) := by decide +kernel
theorem dL_law_670 : decode cL_law 670 = .ok (.iconst 2, 1) := by decide +kernel
theorem dL_law_671 : decode cL_law 671 = .ok (.iadd, 1) := by decide +kernel
theorem dL_law_672 : decode cL_law 672 = .ok (.iaload, 1) := by decide +kernel
theorem dL_law_673 : decode cL_law 673 = .ok (.invokevirtual 105, 3) := by decide +kernel
theorem dL_law_676 : decode cL_law 676 = .ok (.if_icmp .eq 41, 3) := by decide +kernel
theorem dL_law_679 : decode cL_law 679 = .ok (.iconst 0, 1) := by decide +kernel
theorem dL_law_680 : decode cL_law 680 = .ok (.ireturn, 1) := by decide +kernel
theorem dL_law_681 : decode cL_law 681 = .ok (.aload_n 1, 1) := by decide +kernel
theorem dL_law_682 : decode cL_law 682 = .ok (.invokevirtual 106, 3) := by decide +kernel
theorem dL_law_685 : decode cL_law 685 = .ok (.aload_n 2, 1) := by decide +kernel
theorem dL_law_686 : decode cL_law 686 = .ok (.invokevirtual 109, 3) := by decide +kernel
theorem dL_law_689 : decode cL_law 689 = .ok (.if_icmp .eq 28, 3) := by decide +kernel
theorem dL_law_692 : decode cL_law 692 = .ok (.iconst 0, 1) := by decide +kernel
theorem dL_law_693 : decode cL_law 693 = .ok (.ireturn, 1) := by decide +kernel
theorem dL_law_694 : decode cL_law 694 = .ok (.aload_n 1, 1) := by decide +kernel
theorem dL_law_695 : decode cL_law 695 = .ok (.aload_n 0, 1) := by decide +kernel
theorem dL_law_696 : decode cL_law 696 = .ok (.iload_n 3, 1) := by decide +kernel
theorem dL_law_697 : decode cL_law 697 = .ok (.iconst 1, 1) := by decide +kernel
theorem dL_law_698 : decode cL_law 698 = .ok (.iadd, 1) := by decide +kernel
theorem dL_law_699 : decode cL_law 699 = .ok (.iaload, 1) := by decide +kernel
theorem dL_law_700 : decode cL_law 700 = .ok (.invokevirtual 110, 3) := by decide +kernel
theorem dL_law_703 : decode cL_law 703 = .ok (.aload_n 2, 1) := by decide +kernel
theorem dL_law_704 : decode cL_law 704 = .ok (.aload_n 0, 1) := by decide +kernel
theorem dL_law_705 : decode cL_law 705 = .ok (.iload_n 3, 1) := by decide +kernel
theorem dL_law_706 : decode cL_law 706 = .ok (.iconst 1, 1) := by decide +kernel
theorem dL_law_707 : decode cL_law 707 = .ok (.iadd, 1) := by decide +kernel
theorem dL_law_708 : decode cL_law 708 = .ok (.iaload, 1) := by decide +kernel
theorem dL_law_709 : decode cL_law 709 = .ok (.invokevirtual 113, 3) := by decide +kernel
theorem dL_law_712 : decode cL_law 712 = .ok (.if_icmp .eq 5, 3) := by decide +kernel
theorem dL_law_715 : decode cL_law 715 = .ok (.iconst 0, 1) := by decide +kernel
theorem dL_law_716 : decode cL_law 716 = .ok (.ireturn, 1) := by decide +kernel
theorem dL_law_717 : decode cL_law 717 = .ok (.iinc 3 4, 3) := by decide +kernel
theorem dL_law_720 : decode cL_law 720 = .ok (.goto (-702), 3) := by decide +kernel
theorem dL_law_723 : decode cL_law 723 = .ok (.iconst 1, 1) := by decide +kernel
theorem dL_law_724 : decode cL_law 724 = .ok (.ireturn, 1) := by decide +kernel
end
section
/-! my base rows: one table for all methods, contracts of readers, calls of them -/
def bI (b : Bool) : Int32 := if b then 1 else 0
def rmk (d : Nat) : Room := { frames := d, cells := 0, slots := 0, locals := 40 * d }
abbrev TWd (y : MethodName) (c : ByteArray) (n : Nat) (ret : Option FieldType) : List Cond := Cond.code y c n ret :: lw_tb
theorem tb_good : GoodIn lw_tb lw_tb := fun w hw => ⟨hw, good_of_word (List.mem_filter.mp hw).2⟩
theorem tw_good {y : MethodName} {c : ByteArray} {n : Nat} {ret : Option FieldType} (h : Cond.code y c n ret ∈ lw_tb) : GoodIn lw_tb (TWd y c n ret) := fun w hw => (List.mem_cons.mp hw).elim (fun e => e ▸ tb_good _ h) (fun q => tb_good w q)
abbrev cls : List vw_C := [(RX0, TX0, 2), (RX1, TX1, 7), (RX2, TX2, 4), (RX3, TX3, 7), (RX4, TX4, 3), (RX5, TX5, 1), (RX6, TX6, 6), (RX7, TX7, 5), (RX8, TX8, 15)]
def tyl (K : Nat → ClassId) : List (ClassId × FieldType) := [(K 0, .int), (K 1, .long), (K 2, .boolean), (K 3, .object "BondedWall$Course"), (K 4, .array .int)]
abbrev PI (D : va_G) (K : Nat → ClassId) (ws : va_W) (U : State) (H : Heap) : Prop := va_P D cls ws H ∧ va_K D cls (tyl K) U
def RO (d : Nat) (R : Room) (cells slots : Nat) : Prop := d + 1 ≤ R.frames ∧ 40 * (d + 1) ≤ R.locals ∧ cells ≤ R.cells ∧ slots ≤ R.slots
theorem rok {d d' : Nat} (h : d < d') : RO d (rmk d') 0 0 := ⟨h, Nat.mul_le_mul_left 40 h, Nat.zero_le _, Nat.zero_le _⟩
theorem inX8 : ∀ w ∈ u_ws RX8 TX8 15, w ∈ lw_tb := by decide +kernel
theorem bI_t : bI true = 1 := rfl
theorem bI_f : bI false = 0 := rfl
theorem bI_eq0 {b : Bool} : bI b = 0 ↔ b = false := by cases b <;> decide
theorem bI_eq1 {b : Bool} : bI b = 1 ↔ b = true := by cases b <;> decide
theorem bI_nar (b : Bool) : narrow .boolean (.int (bI b)) = .int (bI b) := by cases b <;> rfl
theorem mt_of {l : Launch} {y : MethodName} {cc : ByteArray} {maxL : Nat} {ret : Option FieldType} {rm : Room} {As : List Value} {B : State → Prop} {Qc : Array Value → State → Outcome → State → Prop} {mc ms : Nat} {free : Addr → Prop} (hy : plainName y.cls = true) (hlen : (lg_sl As).length ≤ maxL)
    (body : ∀ (p : Program) (e : Env) (s : State) (m : MethodId) (below : List Frame) (meth : Method) (c : Code), CallFix p m c cc maxL s As.toArray lw_tb y.cls → meth.sig.returnType = ret → meth.locks = false → B s → ∀ ls : Array Slot, lv_has ls maxL (lv_args 0 As) → W p l e rm s m As.toArray below meth c s.heap [] 0 0 (MQ below Qc As.toArray s mc ms free) (F0 m 0 ls [])) :
    Met l y (TWd y cc maxL ret) rm (va_Pc As B) Qc mc ms free := by
  refine Met.ofW (cc := cc) (maxL := maxL) (ret := ret) hy rfl ?_
  intro p e s m args below meth c s₁ Bd hml hv
  obtain ⟨rfl, hB⟩ := hv
  have hts := atoms_spec (ws := TWd y cc maxL ret) Bd.pre
  have hl := lv_entry As (n := maxL) hlen
  rw [lg_entry_eq]
  exact body p e s m below meth c ⟨Bd.exec, Bd.bytes, hml, findClass_of_methodNamed Bd.named, fun w h => hts w (List.mem_cons_of_mem _ h)⟩ Bd.returns Bd.notSynchronized hB _ hl
theorem blP {D : va_G} {K : Nat → ClassId} {ws : va_W} {As : List Value} : FrameBlind (va_Pc As (fun U => PI D K ws U U.heap)) := fun a U g mk q => ⟨q.1, q.2.1, va_K.moved (u := U) (U := U.calling g mk a) (Vm.Alike.refl U.vm) q.2.2⟩
theorem blT {As : List Value} : FrameBlind (va_Pc As (fun _ => True)) := fun _ _ _ _ q => q
theorem piU {D : va_G} {K : Nat → ClassId} {ws : va_W} {s : State} {H : Heap} (h : PI D K ws s H) : ∀ U : State, U.heap = H → s.WarmedH U.vm → PI D K ws U U.heap := fun U hU hW => ⟨by rw [hU]; exact h.1, va_K.moved hW.alike h.2⟩
section KB
variable {p : Program} {l : Launch} {e : Env} {R : Room} {s : State} {m : MethodId} {args : Array Value} {below : List Frame} {meth : Method} {c : Code} {H : Heap} {locs : List Loc} {cells slots : Nat} {Q : State → Prop}
variable {cc bytes : ByteArray} {nL maxL index pc d : Nat} {own : String} {y : MethodName} {ret : Option FieldType} {ls : Array Slot} {As rest st : List Value} {B : State → Prop} {r : Int32} {b : Addr}
theorem kS (S : CallFix p m c cc nL s args lw_tb own) (hM : Met l y (TWd y bytes maxL ret) (rmk d) (va_Pc As B) (QcRead r) 0 0 (fun _ => False))
    (hlink : Cond.methodLink own index y ∈ lw_tb) (hst : Cond.static y ∈ lw_tb) (hini : Cond.initialized y.cls ∈ lw_tb) (hcode : Cond.code y bytes maxL ret ∈ lw_tb)
    (hd : y.cls ≠ "java/lang/invoke/MethodHandle" ∧ y.cls ≠ "java/lang/invoke/VarHandle" ∧ (parseMethodDescriptor y.desc).map (fun d => d.parameters.length) = some As.length) (hm : maxL ≤ 21)
    (hR : RO d R cells slots) (hbl : FrameBlind (va_Pc As B)) (hB : ∀ U : State, U.heap = H → s.WarmedH U.vm → B U)
    (hsz : ls.size = nL) (hstk : st = As.reverse ++ rest) (hW : (rest.map fun v => v.category).sum ≤ 8) (hdg : decode cc pc = .ok (.invokestatic index, 3))
    (k : W p l e R s m args below meth c H locs cells slots Q (F0 m (pc + 3) ls (.int r :: rest))) : W p l e R s m args below meth c H locs cells slots Q (F0 m pc ls st) := by
  have hr2 := hR.2.1
  refine W.callR (r := r) (W.runS (g := F0 m pc ls st) (As := As) (rest := rest) (n := As.length) S hM ⟨callB_of As.length S.2.2.2.2 (tw_good hcode) rfl rfl rfl (S.2.2.2.2 _ hini) (S.2.2.2.2 _ hlink) hd ⟨hR.1, by simp only [rmk]; omega⟩, S.2.2.2.2 _ hst⟩ ⟨hbl, fun U hU hW => ⟨rfl, hB U hU hW⟩⟩ rfl rfl hsz hstk (lv_room hW) hdg ⟨hR.2.2.1, hR.2.2.2⟩) k
theorem kV (S : CallFix p m c cc nL s args lw_tb own) (hM : Met l y (TWd y bytes maxL ret) (rmk d) (va_Pc (.ref b :: As) B) (QcRead r) 0 0 (fun _ => False))
    (hlink : Cond.methodLink own index y ∈ lw_tb) (hst : Cond.instanceMethod y ∈ lw_tb) (hsel : Cond.selects y.cls y y ∈ lw_tb) (hini : Cond.initialized y.cls ∈ lw_tb) (hcode : Cond.code y bytes maxL ret ∈ lw_tb)
    (hd : y.cls ≠ "java/lang/invoke/MethodHandle" ∧ y.cls ≠ "java/lang/invoke/VarHandle" ∧ (parseMethodDescriptor y.desc).map (fun d => d.parameters.length) = some As.length) (hm : maxL ≤ 21)
    (hR : RO d R cells slots) (hbl : FrameBlind (va_Pc (.ref b :: As) B)) (hB : ∀ U : State, U.heap = H → s.WarmedH U.vm → B U)
    (hrecv : ∃ cellB : Cell, H[b]? = some cellB ∧ cellB.vm.isStatics = false ∧ s.vm.findClass y.cls = some cellB.cls)
    (hsz : ls.size = nL) (hstk : st = As.reverse ++ .ref b :: rest) (hW : (rest.map fun v => v.category).sum ≤ 8) (hdg : decode cc pc = .ok (.invokevirtual index, 3))
    (k : W p l e R s m args below meth c H locs cells slots Q (F0 m (pc + 3) ls (.int r :: rest))) : W p l e R s m args below meth c H locs cells slots Q (F0 m pc ls st) := by
  have hr2 := hR.2.1
  refine W.callR (r := r) (W.runV (g := F0 m pc ls st) (As := As) (rest := rest) (n := As.length) (C := y.cls) (b := b) S hM ⟨callB_of As.length S.2.2.2.2 (tw_good hcode) rfl rfl rfl (S.2.2.2.2 _ hini) (S.2.2.2.2 _ hlink) hd ⟨hR.1, by simp only [rmk]; omega⟩, S.2.2.2.2 _ hst, S.2.2.2.2 _ hsel⟩ ⟨hbl, hrecv, fun U hU hW => ⟨rfl, hB U hU hW⟩⟩ rfl rfl hsz hstk (lv_room hW) hdg ⟨hR.2.2.1, hR.2.2.2⟩) k
theorem rt_i {v : Int32} (S : CallFix p m c cc nL s args lw_tb own) (hr : meth.sig.returnType = some .int) (hlk : meth.locks = false) (h : v = r) (hdg : decode cc pc = .ok (.ireturn, 1)) :
    W p l e R s m args below meth c s.heap [] cells slots (MQ below (QcRead r) args s cells slots (fun _ => False)) (F0 m pc ls [.int v]) := W.iret S.1 S.2.1 hr (fun t ht _ => ⟨by rw [h], ht⟩) (fun _ h => by cases h) hdg hlk
theorem rt_z {v : Int32} {z : Bool} (S : CallFix p m c cc nL s args lw_tb own) (hr : meth.sig.returnType = some .boolean) (hlk : meth.locks = false) (h : v = bI z) (hdg : decode cc pc = .ok (.ireturn, 1)) :
    W p l e R s m args below meth c s.heap [] cells slots (MQ below (QcRead (bI z)) args s cells slots (fun _ => False)) (F0 m pc ls [.int v]) := by
  subst h
  exact W.zret S.1 S.2.1 hr (bI_nar z) (fun t ht _ => ⟨rfl, ht⟩) (fun _ h => by cases h) hdg hlk
theorem ly_top {x z : Int32} (h : x = z) (k : W p l e R s m args below meth c H locs cells slots Q (F0 m pc ls (.int z :: rest))) : W p l e R s m args below meth c H locs cells slots Q (F0 m pc ls (.int x :: rest)) := by rw [h]; exact k
theorem ly_topl {x z : Int64} (h : x = z) (k : W p l e R s m args below meth c H locs cells slots Q (F0 m pc ls (.long z :: rest))) : W p l e R s m args below meth c H locs cells slots Q (F0 m pc ls (.long x :: rest)) := by rw [h]; exact k
theorem g8 {D : va_G} {K : Nat → ClassId} {ws : va_W} {a : Nat} {fs : List Value} {v : Value} (S : CallFix p m c cc nL s args lw_tb own) (hI : PI D K ws s H) (q0 : Nat) (he : ws[q0]? = some (a, .inr (8, fs))) (k : Nat) (hk : k < 15) (hl : Cond.fieldLink own index (TX8 k).1 (TX8 k).2.1 (TX8 k).2.2.1 ∈ lw_tb) (hv : fs[k]? = some v) (hdg : decode cc pc = .ok (.getfield index, 3))
    (kk : W p l e R s m args below meth c H locs cells slots Q (F0 m (pc + 3) ls (v :: rest))) : W p l e R s m args below meth c H locs cells slots Q (F0 m pc ls (.ref a :: rest)) :=
  va_get (C := RX8) (T := TX8) (N := 15) S.1 S.2.1 S.2.2.2.2 inX8 S.2.2.2.1 hI.2 hI.1 q0 he rfl k hk (S.2.2.2.2 _ hl) (fun _ h9 => h9) hv hdg kk
theorem ly_iald {D : va_G} {K : Nat → ClassId} {ws : va_W} {a n k : Nat} {f : Nat → Int32} {v : Int32} (S : CallFix p m c cc nL s args lw_tb own) (hI : PI D K ws s H) (q0 : Nat) (ha : ws[q0]? = some (a, .inl (K 0, n, .inl f))) (hk : k < n) (hn : n < 2 ^ 31) (hv : f k = v) (hdg : decode cc pc = .ok (.iaload, 1))
    (kk : W p l e R s m args below meth c H locs cells slots Q (F0 m (pc + 1) ls (.int v :: rest))) : W p l e R s m args below meth c H locs cells slots Q (F0 m pc ls (.int (nI k) :: .ref a :: rest)) := by
  refine va_iald S.1 S.2.1 hI.2 hI.1 q0 0 ha rfl (vp_in_nI hk hn) hdg ?_
  rw [nI_clamp (Nat.lt_trans hk hn), hv]
  exact kk
end KB
end
section
/-! my rows on small naturals as ints, and branches that give facts on them -/
theorem nI_and {a b : Nat} (ha : a < 2 ^ 31) (hb : b < 2 ^ 31) : nI a &&& nI b = nI (a &&& b) := by
  have h : a &&& b < 2 ^ 31 := Nat.lt_of_le_of_lt Nat.and_le_left ha
  apply Int32.toBitVec_inj.mp
  apply BitVec.eq_of_toNat_eq
  rw [Int32.toBitVec_and, BitVec.toNat_and, pk_tn (by omega), pk_tn (by omega), pk_tn (by omega)]
theorem nI_or {a b : Nat} (ha : a < 2 ^ 31) (hb : b < 2 ^ 31) : nI a ||| nI b = nI (a ||| b) := by
  have h : a ||| b < 2 ^ 31 := Nat.or_lt_two_pow ha hb
  apply Int32.toBitVec_inj.mp
  apply BitVec.eq_of_toNat_eq
  rw [Int32.toBitVec_or, BitVec.toNat_or, pk_tn (by omega), pk_tn (by omega), pk_tn (by omega)]
theorem nI_xor {a b : Nat} (ha : a < 2 ^ 31) (hb : b < 2 ^ 31) : nI a ^^^ nI b = nI (a ^^^ b) := by
  have h : a ^^^ b < 2 ^ 31 := Nat.xor_lt_two_pow ha hb
  apply Int32.toBitVec_inj.mp
  apply BitVec.eq_of_toNat_eq
  rw [Int32.toBitVec_xor, BitVec.toNat_xor, pk_tn (by omega), pk_tn (by omega), pk_tn (by omega)]
theorem nI_sh31 : ∀ k, k < 32 → ((nI k &&& 31).toBitVec.smod 32).toNat = k := by decide +kernel
theorem nI_shr {a k : Nat} (ha : a < 2 ^ 31) (hk : k < 32) : nI a >>> (nI k &&& 31) = nI (a >>> k) := by
  rw [pk_shrN ha _ k (nI_sh31 k hk), Nat.shiftRight_eq_div_pow]
theorem nI_shl {a k : Nat} (hk : k < 32) (h : a <<< k < 2 ^ 31) : nI a <<< (nI k &&& 31) = nI (a <<< k) := by
  rw [Nat.shiftLeft_eq] at h ⊢
  exact pk_shlN _ k (nI_sh31 k hk) (by omega)
theorem nI_rem {a d : Nat} (ha : a < 2 ^ 31) (h0 : 0 < d) (hd : d < 2 ^ 31) : nI a - nI a / nI d * nI d = nI (a % d) := pk_rem ha h0 hd
theorem nI_z {a : Nat} (ha : a < 2 ^ 31) : nI a = 0 ↔ a = 0 := by rw [← nI_0]; exact nI_eq ha (by omega)
theorem nI_z1 {a : Nat} (ha : a < 2 ^ 31) (h : nI a = 0) : a = 0 := (nI_z ha).mp h
theorem nI_z2 {a : Nat} (ha : a < 2 ^ 31) (h : ¬ nI a = 0) : ¬ a = 0 := mt (nI_z ha).mpr h
theorem nI_e1 {a b : Nat} (ha : a < 2 ^ 31) (hb : b < 2 ^ 31) (h : nI a = nI b) : a = b := (nI_eq ha hb).mp h
theorem nI_e2 {a b : Nat} (ha : a < 2 ^ 31) (hb : b < 2 ^ 31) (h : ¬ nI a = nI b) : ¬ a = b := mt (nI_eq ha hb).mpr h
theorem nI_l1 {a b : Nat} (ha : a < 2 ^ 31) (hb : b < 2 ^ 31) (h : nI a < nI b) : a < b := (nI_ltI ha hb).mp h
theorem nI_l2 {a b : Nat} (ha : a < 2 ^ 31) (hb : b < 2 ^ 31) (h : ¬ nI a < nI b) : b ≤ a := Nat.le_of_not_lt (mt (nI_ltI ha hb).mpr h)
theorem nI_le1 {a b : Nat} (ha : a < 2 ^ 31) (hb : b < 2 ^ 31) (h : nI a ≤ nI b) : a ≤ b := (nI_leI ha hb).mp h
theorem nI_le2 {a b : Nat} (ha : a < 2 ^ 31) (hb : b < 2 ^ 31) (h : ¬ nI a ≤ nI b) : b < a := Nat.lt_of_not_le (mt (nI_leI ha hb).mpr h)
theorem nI_p1 {a : Nat} (ha : a < 2 ^ 31) (h : 0 < nI a) : 0 < a := by rw [← nI_0] at h; exact (nI_ltI (by omega) ha).mp h
theorem nI_p2 {a : Nat} (ha : a < 2 ^ 31) (h : ¬ 0 < nI a) : a = 0 := by
  rw [← nI_0] at h; have := mt (nI_ltI (by omega) ha).mpr h; omega
theorem nI_n1 {a : Nat} {P : Prop} (ha : a < 2 ^ 31) (h : nI a < 0) : P := absurd h (nI_pos ha)
theorem nI_n2 {a : Nat} (h : ¬ nI a < 0) : True := trivial
theorem bI_e1 {b : Bool} (h : bI b = 0) : b = false := bI_eq0.mp h
theorem bI_e2 {b : Bool} (h : ¬ bI b = 0) : b = true := by cases b <;> first | rfl | exact absurd rfl h
theorem and1 (a : Nat) : a &&& 1 = a % 2 := by rw [← Nat.and_one_is_mod]
theorem tb_sh {a k : Nat} : ((a >>> k) % 2 = 1) = (a.testBit k = true) := by
  rw [Nat.testBit_eq_decide_div_mod_eq, Nat.shiftRight_eq_div_pow]; simp
section KN
variable {p : Program} {l : Launch} {e : Env} {R : Room} {s : State} {m : MethodId} {args : Array Value} {below : List Frame} {meth : Method} {c : Code} {H : Heap} {locs : List Loc} {cells slots : Nat} {Q : State → Prop}
variable {cc : ByteArray} {nL pc tgt : Nat} {own : String} {ls : Array Slot} {rest : List Value} {x y : Int32} {off : Int} {P Pn : Prop}
theorem ly_ifeq (S : CallFix p m c cc nL s args lw_tb own) (h1 : x = 0 → P) (h2 : ¬ x = 0 → Pn) (hdg : decode cc pc = .ok (.ifCond .eq off, 3)) (ht : (pc : Int) + off = (tgt : Int)) (kt : P → W p l e R s m args below meth c H locs cells slots Q (F0 m tgt ls rest)) (kf : Pn → W p l e R s m args below meth c H locs cells slots Q (F0 m (pc + 3) ls rest)) : W p l e R s m args below meth c H locs cells slots Q (F0 m pc ls (.int x :: rest)) := lv_if_eq S.1 S.2.1 hdg ht (fun q => kt (h1 q)) (fun q => kf (h2 q))
theorem ly_ifne (S : CallFix p m c cc nL s args lw_tb own) (h1 : ¬ x = 0 → P) (h2 : x = 0 → Pn) (hdg : decode cc pc = .ok (.ifCond .ne off, 3)) (ht : (pc : Int) + off = (tgt : Int)) (kt : P → W p l e R s m args below meth c H locs cells slots Q (F0 m tgt ls rest)) (kf : Pn → W p l e R s m args below meth c H locs cells slots Q (F0 m (pc + 3) ls rest)) : W p l e R s m args below meth c H locs cells slots Q (F0 m pc ls (.int x :: rest)) := lv_if_ne S.1 S.2.1 hdg ht (fun q => kt (h1 q)) (fun q => kf (h2 q))
theorem ly_iflt (S : CallFix p m c cc nL s args lw_tb own) (h1 : x < 0 → P) (h2 : ¬ x < 0 → Pn) (hdg : decode cc pc = .ok (.ifCond .lt off, 3)) (ht : (pc : Int) + off = (tgt : Int)) (kt : P → W p l e R s m args below meth c H locs cells slots Q (F0 m tgt ls rest)) (kf : Pn → W p l e R s m args below meth c H locs cells slots Q (F0 m (pc + 3) ls rest)) : W p l e R s m args below meth c H locs cells slots Q (F0 m pc ls (.int x :: rest)) := lv_if_lt S.1 S.2.1 hdg ht (fun q => kt (h1 q)) (fun q => kf (h2 q))
theorem ly_ifge (S : CallFix p m c cc nL s args lw_tb own) (h1 : 0 ≤ x → P) (h2 : ¬ 0 ≤ x → Pn) (hdg : decode cc pc = .ok (.ifCond .ge off, 3)) (ht : (pc : Int) + off = (tgt : Int)) (kt : P → W p l e R s m args below meth c H locs cells slots Q (F0 m tgt ls rest)) (kf : Pn → W p l e R s m args below meth c H locs cells slots Q (F0 m (pc + 3) ls rest)) : W p l e R s m args below meth c H locs cells slots Q (F0 m pc ls (.int x :: rest)) := lv_if_ge S.1 S.2.1 hdg ht (fun q => kt (h1 q)) (fun q => kf (h2 q))
theorem ly_ifgt (S : CallFix p m c cc nL s args lw_tb own) (h1 : 0 < x → P) (h2 : ¬ 0 < x → Pn) (hdg : decode cc pc = .ok (.ifCond .gt off, 3)) (ht : (pc : Int) + off = (tgt : Int)) (kt : P → W p l e R s m args below meth c H locs cells slots Q (F0 m tgt ls rest)) (kf : Pn → W p l e R s m args below meth c H locs cells slots Q (F0 m (pc + 3) ls rest)) : W p l e R s m args below meth c H locs cells slots Q (F0 m pc ls (.int x :: rest)) := lv_if_gt S.1 S.2.1 hdg ht (fun q => kt (h1 q)) (fun q => kf (h2 q))
theorem ly_ifle (S : CallFix p m c cc nL s args lw_tb own) (h1 : x ≤ 0 → P) (h2 : ¬ x ≤ 0 → Pn) (hdg : decode cc pc = .ok (.ifCond .le off, 3)) (ht : (pc : Int) + off = (tgt : Int)) (kt : P → W p l e R s m args below meth c H locs cells slots Q (F0 m tgt ls rest)) (kf : Pn → W p l e R s m args below meth c H locs cells slots Q (F0 m (pc + 3) ls rest)) : W p l e R s m args below meth c H locs cells slots Q (F0 m pc ls (.int x :: rest)) := lv_if_le S.1 S.2.1 hdg ht (fun q => kt (h1 q)) (fun q => kf (h2 q))
theorem ly_cmeq (S : CallFix p m c cc nL s args lw_tb own) (h1 : x = y → P) (h2 : ¬ x = y → Pn) (hdg : decode cc pc = .ok (.if_icmp .eq off, 3)) (ht : (pc : Int) + off = (tgt : Int)) (kt : P → W p l e R s m args below meth c H locs cells slots Q (F0 m tgt ls rest)) (kf : Pn → W p l e R s m args below meth c H locs cells slots Q (F0 m (pc + 3) ls rest)) : W p l e R s m args below meth c H locs cells slots Q (F0 m pc ls (.int y :: .int x :: rest)) := lv_icmp_eq S.1 S.2.1 hdg ht (fun q => kt (h1 q)) (fun q => kf (h2 q))
theorem ly_cmne (S : CallFix p m c cc nL s args lw_tb own) (h1 : ¬ x = y → P) (h2 : x = y → Pn) (hdg : decode cc pc = .ok (.if_icmp .ne off, 3)) (ht : (pc : Int) + off = (tgt : Int)) (kt : P → W p l e R s m args below meth c H locs cells slots Q (F0 m tgt ls rest)) (kf : Pn → W p l e R s m args below meth c H locs cells slots Q (F0 m (pc + 3) ls rest)) : W p l e R s m args below meth c H locs cells slots Q (F0 m pc ls (.int y :: .int x :: rest)) := lv_icmp_ne S.1 S.2.1 hdg ht (fun q => kt (h1 q)) (fun q => kf (h2 q))
theorem ly_cmlt (S : CallFix p m c cc nL s args lw_tb own) (h1 : x < y → P) (h2 : ¬ x < y → Pn) (hdg : decode cc pc = .ok (.if_icmp .lt off, 3)) (ht : (pc : Int) + off = (tgt : Int)) (kt : P → W p l e R s m args below meth c H locs cells slots Q (F0 m tgt ls rest)) (kf : Pn → W p l e R s m args below meth c H locs cells slots Q (F0 m (pc + 3) ls rest)) : W p l e R s m args below meth c H locs cells slots Q (F0 m pc ls (.int y :: .int x :: rest)) := lv_icmp_lt S.1 S.2.1 hdg ht (fun q => kt (h1 q)) (fun q => kf (h2 q))
theorem ly_cmge (S : CallFix p m c cc nL s args lw_tb own) (h1 : y ≤ x → P) (h2 : ¬ y ≤ x → Pn) (hdg : decode cc pc = .ok (.if_icmp .ge off, 3)) (ht : (pc : Int) + off = (tgt : Int)) (kt : P → W p l e R s m args below meth c H locs cells slots Q (F0 m tgt ls rest)) (kf : Pn → W p l e R s m args below meth c H locs cells slots Q (F0 m (pc + 3) ls rest)) : W p l e R s m args below meth c H locs cells slots Q (F0 m pc ls (.int y :: .int x :: rest)) := lv_icmp_ge S.1 S.2.1 hdg ht (fun q => kt (h1 q)) (fun q => kf (h2 q))
theorem ly_cmgt (S : CallFix p m c cc nL s args lw_tb own) (h1 : y < x → P) (h2 : ¬ y < x → Pn) (hdg : decode cc pc = .ok (.if_icmp .gt off, 3)) (ht : (pc : Int) + off = (tgt : Int)) (kt : P → W p l e R s m args below meth c H locs cells slots Q (F0 m tgt ls rest)) (kf : Pn → W p l e R s m args below meth c H locs cells slots Q (F0 m (pc + 3) ls rest)) : W p l e R s m args below meth c H locs cells slots Q (F0 m pc ls (.int y :: .int x :: rest)) := lv_icmp_gt S.1 S.2.1 hdg ht (fun q => kt (h1 q)) (fun q => kf (h2 q))
theorem ly_cmle (S : CallFix p m c cc nL s args lw_tb own) (h1 : x ≤ y → P) (h2 : ¬ x ≤ y → Pn) (hdg : decode cc pc = .ok (.if_icmp .le off, 3)) (ht : (pc : Int) + off = (tgt : Int)) (kt : P → W p l e R s m args below meth c H locs cells slots Q (F0 m tgt ls rest)) (kf : Pn → W p l e R s m args below meth c H locs cells slots Q (F0 m (pc + 3) ls rest)) : W p l e R s m args below meth c H locs cells slots Q (F0 m pc ls (.int y :: .int x :: rest)) := lv_icmp_le S.1 S.2.1 hdg ht (fun q => kt (h1 q)) (fun q => kf (h2 q))
end KN
theorem tb1 {a k : Nat} (h : (a >>> k) % 2 = 1) : a.testBit k = true := tb_sh ▸ h
theorem tb0 {a k : Nat} (h : ¬ (a >>> k) % 2 = 1) : a.testBit k = false := by
  cases h9 : a.testBit k with
  | false => rfl
  | true => exact absurd (tb_sh (a := a) (k := k) ▸ h9) h
end
section
/-! pure words of a wall, and the reference's picture -/
def sumN (f : Nat → Nat) : Nat → Nat
  | 0 => 0
  | k + 1 => sumN f k + f k
def allN (f : Nat → Bool) : Nat → Bool
  | 0 => true
  | k + 1 => allN f k && f k
def anyN (f : Nat → Bool) : Nat → Bool
  | 0 => false
  | k + 1 => anyN f k || f k
def beg (o j x : Nat) : Bool := !o.testBit x && (x == 0 || o.testBit (x - 1) || j.testBit x)
def bdy (o j y : Nat) : Bool := o.testBit y || beg o j y
def nb (b : Nat → Bool) : Nat → Nat → Nat
  | 0, y => y
  | f + 1, y => if b y then y else nb b f (y + 1)
def lenF (w o j x : Nat) : Nat := nb (bdy o j) (w - (x + 1)) (x + 1) - x
def foF (o j : Nat) : Nat → Nat
  | 0 => 0
  | x + 1 => if beg o j (x + 1) then x + 1 else foF o j x
def wiT (o j x : Nat) : Bool := x == 0 || !j.testBit x || (!o.testBit x && !o.testBit (x - 1))
def pI (q : Option Nat) : Int32 := match q with
  | none => -9
  | some k => nI k
def pz (z : Int32) (pr : Nat → Option Nat) : Nat → Int32 := fun i => if i = 0 then z else pI (pr i)
def prc (pr : Nat → Option Nat) (L : Nat) : Bool := decide (L ≤ 6) && (pr L).isSome
def enOk (w o j e0 e1 : Nat) : Bool := (o.testBit 0 || e0.testBit (lenF w o j 0)) && (o.testBit (w - 1) || e1.testBit (lenF w o j (foF o j (w - 1))))
def bl (op : Nat → Nat) (ci : Nat) : Nat := if ci = 0 then 0 else op (ci - 1)
def brk (pr : Nat → Option Nat) (b x L r : Nat) : Bool := if r = 3 then !prc pr L else if r = 5 then b.testBit x || b.testBit (x + L - 1) else decide (4 < L) && !anyN (fun k => b.testBit (x + k)) L
def spc (pr : Nat → Option Nat) (w o b j r x : Nat) : Bool := beg o j x && brk pr b x (lenF w o j x) r
def ndf (a b : Nat) : Nat := a ^^^ (a &&& b)
def ruF (pr : Nat → Option Nat) (w o b mu ba e0 e1 j : Nat) : Nat :=
  if !allN (wiT o j) w then 1 else if ndf mu j ≠ 0 ∨ ba &&& j ≠ 0 then 2 else if anyN (spc pr w o b j 3) w then 3 else if !enOk w o j e0 e1 then 4 else if anyN (spc pr w o b j 5) w then 5 else if anyN (spc pr w o b j 6) w then 6 else 0
def arG (j : Nat) : Nat → Nat
  | 0 => j
  | k + 1 => if k = 0 then j else arG j k ||| (j <<< k ||| j >>> k)
def prN (pr : Nat → Option Nat) (L : Nat) : Nat := if prc pr L then (pr L).getD 0 else 100
def coT (pr : Nat → Option Nat) (w o j x : Nat) : Nat := if beg o j x then prN pr (lenF w o j x) else 0
def coF (pr : Nat → Option Nat) (w o j : Nat) : Nat := sumN (coT pr w o j) w
def pcT (w o j L x : Nat) : Nat := if beg o j x && (lenF w o j x == L) then 1 else 0
def pcF (w o j L : Nat) : Nat := sumN (pcT w o j L) w
def spT (o x : Nat) : Nat := if !o.testBit x && (x == 0 || o.testBit (x - 1)) then 1 else 0
abbrev MSc : Type := (Nat → Nat) × (Nat → Nat) × (Nat → Nat) × (Nat → Int64) × (Nat → Nat) × (Nat → Bool)
def mW (K : Nat → ClassId) (a : Nat → Nat) (w n lap : Nat) (op mu ba la en : Nat → Nat) (pr : Nat → Option Nat) (sc : MSc) : va_W :=
  [(a 0, .inr (8, [.int (nI w), .int (nI n), .ref (a 1), .ref (a 2), .ref (a 3), .ref (a 4), .ref (a 5), .ref (a 6), .int (nI lap), .ref (a 7), .ref (a 8), .ref (a 9), .ref (a 10), .ref (a 11), .ref (a 12)])),
   (a 1, .inl (K 0, 8, .inl (fun i => nI (op i)))), (a 2, .inl (K 0, 8, .inl (fun i => nI (mu i)))), (a 3, .inl (K 0, 8, .inl (fun i => nI (ba i)))), (a 4, .inl (K 0, 8, .inl (fun i => nI (la i)))),
   (a 5, .inl (K 0, 7, .inl (pz 0 pr))), (a 6, .inl (K 0, 4, .inl (fun i => nI (en i)))),
   (a 7, .inl (K 0, 8, .inl (fun i => nI (sc.1 i)))), (a 8, .inl (K 0, 4096, .inl (fun i => nI (sc.2.1 i)))), (a 9, .inl (K 0, 4096, .inl (fun i => nI (sc.2.2.1 i)))),
   (a 10, .inl (K 1, 4096, .inr (.inl sc.2.2.2.1))), (a 11, .inl (K 0, 8, .inl (fun i => nI (sc.2.2.2.2.1 i)))), (a 12, .inl (K 2, 4096, .inl (fun i => bI (sc.2.2.2.2.2 i))))]
/-- what stays true of a wall's data -/
def GOK (w n lap : Nat) (op mu ba la en : Nat → Nat) (pr : Nat → Option Nat) : Prop :=
  2 ≤ w ∧ w ≤ 10 ∧ n ≤ 8 ∧ 1 ≤ lap ∧ lap ≤ 3 ∧ (∀ i, op i < 1024) ∧ (∀ i, mu i < 1024) ∧ (∀ i, ba i < 1024) ∧ (∀ i, la i < 1024) ∧ (∀ i, en i < 128) ∧ (∀ i q, pr i = some q → q ≤ 99) ∧
  (∀ i, i < n → op i < 2 ^ w) ∧ (∀ i, i < n → mu i < 2 ^ w) ∧ (∀ i, i < n → ba i < 2 ^ w) ∧ (∀ i, i < n → la i < 2 ^ w) ∧ (∀ i, mu i % 2 = 0) ∧ (∀ i, ba i % 2 = 0) ∧ (∀ i, la i % 2 = 0) ∧ (∀ i, en i % 2 = 0)
theorem nb_ge (b : Nat → Bool) : ∀ (f y : Nat), y ≤ nb b f y
  | 0, y => Nat.le_refl y
  | f + 1, y => by
    unfold nb
    split
    · exact Nat.le_refl y
    · exact Nat.le_of_succ_le (nb_ge b f (y + 1))
theorem nb_le (b : Nat → Bool) : ∀ (f y : Nat), nb b f y ≤ y + f
  | 0, y => Nat.le_refl y
  | f + 1, y => by
    unfold nb
    split
    · omega
    · have := nb_le b f (y + 1); omega
theorem nb_t {b : Nat → Bool} {f y : Nat} (h : b y = true) : nb b f y = y := by
  cases f with
  | zero => rfl
  | succ f => unfold nb; rw [if_pos h]
theorem nb_f {b : Nat → Bool} {f y : Nat} (h : b y = false) : nb b (f + 1) y = nb b f (y + 1) := by
  conv => lhs; unfold nb
  rw [if_neg (by rw [h]; exact Bool.false_ne_true)]
theorem lenF_pos {w o j x : Nat} : 1 ≤ lenF w o j x := by
  unfold lenF
  have := nb_ge (bdy o j) (w - (x + 1)) (x + 1)
  omega
theorem lenF_le {w o j x : Nat} (h : x < w) : x + lenF w o j x ≤ w := by
  unfold lenF
  have h1 := nb_ge (bdy o j) (w - (x + 1)) (x + 1)
  have h2 := nb_le (bdy o j) (w - (x + 1)) (x + 1)
  omega
theorem foF_le (o j : Nat) : ∀ x, foF o j x ≤ x
  | 0 => Nat.le_refl 0
  | x + 1 => by
    unfold foF
    split
    · exact Nat.le_refl _
    · exact Nat.le_succ_of_le (foF_le o j x)
theorem arG_lt {j : Nat} (h : j < 1024) : ∀ k, k ≤ 3 → arG j k < 4096
  | 0, _ => by unfold arG; omega
  | k + 1, hk => by
    unfold arG
    split
    · omega
    · refine Nat.or_lt_two_pow (n := 12) (arG_lt h k (by omega)) (Nat.or_lt_two_pow (n := 12) ?_ ?_)
      · rw [Nat.shiftLeft_eq]
        have : k ≤ 2 := by omega
        have : 2 ^ k ≤ 2 ^ 2 := Nat.pow_le_pow_right (by omega) this
        have : j * 2 ^ k ≤ 1023 * 4 := Nat.mul_le_mul (by omega) this
        omega
      · exact Nat.lt_of_le_of_lt (Nat.shiftRight_le j k) (by omega)
theorem sumN_le {f : Nat → Nat} {b : Nat} (h : ∀ k, f k ≤ b) : ∀ n, sumN f n ≤ n * b
  | 0 => by unfold sumN; omega
  | n + 1 => by
    unfold sumN
    have := sumN_le h n
    have := h n
    rw [Nat.succ_mul]
    omega
theorem prN_le {pr : Nat → Option Nat} (h : ∀ i q, pr i = some q → q ≤ 99) (L : Nat) : prN pr L ≤ 100 := by
  unfold prN
  split
  · cases hq : pr L with
    | none => simp
    | some q => have := h L q hq; simp; omega
  · omega
theorem coT_le {pr : Nat → Option Nat} (h : ∀ i q, pr i = some q → q ≤ 99) (w o j x : Nat) : coT pr w o j x ≤ 100 := by
  unfold coT
  split
  · exact prN_le h _
  · omega
theorem coF_le {pr : Nat → Option Nat} (h : ∀ i q, pr i = some q → q ≤ 99) {w : Nat} (hw : w ≤ 10) (o j : Nat) : coF pr w o j ≤ 1000 := by
  have := sumN_le (coT_le h w o j) w
  unfold coF
  omega
theorem nJ_in (t n : Nat) : nI t + Int32.ofInt (n : Int) = nI (t + n) := by
  rw [← nI_add]; rfl
theorem nJ_im {t n : Nat} (h : n ≤ t) : nI t + Int32.ofInt (-(n : Int)) = nI (t - n) := by
  rw [← pk_sub h, Int32.sub_eq_add_neg, Int32.ofInt_neg]; rfl
theorem nI_andn {x z : Nat} (hx : x < 2 ^ 31) (hz : z < 2 ^ 31) : nI x &&& (nI z ^^^ (-1)) = nI (ndf x z) := by
  have h0 : x &&& z < 2 ^ 31 := Nat.lt_of_le_of_lt Nat.and_le_left hx
  rw [ndf, ← nI_xor hx h0, ← nI_and hx hz]
  apply Int32.toBitVec_inj.mp
  simp only [Int32.toBitVec_and, Int32.toBitVec_xor]
  apply BitVec.eq_of_getLsbD_eq
  intro i hi
  have : (-1 : Int32).toBitVec = BitVec.allOnes 32 := by decide
  simp only [this, BitVec.getLsbD_and, BitVec.getLsbD_xor, BitVec.getLsbD_allOnes, hi, decide_true]
  cases (nI x).toBitVec.getLsbD i <;> cases (nI z).toBitVec.getLsbD i <;> rfl
theorem nI_andn2 {x z : Nat} (hx : x < 2 ^ 31) (hz : z < 2 ^ 31) (h : ¬ nI x &&& (nI z ^^^ (-1)) = 0) : ndf x z ≠ 0 := fun q => h (by rw [nI_andn hx hz, q]; rfl)
theorem sw_cases (x : Int32) (N : Nat) : (x.toInt < 0 ∨ ((N : Int) - 1) < x.toInt) ∨ ∃ k : Nat, k < N ∧ x = nI k := by
  by_cases h0 : x.toInt < 0
  · exact Or.inl (Or.inl h0)
  · by_cases h1 : ((N : Int) - 1) < x.toInt
    · exact Or.inl (Or.inr h1)
    · refine Or.inr ⟨x.toInt.toNat, by omega, ?_⟩
      have h2 : x.toInt.toNat < 2 ^ 31 := by have := x.toInt_lt; omega
      apply Int32.toInt_inj.mp
      rw [nI_toInt h2]
      omega
section KZ
variable {p : Program} {l : Launch} {e : Env} {R : Room} {s : State} {m : MethodId} {args : Array Value} {below : List Frame} {meth : Method} {c : Code} {cells slots : Nat}
variable {cc : ByteArray} {nL pc : Nat} {own : String} {ls : Array Slot}
theorem rt_z1 {z : Bool} (S : CallFix p m c cc nL s args lw_tb own) (hr : meth.sig.returnType = some .boolean) (hlk : meth.locks = false) (h : z = true) (hdg : decode cc pc = .ok (.ireturn, 1)) :
    W p l e R s m args below meth c s.heap [] cells slots (MQ below (QcRead (bI z)) args s cells slots (fun _ => False)) (F0 m pc ls [.int (nI 1)]) := rt_z S hr hlk (by rw [h]; rfl) hdg
theorem rt_z0 {z : Bool} (S : CallFix p m c cc nL s args lw_tb own) (hr : meth.sig.returnType = some .boolean) (hlk : meth.locks = false) (h : z = false) (hdg : decode cc pc = .ok (.ireturn, 1)) :
    W p l e R s m args below meth c s.heap [] cells slots (MQ below (QcRead (bI z)) args s cells slots (fun _ => False)) (F0 m pc ls [.int (nI 0)]) := rt_z S hr hlk (by rw [h]; rfl) hdg
end KZ
def wiI (v z0 z1 : Int32) : Bool := decide (z0 ≤ v) && decide (v ≤ z1)
theorem wiI_l {v z0 z1 : Int32} (h : v < z0) : wiI v z0 z1 = false := by
  have : ¬ z0 ≤ v := Int32.not_le.mpr h
  simp [wiI, this]
theorem wiI_r {v z0 z1 : Int32} (h : z1 < v) : wiI v z0 z1 = false := by
  have : ¬ v ≤ z1 := Int32.not_le.mpr h
  simp [wiI, this]
theorem wiI_t {v z0 z1 : Int32} (h1 : ¬ v < z0) (h2 : ¬ z1 < v) : wiI v z0 z1 = true := by
  have a1 : z0 ≤ v := Int32.not_lt.mp h1
  have a2 : v ≤ z1 := Int32.not_lt.mp h2
  simp [wiI, a1, a2]
theorem lenF_e {w o j x k : Nat} (h3 : nb (bdy o j) (w - (x + k)) (x + k) = nb (bdy o j) (w - (x + 1)) (x + 1)) (h : x + k = w ∨ bdy o j (x + k) = true) : lenF w o j x = k := by
  unfold lenF
  rw [← h3]
  rcases h with h | h
  · rw [h, Nat.sub_self]
    show w - x = k
    omega
  · rw [nb_t h]
    omega
theorem lenF_s {w o j x k : Nat} (h : x + k < w) (hb : bdy o j (x + k) = false) (h3 : nb (bdy o j) (w - (x + k)) (x + k) = nb (bdy o j) (w - (x + 1)) (x + 1)) : nb (bdy o j) (w - (x + (k + 1))) (x + (k + 1)) = nb (bdy o j) (w - (x + 1)) (x + 1) := by
  rw [← h3, show w - (x + k) = (w - (x + (k + 1))) + 1 by omega, nb_f hb]
  rfl
theorem beg_f0 {o j k : Nat} (ho : o.testBit k = false) (h : beg o j k = false) : 1 ≤ k ∧ o.testBit (k - 1) = false := by
  unfold beg at h
  simp only [ho, Bool.not_false, Bool.true_and, Bool.or_eq_false_iff, beq_eq_false_iff_ne] at h
  exact ⟨by omega, h.1.2⟩
theorem foF_t {o j k : Nat} (h : beg o j k = true) : foF o j k = k := by
  cases k with
  | zero => rfl
  | succ k => unfold foF; rw [if_pos h]
theorem foF_f {o j k : Nat} (hk : 1 ≤ k) (h : beg o j k = false) : foF o j k = foF o j (k - 1) := by
  cases k with
  | zero => omega
  | succ k =>
    conv => lhs; unfold foF
    rw [if_neg (by rw [h]; exact Bool.false_ne_true)]
    rfl
theorem pI_ne {q : Nat} (h : q ≤ 99) : ¬ nI q = -9 := by
  intro e
  have := congrArg Int32.toInt e
  rw [nI_toInt (by omega)] at this
  have h2 : (-9 : Int32).toInt = -9 := by decide
  omega
theorem pz_n {z : Int32} {pr : Nat → Option Nat} {L : Nat} (gpr : ∀ i q, pr i = some q → q ≤ 99) (hL : 1 ≤ L) (h : pz z pr L = -9) : (pr L).isSome = false := by
  unfold pz at h
  rw [if_neg (by omega)] at h
  cases hq : pr L with
  | none => rfl
  | some q => rw [hq] at h; exact absurd h (pI_ne (gpr L q hq))
theorem pz_s {z : Int32} {pr : Nat → Option Nat} {L : Nat} (hL : 1 ≤ L) (h : ¬ pz z pr L = -9) : (pr L).isSome = true := by
  unfold pz at h
  rw [if_neg (by omega)] at h
  cases hq : pr L with
  | none => rw [hq] at h; exact absurd rfl h
  | some q => rfl
theorem pz_v {z : Int32} {pr : Nat → Option Nat} {L : Nat} (hL : 1 ≤ L) (h : prc pr L = true) : pz z pr L = nI (prN pr L) := by
  unfold pz prN
  rw [if_neg (by omega), h, if_pos rfl]
  unfold prc at h
  cases hq : pr L with
  | none => rw [hq] at h; simp at h
  | some q => rfl
theorem ndf_lt {a b : Nat} (h : a < 2 ^ 31) : ndf a b < 2 ^ 31 := Nat.xor_lt_two_pow h (Nat.lt_of_le_of_lt Nat.and_le_left h)
theorem bl_lt {op : Nat → Nat} (h : ∀ i, op i < 1024) (ci : Nat) : bl op ci < 1024 := by
  unfold bl
  split
  · omega
  · exact h _
def popG : Nat → Nat → Nat
  | 0, _ => 0
  | f + 1, v => v % 2 + popG f (v / 2)
theorem popG_0 : ∀ f, popG f 0 = 0
  | 0 => rfl
  | f + 1 => by unfold popG; rw [Nat.zero_div, popG_0 f]
theorem popG_le : ∀ f v, popG f v ≤ f
  | 0, _ => Nat.le_refl 0
  | f + 1, v => by unfold popG; have := popG_le f (v / 2); have := Nat.mod_lt v (show 0 < 2 by decide); omega
theorem ruF_le {pr : Nat → Option Nat} {w o b mu ba e0 e1 j : Nat} : ruF pr w o b mu ba e0 e1 j ≤ 6 := by
  unfold ruF
  repeat (first | omega | split)
theorem pcT_le (w o j L x : Nat) : pcT w o j L x ≤ 1 := by
  unfold pcT
  split <;> omega
theorem pcF_le {w : Nat} (hw : w ≤ 10) (o j L : Nat) : pcF w o j L ≤ 10 := by
  have := sumN_le (pcT_le w o j L) w
  unfold pcF
  omega
theorem popG_g {g v : Nat} (hv : 0 < v) (h : v < 2 ^ g) : 1 ≤ g := by
  rcases Nat.eq_zero_or_pos g with q | q
  · rw [q] at h
    omega
  · exact q
theorem popG_s {g v k T : Nat} (hg : 1 ≤ g) (h : k + popG g v = T) : k + v % 2 + popG (g - 1) (v / 2) = T := by
  rw [← h]
  cases g with
  | zero => omega
  | succ g =>
    show k + v % 2 + popG g (v / 2) = k + (v % 2 + popG g (v / 2))
    omega
theorem popG_h {g v : Nat} (hg : 1 ≤ g) (h : v < 2 ^ g) : v / 2 < 2 ^ (g - 1) := by
  cases g with
  | zero => omega
  | succ g => rw [Nat.pow_succ] at h; show v / 2 < 2 ^ g; omega
theorem beg_0 {o j x : Nat} (h1 : o.testBit x = false) (h2 : x = 0) : beg o j x = true := by
  unfold beg
  rw [h1, h2]
  rfl
theorem spT_0 {o x : Nat} (h1 : o.testBit x = false) (h2 : x = 0) : spT o x = 1 := by
  unfold spT
  rw [h1, h2]
  rfl
theorem prc_le {pr : Nat → Option Nat} {L : Nat} (h : prc pr L = true) : L ≤ 6 := by
  unfold prc at h
  simp only [Bool.and_eq_true, decide_eq_true_eq] at h
  exact h.1
end
section
set_option maxHeartbeats 4000000 in
set_option maxRecDepth 100000 in
theorem mX8_has (l : Launch) {z : Nat} {k : Nat} (hz : z < 2 ^ 31) (hk : k < 32) : Met l yX8_has (TWd yX8_has cX8_has 2 (some .boolean)) (rmk 0) (va_Pc [.int (nI z), .int (nI k)] (fun _ => True)) (QcRead (bI (Nat.testBit z k))) 0 0 (fun _ => False) := by
  refine mt_of (by decide +kernel) (Nat.le_of_ble_eq_true rfl) ?_
  intro p e s m below meth c S hr hlk hI ls hl
  have S : CallFix p m c cX8_has 2 s ([.int (nI z), .int (nI k)] : List Value).toArray lw_tb RX8 := S
  have hl : lv_has ls 2 [(0, .int (nI z)), (1, .int (nI k))] := hl
  refine lv_iload_n S.1 S.2.1 dX8_has_0 rfl (lv_at hl 0 rfl) ?_
  refine lv_iload_n S.1 S.2.1 dX8_has_1 rfl (lv_at hl 1 rfl) ?_
  refine lv_ishr S.1 S.2.1 dX8_has_2 ?_
  refine ly_top (z := nI (z >>> k)) (nI_shr (by omega) (by omega)) ?_
  refine lv_iconst (v := nI 1) S.1 S.2.1 dX8_has_3 (by decide) ?_
  refine lv_iand S.1 S.2.1 dX8_has_4 ?_
  refine ly_top (z := nI ((z >>> k) &&& 1)) (nI_and (Nat.lt_of_le_of_lt (Nat.shiftRight_le z k) hz) (by omega)) ?_
  refine ly_top (z := (nI ((z >>> k) % 2))) (by rw [and1]) ?_
  refine lv_iconst (v := nI 1) S.1 S.2.1 dX8_has_5 (by decide) ?_
  have q6 : (z >>> k) % 2 < 2 := Nat.mod_lt _ (by decide)
  refine ly_cmne (tgt := 13) S (nI_e2 (by omega) (by omega)) (nI_e1 (by omega) (by omega)) dX8_has_6 (by decide) (fun h1 => ?_) (fun h1 => ?_)
  · skip
    refine lv_iconst (v := nI 0) S.1 S.2.1 dX8_has_13 (by decide) ?_
    exact rt_z0 S hr hlk (tb0 h1) dX8_has_14
  · skip
    refine lv_iconst (v := nI 1) S.1 S.2.1 dX8_has_9 (by decide) ?_
    refine lv_goto (tgt := 14) S.1 S.2.1 dX8_has_10 (by decide) ?_
    exact rt_z1 S hr hlk (tb1 h1) dX8_has_14
theorem kX8_has {p : Program} {l : Launch} {e : Env} {R : Room} {s : State} {m : MethodId} {args : Array Value} {below : List Frame} {meth : Method} {c : Code} {H : Heap} {locs : List Loc} {cells slots : Nat} {Q : State → Prop} {cc : ByteArray} {nL index pc : Nat} {own : String} {ls : Array Slot} {rest : List Value} {z : Nat} {k : Nat} (S : CallFix p m c cc nL s args lw_tb own) (hz : z < 2 ^ 31) (hk : k < 32) (hlink : Cond.methodLink own index yX8_has ∈ lw_tb) (hR : RO 0 R cells slots) (hsz : ls.size = nL) (hW : (rest.map fun v => v.category).sum ≤ 8) (hdg : decode cc pc = .ok (.invokestatic index, 3)) (kk : W p l e R s m args below meth c H locs cells slots Q (F0 m (pc + 3) ls (.int (bI (Nat.testBit z k)) :: rest))) : W p l e R s m args below meth c H locs cells slots Q (F0 m pc ls (.int (nI k) :: .int (nI z) :: rest)) :=
  kS (As := [.int (nI z), .int (nI k)]) S (mX8_has l hz hk) hlink tw_706 tw_50 tw_707 (by show _ ∧ _ ∧ _ = some 2; decide +kernel) (by decide) hR blT (fun _ _ _ => trivial) hsz rfl hW hdg kk

set_option maxHeartbeats 4000000 in
set_option maxRecDepth 100000 in
theorem mX8_within (l : Launch) {v : Int32} {z0 : Int32} {z1 : Int32} : Met l yX8_within (TWd yX8_within cX8_within 3 (some .boolean)) (rmk 0) (va_Pc [.int v, .int z0, .int z1] (fun _ => True)) (QcRead (bI (wiI v z0 z1))) 0 0 (fun _ => False) := by
  refine mt_of (by decide +kernel) (Nat.le_of_ble_eq_true rfl) ?_
  intro p e s m below meth c S hr hlk hI ls hl
  have S : CallFix p m c cX8_within 3 s ([.int v, .int z0, .int z1] : List Value).toArray lw_tb RX8 := S
  have hl : lv_has ls 3 [(0, .int v), (1, .int z0), (2, .int z1)] := hl
  refine lv_iload_n S.1 S.2.1 dX8_within_0 rfl (lv_at hl 0 rfl) ?_
  refine lv_iload_n S.1 S.2.1 dX8_within_1 rfl (lv_at hl 1 rfl) ?_
  refine ly_cmlt (tgt := 14) S (fun q => q) (fun q => q) dX8_within_2 (by decide) (fun h1 => ?_) (fun h1 => ?_)
  · skip
    refine lv_iconst (v := nI 0) S.1 S.2.1 dX8_within_14 (by decide) ?_
    exact rt_z0 S hr hlk (wiI_l h1) dX8_within_15
  · skip
    refine lv_iload_n S.1 S.2.1 dX8_within_5 rfl (lv_at hl 0 rfl) ?_
    refine lv_iload_n S.1 S.2.1 dX8_within_6 rfl (lv_at hl 2 rfl) ?_
    refine ly_cmgt (tgt := 14) S (fun q => q) (fun q => q) dX8_within_7 (by decide) (fun h2 => ?_) (fun h2 => ?_)
    · skip
      refine lv_iconst (v := nI 0) S.1 S.2.1 dX8_within_14 (by decide) ?_
      exact rt_z0 S hr hlk (wiI_r h2) dX8_within_15
    · skip
      refine lv_iconst (v := nI 1) S.1 S.2.1 dX8_within_10 (by decide) ?_
      refine lv_goto (tgt := 15) S.1 S.2.1 dX8_within_11 (by decide) ?_
      exact rt_z1 S hr hlk (wiI_t h1 h2) dX8_within_15
theorem kX8_within {p : Program} {l : Launch} {e : Env} {R : Room} {s : State} {m : MethodId} {args : Array Value} {below : List Frame} {meth : Method} {c : Code} {H : Heap} {locs : List Loc} {cells slots : Nat} {Q : State → Prop} {cc : ByteArray} {nL index pc : Nat} {own : String} {ls : Array Slot} {rest : List Value} {v : Int32} {z0 : Int32} {z1 : Int32} (S : CallFix p m c cc nL s args lw_tb own) (hlink : Cond.methodLink own index yX8_within ∈ lw_tb) (hR : RO 0 R cells slots) (hsz : ls.size = nL) (hW : (rest.map fun v => v.category).sum ≤ 8) (hdg : decode cc pc = .ok (.invokestatic index, 3)) (kk : W p l e R s m args below meth c H locs cells slots Q (F0 m (pc + 3) ls (.int (bI (wiI v z0 z1)) :: rest))) : W p l e R s m args below meth c H locs cells slots Q (F0 m pc ls (.int z1 :: .int z0 :: .int v :: rest)) :=
  kS (As := [.int v, .int z0, .int z1]) S (mX8_within l ) hlink tw_659 tw_50 tw_660 (by show _ ∧ _ ∧ _ = some 3; decide +kernel) (by decide) hR blT (fun _ _ _ => trivial) hsz rfl hW hdg kk

set_option maxHeartbeats 4000000 in
set_option maxRecDepth 100000 in
theorem mX8_sizeOf (l : Launch) {z : Nat} (hz : z < 2 ^ 31) : Met l yX8_sizeOf (TWd yX8_sizeOf cX8_sizeOf 3 (some .int)) (rmk 0) (va_Pc [.int (nI z)] (fun _ => True)) (QcRead (nI (popG 31 z))) 0 0 (fun _ => False) := by
  refine mt_of (by decide +kernel) (Nat.le_of_ble_eq_true rfl) ?_
  intro p e s m below meth c S hr hlk hI ls hl
  have S : CallFix p m c cX8_sizeOf 3 s ([.int (nI z)] : List Value).toArray lw_tb RX8 := S
  have hl : lv_has ls 3 [(0, .int (nI z))] := hl
  refine lv_iconst (v := nI 0) S.1 S.2.1 dX8_sizeOf_0 (by decide) ?_
  refine lv_istore_n (lv' := [(1, .int (nI 0)), (0, .int (nI z))]) S.1 S.2.1 dX8_sizeOf_1 rfl hl (by decide) rfl (fun ls hl => ?_)
  refine lv_iload_n S.1 S.2.1 dX8_sizeOf_2 rfl (lv_at hl 1 rfl) ?_
  refine lv_istore_n (lv' := [(2, .int (nI z)), (1, .int (nI 0)), (0, .int (nI z))]) S.1 S.2.1 dX8_sizeOf_3 rfl hl (by decide) rfl (fun ls hl => ?_)
  have L4 : ∀ (f4 : Nat) (k : Nat) (v : Nat) (g : Nat), (k + popG g v = popG 31 z) → (v < 2 ^ g) → (g ≤ 31) → v < f4 → ∀ (ls : Array Slot), lv_has ls 3 [(0, .int (nI z)), (1, .int (nI k)), (2, .int (nI v))] → W p l e (rmk 0) s m ([.int (nI z)] : List Value).toArray below meth c s.heap [] 0 0 (MQ below (QcRead (nI (popG 31 z))) ([.int (nI z)] : List Value).toArray s 0 0 (fun _ => False)) (F0 m 4 ls []) := by
    intro f4
    induction f4 with
    | zero =>
      intro k v g i1 i2 i3 hm
      exact absurd hm (Nat.not_lt_zero _)
    | succ f4 ih4 =>
      intro k v g i1 i2 i3 hm4 ls hl
      have b2 : v < 2 ^ 31 := Nat.lt_of_lt_of_le i2 (Nat.pow_le_pow_right (by decide) i3)
      refine lv_iload_n S.1 S.2.1 dX8_sizeOf_4 rfl (lv_at hl 2 rfl) ?_
      refine ly_ifle (tgt := 21) S (fun q => nI_p2 (by omega) (Int32.not_lt.mpr q)) (fun q => nI_p1 (by omega) (Int32.not_le.mp q)) dX8_sizeOf_5 (by decide) (fun h1 => ?_) (fun h1 => ?_)
      · skip
        refine lv_iload_n S.1 S.2.1 dX8_sizeOf_21 rfl (lv_at hl 1 rfl) ?_
        exact rt_i S hr hlk (by rw [← i1, h1, popG_0]; rfl) dX8_sizeOf_22
      · skip
        have g1 := popG_g h1 i2
        refine lv_iload_n S.1 S.2.1 dX8_sizeOf_8 rfl (lv_at hl 1 rfl) ?_
        refine lv_iload_n S.1 S.2.1 dX8_sizeOf_9 rfl (lv_at hl 2 rfl) ?_
        refine lv_iconst (v := nI 1) S.1 S.2.1 dX8_sizeOf_10 (by decide) ?_
        refine lv_iand S.1 S.2.1 dX8_sizeOf_11 ?_
        refine ly_top (z := nI (v &&& 1)) (nI_and (by omega) (by omega)) ?_
        refine ly_top (z := (nI (v % 2))) (by rw [and1]) ?_
        refine lv_iadd S.1 S.2.1 dX8_sizeOf_12 ?_
        refine ly_top (z := nI (k + (v % 2))) (nI_add _ _) ?_
        refine lv_istore_n (lv' := [(1, .int (nI (k + (v % 2)))), (0, .int (nI z)), (2, .int (nI v))]) S.1 S.2.1 dX8_sizeOf_13 rfl hl (by decide) rfl (fun ls hl => ?_)
        refine lv_iload_n S.1 S.2.1 dX8_sizeOf_14 rfl (lv_at hl 2 rfl) ?_
        refine lv_iconst (v := nI 1) S.1 S.2.1 dX8_sizeOf_15 (by decide) ?_
        refine lv_ishr S.1 S.2.1 dX8_sizeOf_16 ?_
        refine ly_top (z := nI (v >>> 1)) (nI_shr (by omega) (by omega)) ?_
        refine ly_top (z := (nI (v / 2))) (by rw [Nat.shiftRight_eq_div_pow]) ?_
        refine lv_istore_n (lv' := [(2, .int (nI (v / 2))), (1, .int (nI (k + (v % 2)))), (0, .int (nI z))]) S.1 S.2.1 dX8_sizeOf_17 rfl hl (by decide) rfl (fun ls hl => ?_)
        refine lv_goto (tgt := 4) S.1 S.2.1 dX8_sizeOf_18 (by decide) ?_
        exact ih4 (k + (v % 2)) (v / 2) (g - 1) (popG_s g1 i1) (popG_h g1 i2) (by omega) (by omega) _ (lv_sub hl [2, 1, 0] rfl)
  exact L4 _ 0 z 31 (Nat.zero_add _) hz (by omega) (Nat.lt_succ_self _) _ (lv_sub hl [2, 1, 0] rfl)
theorem kX8_sizeOf {p : Program} {l : Launch} {e : Env} {R : Room} {s : State} {m : MethodId} {args : Array Value} {below : List Frame} {meth : Method} {c : Code} {H : Heap} {locs : List Loc} {cells slots : Nat} {Q : State → Prop} {cc : ByteArray} {nL index pc : Nat} {own : String} {ls : Array Slot} {rest : List Value} {z : Nat} (S : CallFix p m c cc nL s args lw_tb own) (hz : z < 2 ^ 31) (hlink : Cond.methodLink own index yX8_sizeOf ∈ lw_tb) (hR : RO 0 R cells slots) (hsz : ls.size = nL) (hW : (rest.map fun v => v.category).sum ≤ 8) (hdg : decode cc pc = .ok (.invokestatic index, 3)) (kk : W p l e R s m args below meth c H locs cells slots Q (F0 m (pc + 3) ls (.int (nI (popG 31 z)) :: rest))) : W p l e R s m args below meth c H locs cells slots Q (F0 m pc ls (.int (nI z) :: rest)) :=
  kS (As := [.int (nI z)]) S (mX8_sizeOf l hz) hlink tw_857 tw_50 tw_858 (by show _ ∧ _ ∧ _ = some 1; decide +kernel) (by decide) hR blT (fun _ _ _ => trivial) hsz rfl hW hdg kk

set_option maxHeartbeats 4000000 in
set_option maxRecDepth 100000 in
theorem mX8_around (l : Launch) {j : Nat} {z : Nat} (hj : j < 1024) (hz : z ≤ 3) (hz1 : 1 ≤ z) : Met l yX8_around (TWd yX8_around cX8_around 4 (some .int)) (rmk 0) (va_Pc [.int (nI j), .int (nI z)] (fun _ => True)) (QcRead (nI (arG j z))) 0 0 (fun _ => False) := by
  refine mt_of (by decide +kernel) (Nat.le_of_ble_eq_true rfl) ?_
  intro p e s m below meth c S hr hlk hI ls hl
  have S : CallFix p m c cX8_around 4 s ([.int (nI j), .int (nI z)] : List Value).toArray lw_tb RX8 := S
  have hl : lv_has ls 4 [(0, .int (nI j)), (1, .int (nI z))] := hl
  refine lv_iload_n S.1 S.2.1 dX8_around_0 rfl (lv_at hl 0 rfl) ?_
  refine ly_top (z := (nI (arG j 1))) rfl ?_
  refine lv_istore_n (lv' := [(2, .int (nI (arG j 1))), (0, .int (nI j)), (1, .int (nI z))]) S.1 S.2.1 dX8_around_1 rfl hl (by decide) rfl (fun ls hl => ?_)
  refine lv_iconst (v := nI 1) S.1 S.2.1 dX8_around_2 (by decide) ?_
  refine lv_istore_n (lv' := [(3, .int (nI 1)), (2, .int (nI (arG j 1))), (0, .int (nI j)), (1, .int (nI z))]) S.1 S.2.1 dX8_around_3 rfl hl (by decide) rfl (fun ls hl => ?_)
  have L4 : ∀ (f4 : Nat) (k : Nat), (1 ≤ k) → (k ≤ z) → z - k < f4 → ∀ (ls : Array Slot), lv_has ls 4 [(0, .int (nI j)), (1, .int (nI z)), (2, .int (nI (arG j k))), (3, .int (nI k))] → W p l e (rmk 0) s m ([.int (nI j), .int (nI z)] : List Value).toArray below meth c s.heap [] 0 0 (MQ below (QcRead (nI (arG j z))) ([.int (nI j), .int (nI z)] : List Value).toArray s 0 0 (fun _ => False)) (F0 m 4 ls []) := by
    intro f4
    induction f4 with
    | zero =>
      intro k i1 i2 hm
      exact absurd hm (Nat.not_lt_zero _)
    | succ f4 ih4 =>
      intro k i1 i2 hm4 ls hl
      have b1 := arG_lt hj k (by omega)
      refine lv_iload_n S.1 S.2.1 dX8_around_4 rfl (lv_at hl 3 rfl) ?_
      refine lv_iload_n S.1 S.2.1 dX8_around_5 rfl (lv_at hl 1 rfl) ?_
      refine ly_cmge (tgt := 25) S (nI_le1 (by omega) (by omega)) (nI_le2 (by omega) (by omega)) dX8_around_6 (by decide) (fun h1 => ?_) (fun h1 => ?_)
      · skip
        refine lv_iload_n S.1 S.2.1 dX8_around_25 rfl (lv_at hl 2 rfl) ?_
        exact rt_i S hr hlk (by rw [show k = z by omega]) dX8_around_26
      · skip
        refine lv_iload_n S.1 S.2.1 dX8_around_9 rfl (lv_at hl 2 rfl) ?_
        refine lv_iload_n S.1 S.2.1 dX8_around_10 rfl (lv_at hl 0 rfl) ?_
        refine lv_iload_n S.1 S.2.1 dX8_around_11 rfl (lv_at hl 3 rfl) ?_
        refine lv_ishl S.1 S.2.1 dX8_around_12 ?_
        refine ly_top (z := nI (j <<< k)) (nI_shl (by omega) (by have := Nat.pow_le_pow_right (show 0 < 2 by decide) (show k ≤ 2 by omega); rw [Nat.shiftLeft_eq]; have := Nat.mul_le_mul (show j ≤ 1023 by omega) this; omega)) ?_
        refine lv_iload_n S.1 S.2.1 dX8_around_13 rfl (lv_at hl 0 rfl) ?_
        refine lv_iload_n S.1 S.2.1 dX8_around_14 rfl (lv_at hl 3 rfl) ?_
        refine lv_ishr S.1 S.2.1 dX8_around_15 ?_
        refine ly_top (z := nI (j >>> k)) (nI_shr (by omega) (by omega)) ?_
        have b2 : j <<< k < 4096 := by have := Nat.pow_le_pow_right (show 0 < 2 by decide) (show k ≤ 2 by omega); rw [Nat.shiftLeft_eq]; have := Nat.mul_le_mul (show j ≤ 1023 by omega) this; omega
        have b3 : j >>> k < 4096 := Nat.lt_of_le_of_lt (Nat.shiftRight_le j k) (by omega)
        refine lv_ior S.1 S.2.1 dX8_around_16 ?_
        refine ly_top (z := nI ((j <<< k) ||| (j >>> k))) (nI_or (by omega) (by omega)) ?_
        have b4 : j <<< k ||| j >>> k < 2 ^ 12 := Nat.or_lt_two_pow b2 b3
        refine lv_ior S.1 S.2.1 dX8_around_17 ?_
        refine ly_top (z := nI ((arG j k) ||| ((j <<< k) ||| (j >>> k)))) (nI_or (by omega) (by omega)) ?_
        refine ly_top (z := (nI (arG j (k + 1)))) (by simp only [arG]; rw [if_neg (by omega)]) ?_
        refine lv_istore_n (lv' := [(2, .int (nI (arG j (k + 1)))), (0, .int (nI j)), (1, .int (nI z)), (3, .int (nI k))]) S.1 S.2.1 dX8_around_18 rfl hl (by decide) rfl (fun ls hl => ?_)
        refine lv_iinc (v := nI (k + 1)) (lv' := [(3, .int (nI (k + 1))), (2, .int (nI (arG j (k + 1)))), (0, .int (nI j)), (1, .int (nI z))]) S.1 S.2.1 dX8_around_19 hl (k := 3) rfl (nJ_in _ _) (by decide) rfl (fun ls hl => ?_)
        refine lv_goto (tgt := 4) S.1 S.2.1 dX8_around_22 (by decide) ?_
        exact ih4 (k + 1) (by omega) (by omega) (by omega) _ (lv_sub hl [2, 3, 1, 0] rfl)
  exact L4 _ 1 (by omega) (by omega) (Nat.lt_succ_self _) _ (lv_sub hl [2, 3, 1, 0] rfl)
theorem kX8_around {p : Program} {l : Launch} {e : Env} {R : Room} {s : State} {m : MethodId} {args : Array Value} {below : List Frame} {meth : Method} {c : Code} {H : Heap} {locs : List Loc} {cells slots : Nat} {Q : State → Prop} {cc : ByteArray} {nL index pc : Nat} {own : String} {ls : Array Slot} {rest : List Value} {j : Nat} {z : Nat} (S : CallFix p m c cc nL s args lw_tb own) (hj : j < 1024) (hz : z ≤ 3) (hz1 : 1 ≤ z) (hlink : Cond.methodLink own index yX8_around ∈ lw_tb) (hR : RO 0 R cells slots) (hsz : ls.size = nL) (hW : (rest.map fun v => v.category).sum ≤ 8) (hdg : decode cc pc = .ok (.invokestatic index, 3)) (kk : W p l e R s m args below meth c H locs cells slots Q (F0 m (pc + 3) ls (.int (nI (arG j z)) :: rest))) : W p l e R s m args below meth c H locs cells slots Q (F0 m pc ls (.int (nI z) :: .int (nI j) :: rest)) :=
  kS (As := [.int (nI j), .int (nI z)]) S (mX8_around l hj hz hz1) hlink tw_766 tw_50 tw_767 (by show _ ∧ _ ∧ _ = some 2; decide +kernel) (by decide) hR blT (fun _ _ _ => trivial) hsz rfl hW hdg kk

set_option maxHeartbeats 4000000 in
set_option maxRecDepth 100000 in
theorem mX8_isCourse (l : Launch) {D : va_G} {K : Nat → ClassId} {a : Nat → Nat} {w n lap : Nat} {op mu ba la en : Nat → Nat} {pr : Nat → Option Nat} {sc : MSc} {v : Int32} (hG : GOK w n lap op mu ba la en pr) : Met l yX8_isCourse (TWd yX8_isCourse cX8_isCourse 2 (some .boolean)) (rmk 1) (va_Pc [.ref (a 0), .int v] (fun U => PI D K (mW K a w n lap op mu ba la en pr sc) U U.heap)) (QcRead (bI (wiI v 0 (nI n - 1)))) 0 0 (fun _ => False) := by
  refine mt_of (by decide +kernel) (Nat.le_of_ble_eq_true rfl) ?_
  intro p e s m below meth c S hr hlk hI ls hl
  have S : CallFix p m c cX8_isCourse 2 s ([.ref (a 0), .int v] : List Value).toArray lw_tb RX8 := S
  have hl : lv_has ls 2 [(0, .ref (a 0)), (1, .int v)] := hl
  obtain ⟨gw1, gw2, gn, gl1, gl2, gop, gmu, gba, gla, gen, gpr, gop2, gmu2, gba2, gla2, gme, gbe, gle, gee⟩ := id hG
  refine lv_iload_n S.1 S.2.1 dX8_isCourse_0 rfl (lv_at hl 1 rfl) ?_
  refine lv_iconst (v := nI 0) S.1 S.2.1 dX8_isCourse_1 (by decide) ?_
  refine lv_aload_n S.1 S.2.1 dX8_isCourse_2 rfl (lv_at hl 0 rfl) ?_
  refine g8 S hI 0 rfl 1 (by decide) tw_608 rfl dX8_isCourse_3 ?_
  refine lv_iconst (v := nI 1) S.1 S.2.1 dX8_isCourse_6 (by decide) ?_
  refine lv_isub S.1 S.2.1 dX8_isCourse_7 ?_
  refine kX8_within S  tw_658 (rok (by decide)) hl.1 (Nat.le_of_ble_eq_true rfl) dX8_isCourse_8 ?_
  exact rt_z S hr hlk rfl dX8_isCourse_11
theorem kX8_isCourse {p : Program} {l : Launch} {e : Env} {R : Room} {s : State} {m : MethodId} {args : Array Value} {below : List Frame} {meth : Method} {c : Code} {H : Heap} {locs : List Loc} {cells slots : Nat} {Q : State → Prop} {cc : ByteArray} {nL index pc : Nat} {own : String} {ls : Array Slot} {rest : List Value} {D : va_G} {K : Nat → ClassId} {a : Nat → Nat} {w n lap : Nat} {op mu ba la en : Nat → Nat} {pr : Nat → Option Nat} {sc : MSc} {v : Int32} (S : CallFix p m c cc nL s args lw_tb own) (hI : PI D K (mW K a w n lap op mu ba la en pr sc) s H) (hG : GOK w n lap op mu ba la en pr) (hlink : Cond.methodLink own index yX8_isCourse ∈ lw_tb) (hR : RO 1 R cells slots) (hsz : ls.size = nL) (hW : (rest.map fun v => v.category).sum ≤ 8) (hdg : decode cc pc = .ok (.invokevirtual index, 3)) (kk : W p l e R s m args below meth c H locs cells slots Q (F0 m (pc + 3) ls (.int (bI (wiI v 0 (nI n - 1))) :: rest))) : W p l e R s m args below meth c H locs cells slots Q (F0 m pc ls (.int v :: .ref (a 0) :: rest)) :=
  kV (As := [.int v]) (b := a 0) S (mX8_isCourse l hG) hlink tw_675 tw_16 tw_50 tw_676 (by show _ ∧ _ ∧ _ = some 1; decide +kernel) (by decide) hR blP (piU hI) (va_recv hI.2 hI.1 (ci := 8) (q0 := 0) rfl rfl) hsz rfl hW hdg kk

set_option maxHeartbeats 4000000 in
set_option maxRecDepth 100000 in
theorem mX8_begins (l : Launch) {D : va_G} {K : Nat → ClassId} {a : Nat → Nat} {w n lap : Nat} {op mu ba la en : Nat → Nat} {pr : Nat → Option Nat} {sc : MSc} {ci : Nat} {j : Nat} {x : Nat} (hG : GOK w n lap op mu ba la en pr) (hci : ci < 8) (hj : j < 1024) (hx : x < 10) : Met l yX8_begins (TWd yX8_begins cX8_begins 4 (some .boolean)) (rmk 1) (va_Pc [.ref (a 0), .int (nI ci), .int (nI j), .int (nI x)] (fun U => PI D K (mW K a w n lap op mu ba la en pr sc) U U.heap)) (QcRead (bI (beg (op ci) j x))) 0 0 (fun _ => False) := by
  refine mt_of (by decide +kernel) (Nat.le_of_ble_eq_true rfl) ?_
  intro p e s m below meth c S hr hlk hI ls hl
  have S : CallFix p m c cX8_begins 4 s ([.ref (a 0), .int (nI ci), .int (nI j), .int (nI x)] : List Value).toArray lw_tb RX8 := S
  have hl : lv_has ls 4 [(0, .ref (a 0)), (1, .int (nI ci)), (2, .int (nI j)), (3, .int (nI x))] := hl
  obtain ⟨gw1, gw2, gn, gl1, gl2, gop, gmu, gba, gla, gen, gpr, gop2, gmu2, gba2, gla2, gme, gbe, gle, gee⟩ := id hG
  have o1 := gop ci
  refine lv_aload_n S.1 S.2.1 dX8_begins_0 rfl (lv_at hl 0 rfl) ?_
  refine g8 S hI 0 rfl 2 (by decide) tw_609 rfl dX8_begins_1 ?_
  refine lv_iload_n S.1 S.2.1 dX8_begins_4 rfl (lv_at hl 1 rfl) ?_
  refine ly_iald (v := (nI (op ci))) S hI 1 rfl (by omega) (by decide) rfl dX8_begins_5 ?_
  refine lv_iload_n S.1 S.2.1 dX8_begins_6 rfl (lv_at hl 3 rfl) ?_
  refine kX8_has S (by omega) (by omega) tw_705 (rok (by decide)) hl.1 (Nat.le_of_ble_eq_true rfl) dX8_begins_7 ?_
  refine ly_ifne (tgt := 44) S bI_e2 bI_e1 dX8_begins_10 (by decide) (fun h1 => ?_) (fun h1 => ?_)
  · skip
    refine lv_iconst (v := nI 0) S.1 S.2.1 dX8_begins_44 (by decide) ?_
    exact rt_z0 S hr hlk (by simp [beg, h1]) dX8_begins_45
  · skip
    refine lv_iload_n S.1 S.2.1 dX8_begins_13 rfl (lv_at hl 3 rfl) ?_
    refine ly_ifeq (tgt := 40) S (nI_z1 (by omega)) (nI_z2 (by omega)) dX8_begins_14 (by decide) (fun h2 => ?_) (fun h2 => ?_)
    · skip
      refine lv_iconst (v := nI 1) S.1 S.2.1 dX8_begins_40 (by decide) ?_
      refine lv_goto (tgt := 45) S.1 S.2.1 dX8_begins_41 (by decide) ?_
      exact rt_z1 S hr hlk (beg_0 h1 h2) dX8_begins_45
    · skip
      refine lv_aload_n S.1 S.2.1 dX8_begins_17 rfl (lv_at hl 0 rfl) ?_
      refine g8 S hI 0 rfl 2 (by decide) tw_609 rfl dX8_begins_18 ?_
      refine lv_iload_n S.1 S.2.1 dX8_begins_21 rfl (lv_at hl 1 rfl) ?_
      refine ly_iald (v := (nI (op ci))) S hI 1 rfl (by omega) (by decide) rfl dX8_begins_22 ?_
      refine lv_iload_n S.1 S.2.1 dX8_begins_23 rfl (lv_at hl 3 rfl) ?_
      refine lv_iconst (v := nI 1) S.1 S.2.1 dX8_begins_24 (by decide) ?_
      refine lv_isub S.1 S.2.1 dX8_begins_25 ?_
      refine ly_top (z := nI (x - 1)) (pk_sub (by omega)) ?_
      refine kX8_has S (by omega) (by omega) tw_705 (rok (by decide)) hl.1 (Nat.le_of_ble_eq_true rfl) dX8_begins_26 ?_
      refine ly_ifne (tgt := 40) S bI_e2 bI_e1 dX8_begins_29 (by decide) (fun h3 => ?_) (fun h3 => ?_)
      · skip
        refine lv_iconst (v := nI 1) S.1 S.2.1 dX8_begins_40 (by decide) ?_
        refine lv_goto (tgt := 45) S.1 S.2.1 dX8_begins_41 (by decide) ?_
        exact rt_z1 S hr hlk (by simp [beg, h1, h2, h3]) dX8_begins_45
      · skip
        refine lv_iload_n S.1 S.2.1 dX8_begins_32 rfl (lv_at hl 2 rfl) ?_
        refine lv_iload_n S.1 S.2.1 dX8_begins_33 rfl (lv_at hl 3 rfl) ?_
        refine kX8_has S (by omega) (by omega) tw_705 (rok (by decide)) hl.1 (Nat.le_of_ble_eq_true rfl) dX8_begins_34 ?_
        refine ly_ifeq (tgt := 44) S bI_e1 bI_e2 dX8_begins_37 (by decide) (fun h4 => ?_) (fun h4 => ?_)
        · skip
          refine lv_iconst (v := nI 0) S.1 S.2.1 dX8_begins_44 (by decide) ?_
          exact rt_z0 S hr hlk (by simp [beg, h1, h2, h3, h4]) dX8_begins_45
        · skip
          refine lv_iconst (v := nI 1) S.1 S.2.1 dX8_begins_40 (by decide) ?_
          refine lv_goto (tgt := 45) S.1 S.2.1 dX8_begins_41 (by decide) ?_
          exact rt_z1 S hr hlk (by simp [beg, h1, h2, h3, h4]) dX8_begins_45
theorem kX8_begins {p : Program} {l : Launch} {e : Env} {R : Room} {s : State} {m : MethodId} {args : Array Value} {below : List Frame} {meth : Method} {c : Code} {H : Heap} {locs : List Loc} {cells slots : Nat} {Q : State → Prop} {cc : ByteArray} {nL index pc : Nat} {own : String} {ls : Array Slot} {rest : List Value} {D : va_G} {K : Nat → ClassId} {a : Nat → Nat} {w n lap : Nat} {op mu ba la en : Nat → Nat} {pr : Nat → Option Nat} {sc : MSc} {ci : Nat} {j : Nat} {x : Nat} (S : CallFix p m c cc nL s args lw_tb own) (hI : PI D K (mW K a w n lap op mu ba la en pr sc) s H) (hG : GOK w n lap op mu ba la en pr) (hci : ci < 8) (hj : j < 1024) (hx : x < 10) (hlink : Cond.methodLink own index yX8_begins ∈ lw_tb) (hR : RO 1 R cells slots) (hsz : ls.size = nL) (hW : (rest.map fun v => v.category).sum ≤ 8) (hdg : decode cc pc = .ok (.invokevirtual index, 3)) (kk : W p l e R s m args below meth c H locs cells slots Q (F0 m (pc + 3) ls (.int (bI (beg (op ci) j x)) :: rest))) : W p l e R s m args below meth c H locs cells slots Q (F0 m pc ls (.int (nI x) :: .int (nI j) :: .int (nI ci) :: .ref (a 0) :: rest)) :=
  kV (As := [.int (nI ci), .int (nI j), .int (nI x)]) (b := a 0) S (mX8_begins l hG hci hj hx) hlink tw_730 tw_23 tw_50 tw_731 (by show _ ∧ _ ∧ _ = some 3; decide +kernel) (by decide) hR blP (piU hI) (va_recv hI.2 hI.1 (ci := 8) (q0 := 0) rfl rfl) hsz rfl hW hdg kk

set_option maxHeartbeats 4000000 in
set_option maxRecDepth 100000 in
theorem mX8_lengthFrom (l : Launch) {D : va_G} {K : Nat → ClassId} {a : Nat → Nat} {w n lap : Nat} {op mu ba la en : Nat → Nat} {pr : Nat → Option Nat} {sc : MSc} {ci : Nat} {j : Nat} {x : Nat} (hG : GOK w n lap op mu ba la en pr) (hci : ci < 8) (hj : j < 1024) (hx : x < w) : Met l yX8_lengthFrom (TWd yX8_lengthFrom cX8_lengthFrom 5 (some .int)) (rmk 2) (va_Pc [.ref (a 0), .int (nI ci), .int (nI j), .int (nI x)] (fun U => PI D K (mW K a w n lap op mu ba la en pr sc) U U.heap)) (QcRead (nI (lenF w (op ci) j x))) 0 0 (fun _ => False) := by
  refine mt_of (by decide +kernel) (Nat.le_of_ble_eq_true rfl) ?_
  intro p e s m below meth c S hr hlk hI ls hl
  have S : CallFix p m c cX8_lengthFrom 5 s ([.ref (a 0), .int (nI ci), .int (nI j), .int (nI x)] : List Value).toArray lw_tb RX8 := S
  have hl : lv_has ls 5 [(0, .ref (a 0)), (1, .int (nI ci)), (2, .int (nI j)), (3, .int (nI x))] := hl
  obtain ⟨gw1, gw2, gn, gl1, gl2, gop, gmu, gba, gla, gen, gpr, gop2, gmu2, gba2, gla2, gme, gbe, gle, gee⟩ := id hG
  have o1 := gop ci
  refine lv_iconst (v := nI 1) S.1 S.2.1 dX8_lengthFrom_0 (by decide) ?_
  refine lv_istore (lv' := [(4, .int (nI 1)), (0, .ref (a 0)), (1, .int (nI ci)), (2, .int (nI j)), (3, .int (nI x))]) S.1 S.2.1 dX8_lengthFrom_1 hl (by decide) rfl (fun ls hl => ?_)
  have L3 : ∀ (f3 : Nat) (k : Nat), (1 ≤ k) → (x + k ≤ w) → (nb (bdy (op ci) j) (w - (x + k)) (x + k) = nb (bdy (op ci) j) (w - (x + 1)) (x + 1)) → w - (x + k) < f3 → ∀ (ls : Array Slot), lv_has ls 5 [(0, .ref (a 0)), (1, .int (nI ci)), (2, .int (nI j)), (3, .int (nI x)), (4, .int (nI k))] → W p l e (rmk 2) s m ([.ref (a 0), .int (nI ci), .int (nI j), .int (nI x)] : List Value).toArray below meth c s.heap [] 0 0 (MQ below (QcRead (nI (lenF w (op ci) j x))) ([.ref (a 0), .int (nI ci), .int (nI j), .int (nI x)] : List Value).toArray s 0 0 (fun _ => False)) (F0 m 3 ls []) := by
    intro f3
    induction f3 with
    | zero =>
      intro k i1 i2 i3 hm
      exact absurd hm (Nat.not_lt_zero _)
    | succ f3 ih3 =>
      intro k i1 i2 i3 hm3 ls hl
      refine lv_iload_n S.1 S.2.1 dX8_lengthFrom_3 rfl (lv_at hl 3 rfl) ?_
      refine lv_iload S.1 S.2.1 dX8_lengthFrom_4 (lv_at hl 4 rfl) ?_
      refine lv_iadd S.1 S.2.1 dX8_lengthFrom_6 ?_
      refine ly_top (z := nI (x + k)) (nI_add _ _) ?_
      refine lv_aload_n S.1 S.2.1 dX8_lengthFrom_7 rfl (lv_at hl 0 rfl) ?_
      refine g8 S hI 0 rfl 0 (by decide) tw_607 rfl dX8_lengthFrom_8 ?_
      refine ly_cmge (tgt := 49) S (nI_le1 (by omega) (by omega)) (nI_le2 (by omega) (by omega)) dX8_lengthFrom_11 (by decide) (fun h1 => ?_) (fun h1 => ?_)
      · skip
        refine lv_iload S.1 S.2.1 dX8_lengthFrom_49 (lv_at hl 4 rfl) ?_
        exact rt_i S hr hlk (by rw [lenF_e i3 (by first | exact Or.inl (by omega) | exact Or.inr (by simp [bdy, hx]))]) dX8_lengthFrom_51
      · skip
        refine lv_aload_n S.1 S.2.1 dX8_lengthFrom_14 rfl (lv_at hl 0 rfl) ?_
        refine g8 S hI 0 rfl 2 (by decide) tw_609 rfl dX8_lengthFrom_15 ?_
        refine lv_iload_n S.1 S.2.1 dX8_lengthFrom_18 rfl (lv_at hl 1 rfl) ?_
        refine ly_iald (v := (nI (op ci))) S hI 1 rfl (by omega) (by decide) rfl dX8_lengthFrom_19 ?_
        refine lv_iload_n S.1 S.2.1 dX8_lengthFrom_20 rfl (lv_at hl 3 rfl) ?_
        refine lv_iload S.1 S.2.1 dX8_lengthFrom_21 (lv_at hl 4 rfl) ?_
        refine lv_iadd S.1 S.2.1 dX8_lengthFrom_23 ?_
        refine ly_top (z := nI (x + k)) (nI_add _ _) ?_
        refine kX8_has S (by omega) (by omega) tw_705 (rok (by decide)) hl.1 (Nat.le_of_ble_eq_true rfl) dX8_lengthFrom_24 ?_
        refine ly_ifne (tgt := 49) S bI_e2 bI_e1 dX8_lengthFrom_27 (by decide) (fun h2 => ?_) (fun h2 => ?_)
        · skip
          refine lv_iload S.1 S.2.1 dX8_lengthFrom_49 (lv_at hl 4 rfl) ?_
          exact rt_i S hr hlk (by rw [lenF_e i3 (by first | exact Or.inl (by omega) | exact Or.inr (by simp [bdy, h2]))]) dX8_lengthFrom_51
        · skip
          refine lv_aload_n S.1 S.2.1 dX8_lengthFrom_30 rfl (lv_at hl 0 rfl) ?_
          refine lv_iload_n S.1 S.2.1 dX8_lengthFrom_31 rfl (lv_at hl 1 rfl) ?_
          refine lv_iload_n S.1 S.2.1 dX8_lengthFrom_32 rfl (lv_at hl 2 rfl) ?_
          refine lv_iload_n S.1 S.2.1 dX8_lengthFrom_33 rfl (lv_at hl 3 rfl) ?_
          refine lv_iload S.1 S.2.1 dX8_lengthFrom_34 (lv_at hl 4 rfl) ?_
          refine lv_iadd S.1 S.2.1 dX8_lengthFrom_36 ?_
          refine ly_top (z := nI (x + k)) (nI_add _ _) ?_
          refine kX8_begins S hI hG (by omega) (by omega) (by omega) tw_728 (rok (by decide)) hl.1 (Nat.le_of_ble_eq_true rfl) dX8_lengthFrom_37 ?_
          refine ly_ifne (tgt := 49) S bI_e2 bI_e1 dX8_lengthFrom_40 (by decide) (fun h3 => ?_) (fun h3 => ?_)
          · skip
            refine lv_iload S.1 S.2.1 dX8_lengthFrom_49 (lv_at hl 4 rfl) ?_
            exact rt_i S hr hlk (by rw [lenF_e i3 (by first | exact Or.inl (by omega) | exact Or.inr (by simp [bdy, h2, h3]))]) dX8_lengthFrom_51
          · skip
            have hb : bdy (op ci) j (x + k) = false := by simp [bdy, h2, h3]
            refine lv_iinc (v := nI (k + 1)) (lv' := [(4, .int (nI (k + 1))), (0, .ref (a 0)), (1, .int (nI ci)), (2, .int (nI j)), (3, .int (nI x))]) S.1 S.2.1 dX8_lengthFrom_43 hl (k := 4) rfl (nJ_in _ _) (by decide) rfl (fun ls hl => ?_)
            refine lv_goto (tgt := 3) S.1 S.2.1 dX8_lengthFrom_46 (by decide) ?_
            exact ih3 (k + 1) (by omega) (by omega) (lenF_s (by omega) hb i3) (by omega) _ (lv_sub hl [1, 2, 3, 4, 0] rfl)
  exact L3 _ 1 (by omega) (by omega) rfl (Nat.lt_succ_self _) _ (lv_sub hl [1, 2, 3, 4, 0] rfl)
theorem kX8_lengthFrom {p : Program} {l : Launch} {e : Env} {R : Room} {s : State} {m : MethodId} {args : Array Value} {below : List Frame} {meth : Method} {c : Code} {H : Heap} {locs : List Loc} {cells slots : Nat} {Q : State → Prop} {cc : ByteArray} {nL index pc : Nat} {own : String} {ls : Array Slot} {rest : List Value} {D : va_G} {K : Nat → ClassId} {a : Nat → Nat} {w n lap : Nat} {op mu ba la en : Nat → Nat} {pr : Nat → Option Nat} {sc : MSc} {ci : Nat} {j : Nat} {x : Nat} (S : CallFix p m c cc nL s args lw_tb own) (hI : PI D K (mW K a w n lap op mu ba la en pr sc) s H) (hG : GOK w n lap op mu ba la en pr) (hci : ci < 8) (hj : j < 1024) (hx : x < w) (hlink : Cond.methodLink own index yX8_lengthFrom ∈ lw_tb) (hR : RO 2 R cells slots) (hsz : ls.size = nL) (hW : (rest.map fun v => v.category).sum ≤ 8) (hdg : decode cc pc = .ok (.invokevirtual index, 3)) (kk : W p l e R s m args below meth c H locs cells slots Q (F0 m (pc + 3) ls (.int (nI (lenF w (op ci) j x)) :: rest))) : W p l e R s m args below meth c H locs cells slots Q (F0 m pc ls (.int (nI x) :: .int (nI j) :: .int (nI ci) :: .ref (a 0) :: rest)) :=
  kV (As := [.int (nI ci), .int (nI j), .int (nI x)]) (b := a 0) S (mX8_lengthFrom l hG hci hj hx) hlink tw_734 tw_24 tw_50 tw_735 (by show _ ∧ _ ∧ _ = some 3; decide +kernel) (by decide) hR blP (piU hI) (va_recv hI.2 hI.1 (ci := 8) (q0 := 0) rfl rfl) hsz rfl hW hdg kk

set_option maxHeartbeats 4000000 in
set_option maxRecDepth 100000 in
theorem mX8_firstOf (l : Launch) {D : va_G} {K : Nat → ClassId} {a : Nat → Nat} {w n lap : Nat} {op mu ba la en : Nat → Nat} {pr : Nat → Option Nat} {sc : MSc} {ci : Nat} {j : Nat} {x : Nat} (hG : GOK w n lap op mu ba la en pr) (hci : ci < 8) (hj : j < 1024) (hx : x < 10) (ho : Nat.testBit (op ci) x = false) : Met l yX8_firstOf (TWd yX8_firstOf cX8_firstOf 5 (some .int)) (rmk 2) (va_Pc [.ref (a 0), .int (nI ci), .int (nI j), .int (nI x)] (fun U => PI D K (mW K a w n lap op mu ba la en pr sc) U U.heap)) (QcRead (nI (foF (op ci) j x))) 0 0 (fun _ => False) := by
  refine mt_of (by decide +kernel) (Nat.le_of_ble_eq_true rfl) ?_
  intro p e s m below meth c S hr hlk hI ls hl
  have S : CallFix p m c cX8_firstOf 5 s ([.ref (a 0), .int (nI ci), .int (nI j), .int (nI x)] : List Value).toArray lw_tb RX8 := S
  have hl : lv_has ls 5 [(0, .ref (a 0)), (1, .int (nI ci)), (2, .int (nI j)), (3, .int (nI x))] := hl
  obtain ⟨gw1, gw2, gn, gl1, gl2, gop, gmu, gba, gla, gen, gpr, gop2, gmu2, gba2, gla2, gme, gbe, gle, gee⟩ := id hG
  refine lv_iload_n S.1 S.2.1 dX8_firstOf_0 rfl (lv_at hl 3 rfl) ?_
  refine lv_istore (lv' := [(4, .int (nI x)), (0, .ref (a 0)), (1, .int (nI ci)), (2, .int (nI j)), (3, .int (nI x))]) S.1 S.2.1 dX8_firstOf_1 hl (by decide) rfl (fun ls hl => ?_)
  have L3 : ∀ (f3 : Nat) (k : Nat), (k ≤ x) → (Nat.testBit (op ci) k = false) → (foF (op ci) j k = foF (op ci) j x) → k < f3 → ∀ (ls : Array Slot), lv_has ls 5 [(0, .ref (a 0)), (1, .int (nI ci)), (2, .int (nI j)), (3, .int (nI x)), (4, .int (nI k))] → W p l e (rmk 2) s m ([.ref (a 0), .int (nI ci), .int (nI j), .int (nI x)] : List Value).toArray below meth c s.heap [] 0 0 (MQ below (QcRead (nI (foF (op ci) j x))) ([.ref (a 0), .int (nI ci), .int (nI j), .int (nI x)] : List Value).toArray s 0 0 (fun _ => False)) (F0 m 3 ls []) := by
    intro f3
    induction f3 with
    | zero =>
      intro k i1 i2 i3 hm
      exact absurd hm (Nat.not_lt_zero _)
    | succ f3 ih3 =>
      intro k i1 i2 i3 hm3 ls hl
      refine lv_aload_n S.1 S.2.1 dX8_firstOf_3 rfl (lv_at hl 0 rfl) ?_
      refine lv_iload_n S.1 S.2.1 dX8_firstOf_4 rfl (lv_at hl 1 rfl) ?_
      refine lv_iload_n S.1 S.2.1 dX8_firstOf_5 rfl (lv_at hl 2 rfl) ?_
      refine lv_iload S.1 S.2.1 dX8_firstOf_6 (lv_at hl 4 rfl) ?_
      refine kX8_begins S hI hG (by omega) (by omega) (by omega) tw_728 (rok (by decide)) hl.1 (Nat.le_of_ble_eq_true rfl) dX8_firstOf_8 ?_
      refine ly_ifne (tgt := 20) S bI_e2 bI_e1 dX8_firstOf_11 (by decide) (fun h1 => ?_) (fun h1 => ?_)
      · skip
        refine lv_iload S.1 S.2.1 dX8_firstOf_20 (lv_at hl 4 rfl) ?_
        exact rt_i S hr hlk (by rw [← i3, foF_t h1]) dX8_firstOf_22
      · skip
        have q1 := beg_f0 i2 h1
        refine lv_iinc (v := nI (k - 1)) (lv' := [(4, .int (nI (k - 1))), (0, .ref (a 0)), (1, .int (nI ci)), (2, .int (nI j)), (3, .int (nI x))]) S.1 S.2.1 dX8_firstOf_14 hl (k := 4) rfl (nJ_im q1.1) (by decide) rfl (fun ls hl => ?_)
        refine lv_goto (tgt := 3) S.1 S.2.1 dX8_firstOf_17 (by decide) ?_
        exact ih3 (k - 1) (by omega) q1.2 (by rw [← foF_f q1.1 h1, i3]) (by omega) _ (lv_sub hl [1, 2, 3, 4, 0] rfl)
  exact L3 _ x (by omega) ho rfl (Nat.lt_succ_self _) _ (lv_sub hl [1, 2, 3, 4, 0] rfl)
theorem kX8_firstOf {p : Program} {l : Launch} {e : Env} {R : Room} {s : State} {m : MethodId} {args : Array Value} {below : List Frame} {meth : Method} {c : Code} {H : Heap} {locs : List Loc} {cells slots : Nat} {Q : State → Prop} {cc : ByteArray} {nL index pc : Nat} {own : String} {ls : Array Slot} {rest : List Value} {D : va_G} {K : Nat → ClassId} {a : Nat → Nat} {w n lap : Nat} {op mu ba la en : Nat → Nat} {pr : Nat → Option Nat} {sc : MSc} {ci : Nat} {j : Nat} {x : Nat} (S : CallFix p m c cc nL s args lw_tb own) (hI : PI D K (mW K a w n lap op mu ba la en pr sc) s H) (hG : GOK w n lap op mu ba la en pr) (hci : ci < 8) (hj : j < 1024) (hx : x < 10) (ho : Nat.testBit (op ci) x = false) (hlink : Cond.methodLink own index yX8_firstOf ∈ lw_tb) (hR : RO 2 R cells slots) (hsz : ls.size = nL) (hW : (rest.map fun v => v.category).sum ≤ 8) (hdg : decode cc pc = .ok (.invokevirtual index, 3)) (kk : W p l e R s m args below meth c H locs cells slots Q (F0 m (pc + 3) ls (.int (nI (foF (op ci) j x)) :: rest))) : W p l e R s m args below meth c H locs cells slots Q (F0 m pc ls (.int (nI x) :: .int (nI j) :: .int (nI ci) :: .ref (a 0) :: rest)) :=
  kV (As := [.int (nI ci), .int (nI j), .int (nI x)]) (b := a 0) S (mX8_firstOf l hG hci hj hx ho) hlink tw_750 tw_28 tw_50 tw_751 (by show _ ∧ _ ∧ _ = some 3; decide +kernel) (by decide) hR blP (piU hI) (va_recv hI.2 hI.1 (ci := 8) (q0 := 0) rfl rfl) hsz rfl hW hdg kk

set_option maxHeartbeats 4000000 in
set_option maxRecDepth 100000 in
theorem mX8_isWithin (l : Launch) {D : va_G} {K : Nat → ClassId} {a : Nat → Nat} {w n lap : Nat} {op mu ba la en : Nat → Nat} {pr : Nat → Option Nat} {sc : MSc} {ci : Nat} {j : Nat} (hG : GOK w n lap op mu ba la en pr) (hci : ci < 8) (hj : j < 1024) : Met l yX8_isWithin (TWd yX8_isWithin cX8_isWithin 5 (some .boolean)) (rmk 1) (va_Pc [.ref (a 0), .int (nI ci), .int (nI j)] (fun U => PI D K (mW K a w n lap op mu ba la en pr sc) U U.heap)) (QcRead (bI (allN (wiT (op ci) j) w))) 0 0 (fun _ => False) := by
  refine mt_of (by decide +kernel) (Nat.le_of_ble_eq_true rfl) ?_
  intro p e s m below meth c S hr hlk hI ls hl
  have S : CallFix p m c cX8_isWithin 5 s ([.ref (a 0), .int (nI ci), .int (nI j)] : List Value).toArray lw_tb RX8 := S
  have hl : lv_has ls 5 [(0, .ref (a 0)), (1, .int (nI ci)), (2, .int (nI j))] := hl
  obtain ⟨gw1, gw2, gn, gl1, gl2, gop, gmu, gba, gla, gen, gpr, gop2, gmu2, gba2, gla2, gme, gbe, gle, gee⟩ := id hG
  have o1 := gop ci
  refine lv_iconst (v := nI 1) S.1 S.2.1 dX8_isWithin_0 (by decide) ?_
  refine ly_top (z := bI (allN (wiT (op ci) j) 1)) (by rw [show (allN (wiT (op ci) j) 1) = true by simp [allN, wiT]]; rfl) ?_
  refine lv_istore_n (lv' := [(3, .int (bI (allN (wiT (op ci) j) 1))), (0, .ref (a 0)), (1, .int (nI ci)), (2, .int (nI j))]) S.1 S.2.1 dX8_isWithin_1 rfl hl (by decide) rfl (fun ls hl => ?_)
  refine lv_iconst (v := nI 1) S.1 S.2.1 dX8_isWithin_2 (by decide) ?_
  refine lv_istore (lv' := [(4, .int (nI 1)), (3, .int (bI (allN (wiT (op ci) j) 1))), (0, .ref (a 0)), (1, .int (nI ci)), (2, .int (nI j))]) S.1 S.2.1 dX8_isWithin_3 hl (by decide) rfl (fun ls hl => ?_)
  have L5 : ∀ (f5 : Nat) (k : Nat), (1 ≤ k) → (k ≤ w) → w - k < f5 → ∀ (ls : Array Slot), lv_has ls 5 [(0, .ref (a 0)), (1, .int (nI ci)), (2, .int (nI j)), (3, .int (bI (allN (wiT (op ci) j) k))), (4, .int (nI k))] → W p l e (rmk 1) s m ([.ref (a 0), .int (nI ci), .int (nI j)] : List Value).toArray below meth c s.heap [] 0 0 (MQ below (QcRead (bI (allN (wiT (op ci) j) w))) ([.ref (a 0), .int (nI ci), .int (nI j)] : List Value).toArray s 0 0 (fun _ => False)) (F0 m 5 ls []) := by
    intro f5
    induction f5 with
    | zero =>
      intro k i1 i2 hm
      exact absurd hm (Nat.not_lt_zero _)
    | succ f5 ih5 =>
      intro k i1 i2 hm5 ls hl
      refine lv_iload S.1 S.2.1 dX8_isWithin_5 (lv_at hl 4 rfl) ?_
      refine lv_aload_n S.1 S.2.1 dX8_isWithin_7 rfl (lv_at hl 0 rfl) ?_
      refine g8 S hI 0 rfl 0 (by decide) tw_607 rfl dX8_isWithin_8 ?_
      refine ly_cmge (tgt := 69) S (nI_le1 (by omega) (by omega)) (nI_le2 (by omega) (by omega)) dX8_isWithin_11 (by decide) (fun h1 => ?_) (fun h1 => ?_)
      · skip
        refine lv_iload_n S.1 S.2.1 dX8_isWithin_69 rfl (lv_at hl 3 rfl) ?_
        exact rt_z S hr hlk (by rw [show k = w by omega]) dX8_isWithin_70
      · skip
        refine lv_iload_n S.1 S.2.1 dX8_isWithin_14 rfl (lv_at hl 3 rfl) ?_
        refine ly_ifeq (tgt := 61) S bI_e1 bI_e2 dX8_isWithin_15 (by decide) (fun h2 => ?_) (fun h2 => ?_)
        · skip
          refine lv_iconst (v := nI 0) S.1 S.2.1 dX8_isWithin_61 (by decide) ?_
          refine ly_top (z := bI (allN (wiT (op ci) j) (k + 1))) (by rw [show (allN (wiT (op ci) j) (k + 1)) = false by simp [allN, wiT, show ¬ k = 0 by omega, h1, h2]]; rfl) ?_
          refine lv_istore_n (lv' := [(3, .int (bI (allN (wiT (op ci) j) (k + 1)))), (0, .ref (a 0)), (1, .int (nI ci)), (2, .int (nI j)), (4, .int (nI k))]) S.1 S.2.1 dX8_isWithin_62 rfl hl (by decide) rfl (fun ls hl => ?_)
          refine lv_iinc (v := nI (k + 1)) (lv' := [(4, .int (nI (k + 1))), (3, .int (bI (allN (wiT (op ci) j) (k + 1)))), (0, .ref (a 0)), (1, .int (nI ci)), (2, .int (nI j))]) S.1 S.2.1 dX8_isWithin_63 hl (k := 4) rfl (nJ_in _ _) (by decide) rfl (fun ls hl => ?_)
          refine lv_goto (tgt := 5) S.1 S.2.1 dX8_isWithin_66 (by decide) ?_
          exact ih5 (k + 1) (by omega) (by omega) (by omega) _ (lv_sub hl [2, 3, 4, 1, 0] rfl)
        · skip
          refine lv_iload_n S.1 S.2.1 dX8_isWithin_18 rfl (lv_at hl 2 rfl) ?_
          refine lv_iload S.1 S.2.1 dX8_isWithin_19 (lv_at hl 4 rfl) ?_
          refine kX8_has S (by omega) (by omega) tw_705 (rok (by decide)) hl.1 (Nat.le_of_ble_eq_true rfl) dX8_isWithin_21 ?_
          refine ly_ifeq (tgt := 57) S bI_e1 bI_e2 dX8_isWithin_24 (by decide) (fun h3 => ?_) (fun h3 => ?_)
          · skip
            refine lv_iconst (v := nI 1) S.1 S.2.1 dX8_isWithin_57 (by decide) ?_
            refine lv_goto (tgt := 62) S.1 S.2.1 dX8_isWithin_58 (by decide) ?_
            refine ly_top (z := bI (allN (wiT (op ci) j) (k + 1))) (by rw [show (allN (wiT (op ci) j) (k + 1)) = true by simp [allN, wiT, show ¬ k = 0 by omega, h1, h2, h3]]; rfl) ?_
            refine lv_istore_n (lv' := [(3, .int (bI (allN (wiT (op ci) j) (k + 1)))), (0, .ref (a 0)), (1, .int (nI ci)), (2, .int (nI j)), (4, .int (nI k))]) S.1 S.2.1 dX8_isWithin_62 rfl hl (by decide) rfl (fun ls hl => ?_)
            refine lv_iinc (v := nI (k + 1)) (lv' := [(4, .int (nI (k + 1))), (3, .int (bI (allN (wiT (op ci) j) (k + 1)))), (0, .ref (a 0)), (1, .int (nI ci)), (2, .int (nI j))]) S.1 S.2.1 dX8_isWithin_63 hl (k := 4) rfl (nJ_in _ _) (by decide) rfl (fun ls hl => ?_)
            refine lv_goto (tgt := 5) S.1 S.2.1 dX8_isWithin_66 (by decide) ?_
            exact ih5 (k + 1) (by omega) (by omega) (by omega) _ (lv_sub hl [2, 3, 4, 1, 0] rfl)
          · skip
            refine lv_aload_n S.1 S.2.1 dX8_isWithin_27 rfl (lv_at hl 0 rfl) ?_
            refine g8 S hI 0 rfl 2 (by decide) tw_609 rfl dX8_isWithin_28 ?_
            refine lv_iload_n S.1 S.2.1 dX8_isWithin_31 rfl (lv_at hl 1 rfl) ?_
            refine ly_iald (v := (nI (op ci))) S hI 1 rfl (by omega) (by decide) rfl dX8_isWithin_32 ?_
            refine lv_iload S.1 S.2.1 dX8_isWithin_33 (lv_at hl 4 rfl) ?_
            refine kX8_has S (by omega) (by omega) tw_705 (rok (by decide)) hl.1 (Nat.le_of_ble_eq_true rfl) dX8_isWithin_35 ?_
            refine ly_ifne (tgt := 61) S bI_e2 bI_e1 dX8_isWithin_38 (by decide) (fun h4 => ?_) (fun h4 => ?_)
            · skip
              refine lv_iconst (v := nI 0) S.1 S.2.1 dX8_isWithin_61 (by decide) ?_
              refine ly_top (z := bI (allN (wiT (op ci) j) (k + 1))) (by rw [show (allN (wiT (op ci) j) (k + 1)) = false by simp [allN, wiT, show ¬ k = 0 by omega, h1, h2, h3, h4]]; rfl) ?_
              refine lv_istore_n (lv' := [(3, .int (bI (allN (wiT (op ci) j) (k + 1)))), (0, .ref (a 0)), (1, .int (nI ci)), (2, .int (nI j)), (4, .int (nI k))]) S.1 S.2.1 dX8_isWithin_62 rfl hl (by decide) rfl (fun ls hl => ?_)
              refine lv_iinc (v := nI (k + 1)) (lv' := [(4, .int (nI (k + 1))), (3, .int (bI (allN (wiT (op ci) j) (k + 1)))), (0, .ref (a 0)), (1, .int (nI ci)), (2, .int (nI j))]) S.1 S.2.1 dX8_isWithin_63 hl (k := 4) rfl (nJ_in _ _) (by decide) rfl (fun ls hl => ?_)
              refine lv_goto (tgt := 5) S.1 S.2.1 dX8_isWithin_66 (by decide) ?_
              exact ih5 (k + 1) (by omega) (by omega) (by omega) _ (lv_sub hl [2, 3, 4, 1, 0] rfl)
            · skip
              refine lv_aload_n S.1 S.2.1 dX8_isWithin_41 rfl (lv_at hl 0 rfl) ?_
              refine g8 S hI 0 rfl 2 (by decide) tw_609 rfl dX8_isWithin_42 ?_
              refine lv_iload_n S.1 S.2.1 dX8_isWithin_45 rfl (lv_at hl 1 rfl) ?_
              refine ly_iald (v := (nI (op ci))) S hI 1 rfl (by omega) (by decide) rfl dX8_isWithin_46 ?_
              refine lv_iload S.1 S.2.1 dX8_isWithin_47 (lv_at hl 4 rfl) ?_
              refine lv_iconst (v := nI 1) S.1 S.2.1 dX8_isWithin_49 (by decide) ?_
              refine lv_isub S.1 S.2.1 dX8_isWithin_50 ?_
              refine ly_top (z := nI (k - 1)) (pk_sub (by omega)) ?_
              refine kX8_has S (by omega) (by omega) tw_705 (rok (by decide)) hl.1 (Nat.le_of_ble_eq_true rfl) dX8_isWithin_51 ?_
              refine ly_ifne (tgt := 61) S bI_e2 bI_e1 dX8_isWithin_54 (by decide) (fun h5 => ?_) (fun h5 => ?_)
              · skip
                refine lv_iconst (v := nI 0) S.1 S.2.1 dX8_isWithin_61 (by decide) ?_
                refine ly_top (z := bI (allN (wiT (op ci) j) (k + 1))) (by rw [show (allN (wiT (op ci) j) (k + 1)) = false by simp [allN, wiT, show ¬ k = 0 by omega, h1, h2, h3, h4, h5]]; rfl) ?_
                refine lv_istore_n (lv' := [(3, .int (bI (allN (wiT (op ci) j) (k + 1)))), (0, .ref (a 0)), (1, .int (nI ci)), (2, .int (nI j)), (4, .int (nI k))]) S.1 S.2.1 dX8_isWithin_62 rfl hl (by decide) rfl (fun ls hl => ?_)
                refine lv_iinc (v := nI (k + 1)) (lv' := [(4, .int (nI (k + 1))), (3, .int (bI (allN (wiT (op ci) j) (k + 1)))), (0, .ref (a 0)), (1, .int (nI ci)), (2, .int (nI j))]) S.1 S.2.1 dX8_isWithin_63 hl (k := 4) rfl (nJ_in _ _) (by decide) rfl (fun ls hl => ?_)
                refine lv_goto (tgt := 5) S.1 S.2.1 dX8_isWithin_66 (by decide) ?_
                exact ih5 (k + 1) (by omega) (by omega) (by omega) _ (lv_sub hl [2, 3, 4, 1, 0] rfl)
              · skip
                refine lv_iconst (v := nI 1) S.1 S.2.1 dX8_isWithin_57 (by decide) ?_
                refine lv_goto (tgt := 62) S.1 S.2.1 dX8_isWithin_58 (by decide) ?_
                refine ly_top (z := bI (allN (wiT (op ci) j) (k + 1))) (by rw [show (allN (wiT (op ci) j) (k + 1)) = true by simp [allN, wiT, show ¬ k = 0 by omega, h1, h2, h3, h4, h5]]; rfl) ?_
                refine lv_istore_n (lv' := [(3, .int (bI (allN (wiT (op ci) j) (k + 1)))), (0, .ref (a 0)), (1, .int (nI ci)), (2, .int (nI j)), (4, .int (nI k))]) S.1 S.2.1 dX8_isWithin_62 rfl hl (by decide) rfl (fun ls hl => ?_)
                refine lv_iinc (v := nI (k + 1)) (lv' := [(4, .int (nI (k + 1))), (3, .int (bI (allN (wiT (op ci) j) (k + 1)))), (0, .ref (a 0)), (1, .int (nI ci)), (2, .int (nI j))]) S.1 S.2.1 dX8_isWithin_63 hl (k := 4) rfl (nJ_in _ _) (by decide) rfl (fun ls hl => ?_)
                refine lv_goto (tgt := 5) S.1 S.2.1 dX8_isWithin_66 (by decide) ?_
                exact ih5 (k + 1) (by omega) (by omega) (by omega) _ (lv_sub hl [2, 3, 4, 1, 0] rfl)
  exact L5 _ 1 (by omega) (by omega) (Nat.lt_succ_self _) _ (lv_sub hl [2, 3, 4, 1, 0] rfl)
theorem kX8_isWithin {p : Program} {l : Launch} {e : Env} {R : Room} {s : State} {m : MethodId} {args : Array Value} {below : List Frame} {meth : Method} {c : Code} {H : Heap} {locs : List Loc} {cells slots : Nat} {Q : State → Prop} {cc : ByteArray} {nL index pc : Nat} {own : String} {ls : Array Slot} {rest : List Value} {D : va_G} {K : Nat → ClassId} {a : Nat → Nat} {w n lap : Nat} {op mu ba la en : Nat → Nat} {pr : Nat → Option Nat} {sc : MSc} {ci : Nat} {j : Nat} (S : CallFix p m c cc nL s args lw_tb own) (hI : PI D K (mW K a w n lap op mu ba la en pr sc) s H) (hG : GOK w n lap op mu ba la en pr) (hci : ci < 8) (hj : j < 1024) (hlink : Cond.methodLink own index yX8_isWithin ∈ lw_tb) (hR : RO 1 R cells slots) (hsz : ls.size = nL) (hW : (rest.map fun v => v.category).sum ≤ 8) (hdg : decode cc pc = .ok (.invokevirtual index, 3)) (kk : W p l e R s m args below meth c H locs cells slots Q (F0 m (pc + 3) ls (.int (bI (allN (wiT (op ci) j) w)) :: rest))) : W p l e R s m args below meth c H locs cells slots Q (F0 m pc ls (.int (nI j) :: .int (nI ci) :: .ref (a 0) :: rest)) :=
  kV (As := [.int (nI ci), .int (nI j)]) (b := a 0) S (mX8_isWithin l hG hci hj) hlink tw_722 tw_21 tw_50 tw_723 (by show _ ∧ _ ∧ _ = some 2; decide +kernel) (by decide) hR blP (piU hI) (va_recv hI.2 hI.1 (ci := 8) (q0 := 0) rfl rfl) hsz rfl hW hdg kk

set_option maxHeartbeats 4000000 in
set_option maxRecDepth 100000 in
theorem mX8_isPriced (l : Launch) {D : va_G} {K : Nat → ClassId} {a : Nat → Nat} {w n lap : Nat} {op mu ba la en : Nat → Nat} {pr : Nat → Option Nat} {sc : MSc} {L : Nat} (hG : GOK w n lap op mu ba la en pr) (hL : 1 ≤ L) (hL2 : L ≤ 10) : Met l yX8_isPriced (TWd yX8_isPriced cX8_isPriced 2 (some .boolean)) (rmk 0) (va_Pc [.ref (a 0), .int (nI L)] (fun U => PI D K (mW K a w n lap op mu ba la en pr sc) U U.heap)) (QcRead (bI (prc pr L))) 0 0 (fun _ => False) := by
  refine mt_of (by decide +kernel) (Nat.le_of_ble_eq_true rfl) ?_
  intro p e s m below meth c S hr hlk hI ls hl
  have S : CallFix p m c cX8_isPriced 2 s ([.ref (a 0), .int (nI L)] : List Value).toArray lw_tb RX8 := S
  have hl : lv_has ls 2 [(0, .ref (a 0)), (1, .int (nI L))] := hl
  obtain ⟨gw1, gw2, gn, gl1, gl2, gop, gmu, gba, gla, gen, gpr, gop2, gmu2, gba2, gla2, gme, gbe, gle, gee⟩ := id hG
  refine lv_iload_n S.1 S.2.1 dX8_isPriced_0 rfl (lv_at hl 1 rfl) ?_
  refine lv_bipush (v := nI 6) S.1 S.2.1 dX8_isPriced_1 (by decide) ?_
  refine ly_cmgt (tgt := 21) S (nI_l1 (by omega) (by omega)) (nI_l2 (by omega) (by omega)) dX8_isPriced_3 (by decide) (fun h1 => ?_) (fun h1 => ?_)
  · skip
    refine lv_iconst (v := nI 0) S.1 S.2.1 dX8_isPriced_21 (by decide) ?_
    exact rt_z0 S hr hlk (by simp [prc]; omega) dX8_isPriced_22
  · skip
    refine lv_aload_n S.1 S.2.1 dX8_isPriced_6 rfl (lv_at hl 0 rfl) ?_
    refine g8 S hI 0 rfl 6 (by decide) tw_613 rfl dX8_isPriced_7 ?_
    refine lv_iload_n S.1 S.2.1 dX8_isPriced_10 rfl (lv_at hl 1 rfl) ?_
    refine ly_iald (v := (pz 0 pr L)) S hI 5 rfl (by omega) (by decide) rfl dX8_isPriced_11 ?_
    refine lv_bipush (v := (-9)) S.1 S.2.1 dX8_isPriced_12 (by decide) ?_
    refine ly_cmeq (tgt := 21) S (fun q => q) (fun q => q) dX8_isPriced_14 (by decide) (fun h2 => ?_) (fun h2 => ?_)
    · skip
      refine lv_iconst (v := nI 0) S.1 S.2.1 dX8_isPriced_21 (by decide) ?_
      exact rt_z0 S hr hlk (by simp [prc, pz_n gpr hL h2]) dX8_isPriced_22
    · skip
      refine lv_iconst (v := nI 1) S.1 S.2.1 dX8_isPriced_17 (by decide) ?_
      refine lv_goto (tgt := 22) S.1 S.2.1 dX8_isPriced_18 (by decide) ?_
      exact rt_z1 S hr hlk (by simp [prc, pz_s hL h2, h1]) dX8_isPriced_22
theorem kX8_isPriced {p : Program} {l : Launch} {e : Env} {R : Room} {s : State} {m : MethodId} {args : Array Value} {below : List Frame} {meth : Method} {c : Code} {H : Heap} {locs : List Loc} {cells slots : Nat} {Q : State → Prop} {cc : ByteArray} {nL index pc : Nat} {own : String} {ls : Array Slot} {rest : List Value} {D : va_G} {K : Nat → ClassId} {a : Nat → Nat} {w n lap : Nat} {op mu ba la en : Nat → Nat} {pr : Nat → Option Nat} {sc : MSc} {L : Nat} (S : CallFix p m c cc nL s args lw_tb own) (hI : PI D K (mW K a w n lap op mu ba la en pr sc) s H) (hG : GOK w n lap op mu ba la en pr) (hL : 1 ≤ L) (hL2 : L ≤ 10) (hlink : Cond.methodLink own index yX8_isPriced ∈ lw_tb) (hR : RO 0 R cells slots) (hsz : ls.size = nL) (hW : (rest.map fun v => v.category).sum ≤ 8) (hdg : decode cc pc = .ok (.invokevirtual index, 3)) (kk : W p l e R s m args below meth c H locs cells slots Q (F0 m (pc + 3) ls (.int (bI (prc pr L)) :: rest))) : W p l e R s m args below meth c H locs cells slots Q (F0 m pc ls (.int (nI L) :: .ref (a 0) :: rest)) :=
  kV (As := [.int (nI L)]) (b := a 0) S (mX8_isPriced l hG hL hL2) hlink tw_742 tw_26 tw_50 tw_743 (by show _ ∧ _ ∧ _ = some 1; decide +kernel) (by decide) hR blP (piU hI) (va_recv hI.2 hI.1 (ci := 8) (q0 := 0) rfl rfl) hsz rfl hW hdg kk

set_option maxHeartbeats 4000000 in
set_option maxRecDepth 100000 in
theorem mX8_areEnds (l : Launch) {D : va_G} {K : Nat → ClassId} {a : Nat → Nat} {w n lap : Nat} {op mu ba la en : Nat → Nat} {pr : Nat → Option Nat} {sc : MSc} {ci : Nat} {j : Nat} (hG : GOK w n lap op mu ba la en pr) (hci : ci < 8) (hj : j < 1024) : Met l yX8_areEnds (TWd yX8_areEnds cX8_areEnds 6 (some .boolean)) (rmk 3) (va_Pc [.ref (a 0), .int (nI ci), .int (nI j)] (fun U => PI D K (mW K a w n lap op mu ba la en pr sc) U U.heap)) (QcRead (bI (enOk w (op ci) j (en (ci % 2 * 2)) (en (ci % 2 * 2 + 1))))) 0 0 (fun _ => False) := by
  refine mt_of (by decide +kernel) (Nat.le_of_ble_eq_true rfl) ?_
  intro p e s m below meth c S hr hlk hI ls hl
  have S : CallFix p m c cX8_areEnds 6 s ([.ref (a 0), .int (nI ci), .int (nI j)] : List Value).toArray lw_tb RX8 := S
  have hl : lv_has ls 6 [(0, .ref (a 0)), (1, .int (nI ci)), (2, .int (nI j))] := hl
  obtain ⟨gw1, gw2, gn, gl1, gl2, gop, gmu, gba, gla, gen, gpr, gop2, gmu2, gba2, gla2, gme, gbe, gle, gee⟩ := id hG
  have o1 := gop ci
  have o2 := gen (ci % 2 * 2)
  have o3 := gen (ci % 2 * 2 + 1)
  have J42 : ∀ (ls : Array Slot), lv_has ls 6 [(0, .ref (a 0)), (1, .int (nI ci)), (2, .int (nI j)), (3, .int (bI (Nat.testBit (op ci) 0 || Nat.testBit (en (ci % 2 * 2)) (lenF w (op ci) j 0))))] → W p l e (rmk 3) s m ([.ref (a 0), .int (nI ci), .int (nI j)] : List Value).toArray below meth c s.heap [] 0 0 (MQ below (QcRead (bI (enOk w (op ci) j (en (ci % 2 * 2)) (en (ci % 2 * 2 + 1))))) ([.ref (a 0), .int (nI ci), .int (nI j)] : List Value).toArray s 0 0 (fun _ => False)) (F0 m 42 ls []) := by
    intro  ls hl
    refine lv_aload_n S.1 S.2.1 dX8_areEnds_42 rfl (lv_at hl 0 rfl) ?_
    refine g8 S hI 0 rfl 0 (by decide) tw_607 rfl dX8_areEnds_43 ?_
    refine lv_iconst (v := nI 1) S.1 S.2.1 dX8_areEnds_46 (by decide) ?_
    refine lv_isub S.1 S.2.1 dX8_areEnds_47 ?_
    refine ly_top (z := nI (w - 1)) (pk_sub (by omega)) ?_
    refine lv_istore (lv' := [(4, .int (nI (w - 1))), (0, .ref (a 0)), (1, .int (nI ci)), (2, .int (nI j)), (3, .int (bI (Nat.testBit (op ci) 0 || Nat.testBit (en (ci % 2 * 2)) (lenF w (op ci) j 0))))]) S.1 S.2.1 dX8_areEnds_48 hl (by decide) rfl (fun ls hl => ?_)
    have J103 : ∀ (ls : Array Slot), lv_has ls 6 [(0, .ref (a 0)), (1, .int (nI ci)), (2, .int (nI j)), (3, .int (bI (Nat.testBit (op ci) 0 || Nat.testBit (en (ci % 2 * 2)) (lenF w (op ci) j 0)))), (4, .int (nI (w - 1))), (5, .int (bI (Nat.testBit (op ci) (w - 1) || Nat.testBit (en (ci % 2 * 2 + 1)) (lenF w (op ci) j (foF (op ci) j (w - 1))))))] → W p l e (rmk 3) s m ([.ref (a 0), .int (nI ci), .int (nI j)] : List Value).toArray below meth c s.heap [] 0 0 (MQ below (QcRead (bI (enOk w (op ci) j (en (ci % 2 * 2)) (en (ci % 2 * 2 + 1))))) ([.ref (a 0), .int (nI ci), .int (nI j)] : List Value).toArray s 0 0 (fun _ => False)) (F0 m 103 ls []) := by
      intro  ls hl
      refine lv_iload_n S.1 S.2.1 dX8_areEnds_103 rfl (lv_at hl 3 rfl) ?_
      refine ly_ifeq (tgt := 116) S bI_e1 bI_e2 dX8_areEnds_104 (by decide) (fun h1 => ?_) (fun h1 => ?_)
      · skip
        refine lv_iconst (v := nI 0) S.1 S.2.1 dX8_areEnds_116 (by decide) ?_
        exact rt_z0 S hr hlk (by simp only [enOk, h1]; rfl) dX8_areEnds_117
      · skip
        refine lv_iload S.1 S.2.1 dX8_areEnds_107 (lv_at hl 5 rfl) ?_
        refine ly_ifeq (tgt := 116) S bI_e1 bI_e2 dX8_areEnds_109 (by decide) (fun h2 => ?_) (fun h2 => ?_)
        · skip
          refine lv_iconst (v := nI 0) S.1 S.2.1 dX8_areEnds_116 (by decide) ?_
          exact rt_z0 S hr hlk (by simp only [enOk, h1, h2]; rfl) dX8_areEnds_117
        · skip
          refine lv_iconst (v := nI 1) S.1 S.2.1 dX8_areEnds_112 (by decide) ?_
          refine lv_goto (tgt := 117) S.1 S.2.1 dX8_areEnds_113 (by decide) ?_
          exact rt_z1 S hr hlk (by simp only [enOk, h1, h2]; rfl) dX8_areEnds_117
    refine lv_aload_n S.1 S.2.1 dX8_areEnds_50 rfl (lv_at hl 1 rfl) ?_
    refine g8 S hI 0 rfl 2 (by decide) tw_609 rfl dX8_areEnds_51 ?_
    refine lv_iload_n S.1 S.2.1 dX8_areEnds_54 rfl (lv_at hl 2 rfl) ?_
    refine ly_iald (v := (nI (op ci))) S hI 1 rfl (by omega) (by decide) rfl dX8_areEnds_55 ?_
    refine lv_iload S.1 S.2.1 dX8_areEnds_56 (lv_at hl 0 rfl) ?_
    refine kX8_has S (by omega) (by omega) tw_705 (rok (by decide)) hl.1 (Nat.le_of_ble_eq_true rfl) dX8_areEnds_58 ?_
    refine ly_ifne (tgt := 96) S bI_e2 bI_e1 dX8_areEnds_61 (by decide) (fun h3 => ?_) (fun h3 => ?_)
    · skip
      refine lv_iconst (v := nI 1) S.1 S.2.1 dX8_areEnds_96 (by decide) ?_
      refine lv_goto (tgt := 101) S.1 S.2.1 dX8_areEnds_97 (by decide) ?_
      refine ly_top (z := bI (Nat.testBit (op ci) (w - 1) || Nat.testBit (en (ci % 2 * 2 + 1)) (lenF w (op ci) j (foF (op ci) j (w - 1))))) (by rw [show (Nat.testBit (op ci) (w - 1) || Nat.testBit (en (ci % 2 * 2 + 1)) (lenF w (op ci) j (foF (op ci) j (w - 1)))) = true by simp [h3]]; rfl) ?_
      refine lv_istore (lv' := [(5, .int (bI (Nat.testBit (op ci) (w - 1) || Nat.testBit (en (ci % 2 * 2 + 1)) (lenF w (op ci) j (foF (op ci) j (w - 1)))))), (4, .int (nI (w - 1))), (0, .ref (a 0)), (1, .int (nI ci)), (2, .int (nI j)), (3, .int (bI (Nat.testBit (op ci) 0 || Nat.testBit (en (ci % 2 * 2)) (lenF w (op ci) j 0))))]) S.1 S.2.1 dX8_areEnds_101 hl (by decide) rfl (fun ls hl => ?_)
      exact J103  _ (lv_sub hl [2, 3, 4, 5, 1, 0] rfl)
    · skip
      refine lv_aload_n S.1 S.2.1 dX8_areEnds_64 rfl (lv_at hl 1 rfl) ?_
      refine g8 S hI 0 rfl 7 (by decide) tw_614 rfl dX8_areEnds_65 ?_
      refine lv_iload_n S.1 S.2.1 dX8_areEnds_68 rfl (lv_at hl 2 rfl) ?_
      refine lv_iconst (v := nI 2) S.1 S.2.1 dX8_areEnds_69 (by decide) ?_
      refine lv_irem S.1 S.2.1 dX8_areEnds_70 (by decide) ?_
      refine ly_top (z := nI (ci % 2)) (nI_rem (by omega) (by omega) (by omega)) ?_
      refine lv_iconst (v := nI 2) S.1 S.2.1 dX8_areEnds_71 (by decide) ?_
      refine lv_imul S.1 S.2.1 dX8_areEnds_72 ?_
      refine ly_top (z := nI ((ci % 2) * 2)) (pk_mul _ _) ?_
      refine lv_iconst (v := nI 1) S.1 S.2.1 dX8_areEnds_73 (by decide) ?_
      refine lv_iadd S.1 S.2.1 dX8_areEnds_74 ?_
      refine ly_top (z := nI (((ci % 2) * 2) + 1)) (nI_add _ _) ?_
      refine ly_top (z := (nI (ci % 2 * 2 + 1))) rfl ?_
      refine ly_iald (v := (nI (en (ci % 2 * 2 + 1)))) S hI 6 rfl (by omega) (by decide) rfl dX8_areEnds_75 ?_
      refine lv_aload_n S.1 S.2.1 dX8_areEnds_76 rfl (lv_at hl 1 rfl) ?_
      refine lv_iload_n S.1 S.2.1 dX8_areEnds_77 rfl (lv_at hl 2 rfl) ?_
      refine lv_iload_n S.1 S.2.1 dX8_areEnds_78 rfl (lv_at hl 3 rfl) ?_
      refine lv_aload_n S.1 S.2.1 dX8_areEnds_79 rfl (lv_at hl 1 rfl) ?_
      refine lv_iload_n S.1 S.2.1 dX8_areEnds_80 rfl (lv_at hl 2 rfl) ?_
      refine lv_iload_n S.1 S.2.1 dX8_areEnds_81 rfl (lv_at hl 3 rfl) ?_
      refine lv_iload S.1 S.2.1 dX8_areEnds_82 (lv_at hl 0 rfl) ?_
      refine kX8_firstOf S hI hG (by omega) (by omega) (by omega) (by assumption) tw_748 (rok (by decide)) hl.1 (Nat.le_of_ble_eq_true rfl) dX8_areEnds_84 ?_
      have b4 : foF (op ci) j (w - 1) ≤ (w - 1) := foF_le _ _ _
      refine kX8_lengthFrom S hI hG (by omega) (by omega) (by omega) tw_732 (rok (by decide)) hl.1 (Nat.le_of_ble_eq_true rfl) dX8_areEnds_87 ?_
      have b5 : 1 ≤ lenF w (op ci) j (foF (op ci) j (w - 1)) := lenF_pos
      have b6 : (foF (op ci) j (w - 1)) + lenF w (op ci) j (foF (op ci) j (w - 1)) ≤ w := lenF_le (by omega)
      refine kX8_has S (by omega) (by omega) tw_705 (rok (by decide)) hl.1 (Nat.le_of_ble_eq_true rfl) dX8_areEnds_90 ?_
      refine ly_ifeq (tgt := 100) S bI_e1 bI_e2 dX8_areEnds_93 (by decide) (fun h7 => ?_) (fun h7 => ?_)
      · skip
        refine lv_iconst (v := nI 0) S.1 S.2.1 dX8_areEnds_100 (by decide) ?_
        refine ly_top (z := bI (Nat.testBit (op ci) (w - 1) || Nat.testBit (en (ci % 2 * 2 + 1)) (lenF w (op ci) j (foF (op ci) j (w - 1))))) (by rw [show (Nat.testBit (op ci) (w - 1) || Nat.testBit (en (ci % 2 * 2 + 1)) (lenF w (op ci) j (foF (op ci) j (w - 1)))) = false by simp [h3, h7]]; rfl) ?_
        refine lv_istore (lv' := [(5, .int (bI (Nat.testBit (op ci) (w - 1) || Nat.testBit (en (ci % 2 * 2 + 1)) (lenF w (op ci) j (foF (op ci) j (w - 1)))))), (4, .int (nI (w - 1))), (0, .ref (a 0)), (1, .int (nI ci)), (2, .int (nI j)), (3, .int (bI (Nat.testBit (op ci) 0 || Nat.testBit (en (ci % 2 * 2)) (lenF w (op ci) j 0))))]) S.1 S.2.1 dX8_areEnds_101 hl (by decide) rfl (fun ls hl => ?_)
        exact J103  _ (lv_sub hl [2, 3, 4, 5, 1, 0] rfl)
      · skip
        refine lv_iconst (v := nI 1) S.1 S.2.1 dX8_areEnds_96 (by decide) ?_
        refine lv_goto (tgt := 101) S.1 S.2.1 dX8_areEnds_97 (by decide) ?_
        refine ly_top (z := bI (Nat.testBit (op ci) (w - 1) || Nat.testBit (en (ci % 2 * 2 + 1)) (lenF w (op ci) j (foF (op ci) j (w - 1))))) (by rw [show (Nat.testBit (op ci) (w - 1) || Nat.testBit (en (ci % 2 * 2 + 1)) (lenF w (op ci) j (foF (op ci) j (w - 1)))) = true by simp [h3, h7]]; rfl) ?_
        refine lv_istore (lv' := [(5, .int (bI (Nat.testBit (op ci) (w - 1) || Nat.testBit (en (ci % 2 * 2 + 1)) (lenF w (op ci) j (foF (op ci) j (w - 1)))))), (4, .int (nI (w - 1))), (0, .ref (a 0)), (1, .int (nI ci)), (2, .int (nI j)), (3, .int (bI (Nat.testBit (op ci) 0 || Nat.testBit (en (ci % 2 * 2)) (lenF w (op ci) j 0))))]) S.1 S.2.1 dX8_areEnds_101 hl (by decide) rfl (fun ls hl => ?_)
        exact J103  _ (lv_sub hl [2, 3, 4, 5, 1, 0] rfl)
  refine lv_aload_n S.1 S.2.1 dX8_areEnds_0 rfl (lv_at hl 0 rfl) ?_
  refine g8 S hI 0 rfl 2 (by decide) tw_609 rfl dX8_areEnds_1 ?_
  refine lv_iload_n S.1 S.2.1 dX8_areEnds_4 rfl (lv_at hl 1 rfl) ?_
  refine ly_iald (v := (nI (op ci))) S hI 1 rfl (by omega) (by decide) rfl dX8_areEnds_5 ?_
  refine lv_iconst (v := nI 0) S.1 S.2.1 dX8_areEnds_6 (by decide) ?_
  refine kX8_has S (by omega) (by omega) tw_705 (rok (by decide)) hl.1 (Nat.le_of_ble_eq_true rfl) dX8_areEnds_7 ?_
  refine ly_ifne (tgt := 36) S bI_e2 bI_e1 dX8_areEnds_10 (by decide) (fun h8 => ?_) (fun h8 => ?_)
  · skip
    refine lv_iconst (v := nI 1) S.1 S.2.1 dX8_areEnds_36 (by decide) ?_
    refine lv_goto (tgt := 41) S.1 S.2.1 dX8_areEnds_37 (by decide) ?_
    refine ly_top (z := bI (Nat.testBit (op ci) 0 || Nat.testBit (en (ci % 2 * 2)) (lenF w (op ci) j 0))) (by rw [show (Nat.testBit (op ci) 0 || Nat.testBit (en (ci % 2 * 2)) (lenF w (op ci) j 0)) = true by simp [h8]]; rfl) ?_
    refine lv_istore_n (lv' := [(3, .int (bI (Nat.testBit (op ci) 0 || Nat.testBit (en (ci % 2 * 2)) (lenF w (op ci) j 0)))), (0, .ref (a 0)), (1, .int (nI ci)), (2, .int (nI j))]) S.1 S.2.1 dX8_areEnds_41 rfl hl (by decide) rfl (fun ls hl => ?_)
    exact J42  _ (lv_sub hl [1, 2, 3, 0] rfl)
  · skip
    refine lv_aload_n S.1 S.2.1 dX8_areEnds_13 rfl (lv_at hl 0 rfl) ?_
    refine g8 S hI 0 rfl 7 (by decide) tw_614 rfl dX8_areEnds_14 ?_
    refine lv_iload_n S.1 S.2.1 dX8_areEnds_17 rfl (lv_at hl 1 rfl) ?_
    refine lv_iconst (v := nI 2) S.1 S.2.1 dX8_areEnds_18 (by decide) ?_
    refine lv_irem S.1 S.2.1 dX8_areEnds_19 (by decide) ?_
    refine ly_top (z := nI (ci % 2)) (nI_rem (by omega) (by omega) (by omega)) ?_
    refine lv_iconst (v := nI 2) S.1 S.2.1 dX8_areEnds_20 (by decide) ?_
    refine lv_imul S.1 S.2.1 dX8_areEnds_21 ?_
    refine ly_top (z := nI ((ci % 2) * 2)) (pk_mul _ _) ?_
    refine ly_top (z := (nI (ci % 2 * 2))) rfl ?_
    refine ly_iald (v := (nI (en (ci % 2 * 2)))) S hI 6 rfl (by omega) (by decide) rfl dX8_areEnds_22 ?_
    refine lv_aload_n S.1 S.2.1 dX8_areEnds_23 rfl (lv_at hl 0 rfl) ?_
    refine lv_iload_n S.1 S.2.1 dX8_areEnds_24 rfl (lv_at hl 1 rfl) ?_
    refine lv_iload_n S.1 S.2.1 dX8_areEnds_25 rfl (lv_at hl 2 rfl) ?_
    refine lv_iconst (v := nI 0) S.1 S.2.1 dX8_areEnds_26 (by decide) ?_
    refine kX8_lengthFrom S hI hG (by omega) (by omega) (by omega) tw_732 (rok (by decide)) hl.1 (Nat.le_of_ble_eq_true rfl) dX8_areEnds_27 ?_
    have b9 : 1 ≤ lenF w (op ci) j 0 := lenF_pos
    have b10 : 0 + lenF w (op ci) j 0 ≤ w := lenF_le (by omega)
    refine kX8_has S (by omega) (by omega) tw_705 (rok (by decide)) hl.1 (Nat.le_of_ble_eq_true rfl) dX8_areEnds_30 ?_
    refine ly_ifeq (tgt := 40) S bI_e1 bI_e2 dX8_areEnds_33 (by decide) (fun h11 => ?_) (fun h11 => ?_)
    · skip
      refine lv_iconst (v := nI 0) S.1 S.2.1 dX8_areEnds_40 (by decide) ?_
      refine ly_top (z := bI (Nat.testBit (op ci) 0 || Nat.testBit (en (ci % 2 * 2)) (lenF w (op ci) j 0))) (by rw [show (Nat.testBit (op ci) 0 || Nat.testBit (en (ci % 2 * 2)) (lenF w (op ci) j 0)) = false by simp [h8, h11]]; rfl) ?_
      refine lv_istore_n (lv' := [(3, .int (bI (Nat.testBit (op ci) 0 || Nat.testBit (en (ci % 2 * 2)) (lenF w (op ci) j 0)))), (0, .ref (a 0)), (1, .int (nI ci)), (2, .int (nI j))]) S.1 S.2.1 dX8_areEnds_41 rfl hl (by decide) rfl (fun ls hl => ?_)
      exact J42  _ (lv_sub hl [1, 2, 3, 0] rfl)
    · skip
      refine lv_iconst (v := nI 1) S.1 S.2.1 dX8_areEnds_36 (by decide) ?_
      refine lv_goto (tgt := 41) S.1 S.2.1 dX8_areEnds_37 (by decide) ?_
      refine ly_top (z := bI (Nat.testBit (op ci) 0 || Nat.testBit (en (ci % 2 * 2)) (lenF w (op ci) j 0))) (by rw [show (Nat.testBit (op ci) 0 || Nat.testBit (en (ci % 2 * 2)) (lenF w (op ci) j 0)) = true by simp [h8, h11]]; rfl) ?_
      refine lv_istore_n (lv' := [(3, .int (bI (Nat.testBit (op ci) 0 || Nat.testBit (en (ci % 2 * 2)) (lenF w (op ci) j 0)))), (0, .ref (a 0)), (1, .int (nI ci)), (2, .int (nI j))]) S.1 S.2.1 dX8_areEnds_41 rfl hl (by decide) rfl (fun ls hl => ?_)
      exact J42  _ (lv_sub hl [1, 2, 3, 0] rfl)
theorem kX8_areEnds {p : Program} {l : Launch} {e : Env} {R : Room} {s : State} {m : MethodId} {args : Array Value} {below : List Frame} {meth : Method} {c : Code} {H : Heap} {locs : List Loc} {cells slots : Nat} {Q : State → Prop} {cc : ByteArray} {nL index pc : Nat} {own : String} {ls : Array Slot} {rest : List Value} {D : va_G} {K : Nat → ClassId} {a : Nat → Nat} {w n lap : Nat} {op mu ba la en : Nat → Nat} {pr : Nat → Option Nat} {sc : MSc} {ci : Nat} {j : Nat} (S : CallFix p m c cc nL s args lw_tb own) (hI : PI D K (mW K a w n lap op mu ba la en pr sc) s H) (hG : GOK w n lap op mu ba la en pr) (hci : ci < 8) (hj : j < 1024) (hlink : Cond.methodLink own index yX8_areEnds ∈ lw_tb) (hR : RO 3 R cells slots) (hsz : ls.size = nL) (hW : (rest.map fun v => v.category).sum ≤ 8) (hdg : decode cc pc = .ok (.invokevirtual index, 3)) (kk : W p l e R s m args below meth c H locs cells slots Q (F0 m (pc + 3) ls (.int (bI (enOk w (op ci) j (en (ci % 2 * 2)) (en (ci % 2 * 2 + 1)))) :: rest))) : W p l e R s m args below meth c H locs cells slots Q (F0 m pc ls (.int (nI j) :: .int (nI ci) :: .ref (a 0) :: rest)) :=
  kV (As := [.int (nI ci), .int (nI j)]) (b := a 0) S (mX8_areEnds l hG hci hj) hlink tw_746 tw_27 tw_50 tw_747 (by show _ ∧ _ ∧ _ = some 2; decide +kernel) (by decide) hR blP (piU hI) (va_recv hI.2 hI.1 (ci := 8) (q0 := 0) rfl rfl) hsz rfl hW hdg kk

set_option maxHeartbeats 4000000 in
set_option maxRecDepth 100000 in
theorem mX8_breaks (l : Launch) {D : va_G} {K : Nat → ClassId} {a : Nat → Nat} {w n lap : Nat} {op mu ba la en : Nat → Nat} {pr : Nat → Option Nat} {sc : MSc} {ci : Nat} {x : Nat} {L : Nat} {r : Nat} (hG : GOK w n lap op mu ba la en pr) (hci : ci < 8) (hL : 1 ≤ L) (hx : x + L ≤ 10) (hr9 : r < 2 ^ 31) : Met l yX8_breaks (TWd yX8_breaks cX8_breaks 8 (some .boolean)) (rmk 1) (va_Pc [.ref (a 0), .int (nI ci), .int (nI x), .int (nI L), .int (nI r)] (fun U => PI D K (mW K a w n lap op mu ba la en pr sc) U U.heap)) (QcRead (bI (brk pr (bl op ci) x L r))) 0 0 (fun _ => False) := by
  refine mt_of (by decide +kernel) (Nat.le_of_ble_eq_true rfl) ?_
  intro p e s m below meth c S hr hlk hI ls hl
  have S : CallFix p m c cX8_breaks 8 s ([.ref (a 0), .int (nI ci), .int (nI x), .int (nI L), .int (nI r)] : List Value).toArray lw_tb RX8 := S
  have hl : lv_has ls 8 [(0, .ref (a 0)), (1, .int (nI ci)), (2, .int (nI x)), (3, .int (nI L)), (4, .int (nI r))] := hl
  obtain ⟨gw1, gw2, gn, gl1, gl2, gop, gmu, gba, gla, gen, gpr, gop2, gmu2, gba2, gla2, gme, gbe, gle, gee⟩ := id hG
  have o1 := bl_lt gop ci
  have J18 : ∀ (ls : Array Slot), lv_has ls 8 [(0, .ref (a 0)), (1, .int (nI ci)), (2, .int (nI x)), (3, .int (nI L)), (4, .int (nI r)), (5, .int (nI (bl op ci)))] → W p l e (rmk 1) s m ([.ref (a 0), .int (nI ci), .int (nI x), .int (nI L), .int (nI r)] : List Value).toArray below meth c s.heap [] 0 0 (MQ below (QcRead (bI (brk pr (bl op ci) x L r))) ([.ref (a 0), .int (nI ci), .int (nI x), .int (nI L), .int (nI r)] : List Value).toArray s 0 0 (fun _ => False)) (F0 m 18 ls []) := by
    intro  ls hl
    refine lv_iload S.1 S.2.1 dX8_breaks_18 (lv_at hl 4 rfl) ?_
    refine lv_iconst (v := nI 3) S.1 S.2.1 dX8_breaks_20 (by decide) ?_
    refine ly_cmne (tgt := 38) S (nI_e2 (by omega) (by omega)) (nI_e1 (by omega) (by omega)) dX8_breaks_21 (by decide) (fun h1 => ?_) (fun h1 => ?_)
    · skip
      refine lv_iload S.1 S.2.1 dX8_breaks_38 (lv_at hl 4 rfl) ?_
      refine lv_iconst (v := nI 5) S.1 S.2.1 dX8_breaks_40 (by decide) ?_
      refine ly_cmne (tgt := 72) S (nI_e2 (by omega) (by omega)) (nI_e1 (by omega) (by omega)) dX8_breaks_41 (by decide) (fun h2 => ?_) (fun h2 => ?_)
      · skip
        refine lv_iconst (v := nI 0) S.1 S.2.1 dX8_breaks_72 (by decide) ?_
        refine ly_top (z := bI (anyN (fun q => Nat.testBit (bl op ci) (x + q)) 0)) (by rw [show (anyN (fun q => Nat.testBit (bl op ci) (x + q)) 0) = false by simp [anyN, h1, h2]]; rfl) ?_
        refine lv_istore (lv' := [(6, .int (bI (anyN (fun q => Nat.testBit (bl op ci) (x + q)) 0))), (0, .ref (a 0)), (1, .int (nI ci)), (2, .int (nI x)), (3, .int (nI L)), (4, .int (nI r)), (5, .int (nI (bl op ci)))]) S.1 S.2.1 dX8_breaks_73 hl (by decide) rfl (fun ls hl => ?_)
        refine lv_iconst (v := nI 0) S.1 S.2.1 dX8_breaks_75 (by decide) ?_
        refine lv_istore (lv' := [(7, .int (nI 0)), (6, .int (bI (anyN (fun q => Nat.testBit (bl op ci) (x + q)) 0))), (0, .ref (a 0)), (1, .int (nI ci)), (2, .int (nI x)), (3, .int (nI L)), (4, .int (nI r)), (5, .int (nI (bl op ci)))]) S.1 S.2.1 dX8_breaks_76 hl (by decide) rfl (fun ls hl => ?_)
        have L78 : ∀ (f78 : Nat) (k : Nat), (k ≤ L) → L - k < f78 → ∀ (ls : Array Slot), lv_has ls 8 [(0, .ref (a 0)), (1, .int (nI ci)), (2, .int (nI x)), (3, .int (nI L)), (4, .int (nI r)), (5, .int (nI (bl op ci))), (6, .int (bI (anyN (fun q => Nat.testBit (bl op ci) (x + q)) k))), (7, .int (nI k))] → W p l e (rmk 1) s m ([.ref (a 0), .int (nI ci), .int (nI x), .int (nI L), .int (nI r)] : List Value).toArray below meth c s.heap [] 0 0 (MQ below (QcRead (bI (brk pr (bl op ci) x L r))) ([.ref (a 0), .int (nI ci), .int (nI x), .int (nI L), .int (nI r)] : List Value).toArray s 0 0 (fun _ => False)) (F0 m 78 ls []) := by
          intro f78
          induction f78 with
          | zero =>
            intro k i2 hm
            exact absurd hm (Nat.not_lt_zero _)
          | succ f78 ih78 =>
            intro k i2 hm78 ls hl
            refine lv_iload S.1 S.2.1 dX8_breaks_78 (lv_at hl 7 rfl) ?_
            refine lv_iload_n S.1 S.2.1 dX8_breaks_80 rfl (lv_at hl 3 rfl) ?_
            refine ly_cmge (tgt := 114) S (nI_le1 (by omega) (by omega)) (nI_le2 (by omega) (by omega)) dX8_breaks_81 (by decide) (fun h3 => ?_) (fun h3 => ?_)
            · skip
              have ek : k = L := by omega
              subst ek
              refine lv_iload_n S.1 S.2.1 dX8_breaks_114 rfl (lv_at hl 3 rfl) ?_
              refine lv_iconst (v := nI 4) S.1 S.2.1 dX8_breaks_115 (by decide) ?_
              refine ly_cmle (tgt := 128) S (nI_le1 (by omega) (by omega)) (nI_le2 (by omega) (by omega)) dX8_breaks_116 (by decide) (fun h4 => ?_) (fun h4 => ?_)
              · skip
                refine lv_iconst (v := nI 0) S.1 S.2.1 dX8_breaks_128 (by decide) ?_
                exact rt_z0 S hr hlk (by simp [brk, h1, h2, h3, h4]; omega) dX8_breaks_129
              · skip
                refine lv_iload S.1 S.2.1 dX8_breaks_119 (lv_at hl 6 rfl) ?_
                refine ly_ifne (tgt := 128) S bI_e2 bI_e1 dX8_breaks_121 (by decide) (fun h5 => ?_) (fun h5 => ?_)
                · skip
                  refine lv_iconst (v := nI 0) S.1 S.2.1 dX8_breaks_128 (by decide) ?_
                  exact rt_z0 S hr hlk (by simp [brk, h1, h2, h3, h4, h5]) dX8_breaks_129
                · skip
                  refine lv_iconst (v := nI 1) S.1 S.2.1 dX8_breaks_124 (by decide) ?_
                  refine lv_goto (tgt := 129) S.1 S.2.1 dX8_breaks_125 (by decide) ?_
                  exact rt_z1 S hr hlk (by simp [brk, h1, h2, h3, h4, h5]) dX8_breaks_129
            · skip
              refine lv_iload S.1 S.2.1 dX8_breaks_84 (lv_at hl 6 rfl) ?_
              refine ly_ifne (tgt := 101) S bI_e2 bI_e1 dX8_breaks_86 (by decide) (fun h6 => ?_) (fun h6 => ?_)
              · skip
                refine lv_iconst (v := nI 1) S.1 S.2.1 dX8_breaks_101 (by decide) ?_
                refine lv_goto (tgt := 106) S.1 S.2.1 dX8_breaks_102 (by decide) ?_
                refine ly_top (z := bI (anyN (fun q => Nat.testBit (bl op ci) (x + q)) (k + 1))) (by rw [show (anyN (fun q => Nat.testBit (bl op ci) (x + q)) (k + 1)) = true by simp [anyN, h1, h2, h3, h6]]; rfl) ?_
                refine lv_istore (lv' := [(6, .int (bI (anyN (fun q => Nat.testBit (bl op ci) (x + q)) (k + 1)))), (0, .ref (a 0)), (1, .int (nI ci)), (2, .int (nI x)), (3, .int (nI L)), (4, .int (nI r)), (5, .int (nI (bl op ci))), (7, .int (nI k))]) S.1 S.2.1 dX8_breaks_106 hl (by decide) rfl (fun ls hl => ?_)
                refine lv_iinc (v := nI (k + 1)) (lv' := [(7, .int (nI (k + 1))), (6, .int (bI (anyN (fun q => Nat.testBit (bl op ci) (x + q)) (k + 1)))), (0, .ref (a 0)), (1, .int (nI ci)), (2, .int (nI x)), (3, .int (nI L)), (4, .int (nI r)), (5, .int (nI (bl op ci)))]) S.1 S.2.1 dX8_breaks_108 hl (k := 7) rfl (nJ_in _ _) (by decide) rfl (fun ls hl => ?_)
                refine lv_goto (tgt := 78) S.1 S.2.1 dX8_breaks_111 (by decide) ?_
                exact ih78 (k + 1) (by omega) (by omega) _ (lv_sub hl [2, 3, 4, 5, 6, 7, 1, 0] rfl)
              · skip
                refine lv_iload S.1 S.2.1 dX8_breaks_89 (lv_at hl 5 rfl) ?_
                refine lv_iload_n S.1 S.2.1 dX8_breaks_91 rfl (lv_at hl 2 rfl) ?_
                refine lv_iload S.1 S.2.1 dX8_breaks_92 (lv_at hl 7 rfl) ?_
                refine lv_iadd S.1 S.2.1 dX8_breaks_94 ?_
                refine ly_top (z := nI (x + k)) (nI_add _ _) ?_
                refine kX8_has S (by omega) (by omega) tw_705 (rok (by decide)) hl.1 (Nat.le_of_ble_eq_true rfl) dX8_breaks_95 ?_
                refine ly_ifeq (tgt := 105) S bI_e1 bI_e2 dX8_breaks_98 (by decide) (fun h7 => ?_) (fun h7 => ?_)
                · skip
                  refine lv_iconst (v := nI 0) S.1 S.2.1 dX8_breaks_105 (by decide) ?_
                  refine ly_top (z := bI (anyN (fun q => Nat.testBit (bl op ci) (x + q)) (k + 1))) (by rw [show (anyN (fun q => Nat.testBit (bl op ci) (x + q)) (k + 1)) = false by simp [anyN, h1, h2, h3, h6, h7]]; rfl) ?_
                  refine lv_istore (lv' := [(6, .int (bI (anyN (fun q => Nat.testBit (bl op ci) (x + q)) (k + 1)))), (0, .ref (a 0)), (1, .int (nI ci)), (2, .int (nI x)), (3, .int (nI L)), (4, .int (nI r)), (5, .int (nI (bl op ci))), (7, .int (nI k))]) S.1 S.2.1 dX8_breaks_106 hl (by decide) rfl (fun ls hl => ?_)
                  refine lv_iinc (v := nI (k + 1)) (lv' := [(7, .int (nI (k + 1))), (6, .int (bI (anyN (fun q => Nat.testBit (bl op ci) (x + q)) (k + 1)))), (0, .ref (a 0)), (1, .int (nI ci)), (2, .int (nI x)), (3, .int (nI L)), (4, .int (nI r)), (5, .int (nI (bl op ci)))]) S.1 S.2.1 dX8_breaks_108 hl (k := 7) rfl (nJ_in _ _) (by decide) rfl (fun ls hl => ?_)
                  refine lv_goto (tgt := 78) S.1 S.2.1 dX8_breaks_111 (by decide) ?_
                  exact ih78 (k + 1) (by omega) (by omega) _ (lv_sub hl [2, 3, 4, 5, 6, 7, 1, 0] rfl)
                · skip
                  refine lv_iconst (v := nI 1) S.1 S.2.1 dX8_breaks_101 (by decide) ?_
                  refine lv_goto (tgt := 106) S.1 S.2.1 dX8_breaks_102 (by decide) ?_
                  refine ly_top (z := bI (anyN (fun q => Nat.testBit (bl op ci) (x + q)) (k + 1))) (by rw [show (anyN (fun q => Nat.testBit (bl op ci) (x + q)) (k + 1)) = true by simp [anyN, h1, h2, h3, h6, h7]]; rfl) ?_
                  refine lv_istore (lv' := [(6, .int (bI (anyN (fun q => Nat.testBit (bl op ci) (x + q)) (k + 1)))), (0, .ref (a 0)), (1, .int (nI ci)), (2, .int (nI x)), (3, .int (nI L)), (4, .int (nI r)), (5, .int (nI (bl op ci))), (7, .int (nI k))]) S.1 S.2.1 dX8_breaks_106 hl (by decide) rfl (fun ls hl => ?_)
                  refine lv_iinc (v := nI (k + 1)) (lv' := [(7, .int (nI (k + 1))), (6, .int (bI (anyN (fun q => Nat.testBit (bl op ci) (x + q)) (k + 1)))), (0, .ref (a 0)), (1, .int (nI ci)), (2, .int (nI x)), (3, .int (nI L)), (4, .int (nI r)), (5, .int (nI (bl op ci)))]) S.1 S.2.1 dX8_breaks_108 hl (k := 7) rfl (nJ_in _ _) (by decide) rfl (fun ls hl => ?_)
                  refine lv_goto (tgt := 78) S.1 S.2.1 dX8_breaks_111 (by decide) ?_
                  exact ih78 (k + 1) (by omega) (by omega) _ (lv_sub hl [2, 3, 4, 5, 6, 7, 1, 0] rfl)
        exact L78 _ 0 (by omega) (Nat.lt_succ_self _) _ (lv_sub hl [2, 3, 4, 5, 6, 7, 1, 0] rfl)
      · skip
        refine lv_iload S.1 S.2.1 dX8_breaks_44 (lv_at hl 5 rfl) ?_
        refine lv_iload_n S.1 S.2.1 dX8_breaks_46 rfl (lv_at hl 2 rfl) ?_
        refine kX8_has S (by omega) (by omega) tw_705 (rok (by decide)) hl.1 (Nat.le_of_ble_eq_true rfl) dX8_breaks_47 ?_
        refine ly_ifne (tgt := 66) S bI_e2 bI_e1 dX8_breaks_50 (by decide) (fun h8 => ?_) (fun h8 => ?_)
        · skip
          refine lv_iconst (v := nI 1) S.1 S.2.1 dX8_breaks_66 (by decide) ?_
          refine lv_goto (tgt := 71) S.1 S.2.1 dX8_breaks_67 (by decide) ?_
          exact rt_z1 S hr hlk (by simp [brk, h1, h2, h8]) dX8_breaks_71
        · skip
          refine lv_iload S.1 S.2.1 dX8_breaks_53 (lv_at hl 5 rfl) ?_
          refine lv_iload_n S.1 S.2.1 dX8_breaks_55 rfl (lv_at hl 2 rfl) ?_
          refine lv_iload_n S.1 S.2.1 dX8_breaks_56 rfl (lv_at hl 3 rfl) ?_
          refine lv_iadd S.1 S.2.1 dX8_breaks_57 ?_
          refine ly_top (z := nI (x + L)) (nI_add _ _) ?_
          refine lv_iconst (v := nI 1) S.1 S.2.1 dX8_breaks_58 (by decide) ?_
          refine lv_isub S.1 S.2.1 dX8_breaks_59 ?_
          refine ly_top (z := nI ((x + L) - 1)) (pk_sub (by omega)) ?_
          refine kX8_has S (by omega) (by omega) tw_705 (rok (by decide)) hl.1 (Nat.le_of_ble_eq_true rfl) dX8_breaks_60 ?_
          refine ly_ifeq (tgt := 70) S bI_e1 bI_e2 dX8_breaks_63 (by decide) (fun h9 => ?_) (fun h9 => ?_)
          · skip
            refine lv_iconst (v := nI 0) S.1 S.2.1 dX8_breaks_70 (by decide) ?_
            exact rt_z0 S hr hlk (by simp [brk, h1, h2, h8, h9]) dX8_breaks_71
          · skip
            refine lv_iconst (v := nI 1) S.1 S.2.1 dX8_breaks_66 (by decide) ?_
            refine lv_goto (tgt := 71) S.1 S.2.1 dX8_breaks_67 (by decide) ?_
            exact rt_z1 S hr hlk (by simp [brk, h1, h2, h8, h9]) dX8_breaks_71
    · skip
      refine lv_aload_n S.1 S.2.1 dX8_breaks_24 rfl (lv_at hl 0 rfl) ?_
      refine lv_iload_n S.1 S.2.1 dX8_breaks_25 rfl (lv_at hl 3 rfl) ?_
      refine kX8_isPriced S hI hG (by omega) (by omega) tw_740 (rok (by decide)) hl.1 (Nat.le_of_ble_eq_true rfl) dX8_breaks_26 ?_
      refine ly_ifne (tgt := 36) S bI_e2 bI_e1 dX8_breaks_29 (by decide) (fun h10 => ?_) (fun h10 => ?_)
      · skip
        refine lv_iconst (v := nI 0) S.1 S.2.1 dX8_breaks_36 (by decide) ?_
        exact rt_z0 S hr hlk (by simp [brk, h1, h10]) dX8_breaks_37
      · skip
        refine lv_iconst (v := nI 1) S.1 S.2.1 dX8_breaks_32 (by decide) ?_
        refine lv_goto (tgt := 37) S.1 S.2.1 dX8_breaks_33 (by decide) ?_
        exact rt_z1 S hr hlk (by simp [brk, h1, h10]) dX8_breaks_37
  refine lv_iload_n S.1 S.2.1 dX8_breaks_0 rfl (lv_at hl 1 rfl) ?_
  refine ly_ifne (tgt := 8) S (nI_z2 (by omega)) (nI_z1 (by omega)) dX8_breaks_1 (by decide) (fun h11 => ?_) (fun h11 => ?_)
  · skip
    refine lv_aload_n S.1 S.2.1 dX8_breaks_8 rfl (lv_at hl 0 rfl) ?_
    refine g8 S hI 0 rfl 2 (by decide) tw_609 rfl dX8_breaks_9 ?_
    refine lv_iload_n S.1 S.2.1 dX8_breaks_12 rfl (lv_at hl 1 rfl) ?_
    refine lv_iconst (v := nI 1) S.1 S.2.1 dX8_breaks_13 (by decide) ?_
    refine lv_isub S.1 S.2.1 dX8_breaks_14 ?_
    refine ly_top (z := nI (ci - 1)) (pk_sub (by omega)) ?_
    refine ly_iald (v := (nI (op (ci - 1)))) S hI 1 rfl (by omega) (by decide) rfl dX8_breaks_15 ?_
    refine ly_top (z := nI (bl op ci)) (by simp [bl, h11]) ?_
    refine lv_istore (lv' := [(5, .int (nI (bl op ci))), (0, .ref (a 0)), (1, .int (nI ci)), (2, .int (nI x)), (3, .int (nI L)), (4, .int (nI r))]) S.1 S.2.1 dX8_breaks_16 hl (by decide) rfl (fun ls hl => ?_)
    exact J18  _ (lv_sub hl [1, 2, 3, 4, 5, 0] rfl)
  · skip
    refine lv_iconst (v := nI 0) S.1 S.2.1 dX8_breaks_4 (by decide) ?_
    refine lv_goto (tgt := 16) S.1 S.2.1 dX8_breaks_5 (by decide) ?_
    refine ly_top (z := nI (bl op ci)) (by simp [bl, h11]) ?_
    refine lv_istore (lv' := [(5, .int (nI (bl op ci))), (0, .ref (a 0)), (1, .int (nI ci)), (2, .int (nI x)), (3, .int (nI L)), (4, .int (nI r))]) S.1 S.2.1 dX8_breaks_16 hl (by decide) rfl (fun ls hl => ?_)
    exact J18  _ (lv_sub hl [1, 2, 3, 4, 5, 0] rfl)
theorem kX8_breaks {p : Program} {l : Launch} {e : Env} {R : Room} {s : State} {m : MethodId} {args : Array Value} {below : List Frame} {meth : Method} {c : Code} {H : Heap} {locs : List Loc} {cells slots : Nat} {Q : State → Prop} {cc : ByteArray} {nL index pc : Nat} {own : String} {ls : Array Slot} {rest : List Value} {D : va_G} {K : Nat → ClassId} {a : Nat → Nat} {w n lap : Nat} {op mu ba la en : Nat → Nat} {pr : Nat → Option Nat} {sc : MSc} {ci : Nat} {x : Nat} {L : Nat} {r : Nat} (S : CallFix p m c cc nL s args lw_tb own) (hI : PI D K (mW K a w n lap op mu ba la en pr sc) s H) (hG : GOK w n lap op mu ba la en pr) (hci : ci < 8) (hL : 1 ≤ L) (hx : x + L ≤ 10) (hr9 : r < 2 ^ 31) (hlink : Cond.methodLink own index yX8_breaks ∈ lw_tb) (hR : RO 1 R cells slots) (hsz : ls.size = nL) (hW : (rest.map fun v => v.category).sum ≤ 8) (hdg : decode cc pc = .ok (.invokevirtual index, 3)) (kk : W p l e R s m args below meth c H locs cells slots Q (F0 m (pc + 3) ls (.int (bI (brk pr (bl op ci) x L r)) :: rest))) : W p l e R s m args below meth c H locs cells slots Q (F0 m pc ls (.int (nI r) :: .int (nI L) :: .int (nI x) :: .int (nI ci) :: .ref (a 0) :: rest)) :=
  kV (As := [.int (nI ci), .int (nI x), .int (nI L), .int (nI r)]) (b := a 0) S (mX8_breaks l hG hci hL hx hr9) hlink tw_738 tw_25 tw_50 tw_739 (by show _ ∧ _ ∧ _ = some 4; decide +kernel) (by decide) hR blP (piU hI) (va_recv hI.2 hI.1 (ci := 8) (q0 := 0) rfl rfl) hsz rfl hW hdg kk

set_option maxHeartbeats 4000000 in
set_option maxRecDepth 100000 in
theorem mX8_somePiece (l : Launch) {D : va_G} {K : Nat → ClassId} {a : Nat → Nat} {w n lap : Nat} {op mu ba la en : Nat → Nat} {pr : Nat → Option Nat} {sc : MSc} {ci : Nat} {j : Nat} {r : Nat} (hG : GOK w n lap op mu ba la en pr) (hci : ci < 8) (hj : j < 1024) (hr9 : r < 2 ^ 31) : Met l yX8_somePiece (TWd yX8_somePiece cX8_somePiece 6 (some .boolean)) (rmk 3) (va_Pc [.ref (a 0), .int (nI ci), .int (nI j), .int (nI r)] (fun U => PI D K (mW K a w n lap op mu ba la en pr sc) U U.heap)) (QcRead (bI (anyN (spc pr w (op ci) (bl op ci) j r) w))) 0 0 (fun _ => False) := by
  refine mt_of (by decide +kernel) (Nat.le_of_ble_eq_true rfl) ?_
  intro p e s m below meth c S hr hlk hI ls hl
  have S : CallFix p m c cX8_somePiece 6 s ([.ref (a 0), .int (nI ci), .int (nI j), .int (nI r)] : List Value).toArray lw_tb RX8 := S
  have hl : lv_has ls 6 [(0, .ref (a 0)), (1, .int (nI ci)), (2, .int (nI j)), (3, .int (nI r))] := hl
  obtain ⟨gw1, gw2, gn, gl1, gl2, gop, gmu, gba, gla, gen, gpr, gop2, gmu2, gba2, gla2, gme, gbe, gle, gee⟩ := id hG
  refine lv_iconst (v := nI 0) S.1 S.2.1 dX8_somePiece_0 (by decide) ?_
  refine ly_top (z := bI (anyN (spc pr w (op ci) (bl op ci) j r) 0)) (by rw [show (anyN (spc pr w (op ci) (bl op ci) j r) 0) = false by simp [anyN]]; rfl) ?_
  refine lv_istore (lv' := [(4, .int (bI (anyN (spc pr w (op ci) (bl op ci) j r) 0))), (0, .ref (a 0)), (1, .int (nI ci)), (2, .int (nI j)), (3, .int (nI r))]) S.1 S.2.1 dX8_somePiece_1 hl (by decide) rfl (fun ls hl => ?_)
  refine lv_iconst (v := nI 0) S.1 S.2.1 dX8_somePiece_3 (by decide) ?_
  refine lv_istore (lv' := [(5, .int (nI 0)), (4, .int (bI (anyN (spc pr w (op ci) (bl op ci) j r) 0))), (0, .ref (a 0)), (1, .int (nI ci)), (2, .int (nI j)), (3, .int (nI r))]) S.1 S.2.1 dX8_somePiece_4 hl (by decide) rfl (fun ls hl => ?_)
  have L6 : ∀ (f6 : Nat) (k : Nat), (k ≤ w) → w - k < f6 → ∀ (ls : Array Slot), lv_has ls 6 [(0, .ref (a 0)), (1, .int (nI ci)), (2, .int (nI j)), (3, .int (nI r)), (4, .int (bI (anyN (spc pr w (op ci) (bl op ci) j r) k))), (5, .int (nI k))] → W p l e (rmk 3) s m ([.ref (a 0), .int (nI ci), .int (nI j), .int (nI r)] : List Value).toArray below meth c s.heap [] 0 0 (MQ below (QcRead (bI (anyN (spc pr w (op ci) (bl op ci) j r) w))) ([.ref (a 0), .int (nI ci), .int (nI j), .int (nI r)] : List Value).toArray s 0 0 (fun _ => False)) (F0 m 6 ls []) := by
    intro f6
    induction f6 with
    | zero =>
      intro k i2 hm
      exact absurd hm (Nat.not_lt_zero _)
    | succ f6 ih6 =>
      intro k i2 hm6 ls hl
      refine lv_iload S.1 S.2.1 dX8_somePiece_6 (lv_at hl 5 rfl) ?_
      refine lv_aload_n S.1 S.2.1 dX8_somePiece_8 rfl (lv_at hl 0 rfl) ?_
      refine g8 S hI 0 rfl 0 (by decide) tw_607 rfl dX8_somePiece_9 ?_
      refine ly_cmge (tgt := 63) S (nI_le1 (by omega) (by omega)) (nI_le2 (by omega) (by omega)) dX8_somePiece_12 (by decide) (fun h1 => ?_) (fun h1 => ?_)
      · skip
        refine lv_iload S.1 S.2.1 dX8_somePiece_63 (lv_at hl 4 rfl) ?_
        exact rt_z S hr hlk (by rw [show k = w by omega]) dX8_somePiece_65
      · skip
        refine lv_iload S.1 S.2.1 dX8_somePiece_15 (lv_at hl 4 rfl) ?_
        refine ly_ifne (tgt := 50) S bI_e2 bI_e1 dX8_somePiece_17 (by decide) (fun h2 => ?_) (fun h2 => ?_)
        · skip
          refine lv_iconst (v := nI 1) S.1 S.2.1 dX8_somePiece_50 (by decide) ?_
          refine lv_goto (tgt := 55) S.1 S.2.1 dX8_somePiece_51 (by decide) ?_
          refine ly_top (z := bI (anyN (spc pr w (op ci) (bl op ci) j r) (k + 1))) (by rw [show (anyN (spc pr w (op ci) (bl op ci) j r) (k + 1)) = true by simp [anyN, spc, h1, h2]]; rfl) ?_
          refine lv_istore (lv' := [(4, .int (bI (anyN (spc pr w (op ci) (bl op ci) j r) (k + 1)))), (0, .ref (a 0)), (1, .int (nI ci)), (2, .int (nI j)), (3, .int (nI r)), (5, .int (nI k))]) S.1 S.2.1 dX8_somePiece_55 hl (by decide) rfl (fun ls hl => ?_)
          refine lv_iinc (v := nI (k + 1)) (lv' := [(5, .int (nI (k + 1))), (4, .int (bI (anyN (spc pr w (op ci) (bl op ci) j r) (k + 1)))), (0, .ref (a 0)), (1, .int (nI ci)), (2, .int (nI j)), (3, .int (nI r))]) S.1 S.2.1 dX8_somePiece_57 hl (k := 5) rfl (nJ_in _ _) (by decide) rfl (fun ls hl => ?_)
          refine lv_goto (tgt := 6) S.1 S.2.1 dX8_somePiece_60 (by decide) ?_
          exact ih6 (k + 1) (by omega) (by omega) _ (lv_sub hl [2, 3, 4, 5, 1, 0] rfl)
        · skip
          refine lv_aload_n S.1 S.2.1 dX8_somePiece_20 rfl (lv_at hl 0 rfl) ?_
          refine lv_iload_n S.1 S.2.1 dX8_somePiece_21 rfl (lv_at hl 1 rfl) ?_
          refine lv_iload_n S.1 S.2.1 dX8_somePiece_22 rfl (lv_at hl 2 rfl) ?_
          refine lv_iload S.1 S.2.1 dX8_somePiece_23 (lv_at hl 5 rfl) ?_
          refine kX8_begins S hI hG (by omega) (by omega) (by omega) tw_728 (rok (by decide)) hl.1 (Nat.le_of_ble_eq_true rfl) dX8_somePiece_25 ?_
          refine ly_ifeq (tgt := 54) S bI_e1 bI_e2 dX8_somePiece_28 (by decide) (fun h3 => ?_) (fun h3 => ?_)
          · skip
            refine lv_iconst (v := nI 0) S.1 S.2.1 dX8_somePiece_54 (by decide) ?_
            refine ly_top (z := bI (anyN (spc pr w (op ci) (bl op ci) j r) (k + 1))) (by rw [show (anyN (spc pr w (op ci) (bl op ci) j r) (k + 1)) = false by simp [anyN, spc, h1, h2, h3]]; rfl) ?_
            refine lv_istore (lv' := [(4, .int (bI (anyN (spc pr w (op ci) (bl op ci) j r) (k + 1)))), (0, .ref (a 0)), (1, .int (nI ci)), (2, .int (nI j)), (3, .int (nI r)), (5, .int (nI k))]) S.1 S.2.1 dX8_somePiece_55 hl (by decide) rfl (fun ls hl => ?_)
            refine lv_iinc (v := nI (k + 1)) (lv' := [(5, .int (nI (k + 1))), (4, .int (bI (anyN (spc pr w (op ci) (bl op ci) j r) (k + 1)))), (0, .ref (a 0)), (1, .int (nI ci)), (2, .int (nI j)), (3, .int (nI r))]) S.1 S.2.1 dX8_somePiece_57 hl (k := 5) rfl (nJ_in _ _) (by decide) rfl (fun ls hl => ?_)
            refine lv_goto (tgt := 6) S.1 S.2.1 dX8_somePiece_60 (by decide) ?_
            exact ih6 (k + 1) (by omega) (by omega) _ (lv_sub hl [2, 3, 4, 5, 1, 0] rfl)
          · skip
            refine lv_aload_n S.1 S.2.1 dX8_somePiece_31 rfl (lv_at hl 0 rfl) ?_
            refine lv_iload_n S.1 S.2.1 dX8_somePiece_32 rfl (lv_at hl 1 rfl) ?_
            refine lv_iload S.1 S.2.1 dX8_somePiece_33 (lv_at hl 5 rfl) ?_
            refine lv_aload_n S.1 S.2.1 dX8_somePiece_35 rfl (lv_at hl 0 rfl) ?_
            refine lv_iload_n S.1 S.2.1 dX8_somePiece_36 rfl (lv_at hl 1 rfl) ?_
            refine lv_iload_n S.1 S.2.1 dX8_somePiece_37 rfl (lv_at hl 2 rfl) ?_
            refine lv_iload S.1 S.2.1 dX8_somePiece_38 (lv_at hl 5 rfl) ?_
            refine kX8_lengthFrom S hI hG (by omega) (by omega) (by omega) tw_732 (rok (by decide)) hl.1 (Nat.le_of_ble_eq_true rfl) dX8_somePiece_40 ?_
            have b4 : 1 ≤ lenF w (op ci) j k := lenF_pos
            have b5 : k + lenF w (op ci) j k ≤ w := lenF_le (by omega)
            refine lv_iload_n S.1 S.2.1 dX8_somePiece_43 rfl (lv_at hl 3 rfl) ?_
            refine kX8_breaks S hI hG (by omega) (by omega) (by omega) (by omega) tw_736 (rok (by decide)) hl.1 (Nat.le_of_ble_eq_true rfl) dX8_somePiece_44 ?_
            refine ly_ifeq (tgt := 54) S bI_e1 bI_e2 dX8_somePiece_47 (by decide) (fun h6 => ?_) (fun h6 => ?_)
            · skip
              refine lv_iconst (v := nI 0) S.1 S.2.1 dX8_somePiece_54 (by decide) ?_
              refine ly_top (z := bI (anyN (spc pr w (op ci) (bl op ci) j r) (k + 1))) (by rw [show (anyN (spc pr w (op ci) (bl op ci) j r) (k + 1)) = false by simp [anyN, spc, h1, h2, h3, h6]]; rfl) ?_
              refine lv_istore (lv' := [(4, .int (bI (anyN (spc pr w (op ci) (bl op ci) j r) (k + 1)))), (0, .ref (a 0)), (1, .int (nI ci)), (2, .int (nI j)), (3, .int (nI r)), (5, .int (nI k))]) S.1 S.2.1 dX8_somePiece_55 hl (by decide) rfl (fun ls hl => ?_)
              refine lv_iinc (v := nI (k + 1)) (lv' := [(5, .int (nI (k + 1))), (4, .int (bI (anyN (spc pr w (op ci) (bl op ci) j r) (k + 1)))), (0, .ref (a 0)), (1, .int (nI ci)), (2, .int (nI j)), (3, .int (nI r))]) S.1 S.2.1 dX8_somePiece_57 hl (k := 5) rfl (nJ_in _ _) (by decide) rfl (fun ls hl => ?_)
              refine lv_goto (tgt := 6) S.1 S.2.1 dX8_somePiece_60 (by decide) ?_
              exact ih6 (k + 1) (by omega) (by omega) _ (lv_sub hl [2, 3, 4, 5, 1, 0] rfl)
            · skip
              refine lv_iconst (v := nI 1) S.1 S.2.1 dX8_somePiece_50 (by decide) ?_
              refine lv_goto (tgt := 55) S.1 S.2.1 dX8_somePiece_51 (by decide) ?_
              refine ly_top (z := bI (anyN (spc pr w (op ci) (bl op ci) j r) (k + 1))) (by rw [show (anyN (spc pr w (op ci) (bl op ci) j r) (k + 1)) = true by simp [anyN, spc, h1, h2, h3, h6]]; rfl) ?_
              refine lv_istore (lv' := [(4, .int (bI (anyN (spc pr w (op ci) (bl op ci) j r) (k + 1)))), (0, .ref (a 0)), (1, .int (nI ci)), (2, .int (nI j)), (3, .int (nI r)), (5, .int (nI k))]) S.1 S.2.1 dX8_somePiece_55 hl (by decide) rfl (fun ls hl => ?_)
              refine lv_iinc (v := nI (k + 1)) (lv' := [(5, .int (nI (k + 1))), (4, .int (bI (anyN (spc pr w (op ci) (bl op ci) j r) (k + 1)))), (0, .ref (a 0)), (1, .int (nI ci)), (2, .int (nI j)), (3, .int (nI r))]) S.1 S.2.1 dX8_somePiece_57 hl (k := 5) rfl (nJ_in _ _) (by decide) rfl (fun ls hl => ?_)
              refine lv_goto (tgt := 6) S.1 S.2.1 dX8_somePiece_60 (by decide) ?_
              exact ih6 (k + 1) (by omega) (by omega) _ (lv_sub hl [2, 3, 4, 5, 1, 0] rfl)
  exact L6 _ 0 (by omega) (Nat.lt_succ_self _) _ (lv_sub hl [2, 3, 4, 5, 1, 0] rfl)
theorem kX8_somePiece {p : Program} {l : Launch} {e : Env} {R : Room} {s : State} {m : MethodId} {args : Array Value} {below : List Frame} {meth : Method} {c : Code} {H : Heap} {locs : List Loc} {cells slots : Nat} {Q : State → Prop} {cc : ByteArray} {nL index pc : Nat} {own : String} {ls : Array Slot} {rest : List Value} {D : va_G} {K : Nat → ClassId} {a : Nat → Nat} {w n lap : Nat} {op mu ba la en : Nat → Nat} {pr : Nat → Option Nat} {sc : MSc} {ci : Nat} {j : Nat} {r : Nat} (S : CallFix p m c cc nL s args lw_tb own) (hI : PI D K (mW K a w n lap op mu ba la en pr sc) s H) (hG : GOK w n lap op mu ba la en pr) (hci : ci < 8) (hj : j < 1024) (hr9 : r < 2 ^ 31) (hlink : Cond.methodLink own index yX8_somePiece ∈ lw_tb) (hR : RO 3 R cells slots) (hsz : ls.size = nL) (hW : (rest.map fun v => v.category).sum ≤ 8) (hdg : decode cc pc = .ok (.invokevirtual index, 3)) (kk : W p l e R s m args below meth c H locs cells slots Q (F0 m (pc + 3) ls (.int (bI (anyN (spc pr w (op ci) (bl op ci) j r) w)) :: rest))) : W p l e R s m args below meth c H locs cells slots Q (F0 m pc ls (.int (nI r) :: .int (nI j) :: .int (nI ci) :: .ref (a 0) :: rest)) :=
  kV (As := [.int (nI ci), .int (nI j), .int (nI r)]) (b := a 0) S (mX8_somePiece l hG hci hj hr9) hlink tw_726 tw_22 tw_50 tw_727 (by show _ ∧ _ ∧ _ = some 3; decide +kernel) (by decide) hR blP (piU hI) (va_recv hI.2 hI.1 (ci := 8) (q0 := 0) rfl rfl) hsz rfl hW hdg kk

set_option maxHeartbeats 4000000 in
set_option maxRecDepth 100000 in
theorem mX8_ruleOf (l : Launch) {D : va_G} {K : Nat → ClassId} {a : Nat → Nat} {w n lap : Nat} {op mu ba la en : Nat → Nat} {pr : Nat → Option Nat} {sc : MSc} {ci : Nat} {j : Nat} (hG : GOK w n lap op mu ba la en pr) (hci : ci < 8) (hj : j < 1024) : Met l yX8_ruleOf (TWd yX8_ruleOf cX8_ruleOf 3 (some .int)) (rmk 4) (va_Pc [.ref (a 0), .int (nI ci), .int (nI j)] (fun U => PI D K (mW K a w n lap op mu ba la en pr sc) U U.heap)) (QcRead (nI (ruF pr w (op ci) (bl op ci) (mu ci) (ba ci) (en (ci % 2 * 2)) (en (ci % 2 * 2 + 1)) j))) 0 0 (fun _ => False) := by
  refine mt_of (by decide +kernel) (Nat.le_of_ble_eq_true rfl) ?_
  intro p e s m below meth c S hr hlk hI ls hl
  have S : CallFix p m c cX8_ruleOf 3 s ([.ref (a 0), .int (nI ci), .int (nI j)] : List Value).toArray lw_tb RX8 := S
  have hl : lv_has ls 3 [(0, .ref (a 0)), (1, .int (nI ci)), (2, .int (nI j))] := hl
  obtain ⟨gw1, gw2, gn, gl1, gl2, gop, gmu, gba, gla, gen, gpr, gop2, gmu2, gba2, gla2, gme, gbe, gle, gee⟩ := id hG
  have o1 := gmu ci
  have o2 := gba ci
  refine lv_aload_n S.1 S.2.1 dX8_ruleOf_0 rfl (lv_at hl 0 rfl) ?_
  refine lv_iload_n S.1 S.2.1 dX8_ruleOf_1 rfl (lv_at hl 1 rfl) ?_
  refine lv_iload_n S.1 S.2.1 dX8_ruleOf_2 rfl (lv_at hl 2 rfl) ?_
  refine kX8_isWithin S hI hG (by omega) (by omega) tw_720 (rok (by decide)) hl.1 (Nat.le_of_ble_eq_true rfl) dX8_ruleOf_3 ?_
  refine ly_ifne (tgt := 11) S bI_e2 bI_e1 dX8_ruleOf_6 (by decide) (fun h1 => ?_) (fun h1 => ?_)
  · skip
    refine lv_aload_n S.1 S.2.1 dX8_ruleOf_11 rfl (lv_at hl 0 rfl) ?_
    refine g8 S hI 0 rfl 3 (by decide) tw_610 rfl dX8_ruleOf_12 ?_
    refine lv_iload_n S.1 S.2.1 dX8_ruleOf_15 rfl (lv_at hl 1 rfl) ?_
    refine ly_iald (v := (nI (mu ci))) S hI 2 rfl (by omega) (by decide) rfl dX8_ruleOf_16 ?_
    refine lv_iload_n S.1 S.2.1 dX8_ruleOf_17 rfl (lv_at hl 2 rfl) ?_
    refine lv_iconst (v := (-1)) S.1 S.2.1 dX8_ruleOf_18 (by decide) ?_
    refine lv_ixor S.1 S.2.1 dX8_ruleOf_19 ?_
    refine lv_iand S.1 S.2.1 dX8_ruleOf_20 ?_
    refine ly_top (z := (nI (ndf (mu ci) j))) (nI_andn (by omega) (by omega)) ?_
    refine ly_ifne (tgt := 35) S (nI_z2 (ndf_lt (by omega))) (nI_z1 (ndf_lt (by omega))) dX8_ruleOf_21 (by decide) (fun h2 => ?_) (fun h2 => ?_)
    · skip
      refine lv_iconst (v := nI 2) S.1 S.2.1 dX8_ruleOf_35 (by decide) ?_
      exact rt_i S hr hlk (by simp [ruF, h1, h2]) dX8_ruleOf_36
    · skip
      refine lv_aload_n S.1 S.2.1 dX8_ruleOf_24 rfl (lv_at hl 0 rfl) ?_
      refine g8 S hI 0 rfl 4 (by decide) tw_611 rfl dX8_ruleOf_25 ?_
      refine lv_iload_n S.1 S.2.1 dX8_ruleOf_28 rfl (lv_at hl 1 rfl) ?_
      refine ly_iald (v := (nI (ba ci))) S hI 3 rfl (by omega) (by decide) rfl dX8_ruleOf_29 ?_
      refine lv_iload_n S.1 S.2.1 dX8_ruleOf_30 rfl (lv_at hl 2 rfl) ?_
      refine lv_iand S.1 S.2.1 dX8_ruleOf_31 ?_
      refine ly_top (z := nI ((ba ci) &&& j)) (nI_and (by omega) (by omega)) ?_
      refine ly_ifeq (tgt := 37) S (nI_z1 (Nat.lt_of_le_of_lt Nat.and_le_left (by omega))) (nI_z2 (Nat.lt_of_le_of_lt Nat.and_le_left (by omega))) dX8_ruleOf_32 (by decide) (fun h3 => ?_) (fun h3 => ?_)
      · skip
        refine lv_aload_n S.1 S.2.1 dX8_ruleOf_37 rfl (lv_at hl 0 rfl) ?_
        refine lv_iload_n S.1 S.2.1 dX8_ruleOf_38 rfl (lv_at hl 1 rfl) ?_
        refine lv_iload_n S.1 S.2.1 dX8_ruleOf_39 rfl (lv_at hl 2 rfl) ?_
        refine lv_iconst (v := nI 3) S.1 S.2.1 dX8_ruleOf_40 (by decide) ?_
        refine kX8_somePiece S hI hG (by omega) (by omega) (by omega) tw_724 (rok (by decide)) hl.1 (Nat.le_of_ble_eq_true rfl) dX8_ruleOf_41 ?_
        refine ly_ifeq (tgt := 49) S bI_e1 bI_e2 dX8_ruleOf_44 (by decide) (fun h4 => ?_) (fun h4 => ?_)
        · skip
          refine lv_aload_n S.1 S.2.1 dX8_ruleOf_49 rfl (lv_at hl 0 rfl) ?_
          refine lv_iload_n S.1 S.2.1 dX8_ruleOf_50 rfl (lv_at hl 1 rfl) ?_
          refine lv_iload_n S.1 S.2.1 dX8_ruleOf_51 rfl (lv_at hl 2 rfl) ?_
          refine kX8_areEnds S hI hG (by omega) (by omega) tw_744 (rok (by decide)) hl.1 (Nat.le_of_ble_eq_true rfl) dX8_ruleOf_52 ?_
          refine ly_ifne (tgt := 60) S bI_e2 bI_e1 dX8_ruleOf_55 (by decide) (fun h5 => ?_) (fun h5 => ?_)
          · skip
            refine lv_aload_n S.1 S.2.1 dX8_ruleOf_60 rfl (lv_at hl 0 rfl) ?_
            refine lv_iload_n S.1 S.2.1 dX8_ruleOf_61 rfl (lv_at hl 1 rfl) ?_
            refine lv_iload_n S.1 S.2.1 dX8_ruleOf_62 rfl (lv_at hl 2 rfl) ?_
            refine lv_iconst (v := nI 5) S.1 S.2.1 dX8_ruleOf_63 (by decide) ?_
            refine kX8_somePiece S hI hG (by omega) (by omega) (by omega) tw_724 (rok (by decide)) hl.1 (Nat.le_of_ble_eq_true rfl) dX8_ruleOf_64 ?_
            refine ly_ifeq (tgt := 74) S bI_e1 bI_e2 dX8_ruleOf_67 (by decide) (fun h6 => ?_) (fun h6 => ?_)
            · skip
              refine lv_aload_n S.1 S.2.1 dX8_ruleOf_74 rfl (lv_at hl 0 rfl) ?_
              refine lv_iload_n S.1 S.2.1 dX8_ruleOf_75 rfl (lv_at hl 1 rfl) ?_
              refine lv_iload_n S.1 S.2.1 dX8_ruleOf_76 rfl (lv_at hl 2 rfl) ?_
              refine lv_bipush (v := nI 6) S.1 S.2.1 dX8_ruleOf_77 (by decide) ?_
              refine kX8_somePiece S hI hG (by omega) (by omega) (by omega) tw_724 (rok (by decide)) hl.1 (Nat.le_of_ble_eq_true rfl) dX8_ruleOf_79 ?_
              refine ly_ifeq (tgt := 90) S bI_e1 bI_e2 dX8_ruleOf_82 (by decide) (fun h7 => ?_) (fun h7 => ?_)
              · skip
                refine lv_iconst (v := nI 0) S.1 S.2.1 dX8_ruleOf_90 (by decide) ?_
                exact rt_i S hr hlk (by simp [ruF, h1, h2, h3, h4, h5, h6, h7]) dX8_ruleOf_91
              · skip
                refine lv_bipush (v := nI 6) S.1 S.2.1 dX8_ruleOf_85 (by decide) ?_
                refine lv_goto (tgt := 91) S.1 S.2.1 dX8_ruleOf_87 (by decide) ?_
                exact rt_i S hr hlk (by simp [ruF, h1, h2, h3, h4, h5, h6, h7]) dX8_ruleOf_91
            · skip
              refine lv_iconst (v := nI 5) S.1 S.2.1 dX8_ruleOf_70 (by decide) ?_
              refine lv_goto (tgt := 91) S.1 S.2.1 dX8_ruleOf_71 (by decide) ?_
              exact rt_i S hr hlk (by simp [ruF, h1, h2, h3, h4, h5, h6]) dX8_ruleOf_91
          · skip
            refine lv_iconst (v := nI 4) S.1 S.2.1 dX8_ruleOf_58 (by decide) ?_
            exact rt_i S hr hlk (by simp [ruF, h1, h2, h3, h4, h5]) dX8_ruleOf_59
        · skip
          refine lv_iconst (v := nI 3) S.1 S.2.1 dX8_ruleOf_47 (by decide) ?_
          exact rt_i S hr hlk (by simp [ruF, h1, h2, h3, h4]) dX8_ruleOf_48
      · skip
        refine lv_iconst (v := nI 2) S.1 S.2.1 dX8_ruleOf_35 (by decide) ?_
        exact rt_i S hr hlk (by simp [ruF, h1, h2, h3]) dX8_ruleOf_36
  · skip
    refine lv_iconst (v := nI 1) S.1 S.2.1 dX8_ruleOf_9 (by decide) ?_
    exact rt_i S hr hlk (by simp [ruF, h1]) dX8_ruleOf_10
theorem kX8_ruleOf {p : Program} {l : Launch} {e : Env} {R : Room} {s : State} {m : MethodId} {args : Array Value} {below : List Frame} {meth : Method} {c : Code} {H : Heap} {locs : List Loc} {cells slots : Nat} {Q : State → Prop} {cc : ByteArray} {nL index pc : Nat} {own : String} {ls : Array Slot} {rest : List Value} {D : va_G} {K : Nat → ClassId} {a : Nat → Nat} {w n lap : Nat} {op mu ba la en : Nat → Nat} {pr : Nat → Option Nat} {sc : MSc} {ci : Nat} {j : Nat} (S : CallFix p m c cc nL s args lw_tb own) (hI : PI D K (mW K a w n lap op mu ba la en pr sc) s H) (hG : GOK w n lap op mu ba la en pr) (hci : ci < 8) (hj : j < 1024) (hlink : Cond.methodLink own index yX8_ruleOf ∈ lw_tb) (hR : RO 4 R cells slots) (hsz : ls.size = nL) (hW : (rest.map fun v => v.category).sum ≤ 8) (hdg : decode cc pc = .ok (.invokevirtual index, 3)) (kk : W p l e R s m args below meth c H locs cells slots Q (F0 m (pc + 3) ls (.int (nI (ruF pr w (op ci) (bl op ci) (mu ci) (ba ci) (en (ci % 2 * 2)) (en (ci % 2 * 2 + 1)) j)) :: rest))) : W p l e R s m args below meth c H locs cells slots Q (F0 m pc ls (.int (nI j) :: .int (nI ci) :: .ref (a 0) :: rest)) :=
  kV (As := [.int (nI ci), .int (nI j)]) (b := a 0) S (mX8_ruleOf l hG hci hj) hlink tw_718 tw_20 tw_50 tw_719 (by show _ ∧ _ ∧ _ = some 2; decide +kernel) (by decide) hR blP (piU hI) (va_recv hI.2 hI.1 (ci := 8) (q0 := 0) rfl rfl) hsz rfl hW hdg kk

set_option maxHeartbeats 4000000 in
set_option maxRecDepth 100000 in
theorem mX8_costOf (l : Launch) {D : va_G} {K : Nat → ClassId} {a : Nat → Nat} {w n lap : Nat} {op mu ba la en : Nat → Nat} {pr : Nat → Option Nat} {sc : MSc} {ci : Nat} {j : Nat} (hG : GOK w n lap op mu ba la en pr) (hci : ci < 8) (hj : j < 1024) : Met l yX8_costOf (TWd yX8_costOf cX8_costOf 6 (some .int)) (rmk 3) (va_Pc [.ref (a 0), .int (nI ci), .int (nI j)] (fun U => PI D K (mW K a w n lap op mu ba la en pr sc) U U.heap)) (QcRead (nI (coF pr w (op ci) j))) 0 0 (fun _ => False) := by
  refine mt_of (by decide +kernel) (Nat.le_of_ble_eq_true rfl) ?_
  intro p e s m below meth c S hr hlk hI ls hl
  have S : CallFix p m c cX8_costOf 6 s ([.ref (a 0), .int (nI ci), .int (nI j)] : List Value).toArray lw_tb RX8 := S
  have hl : lv_has ls 6 [(0, .ref (a 0)), (1, .int (nI ci)), (2, .int (nI j))] := hl
  obtain ⟨gw1, gw2, gn, gl1, gl2, gop, gmu, gba, gla, gen, gpr, gop2, gmu2, gba2, gla2, gme, gbe, gle, gee⟩ := id hG
  refine lv_iconst (v := nI 0) S.1 S.2.1 dX8_costOf_0 (by decide) ?_
  refine ly_top (z := (nI (sumN (coT pr w (op ci) j) 0))) rfl ?_
  refine lv_istore_n (lv' := [(3, .int (nI (sumN (coT pr w (op ci) j) 0))), (0, .ref (a 0)), (1, .int (nI ci)), (2, .int (nI j))]) S.1 S.2.1 dX8_costOf_1 rfl hl (by decide) rfl (fun ls hl => ?_)
  refine lv_iconst (v := nI 0) S.1 S.2.1 dX8_costOf_2 (by decide) ?_
  refine lv_istore (lv' := [(4, .int (nI 0)), (3, .int (nI (sumN (coT pr w (op ci) j) 0))), (0, .ref (a 0)), (1, .int (nI ci)), (2, .int (nI j))]) S.1 S.2.1 dX8_costOf_3 hl (by decide) rfl (fun ls hl => ?_)
  have L5 : ∀ (f5 : Nat) (k : Nat), (k ≤ w) → w - k < f5 → ∀ (ls : Array Slot), lv_has ls 6 [(0, .ref (a 0)), (1, .int (nI ci)), (2, .int (nI j)), (3, .int (nI (sumN (coT pr w (op ci) j) k))), (4, .int (nI k))] → W p l e (rmk 3) s m ([.ref (a 0), .int (nI ci), .int (nI j)] : List Value).toArray below meth c s.heap [] 0 0 (MQ below (QcRead (nI (coF pr w (op ci) j))) ([.ref (a 0), .int (nI ci), .int (nI j)] : List Value).toArray s 0 0 (fun _ => False)) (F0 m 5 ls []) := by
    intro f5
    induction f5 with
    | zero =>
      intro k i2 hm
      exact absurd hm (Nat.not_lt_zero _)
    | succ f5 ih5 =>
      intro k i2 hm5 ls hl
      refine lv_iload S.1 S.2.1 dX8_costOf_5 (lv_at hl 4 rfl) ?_
      refine lv_aload_n S.1 S.2.1 dX8_costOf_7 rfl (lv_at hl 0 rfl) ?_
      refine g8 S hI 0 rfl 0 (by decide) tw_607 rfl dX8_costOf_8 ?_
      refine ly_cmge (tgt := 65) S (nI_le1 (by omega) (by omega)) (nI_le2 (by omega) (by omega)) dX8_costOf_11 (by decide) (fun h1 => ?_) (fun h1 => ?_)
      · skip
        refine lv_iload_n S.1 S.2.1 dX8_costOf_65 rfl (lv_at hl 3 rfl) ?_
        exact rt_i S hr hlk (by rw [show k = w by omega]; rfl) dX8_costOf_66
      · skip
        refine lv_aload_n S.1 S.2.1 dX8_costOf_14 rfl (lv_at hl 0 rfl) ?_
        refine lv_iload_n S.1 S.2.1 dX8_costOf_15 rfl (lv_at hl 1 rfl) ?_
        refine lv_iload_n S.1 S.2.1 dX8_costOf_16 rfl (lv_at hl 2 rfl) ?_
        refine lv_iload S.1 S.2.1 dX8_costOf_17 (lv_at hl 4 rfl) ?_
        refine kX8_begins S hI hG (by omega) (by omega) (by omega) tw_728 (rok (by decide)) hl.1 (Nat.le_of_ble_eq_true rfl) dX8_costOf_19 ?_
        refine ly_ifeq (tgt := 59) S bI_e1 bI_e2 dX8_costOf_22 (by decide) (fun h2 => ?_) (fun h2 => ?_)
        · skip
          rw [show nI (sumN (coT pr w (op ci) j) k) = nI (sumN (coT pr w (op ci) j) (k + 1)) by simp [sumN, coT, h1, h2]] at hl
          refine lv_iinc (v := nI (k + 1)) (lv' := [(4, .int (nI (k + 1))), (0, .ref (a 0)), (1, .int (nI ci)), (2, .int (nI j)), (3, .int (nI (sumN (coT pr w (op ci) j) (k + 1))))]) S.1 S.2.1 dX8_costOf_59 hl (k := 4) rfl (nJ_in _ _) (by decide) rfl (fun ls hl => ?_)
          refine lv_goto (tgt := 5) S.1 S.2.1 dX8_costOf_62 (by decide) ?_
          exact ih5 (k + 1) (by omega) (by omega) _ (lv_sub hl [1, 2, 3, 4, 0] rfl)
        · skip
          refine lv_aload_n S.1 S.2.1 dX8_costOf_25 rfl (lv_at hl 0 rfl) ?_
          refine lv_iload_n S.1 S.2.1 dX8_costOf_26 rfl (lv_at hl 1 rfl) ?_
          refine lv_iload_n S.1 S.2.1 dX8_costOf_27 rfl (lv_at hl 2 rfl) ?_
          refine lv_iload S.1 S.2.1 dX8_costOf_28 (lv_at hl 4 rfl) ?_
          refine kX8_lengthFrom S hI hG (by omega) (by omega) (by omega) tw_732 (rok (by decide)) hl.1 (Nat.le_of_ble_eq_true rfl) dX8_costOf_30 ?_
          have b3 : 1 ≤ lenF w (op ci) j k := lenF_pos
          have b4 : k + lenF w (op ci) j k ≤ w := lenF_le (by omega)
          refine lv_istore (lv' := [(5, .int (nI (lenF w (op ci) j k))), (0, .ref (a 0)), (1, .int (nI ci)), (2, .int (nI j)), (3, .int (nI (sumN (coT pr w (op ci) j) k))), (4, .int (nI k))]) S.1 S.2.1 dX8_costOf_33 hl (by decide) rfl (fun ls hl => ?_)
          refine lv_iload_n S.1 S.2.1 dX8_costOf_35 rfl (lv_at hl 4 rfl) ?_
          refine lv_aload_n S.1 S.2.1 dX8_costOf_36 rfl (lv_at hl 1 rfl) ?_
          refine lv_iload S.1 S.2.1 dX8_costOf_37 (lv_at hl 0 rfl) ?_
          refine kX8_isPriced S hI hG (by omega) (by omega) tw_740 (rok (by decide)) hl.1 (Nat.le_of_ble_eq_true rfl) dX8_costOf_39 ?_
          refine ly_ifeq (tgt := 55) S bI_e1 bI_e2 dX8_costOf_42 (by decide) (fun h5 => ?_) (fun h5 => ?_)
          · skip
            refine lv_bipush (v := nI 100) S.1 S.2.1 dX8_costOf_55 (by decide) ?_
            refine lv_iadd S.1 S.2.1 dX8_costOf_57 ?_
            refine ly_top (z := nI ((sumN (coT pr w (op ci) j) k) + 100)) (nI_add _ _) ?_
            refine ly_top (z := nI (sumN (coT pr w (op ci) j) (k + 1))) (by simp [sumN, coT, prN, h1, h2, h5]) ?_
            refine lv_istore_n (lv' := [(3, .int (nI (sumN (coT pr w (op ci) j) (k + 1)))), (5, .int (nI (lenF w (op ci) j k))), (0, .ref (a 0)), (1, .int (nI ci)), (2, .int (nI j)), (4, .int (nI k))]) S.1 S.2.1 dX8_costOf_58 rfl hl (by decide) rfl (fun ls hl => ?_)
            refine lv_iinc (v := nI (k + 1)) (lv' := [(4, .int (nI (k + 1))), (3, .int (nI (sumN (coT pr w (op ci) j) (k + 1)))), (5, .int (nI (lenF w (op ci) j k))), (0, .ref (a 0)), (1, .int (nI ci)), (2, .int (nI j))]) S.1 S.2.1 dX8_costOf_59 hl (k := 5) rfl (nJ_in _ _) (by decide) rfl (fun ls hl => ?_)
            refine lv_goto (tgt := 5) S.1 S.2.1 dX8_costOf_62 (by decide) ?_
            exact ih5 (k + 1) (by omega) (by omega) _ (lv_sub hl [3, 4, 5, 1, 0] rfl)
          · skip
            refine lv_aload_n S.1 S.2.1 dX8_costOf_45 rfl (lv_at hl 1 rfl) ?_
            refine g8 S hI 0 rfl 6 (by decide) tw_613 rfl dX8_costOf_46 ?_
            refine lv_iload S.1 S.2.1 dX8_costOf_49 (lv_at hl 0 rfl) ?_
            have p6 := prc_le h5
            refine ly_iald (v := (pz 0 pr (lenF w (op ci) j k))) S hI 5 rfl (by omega) (by decide) rfl dX8_costOf_51 ?_
            refine ly_top (pz_v (by omega) h5) ?_
            refine lv_goto (tgt := 57) S.1 S.2.1 dX8_costOf_52 (by decide) ?_
            refine lv_iadd S.1 S.2.1 dX8_costOf_57 ?_
            refine ly_top (z := nI ((sumN (coT pr w (op ci) j) k) + (prN pr (lenF w (op ci) j k)))) (nI_add _ _) ?_
            refine ly_top (z := nI (sumN (coT pr w (op ci) j) (k + 1))) (by simp [sumN, coT, prN, h1, h2, h5]) ?_
            refine lv_istore_n (lv' := [(3, .int (nI (sumN (coT pr w (op ci) j) (k + 1)))), (5, .int (nI (lenF w (op ci) j k))), (0, .ref (a 0)), (1, .int (nI ci)), (2, .int (nI j)), (4, .int (nI k))]) S.1 S.2.1 dX8_costOf_58 rfl hl (by decide) rfl (fun ls hl => ?_)
            refine lv_iinc (v := nI (k + 1)) (lv' := [(4, .int (nI (k + 1))), (3, .int (nI (sumN (coT pr w (op ci) j) (k + 1)))), (5, .int (nI (lenF w (op ci) j k))), (0, .ref (a 0)), (1, .int (nI ci)), (2, .int (nI j))]) S.1 S.2.1 dX8_costOf_59 hl (k := 5) rfl (nJ_in _ _) (by decide) rfl (fun ls hl => ?_)
            refine lv_goto (tgt := 5) S.1 S.2.1 dX8_costOf_62 (by decide) ?_
            exact ih5 (k + 1) (by omega) (by omega) _ (lv_sub hl [3, 4, 5, 1, 0] rfl)
  exact L5 _ 0 (by omega) (Nat.lt_succ_self _) _ (lv_sub hl [2, 3, 4, 1, 0] rfl)
theorem kX8_costOf {p : Program} {l : Launch} {e : Env} {R : Room} {s : State} {m : MethodId} {args : Array Value} {below : List Frame} {meth : Method} {c : Code} {H : Heap} {locs : List Loc} {cells slots : Nat} {Q : State → Prop} {cc : ByteArray} {nL index pc : Nat} {own : String} {ls : Array Slot} {rest : List Value} {D : va_G} {K : Nat → ClassId} {a : Nat → Nat} {w n lap : Nat} {op mu ba la en : Nat → Nat} {pr : Nat → Option Nat} {sc : MSc} {ci : Nat} {j : Nat} (S : CallFix p m c cc nL s args lw_tb own) (hI : PI D K (mW K a w n lap op mu ba la en pr sc) s H) (hG : GOK w n lap op mu ba la en pr) (hci : ci < 8) (hj : j < 1024) (hlink : Cond.methodLink own index yX8_costOf ∈ lw_tb) (hR : RO 3 R cells slots) (hsz : ls.size = nL) (hW : (rest.map fun v => v.category).sum ≤ 8) (hdg : decode cc pc = .ok (.invokevirtual index, 3)) (kk : W p l e R s m args below meth c H locs cells slots Q (F0 m (pc + 3) ls (.int (nI (coF pr w (op ci) j)) :: rest))) : W p l e R s m args below meth c H locs cells slots Q (F0 m pc ls (.int (nI j) :: .int (nI ci) :: .ref (a 0) :: rest)) :=
  kV (As := [.int (nI ci), .int (nI j)]) (b := a 0) S (mX8_costOf l hG hci hj) hlink tw_770 tw_31 tw_50 tw_771 (by show _ ∧ _ ∧ _ = some 2; decide +kernel) (by decide) hR blP (piU hI) (va_recv hI.2 hI.1 (ci := 8) (q0 := 0) rfl rfl) hsz rfl hW hdg kk

set_option maxHeartbeats 4000000 in
set_option maxRecDepth 100000 in
theorem mX8_piecesIn (l : Launch) {D : va_G} {K : Nat → ClassId} {a : Nat → Nat} {w n lap : Nat} {op mu ba la en : Nat → Nat} {pr : Nat → Option Nat} {sc : MSc} {ci : Nat} {j : Nat} {L : Nat} (hG : GOK w n lap op mu ba la en pr) (hci : ci < 8) (hj : j < 1024) (hL : L < 2 ^ 31) : Met l yX8_piecesIn (TWd yX8_piecesIn cX8_piecesIn 6 (some .int)) (rmk 3) (va_Pc [.ref (a 0), .int (nI ci), .int (nI j), .int (nI L)] (fun U => PI D K (mW K a w n lap op mu ba la en pr sc) U U.heap)) (QcRead (nI (pcF w (op ci) j L))) 0 0 (fun _ => False) := by
  refine mt_of (by decide +kernel) (Nat.le_of_ble_eq_true rfl) ?_
  intro p e s m below meth c S hr hlk hI ls hl
  have S : CallFix p m c cX8_piecesIn 6 s ([.ref (a 0), .int (nI ci), .int (nI j), .int (nI L)] : List Value).toArray lw_tb RX8 := S
  have hl : lv_has ls 6 [(0, .ref (a 0)), (1, .int (nI ci)), (2, .int (nI j)), (3, .int (nI L))] := hl
  obtain ⟨gw1, gw2, gn, gl1, gl2, gop, gmu, gba, gla, gen, gpr, gop2, gmu2, gba2, gla2, gme, gbe, gle, gee⟩ := id hG
  refine lv_iconst (v := nI 0) S.1 S.2.1 dX8_piecesIn_0 (by decide) ?_
  refine ly_top (z := (nI (sumN (pcT w (op ci) j L) 0))) rfl ?_
  refine lv_istore (lv' := [(4, .int (nI (sumN (pcT w (op ci) j L) 0))), (0, .ref (a 0)), (1, .int (nI ci)), (2, .int (nI j)), (3, .int (nI L))]) S.1 S.2.1 dX8_piecesIn_1 hl (by decide) rfl (fun ls hl => ?_)
  refine lv_iconst (v := nI 0) S.1 S.2.1 dX8_piecesIn_3 (by decide) ?_
  refine lv_istore (lv' := [(5, .int (nI 0)), (4, .int (nI (sumN (pcT w (op ci) j L) 0))), (0, .ref (a 0)), (1, .int (nI ci)), (2, .int (nI j)), (3, .int (nI L))]) S.1 S.2.1 dX8_piecesIn_4 hl (by decide) rfl (fun ls hl => ?_)
  have L6 : ∀ (f6 : Nat) (k : Nat), (k ≤ w) → w - k < f6 → ∀ (ls : Array Slot), lv_has ls 6 [(0, .ref (a 0)), (1, .int (nI ci)), (2, .int (nI j)), (3, .int (nI L)), (4, .int (nI (sumN (pcT w (op ci) j L) k))), (5, .int (nI k))] → W p l e (rmk 3) s m ([.ref (a 0), .int (nI ci), .int (nI j), .int (nI L)] : List Value).toArray below meth c s.heap [] 0 0 (MQ below (QcRead (nI (pcF w (op ci) j L))) ([.ref (a 0), .int (nI ci), .int (nI j), .int (nI L)] : List Value).toArray s 0 0 (fun _ => False)) (F0 m 6 ls []) := by
    intro f6
    induction f6 with
    | zero =>
      intro k i2 hm
      exact absurd hm (Nat.not_lt_zero _)
    | succ f6 ih6 =>
      intro k i2 hm6 ls hl
      refine lv_iload S.1 S.2.1 dX8_piecesIn_6 (lv_at hl 5 rfl) ?_
      refine lv_aload_n S.1 S.2.1 dX8_piecesIn_8 rfl (lv_at hl 0 rfl) ?_
      refine g8 S hI 0 rfl 0 (by decide) tw_607 rfl dX8_piecesIn_9 ?_
      refine ly_cmge (tgt := 54) S (nI_le1 (by omega) (by omega)) (nI_le2 (by omega) (by omega)) dX8_piecesIn_12 (by decide) (fun h1 => ?_) (fun h1 => ?_)
      · skip
        refine lv_iload S.1 S.2.1 dX8_piecesIn_54 (lv_at hl 4 rfl) ?_
        exact rt_i S hr hlk (by rw [show k = w by omega]; rfl) dX8_piecesIn_56
      · skip
        refine lv_iload S.1 S.2.1 dX8_piecesIn_15 (lv_at hl 4 rfl) ?_
        refine lv_aload_n S.1 S.2.1 dX8_piecesIn_17 rfl (lv_at hl 0 rfl) ?_
        refine lv_iload_n S.1 S.2.1 dX8_piecesIn_18 rfl (lv_at hl 1 rfl) ?_
        refine lv_iload_n S.1 S.2.1 dX8_piecesIn_19 rfl (lv_at hl 2 rfl) ?_
        refine lv_iload S.1 S.2.1 dX8_piecesIn_20 (lv_at hl 5 rfl) ?_
        refine kX8_begins S hI hG (by omega) (by omega) (by omega) tw_728 (rok (by decide)) hl.1 (Nat.le_of_ble_eq_true rfl) dX8_piecesIn_22 ?_
        refine ly_ifeq (tgt := 44) S bI_e1 bI_e2 dX8_piecesIn_25 (by decide) (fun h2 => ?_) (fun h2 => ?_)
        · skip
          refine lv_iconst (v := nI 0) S.1 S.2.1 dX8_piecesIn_44 (by decide) ?_
          refine lv_iadd S.1 S.2.1 dX8_piecesIn_45 ?_
          refine ly_top (z := nI ((sumN (pcT w (op ci) j L) k) + 0)) (nI_add _ _) ?_
          refine ly_top (z := nI (sumN (pcT w (op ci) j L) (k + 1))) (by simp [sumN, pcT, h1, h2]) ?_
          refine lv_istore (lv' := [(4, .int (nI (sumN (pcT w (op ci) j L) (k + 1)))), (0, .ref (a 0)), (1, .int (nI ci)), (2, .int (nI j)), (3, .int (nI L)), (5, .int (nI k))]) S.1 S.2.1 dX8_piecesIn_46 hl (by decide) rfl (fun ls hl => ?_)
          refine lv_iinc (v := nI (k + 1)) (lv' := [(5, .int (nI (k + 1))), (4, .int (nI (sumN (pcT w (op ci) j L) (k + 1)))), (0, .ref (a 0)), (1, .int (nI ci)), (2, .int (nI j)), (3, .int (nI L))]) S.1 S.2.1 dX8_piecesIn_48 hl (k := 5) rfl (nJ_in _ _) (by decide) rfl (fun ls hl => ?_)
          refine lv_goto (tgt := 6) S.1 S.2.1 dX8_piecesIn_51 (by decide) ?_
          exact ih6 (k + 1) (by omega) (by omega) _ (lv_sub hl [2, 3, 4, 5, 1, 0] rfl)
        · skip
          refine lv_aload_n S.1 S.2.1 dX8_piecesIn_28 rfl (lv_at hl 0 rfl) ?_
          refine lv_iload_n S.1 S.2.1 dX8_piecesIn_29 rfl (lv_at hl 1 rfl) ?_
          refine lv_iload_n S.1 S.2.1 dX8_piecesIn_30 rfl (lv_at hl 2 rfl) ?_
          refine lv_iload S.1 S.2.1 dX8_piecesIn_31 (lv_at hl 5 rfl) ?_
          refine kX8_lengthFrom S hI hG (by omega) (by omega) (by omega) tw_732 (rok (by decide)) hl.1 (Nat.le_of_ble_eq_true rfl) dX8_piecesIn_33 ?_
          have b3 : 1 ≤ lenF w (op ci) j k := lenF_pos
          have b4 : k + lenF w (op ci) j k ≤ w := lenF_le (by omega)
          refine lv_iload_n S.1 S.2.1 dX8_piecesIn_36 rfl (lv_at hl 3 rfl) ?_
          refine ly_cmne (tgt := 44) S (nI_e2 (by omega) (by omega)) (nI_e1 (by omega) (by omega)) dX8_piecesIn_37 (by decide) (fun h5 => ?_) (fun h5 => ?_)
          · skip
            refine lv_iconst (v := nI 0) S.1 S.2.1 dX8_piecesIn_44 (by decide) ?_
            refine lv_iadd S.1 S.2.1 dX8_piecesIn_45 ?_
            refine ly_top (z := nI ((sumN (pcT w (op ci) j L) k) + 0)) (nI_add _ _) ?_
            refine ly_top (z := nI (sumN (pcT w (op ci) j L) (k + 1))) (by simp [sumN, pcT, h1, h2, h5]) ?_
            refine lv_istore (lv' := [(4, .int (nI (sumN (pcT w (op ci) j L) (k + 1)))), (0, .ref (a 0)), (1, .int (nI ci)), (2, .int (nI j)), (3, .int (nI L)), (5, .int (nI k))]) S.1 S.2.1 dX8_piecesIn_46 hl (by decide) rfl (fun ls hl => ?_)
            refine lv_iinc (v := nI (k + 1)) (lv' := [(5, .int (nI (k + 1))), (4, .int (nI (sumN (pcT w (op ci) j L) (k + 1)))), (0, .ref (a 0)), (1, .int (nI ci)), (2, .int (nI j)), (3, .int (nI L))]) S.1 S.2.1 dX8_piecesIn_48 hl (k := 5) rfl (nJ_in _ _) (by decide) rfl (fun ls hl => ?_)
            refine lv_goto (tgt := 6) S.1 S.2.1 dX8_piecesIn_51 (by decide) ?_
            exact ih6 (k + 1) (by omega) (by omega) _ (lv_sub hl [2, 3, 4, 5, 1, 0] rfl)
          · skip
            refine lv_iconst (v := nI 1) S.1 S.2.1 dX8_piecesIn_40 (by decide) ?_
            refine lv_goto (tgt := 45) S.1 S.2.1 dX8_piecesIn_41 (by decide) ?_
            refine lv_iadd S.1 S.2.1 dX8_piecesIn_45 ?_
            refine ly_top (z := nI ((sumN (pcT w (op ci) j L) k) + 1)) (nI_add _ _) ?_
            refine ly_top (z := nI (sumN (pcT w (op ci) j L) (k + 1))) (by simp [sumN, pcT, h1, h2, h5]) ?_
            refine lv_istore (lv' := [(4, .int (nI (sumN (pcT w (op ci) j L) (k + 1)))), (0, .ref (a 0)), (1, .int (nI ci)), (2, .int (nI j)), (3, .int (nI L)), (5, .int (nI k))]) S.1 S.2.1 dX8_piecesIn_46 hl (by decide) rfl (fun ls hl => ?_)
            refine lv_iinc (v := nI (k + 1)) (lv' := [(5, .int (nI (k + 1))), (4, .int (nI (sumN (pcT w (op ci) j L) (k + 1)))), (0, .ref (a 0)), (1, .int (nI ci)), (2, .int (nI j)), (3, .int (nI L))]) S.1 S.2.1 dX8_piecesIn_48 hl (k := 5) rfl (nJ_in _ _) (by decide) rfl (fun ls hl => ?_)
            refine lv_goto (tgt := 6) S.1 S.2.1 dX8_piecesIn_51 (by decide) ?_
            exact ih6 (k + 1) (by omega) (by omega) _ (lv_sub hl [2, 3, 4, 5, 1, 0] rfl)
  exact L6 _ 0 (by omega) (Nat.lt_succ_self _) _ (lv_sub hl [2, 3, 4, 5, 1, 0] rfl)
theorem kX8_piecesIn {p : Program} {l : Launch} {e : Env} {R : Room} {s : State} {m : MethodId} {args : Array Value} {below : List Frame} {meth : Method} {c : Code} {H : Heap} {locs : List Loc} {cells slots : Nat} {Q : State → Prop} {cc : ByteArray} {nL index pc : Nat} {own : String} {ls : Array Slot} {rest : List Value} {D : va_G} {K : Nat → ClassId} {a : Nat → Nat} {w n lap : Nat} {op mu ba la en : Nat → Nat} {pr : Nat → Option Nat} {sc : MSc} {ci : Nat} {j : Nat} {L : Nat} (S : CallFix p m c cc nL s args lw_tb own) (hI : PI D K (mW K a w n lap op mu ba la en pr sc) s H) (hG : GOK w n lap op mu ba la en pr) (hci : ci < 8) (hj : j < 1024) (hL : L < 2 ^ 31) (hlink : Cond.methodLink own index yX8_piecesIn ∈ lw_tb) (hR : RO 3 R cells slots) (hsz : ls.size = nL) (hW : (rest.map fun v => v.category).sum ≤ 8) (hdg : decode cc pc = .ok (.invokevirtual index, 3)) (kk : W p l e R s m args below meth c H locs cells slots Q (F0 m (pc + 3) ls (.int (nI (pcF w (op ci) j L)) :: rest))) : W p l e R s m args below meth c H locs cells slots Q (F0 m pc ls (.int (nI L) :: .int (nI j) :: .int (nI ci) :: .ref (a 0) :: rest)) :=
  kV (As := [.int (nI ci), .int (nI j), .int (nI L)]) (b := a 0) S (mX8_piecesIn l hG hci hj hL) hlink tw_794 tw_34 tw_50 tw_795 (by show _ ∧ _ ∧ _ = some 3; decide +kernel) (by decide) hR blP (piU hI) (va_recv hI.2 hI.1 (ci := 8) (q0 := 0) rfl rfl) hsz rfl hW hdg kk

set_option maxHeartbeats 4000000 in
set_option maxRecDepth 100000 in
theorem mX8_spansOf (l : Launch) {D : va_G} {K : Nat → ClassId} {a : Nat → Nat} {w n lap : Nat} {op mu ba la en : Nat → Nat} {pr : Nat → Option Nat} {sc : MSc} {ci : Nat} (hG : GOK w n lap op mu ba la en pr) (hci : ci < 8) : Met l yX8_spansOf (TWd yX8_spansOf cX8_spansOf 4 (some .int)) (rmk 1) (va_Pc [.ref (a 0), .int (nI ci)] (fun U => PI D K (mW K a w n lap op mu ba la en pr sc) U U.heap)) (QcRead (nI (sumN (spT (op ci)) w))) 0 0 (fun _ => False) := by
  refine mt_of (by decide +kernel) (Nat.le_of_ble_eq_true rfl) ?_
  intro p e s m below meth c S hr hlk hI ls hl
  have S : CallFix p m c cX8_spansOf 4 s ([.ref (a 0), .int (nI ci)] : List Value).toArray lw_tb RX8 := S
  have hl : lv_has ls 4 [(0, .ref (a 0)), (1, .int (nI ci))] := hl
  obtain ⟨gw1, gw2, gn, gl1, gl2, gop, gmu, gba, gla, gen, gpr, gop2, gmu2, gba2, gla2, gme, gbe, gle, gee⟩ := id hG
  have o1 := gop ci
  refine lv_iconst (v := nI 0) S.1 S.2.1 dX8_spansOf_0 (by decide) ?_
  refine ly_top (z := (nI (sumN (spT (op ci)) 0))) rfl ?_
  refine lv_istore_n (lv' := [(2, .int (nI (sumN (spT (op ci)) 0))), (0, .ref (a 0)), (1, .int (nI ci))]) S.1 S.2.1 dX8_spansOf_1 rfl hl (by decide) rfl (fun ls hl => ?_)
  refine lv_iconst (v := nI 0) S.1 S.2.1 dX8_spansOf_2 (by decide) ?_
  refine lv_istore_n (lv' := [(3, .int (nI 0)), (2, .int (nI (sumN (spT (op ci)) 0))), (0, .ref (a 0)), (1, .int (nI ci))]) S.1 S.2.1 dX8_spansOf_3 rfl hl (by decide) rfl (fun ls hl => ?_)
  have L4 : ∀ (f4 : Nat) (k : Nat), (k ≤ w) → w - k < f4 → ∀ (ls : Array Slot), lv_has ls 4 [(0, .ref (a 0)), (1, .int (nI ci)), (2, .int (nI (sumN (spT (op ci)) k))), (3, .int (nI k))] → W p l e (rmk 1) s m ([.ref (a 0), .int (nI ci)] : List Value).toArray below meth c s.heap [] 0 0 (MQ below (QcRead (nI (sumN (spT (op ci)) w))) ([.ref (a 0), .int (nI ci)] : List Value).toArray s 0 0 (fun _ => False)) (F0 m 4 ls []) := by
    intro f4
    induction f4 with
    | zero =>
      intro k i2 hm
      exact absurd hm (Nat.not_lt_zero _)
    | succ f4 ih4 =>
      intro k i2 hm4 ls hl
      refine lv_iload_n S.1 S.2.1 dX8_spansOf_4 rfl (lv_at hl 3 rfl) ?_
      refine lv_aload_n S.1 S.2.1 dX8_spansOf_5 rfl (lv_at hl 0 rfl) ?_
      refine g8 S hI 0 rfl 0 (by decide) tw_607 rfl dX8_spansOf_6 ?_
      refine ly_cmge (tgt := 58) S (nI_le1 (by omega) (by omega)) (nI_le2 (by omega) (by omega)) dX8_spansOf_9 (by decide) (fun h1 => ?_) (fun h1 => ?_)
      · skip
        refine lv_iload_n S.1 S.2.1 dX8_spansOf_58 rfl (lv_at hl 2 rfl) ?_
        exact rt_i S hr hlk (by rw [show k = w by omega]) dX8_spansOf_59
      · skip
        refine lv_iload_n S.1 S.2.1 dX8_spansOf_12 rfl (lv_at hl 2 rfl) ?_
        refine lv_aload_n S.1 S.2.1 dX8_spansOf_13 rfl (lv_at hl 0 rfl) ?_
        refine g8 S hI 0 rfl 2 (by decide) tw_609 rfl dX8_spansOf_14 ?_
        refine lv_iload_n S.1 S.2.1 dX8_spansOf_17 rfl (lv_at hl 1 rfl) ?_
        refine ly_iald (v := (nI (op ci))) S hI 1 rfl (by omega) (by decide) rfl dX8_spansOf_18 ?_
        refine lv_iload_n S.1 S.2.1 dX8_spansOf_19 rfl (lv_at hl 3 rfl) ?_
        refine kX8_has S (by omega) (by omega) tw_705 (rok (by decide)) hl.1 (Nat.le_of_ble_eq_true rfl) dX8_spansOf_20 ?_
        refine ly_ifne (tgt := 49) S bI_e2 bI_e1 dX8_spansOf_23 (by decide) (fun h2 => ?_) (fun h2 => ?_)
        · skip
          refine lv_iconst (v := nI 0) S.1 S.2.1 dX8_spansOf_49 (by decide) ?_
          refine lv_iadd S.1 S.2.1 dX8_spansOf_50 ?_
          refine ly_top (z := nI ((sumN (spT (op ci)) k) + 0)) (nI_add _ _) ?_
          refine ly_top (z := nI (sumN (spT (op ci)) (k + 1))) (by simp [sumN, spT, h1, h2]) ?_
          refine lv_istore_n (lv' := [(2, .int (nI (sumN (spT (op ci)) (k + 1)))), (0, .ref (a 0)), (1, .int (nI ci)), (3, .int (nI k))]) S.1 S.2.1 dX8_spansOf_51 rfl hl (by decide) rfl (fun ls hl => ?_)
          refine lv_iinc (v := nI (k + 1)) (lv' := [(3, .int (nI (k + 1))), (2, .int (nI (sumN (spT (op ci)) (k + 1)))), (0, .ref (a 0)), (1, .int (nI ci))]) S.1 S.2.1 dX8_spansOf_52 hl (k := 3) rfl (nJ_in _ _) (by decide) rfl (fun ls hl => ?_)
          refine lv_goto (tgt := 4) S.1 S.2.1 dX8_spansOf_55 (by decide) ?_
          exact ih4 (k + 1) (by omega) (by omega) _ (lv_sub hl [2, 3, 1, 0] rfl)
        · skip
          refine lv_iload_n S.1 S.2.1 dX8_spansOf_26 rfl (lv_at hl 3 rfl) ?_
          refine ly_ifeq (tgt := 45) S (nI_z1 (by omega)) (nI_z2 (by omega)) dX8_spansOf_27 (by decide) (fun h3 => ?_) (fun h3 => ?_)
          · skip
            refine lv_iconst (v := nI 1) S.1 S.2.1 dX8_spansOf_45 (by decide) ?_
            refine lv_goto (tgt := 50) S.1 S.2.1 dX8_spansOf_46 (by decide) ?_
            refine lv_iadd S.1 S.2.1 dX8_spansOf_50 ?_
            refine ly_top (z := nI ((sumN (spT (op ci)) k) + 1)) (nI_add _ _) ?_
            refine ly_top (z := nI (sumN (spT (op ci)) (k + 1))) (by rw [sumN, spT_0 h2 h3]) ?_
            refine lv_istore_n (lv' := [(2, .int (nI (sumN (spT (op ci)) (k + 1)))), (0, .ref (a 0)), (1, .int (nI ci)), (3, .int (nI k))]) S.1 S.2.1 dX8_spansOf_51 rfl hl (by decide) rfl (fun ls hl => ?_)
            refine lv_iinc (v := nI (k + 1)) (lv' := [(3, .int (nI (k + 1))), (2, .int (nI (sumN (spT (op ci)) (k + 1)))), (0, .ref (a 0)), (1, .int (nI ci))]) S.1 S.2.1 dX8_spansOf_52 hl (k := 3) rfl (nJ_in _ _) (by decide) rfl (fun ls hl => ?_)
            refine lv_goto (tgt := 4) S.1 S.2.1 dX8_spansOf_55 (by decide) ?_
            exact ih4 (k + 1) (by omega) (by omega) _ (lv_sub hl [2, 3, 1, 0] rfl)
          · skip
            refine lv_aload_n S.1 S.2.1 dX8_spansOf_30 rfl (lv_at hl 0 rfl) ?_
            refine g8 S hI 0 rfl 2 (by decide) tw_609 rfl dX8_spansOf_31 ?_
            refine lv_iload_n S.1 S.2.1 dX8_spansOf_34 rfl (lv_at hl 1 rfl) ?_
            refine ly_iald (v := (nI (op ci))) S hI 1 rfl (by omega) (by decide) rfl dX8_spansOf_35 ?_
            refine lv_iload_n S.1 S.2.1 dX8_spansOf_36 rfl (lv_at hl 3 rfl) ?_
            refine lv_iconst (v := nI 1) S.1 S.2.1 dX8_spansOf_37 (by decide) ?_
            refine lv_isub S.1 S.2.1 dX8_spansOf_38 ?_
            refine ly_top (z := nI (k - 1)) (pk_sub (by omega)) ?_
            refine kX8_has S (by omega) (by omega) tw_705 (rok (by decide)) hl.1 (Nat.le_of_ble_eq_true rfl) dX8_spansOf_39 ?_
            refine ly_ifeq (tgt := 49) S bI_e1 bI_e2 dX8_spansOf_42 (by decide) (fun h4 => ?_) (fun h4 => ?_)
            · skip
              refine lv_iconst (v := nI 0) S.1 S.2.1 dX8_spansOf_49 (by decide) ?_
              refine lv_iadd S.1 S.2.1 dX8_spansOf_50 ?_
              refine ly_top (z := nI ((sumN (spT (op ci)) k) + 0)) (nI_add _ _) ?_
              refine ly_top (z := nI (sumN (spT (op ci)) (k + 1))) (by simp [sumN, spT, h1, h2, h3, h4]) ?_
              refine lv_istore_n (lv' := [(2, .int (nI (sumN (spT (op ci)) (k + 1)))), (0, .ref (a 0)), (1, .int (nI ci)), (3, .int (nI k))]) S.1 S.2.1 dX8_spansOf_51 rfl hl (by decide) rfl (fun ls hl => ?_)
              refine lv_iinc (v := nI (k + 1)) (lv' := [(3, .int (nI (k + 1))), (2, .int (nI (sumN (spT (op ci)) (k + 1)))), (0, .ref (a 0)), (1, .int (nI ci))]) S.1 S.2.1 dX8_spansOf_52 hl (k := 3) rfl (nJ_in _ _) (by decide) rfl (fun ls hl => ?_)
              refine lv_goto (tgt := 4) S.1 S.2.1 dX8_spansOf_55 (by decide) ?_
              exact ih4 (k + 1) (by omega) (by omega) _ (lv_sub hl [2, 3, 1, 0] rfl)
            · skip
              refine lv_iconst (v := nI 1) S.1 S.2.1 dX8_spansOf_45 (by decide) ?_
              refine lv_goto (tgt := 50) S.1 S.2.1 dX8_spansOf_46 (by decide) ?_
              refine lv_iadd S.1 S.2.1 dX8_spansOf_50 ?_
              refine ly_top (z := nI ((sumN (spT (op ci)) k) + 1)) (nI_add _ _) ?_
              refine ly_top (z := nI (sumN (spT (op ci)) (k + 1))) (by simp [sumN, spT, h1, h2, h3, h4]) ?_
              refine lv_istore_n (lv' := [(2, .int (nI (sumN (spT (op ci)) (k + 1)))), (0, .ref (a 0)), (1, .int (nI ci)), (3, .int (nI k))]) S.1 S.2.1 dX8_spansOf_51 rfl hl (by decide) rfl (fun ls hl => ?_)
              refine lv_iinc (v := nI (k + 1)) (lv' := [(3, .int (nI (k + 1))), (2, .int (nI (sumN (spT (op ci)) (k + 1)))), (0, .ref (a 0)), (1, .int (nI ci))]) S.1 S.2.1 dX8_spansOf_52 hl (k := 3) rfl (nJ_in _ _) (by decide) rfl (fun ls hl => ?_)
              refine lv_goto (tgt := 4) S.1 S.2.1 dX8_spansOf_55 (by decide) ?_
              exact ih4 (k + 1) (by omega) (by omega) _ (lv_sub hl [2, 3, 1, 0] rfl)
  exact L4 _ 0 (by omega) (Nat.lt_succ_self _) _ (lv_sub hl [2, 3, 1, 0] rfl)
theorem kX8_spansOf {p : Program} {l : Launch} {e : Env} {R : Room} {s : State} {m : MethodId} {args : Array Value} {below : List Frame} {meth : Method} {c : Code} {H : Heap} {locs : List Loc} {cells slots : Nat} {Q : State → Prop} {cc : ByteArray} {nL index pc : Nat} {own : String} {ls : Array Slot} {rest : List Value} {D : va_G} {K : Nat → ClassId} {a : Nat → Nat} {w n lap : Nat} {op mu ba la en : Nat → Nat} {pr : Nat → Option Nat} {sc : MSc} {ci : Nat} (S : CallFix p m c cc nL s args lw_tb own) (hI : PI D K (mW K a w n lap op mu ba la en pr sc) s H) (hG : GOK w n lap op mu ba la en pr) (hci : ci < 8) (hlink : Cond.methodLink own index yX8_spansOf ∈ lw_tb) (hR : RO 1 R cells slots) (hsz : ls.size = nL) (hW : (rest.map fun v => v.category).sum ≤ 8) (hdg : decode cc pc = .ok (.invokevirtual index, 3)) (kk : W p l e R s m args below meth c H locs cells slots Q (F0 m (pc + 3) ls (.int (nI (sumN (spT (op ci)) w)) :: rest))) : W p l e R s m args below meth c H locs cells slots Q (F0 m pc ls (.int (nI ci) :: .ref (a 0) :: rest)) :=
  kV (As := [.int (nI ci)]) (b := a 0) S (mX8_spansOf l hG hci) hlink tw_703 tw_18 tw_50 tw_704 (by show _ ∧ _ ∧ _ = some 1; decide +kernel) (by decide) hR blP (piU hI) (va_recv hI.2 hI.1 (ci := 8) (q0 := 0) rfl rfl) hsz rfl hW hdg kk
end
section
/-! my rows for methods that write: ends, stores, calls -/
def Dis (a : Nat → Nat) (N : Nat) : Prop := ∀ i j, i < N → j < N → a i = a j → i = j
def adA (a : Nat → Nat) (N : Nat) : Nat → Prop := fun q => ∃ i, i < N ∧ q = a i
theorem disD {a : Nat → Nat} {N : Nat} (h : Dis a N) {ws : va_W} (hm : ws.map Prod.fst = (List.range N).map a) : va_D (adA a N) ws := by
  have key : ∀ (i : Nat) (p : Nat × va_E), ws[i]? = some p → i < N ∧ p.1 = a i := by
    intro i p hi
    have hl : i < N := by
      have h1 := (List.getElem?_eq_some_iff.mp hi).1
      have h2 : ws.length = N := by rw [← List.length_map (f := Prod.fst), hm, List.length_map, List.length_range]
      omega
    refine ⟨hl, ?_⟩
    have h2 : (ws.map Prod.fst)[i]? = some p.1 := by rw [List.getElem?_map, hi]; rfl
    rw [hm, List.getElem?_map, List.getElem?_range hl] at h2
    exact (Option.some.inj h2).symm
  refine ⟨fun i j p q hi hj hpq => ?_, fun k q hk => ?_⟩
  · obtain ⟨h1, e1⟩ := key i p hi
    obtain ⟨h2, e2⟩ := key j q hj
    exact h i j h1 h2 (by rw [← e1, ← e2]; exact hpq)
  · obtain ⟨h1, e1⟩ := key k q hk
    exact ⟨k, h1, e1⟩
theorem mD {a : Nat → Nat} (h : Dis a 13) {K : Nat → ClassId} {w n lap : Nat} {op mu ba la en : Nat → Nat} {pr : Nat → Option Nat} {sc : MSc} : va_D (adA a 13) (mW K a w n lap op mu ba la en pr sc) := disD h rfl
def QX {σ : Type} (D : va_G) (K : Nat → ClassId) (r : σ → Option Value) (ws : σ → va_W) (post : σ → Prop) (A : Nat → Prop) : Array Value → State → Outcome → State → Prop := fun _ st o t => (∃ u : σ, o = .returned (r u) ∧ post u ∧ PI D K (ws u) t t.heap) ∧ va_F A st t
theorem nI_up {f : Nat → Nat} {k v : Nat} : upd (fun i => nI (f i)) k (nI v) = fun i => nI (va_up f k v i) := by
  funext i
  unfold upd va_up
  split <;> rfl
theorem bI_up {f : Nat → Bool} {k : Nat} {v : Bool} : upd (fun i => bI (f i)) k (bI v) = fun i => bI (va_up f k v i) := by
  funext i
  unfold upd va_up
  split <;> rfl
theorem pz_up {z : Int32} {pr : Nat → Option Nat} {k : Nat} {v : Option Nat} (h : k ≠ 0) : upd (pz z pr) k (pI v) = pz z (va_up pr k v) := by
  funext i
  unfold upd pz va_up
  by_cases e : i = k
  · subst e; simp [h]
  · simp [e]
theorem updL_up {f : Nat → Int64} {k : Nat} {v : Int64} : vp_updL f k v = va_up f k v := rfl
theorem bI_nz (b : Bool) : vp_nar .boolean (bI b) = bI b := by cases b <;> rfl
theorem adA_in {a : Nat → Nat} {N i : Nat} (h : i < N) : adA a N (a i) := ⟨i, h, rfl⟩
section KW
variable {p : Program} {l : Launch} {e : Env} {R : Room} {s : State} {m : MethodId} {args : Array Value} {below : List Frame} {meth : Method} {c : Code} {H : Heap} {locs : List Loc} {cells slots : Nat} {Q : State → Prop}
variable {cc bytes : ByteArray} {nL maxL index pc d : Nat} {own : String} {y : MethodName} {ret : Option FieldType} {ls : Array Slot} {As rest st : List Value} {B : State → Prop} {b : Addr}
variable {D : va_G} {K : Nat → ClassId} {A A0 : Nat → Prop} {H0 : Heap} {ws : va_W}
theorem rw_i {σ : Type} {r : σ → Option Value} {wf : σ → va_W} {post : σ → Prop} {v : Int32} (S : CallFix p m c cc nL s args lw_tb own) (hr : meth.sig.returnType = some .int) (hlk : meth.locks = false) (u : σ) (hv : some (.int v) = r u) (hp : post u) (hI : PI D K (wf u) s H) (hS : va_S A s.heap H locs) (hdg : decode cc pc = .ok (.ireturn, 1)) :
    W p l e R s m args below meth c H locs cells slots (MQ below (QX D K r wf post A) args s cells slots A) (F0 m pc ls [.int v]) := W.iret S.1 S.2.1 hr (fun t ht hW => ⟨⟨u, by rw [hv], hp, by rw [ht]; exact hI.1, va_K.moved hW.alike hI.2⟩, hS.F ht⟩) hS.2.2 hdg hlk
theorem rw_l {σ : Type} {r : σ → Option Value} {wf : σ → va_W} {post : σ → Prop} {v : Int64} (S : CallFix p m c cc nL s args lw_tb own) (hr : meth.sig.returnType = some .long) (hlk : meth.locks = false) (u : σ) (hv : some (.long v) = r u) (hp : post u) (hI : PI D K (wf u) s H) (hS : va_S A s.heap H locs) (hdg : decode cc pc = .ok (.lreturn, 1)) :
    W p l e R s m args below meth c H locs cells slots (MQ below (QX D K r wf post A) args s cells slots A) (F0 m pc ls [.long v]) := W.lret S.1 S.2.1 hr (fun t ht hW => ⟨⟨u, by rw [hv], hp, by rw [ht]; exact hI.1, va_K.moved hW.alike hI.2⟩, hS.F ht⟩) hS.2.2 hdg hlk
theorem rw_v {σ : Type} {r : σ → Option Value} {wf : σ → va_W} {post : σ → Prop} (S : CallFix p m c cc nL s args lw_tb own) (hr : meth.sig.returnType = none) (hlk : meth.locks = false) (u : σ) (hv : none = r u) (hp : post u) (hI : PI D K (wf u) s H) (hS : va_S A s.heap H locs) (hdg : decode cc pc = .ok (.return_, 1)) :
    W p l e R s m args below meth c H locs cells slots (MQ below (QX D K r wf post A) args s cells slots A) (F0 m pc ls []) := W.vret S.1 S.2.1 hr (fun t ht hW => ⟨⟨u, by rw [hv], hp, by rw [ht]; exact hI.1, va_K.moved hW.alike hI.2⟩, hS.F ht⟩) hS.2.2 hdg hlk
theorem rw_z {σ : Type} {r : σ → Option Value} {wf : σ → va_W} {post : σ → Prop} {v : Int32} {z : Bool} (S : CallFix p m c cc nL s args lw_tb own) (hr : meth.sig.returnType = some .boolean) (hlk : meth.locks = false) (u : σ) (hz : v = bI z) (hv : some (.int (bI z)) = r u) (hp : post u) (hI : PI D K (wf u) s H) (hS : va_S A s.heap H locs) (hdg : decode cc pc = .ok (.ireturn, 1)) :
    W p l e R s m args below meth c H locs cells slots (MQ below (QX D K r wf post A) args s cells slots A) (F0 m pc ls [.int v]) := by
  subst hz
  exact W.zret S.1 S.2.1 hr (bI_nar z) (fun t ht hW => ⟨⟨u, by rw [hv], hp, by rw [ht]; exact hI.1, va_K.moved hW.alike hI.2⟩, hS.F ht⟩) hS.2.2 hdg hlk
theorem ly_iast {ws' : va_W} {ad n k : Nat} {f : Nat → Int32} {x : Int32} (S : CallFix p m c cc nL s args lw_tb own) (hI : PI D K ws s H) (hD : va_D A ws) (hS : va_S A H0 H locs) (q0 : Nat) (ha : ws[q0]? = some (ad, .inl (K 0, n, .inl f))) (hk : k < n) (hn : n < 2 ^ 31) (hws : ws.set q0 (ad, .inl (K 0, n, .inl (upd f k x))) = ws') (hdg : decode cc pc = .ok (.iastore, 1))
    (kk : ∀ (H1 : Heap) (locs1 : List Loc), PI D K ws' s H1 → va_S A H0 H1 locs1 → W p l e R s m args below meth c H1 locs1 cells slots Q (F0 m (pc + 1) ls rest)) : W p l e R s m args below meth c H locs cells slots Q (F0 m pc ls (.int x :: .int (nI k) :: .ref ad :: rest)) := by
  refine va_iast S.1 S.2.1 hI.2 hI.1 hD hS q0 0 ha rfl (vp_in_nI hk hn) hdg (fun H1 locs1 hP1 hD1 hS1 => ?_)
  rw [nI_clamp (Nat.lt_trans hk hn), hws] at hP1
  exact kk H1 locs1 ⟨hP1, hI.2⟩ hS1
theorem ly_zast {ws' : va_W} {ad n k : Nat} {f : Nat → Int32} {x : Bool} (S : CallFix p m c cc nL s args lw_tb own) (hI : PI D K ws s H) (hD : va_D A ws) (hS : va_S A H0 H locs) (q0 : Nat) (ha : ws[q0]? = some (ad, .inl (K 2, n, .inl f))) (hk : k < n) (hn : n < 2 ^ 31) (hws : ws.set q0 (ad, .inl (K 2, n, .inl (upd f k (bI x)))) = ws') (hdg : decode cc pc = .ok (.bastore, 1))
    (kk : ∀ (H1 : Heap) (locs1 : List Loc), PI D K ws' s H1 → va_S A H0 H1 locs1 → W p l e R s m args below meth c H1 locs1 cells slots Q (F0 m (pc + 1) ls rest)) : W p l e R s m args below meth c H locs cells slots Q (F0 m pc ls (.int (bI x) :: .int (nI k) :: .ref ad :: rest)) := by
  refine va_zast S.1 S.2.1 hI.2 hI.1 hD hS q0 2 ha rfl (vp_in_nI hk hn) hdg (fun H1 locs1 hP1 hD1 hS1 => ?_)
  rw [nI_clamp (Nat.lt_trans hk hn), bI_nz, hws] at hP1
  exact kk H1 locs1 ⟨hP1, hI.2⟩ hS1
theorem ly_last {ws' : va_W} {ad n k : Nat} {f : Nat → Int64} {x : Int64} (S : CallFix p m c cc nL s args lw_tb own) (hI : PI D K ws s H) (hD : va_D A ws) (hS : va_S A H0 H locs) (q0 : Nat) (ha : ws[q0]? = some (ad, .inl (K 1, n, .inr (.inl f)))) (hk : k < n) (hn : n < 2 ^ 31) (hws : ws.set q0 (ad, .inl (K 1, n, .inr (.inl (va_up f k x)))) = ws') (hdg : decode cc pc = .ok (.lastore, 1))
    (kk : ∀ (H1 : Heap) (locs1 : List Loc), PI D K ws' s H1 → va_S A H0 H1 locs1 → W p l e R s m args below meth c H1 locs1 cells slots Q (F0 m (pc + 1) ls rest)) : W p l e R s m args below meth c H locs cells slots Q (F0 m pc ls (.long x :: .int (nI k) :: .ref ad :: rest)) := by
  refine va_last S.1 S.2.1 hI.2 hI.1 hD hS q0 1 ha rfl (vp_in_nI hk hn) hdg (fun H1 locs1 hP1 hD1 hS1 => ?_)
  rw [nI_clamp (Nat.lt_trans hk hn), updL_up, hws] at hP1
  exact kk H1 locs1 ⟨hP1, hI.2⟩ hS1
theorem ly_lald {ad n k : Nat} {f : Nat → Int64} {v : Int64} (S : CallFix p m c cc nL s args lw_tb own) (hI : PI D K ws s H) (q0 : Nat) (ha : ws[q0]? = some (ad, .inl (K 1, n, .inr (.inl f)))) (hk : k < n) (hn : n < 2 ^ 31) (hv : f k = v) (hdg : decode cc pc = .ok (.laload, 1))
    (kk : W p l e R s m args below meth c H locs cells slots Q (F0 m (pc + 1) ls (.long v :: rest))) : W p l e R s m args below meth c H locs cells slots Q (F0 m pc ls (.int (nI k) :: .ref ad :: rest)) := by
  refine va_lald S.1 S.2.1 hI.2 hI.1 q0 1 ha rfl (vp_in_nI hk hn) hdg ?_
  rw [nI_clamp (Nat.lt_trans hk hn), hv]
  exact kk
theorem ly_zald {ad n k : Nat} {f : Nat → Int32} {v : Int32} (S : CallFix p m c cc nL s args lw_tb own) (hI : PI D K ws s H) (q0 : Nat) (ha : ws[q0]? = some (ad, .inl (K 2, n, .inl f))) (hk : k < n) (hn : n < 2 ^ 31) (hv : f k = v) (hdg : decode cc pc = .ok (.baload, 1))
    (kk : W p l e R s m args below meth c H locs cells slots Q (F0 m (pc + 1) ls (.int v :: rest))) : W p l e R s m args below meth c H locs cells slots Q (F0 m pc ls (.int (nI k) :: .ref ad :: rest)) := by
  refine va_zald S.1 S.2.1 hI.2 hI.1 q0 2 ha rfl (vp_in_nI hk hn) hdg ?_
  rw [nI_clamp (Nat.lt_trans hk hn), hv]
  exact kk
theorem p8 {ws' : va_W} {ad : Nat} {fs : List Value} {v : Value} {ty : FieldType} (S : CallFix p m c cc nL s args lw_tb own) (hI : PI D K ws s H) (hD : va_D A ws) (hS : va_S A H0 H locs) (q0 : Nat) (he : ws[q0]? = some (ad, .inr (8, fs))) (k : Nat) (hk : k < 15) (hl : Cond.fieldLink own index (TX8 k).1 (TX8 k).2.1 (TX8 k).2.2.1 ∈ lw_tb) (hfin : (TX8 k).2.2.2 = false) (hd : parseFieldDescriptor (TX8 k).2.2.1 = some ty) (hn : narrow ty v = v) (hfit : fits ty v = true) (hlen : k < fs.length) (hws : ws.set q0 (ad, .inr (8, fs.set k v)) = ws') (hdg : decode cc pc = .ok (.putfield index, 3))
    (kk : ∀ (H1 : Heap) (locs1 : List Loc), PI D K ws' s H1 → va_S A H0 H1 locs1 → W p l e R s m args below meth c H1 locs1 cells slots Q (F0 m (pc + 3) ls rest)) : W p l e R s m args below meth c H locs cells slots Q (F0 m pc ls (v :: .ref ad :: rest)) := by
  refine va_put (C := RX8) (T := TX8) (N := 15) S.1 S.2.1 S.2.2.2.2 inX8 tyX8 tyX8_ok nmX8 S.2.2.2.1 hI.2 hI.1 hD hS q0 he rfl k hk (S.2.2.2.2 _ hl) (fun _ h9 => h9) hfin hd hn hfit hlen hdg (fun H1 locs1 hP1 hD1 hS1 => ?_)
  rw [hws] at hP1
  exact kk H1 locs1 ⟨hP1, hI.2⟩ hS1
theorem kVX {σ : Type} {r : σ → Option Value} {wf : σ → va_W} {post : σ → Prop} (S : CallFix p m c cc nL s args lw_tb own) (hM : Met l y (TWd y bytes maxL ret) (rmk d) (va_Pc (.ref b :: As) B) (QX D K r wf post A) 0 0 A)
    (hlink : Cond.methodLink own index y ∈ lw_tb) (hst : Cond.instanceMethod y ∈ lw_tb) (hsel : Cond.selects y.cls y y ∈ lw_tb) (hini : Cond.initialized y.cls ∈ lw_tb) (hcode : Cond.code y bytes maxL ret ∈ lw_tb)
    (hd : y.cls ≠ "java/lang/invoke/MethodHandle" ∧ y.cls ≠ "java/lang/invoke/VarHandle" ∧ (parseMethodDescriptor y.desc).map (fun d => d.parameters.length) = some As.length) (hm : maxL ≤ 21)
    (hR : RO d R cells slots) (hbl : FrameBlind (va_Pc (.ref b :: As) B)) (hB : ∀ U : State, U.heap = H → s.WarmedH U.vm → B U)
    (hrecv : ∃ cellB : Cell, H[b]? = some cellB ∧ cellB.vm.isStatics = false ∧ s.vm.findClass y.cls = some cellB.cls)
    (hS : va_S A0 H0 H locs) (hA : ∀ q, A q → A0 q) (hsz : ls.size = nL) (hstk : st = As.reverse ++ .ref b :: rest) (hW : (rest.map fun v => v.category).sum ≤ 8) (hdg : decode cc pc = .ok (.invokevirtual index, 3))
    (kk : ∀ (u : σ) (H1 : Heap) (locs1 : List Loc), post u → PI D K (wf u) s H1 → va_S A0 H0 H1 locs1 → H.size ≤ H1.size → (∀ q : Nat, q < H.size → ¬ A q → H1[q]? = H[q]?) → W p l e R s m args below meth c H1 locs1 cells slots Q (F0 m (pc + 3) ls ((r u).toList ++ rest))) : W p l e R s m args below meth c H locs cells slots Q (F0 m pc ls st) := by
  have hr2 := hR.2.1
  have hr := va_runV (locs := locs) (below := below) (e := e) (meth := meth) (cells := cells) (slots := slots) (g := F0 m pc ls st) (As := As) (rest := rest) (n := As.length) (C := y.cls) (b := b) S hM ⟨callB_of As.length S.2.2.2.2 (tw_good hcode) rfl rfl rfl (S.2.2.2.2 _ hini) (S.2.2.2.2 _ hlink) hd ⟨hR.1, by simp only [rmk]; omega⟩, S.2.2.2.2 _ hst, S.2.2.2.2 _ hsel⟩ ⟨hbl, hrecv, fun U hU hW => ⟨rfl, hB U hU hW⟩⟩ rfl rfl hsz hstk (lv_room hW) hdg ⟨hR.2.2.1, hR.2.2.2⟩
  intro T hT X
  obtain ⟨v, st₀, t, T', L, h0, X', hL, e1, e2, ⟨⟨u, hv, hp, hI1⟩, hz, hk⟩, stp⟩ := hr T hT X
  cases hv
  rw [h0] at hz hk
  obtain ⟨t2, a1, b1⟩ := kk u T'.heap (locs ++ L) hp ⟨by rw [e1]; exact hI1.1, va_K.moved (by rw [← e2]; exact X'.warmed.alike.symm) hI1.2⟩
    ⟨Nat.le_trans hS.1 (by rw [e1]; exact hz), fun q h1 h2 => by rw [e1, hk q (Nat.lt_of_lt_of_le h1 hS.1) (fun z => h2 (hA q z))]; exact hS.2.1 q h1 h2, fun q hq => by
      rcases List.mem_append.mp hq with h | h
      · exact hS.2.2 q h
      · exact hA _ (hL q h)⟩ (by rw [e1]; exact hz) (fun q h1 h2 => by rw [e1]; exact hk q h1 h2) T' rfl X'
  exact ⟨t2, stp t2 a1, b1⟩
end KW
section MS
variable {K : Nat → ClassId} {a : Nat → Nat} {w n lap : Nat} {op mu ba la en : Nat → Nat} {pr : Nat → Option Nat} {sc : MSc} {k v : Nat}
theorem ms_1 : (mW K a w n lap op mu ba la en pr sc).set 1 (a 1, .inl (K 0, 8, .inl (upd (fun i => nI (op i)) k (nI v)))) = mW K a w n lap (va_up op k v) mu ba la en pr sc := by rw [nI_up]; rfl
theorem ms_2 : (mW K a w n lap op mu ba la en pr sc).set 2 (a 2, .inl (K 0, 8, .inl (upd (fun i => nI (mu i)) k (nI v)))) = mW K a w n lap op (va_up mu k v) ba la en pr sc := by rw [nI_up]; rfl
theorem ms_3 : (mW K a w n lap op mu ba la en pr sc).set 3 (a 3, .inl (K 0, 8, .inl (upd (fun i => nI (ba i)) k (nI v)))) = mW K a w n lap op mu (va_up ba k v) la en pr sc := by rw [nI_up]; rfl
theorem ms_4 : (mW K a w n lap op mu ba la en pr sc).set 4 (a 4, .inl (K 0, 8, .inl (upd (fun i => nI (la i)) k (nI v)))) = mW K a w n lap op mu ba (va_up la k v) en pr sc := by rw [nI_up]; rfl
theorem ms_5 {q : Option Nat} (h : k ≠ 0) : (mW K a w n lap op mu ba la en pr sc).set 5 (a 5, .inl (K 0, 7, .inl (upd (pz 0 pr) k (pI q)))) = mW K a w n lap op mu ba la en (va_up pr k q) sc := by rw [pz_up h]; rfl
theorem ms_6 : (mW K a w n lap op mu ba la en pr sc).set 6 (a 6, .inl (K 0, 4, .inl (upd (fun i => nI (en i)) k (nI v)))) = mW K a w n lap op mu ba la (va_up en k v) pr sc := by rw [nI_up]; rfl
theorem ms_7 : (mW K a w n lap op mu ba la en pr sc).set 7 (a 7, .inl (K 0, 8, .inl (upd (fun i => nI (sc.1 i)) k (nI v)))) = mW K a w n lap op mu ba la en pr (va_up sc.1 k v, sc.2) := by rw [nI_up]; rfl
theorem ms_8 : (mW K a w n lap op mu ba la en pr sc).set 8 (a 8, .inl (K 0, 4096, .inl (upd (fun i => nI (sc.2.1 i)) k (nI v)))) = mW K a w n lap op mu ba la en pr (sc.1, va_up sc.2.1 k v, sc.2.2) := by rw [nI_up]; rfl
theorem ms_9 : (mW K a w n lap op mu ba la en pr sc).set 9 (a 9, .inl (K 0, 4096, .inl (upd (fun i => nI (sc.2.2.1 i)) k (nI v)))) = mW K a w n lap op mu ba la en pr (sc.1, sc.2.1, va_up sc.2.2.1 k v, sc.2.2.2) := by rw [nI_up]; rfl
theorem ms_10 {x : Int64} : (mW K a w n lap op mu ba la en pr sc).set 10 (a 10, .inl (K 1, 4096, .inr (.inl (va_up sc.2.2.2.1 k x)))) = mW K a w n lap op mu ba la en pr (sc.1, sc.2.1, sc.2.2.1, va_up sc.2.2.2.1 k x, sc.2.2.2.2) := rfl
theorem ms_11 : (mW K a w n lap op mu ba la en pr sc).set 11 (a 11, .inl (K 0, 8, .inl (upd (fun i => nI (sc.2.2.2.2.1 i)) k (nI v)))) = mW K a w n lap op mu ba la en pr (sc.1, sc.2.1, sc.2.2.1, sc.2.2.2.1, va_up sc.2.2.2.2.1 k v, sc.2.2.2.2.2) := by rw [nI_up]; rfl
theorem ms_12 {x : Bool} : (mW K a w n lap op mu ba la en pr sc).set 12 (a 12, .inl (K 2, 4096, .inl (upd (fun i => bI (sc.2.2.2.2.2 i)) k (bI x)))) = mW K a w n lap op mu ba la en pr (sc.1, sc.2.1, sc.2.2.1, sc.2.2.2.1, sc.2.2.2.2.1, va_up sc.2.2.2.2.2 k x) := by rw [bI_up]; rfl
end MS
theorem wiN {k x y : Nat} (h1 : x ≤ k) (h2 : k ≤ y) (hy : y < 2 ^ 31) : wiI (nI k) (nI x) (nI y) = true := wiI_t (by rw [nI_ltI (by omega) (by omega)]; omega) (by rw [nI_ltI (by omega) (by omega)]; omega)
theorem wiC {k n : Nat} (h1 : k < n) (hn : n < 2 ^ 31) : wiI (nI k) 0 (nI n - 1) = true := by
  have e : nI n - 1 = nI (n - 1) := by
    have : n = (n - 1) + 1 := by omega
    rw [this, nI_pred]; rfl
  rw [e, ← nI_0]
  exact wiN (by omega) (by omega) (by omega)
end
section
/-! more pure words, of the laid wall and of refused numbers -/
def plI (w : Nat) (z : Int32) : Bool := wiI z (nI 0) (nI (2 ^ w - 1)) && decide (z - z / nI 2 * nI 2 = 0)
theorem plI_n {w k : Nat} (h : k < 2 ^ w) (h2 : k % 2 = 0) (hw : w ≤ 10) : plI w (nI k) = true := by
  have pw : 2 ^ w ≤ 2 ^ 10 := Nat.pow_le_pow_right (by decide) hw
  have pw0 : 2 ^ w ≤ 1024 := pw
  unfold plI
  rw [wiN (by omega) (by omega) (by omega), nI_rem (by omega) (by omega) (by omega), h2]
  decide
theorem va_up_id {α : Type} (f : Nat → α) (k : Nat) : va_up f k (f k) = f := by
  funext i
  unfold va_up
  split
  · next h => rw [h]
  · rfl
theorem pI_w {q : Option Nat} (hq : ∀ k, q = some k → k ≤ 99) (h : ¬ pI q = -9) : wiI (pI q) (nI 0) (nI 99) = true := by
  cases q with
  | none => exact absurd rfl h
  | some k => exact wiN (by omega) (hq k rfl) (by omega)
def lrF (pr : Nat → Option Nat) (w lap : Nat) (op mu ba la en : Nat → Nat) (ci : Nat) : Nat :=
  if ruF pr w (op ci) (bl op ci) (mu ci) (ba ci) (en (ci % 2 * 2)) (en (ci % 2 * 2 + 1)) (la ci) = 0 then (if decide (0 < ci) && decide (arG (la (ci - 1)) lap &&& la ci ≠ 0) then 7 else 0)
  else ruF pr w (op ci) (bl op ci) (mu ci) (ba ci) (en (ci % 2 * 2)) (en (ci % 2 * 2 + 1)) (la ci)
section LR
variable {pr : Nat → Option Nat} {w lap : Nat} {op mu ba la en : Nat → Nat} {ci : Nat}
theorem lrF_le : lrF pr w lap op mu ba la en ci ≤ 7 := by
  unfold lrF
  have := ruF_le (pr := pr) (w := w) (o := op ci) (b := bl op ci) (mu := mu ci) (ba := ba ci) (e0 := en (ci % 2 * 2)) (e1 := en (ci % 2 * 2 + 1)) (j := la ci)
  split
  · split <;> omega
  · omega
theorem lrF_1 (h : ¬ ruF pr w (op ci) (bl op ci) (mu ci) (ba ci) (en (ci % 2 * 2)) (en (ci % 2 * 2 + 1)) (la ci) = 0) : nI (ruF pr w (op ci) (bl op ci) (mu ci) (ba ci) (en (ci % 2 * 2)) (en (ci % 2 * 2 + 1)) (la ci)) = nI (lrF pr w lap op mu ba la en ci) := by
  unfold lrF; rw [if_neg h]
theorem lrF_2 (h : ruF pr w (op ci) (bl op ci) (mu ci) (ba ci) (en (ci % 2 * 2)) (en (ci % 2 * 2 + 1)) (la ci) = 0) (h2 : (decide (0 < ci) && decide (arG (la (ci - 1)) lap &&& la ci ≠ 0)) = true) : nI 7 = nI (lrF pr w lap op mu ba la en ci) := by
  unfold lrF; rw [if_pos h, if_pos h2]
theorem lrF_3 (h : ruF pr w (op ci) (bl op ci) (mu ci) (ba ci) (en (ci % 2 * 2)) (en (ci % 2 * 2 + 1)) (la ci) = 0) (h2 : (decide (0 < ci) && decide (arG (la (ci - 1)) lap &&& la ci ≠ 0)) = false) : nI 0 = nI (lrF pr w lap op mu ba la en ci) := by
  unfold lrF; rw [if_pos h, if_neg (by rw [h2]; decide)]
end LR
def wrG (f g : Nat → Nat) : Nat → Nat → Int32
  | 0, _ => -9
  | d + 1, k => if f k = 0 then wrG f g d (k + 1) else nI (g k)
theorem wrG_s {f g : Nat → Nat} {n k : Nat} (h : k < n) (h0 : f k = 0) : wrG f g (n - k) k = wrG f g (n - (k + 1)) (k + 1) := by
  rw [show n - k = (n - (k + 1)) + 1 by omega]
  conv => lhs; unfold wrG
  rw [if_pos h0]
theorem wrG_t {f g : Nat → Nat} {n k : Nat} (h : k < n) (h0 : ¬ f k = 0) : wrG f g (n - k) k = nI (g k) := by
  rw [show n - k = (n - (k + 1)) + 1 by omega]
  unfold wrG
  rw [if_neg h0]
theorem lp_le {w n : Nat} {op la : Nat → Nat} {L : Nat} (hw : w ≤ 10) (hn : n ≤ 8) : sumN (fun q => pcF w (op q) (la q) L) n ≤ 80 := by
  have := sumN_le (f := fun q => pcF w (op q) (la q) L) (b := 10) (fun k => pcF_le hw _ _ _) n
  omega
def ctF (p1 p2 p3 p4 : Nat) : Nat := p4 + p3 + (p2 + 1) / 2 + (p1 - p3 - 2 * (p2 % 2) + 3) / 4
theorem sub_ti {a b : Nat} (ha : a < 2 ^ 30) (hb : b < 2 ^ 30) : (nI a - nI b).toInt = (a : Int) - b := pk_sub_toInt ha hb
theorem sub_ge1 {a b : Nat} (ha : a < 2 ^ 30) (hb : b < 2 ^ 30) (h : 0 ≤ nI a - nI b) : b ≤ a := by
  rw [Int32.le_iff_toInt_le, sub_ti ha hb, Int32.toInt_zero] at h
  omega
theorem sub_lt1 {a b : Nat} (ha : a < 2 ^ 30) (hb : b < 2 ^ 30) (h : ¬ 0 ≤ nI a - nI b) : a < b := by
  rw [Int32.le_iff_toInt_le, sub_ti ha hb, Int32.toInt_zero] at h
  omega
theorem sub_le0 {a b : Nat} (ha : a < 2 ^ 30) (hb : b < 2 ^ 30) (h : nI a - nI b ≤ 0) : a ≤ b := by
  rw [Int32.le_iff_toInt_le, sub_ti ha hb, Int32.toInt_zero] at h
  omega
theorem sub_gt0 {a b : Nat} (ha : a < 2 ^ 30) (hb : b < 2 ^ 30) (h : ¬ nI a - nI b ≤ 0) : b < a := by
  rw [Int32.le_iff_toInt_le, sub_ti ha hb, Int32.toInt_zero] at h
  omega
end
section
set_option maxHeartbeats 4000000 in
set_option maxRecDepth 100000 in
theorem mX8_arePlaces (l : Launch) {D : va_G} {K : Nat → ClassId} {a : Nat → Nat} {w n lap : Nat} {op mu ba la en : Nat → Nat} {pr : Nat → Option Nat} {sc : MSc} {z : Int32} (hG : GOK w n lap op mu ba la en pr) : Met l yX8_arePlaces (TWd yX8_arePlaces cX8_arePlaces 2 (some .boolean)) (rmk 1) (va_Pc [.ref (a 0), .int z] (fun U => PI D K (mW K a w n lap op mu ba la en pr sc) U U.heap)) (QcRead (bI (plI w z))) 0 0 (fun _ => False) := by
  refine mt_of (by decide +kernel) (Nat.le_of_ble_eq_true rfl) ?_
  intro p e s m below meth c S hr hlk hI ls hl
  have S : CallFix p m c cX8_arePlaces 2 s ([.ref (a 0), .int z] : List Value).toArray lw_tb RX8 := S
  have hl : lv_has ls 2 [(0, .ref (a 0)), (1, .int z)] := hl
  obtain ⟨gw1, gw2, gn, gl1, gl2, gop, gmu, gba, gla, gen, gpr, gop2, gmu2, gba2, gla2, gme, gbe, gle, gee⟩ := id hG
  have sw : 1 <<< w = 2 ^ w := Nat.one_shiftLeft w
  have pw : 2 ^ w ≤ 2 ^ 10 := Nat.pow_le_pow_right (by decide) gw2
  have pw3 : 2 ^ 2 ≤ 2 ^ w := Nat.pow_le_pow_right (by decide) gw1
  have pw0 : 2 ^ w ≤ 1024 := pw
  have pw4 : 4 ≤ 2 ^ w := pw3
  refine lv_iload_n S.1 S.2.1 dX8_arePlaces_0 rfl (lv_at hl 1 rfl) ?_
  refine lv_iconst (v := nI 0) S.1 S.2.1 dX8_arePlaces_1 (by decide) ?_
  refine lv_iconst (v := nI 1) S.1 S.2.1 dX8_arePlaces_2 (by decide) ?_
  refine lv_aload_n S.1 S.2.1 dX8_arePlaces_3 rfl (lv_at hl 0 rfl) ?_
  refine g8 S hI 0 rfl 0 (by decide) tw_607 rfl dX8_arePlaces_4 ?_
  refine lv_ishl S.1 S.2.1 dX8_arePlaces_7 ?_
  refine ly_top (z := nI (1 <<< w)) (nI_shl (by omega) (by rw [sw]; omega)) ?_
  refine ly_top (z := (nI (2 ^ w))) (by rw [sw]) ?_
  refine lv_iconst (v := nI 1) S.1 S.2.1 dX8_arePlaces_8 (by decide) ?_
  refine lv_isub S.1 S.2.1 dX8_arePlaces_9 ?_
  refine ly_top (z := nI ((2 ^ w) - 1)) (pk_sub (by omega)) ?_
  refine kX8_within S  tw_658 (rok (by decide)) hl.1 (Nat.le_of_ble_eq_true rfl) dX8_arePlaces_10 ?_
  refine ly_ifeq (tgt := 26) S bI_e1 bI_e2 dX8_arePlaces_13 (by decide) (fun h1 => ?_) (fun h1 => ?_)
  · skip
    refine lv_iconst (v := nI 0) S.1 S.2.1 dX8_arePlaces_26 (by decide) ?_
    exact rt_z0 S hr hlk (by simp [plI, h1]) dX8_arePlaces_27
  · skip
    refine lv_iload_n S.1 S.2.1 dX8_arePlaces_16 rfl (lv_at hl 1 rfl) ?_
    refine lv_iconst (v := nI 2) S.1 S.2.1 dX8_arePlaces_17 (by decide) ?_
    refine lv_irem S.1 S.2.1 dX8_arePlaces_18 (by decide) ?_
    refine ly_ifne (tgt := 26) S (fun q => q) (fun q => q) dX8_arePlaces_19 (by decide) (fun h2 => ?_) (fun h2 => ?_)
    · skip
      refine lv_iconst (v := nI 0) S.1 S.2.1 dX8_arePlaces_26 (by decide) ?_
      exact rt_z0 S hr hlk (by simp [plI, h1, h2]) dX8_arePlaces_27
    · skip
      refine lv_iconst (v := nI 1) S.1 S.2.1 dX8_arePlaces_22 (by decide) ?_
      refine lv_goto (tgt := 27) S.1 S.2.1 dX8_arePlaces_23 (by decide) ?_
      exact rt_z1 S hr hlk (by simp [plI, h1, h2]) dX8_arePlaces_27
theorem kX8_arePlaces {p : Program} {l : Launch} {e : Env} {R : Room} {s : State} {m : MethodId} {args : Array Value} {below : List Frame} {meth : Method} {c : Code} {H : Heap} {locs : List Loc} {cells slots : Nat} {Q : State → Prop} {cc : ByteArray} {nL index pc : Nat} {own : String} {ls : Array Slot} {rest : List Value} {D : va_G} {K : Nat → ClassId} {a : Nat → Nat} {w n lap : Nat} {op mu ba la en : Nat → Nat} {pr : Nat → Option Nat} {sc : MSc} {z : Int32} (S : CallFix p m c cc nL s args lw_tb own) (hI : PI D K (mW K a w n lap op mu ba la en pr sc) s H) (hG : GOK w n lap op mu ba la en pr) (hlink : Cond.methodLink own index yX8_arePlaces ∈ lw_tb) (hR : RO 1 R cells slots) (hsz : ls.size = nL) (hW : (rest.map fun v => v.category).sum ≤ 8) (hdg : decode cc pc = .ok (.invokevirtual index, 3)) (kk : W p l e R s m args below meth c H locs cells slots Q (F0 m (pc + 3) ls (.int (bI (plI w z)) :: rest))) : W p l e R s m args below meth c H locs cells slots Q (F0 m pc ls (.int z :: .ref (a 0) :: rest)) :=
  kV (As := [.int z]) (b := a 0) S (mX8_arePlaces l hG) hlink tw_683 tw_17 tw_50 tw_684 (by show _ ∧ _ ∧ _ = some 1; decide +kernel) (by decide) hR blP (piU hI) (va_recv hI.2 hI.1 (ci := 8) (q0 := 0) rfl rfl) hsz rfl hW hdg kk

set_option maxHeartbeats 4000000 in
set_option maxRecDepth 100000 in
theorem mX8_width_a (l : Launch) {D : va_G} {K : Nat → ClassId} {a : Nat → Nat} {w n lap : Nat} {op mu ba la en : Nat → Nat} {pr : Nat → Option Nat} {sc : MSc} {v : Int32} (hG : GOK w n lap op mu ba la en pr) (hv : wiI v (nI 2) (nI 10) = false) : Met l yX8_width (TWd yX8_width cX8_width 2 (some .int)) (rmk 1) (va_Pc [.ref (a 0), .int v] (fun U => PI D K (mW K a w n lap op mu ba la en pr sc) U U.heap)) (QcRead ((-2))) 0 0 (fun _ => False) := by
  refine mt_of (by decide +kernel) (Nat.le_of_ble_eq_true rfl) ?_
  intro p e s m below meth c S hr hlk hI ls hl
  have S : CallFix p m c cX8_width 2 s ([.ref (a 0), .int v] : List Value).toArray lw_tb RX8 := S
  have hl : lv_has ls 2 [(0, .ref (a 0)), (1, .int v)] := hl
  obtain ⟨gw1, gw2, gn, gl1, gl2, gop, gmu, gba, gla, gen, gpr, gop2, gmu2, gba2, gla2, gme, gbe, gle, gee⟩ := id hG
  refine lv_iload_n S.1 S.2.1 dX8_width_0 rfl (lv_at hl 1 rfl) ?_
  refine lv_iconst (v := nI 2) S.1 S.2.1 dX8_width_1 (by decide) ?_
  refine lv_bipush (v := nI 10) S.1 S.2.1 dX8_width_2 (by decide) ?_
  refine kX8_within S  tw_658 (rok (by decide)) hl.1 (Nat.le_of_ble_eq_true rfl) dX8_width_4 ?_
  refine ly_ifne (tgt := 13) S bI_e2 bI_e1 dX8_width_7 (by decide) (fun h1 => ?_) (fun h1 => ?_)
  · skip
    exact absurd h1 (by rw [hv]; decide)
  · skip
    refine lv_bipush (v := (-2)) S.1 S.2.1 dX8_width_10 (by decide) ?_
    exact rt_i S hr hlk rfl dX8_width_12
theorem kX8_width_a {p : Program} {l : Launch} {e : Env} {R : Room} {s : State} {m : MethodId} {args : Array Value} {below : List Frame} {meth : Method} {c : Code} {H : Heap} {locs : List Loc} {cells slots : Nat} {Q : State → Prop} {cc : ByteArray} {nL index pc : Nat} {own : String} {ls : Array Slot} {rest : List Value} {D : va_G} {K : Nat → ClassId} {a : Nat → Nat} {w n lap : Nat} {op mu ba la en : Nat → Nat} {pr : Nat → Option Nat} {sc : MSc} {v : Int32} (S : CallFix p m c cc nL s args lw_tb own) (hI : PI D K (mW K a w n lap op mu ba la en pr sc) s H) (hG : GOK w n lap op mu ba la en pr) (hv : wiI v (nI 2) (nI 10) = false) (hlink : Cond.methodLink own index yX8_width ∈ lw_tb) (hR : RO 1 R cells slots) (hsz : ls.size = nL) (hW : (rest.map fun v => v.category).sum ≤ 8) (hdg : decode cc pc = .ok (.invokevirtual index, 3)) (kk : W p l e R s m args below meth c H locs cells slots Q (F0 m (pc + 3) ls (.int ((-2)) :: rest))) : W p l e R s m args below meth c H locs cells slots Q (F0 m pc ls (.int v :: .ref (a 0) :: rest)) :=
  kV (As := [.int v]) (b := a 0) S (mX8_width_a l hG hv) hlink tw_655 tw_656 tw_50 tw_657 (by show _ ∧ _ ∧ _ = some 1; decide +kernel) (by decide) hR blP (piU hI) (va_recv hI.2 hI.1 (ci := 8) (q0 := 0) rfl rfl) hsz rfl hW hdg kk

set_option maxHeartbeats 4000000 in
set_option maxRecDepth 100000 in
theorem mX8_width_b (l : Launch) {D : va_G} {K : Nat → ClassId} {a : Nat → Nat} {w n lap : Nat} {op mu ba la en : Nat → Nat} {pr : Nat → Option Nat} {sc : MSc} {k : Nat} (hDis : Dis a 13) (hG : GOK w n lap op mu ba la en pr) (h1 : 2 ≤ k) (h2 : k ≤ 10) : Met l yX8_width (TWd yX8_width cX8_width 2 (some .int)) (rmk 1) (va_Pc [.ref (a 0), .int (nI k)] (fun U => PI D K (mW K a w n lap op mu ba la en pr sc) U U.heap)) (QX D K (fun u : Unit => some (.int (nI 1))) (fun u => (mW K a k 0 lap op mu ba la en pr sc)) (fun u => True) (adA a 13)) 0 0 (adA a 13) := by
  refine mt_of (by decide +kernel) (Nat.le_of_ble_eq_true rfl) ?_
  intro p e s m below meth c S hr hlk hI ls hl
  have S : CallFix p m c cX8_width 2 s ([.ref (a 0), .int (nI k)] : List Value).toArray lw_tb RX8 := S
  have hl : lv_has ls 2 [(0, .ref (a 0)), (1, .int (nI k))] := hl
  have hS : va_S (adA a 13) s.heap s.heap [] := va_S.rf
  obtain ⟨gw1, gw2, gn, gl1, gl2, gop, gmu, gba, gla, gen, gpr, gop2, gmu2, gba2, gla2, gme, gbe, gle, gee⟩ := id hG
  refine lv_iload_n S.1 S.2.1 dX8_width_0 rfl (lv_at hl 1 rfl) ?_
  refine lv_iconst (v := nI 2) S.1 S.2.1 dX8_width_1 (by decide) ?_
  refine lv_bipush (v := nI 10) S.1 S.2.1 dX8_width_2 (by decide) ?_
  refine kX8_within S  tw_658 (rok (by decide)) hl.1 (Nat.le_of_ble_eq_true rfl) dX8_width_4 ?_
  refine ly_ifne (tgt := 13) S bI_e2 bI_e1 dX8_width_7 (by decide) (fun h1 => ?_) (fun h1 => ?_)
  · skip
    refine lv_aload_n S.1 S.2.1 dX8_width_13 rfl (lv_at hl 0 rfl) ?_
    refine lv_iload_n S.1 S.2.1 dX8_width_14 rfl (lv_at hl 1 rfl) ?_
    refine p8 (ws' := (mW K a k n lap op mu ba la en pr sc)) S hI (mD hDis) hS 0 rfl 0 (by decide) tw_607 rfl rfl rfl rfl (Nat.le_of_ble_eq_true rfl) rfl dX8_width_15 (fun H locs hI hS => ?_)
    refine lv_aload_n S.1 S.2.1 dX8_width_18 rfl (lv_at hl 0 rfl) ?_
    refine lv_iconst (v := nI 0) S.1 S.2.1 dX8_width_19 (by decide) ?_
    refine p8 (ws' := (mW K a k 0 lap op mu ba la en pr sc)) S hI (mD hDis) hS 0 rfl 1 (by decide) tw_608 rfl rfl rfl rfl (Nat.le_of_ble_eq_true rfl) rfl dX8_width_20 (fun H locs hI hS => ?_)
    refine lv_iconst (v := nI 1) S.1 S.2.1 dX8_width_23 (by decide) ?_
    exact rw_i S hr hlk () rfl trivial hI hS dX8_width_24
  · skip
    exact absurd h1 (by rw [wiN (by omega) (by omega) (by omega)]; decide)
theorem kX8_width_b {p : Program} {l : Launch} {e : Env} {R : Room} {s : State} {m : MethodId} {args : Array Value} {below : List Frame} {meth : Method} {c : Code} {H H0 : Heap} {locs : List Loc} {cells slots : Nat} {Q : State → Prop} {cc : ByteArray} {nL index pc : Nat} {own : String} {ls : Array Slot} {rest : List Value} {D : va_G} {K : Nat → ClassId} {a : Nat → Nat} {w n lap : Nat} {op mu ba la en : Nat → Nat} {pr : Nat → Option Nat} {sc : MSc} {k : Nat} (S : CallFix p m c cc nL s args lw_tb own) (hI : PI D K (mW K a w n lap op mu ba la en pr sc) s H) (hS : va_S (adA a 13) H0 H locs) (hDis : Dis a 13) (hG : GOK w n lap op mu ba la en pr) (h1 : 2 ≤ k) (h2 : k ≤ 10) (hlink : Cond.methodLink own index yX8_width ∈ lw_tb) (hR : RO 1 R cells slots) (hsz : ls.size = nL) (hW : (rest.map fun v => v.category).sum ≤ 8) (hdg : decode cc pc = .ok (.invokevirtual index, 3)) (kk : ∀ (u : Unit) (H1 : Heap) (locs1 : List Loc), True → PI D K (mW K a k 0 lap op mu ba la en pr sc) s H1 → va_S (adA a 13) H0 H1 locs1 → H.size ≤ H1.size → (∀ q : Nat, q < H.size → ¬ (adA a 13) q → H1[q]? = H[q]?) → W p l e R s m args below meth c H1 locs1 cells slots Q (F0 m (pc + 3) ls ((.int (nI 1)) :: rest))) : W p l e R s m args below meth c H locs cells slots Q (F0 m pc ls (.int (nI k) :: .ref (a 0) :: rest)) :=
  kVX (As := [.int (nI k)]) (b := a 0) S (mX8_width_b l hDis hG h1 h2) hlink tw_655 tw_656 tw_50 tw_657 (by show _ ∧ _ ∧ _ = some 1; decide +kernel) (by decide) hR blP (piU hI) (va_recv hI.2 hI.1 (ci := 8) (q0 := 0) rfl rfl) hS (fun _ h => h) hsz rfl hW hdg kk

set_option maxHeartbeats 4000000 in
set_option maxRecDepth 100000 in
theorem mX8_course_a (l : Launch) {D : va_G} {K : Nat → ClassId} {a : Nat → Nat} {w n lap : Nat} {op mu ba la en : Nat → Nat} {pr : Nat → Option Nat} {sc : MSc} (hG : GOK w n lap op mu ba la en pr) (h8 : n = 8) : Met l yX8_course (TWd yX8_course cX8_course 1 (some .int)) (rmk 0) (va_Pc [.ref (a 0)] (fun U => PI D K (mW K a w n lap op mu ba la en pr sc) U U.heap)) (QcRead ((-4))) 0 0 (fun _ => False) := by
  refine mt_of (by decide +kernel) (Nat.le_of_ble_eq_true rfl) ?_
  intro p e s m below meth c S hr hlk hI ls hl
  have S : CallFix p m c cX8_course 1 s ([.ref (a 0)] : List Value).toArray lw_tb RX8 := S
  have hl : lv_has ls 1 [(0, .ref (a 0))] := hl
  obtain ⟨gw1, gw2, gn, gl1, gl2, gop, gmu, gba, gla, gen, gpr, gop2, gmu2, gba2, gla2, gme, gbe, gle, gee⟩ := id hG
  refine lv_aload_n S.1 S.2.1 dX8_course_0 rfl (lv_at hl 0 rfl) ?_
  refine g8 S hI 0 rfl 1 (by decide) tw_608 rfl dX8_course_1 ?_
  refine lv_bipush (v := nI 8) S.1 S.2.1 dX8_course_4 (by decide) ?_
  refine ly_cmne (tgt := 12) S (nI_e2 (by omega) (by omega)) (nI_e1 (by omega) (by omega)) dX8_course_6 (by decide) (fun h1 => ?_) (fun h1 => ?_)
  · skip
    exact absurd h8 h1
  · skip
    refine lv_bipush (v := (-4)) S.1 S.2.1 dX8_course_9 (by decide) ?_
    exact rt_i S hr hlk rfl dX8_course_11
theorem kX8_course_a {p : Program} {l : Launch} {e : Env} {R : Room} {s : State} {m : MethodId} {args : Array Value} {below : List Frame} {meth : Method} {c : Code} {H : Heap} {locs : List Loc} {cells slots : Nat} {Q : State → Prop} {cc : ByteArray} {nL index pc : Nat} {own : String} {ls : Array Slot} {rest : List Value} {D : va_G} {K : Nat → ClassId} {a : Nat → Nat} {w n lap : Nat} {op mu ba la en : Nat → Nat} {pr : Nat → Option Nat} {sc : MSc} (S : CallFix p m c cc nL s args lw_tb own) (hI : PI D K (mW K a w n lap op mu ba la en pr sc) s H) (hG : GOK w n lap op mu ba la en pr) (h8 : n = 8) (hlink : Cond.methodLink own index yX8_course ∈ lw_tb) (hR : RO 0 R cells slots) (hsz : ls.size = nL) (hW : (rest.map fun v => v.category).sum ≤ 8) (hdg : decode cc pc = .ok (.invokevirtual index, 3)) (kk : W p l e R s m args below meth c H locs cells slots Q (F0 m (pc + 3) ls (.int ((-4)) :: rest))) : W p l e R s m args below meth c H locs cells slots Q (F0 m pc ls (.ref (a 0) :: rest)) :=
  kV (As := []) (b := a 0) S (mX8_course_a l hG h8) hlink tw_662 tw_663 tw_50 tw_664 (by show _ ∧ _ ∧ _ = some 0; decide +kernel) (by decide) hR blP (piU hI) (va_recv hI.2 hI.1 (ci := 8) (q0 := 0) rfl rfl) hsz rfl hW hdg kk

set_option maxHeartbeats 4000000 in
set_option maxRecDepth 100000 in
theorem mX8_course_b (l : Launch) {D : va_G} {K : Nat → ClassId} {a : Nat → Nat} {w n lap : Nat} {op mu ba la en : Nat → Nat} {pr : Nat → Option Nat} {sc : MSc} (hDis : Dis a 13) (hG : GOK w n lap op mu ba la en pr) (h8 : n < 8) : Met l yX8_course (TWd yX8_course cX8_course 1 (some .int)) (rmk 0) (va_Pc [.ref (a 0)] (fun U => PI D K (mW K a w n lap op mu ba la en pr sc) U U.heap)) (QX D K (fun u : Unit => some (.int (nI n))) (fun u => (mW K a w (n + 1) lap (va_up op n 0) (va_up mu n 0) (va_up ba n 0) (va_up la n 0) en pr sc)) (fun u => True) (adA a 13)) 0 0 (adA a 13) := by
  refine mt_of (by decide +kernel) (Nat.le_of_ble_eq_true rfl) ?_
  intro p e s m below meth c S hr hlk hI ls hl
  have S : CallFix p m c cX8_course 1 s ([.ref (a 0)] : List Value).toArray lw_tb RX8 := S
  have hl : lv_has ls 1 [(0, .ref (a 0))] := hl
  have hS : va_S (adA a 13) s.heap s.heap [] := va_S.rf
  obtain ⟨gw1, gw2, gn, gl1, gl2, gop, gmu, gba, gla, gen, gpr, gop2, gmu2, gba2, gla2, gme, gbe, gle, gee⟩ := id hG
  refine lv_aload_n S.1 S.2.1 dX8_course_0 rfl (lv_at hl 0 rfl) ?_
  refine g8 S hI 0 rfl 1 (by decide) tw_608 rfl dX8_course_1 ?_
  refine lv_bipush (v := nI 8) S.1 S.2.1 dX8_course_4 (by decide) ?_
  refine ly_cmne (tgt := 12) S (nI_e2 (by omega) (by omega)) (nI_e1 (by omega) (by omega)) dX8_course_6 (by decide) (fun h1 => ?_) (fun h1 => ?_)
  · skip
    refine lv_aload_n S.1 S.2.1 dX8_course_12 rfl (lv_at hl 0 rfl) ?_
    refine g8 S hI 0 rfl 2 (by decide) tw_609 rfl dX8_course_13 ?_
    refine lv_aload_n S.1 S.2.1 dX8_course_16 rfl (lv_at hl 0 rfl) ?_
    refine g8 S hI 0 rfl 1 (by decide) tw_608 rfl dX8_course_17 ?_
    refine lv_iconst (v := nI 0) S.1 S.2.1 dX8_course_20 (by decide) ?_
    refine ly_iast (ws' := (mW K a w n lap (va_up op n 0) mu ba la en pr sc)) S hI (mD hDis) hS 1 rfl (by omega) (by decide) ms_1 dX8_course_21 (fun H locs hI hS => ?_)
    refine lv_aload_n S.1 S.2.1 dX8_course_22 rfl (lv_at hl 0 rfl) ?_
    refine g8 S hI 0 rfl 3 (by decide) tw_610 rfl dX8_course_23 ?_
    refine lv_aload_n S.1 S.2.1 dX8_course_26 rfl (lv_at hl 0 rfl) ?_
    refine g8 S hI 0 rfl 1 (by decide) tw_608 rfl dX8_course_27 ?_
    refine lv_iconst (v := nI 0) S.1 S.2.1 dX8_course_30 (by decide) ?_
    refine ly_iast (ws' := (mW K a w n lap (va_up op n 0) (va_up mu n 0) ba la en pr sc)) S hI (mD hDis) hS 2 rfl (by omega) (by decide) ms_2 dX8_course_31 (fun H locs hI hS => ?_)
    refine lv_aload_n S.1 S.2.1 dX8_course_32 rfl (lv_at hl 0 rfl) ?_
    refine g8 S hI 0 rfl 4 (by decide) tw_611 rfl dX8_course_33 ?_
    refine lv_aload_n S.1 S.2.1 dX8_course_36 rfl (lv_at hl 0 rfl) ?_
    refine g8 S hI 0 rfl 1 (by decide) tw_608 rfl dX8_course_37 ?_
    refine lv_iconst (v := nI 0) S.1 S.2.1 dX8_course_40 (by decide) ?_
    refine ly_iast (ws' := (mW K a w n lap (va_up op n 0) (va_up mu n 0) (va_up ba n 0) la en pr sc)) S hI (mD hDis) hS 3 rfl (by omega) (by decide) ms_3 dX8_course_41 (fun H locs hI hS => ?_)
    refine lv_aload_n S.1 S.2.1 dX8_course_42 rfl (lv_at hl 0 rfl) ?_
    refine g8 S hI 0 rfl 5 (by decide) tw_612 rfl dX8_course_43 ?_
    refine lv_aload_n S.1 S.2.1 dX8_course_46 rfl (lv_at hl 0 rfl) ?_
    refine g8 S hI 0 rfl 1 (by decide) tw_608 rfl dX8_course_47 ?_
    refine lv_iconst (v := nI 0) S.1 S.2.1 dX8_course_50 (by decide) ?_
    refine ly_iast (ws' := (mW K a w n lap (va_up op n 0) (va_up mu n 0) (va_up ba n 0) (va_up la n 0) en pr sc)) S hI (mD hDis) hS 4 rfl (by omega) (by decide) ms_4 dX8_course_51 (fun H locs hI hS => ?_)
    refine lv_aload_n S.1 S.2.1 dX8_course_52 rfl (lv_at hl 0 rfl) ?_
    refine lv_dup S.1 S.2.1 dX8_course_53 rfl ?_
    refine g8 S hI 0 rfl 1 (by decide) tw_608 rfl dX8_course_54 ?_
    refine lv_iconst (v := nI 1) S.1 S.2.1 dX8_course_57 (by decide) ?_
    refine lv_iadd S.1 S.2.1 dX8_course_58 ?_
    refine ly_top (z := nI (n + 1)) (nI_add _ _) ?_
    refine p8 (ws' := (mW K a w (n + 1) lap (va_up op n 0) (va_up mu n 0) (va_up ba n 0) (va_up la n 0) en pr sc)) S hI (mD hDis) hS 0 rfl 1 (by decide) tw_608 rfl rfl rfl rfl (Nat.le_of_ble_eq_true rfl) rfl dX8_course_59 (fun H locs hI hS => ?_)
    refine lv_aload_n S.1 S.2.1 dX8_course_62 rfl (lv_at hl 0 rfl) ?_
    refine g8 S hI 0 rfl 1 (by decide) tw_608 rfl dX8_course_63 ?_
    refine lv_iconst (v := nI 1) S.1 S.2.1 dX8_course_66 (by decide) ?_
    refine lv_isub S.1 S.2.1 dX8_course_67 ?_
    refine ly_top (z := nI ((n + 1) - 1)) (pk_sub (by omega)) ?_
    exact rw_i S hr hlk () rfl trivial hI hS dX8_course_68
  · skip
    exact absurd h1 (by omega)
theorem kX8_course_b {p : Program} {l : Launch} {e : Env} {R : Room} {s : State} {m : MethodId} {args : Array Value} {below : List Frame} {meth : Method} {c : Code} {H H0 : Heap} {locs : List Loc} {cells slots : Nat} {Q : State → Prop} {cc : ByteArray} {nL index pc : Nat} {own : String} {ls : Array Slot} {rest : List Value} {D : va_G} {K : Nat → ClassId} {a : Nat → Nat} {w n lap : Nat} {op mu ba la en : Nat → Nat} {pr : Nat → Option Nat} {sc : MSc} (S : CallFix p m c cc nL s args lw_tb own) (hI : PI D K (mW K a w n lap op mu ba la en pr sc) s H) (hS : va_S (adA a 13) H0 H locs) (hDis : Dis a 13) (hG : GOK w n lap op mu ba la en pr) (h8 : n < 8) (hlink : Cond.methodLink own index yX8_course ∈ lw_tb) (hR : RO 0 R cells slots) (hsz : ls.size = nL) (hW : (rest.map fun v => v.category).sum ≤ 8) (hdg : decode cc pc = .ok (.invokevirtual index, 3)) (kk : ∀ (u : Unit) (H1 : Heap) (locs1 : List Loc), True → PI D K (mW K a w (n + 1) lap (va_up op n 0) (va_up mu n 0) (va_up ba n 0) (va_up la n 0) en pr sc) s H1 → va_S (adA a 13) H0 H1 locs1 → H.size ≤ H1.size → (∀ q : Nat, q < H.size → ¬ (adA a 13) q → H1[q]? = H[q]?) → W p l e R s m args below meth c H1 locs1 cells slots Q (F0 m (pc + 3) ls ((.int (nI n)) :: rest))) : W p l e R s m args below meth c H locs cells slots Q (F0 m pc ls (.ref (a 0) :: rest)) :=
  kVX (As := []) (b := a 0) S (mX8_course_b l hDis hG h8) hlink tw_662 tw_663 tw_50 tw_664 (by show _ ∧ _ ∧ _ = some 0; decide +kernel) (by decide) hR blP (piU hI) (va_recv hI.2 hI.1 (ci := 8) (q0 := 0) rfl rfl) hS (fun _ h => h) hsz rfl hW hdg kk

set_option maxHeartbeats 4000000 in
set_option maxRecDepth 100000 in
theorem mX8_take_a (l : Launch) {D : va_G} {K : Nat → ClassId} {a : Nat → Nat} {w n lap : Nat} {op mu ba la en : Nat → Nat} {pr : Nat → Option Nat} {sc : MSc} (hG : GOK w n lap op mu ba la en pr) (h0 : n = 0) : Met l yX8_take (TWd yX8_take cX8_take 1 (some .int)) (rmk 0) (va_Pc [.ref (a 0)] (fun U => PI D K (mW K a w n lap op mu ba la en pr sc) U U.heap)) (QcRead ((-3))) 0 0 (fun _ => False) := by
  refine mt_of (by decide +kernel) (Nat.le_of_ble_eq_true rfl) ?_
  intro p e s m below meth c S hr hlk hI ls hl
  have S : CallFix p m c cX8_take 1 s ([.ref (a 0)] : List Value).toArray lw_tb RX8 := S
  have hl : lv_has ls 1 [(0, .ref (a 0))] := hl
  obtain ⟨gw1, gw2, gn, gl1, gl2, gop, gmu, gba, gla, gen, gpr, gop2, gmu2, gba2, gla2, gme, gbe, gle, gee⟩ := id hG
  refine lv_aload_n S.1 S.2.1 dX8_take_0 rfl (lv_at hl 0 rfl) ?_
  refine g8 S hI 0 rfl 1 (by decide) tw_608 rfl dX8_take_1 ?_
  refine ly_ifne (tgt := 10) S (nI_z2 (by omega)) (nI_z1 (by omega)) dX8_take_4 (by decide) (fun h1 => ?_) (fun h1 => ?_)
  · skip
    exact absurd h0 h1
  · skip
    refine lv_bipush (v := (-3)) S.1 S.2.1 dX8_take_7 (by decide) ?_
    exact rt_i S hr hlk rfl dX8_take_9
theorem kX8_take_a {p : Program} {l : Launch} {e : Env} {R : Room} {s : State} {m : MethodId} {args : Array Value} {below : List Frame} {meth : Method} {c : Code} {H : Heap} {locs : List Loc} {cells slots : Nat} {Q : State → Prop} {cc : ByteArray} {nL index pc : Nat} {own : String} {ls : Array Slot} {rest : List Value} {D : va_G} {K : Nat → ClassId} {a : Nat → Nat} {w n lap : Nat} {op mu ba la en : Nat → Nat} {pr : Nat → Option Nat} {sc : MSc} (S : CallFix p m c cc nL s args lw_tb own) (hI : PI D K (mW K a w n lap op mu ba la en pr sc) s H) (hG : GOK w n lap op mu ba la en pr) (h0 : n = 0) (hlink : Cond.methodLink own index yX8_take ∈ lw_tb) (hR : RO 0 R cells slots) (hsz : ls.size = nL) (hW : (rest.map fun v => v.category).sum ≤ 8) (hdg : decode cc pc = .ok (.invokevirtual index, 3)) (kk : W p l e R s m args below meth c H locs cells slots Q (F0 m (pc + 3) ls (.int ((-3)) :: rest))) : W p l e R s m args below meth c H locs cells slots Q (F0 m pc ls (.ref (a 0) :: rest)) :=
  kV (As := []) (b := a 0) S (mX8_take_a l hG h0) hlink tw_666 tw_667 tw_50 tw_668 (by show _ ∧ _ ∧ _ = some 0; decide +kernel) (by decide) hR blP (piU hI) (va_recv hI.2 hI.1 (ci := 8) (q0 := 0) rfl rfl) hsz rfl hW hdg kk

set_option maxHeartbeats 4000000 in
set_option maxRecDepth 100000 in
theorem mX8_take_b (l : Launch) {D : va_G} {K : Nat → ClassId} {a : Nat → Nat} {w n lap : Nat} {op mu ba la en : Nat → Nat} {pr : Nat → Option Nat} {sc : MSc} (hDis : Dis a 13) (hG : GOK w n lap op mu ba la en pr) (h0 : 1 ≤ n) : Met l yX8_take (TWd yX8_take cX8_take 1 (some .int)) (rmk 0) (va_Pc [.ref (a 0)] (fun U => PI D K (mW K a w n lap op mu ba la en pr sc) U U.heap)) (QX D K (fun u : Unit => some (.int (nI (n - 1)))) (fun u => (mW K a w (n - 1) lap op mu ba la en pr sc)) (fun u => True) (adA a 13)) 0 0 (adA a 13) := by
  refine mt_of (by decide +kernel) (Nat.le_of_ble_eq_true rfl) ?_
  intro p e s m below meth c S hr hlk hI ls hl
  have S : CallFix p m c cX8_take 1 s ([.ref (a 0)] : List Value).toArray lw_tb RX8 := S
  have hl : lv_has ls 1 [(0, .ref (a 0))] := hl
  have hS : va_S (adA a 13) s.heap s.heap [] := va_S.rf
  obtain ⟨gw1, gw2, gn, gl1, gl2, gop, gmu, gba, gla, gen, gpr, gop2, gmu2, gba2, gla2, gme, gbe, gle, gee⟩ := id hG
  refine lv_aload_n S.1 S.2.1 dX8_take_0 rfl (lv_at hl 0 rfl) ?_
  refine g8 S hI 0 rfl 1 (by decide) tw_608 rfl dX8_take_1 ?_
  refine ly_ifne (tgt := 10) S (nI_z2 (by omega)) (nI_z1 (by omega)) dX8_take_4 (by decide) (fun h1 => ?_) (fun h1 => ?_)
  · skip
    refine lv_aload_n S.1 S.2.1 dX8_take_10 rfl (lv_at hl 0 rfl) ?_
    refine lv_dup S.1 S.2.1 dX8_take_11 rfl ?_
    refine g8 S hI 0 rfl 1 (by decide) tw_608 rfl dX8_take_12 ?_
    refine lv_iconst (v := nI 1) S.1 S.2.1 dX8_take_15 (by decide) ?_
    refine lv_isub S.1 S.2.1 dX8_take_16 ?_
    refine ly_top (z := nI (n - 1)) (pk_sub (by omega)) ?_
    refine p8 (ws' := (mW K a w (n - 1) lap op mu ba la en pr sc)) S hI (mD hDis) hS 0 rfl 1 (by decide) tw_608 rfl rfl rfl rfl (Nat.le_of_ble_eq_true rfl) rfl dX8_take_17 (fun H locs hI hS => ?_)
    refine lv_aload_n S.1 S.2.1 dX8_take_20 rfl (lv_at hl 0 rfl) ?_
    refine g8 S hI 0 rfl 1 (by decide) tw_608 rfl dX8_take_21 ?_
    exact rw_i S hr hlk () rfl trivial hI hS dX8_take_24
  · skip
    exact absurd h1 (by omega)
theorem kX8_take_b {p : Program} {l : Launch} {e : Env} {R : Room} {s : State} {m : MethodId} {args : Array Value} {below : List Frame} {meth : Method} {c : Code} {H H0 : Heap} {locs : List Loc} {cells slots : Nat} {Q : State → Prop} {cc : ByteArray} {nL index pc : Nat} {own : String} {ls : Array Slot} {rest : List Value} {D : va_G} {K : Nat → ClassId} {a : Nat → Nat} {w n lap : Nat} {op mu ba la en : Nat → Nat} {pr : Nat → Option Nat} {sc : MSc} (S : CallFix p m c cc nL s args lw_tb own) (hI : PI D K (mW K a w n lap op mu ba la en pr sc) s H) (hS : va_S (adA a 13) H0 H locs) (hDis : Dis a 13) (hG : GOK w n lap op mu ba la en pr) (h0 : 1 ≤ n) (hlink : Cond.methodLink own index yX8_take ∈ lw_tb) (hR : RO 0 R cells slots) (hsz : ls.size = nL) (hW : (rest.map fun v => v.category).sum ≤ 8) (hdg : decode cc pc = .ok (.invokevirtual index, 3)) (kk : ∀ (u : Unit) (H1 : Heap) (locs1 : List Loc), True → PI D K (mW K a w (n - 1) lap op mu ba la en pr sc) s H1 → va_S (adA a 13) H0 H1 locs1 → H.size ≤ H1.size → (∀ q : Nat, q < H.size → ¬ (adA a 13) q → H1[q]? = H[q]?) → W p l e R s m args below meth c H1 locs1 cells slots Q (F0 m (pc + 3) ls ((.int (nI (n - 1))) :: rest))) : W p l e R s m args below meth c H locs cells slots Q (F0 m pc ls (.ref (a 0) :: rest)) :=
  kVX (As := []) (b := a 0) S (mX8_take_b l hDis hG h0) hlink tw_666 tw_667 tw_50 tw_668 (by show _ ∧ _ ∧ _ = some 0; decide +kernel) (by decide) hR blP (piU hI) (va_recv hI.2 hI.1 (ci := 8) (q0 := 0) rfl rfl) hS (fun _ h => h) hsz rfl hW hdg kk

set_option maxHeartbeats 4000000 in
set_option maxRecDepth 100000 in
theorem mX8_open_a (l : Launch) {D : va_G} {K : Nat → ClassId} {a : Nat → Nat} {w n lap : Nat} {op mu ba la en : Nat → Nat} {pr : Nat → Option Nat} {sc : MSc} {v : Int32} {z : Int32} (hG : GOK w n lap op mu ba la en pr) (hv : wiI v 0 (nI n - 1) = false) : Met l yX8_open (TWd yX8_open cX8_open 4 (some .int)) (rmk 2) (va_Pc [.ref (a 0), .int v, .int z] (fun U => PI D K (mW K a w n lap op mu ba la en pr sc) U U.heap)) (QcRead ((-1))) 0 0 (fun _ => False) := by
  refine mt_of (by decide +kernel) (Nat.le_of_ble_eq_true rfl) ?_
  intro p e s m below meth c S hr hlk hI ls hl
  have S : CallFix p m c cX8_open 4 s ([.ref (a 0), .int v, .int z] : List Value).toArray lw_tb RX8 := S
  have hl : lv_has ls 4 [(0, .ref (a 0)), (1, .int v), (2, .int z)] := hl
  obtain ⟨gw1, gw2, gn, gl1, gl2, gop, gmu, gba, gla, gen, gpr, gop2, gmu2, gba2, gla2, gme, gbe, gle, gee⟩ := id hG
  refine lv_aload_n S.1 S.2.1 dX8_open_0 rfl (lv_at hl 0 rfl) ?_
  refine lv_iload_n S.1 S.2.1 dX8_open_1 rfl (lv_at hl 1 rfl) ?_
  refine kX8_isCourse S hI hG tw_673 (rok (by decide)) hl.1 (Nat.le_of_ble_eq_true rfl) dX8_open_2 ?_
  refine ly_ifne (tgt := 10) S bI_e2 bI_e1 dX8_open_5 (by decide) (fun h1 => ?_) (fun h1 => ?_)
  · skip
    exact absurd h1 (by rw [hv]; decide)
  · skip
    refine lv_iconst (v := (-1)) S.1 S.2.1 dX8_open_8 (by decide) ?_
    exact rt_i S hr hlk rfl dX8_open_9
theorem kX8_open_a {p : Program} {l : Launch} {e : Env} {R : Room} {s : State} {m : MethodId} {args : Array Value} {below : List Frame} {meth : Method} {c : Code} {H : Heap} {locs : List Loc} {cells slots : Nat} {Q : State → Prop} {cc : ByteArray} {nL index pc : Nat} {own : String} {ls : Array Slot} {rest : List Value} {D : va_G} {K : Nat → ClassId} {a : Nat → Nat} {w n lap : Nat} {op mu ba la en : Nat → Nat} {pr : Nat → Option Nat} {sc : MSc} {v : Int32} {z : Int32} (S : CallFix p m c cc nL s args lw_tb own) (hI : PI D K (mW K a w n lap op mu ba la en pr sc) s H) (hG : GOK w n lap op mu ba la en pr) (hv : wiI v 0 (nI n - 1) = false) (hlink : Cond.methodLink own index yX8_open ∈ lw_tb) (hR : RO 2 R cells slots) (hsz : ls.size = nL) (hW : (rest.map fun v => v.category).sum ≤ 8) (hdg : decode cc pc = .ok (.invokevirtual index, 3)) (kk : W p l e R s m args below meth c H locs cells slots Q (F0 m (pc + 3) ls (.int ((-1)) :: rest))) : W p l e R s m args below meth c H locs cells slots Q (F0 m pc ls (.int z :: .int v :: .ref (a 0) :: rest)) :=
  kV (As := [.int v, .int z]) (b := a 0) S (mX8_open_a l hG hv) hlink tw_670 tw_671 tw_50 tw_672 (by show _ ∧ _ ∧ _ = some 2; decide +kernel) (by decide) hR blP (piU hI) (va_recv hI.2 hI.1 (ci := 8) (q0 := 0) rfl rfl) hsz rfl hW hdg kk

set_option maxHeartbeats 4000000 in
set_option maxRecDepth 100000 in
theorem mX8_open_b (l : Launch) {D : va_G} {K : Nat → ClassId} {a : Nat → Nat} {w n lap : Nat} {op mu ba la en : Nat → Nat} {pr : Nat → Option Nat} {sc : MSc} {ci : Nat} {z : Int32} (hG : GOK w n lap op mu ba la en pr) (hc : ci < n) (hz : wiI z (nI 0) (nI (2 ^ w - 1)) = false) : Met l yX8_open (TWd yX8_open cX8_open 4 (some .int)) (rmk 2) (va_Pc [.ref (a 0), .int (nI ci), .int z] (fun U => PI D K (mW K a w n lap op mu ba la en pr sc) U U.heap)) (QcRead ((-2))) 0 0 (fun _ => False) := by
  refine mt_of (by decide +kernel) (Nat.le_of_ble_eq_true rfl) ?_
  intro p e s m below meth c S hr hlk hI ls hl
  have S : CallFix p m c cX8_open 4 s ([.ref (a 0), .int (nI ci), .int z] : List Value).toArray lw_tb RX8 := S
  have hl : lv_has ls 4 [(0, .ref (a 0)), (1, .int (nI ci)), (2, .int z)] := hl
  obtain ⟨gw1, gw2, gn, gl1, gl2, gop, gmu, gba, gla, gen, gpr, gop2, gmu2, gba2, gla2, gme, gbe, gle, gee⟩ := id hG
  have sw : 1 <<< w = 2 ^ w := Nat.one_shiftLeft w
  have pw : 2 ^ w ≤ 2 ^ 10 := Nat.pow_le_pow_right (by decide) gw2
  have pw3 : 2 ^ 2 ≤ 2 ^ w := Nat.pow_le_pow_right (by decide) gw1
  have pw0 : 2 ^ w ≤ 1024 := pw
  have pw4 : 4 ≤ 2 ^ w := pw3
  refine lv_aload_n S.1 S.2.1 dX8_open_0 rfl (lv_at hl 0 rfl) ?_
  refine lv_iload_n S.1 S.2.1 dX8_open_1 rfl (lv_at hl 1 rfl) ?_
  refine kX8_isCourse S hI hG tw_673 (rok (by decide)) hl.1 (Nat.le_of_ble_eq_true rfl) dX8_open_2 ?_
  refine ly_ifne (tgt := 10) S bI_e2 bI_e1 dX8_open_5 (by decide) (fun h1 => ?_) (fun h1 => ?_)
  · skip
    refine lv_iload_n S.1 S.2.1 dX8_open_10 rfl (lv_at hl 2 rfl) ?_
    refine lv_iconst (v := nI 0) S.1 S.2.1 dX8_open_11 (by decide) ?_
    refine lv_iconst (v := nI 1) S.1 S.2.1 dX8_open_12 (by decide) ?_
    refine lv_aload_n S.1 S.2.1 dX8_open_13 rfl (lv_at hl 0 rfl) ?_
    refine g8 S hI 0 rfl 0 (by decide) tw_607 rfl dX8_open_14 ?_
    refine lv_ishl S.1 S.2.1 dX8_open_17 ?_
    refine ly_top (z := nI (1 <<< w)) (nI_shl (by omega) (by rw [sw]; omega)) ?_
    refine ly_top (z := (nI (2 ^ w))) (by rw [sw]) ?_
    refine lv_iconst (v := nI 1) S.1 S.2.1 dX8_open_18 (by decide) ?_
    refine lv_isub S.1 S.2.1 dX8_open_19 ?_
    refine ly_top (z := nI ((2 ^ w) - 1)) (pk_sub (by omega)) ?_
    refine kX8_within S  tw_658 (rok (by decide)) hl.1 (Nat.le_of_ble_eq_true rfl) dX8_open_20 ?_
    refine ly_ifne (tgt := 29) S bI_e2 bI_e1 dX8_open_23 (by decide) (fun h2 => ?_) (fun h2 => ?_)
    · skip
      exact absurd h2 (by rw [hz]; decide)
    · skip
      refine lv_bipush (v := (-2)) S.1 S.2.1 dX8_open_26 (by decide) ?_
      exact rt_i S hr hlk rfl dX8_open_28
  · skip
    exact absurd h1 (by rw [wiC (by omega) (by omega)]; decide)
theorem kX8_open_b {p : Program} {l : Launch} {e : Env} {R : Room} {s : State} {m : MethodId} {args : Array Value} {below : List Frame} {meth : Method} {c : Code} {H : Heap} {locs : List Loc} {cells slots : Nat} {Q : State → Prop} {cc : ByteArray} {nL index pc : Nat} {own : String} {ls : Array Slot} {rest : List Value} {D : va_G} {K : Nat → ClassId} {a : Nat → Nat} {w n lap : Nat} {op mu ba la en : Nat → Nat} {pr : Nat → Option Nat} {sc : MSc} {ci : Nat} {z : Int32} (S : CallFix p m c cc nL s args lw_tb own) (hI : PI D K (mW K a w n lap op mu ba la en pr sc) s H) (hG : GOK w n lap op mu ba la en pr) (hc : ci < n) (hz : wiI z (nI 0) (nI (2 ^ w - 1)) = false) (hlink : Cond.methodLink own index yX8_open ∈ lw_tb) (hR : RO 2 R cells slots) (hsz : ls.size = nL) (hW : (rest.map fun v => v.category).sum ≤ 8) (hdg : decode cc pc = .ok (.invokevirtual index, 3)) (kk : W p l e R s m args below meth c H locs cells slots Q (F0 m (pc + 3) ls (.int ((-2)) :: rest))) : W p l e R s m args below meth c H locs cells slots Q (F0 m pc ls (.int z :: .int (nI ci) :: .ref (a 0) :: rest)) :=
  kV (As := [.int (nI ci), .int z]) (b := a 0) S (mX8_open_b l hG hc hz) hlink tw_670 tw_671 tw_50 tw_672 (by show _ ∧ _ ∧ _ = some 2; decide +kernel) (by decide) hR blP (piU hI) (va_recv hI.2 hI.1 (ci := 8) (q0 := 0) rfl rfl) hsz rfl hW hdg kk

set_option maxHeartbeats 4000000 in
set_option maxRecDepth 100000 in
theorem mX8_open_c (l : Launch) {D : va_G} {K : Nat → ClassId} {a : Nat → Nat} {w n lap : Nat} {op mu ba la en : Nat → Nat} {pr : Nat → Option Nat} {sc : MSc} {ci : Nat} {k : Nat} (hDis : Dis a 13) (hG : GOK w n lap op mu ba la en pr) (hc : ci < n) (hk : k < 2 ^ w) : Met l yX8_open (TWd yX8_open cX8_open 4 (some .int)) (rmk 2) (va_Pc [.ref (a 0), .int (nI ci), .int (nI k)] (fun U => PI D K (mW K a w n lap op mu ba la en pr sc) U U.heap)) (QX D K (fun u : Unit => some (.int (nI (op ci)))) (fun u => (mW K a w n lap (va_up op ci k) mu ba la en pr sc)) (fun u => True) (adA a 13)) 0 0 (adA a 13) := by
  refine mt_of (by decide +kernel) (Nat.le_of_ble_eq_true rfl) ?_
  intro p e s m below meth c S hr hlk hI ls hl
  have S : CallFix p m c cX8_open 4 s ([.ref (a 0), .int (nI ci), .int (nI k)] : List Value).toArray lw_tb RX8 := S
  have hl : lv_has ls 4 [(0, .ref (a 0)), (1, .int (nI ci)), (2, .int (nI k))] := hl
  have hS : va_S (adA a 13) s.heap s.heap [] := va_S.rf
  obtain ⟨gw1, gw2, gn, gl1, gl2, gop, gmu, gba, gla, gen, gpr, gop2, gmu2, gba2, gla2, gme, gbe, gle, gee⟩ := id hG
  have sw : 1 <<< w = 2 ^ w := Nat.one_shiftLeft w
  have pw : 2 ^ w ≤ 2 ^ 10 := Nat.pow_le_pow_right (by decide) gw2
  have pw3 : 2 ^ 2 ≤ 2 ^ w := Nat.pow_le_pow_right (by decide) gw1
  have pw0 : 2 ^ w ≤ 1024 := pw
  have pw4 : 4 ≤ 2 ^ w := pw3
  refine lv_aload_n S.1 S.2.1 dX8_open_0 rfl (lv_at hl 0 rfl) ?_
  refine lv_iload_n S.1 S.2.1 dX8_open_1 rfl (lv_at hl 1 rfl) ?_
  refine kX8_isCourse S hI hG tw_673 (rok (by decide)) hl.1 (Nat.le_of_ble_eq_true rfl) dX8_open_2 ?_
  refine ly_ifne (tgt := 10) S bI_e2 bI_e1 dX8_open_5 (by decide) (fun h1 => ?_) (fun h1 => ?_)
  · skip
    refine lv_iload_n S.1 S.2.1 dX8_open_10 rfl (lv_at hl 2 rfl) ?_
    refine lv_iconst (v := nI 0) S.1 S.2.1 dX8_open_11 (by decide) ?_
    refine lv_iconst (v := nI 1) S.1 S.2.1 dX8_open_12 (by decide) ?_
    refine lv_aload_n S.1 S.2.1 dX8_open_13 rfl (lv_at hl 0 rfl) ?_
    refine g8 S hI 0 rfl 0 (by decide) tw_607 rfl dX8_open_14 ?_
    refine lv_ishl S.1 S.2.1 dX8_open_17 ?_
    refine ly_top (z := nI (1 <<< w)) (nI_shl (by omega) (by rw [sw]; omega)) ?_
    refine ly_top (z := (nI (2 ^ w))) (by rw [sw]) ?_
    refine lv_iconst (v := nI 1) S.1 S.2.1 dX8_open_18 (by decide) ?_
    refine lv_isub S.1 S.2.1 dX8_open_19 ?_
    refine ly_top (z := nI ((2 ^ w) - 1)) (pk_sub (by omega)) ?_
    refine kX8_within S  tw_658 (rok (by decide)) hl.1 (Nat.le_of_ble_eq_true rfl) dX8_open_20 ?_
    refine ly_ifne (tgt := 29) S bI_e2 bI_e1 dX8_open_23 (by decide) (fun h2 => ?_) (fun h2 => ?_)
    · skip
      refine lv_aload_n S.1 S.2.1 dX8_open_29 rfl (lv_at hl 0 rfl) ?_
      refine g8 S hI 0 rfl 2 (by decide) tw_609 rfl dX8_open_30 ?_
      refine lv_iload_n S.1 S.2.1 dX8_open_33 rfl (lv_at hl 1 rfl) ?_
      refine ly_iald (v := (nI (op ci))) S hI 1 rfl (by omega) (by decide) rfl dX8_open_34 ?_
      refine lv_istore_n (lv' := [(3, .int (nI (op ci))), (0, .ref (a 0)), (1, .int (nI ci)), (2, .int (nI k))]) S.1 S.2.1 dX8_open_35 rfl hl (by decide) rfl (fun ls hl => ?_)
      refine lv_aload_n S.1 S.2.1 dX8_open_36 rfl (lv_at hl 1 rfl) ?_
      refine g8 S hI 0 rfl 2 (by decide) tw_609 rfl dX8_open_37 ?_
      refine lv_iload_n S.1 S.2.1 dX8_open_40 rfl (lv_at hl 2 rfl) ?_
      refine lv_iload_n S.1 S.2.1 dX8_open_41 rfl (lv_at hl 3 rfl) ?_
      refine ly_iast (ws' := (mW K a w n lap (va_up op ci k) mu ba la en pr sc)) S hI (mD hDis) hS 1 rfl (by omega) (by decide) ms_1 dX8_open_42 (fun H locs hI hS => ?_)
      refine lv_iload_n S.1 S.2.1 dX8_open_43 rfl (lv_at hl 0 rfl) ?_
      exact rw_i S hr hlk () rfl trivial hI hS dX8_open_44
    · skip
      exact absurd h2 (by rw [wiN (by omega) (by omega) (by omega)]; decide)
  · skip
    exact absurd h1 (by rw [wiC (by omega) (by omega)]; decide)
theorem kX8_open_c {p : Program} {l : Launch} {e : Env} {R : Room} {s : State} {m : MethodId} {args : Array Value} {below : List Frame} {meth : Method} {c : Code} {H H0 : Heap} {locs : List Loc} {cells slots : Nat} {Q : State → Prop} {cc : ByteArray} {nL index pc : Nat} {own : String} {ls : Array Slot} {rest : List Value} {D : va_G} {K : Nat → ClassId} {a : Nat → Nat} {w n lap : Nat} {op mu ba la en : Nat → Nat} {pr : Nat → Option Nat} {sc : MSc} {ci : Nat} {k : Nat} (S : CallFix p m c cc nL s args lw_tb own) (hI : PI D K (mW K a w n lap op mu ba la en pr sc) s H) (hS : va_S (adA a 13) H0 H locs) (hDis : Dis a 13) (hG : GOK w n lap op mu ba la en pr) (hc : ci < n) (hk : k < 2 ^ w) (hlink : Cond.methodLink own index yX8_open ∈ lw_tb) (hR : RO 2 R cells slots) (hsz : ls.size = nL) (hW : (rest.map fun v => v.category).sum ≤ 8) (hdg : decode cc pc = .ok (.invokevirtual index, 3)) (kk : ∀ (u : Unit) (H1 : Heap) (locs1 : List Loc), True → PI D K (mW K a w n lap (va_up op ci k) mu ba la en pr sc) s H1 → va_S (adA a 13) H0 H1 locs1 → H.size ≤ H1.size → (∀ q : Nat, q < H.size → ¬ (adA a 13) q → H1[q]? = H[q]?) → W p l e R s m args below meth c H1 locs1 cells slots Q (F0 m (pc + 3) ls ((.int (nI (op ci))) :: rest))) : W p l e R s m args below meth c H locs cells slots Q (F0 m pc ls (.int (nI k) :: .int (nI ci) :: .ref (a 0) :: rest)) :=
  kVX (As := [.int (nI ci), .int (nI k)]) (b := a 0) S (mX8_open_c l hDis hG hc hk) hlink tw_670 tw_671 tw_50 tw_672 (by show _ ∧ _ ∧ _ = some 2; decide +kernel) (by decide) hR blP (piU hI) (va_recv hI.2 hI.1 (ci := 8) (q0 := 0) rfl rfl) hS (fun _ h => h) hsz rfl hW hdg kk

set_option maxHeartbeats 4000000 in
set_option maxRecDepth 100000 in
theorem mX8_must_a (l : Launch) {D : va_G} {K : Nat → ClassId} {a : Nat → Nat} {w n lap : Nat} {op mu ba la en : Nat → Nat} {pr : Nat → Option Nat} {sc : MSc} {v : Int32} {hw : Int32} {z : Int32} (hG : GOK w n lap op mu ba la en pr) (hv : wiI v 0 (nI n - 1) = false) : Met l yX8_must (TWd yX8_must cX8_must 5 (some .int)) (rmk 2) (va_Pc [.ref (a 0), .int v, .int hw, .int z] (fun U => PI D K (mW K a w n lap op mu ba la en pr sc) U U.heap)) (QcRead ((-1))) 0 0 (fun _ => False) := by
  refine mt_of (by decide +kernel) (Nat.le_of_ble_eq_true rfl) ?_
  intro p e s m below meth c S hr hlk hI ls hl
  have S : CallFix p m c cX8_must 5 s ([.ref (a 0), .int v, .int hw, .int z] : List Value).toArray lw_tb RX8 := S
  have hl : lv_has ls 5 [(0, .ref (a 0)), (1, .int v), (2, .int hw), (3, .int z)] := hl
  obtain ⟨gw1, gw2, gn, gl1, gl2, gop, gmu, gba, gla, gen, gpr, gop2, gmu2, gba2, gla2, gme, gbe, gle, gee⟩ := id hG
  refine lv_aload_n S.1 S.2.1 dX8_must_0 rfl (lv_at hl 0 rfl) ?_
  refine lv_iload_n S.1 S.2.1 dX8_must_1 rfl (lv_at hl 1 rfl) ?_
  refine kX8_isCourse S hI hG tw_673 (rok (by decide)) hl.1 (Nat.le_of_ble_eq_true rfl) dX8_must_2 ?_
  refine ly_ifne (tgt := 10) S bI_e2 bI_e1 dX8_must_5 (by decide) (fun h1 => ?_) (fun h1 => ?_)
  · skip
    exact absurd h1 (by rw [hv]; decide)
  · skip
    refine lv_iconst (v := (-1)) S.1 S.2.1 dX8_must_8 (by decide) ?_
    exact rt_i S hr hlk rfl dX8_must_9
theorem kX8_must_a {p : Program} {l : Launch} {e : Env} {R : Room} {s : State} {m : MethodId} {args : Array Value} {below : List Frame} {meth : Method} {c : Code} {H : Heap} {locs : List Loc} {cells slots : Nat} {Q : State → Prop} {cc : ByteArray} {nL index pc : Nat} {own : String} {ls : Array Slot} {rest : List Value} {D : va_G} {K : Nat → ClassId} {a : Nat → Nat} {w n lap : Nat} {op mu ba la en : Nat → Nat} {pr : Nat → Option Nat} {sc : MSc} {v : Int32} {hw : Int32} {z : Int32} (S : CallFix p m c cc nL s args lw_tb own) (hI : PI D K (mW K a w n lap op mu ba la en pr sc) s H) (hG : GOK w n lap op mu ba la en pr) (hv : wiI v 0 (nI n - 1) = false) (hlink : Cond.methodLink own index yX8_must ∈ lw_tb) (hR : RO 2 R cells slots) (hsz : ls.size = nL) (hW : (rest.map fun v => v.category).sum ≤ 8) (hdg : decode cc pc = .ok (.invokevirtual index, 3)) (kk : W p l e R s m args below meth c H locs cells slots Q (F0 m (pc + 3) ls (.int ((-1)) :: rest))) : W p l e R s m args below meth c H locs cells slots Q (F0 m pc ls (.int z :: .int hw :: .int v :: .ref (a 0) :: rest)) :=
  kV (As := [.int v, .int hw, .int z]) (b := a 0) S (mX8_must_a l hG hv) hlink tw_678 tw_679 tw_50 tw_680 (by show _ ∧ _ ∧ _ = some 3; decide +kernel) (by decide) hR blP (piU hI) (va_recv hI.2 hI.1 (ci := 8) (q0 := 0) rfl rfl) hsz rfl hW hdg kk

set_option maxHeartbeats 4000000 in
set_option maxRecDepth 100000 in
theorem mX8_must_b (l : Launch) {D : va_G} {K : Nat → ClassId} {a : Nat → Nat} {w n lap : Nat} {op mu ba la en : Nat → Nat} {pr : Nat → Option Nat} {sc : MSc} {ci : Nat} {hw : Int32} {z : Int32} (hG : GOK w n lap op mu ba la en pr) (hc : ci < n) (hz : (wiI hw (nI 0) (nI 1) && plI w z) = false) : Met l yX8_must (TWd yX8_must cX8_must 5 (some .int)) (rmk 2) (va_Pc [.ref (a 0), .int (nI ci), .int hw, .int z] (fun U => PI D K (mW K a w n lap op mu ba la en pr sc) U U.heap)) (QcRead ((-2))) 0 0 (fun _ => False) := by
  refine mt_of (by decide +kernel) (Nat.le_of_ble_eq_true rfl) ?_
  intro p e s m below meth c S hr hlk hI ls hl
  have S : CallFix p m c cX8_must 5 s ([.ref (a 0), .int (nI ci), .int hw, .int z] : List Value).toArray lw_tb RX8 := S
  have hl : lv_has ls 5 [(0, .ref (a 0)), (1, .int (nI ci)), (2, .int hw), (3, .int z)] := hl
  obtain ⟨gw1, gw2, gn, gl1, gl2, gop, gmu, gba, gla, gen, gpr, gop2, gmu2, gba2, gla2, gme, gbe, gle, gee⟩ := id hG
  refine lv_aload_n S.1 S.2.1 dX8_must_0 rfl (lv_at hl 0 rfl) ?_
  refine lv_iload_n S.1 S.2.1 dX8_must_1 rfl (lv_at hl 1 rfl) ?_
  refine kX8_isCourse S hI hG tw_673 (rok (by decide)) hl.1 (Nat.le_of_ble_eq_true rfl) dX8_must_2 ?_
  refine ly_ifne (tgt := 10) S bI_e2 bI_e1 dX8_must_5 (by decide) (fun h1 => ?_) (fun h1 => ?_)
  · skip
    refine lv_iload_n S.1 S.2.1 dX8_must_10 rfl (lv_at hl 2 rfl) ?_
    refine lv_iconst (v := nI 0) S.1 S.2.1 dX8_must_11 (by decide) ?_
    refine lv_iconst (v := nI 1) S.1 S.2.1 dX8_must_12 (by decide) ?_
    refine kX8_within S  tw_658 (rok (by decide)) hl.1 (Nat.le_of_ble_eq_true rfl) dX8_must_13 ?_
    refine ly_ifeq (tgt := 27) S bI_e1 bI_e2 dX8_must_16 (by decide) (fun h2 => ?_) (fun h2 => ?_)
    · skip
      refine lv_bipush (v := (-2)) S.1 S.2.1 dX8_must_27 (by decide) ?_
      exact rt_i S hr hlk rfl dX8_must_29
    · skip
      refine lv_aload_n S.1 S.2.1 dX8_must_19 rfl (lv_at hl 0 rfl) ?_
      refine lv_iload_n S.1 S.2.1 dX8_must_20 rfl (lv_at hl 3 rfl) ?_
      refine kX8_arePlaces S hI hG tw_681 (rok (by decide)) hl.1 (Nat.le_of_ble_eq_true rfl) dX8_must_21 ?_
      refine ly_ifne (tgt := 30) S bI_e2 bI_e1 dX8_must_24 (by decide) (fun h3 => ?_) (fun h3 => ?_)
      · skip
        exact absurd hz (by rw [h2, h3]; decide)
      · skip
        refine lv_bipush (v := (-2)) S.1 S.2.1 dX8_must_27 (by decide) ?_
        exact rt_i S hr hlk rfl dX8_must_29
  · skip
    exact absurd h1 (by rw [wiC (by omega) (by omega)]; decide)
theorem kX8_must_b {p : Program} {l : Launch} {e : Env} {R : Room} {s : State} {m : MethodId} {args : Array Value} {below : List Frame} {meth : Method} {c : Code} {H : Heap} {locs : List Loc} {cells slots : Nat} {Q : State → Prop} {cc : ByteArray} {nL index pc : Nat} {own : String} {ls : Array Slot} {rest : List Value} {D : va_G} {K : Nat → ClassId} {a : Nat → Nat} {w n lap : Nat} {op mu ba la en : Nat → Nat} {pr : Nat → Option Nat} {sc : MSc} {ci : Nat} {hw : Int32} {z : Int32} (S : CallFix p m c cc nL s args lw_tb own) (hI : PI D K (mW K a w n lap op mu ba la en pr sc) s H) (hG : GOK w n lap op mu ba la en pr) (hc : ci < n) (hz : (wiI hw (nI 0) (nI 1) && plI w z) = false) (hlink : Cond.methodLink own index yX8_must ∈ lw_tb) (hR : RO 2 R cells slots) (hsz : ls.size = nL) (hW : (rest.map fun v => v.category).sum ≤ 8) (hdg : decode cc pc = .ok (.invokevirtual index, 3)) (kk : W p l e R s m args below meth c H locs cells slots Q (F0 m (pc + 3) ls (.int ((-2)) :: rest))) : W p l e R s m args below meth c H locs cells slots Q (F0 m pc ls (.int z :: .int hw :: .int (nI ci) :: .ref (a 0) :: rest)) :=
  kV (As := [.int (nI ci), .int hw, .int z]) (b := a 0) S (mX8_must_b l hG hc hz) hlink tw_678 tw_679 tw_50 tw_680 (by show _ ∧ _ ∧ _ = some 3; decide +kernel) (by decide) hR blP (piU hI) (va_recv hI.2 hI.1 (ci := 8) (q0 := 0) rfl rfl) hsz rfl hW hdg kk

set_option maxHeartbeats 4000000 in
set_option maxRecDepth 100000 in
theorem mX8_must_c1 (l : Launch) {D : va_G} {K : Nat → ClassId} {a : Nat → Nat} {w n lap : Nat} {op mu ba la en : Nat → Nat} {pr : Nat → Option Nat} {sc : MSc} {ci : Nat} {k : Nat} (hDis : Dis a 13) (hG : GOK w n lap op mu ba la en pr) (hc : ci < n) (hk : k < 2 ^ w) (hk2 : k % 2 = 0) : Met l yX8_must (TWd yX8_must cX8_must 5 (some .int)) (rmk 2) (va_Pc [.ref (a 0), .int (nI ci), .int (nI 1), .int (nI k)] (fun U => PI D K (mW K a w n lap op mu ba la en pr sc) U U.heap)) (QX D K (fun u : Unit => some (.int (nI (mu ci)))) (fun u => (mW K a w n lap op (va_up mu ci k) ba la en pr sc)) (fun u => True) (adA a 13)) 0 0 (adA a 13) := by
  refine mt_of (by decide +kernel) (Nat.le_of_ble_eq_true rfl) ?_
  intro p e s m below meth c S hr hlk hI ls hl
  have S : CallFix p m c cX8_must 5 s ([.ref (a 0), .int (nI ci), .int (nI 1), .int (nI k)] : List Value).toArray lw_tb RX8 := S
  have hl : lv_has ls 5 [(0, .ref (a 0)), (1, .int (nI ci)), (2, .int (nI 1)), (3, .int (nI k))] := hl
  have hS : va_S (adA a 13) s.heap s.heap [] := va_S.rf
  obtain ⟨gw1, gw2, gn, gl1, gl2, gop, gmu, gba, gla, gen, gpr, gop2, gmu2, gba2, gla2, gme, gbe, gle, gee⟩ := id hG
  refine lv_aload_n S.1 S.2.1 dX8_must_0 rfl (lv_at hl 0 rfl) ?_
  refine lv_iload_n S.1 S.2.1 dX8_must_1 rfl (lv_at hl 1 rfl) ?_
  refine kX8_isCourse S hI hG tw_673 (rok (by decide)) hl.1 (Nat.le_of_ble_eq_true rfl) dX8_must_2 ?_
  refine ly_ifne (tgt := 10) S bI_e2 bI_e1 dX8_must_5 (by decide) (fun h1 => ?_) (fun h1 => ?_)
  · skip
    refine lv_iload_n S.1 S.2.1 dX8_must_10 rfl (lv_at hl 2 rfl) ?_
    refine lv_iconst (v := nI 0) S.1 S.2.1 dX8_must_11 (by decide) ?_
    refine lv_iconst (v := nI 1) S.1 S.2.1 dX8_must_12 (by decide) ?_
    refine kX8_within S  tw_658 (rok (by decide)) hl.1 (Nat.le_of_ble_eq_true rfl) dX8_must_13 ?_
    refine ly_ifeq (tgt := 27) S bI_e1 bI_e2 dX8_must_16 (by decide) (fun h2 => ?_) (fun h2 => ?_)
    · skip
      exact absurd h2 (by rw [wiN (by omega) (by omega) (by omega)]; decide)
    · skip
      refine lv_aload_n S.1 S.2.1 dX8_must_19 rfl (lv_at hl 0 rfl) ?_
      refine lv_iload_n S.1 S.2.1 dX8_must_20 rfl (lv_at hl 3 rfl) ?_
      refine kX8_arePlaces S hI hG tw_681 (rok (by decide)) hl.1 (Nat.le_of_ble_eq_true rfl) dX8_must_21 ?_
      refine ly_ifne (tgt := 30) S bI_e2 bI_e1 dX8_must_24 (by decide) (fun h3 => ?_) (fun h3 => ?_)
      · skip
        refine lv_iload_n S.1 S.2.1 dX8_must_30 rfl (lv_at hl 2 rfl) ?_
        refine lv_iconst (v := nI 1) S.1 S.2.1 dX8_must_31 (by decide) ?_
        refine ly_cmne (tgt := 44) S (nI_e2 (by omega) (by omega)) (nI_e1 (by omega) (by omega)) dX8_must_32 (by decide) (fun h4 => ?_) (fun h4 => ?_)
        · skip
          exact absurd h4 (by decide)
        · skip
          refine lv_aload_n S.1 S.2.1 dX8_must_35 rfl (lv_at hl 0 rfl) ?_
          refine g8 S hI 0 rfl 3 (by decide) tw_610 rfl dX8_must_36 ?_
          refine lv_iload_n S.1 S.2.1 dX8_must_39 rfl (lv_at hl 1 rfl) ?_
          refine ly_iald (v := (nI (mu ci))) S hI 2 rfl (by omega) (by decide) rfl dX8_must_40 ?_
          refine lv_goto (tgt := 50) S.1 S.2.1 dX8_must_41 (by decide) ?_
          refine lv_istore (lv' := [(4, .int (nI (mu ci))), (0, .ref (a 0)), (1, .int (nI ci)), (2, .int (nI 1)), (3, .int (nI k))]) S.1 S.2.1 dX8_must_50 hl (by decide) rfl (fun ls hl => ?_)
          refine lv_aload_n S.1 S.2.1 dX8_must_52 rfl (lv_at hl 1 rfl) ?_
          refine g8 S hI 0 rfl 3 (by decide) tw_610 rfl dX8_must_53 ?_
          refine lv_iload_n S.1 S.2.1 dX8_must_56 rfl (lv_at hl 2 rfl) ?_
          refine lv_iload_n S.1 S.2.1 dX8_must_57 rfl (lv_at hl 3 rfl) ?_
          refine lv_iconst (v := nI 1) S.1 S.2.1 dX8_must_58 (by decide) ?_
          refine ly_cmne (tgt := 66) S (nI_e2 (by omega) (by omega)) (nI_e1 (by omega) (by omega)) dX8_must_59 (by decide) (fun h5 => ?_) (fun h5 => ?_)
          · skip
            exact absurd h5 (by decide)
          · skip
            refine lv_iload_n S.1 S.2.1 dX8_must_62 rfl (lv_at hl 4 rfl) ?_
            refine lv_goto (tgt := 72) S.1 S.2.1 dX8_must_63 (by decide) ?_
            refine ly_iast (ws' := (mW K a w n lap op (va_up mu ci k) ba la en pr sc)) S hI (mD hDis) hS 2 rfl (by omega) (by decide) ms_2 dX8_must_72 (fun H locs hI hS => ?_)
            refine lv_aload_n S.1 S.2.1 dX8_must_73 rfl (lv_at hl 1 rfl) ?_
            refine g8 S hI 0 rfl 4 (by decide) tw_611 rfl dX8_must_74 ?_
            refine lv_iload_n S.1 S.2.1 dX8_must_77 rfl (lv_at hl 2 rfl) ?_
            refine lv_iload_n S.1 S.2.1 dX8_must_78 rfl (lv_at hl 3 rfl) ?_
            refine lv_iconst (v := nI 1) S.1 S.2.1 dX8_must_79 (by decide) ?_
            refine ly_cmne (tgt := 92) S (nI_e2 (by omega) (by omega)) (nI_e1 (by omega) (by omega)) dX8_must_80 (by decide) (fun h6 => ?_) (fun h6 => ?_)
            · skip
              exact absurd h6 (by decide)
            · skip
              refine lv_aload_n S.1 S.2.1 dX8_must_83 rfl (lv_at hl 1 rfl) ?_
              refine g8 S hI 0 rfl 4 (by decide) tw_611 rfl dX8_must_84 ?_
              refine lv_iload_n S.1 S.2.1 dX8_must_87 rfl (lv_at hl 2 rfl) ?_
              refine ly_iald (v := (nI (ba ci))) S hI 3 rfl (by omega) (by decide) rfl dX8_must_88 ?_
              refine lv_goto (tgt := 93) S.1 S.2.1 dX8_must_89 (by decide) ?_
              refine ly_iast (ws' := (mW K a w n lap op (va_up mu ci k) (va_up ba ci (ba ci)) la en pr sc)) S hI (mD hDis) hS 3 rfl (by omega) (by decide) ms_3 dX8_must_93 (fun H locs hI hS => ?_)
              rw [va_up_id ba ci] at hI
              refine lv_iload S.1 S.2.1 dX8_must_94 (lv_at hl 0 rfl) ?_
              exact rw_i S hr hlk () rfl trivial hI hS dX8_must_96
      · skip
        exact absurd h3 (by rw [plI_n hk hk2 (by omega)]; decide)
  · skip
    exact absurd h1 (by rw [wiC (by omega) (by omega)]; decide)
theorem kX8_must_c1 {p : Program} {l : Launch} {e : Env} {R : Room} {s : State} {m : MethodId} {args : Array Value} {below : List Frame} {meth : Method} {c : Code} {H H0 : Heap} {locs : List Loc} {cells slots : Nat} {Q : State → Prop} {cc : ByteArray} {nL index pc : Nat} {own : String} {ls : Array Slot} {rest : List Value} {D : va_G} {K : Nat → ClassId} {a : Nat → Nat} {w n lap : Nat} {op mu ba la en : Nat → Nat} {pr : Nat → Option Nat} {sc : MSc} {ci : Nat} {k : Nat} (S : CallFix p m c cc nL s args lw_tb own) (hI : PI D K (mW K a w n lap op mu ba la en pr sc) s H) (hS : va_S (adA a 13) H0 H locs) (hDis : Dis a 13) (hG : GOK w n lap op mu ba la en pr) (hc : ci < n) (hk : k < 2 ^ w) (hk2 : k % 2 = 0) (hlink : Cond.methodLink own index yX8_must ∈ lw_tb) (hR : RO 2 R cells slots) (hsz : ls.size = nL) (hW : (rest.map fun v => v.category).sum ≤ 8) (hdg : decode cc pc = .ok (.invokevirtual index, 3)) (kk : ∀ (u : Unit) (H1 : Heap) (locs1 : List Loc), True → PI D K (mW K a w n lap op (va_up mu ci k) ba la en pr sc) s H1 → va_S (adA a 13) H0 H1 locs1 → H.size ≤ H1.size → (∀ q : Nat, q < H.size → ¬ (adA a 13) q → H1[q]? = H[q]?) → W p l e R s m args below meth c H1 locs1 cells slots Q (F0 m (pc + 3) ls ((.int (nI (mu ci))) :: rest))) : W p l e R s m args below meth c H locs cells slots Q (F0 m pc ls (.int (nI k) :: .int (nI 1) :: .int (nI ci) :: .ref (a 0) :: rest)) :=
  kVX (As := [.int (nI ci), .int (nI 1), .int (nI k)]) (b := a 0) S (mX8_must_c1 l hDis hG hc hk hk2) hlink tw_678 tw_679 tw_50 tw_680 (by show _ ∧ _ ∧ _ = some 3; decide +kernel) (by decide) hR blP (piU hI) (va_recv hI.2 hI.1 (ci := 8) (q0 := 0) rfl rfl) hS (fun _ h => h) hsz rfl hW hdg kk

set_option maxHeartbeats 4000000 in
set_option maxRecDepth 100000 in
theorem mX8_must_c0 (l : Launch) {D : va_G} {K : Nat → ClassId} {a : Nat → Nat} {w n lap : Nat} {op mu ba la en : Nat → Nat} {pr : Nat → Option Nat} {sc : MSc} {ci : Nat} {k : Nat} (hDis : Dis a 13) (hG : GOK w n lap op mu ba la en pr) (hc : ci < n) (hk : k < 2 ^ w) (hk2 : k % 2 = 0) : Met l yX8_must (TWd yX8_must cX8_must 5 (some .int)) (rmk 2) (va_Pc [.ref (a 0), .int (nI ci), .int (nI 0), .int (nI k)] (fun U => PI D K (mW K a w n lap op mu ba la en pr sc) U U.heap)) (QX D K (fun u : Unit => some (.int (nI (ba ci)))) (fun u => (mW K a w n lap op mu (va_up ba ci k) la en pr sc)) (fun u => True) (adA a 13)) 0 0 (adA a 13) := by
  refine mt_of (by decide +kernel) (Nat.le_of_ble_eq_true rfl) ?_
  intro p e s m below meth c S hr hlk hI ls hl
  have S : CallFix p m c cX8_must 5 s ([.ref (a 0), .int (nI ci), .int (nI 0), .int (nI k)] : List Value).toArray lw_tb RX8 := S
  have hl : lv_has ls 5 [(0, .ref (a 0)), (1, .int (nI ci)), (2, .int (nI 0)), (3, .int (nI k))] := hl
  have hS : va_S (adA a 13) s.heap s.heap [] := va_S.rf
  obtain ⟨gw1, gw2, gn, gl1, gl2, gop, gmu, gba, gla, gen, gpr, gop2, gmu2, gba2, gla2, gme, gbe, gle, gee⟩ := id hG
  refine lv_aload_n S.1 S.2.1 dX8_must_0 rfl (lv_at hl 0 rfl) ?_
  refine lv_iload_n S.1 S.2.1 dX8_must_1 rfl (lv_at hl 1 rfl) ?_
  refine kX8_isCourse S hI hG tw_673 (rok (by decide)) hl.1 (Nat.le_of_ble_eq_true rfl) dX8_must_2 ?_
  refine ly_ifne (tgt := 10) S bI_e2 bI_e1 dX8_must_5 (by decide) (fun h1 => ?_) (fun h1 => ?_)
  · skip
    refine lv_iload_n S.1 S.2.1 dX8_must_10 rfl (lv_at hl 2 rfl) ?_
    refine lv_iconst (v := nI 0) S.1 S.2.1 dX8_must_11 (by decide) ?_
    refine lv_iconst (v := nI 1) S.1 S.2.1 dX8_must_12 (by decide) ?_
    refine kX8_within S  tw_658 (rok (by decide)) hl.1 (Nat.le_of_ble_eq_true rfl) dX8_must_13 ?_
    refine ly_ifeq (tgt := 27) S bI_e1 bI_e2 dX8_must_16 (by decide) (fun h2 => ?_) (fun h2 => ?_)
    · skip
      exact absurd h2 (by rw [wiN (by omega) (by omega) (by omega)]; decide)
    · skip
      refine lv_aload_n S.1 S.2.1 dX8_must_19 rfl (lv_at hl 0 rfl) ?_
      refine lv_iload_n S.1 S.2.1 dX8_must_20 rfl (lv_at hl 3 rfl) ?_
      refine kX8_arePlaces S hI hG tw_681 (rok (by decide)) hl.1 (Nat.le_of_ble_eq_true rfl) dX8_must_21 ?_
      refine ly_ifne (tgt := 30) S bI_e2 bI_e1 dX8_must_24 (by decide) (fun h3 => ?_) (fun h3 => ?_)
      · skip
        refine lv_iload_n S.1 S.2.1 dX8_must_30 rfl (lv_at hl 2 rfl) ?_
        refine lv_iconst (v := nI 1) S.1 S.2.1 dX8_must_31 (by decide) ?_
        refine ly_cmne (tgt := 44) S (nI_e2 (by omega) (by omega)) (nI_e1 (by omega) (by omega)) dX8_must_32 (by decide) (fun h4 => ?_) (fun h4 => ?_)
        · skip
          refine lv_aload_n S.1 S.2.1 dX8_must_44 rfl (lv_at hl 0 rfl) ?_
          refine g8 S hI 0 rfl 4 (by decide) tw_611 rfl dX8_must_45 ?_
          refine lv_iload_n S.1 S.2.1 dX8_must_48 rfl (lv_at hl 1 rfl) ?_
          refine ly_iald (v := (nI (ba ci))) S hI 3 rfl (by omega) (by decide) rfl dX8_must_49 ?_
          refine lv_istore (lv' := [(4, .int (nI (ba ci))), (0, .ref (a 0)), (1, .int (nI ci)), (2, .int (nI 0)), (3, .int (nI k))]) S.1 S.2.1 dX8_must_50 hl (by decide) rfl (fun ls hl => ?_)
          refine lv_aload_n S.1 S.2.1 dX8_must_52 rfl (lv_at hl 1 rfl) ?_
          refine g8 S hI 0 rfl 3 (by decide) tw_610 rfl dX8_must_53 ?_
          refine lv_iload_n S.1 S.2.1 dX8_must_56 rfl (lv_at hl 2 rfl) ?_
          refine lv_iload_n S.1 S.2.1 dX8_must_57 rfl (lv_at hl 3 rfl) ?_
          refine lv_iconst (v := nI 1) S.1 S.2.1 dX8_must_58 (by decide) ?_
          refine ly_cmne (tgt := 66) S (nI_e2 (by omega) (by omega)) (nI_e1 (by omega) (by omega)) dX8_must_59 (by decide) (fun h5 => ?_) (fun h5 => ?_)
          · skip
            refine lv_aload_n S.1 S.2.1 dX8_must_66 rfl (lv_at hl 1 rfl) ?_
            refine g8 S hI 0 rfl 3 (by decide) tw_610 rfl dX8_must_67 ?_
            refine lv_iload_n S.1 S.2.1 dX8_must_70 rfl (lv_at hl 2 rfl) ?_
            refine ly_iald (v := (nI (mu ci))) S hI 2 rfl (by omega) (by decide) rfl dX8_must_71 ?_
            refine ly_iast (ws' := (mW K a w n lap op (va_up mu ci (mu ci)) ba la en pr sc)) S hI (mD hDis) hS 2 rfl (by omega) (by decide) ms_2 dX8_must_72 (fun H locs hI hS => ?_)
            refine lv_aload_n S.1 S.2.1 dX8_must_73 rfl (lv_at hl 1 rfl) ?_
            refine g8 S hI 0 rfl 4 (by decide) tw_611 rfl dX8_must_74 ?_
            refine lv_iload_n S.1 S.2.1 dX8_must_77 rfl (lv_at hl 2 rfl) ?_
            refine lv_iload_n S.1 S.2.1 dX8_must_78 rfl (lv_at hl 3 rfl) ?_
            refine lv_iconst (v := nI 1) S.1 S.2.1 dX8_must_79 (by decide) ?_
            refine ly_cmne (tgt := 92) S (nI_e2 (by omega) (by omega)) (nI_e1 (by omega) (by omega)) dX8_must_80 (by decide) (fun h6 => ?_) (fun h6 => ?_)
            · skip
              refine lv_iload_n S.1 S.2.1 dX8_must_92 rfl (lv_at hl 4 rfl) ?_
              refine ly_iast (ws' := (mW K a w n lap op (va_up mu ci (mu ci)) (va_up ba ci k) la en pr sc)) S hI (mD hDis) hS 3 rfl (by omega) (by decide) ms_3 dX8_must_93 (fun H locs hI hS => ?_)
              rw [va_up_id mu ci] at hI
              refine lv_iload S.1 S.2.1 dX8_must_94 (lv_at hl 0 rfl) ?_
              exact rw_i S hr hlk () rfl trivial hI hS dX8_must_96
            · skip
              exact absurd h6 (by decide)
          · skip
            exact absurd h5 (by decide)
        · skip
          exact absurd h4 (by decide)
      · skip
        exact absurd h3 (by rw [plI_n hk hk2 (by omega)]; decide)
  · skip
    exact absurd h1 (by rw [wiC (by omega) (by omega)]; decide)
theorem kX8_must_c0 {p : Program} {l : Launch} {e : Env} {R : Room} {s : State} {m : MethodId} {args : Array Value} {below : List Frame} {meth : Method} {c : Code} {H H0 : Heap} {locs : List Loc} {cells slots : Nat} {Q : State → Prop} {cc : ByteArray} {nL index pc : Nat} {own : String} {ls : Array Slot} {rest : List Value} {D : va_G} {K : Nat → ClassId} {a : Nat → Nat} {w n lap : Nat} {op mu ba la en : Nat → Nat} {pr : Nat → Option Nat} {sc : MSc} {ci : Nat} {k : Nat} (S : CallFix p m c cc nL s args lw_tb own) (hI : PI D K (mW K a w n lap op mu ba la en pr sc) s H) (hS : va_S (adA a 13) H0 H locs) (hDis : Dis a 13) (hG : GOK w n lap op mu ba la en pr) (hc : ci < n) (hk : k < 2 ^ w) (hk2 : k % 2 = 0) (hlink : Cond.methodLink own index yX8_must ∈ lw_tb) (hR : RO 2 R cells slots) (hsz : ls.size = nL) (hW : (rest.map fun v => v.category).sum ≤ 8) (hdg : decode cc pc = .ok (.invokevirtual index, 3)) (kk : ∀ (u : Unit) (H1 : Heap) (locs1 : List Loc), True → PI D K (mW K a w n lap op mu (va_up ba ci k) la en pr sc) s H1 → va_S (adA a 13) H0 H1 locs1 → H.size ≤ H1.size → (∀ q : Nat, q < H.size → ¬ (adA a 13) q → H1[q]? = H[q]?) → W p l e R s m args below meth c H1 locs1 cells slots Q (F0 m (pc + 3) ls ((.int (nI (ba ci))) :: rest))) : W p l e R s m args below meth c H locs cells slots Q (F0 m pc ls (.int (nI k) :: .int (nI 0) :: .int (nI ci) :: .ref (a 0) :: rest)) :=
  kVX (As := [.int (nI ci), .int (nI 0), .int (nI k)]) (b := a 0) S (mX8_must_c0 l hDis hG hc hk hk2) hlink tw_678 tw_679 tw_50 tw_680 (by show _ ∧ _ ∧ _ = some 3; decide +kernel) (by decide) hR blP (piU hI) (va_recv hI.2 hI.1 (ci := 8) (q0 := 0) rfl rfl) hS (fun _ h => h) hsz rfl hW hdg kk

set_option maxHeartbeats 4000000 in
set_option maxRecDepth 100000 in
theorem mX8_price_a (l : Launch) {D : va_G} {K : Nat → ClassId} {a : Nat → Nat} {w n lap : Nat} {op mu ba la en : Nat → Nat} {pr : Nat → Option Nat} {sc : MSc} {le : Int32} {v : Int32} (hG : GOK w n lap op mu ba la en pr) (hv : (wiI le (nI 1) (nI 6) && (decide (v = -9) || wiI v (nI 0) (nI 99))) = false) : Met l yX8_price (TWd yX8_price cX8_price 4 (some .int)) (rmk 1) (va_Pc [.ref (a 0), .int le, .int v] (fun U => PI D K (mW K a w n lap op mu ba la en pr sc) U U.heap)) (QcRead ((-2))) 0 0 (fun _ => False) := by
  refine mt_of (by decide +kernel) (Nat.le_of_ble_eq_true rfl) ?_
  intro p e s m below meth c S hr hlk hI ls hl
  have S : CallFix p m c cX8_price 4 s ([.ref (a 0), .int le, .int v] : List Value).toArray lw_tb RX8 := S
  have hl : lv_has ls 4 [(0, .ref (a 0)), (1, .int le), (2, .int v)] := hl
  obtain ⟨gw1, gw2, gn, gl1, gl2, gop, gmu, gba, gla, gen, gpr, gop2, gmu2, gba2, gla2, gme, gbe, gle, gee⟩ := id hG
  refine lv_iload_n S.1 S.2.1 dX8_price_0 rfl (lv_at hl 1 rfl) ?_
  refine lv_iconst (v := nI 1) S.1 S.2.1 dX8_price_1 (by decide) ?_
  refine lv_bipush (v := nI 6) S.1 S.2.1 dX8_price_2 (by decide) ?_
  refine kX8_within S  tw_658 (rok (by decide)) hl.1 (Nat.le_of_ble_eq_true rfl) dX8_price_4 ?_
  refine ly_ifeq (tgt := 26) S bI_e1 bI_e2 dX8_price_7 (by decide) (fun h1 => ?_) (fun h1 => ?_)
  · skip
    refine lv_bipush (v := (-2)) S.1 S.2.1 dX8_price_26 (by decide) ?_
    exact rt_i S hr hlk rfl dX8_price_28
  · skip
    refine lv_iload_n S.1 S.2.1 dX8_price_10 rfl (lv_at hl 2 rfl) ?_
    refine lv_bipush (v := (-9)) S.1 S.2.1 dX8_price_11 (by decide) ?_
    refine ly_cmeq (tgt := 29) S (fun q => q) (fun q => q) dX8_price_13 (by decide) (fun h2 => ?_) (fun h2 => ?_)
    · skip
      exact absurd hv (by simp [h1, h2])
    · skip
      refine lv_iload_n S.1 S.2.1 dX8_price_16 rfl (lv_at hl 2 rfl) ?_
      refine lv_iconst (v := nI 0) S.1 S.2.1 dX8_price_17 (by decide) ?_
      refine lv_bipush (v := nI 99) S.1 S.2.1 dX8_price_18 (by decide) ?_
      refine kX8_within S  tw_658 (rok (by decide)) hl.1 (Nat.le_of_ble_eq_true rfl) dX8_price_20 ?_
      refine ly_ifne (tgt := 29) S bI_e2 bI_e1 dX8_price_23 (by decide) (fun h3 => ?_) (fun h3 => ?_)
      · skip
        exact absurd hv (by simp [h1, h2, h3])
      · skip
        refine lv_bipush (v := (-2)) S.1 S.2.1 dX8_price_26 (by decide) ?_
        exact rt_i S hr hlk rfl dX8_price_28
theorem kX8_price_a {p : Program} {l : Launch} {e : Env} {R : Room} {s : State} {m : MethodId} {args : Array Value} {below : List Frame} {meth : Method} {c : Code} {H : Heap} {locs : List Loc} {cells slots : Nat} {Q : State → Prop} {cc : ByteArray} {nL index pc : Nat} {own : String} {ls : Array Slot} {rest : List Value} {D : va_G} {K : Nat → ClassId} {a : Nat → Nat} {w n lap : Nat} {op mu ba la en : Nat → Nat} {pr : Nat → Option Nat} {sc : MSc} {le : Int32} {v : Int32} (S : CallFix p m c cc nL s args lw_tb own) (hI : PI D K (mW K a w n lap op mu ba la en pr sc) s H) (hG : GOK w n lap op mu ba la en pr) (hv : (wiI le (nI 1) (nI 6) && (decide (v = -9) || wiI v (nI 0) (nI 99))) = false) (hlink : Cond.methodLink own index yX8_price ∈ lw_tb) (hR : RO 1 R cells slots) (hsz : ls.size = nL) (hW : (rest.map fun v => v.category).sum ≤ 8) (hdg : decode cc pc = .ok (.invokevirtual index, 3)) (kk : W p l e R s m args below meth c H locs cells slots Q (F0 m (pc + 3) ls (.int ((-2)) :: rest))) : W p l e R s m args below meth c H locs cells slots Q (F0 m pc ls (.int v :: .int le :: .ref (a 0) :: rest)) :=
  kV (As := [.int le, .int v]) (b := a 0) S (mX8_price_a l hG hv) hlink tw_686 tw_687 tw_50 tw_688 (by show _ ∧ _ ∧ _ = some 2; decide +kernel) (by decide) hR blP (piU hI) (va_recv hI.2 hI.1 (ci := 8) (q0 := 0) rfl rfl) hsz rfl hW hdg kk

set_option maxHeartbeats 4000000 in
set_option maxRecDepth 100000 in
theorem mX8_price_b (l : Launch) {D : va_G} {K : Nat → ClassId} {a : Nat → Nat} {w n lap : Nat} {op mu ba la en : Nat → Nat} {pr : Nat → Option Nat} {sc : MSc} {L : Nat} {q : Option Nat} (hDis : Dis a 13) (hG : GOK w n lap op mu ba la en pr) (hL1 : 1 ≤ L) (hL2 : L ≤ 6) (hq : ∀ k, q = some k → k ≤ 99) : Met l yX8_price (TWd yX8_price cX8_price 4 (some .int)) (rmk 1) (va_Pc [.ref (a 0), .int (nI L), .int (pI q)] (fun U => PI D K (mW K a w n lap op mu ba la en pr sc) U U.heap)) (QX D K (fun u : Unit => some (.int (pI (pr L)))) (fun u => (mW K a w n lap op mu ba la en (va_up pr L q) sc)) (fun u => True) (adA a 13)) 0 0 (adA a 13) := by
  refine mt_of (by decide +kernel) (Nat.le_of_ble_eq_true rfl) ?_
  intro p e s m below meth c S hr hlk hI ls hl
  have S : CallFix p m c cX8_price 4 s ([.ref (a 0), .int (nI L), .int (pI q)] : List Value).toArray lw_tb RX8 := S
  have hl : lv_has ls 4 [(0, .ref (a 0)), (1, .int (nI L)), (2, .int (pI q))] := hl
  have hS : va_S (adA a 13) s.heap s.heap [] := va_S.rf
  obtain ⟨gw1, gw2, gn, gl1, gl2, gop, gmu, gba, gla, gen, gpr, gop2, gmu2, gba2, gla2, gme, gbe, gle, gee⟩ := id hG
  refine lv_iload_n S.1 S.2.1 dX8_price_0 rfl (lv_at hl 1 rfl) ?_
  refine lv_iconst (v := nI 1) S.1 S.2.1 dX8_price_1 (by decide) ?_
  refine lv_bipush (v := nI 6) S.1 S.2.1 dX8_price_2 (by decide) ?_
  refine kX8_within S  tw_658 (rok (by decide)) hl.1 (Nat.le_of_ble_eq_true rfl) dX8_price_4 ?_
  refine ly_ifeq (tgt := 26) S bI_e1 bI_e2 dX8_price_7 (by decide) (fun h1 => ?_) (fun h1 => ?_)
  · skip
    exact absurd h1 (by rw [wiN (by omega) (by omega) (by omega)]; decide)
  · skip
    refine lv_iload_n S.1 S.2.1 dX8_price_10 rfl (lv_at hl 2 rfl) ?_
    refine lv_bipush (v := (-9)) S.1 S.2.1 dX8_price_11 (by decide) ?_
    refine ly_cmeq (tgt := 29) S (fun q => q) (fun q => q) dX8_price_13 (by decide) (fun h2 => ?_) (fun h2 => ?_)
    · skip
      refine lv_aload_n S.1 S.2.1 dX8_price_29 rfl (lv_at hl 0 rfl) ?_
      refine g8 S hI 0 rfl 6 (by decide) tw_613 rfl dX8_price_30 ?_
      refine lv_iload_n S.1 S.2.1 dX8_price_33 rfl (lv_at hl 1 rfl) ?_
      refine ly_iald (v := (pz 0 pr L)) S hI 5 rfl (by omega) (by decide) rfl dX8_price_34 ?_
      refine ly_top (z := (pI (pr L))) (by unfold pz; rw [if_neg (by omega)]) ?_
      refine lv_istore_n (lv' := [(3, .int (pI (pr L))), (0, .ref (a 0)), (1, .int (nI L)), (2, .int (pI q))]) S.1 S.2.1 dX8_price_35 rfl hl (by decide) rfl (fun ls hl => ?_)
      refine lv_aload_n S.1 S.2.1 dX8_price_36 rfl (lv_at hl 1 rfl) ?_
      refine g8 S hI 0 rfl 6 (by decide) tw_613 rfl dX8_price_37 ?_
      refine lv_iload_n S.1 S.2.1 dX8_price_40 rfl (lv_at hl 2 rfl) ?_
      refine lv_iload_n S.1 S.2.1 dX8_price_41 rfl (lv_at hl 3 rfl) ?_
      refine ly_iast (ws' := (mW K a w n lap op mu ba la en (va_up pr L q) sc)) S hI (mD hDis) hS 5 rfl (by omega) (by decide) (ms_5 (by omega)) dX8_price_42 (fun H locs hI hS => ?_)
      refine lv_iload_n S.1 S.2.1 dX8_price_43 rfl (lv_at hl 0 rfl) ?_
      exact rw_i S hr hlk () rfl trivial hI hS dX8_price_44
    · skip
      refine lv_iload_n S.1 S.2.1 dX8_price_16 rfl (lv_at hl 2 rfl) ?_
      refine lv_iconst (v := nI 0) S.1 S.2.1 dX8_price_17 (by decide) ?_
      refine lv_bipush (v := nI 99) S.1 S.2.1 dX8_price_18 (by decide) ?_
      refine kX8_within S  tw_658 (rok (by decide)) hl.1 (Nat.le_of_ble_eq_true rfl) dX8_price_20 ?_
      refine ly_ifne (tgt := 29) S bI_e2 bI_e1 dX8_price_23 (by decide) (fun h3 => ?_) (fun h3 => ?_)
      · skip
        refine lv_aload_n S.1 S.2.1 dX8_price_29 rfl (lv_at hl 0 rfl) ?_
        refine g8 S hI 0 rfl 6 (by decide) tw_613 rfl dX8_price_30 ?_
        refine lv_iload_n S.1 S.2.1 dX8_price_33 rfl (lv_at hl 1 rfl) ?_
        refine ly_iald (v := (pz 0 pr L)) S hI 5 rfl (by omega) (by decide) rfl dX8_price_34 ?_
        refine ly_top (z := (pI (pr L))) (by unfold pz; rw [if_neg (by omega)]) ?_
        refine lv_istore_n (lv' := [(3, .int (pI (pr L))), (0, .ref (a 0)), (1, .int (nI L)), (2, .int (pI q))]) S.1 S.2.1 dX8_price_35 rfl hl (by decide) rfl (fun ls hl => ?_)
        refine lv_aload_n S.1 S.2.1 dX8_price_36 rfl (lv_at hl 1 rfl) ?_
        refine g8 S hI 0 rfl 6 (by decide) tw_613 rfl dX8_price_37 ?_
        refine lv_iload_n S.1 S.2.1 dX8_price_40 rfl (lv_at hl 2 rfl) ?_
        refine lv_iload_n S.1 S.2.1 dX8_price_41 rfl (lv_at hl 3 rfl) ?_
        refine ly_iast (ws' := (mW K a w n lap op mu ba la en (va_up pr L q) sc)) S hI (mD hDis) hS 5 rfl (by omega) (by decide) (ms_5 (by omega)) dX8_price_42 (fun H locs hI hS => ?_)
        refine lv_iload_n S.1 S.2.1 dX8_price_43 rfl (lv_at hl 0 rfl) ?_
        exact rw_i S hr hlk () rfl trivial hI hS dX8_price_44
      · skip
        exact absurd h3 (by rw [pI_w hq h2]; decide)
theorem kX8_price_b {p : Program} {l : Launch} {e : Env} {R : Room} {s : State} {m : MethodId} {args : Array Value} {below : List Frame} {meth : Method} {c : Code} {H H0 : Heap} {locs : List Loc} {cells slots : Nat} {Q : State → Prop} {cc : ByteArray} {nL index pc : Nat} {own : String} {ls : Array Slot} {rest : List Value} {D : va_G} {K : Nat → ClassId} {a : Nat → Nat} {w n lap : Nat} {op mu ba la en : Nat → Nat} {pr : Nat → Option Nat} {sc : MSc} {L : Nat} {q : Option Nat} (S : CallFix p m c cc nL s args lw_tb own) (hI : PI D K (mW K a w n lap op mu ba la en pr sc) s H) (hS : va_S (adA a 13) H0 H locs) (hDis : Dis a 13) (hG : GOK w n lap op mu ba la en pr) (hL1 : 1 ≤ L) (hL2 : L ≤ 6) (hq : ∀ k, q = some k → k ≤ 99) (hlink : Cond.methodLink own index yX8_price ∈ lw_tb) (hR : RO 1 R cells slots) (hsz : ls.size = nL) (hW : (rest.map fun v => v.category).sum ≤ 8) (hdg : decode cc pc = .ok (.invokevirtual index, 3)) (kk : ∀ (u : Unit) (H1 : Heap) (locs1 : List Loc), True → PI D K (mW K a w n lap op mu ba la en (va_up pr L q) sc) s H1 → va_S (adA a 13) H0 H1 locs1 → H.size ≤ H1.size → (∀ q : Nat, q < H.size → ¬ (adA a 13) q → H1[q]? = H[q]?) → W p l e R s m args below meth c H1 locs1 cells slots Q (F0 m (pc + 3) ls ((.int (pI (pr L))) :: rest))) : W p l e R s m args below meth c H locs cells slots Q (F0 m pc ls (.int (pI q) :: .int (nI L) :: .ref (a 0) :: rest)) :=
  kVX (As := [.int (nI L), .int (pI q)]) (b := a 0) S (mX8_price_b l hDis hG hL1 hL2 hq) hlink tw_686 tw_687 tw_50 tw_688 (by show _ ∧ _ ∧ _ = some 2; decide +kernel) (by decide) hR blP (piU hI) (va_recv hI.2 hI.1 (ci := 8) (q0 := 0) rfl rfl) hS (fun _ h => h) hsz rfl hW hdg kk

set_option maxHeartbeats 4000000 in
set_option maxRecDepth 100000 in
theorem mX8_lap_a (l : Launch) {D : va_G} {K : Nat → ClassId} {a : Nat → Nat} {w n lap : Nat} {op mu ba la en : Nat → Nat} {pr : Nat → Option Nat} {sc : MSc} {v : Int32} (hG : GOK w n lap op mu ba la en pr) (hv : wiI v (nI 1) (nI 3) = false) : Met l yX8_lap (TWd yX8_lap cX8_lap 3 (some .int)) (rmk 1) (va_Pc [.ref (a 0), .int v] (fun U => PI D K (mW K a w n lap op mu ba la en pr sc) U U.heap)) (QcRead ((-2))) 0 0 (fun _ => False) := by
  refine mt_of (by decide +kernel) (Nat.le_of_ble_eq_true rfl) ?_
  intro p e s m below meth c S hr hlk hI ls hl
  have S : CallFix p m c cX8_lap 3 s ([.ref (a 0), .int v] : List Value).toArray lw_tb RX8 := S
  have hl : lv_has ls 3 [(0, .ref (a 0)), (1, .int v)] := hl
  obtain ⟨gw1, gw2, gn, gl1, gl2, gop, gmu, gba, gla, gen, gpr, gop2, gmu2, gba2, gla2, gme, gbe, gle, gee⟩ := id hG
  refine lv_iload_n S.1 S.2.1 dX8_lap_0 rfl (lv_at hl 1 rfl) ?_
  refine lv_iconst (v := nI 1) S.1 S.2.1 dX8_lap_1 (by decide) ?_
  refine lv_iconst (v := nI 3) S.1 S.2.1 dX8_lap_2 (by decide) ?_
  refine kX8_within S  tw_658 (rok (by decide)) hl.1 (Nat.le_of_ble_eq_true rfl) dX8_lap_3 ?_
  refine ly_ifne (tgt := 12) S bI_e2 bI_e1 dX8_lap_6 (by decide) (fun h1 => ?_) (fun h1 => ?_)
  · skip
    exact absurd h1 (by rw [hv]; decide)
  · skip
    refine lv_bipush (v := (-2)) S.1 S.2.1 dX8_lap_9 (by decide) ?_
    exact rt_i S hr hlk rfl dX8_lap_11
theorem kX8_lap_a {p : Program} {l : Launch} {e : Env} {R : Room} {s : State} {m : MethodId} {args : Array Value} {below : List Frame} {meth : Method} {c : Code} {H : Heap} {locs : List Loc} {cells slots : Nat} {Q : State → Prop} {cc : ByteArray} {nL index pc : Nat} {own : String} {ls : Array Slot} {rest : List Value} {D : va_G} {K : Nat → ClassId} {a : Nat → Nat} {w n lap : Nat} {op mu ba la en : Nat → Nat} {pr : Nat → Option Nat} {sc : MSc} {v : Int32} (S : CallFix p m c cc nL s args lw_tb own) (hI : PI D K (mW K a w n lap op mu ba la en pr sc) s H) (hG : GOK w n lap op mu ba la en pr) (hv : wiI v (nI 1) (nI 3) = false) (hlink : Cond.methodLink own index yX8_lap ∈ lw_tb) (hR : RO 1 R cells slots) (hsz : ls.size = nL) (hW : (rest.map fun v => v.category).sum ≤ 8) (hdg : decode cc pc = .ok (.invokevirtual index, 3)) (kk : W p l e R s m args below meth c H locs cells slots Q (F0 m (pc + 3) ls (.int ((-2)) :: rest))) : W p l e R s m args below meth c H locs cells slots Q (F0 m pc ls (.int v :: .ref (a 0) :: rest)) :=
  kV (As := [.int v]) (b := a 0) S (mX8_lap_a l hG hv) hlink tw_690 tw_691 tw_50 tw_692 (by show _ ∧ _ ∧ _ = some 1; decide +kernel) (by decide) hR blP (piU hI) (va_recv hI.2 hI.1 (ci := 8) (q0 := 0) rfl rfl) hsz rfl hW hdg kk

set_option maxHeartbeats 4000000 in
set_option maxRecDepth 100000 in
theorem mX8_lap_b (l : Launch) {D : va_G} {K : Nat → ClassId} {a : Nat → Nat} {w n lap : Nat} {op mu ba la en : Nat → Nat} {pr : Nat → Option Nat} {sc : MSc} {k : Nat} (hDis : Dis a 13) (hG : GOK w n lap op mu ba la en pr) (h1 : 1 ≤ k) (h2 : k ≤ 3) : Met l yX8_lap (TWd yX8_lap cX8_lap 3 (some .int)) (rmk 1) (va_Pc [.ref (a 0), .int (nI k)] (fun U => PI D K (mW K a w n lap op mu ba la en pr sc) U U.heap)) (QX D K (fun u : Unit => some (.int (nI lap))) (fun u => (mW K a w n k op mu ba la en pr sc)) (fun u => True) (adA a 13)) 0 0 (adA a 13) := by
  refine mt_of (by decide +kernel) (Nat.le_of_ble_eq_true rfl) ?_
  intro p e s m below meth c S hr hlk hI ls hl
  have S : CallFix p m c cX8_lap 3 s ([.ref (a 0), .int (nI k)] : List Value).toArray lw_tb RX8 := S
  have hl : lv_has ls 3 [(0, .ref (a 0)), (1, .int (nI k))] := hl
  have hS : va_S (adA a 13) s.heap s.heap [] := va_S.rf
  obtain ⟨gw1, gw2, gn, gl1, gl2, gop, gmu, gba, gla, gen, gpr, gop2, gmu2, gba2, gla2, gme, gbe, gle, gee⟩ := id hG
  refine lv_iload_n S.1 S.2.1 dX8_lap_0 rfl (lv_at hl 1 rfl) ?_
  refine lv_iconst (v := nI 1) S.1 S.2.1 dX8_lap_1 (by decide) ?_
  refine lv_iconst (v := nI 3) S.1 S.2.1 dX8_lap_2 (by decide) ?_
  refine kX8_within S  tw_658 (rok (by decide)) hl.1 (Nat.le_of_ble_eq_true rfl) dX8_lap_3 ?_
  refine ly_ifne (tgt := 12) S bI_e2 bI_e1 dX8_lap_6 (by decide) (fun h1 => ?_) (fun h1 => ?_)
  · skip
    refine lv_aload_n S.1 S.2.1 dX8_lap_12 rfl (lv_at hl 0 rfl) ?_
    refine g8 S hI 0 rfl 8 (by decide) tw_615 rfl dX8_lap_13 ?_
    refine lv_istore_n (lv' := [(2, .int (nI lap)), (0, .ref (a 0)), (1, .int (nI k))]) S.1 S.2.1 dX8_lap_16 rfl hl (by decide) rfl (fun ls hl => ?_)
    refine lv_aload_n S.1 S.2.1 dX8_lap_17 rfl (lv_at hl 1 rfl) ?_
    refine lv_iload_n S.1 S.2.1 dX8_lap_18 rfl (lv_at hl 2 rfl) ?_
    refine p8 (ws' := (mW K a w n k op mu ba la en pr sc)) S hI (mD hDis) hS 0 rfl 8 (by decide) tw_615 rfl rfl rfl rfl (Nat.le_of_ble_eq_true rfl) rfl dX8_lap_19 (fun H locs hI hS => ?_)
    refine lv_iload_n S.1 S.2.1 dX8_lap_22 rfl (lv_at hl 0 rfl) ?_
    exact rw_i S hr hlk () rfl trivial hI hS dX8_lap_23
  · skip
    exact absurd h1 (by rw [wiN (by omega) (by omega) (by omega)]; decide)
theorem kX8_lap_b {p : Program} {l : Launch} {e : Env} {R : Room} {s : State} {m : MethodId} {args : Array Value} {below : List Frame} {meth : Method} {c : Code} {H H0 : Heap} {locs : List Loc} {cells slots : Nat} {Q : State → Prop} {cc : ByteArray} {nL index pc : Nat} {own : String} {ls : Array Slot} {rest : List Value} {D : va_G} {K : Nat → ClassId} {a : Nat → Nat} {w n lap : Nat} {op mu ba la en : Nat → Nat} {pr : Nat → Option Nat} {sc : MSc} {k : Nat} (S : CallFix p m c cc nL s args lw_tb own) (hI : PI D K (mW K a w n lap op mu ba la en pr sc) s H) (hS : va_S (adA a 13) H0 H locs) (hDis : Dis a 13) (hG : GOK w n lap op mu ba la en pr) (h1 : 1 ≤ k) (h2 : k ≤ 3) (hlink : Cond.methodLink own index yX8_lap ∈ lw_tb) (hR : RO 1 R cells slots) (hsz : ls.size = nL) (hW : (rest.map fun v => v.category).sum ≤ 8) (hdg : decode cc pc = .ok (.invokevirtual index, 3)) (kk : ∀ (u : Unit) (H1 : Heap) (locs1 : List Loc), True → PI D K (mW K a w n k op mu ba la en pr sc) s H1 → va_S (adA a 13) H0 H1 locs1 → H.size ≤ H1.size → (∀ q : Nat, q < H.size → ¬ (adA a 13) q → H1[q]? = H[q]?) → W p l e R s m args below meth c H1 locs1 cells slots Q (F0 m (pc + 3) ls ((.int (nI lap)) :: rest))) : W p l e R s m args below meth c H locs cells slots Q (F0 m pc ls (.int (nI k) :: .ref (a 0) :: rest)) :=
  kVX (As := [.int (nI k)]) (b := a 0) S (mX8_lap_b l hDis hG h1 h2) hlink tw_690 tw_691 tw_50 tw_692 (by show _ ∧ _ ∧ _ = some 1; decide +kernel) (by decide) hR blP (piU hI) (va_recv hI.2 hI.1 (ci := 8) (q0 := 0) rfl rfl) hS (fun _ h => h) hsz rfl hW hdg kk

set_option maxHeartbeats 4000000 in
set_option maxRecDepth 100000 in
theorem mX8_ends_a (l : Launch) {D : va_G} {K : Nat → ClassId} {a : Nat → Nat} {w n lap : Nat} {op mu ba la en : Nat → Nat} {pr : Nat → Option Nat} {sc : MSc} {od : Int32} {sd : Int32} {z : Int32} (hG : GOK w n lap op mu ba la en pr) (hv : (wiI od (nI 0) (nI 1) && wiI sd (nI 0) (nI 1) && wiI z (nI 0) (nI 126) && !decide (z - z / nI 2 * nI 2 = nI 1)) = false) : Met l yX8_ends (TWd yX8_ends cX8_ends 5 (some .int)) (rmk 1) (va_Pc [.ref (a 0), .int od, .int sd, .int z] (fun U => PI D K (mW K a w n lap op mu ba la en pr sc) U U.heap)) (QcRead ((-2))) 0 0 (fun _ => False) := by
  refine mt_of (by decide +kernel) (Nat.le_of_ble_eq_true rfl) ?_
  intro p e s m below meth c S hr hlk hI ls hl
  have S : CallFix p m c cX8_ends 5 s ([.ref (a 0), .int od, .int sd, .int z] : List Value).toArray lw_tb RX8 := S
  have hl : lv_has ls 5 [(0, .ref (a 0)), (1, .int od), (2, .int sd), (3, .int z)] := hl
  obtain ⟨gw1, gw2, gn, gl1, gl2, gop, gmu, gba, gla, gen, gpr, gop2, gmu2, gba2, gla2, gme, gbe, gle, gee⟩ := id hG
  refine lv_iload_n S.1 S.2.1 dX8_ends_0 rfl (lv_at hl 1 rfl) ?_
  refine lv_iconst (v := nI 0) S.1 S.2.1 dX8_ends_1 (by decide) ?_
  refine lv_iconst (v := nI 1) S.1 S.2.1 dX8_ends_2 (by decide) ?_
  refine kX8_within S  tw_658 (rok (by decide)) hl.1 (Nat.le_of_ble_eq_true rfl) dX8_ends_3 ?_
  refine ly_ifeq (tgt := 35) S bI_e1 bI_e2 dX8_ends_6 (by decide) (fun h1 => ?_) (fun h1 => ?_)
  · skip
    refine lv_bipush (v := (-2)) S.1 S.2.1 dX8_ends_35 (by decide) ?_
    exact rt_i S hr hlk rfl dX8_ends_37
  · skip
    refine lv_iload_n S.1 S.2.1 dX8_ends_9 rfl (lv_at hl 2 rfl) ?_
    refine lv_iconst (v := nI 0) S.1 S.2.1 dX8_ends_10 (by decide) ?_
    refine lv_iconst (v := nI 1) S.1 S.2.1 dX8_ends_11 (by decide) ?_
    refine kX8_within S  tw_658 (rok (by decide)) hl.1 (Nat.le_of_ble_eq_true rfl) dX8_ends_12 ?_
    refine ly_ifeq (tgt := 35) S bI_e1 bI_e2 dX8_ends_15 (by decide) (fun h2 => ?_) (fun h2 => ?_)
    · skip
      refine lv_bipush (v := (-2)) S.1 S.2.1 dX8_ends_35 (by decide) ?_
      exact rt_i S hr hlk rfl dX8_ends_37
    · skip
      refine lv_iload_n S.1 S.2.1 dX8_ends_18 rfl (lv_at hl 3 rfl) ?_
      refine lv_iconst (v := nI 0) S.1 S.2.1 dX8_ends_19 (by decide) ?_
      refine lv_bipush (v := nI 126) S.1 S.2.1 dX8_ends_20 (by decide) ?_
      refine kX8_within S  tw_658 (rok (by decide)) hl.1 (Nat.le_of_ble_eq_true rfl) dX8_ends_22 ?_
      refine ly_ifeq (tgt := 35) S bI_e1 bI_e2 dX8_ends_25 (by decide) (fun h3 => ?_) (fun h3 => ?_)
      · skip
        refine lv_bipush (v := (-2)) S.1 S.2.1 dX8_ends_35 (by decide) ?_
        exact rt_i S hr hlk rfl dX8_ends_37
      · skip
        refine lv_iload_n S.1 S.2.1 dX8_ends_28 rfl (lv_at hl 3 rfl) ?_
        refine lv_iconst (v := nI 2) S.1 S.2.1 dX8_ends_29 (by decide) ?_
        refine lv_irem S.1 S.2.1 dX8_ends_30 (by decide) ?_
        refine lv_iconst (v := nI 1) S.1 S.2.1 dX8_ends_31 (by decide) ?_
        refine ly_cmne (tgt := 38) S (fun q => q) (fun q => q) dX8_ends_32 (by decide) (fun h4 => ?_) (fun h4 => ?_)
        · skip
          exact absurd hv (by simp [h1, h2, h3, h4])
        · skip
          refine lv_bipush (v := (-2)) S.1 S.2.1 dX8_ends_35 (by decide) ?_
          exact rt_i S hr hlk rfl dX8_ends_37
theorem kX8_ends_a {p : Program} {l : Launch} {e : Env} {R : Room} {s : State} {m : MethodId} {args : Array Value} {below : List Frame} {meth : Method} {c : Code} {H : Heap} {locs : List Loc} {cells slots : Nat} {Q : State → Prop} {cc : ByteArray} {nL index pc : Nat} {own : String} {ls : Array Slot} {rest : List Value} {D : va_G} {K : Nat → ClassId} {a : Nat → Nat} {w n lap : Nat} {op mu ba la en : Nat → Nat} {pr : Nat → Option Nat} {sc : MSc} {od : Int32} {sd : Int32} {z : Int32} (S : CallFix p m c cc nL s args lw_tb own) (hI : PI D K (mW K a w n lap op mu ba la en pr sc) s H) (hG : GOK w n lap op mu ba la en pr) (hv : (wiI od (nI 0) (nI 1) && wiI sd (nI 0) (nI 1) && wiI z (nI 0) (nI 126) && !decide (z - z / nI 2 * nI 2 = nI 1)) = false) (hlink : Cond.methodLink own index yX8_ends ∈ lw_tb) (hR : RO 1 R cells slots) (hsz : ls.size = nL) (hW : (rest.map fun v => v.category).sum ≤ 8) (hdg : decode cc pc = .ok (.invokevirtual index, 3)) (kk : W p l e R s m args below meth c H locs cells slots Q (F0 m (pc + 3) ls (.int ((-2)) :: rest))) : W p l e R s m args below meth c H locs cells slots Q (F0 m pc ls (.int z :: .int sd :: .int od :: .ref (a 0) :: rest)) :=
  kV (As := [.int od, .int sd, .int z]) (b := a 0) S (mX8_ends_a l hG hv) hlink tw_694 tw_695 tw_50 tw_696 (by show _ ∧ _ ∧ _ = some 3; decide +kernel) (by decide) hR blP (piU hI) (va_recv hI.2 hI.1 (ci := 8) (q0 := 0) rfl rfl) hsz rfl hW hdg kk

set_option maxHeartbeats 4000000 in
set_option maxRecDepth 100000 in
theorem mX8_ends_b (l : Launch) {D : va_G} {K : Nat → ClassId} {a : Nat → Nat} {w n lap : Nat} {op mu ba la en : Nat → Nat} {pr : Nat → Option Nat} {sc : MSc} {od : Nat} {sd : Nat} {k : Nat} (hDis : Dis a 13) (hG : GOK w n lap op mu ba la en pr) (h1 : od ≤ 1) (h2 : sd ≤ 1) (h3 : k ≤ 126) (h4 : k % 2 = 0) : Met l yX8_ends (TWd yX8_ends cX8_ends 5 (some .int)) (rmk 1) (va_Pc [.ref (a 0), .int (nI od), .int (nI sd), .int (nI k)] (fun U => PI D K (mW K a w n lap op mu ba la en pr sc) U U.heap)) (QX D K (fun u : Unit => some (.int (nI (en (2 * od + sd))))) (fun u => (mW K a w n lap op mu ba la (va_up en (2 * od + sd) k) pr sc)) (fun u => True) (adA a 13)) 0 0 (adA a 13) := by
  refine mt_of (by decide +kernel) (Nat.le_of_ble_eq_true rfl) ?_
  intro p e s m below meth c S hr hlk hI ls hl
  have S : CallFix p m c cX8_ends 5 s ([.ref (a 0), .int (nI od), .int (nI sd), .int (nI k)] : List Value).toArray lw_tb RX8 := S
  have hl : lv_has ls 5 [(0, .ref (a 0)), (1, .int (nI od)), (2, .int (nI sd)), (3, .int (nI k))] := hl
  have hS : va_S (adA a 13) s.heap s.heap [] := va_S.rf
  obtain ⟨gw1, gw2, gn, gl1, gl2, gop, gmu, gba, gla, gen, gpr, gop2, gmu2, gba2, gla2, gme, gbe, gle, gee⟩ := id hG
  refine lv_iload_n S.1 S.2.1 dX8_ends_0 rfl (lv_at hl 1 rfl) ?_
  refine lv_iconst (v := nI 0) S.1 S.2.1 dX8_ends_1 (by decide) ?_
  refine lv_iconst (v := nI 1) S.1 S.2.1 dX8_ends_2 (by decide) ?_
  refine kX8_within S  tw_658 (rok (by decide)) hl.1 (Nat.le_of_ble_eq_true rfl) dX8_ends_3 ?_
  refine ly_ifeq (tgt := 35) S bI_e1 bI_e2 dX8_ends_6 (by decide) (fun h1 => ?_) (fun h1 => ?_)
  · skip
    exact absurd h1 (by rw [wiN (by omega) (by omega) (by omega)]; decide)
  · skip
    refine lv_iload_n S.1 S.2.1 dX8_ends_9 rfl (lv_at hl 2 rfl) ?_
    refine lv_iconst (v := nI 0) S.1 S.2.1 dX8_ends_10 (by decide) ?_
    refine lv_iconst (v := nI 1) S.1 S.2.1 dX8_ends_11 (by decide) ?_
    refine kX8_within S  tw_658 (rok (by decide)) hl.1 (Nat.le_of_ble_eq_true rfl) dX8_ends_12 ?_
    refine ly_ifeq (tgt := 35) S bI_e1 bI_e2 dX8_ends_15 (by decide) (fun h2 => ?_) (fun h2 => ?_)
    · skip
      exact absurd h2 (by rw [wiN (by omega) (by omega) (by omega)]; decide)
    · skip
      refine lv_iload_n S.1 S.2.1 dX8_ends_18 rfl (lv_at hl 3 rfl) ?_
      refine lv_iconst (v := nI 0) S.1 S.2.1 dX8_ends_19 (by decide) ?_
      refine lv_bipush (v := nI 126) S.1 S.2.1 dX8_ends_20 (by decide) ?_
      refine kX8_within S  tw_658 (rok (by decide)) hl.1 (Nat.le_of_ble_eq_true rfl) dX8_ends_22 ?_
      refine ly_ifeq (tgt := 35) S bI_e1 bI_e2 dX8_ends_25 (by decide) (fun h3 => ?_) (fun h3 => ?_)
      · skip
        exact absurd h3 (by rw [wiN (by omega) (by omega) (by omega)]; decide)
      · skip
        refine lv_iload_n S.1 S.2.1 dX8_ends_28 rfl (lv_at hl 3 rfl) ?_
        refine lv_iconst (v := nI 2) S.1 S.2.1 dX8_ends_29 (by decide) ?_
        refine lv_irem S.1 S.2.1 dX8_ends_30 (by decide) ?_
        refine ly_top (z := nI (k % 2)) (nI_rem (by omega) (by omega) (by omega)) ?_
        refine lv_iconst (v := nI 1) S.1 S.2.1 dX8_ends_31 (by decide) ?_
        refine ly_cmne (tgt := 38) S (nI_e2 (by omega) (by omega)) (nI_e1 (by omega) (by omega)) dX8_ends_32 (by decide) (fun h4 => ?_) (fun h4 => ?_)
        · skip
          refine lv_aload_n S.1 S.2.1 dX8_ends_38 rfl (lv_at hl 0 rfl) ?_
          refine g8 S hI 0 rfl 7 (by decide) tw_614 rfl dX8_ends_39 ?_
          refine lv_iconst (v := nI 2) S.1 S.2.1 dX8_ends_42 (by decide) ?_
          refine lv_iload_n S.1 S.2.1 dX8_ends_43 rfl (lv_at hl 1 rfl) ?_
          refine lv_imul S.1 S.2.1 dX8_ends_44 ?_
          refine ly_top (z := nI (2 * od)) (pk_mul _ _) ?_
          refine lv_iload_n S.1 S.2.1 dX8_ends_45 rfl (lv_at hl 2 rfl) ?_
          refine lv_iadd S.1 S.2.1 dX8_ends_46 ?_
          refine ly_top (z := nI ((2 * od) + sd)) (nI_add _ _) ?_
          refine ly_top (z := (nI (2 * od + sd))) rfl ?_
          refine ly_iald (v := (nI (en (2 * od + sd)))) S hI 6 rfl (by omega) (by decide) rfl dX8_ends_47 ?_
          refine lv_istore (lv' := [(4, .int (nI (en (2 * od + sd)))), (0, .ref (a 0)), (1, .int (nI od)), (2, .int (nI sd)), (3, .int (nI k))]) S.1 S.2.1 dX8_ends_48 hl (by decide) rfl (fun ls hl => ?_)
          refine lv_aload_n S.1 S.2.1 dX8_ends_50 rfl (lv_at hl 1 rfl) ?_
          refine g8 S hI 0 rfl 7 (by decide) tw_614 rfl dX8_ends_51 ?_
          refine lv_iconst (v := nI 2) S.1 S.2.1 dX8_ends_54 (by decide) ?_
          refine lv_iload_n S.1 S.2.1 dX8_ends_55 rfl (lv_at hl 2 rfl) ?_
          refine lv_imul S.1 S.2.1 dX8_ends_56 ?_
          refine ly_top (z := nI (2 * od)) (pk_mul _ _) ?_
          refine lv_iload_n S.1 S.2.1 dX8_ends_57 rfl (lv_at hl 3 rfl) ?_
          refine lv_iadd S.1 S.2.1 dX8_ends_58 ?_
          refine ly_top (z := nI ((2 * od) + sd)) (nI_add _ _) ?_
          refine ly_top (z := (nI (2 * od + sd))) rfl ?_
          refine lv_iload_n S.1 S.2.1 dX8_ends_59 rfl (lv_at hl 4 rfl) ?_
          refine ly_iast (ws' := (mW K a w n lap op mu ba la (va_up en (2 * od + sd) k) pr sc)) S hI (mD hDis) hS 6 rfl (by omega) (by decide) ms_6 dX8_ends_60 (fun H locs hI hS => ?_)
          refine lv_iload S.1 S.2.1 dX8_ends_61 (lv_at hl 0 rfl) ?_
          exact rw_i S hr hlk () rfl trivial hI hS dX8_ends_63
        · skip
          exact absurd h4 (by omega)
theorem kX8_ends_b {p : Program} {l : Launch} {e : Env} {R : Room} {s : State} {m : MethodId} {args : Array Value} {below : List Frame} {meth : Method} {c : Code} {H H0 : Heap} {locs : List Loc} {cells slots : Nat} {Q : State → Prop} {cc : ByteArray} {nL index pc : Nat} {own : String} {ls : Array Slot} {rest : List Value} {D : va_G} {K : Nat → ClassId} {a : Nat → Nat} {w n lap : Nat} {op mu ba la en : Nat → Nat} {pr : Nat → Option Nat} {sc : MSc} {od : Nat} {sd : Nat} {k : Nat} (S : CallFix p m c cc nL s args lw_tb own) (hI : PI D K (mW K a w n lap op mu ba la en pr sc) s H) (hS : va_S (adA a 13) H0 H locs) (hDis : Dis a 13) (hG : GOK w n lap op mu ba la en pr) (h1 : od ≤ 1) (h2 : sd ≤ 1) (h3 : k ≤ 126) (h4 : k % 2 = 0) (hlink : Cond.methodLink own index yX8_ends ∈ lw_tb) (hR : RO 1 R cells slots) (hsz : ls.size = nL) (hW : (rest.map fun v => v.category).sum ≤ 8) (hdg : decode cc pc = .ok (.invokevirtual index, 3)) (kk : ∀ (u : Unit) (H1 : Heap) (locs1 : List Loc), True → PI D K (mW K a w n lap op mu ba la (va_up en (2 * od + sd) k) pr sc) s H1 → va_S (adA a 13) H0 H1 locs1 → H.size ≤ H1.size → (∀ q : Nat, q < H.size → ¬ (adA a 13) q → H1[q]? = H[q]?) → W p l e R s m args below meth c H1 locs1 cells slots Q (F0 m (pc + 3) ls ((.int (nI (en (2 * od + sd)))) :: rest))) : W p l e R s m args below meth c H locs cells slots Q (F0 m pc ls (.int (nI k) :: .int (nI sd) :: .int (nI od) :: .ref (a 0) :: rest)) :=
  kVX (As := [.int (nI od), .int (nI sd), .int (nI k)]) (b := a 0) S (mX8_ends_b l hDis hG h1 h2 h3 h4) hlink tw_694 tw_695 tw_50 tw_696 (by show _ ∧ _ ∧ _ = some 3; decide +kernel) (by decide) hR blP (piU hI) (va_recv hI.2 hI.1 (ci := 8) (q0 := 0) rfl rfl) hS (fun _ h => h) hsz rfl hW hdg kk

set_option maxHeartbeats 4000000 in
set_option maxRecDepth 100000 in
theorem mX8_ofCourse_a (l : Launch) {D : va_G} {K : Nat → ClassId} {a : Nat → Nat} {w n lap : Nat} {op mu ba la en : Nat → Nat} {pr : Nat → Option Nat} {sc : MSc} {v : Int32} {wh : Int32} (hG : GOK w n lap op mu ba la en pr) (hv : wiI v 0 (nI n - 1) = false) : Met l yX8_ofCourse (TWd yX8_ofCourse cX8_ofCourse 3 (some .int)) (rmk 2) (va_Pc [.ref (a 0), .int v, .int wh] (fun U => PI D K (mW K a w n lap op mu ba la en pr sc) U U.heap)) (QcRead ((-1))) 0 0 (fun _ => False) := by
  refine mt_of (by decide +kernel) (Nat.le_of_ble_eq_true rfl) ?_
  intro p e s m below meth c S hr hlk hI ls hl
  have S : CallFix p m c cX8_ofCourse 3 s ([.ref (a 0), .int v, .int wh] : List Value).toArray lw_tb RX8 := S
  have hl : lv_has ls 3 [(0, .ref (a 0)), (1, .int v), (2, .int wh)] := hl
  obtain ⟨gw1, gw2, gn, gl1, gl2, gop, gmu, gba, gla, gen, gpr, gop2, gmu2, gba2, gla2, gme, gbe, gle, gee⟩ := id hG
  refine lv_aload_n S.1 S.2.1 dX8_ofCourse_0 rfl (lv_at hl 0 rfl) ?_
  refine lv_iload_n S.1 S.2.1 dX8_ofCourse_1 rfl (lv_at hl 1 rfl) ?_
  refine kX8_isCourse S hI hG tw_673 (rok (by decide)) hl.1 (Nat.le_of_ble_eq_true rfl) dX8_ofCourse_2 ?_
  refine ly_ifne (tgt := 10) S bI_e2 bI_e1 dX8_ofCourse_5 (by decide) (fun h1 => ?_) (fun h1 => ?_)
  · skip
    exact absurd h1 (by rw [hv]; decide)
  · skip
    refine lv_iconst (v := (-1)) S.1 S.2.1 dX8_ofCourse_8 (by decide) ?_
    exact rt_i S hr hlk rfl dX8_ofCourse_9
theorem kX8_ofCourse_a {p : Program} {l : Launch} {e : Env} {R : Room} {s : State} {m : MethodId} {args : Array Value} {below : List Frame} {meth : Method} {c : Code} {H : Heap} {locs : List Loc} {cells slots : Nat} {Q : State → Prop} {cc : ByteArray} {nL index pc : Nat} {own : String} {ls : Array Slot} {rest : List Value} {D : va_G} {K : Nat → ClassId} {a : Nat → Nat} {w n lap : Nat} {op mu ba la en : Nat → Nat} {pr : Nat → Option Nat} {sc : MSc} {v : Int32} {wh : Int32} (S : CallFix p m c cc nL s args lw_tb own) (hI : PI D K (mW K a w n lap op mu ba la en pr sc) s H) (hG : GOK w n lap op mu ba la en pr) (hv : wiI v 0 (nI n - 1) = false) (hlink : Cond.methodLink own index yX8_ofCourse ∈ lw_tb) (hR : RO 2 R cells slots) (hsz : ls.size = nL) (hW : (rest.map fun v => v.category).sum ≤ 8) (hdg : decode cc pc = .ok (.invokevirtual index, 3)) (kk : W p l e R s m args below meth c H locs cells slots Q (F0 m (pc + 3) ls (.int ((-1)) :: rest))) : W p l e R s m args below meth c H locs cells slots Q (F0 m pc ls (.int wh :: .int v :: .ref (a 0) :: rest)) :=
  kV (As := [.int v, .int wh]) (b := a 0) S (mX8_ofCourse_a l hG hv) hlink tw_698 tw_699 tw_50 tw_700 (by show _ ∧ _ ∧ _ = some 2; decide +kernel) (by decide) hR blP (piU hI) (va_recv hI.2 hI.1 (ci := 8) (q0 := 0) rfl rfl) hsz rfl hW hdg kk

set_option maxHeartbeats 4000000 in
set_option maxRecDepth 100000 in
theorem mX8_ofCourse_b (l : Launch) {D : va_G} {K : Nat → ClassId} {a : Nat → Nat} {w n lap : Nat} {op mu ba la en : Nat → Nat} {pr : Nat → Option Nat} {sc : MSc} {ci : Nat} {wh : Int32} (hG : GOK w n lap op mu ba la en pr) (hc : ci < n) (hw : wh.toInt < 0 ∨ 4 < wh.toInt) : Met l yX8_ofCourse (TWd yX8_ofCourse cX8_ofCourse 3 (some .int)) (rmk 2) (va_Pc [.ref (a 0), .int (nI ci), .int wh] (fun U => PI D K (mW K a w n lap op mu ba la en pr sc) U U.heap)) (QcRead ((-2))) 0 0 (fun _ => False) := by
  refine mt_of (by decide +kernel) (Nat.le_of_ble_eq_true rfl) ?_
  intro p e s m below meth c S hr hlk hI ls hl
  have S : CallFix p m c cX8_ofCourse 3 s ([.ref (a 0), .int (nI ci), .int wh] : List Value).toArray lw_tb RX8 := S
  have hl : lv_has ls 3 [(0, .ref (a 0)), (1, .int (nI ci)), (2, .int wh)] := hl
  obtain ⟨gw1, gw2, gn, gl1, gl2, gop, gmu, gba, gla, gen, gpr, gop2, gmu2, gba2, gla2, gme, gbe, gle, gee⟩ := id hG
  refine lv_aload_n S.1 S.2.1 dX8_ofCourse_0 rfl (lv_at hl 0 rfl) ?_
  refine lv_iload_n S.1 S.2.1 dX8_ofCourse_1 rfl (lv_at hl 1 rfl) ?_
  refine kX8_isCourse S hI hG tw_673 (rok (by decide)) hl.1 (Nat.le_of_ble_eq_true rfl) dX8_ofCourse_2 ?_
  refine ly_ifne (tgt := 10) S bI_e2 bI_e1 dX8_ofCourse_5 (by decide) (fun h1 => ?_) (fun h1 => ?_)
  · skip
    refine lv_iload_n S.1 S.2.1 dX8_ofCourse_10 rfl (lv_at hl 2 rfl) ?_
    refine lv_tableOut (tgt := 78) S.1 S.2.1 dX8_ofCourse_11 hw (by decide) ?_
    refine lv_bipush (v := (-2)) S.1 S.2.1 dX8_ofCourse_78 (by decide) ?_
    exact rt_i S hr hlk rfl dX8_ofCourse_80
  · skip
    exact absurd h1 (by rw [wiC (by omega) (by omega)]; decide)
theorem kX8_ofCourse_b {p : Program} {l : Launch} {e : Env} {R : Room} {s : State} {m : MethodId} {args : Array Value} {below : List Frame} {meth : Method} {c : Code} {H : Heap} {locs : List Loc} {cells slots : Nat} {Q : State → Prop} {cc : ByteArray} {nL index pc : Nat} {own : String} {ls : Array Slot} {rest : List Value} {D : va_G} {K : Nat → ClassId} {a : Nat → Nat} {w n lap : Nat} {op mu ba la en : Nat → Nat} {pr : Nat → Option Nat} {sc : MSc} {ci : Nat} {wh : Int32} (S : CallFix p m c cc nL s args lw_tb own) (hI : PI D K (mW K a w n lap op mu ba la en pr sc) s H) (hG : GOK w n lap op mu ba la en pr) (hc : ci < n) (hw : wh.toInt < 0 ∨ 4 < wh.toInt) (hlink : Cond.methodLink own index yX8_ofCourse ∈ lw_tb) (hR : RO 2 R cells slots) (hsz : ls.size = nL) (hW : (rest.map fun v => v.category).sum ≤ 8) (hdg : decode cc pc = .ok (.invokevirtual index, 3)) (kk : W p l e R s m args below meth c H locs cells slots Q (F0 m (pc + 3) ls (.int ((-2)) :: rest))) : W p l e R s m args below meth c H locs cells slots Q (F0 m pc ls (.int wh :: .int (nI ci) :: .ref (a 0) :: rest)) :=
  kV (As := [.int (nI ci), .int wh]) (b := a 0) S (mX8_ofCourse_b l hG hc hw) hlink tw_698 tw_699 tw_50 tw_700 (by show _ ∧ _ ∧ _ = some 2; decide +kernel) (by decide) hR blP (piU hI) (va_recv hI.2 hI.1 (ci := 8) (q0 := 0) rfl rfl) hsz rfl hW hdg kk

set_option maxHeartbeats 4000000 in
set_option maxRecDepth 100000 in
theorem mX8_ofCourse_0 (l : Launch) {D : va_G} {K : Nat → ClassId} {a : Nat → Nat} {w n lap : Nat} {op mu ba la en : Nat → Nat} {pr : Nat → Option Nat} {sc : MSc} {ci : Nat} (hG : GOK w n lap op mu ba la en pr) (hc : ci < n) : Met l yX8_ofCourse (TWd yX8_ofCourse cX8_ofCourse 3 (some .int)) (rmk 2) (va_Pc [.ref (a 0), .int (nI ci), .int (nI 0)] (fun U => PI D K (mW K a w n lap op mu ba la en pr sc) U U.heap)) (QcRead (nI (op ci))) 0 0 (fun _ => False) := by
  refine mt_of (by decide +kernel) (Nat.le_of_ble_eq_true rfl) ?_
  intro p e s m below meth c S hr hlk hI ls hl
  have S : CallFix p m c cX8_ofCourse 3 s ([.ref (a 0), .int (nI ci), .int (nI 0)] : List Value).toArray lw_tb RX8 := S
  have hl : lv_has ls 3 [(0, .ref (a 0)), (1, .int (nI ci)), (2, .int (nI 0))] := hl
  obtain ⟨gw1, gw2, gn, gl1, gl2, gop, gmu, gba, gla, gen, gpr, gop2, gmu2, gba2, gla2, gme, gbe, gle, gee⟩ := id hG
  refine lv_aload_n S.1 S.2.1 dX8_ofCourse_0 rfl (lv_at hl 0 rfl) ?_
  refine lv_iload_n S.1 S.2.1 dX8_ofCourse_1 rfl (lv_at hl 1 rfl) ?_
  refine kX8_isCourse S hI hG tw_673 (rok (by decide)) hl.1 (Nat.le_of_ble_eq_true rfl) dX8_ofCourse_2 ?_
  refine ly_ifne (tgt := 10) S bI_e2 bI_e1 dX8_ofCourse_5 (by decide) (fun h1 => ?_) (fun h1 => ?_)
  · skip
    refine lv_iload_n S.1 S.2.1 dX8_ofCourse_10 rfl (lv_at hl 2 rfl) ?_
    refine lv_tableIn (tgt := 44) (off := 33) S.1 S.2.1 dX8_ofCourse_11 (by decide) (by decide) (by decide) (by decide) ?_
    refine lv_aload_n S.1 S.2.1 dX8_ofCourse_44 rfl (lv_at hl 0 rfl) ?_
    refine g8 S hI 0 rfl 2 (by decide) tw_609 rfl dX8_ofCourse_45 ?_
    refine lv_iload_n S.1 S.2.1 dX8_ofCourse_48 rfl (lv_at hl 1 rfl) ?_
    refine ly_iald (v := (nI (op ci))) S hI 1 rfl (by omega) (by decide) rfl dX8_ofCourse_49 ?_
    exact rt_i S hr hlk rfl dX8_ofCourse_50
  · skip
    exact absurd h1 (by rw [wiC (by omega) (by omega)]; decide)
theorem kX8_ofCourse_0 {p : Program} {l : Launch} {e : Env} {R : Room} {s : State} {m : MethodId} {args : Array Value} {below : List Frame} {meth : Method} {c : Code} {H : Heap} {locs : List Loc} {cells slots : Nat} {Q : State → Prop} {cc : ByteArray} {nL index pc : Nat} {own : String} {ls : Array Slot} {rest : List Value} {D : va_G} {K : Nat → ClassId} {a : Nat → Nat} {w n lap : Nat} {op mu ba la en : Nat → Nat} {pr : Nat → Option Nat} {sc : MSc} {ci : Nat} (S : CallFix p m c cc nL s args lw_tb own) (hI : PI D K (mW K a w n lap op mu ba la en pr sc) s H) (hG : GOK w n lap op mu ba la en pr) (hc : ci < n) (hlink : Cond.methodLink own index yX8_ofCourse ∈ lw_tb) (hR : RO 2 R cells slots) (hsz : ls.size = nL) (hW : (rest.map fun v => v.category).sum ≤ 8) (hdg : decode cc pc = .ok (.invokevirtual index, 3)) (kk : W p l e R s m args below meth c H locs cells slots Q (F0 m (pc + 3) ls (.int (nI (op ci)) :: rest))) : W p l e R s m args below meth c H locs cells slots Q (F0 m pc ls (.int (nI 0) :: .int (nI ci) :: .ref (a 0) :: rest)) :=
  kV (As := [.int (nI ci), .int (nI 0)]) (b := a 0) S (mX8_ofCourse_0 l hG hc) hlink tw_698 tw_699 tw_50 tw_700 (by show _ ∧ _ ∧ _ = some 2; decide +kernel) (by decide) hR blP (piU hI) (va_recv hI.2 hI.1 (ci := 8) (q0 := 0) rfl rfl) hsz rfl hW hdg kk

set_option maxHeartbeats 4000000 in
set_option maxRecDepth 100000 in
theorem mX8_ofCourse_1 (l : Launch) {D : va_G} {K : Nat → ClassId} {a : Nat → Nat} {w n lap : Nat} {op mu ba la en : Nat → Nat} {pr : Nat → Option Nat} {sc : MSc} {ci : Nat} (hG : GOK w n lap op mu ba la en pr) (hc : ci < n) : Met l yX8_ofCourse (TWd yX8_ofCourse cX8_ofCourse 3 (some .int)) (rmk 2) (va_Pc [.ref (a 0), .int (nI ci), .int (nI 1)] (fun U => PI D K (mW K a w n lap op mu ba la en pr sc) U U.heap)) (QcRead (nI (mu ci))) 0 0 (fun _ => False) := by
  refine mt_of (by decide +kernel) (Nat.le_of_ble_eq_true rfl) ?_
  intro p e s m below meth c S hr hlk hI ls hl
  have S : CallFix p m c cX8_ofCourse 3 s ([.ref (a 0), .int (nI ci), .int (nI 1)] : List Value).toArray lw_tb RX8 := S
  have hl : lv_has ls 3 [(0, .ref (a 0)), (1, .int (nI ci)), (2, .int (nI 1))] := hl
  obtain ⟨gw1, gw2, gn, gl1, gl2, gop, gmu, gba, gla, gen, gpr, gop2, gmu2, gba2, gla2, gme, gbe, gle, gee⟩ := id hG
  refine lv_aload_n S.1 S.2.1 dX8_ofCourse_0 rfl (lv_at hl 0 rfl) ?_
  refine lv_iload_n S.1 S.2.1 dX8_ofCourse_1 rfl (lv_at hl 1 rfl) ?_
  refine kX8_isCourse S hI hG tw_673 (rok (by decide)) hl.1 (Nat.le_of_ble_eq_true rfl) dX8_ofCourse_2 ?_
  refine ly_ifne (tgt := 10) S bI_e2 bI_e1 dX8_ofCourse_5 (by decide) (fun h1 => ?_) (fun h1 => ?_)
  · skip
    refine lv_iload_n S.1 S.2.1 dX8_ofCourse_10 rfl (lv_at hl 2 rfl) ?_
    refine lv_tableIn (tgt := 51) (off := 40) S.1 S.2.1 dX8_ofCourse_11 (by decide) (by decide) (by decide) (by decide) ?_
    refine lv_aload_n S.1 S.2.1 dX8_ofCourse_51 rfl (lv_at hl 0 rfl) ?_
    refine g8 S hI 0 rfl 3 (by decide) tw_610 rfl dX8_ofCourse_52 ?_
    refine lv_iload_n S.1 S.2.1 dX8_ofCourse_55 rfl (lv_at hl 1 rfl) ?_
    refine ly_iald (v := (nI (mu ci))) S hI 2 rfl (by omega) (by decide) rfl dX8_ofCourse_56 ?_
    exact rt_i S hr hlk rfl dX8_ofCourse_57
  · skip
    exact absurd h1 (by rw [wiC (by omega) (by omega)]; decide)
theorem kX8_ofCourse_1 {p : Program} {l : Launch} {e : Env} {R : Room} {s : State} {m : MethodId} {args : Array Value} {below : List Frame} {meth : Method} {c : Code} {H : Heap} {locs : List Loc} {cells slots : Nat} {Q : State → Prop} {cc : ByteArray} {nL index pc : Nat} {own : String} {ls : Array Slot} {rest : List Value} {D : va_G} {K : Nat → ClassId} {a : Nat → Nat} {w n lap : Nat} {op mu ba la en : Nat → Nat} {pr : Nat → Option Nat} {sc : MSc} {ci : Nat} (S : CallFix p m c cc nL s args lw_tb own) (hI : PI D K (mW K a w n lap op mu ba la en pr sc) s H) (hG : GOK w n lap op mu ba la en pr) (hc : ci < n) (hlink : Cond.methodLink own index yX8_ofCourse ∈ lw_tb) (hR : RO 2 R cells slots) (hsz : ls.size = nL) (hW : (rest.map fun v => v.category).sum ≤ 8) (hdg : decode cc pc = .ok (.invokevirtual index, 3)) (kk : W p l e R s m args below meth c H locs cells slots Q (F0 m (pc + 3) ls (.int (nI (mu ci)) :: rest))) : W p l e R s m args below meth c H locs cells slots Q (F0 m pc ls (.int (nI 1) :: .int (nI ci) :: .ref (a 0) :: rest)) :=
  kV (As := [.int (nI ci), .int (nI 1)]) (b := a 0) S (mX8_ofCourse_1 l hG hc) hlink tw_698 tw_699 tw_50 tw_700 (by show _ ∧ _ ∧ _ = some 2; decide +kernel) (by decide) hR blP (piU hI) (va_recv hI.2 hI.1 (ci := 8) (q0 := 0) rfl rfl) hsz rfl hW hdg kk

set_option maxHeartbeats 4000000 in
set_option maxRecDepth 100000 in
theorem mX8_ofCourse_2 (l : Launch) {D : va_G} {K : Nat → ClassId} {a : Nat → Nat} {w n lap : Nat} {op mu ba la en : Nat → Nat} {pr : Nat → Option Nat} {sc : MSc} {ci : Nat} (hG : GOK w n lap op mu ba la en pr) (hc : ci < n) : Met l yX8_ofCourse (TWd yX8_ofCourse cX8_ofCourse 3 (some .int)) (rmk 2) (va_Pc [.ref (a 0), .int (nI ci), .int (nI 2)] (fun U => PI D K (mW K a w n lap op mu ba la en pr sc) U U.heap)) (QcRead (nI (ba ci))) 0 0 (fun _ => False) := by
  refine mt_of (by decide +kernel) (Nat.le_of_ble_eq_true rfl) ?_
  intro p e s m below meth c S hr hlk hI ls hl
  have S : CallFix p m c cX8_ofCourse 3 s ([.ref (a 0), .int (nI ci), .int (nI 2)] : List Value).toArray lw_tb RX8 := S
  have hl : lv_has ls 3 [(0, .ref (a 0)), (1, .int (nI ci)), (2, .int (nI 2))] := hl
  obtain ⟨gw1, gw2, gn, gl1, gl2, gop, gmu, gba, gla, gen, gpr, gop2, gmu2, gba2, gla2, gme, gbe, gle, gee⟩ := id hG
  refine lv_aload_n S.1 S.2.1 dX8_ofCourse_0 rfl (lv_at hl 0 rfl) ?_
  refine lv_iload_n S.1 S.2.1 dX8_ofCourse_1 rfl (lv_at hl 1 rfl) ?_
  refine kX8_isCourse S hI hG tw_673 (rok (by decide)) hl.1 (Nat.le_of_ble_eq_true rfl) dX8_ofCourse_2 ?_
  refine ly_ifne (tgt := 10) S bI_e2 bI_e1 dX8_ofCourse_5 (by decide) (fun h1 => ?_) (fun h1 => ?_)
  · skip
    refine lv_iload_n S.1 S.2.1 dX8_ofCourse_10 rfl (lv_at hl 2 rfl) ?_
    refine lv_tableIn (tgt := 58) (off := 47) S.1 S.2.1 dX8_ofCourse_11 (by decide) (by decide) (by decide) (by decide) ?_
    refine lv_aload_n S.1 S.2.1 dX8_ofCourse_58 rfl (lv_at hl 0 rfl) ?_
    refine g8 S hI 0 rfl 4 (by decide) tw_611 rfl dX8_ofCourse_59 ?_
    refine lv_iload_n S.1 S.2.1 dX8_ofCourse_62 rfl (lv_at hl 1 rfl) ?_
    refine ly_iald (v := (nI (ba ci))) S hI 3 rfl (by omega) (by decide) rfl dX8_ofCourse_63 ?_
    exact rt_i S hr hlk rfl dX8_ofCourse_64
  · skip
    exact absurd h1 (by rw [wiC (by omega) (by omega)]; decide)
theorem kX8_ofCourse_2 {p : Program} {l : Launch} {e : Env} {R : Room} {s : State} {m : MethodId} {args : Array Value} {below : List Frame} {meth : Method} {c : Code} {H : Heap} {locs : List Loc} {cells slots : Nat} {Q : State → Prop} {cc : ByteArray} {nL index pc : Nat} {own : String} {ls : Array Slot} {rest : List Value} {D : va_G} {K : Nat → ClassId} {a : Nat → Nat} {w n lap : Nat} {op mu ba la en : Nat → Nat} {pr : Nat → Option Nat} {sc : MSc} {ci : Nat} (S : CallFix p m c cc nL s args lw_tb own) (hI : PI D K (mW K a w n lap op mu ba la en pr sc) s H) (hG : GOK w n lap op mu ba la en pr) (hc : ci < n) (hlink : Cond.methodLink own index yX8_ofCourse ∈ lw_tb) (hR : RO 2 R cells slots) (hsz : ls.size = nL) (hW : (rest.map fun v => v.category).sum ≤ 8) (hdg : decode cc pc = .ok (.invokevirtual index, 3)) (kk : W p l e R s m args below meth c H locs cells slots Q (F0 m (pc + 3) ls (.int (nI (ba ci)) :: rest))) : W p l e R s m args below meth c H locs cells slots Q (F0 m pc ls (.int (nI 2) :: .int (nI ci) :: .ref (a 0) :: rest)) :=
  kV (As := [.int (nI ci), .int (nI 2)]) (b := a 0) S (mX8_ofCourse_2 l hG hc) hlink tw_698 tw_699 tw_50 tw_700 (by show _ ∧ _ ∧ _ = some 2; decide +kernel) (by decide) hR blP (piU hI) (va_recv hI.2 hI.1 (ci := 8) (q0 := 0) rfl rfl) hsz rfl hW hdg kk

set_option maxHeartbeats 4000000 in
set_option maxRecDepth 100000 in
theorem mX8_ofCourse_3 (l : Launch) {D : va_G} {K : Nat → ClassId} {a : Nat → Nat} {w n lap : Nat} {op mu ba la en : Nat → Nat} {pr : Nat → Option Nat} {sc : MSc} {ci : Nat} (hG : GOK w n lap op mu ba la en pr) (hc : ci < n) : Met l yX8_ofCourse (TWd yX8_ofCourse cX8_ofCourse 3 (some .int)) (rmk 2) (va_Pc [.ref (a 0), .int (nI ci), .int (nI 3)] (fun U => PI D K (mW K a w n lap op mu ba la en pr sc) U U.heap)) (QcRead (nI (sumN (spT (op ci)) w))) 0 0 (fun _ => False) := by
  refine mt_of (by decide +kernel) (Nat.le_of_ble_eq_true rfl) ?_
  intro p e s m below meth c S hr hlk hI ls hl
  have S : CallFix p m c cX8_ofCourse 3 s ([.ref (a 0), .int (nI ci), .int (nI 3)] : List Value).toArray lw_tb RX8 := S
  have hl : lv_has ls 3 [(0, .ref (a 0)), (1, .int (nI ci)), (2, .int (nI 3))] := hl
  obtain ⟨gw1, gw2, gn, gl1, gl2, gop, gmu, gba, gla, gen, gpr, gop2, gmu2, gba2, gla2, gme, gbe, gle, gee⟩ := id hG
  refine lv_aload_n S.1 S.2.1 dX8_ofCourse_0 rfl (lv_at hl 0 rfl) ?_
  refine lv_iload_n S.1 S.2.1 dX8_ofCourse_1 rfl (lv_at hl 1 rfl) ?_
  refine kX8_isCourse S hI hG tw_673 (rok (by decide)) hl.1 (Nat.le_of_ble_eq_true rfl) dX8_ofCourse_2 ?_
  refine ly_ifne (tgt := 10) S bI_e2 bI_e1 dX8_ofCourse_5 (by decide) (fun h1 => ?_) (fun h1 => ?_)
  · skip
    refine lv_iload_n S.1 S.2.1 dX8_ofCourse_10 rfl (lv_at hl 2 rfl) ?_
    refine lv_tableIn (tgt := 65) (off := 54) S.1 S.2.1 dX8_ofCourse_11 (by decide) (by decide) (by decide) (by decide) ?_
    refine lv_aload_n S.1 S.2.1 dX8_ofCourse_65 rfl (lv_at hl 0 rfl) ?_
    refine lv_iload_n S.1 S.2.1 dX8_ofCourse_66 rfl (lv_at hl 1 rfl) ?_
    refine kX8_spansOf S hI hG (by omega) tw_701 (rok (by decide)) hl.1 (Nat.le_of_ble_eq_true rfl) dX8_ofCourse_67 ?_
    exact rt_i S hr hlk rfl dX8_ofCourse_70
  · skip
    exact absurd h1 (by rw [wiC (by omega) (by omega)]; decide)
theorem kX8_ofCourse_3 {p : Program} {l : Launch} {e : Env} {R : Room} {s : State} {m : MethodId} {args : Array Value} {below : List Frame} {meth : Method} {c : Code} {H : Heap} {locs : List Loc} {cells slots : Nat} {Q : State → Prop} {cc : ByteArray} {nL index pc : Nat} {own : String} {ls : Array Slot} {rest : List Value} {D : va_G} {K : Nat → ClassId} {a : Nat → Nat} {w n lap : Nat} {op mu ba la en : Nat → Nat} {pr : Nat → Option Nat} {sc : MSc} {ci : Nat} (S : CallFix p m c cc nL s args lw_tb own) (hI : PI D K (mW K a w n lap op mu ba la en pr sc) s H) (hG : GOK w n lap op mu ba la en pr) (hc : ci < n) (hlink : Cond.methodLink own index yX8_ofCourse ∈ lw_tb) (hR : RO 2 R cells slots) (hsz : ls.size = nL) (hW : (rest.map fun v => v.category).sum ≤ 8) (hdg : decode cc pc = .ok (.invokevirtual index, 3)) (kk : W p l e R s m args below meth c H locs cells slots Q (F0 m (pc + 3) ls (.int (nI (sumN (spT (op ci)) w)) :: rest))) : W p l e R s m args below meth c H locs cells slots Q (F0 m pc ls (.int (nI 3) :: .int (nI ci) :: .ref (a 0) :: rest)) :=
  kV (As := [.int (nI ci), .int (nI 3)]) (b := a 0) S (mX8_ofCourse_3 l hG hc) hlink tw_698 tw_699 tw_50 tw_700 (by show _ ∧ _ ∧ _ = some 2; decide +kernel) (by decide) hR blP (piU hI) (va_recv hI.2 hI.1 (ci := 8) (q0 := 0) rfl rfl) hsz rfl hW hdg kk

set_option maxHeartbeats 4000000 in
set_option maxRecDepth 100000 in
theorem mX8_ofCourse_4 (l : Launch) {D : va_G} {K : Nat → ClassId} {a : Nat → Nat} {w n lap : Nat} {op mu ba la en : Nat → Nat} {pr : Nat → Option Nat} {sc : MSc} {ci : Nat} (hG : GOK w n lap op mu ba la en pr) (hc : ci < n) : Met l yX8_ofCourse (TWd yX8_ofCourse cX8_ofCourse 3 (some .int)) (rmk 2) (va_Pc [.ref (a 0), .int (nI ci), .int (nI 4)] (fun U => PI D K (mW K a w n lap op mu ba la en pr sc) U U.heap)) (QcRead (nI (la ci))) 0 0 (fun _ => False) := by
  refine mt_of (by decide +kernel) (Nat.le_of_ble_eq_true rfl) ?_
  intro p e s m below meth c S hr hlk hI ls hl
  have S : CallFix p m c cX8_ofCourse 3 s ([.ref (a 0), .int (nI ci), .int (nI 4)] : List Value).toArray lw_tb RX8 := S
  have hl : lv_has ls 3 [(0, .ref (a 0)), (1, .int (nI ci)), (2, .int (nI 4))] := hl
  obtain ⟨gw1, gw2, gn, gl1, gl2, gop, gmu, gba, gla, gen, gpr, gop2, gmu2, gba2, gla2, gme, gbe, gle, gee⟩ := id hG
  refine lv_aload_n S.1 S.2.1 dX8_ofCourse_0 rfl (lv_at hl 0 rfl) ?_
  refine lv_iload_n S.1 S.2.1 dX8_ofCourse_1 rfl (lv_at hl 1 rfl) ?_
  refine kX8_isCourse S hI hG tw_673 (rok (by decide)) hl.1 (Nat.le_of_ble_eq_true rfl) dX8_ofCourse_2 ?_
  refine ly_ifne (tgt := 10) S bI_e2 bI_e1 dX8_ofCourse_5 (by decide) (fun h1 => ?_) (fun h1 => ?_)
  · skip
    refine lv_iload_n S.1 S.2.1 dX8_ofCourse_10 rfl (lv_at hl 2 rfl) ?_
    refine lv_tableIn (tgt := 71) (off := 60) S.1 S.2.1 dX8_ofCourse_11 (by decide) (by decide) (by decide) (by decide) ?_
    refine lv_aload_n S.1 S.2.1 dX8_ofCourse_71 rfl (lv_at hl 0 rfl) ?_
    refine g8 S hI 0 rfl 5 (by decide) tw_612 rfl dX8_ofCourse_72 ?_
    refine lv_iload_n S.1 S.2.1 dX8_ofCourse_75 rfl (lv_at hl 1 rfl) ?_
    refine ly_iald (v := (nI (la ci))) S hI 4 rfl (by omega) (by decide) rfl dX8_ofCourse_76 ?_
    exact rt_i S hr hlk rfl dX8_ofCourse_77
  · skip
    exact absurd h1 (by rw [wiC (by omega) (by omega)]; decide)
theorem kX8_ofCourse_4 {p : Program} {l : Launch} {e : Env} {R : Room} {s : State} {m : MethodId} {args : Array Value} {below : List Frame} {meth : Method} {c : Code} {H : Heap} {locs : List Loc} {cells slots : Nat} {Q : State → Prop} {cc : ByteArray} {nL index pc : Nat} {own : String} {ls : Array Slot} {rest : List Value} {D : va_G} {K : Nat → ClassId} {a : Nat → Nat} {w n lap : Nat} {op mu ba la en : Nat → Nat} {pr : Nat → Option Nat} {sc : MSc} {ci : Nat} (S : CallFix p m c cc nL s args lw_tb own) (hI : PI D K (mW K a w n lap op mu ba la en pr sc) s H) (hG : GOK w n lap op mu ba la en pr) (hc : ci < n) (hlink : Cond.methodLink own index yX8_ofCourse ∈ lw_tb) (hR : RO 2 R cells slots) (hsz : ls.size = nL) (hW : (rest.map fun v => v.category).sum ≤ 8) (hdg : decode cc pc = .ok (.invokevirtual index, 3)) (kk : W p l e R s m args below meth c H locs cells slots Q (F0 m (pc + 3) ls (.int (nI (la ci)) :: rest))) : W p l e R s m args below meth c H locs cells slots Q (F0 m pc ls (.int (nI 4) :: .int (nI ci) :: .ref (a 0) :: rest)) :=
  kV (As := [.int (nI ci), .int (nI 4)]) (b := a 0) S (mX8_ofCourse_4 l hG hc) hlink tw_698 tw_699 tw_50 tw_700 (by show _ ∧ _ ∧ _ = some 2; decide +kernel) (by decide) hR blP (piU hI) (va_recv hI.2 hI.1 (ci := 8) (q0 := 0) rfl rfl) hsz rfl hW hdg kk

set_option maxHeartbeats 4000000 in
set_option maxRecDepth 100000 in
theorem mX8_laidCost (l : Launch) {D : va_G} {K : Nat → ClassId} {a : Nat → Nat} {w n lap : Nat} {op mu ba la en : Nat → Nat} {pr : Nat → Option Nat} {sc : MSc} (hG : GOK w n lap op mu ba la en pr) : Met l yX8_laidCost (TWd yX8_laidCost cX8_laidCost 3 (some .int)) (rmk 4) (va_Pc [.ref (a 0)] (fun U => PI D K (mW K a w n lap op mu ba la en pr sc) U U.heap)) (QcRead (nI (sumN (fun q => coF pr w (op q) (la q)) n))) 0 0 (fun _ => False) := by
  refine mt_of (by decide +kernel) (Nat.le_of_ble_eq_true rfl) ?_
  intro p e s m below meth c S hr hlk hI ls hl
  have S : CallFix p m c cX8_laidCost 3 s ([.ref (a 0)] : List Value).toArray lw_tb RX8 := S
  have hl : lv_has ls 3 [(0, .ref (a 0))] := hl
  obtain ⟨gw1, gw2, gn, gl1, gl2, gop, gmu, gba, gla, gen, gpr, gop2, gmu2, gba2, gla2, gme, gbe, gle, gee⟩ := id hG
  refine lv_iconst (v := nI 0) S.1 S.2.1 dX8_laidCost_0 (by decide) ?_
  refine ly_top (z := (nI (sumN (fun q => coF pr w (op q) (la q)) 0))) rfl ?_
  refine lv_istore_n (lv' := [(1, .int (nI (sumN (fun q => coF pr w (op q) (la q)) 0))), (0, .ref (a 0))]) S.1 S.2.1 dX8_laidCost_1 rfl hl (by decide) rfl (fun ls hl => ?_)
  refine lv_iconst (v := nI 0) S.1 S.2.1 dX8_laidCost_2 (by decide) ?_
  refine lv_istore_n (lv' := [(2, .int (nI 0)), (1, .int (nI (sumN (fun q => coF pr w (op q) (la q)) 0))), (0, .ref (a 0))]) S.1 S.2.1 dX8_laidCost_3 rfl hl (by decide) rfl (fun ls hl => ?_)
  have L4 : ∀ (f4 : Nat) (k : Nat), (k ≤ n) → n - k < f4 → ∀ (ls : Array Slot), lv_has ls 3 [(0, .ref (a 0)), (1, .int (nI (sumN (fun q => coF pr w (op q) (la q)) k))), (2, .int (nI k))] → W p l e (rmk 4) s m ([.ref (a 0)] : List Value).toArray below meth c s.heap [] 0 0 (MQ below (QcRead (nI (sumN (fun q => coF pr w (op q) (la q)) n))) ([.ref (a 0)] : List Value).toArray s 0 0 (fun _ => False)) (F0 m 4 ls []) := by
    intro f4
    induction f4 with
    | zero =>
      intro k i2 hm
      exact absurd hm (Nat.not_lt_zero _)
    | succ f4 ih4 =>
      intro k i2 hm4 ls hl
      have o1 := gla k
      refine lv_iload_n S.1 S.2.1 dX8_laidCost_4 rfl (lv_at hl 2 rfl) ?_
      refine lv_aload_n S.1 S.2.1 dX8_laidCost_5 rfl (lv_at hl 0 rfl) ?_
      refine g8 S hI 0 rfl 1 (by decide) tw_608 rfl dX8_laidCost_6 ?_
      refine ly_cmge (tgt := 32) S (nI_le1 (by omega) (by omega)) (nI_le2 (by omega) (by omega)) dX8_laidCost_9 (by decide) (fun h1 => ?_) (fun h1 => ?_)
      · skip
        refine lv_iload_n S.1 S.2.1 dX8_laidCost_32 rfl (lv_at hl 1 rfl) ?_
        exact rt_i S hr hlk (by rw [show k = n by omega]) dX8_laidCost_33
      · skip
        refine lv_iload_n S.1 S.2.1 dX8_laidCost_12 rfl (lv_at hl 1 rfl) ?_
        refine lv_aload_n S.1 S.2.1 dX8_laidCost_13 rfl (lv_at hl 0 rfl) ?_
        refine lv_iload_n S.1 S.2.1 dX8_laidCost_14 rfl (lv_at hl 2 rfl) ?_
        refine lv_aload_n S.1 S.2.1 dX8_laidCost_15 rfl (lv_at hl 0 rfl) ?_
        refine g8 S hI 0 rfl 5 (by decide) tw_612 rfl dX8_laidCost_16 ?_
        refine lv_iload_n S.1 S.2.1 dX8_laidCost_19 rfl (lv_at hl 2 rfl) ?_
        refine ly_iald (v := (nI (la k))) S hI 4 rfl (by omega) (by decide) rfl dX8_laidCost_20 ?_
        refine kX8_costOf S hI hG (by omega) (by omega) tw_768 (rok (by decide)) hl.1 (Nat.le_of_ble_eq_true rfl) dX8_laidCost_21 ?_
        have b2 : coF pr w (op k) (la k) ≤ 1000 := coF_le gpr gw2 _ _
        refine lv_iadd S.1 S.2.1 dX8_laidCost_24 ?_
        refine ly_top (z := nI ((sumN (fun q => coF pr w (op q) (la q)) k) + (coF pr w (op k) (la k)))) (nI_add _ _) ?_
        refine ly_top (z := (nI (sumN (fun q => coF pr w (op q) (la q)) (k + 1)))) rfl ?_
        refine lv_istore_n (lv' := [(1, .int (nI (sumN (fun q => coF pr w (op q) (la q)) (k + 1)))), (0, .ref (a 0)), (2, .int (nI k))]) S.1 S.2.1 dX8_laidCost_25 rfl hl (by decide) rfl (fun ls hl => ?_)
        refine lv_iinc (v := nI (k + 1)) (lv' := [(2, .int (nI (k + 1))), (1, .int (nI (sumN (fun q => coF pr w (op q) (la q)) (k + 1)))), (0, .ref (a 0))]) S.1 S.2.1 dX8_laidCost_26 hl (k := 2) rfl (nJ_in _ _) (by decide) rfl (fun ls hl => ?_)
        refine lv_goto (tgt := 4) S.1 S.2.1 dX8_laidCost_29 (by decide) ?_
        exact ih4 (k + 1) (by omega) (by omega) _ (lv_sub hl [2, 1, 0] rfl)
  exact L4 _ 0 (by omega) (Nat.lt_succ_self _) _ (lv_sub hl [2, 1, 0] rfl)
theorem kX8_laidCost {p : Program} {l : Launch} {e : Env} {R : Room} {s : State} {m : MethodId} {args : Array Value} {below : List Frame} {meth : Method} {c : Code} {H : Heap} {locs : List Loc} {cells slots : Nat} {Q : State → Prop} {cc : ByteArray} {nL index pc : Nat} {own : String} {ls : Array Slot} {rest : List Value} {D : va_G} {K : Nat → ClassId} {a : Nat → Nat} {w n lap : Nat} {op mu ba la en : Nat → Nat} {pr : Nat → Option Nat} {sc : MSc} (S : CallFix p m c cc nL s args lw_tb own) (hI : PI D K (mW K a w n lap op mu ba la en pr sc) s H) (hG : GOK w n lap op mu ba la en pr) (hlink : Cond.methodLink own index yX8_laidCost ∈ lw_tb) (hR : RO 4 R cells slots) (hsz : ls.size = nL) (hW : (rest.map fun v => v.category).sum ≤ 8) (hdg : decode cc pc = .ok (.invokevirtual index, 3)) (kk : W p l e R s m args below meth c H locs cells slots Q (F0 m (pc + 3) ls (.int (nI (sumN (fun q => coF pr w (op q) (la q)) n)) :: rest))) : W p l e R s m args below meth c H locs cells slots Q (F0 m pc ls (.ref (a 0) :: rest)) :=
  kV (As := []) (b := a 0) S (mX8_laidCost l hG) hlink tw_818 tw_36 tw_50 tw_819 (by show _ ∧ _ ∧ _ = some 0; decide +kernel) (by decide) hR blP (piU hI) (va_recv hI.2 hI.1 (ci := 8) (q0 := 0) rfl rfl) hsz rfl hW hdg kk

set_option maxHeartbeats 4000000 in
set_option maxRecDepth 100000 in
theorem mX8_cost (l : Launch) {D : va_G} {K : Nat → ClassId} {a : Nat → Nat} {w n lap : Nat} {op mu ba la en : Nat → Nat} {pr : Nat → Option Nat} {sc : MSc} (hG : GOK w n lap op mu ba la en pr) : Met l yX8_cost (TWd yX8_cost cX8_cost 1 (some .int)) (rmk 5) (va_Pc [.ref (a 0)] (fun U => PI D K (mW K a w n lap op mu ba la en pr sc) U U.heap)) (QcRead (nI (sumN (fun q => coF pr w (op q) (la q)) n))) 0 0 (fun _ => False) := by
  refine mt_of (by decide +kernel) (Nat.le_of_ble_eq_true rfl) ?_
  intro p e s m below meth c S hr hlk hI ls hl
  have S : CallFix p m c cX8_cost 1 s ([.ref (a 0)] : List Value).toArray lw_tb RX8 := S
  have hl : lv_has ls 1 [(0, .ref (a 0))] := hl
  obtain ⟨gw1, gw2, gn, gl1, gl2, gop, gmu, gba, gla, gen, gpr, gop2, gmu2, gba2, gla2, gme, gbe, gle, gee⟩ := id hG
  refine lv_aload_n S.1 S.2.1 dX8_cost_0 rfl (lv_at hl 0 rfl) ?_
  refine kX8_laidCost S hI hG tw_816 (rok (by decide)) hl.1 (Nat.le_of_ble_eq_true rfl) dX8_cost_1 ?_
  exact rt_i S hr hlk rfl dX8_cost_4
theorem kX8_cost {p : Program} {l : Launch} {e : Env} {R : Room} {s : State} {m : MethodId} {args : Array Value} {below : List Frame} {meth : Method} {c : Code} {H : Heap} {locs : List Loc} {cells slots : Nat} {Q : State → Prop} {cc : ByteArray} {nL index pc : Nat} {own : String} {ls : Array Slot} {rest : List Value} {D : va_G} {K : Nat → ClassId} {a : Nat → Nat} {w n lap : Nat} {op mu ba la en : Nat → Nat} {pr : Nat → Option Nat} {sc : MSc} (S : CallFix p m c cc nL s args lw_tb own) (hI : PI D K (mW K a w n lap op mu ba la en pr sc) s H) (hG : GOK w n lap op mu ba la en pr) (hlink : Cond.methodLink own index yX8_cost ∈ lw_tb) (hR : RO 5 R cells slots) (hsz : ls.size = nL) (hW : (rest.map fun v => v.category).sum ≤ 8) (hdg : decode cc pc = .ok (.invokevirtual index, 3)) (kk : W p l e R s m args below meth c H locs cells slots Q (F0 m (pc + 3) ls (.int (nI (sumN (fun q => coF pr w (op q) (la q)) n)) :: rest))) : W p l e R s m args below meth c H locs cells slots Q (F0 m pc ls (.ref (a 0) :: rest)) :=
  kV (As := []) (b := a 0) S (mX8_cost l hG) hlink tw_829 tw_830 tw_50 tw_831 (by show _ ∧ _ ∧ _ = some 0; decide +kernel) (by decide) hR blP (piU hI) (va_recv hI.2 hI.1 (ci := 8) (q0 := 0) rfl rfl) hsz rfl hW hdg kk

set_option maxHeartbeats 4000000 in
set_option maxRecDepth 100000 in
theorem mX8_laidPieces (l : Launch) {D : va_G} {K : Nat → ClassId} {a : Nat → Nat} {w n lap : Nat} {op mu ba la en : Nat → Nat} {pr : Nat → Option Nat} {sc : MSc} {L : Nat} (hG : GOK w n lap op mu ba la en pr) (hL : L < 2 ^ 31) : Met l yX8_laidPieces (TWd yX8_laidPieces cX8_laidPieces 4 (some .int)) (rmk 4) (va_Pc [.ref (a 0), .int (nI L)] (fun U => PI D K (mW K a w n lap op mu ba la en pr sc) U U.heap)) (QcRead (nI (sumN (fun q => pcF w (op q) (la q) L) n))) 0 0 (fun _ => False) := by
  refine mt_of (by decide +kernel) (Nat.le_of_ble_eq_true rfl) ?_
  intro p e s m below meth c S hr hlk hI ls hl
  have S : CallFix p m c cX8_laidPieces 4 s ([.ref (a 0), .int (nI L)] : List Value).toArray lw_tb RX8 := S
  have hl : lv_has ls 4 [(0, .ref (a 0)), (1, .int (nI L))] := hl
  obtain ⟨gw1, gw2, gn, gl1, gl2, gop, gmu, gba, gla, gen, gpr, gop2, gmu2, gba2, gla2, gme, gbe, gle, gee⟩ := id hG
  refine lv_iconst (v := nI 0) S.1 S.2.1 dX8_laidPieces_0 (by decide) ?_
  refine ly_top (z := (nI (sumN (fun q => pcF w (op q) (la q) L) 0))) rfl ?_
  refine lv_istore_n (lv' := [(2, .int (nI (sumN (fun q => pcF w (op q) (la q) L) 0))), (0, .ref (a 0)), (1, .int (nI L))]) S.1 S.2.1 dX8_laidPieces_1 rfl hl (by decide) rfl (fun ls hl => ?_)
  refine lv_iconst (v := nI 0) S.1 S.2.1 dX8_laidPieces_2 (by decide) ?_
  refine lv_istore_n (lv' := [(3, .int (nI 0)), (2, .int (nI (sumN (fun q => pcF w (op q) (la q) L) 0))), (0, .ref (a 0)), (1, .int (nI L))]) S.1 S.2.1 dX8_laidPieces_3 rfl hl (by decide) rfl (fun ls hl => ?_)
  have L4 : ∀ (f4 : Nat) (k : Nat), (k ≤ n) → n - k < f4 → ∀ (ls : Array Slot), lv_has ls 4 [(0, .ref (a 0)), (1, .int (nI L)), (2, .int (nI (sumN (fun q => pcF w (op q) (la q) L) k))), (3, .int (nI k))] → W p l e (rmk 4) s m ([.ref (a 0), .int (nI L)] : List Value).toArray below meth c s.heap [] 0 0 (MQ below (QcRead (nI (sumN (fun q => pcF w (op q) (la q) L) n))) ([.ref (a 0), .int (nI L)] : List Value).toArray s 0 0 (fun _ => False)) (F0 m 4 ls []) := by
    intro f4
    induction f4 with
    | zero =>
      intro k i2 hm
      exact absurd hm (Nat.not_lt_zero _)
    | succ f4 ih4 =>
      intro k i2 hm4 ls hl
      have o1 := gla k
      refine lv_iload_n S.1 S.2.1 dX8_laidPieces_4 rfl (lv_at hl 3 rfl) ?_
      refine lv_aload_n S.1 S.2.1 dX8_laidPieces_5 rfl (lv_at hl 0 rfl) ?_
      refine g8 S hI 0 rfl 1 (by decide) tw_608 rfl dX8_laidPieces_6 ?_
      refine ly_cmge (tgt := 33) S (nI_le1 (by omega) (by omega)) (nI_le2 (by omega) (by omega)) dX8_laidPieces_9 (by decide) (fun h1 => ?_) (fun h1 => ?_)
      · skip
        refine lv_iload_n S.1 S.2.1 dX8_laidPieces_33 rfl (lv_at hl 2 rfl) ?_
        exact rt_i S hr hlk (by rw [show k = n by omega]) dX8_laidPieces_34
      · skip
        refine lv_iload_n S.1 S.2.1 dX8_laidPieces_12 rfl (lv_at hl 2 rfl) ?_
        refine lv_aload_n S.1 S.2.1 dX8_laidPieces_13 rfl (lv_at hl 0 rfl) ?_
        refine lv_iload_n S.1 S.2.1 dX8_laidPieces_14 rfl (lv_at hl 3 rfl) ?_
        refine lv_aload_n S.1 S.2.1 dX8_laidPieces_15 rfl (lv_at hl 0 rfl) ?_
        refine g8 S hI 0 rfl 5 (by decide) tw_612 rfl dX8_laidPieces_16 ?_
        refine lv_iload_n S.1 S.2.1 dX8_laidPieces_19 rfl (lv_at hl 3 rfl) ?_
        refine ly_iald (v := (nI (la k))) S hI 4 rfl (by omega) (by decide) rfl dX8_laidPieces_20 ?_
        refine lv_iload_n S.1 S.2.1 dX8_laidPieces_21 rfl (lv_at hl 1 rfl) ?_
        refine kX8_piecesIn S hI hG (by omega) (by omega) (by omega) tw_792 (rok (by decide)) hl.1 (Nat.le_of_ble_eq_true rfl) dX8_laidPieces_22 ?_
        have b2 : pcF w (op k) (la k) L ≤ 10 := pcF_le gw2 _ _ _
        refine lv_iadd S.1 S.2.1 dX8_laidPieces_25 ?_
        refine ly_top (z := nI ((sumN (fun q => pcF w (op q) (la q) L) k) + (pcF w (op k) (la k) L))) (nI_add _ _) ?_
        refine ly_top (z := (nI (sumN (fun q => pcF w (op q) (la q) L) (k + 1)))) rfl ?_
        refine lv_istore_n (lv' := [(2, .int (nI (sumN (fun q => pcF w (op q) (la q) L) (k + 1)))), (0, .ref (a 0)), (1, .int (nI L)), (3, .int (nI k))]) S.1 S.2.1 dX8_laidPieces_26 rfl hl (by decide) rfl (fun ls hl => ?_)
        refine lv_iinc (v := nI (k + 1)) (lv' := [(3, .int (nI (k + 1))), (2, .int (nI (sumN (fun q => pcF w (op q) (la q) L) (k + 1)))), (0, .ref (a 0)), (1, .int (nI L))]) S.1 S.2.1 dX8_laidPieces_27 hl (k := 3) rfl (nJ_in _ _) (by decide) rfl (fun ls hl => ?_)
        refine lv_goto (tgt := 4) S.1 S.2.1 dX8_laidPieces_30 (by decide) ?_
        exact ih4 (k + 1) (by omega) (by omega) _ (lv_sub hl [2, 3, 1, 0] rfl)
  exact L4 _ 0 (by omega) (Nat.lt_succ_self _) _ (lv_sub hl [2, 3, 1, 0] rfl)
theorem kX8_laidPieces {p : Program} {l : Launch} {e : Env} {R : Room} {s : State} {m : MethodId} {args : Array Value} {below : List Frame} {meth : Method} {c : Code} {H : Heap} {locs : List Loc} {cells slots : Nat} {Q : State → Prop} {cc : ByteArray} {nL index pc : Nat} {own : String} {ls : Array Slot} {rest : List Value} {D : va_G} {K : Nat → ClassId} {a : Nat → Nat} {w n lap : Nat} {op mu ba la en : Nat → Nat} {pr : Nat → Option Nat} {sc : MSc} {L : Nat} (S : CallFix p m c cc nL s args lw_tb own) (hI : PI D K (mW K a w n lap op mu ba la en pr sc) s H) (hG : GOK w n lap op mu ba la en pr) (hL : L < 2 ^ 31) (hlink : Cond.methodLink own index yX8_laidPieces ∈ lw_tb) (hR : RO 4 R cells slots) (hsz : ls.size = nL) (hW : (rest.map fun v => v.category).sum ≤ 8) (hdg : decode cc pc = .ok (.invokevirtual index, 3)) (kk : W p l e R s m args below meth c H locs cells slots Q (F0 m (pc + 3) ls (.int (nI (sumN (fun q => pcF w (op q) (la q) L) n)) :: rest))) : W p l e R s m args below meth c H locs cells slots Q (F0 m pc ls (.int (nI L) :: .ref (a 0) :: rest)) :=
  kV (As := [.int (nI L)]) (b := a 0) S (mX8_laidPieces l hG hL) hlink tw_838 tw_38 tw_50 tw_839 (by show _ ∧ _ ∧ _ = some 1; decide +kernel) (by decide) hR blP (piU hI) (va_recv hI.2 hI.1 (ci := 8) (q0 := 0) rfl rfl) hsz rfl hW hdg kk

set_option maxHeartbeats 4000000 in
set_option maxRecDepth 100000 in
theorem mX8_pieces_a (l : Launch) {D : va_G} {K : Nat → ClassId} {a : Nat → Nat} {w n lap : Nat} {op mu ba la en : Nat → Nat} {pr : Nat → Option Nat} {sc : MSc} {v : Int32} (hG : GOK w n lap op mu ba la en pr) (hv : wiI v (nI 1) (nI 10) = false) : Met l yX8_pieces (TWd yX8_pieces cX8_pieces 2 (some .int)) (rmk 5) (va_Pc [.ref (a 0), .int v] (fun U => PI D K (mW K a w n lap op mu ba la en pr sc) U U.heap)) (QcRead ((-2))) 0 0 (fun _ => False) := by
  refine mt_of (by decide +kernel) (Nat.le_of_ble_eq_true rfl) ?_
  intro p e s m below meth c S hr hlk hI ls hl
  have S : CallFix p m c cX8_pieces 2 s ([.ref (a 0), .int v] : List Value).toArray lw_tb RX8 := S
  have hl : lv_has ls 2 [(0, .ref (a 0)), (1, .int v)] := hl
  obtain ⟨gw1, gw2, gn, gl1, gl2, gop, gmu, gba, gla, gen, gpr, gop2, gmu2, gba2, gla2, gme, gbe, gle, gee⟩ := id hG
  refine lv_iload_n S.1 S.2.1 dX8_pieces_0 rfl (lv_at hl 1 rfl) ?_
  refine lv_iconst (v := nI 1) S.1 S.2.1 dX8_pieces_1 (by decide) ?_
  refine lv_bipush (v := nI 10) S.1 S.2.1 dX8_pieces_2 (by decide) ?_
  refine kX8_within S  tw_658 (rok (by decide)) hl.1 (Nat.le_of_ble_eq_true rfl) dX8_pieces_4 ?_
  refine ly_ifeq (tgt := 18) S bI_e1 bI_e2 dX8_pieces_7 (by decide) (fun h1 => ?_) (fun h1 => ?_)
  · skip
    refine lv_bipush (v := (-2)) S.1 S.2.1 dX8_pieces_18 (by decide) ?_
    exact rt_i S hr hlk rfl dX8_pieces_20
  · skip
    exact absurd h1 (by rw [hv]; decide)
theorem kX8_pieces_a {p : Program} {l : Launch} {e : Env} {R : Room} {s : State} {m : MethodId} {args : Array Value} {below : List Frame} {meth : Method} {c : Code} {H : Heap} {locs : List Loc} {cells slots : Nat} {Q : State → Prop} {cc : ByteArray} {nL index pc : Nat} {own : String} {ls : Array Slot} {rest : List Value} {D : va_G} {K : Nat → ClassId} {a : Nat → Nat} {w n lap : Nat} {op mu ba la en : Nat → Nat} {pr : Nat → Option Nat} {sc : MSc} {v : Int32} (S : CallFix p m c cc nL s args lw_tb own) (hI : PI D K (mW K a w n lap op mu ba la en pr sc) s H) (hG : GOK w n lap op mu ba la en pr) (hv : wiI v (nI 1) (nI 10) = false) (hlink : Cond.methodLink own index yX8_pieces ∈ lw_tb) (hR : RO 5 R cells slots) (hsz : ls.size = nL) (hW : (rest.map fun v => v.category).sum ≤ 8) (hdg : decode cc pc = .ok (.invokevirtual index, 3)) (kk : W p l e R s m args below meth c H locs cells slots Q (F0 m (pc + 3) ls (.int ((-2)) :: rest))) : W p l e R s m args below meth c H locs cells slots Q (F0 m pc ls (.int v :: .ref (a 0) :: rest)) :=
  kV (As := [.int v]) (b := a 0) S (mX8_pieces_a l hG hv) hlink tw_833 tw_834 tw_50 tw_835 (by show _ ∧ _ ∧ _ = some 1; decide +kernel) (by decide) hR blP (piU hI) (va_recv hI.2 hI.1 (ci := 8) (q0 := 0) rfl rfl) hsz rfl hW hdg kk

set_option maxHeartbeats 4000000 in
set_option maxRecDepth 100000 in
theorem mX8_pieces_b (l : Launch) {D : va_G} {K : Nat → ClassId} {a : Nat → Nat} {w n lap : Nat} {op mu ba la en : Nat → Nat} {pr : Nat → Option Nat} {sc : MSc} {L : Nat} (hG : GOK w n lap op mu ba la en pr) (h1 : 1 ≤ L) (h2 : L ≤ 10) : Met l yX8_pieces (TWd yX8_pieces cX8_pieces 2 (some .int)) (rmk 5) (va_Pc [.ref (a 0), .int (nI L)] (fun U => PI D K (mW K a w n lap op mu ba la en pr sc) U U.heap)) (QcRead (nI (sumN (fun q => pcF w (op q) (la q) L) n))) 0 0 (fun _ => False) := by
  refine mt_of (by decide +kernel) (Nat.le_of_ble_eq_true rfl) ?_
  intro p e s m below meth c S hr hlk hI ls hl
  have S : CallFix p m c cX8_pieces 2 s ([.ref (a 0), .int (nI L)] : List Value).toArray lw_tb RX8 := S
  have hl : lv_has ls 2 [(0, .ref (a 0)), (1, .int (nI L))] := hl
  obtain ⟨gw1, gw2, gn, gl1, gl2, gop, gmu, gba, gla, gen, gpr, gop2, gmu2, gba2, gla2, gme, gbe, gle, gee⟩ := id hG
  refine lv_iload_n S.1 S.2.1 dX8_pieces_0 rfl (lv_at hl 1 rfl) ?_
  refine lv_iconst (v := nI 1) S.1 S.2.1 dX8_pieces_1 (by decide) ?_
  refine lv_bipush (v := nI 10) S.1 S.2.1 dX8_pieces_2 (by decide) ?_
  refine kX8_within S  tw_658 (rok (by decide)) hl.1 (Nat.le_of_ble_eq_true rfl) dX8_pieces_4 ?_
  refine ly_ifeq (tgt := 18) S bI_e1 bI_e2 dX8_pieces_7 (by decide) (fun h1 => ?_) (fun h1 => ?_)
  · skip
    exact absurd h1 (by rw [wiN (by omega) (by omega) (by omega)]; decide)
  · skip
    refine lv_aload_n S.1 S.2.1 dX8_pieces_10 rfl (lv_at hl 0 rfl) ?_
    refine lv_iload_n S.1 S.2.1 dX8_pieces_11 rfl (lv_at hl 1 rfl) ?_
    refine kX8_laidPieces S hI hG (by omega) tw_836 (rok (by decide)) hl.1 (Nat.le_of_ble_eq_true rfl) dX8_pieces_12 ?_
    have b2 : sumN (fun q => pcF w (op q) (la q) L) n ≤ 80 := lp_le gw2 gn
    refine lv_goto (tgt := 20) S.1 S.2.1 dX8_pieces_15 (by decide) ?_
    exact rt_i S hr hlk rfl dX8_pieces_20
theorem kX8_pieces_b {p : Program} {l : Launch} {e : Env} {R : Room} {s : State} {m : MethodId} {args : Array Value} {below : List Frame} {meth : Method} {c : Code} {H : Heap} {locs : List Loc} {cells slots : Nat} {Q : State → Prop} {cc : ByteArray} {nL index pc : Nat} {own : String} {ls : Array Slot} {rest : List Value} {D : va_G} {K : Nat → ClassId} {a : Nat → Nat} {w n lap : Nat} {op mu ba la en : Nat → Nat} {pr : Nat → Option Nat} {sc : MSc} {L : Nat} (S : CallFix p m c cc nL s args lw_tb own) (hI : PI D K (mW K a w n lap op mu ba la en pr sc) s H) (hG : GOK w n lap op mu ba la en pr) (h1 : 1 ≤ L) (h2 : L ≤ 10) (hlink : Cond.methodLink own index yX8_pieces ∈ lw_tb) (hR : RO 5 R cells slots) (hsz : ls.size = nL) (hW : (rest.map fun v => v.category).sum ≤ 8) (hdg : decode cc pc = .ok (.invokevirtual index, 3)) (kk : W p l e R s m args below meth c H locs cells slots Q (F0 m (pc + 3) ls (.int (nI (sumN (fun q => pcF w (op q) (la q) L) n)) :: rest))) : W p l e R s m args below meth c H locs cells slots Q (F0 m pc ls (.int (nI L) :: .ref (a 0) :: rest)) :=
  kV (As := [.int (nI L)]) (b := a 0) S (mX8_pieces_b l hG h1 h2) hlink tw_833 tw_834 tw_50 tw_835 (by show _ ∧ _ ∧ _ = some 1; decide +kernel) (by decide) hR blP (piU hI) (va_recv hI.2 hI.1 (ci := 8) (q0 := 0) rfl rfl) hsz rfl hW hdg kk

set_option maxHeartbeats 4000000 in
set_option maxRecDepth 100000 in
theorem mX8_piece_a (l : Launch) {D : va_G} {K : Nat → ClassId} {a : Nat → Nat} {w n lap : Nat} {op mu ba la en : Nat → Nat} {pr : Nat → Option Nat} {sc : MSc} {v : Int32} {z : Int32} (hG : GOK w n lap op mu ba la en pr) (hv : wiI v 0 (nI n - 1) = false) : Met l yX8_piece (TWd yX8_piece cX8_piece 3 (some .int)) (rmk 3) (va_Pc [.ref (a 0), .int v, .int z] (fun U => PI D K (mW K a w n lap op mu ba la en pr sc) U U.heap)) (QcRead ((-1))) 0 0 (fun _ => False) := by
  refine mt_of (by decide +kernel) (Nat.le_of_ble_eq_true rfl) ?_
  intro p e s m below meth c S hr hlk hI ls hl
  have S : CallFix p m c cX8_piece 3 s ([.ref (a 0), .int v, .int z] : List Value).toArray lw_tb RX8 := S
  have hl : lv_has ls 3 [(0, .ref (a 0)), (1, .int v), (2, .int z)] := hl
  obtain ⟨gw1, gw2, gn, gl1, gl2, gop, gmu, gba, gla, gen, gpr, gop2, gmu2, gba2, gla2, gme, gbe, gle, gee⟩ := id hG
  refine lv_aload_n S.1 S.2.1 dX8_piece_0 rfl (lv_at hl 0 rfl) ?_
  refine lv_iload_n S.1 S.2.1 dX8_piece_1 rfl (lv_at hl 1 rfl) ?_
  refine kX8_isCourse S hI hG tw_673 (rok (by decide)) hl.1 (Nat.le_of_ble_eq_true rfl) dX8_piece_2 ?_
  refine ly_ifne (tgt := 10) S bI_e2 bI_e1 dX8_piece_5 (by decide) (fun h1 => ?_) (fun h1 => ?_)
  · skip
    exact absurd h1 (by rw [hv]; decide)
  · skip
    refine lv_iconst (v := (-1)) S.1 S.2.1 dX8_piece_8 (by decide) ?_
    exact rt_i S hr hlk rfl dX8_piece_9
theorem kX8_piece_a {p : Program} {l : Launch} {e : Env} {R : Room} {s : State} {m : MethodId} {args : Array Value} {below : List Frame} {meth : Method} {c : Code} {H : Heap} {locs : List Loc} {cells slots : Nat} {Q : State → Prop} {cc : ByteArray} {nL index pc : Nat} {own : String} {ls : Array Slot} {rest : List Value} {D : va_G} {K : Nat → ClassId} {a : Nat → Nat} {w n lap : Nat} {op mu ba la en : Nat → Nat} {pr : Nat → Option Nat} {sc : MSc} {v : Int32} {z : Int32} (S : CallFix p m c cc nL s args lw_tb own) (hI : PI D K (mW K a w n lap op mu ba la en pr sc) s H) (hG : GOK w n lap op mu ba la en pr) (hv : wiI v 0 (nI n - 1) = false) (hlink : Cond.methodLink own index yX8_piece ∈ lw_tb) (hR : RO 3 R cells slots) (hsz : ls.size = nL) (hW : (rest.map fun v => v.category).sum ≤ 8) (hdg : decode cc pc = .ok (.invokevirtual index, 3)) (kk : W p l e R s m args below meth c H locs cells slots Q (F0 m (pc + 3) ls (.int ((-1)) :: rest))) : W p l e R s m args below meth c H locs cells slots Q (F0 m pc ls (.int z :: .int v :: .ref (a 0) :: rest)) :=
  kV (As := [.int v, .int z]) (b := a 0) S (mX8_piece_a l hG hv) hlink tw_841 tw_842 tw_50 tw_843 (by show _ ∧ _ ∧ _ = some 2; decide +kernel) (by decide) hR blP (piU hI) (va_recv hI.2 hI.1 (ci := 8) (q0 := 0) rfl rfl) hsz rfl hW hdg kk

set_option maxHeartbeats 4000000 in
set_option maxRecDepth 100000 in
theorem mX8_piece_b (l : Launch) {D : va_G} {K : Nat → ClassId} {a : Nat → Nat} {w n lap : Nat} {op mu ba la en : Nat → Nat} {pr : Nat → Option Nat} {sc : MSc} {ci : Nat} {z : Int32} (hG : GOK w n lap op mu ba la en pr) (hc : ci < n) (hz : wiI z (nI 0) (nI (w - 1)) = false) : Met l yX8_piece (TWd yX8_piece cX8_piece 3 (some .int)) (rmk 3) (va_Pc [.ref (a 0), .int (nI ci), .int z] (fun U => PI D K (mW K a w n lap op mu ba la en pr sc) U U.heap)) (QcRead ((-2))) 0 0 (fun _ => False) := by
  refine mt_of (by decide +kernel) (Nat.le_of_ble_eq_true rfl) ?_
  intro p e s m below meth c S hr hlk hI ls hl
  have S : CallFix p m c cX8_piece 3 s ([.ref (a 0), .int (nI ci), .int z] : List Value).toArray lw_tb RX8 := S
  have hl : lv_has ls 3 [(0, .ref (a 0)), (1, .int (nI ci)), (2, .int z)] := hl
  obtain ⟨gw1, gw2, gn, gl1, gl2, gop, gmu, gba, gla, gen, gpr, gop2, gmu2, gba2, gla2, gme, gbe, gle, gee⟩ := id hG
  refine lv_aload_n S.1 S.2.1 dX8_piece_0 rfl (lv_at hl 0 rfl) ?_
  refine lv_iload_n S.1 S.2.1 dX8_piece_1 rfl (lv_at hl 1 rfl) ?_
  refine kX8_isCourse S hI hG tw_673 (rok (by decide)) hl.1 (Nat.le_of_ble_eq_true rfl) dX8_piece_2 ?_
  refine ly_ifne (tgt := 10) S bI_e2 bI_e1 dX8_piece_5 (by decide) (fun h1 => ?_) (fun h1 => ?_)
  · skip
    refine lv_iload_n S.1 S.2.1 dX8_piece_10 rfl (lv_at hl 2 rfl) ?_
    refine lv_iconst (v := nI 0) S.1 S.2.1 dX8_piece_11 (by decide) ?_
    refine lv_aload_n S.1 S.2.1 dX8_piece_12 rfl (lv_at hl 0 rfl) ?_
    refine g8 S hI 0 rfl 0 (by decide) tw_607 rfl dX8_piece_13 ?_
    refine lv_iconst (v := nI 1) S.1 S.2.1 dX8_piece_16 (by decide) ?_
    refine lv_isub S.1 S.2.1 dX8_piece_17 ?_
    refine ly_top (z := nI (w - 1)) (pk_sub (by omega)) ?_
    refine kX8_within S  tw_658 (rok (by decide)) hl.1 (Nat.le_of_ble_eq_true rfl) dX8_piece_18 ?_
    refine ly_ifne (tgt := 27) S bI_e2 bI_e1 dX8_piece_21 (by decide) (fun h2 => ?_) (fun h2 => ?_)
    · skip
      exact absurd h2 (by rw [hz]; decide)
    · skip
      refine lv_bipush (v := (-2)) S.1 S.2.1 dX8_piece_24 (by decide) ?_
      exact rt_i S hr hlk rfl dX8_piece_26
  · skip
    exact absurd h1 (by rw [wiC (by omega) (by omega)]; decide)
theorem kX8_piece_b {p : Program} {l : Launch} {e : Env} {R : Room} {s : State} {m : MethodId} {args : Array Value} {below : List Frame} {meth : Method} {c : Code} {H : Heap} {locs : List Loc} {cells slots : Nat} {Q : State → Prop} {cc : ByteArray} {nL index pc : Nat} {own : String} {ls : Array Slot} {rest : List Value} {D : va_G} {K : Nat → ClassId} {a : Nat → Nat} {w n lap : Nat} {op mu ba la en : Nat → Nat} {pr : Nat → Option Nat} {sc : MSc} {ci : Nat} {z : Int32} (S : CallFix p m c cc nL s args lw_tb own) (hI : PI D K (mW K a w n lap op mu ba la en pr sc) s H) (hG : GOK w n lap op mu ba la en pr) (hc : ci < n) (hz : wiI z (nI 0) (nI (w - 1)) = false) (hlink : Cond.methodLink own index yX8_piece ∈ lw_tb) (hR : RO 3 R cells slots) (hsz : ls.size = nL) (hW : (rest.map fun v => v.category).sum ≤ 8) (hdg : decode cc pc = .ok (.invokevirtual index, 3)) (kk : W p l e R s m args below meth c H locs cells slots Q (F0 m (pc + 3) ls (.int ((-2)) :: rest))) : W p l e R s m args below meth c H locs cells slots Q (F0 m pc ls (.int z :: .int (nI ci) :: .ref (a 0) :: rest)) :=
  kV (As := [.int (nI ci), .int z]) (b := a 0) S (mX8_piece_b l hG hc hz) hlink tw_841 tw_842 tw_50 tw_843 (by show _ ∧ _ ∧ _ = some 2; decide +kernel) (by decide) hR blP (piU hI) (va_recv hI.2 hI.1 (ci := 8) (q0 := 0) rfl rfl) hsz rfl hW hdg kk

set_option maxHeartbeats 4000000 in
set_option maxRecDepth 100000 in
theorem mX8_piece_c (l : Launch) {D : va_G} {K : Nat → ClassId} {a : Nat → Nat} {w n lap : Nat} {op mu ba la en : Nat → Nat} {pr : Nat → Option Nat} {sc : MSc} {ci : Nat} {x : Nat} (hG : GOK w n lap op mu ba la en pr) (hc : ci < n) (hx : x < w) (ho : Nat.testBit (op ci) x = true) : Met l yX8_piece (TWd yX8_piece cX8_piece 3 (some .int)) (rmk 3) (va_Pc [.ref (a 0), .int (nI ci), .int (nI x)] (fun U => PI D K (mW K a w n lap op mu ba la en pr sc) U U.heap)) (QcRead ((-9))) 0 0 (fun _ => False) := by
  refine mt_of (by decide +kernel) (Nat.le_of_ble_eq_true rfl) ?_
  intro p e s m below meth c S hr hlk hI ls hl
  have S : CallFix p m c cX8_piece 3 s ([.ref (a 0), .int (nI ci), .int (nI x)] : List Value).toArray lw_tb RX8 := S
  have hl : lv_has ls 3 [(0, .ref (a 0)), (1, .int (nI ci)), (2, .int (nI x))] := hl
  obtain ⟨gw1, gw2, gn, gl1, gl2, gop, gmu, gba, gla, gen, gpr, gop2, gmu2, gba2, gla2, gme, gbe, gle, gee⟩ := id hG
  have o1 := gop ci
  refine lv_aload_n S.1 S.2.1 dX8_piece_0 rfl (lv_at hl 0 rfl) ?_
  refine lv_iload_n S.1 S.2.1 dX8_piece_1 rfl (lv_at hl 1 rfl) ?_
  refine kX8_isCourse S hI hG tw_673 (rok (by decide)) hl.1 (Nat.le_of_ble_eq_true rfl) dX8_piece_2 ?_
  refine ly_ifne (tgt := 10) S bI_e2 bI_e1 dX8_piece_5 (by decide) (fun h1 => ?_) (fun h1 => ?_)
  · skip
    refine lv_iload_n S.1 S.2.1 dX8_piece_10 rfl (lv_at hl 2 rfl) ?_
    refine lv_iconst (v := nI 0) S.1 S.2.1 dX8_piece_11 (by decide) ?_
    refine lv_aload_n S.1 S.2.1 dX8_piece_12 rfl (lv_at hl 0 rfl) ?_
    refine g8 S hI 0 rfl 0 (by decide) tw_607 rfl dX8_piece_13 ?_
    refine lv_iconst (v := nI 1) S.1 S.2.1 dX8_piece_16 (by decide) ?_
    refine lv_isub S.1 S.2.1 dX8_piece_17 ?_
    refine ly_top (z := nI (w - 1)) (pk_sub (by omega)) ?_
    refine kX8_within S  tw_658 (rok (by decide)) hl.1 (Nat.le_of_ble_eq_true rfl) dX8_piece_18 ?_
    refine ly_ifne (tgt := 27) S bI_e2 bI_e1 dX8_piece_21 (by decide) (fun h2 => ?_) (fun h2 => ?_)
    · skip
      refine lv_aload_n S.1 S.2.1 dX8_piece_27 rfl (lv_at hl 0 rfl) ?_
      refine g8 S hI 0 rfl 2 (by decide) tw_609 rfl dX8_piece_28 ?_
      refine lv_iload_n S.1 S.2.1 dX8_piece_31 rfl (lv_at hl 1 rfl) ?_
      refine ly_iald (v := (nI (op ci))) S hI 1 rfl (by omega) (by decide) rfl dX8_piece_32 ?_
      refine lv_iload_n S.1 S.2.1 dX8_piece_33 rfl (lv_at hl 2 rfl) ?_
      refine kX8_has S (by omega) (by omega) tw_705 (rok (by decide)) hl.1 (Nat.le_of_ble_eq_true rfl) dX8_piece_34 ?_
      refine ly_ifeq (tgt := 45) S bI_e1 bI_e2 dX8_piece_37 (by decide) (fun h3 => ?_) (fun h3 => ?_)
      · skip
        exact absurd h3 (by rw [ho]; decide)
      · skip
        refine lv_bipush (v := (-9)) S.1 S.2.1 dX8_piece_40 (by decide) ?_
        refine lv_goto (tgt := 68) S.1 S.2.1 dX8_piece_42 (by decide) ?_
        exact rt_i S hr hlk rfl dX8_piece_68
    · skip
      exact absurd h2 (by rw [wiN (by omega) (by omega) (by omega)]; decide)
  · skip
    exact absurd h1 (by rw [wiC (by omega) (by omega)]; decide)
theorem kX8_piece_c {p : Program} {l : Launch} {e : Env} {R : Room} {s : State} {m : MethodId} {args : Array Value} {below : List Frame} {meth : Method} {c : Code} {H : Heap} {locs : List Loc} {cells slots : Nat} {Q : State → Prop} {cc : ByteArray} {nL index pc : Nat} {own : String} {ls : Array Slot} {rest : List Value} {D : va_G} {K : Nat → ClassId} {a : Nat → Nat} {w n lap : Nat} {op mu ba la en : Nat → Nat} {pr : Nat → Option Nat} {sc : MSc} {ci : Nat} {x : Nat} (S : CallFix p m c cc nL s args lw_tb own) (hI : PI D K (mW K a w n lap op mu ba la en pr sc) s H) (hG : GOK w n lap op mu ba la en pr) (hc : ci < n) (hx : x < w) (ho : Nat.testBit (op ci) x = true) (hlink : Cond.methodLink own index yX8_piece ∈ lw_tb) (hR : RO 3 R cells slots) (hsz : ls.size = nL) (hW : (rest.map fun v => v.category).sum ≤ 8) (hdg : decode cc pc = .ok (.invokevirtual index, 3)) (kk : W p l e R s m args below meth c H locs cells slots Q (F0 m (pc + 3) ls (.int ((-9)) :: rest))) : W p l e R s m args below meth c H locs cells slots Q (F0 m pc ls (.int (nI x) :: .int (nI ci) :: .ref (a 0) :: rest)) :=
  kV (As := [.int (nI ci), .int (nI x)]) (b := a 0) S (mX8_piece_c l hG hc hx ho) hlink tw_841 tw_842 tw_50 tw_843 (by show _ ∧ _ ∧ _ = some 2; decide +kernel) (by decide) hR blP (piU hI) (va_recv hI.2 hI.1 (ci := 8) (q0 := 0) rfl rfl) hsz rfl hW hdg kk

set_option maxHeartbeats 4000000 in
set_option maxRecDepth 100000 in
theorem mX8_piece_d (l : Launch) {D : va_G} {K : Nat → ClassId} {a : Nat → Nat} {w n lap : Nat} {op mu ba la en : Nat → Nat} {pr : Nat → Option Nat} {sc : MSc} {ci : Nat} {x : Nat} (hG : GOK w n lap op mu ba la en pr) (hc : ci < n) (hx : x < w) (ho : Nat.testBit (op ci) x = false) : Met l yX8_piece (TWd yX8_piece cX8_piece 3 (some .int)) (rmk 3) (va_Pc [.ref (a 0), .int (nI ci), .int (nI x)] (fun U => PI D K (mW K a w n lap op mu ba la en pr sc) U U.heap)) (QcRead (nI (lenF w (op ci) (la ci) (foF (op ci) (la ci) x)))) 0 0 (fun _ => False) := by
  refine mt_of (by decide +kernel) (Nat.le_of_ble_eq_true rfl) ?_
  intro p e s m below meth c S hr hlk hI ls hl
  have S : CallFix p m c cX8_piece 3 s ([.ref (a 0), .int (nI ci), .int (nI x)] : List Value).toArray lw_tb RX8 := S
  have hl : lv_has ls 3 [(0, .ref (a 0)), (1, .int (nI ci)), (2, .int (nI x))] := hl
  obtain ⟨gw1, gw2, gn, gl1, gl2, gop, gmu, gba, gla, gen, gpr, gop2, gmu2, gba2, gla2, gme, gbe, gle, gee⟩ := id hG
  have o1 := gop ci
  have o2 := gla ci
  refine lv_aload_n S.1 S.2.1 dX8_piece_0 rfl (lv_at hl 0 rfl) ?_
  refine lv_iload_n S.1 S.2.1 dX8_piece_1 rfl (lv_at hl 1 rfl) ?_
  refine kX8_isCourse S hI hG tw_673 (rok (by decide)) hl.1 (Nat.le_of_ble_eq_true rfl) dX8_piece_2 ?_
  refine ly_ifne (tgt := 10) S bI_e2 bI_e1 dX8_piece_5 (by decide) (fun h1 => ?_) (fun h1 => ?_)
  · skip
    refine lv_iload_n S.1 S.2.1 dX8_piece_10 rfl (lv_at hl 2 rfl) ?_
    refine lv_iconst (v := nI 0) S.1 S.2.1 dX8_piece_11 (by decide) ?_
    refine lv_aload_n S.1 S.2.1 dX8_piece_12 rfl (lv_at hl 0 rfl) ?_
    refine g8 S hI 0 rfl 0 (by decide) tw_607 rfl dX8_piece_13 ?_
    refine lv_iconst (v := nI 1) S.1 S.2.1 dX8_piece_16 (by decide) ?_
    refine lv_isub S.1 S.2.1 dX8_piece_17 ?_
    refine ly_top (z := nI (w - 1)) (pk_sub (by omega)) ?_
    refine kX8_within S  tw_658 (rok (by decide)) hl.1 (Nat.le_of_ble_eq_true rfl) dX8_piece_18 ?_
    refine ly_ifne (tgt := 27) S bI_e2 bI_e1 dX8_piece_21 (by decide) (fun h2 => ?_) (fun h2 => ?_)
    · skip
      refine lv_aload_n S.1 S.2.1 dX8_piece_27 rfl (lv_at hl 0 rfl) ?_
      refine g8 S hI 0 rfl 2 (by decide) tw_609 rfl dX8_piece_28 ?_
      refine lv_iload_n S.1 S.2.1 dX8_piece_31 rfl (lv_at hl 1 rfl) ?_
      refine ly_iald (v := (nI (op ci))) S hI 1 rfl (by omega) (by decide) rfl dX8_piece_32 ?_
      refine lv_iload_n S.1 S.2.1 dX8_piece_33 rfl (lv_at hl 2 rfl) ?_
      refine kX8_has S (by omega) (by omega) tw_705 (rok (by decide)) hl.1 (Nat.le_of_ble_eq_true rfl) dX8_piece_34 ?_
      refine ly_ifeq (tgt := 45) S bI_e1 bI_e2 dX8_piece_37 (by decide) (fun h3 => ?_) (fun h3 => ?_)
      · skip
        refine lv_aload_n S.1 S.2.1 dX8_piece_45 rfl (lv_at hl 0 rfl) ?_
        refine lv_iload_n S.1 S.2.1 dX8_piece_46 rfl (lv_at hl 1 rfl) ?_
        refine lv_aload_n S.1 S.2.1 dX8_piece_47 rfl (lv_at hl 0 rfl) ?_
        refine g8 S hI 0 rfl 5 (by decide) tw_612 rfl dX8_piece_48 ?_
        refine lv_iload_n S.1 S.2.1 dX8_piece_51 rfl (lv_at hl 1 rfl) ?_
        refine ly_iald (v := (nI (la ci))) S hI 4 rfl (by omega) (by decide) rfl dX8_piece_52 ?_
        refine lv_aload_n S.1 S.2.1 dX8_piece_53 rfl (lv_at hl 0 rfl) ?_
        refine lv_iload_n S.1 S.2.1 dX8_piece_54 rfl (lv_at hl 1 rfl) ?_
        refine lv_aload_n S.1 S.2.1 dX8_piece_55 rfl (lv_at hl 0 rfl) ?_
        refine g8 S hI 0 rfl 5 (by decide) tw_612 rfl dX8_piece_56 ?_
        refine lv_iload_n S.1 S.2.1 dX8_piece_59 rfl (lv_at hl 1 rfl) ?_
        refine ly_iald (v := (nI (la ci))) S hI 4 rfl (by omega) (by decide) rfl dX8_piece_60 ?_
        refine lv_iload_n S.1 S.2.1 dX8_piece_61 rfl (lv_at hl 2 rfl) ?_
        refine kX8_firstOf S hI hG (by omega) (by omega) (by omega) (by assumption) tw_748 (rok (by decide)) hl.1 (Nat.le_of_ble_eq_true rfl) dX8_piece_62 ?_
        have b4 : foF (op ci) (la ci) x ≤ x := foF_le _ _ _
        refine kX8_lengthFrom S hI hG (by omega) (by omega) (by omega) tw_732 (rok (by decide)) hl.1 (Nat.le_of_ble_eq_true rfl) dX8_piece_65 ?_
        have b5 : 1 ≤ lenF w (op ci) (la ci) (foF (op ci) (la ci) x) := lenF_pos
        have b6 : (foF (op ci) (la ci) x) + lenF w (op ci) (la ci) (foF (op ci) (la ci) x) ≤ w := lenF_le (by omega)
        exact rt_i S hr hlk rfl dX8_piece_68
      · skip
        exact absurd h3 (by rw [ho]; decide)
    · skip
      exact absurd h2 (by rw [wiN (by omega) (by omega) (by omega)]; decide)
  · skip
    exact absurd h1 (by rw [wiC (by omega) (by omega)]; decide)
theorem kX8_piece_d {p : Program} {l : Launch} {e : Env} {R : Room} {s : State} {m : MethodId} {args : Array Value} {below : List Frame} {meth : Method} {c : Code} {H : Heap} {locs : List Loc} {cells slots : Nat} {Q : State → Prop} {cc : ByteArray} {nL index pc : Nat} {own : String} {ls : Array Slot} {rest : List Value} {D : va_G} {K : Nat → ClassId} {a : Nat → Nat} {w n lap : Nat} {op mu ba la en : Nat → Nat} {pr : Nat → Option Nat} {sc : MSc} {ci : Nat} {x : Nat} (S : CallFix p m c cc nL s args lw_tb own) (hI : PI D K (mW K a w n lap op mu ba la en pr sc) s H) (hG : GOK w n lap op mu ba la en pr) (hc : ci < n) (hx : x < w) (ho : Nat.testBit (op ci) x = false) (hlink : Cond.methodLink own index yX8_piece ∈ lw_tb) (hR : RO 3 R cells slots) (hsz : ls.size = nL) (hW : (rest.map fun v => v.category).sum ≤ 8) (hdg : decode cc pc = .ok (.invokevirtual index, 3)) (kk : W p l e R s m args below meth c H locs cells slots Q (F0 m (pc + 3) ls (.int (nI (lenF w (op ci) (la ci) (foF (op ci) (la ci) x))) :: rest))) : W p l e R s m args below meth c H locs cells slots Q (F0 m pc ls (.int (nI x) :: .int (nI ci) :: .ref (a 0) :: rest)) :=
  kV (As := [.int (nI ci), .int (nI x)]) (b := a 0) S (mX8_piece_d l hG hc hx ho) hlink tw_841 tw_842 tw_50 tw_843 (by show _ ∧ _ ∧ _ = some 2; decide +kernel) (by decide) hR blP (piU hI) (va_recv hI.2 hI.1 (ci := 8) (q0 := 0) rfl rfl) hsz rfl hW hdg kk

set_option maxHeartbeats 4000000 in
set_option maxRecDepth 100000 in
theorem mX8_laidRule (l : Launch) {D : va_G} {K : Nat → ClassId} {a : Nat → Nat} {w n lap : Nat} {op mu ba la en : Nat → Nat} {pr : Nat → Option Nat} {sc : MSc} {ci : Nat} (hG : GOK w n lap op mu ba la en pr) (hci : ci < 8) : Met l yX8_laidRule (TWd yX8_laidRule cX8_laidRule 4 (some .int)) (rmk 5) (va_Pc [.ref (a 0), .int (nI ci)] (fun U => PI D K (mW K a w n lap op mu ba la en pr sc) U U.heap)) (QcRead (nI (lrF pr w lap op mu ba la en ci))) 0 0 (fun _ => False) := by
  refine mt_of (by decide +kernel) (Nat.le_of_ble_eq_true rfl) ?_
  intro p e s m below meth c S hr hlk hI ls hl
  have S : CallFix p m c cX8_laidRule 4 s ([.ref (a 0), .int (nI ci)] : List Value).toArray lw_tb RX8 := S
  have hl : lv_has ls 4 [(0, .ref (a 0)), (1, .int (nI ci))] := hl
  obtain ⟨gw1, gw2, gn, gl1, gl2, gop, gmu, gba, gla, gen, gpr, gop2, gmu2, gba2, gla2, gme, gbe, gle, gee⟩ := id hG
  have o1 := gla ci
  have o2 := gla (ci - 1)
  refine lv_aload_n S.1 S.2.1 dX8_laidRule_0 rfl (lv_at hl 0 rfl) ?_
  refine lv_iload_n S.1 S.2.1 dX8_laidRule_1 rfl (lv_at hl 1 rfl) ?_
  refine lv_aload_n S.1 S.2.1 dX8_laidRule_2 rfl (lv_at hl 0 rfl) ?_
  refine g8 S hI 0 rfl 5 (by decide) tw_612 rfl dX8_laidRule_3 ?_
  refine lv_iload_n S.1 S.2.1 dX8_laidRule_6 rfl (lv_at hl 1 rfl) ?_
  refine ly_iald (v := (nI (la ci))) S hI 4 rfl (by omega) (by decide) rfl dX8_laidRule_7 ?_
  refine kX8_ruleOf S hI hG (by omega) (by omega) tw_716 (rok (by decide)) hl.1 (Nat.le_of_ble_eq_true rfl) dX8_laidRule_8 ?_
  have b1 : ruF pr w (op ci) (bl op ci) (mu ci) (ba ci) (en (ci % 2 * 2)) (en (ci % 2 * 2 + 1)) (la ci) ≤ 6 := ruF_le
  refine lv_istore_n (lv' := [(2, .int (nI (ruF pr w (op ci) (bl op ci) (mu ci) (ba ci) (en (ci % 2 * 2)) (en (ci % 2 * 2 + 1)) (la ci)))), (0, .ref (a 0)), (1, .int (nI ci))]) S.1 S.2.1 dX8_laidRule_11 rfl hl (by decide) rfl (fun ls hl => ?_)
  have J47 : ∀ (ls : Array Slot), lv_has ls 4 [(0, .ref (a 0)), (1, .int (nI ci)), (2, .int (nI (ruF pr w (op ci) (bl op ci) (mu ci) (ba ci) (en (ci % 2 * 2)) (en (ci % 2 * 2 + 1)) (la ci)))), (3, .int (bI (decide (0 < ci) && decide (arG (la (ci - 1)) lap &&& la ci ≠ 0))))] → W p l e (rmk 5) s m ([.ref (a 0), .int (nI ci)] : List Value).toArray below meth c s.heap [] 0 0 (MQ below (QcRead (nI (lrF pr w lap op mu ba la en ci))) ([.ref (a 0), .int (nI ci)] : List Value).toArray s 0 0 (fun _ => False)) (F0 m 47 ls []) := by
    intro  ls hl
    refine lv_iload_n S.1 S.2.1 dX8_laidRule_47 rfl (lv_at hl 2 rfl) ?_
    refine ly_ifeq (tgt := 55) S (nI_z1 (by omega)) (nI_z2 (by omega)) dX8_laidRule_48 (by decide) (fun h2 => ?_) (fun h2 => ?_)
    · skip
      refine lv_iload_n S.1 S.2.1 dX8_laidRule_55 rfl (lv_at hl 3 rfl) ?_
      refine ly_ifeq (tgt := 64) S bI_e1 bI_e2 dX8_laidRule_56 (by decide) (fun h3 => ?_) (fun h3 => ?_)
      · skip
        refine lv_iconst (v := nI 0) S.1 S.2.1 dX8_laidRule_64 (by decide) ?_
        exact rt_i S hr hlk (lrF_3 h2 h3) dX8_laidRule_65
      · skip
        refine lv_bipush (v := nI 7) S.1 S.2.1 dX8_laidRule_59 (by decide) ?_
        refine lv_goto (tgt := 65) S.1 S.2.1 dX8_laidRule_61 (by decide) ?_
        exact rt_i S hr hlk (lrF_2 h2 h3) dX8_laidRule_65
    · skip
      refine lv_iload_n S.1 S.2.1 dX8_laidRule_51 rfl (lv_at hl 2 rfl) ?_
      refine lv_goto (tgt := 65) S.1 S.2.1 dX8_laidRule_52 (by decide) ?_
      exact rt_i S hr hlk (lrF_1 h2) dX8_laidRule_65
  refine lv_iload_n S.1 S.2.1 dX8_laidRule_12 rfl (lv_at hl 2 rfl) ?_
  refine ly_ifle (tgt := 45) S (fun q => nI_p2 (by omega) (Int32.not_lt.mpr q)) (fun q => nI_p1 (by omega) (Int32.not_le.mp q)) dX8_laidRule_13 (by decide) (fun h4 => ?_) (fun h4 => ?_)
  · skip
    refine lv_iconst (v := nI 0) S.1 S.2.1 dX8_laidRule_45 (by decide) ?_
    refine ly_top (z := bI (decide (0 < ci) && decide (arG (la (ci - 1)) lap &&& la ci ≠ 0))) (by rw [show (decide (0 < ci) && decide (arG (la (ci - 1)) lap &&& la ci ≠ 0)) = false by simp [h4]]; rfl) ?_
    refine lv_istore_n (lv' := [(3, .int (bI (decide (0 < ci) && decide (arG (la (ci - 1)) lap &&& la ci ≠ 0)))), (2, .int (nI (ruF pr w (op ci) (bl op ci) (mu ci) (ba ci) (en (ci % 2 * 2)) (en (ci % 2 * 2 + 1)) (la ci)))), (0, .ref (a 0)), (1, .int (nI ci))]) S.1 S.2.1 dX8_laidRule_46 rfl hl (by decide) rfl (fun ls hl => ?_)
    exact J47  _ (lv_sub hl [2, 3, 1, 0] rfl)
  · skip
    refine lv_aload_n S.1 S.2.1 dX8_laidRule_16 rfl (lv_at hl 1 rfl) ?_
    refine g8 S hI 0 rfl 5 (by decide) tw_612 rfl dX8_laidRule_17 ?_
    refine lv_iload_n S.1 S.2.1 dX8_laidRule_20 rfl (lv_at hl 2 rfl) ?_
    refine lv_iconst (v := nI 1) S.1 S.2.1 dX8_laidRule_21 (by decide) ?_
    refine lv_isub S.1 S.2.1 dX8_laidRule_22 ?_
    refine ly_top (z := nI (ci - 1)) (pk_sub (by omega)) ?_
    refine ly_iald (v := (nI (la (ci - 1)))) S hI 4 rfl (by omega) (by decide) rfl dX8_laidRule_23 ?_
    refine lv_aload_n S.1 S.2.1 dX8_laidRule_24 rfl (lv_at hl 1 rfl) ?_
    refine g8 S hI 0 rfl 8 (by decide) tw_615 rfl dX8_laidRule_25 ?_
    refine kX8_around S (by omega) (by omega) (by omega) tw_765 (rok (by decide)) hl.1 (Nat.le_of_ble_eq_true rfl) dX8_laidRule_28 ?_
    have b5 : arG (la (ci - 1)) lap < 4096 := arG_lt (by omega) _ (by omega)
    refine lv_aload_n S.1 S.2.1 dX8_laidRule_31 rfl (lv_at hl 1 rfl) ?_
    refine g8 S hI 0 rfl 5 (by decide) tw_612 rfl dX8_laidRule_32 ?_
    refine lv_iload_n S.1 S.2.1 dX8_laidRule_35 rfl (lv_at hl 2 rfl) ?_
    refine ly_iald (v := (nI (la ci))) S hI 4 rfl (by omega) (by decide) rfl dX8_laidRule_36 ?_
    refine lv_iand S.1 S.2.1 dX8_laidRule_37 ?_
    refine ly_top (z := nI ((arG (la (ci - 1)) lap) &&& (la ci))) (nI_and (by omega) (by omega)) ?_
    refine ly_ifeq (tgt := 45) S (nI_z1 (Nat.lt_of_le_of_lt Nat.and_le_right (by omega))) (nI_z2 (Nat.lt_of_le_of_lt Nat.and_le_right (by omega))) dX8_laidRule_38 (by decide) (fun h6 => ?_) (fun h6 => ?_)
    · skip
      refine lv_iconst (v := nI 0) S.1 S.2.1 dX8_laidRule_45 (by decide) ?_
      refine ly_top (z := bI (decide (0 < ci) && decide (arG (la (ci - 1)) lap &&& la ci ≠ 0))) (by rw [show (decide (0 < ci) && decide (arG (la (ci - 1)) lap &&& la ci ≠ 0)) = false by simp [h4, h6]]; rfl) ?_
      refine lv_istore_n (lv' := [(3, .int (bI (decide (0 < ci) && decide (arG (la (ci - 1)) lap &&& la ci ≠ 0)))), (2, .int (nI (ruF pr w (op ci) (bl op ci) (mu ci) (ba ci) (en (ci % 2 * 2)) (en (ci % 2 * 2 + 1)) (la ci)))), (0, .ref (a 0)), (1, .int (nI ci))]) S.1 S.2.1 dX8_laidRule_46 rfl hl (by decide) rfl (fun ls hl => ?_)
      exact J47  _ (lv_sub hl [2, 3, 1, 0] rfl)
    · skip
      refine lv_iconst (v := nI 1) S.1 S.2.1 dX8_laidRule_41 (by decide) ?_
      refine lv_goto (tgt := 46) S.1 S.2.1 dX8_laidRule_42 (by decide) ?_
      refine ly_top (z := bI (decide (0 < ci) && decide (arG (la (ci - 1)) lap &&& la ci ≠ 0))) (by rw [show (decide (0 < ci) && decide (arG (la (ci - 1)) lap &&& la ci ≠ 0)) = true by simp [h4, h6]]; rfl) ?_
      refine lv_istore_n (lv' := [(3, .int (bI (decide (0 < ci) && decide (arG (la (ci - 1)) lap &&& la ci ≠ 0)))), (2, .int (nI (ruF pr w (op ci) (bl op ci) (mu ci) (ba ci) (en (ci % 2 * 2)) (en (ci % 2 * 2 + 1)) (la ci)))), (0, .ref (a 0)), (1, .int (nI ci))]) S.1 S.2.1 dX8_laidRule_46 rfl hl (by decide) rfl (fun ls hl => ?_)
      exact J47  _ (lv_sub hl [2, 3, 1, 0] rfl)
theorem kX8_laidRule {p : Program} {l : Launch} {e : Env} {R : Room} {s : State} {m : MethodId} {args : Array Value} {below : List Frame} {meth : Method} {c : Code} {H : Heap} {locs : List Loc} {cells slots : Nat} {Q : State → Prop} {cc : ByteArray} {nL index pc : Nat} {own : String} {ls : Array Slot} {rest : List Value} {D : va_G} {K : Nat → ClassId} {a : Nat → Nat} {w n lap : Nat} {op mu ba la en : Nat → Nat} {pr : Nat → Option Nat} {sc : MSc} {ci : Nat} (S : CallFix p m c cc nL s args lw_tb own) (hI : PI D K (mW K a w n lap op mu ba la en pr sc) s H) (hG : GOK w n lap op mu ba la en pr) (hci : ci < 8) (hlink : Cond.methodLink own index yX8_laidRule ∈ lw_tb) (hR : RO 5 R cells slots) (hsz : ls.size = nL) (hW : (rest.map fun v => v.category).sum ≤ 8) (hdg : decode cc pc = .ok (.invokevirtual index, 3)) (kk : W p l e R s m args below meth c H locs cells slots Q (F0 m (pc + 3) ls (.int (nI (lrF pr w lap op mu ba la en ci)) :: rest))) : W p l e R s m args below meth c H locs cells slots Q (F0 m pc ls (.int (nI ci) :: .ref (a 0) :: rest)) :=
  kV (As := [.int (nI ci)]) (b := a 0) S (mX8_laidRule l hG hci) hlink tw_826 tw_37 tw_50 tw_827 (by show _ ∧ _ ∧ _ = some 1; decide +kernel) (by decide) hR blP (piU hI) (va_recv hI.2 hI.1 (ci := 8) (q0 := 0) rfl rfl) hsz rfl hW hdg kk

set_option maxHeartbeats 4000000 in
set_option maxRecDepth 100000 in
theorem mX8_wrong_a (l : Launch) {D : va_G} {K : Nat → ClassId} {a : Nat → Nat} {w n lap : Nat} {op mu ba la en : Nat → Nat} {pr : Nat → Option Nat} {sc : MSc} {v : Int32} (hG : GOK w n lap op mu ba la en pr) (hv : wiI v (nI 0) (nI 1) = false) : Met l yX8_wrong (TWd yX8_wrong cX8_wrong 4 (some .int)) (rmk 6) (va_Pc [.ref (a 0), .int v] (fun U => PI D K (mW K a w n lap op mu ba la en pr sc) U U.heap)) (QcRead ((-2))) 0 0 (fun _ => False) := by
  refine mt_of (by decide +kernel) (Nat.le_of_ble_eq_true rfl) ?_
  intro p e s m below meth c S hr hlk hI ls hl
  have S : CallFix p m c cX8_wrong 4 s ([.ref (a 0), .int v] : List Value).toArray lw_tb RX8 := S
  have hl : lv_has ls 4 [(0, .ref (a 0)), (1, .int v)] := hl
  obtain ⟨gw1, gw2, gn, gl1, gl2, gop, gmu, gba, gla, gen, gpr, gop2, gmu2, gba2, gla2, gme, gbe, gle, gee⟩ := id hG
  refine lv_iload_n S.1 S.2.1 dX8_wrong_0 rfl (lv_at hl 1 rfl) ?_
  refine lv_iconst (v := nI 0) S.1 S.2.1 dX8_wrong_1 (by decide) ?_
  refine lv_iconst (v := nI 1) S.1 S.2.1 dX8_wrong_2 (by decide) ?_
  refine kX8_within S  tw_658 (rok (by decide)) hl.1 (Nat.le_of_ble_eq_true rfl) dX8_wrong_3 ?_
  refine ly_ifne (tgt := 12) S bI_e2 bI_e1 dX8_wrong_6 (by decide) (fun h1 => ?_) (fun h1 => ?_)
  · skip
    exact absurd h1 (by rw [hv]; decide)
  · skip
    refine lv_bipush (v := (-2)) S.1 S.2.1 dX8_wrong_9 (by decide) ?_
    exact rt_i S hr hlk rfl dX8_wrong_11
theorem kX8_wrong_a {p : Program} {l : Launch} {e : Env} {R : Room} {s : State} {m : MethodId} {args : Array Value} {below : List Frame} {meth : Method} {c : Code} {H : Heap} {locs : List Loc} {cells slots : Nat} {Q : State → Prop} {cc : ByteArray} {nL index pc : Nat} {own : String} {ls : Array Slot} {rest : List Value} {D : va_G} {K : Nat → ClassId} {a : Nat → Nat} {w n lap : Nat} {op mu ba la en : Nat → Nat} {pr : Nat → Option Nat} {sc : MSc} {v : Int32} (S : CallFix p m c cc nL s args lw_tb own) (hI : PI D K (mW K a w n lap op mu ba la en pr sc) s H) (hG : GOK w n lap op mu ba la en pr) (hv : wiI v (nI 0) (nI 1) = false) (hlink : Cond.methodLink own index yX8_wrong ∈ lw_tb) (hR : RO 6 R cells slots) (hsz : ls.size = nL) (hW : (rest.map fun v => v.category).sum ≤ 8) (hdg : decode cc pc = .ok (.invokevirtual index, 3)) (kk : W p l e R s m args below meth c H locs cells slots Q (F0 m (pc + 3) ls (.int ((-2)) :: rest))) : W p l e R s m args below meth c H locs cells slots Q (F0 m pc ls (.int v :: .ref (a 0) :: rest)) :=
  kV (As := [.int v]) (b := a 0) S (mX8_wrong_a l hG hv) hlink tw_821 tw_822 tw_50 tw_823 (by show _ ∧ _ ∧ _ = some 1; decide +kernel) (by decide) hR blP (piU hI) (va_recv hI.2 hI.1 (ci := 8) (q0 := 0) rfl rfl) hsz rfl hW hdg kk

set_option maxHeartbeats 4000000 in
set_option maxRecDepth 100000 in
theorem mX8_wrong_0 (l : Launch) {D : va_G} {K : Nat → ClassId} {a : Nat → Nat} {w n lap : Nat} {op mu ba la en : Nat → Nat} {pr : Nat → Option Nat} {sc : MSc} (hG : GOK w n lap op mu ba la en pr) : Met l yX8_wrong (TWd yX8_wrong cX8_wrong 4 (some .int)) (rmk 6) (va_Pc [.ref (a 0), .int (nI 0)] (fun U => PI D K (mW K a w n lap op mu ba la en pr sc) U U.heap)) (QcRead (wrG (lrF pr w lap op mu ba la en) (fun q => q) n 0)) 0 0 (fun _ => False) := by
  refine mt_of (by decide +kernel) (Nat.le_of_ble_eq_true rfl) ?_
  intro p e s m below meth c S hr hlk hI ls hl
  have S : CallFix p m c cX8_wrong 4 s ([.ref (a 0), .int (nI 0)] : List Value).toArray lw_tb RX8 := S
  have hl : lv_has ls 4 [(0, .ref (a 0)), (1, .int (nI 0))] := hl
  obtain ⟨gw1, gw2, gn, gl1, gl2, gop, gmu, gba, gla, gen, gpr, gop2, gmu2, gba2, gla2, gme, gbe, gle, gee⟩ := id hG
  refine lv_iload_n S.1 S.2.1 dX8_wrong_0 rfl (lv_at hl 1 rfl) ?_
  refine lv_iconst (v := nI 0) S.1 S.2.1 dX8_wrong_1 (by decide) ?_
  refine lv_iconst (v := nI 1) S.1 S.2.1 dX8_wrong_2 (by decide) ?_
  refine kX8_within S  tw_658 (rok (by decide)) hl.1 (Nat.le_of_ble_eq_true rfl) dX8_wrong_3 ?_
  refine ly_ifne (tgt := 12) S bI_e2 bI_e1 dX8_wrong_6 (by decide) (fun h1 => ?_) (fun h1 => ?_)
  · skip
    refine lv_iconst (v := nI 0) S.1 S.2.1 dX8_wrong_12 (by decide) ?_
    refine lv_istore_n (lv' := [(2, .int (nI 0)), (0, .ref (a 0)), (1, .int (nI 0))]) S.1 S.2.1 dX8_wrong_13 rfl hl (by decide) rfl (fun ls hl => ?_)
    have L14 : ∀ (f14 : Nat) (k : Nat), (k ≤ n) → (wrG (lrF pr w lap op mu ba la en) (fun q => q) (n - k) k = wrG (lrF pr w lap op mu ba la en) (fun q => q) n 0) → n - k < f14 → ∀ (ls : Array Slot), lv_has ls 4 [(0, .ref (a 0)), (1, .int (nI 0)), (2, .int (nI k))] → W p l e (rmk 6) s m ([.ref (a 0), .int (nI 0)] : List Value).toArray below meth c s.heap [] 0 0 (MQ below (QcRead (wrG (lrF pr w lap op mu ba la en) (fun q => q) n 0)) ([.ref (a 0), .int (nI 0)] : List Value).toArray s 0 0 (fun _ => False)) (F0 m 14 ls []) := by
      intro f14
      induction f14 with
      | zero =>
        intro k i2 i3 hm
        exact absurd hm (Nat.not_lt_zero _)
      | succ f14 ih14 =>
        intro k i2 i3 hm14 ls hl
        refine lv_iload_n S.1 S.2.1 dX8_wrong_14 rfl (lv_at hl 2 rfl) ?_
        refine lv_aload_n S.1 S.2.1 dX8_wrong_15 rfl (lv_at hl 0 rfl) ?_
        refine g8 S hI 0 rfl 1 (by decide) tw_608 rfl dX8_wrong_16 ?_
        refine ly_cmge (tgt := 48) S (nI_le1 (by omega) (by omega)) (nI_le2 (by omega) (by omega)) dX8_wrong_19 (by decide) (fun h2 => ?_) (fun h2 => ?_)
        · skip
          refine lv_bipush (v := (-9)) S.1 S.2.1 dX8_wrong_48 (by decide) ?_
          exact rt_i S hr hlk (by rw [← i3, show n - k = 0 by omega]; rfl) dX8_wrong_50
        · skip
          refine lv_aload_n S.1 S.2.1 dX8_wrong_22 rfl (lv_at hl 0 rfl) ?_
          refine lv_iload_n S.1 S.2.1 dX8_wrong_23 rfl (lv_at hl 2 rfl) ?_
          refine kX8_laidRule S hI hG (by omega) tw_824 (rok (by decide)) hl.1 (Nat.le_of_ble_eq_true rfl) dX8_wrong_24 ?_
          have b3 : lrF pr w lap op mu ba la en k ≤ 7 := lrF_le
          refine lv_istore_n (lv' := [(3, .int (nI (lrF pr w lap op mu ba la en k))), (0, .ref (a 0)), (1, .int (nI 0)), (2, .int (nI k))]) S.1 S.2.1 dX8_wrong_27 rfl hl (by decide) rfl (fun ls hl => ?_)
          refine lv_iload_n S.1 S.2.1 dX8_wrong_28 rfl (lv_at hl 0 rfl) ?_
          refine ly_ifeq (tgt := 42) S (nI_z1 (by omega)) (nI_z2 (by omega)) dX8_wrong_29 (by decide) (fun h4 => ?_) (fun h4 => ?_)
          · skip
            refine lv_iinc (v := nI (k + 1)) (lv' := [(2, .int (nI (k + 1))), (3, .int (nI (lrF pr w lap op mu ba la en k))), (0, .ref (a 0)), (1, .int (nI 0))]) S.1 S.2.1 dX8_wrong_42 hl (k := 3) rfl (nJ_in _ _) (by decide) rfl (fun ls hl => ?_)
            refine lv_goto (tgt := 14) S.1 S.2.1 dX8_wrong_45 (by decide) ?_
            exact ih14 (k + 1) (by omega) (by rw [← i3, wrG_s (by omega) h4]) (by omega) _ (lv_sub hl [2, 3, 0] rfl)
          · skip
            refine lv_iload_n S.1 S.2.1 dX8_wrong_32 rfl (lv_at hl 2 rfl) ?_
            refine ly_ifne (tgt := 40) S (nI_z2 (by omega)) (nI_z1 (by omega)) dX8_wrong_33 (by decide) (fun h5 => ?_) (fun h5 => ?_)
            · skip
              exact absurd h5 (by decide)
            · skip
              refine lv_iload_n S.1 S.2.1 dX8_wrong_36 rfl (lv_at hl 3 rfl) ?_
              refine lv_goto (tgt := 41) S.1 S.2.1 dX8_wrong_37 (by decide) ?_
              exact rt_i S hr hlk (by rw [← i3, wrG_t (by omega) h4]) dX8_wrong_41
    exact L14 _ 0 (by omega) rfl (Nat.lt_succ_self _) _ (lv_sub hl [1, 2, 0] rfl)
  · skip
    exact absurd h1 (by rw [wiN (by omega) (by omega) (by omega)]; decide)
theorem kX8_wrong_0 {p : Program} {l : Launch} {e : Env} {R : Room} {s : State} {m : MethodId} {args : Array Value} {below : List Frame} {meth : Method} {c : Code} {H : Heap} {locs : List Loc} {cells slots : Nat} {Q : State → Prop} {cc : ByteArray} {nL index pc : Nat} {own : String} {ls : Array Slot} {rest : List Value} {D : va_G} {K : Nat → ClassId} {a : Nat → Nat} {w n lap : Nat} {op mu ba la en : Nat → Nat} {pr : Nat → Option Nat} {sc : MSc} (S : CallFix p m c cc nL s args lw_tb own) (hI : PI D K (mW K a w n lap op mu ba la en pr sc) s H) (hG : GOK w n lap op mu ba la en pr) (hlink : Cond.methodLink own index yX8_wrong ∈ lw_tb) (hR : RO 6 R cells slots) (hsz : ls.size = nL) (hW : (rest.map fun v => v.category).sum ≤ 8) (hdg : decode cc pc = .ok (.invokevirtual index, 3)) (kk : W p l e R s m args below meth c H locs cells slots Q (F0 m (pc + 3) ls (.int (wrG (lrF pr w lap op mu ba la en) (fun q => q) n 0) :: rest))) : W p l e R s m args below meth c H locs cells slots Q (F0 m pc ls (.int (nI 0) :: .ref (a 0) :: rest)) :=
  kV (As := [.int (nI 0)]) (b := a 0) S (mX8_wrong_0 l hG) hlink tw_821 tw_822 tw_50 tw_823 (by show _ ∧ _ ∧ _ = some 1; decide +kernel) (by decide) hR blP (piU hI) (va_recv hI.2 hI.1 (ci := 8) (q0 := 0) rfl rfl) hsz rfl hW hdg kk

set_option maxHeartbeats 4000000 in
set_option maxRecDepth 100000 in
theorem mX8_wrong_1 (l : Launch) {D : va_G} {K : Nat → ClassId} {a : Nat → Nat} {w n lap : Nat} {op mu ba la en : Nat → Nat} {pr : Nat → Option Nat} {sc : MSc} (hG : GOK w n lap op mu ba la en pr) : Met l yX8_wrong (TWd yX8_wrong cX8_wrong 4 (some .int)) (rmk 6) (va_Pc [.ref (a 0), .int (nI 1)] (fun U => PI D K (mW K a w n lap op mu ba la en pr sc) U U.heap)) (QcRead (wrG (lrF pr w lap op mu ba la en) (lrF pr w lap op mu ba la en) n 0)) 0 0 (fun _ => False) := by
  refine mt_of (by decide +kernel) (Nat.le_of_ble_eq_true rfl) ?_
  intro p e s m below meth c S hr hlk hI ls hl
  have S : CallFix p m c cX8_wrong 4 s ([.ref (a 0), .int (nI 1)] : List Value).toArray lw_tb RX8 := S
  have hl : lv_has ls 4 [(0, .ref (a 0)), (1, .int (nI 1))] := hl
  obtain ⟨gw1, gw2, gn, gl1, gl2, gop, gmu, gba, gla, gen, gpr, gop2, gmu2, gba2, gla2, gme, gbe, gle, gee⟩ := id hG
  refine lv_iload_n S.1 S.2.1 dX8_wrong_0 rfl (lv_at hl 1 rfl) ?_
  refine lv_iconst (v := nI 0) S.1 S.2.1 dX8_wrong_1 (by decide) ?_
  refine lv_iconst (v := nI 1) S.1 S.2.1 dX8_wrong_2 (by decide) ?_
  refine kX8_within S  tw_658 (rok (by decide)) hl.1 (Nat.le_of_ble_eq_true rfl) dX8_wrong_3 ?_
  refine ly_ifne (tgt := 12) S bI_e2 bI_e1 dX8_wrong_6 (by decide) (fun h1 => ?_) (fun h1 => ?_)
  · skip
    refine lv_iconst (v := nI 0) S.1 S.2.1 dX8_wrong_12 (by decide) ?_
    refine lv_istore_n (lv' := [(2, .int (nI 0)), (0, .ref (a 0)), (1, .int (nI 1))]) S.1 S.2.1 dX8_wrong_13 rfl hl (by decide) rfl (fun ls hl => ?_)
    have L14 : ∀ (f14 : Nat) (k : Nat), (k ≤ n) → (wrG (lrF pr w lap op mu ba la en) (lrF pr w lap op mu ba la en) (n - k) k = wrG (lrF pr w lap op mu ba la en) (lrF pr w lap op mu ba la en) n 0) → n - k < f14 → ∀ (ls : Array Slot), lv_has ls 4 [(0, .ref (a 0)), (1, .int (nI 1)), (2, .int (nI k))] → W p l e (rmk 6) s m ([.ref (a 0), .int (nI 1)] : List Value).toArray below meth c s.heap [] 0 0 (MQ below (QcRead (wrG (lrF pr w lap op mu ba la en) (lrF pr w lap op mu ba la en) n 0)) ([.ref (a 0), .int (nI 1)] : List Value).toArray s 0 0 (fun _ => False)) (F0 m 14 ls []) := by
      intro f14
      induction f14 with
      | zero =>
        intro k i2 i3 hm
        exact absurd hm (Nat.not_lt_zero _)
      | succ f14 ih14 =>
        intro k i2 i3 hm14 ls hl
        refine lv_iload_n S.1 S.2.1 dX8_wrong_14 rfl (lv_at hl 2 rfl) ?_
        refine lv_aload_n S.1 S.2.1 dX8_wrong_15 rfl (lv_at hl 0 rfl) ?_
        refine g8 S hI 0 rfl 1 (by decide) tw_608 rfl dX8_wrong_16 ?_
        refine ly_cmge (tgt := 48) S (nI_le1 (by omega) (by omega)) (nI_le2 (by omega) (by omega)) dX8_wrong_19 (by decide) (fun h2 => ?_) (fun h2 => ?_)
        · skip
          refine lv_bipush (v := (-9)) S.1 S.2.1 dX8_wrong_48 (by decide) ?_
          exact rt_i S hr hlk (by rw [← i3, show n - k = 0 by omega]; rfl) dX8_wrong_50
        · skip
          refine lv_aload_n S.1 S.2.1 dX8_wrong_22 rfl (lv_at hl 0 rfl) ?_
          refine lv_iload_n S.1 S.2.1 dX8_wrong_23 rfl (lv_at hl 2 rfl) ?_
          refine kX8_laidRule S hI hG (by omega) tw_824 (rok (by decide)) hl.1 (Nat.le_of_ble_eq_true rfl) dX8_wrong_24 ?_
          have b3 : lrF pr w lap op mu ba la en k ≤ 7 := lrF_le
          refine lv_istore_n (lv' := [(3, .int (nI (lrF pr w lap op mu ba la en k))), (0, .ref (a 0)), (1, .int (nI 1)), (2, .int (nI k))]) S.1 S.2.1 dX8_wrong_27 rfl hl (by decide) rfl (fun ls hl => ?_)
          refine lv_iload_n S.1 S.2.1 dX8_wrong_28 rfl (lv_at hl 0 rfl) ?_
          refine ly_ifeq (tgt := 42) S (nI_z1 (by omega)) (nI_z2 (by omega)) dX8_wrong_29 (by decide) (fun h4 => ?_) (fun h4 => ?_)
          · skip
            refine lv_iinc (v := nI (k + 1)) (lv' := [(2, .int (nI (k + 1))), (3, .int (nI (lrF pr w lap op mu ba la en k))), (0, .ref (a 0)), (1, .int (nI 1))]) S.1 S.2.1 dX8_wrong_42 hl (k := 3) rfl (nJ_in _ _) (by decide) rfl (fun ls hl => ?_)
            refine lv_goto (tgt := 14) S.1 S.2.1 dX8_wrong_45 (by decide) ?_
            exact ih14 (k + 1) (by omega) (by rw [← i3, wrG_s (by omega) h4]) (by omega) _ (lv_sub hl [2, 3, 0] rfl)
          · skip
            refine lv_iload_n S.1 S.2.1 dX8_wrong_32 rfl (lv_at hl 2 rfl) ?_
            refine ly_ifne (tgt := 40) S (nI_z2 (by omega)) (nI_z1 (by omega)) dX8_wrong_33 (by decide) (fun h5 => ?_) (fun h5 => ?_)
            · skip
              refine lv_iload_n S.1 S.2.1 dX8_wrong_40 rfl (lv_at hl 0 rfl) ?_
              exact rt_i S hr hlk (by rw [← i3, wrG_t (by omega) h4]) dX8_wrong_41
            · skip
              exact absurd h5 (by decide)
    exact L14 _ 0 (by omega) rfl (Nat.lt_succ_self _) _ (lv_sub hl [1, 2, 0] rfl)
  · skip
    exact absurd h1 (by rw [wiN (by omega) (by omega) (by omega)]; decide)
theorem kX8_wrong_1 {p : Program} {l : Launch} {e : Env} {R : Room} {s : State} {m : MethodId} {args : Array Value} {below : List Frame} {meth : Method} {c : Code} {H : Heap} {locs : List Loc} {cells slots : Nat} {Q : State → Prop} {cc : ByteArray} {nL index pc : Nat} {own : String} {ls : Array Slot} {rest : List Value} {D : va_G} {K : Nat → ClassId} {a : Nat → Nat} {w n lap : Nat} {op mu ba la en : Nat → Nat} {pr : Nat → Option Nat} {sc : MSc} (S : CallFix p m c cc nL s args lw_tb own) (hI : PI D K (mW K a w n lap op mu ba la en pr sc) s H) (hG : GOK w n lap op mu ba la en pr) (hlink : Cond.methodLink own index yX8_wrong ∈ lw_tb) (hR : RO 6 R cells slots) (hsz : ls.size = nL) (hW : (rest.map fun v => v.category).sum ≤ 8) (hdg : decode cc pc = .ok (.invokevirtual index, 3)) (kk : W p l e R s m args below meth c H locs cells slots Q (F0 m (pc + 3) ls (.int (wrG (lrF pr w lap op mu ba la en) (lrF pr w lap op mu ba la en) n 0) :: rest))) : W p l e R s m args below meth c H locs cells slots Q (F0 m pc ls (.int (nI 1) :: .ref (a 0) :: rest)) :=
  kV (As := [.int (nI 1)]) (b := a 0) S (mX8_wrong_1 l hG) hlink tw_821 tw_822 tw_50 tw_823 (by show _ ∧ _ ∧ _ = some 1; decide +kernel) (by decide) hR blP (piU hI) (va_recv hI.2 hI.1 (ci := 8) (q0 := 0) rfl rfl) hsz rfl hW hdg kk

set_option maxHeartbeats 4000000 in
set_option maxRecDepth 100000 in
theorem mX8_cut (l : Launch) {D : va_G} {K : Nat → ClassId} {a : Nat → Nat} {w n lap : Nat} {op mu ba la en : Nat → Nat} {pr : Nat → Option Nat} {sc : MSc} (hG : GOK w n lap op mu ba la en pr) : Met l yX8_cut (TWd yX8_cut cX8_cut 3 (some .int)) (rmk 5) (va_Pc [.ref (a 0)] (fun U => PI D K (mW K a w n lap op mu ba la en pr sc) U U.heap)) (QcRead (nI (ctF (sumN (fun q => pcF w (op q) (la q) 1) n) (sumN (fun q => pcF w (op q) (la q) 2) n) (sumN (fun q => pcF w (op q) (la q) 3) n) (sumN (fun q => pcF w (op q) (la q) 4) n)))) 0 0 (fun _ => False) := by
  refine mt_of (by decide +kernel) (Nat.le_of_ble_eq_true rfl) ?_
  intro p e s m below meth c S hr hlk hI ls hl
  have S : CallFix p m c cX8_cut 3 s ([.ref (a 0)] : List Value).toArray lw_tb RX8 := S
  have hl : lv_has ls 3 [(0, .ref (a 0))] := hl
  obtain ⟨gw1, gw2, gn, gl1, gl2, gop, gmu, gba, gla, gen, gpr, gop2, gmu2, gba2, gla2, gme, gbe, gle, gee⟩ := id hG
  have p1 := lp_le (op := op) (la := la) (L := 1) gw2 gn
  have p2 := lp_le (op := op) (la := la) (L := 2) gw2 gn
  have p3 := lp_le (op := op) (la := la) (L := 3) gw2 gn
  have p4 := lp_le (op := op) (la := la) (L := 4) gw2 gn
  refine lv_aload_n S.1 S.2.1 dX8_cut_0 rfl (lv_at hl 0 rfl) ?_
  refine lv_iconst (v := nI 1) S.1 S.2.1 dX8_cut_1 (by decide) ?_
  refine kX8_laidPieces S hI hG (by omega) tw_836 (rok (by decide)) hl.1 (Nat.le_of_ble_eq_true rfl) dX8_cut_2 ?_
  have b1 : sumN (fun q => pcF w (op q) (la q) 1) n ≤ 80 := lp_le gw2 gn
  refine lv_aload_n S.1 S.2.1 dX8_cut_5 rfl (lv_at hl 0 rfl) ?_
  refine lv_iconst (v := nI 3) S.1 S.2.1 dX8_cut_6 (by decide) ?_
  refine kX8_laidPieces S hI hG (by omega) tw_836 (rok (by decide)) hl.1 (Nat.le_of_ble_eq_true rfl) dX8_cut_7 ?_
  have b2 : sumN (fun q => pcF w (op q) (la q) 3) n ≤ 80 := lp_le gw2 gn
  refine lv_isub S.1 S.2.1 dX8_cut_10 ?_
  refine lv_istore_n (lv' := [(1, .int ((nI (sumN (fun q => pcF w (op q) (la q) 1) n)) - (nI (sumN (fun q => pcF w (op q) (la q) 3) n)))), (0, .ref (a 0))]) S.1 S.2.1 dX8_cut_11 rfl hl (by decide) rfl (fun ls hl => ?_)
  have J22 : ∀ (ls : Array Slot), lv_has ls 3 [(0, .ref (a 0)), (1, .int (nI ((sumN (fun q => pcF w (op q) (la q) 1) n) - (sumN (fun q => pcF w (op q) (la q) 3) n))))] → W p l e (rmk 5) s m ([.ref (a 0)] : List Value).toArray below meth c s.heap [] 0 0 (MQ below (QcRead (nI (ctF (sumN (fun q => pcF w (op q) (la q) 1) n) (sumN (fun q => pcF w (op q) (la q) 2) n) (sumN (fun q => pcF w (op q) (la q) 3) n) (sumN (fun q => pcF w (op q) (la q) 4) n)))) ([.ref (a 0)] : List Value).toArray s 0 0 (fun _ => False)) (F0 m 22 ls []) := by
    intro  ls hl
    refine lv_aload_n S.1 S.2.1 dX8_cut_22 rfl (lv_at hl 0 rfl) ?_
    refine lv_iconst (v := nI 2) S.1 S.2.1 dX8_cut_23 (by decide) ?_
    refine kX8_laidPieces S hI hG (by omega) tw_836 (rok (by decide)) hl.1 (Nat.le_of_ble_eq_true rfl) dX8_cut_24 ?_
    have b3 : sumN (fun q => pcF w (op q) (la q) 2) n ≤ 80 := lp_le gw2 gn
    refine lv_istore_n (lv' := [(2, .int (nI (sumN (fun q => pcF w (op q) (la q) 2) n))), (0, .ref (a 0)), (1, .int (nI ((sumN (fun q => pcF w (op q) (la q) 1) n) - (sumN (fun q => pcF w (op q) (la q) 3) n))))]) S.1 S.2.1 dX8_cut_27 rfl hl (by decide) rfl (fun ls hl => ?_)
    refine lv_iload_n S.1 S.2.1 dX8_cut_28 rfl (lv_at hl 2 rfl) ?_
    refine lv_iload_n S.1 S.2.1 dX8_cut_29 rfl (lv_at hl 0 rfl) ?_
    refine lv_iconst (v := nI 2) S.1 S.2.1 dX8_cut_30 (by decide) ?_
    refine lv_irem S.1 S.2.1 dX8_cut_31 (by decide) ?_
    refine ly_top (z := nI ((sumN (fun q => pcF w (op q) (la q) 2) n) % 2)) (nI_rem (by omega) (by omega) (by omega)) ?_
    refine lv_iconst (v := nI 1) S.1 S.2.1 dX8_cut_32 (by decide) ?_
    refine ly_cmne (tgt := 40) S (nI_e2 (by omega) (by omega)) (nI_e1 (by omega) (by omega)) dX8_cut_33 (by decide) (fun h4 => ?_) (fun h4 => ?_)
    · skip
      refine lv_iconst (v := nI 0) S.1 S.2.1 dX8_cut_40 (by decide) ?_
      refine lv_isub S.1 S.2.1 dX8_cut_41 ?_
      refine lv_istore_n (lv' := [(1, .int ((nI ((sumN (fun q => pcF w (op q) (la q) 1) n) - (sumN (fun q => pcF w (op q) (la q) 3) n))) - (nI 0))), (2, .int (nI (sumN (fun q => pcF w (op q) (la q) 2) n))), (0, .ref (a 0))]) S.1 S.2.1 dX8_cut_42 rfl hl (by decide) rfl (fun ls hl => ?_)
      refine lv_aload_n S.1 S.2.1 dX8_cut_43 rfl (lv_at hl 2 rfl) ?_
      refine lv_iconst (v := nI 4) S.1 S.2.1 dX8_cut_44 (by decide) ?_
      refine kX8_laidPieces S hI hG (by omega) tw_836 (rok (by decide)) hl.1 (Nat.le_of_ble_eq_true rfl) dX8_cut_45 ?_
      have b5 : sumN (fun q => pcF w (op q) (la q) 4) n ≤ 80 := lp_le gw2 gn
      refine lv_aload_n S.1 S.2.1 dX8_cut_48 rfl (lv_at hl 2 rfl) ?_
      refine lv_iconst (v := nI 3) S.1 S.2.1 dX8_cut_49 (by decide) ?_
      refine kX8_laidPieces S hI hG (by omega) tw_836 (rok (by decide)) hl.1 (Nat.le_of_ble_eq_true rfl) dX8_cut_50 ?_
      have b6 : sumN (fun q => pcF w (op q) (la q) 3) n ≤ 80 := lp_le gw2 gn
      refine lv_iadd S.1 S.2.1 dX8_cut_53 ?_
      refine ly_top (z := nI ((sumN (fun q => pcF w (op q) (la q) 4) n) + (sumN (fun q => pcF w (op q) (la q) 3) n))) (nI_add _ _) ?_
      refine lv_iload_n S.1 S.2.1 dX8_cut_54 rfl (lv_at hl 1 rfl) ?_
      refine lv_iconst (v := nI 1) S.1 S.2.1 dX8_cut_55 (by decide) ?_
      refine lv_iadd S.1 S.2.1 dX8_cut_56 ?_
      refine ly_top (z := nI ((sumN (fun q => pcF w (op q) (la q) 2) n) + 1)) (nI_add _ _) ?_
      refine lv_iconst (v := nI 2) S.1 S.2.1 dX8_cut_57 (by decide) ?_
      refine lv_idiv S.1 S.2.1 dX8_cut_58 (by decide) ?_
      refine ly_top (z := nI (((sumN (fun q => pcF w (op q) (la q) 2) n) + 1) / 2)) (pk_div (by omega) (by omega) (by omega)) ?_
      refine lv_iadd S.1 S.2.1 dX8_cut_59 ?_
      refine ly_top (z := nI (((sumN (fun q => pcF w (op q) (la q) 4) n) + (sumN (fun q => pcF w (op q) (la q) 3) n)) + (((sumN (fun q => pcF w (op q) (la q) 2) n) + 1) / 2))) (nI_add _ _) ?_
      refine lv_iload_n S.1 S.2.1 dX8_cut_60 rfl (lv_at hl 0 rfl) ?_
      refine ly_ifle (tgt := 72) S (fun q => q) (fun q => q) dX8_cut_61 (by decide) (fun h7 => ?_) (fun h7 => ?_)
      · skip
        have le1 := sub_le0 (by omega) (by omega) h7
        refine lv_iconst (v := nI 0) S.1 S.2.1 dX8_cut_72 (by decide) ?_
        refine lv_iadd S.1 S.2.1 dX8_cut_73 ?_
        refine ly_top (z := nI ((((sumN (fun q => pcF w (op q) (la q) 4) n) + (sumN (fun q => pcF w (op q) (la q) 3) n)) + (((sumN (fun q => pcF w (op q) (la q) 2) n) + 1) / 2)) + 0)) (nI_add _ _) ?_
        exact rt_i S hr hlk (congrArg nI (by unfold ctF; omega)) dX8_cut_74
      · skip
        have gt1 := sub_gt0 (by omega) (by omega) h7
        rw [show (nI ((sumN (fun q => pcF w (op q) (la q) 1) n) - (sumN (fun q => pcF w (op q) (la q) 3) n))) - (nI 0) = nI (((sumN (fun q => pcF w (op q) (la q) 1) n) - (sumN (fun q => pcF w (op q) (la q) 3) n)) - 0) from pk_sub (by omega)] at hl
        refine lv_iload_n S.1 S.2.1 dX8_cut_64 rfl (lv_at hl 0 rfl) ?_
        refine lv_iconst (v := nI 3) S.1 S.2.1 dX8_cut_65 (by decide) ?_
        refine lv_iadd S.1 S.2.1 dX8_cut_66 ?_
        refine ly_top (z := nI ((((sumN (fun q => pcF w (op q) (la q) 1) n) - (sumN (fun q => pcF w (op q) (la q) 3) n)) - 0) + 3)) (nI_add _ _) ?_
        refine lv_iconst (v := nI 4) S.1 S.2.1 dX8_cut_67 (by decide) ?_
        refine lv_idiv S.1 S.2.1 dX8_cut_68 (by decide) ?_
        refine ly_top (z := nI (((((sumN (fun q => pcF w (op q) (la q) 1) n) - (sumN (fun q => pcF w (op q) (la q) 3) n)) - 0) + 3) / 4)) (pk_div (by omega) (by omega) (by omega)) ?_
        refine lv_goto (tgt := 73) S.1 S.2.1 dX8_cut_69 (by decide) ?_
        refine lv_iadd S.1 S.2.1 dX8_cut_73 ?_
        refine ly_top (z := nI ((((sumN (fun q => pcF w (op q) (la q) 4) n) + (sumN (fun q => pcF w (op q) (la q) 3) n)) + (((sumN (fun q => pcF w (op q) (la q) 2) n) + 1) / 2)) + (((((sumN (fun q => pcF w (op q) (la q) 1) n) - (sumN (fun q => pcF w (op q) (la q) 3) n)) - 0) + 3) / 4))) (nI_add _ _) ?_
        exact rt_i S hr hlk (congrArg nI (by unfold ctF; omega)) dX8_cut_74
    · skip
      refine lv_iconst (v := nI 2) S.1 S.2.1 dX8_cut_36 (by decide) ?_
      refine lv_goto (tgt := 41) S.1 S.2.1 dX8_cut_37 (by decide) ?_
      refine lv_isub S.1 S.2.1 dX8_cut_41 ?_
      refine lv_istore_n (lv' := [(1, .int ((nI ((sumN (fun q => pcF w (op q) (la q) 1) n) - (sumN (fun q => pcF w (op q) (la q) 3) n))) - (nI 2))), (2, .int (nI (sumN (fun q => pcF w (op q) (la q) 2) n))), (0, .ref (a 0))]) S.1 S.2.1 dX8_cut_42 rfl hl (by decide) rfl (fun ls hl => ?_)
      refine lv_aload_n S.1 S.2.1 dX8_cut_43 rfl (lv_at hl 2 rfl) ?_
      refine lv_iconst (v := nI 4) S.1 S.2.1 dX8_cut_44 (by decide) ?_
      refine kX8_laidPieces S hI hG (by omega) tw_836 (rok (by decide)) hl.1 (Nat.le_of_ble_eq_true rfl) dX8_cut_45 ?_
      have b8 : sumN (fun q => pcF w (op q) (la q) 4) n ≤ 80 := lp_le gw2 gn
      refine lv_aload_n S.1 S.2.1 dX8_cut_48 rfl (lv_at hl 2 rfl) ?_
      refine lv_iconst (v := nI 3) S.1 S.2.1 dX8_cut_49 (by decide) ?_
      refine kX8_laidPieces S hI hG (by omega) tw_836 (rok (by decide)) hl.1 (Nat.le_of_ble_eq_true rfl) dX8_cut_50 ?_
      have b9 : sumN (fun q => pcF w (op q) (la q) 3) n ≤ 80 := lp_le gw2 gn
      refine lv_iadd S.1 S.2.1 dX8_cut_53 ?_
      refine ly_top (z := nI ((sumN (fun q => pcF w (op q) (la q) 4) n) + (sumN (fun q => pcF w (op q) (la q) 3) n))) (nI_add _ _) ?_
      refine lv_iload_n S.1 S.2.1 dX8_cut_54 rfl (lv_at hl 1 rfl) ?_
      refine lv_iconst (v := nI 1) S.1 S.2.1 dX8_cut_55 (by decide) ?_
      refine lv_iadd S.1 S.2.1 dX8_cut_56 ?_
      refine ly_top (z := nI ((sumN (fun q => pcF w (op q) (la q) 2) n) + 1)) (nI_add _ _) ?_
      refine lv_iconst (v := nI 2) S.1 S.2.1 dX8_cut_57 (by decide) ?_
      refine lv_idiv S.1 S.2.1 dX8_cut_58 (by decide) ?_
      refine ly_top (z := nI (((sumN (fun q => pcF w (op q) (la q) 2) n) + 1) / 2)) (pk_div (by omega) (by omega) (by omega)) ?_
      refine lv_iadd S.1 S.2.1 dX8_cut_59 ?_
      refine ly_top (z := nI (((sumN (fun q => pcF w (op q) (la q) 4) n) + (sumN (fun q => pcF w (op q) (la q) 3) n)) + (((sumN (fun q => pcF w (op q) (la q) 2) n) + 1) / 2))) (nI_add _ _) ?_
      refine lv_iload_n S.1 S.2.1 dX8_cut_60 rfl (lv_at hl 0 rfl) ?_
      refine ly_ifle (tgt := 72) S (fun q => q) (fun q => q) dX8_cut_61 (by decide) (fun h10 => ?_) (fun h10 => ?_)
      · skip
        have le1 := sub_le0 (by omega) (by omega) h10
        refine lv_iconst (v := nI 0) S.1 S.2.1 dX8_cut_72 (by decide) ?_
        refine lv_iadd S.1 S.2.1 dX8_cut_73 ?_
        refine ly_top (z := nI ((((sumN (fun q => pcF w (op q) (la q) 4) n) + (sumN (fun q => pcF w (op q) (la q) 3) n)) + (((sumN (fun q => pcF w (op q) (la q) 2) n) + 1) / 2)) + 0)) (nI_add _ _) ?_
        exact rt_i S hr hlk (congrArg nI (by unfold ctF; omega)) dX8_cut_74
      · skip
        have gt1 := sub_gt0 (by omega) (by omega) h10
        rw [show (nI ((sumN (fun q => pcF w (op q) (la q) 1) n) - (sumN (fun q => pcF w (op q) (la q) 3) n))) - (nI 2) = nI (((sumN (fun q => pcF w (op q) (la q) 1) n) - (sumN (fun q => pcF w (op q) (la q) 3) n)) - 2) from pk_sub (by omega)] at hl
        refine lv_iload_n S.1 S.2.1 dX8_cut_64 rfl (lv_at hl 0 rfl) ?_
        refine lv_iconst (v := nI 3) S.1 S.2.1 dX8_cut_65 (by decide) ?_
        refine lv_iadd S.1 S.2.1 dX8_cut_66 ?_
        refine ly_top (z := nI ((((sumN (fun q => pcF w (op q) (la q) 1) n) - (sumN (fun q => pcF w (op q) (la q) 3) n)) - 2) + 3)) (nI_add _ _) ?_
        refine lv_iconst (v := nI 4) S.1 S.2.1 dX8_cut_67 (by decide) ?_
        refine lv_idiv S.1 S.2.1 dX8_cut_68 (by decide) ?_
        refine ly_top (z := nI (((((sumN (fun q => pcF w (op q) (la q) 1) n) - (sumN (fun q => pcF w (op q) (la q) 3) n)) - 2) + 3) / 4)) (pk_div (by omega) (by omega) (by omega)) ?_
        refine lv_goto (tgt := 73) S.1 S.2.1 dX8_cut_69 (by decide) ?_
        refine lv_iadd S.1 S.2.1 dX8_cut_73 ?_
        refine ly_top (z := nI ((((sumN (fun q => pcF w (op q) (la q) 4) n) + (sumN (fun q => pcF w (op q) (la q) 3) n)) + (((sumN (fun q => pcF w (op q) (la q) 2) n) + 1) / 2)) + (((((sumN (fun q => pcF w (op q) (la q) 1) n) - (sumN (fun q => pcF w (op q) (la q) 3) n)) - 2) + 3) / 4))) (nI_add _ _) ?_
        exact rt_i S hr hlk (congrArg nI (by unfold ctF; omega)) dX8_cut_74
  refine lv_iload_n S.1 S.2.1 dX8_cut_12 rfl (lv_at hl 0 rfl) ?_
  refine ly_ifge (tgt := 20) S (fun q => q) (fun q => q) dX8_cut_13 (by decide) (fun h11 => ?_) (fun h11 => ?_)
  · skip
    rw [show (nI (sumN (fun q => pcF w (op q) (la q) 1) n)) - (nI (sumN (fun q => pcF w (op q) (la q) 3) n)) = nI ((sumN (fun q => pcF w (op q) (la q) 1) n) - (sumN (fun q => pcF w (op q) (la q) 3) n)) from pk_sub (sub_ge1 (by omega) (by omega) h11)] at hl
    refine lv_iload_n S.1 S.2.1 dX8_cut_20 rfl (lv_at hl 0 rfl) ?_
    refine lv_istore_n (lv' := [(1, .int (nI ((sumN (fun q => pcF w (op q) (la q) 1) n) - (sumN (fun q => pcF w (op q) (la q) 3) n)))), (0, .ref (a 0))]) S.1 S.2.1 dX8_cut_21 rfl hl (by decide) rfl (fun ls hl => ?_)
    exact J22  _ (lv_sub hl [1, 0] rfl)
  · skip
    have lt1 := sub_lt1 (by omega) (by omega) h11
    refine lv_iconst (v := nI 0) S.1 S.2.1 dX8_cut_16 (by decide) ?_
    refine ly_top (z := (nI ((sumN (fun q => pcF w (op q) (la q) 1) n) - (sumN (fun q => pcF w (op q) (la q) 3) n)))) (by rw [Nat.sub_eq_zero_of_le (by omega)]) ?_
    refine lv_goto (tgt := 21) S.1 S.2.1 dX8_cut_17 (by decide) ?_
    refine lv_istore_n (lv' := [(1, .int (nI ((sumN (fun q => pcF w (op q) (la q) 1) n) - (sumN (fun q => pcF w (op q) (la q) 3) n)))), (0, .ref (a 0))]) S.1 S.2.1 dX8_cut_21 rfl hl (by decide) rfl (fun ls hl => ?_)
    exact J22  _ (lv_sub hl [1, 0] rfl)
theorem kX8_cut {p : Program} {l : Launch} {e : Env} {R : Room} {s : State} {m : MethodId} {args : Array Value} {below : List Frame} {meth : Method} {c : Code} {H : Heap} {locs : List Loc} {cells slots : Nat} {Q : State → Prop} {cc : ByteArray} {nL index pc : Nat} {own : String} {ls : Array Slot} {rest : List Value} {D : va_G} {K : Nat → ClassId} {a : Nat → Nat} {w n lap : Nat} {op mu ba la en : Nat → Nat} {pr : Nat → Option Nat} {sc : MSc} (S : CallFix p m c cc nL s args lw_tb own) (hI : PI D K (mW K a w n lap op mu ba la en pr sc) s H) (hG : GOK w n lap op mu ba la en pr) (hlink : Cond.methodLink own index yX8_cut ∈ lw_tb) (hR : RO 5 R cells slots) (hsz : ls.size = nL) (hW : (rest.map fun v => v.category).sum ≤ 8) (hdg : decode cc pc = .ok (.invokevirtual index, 3)) (kk : W p l e R s m args below meth c H locs cells slots Q (F0 m (pc + 3) ls (.int (nI (ctF (sumN (fun q => pcF w (op q) (la q) 1) n) (sumN (fun q => pcF w (op q) (la q) 2) n) (sumN (fun q => pcF w (op q) (la q) 3) n) (sumN (fun q => pcF w (op q) (la q) 4) n))) :: rest))) : W p l e R s m args below meth c H locs cells slots Q (F0 m pc ls (.ref (a 0) :: rest)) :=
  kV (As := []) (b := a 0) S (mX8_cut l hG) hlink tw_845 tw_846 tw_50 tw_847 (by show _ ∧ _ ∧ _ = some 0; decide +kernel) (by decide) hR blP (piU hI) (va_recv hI.2 hI.1 (ci := 8) (q0 := 0) rfl rfl) hsz rfl hW hdg kk

set_option maxHeartbeats 4000000 in
set_option maxRecDepth 100000 in
theorem mX8_sumOf_op (l : Launch) {D : va_G} {K : Nat → ClassId} {a : Nat → Nat} {w n lap : Nat} {op mu ba la en : Nat → Nat} {pr : Nat → Option Nat} {sc : MSc} (hG : GOK w n lap op mu ba la en pr) : Met l yX8_sumOf (TWd yX8_sumOf cX8_sumOf 4 (some .int)) (rmk 1) (va_Pc [.ref (a 0), .ref (a 1)] (fun U => PI D K (mW K a w n lap op mu ba la en pr sc) U U.heap)) (QcRead (nI (sumN (fun q => popG 31 (op q)) n))) 0 0 (fun _ => False) := by
  refine mt_of (by decide +kernel) (Nat.le_of_ble_eq_true rfl) ?_
  intro p e s m below meth c S hr hlk hI ls hl
  have S : CallFix p m c cX8_sumOf 4 s ([.ref (a 0), .ref (a 1)] : List Value).toArray lw_tb RX8 := S
  have hl : lv_has ls 4 [(0, .ref (a 0)), (1, .ref (a 1))] := hl
  obtain ⟨gw1, gw2, gn, gl1, gl2, gop, gmu, gba, gla, gen, gpr, gop2, gmu2, gba2, gla2, gme, gbe, gle, gee⟩ := id hG
  refine lv_iconst (v := nI 0) S.1 S.2.1 dX8_sumOf_0 (by decide) ?_
  refine ly_top (z := (nI (sumN (fun q => popG 31 (op q)) 0))) rfl ?_
  refine lv_istore_n (lv' := [(2, .int (nI (sumN (fun q => popG 31 (op q)) 0))), (0, .ref (a 0)), (1, .ref (a 1))]) S.1 S.2.1 dX8_sumOf_1 rfl hl (by decide) rfl (fun ls hl => ?_)
  refine lv_iconst (v := nI 0) S.1 S.2.1 dX8_sumOf_2 (by decide) ?_
  refine lv_istore_n (lv' := [(3, .int (nI 0)), (2, .int (nI (sumN (fun q => popG 31 (op q)) 0))), (0, .ref (a 0)), (1, .ref (a 1))]) S.1 S.2.1 dX8_sumOf_3 rfl hl (by decide) rfl (fun ls hl => ?_)
  have L4 : ∀ (f4 : Nat) (k : Nat), (k ≤ n) → n - k < f4 → ∀ (ls : Array Slot), lv_has ls 4 [(0, .ref (a 0)), (1, .ref (a 1)), (2, .int (nI (sumN (fun q => popG 31 (op q)) k))), (3, .int (nI k))] → W p l e (rmk 1) s m ([.ref (a 0), .ref (a 1)] : List Value).toArray below meth c s.heap [] 0 0 (MQ below (QcRead (nI (sumN (fun q => popG 31 (op q)) n))) ([.ref (a 0), .ref (a 1)] : List Value).toArray s 0 0 (fun _ => False)) (F0 m 4 ls []) := by
    intro f4
    induction f4 with
    | zero =>
      intro k i2 hm
      exact absurd hm (Nat.not_lt_zero _)
    | succ f4 ih4 =>
      intro k i2 hm4 ls hl
      have o1 := gop k
      refine lv_iload_n S.1 S.2.1 dX8_sumOf_4 rfl (lv_at hl 3 rfl) ?_
      refine lv_aload_n S.1 S.2.1 dX8_sumOf_5 rfl (lv_at hl 0 rfl) ?_
      refine g8 S hI 0 rfl 1 (by decide) tw_608 rfl dX8_sumOf_6 ?_
      refine ly_cmge (tgt := 27) S (nI_le1 (by omega) (by omega)) (nI_le2 (by omega) (by omega)) dX8_sumOf_9 (by decide) (fun h1 => ?_) (fun h1 => ?_)
      · skip
        refine lv_iload_n S.1 S.2.1 dX8_sumOf_27 rfl (lv_at hl 2 rfl) ?_
        exact rt_i S hr hlk (by rw [show k = n by omega]) dX8_sumOf_28
      · skip
        refine lv_iload_n S.1 S.2.1 dX8_sumOf_12 rfl (lv_at hl 2 rfl) ?_
        refine lv_aload_n S.1 S.2.1 dX8_sumOf_13 rfl (lv_at hl 1 rfl) ?_
        refine lv_iload_n S.1 S.2.1 dX8_sumOf_14 rfl (lv_at hl 3 rfl) ?_
        refine ly_iald (v := (nI (op k))) S hI 1 rfl (by omega) (by decide) rfl dX8_sumOf_15 ?_
        refine kX8_sizeOf S (by omega) tw_856 (rok (by decide)) hl.1 (Nat.le_of_ble_eq_true rfl) dX8_sumOf_16 ?_
        have b2 : popG 31 (op k) ≤ 31 := popG_le _ _
        refine lv_iadd S.1 S.2.1 dX8_sumOf_19 ?_
        refine ly_top (z := nI ((sumN (fun q => popG 31 (op q)) k) + (popG 31 (op k)))) (nI_add _ _) ?_
        refine ly_top (z := (nI (sumN (fun q => popG 31 (op q)) (k + 1)))) rfl ?_
        refine lv_istore_n (lv' := [(2, .int (nI (sumN (fun q => popG 31 (op q)) (k + 1)))), (0, .ref (a 0)), (1, .ref (a 1)), (3, .int (nI k))]) S.1 S.2.1 dX8_sumOf_20 rfl hl (by decide) rfl (fun ls hl => ?_)
        refine lv_iinc (v := nI (k + 1)) (lv' := [(3, .int (nI (k + 1))), (2, .int (nI (sumN (fun q => popG 31 (op q)) (k + 1)))), (0, .ref (a 0)), (1, .ref (a 1))]) S.1 S.2.1 dX8_sumOf_21 hl (k := 3) rfl (nJ_in _ _) (by decide) rfl (fun ls hl => ?_)
        refine lv_goto (tgt := 4) S.1 S.2.1 dX8_sumOf_24 (by decide) ?_
        exact ih4 (k + 1) (by omega) (by omega) _ (lv_sub hl [2, 3, 1, 0] rfl)
  exact L4 _ 0 (by omega) (Nat.lt_succ_self _) _ (lv_sub hl [2, 3, 1, 0] rfl)
theorem kX8_sumOf_op {p : Program} {l : Launch} {e : Env} {R : Room} {s : State} {m : MethodId} {args : Array Value} {below : List Frame} {meth : Method} {c : Code} {H : Heap} {locs : List Loc} {cells slots : Nat} {Q : State → Prop} {cc : ByteArray} {nL index pc : Nat} {own : String} {ls : Array Slot} {rest : List Value} {D : va_G} {K : Nat → ClassId} {a : Nat → Nat} {w n lap : Nat} {op mu ba la en : Nat → Nat} {pr : Nat → Option Nat} {sc : MSc} (S : CallFix p m c cc nL s args lw_tb own) (hI : PI D K (mW K a w n lap op mu ba la en pr sc) s H) (hG : GOK w n lap op mu ba la en pr) (hlink : Cond.methodLink own index yX8_sumOf ∈ lw_tb) (hR : RO 1 R cells slots) (hsz : ls.size = nL) (hW : (rest.map fun v => v.category).sum ≤ 8) (hdg : decode cc pc = .ok (.invokevirtual index, 3)) (kk : W p l e R s m args below meth c H locs cells slots Q (F0 m (pc + 3) ls (.int (nI (sumN (fun q => popG 31 (op q)) n)) :: rest))) : W p l e R s m args below meth c H locs cells slots Q (F0 m pc ls (.ref (a 1) :: .ref (a 0) :: rest)) :=
  kV (As := [.ref (a 1)]) (b := a 0) S (mX8_sumOf_op l hG) hlink tw_854 tw_39 tw_50 tw_855 (by show _ ∧ _ ∧ _ = some 1; decide +kernel) (by decide) hR blP (piU hI) (va_recv hI.2 hI.1 (ci := 8) (q0 := 0) rfl rfl) hsz rfl hW hdg kk

set_option maxHeartbeats 4000000 in
set_option maxRecDepth 100000 in
theorem mX8_sumOf_la (l : Launch) {D : va_G} {K : Nat → ClassId} {a : Nat → Nat} {w n lap : Nat} {op mu ba la en : Nat → Nat} {pr : Nat → Option Nat} {sc : MSc} (hG : GOK w n lap op mu ba la en pr) : Met l yX8_sumOf (TWd yX8_sumOf cX8_sumOf 4 (some .int)) (rmk 1) (va_Pc [.ref (a 0), .ref (a 4)] (fun U => PI D K (mW K a w n lap op mu ba la en pr sc) U U.heap)) (QcRead (nI (sumN (fun q => popG 31 (la q)) n))) 0 0 (fun _ => False) := by
  refine mt_of (by decide +kernel) (Nat.le_of_ble_eq_true rfl) ?_
  intro p e s m below meth c S hr hlk hI ls hl
  have S : CallFix p m c cX8_sumOf 4 s ([.ref (a 0), .ref (a 4)] : List Value).toArray lw_tb RX8 := S
  have hl : lv_has ls 4 [(0, .ref (a 0)), (1, .ref (a 4))] := hl
  obtain ⟨gw1, gw2, gn, gl1, gl2, gop, gmu, gba, gla, gen, gpr, gop2, gmu2, gba2, gla2, gme, gbe, gle, gee⟩ := id hG
  refine lv_iconst (v := nI 0) S.1 S.2.1 dX8_sumOf_0 (by decide) ?_
  refine ly_top (z := (nI (sumN (fun q => popG 31 (la q)) 0))) rfl ?_
  refine lv_istore_n (lv' := [(2, .int (nI (sumN (fun q => popG 31 (la q)) 0))), (0, .ref (a 0)), (1, .ref (a 4))]) S.1 S.2.1 dX8_sumOf_1 rfl hl (by decide) rfl (fun ls hl => ?_)
  refine lv_iconst (v := nI 0) S.1 S.2.1 dX8_sumOf_2 (by decide) ?_
  refine lv_istore_n (lv' := [(3, .int (nI 0)), (2, .int (nI (sumN (fun q => popG 31 (la q)) 0))), (0, .ref (a 0)), (1, .ref (a 4))]) S.1 S.2.1 dX8_sumOf_3 rfl hl (by decide) rfl (fun ls hl => ?_)
  have L4 : ∀ (f4 : Nat) (k : Nat), (k ≤ n) → n - k < f4 → ∀ (ls : Array Slot), lv_has ls 4 [(0, .ref (a 0)), (1, .ref (a 4)), (2, .int (nI (sumN (fun q => popG 31 (la q)) k))), (3, .int (nI k))] → W p l e (rmk 1) s m ([.ref (a 0), .ref (a 4)] : List Value).toArray below meth c s.heap [] 0 0 (MQ below (QcRead (nI (sumN (fun q => popG 31 (la q)) n))) ([.ref (a 0), .ref (a 4)] : List Value).toArray s 0 0 (fun _ => False)) (F0 m 4 ls []) := by
    intro f4
    induction f4 with
    | zero =>
      intro k i2 hm
      exact absurd hm (Nat.not_lt_zero _)
    | succ f4 ih4 =>
      intro k i2 hm4 ls hl
      have o1 := gla k
      refine lv_iload_n S.1 S.2.1 dX8_sumOf_4 rfl (lv_at hl 3 rfl) ?_
      refine lv_aload_n S.1 S.2.1 dX8_sumOf_5 rfl (lv_at hl 0 rfl) ?_
      refine g8 S hI 0 rfl 1 (by decide) tw_608 rfl dX8_sumOf_6 ?_
      refine ly_cmge (tgt := 27) S (nI_le1 (by omega) (by omega)) (nI_le2 (by omega) (by omega)) dX8_sumOf_9 (by decide) (fun h1 => ?_) (fun h1 => ?_)
      · skip
        refine lv_iload_n S.1 S.2.1 dX8_sumOf_27 rfl (lv_at hl 2 rfl) ?_
        exact rt_i S hr hlk (by rw [show k = n by omega]) dX8_sumOf_28
      · skip
        refine lv_iload_n S.1 S.2.1 dX8_sumOf_12 rfl (lv_at hl 2 rfl) ?_
        refine lv_aload_n S.1 S.2.1 dX8_sumOf_13 rfl (lv_at hl 1 rfl) ?_
        refine lv_iload_n S.1 S.2.1 dX8_sumOf_14 rfl (lv_at hl 3 rfl) ?_
        refine ly_iald (v := (nI (la k))) S hI 4 rfl (by omega) (by decide) rfl dX8_sumOf_15 ?_
        refine kX8_sizeOf S (by omega) tw_856 (rok (by decide)) hl.1 (Nat.le_of_ble_eq_true rfl) dX8_sumOf_16 ?_
        have b2 : popG 31 (la k) ≤ 31 := popG_le _ _
        refine lv_iadd S.1 S.2.1 dX8_sumOf_19 ?_
        refine ly_top (z := nI ((sumN (fun q => popG 31 (la q)) k) + (popG 31 (la k)))) (nI_add _ _) ?_
        refine ly_top (z := (nI (sumN (fun q => popG 31 (la q)) (k + 1)))) rfl ?_
        refine lv_istore_n (lv' := [(2, .int (nI (sumN (fun q => popG 31 (la q)) (k + 1)))), (0, .ref (a 0)), (1, .ref (a 4)), (3, .int (nI k))]) S.1 S.2.1 dX8_sumOf_20 rfl hl (by decide) rfl (fun ls hl => ?_)
        refine lv_iinc (v := nI (k + 1)) (lv' := [(3, .int (nI (k + 1))), (2, .int (nI (sumN (fun q => popG 31 (la q)) (k + 1)))), (0, .ref (a 0)), (1, .ref (a 4))]) S.1 S.2.1 dX8_sumOf_21 hl (k := 3) rfl (nJ_in _ _) (by decide) rfl (fun ls hl => ?_)
        refine lv_goto (tgt := 4) S.1 S.2.1 dX8_sumOf_24 (by decide) ?_
        exact ih4 (k + 1) (by omega) (by omega) _ (lv_sub hl [2, 3, 1, 0] rfl)
  exact L4 _ 0 (by omega) (Nat.lt_succ_self _) _ (lv_sub hl [2, 3, 1, 0] rfl)
theorem kX8_sumOf_la {p : Program} {l : Launch} {e : Env} {R : Room} {s : State} {m : MethodId} {args : Array Value} {below : List Frame} {meth : Method} {c : Code} {H : Heap} {locs : List Loc} {cells slots : Nat} {Q : State → Prop} {cc : ByteArray} {nL index pc : Nat} {own : String} {ls : Array Slot} {rest : List Value} {D : va_G} {K : Nat → ClassId} {a : Nat → Nat} {w n lap : Nat} {op mu ba la en : Nat → Nat} {pr : Nat → Option Nat} {sc : MSc} (S : CallFix p m c cc nL s args lw_tb own) (hI : PI D K (mW K a w n lap op mu ba la en pr sc) s H) (hG : GOK w n lap op mu ba la en pr) (hlink : Cond.methodLink own index yX8_sumOf ∈ lw_tb) (hR : RO 1 R cells slots) (hsz : ls.size = nL) (hW : (rest.map fun v => v.category).sum ≤ 8) (hdg : decode cc pc = .ok (.invokevirtual index, 3)) (kk : W p l e R s m args below meth c H locs cells slots Q (F0 m (pc + 3) ls (.int (nI (sumN (fun q => popG 31 (la q)) n)) :: rest))) : W p l e R s m args below meth c H locs cells slots Q (F0 m pc ls (.ref (a 4) :: .ref (a 0) :: rest)) :=
  kV (As := [.ref (a 4)]) (b := a 0) S (mX8_sumOf_la l hG) hlink tw_854 tw_39 tw_50 tw_855 (by show _ ∧ _ ∧ _ = some 1; decide +kernel) (by decide) hR blP (piU hI) (va_recv hI.2 hI.1 (ci := 8) (q0 := 0) rfl rfl) hsz rfl hW hdg kk

set_option maxHeartbeats 4000000 in
set_option maxRecDepth 100000 in
theorem mX8_allPieces (l : Launch) {D : va_G} {K : Nat → ClassId} {a : Nat → Nat} {w n lap : Nat} {op mu ba la en : Nat → Nat} {pr : Nat → Option Nat} {sc : MSc} (hG : GOK w n lap op mu ba la en pr) : Met l yX8_allPieces (TWd yX8_allPieces cX8_allPieces 3 (some .int)) (rmk 5) (va_Pc [.ref (a 0)] (fun U => PI D K (mW K a w n lap op mu ba la en pr sc) U U.heap)) (QcRead (nI (sumN (fun q => sumN (fun z => pcF w (op z) (la z) (q + 1)) n) 10))) 0 0 (fun _ => False) := by
  refine mt_of (by decide +kernel) (Nat.le_of_ble_eq_true rfl) ?_
  intro p e s m below meth c S hr hlk hI ls hl
  have S : CallFix p m c cX8_allPieces 3 s ([.ref (a 0)] : List Value).toArray lw_tb RX8 := S
  have hl : lv_has ls 3 [(0, .ref (a 0))] := hl
  obtain ⟨gw1, gw2, gn, gl1, gl2, gop, gmu, gba, gla, gen, gpr, gop2, gmu2, gba2, gla2, gme, gbe, gle, gee⟩ := id hG
  refine lv_iconst (v := nI 0) S.1 S.2.1 dX8_allPieces_0 (by decide) ?_
  refine ly_top (z := (nI (sumN (fun q => sumN (fun z => pcF w (op z) (la z) (q + 1)) n) 0))) rfl ?_
  refine lv_istore_n (lv' := [(1, .int (nI (sumN (fun q => sumN (fun z => pcF w (op z) (la z) (q + 1)) n) 0))), (0, .ref (a 0))]) S.1 S.2.1 dX8_allPieces_1 rfl hl (by decide) rfl (fun ls hl => ?_)
  refine lv_iconst (v := nI 1) S.1 S.2.1 dX8_allPieces_2 (by decide) ?_
  refine lv_istore_n (lv' := [(2, .int (nI 1)), (1, .int (nI (sumN (fun q => sumN (fun z => pcF w (op z) (la z) (q + 1)) n) 0))), (0, .ref (a 0))]) S.1 S.2.1 dX8_allPieces_3 rfl hl (by decide) rfl (fun ls hl => ?_)
  have L4 : ∀ (f4 : Nat) (k : Nat), (k ≤ 10) → 10 - k < f4 → ∀ (ls : Array Slot), lv_has ls 3 [(0, .ref (a 0)), (1, .int (nI (sumN (fun q => sumN (fun z => pcF w (op z) (la z) (q + 1)) n) k))), (2, .int (nI (k + 1)))] → W p l e (rmk 5) s m ([.ref (a 0)] : List Value).toArray below meth c s.heap [] 0 0 (MQ below (QcRead (nI (sumN (fun q => sumN (fun z => pcF w (op z) (la z) (q + 1)) n) 10))) ([.ref (a 0)] : List Value).toArray s 0 0 (fun _ => False)) (F0 m 4 ls []) := by
    intro f4
    induction f4 with
    | zero =>
      intro k i2 hm
      exact absurd hm (Nat.not_lt_zero _)
    | succ f4 ih4 =>
      intro k i2 hm4 ls hl
      refine lv_iload_n S.1 S.2.1 dX8_allPieces_4 rfl (lv_at hl 2 rfl) ?_
      refine lv_bipush (v := nI 10) S.1 S.2.1 dX8_allPieces_5 (by decide) ?_
      refine ly_cmgt (tgt := 24) S (nI_l1 (by omega) (by omega)) (nI_l2 (by omega) (by omega)) dX8_allPieces_7 (by decide) (fun h1 => ?_) (fun h1 => ?_)
      · skip
        refine lv_iload_n S.1 S.2.1 dX8_allPieces_24 rfl (lv_at hl 1 rfl) ?_
        exact rt_i S hr hlk (by rw [show k = 10 by omega]) dX8_allPieces_25
      · skip
        refine lv_iload_n S.1 S.2.1 dX8_allPieces_10 rfl (lv_at hl 1 rfl) ?_
        refine lv_aload_n S.1 S.2.1 dX8_allPieces_11 rfl (lv_at hl 0 rfl) ?_
        refine lv_iload_n S.1 S.2.1 dX8_allPieces_12 rfl (lv_at hl 2 rfl) ?_
        refine kX8_laidPieces S hI hG (by omega) tw_836 (rok (by decide)) hl.1 (Nat.le_of_ble_eq_true rfl) dX8_allPieces_13 ?_
        have b2 : sumN (fun q => pcF w (op q) (la q) (k + 1)) n ≤ 80 := lp_le gw2 gn
        refine lv_iadd S.1 S.2.1 dX8_allPieces_16 ?_
        refine ly_top (z := nI ((sumN (fun q => sumN (fun z => pcF w (op z) (la z) (q + 1)) n) k) + (sumN (fun q => pcF w (op q) (la q) (k + 1)) n))) (nI_add _ _) ?_
        refine ly_top (z := (nI (sumN (fun q => sumN (fun z => pcF w (op z) (la z) (q + 1)) n) (k + 1)))) rfl ?_
        refine lv_istore_n (lv' := [(1, .int (nI (sumN (fun q => sumN (fun z => pcF w (op z) (la z) (q + 1)) n) (k + 1)))), (0, .ref (a 0)), (2, .int (nI (k + 1)))]) S.1 S.2.1 dX8_allPieces_17 rfl hl (by decide) rfl (fun ls hl => ?_)
        refine lv_iinc (v := nI ((k + 1) + 1)) (lv' := [(2, .int (nI ((k + 1) + 1))), (1, .int (nI (sumN (fun q => sumN (fun z => pcF w (op z) (la z) (q + 1)) n) (k + 1)))), (0, .ref (a 0))]) S.1 S.2.1 dX8_allPieces_18 hl (k := 2) rfl (nJ_in _ _) (by decide) rfl (fun ls hl => ?_)
        refine lv_goto (tgt := 4) S.1 S.2.1 dX8_allPieces_21 (by decide) ?_
        exact ih4 (k + 1) (by omega) (by omega) _ (lv_sub hl [2, 1, 0] rfl)
  exact L4 _ 0 (by omega) (Nat.lt_succ_self _) _ (lv_sub hl [2, 1, 0] rfl)
theorem kX8_allPieces {p : Program} {l : Launch} {e : Env} {R : Room} {s : State} {m : MethodId} {args : Array Value} {below : List Frame} {meth : Method} {c : Code} {H : Heap} {locs : List Loc} {cells slots : Nat} {Q : State → Prop} {cc : ByteArray} {nL index pc : Nat} {own : String} {ls : Array Slot} {rest : List Value} {D : va_G} {K : Nat → ClassId} {a : Nat → Nat} {w n lap : Nat} {op mu ba la en : Nat → Nat} {pr : Nat → Option Nat} {sc : MSc} (S : CallFix p m c cc nL s args lw_tb own) (hI : PI D K (mW K a w n lap op mu ba la en pr sc) s H) (hG : GOK w n lap op mu ba la en pr) (hlink : Cond.methodLink own index yX8_allPieces ∈ lw_tb) (hR : RO 5 R cells slots) (hsz : ls.size = nL) (hW : (rest.map fun v => v.category).sum ≤ 8) (hdg : decode cc pc = .ok (.invokevirtual index, 3)) (kk : W p l e R s m args below meth c H locs cells slots Q (F0 m (pc + 3) ls (.int (nI (sumN (fun q => sumN (fun z => pcF w (op z) (la z) (q + 1)) n) 10)) :: rest))) : W p l e R s m args below meth c H locs cells slots Q (F0 m pc ls (.ref (a 0) :: rest)) :=
  kV (As := []) (b := a 0) S (mX8_allPieces l hG) hlink tw_861 tw_40 tw_50 tw_862 (by show _ ∧ _ ∧ _ = some 0; decide +kernel) (by decide) hR blP (piU hI) (va_recv hI.2 hI.1 (ci := 8) (q0 := 0) rfl rfl) hsz rfl hW hdg kk

set_option maxHeartbeats 4000000 in
set_option maxRecDepth 100000 in
theorem mX8_many_b (l : Launch) {D : va_G} {K : Nat → ClassId} {a : Nat → Nat} {w n lap : Nat} {op mu ba la en : Nat → Nat} {pr : Nat → Option Nat} {sc : MSc} {wh : Int32} (hG : GOK w n lap op mu ba la en pr) (hw : wh.toInt < 0 ∨ 5 < wh.toInt) : Met l yX8_many (TWd yX8_many cX8_many 2 (some .int)) (rmk 6) (va_Pc [.ref (a 0), .int wh] (fun U => PI D K (mW K a w n lap op mu ba la en pr sc) U U.heap)) (QcRead ((-2))) 0 0 (fun _ => False) := by
  refine mt_of (by decide +kernel) (Nat.le_of_ble_eq_true rfl) ?_
  intro p e s m below meth c S hr hlk hI ls hl
  have S : CallFix p m c cX8_many 2 s ([.ref (a 0), .int wh] : List Value).toArray lw_tb RX8 := S
  have hl : lv_has ls 2 [(0, .ref (a 0)), (1, .int wh)] := hl
  obtain ⟨gw1, gw2, gn, gl1, gl2, gop, gmu, gba, gla, gen, gpr, gop2, gmu2, gba2, gla2, gme, gbe, gle, gee⟩ := id hG
  refine lv_iload_n S.1 S.2.1 dX8_many_0 rfl (lv_at hl 1 rfl) ?_
  refine lv_tableOut (tgt := 78) S.1 S.2.1 dX8_many_1 hw (by decide) ?_
  refine lv_bipush (v := (-2)) S.1 S.2.1 dX8_many_78 (by decide) ?_
  exact rt_i S hr hlk rfl dX8_many_80
theorem kX8_many_b {p : Program} {l : Launch} {e : Env} {R : Room} {s : State} {m : MethodId} {args : Array Value} {below : List Frame} {meth : Method} {c : Code} {H : Heap} {locs : List Loc} {cells slots : Nat} {Q : State → Prop} {cc : ByteArray} {nL index pc : Nat} {own : String} {ls : Array Slot} {rest : List Value} {D : va_G} {K : Nat → ClassId} {a : Nat → Nat} {w n lap : Nat} {op mu ba la en : Nat → Nat} {pr : Nat → Option Nat} {sc : MSc} {wh : Int32} (S : CallFix p m c cc nL s args lw_tb own) (hI : PI D K (mW K a w n lap op mu ba la en pr sc) s H) (hG : GOK w n lap op mu ba la en pr) (hw : wh.toInt < 0 ∨ 5 < wh.toInt) (hlink : Cond.methodLink own index yX8_many ∈ lw_tb) (hR : RO 6 R cells slots) (hsz : ls.size = nL) (hW : (rest.map fun v => v.category).sum ≤ 8) (hdg : decode cc pc = .ok (.invokevirtual index, 3)) (kk : W p l e R s m args below meth c H locs cells slots Q (F0 m (pc + 3) ls (.int ((-2)) :: rest))) : W p l e R s m args below meth c H locs cells slots Q (F0 m pc ls (.int wh :: .ref (a 0) :: rest)) :=
  kV (As := [.int wh]) (b := a 0) S (mX8_many_b l hG hw) hlink tw_849 tw_850 tw_50 tw_851 (by show _ ∧ _ ∧ _ = some 1; decide +kernel) (by decide) hR blP (piU hI) (va_recv hI.2 hI.1 (ci := 8) (q0 := 0) rfl rfl) hsz rfl hW hdg kk

set_option maxHeartbeats 4000000 in
set_option maxRecDepth 100000 in
theorem mX8_many_0 (l : Launch) {D : va_G} {K : Nat → ClassId} {a : Nat → Nat} {w n lap : Nat} {op mu ba la en : Nat → Nat} {pr : Nat → Option Nat} {sc : MSc} (hG : GOK w n lap op mu ba la en pr) : Met l yX8_many (TWd yX8_many cX8_many 2 (some .int)) (rmk 6) (va_Pc [.ref (a 0), .int (nI 0)] (fun U => PI D K (mW K a w n lap op mu ba la en pr sc) U U.heap)) (QcRead (nI n)) 0 0 (fun _ => False) := by
  refine mt_of (by decide +kernel) (Nat.le_of_ble_eq_true rfl) ?_
  intro p e s m below meth c S hr hlk hI ls hl
  have S : CallFix p m c cX8_many 2 s ([.ref (a 0), .int (nI 0)] : List Value).toArray lw_tb RX8 := S
  have hl : lv_has ls 2 [(0, .ref (a 0)), (1, .int (nI 0))] := hl
  obtain ⟨gw1, gw2, gn, gl1, gl2, gop, gmu, gba, gla, gen, gpr, gop2, gmu2, gba2, gla2, gme, gbe, gle, gee⟩ := id hG
  refine lv_iload_n S.1 S.2.1 dX8_many_0 rfl (lv_at hl 1 rfl) ?_
  refine lv_tableIn (tgt := 40) (off := 39) S.1 S.2.1 dX8_many_1 (by decide) (by decide) (by decide) (by decide) ?_
  refine lv_aload_n S.1 S.2.1 dX8_many_40 rfl (lv_at hl 0 rfl) ?_
  refine g8 S hI 0 rfl 1 (by decide) tw_608 rfl dX8_many_41 ?_
  exact rt_i S hr hlk rfl dX8_many_44
theorem kX8_many_0 {p : Program} {l : Launch} {e : Env} {R : Room} {s : State} {m : MethodId} {args : Array Value} {below : List Frame} {meth : Method} {c : Code} {H : Heap} {locs : List Loc} {cells slots : Nat} {Q : State → Prop} {cc : ByteArray} {nL index pc : Nat} {own : String} {ls : Array Slot} {rest : List Value} {D : va_G} {K : Nat → ClassId} {a : Nat → Nat} {w n lap : Nat} {op mu ba la en : Nat → Nat} {pr : Nat → Option Nat} {sc : MSc} (S : CallFix p m c cc nL s args lw_tb own) (hI : PI D K (mW K a w n lap op mu ba la en pr sc) s H) (hG : GOK w n lap op mu ba la en pr) (hlink : Cond.methodLink own index yX8_many ∈ lw_tb) (hR : RO 6 R cells slots) (hsz : ls.size = nL) (hW : (rest.map fun v => v.category).sum ≤ 8) (hdg : decode cc pc = .ok (.invokevirtual index, 3)) (kk : W p l e R s m args below meth c H locs cells slots Q (F0 m (pc + 3) ls (.int (nI n) :: rest))) : W p l e R s m args below meth c H locs cells slots Q (F0 m pc ls (.int (nI 0) :: .ref (a 0) :: rest)) :=
  kV (As := [.int (nI 0)]) (b := a 0) S (mX8_many_0 l hG) hlink tw_849 tw_850 tw_50 tw_851 (by show _ ∧ _ ∧ _ = some 1; decide +kernel) (by decide) hR blP (piU hI) (va_recv hI.2 hI.1 (ci := 8) (q0 := 0) rfl rfl) hsz rfl hW hdg kk

set_option maxHeartbeats 4000000 in
set_option maxRecDepth 100000 in
theorem mX8_many_1 (l : Launch) {D : va_G} {K : Nat → ClassId} {a : Nat → Nat} {w n lap : Nat} {op mu ba la en : Nat → Nat} {pr : Nat → Option Nat} {sc : MSc} (hG : GOK w n lap op mu ba la en pr) : Met l yX8_many (TWd yX8_many cX8_many 2 (some .int)) (rmk 6) (va_Pc [.ref (a 0), .int (nI 1)] (fun U => PI D K (mW K a w n lap op mu ba la en pr sc) U U.heap)) (QcRead (nI w)) 0 0 (fun _ => False) := by
  refine mt_of (by decide +kernel) (Nat.le_of_ble_eq_true rfl) ?_
  intro p e s m below meth c S hr hlk hI ls hl
  have S : CallFix p m c cX8_many 2 s ([.ref (a 0), .int (nI 1)] : List Value).toArray lw_tb RX8 := S
  have hl : lv_has ls 2 [(0, .ref (a 0)), (1, .int (nI 1))] := hl
  obtain ⟨gw1, gw2, gn, gl1, gl2, gop, gmu, gba, gla, gen, gpr, gop2, gmu2, gba2, gla2, gme, gbe, gle, gee⟩ := id hG
  refine lv_iload_n S.1 S.2.1 dX8_many_0 rfl (lv_at hl 1 rfl) ?_
  refine lv_tableIn (tgt := 45) (off := 44) S.1 S.2.1 dX8_many_1 (by decide) (by decide) (by decide) (by decide) ?_
  refine lv_aload_n S.1 S.2.1 dX8_many_45 rfl (lv_at hl 0 rfl) ?_
  refine g8 S hI 0 rfl 0 (by decide) tw_607 rfl dX8_many_46 ?_
  exact rt_i S hr hlk rfl dX8_many_49
theorem kX8_many_1 {p : Program} {l : Launch} {e : Env} {R : Room} {s : State} {m : MethodId} {args : Array Value} {below : List Frame} {meth : Method} {c : Code} {H : Heap} {locs : List Loc} {cells slots : Nat} {Q : State → Prop} {cc : ByteArray} {nL index pc : Nat} {own : String} {ls : Array Slot} {rest : List Value} {D : va_G} {K : Nat → ClassId} {a : Nat → Nat} {w n lap : Nat} {op mu ba la en : Nat → Nat} {pr : Nat → Option Nat} {sc : MSc} (S : CallFix p m c cc nL s args lw_tb own) (hI : PI D K (mW K a w n lap op mu ba la en pr sc) s H) (hG : GOK w n lap op mu ba la en pr) (hlink : Cond.methodLink own index yX8_many ∈ lw_tb) (hR : RO 6 R cells slots) (hsz : ls.size = nL) (hW : (rest.map fun v => v.category).sum ≤ 8) (hdg : decode cc pc = .ok (.invokevirtual index, 3)) (kk : W p l e R s m args below meth c H locs cells slots Q (F0 m (pc + 3) ls (.int (nI w) :: rest))) : W p l e R s m args below meth c H locs cells slots Q (F0 m pc ls (.int (nI 1) :: .ref (a 0) :: rest)) :=
  kV (As := [.int (nI 1)]) (b := a 0) S (mX8_many_1 l hG) hlink tw_849 tw_850 tw_50 tw_851 (by show _ ∧ _ ∧ _ = some 1; decide +kernel) (by decide) hR blP (piU hI) (va_recv hI.2 hI.1 (ci := 8) (q0 := 0) rfl rfl) hsz rfl hW hdg kk

set_option maxHeartbeats 4000000 in
set_option maxRecDepth 100000 in
theorem mX8_many_2 (l : Launch) {D : va_G} {K : Nat → ClassId} {a : Nat → Nat} {w n lap : Nat} {op mu ba la en : Nat → Nat} {pr : Nat → Option Nat} {sc : MSc} (hG : GOK w n lap op mu ba la en pr) : Met l yX8_many (TWd yX8_many cX8_many 2 (some .int)) (rmk 6) (va_Pc [.ref (a 0), .int (nI 2)] (fun U => PI D K (mW K a w n lap op mu ba la en pr sc) U U.heap)) (QcRead (nI lap)) 0 0 (fun _ => False) := by
  refine mt_of (by decide +kernel) (Nat.le_of_ble_eq_true rfl) ?_
  intro p e s m below meth c S hr hlk hI ls hl
  have S : CallFix p m c cX8_many 2 s ([.ref (a 0), .int (nI 2)] : List Value).toArray lw_tb RX8 := S
  have hl : lv_has ls 2 [(0, .ref (a 0)), (1, .int (nI 2))] := hl
  obtain ⟨gw1, gw2, gn, gl1, gl2, gop, gmu, gba, gla, gen, gpr, gop2, gmu2, gba2, gla2, gme, gbe, gle, gee⟩ := id hG
  refine lv_iload_n S.1 S.2.1 dX8_many_0 rfl (lv_at hl 1 rfl) ?_
  refine lv_tableIn (tgt := 50) (off := 49) S.1 S.2.1 dX8_many_1 (by decide) (by decide) (by decide) (by decide) ?_
  refine lv_aload_n S.1 S.2.1 dX8_many_50 rfl (lv_at hl 0 rfl) ?_
  refine g8 S hI 0 rfl 8 (by decide) tw_615 rfl dX8_many_51 ?_
  exact rt_i S hr hlk rfl dX8_many_54
theorem kX8_many_2 {p : Program} {l : Launch} {e : Env} {R : Room} {s : State} {m : MethodId} {args : Array Value} {below : List Frame} {meth : Method} {c : Code} {H : Heap} {locs : List Loc} {cells slots : Nat} {Q : State → Prop} {cc : ByteArray} {nL index pc : Nat} {own : String} {ls : Array Slot} {rest : List Value} {D : va_G} {K : Nat → ClassId} {a : Nat → Nat} {w n lap : Nat} {op mu ba la en : Nat → Nat} {pr : Nat → Option Nat} {sc : MSc} (S : CallFix p m c cc nL s args lw_tb own) (hI : PI D K (mW K a w n lap op mu ba la en pr sc) s H) (hG : GOK w n lap op mu ba la en pr) (hlink : Cond.methodLink own index yX8_many ∈ lw_tb) (hR : RO 6 R cells slots) (hsz : ls.size = nL) (hW : (rest.map fun v => v.category).sum ≤ 8) (hdg : decode cc pc = .ok (.invokevirtual index, 3)) (kk : W p l e R s m args below meth c H locs cells slots Q (F0 m (pc + 3) ls (.int (nI lap) :: rest))) : W p l e R s m args below meth c H locs cells slots Q (F0 m pc ls (.int (nI 2) :: .ref (a 0) :: rest)) :=
  kV (As := [.int (nI 2)]) (b := a 0) S (mX8_many_2 l hG) hlink tw_849 tw_850 tw_50 tw_851 (by show _ ∧ _ ∧ _ = some 1; decide +kernel) (by decide) hR blP (piU hI) (va_recv hI.2 hI.1 (ci := 8) (q0 := 0) rfl rfl) hsz rfl hW hdg kk

set_option maxHeartbeats 4000000 in
set_option maxRecDepth 100000 in
theorem mX8_many_3 (l : Launch) {D : va_G} {K : Nat → ClassId} {a : Nat → Nat} {w n lap : Nat} {op mu ba la en : Nat → Nat} {pr : Nat → Option Nat} {sc : MSc} (hG : GOK w n lap op mu ba la en pr) : Met l yX8_many (TWd yX8_many cX8_many 2 (some .int)) (rmk 6) (va_Pc [.ref (a 0), .int (nI 3)] (fun U => PI D K (mW K a w n lap op mu ba la en pr sc) U U.heap)) (QcRead (nI (sumN (fun q => popG 31 (op q)) n))) 0 0 (fun _ => False) := by
  refine mt_of (by decide +kernel) (Nat.le_of_ble_eq_true rfl) ?_
  intro p e s m below meth c S hr hlk hI ls hl
  have S : CallFix p m c cX8_many 2 s ([.ref (a 0), .int (nI 3)] : List Value).toArray lw_tb RX8 := S
  have hl : lv_has ls 2 [(0, .ref (a 0)), (1, .int (nI 3))] := hl
  obtain ⟨gw1, gw2, gn, gl1, gl2, gop, gmu, gba, gla, gen, gpr, gop2, gmu2, gba2, gla2, gme, gbe, gle, gee⟩ := id hG
  refine lv_iload_n S.1 S.2.1 dX8_many_0 rfl (lv_at hl 1 rfl) ?_
  refine lv_tableIn (tgt := 55) (off := 54) S.1 S.2.1 dX8_many_1 (by decide) (by decide) (by decide) (by decide) ?_
  refine lv_aload_n S.1 S.2.1 dX8_many_55 rfl (lv_at hl 0 rfl) ?_
  refine lv_aload_n S.1 S.2.1 dX8_many_56 rfl (lv_at hl 0 rfl) ?_
  refine g8 S hI 0 rfl 2 (by decide) tw_609 rfl dX8_many_57 ?_
  refine kX8_sumOf_op S hI hG tw_852 (rok (by decide)) hl.1 (Nat.le_of_ble_eq_true rfl) dX8_many_60 ?_
  exact rt_i S hr hlk rfl dX8_many_63
theorem kX8_many_3 {p : Program} {l : Launch} {e : Env} {R : Room} {s : State} {m : MethodId} {args : Array Value} {below : List Frame} {meth : Method} {c : Code} {H : Heap} {locs : List Loc} {cells slots : Nat} {Q : State → Prop} {cc : ByteArray} {nL index pc : Nat} {own : String} {ls : Array Slot} {rest : List Value} {D : va_G} {K : Nat → ClassId} {a : Nat → Nat} {w n lap : Nat} {op mu ba la en : Nat → Nat} {pr : Nat → Option Nat} {sc : MSc} (S : CallFix p m c cc nL s args lw_tb own) (hI : PI D K (mW K a w n lap op mu ba la en pr sc) s H) (hG : GOK w n lap op mu ba la en pr) (hlink : Cond.methodLink own index yX8_many ∈ lw_tb) (hR : RO 6 R cells slots) (hsz : ls.size = nL) (hW : (rest.map fun v => v.category).sum ≤ 8) (hdg : decode cc pc = .ok (.invokevirtual index, 3)) (kk : W p l e R s m args below meth c H locs cells slots Q (F0 m (pc + 3) ls (.int (nI (sumN (fun q => popG 31 (op q)) n)) :: rest))) : W p l e R s m args below meth c H locs cells slots Q (F0 m pc ls (.int (nI 3) :: .ref (a 0) :: rest)) :=
  kV (As := [.int (nI 3)]) (b := a 0) S (mX8_many_3 l hG) hlink tw_849 tw_850 tw_50 tw_851 (by show _ ∧ _ ∧ _ = some 1; decide +kernel) (by decide) hR blP (piU hI) (va_recv hI.2 hI.1 (ci := 8) (q0 := 0) rfl rfl) hsz rfl hW hdg kk

set_option maxHeartbeats 4000000 in
set_option maxRecDepth 100000 in
theorem mX8_many_4 (l : Launch) {D : va_G} {K : Nat → ClassId} {a : Nat → Nat} {w n lap : Nat} {op mu ba la en : Nat → Nat} {pr : Nat → Option Nat} {sc : MSc} (hG : GOK w n lap op mu ba la en pr) : Met l yX8_many (TWd yX8_many cX8_many 2 (some .int)) (rmk 6) (va_Pc [.ref (a 0), .int (nI 4)] (fun U => PI D K (mW K a w n lap op mu ba la en pr sc) U U.heap)) (QcRead (nI (sumN (fun q => sumN (fun z => pcF w (op z) (la z) (q + 1)) n) 10))) 0 0 (fun _ => False) := by
  refine mt_of (by decide +kernel) (Nat.le_of_ble_eq_true rfl) ?_
  intro p e s m below meth c S hr hlk hI ls hl
  have S : CallFix p m c cX8_many 2 s ([.ref (a 0), .int (nI 4)] : List Value).toArray lw_tb RX8 := S
  have hl : lv_has ls 2 [(0, .ref (a 0)), (1, .int (nI 4))] := hl
  obtain ⟨gw1, gw2, gn, gl1, gl2, gop, gmu, gba, gla, gen, gpr, gop2, gmu2, gba2, gla2, gme, gbe, gle, gee⟩ := id hG
  refine lv_iload_n S.1 S.2.1 dX8_many_0 rfl (lv_at hl 1 rfl) ?_
  refine lv_tableIn (tgt := 64) (off := 63) S.1 S.2.1 dX8_many_1 (by decide) (by decide) (by decide) (by decide) ?_
  refine lv_aload_n S.1 S.2.1 dX8_many_64 rfl (lv_at hl 0 rfl) ?_
  refine kX8_allPieces S hI hG tw_859 (rok (by decide)) hl.1 (Nat.le_of_ble_eq_true rfl) dX8_many_65 ?_
  exact rt_i S hr hlk rfl dX8_many_68
theorem kX8_many_4 {p : Program} {l : Launch} {e : Env} {R : Room} {s : State} {m : MethodId} {args : Array Value} {below : List Frame} {meth : Method} {c : Code} {H : Heap} {locs : List Loc} {cells slots : Nat} {Q : State → Prop} {cc : ByteArray} {nL index pc : Nat} {own : String} {ls : Array Slot} {rest : List Value} {D : va_G} {K : Nat → ClassId} {a : Nat → Nat} {w n lap : Nat} {op mu ba la en : Nat → Nat} {pr : Nat → Option Nat} {sc : MSc} (S : CallFix p m c cc nL s args lw_tb own) (hI : PI D K (mW K a w n lap op mu ba la en pr sc) s H) (hG : GOK w n lap op mu ba la en pr) (hlink : Cond.methodLink own index yX8_many ∈ lw_tb) (hR : RO 6 R cells slots) (hsz : ls.size = nL) (hW : (rest.map fun v => v.category).sum ≤ 8) (hdg : decode cc pc = .ok (.invokevirtual index, 3)) (kk : W p l e R s m args below meth c H locs cells slots Q (F0 m (pc + 3) ls (.int (nI (sumN (fun q => sumN (fun z => pcF w (op z) (la z) (q + 1)) n) 10)) :: rest))) : W p l e R s m args below meth c H locs cells slots Q (F0 m pc ls (.int (nI 4) :: .ref (a 0) :: rest)) :=
  kV (As := [.int (nI 4)]) (b := a 0) S (mX8_many_4 l hG) hlink tw_849 tw_850 tw_50 tw_851 (by show _ ∧ _ ∧ _ = some 1; decide +kernel) (by decide) hR blP (piU hI) (va_recv hI.2 hI.1 (ci := 8) (q0 := 0) rfl rfl) hsz rfl hW hdg kk

set_option maxHeartbeats 4000000 in
set_option maxRecDepth 100000 in
theorem mX8_many_5 (l : Launch) {D : va_G} {K : Nat → ClassId} {a : Nat → Nat} {w n lap : Nat} {op mu ba la en : Nat → Nat} {pr : Nat → Option Nat} {sc : MSc} (hG : GOK w n lap op mu ba la en pr) : Met l yX8_many (TWd yX8_many cX8_many 2 (some .int)) (rmk 6) (va_Pc [.ref (a 0), .int (nI 5)] (fun U => PI D K (mW K a w n lap op mu ba la en pr sc) U U.heap)) (QcRead (nI (sumN (fun q => popG 31 (la q)) n))) 0 0 (fun _ => False) := by
  refine mt_of (by decide +kernel) (Nat.le_of_ble_eq_true rfl) ?_
  intro p e s m below meth c S hr hlk hI ls hl
  have S : CallFix p m c cX8_many 2 s ([.ref (a 0), .int (nI 5)] : List Value).toArray lw_tb RX8 := S
  have hl : lv_has ls 2 [(0, .ref (a 0)), (1, .int (nI 5))] := hl
  obtain ⟨gw1, gw2, gn, gl1, gl2, gop, gmu, gba, gla, gen, gpr, gop2, gmu2, gba2, gla2, gme, gbe, gle, gee⟩ := id hG
  refine lv_iload_n S.1 S.2.1 dX8_many_0 rfl (lv_at hl 1 rfl) ?_
  refine lv_tableIn (tgt := 69) (off := 68) S.1 S.2.1 dX8_many_1 (by decide) (by decide) (by decide) (by decide) ?_
  refine lv_aload_n S.1 S.2.1 dX8_many_69 rfl (lv_at hl 0 rfl) ?_
  refine lv_aload_n S.1 S.2.1 dX8_many_70 rfl (lv_at hl 0 rfl) ?_
  refine g8 S hI 0 rfl 5 (by decide) tw_612 rfl dX8_many_71 ?_
  refine kX8_sumOf_la S hI hG tw_852 (rok (by decide)) hl.1 (Nat.le_of_ble_eq_true rfl) dX8_many_74 ?_
  exact rt_i S hr hlk rfl dX8_many_77
theorem kX8_many_5 {p : Program} {l : Launch} {e : Env} {R : Room} {s : State} {m : MethodId} {args : Array Value} {below : List Frame} {meth : Method} {c : Code} {H : Heap} {locs : List Loc} {cells slots : Nat} {Q : State → Prop} {cc : ByteArray} {nL index pc : Nat} {own : String} {ls : Array Slot} {rest : List Value} {D : va_G} {K : Nat → ClassId} {a : Nat → Nat} {w n lap : Nat} {op mu ba la en : Nat → Nat} {pr : Nat → Option Nat} {sc : MSc} (S : CallFix p m c cc nL s args lw_tb own) (hI : PI D K (mW K a w n lap op mu ba la en pr sc) s H) (hG : GOK w n lap op mu ba la en pr) (hlink : Cond.methodLink own index yX8_many ∈ lw_tb) (hR : RO 6 R cells slots) (hsz : ls.size = nL) (hW : (rest.map fun v => v.category).sum ≤ 8) (hdg : decode cc pc = .ok (.invokevirtual index, 3)) (kk : W p l e R s m args below meth c H locs cells slots Q (F0 m (pc + 3) ls (.int (nI (sumN (fun q => popG 31 (la q)) n)) :: rest))) : W p l e R s m args below meth c H locs cells slots Q (F0 m pc ls (.int (nI 5) :: .ref (a 0) :: rest)) :=
  kV (As := [.int (nI 5)]) (b := a 0) S (mX8_many_5 l hG) hlink tw_849 tw_850 tw_50 tw_851 (by show _ ∧ _ ∧ _ = some 1; decide +kernel) (by decide) hR blP (piU hI) (va_recv hI.2 hI.1 (ci := 8) (q0 := 0) rfl rfl) hsz rfl hW hdg kk

set_option maxHeartbeats 4000000 in
set_option maxRecDepth 100000 in
theorem mX8_lay_a (l : Launch) {D : va_G} {K : Nat → ClassId} {a : Nat → Nat} {w n lap : Nat} {op mu ba la en : Nat → Nat} {pr : Nat → Option Nat} {sc : MSc} {v : Int32} {z : Int32} (hG : GOK w n lap op mu ba la en pr) (hv : wiI v 0 (nI n - 1) = false) : Met l yX8_lay (TWd yX8_lay cX8_lay 4 (some .int)) (rmk 2) (va_Pc [.ref (a 0), .int v, .int z] (fun U => PI D K (mW K a w n lap op mu ba la en pr sc) U U.heap)) (QcRead ((-1))) 0 0 (fun _ => False) := by
  refine mt_of (by decide +kernel) (Nat.le_of_ble_eq_true rfl) ?_
  intro p e s m below meth c S hr hlk hI ls hl
  have S : CallFix p m c cX8_lay 4 s ([.ref (a 0), .int v, .int z] : List Value).toArray lw_tb RX8 := S
  have hl : lv_has ls 4 [(0, .ref (a 0)), (1, .int v), (2, .int z)] := hl
  obtain ⟨gw1, gw2, gn, gl1, gl2, gop, gmu, gba, gla, gen, gpr, gop2, gmu2, gba2, gla2, gme, gbe, gle, gee⟩ := id hG
  refine lv_aload_n S.1 S.2.1 dX8_lay_0 rfl (lv_at hl 0 rfl) ?_
  refine lv_iload_n S.1 S.2.1 dX8_lay_1 rfl (lv_at hl 1 rfl) ?_
  refine kX8_isCourse S hI hG tw_673 (rok (by decide)) hl.1 (Nat.le_of_ble_eq_true rfl) dX8_lay_2 ?_
  refine ly_ifne (tgt := 10) S bI_e2 bI_e1 dX8_lay_5 (by decide) (fun h1 => ?_) (fun h1 => ?_)
  · skip
    exact absurd h1 (by rw [hv]; decide)
  · skip
    refine lv_iconst (v := (-1)) S.1 S.2.1 dX8_lay_8 (by decide) ?_
    exact rt_i S hr hlk rfl dX8_lay_9
theorem kX8_lay_a {p : Program} {l : Launch} {e : Env} {R : Room} {s : State} {m : MethodId} {args : Array Value} {below : List Frame} {meth : Method} {c : Code} {H : Heap} {locs : List Loc} {cells slots : Nat} {Q : State → Prop} {cc : ByteArray} {nL index pc : Nat} {own : String} {ls : Array Slot} {rest : List Value} {D : va_G} {K : Nat → ClassId} {a : Nat → Nat} {w n lap : Nat} {op mu ba la en : Nat → Nat} {pr : Nat → Option Nat} {sc : MSc} {v : Int32} {z : Int32} (S : CallFix p m c cc nL s args lw_tb own) (hI : PI D K (mW K a w n lap op mu ba la en pr sc) s H) (hG : GOK w n lap op mu ba la en pr) (hv : wiI v 0 (nI n - 1) = false) (hlink : Cond.methodLink own index yX8_lay ∈ lw_tb) (hR : RO 2 R cells slots) (hsz : ls.size = nL) (hW : (rest.map fun v => v.category).sum ≤ 8) (hdg : decode cc pc = .ok (.invokevirtual index, 3)) (kk : W p l e R s m args below meth c H locs cells slots Q (F0 m (pc + 3) ls (.int ((-1)) :: rest))) : W p l e R s m args below meth c H locs cells slots Q (F0 m pc ls (.int z :: .int v :: .ref (a 0) :: rest)) :=
  kV (As := [.int v, .int z]) (b := a 0) S (mX8_lay_a l hG hv) hlink tw_809 tw_810 tw_50 tw_811 (by show _ ∧ _ ∧ _ = some 2; decide +kernel) (by decide) hR blP (piU hI) (va_recv hI.2 hI.1 (ci := 8) (q0 := 0) rfl rfl) hsz rfl hW hdg kk

set_option maxHeartbeats 4000000 in
set_option maxRecDepth 100000 in
theorem mX8_lay_b (l : Launch) {D : va_G} {K : Nat → ClassId} {a : Nat → Nat} {w n lap : Nat} {op mu ba la en : Nat → Nat} {pr : Nat → Option Nat} {sc : MSc} {ci : Nat} {z : Int32} (hG : GOK w n lap op mu ba la en pr) (hc : ci < n) (hz : plI w z = false) : Met l yX8_lay (TWd yX8_lay cX8_lay 4 (some .int)) (rmk 2) (va_Pc [.ref (a 0), .int (nI ci), .int z] (fun U => PI D K (mW K a w n lap op mu ba la en pr sc) U U.heap)) (QcRead ((-2))) 0 0 (fun _ => False) := by
  refine mt_of (by decide +kernel) (Nat.le_of_ble_eq_true rfl) ?_
  intro p e s m below meth c S hr hlk hI ls hl
  have S : CallFix p m c cX8_lay 4 s ([.ref (a 0), .int (nI ci), .int z] : List Value).toArray lw_tb RX8 := S
  have hl : lv_has ls 4 [(0, .ref (a 0)), (1, .int (nI ci)), (2, .int z)] := hl
  obtain ⟨gw1, gw2, gn, gl1, gl2, gop, gmu, gba, gla, gen, gpr, gop2, gmu2, gba2, gla2, gme, gbe, gle, gee⟩ := id hG
  refine lv_aload_n S.1 S.2.1 dX8_lay_0 rfl (lv_at hl 0 rfl) ?_
  refine lv_iload_n S.1 S.2.1 dX8_lay_1 rfl (lv_at hl 1 rfl) ?_
  refine kX8_isCourse S hI hG tw_673 (rok (by decide)) hl.1 (Nat.le_of_ble_eq_true rfl) dX8_lay_2 ?_
  refine ly_ifne (tgt := 10) S bI_e2 bI_e1 dX8_lay_5 (by decide) (fun h1 => ?_) (fun h1 => ?_)
  · skip
    refine lv_aload_n S.1 S.2.1 dX8_lay_10 rfl (lv_at hl 0 rfl) ?_
    refine lv_iload_n S.1 S.2.1 dX8_lay_11 rfl (lv_at hl 2 rfl) ?_
    refine kX8_arePlaces S hI hG tw_681 (rok (by decide)) hl.1 (Nat.le_of_ble_eq_true rfl) dX8_lay_12 ?_
    refine ly_ifne (tgt := 21) S bI_e2 bI_e1 dX8_lay_15 (by decide) (fun h2 => ?_) (fun h2 => ?_)
    · skip
      exact absurd h2 (by rw [hz]; decide)
    · skip
      refine lv_bipush (v := (-2)) S.1 S.2.1 dX8_lay_18 (by decide) ?_
      exact rt_i S hr hlk rfl dX8_lay_20
  · skip
    exact absurd h1 (by rw [wiC (by omega) (by omega)]; decide)
theorem kX8_lay_b {p : Program} {l : Launch} {e : Env} {R : Room} {s : State} {m : MethodId} {args : Array Value} {below : List Frame} {meth : Method} {c : Code} {H : Heap} {locs : List Loc} {cells slots : Nat} {Q : State → Prop} {cc : ByteArray} {nL index pc : Nat} {own : String} {ls : Array Slot} {rest : List Value} {D : va_G} {K : Nat → ClassId} {a : Nat → Nat} {w n lap : Nat} {op mu ba la en : Nat → Nat} {pr : Nat → Option Nat} {sc : MSc} {ci : Nat} {z : Int32} (S : CallFix p m c cc nL s args lw_tb own) (hI : PI D K (mW K a w n lap op mu ba la en pr sc) s H) (hG : GOK w n lap op mu ba la en pr) (hc : ci < n) (hz : plI w z = false) (hlink : Cond.methodLink own index yX8_lay ∈ lw_tb) (hR : RO 2 R cells slots) (hsz : ls.size = nL) (hW : (rest.map fun v => v.category).sum ≤ 8) (hdg : decode cc pc = .ok (.invokevirtual index, 3)) (kk : W p l e R s m args below meth c H locs cells slots Q (F0 m (pc + 3) ls (.int ((-2)) :: rest))) : W p l e R s m args below meth c H locs cells slots Q (F0 m pc ls (.int z :: .int (nI ci) :: .ref (a 0) :: rest)) :=
  kV (As := [.int (nI ci), .int z]) (b := a 0) S (mX8_lay_b l hG hc hz) hlink tw_809 tw_810 tw_50 tw_811 (by show _ ∧ _ ∧ _ = some 2; decide +kernel) (by decide) hR blP (piU hI) (va_recv hI.2 hI.1 (ci := 8) (q0 := 0) rfl rfl) hsz rfl hW hdg kk

set_option maxHeartbeats 4000000 in
set_option maxRecDepth 100000 in
theorem mX8_lay_c (l : Launch) {D : va_G} {K : Nat → ClassId} {a : Nat → Nat} {w n lap : Nat} {op mu ba la en : Nat → Nat} {pr : Nat → Option Nat} {sc : MSc} {ci : Nat} {k : Nat} (hDis : Dis a 13) (hG : GOK w n lap op mu ba la en pr) (hc : ci < n) (hk : k < 2 ^ w) (hk2 : k % 2 = 0) : Met l yX8_lay (TWd yX8_lay cX8_lay 4 (some .int)) (rmk 2) (va_Pc [.ref (a 0), .int (nI ci), .int (nI k)] (fun U => PI D K (mW K a w n lap op mu ba la en pr sc) U U.heap)) (QX D K (fun u : Unit => some (.int (nI (la ci)))) (fun u => (mW K a w n lap op mu ba (va_up la ci k) en pr sc)) (fun u => True) (adA a 13)) 0 0 (adA a 13) := by
  refine mt_of (by decide +kernel) (Nat.le_of_ble_eq_true rfl) ?_
  intro p e s m below meth c S hr hlk hI ls hl
  have S : CallFix p m c cX8_lay 4 s ([.ref (a 0), .int (nI ci), .int (nI k)] : List Value).toArray lw_tb RX8 := S
  have hl : lv_has ls 4 [(0, .ref (a 0)), (1, .int (nI ci)), (2, .int (nI k))] := hl
  have hS : va_S (adA a 13) s.heap s.heap [] := va_S.rf
  obtain ⟨gw1, gw2, gn, gl1, gl2, gop, gmu, gba, gla, gen, gpr, gop2, gmu2, gba2, gla2, gme, gbe, gle, gee⟩ := id hG
  refine lv_aload_n S.1 S.2.1 dX8_lay_0 rfl (lv_at hl 0 rfl) ?_
  refine lv_iload_n S.1 S.2.1 dX8_lay_1 rfl (lv_at hl 1 rfl) ?_
  refine kX8_isCourse S hI hG tw_673 (rok (by decide)) hl.1 (Nat.le_of_ble_eq_true rfl) dX8_lay_2 ?_
  refine ly_ifne (tgt := 10) S bI_e2 bI_e1 dX8_lay_5 (by decide) (fun h1 => ?_) (fun h1 => ?_)
  · skip
    refine lv_aload_n S.1 S.2.1 dX8_lay_10 rfl (lv_at hl 0 rfl) ?_
    refine lv_iload_n S.1 S.2.1 dX8_lay_11 rfl (lv_at hl 2 rfl) ?_
    refine kX8_arePlaces S hI hG tw_681 (rok (by decide)) hl.1 (Nat.le_of_ble_eq_true rfl) dX8_lay_12 ?_
    refine ly_ifne (tgt := 21) S bI_e2 bI_e1 dX8_lay_15 (by decide) (fun h2 => ?_) (fun h2 => ?_)
    · skip
      refine lv_aload_n S.1 S.2.1 dX8_lay_21 rfl (lv_at hl 0 rfl) ?_
      refine g8 S hI 0 rfl 5 (by decide) tw_612 rfl dX8_lay_22 ?_
      refine lv_iload_n S.1 S.2.1 dX8_lay_25 rfl (lv_at hl 1 rfl) ?_
      refine ly_iald (v := (nI (la ci))) S hI 4 rfl (by omega) (by decide) rfl dX8_lay_26 ?_
      refine lv_istore_n (lv' := [(3, .int (nI (la ci))), (0, .ref (a 0)), (1, .int (nI ci)), (2, .int (nI k))]) S.1 S.2.1 dX8_lay_27 rfl hl (by decide) rfl (fun ls hl => ?_)
      refine lv_aload_n S.1 S.2.1 dX8_lay_28 rfl (lv_at hl 1 rfl) ?_
      refine g8 S hI 0 rfl 5 (by decide) tw_612 rfl dX8_lay_29 ?_
      refine lv_iload_n S.1 S.2.1 dX8_lay_32 rfl (lv_at hl 2 rfl) ?_
      refine lv_iload_n S.1 S.2.1 dX8_lay_33 rfl (lv_at hl 3 rfl) ?_
      refine ly_iast (ws' := (mW K a w n lap op mu ba (va_up la ci k) en pr sc)) S hI (mD hDis) hS 4 rfl (by omega) (by decide) ms_4 dX8_lay_34 (fun H locs hI hS => ?_)
      refine lv_iload_n S.1 S.2.1 dX8_lay_35 rfl (lv_at hl 0 rfl) ?_
      exact rw_i S hr hlk () rfl trivial hI hS dX8_lay_36
    · skip
      exact absurd h2 (by rw [plI_n hk hk2 (by omega)]; decide)
  · skip
    exact absurd h1 (by rw [wiC (by omega) (by omega)]; decide)
theorem kX8_lay_c {p : Program} {l : Launch} {e : Env} {R : Room} {s : State} {m : MethodId} {args : Array Value} {below : List Frame} {meth : Method} {c : Code} {H H0 : Heap} {locs : List Loc} {cells slots : Nat} {Q : State → Prop} {cc : ByteArray} {nL index pc : Nat} {own : String} {ls : Array Slot} {rest : List Value} {D : va_G} {K : Nat → ClassId} {a : Nat → Nat} {w n lap : Nat} {op mu ba la en : Nat → Nat} {pr : Nat → Option Nat} {sc : MSc} {ci : Nat} {k : Nat} (S : CallFix p m c cc nL s args lw_tb own) (hI : PI D K (mW K a w n lap op mu ba la en pr sc) s H) (hS : va_S (adA a 13) H0 H locs) (hDis : Dis a 13) (hG : GOK w n lap op mu ba la en pr) (hc : ci < n) (hk : k < 2 ^ w) (hk2 : k % 2 = 0) (hlink : Cond.methodLink own index yX8_lay ∈ lw_tb) (hR : RO 2 R cells slots) (hsz : ls.size = nL) (hW : (rest.map fun v => v.category).sum ≤ 8) (hdg : decode cc pc = .ok (.invokevirtual index, 3)) (kk : ∀ (u : Unit) (H1 : Heap) (locs1 : List Loc), True → PI D K (mW K a w n lap op mu ba (va_up la ci k) en pr sc) s H1 → va_S (adA a 13) H0 H1 locs1 → H.size ≤ H1.size → (∀ q : Nat, q < H.size → ¬ (adA a 13) q → H1[q]? = H[q]?) → W p l e R s m args below meth c H1 locs1 cells slots Q (F0 m (pc + 3) ls ((.int (nI (la ci))) :: rest))) : W p l e R s m args below meth c H locs cells slots Q (F0 m pc ls (.int (nI k) :: .int (nI ci) :: .ref (a 0) :: rest)) :=
  kVX (As := [.int (nI ci), .int (nI k)]) (b := a 0) S (mX8_lay_c l hDis hG hc hk hk2) hlink tw_809 tw_810 tw_50 tw_811 (by show _ ∧ _ ∧ _ = some 2; decide +kernel) (by decide) hR blP (piU hI) (va_recv hI.2 hI.1 (ci := 8) (q0 := 0) rfl rfl) hS (fun _ h => h) hsz rfl hW hdg kk
end
section
/-! rows that are right, what they cost and how many ways there are: the reference's tables -/
theorem upn {α : Type} {f : Nat → α} {k j : Nat} {v : α} (h : j ≠ k) : va_up f k v j = f j := if_neg h
theorem ups {α : Type} {f : Nat → α} {k : Nat} {v : α} : va_up f k v k = v := if_pos rfl
def rg (w : Nat) (op mu ba en : Nat → Nat) (pr : Nat → Option Nat) (ci i : Nat) : Bool := ruF pr w (op ci) (bl op ci) (mu ci) (ba ci) (en (ci % 2 * 2)) (en (ci % 2 * 2 + 1)) (2 * i) == 0
def rgL (w : Nat) (op mu ba en : Nat → Nat) (pr : Nat → Option Nat) (ci N : Nat) : List Nat := (List.range N).filter (rg w op mu ba en pr ci)
def rws (w : Nat) (op mu ba en : Nat → Nat) (pr : Nat → Option Nat) (ci : Nat) : List Nat := rgL w op mu ba en pr ci (2 ^ (w - 1))
def SOK (t : MSc) : Prop := (∀ i, t.1 i ≤ 512) ∧ (∀ i, t.2.1 i < 1024) ∧ (∀ i, t.2.2.1 i ≤ 1000000000) ∧ ∀ i, t.2.2.2.2.1 i < 1024
def FRp (R : List Nat) (ci : Nat) (sc u : MSc) : Prop := u.1 ci = R.length ∧ (∀ k, k < R.length → u.2.1 (512 * ci + k) = 2 * R.getD k 0) ∧ (∀ i, i ≠ ci → u.1 i = sc.1 i) ∧ (∀ i, (i < 512 * ci ∨ 512 * ci + 512 ≤ i) → u.2.1 i = sc.2.1 i) ∧ u.2.2 = sc.2.2 ∧ SOK u
section RG
variable {w : Nat} {op mu ba en : Nat → Nat} {pr : Nat → Option Nat} {ci : Nat}
theorem rgL_s (N : Nat) : rgL w op mu ba en pr ci (N + 1) = rgL w op mu ba en pr ci N ++ (if rg w op mu ba en pr ci N then [N] else []) := by
  unfold rgL
  rw [List.range_succ, List.filter_append]
  congr 1
  simp only [List.filter_cons, List.filter_nil]
theorem rgL_t {N : Nat} (h : ruF pr w (op ci) (bl op ci) (mu ci) (ba ci) (en (ci % 2 * 2)) (en (ci % 2 * 2 + 1)) (2 * N) = 0) : rgL w op mu ba en pr ci (N + 1) = rgL w op mu ba en pr ci N ++ [N] := by
  rw [rgL_s, if_pos (by unfold rg; rw [h]; rfl)]
theorem rgL_f {N : Nat} (h : ¬ ruF pr w (op ci) (bl op ci) (mu ci) (ba ci) (en (ci % 2 * 2)) (en (ci % 2 * 2 + 1)) (2 * N) = 0) : rgL w op mu ba en pr ci (N + 1) = rgL w op mu ba en pr ci N := by
  rw [rgL_s, if_neg (by unfold rg; simpa using h), List.append_nil]
theorem rgL_le (N : Nat) : (rgL w op mu ba en pr ci N).length ≤ N := by
  unfold rgL
  exact Nat.le_trans (List.length_filter_le _ _) (by rw [List.length_range]; exact Nat.le_refl _)
theorem rgL_lt {N i : Nat} (h : i ∈ rgL w op mu ba en pr ci N) : i < N := List.mem_range.mp (List.mem_filter.mp h).1
end RG
theorem FRp_0 {ci : Nat} {sc : MSc} (h : SOK sc) : FRp [] ci sc (va_up sc.1 ci 0, sc.2.1, sc.2.2.1, sc.2.2.2.1, sc.2.2.2.2.1, sc.2.2.2.2.2) := by
  refine ⟨ups, fun k hk => absurd hk (Nat.not_lt_zero k), fun i hi => upn hi, fun i _ => rfl, rfl, ?_, h.2.1, h.2.2.1, h.2.2.2⟩
  intro i
  show va_up sc.1 ci 0 i ≤ 512
  unfold va_up
  split
  · omega
  · exact h.1 i
theorem FRp_add {R : List Nat} {ci i : Nat} {sc t : MSc} (h : FRp R ci sc t) (hi : i < 512) (hR : R.length < 512) : FRp (R ++ [i]) ci sc (va_up t.1 ci (t.1 ci + 1), va_up t.2.1 (512 * ci + t.1 ci) (2 * i), t.2.2.1, t.2.2.2.1, t.2.2.2.2.1, t.2.2.2.2.2) := by
  obtain ⟨h1, h2, h3, h4, h5, h6⟩ := h
  refine ⟨?_, ?_, ?_, ?_, h5, ?_⟩
  · show va_up t.1 ci (t.1 ci + 1) ci = _
    rw [ups, h1, List.length_append]; rfl
  · intro k hk
    rw [List.length_append] at hk
    have hk2 : k < R.length + 1 := hk
    show va_up t.2.1 (512 * ci + t.1 ci) (2 * i) (512 * ci + k) = _
    unfold va_up
    rw [h1]
    by_cases e : k = R.length
    · subst e
      rw [if_pos rfl]
      simp
    · rw [if_neg (by omega), h2 k (by omega)]
      simp [List.getElem?_append, show k < R.length by omega]
  · intro j hj
    show va_up t.1 ci (t.1 ci + 1) j = _
    rw [upn hj, h3 j hj]
  · intro j hj
    show va_up t.2.1 (512 * ci + t.1 ci) (2 * i) j = _
    rw [upn (by omega), h4 j hj]
  · refine ⟨?_, ?_, h6.2.2.1, h6.2.2.2⟩
    · intro j
      show va_up t.1 ci (t.1 ci + 1) j ≤ 512
      unfold va_up
      split
      · omega
      · exact h6.1 j
    · intro j
      show va_up t.2.1 (512 * ci + t.1 ci) (2 * i) j < 1024
      unfold va_up
      split
      · omega
      · exact h6.2.1 j
def lsG (ra lf : Nat → Nat) (base near init : Nat) : Nat → Nat
  | 0 => init
  | q + 1 => if ra (base + q) &&& near = 0 then (if lf (base + q) < lsG ra lf base near init q then lf (base + q) else lsG ra lf base near init q) else lsG ra lf base near init q
def wyG (ra : Nat → Nat) (wf : Nat → Int64) (base near : Nat) (init : Int64) : Nat → Int64
  | 0 => init
  | q + 1 => if ra (base + q) &&& near = 0 then wyG ra wf base near init q + wf (base + q) else wyG ra wf base near init q
section LS
variable {ra lf : Nat → Nat} {wf : Nat → Int64} {base near init q : Nat} {ini : Int64}
theorem lsG_1 (h : ra (base + q) &&& near = 0) (h1 : lf (base + q) < lsG ra lf base near init q) : lf (base + q) = lsG ra lf base near init (q + 1) := by
  conv => rhs; unfold lsG
  rw [if_pos h, if_pos h1]
theorem lsG_2 (h : ra (base + q) &&& near = 0) (h1 : lsG ra lf base near init q ≤ lf (base + q)) : lsG ra lf base near init q = lsG ra lf base near init (q + 1) := by
  conv => rhs; unfold lsG
  rw [if_pos h, if_neg (by omega)]
theorem lsG_3 (h : ¬ ra (base + q) &&& near = 0) : lsG ra lf base near init q = lsG ra lf base near init (q + 1) := by
  conv => rhs; unfold lsG
  rw [if_neg h]
theorem wyG_1 (h : ra (base + q) &&& near = 0) : wyG ra wf base near ini q + wf (base + q) = wyG ra wf base near ini (q + 1) := by
  conv => rhs; unfold wyG
  rw [if_pos h]
theorem wyG_3 (h : ¬ ra (base + q) &&& near = 0) : wyG ra wf base near ini q = wyG ra wf base near ini (q + 1) := by
  conv => rhs; unfold wyG
  rw [if_neg h]
theorem lsG_le (hi : init ≤ 1000000000) (hl : ∀ i, lf i ≤ 1000000000) : ∀ q, lsG ra lf base near init q ≤ 1000000000
  | 0 => hi
  | q + 1 => by
    unfold lsG
    have := lsG_le hi hl q
    split
    · split
      · exact hl _
      · exact this
    · exact this
end LS
def ffQ (n ci : Nat) (rm : Nat → Nat) : Nat := if ci = n - 1 then 0 else rm (ci + 1)
def ffL (n z ci k : Nat) (sc : MSc) : Nat := lsG sc.2.1 sc.2.2.1 (512 * (ci + 1)) (arG (sc.2.1 (512 * ci + k)) z) (if ci = n - 1 then 0 else 1000000000) (ffQ n ci sc.1)
def ffV (pr : Nat → Option Nat) (w : Nat) (op : Nat → Nat) (n z ci k : Nat) (sc : MSc) : Nat := if ffL n z ci k sc = 1000000000 then 1000000000 else ffL n z ci k sc + coF pr w (op ci) (sc.2.1 (512 * ci + k))
def ffW (n z ci k : Nat) (sc : MSc) : Int64 := wyG sc.2.1 sc.2.2.2.1 (512 * (ci + 1)) (arG (sc.2.1 (512 * ci + k)) z) (if ci = n - 1 then 1 else 0) (ffQ n ci sc.1)
theorem ffV_1 {pr : Nat → Option Nat} {w : Nat} {op : Nat → Nat} {n z ci k q : Nat} {sc : MSc} (hq : q = ffQ n ci sc.1) (h : lsG sc.2.1 sc.2.2.1 (512 * (ci + 1)) (arG (sc.2.1 (512 * ci + k)) z) (if ci = n - 1 then 0 else 1000000000) q = 1000000000) : 1000000000 = ffV pr w op n z ci k sc := by
  unfold ffV ffL
  rw [← hq, if_pos h]
theorem ffV_2 {pr : Nat → Option Nat} {w : Nat} {op : Nat → Nat} {n z ci k q : Nat} {sc : MSc} (hq : q = ffQ n ci sc.1) (h : ¬ lsG sc.2.1 sc.2.2.1 (512 * (ci + 1)) (arG (sc.2.1 (512 * ci + k)) z) (if ci = n - 1 then 0 else 1000000000) q = 1000000000) : lsG sc.2.1 sc.2.2.1 (512 * (ci + 1)) (arG (sc.2.1 (512 * ci + k)) z) (if ci = n - 1 then 0 else 1000000000) q + coF pr w (op ci) (sc.2.1 (512 * ci + k)) = ffV pr w op n z ci k sc := by
  unfold ffV ffL
  rw [← hq, if_neg h]
theorem sub1_lt {k : Nat} (hk : k < 2 ^ 30) (h : nI k - nI 1 < 0) : k = 0 := by
  rw [Int32.lt_iff_toInt_lt, sub_ti hk (by omega), Int32.toInt_zero] at h
  omega
theorem sub1_ge {k : Nat} (hk : k < 2 ^ 30) (h : ¬ nI k - nI 1 < 0) : 1 ≤ k := by
  rw [Int32.lt_iff_toInt_lt, sub_ti hk (by omega), Int32.toInt_zero] at h
  omega
theorem im1 {k : Nat} (h : 1 ≤ k) : nI k - nI 1 + Int32.ofInt (-1) = nI (k - 1) - nI 1 := by
  rw [← pk_sub h, Int32.sub_eq_add_neg (nI k - nI 1)]
  congr 1
end
section
set_option maxHeartbeats 4000000 in
set_option maxRecDepth 100000 in
theorem mX8_findRows (l : Launch) {D : va_G} {K : Nat → ClassId} {a : Nat → Nat} {w n lap : Nat} {op mu ba la en : Nat → Nat} {pr : Nat → Option Nat} {sc : MSc} {ci : Nat} (hDis : Dis a 13) (hG : GOK w n lap op mu ba la en pr) (hci : ci < 8) (hsc : SOK sc) : Met l yX8_findRows (TWd yX8_findRows cX8_findRows 3 none) (rmk 5) (va_Pc [.ref (a 0), .int (nI ci)] (fun U => PI D K (mW K a w n lap op mu ba la en pr sc) U U.heap)) (QX D K (fun u : MSc => none) (fun u => (mW K a w n lap op mu ba la en pr u)) (fun u => FRp (rws w op mu ba en pr ci) ci sc u) (adA a 13)) 0 0 (adA a 13) := by
  refine mt_of (by decide +kernel) (Nat.le_of_ble_eq_true rfl) ?_
  intro p e s m below meth c S hr hlk hI ls hl
  have S : CallFix p m c cX8_findRows 3 s ([.ref (a 0), .int (nI ci)] : List Value).toArray lw_tb RX8 := S
  have hl : lv_has ls 3 [(0, .ref (a 0)), (1, .int (nI ci))] := hl
  have hS : va_S (adA a 13) s.heap s.heap [] := va_S.rf
  obtain ⟨gw1, gw2, gn, gl1, gl2, gop, gmu, gba, gla, gen, gpr, gop2, gmu2, gba2, gla2, gme, gbe, gle, gee⟩ := id hG
  have sw : 1 <<< w = 2 ^ w := Nat.one_shiftLeft w
  have pw : 2 ^ w ≤ 2 ^ 10 := Nat.pow_le_pow_right (by decide) gw2
  have pw3 : 2 ^ 2 ≤ 2 ^ w := Nat.pow_le_pow_right (by decide) gw1
  have pw0 : 2 ^ w ≤ 1024 := pw
  have pw4 : 4 ≤ 2 ^ w := pw3
  have pw5 : 2 ^ w = 2 * 2 ^ (w - 1) := by conv => (lhs; rw [show w = (w - 1) + 1 by omega, Nat.pow_succ, Nat.mul_comm])
  refine lv_aload_n S.1 S.2.1 dX8_findRows_0 rfl (lv_at hl 0 rfl) ?_
  refine g8 S hI 0 rfl 9 (by decide) tw_616 rfl dX8_findRows_1 ?_
  refine lv_iload_n S.1 S.2.1 dX8_findRows_4 rfl (lv_at hl 1 rfl) ?_
  refine lv_iconst (v := nI 0) S.1 S.2.1 dX8_findRows_5 (by decide) ?_
  refine ly_iast (ws' := (mW K a w n lap op mu ba la en pr (va_up sc.1 ci 0, sc.2.1, sc.2.2.1, sc.2.2.2.1, sc.2.2.2.2.1, sc.2.2.2.2.2))) S hI (mD hDis) hS 7 rfl (by omega) (by decide) (ms_7 (sc := sc)) dX8_findRows_6 (fun H locs hI hS => ?_)
  refine lv_iconst (v := nI 0) S.1 S.2.1 dX8_findRows_7 (by decide) ?_
  refine lv_istore_n (lv' := [(2, .int (nI 0)), (0, .ref (a 0)), (1, .int (nI ci))]) S.1 S.2.1 dX8_findRows_8 rfl hl (by decide) rfl (fun ls hl => ?_)
  have L9 : ∀ (f9 : Nat) (i : Nat) (t : MSc) (H : Heap) (locs : List Loc), (i ≤ 2 ^ (w - 1)) → (FRp (rgL w op mu ba en pr ci i) ci sc t) → (PI D K (mW K a w n lap op mu ba la en pr t) s H) → (va_S (adA a 13) s.heap H locs) → 2 ^ (w - 1) - i < f9 → ∀ (ls : Array Slot), lv_has ls 3 [(0, .ref (a 0)), (1, .int (nI ci)), (2, .int (nI (2 * i)))] → W p l e (rmk 5) s m ([.ref (a 0), .int (nI ci)] : List Value).toArray below meth c H locs 0 0 (MQ below (QX D K (fun u : MSc => none) (fun u => (mW K a w n lap op mu ba la en pr u)) (fun u => FRp (rws w op mu ba en pr ci) ci sc u) (adA a 13)) ([.ref (a 0), .int (nI ci)] : List Value).toArray s 0 0 (adA a 13)) (F0 m 9 ls []) := by
    intro f9
    induction f9 with
    | zero =>
      intro i t H locs i1 i2 hI hS hm
      exact absurd hm (Nat.not_lt_zero _)
    | succ f9 ih9 =>
      intro i t H locs i1 i2 hI hS hm9 ls hl
      have c1 : t.1 ci = (rgL w op mu ba en pr ci i).length := i2.1
      have c2 := rgL_le (w := w) (op := op) (mu := mu) (ba := ba) (en := en) (pr := pr) (ci := ci) i
      refine lv_iload_n S.1 S.2.1 dX8_findRows_9 rfl (lv_at hl 2 rfl) ?_
      refine lv_iconst (v := nI 1) S.1 S.2.1 dX8_findRows_10 (by decide) ?_
      refine lv_aload_n S.1 S.2.1 dX8_findRows_11 rfl (lv_at hl 0 rfl) ?_
      refine g8 S hI 0 rfl 0 (by decide) tw_607 rfl dX8_findRows_12 ?_
      refine lv_ishl S.1 S.2.1 dX8_findRows_15 ?_
      refine ly_top (z := nI (1 <<< w)) (nI_shl (by omega) (by rw [sw]; omega)) ?_
      refine ly_top (z := (nI (2 ^ w))) (by rw [sw]) ?_
      refine ly_cmge (tgt := 62) S (nI_le1 (by omega) (by omega)) (nI_le2 (by omega) (by omega)) dX8_findRows_16 (by decide) (fun h1 => ?_) (fun h1 => ?_)
      · skip
        exact rw_v S hr hlk t rfl (by have ei : i = 2 ^ (w - 1) := (by omega); rw [ei] at i2; exact i2) hI hS dX8_findRows_62
      · skip
        refine lv_aload_n S.1 S.2.1 dX8_findRows_19 rfl (lv_at hl 0 rfl) ?_
        refine lv_iload_n S.1 S.2.1 dX8_findRows_20 rfl (lv_at hl 1 rfl) ?_
        refine lv_iload_n S.1 S.2.1 dX8_findRows_21 rfl (lv_at hl 2 rfl) ?_
        refine kX8_ruleOf S hI hG (by omega) (by omega) tw_716 (rok (by decide)) hl.1 (Nat.le_of_ble_eq_true rfl) dX8_findRows_22 ?_
        have b2 : ruF pr w (op ci) (bl op ci) (mu ci) (ba ci) (en (ci % 2 * 2)) (en (ci % 2 * 2 + 1)) (2 * i) ≤ 6 := ruF_le
        refine ly_ifne (tgt := 56) S (nI_z2 (by omega)) (nI_z1 (by omega)) dX8_findRows_25 (by decide) (fun h3 => ?_) (fun h3 => ?_)
        · skip
          refine lv_iinc (v := nI ((2 * i) + 2)) (lv' := [(2, .int (nI ((2 * i) + 2))), (0, .ref (a 0)), (1, .int (nI ci))]) S.1 S.2.1 dX8_findRows_56 hl (k := 2) rfl (nJ_in _ _) (by decide) rfl (fun ls hl => ?_)
          rw [show nI ((2 * i) + 2) = nI (2 * (i + 1)) from (by rw [Nat.mul_succ])] at hl
          refine lv_goto (tgt := 9) S.1 S.2.1 dX8_findRows_59 (by decide) ?_
          exact ih9 (i + 1) t _ _ (by omega) (by rw [rgL_f h3]; exact i2) hI hS (by omega) _ (lv_sub hl [1, 2, 0] rfl)
        · skip
          refine lv_aload_n S.1 S.2.1 dX8_findRows_28 rfl (lv_at hl 0 rfl) ?_
          refine g8 S hI 0 rfl 10 (by decide) tw_617 rfl dX8_findRows_29 ?_
          refine lv_sipush (v := nI 512) S.1 S.2.1 dX8_findRows_32 (by decide) ?_
          refine lv_iload_n S.1 S.2.1 dX8_findRows_35 rfl (lv_at hl 1 rfl) ?_
          refine lv_imul S.1 S.2.1 dX8_findRows_36 ?_
          refine ly_top (z := nI (512 * ci)) (pk_mul _ _) ?_
          refine lv_aload_n S.1 S.2.1 dX8_findRows_37 rfl (lv_at hl 0 rfl) ?_
          refine g8 S hI 0 rfl 9 (by decide) tw_616 rfl dX8_findRows_38 ?_
          refine lv_iload_n S.1 S.2.1 dX8_findRows_41 rfl (lv_at hl 1 rfl) ?_
          refine ly_iald (v := (nI (t.1 ci))) S hI 7 rfl (by omega) (by decide) rfl dX8_findRows_42 ?_
          refine lv_iadd S.1 S.2.1 dX8_findRows_43 ?_
          refine ly_top (z := nI ((512 * ci) + (t.1 ci))) (nI_add _ _) ?_
          refine lv_iload_n S.1 S.2.1 dX8_findRows_44 rfl (lv_at hl 2 rfl) ?_
          refine ly_iast (ws' := (mW K a w n lap op mu ba la en pr (t.1, va_up t.2.1 ((512 * ci) + (t.1 ci)) (2 * i), t.2.2.1, t.2.2.2.1, t.2.2.2.2.1, t.2.2.2.2.2))) S hI (mD hDis) hS 8 rfl (by omega) (by decide) (ms_8 (sc := t)) dX8_findRows_45 (fun H locs hI hS => ?_)
          refine lv_aload_n S.1 S.2.1 dX8_findRows_46 rfl (lv_at hl 0 rfl) ?_
          refine g8 S hI 0 rfl 9 (by decide) tw_616 rfl dX8_findRows_47 ?_
          refine lv_iload_n S.1 S.2.1 dX8_findRows_50 rfl (lv_at hl 1 rfl) ?_
          refine lv_dup2_11 S.1 S.2.1 dX8_findRows_51 rfl rfl ?_
          refine ly_iald (v := (nI (t.1 ci))) S hI 7 rfl (by omega) (by decide) rfl dX8_findRows_52 ?_
          refine lv_iconst (v := nI 1) S.1 S.2.1 dX8_findRows_53 (by decide) ?_
          refine lv_iadd S.1 S.2.1 dX8_findRows_54 ?_
          refine ly_top (z := nI ((t.1 ci) + 1)) (nI_add _ _) ?_
          refine ly_iast (ws' := (mW K a w n lap op mu ba la en pr (va_up t.1 ci ((t.1 ci) + 1), va_up t.2.1 ((512 * ci) + (t.1 ci)) (2 * i), t.2.2.1, t.2.2.2.1, t.2.2.2.2.1, t.2.2.2.2.2))) S hI (mD hDis) hS 7 rfl (by omega) (by decide) (ms_7 (sc := (t.1, va_up t.2.1 ((512 * ci) + (t.1 ci)) (2 * i), t.2.2.1, t.2.2.2.1, t.2.2.2.2.1, t.2.2.2.2.2))) dX8_findRows_55 (fun H locs hI hS => ?_)
          refine lv_iinc (v := nI ((2 * i) + 2)) (lv' := [(2, .int (nI ((2 * i) + 2))), (0, .ref (a 0)), (1, .int (nI ci))]) S.1 S.2.1 dX8_findRows_56 hl (k := 2) rfl (nJ_in _ _) (by decide) rfl (fun ls hl => ?_)
          rw [show nI ((2 * i) + 2) = nI (2 * (i + 1)) from (by rw [Nat.mul_succ])] at hl
          refine lv_goto (tgt := 9) S.1 S.2.1 dX8_findRows_59 (by decide) ?_
          exact ih9 (i + 1) (va_up t.1 ci ((t.1 ci) + 1), va_up t.2.1 ((512 * ci) + (t.1 ci)) (2 * i), t.2.2.1, t.2.2.2.1, t.2.2.2.2.1, t.2.2.2.2.2) _ _ (by omega) (by rw [rgL_t h3]; exact FRp_add i2 (by omega) (by omega)) hI hS (by omega) _ (lv_sub hl [1, 2, 0] rfl)
  exact L9 _ 0 (va_up sc.1 ci 0, sc.2.1, sc.2.2.1, sc.2.2.2.1, sc.2.2.2.2.1, sc.2.2.2.2.2) _ _ (Nat.zero_le _) (FRp_0 hsc) hI hS (Nat.lt_succ_self _) _ (lv_sub hl [1, 2, 0] rfl)
theorem kX8_findRows {p : Program} {l : Launch} {e : Env} {R : Room} {s : State} {m : MethodId} {args : Array Value} {below : List Frame} {meth : Method} {c : Code} {H H0 : Heap} {locs : List Loc} {cells slots : Nat} {Q : State → Prop} {cc : ByteArray} {nL index pc : Nat} {own : String} {ls : Array Slot} {rest : List Value} {D : va_G} {K : Nat → ClassId} {a : Nat → Nat} {w n lap : Nat} {op mu ba la en : Nat → Nat} {pr : Nat → Option Nat} {sc : MSc} {ci : Nat} (S : CallFix p m c cc nL s args lw_tb own) (hI : PI D K (mW K a w n lap op mu ba la en pr sc) s H) (hS : va_S (adA a 13) H0 H locs) (hDis : Dis a 13) (hG : GOK w n lap op mu ba la en pr) (hci : ci < 8) (hsc : SOK sc) (hlink : Cond.methodLink own index yX8_findRows ∈ lw_tb) (hR : RO 5 R cells slots) (hsz : ls.size = nL) (hW : (rest.map fun v => v.category).sum ≤ 8) (hdg : decode cc pc = .ok (.invokevirtual index, 3)) (kk : ∀ (u : MSc) (H1 : Heap) (locs1 : List Loc), FRp (rws w op mu ba en pr ci) ci sc u → PI D K (mW K a w n lap op mu ba la en pr u) s H1 → va_S (adA a 13) H0 H1 locs1 → H.size ≤ H1.size → (∀ q : Nat, q < H.size → ¬ (adA a 13) q → H1[q]? = H[q]?) → W p l e R s m args below meth c H1 locs1 cells slots Q (F0 m (pc + 3) ls (rest))) : W p l e R s m args below meth c H locs cells slots Q (F0 m pc ls (.int (nI ci) :: .ref (a 0) :: rest)) :=
  kVX (As := [.int (nI ci)]) (b := a 0) S (mX8_findRows l hDis hG hci hsc) hlink tw_714 tw_19 tw_50 tw_715 (by show _ ∧ _ ∧ _ = some 1; decide +kernel) (by decide) hR blP (piU hI) (va_recv hI.2 hI.1 (ci := 8) (q0 := 0) rfl rfl) hS (fun _ h => h) hsz rfl hW hdg kk

set_option maxHeartbeats 4000000 in
set_option maxRecDepth 100000 in
theorem mX8_findFrom (l : Launch) {D : va_G} {K : Nat → ClassId} {a : Nat → Nat} {w n lap : Nat} {op mu ba la en : Nat → Nat} {pr : Nat → Option Nat} {sc : MSc} {ci : Nat} {k : Nat} {z : Nat} (hDis : Dis a 13) (hG : GOK w n lap op mu ba la en pr) (hci : ci < n) (hk : k < 512) (hz1 : 1 ≤ z) (hz2 : z ≤ 3) (hsc : SOK sc) : Met l yX8_findFrom (TWd yX8_findFrom cX8_findFrom 11 none) (rmk 4) (va_Pc [.ref (a 0), .int (nI ci), .int (nI k), .int (nI z)] (fun U => PI D K (mW K a w n lap op mu ba la en pr sc) U U.heap)) (QX D K (fun u : MSc => none) (fun u => (mW K a w n lap op mu ba la en pr u)) (fun u => u = (sc.1, sc.2.1, va_up sc.2.2.1 (512 * ci + k) (ffV pr w op n z ci k sc), va_up sc.2.2.2.1 (512 * ci + k) (ffW n z ci k sc), sc.2.2.2.2.1, sc.2.2.2.2.2)) (adA a 13)) 0 0 (adA a 13) := by
  refine mt_of (by decide +kernel) (Nat.le_of_ble_eq_true rfl) ?_
  intro p e s m below meth c S hr hlk hI ls hl
  have S : CallFix p m c cX8_findFrom 11 s ([.ref (a 0), .int (nI ci), .int (nI k), .int (nI z)] : List Value).toArray lw_tb RX8 := S
  have hl : lv_has ls 11 [(0, .ref (a 0)), (1, .int (nI ci)), (2, .int (nI k)), (3, .int (nI z))] := hl
  have hS : va_S (adA a 13) s.heap s.heap [] := va_S.rf
  obtain ⟨gw1, gw2, gn, gl1, gl2, gop, gmu, gba, gla, gen, gpr, gop2, gmu2, gba2, gla2, gme, gbe, gle, gee⟩ := id hG
  obtain ⟨q1, q2, q3, q4⟩ := id hsc
  have o1 := q2 (512 * ci + k)
  have o2 := q1 (ci + 1)
  have il : (if ci = n - 1 then 0 else 1000000000) ≤ 1000000000 := by split <;> omega
  refine lv_sipush (v := nI 512) S.1 S.2.1 dX8_findFrom_0 (by decide) ?_
  refine lv_iload_n S.1 S.2.1 dX8_findFrom_3 rfl (lv_at hl 1 rfl) ?_
  refine lv_imul S.1 S.2.1 dX8_findFrom_4 ?_
  refine ly_top (z := nI (512 * ci)) (pk_mul _ _) ?_
  refine lv_iload_n S.1 S.2.1 dX8_findFrom_5 rfl (lv_at hl 2 rfl) ?_
  refine lv_iadd S.1 S.2.1 dX8_findFrom_6 ?_
  refine ly_top (z := nI ((512 * ci) + k)) (nI_add _ _) ?_
  refine ly_top (z := (nI (512 * ci + k))) rfl ?_
  refine lv_istore (lv' := [(4, .int (nI (512 * ci + k))), (0, .ref (a 0)), (1, .int (nI ci)), (2, .int (nI k)), (3, .int (nI z))]) S.1 S.2.1 dX8_findFrom_7 hl (by decide) rfl (fun ls hl => ?_)
  have J27 : ∀ (ls : Array Slot), lv_has ls 11 [(0, .ref (a 0)), (1, .int (nI ci)), (2, .int (nI k)), (3, .int (nI z)), (4, .int (nI (512 * ci + k))), (5, .int (nI (if ci = n - 1 then 0 else 1000000000)))] → W p l e (rmk 4) s m ([.ref (a 0), .int (nI ci), .int (nI k), .int (nI z)] : List Value).toArray below meth c s.heap [] 0 0 (MQ below (QX D K (fun u : MSc => none) (fun u => (mW K a w n lap op mu ba la en pr u)) (fun u => u = (sc.1, sc.2.1, va_up sc.2.2.1 (512 * ci + k) (ffV pr w op n z ci k sc), va_up sc.2.2.2.1 (512 * ci + k) (ffW n z ci k sc), sc.2.2.2.2.1, sc.2.2.2.2.2)) (adA a 13)) ([.ref (a 0), .int (nI ci), .int (nI k), .int (nI z)] : List Value).toArray s 0 0 (adA a 13)) (F0 m 27 ls []) := by
    intro  ls hl
    have J44 : ∀ (ls : Array Slot), lv_has ls 11 [(0, .ref (a 0)), (1, .int (nI ci)), (2, .int (nI k)), (3, .int (nI z)), (4, .int (nI (512 * ci + k))), (5, .int (nI (if ci = n - 1 then 0 else 1000000000))), (6, .long (if ci = n - 1 then 1 else 0))] → W p l e (rmk 4) s m ([.ref (a 0), .int (nI ci), .int (nI k), .int (nI z)] : List Value).toArray below meth c s.heap [] 0 0 (MQ below (QX D K (fun u : MSc => none) (fun u => (mW K a w n lap op mu ba la en pr u)) (fun u => u = (sc.1, sc.2.1, va_up sc.2.2.1 (512 * ci + k) (ffV pr w op n z ci k sc), va_up sc.2.2.2.1 (512 * ci + k) (ffW n z ci k sc), sc.2.2.2.2.1, sc.2.2.2.2.2)) (adA a 13)) ([.ref (a 0), .int (nI ci), .int (nI k), .int (nI z)] : List Value).toArray s 0 0 (adA a 13)) (F0 m 44 ls []) := by
      intro  ls hl
      refine lv_aload_n S.1 S.2.1 dX8_findFrom_44 rfl (lv_at hl 0 rfl) ?_
      refine g8 S hI 0 rfl 10 (by decide) tw_617 rfl dX8_findFrom_45 ?_
      refine lv_iload S.1 S.2.1 dX8_findFrom_48 (lv_at hl 4 rfl) ?_
      refine ly_iald (v := (nI (sc.2.1 (512 * ci + k)))) S hI 8 rfl (by omega) (by decide) rfl dX8_findFrom_50 ?_
      refine lv_iload_n S.1 S.2.1 dX8_findFrom_51 rfl (lv_at hl 3 rfl) ?_
      refine kX8_around S (by omega) (by omega) (by omega) tw_765 (rok (by decide)) hl.1 (Nat.le_of_ble_eq_true rfl) dX8_findFrom_52 ?_
      have b1 : arG (sc.2.1 (512 * ci + k)) z < 4096 := arG_lt (by omega) _ (by omega)
      refine lv_istore (lv' := [(8, .int (nI (arG (sc.2.1 (512 * ci + k)) z))), (0, .ref (a 0)), (1, .int (nI ci)), (2, .int (nI k)), (3, .int (nI z)), (4, .int (nI (512 * ci + k))), (5, .int (nI (if ci = n - 1 then 0 else 1000000000))), (6, .long (if ci = n - 1 then 1 else 0))]) S.1 S.2.1 dX8_findFrom_55 hl (by decide) rfl (fun ls hl => ?_)
      refine lv_iconst (v := nI 0) S.1 S.2.1 dX8_findFrom_57 (by decide) ?_
      refine lv_istore (lv' := [(9, .int (nI 0)), (8, .int (nI (arG (sc.2.1 (512 * ci + k)) z))), (0, .ref (a 0)), (1, .int (nI ci)), (2, .int (nI k)), (3, .int (nI z)), (4, .int (nI (512 * ci + k))), (5, .int (nI (if ci = n - 1 then 0 else 1000000000))), (6, .long (if ci = n - 1 then 1 else 0))]) S.1 S.2.1 dX8_findFrom_58 hl (by decide) rfl (fun ls hl => ?_)
      have L60 : ∀ (f60 : Nat) (q : Nat), (q ≤ ffQ n ci sc.1) → ffQ n ci sc.1 - q < f60 → ∀ (ls : Array Slot), lv_has ls 11 [(0, .ref (a 0)), (1, .int (nI ci)), (2, .int (nI k)), (3, .int (nI z)), (4, .int (nI (512 * ci + k))), (5, .int (nI (lsG sc.2.1 sc.2.2.1 (512 * (ci + 1)) (arG (sc.2.1 (512 * ci + k)) z) (if ci = n - 1 then 0 else 1000000000) q))), (6, .long (wyG sc.2.1 sc.2.2.2.1 (512 * (ci + 1)) (arG (sc.2.1 (512 * ci + k)) z) (if ci = n - 1 then 1 else 0) q)), (8, .int (nI (arG (sc.2.1 (512 * ci + k)) z))), (9, .int (nI q))] → W p l e (rmk 4) s m ([.ref (a 0), .int (nI ci), .int (nI k), .int (nI z)] : List Value).toArray below meth c s.heap [] 0 0 (MQ below (QX D K (fun u : MSc => none) (fun u => (mW K a w n lap op mu ba la en pr u)) (fun u => u = (sc.1, sc.2.1, va_up sc.2.2.1 (512 * ci + k) (ffV pr w op n z ci k sc), va_up sc.2.2.2.1 (512 * ci + k) (ffW n z ci k sc), sc.2.2.2.2.1, sc.2.2.2.2.2)) (adA a 13)) ([.ref (a 0), .int (nI ci), .int (nI k), .int (nI z)] : List Value).toArray s 0 0 (adA a 13)) (F0 m 60 ls []) := by
        intro f60
        induction f60 with
        | zero =>
          intro q i1 hm
          exact absurd hm (Nat.not_lt_zero _)
        | succ f60 ih60 =>
          intro q i1 hm60 ls hl
          have b9 := lsG_le (ra := sc.2.1) (base := 512 * (ci + 1)) (near := (arG (sc.2.1 (512 * ci + k)) z)) il q3 q
          refine lv_iload_n S.1 S.2.1 dX8_findFrom_60 rfl (lv_at hl 1 rfl) ?_
          refine lv_aload_n S.1 S.2.1 dX8_findFrom_61 rfl (lv_at hl 0 rfl) ?_
          refine g8 S hI 0 rfl 1 (by decide) tw_608 rfl dX8_findFrom_62 ?_
          refine lv_iconst (v := nI 1) S.1 S.2.1 dX8_findFrom_65 (by decide) ?_
          refine lv_isub S.1 S.2.1 dX8_findFrom_66 ?_
          refine ly_top (z := nI (n - 1)) (pk_sub (by omega)) ?_
          refine ly_cmge (tgt := 152) S (nI_le1 (by omega) (by omega)) (nI_le2 (by omega) (by omega)) dX8_findFrom_67 (by decide) (fun h2 => ?_) (fun h2 => ?_)
          · skip
            have e9 : q = ffQ n ci sc.1 := by unfold ffQ at i1 ⊢; rw [if_pos (by omega)] at i1 ⊢; omega
            refine lv_aload_n S.1 S.2.1 dX8_findFrom_152 rfl (lv_at hl 0 rfl) ?_
            refine g8 S hI 0 rfl 11 (by decide) tw_618 rfl dX8_findFrom_153 ?_
            refine lv_iload S.1 S.2.1 dX8_findFrom_156 (lv_at hl 4 rfl) ?_
            refine lv_iload S.1 S.2.1 dX8_findFrom_158 (lv_at hl 5 rfl) ?_
            refine lv_ldc S.1 S.2.1 S.2.2.2.1 (S.2.2.2.2 _ tw_764) dX8_findFrom_160 ?_
            refine ly_top (z := nI 1000000000) (by decide) ?_
            refine ly_cmne (tgt := 170) S (nI_e2 (by omega) (by omega)) (nI_e1 (by omega) (by omega)) dX8_findFrom_162 (by decide) (fun h3 => ?_) (fun h3 => ?_)
            · skip
              refine lv_iload S.1 S.2.1 dX8_findFrom_170 (lv_at hl 5 rfl) ?_
              refine lv_aload_n S.1 S.2.1 dX8_findFrom_172 rfl (lv_at hl 0 rfl) ?_
              refine lv_iload_n S.1 S.2.1 dX8_findFrom_173 rfl (lv_at hl 1 rfl) ?_
              refine lv_aload_n S.1 S.2.1 dX8_findFrom_174 rfl (lv_at hl 0 rfl) ?_
              refine g8 S hI 0 rfl 10 (by decide) tw_617 rfl dX8_findFrom_175 ?_
              refine lv_iload S.1 S.2.1 dX8_findFrom_178 (lv_at hl 4 rfl) ?_
              refine ly_iald (v := (nI (sc.2.1 (512 * ci + k)))) S hI 8 rfl (by omega) (by decide) rfl dX8_findFrom_180 ?_
              refine kX8_costOf S hI hG (by omega) (by omega) tw_768 (rok (by decide)) hl.1 (Nat.le_of_ble_eq_true rfl) dX8_findFrom_181 ?_
              have b4 : coF pr w (op ci) (sc.2.1 (512 * ci + k)) ≤ 1000 := coF_le gpr gw2 _ _
              refine lv_iadd S.1 S.2.1 dX8_findFrom_184 ?_
              refine ly_top (z := nI ((lsG sc.2.1 sc.2.2.1 (512 * (ci + 1)) (arG (sc.2.1 (512 * ci + k)) z) (if ci = n - 1 then 0 else 1000000000) q) + (coF pr w (op ci) (sc.2.1 (512 * ci + k))))) (nI_add _ _) ?_
              refine ly_top (z := (nI (ffV pr w op n z ci k sc))) (congrArg nI (ffV_2 e9 h3)) ?_
              refine ly_iast (ws' := (mW K a w n lap op mu ba la en pr (sc.1, sc.2.1, va_up sc.2.2.1 (512 * ci + k) (ffV pr w op n z ci k sc), sc.2.2.2.1, sc.2.2.2.2.1, sc.2.2.2.2.2))) S hI (mD hDis) hS 9 rfl (by omega) (by decide) (ms_9 (sc := sc)) dX8_findFrom_185 (fun H locs hI hS => ?_)
              refine lv_aload_n S.1 S.2.1 dX8_findFrom_186 rfl (lv_at hl 0 rfl) ?_
              refine g8 S hI 0 rfl 12 (by decide) tw_619 rfl dX8_findFrom_187 ?_
              refine lv_iload S.1 S.2.1 dX8_findFrom_190 (lv_at hl 4 rfl) ?_
              refine lv_lload S.1 S.2.1 dX8_findFrom_192 (lv_at hl 6 rfl) ?_
              refine ly_topl (z := (ffW n z ci k sc)) (by unfold ffW; rw [← e9]) ?_
              refine ly_last (ws' := (mW K a w n lap op mu ba la en pr (sc.1, sc.2.1, va_up sc.2.2.1 (512 * ci + k) (ffV pr w op n z ci k sc), va_up sc.2.2.2.1 (512 * ci + k) (ffW n z ci k sc), sc.2.2.2.2.1, sc.2.2.2.2.2))) S hI (mD hDis) hS 10 rfl (by omega) (by decide) (ms_10 (sc := (sc.1, sc.2.1, va_up sc.2.2.1 (512 * ci + k) (ffV pr w op n z ci k sc), sc.2.2.2.1, sc.2.2.2.2.1, sc.2.2.2.2.2))) dX8_findFrom_194 (fun H locs hI hS => ?_)
              exact rw_v S hr hlk (sc.1, sc.2.1, va_up sc.2.2.1 (512 * ci + k) (ffV pr w op n z ci k sc), va_up sc.2.2.2.1 (512 * ci + k) (ffW n z ci k sc), sc.2.2.2.2.1, sc.2.2.2.2.2) rfl rfl hI hS dX8_findFrom_195
            · skip
              refine lv_ldc S.1 S.2.1 S.2.2.2.1 (S.2.2.2.2 _ tw_764) dX8_findFrom_165 ?_
              refine ly_top (z := nI 1000000000) (by decide) ?_
              refine lv_goto (tgt := 185) S.1 S.2.1 dX8_findFrom_167 (by decide) ?_
              refine ly_top (z := (nI (ffV pr w op n z ci k sc))) (congrArg nI (ffV_1 e9 h3)) ?_
              refine ly_iast (ws' := (mW K a w n lap op mu ba la en pr (sc.1, sc.2.1, va_up sc.2.2.1 (512 * ci + k) (ffV pr w op n z ci k sc), sc.2.2.2.1, sc.2.2.2.2.1, sc.2.2.2.2.2))) S hI (mD hDis) hS 9 rfl (by omega) (by decide) (ms_9 (sc := sc)) dX8_findFrom_185 (fun H locs hI hS => ?_)
              refine lv_aload_n S.1 S.2.1 dX8_findFrom_186 rfl (lv_at hl 0 rfl) ?_
              refine g8 S hI 0 rfl 12 (by decide) tw_619 rfl dX8_findFrom_187 ?_
              refine lv_iload S.1 S.2.1 dX8_findFrom_190 (lv_at hl 4 rfl) ?_
              refine lv_lload S.1 S.2.1 dX8_findFrom_192 (lv_at hl 6 rfl) ?_
              refine ly_topl (z := (ffW n z ci k sc)) (by unfold ffW; rw [← e9]) ?_
              refine ly_last (ws' := (mW K a w n lap op mu ba la en pr (sc.1, sc.2.1, va_up sc.2.2.1 (512 * ci + k) (ffV pr w op n z ci k sc), va_up sc.2.2.2.1 (512 * ci + k) (ffW n z ci k sc), sc.2.2.2.2.1, sc.2.2.2.2.2))) S hI (mD hDis) hS 10 rfl (by omega) (by decide) (ms_10 (sc := (sc.1, sc.2.1, va_up sc.2.2.1 (512 * ci + k) (ffV pr w op n z ci k sc), sc.2.2.2.1, sc.2.2.2.2.1, sc.2.2.2.2.2))) dX8_findFrom_194 (fun H locs hI hS => ?_)
              exact rw_v S hr hlk (sc.1, sc.2.1, va_up sc.2.2.1 (512 * ci + k) (ffV pr w op n z ci k sc), va_up sc.2.2.2.1 (512 * ci + k) (ffW n z ci k sc), sc.2.2.2.2.1, sc.2.2.2.2.2) rfl rfl hI hS dX8_findFrom_195
          · skip
            have e8 : ffQ n ci sc.1 = sc.1 (ci + 1) := by unfold ffQ; rw [if_neg (by omega)]
            refine lv_iload S.1 S.2.1 dX8_findFrom_70 (lv_at hl 8 rfl) ?_
            refine lv_aload_n S.1 S.2.1 dX8_findFrom_72 rfl (lv_at hl 0 rfl) ?_
            refine g8 S hI 0 rfl 9 (by decide) tw_616 rfl dX8_findFrom_73 ?_
            refine lv_iload_n S.1 S.2.1 dX8_findFrom_76 rfl (lv_at hl 1 rfl) ?_
            refine lv_iconst (v := nI 1) S.1 S.2.1 dX8_findFrom_77 (by decide) ?_
            refine lv_iadd S.1 S.2.1 dX8_findFrom_78 ?_
            refine ly_top (z := nI (ci + 1)) (nI_add _ _) ?_
            refine ly_iald (v := (nI (sc.1 (ci + 1)))) S hI 7 rfl (by omega) (by decide) rfl dX8_findFrom_79 ?_
            refine ly_cmge (tgt := 152) S (nI_le1 (by omega) (by omega)) (nI_le2 (by omega) (by omega)) dX8_findFrom_80 (by decide) (fun h5 => ?_) (fun h5 => ?_)
            · skip
              have e9 : q = ffQ n ci sc.1 := by omega
              refine lv_aload_n S.1 S.2.1 dX8_findFrom_152 rfl (lv_at hl 0 rfl) ?_
              refine g8 S hI 0 rfl 11 (by decide) tw_618 rfl dX8_findFrom_153 ?_
              refine lv_iload S.1 S.2.1 dX8_findFrom_156 (lv_at hl 4 rfl) ?_
              refine lv_iload S.1 S.2.1 dX8_findFrom_158 (lv_at hl 5 rfl) ?_
              refine lv_ldc S.1 S.2.1 S.2.2.2.1 (S.2.2.2.2 _ tw_764) dX8_findFrom_160 ?_
              refine ly_top (z := nI 1000000000) (by decide) ?_
              refine ly_cmne (tgt := 170) S (nI_e2 (by omega) (by omega)) (nI_e1 (by omega) (by omega)) dX8_findFrom_162 (by decide) (fun h6 => ?_) (fun h6 => ?_)
              · skip
                refine lv_iload S.1 S.2.1 dX8_findFrom_170 (lv_at hl 5 rfl) ?_
                refine lv_aload_n S.1 S.2.1 dX8_findFrom_172 rfl (lv_at hl 0 rfl) ?_
                refine lv_iload_n S.1 S.2.1 dX8_findFrom_173 rfl (lv_at hl 1 rfl) ?_
                refine lv_aload_n S.1 S.2.1 dX8_findFrom_174 rfl (lv_at hl 0 rfl) ?_
                refine g8 S hI 0 rfl 10 (by decide) tw_617 rfl dX8_findFrom_175 ?_
                refine lv_iload S.1 S.2.1 dX8_findFrom_178 (lv_at hl 4 rfl) ?_
                refine ly_iald (v := (nI (sc.2.1 (512 * ci + k)))) S hI 8 rfl (by omega) (by decide) rfl dX8_findFrom_180 ?_
                refine kX8_costOf S hI hG (by omega) (by omega) tw_768 (rok (by decide)) hl.1 (Nat.le_of_ble_eq_true rfl) dX8_findFrom_181 ?_
                have b7 : coF pr w (op ci) (sc.2.1 (512 * ci + k)) ≤ 1000 := coF_le gpr gw2 _ _
                refine lv_iadd S.1 S.2.1 dX8_findFrom_184 ?_
                refine ly_top (z := nI ((lsG sc.2.1 sc.2.2.1 (512 * (ci + 1)) (arG (sc.2.1 (512 * ci + k)) z) (if ci = n - 1 then 0 else 1000000000) q) + (coF pr w (op ci) (sc.2.1 (512 * ci + k))))) (nI_add _ _) ?_
                refine ly_top (z := (nI (ffV pr w op n z ci k sc))) (congrArg nI (ffV_2 e9 h6)) ?_
                refine ly_iast (ws' := (mW K a w n lap op mu ba la en pr (sc.1, sc.2.1, va_up sc.2.2.1 (512 * ci + k) (ffV pr w op n z ci k sc), sc.2.2.2.1, sc.2.2.2.2.1, sc.2.2.2.2.2))) S hI (mD hDis) hS 9 rfl (by omega) (by decide) (ms_9 (sc := sc)) dX8_findFrom_185 (fun H locs hI hS => ?_)
                refine lv_aload_n S.1 S.2.1 dX8_findFrom_186 rfl (lv_at hl 0 rfl) ?_
                refine g8 S hI 0 rfl 12 (by decide) tw_619 rfl dX8_findFrom_187 ?_
                refine lv_iload S.1 S.2.1 dX8_findFrom_190 (lv_at hl 4 rfl) ?_
                refine lv_lload S.1 S.2.1 dX8_findFrom_192 (lv_at hl 6 rfl) ?_
                refine ly_topl (z := (ffW n z ci k sc)) (by unfold ffW; rw [← e9]) ?_
                refine ly_last (ws' := (mW K a w n lap op mu ba la en pr (sc.1, sc.2.1, va_up sc.2.2.1 (512 * ci + k) (ffV pr w op n z ci k sc), va_up sc.2.2.2.1 (512 * ci + k) (ffW n z ci k sc), sc.2.2.2.2.1, sc.2.2.2.2.2))) S hI (mD hDis) hS 10 rfl (by omega) (by decide) (ms_10 (sc := (sc.1, sc.2.1, va_up sc.2.2.1 (512 * ci + k) (ffV pr w op n z ci k sc), sc.2.2.2.1, sc.2.2.2.2.1, sc.2.2.2.2.2))) dX8_findFrom_194 (fun H locs hI hS => ?_)
                exact rw_v S hr hlk (sc.1, sc.2.1, va_up sc.2.2.1 (512 * ci + k) (ffV pr w op n z ci k sc), va_up sc.2.2.2.1 (512 * ci + k) (ffW n z ci k sc), sc.2.2.2.2.1, sc.2.2.2.2.2) rfl rfl hI hS dX8_findFrom_195
              · skip
                refine lv_ldc S.1 S.2.1 S.2.2.2.1 (S.2.2.2.2 _ tw_764) dX8_findFrom_165 ?_
                refine ly_top (z := nI 1000000000) (by decide) ?_
                refine lv_goto (tgt := 185) S.1 S.2.1 dX8_findFrom_167 (by decide) ?_
                refine ly_top (z := (nI (ffV pr w op n z ci k sc))) (congrArg nI (ffV_1 e9 h6)) ?_
                refine ly_iast (ws' := (mW K a w n lap op mu ba la en pr (sc.1, sc.2.1, va_up sc.2.2.1 (512 * ci + k) (ffV pr w op n z ci k sc), sc.2.2.2.1, sc.2.2.2.2.1, sc.2.2.2.2.2))) S hI (mD hDis) hS 9 rfl (by omega) (by decide) (ms_9 (sc := sc)) dX8_findFrom_185 (fun H locs hI hS => ?_)
                refine lv_aload_n S.1 S.2.1 dX8_findFrom_186 rfl (lv_at hl 0 rfl) ?_
                refine g8 S hI 0 rfl 12 (by decide) tw_619 rfl dX8_findFrom_187 ?_
                refine lv_iload S.1 S.2.1 dX8_findFrom_190 (lv_at hl 4 rfl) ?_
                refine lv_lload S.1 S.2.1 dX8_findFrom_192 (lv_at hl 6 rfl) ?_
                refine ly_topl (z := (ffW n z ci k sc)) (by unfold ffW; rw [← e9]) ?_
                refine ly_last (ws' := (mW K a w n lap op mu ba la en pr (sc.1, sc.2.1, va_up sc.2.2.1 (512 * ci + k) (ffV pr w op n z ci k sc), va_up sc.2.2.2.1 (512 * ci + k) (ffW n z ci k sc), sc.2.2.2.2.1, sc.2.2.2.2.2))) S hI (mD hDis) hS 10 rfl (by omega) (by decide) (ms_10 (sc := (sc.1, sc.2.1, va_up sc.2.2.1 (512 * ci + k) (ffV pr w op n z ci k sc), sc.2.2.2.1, sc.2.2.2.2.1, sc.2.2.2.2.2))) dX8_findFrom_194 (fun H locs hI hS => ?_)
                exact rw_v S hr hlk (sc.1, sc.2.1, va_up sc.2.2.1 (512 * ci + k) (ffV pr w op n z ci k sc), va_up sc.2.2.2.1 (512 * ci + k) (ffW n z ci k sc), sc.2.2.2.2.1, sc.2.2.2.2.2) rfl rfl hI hS dX8_findFrom_195
            · skip
              refine lv_sipush (v := nI 512) S.1 S.2.1 dX8_findFrom_83 (by decide) ?_
              refine lv_iload_n S.1 S.2.1 dX8_findFrom_86 rfl (lv_at hl 1 rfl) ?_
              refine lv_iconst (v := nI 1) S.1 S.2.1 dX8_findFrom_87 (by decide) ?_
              refine lv_iadd S.1 S.2.1 dX8_findFrom_88 ?_
              refine ly_top (z := nI (ci + 1)) (nI_add _ _) ?_
              refine lv_imul S.1 S.2.1 dX8_findFrom_89 ?_
              refine ly_top (z := nI (512 * (ci + 1))) (pk_mul _ _) ?_
              refine lv_iload S.1 S.2.1 dX8_findFrom_90 (lv_at hl 8 rfl) ?_
              refine lv_iadd S.1 S.2.1 dX8_findFrom_92 ?_
              refine ly_top (z := nI ((512 * (ci + 1)) + q)) (nI_add _ _) ?_
              refine lv_istore (lv' := [(10, .int (nI ((512 * (ci + 1)) + q))), (0, .ref (a 0)), (1, .int (nI ci)), (2, .int (nI k)), (3, .int (nI z)), (4, .int (nI (512 * ci + k))), (5, .int (nI (lsG sc.2.1 sc.2.2.1 (512 * (ci + 1)) (arG (sc.2.1 (512 * ci + k)) z) (if ci = n - 1 then 0 else 1000000000) q))), (6, .long (wyG sc.2.1 sc.2.2.2.1 (512 * (ci + 1)) (arG (sc.2.1 (512 * ci + k)) z) (if ci = n - 1 then 1 else 0) q)), (8, .int (nI (arG (sc.2.1 (512 * ci + k)) z))), (9, .int (nI q))]) S.1 S.2.1 dX8_findFrom_93 hl (by decide) rfl (fun ls hl => ?_)
              refine lv_aload_n S.1 S.2.1 dX8_findFrom_95 rfl (lv_at hl 1 rfl) ?_
              refine g8 S hI 0 rfl 10 (by decide) tw_617 rfl dX8_findFrom_96 ?_
              refine lv_iload S.1 S.2.1 dX8_findFrom_99 (lv_at hl 0 rfl) ?_
              have o3 := q2 ((512 * (ci + 1)) + q)
              have o4 := q3 ((512 * (ci + 1)) + q)
              refine ly_iald (v := (nI (sc.2.1 ((512 * (ci + 1)) + q)))) S hI 8 rfl (by omega) (by decide) rfl dX8_findFrom_101 ?_
              refine lv_iload S.1 S.2.1 dX8_findFrom_102 (lv_at hl 8 rfl) ?_
              refine lv_iand S.1 S.2.1 dX8_findFrom_104 ?_
              refine ly_top (z := nI ((sc.2.1 ((512 * (ci + 1)) + q)) &&& (arG (sc.2.1 (512 * ci + k)) z))) (nI_and (by omega) (by omega)) ?_
              refine ly_ifne (tgt := 146) S (nI_z2 (Nat.lt_of_le_of_lt Nat.and_le_left (by omega))) (nI_z1 (Nat.lt_of_le_of_lt Nat.and_le_left (by omega))) dX8_findFrom_105 (by decide) (fun h8 => ?_) (fun h8 => ?_)
              · skip
                rw [show nI (lsG sc.2.1 sc.2.2.1 (512 * (ci + 1)) (arG (sc.2.1 (512 * ci + k)) z) (if ci = n - 1 then 0 else 1000000000) q) = nI (lsG sc.2.1 sc.2.2.1 (512 * (ci + 1)) (arG (sc.2.1 (512 * ci + k)) z) (if ci = n - 1 then 0 else 1000000000) (q + 1)) from congrArg nI (lsG_3 h8)] at hl
                rw [show wyG sc.2.1 sc.2.2.2.1 (512 * (ci + 1)) (arG (sc.2.1 (512 * ci + k)) z) (if ci = n - 1 then 1 else 0) q = wyG sc.2.1 sc.2.2.2.1 (512 * (ci + 1)) (arG (sc.2.1 (512 * ci + k)) z) (if ci = n - 1 then 1 else 0) (q + 1) from wyG_3 h8] at hl
                refine lv_iinc (v := nI (q + 1)) (lv' := [(9, .int (nI (q + 1))), (10, .int (nI ((512 * (ci + 1)) + q))), (0, .ref (a 0)), (1, .int (nI ci)), (2, .int (nI k)), (3, .int (nI z)), (4, .int (nI (512 * ci + k))), (5, .int (nI (lsG sc.2.1 sc.2.2.1 (512 * (ci + 1)) (arG (sc.2.1 (512 * ci + k)) z) (if ci = n - 1 then 0 else 1000000000) (q + 1)))), (6, .long (wyG sc.2.1 sc.2.2.2.1 (512 * (ci + 1)) (arG (sc.2.1 (512 * ci + k)) z) (if ci = n - 1 then 1 else 0) (q + 1))), (8, .int (nI (arG (sc.2.1 (512 * ci + k)) z)))]) S.1 S.2.1 dX8_findFrom_146 hl (k := 9) rfl (nJ_in _ _) (by decide) rfl (fun ls hl => ?_)
                refine lv_goto (tgt := 60) S.1 S.2.1 dX8_findFrom_149 (by decide) ?_
                exact ih60 (q + 1) (by omega) (by omega) _ (lv_sub hl [2, 3, 4, 5, 6, 7, 8, 9, 0] rfl)
              · skip
                refine lv_aload_n S.1 S.2.1 dX8_findFrom_108 rfl (lv_at hl 1 rfl) ?_
                refine g8 S hI 0 rfl 11 (by decide) tw_618 rfl dX8_findFrom_109 ?_
                refine lv_iload S.1 S.2.1 dX8_findFrom_112 (lv_at hl 0 rfl) ?_
                refine ly_iald (v := (nI (sc.2.2.1 ((512 * (ci + 1)) + q)))) S hI 9 rfl (by omega) (by decide) rfl dX8_findFrom_114 ?_
                refine lv_iload S.1 S.2.1 dX8_findFrom_115 (lv_at hl 6 rfl) ?_
                refine ly_cmge (tgt := 130) S (nI_le1 (by omega) (by omega)) (nI_le2 (by omega) (by omega)) dX8_findFrom_117 (by decide) (fun h9 => ?_) (fun h9 => ?_)
                · skip
                  refine lv_iload S.1 S.2.1 dX8_findFrom_130 (lv_at hl 6 rfl) ?_
                  refine ly_top (z := (nI (lsG sc.2.1 sc.2.2.1 (512 * (ci + 1)) (arG (sc.2.1 (512 * ci + k)) z) (if ci = n - 1 then 0 else 1000000000) (q + 1)))) (congrArg nI (lsG_2 h8 h9)) ?_
                  refine lv_istore (lv' := [(5, .int (nI (lsG sc.2.1 sc.2.2.1 (512 * (ci + 1)) (arG (sc.2.1 (512 * ci + k)) z) (if ci = n - 1 then 0 else 1000000000) (q + 1)))), (10, .int (nI ((512 * (ci + 1)) + q))), (0, .ref (a 0)), (1, .int (nI ci)), (2, .int (nI k)), (3, .int (nI z)), (4, .int (nI (512 * ci + k))), (6, .long (wyG sc.2.1 sc.2.2.2.1 (512 * (ci + 1)) (arG (sc.2.1 (512 * ci + k)) z) (if ci = n - 1 then 1 else 0) q)), (8, .int (nI (arG (sc.2.1 (512 * ci + k)) z))), (9, .int (nI q))]) S.1 S.2.1 dX8_findFrom_132 hl (by decide) rfl (fun ls hl => ?_)
                  refine lv_lload S.1 S.2.1 dX8_findFrom_134 (lv_at hl 7 rfl) ?_
                  refine lv_aload_n S.1 S.2.1 dX8_findFrom_136 rfl (lv_at hl 2 rfl) ?_
                  refine g8 S hI 0 rfl 12 (by decide) tw_619 rfl dX8_findFrom_137 ?_
                  refine lv_iload S.1 S.2.1 dX8_findFrom_140 (lv_at hl 1 rfl) ?_
                  refine ly_lald (v := (sc.2.2.2.1 ((512 * (ci + 1)) + q))) S hI 10 rfl (by omega) (by decide) rfl dX8_findFrom_142 ?_
                  refine lv_ladd S.1 S.2.1 dX8_findFrom_143 ?_
                  refine ly_topl (z := (wyG sc.2.1 sc.2.2.2.1 (512 * (ci + 1)) (arG (sc.2.1 (512 * ci + k)) z) (if ci = n - 1 then 1 else 0) (q + 1))) (wyG_1 h8) ?_
                  refine lv_lstore (lv' := [(6, .long (wyG sc.2.1 sc.2.2.2.1 (512 * (ci + 1)) (arG (sc.2.1 (512 * ci + k)) z) (if ci = n - 1 then 1 else 0) (q + 1))), (5, .int (nI (lsG sc.2.1 sc.2.2.1 (512 * (ci + 1)) (arG (sc.2.1 (512 * ci + k)) z) (if ci = n - 1 then 0 else 1000000000) (q + 1)))), (10, .int (nI ((512 * (ci + 1)) + q))), (0, .ref (a 0)), (1, .int (nI ci)), (2, .int (nI k)), (3, .int (nI z)), (4, .int (nI (512 * ci + k))), (8, .int (nI (arG (sc.2.1 (512 * ci + k)) z))), (9, .int (nI q))]) S.1 S.2.1 dX8_findFrom_144 hl (by decide) rfl (fun ls hl => ?_)
                  refine lv_iinc (v := nI (q + 1)) (lv' := [(9, .int (nI (q + 1))), (6, .long (wyG sc.2.1 sc.2.2.2.1 (512 * (ci + 1)) (arG (sc.2.1 (512 * ci + k)) z) (if ci = n - 1 then 1 else 0) (q + 1))), (5, .int (nI (lsG sc.2.1 sc.2.2.1 (512 * (ci + 1)) (arG (sc.2.1 (512 * ci + k)) z) (if ci = n - 1 then 0 else 1000000000) (q + 1)))), (10, .int (nI ((512 * (ci + 1)) + q))), (0, .ref (a 0)), (1, .int (nI ci)), (2, .int (nI k)), (3, .int (nI z)), (4, .int (nI (512 * ci + k))), (8, .int (nI (arG (sc.2.1 (512 * ci + k)) z)))]) S.1 S.2.1 dX8_findFrom_146 hl (k := 9) rfl (nJ_in _ _) (by decide) rfl (fun ls hl => ?_)
                  refine lv_goto (tgt := 60) S.1 S.2.1 dX8_findFrom_149 (by decide) ?_
                  exact ih60 (q + 1) (by omega) (by omega) _ (lv_sub hl [4, 5, 6, 7, 8, 2, 1, 9, 0] rfl)
                · skip
                  refine lv_aload_n S.1 S.2.1 dX8_findFrom_120 rfl (lv_at hl 1 rfl) ?_
                  refine g8 S hI 0 rfl 11 (by decide) tw_618 rfl dX8_findFrom_121 ?_
                  refine lv_iload S.1 S.2.1 dX8_findFrom_124 (lv_at hl 0 rfl) ?_
                  refine ly_iald (v := (nI (sc.2.2.1 ((512 * (ci + 1)) + q)))) S hI 9 rfl (by omega) (by decide) rfl dX8_findFrom_126 ?_
                  refine lv_goto (tgt := 132) S.1 S.2.1 dX8_findFrom_127 (by decide) ?_
                  refine ly_top (z := (nI (lsG sc.2.1 sc.2.2.1 (512 * (ci + 1)) (arG (sc.2.1 (512 * ci + k)) z) (if ci = n - 1 then 0 else 1000000000) (q + 1)))) (congrArg nI (lsG_1 h8 h9)) ?_
                  refine lv_istore (lv' := [(5, .int (nI (lsG sc.2.1 sc.2.2.1 (512 * (ci + 1)) (arG (sc.2.1 (512 * ci + k)) z) (if ci = n - 1 then 0 else 1000000000) (q + 1)))), (10, .int (nI ((512 * (ci + 1)) + q))), (0, .ref (a 0)), (1, .int (nI ci)), (2, .int (nI k)), (3, .int (nI z)), (4, .int (nI (512 * ci + k))), (6, .long (wyG sc.2.1 sc.2.2.2.1 (512 * (ci + 1)) (arG (sc.2.1 (512 * ci + k)) z) (if ci = n - 1 then 1 else 0) q)), (8, .int (nI (arG (sc.2.1 (512 * ci + k)) z))), (9, .int (nI q))]) S.1 S.2.1 dX8_findFrom_132 hl (by decide) rfl (fun ls hl => ?_)
                  refine lv_lload S.1 S.2.1 dX8_findFrom_134 (lv_at hl 7 rfl) ?_
                  refine lv_aload_n S.1 S.2.1 dX8_findFrom_136 rfl (lv_at hl 2 rfl) ?_
                  refine g8 S hI 0 rfl 12 (by decide) tw_619 rfl dX8_findFrom_137 ?_
                  refine lv_iload S.1 S.2.1 dX8_findFrom_140 (lv_at hl 1 rfl) ?_
                  refine ly_lald (v := (sc.2.2.2.1 ((512 * (ci + 1)) + q))) S hI 10 rfl (by omega) (by decide) rfl dX8_findFrom_142 ?_
                  refine lv_ladd S.1 S.2.1 dX8_findFrom_143 ?_
                  refine ly_topl (z := (wyG sc.2.1 sc.2.2.2.1 (512 * (ci + 1)) (arG (sc.2.1 (512 * ci + k)) z) (if ci = n - 1 then 1 else 0) (q + 1))) (wyG_1 h8) ?_
                  refine lv_lstore (lv' := [(6, .long (wyG sc.2.1 sc.2.2.2.1 (512 * (ci + 1)) (arG (sc.2.1 (512 * ci + k)) z) (if ci = n - 1 then 1 else 0) (q + 1))), (5, .int (nI (lsG sc.2.1 sc.2.2.1 (512 * (ci + 1)) (arG (sc.2.1 (512 * ci + k)) z) (if ci = n - 1 then 0 else 1000000000) (q + 1)))), (10, .int (nI ((512 * (ci + 1)) + q))), (0, .ref (a 0)), (1, .int (nI ci)), (2, .int (nI k)), (3, .int (nI z)), (4, .int (nI (512 * ci + k))), (8, .int (nI (arG (sc.2.1 (512 * ci + k)) z))), (9, .int (nI q))]) S.1 S.2.1 dX8_findFrom_144 hl (by decide) rfl (fun ls hl => ?_)
                  refine lv_iinc (v := nI (q + 1)) (lv' := [(9, .int (nI (q + 1))), (6, .long (wyG sc.2.1 sc.2.2.2.1 (512 * (ci + 1)) (arG (sc.2.1 (512 * ci + k)) z) (if ci = n - 1 then 1 else 0) (q + 1))), (5, .int (nI (lsG sc.2.1 sc.2.2.1 (512 * (ci + 1)) (arG (sc.2.1 (512 * ci + k)) z) (if ci = n - 1 then 0 else 1000000000) (q + 1)))), (10, .int (nI ((512 * (ci + 1)) + q))), (0, .ref (a 0)), (1, .int (nI ci)), (2, .int (nI k)), (3, .int (nI z)), (4, .int (nI (512 * ci + k))), (8, .int (nI (arG (sc.2.1 (512 * ci + k)) z)))]) S.1 S.2.1 dX8_findFrom_146 hl (k := 9) rfl (nJ_in _ _) (by decide) rfl (fun ls hl => ?_)
                  refine lv_goto (tgt := 60) S.1 S.2.1 dX8_findFrom_149 (by decide) ?_
                  exact ih60 (q + 1) (by omega) (by omega) _ (lv_sub hl [4, 5, 6, 7, 8, 2, 1, 9, 0] rfl)
      exact L60 _ 0 (Nat.zero_le _) (Nat.lt_succ_self _) _ (lv_sub hl [2, 3, 4, 5, 6, 7, 8, 1, 0] rfl)
    refine lv_iload_n S.1 S.2.1 dX8_findFrom_27 rfl (lv_at hl 1 rfl) ?_
    refine lv_aload_n S.1 S.2.1 dX8_findFrom_28 rfl (lv_at hl 0 rfl) ?_
    refine g8 S hI 0 rfl 1 (by decide) tw_608 rfl dX8_findFrom_29 ?_
    refine lv_iconst (v := nI 1) S.1 S.2.1 dX8_findFrom_32 (by decide) ?_
    refine lv_isub S.1 S.2.1 dX8_findFrom_33 ?_
    refine ly_top (z := nI (n - 1)) (pk_sub (by omega)) ?_
    refine ly_cmne (tgt := 41) S (nI_e2 (by omega) (by omega)) (nI_e1 (by omega) (by omega)) dX8_findFrom_34 (by decide) (fun h10 => ?_) (fun h10 => ?_)
    · skip
      refine lv_lconst (v := 0) S.1 S.2.1 dX8_findFrom_41 (by decide) ?_
      refine ly_topl (z := (if ci = n - 1 then 1 else 0)) (by rw [if_neg h10]) ?_
      refine lv_lstore (lv' := [(6, .long (if ci = n - 1 then 1 else 0)), (0, .ref (a 0)), (1, .int (nI ci)), (2, .int (nI k)), (3, .int (nI z)), (4, .int (nI (512 * ci + k))), (5, .int (nI (if ci = n - 1 then 0 else 1000000000)))]) S.1 S.2.1 dX8_findFrom_42 hl (by decide) rfl (fun ls hl => ?_)
      exact J44  _ (lv_sub hl [1, 2, 3, 4, 5, 6, 0] rfl)
    · skip
      refine lv_lconst (v := 1) S.1 S.2.1 dX8_findFrom_37 (by decide) ?_
      refine lv_goto (tgt := 42) S.1 S.2.1 dX8_findFrom_38 (by decide) ?_
      refine ly_topl (z := (if ci = n - 1 then 1 else 0)) (by rw [if_pos h10]) ?_
      refine lv_lstore (lv' := [(6, .long (if ci = n - 1 then 1 else 0)), (0, .ref (a 0)), (1, .int (nI ci)), (2, .int (nI k)), (3, .int (nI z)), (4, .int (nI (512 * ci + k))), (5, .int (nI (if ci = n - 1 then 0 else 1000000000)))]) S.1 S.2.1 dX8_findFrom_42 hl (by decide) rfl (fun ls hl => ?_)
      exact J44  _ (lv_sub hl [1, 2, 3, 4, 5, 6, 0] rfl)
  refine lv_iload_n S.1 S.2.1 dX8_findFrom_9 rfl (lv_at hl 2 rfl) ?_
  refine lv_aload_n S.1 S.2.1 dX8_findFrom_10 rfl (lv_at hl 1 rfl) ?_
  refine g8 S hI 0 rfl 1 (by decide) tw_608 rfl dX8_findFrom_11 ?_
  refine lv_iconst (v := nI 1) S.1 S.2.1 dX8_findFrom_14 (by decide) ?_
  refine lv_isub S.1 S.2.1 dX8_findFrom_15 ?_
  refine ly_top (z := nI (n - 1)) (pk_sub (by omega)) ?_
  refine ly_cmne (tgt := 23) S (nI_e2 (by omega) (by omega)) (nI_e1 (by omega) (by omega)) dX8_findFrom_16 (by decide) (fun h11 => ?_) (fun h11 => ?_)
  · skip
    refine lv_ldc S.1 S.2.1 S.2.2.2.1 (S.2.2.2.2 _ tw_764) dX8_findFrom_23 ?_
    refine ly_top (z := nI 1000000000) (by decide) ?_
    refine ly_top (z := (nI (if ci = n - 1 then 0 else 1000000000))) (by rw [if_neg h11]) ?_
    refine lv_istore (lv' := [(5, .int (nI (if ci = n - 1 then 0 else 1000000000))), (4, .int (nI (512 * ci + k))), (0, .ref (a 0)), (1, .int (nI ci)), (2, .int (nI k)), (3, .int (nI z))]) S.1 S.2.1 dX8_findFrom_25 hl (by decide) rfl (fun ls hl => ?_)
    exact J27  _ (lv_sub hl [2, 3, 4, 5, 1, 0] rfl)
  · skip
    refine lv_iconst (v := nI 0) S.1 S.2.1 dX8_findFrom_19 (by decide) ?_
    refine lv_goto (tgt := 25) S.1 S.2.1 dX8_findFrom_20 (by decide) ?_
    refine ly_top (z := (nI (if ci = n - 1 then 0 else 1000000000))) (by rw [if_pos h11]) ?_
    refine lv_istore (lv' := [(5, .int (nI (if ci = n - 1 then 0 else 1000000000))), (4, .int (nI (512 * ci + k))), (0, .ref (a 0)), (1, .int (nI ci)), (2, .int (nI k)), (3, .int (nI z))]) S.1 S.2.1 dX8_findFrom_25 hl (by decide) rfl (fun ls hl => ?_)
    exact J27  _ (lv_sub hl [2, 3, 4, 5, 1, 0] rfl)
theorem kX8_findFrom {p : Program} {l : Launch} {e : Env} {R : Room} {s : State} {m : MethodId} {args : Array Value} {below : List Frame} {meth : Method} {c : Code} {H H0 : Heap} {locs : List Loc} {cells slots : Nat} {Q : State → Prop} {cc : ByteArray} {nL index pc : Nat} {own : String} {ls : Array Slot} {rest : List Value} {D : va_G} {K : Nat → ClassId} {a : Nat → Nat} {w n lap : Nat} {op mu ba la en : Nat → Nat} {pr : Nat → Option Nat} {sc : MSc} {ci : Nat} {k : Nat} {z : Nat} (S : CallFix p m c cc nL s args lw_tb own) (hI : PI D K (mW K a w n lap op mu ba la en pr sc) s H) (hS : va_S (adA a 13) H0 H locs) (hDis : Dis a 13) (hG : GOK w n lap op mu ba la en pr) (hci : ci < n) (hk : k < 512) (hz1 : 1 ≤ z) (hz2 : z ≤ 3) (hsc : SOK sc) (hlink : Cond.methodLink own index yX8_findFrom ∈ lw_tb) (hR : RO 4 R cells slots) (hsz : ls.size = nL) (hW : (rest.map fun v => v.category).sum ≤ 8) (hdg : decode cc pc = .ok (.invokevirtual index, 3)) (kk : ∀ (u : MSc) (H1 : Heap) (locs1 : List Loc), u = (sc.1, sc.2.1, va_up sc.2.2.1 (512 * ci + k) (ffV pr w op n z ci k sc), va_up sc.2.2.2.1 (512 * ci + k) (ffW n z ci k sc), sc.2.2.2.2.1, sc.2.2.2.2.2) → PI D K (mW K a w n lap op mu ba la en pr u) s H1 → va_S (adA a 13) H0 H1 locs1 → H.size ≤ H1.size → (∀ q : Nat, q < H.size → ¬ (adA a 13) q → H1[q]? = H[q]?) → W p l e R s m args below meth c H1 locs1 cells slots Q (F0 m (pc + 3) ls (rest))) : W p l e R s m args below meth c H locs cells slots Q (F0 m pc ls (.int (nI z) :: .int (nI k) :: .int (nI ci) :: .ref (a 0) :: rest)) :=
  kVX (As := [.int (nI ci), .int (nI k), .int (nI z)]) (b := a 0) S (mX8_findFrom l hDis hG hci hk hz1 hz2 hsc) hlink tw_762 tw_30 tw_50 tw_763 (by show _ ∧ _ ∧ _ = some 3; decide +kernel) (by decide) hR blP (piU hI) (va_recv hI.2 hI.1 (ci := 8) (q0 := 0) rfl rfl) hS (fun _ h => h) hsz rfl hW hdg kk
end
