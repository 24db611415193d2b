-- ===== PART A: goes FIRST, ahead of the names: the tables' words, and 'selects' of the private methods out of them =====
/-- a private method of a class that the tables say can be made, by its rows of tables_1 -/
def lw_okq (q : MethodName × Nat) : Prop := (q.1.cls ≠ "java/lang/invoke/MethodHandle" ∧ q.1.cls ≠ "java/lang/invoke/VarHandle") ∧ Cond.instantiable q.1.cls q.2 ∈ tables_1 ∧ Cond.privateMethod q.1 ∈ tables_1 ∧ Cond.instanceMethod q.1 ∈ tables_1
theorem lw_p0 : lw_okq (⟨"BondedWall", "forgetWhatCanBe", "()V"⟩, 5) := ⟨⟨by decide +kernel, by decide +kernel⟩, List.mem_of_getElem? (i := 15) (by decide +kernel), List.mem_of_getElem? (i := 216) (by decide +kernel), List.mem_of_getElem? (i := 217) (by decide +kernel)⟩
theorem lw_p1 : lw_okq (⟨"BondedWall", "spansOf", "(LBondedWall$Course;)I"⟩, 5) := ⟨⟨by decide +kernel, by decide +kernel⟩, List.mem_of_getElem? (i := 15) (by decide +kernel), List.mem_of_getElem? (i := 289) (by decide +kernel), List.mem_of_getElem? (i := 290) (by decide +kernel)⟩
theorem lw_p2 : lw_okq (⟨"BondedWall$Wall", "bounds", "(LBondedWall$Course;I)I"⟩, 6) := ⟨⟨by decide +kernel, by decide +kernel⟩, List.mem_of_getElem? (i := 23) (by decide +kernel), List.mem_of_getElem? (i := 304) (by decide +kernel), List.mem_of_getElem? (i := 305) (by decide +kernel)⟩
theorem lw_p3 : lw_okq (⟨"BondedWall$Rows", "sumLeftOfHighest", "(I[I)V"⟩, 3) := ⟨⟨by decide +kernel, by decide +kernel⟩, List.mem_of_getElem? (i := 108) (by decide +kernel), List.mem_of_getElem? (i := 332) (by decide +kernel), List.mem_of_getElem? (i := 333) (by decide +kernel)⟩
theorem lw_p4 : lw_okq (⟨"BondedWall$Wall", "ruleBrokenByPiece", "(III)I"⟩, 6) := ⟨⟨by decide +kernel, by decide +kernel⟩, List.mem_of_getElem? (i := 23) (by decide +kernel), List.mem_of_getElem? (i := 344) (by decide +kernel), List.mem_of_getElem? (i := 345) (by decide +kernel)⟩
theorem lw_p5 : lw_okq (⟨"BondedWall$Rows", "closeRight", "(I[I)V"⟩, 3) := ⟨⟨by decide +kernel, by decide +kernel⟩, List.mem_of_getElem? (i := 108) (by decide +kernel), List.mem_of_getElem? (i := 358) (by decide +kernel), List.mem_of_getElem? (i := 359) (by decide +kernel)⟩
theorem lw_p6 : lw_okq (⟨"BondedWall$Count", "addCourse", "(II)J"⟩, 7) := ⟨⟨by decide +kernel, by decide +kernel⟩, List.mem_of_getElem? (i := 125) (by decide +kernel), List.mem_of_getElem? (i := 401) (by decide +kernel), List.mem_of_getElem? (i := 402) (by decide +kernel)⟩
theorem lw_p7 : lw_okq (⟨"BondedWall$Count", "sumSubsets", "(I)V"⟩, 7) := ⟨⟨by decide +kernel, by decide +kernel⟩, List.mem_of_getElem? (i := 125) (by decide +kernel), List.mem_of_getElem? (i := 418) (by decide +kernel), List.mem_of_getElem? (i := 419) (by decide +kernel)⟩
theorem lw_p8 : lw_okq (⟨"BondedWall$Plan", "weighCourse", "(I[II)V"⟩, 7) := ⟨⟨by decide +kernel, by decide +kernel⟩, List.mem_of_getElem? (i := 156) (by decide +kernel), List.mem_of_getElem? (i := 433) (by decide +kernel), List.mem_of_getElem? (i := 434) (by decide +kernel)⟩
theorem lw_p9 : lw_okq (⟨"BondedWall$Plan", "takeLeastOfSubsets", "(I)V"⟩, 7) := ⟨⟨by decide +kernel, by decide +kernel⟩, List.mem_of_getElem? (i := 156) (by decide +kernel), List.mem_of_getElem? (i := 442) (by decide +kernel), List.mem_of_getElem? (i := 443) (by decide +kernel)⟩
theorem lw_p10 : lw_okq (⟨"BondedWall$Plan", "choose", "(I)V"⟩, 7) := ⟨⟨by decide +kernel, by decide +kernel⟩, List.mem_of_getElem? (i := 156) (by decide +kernel), List.mem_of_getElem? (i := 446) (by decide +kernel), List.mem_of_getElem? (i := 447) (by decide +kernel)⟩
theorem lw_p11 : lw_okq (⟨"BondedWall$Plan", "cheapest", "([II)I"⟩, 7) := ⟨⟨by decide +kernel, by decide +kernel⟩, List.mem_of_getElem? (i := 156) (by decide +kernel), List.mem_of_getElem? (i := 450) (by decide +kernel), List.mem_of_getElem? (i := 451) (by decide +kernel)⟩
theorem lw_p12 : lw_okq (⟨"BondedWall$Wall", "ruleBrokenByPieces", "(II)I"⟩, 6) := ⟨⟨by decide +kernel, by decide +kernel⟩, List.mem_of_getElem? (i := 23) (by decide +kernel), List.mem_of_getElem? (i := 500) (by decide +kernel), List.mem_of_getElem? (i := 501) (by decide +kernel)⟩
theorem lw_p13 : lw_okq (⟨"BondedWall", "tallyLaid", "()V"⟩, 5) := ⟨⟨by decide +kernel, by decide +kernel⟩, List.mem_of_getElem? (i := 15) (by decide +kernel), List.mem_of_getElem? (i := 509) (by decide +kernel), List.mem_of_getElem? (i := 510) (by decide +kernel)⟩
theorem lw_p14 : lw_okq (⟨"BondedWall", "openCells", "()I"⟩, 5) := ⟨⟨by decide +kernel, by decide +kernel⟩, List.mem_of_getElem? (i := 15) (by decide +kernel), List.mem_of_getElem? (i := 547) (by decide +kernel), List.mem_of_getElem? (i := 548) (by decide +kernel)⟩
theorem lw_p15 : lw_okq (⟨"BondedWall", "laidJoints", "()I"⟩, 5) := ⟨⟨by decide +kernel, by decide +kernel⟩, List.mem_of_getElem? (i := 15) (by decide +kernel), List.mem_of_getElem? (i := 557) (by decide +kernel), List.mem_of_getElem? (i := 558) (by decide +kernel)⟩
def lw_privs_1 : List (MethodName × Nat) := [(⟨"BondedWall", "forgetWhatCanBe", "()V"⟩, 5), (⟨"BondedWall", "spansOf", "(LBondedWall$Course;)I"⟩, 5), (⟨"BondedWall$Wall", "bounds", "(LBondedWall$Course;I)I"⟩, 6), (⟨"BondedWall$Rows", "sumLeftOfHighest", "(I[I)V"⟩, 3), (⟨"BondedWall$Wall", "ruleBrokenByPiece", "(III)I"⟩, 6), (⟨"BondedWall$Rows", "closeRight", "(I[I)V"⟩, 3), (⟨"BondedWall$Count", "addCourse", "(II)J"⟩, 7), (⟨"BondedWall$Count", "sumSubsets", "(I)V"⟩, 7), (⟨"BondedWall$Plan", "weighCourse", "(I[II)V"⟩, 7), (⟨"BondedWall$Plan", "takeLeastOfSubsets", "(I)V"⟩, 7), (⟨"BondedWall$Plan", "choose", "(I)V"⟩, 7), (⟨"BondedWall$Plan", "cheapest", "([II)I"⟩, 7), (⟨"BondedWall$Wall", "ruleBrokenByPieces", "(II)I"⟩, 6), (⟨"BondedWall", "tallyLaid", "()V"⟩, 5), (⟨"BondedWall", "openCells", "()I"⟩, 5), (⟨"BondedWall", "laidJoints", "()I"⟩, 5)]
theorem lw_r1 : ∀ q ∈ lw_privs_1, lw_okq q := List.forall_mem_cons.mpr ⟨lw_p0, List.forall_mem_cons.mpr ⟨lw_p1, List.forall_mem_cons.mpr ⟨lw_p2, List.forall_mem_cons.mpr ⟨lw_p3, List.forall_mem_cons.mpr ⟨lw_p4, List.forall_mem_cons.mpr ⟨lw_p5, List.forall_mem_cons.mpr ⟨lw_p6, List.forall_mem_cons.mpr ⟨lw_p7, List.forall_mem_cons.mpr ⟨lw_p8, List.forall_mem_cons.mpr ⟨lw_p9, List.forall_mem_cons.mpr ⟨lw_p10, List.forall_mem_cons.mpr ⟨lw_p11, List.forall_mem_cons.mpr ⟨lw_p12, List.forall_mem_cons.mpr ⟨lw_p13, List.forall_mem_cons.mpr ⟨lw_p14, List.forall_mem_cons.mpr ⟨lw_p15, fun _ h => absurd h List.not_mem_nil⟩⟩⟩⟩⟩⟩⟩⟩⟩⟩⟩⟩⟩⟩⟩⟩
theorem lw_p16 : lw_okq (⟨"BondedWallModel", "isCourse", "(I)Z"⟩, 15) := ⟨⟨by decide +kernel, by decide +kernel⟩, List.mem_of_getElem? (i := 561) (by decide +kernel), List.mem_of_getElem? (i := 633) (by decide +kernel), List.mem_of_getElem? (i := 634) (by decide +kernel)⟩
theorem lw_p17 : lw_okq (⟨"BondedWallModel", "arePlaces", "(I)Z"⟩, 15) := ⟨⟨by decide +kernel, by decide +kernel⟩, List.mem_of_getElem? (i := 561) (by decide +kernel), List.mem_of_getElem? (i := 641) (by decide +kernel), List.mem_of_getElem? (i := 642) (by decide +kernel)⟩
theorem lw_p18 : lw_okq (⟨"BondedWallModel", "spansOf", "(I)I"⟩, 15) := ⟨⟨by decide +kernel, by decide +kernel⟩, List.mem_of_getElem? (i := 561) (by decide +kernel), List.mem_of_getElem? (i := 661) (by decide +kernel), List.mem_of_getElem? (i := 662) (by decide +kernel)⟩
theorem lw_p19 : lw_okq (⟨"BondedWallModel", "findRows", "(I)V"⟩, 15) := ⟨⟨by decide +kernel, by decide +kernel⟩, List.mem_of_getElem? (i := 561) (by decide +kernel), List.mem_of_getElem? (i := 672) (by decide +kernel), List.mem_of_getElem? (i := 673) (by decide +kernel)⟩
theorem lw_p20 : lw_okq (⟨"BondedWallModel", "ruleOf", "(II)I"⟩, 15) := ⟨⟨by decide +kernel, by decide +kernel⟩, List.mem_of_getElem? (i := 561) (by decide +kernel), List.mem_of_getElem? (i := 676) (by decide +kernel), List.mem_of_getElem? (i := 677) (by decide +kernel)⟩
theorem lw_p21 : lw_okq (⟨"BondedWallModel", "isWithin", "(II)Z"⟩, 15) := ⟨⟨by decide +kernel, by decide +kernel⟩, List.mem_of_getElem? (i := 561) (by decide +kernel), List.mem_of_getElem? (i := 680) (by decide +kernel), List.mem_of_getElem? (i := 681) (by decide +kernel)⟩
theorem lw_p22 : lw_okq (⟨"BondedWallModel", "somePiece", "(III)Z"⟩, 15) := ⟨⟨by decide +kernel, by decide +kernel⟩, List.mem_of_getElem? (i := 561) (by decide +kernel), List.mem_of_getElem? (i := 684) (by decide +kernel), List.mem_of_getElem? (i := 685) (by decide +kernel)⟩
theorem lw_p23 : lw_okq (⟨"BondedWallModel", "begins", "(III)Z"⟩, 15) := ⟨⟨by decide +kernel, by decide +kernel⟩, List.mem_of_getElem? (i := 561) (by decide +kernel), List.mem_of_getElem? (i := 688) (by decide +kernel), List.mem_of_getElem? (i := 689) (by decide +kernel)⟩
theorem lw_p24 : lw_okq (⟨"BondedWallModel", "lengthFrom", "(III)I"⟩, 15) := ⟨⟨by decide +kernel, by decide +kernel⟩, List.mem_of_getElem? (i := 561) (by decide +kernel), List.mem_of_getElem? (i := 692) (by decide +kernel), List.mem_of_getElem? (i := 693) (by decide +kernel)⟩
theorem lw_p25 : lw_okq (⟨"BondedWallModel", "breaks", "(IIII)Z"⟩, 15) := ⟨⟨by decide +kernel, by decide +kernel⟩, List.mem_of_getElem? (i := 561) (by decide +kernel), List.mem_of_getElem? (i := 696) (by decide +kernel), List.mem_of_getElem? (i := 697) (by decide +kernel)⟩
theorem lw_p26 : lw_okq (⟨"BondedWallModel", "isPriced", "(I)Z"⟩, 15) := ⟨⟨by decide +kernel, by decide +kernel⟩, List.mem_of_getElem? (i := 561) (by decide +kernel), List.mem_of_getElem? (i := 700) (by decide +kernel), List.mem_of_getElem? (i := 701) (by decide +kernel)⟩
theorem lw_p27 : lw_okq (⟨"BondedWallModel", "areEnds", "(II)Z"⟩, 15) := ⟨⟨by decide +kernel, by decide +kernel⟩, List.mem_of_getElem? (i := 561) (by decide +kernel), List.mem_of_getElem? (i := 704) (by decide +kernel), List.mem_of_getElem? (i := 705) (by decide +kernel)⟩
theorem lw_p28 : lw_okq (⟨"BondedWallModel", "firstOf", "(III)I"⟩, 15) := ⟨⟨by decide +kernel, by decide +kernel⟩, List.mem_of_getElem? (i := 561) (by decide +kernel), List.mem_of_getElem? (i := 708) (by decide +kernel), List.mem_of_getElem? (i := 709) (by decide +kernel)⟩
theorem lw_p29 : lw_okq (⟨"BondedWallModel", "findAll", "(I)V"⟩, 15) := ⟨⟨by decide +kernel, by decide +kernel⟩, List.mem_of_getElem? (i := 561) (by decide +kernel), List.mem_of_getElem? (i := 716) (by decide +kernel), List.mem_of_getElem? (i := 717) (by decide +kernel)⟩
theorem lw_p30 : lw_okq (⟨"BondedWallModel", "findFrom", "(III)V"⟩, 15) := ⟨⟨by decide +kernel, by decide +kernel⟩, List.mem_of_getElem? (i := 561) (by decide +kernel), List.mem_of_getElem? (i := 720) (by decide +kernel), List.mem_of_getElem? (i := 721) (by decide +kernel)⟩
theorem lw_p31 : lw_okq (⟨"BondedWallModel", "costOf", "(II)I"⟩, 15) := ⟨⟨by decide +kernel, by decide +kernel⟩, List.mem_of_getElem? (i := 561) (by decide +kernel), List.mem_of_getElem? (i := 728) (by decide +kernel), List.mem_of_getElem? (i := 729) (by decide +kernel)⟩
def lw_privs_2 : List (MethodName × Nat) := [(⟨"BondedWallModel", "isCourse", "(I)Z"⟩, 15), (⟨"BondedWallModel", "arePlaces", "(I)Z"⟩, 15), (⟨"BondedWallModel", "spansOf", "(I)I"⟩, 15), (⟨"BondedWallModel", "findRows", "(I)V"⟩, 15), (⟨"BondedWallModel", "ruleOf", "(II)I"⟩, 15), (⟨"BondedWallModel", "isWithin", "(II)Z"⟩, 15), (⟨"BondedWallModel", "somePiece", "(III)Z"⟩, 15), (⟨"BondedWallModel", "begins", "(III)Z"⟩, 15), (⟨"BondedWallModel", "lengthFrom", "(III)I"⟩, 15), (⟨"BondedWallModel", "breaks", "(IIII)Z"⟩, 15), (⟨"BondedWallModel", "isPriced", "(I)Z"⟩, 15), (⟨"BondedWallModel", "areEnds", "(II)Z"⟩, 15), (⟨"BondedWallModel", "firstOf", "(III)I"⟩, 15), (⟨"BondedWallModel", "findAll", "(I)V"⟩, 15), (⟨"BondedWallModel", "findFrom", "(III)V"⟩, 15), (⟨"BondedWallModel", "costOf", "(II)I"⟩, 15)]
theorem lw_r2 : ∀ q ∈ lw_privs_2, lw_okq q := List.forall_mem_cons.mpr ⟨lw_p16, List.forall_mem_cons.mpr ⟨lw_p17, List.forall_mem_cons.mpr ⟨lw_p18, List.forall_mem_cons.mpr ⟨lw_p19, List.forall_mem_cons.mpr ⟨lw_p20, List.forall_mem_cons.mpr ⟨lw_p21, List.forall_mem_cons.mpr ⟨lw_p22, List.forall_mem_cons.mpr ⟨lw_p23, List.forall_mem_cons.mpr ⟨lw_p24, List.forall_mem_cons.mpr ⟨lw_p25, List.forall_mem_cons.mpr ⟨lw_p26, List.forall_mem_cons.mpr ⟨lw_p27, List.forall_mem_cons.mpr ⟨lw_p28, List.forall_mem_cons.mpr ⟨lw_p29, List.forall_mem_cons.mpr ⟨lw_p30, List.forall_mem_cons.mpr ⟨lw_p31, fun _ h => absurd h List.not_mem_nil⟩⟩⟩⟩⟩⟩⟩⟩⟩⟩⟩⟩⟩⟩⟩⟩
theorem lw_p32 : lw_okq (⟨"BondedWallModel", "leastCost", "(I)I"⟩, 15) := ⟨⟨by decide +kernel, by decide +kernel⟩, List.mem_of_getElem? (i := 561) (by decide +kernel), List.mem_of_getElem? (i := 736) (by decide +kernel), List.mem_of_getElem? (i := 737) (by decide +kernel)⟩
theorem lw_p33 : lw_okq (⟨"BondedWallModel", "hasBest", "()Z"⟩, 15) := ⟨⟨by decide +kernel, by decide +kernel⟩, List.mem_of_getElem? (i := 561) (by decide +kernel), List.mem_of_getElem? (i := 744) (by decide +kernel), List.mem_of_getElem? (i := 745) (by decide +kernel)⟩
theorem lw_p34 : lw_okq (⟨"BondedWallModel", "piecesIn", "(III)I"⟩, 15) := ⟨⟨by decide +kernel, by decide +kernel⟩, List.mem_of_getElem? (i := 561) (by decide +kernel), List.mem_of_getElem? (i := 752) (by decide +kernel), List.mem_of_getElem? (i := 753) (by decide +kernel)⟩
theorem lw_p35 : lw_okq (⟨"BondedWallModel", "reaches", "(I)Z"⟩, 15) := ⟨⟨by decide +kernel, by decide +kernel⟩, List.mem_of_getElem? (i := 561) (by decide +kernel), List.mem_of_getElem? (i := 760) (by decide +kernel), List.mem_of_getElem? (i := 761) (by decide +kernel)⟩
theorem lw_p36 : lw_okq (⟨"BondedWallModel", "laidCost", "()I"⟩, 15) := ⟨⟨by decide +kernel, by decide +kernel⟩, List.mem_of_getElem? (i := 561) (by decide +kernel), List.mem_of_getElem? (i := 776) (by decide +kernel), List.mem_of_getElem? (i := 777) (by decide +kernel)⟩
theorem lw_p37 : lw_okq (⟨"BondedWallModel", "laidRule", "(I)I"⟩, 15) := ⟨⟨by decide +kernel, by decide +kernel⟩, List.mem_of_getElem? (i := 561) (by decide +kernel), List.mem_of_getElem? (i := 784) (by decide +kernel), List.mem_of_getElem? (i := 785) (by decide +kernel)⟩
theorem lw_p38 : lw_okq (⟨"BondedWallModel", "laidPieces", "(I)I"⟩, 15) := ⟨⟨by decide +kernel, by decide +kernel⟩, List.mem_of_getElem? (i := 561) (by decide +kernel), List.mem_of_getElem? (i := 796) (by decide +kernel), List.mem_of_getElem? (i := 797) (by decide +kernel)⟩
theorem lw_p39 : lw_okq (⟨"BondedWallModel", "sumOf", "([I)I"⟩, 15) := ⟨⟨by decide +kernel, by decide +kernel⟩, List.mem_of_getElem? (i := 561) (by decide +kernel), List.mem_of_getElem? (i := 812) (by decide +kernel), List.mem_of_getElem? (i := 813) (by decide +kernel)⟩
theorem lw_p40 : lw_okq (⟨"BondedWallModel", "allPieces", "()I"⟩, 15) := ⟨⟨by decide +kernel, by decide +kernel⟩, List.mem_of_getElem? (i := 561) (by decide +kernel), List.mem_of_getElem? (i := 819) (by decide +kernel), List.mem_of_getElem? (i := 820) (by decide +kernel)⟩
def lw_privs_3 : List (MethodName × Nat) := [(⟨"BondedWallModel", "leastCost", "(I)I"⟩, 15), (⟨"BondedWallModel", "hasBest", "()Z"⟩, 15), (⟨"BondedWallModel", "piecesIn", "(III)I"⟩, 15), (⟨"BondedWallModel", "reaches", "(I)Z"⟩, 15), (⟨"BondedWallModel", "laidCost", "()I"⟩, 15), (⟨"BondedWallModel", "laidRule", "(I)I"⟩, 15), (⟨"BondedWallModel", "laidPieces", "(I)I"⟩, 15), (⟨"BondedWallModel", "sumOf", "([I)I"⟩, 15), (⟨"BondedWallModel", "allPieces", "()I"⟩, 15)]
theorem lw_r3 : ∀ q ∈ lw_privs_3, lw_okq q := List.forall_mem_cons.mpr ⟨lw_p32, List.forall_mem_cons.mpr ⟨lw_p33, List.forall_mem_cons.mpr ⟨lw_p34, List.forall_mem_cons.mpr ⟨lw_p35, List.forall_mem_cons.mpr ⟨lw_p36, List.forall_mem_cons.mpr ⟨lw_p37, List.forall_mem_cons.mpr ⟨lw_p38, List.forall_mem_cons.mpr ⟨lw_p39, List.forall_mem_cons.mpr ⟨lw_p40, fun _ h => absurd h List.not_mem_nil⟩⟩⟩⟩⟩⟩⟩⟩⟩
def lw_privs : List (MethodName × Nat) := lw_privs_1 ++ (lw_privs_2 ++ (lw_privs_3))
def lw_tbl : List Cond := k2_sels lw_privs ++ tables_1
theorem lw_privs_ok : ∀ q ∈ lw_privs, lw_okq q := by
  show ∀ q ∈ lw_privs_1 ++ (lw_privs_2 ++ (lw_privs_3)), lw_okq q
  exact List.forall_mem_append.mpr ⟨lw_r1, List.forall_mem_append.mpr ⟨lw_r2, lw_r3⟩⟩
def RX0 : String := "BondedWall$Bricks"
def TX0 : u_T := fun k => match k with
  | 0 => ("BondedWall$Bricks", "prices", "[I", true)
  | _ => ("BondedWall$Bricks", "endLengths", "[[I", true)
def tyX0 : Nat → FieldType := fun k => match k with
  | 0 => .array .int
  | _ => .array (.array .int)
abbrev wsX00 : List Cond := u_ws RX0 TX0 2
theorem nmX0 : ∀ a, a < 2 → ∀ b, b < 2 → a ≠ b → (TX0 a).2.1 ≠ (TX0 b).2.1 := by decide +kernel
theorem tyX0_ok : ∀ k, k < 2 → parseFieldDescriptor (TX0 k).2.2.1 = some (tyX0 k) := by decide +kernel
abbrev cX0_init : ByteArray := prog_2_method_1_code
def yX0_init : MethodName := ⟨RX0, "<init>", "()V"⟩
abbrev cX0_priceOf : ByteArray := prog_2_method_2_code
def yX0_priceOf : MethodName := ⟨RX0, "priceOf", "(I)I"⟩
abbrev cX0_mayEnd : ByteArray := prog_2_method_3_code
def yX0_mayEnd : MethodName := ⟨RX0, "mayEnd", "(III)Z"⟩
def RX1 : String := "BondedWall$Count"
def TX1 : u_T := fun k => match k with
  | 0 => ("BondedWall$Count", "wall", "LBondedWall$Wall;", true)
  | 1 => ("BondedWall$Count", "rows", "LBondedWall$Rows;", true)
  | 2 => ("BondedWall$Count", "within", "[J", true)
  | 3 => ("BondedWall$Count", "just", "[J", true)
  | 4 => ("BondedWall$Count", "countedLap", "I", false)
  | 5 => ("BondedWall$Count", "rightWalls", "J", false)
  | _ => ("BondedWall$Count", "rightCourses", "I", false)
def tyX1 : Nat → FieldType := fun k => match k with
  | 0 => .object "BondedWall$Wall"
  | 1 => .object "BondedWall$Rows"
  | 2 => .array .long
  | 3 => .array .long
  | 4 => .int
  | 5 => .long
  | _ => .int
abbrev wsX10 : List Cond := u_ws RX1 TX1 7
theorem nmX1 : ∀ a, a < 7 → ∀ b, b < 7 → a ≠ b → (TX1 a).2.1 ≠ (TX1 b).2.1 := by decide +kernel
theorem tyX1_ok : ∀ k, k < 7 → parseFieldDescriptor (TX1 k).2.2.1 = some (tyX1 k) := by decide +kernel
abbrev cX1_init : ByteArray := prog_3_method_1_code
def yX1_init : MethodName := ⟨RX1, "<init>", "(LBondedWall$Wall;LBondedWall$Rows;)V"⟩
abbrev cX1_forget : ByteArray := prog_3_method_2_code
def yX1_forget : MethodName := ⟨RX1, "forget", "()V"⟩
abbrev cX1_renew : ByteArray := prog_3_method_3_code
def yX1_renew : MethodName := ⟨RX1, "renew", "(I)V"⟩
abbrev cX1_addCourse : ByteArray := prog_3_method_4_code
def yX1_addCourse : MethodName := ⟨RX1, "addCourse", "(II)J"⟩
abbrev cX1_sumSubsets : ByteArray := prog_3_method_5_code
def yX1_sumSubsets : MethodName := ⟨RX1, "sumSubsets", "(I)V"⟩
def RX2 : String := "BondedWall$Course"
def TX2 : u_T := fun k => match k with
  | 0 => ("BondedWall$Course", "opened", "I", false)
  | 1 => ("BondedWall$Course", "demanded", "I", false)
  | 2 => ("BondedWall$Course", "barred", "I", false)
  | _ => ("BondedWall$Course", "laid", "I", false)
def tyX2 : Nat → FieldType := fun k => match k with
  | 0 => .int
  | 1 => .int
  | 2 => .int
  | _ => .int
abbrev wsX20 : List Cond := u_ws RX2 TX2 4
theorem nmX2 : ∀ a, a < 4 → ∀ b, b < 4 → a ≠ b → (TX2 a).2.1 ≠ (TX2 b).2.1 := by decide +kernel
theorem tyX2_ok : ∀ k, k < 4 → parseFieldDescriptor (TX2 k).2.2.1 = some (tyX2 k) := by decide +kernel
abbrev cX2_init : ByteArray := prog_4_method_1_code
def yX2_init : MethodName := ⟨RX2, "<init>", "()V"⟩
abbrev cX2_clear : ByteArray := prog_4_method_2_code
def yX2_clear : MethodName := ⟨RX2, "clear", "()V"⟩
abbrev cX2_isOpen : ByteArray := prog_4_method_3_code
def yX2_isOpen : MethodName := ⟨RX2, "isOpen", "(I)Z"⟩
abbrev cX2_besideOpen : ByteArray := prog_4_method_4_code
def yX2_besideOpen : MethodName := ⟨RX2, "besideOpen", "()I"⟩
abbrev cX2_keepsWithinSpans : ByteArray := prog_4_method_5_code
def yX2_keepsWithinSpans : MethodName := ⟨RX2, "keepsWithinSpans", "(I)Z"⟩
abbrev cX2_keepsDemands : ByteArray := prog_4_method_6_code
def yX2_keepsDemands : MethodName := ⟨RX2, "keepsDemands", "(I)Z"⟩
def RX3 : String := "BondedWall$Plan"
def TX3 : u_T := fun k => match k with
  | 0 => ("BondedWall$Plan", "wall", "LBondedWall$Wall;", true)
  | 1 => ("BondedWall$Plan", "rows", "LBondedWall$Rows;", true)
  | 2 => ("BondedWall$Plan", "just", "[[I", true)
  | 3 => ("BondedWall$Plan", "within", "[I", true)
  | 4 => ("BondedWall$Plan", "chosen", "[I", true)
  | 5 => ("BondedWall$Plan", "plannedLap", "I", false)
  | _ => ("BondedWall$Plan", "leastCost", "I", false)
def tyX3 : Nat → FieldType := fun k => match k with
  | 0 => .object "BondedWall$Wall"
  | 1 => .object "BondedWall$Rows"
  | 2 => .array (.array .int)
  | 3 => .array .int
  | 4 => .array .int
  | 5 => .int
  | _ => .int
abbrev wsX30 : List Cond := u_ws RX3 TX3 7
theorem nmX3 : ∀ a, a < 7 → ∀ b, b < 7 → a ≠ b → (TX3 a).2.1 ≠ (TX3 b).2.1 := by decide +kernel
theorem tyX3_ok : ∀ k, k < 7 → parseFieldDescriptor (TX3 k).2.2.1 = some (tyX3 k) := by decide +kernel
abbrev cX3_init : ByteArray := prog_5_method_1_code
def yX3_init : MethodName := ⟨RX3, "<init>", "(LBondedWall$Wall;LBondedWall$Rows;)V"⟩
abbrev cX3_forget : ByteArray := prog_5_method_2_code
def yX3_forget : MethodName := ⟨RX3, "forget", "()V"⟩
abbrev cX3_isNone : ByteArray := prog_5_method_3_code
def yX3_isNone : MethodName := ⟨RX3, "isNone", "()Z"⟩
abbrev cX3_jointsOf : ByteArray := prog_5_method_4_code
def yX3_jointsOf : MethodName := ⟨RX3, "jointsOf", "(I)I"⟩
abbrev cX3_renew : ByteArray := prog_5_method_5_code
def yX3_renew : MethodName := ⟨RX3, "renew", "(I)V"⟩
abbrev cX3_weighCourse : ByteArray := prog_5_method_6_code
def yX3_weighCourse : MethodName := ⟨RX3, "weighCourse", "(I[II)V"⟩
abbrev cX3_takeLeastOfSubsets : ByteArray := prog_5_method_7_code
def yX3_takeLeastOfSubsets : MethodName := ⟨RX3, "takeLeastOfSubsets", "(I)V"⟩
abbrev cX3_choose : ByteArray := prog_5_method_8_code
def yX3_choose : MethodName := ⟨RX3, "choose", "(I)V"⟩
abbrev cX3_cheapest : ByteArray := prog_5_method_9_code
def yX3_cheapest : MethodName := ⟨RX3, "cheapest", "([II)I"⟩
def RX4 : String := "BondedWall$Rows"
def TX4 : u_T := fun k => match k with
  | 0 => ("BondedWall$Rows", "wall", "LBondedWall$Wall;", true)
  | 1 => ("BondedWall$Rows", "costs", "[[I", true)
  | _ => ("BondedWall$Rows", "fresh", "Z", false)
def tyX4 : Nat → FieldType := fun k => match k with
  | 0 => .object "BondedWall$Wall"
  | 1 => .array (.array .int)
  | _ => .boolean
abbrev wsX40 : List Cond := u_ws RX4 TX4 3
theorem nmX4 : ∀ a, a < 3 → ∀ b, b < 3 → a ≠ b → (TX4 a).2.1 ≠ (TX4 b).2.1 := by decide +kernel
theorem tyX4_ok : ∀ k, k < 3 → parseFieldDescriptor (TX4 k).2.2.1 = some (tyX4 k) := by decide +kernel
abbrev cX4_init : ByteArray := prog_6_method_1_code
def yX4_init : MethodName := ⟨RX4, "<init>", "(LBondedWall$Wall;)V"⟩
abbrev cX4_forget : ByteArray := prog_6_method_2_code
def yX4_forget : MethodName := ⟨RX4, "forget", "()V"⟩
abbrev cX4_renew : ByteArray := prog_6_method_3_code
def yX4_renew : MethodName := ⟨RX4, "renew", "()V"⟩
abbrev cX4_firstWith : ByteArray := prog_6_method_4_code
def yX4_firstWith : MethodName := ⟨RX4, "firstWith", "(I)I"⟩
abbrev cX4_sumLeftOfHighest : ByteArray := prog_6_method_5_code
def yX4_sumLeftOfHighest : MethodName := ⟨RX4, "sumLeftOfHighest", "(I[I)V"⟩
abbrev cX4_closeRight : ByteArray := prog_6_method_6_code
def yX4_closeRight : MethodName := ⟨RX4, "closeRight", "(I[I)V"⟩
abbrev cX4_costOf : ByteArray := prog_6_method_7_code
def yX4_costOf : MethodName := ⟨RX4, "costOf", "(II)I"⟩
abbrev cX4_howMany : ByteArray := prog_6_method_8_code
def yX4_howMany : MethodName := ⟨RX4, "howMany", "(I)I"⟩
abbrev cX4_jointsOf : ByteArray := prog_6_method_9_code
def yX4_jointsOf : MethodName := ⟨RX4, "jointsOf", "(II)I"⟩
abbrev cX4_apartFrom : ByteArray := prog_6_method_10_code
def yX4_apartFrom : MethodName := ⟨RX4, "apartFrom", "(II)I"⟩
def RX5 : String := "BondedWall$Tally"
def TX5 : u_T := fun k => match k with
  | _ => ("BondedWall$Tally", "byLength", "[I", true)
def tyX5 : Nat → FieldType := fun k => match k with
  | _ => .array .int
abbrev wsX50 : List Cond := u_ws RX5 TX5 1
theorem nmX5 : ∀ a, a < 1 → ∀ b, b < 1 → a ≠ b → (TX5 a).2.1 ≠ (TX5 b).2.1 := by decide +kernel
theorem tyX5_ok : ∀ k, k < 1 → parseFieldDescriptor (TX5 k).2.2.1 = some (tyX5 k) := by decide +kernel
abbrev cX5_init : ByteArray := prog_7_method_1_code
def yX5_init : MethodName := ⟨RX5, "<init>", "()V"⟩
abbrev cX5_clear : ByteArray := prog_7_method_2_code
def yX5_clear : MethodName := ⟨RX5, "clear", "()V"⟩
abbrev cX5_add : ByteArray := prog_7_method_3_code
def yX5_add : MethodName := ⟨RX5, "add", "(I)V"⟩
abbrev cX5_of : ByteArray := prog_7_method_4_code
def yX5_of : MethodName := ⟨RX5, "of", "(I)I"⟩
abbrev cX5_total : ByteArray := prog_7_method_5_code
def yX5_total : MethodName := ⟨RX5, "total", "()I"⟩
abbrev cX5_costBy : ByteArray := prog_7_method_6_code
def yX5_costBy : MethodName := ⟨RX5, "costBy", "(LBondedWall$Bricks;)I"⟩
abbrev cX5_wholeBricks : ByteArray := prog_7_method_7_code
def yX5_wholeBricks : MethodName := ⟨RX5, "wholeBricks", "()I"⟩
def RX6 : String := "BondedWall$Wall"
def TX6 : u_T := fun k => match k with
  | 0 => ("BondedWall$Wall", "bricks", "LBondedWall$Bricks;", true)
  | 1 => ("BondedWall$Wall", "courses", "[LBondedWall$Course;", true)
  | 2 => ("BondedWall$Wall", "ground", "LBondedWall$Course;", true)
  | 3 => ("BondedWall$Wall", "cellsWide", "I", false)
  | 4 => ("BondedWall$Wall", "height", "I", false)
  | _ => ("BondedWall$Wall", "overlap", "I", false)
def tyX6 : Nat → FieldType := fun k => match k with
  | 0 => .object "BondedWall$Bricks"
  | 1 => .array (.object "BondedWall$Course")
  | 2 => .object "BondedWall$Course"
  | 3 => .int
  | 4 => .int
  | _ => .int
abbrev wsX60 : List Cond := u_ws RX6 TX6 6
theorem nmX6 : ∀ a, a < 6 → ∀ b, b < 6 → a ≠ b → (TX6 a).2.1 ≠ (TX6 b).2.1 := by decide +kernel
theorem tyX6_ok : ∀ k, k < 6 → parseFieldDescriptor (TX6 k).2.2.1 = some (tyX6 k) := by decide +kernel
abbrev cX6_init : ByteArray := prog_8_method_1_code
def yX6_init : MethodName := ⟨RX6, "<init>", "()V"⟩
abbrev cX6_has : ByteArray := prog_8_method_2_code
def yX6_has : MethodName := ⟨RX6, "has", "(I)Z"⟩
abbrev cX6_at : ByteArray := prog_8_method_3_code
def yX6_at : MethodName := ⟨RX6, "at", "(I)LBondedWall$Course;"⟩
abbrev cX6_cells : ByteArray := prog_8_method_4_code
def yX6_cells : MethodName := ⟨RX6, "cells", "()I"⟩
abbrev cX6_places : ByteArray := prog_8_method_5_code
def yX6_places : MethodName := ⟨RX6, "places", "()I"⟩
abbrev cX6_sets : ByteArray := prog_8_method_6_code
def yX6_sets : MethodName := ⟨RX6, "sets", "()I"⟩
abbrev cX6_bounds : ByteArray := prog_8_method_7_code
def yX6_bounds : MethodName := ⟨RX6, "bounds", "(LBondedWall$Course;I)I"⟩
abbrev cX6_addPieces : ByteArray := prog_8_method_8_code
def yX6_addPieces : MethodName := ⟨RX6, "addPieces", "(LBondedWall$Course;ILBondedWall$Tally;)V"⟩
abbrev cX6_lengthAround : ByteArray := prog_8_method_9_code
def yX6_lengthAround : MethodName := ⟨RX6, "lengthAround", "(LBondedWall$Course;I)I"⟩
abbrev cX6_ruleBrokenIn : ByteArray := prog_8_method_10_code
def yX6_ruleBrokenIn : MethodName := ⟨RX6, "ruleBrokenIn", "(I)I"⟩
abbrev cX6_ruleBrokenByPieces : ByteArray := prog_8_method_11_code
def yX6_ruleBrokenByPieces : MethodName := ⟨RX6, "ruleBrokenByPieces", "(II)I"⟩
abbrev cX6_ruleBrokenByPiece : ByteArray := prog_8_method_12_code
def yX6_ruleBrokenByPiece : MethodName := ⟨RX6, "ruleBrokenByPiece", "(III)I"⟩
abbrev cX6_costBetween : ByteArray := prog_8_method_13_code
def yX6_costBetween : MethodName := ⟨RX6, "costBetween", "(III)I"⟩
abbrev cX6_near : ByteArray := prog_8_method_14_code
def yX6_near : MethodName := ⟨RX6, "near", "(II)I"⟩
def RX7 : String := "BondedWall"
def TX7 : u_T := fun k => match k with
  | 0 => ("BondedWall", "wall", "LBondedWall$Wall;", true)
  | 1 => ("BondedWall", "rows", "LBondedWall$Rows;", true)
  | 2 => ("BondedWall", "count", "LBondedWall$Count;", true)
  | 3 => ("BondedWall", "plan", "LBondedWall$Plan;", true)
  | _ => ("BondedWall", "tally", "LBondedWall$Tally;", true)
def tyX7 : Nat → FieldType := fun k => match k with
  | 0 => .object "BondedWall$Wall"
  | 1 => .object "BondedWall$Rows"
  | 2 => .object "BondedWall$Count"
  | 3 => .object "BondedWall$Plan"
  | _ => .object "BondedWall$Tally"
abbrev wsX70 : List Cond := u_ws RX7 TX7 5
theorem nmX7 : ∀ a, a < 5 → ∀ b, b < 5 → a ≠ b → (TX7 a).2.1 ≠ (TX7 b).2.1 := by decide +kernel
theorem tyX7_ok : ∀ k, k < 5 → parseFieldDescriptor (TX7 k).2.2.1 = some (tyX7 k) := by decide +kernel
abbrev cX7_init : ByteArray := prog_1_method_1_code
def yX7_init : MethodName := ⟨RX7, "<init>", "()V"⟩
abbrev cX7_width : ByteArray := prog_1_method_2_code
def yX7_width : MethodName := ⟨RX7, "width", "(I)I"⟩
abbrev cX7_course : ByteArray := prog_1_method_3_code
def yX7_course : MethodName := ⟨RX7, "course", "()I"⟩
abbrev cX7_take : ByteArray := prog_1_method_4_code
def yX7_take : MethodName := ⟨RX7, "take", "()I"⟩
abbrev cX7_open : ByteArray := prog_1_method_5_code
def yX7_open : MethodName := ⟨RX7, "open", "(II)I"⟩
abbrev cX7_must : ByteArray := prog_1_method_6_code
def yX7_must : MethodName := ⟨RX7, "must", "(III)I"⟩
abbrev cX7_price : ByteArray := prog_1_method_7_code
def yX7_price : MethodName := ⟨RX7, "price", "(II)I"⟩
abbrev cX7_lap : ByteArray := prog_1_method_8_code
def yX7_lap : MethodName := ⟨RX7, "lap", "(I)I"⟩
abbrev cX7_ends : ByteArray := prog_1_method_9_code
def yX7_ends : MethodName := ⟨RX7, "ends", "(III)I"⟩
abbrev cX7_ofCourse : ByteArray := prog_1_method_10_code
def yX7_ofCourse : MethodName := ⟨RX7, "ofCourse", "(II)I"⟩
abbrev cX7_row : ByteArray := prog_1_method_11_code
def yX7_row : MethodName := ⟨RX7, "row", "(II)I"⟩
abbrev cX7_walls : ByteArray := prog_1_method_12_code
def yX7_walls : MethodName := ⟨RX7, "walls", "()J"⟩
abbrev cX7_best : ByteArray := prog_1_method_13_code
def yX7_best : MethodName := ⟨RX7, "best", "()I"⟩
abbrev cX7_bestRow : ByteArray := prog_1_method_14_code
def yX7_bestRow : MethodName := ⟨RX7, "bestRow", "(I)I"⟩
abbrev cX7_bestOf : ByteArray := prog_1_method_15_code
def yX7_bestOf : MethodName := ⟨RX7, "bestOf", "(I)I"⟩
abbrev cX7_highest : ByteArray := prog_1_method_16_code
def yX7_highest : MethodName := ⟨RX7, "highest", "()I"⟩
abbrev cX7_byLap : ByteArray := prog_1_method_17_code
def yX7_byLap : MethodName := ⟨RX7, "byLap", "(I)I"⟩
abbrev cX7_lay : ByteArray := prog_1_method_18_code
def yX7_lay : MethodName := ⟨RX7, "lay", "(II)I"⟩
abbrev cX7_layBest : ByteArray := prog_1_method_19_code
def yX7_layBest : MethodName := ⟨RX7, "layBest", "()I"⟩
abbrev cX7_wrong : ByteArray := prog_1_method_20_code
def yX7_wrong : MethodName := ⟨RX7, "wrong", "(I)I"⟩
abbrev cX7_cost : ByteArray := prog_1_method_21_code
def yX7_cost : MethodName := ⟨RX7, "cost", "()I"⟩
abbrev cX7_pieces : ByteArray := prog_1_method_22_code
def yX7_pieces : MethodName := ⟨RX7, "pieces", "(I)I"⟩
abbrev cX7_piece : ByteArray := prog_1_method_23_code
def yX7_piece : MethodName := ⟨RX7, "piece", "(II)I"⟩
abbrev cX7_cut : ByteArray := prog_1_method_24_code
def yX7_cut : MethodName := ⟨RX7, "cut", "()I"⟩
abbrev cX7_many : ByteArray := prog_1_method_25_code
def yX7_many : MethodName := ⟨RX7, "many", "(I)I"⟩
abbrev cX7_forgetWhatCanBe : ByteArray := prog_1_method_26_code
def yX7_forgetWhatCanBe : MethodName := ⟨RX7, "forgetWhatCanBe", "()V"⟩
abbrev cX7_tallyLaid : ByteArray := prog_1_method_27_code
def yX7_tallyLaid : MethodName := ⟨RX7, "tallyLaid", "()V"⟩
abbrev cX7_spansOf : ByteArray := prog_1_method_28_code
def yX7_spansOf : MethodName := ⟨RX7, "spansOf", "(LBondedWall$Course;)I"⟩
abbrev cX7_openCells : ByteArray := prog_1_method_29_code
def yX7_openCells : MethodName := ⟨RX7, "openCells", "()I"⟩
abbrev cX7_laidJoints : ByteArray := prog_1_method_30_code
def yX7_laidJoints : MethodName := ⟨RX7, "laidJoints", "()I"⟩
def RX8 : String := "BondedWallModel"
def TX8 : u_T := fun k => match k with
  | 0 => ("BondedWallModel", "wide", "I", false)
  | 1 => ("BondedWallModel", "courses", "I", false)
  | 2 => ("BondedWallModel", "openOf", "[I", true)
  | 3 => ("BondedWallModel", "mustOf", "[I", true)
  | 4 => ("BondedWallModel", "barredOf", "[I", true)
  | 5 => ("BondedWallModel", "laidOf", "[I", true)
  | 6 => ("BondedWallModel", "priceOf", "[I", true)
  | 7 => ("BondedWallModel", "endsOf", "[I", true)
  | 8 => ("BondedWallModel", "lapNow", "I", false)
  | 9 => ("BondedWallModel", "rowMany", "[I", true)
  | 10 => ("BondedWallModel", "rowAt", "[I", true)
  | 11 => ("BondedWallModel", "leastFrom", "[I", true)
  | 12 => ("BondedWallModel", "waysFrom", "[J", true)
  | 13 => ("BondedWallModel", "bestAt", "[I", true)
  | _ => ("BondedWallModel", "isReached", "[Z", true)
def tyX8 : Nat → FieldType := fun k => match k with
  | 0 => .int
  | 1 => .int
  | 2 => .array .int
  | 3 => .array .int
  | 4 => .array .int
  | 5 => .array .int
  | 6 => .array .int
  | 7 => .array .int
  | 8 => .int
  | 9 => .array .int
  | 10 => .array .int
  | 11 => .array .int
  | 12 => .array .long
  | 13 => .array .int
  | _ => .array .boolean
abbrev wsX80 : List Cond := u_ws RX8 TX8 15
theorem nmX8 : ∀ a, a < 15 → ∀ b, b < 15 → a ≠ b → (TX8 a).2.1 ≠ (TX8 b).2.1 := by decide +kernel
theorem tyX8_ok : ∀ k, k < 15 → parseFieldDescriptor (TX8 k).2.2.1 = some (tyX8 k) := by decide +kernel
abbrev cX8_init : ByteArray := prog_10_method_1_code
def yX8_init : MethodName := ⟨RX8, "<init>", "()V"⟩
abbrev cX8_within : ByteArray := prog_10_method_2_code
def yX8_within : MethodName := ⟨RX8, "within", "(III)Z"⟩
abbrev cX8_has : ByteArray := prog_10_method_3_code
def yX8_has : MethodName := ⟨RX8, "has", "(II)Z"⟩
abbrev cX8_sizeOf : ByteArray := prog_10_method_4_code
def yX8_sizeOf : MethodName := ⟨RX8, "sizeOf", "(I)I"⟩
abbrev cX8_isCourse : ByteArray := prog_10_method_5_code
def yX8_isCourse : MethodName := ⟨RX8, "isCourse", "(I)Z"⟩
abbrev cX8_arePlaces : ByteArray := prog_10_method_6_code
def yX8_arePlaces : MethodName := ⟨RX8, "arePlaces", "(I)Z"⟩
abbrev cX8_width : ByteArray := prog_10_method_7_code
def yX8_width : MethodName := ⟨RX8, "width", "(I)I"⟩
abbrev cX8_course : ByteArray := prog_10_method_8_code
def yX8_course : MethodName := ⟨RX8, "course", "()I"⟩
abbrev cX8_take : ByteArray := prog_10_method_9_code
def yX8_take : MethodName := ⟨RX8, "take", "()I"⟩
abbrev cX8_open : ByteArray := prog_10_method_10_code
def yX8_open : MethodName := ⟨RX8, "open", "(II)I"⟩
abbrev cX8_must : ByteArray := prog_10_method_11_code
def yX8_must : MethodName := ⟨RX8, "must", "(III)I"⟩
abbrev cX8_price : ByteArray := prog_10_method_12_code
def yX8_price : MethodName := ⟨RX8, "price", "(II)I"⟩
abbrev cX8_lap : ByteArray := prog_10_method_13_code
def yX8_lap : MethodName := ⟨RX8, "lap", "(I)I"⟩
abbrev cX8_ends : ByteArray := prog_10_method_14_code
def yX8_ends : MethodName := ⟨RX8, "ends", "(III)I"⟩
abbrev cX8_spansOf : ByteArray := prog_10_method_15_code
def yX8_spansOf : MethodName := ⟨RX8, "spansOf", "(I)I"⟩
abbrev cX8_ofCourse : ByteArray := prog_10_method_16_code
def yX8_ofCourse : MethodName := ⟨RX8, "ofCourse", "(II)I"⟩
abbrev cX8_begins : ByteArray := prog_10_method_17_code
def yX8_begins : MethodName := ⟨RX8, "begins", "(III)Z"⟩
abbrev cX8_lengthFrom : ByteArray := prog_10_method_18_code
def yX8_lengthFrom : MethodName := ⟨RX8, "lengthFrom", "(III)I"⟩
abbrev cX8_firstOf : ByteArray := prog_10_method_19_code
def yX8_firstOf : MethodName := ⟨RX8, "firstOf", "(III)I"⟩
abbrev cX8_isWithin : ByteArray := prog_10_method_20_code
def yX8_isWithin : MethodName := ⟨RX8, "isWithin", "(II)Z"⟩
abbrev cX8_isPriced : ByteArray := prog_10_method_21_code
def yX8_isPriced : MethodName := ⟨RX8, "isPriced", "(I)Z"⟩
abbrev cX8_areEnds : ByteArray := prog_10_method_22_code
def yX8_areEnds : MethodName := ⟨RX8, "areEnds", "(II)Z"⟩
abbrev cX8_breaks : ByteArray := prog_10_method_23_code
def yX8_breaks : MethodName := ⟨RX8, "breaks", "(IIII)Z"⟩
abbrev cX8_somePiece : ByteArray := prog_10_method_24_code
def yX8_somePiece : MethodName := ⟨RX8, "somePiece", "(III)Z"⟩
abbrev cX8_ruleOf : ByteArray := prog_10_method_25_code
def yX8_ruleOf : MethodName := ⟨RX8, "ruleOf", "(II)I"⟩
abbrev cX8_around : ByteArray := prog_10_method_26_code
def yX8_around : MethodName := ⟨RX8, "around", "(II)I"⟩
abbrev cX8_costOf : ByteArray := prog_10_method_27_code
def yX8_costOf : MethodName := ⟨RX8, "costOf", "(II)I"⟩
abbrev cX8_findRows : ByteArray := prog_10_method_28_code
def yX8_findRows : MethodName := ⟨RX8, "findRows", "(I)V"⟩
abbrev cX8_findAll : ByteArray := prog_10_method_29_code
def yX8_findAll : MethodName := ⟨RX8, "findAll", "(I)V"⟩
abbrev cX8_findFrom : ByteArray := prog_10_method_30_code
def yX8_findFrom : MethodName := ⟨RX8, "findFrom", "(III)V"⟩
abbrev cX8_row : ByteArray := prog_10_method_31_code
def yX8_row : MethodName := ⟨RX8, "row", "(II)I"⟩
abbrev cX8_walls : ByteArray := prog_10_method_32_code
def yX8_walls : MethodName := ⟨RX8, "walls", "()J"⟩
abbrev cX8_leastCost : ByteArray := prog_10_method_33_code
def yX8_leastCost : MethodName := ⟨RX8, "leastCost", "(I)I"⟩
abbrev cX8_hasBest : ByteArray := prog_10_method_34_code
def yX8_hasBest : MethodName := ⟨RX8, "hasBest", "()Z"⟩
abbrev cX8_best : ByteArray := prog_10_method_35_code
def yX8_best : MethodName := ⟨RX8, "best", "()I"⟩
abbrev cX8_bestRow : ByteArray := prog_10_method_36_code
def yX8_bestRow : MethodName := ⟨RX8, "bestRow", "(I)I"⟩
abbrev cX8_piecesIn : ByteArray := prog_10_method_37_code
def yX8_piecesIn : MethodName := ⟨RX8, "piecesIn", "(III)I"⟩
abbrev cX8_bestOf : ByteArray := prog_10_method_38_code
def yX8_bestOf : MethodName := ⟨RX8, "bestOf", "(I)I"⟩
abbrev cX8_reaches : ByteArray := prog_10_method_39_code
def yX8_reaches : MethodName := ⟨RX8, "reaches", "(I)Z"⟩
abbrev cX8_highest : ByteArray := prog_10_method_40_code
def yX8_highest : MethodName := ⟨RX8, "highest", "()I"⟩
abbrev cX8_byLap : ByteArray := prog_10_method_41_code
def yX8_byLap : MethodName := ⟨RX8, "byLap", "(I)I"⟩
abbrev cX8_lay : ByteArray := prog_10_method_42_code
def yX8_lay : MethodName := ⟨RX8, "lay", "(II)I"⟩
abbrev cX8_laidCost : ByteArray := prog_10_method_43_code
def yX8_laidCost : MethodName := ⟨RX8, "laidCost", "()I"⟩
abbrev cX8_layBest : ByteArray := prog_10_method_44_code
def yX8_layBest : MethodName := ⟨RX8, "layBest", "()I"⟩
abbrev cX8_laidRule : ByteArray := prog_10_method_45_code
def yX8_laidRule : MethodName := ⟨RX8, "laidRule", "(I)I"⟩
abbrev cX8_wrong : ByteArray := prog_10_method_46_code
def yX8_wrong : MethodName := ⟨RX8, "wrong", "(I)I"⟩
abbrev cX8_cost : ByteArray := prog_10_method_47_code
def yX8_cost : MethodName := ⟨RX8, "cost", "()I"⟩
abbrev cX8_laidPieces : ByteArray := prog_10_method_48_code
def yX8_laidPieces : MethodName := ⟨RX8, "laidPieces", "(I)I"⟩
abbrev cX8_pieces : ByteArray := prog_10_method_49_code
def yX8_pieces : MethodName := ⟨RX8, "pieces", "(I)I"⟩
abbrev cX8_piece : ByteArray := prog_10_method_50_code
def yX8_piece : MethodName := ⟨RX8, "piece", "(II)I"⟩
abbrev cX8_cut : ByteArray := prog_10_method_51_code
def yX8_cut : MethodName := ⟨RX8, "cut", "()I"⟩
abbrev cX8_many : ByteArray := prog_10_method_52_code
def yX8_many : MethodName := ⟨RX8, "many", "(I)I"⟩
abbrev cX8_sumOf : ByteArray := prog_10_method_53_code
def yX8_sumOf : MethodName := ⟨RX8, "sumOf", "([I)I"⟩
abbrev cX8_allPieces : ByteArray := prog_10_method_54_code
def yX8_allPieces : MethodName := ⟨RX8, "allPieces", "()I"⟩
def RJx8e188 : String := "java/lang/Cloneable"
def TJx8e188 : u_T := fun k => match k with
  | _ => ("", "", "", false)
def tyJx8e188 : Nat → FieldType := fun k => match k with
  | _ => .int
theorem nmJx8e188 : ∀ a, a < 0 → ∀ b, b < 0 → a ≠ b → (TJx8e188 a).2.1 ≠ (TJx8e188 b).2.1 := by decide +kernel
theorem tyJx8e188_ok : ∀ k, k < 0 → parseFieldDescriptor (TJx8e188 k).2.2.1 = some (tyJx8e188 k) := by decide +kernel
def RJ6 : String := "java/lang/Integer"
def TJ6 : u_T := fun k => match k with
  | _ => ("", "", "", false)
def tyJ6 : Nat → FieldType := fun k => match k with
  | _ => .int
abbrev wsJ60 : List Cond := u_ws RJ6 TJ6 0
theorem nmJ6 : ∀ a, a < 0 → ∀ b, b < 0 → a ≠ b → (TJ6 a).2.1 ≠ (TJ6 b).2.1 := by decide +kernel
theorem tyJ6_ok : ∀ k, k < 0 → parseFieldDescriptor (TJ6 k).2.2.1 = some (tyJ6 k) := by decide +kernel
abbrev cJ6_bitCount_0f7a4 : ByteArray := prog_12_method_49_code
def yJ6_bitCount_0f7a4 : MethodName := ⟨RJ6, "bitCount", "(I)I"⟩
def RJ9 : String := "java/lang/Math"
def TJ9 : u_T := fun k => match k with
  | _ => ("", "", "", false)
def tyJ9 : Nat → FieldType := fun k => match k with
  | _ => .int
abbrev wsJ90 : List Cond := u_ws RJ9 TJ9 0
theorem nmJ9 : ∀ a, a < 0 → ∀ b, b < 0 → a ≠ b → (TJ9 a).2.1 ≠ (TJ9 b).2.1 := by decide +kernel
theorem tyJ9_ok : ∀ k, k < 0 → parseFieldDescriptor (TJ9 k).2.2.1 = some (tyJ9 k) := by decide +kernel
abbrev cJ9_max_7cf53 : ByteArray := prog_13_method_65_code
def yJ9_max_7cf53 : MethodName := ⟨RJ9, "max", "(II)I"⟩
abbrev cJ9_min_7cf53 : ByteArray := prog_13_method_69_code
def yJ9_min_7cf53 : MethodName := ⟨RJ9, "min", "(II)I"⟩
def RJ10 : String := "java/lang/System"
def TJ10 : u_T := fun k => match k with
  | _ => ("", "", "", false)
def tyJ10 : Nat → FieldType := fun k => match k with
  | _ => .int
abbrev wsJ100 : List Cond := u_ws RJ10 TJ10 0
theorem nmJ10 : ∀ a, a < 0 → ∀ b, b < 0 → a ≠ b → (TJ10 a).2.1 ≠ (TJ10 b).2.1 := by decide +kernel
theorem tyJ10_ok : ∀ k, k < 0 → parseFieldDescriptor (TJ10 k).2.2.1 = some (tyJ10 k) := by decide +kernel
def RJ7 : String := "java/util/Arrays"
def TJ7 : u_T := fun k => match k with
  | _ => ("", "", "", false)
def tyJ7 : Nat → FieldType := fun k => match k with
  | _ => .int
abbrev wsJ70 : List Cond := u_ws RJ7 TJ7 0
theorem nmJ7 : ∀ a, a < 0 → ∀ b, b < 0 → a ≠ b → (TJ7 a).2.1 ≠ (TJ7 b).2.1 := by decide +kernel
theorem tyJ7_ok : ∀ k, k < 0 → parseFieldDescriptor (TJ7 k).2.2.1 = some (tyJ7 k) := by decide +kernel
abbrev cJ7_fill_d0a16 : ByteArray := prog_15_method_101_code
def yJ7_fill_d0a16 : MethodName := ⟨RJ7, "fill", "([JJ)V"⟩
abbrev cJ7_fill_53178 : ByteArray := prog_15_method_103_code
def yJ7_fill_53178 : MethodName := ⟨RJ7, "fill", "([II)V"⟩
def RL : String := "BondedWallLaw"
abbrev cL_law : ByteArray := code
def yL_law : MethodName := ⟨RL, "law", "([I)Z"⟩
