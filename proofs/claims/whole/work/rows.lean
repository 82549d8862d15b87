section
/-- a private method of a class that the tables say can be made, by its rows of tables_1 -/
def lw_okq (q : MethodName × Nat) : Prop := (q.1.cls ≠ "java/lang/invoke/MethodHandle" ∧ q.1.cls ≠ "java/lang/invoke/VarHandle") ∧ Cond.instantiable q.1.cls q.2 ∈ tables_1 ∧ Cond.privateMethod q.1 ∈ tables_1 ∧ Cond.instanceMethod q.1 ∈ tables_1
theorem lw_p0 : lw_okq (⟨"VineRows", "faulted", "(I)I"⟩, 8) := ⟨⟨by decide +kernel, by decide +kernel⟩, List.mem_of_getElem? (i := 12) (by decide +kernel), List.mem_of_getElem? (i := 165) (by decide +kernel), List.mem_of_getElem? (i := 166) (by decide +kernel)⟩
theorem lw_p1 : lw_okq (⟨"VineRows$Vine", "findTaken", "()V"⟩, 9) := ⟨⟨by decide +kernel, by decide +kernel⟩, List.mem_of_getElem? (i := 20) (by decide +kernel), List.mem_of_getElem? (i := 198) (by decide +kernel), List.mem_of_getElem? (i := 199) (by decide +kernel)⟩
theorem lw_p2 : lw_okq (⟨"VineRows$Vine", "namedFrom", "(I)I"⟩, 9) := ⟨⟨by decide +kernel, by decide +kernel⟩, List.mem_of_getElem? (i := 20) (by decide +kernel), List.mem_of_getElem? (i := 202) (by decide +kernel), List.mem_of_getElem? (i := 203) (by decide +kernel)⟩
theorem lw_p3 : lw_okq (⟨"VineRows$Vine", "tie", "(II)V"⟩, 9) := ⟨⟨by decide +kernel, by decide +kernel⟩, List.mem_of_getElem? (i := 20) (by decide +kernel), List.mem_of_getElem? (i := 209) (by decide +kernel), List.mem_of_getElem? (i := 210) (by decide +kernel)⟩
theorem lw_p4 : lw_okq (⟨"VineRows$Vine", "leastEnd", "(I)I"⟩, 9) := ⟨⟨by decide +kernel, by decide +kernel⟩, List.mem_of_getElem? (i := 20) (by decide +kernel), List.mem_of_getElem? (i := 250) (by decide +kernel), List.mem_of_getElem? (i := 251) (by decide +kernel)⟩
theorem lw_p5 : lw_okq (⟨"VineRows", "refusalOfPairs", "(LVineRows$Sheet;II)I"⟩, 8) := ⟨⟨by decide +kernel, by decide +kernel⟩, List.mem_of_getElem? (i := 12) (by decide +kernel), List.mem_of_getElem? (i := 274) (by decide +kernel), List.mem_of_getElem? (i := 275) (by decide +kernel)⟩
theorem lw_p6 : lw_okq (⟨"VineRows", "refusalOfPair", "(II)I"⟩, 8) := ⟨⟨by decide +kernel, by decide +kernel⟩, List.mem_of_getElem? (i := 12) (by decide +kernel), List.mem_of_getElem? (i := 279) (by decide +kernel), List.mem_of_getElem? (i := 280) (by decide +kernel)⟩
theorem lw_p7 : lw_okq (⟨"VineRows", "firstWrong", "(LVineRows$Sheet;II)I"⟩, 8) := ⟨⟨by decide +kernel, by decide +kernel⟩, List.mem_of_getElem? (i := 12) (by decide +kernel), List.mem_of_getElem? (i := 283) (by decide +kernel), List.mem_of_getElem? (i := 284) (by decide +kernel)⟩
theorem lw_p8 : lw_okq (⟨"VineRows", "tried", "(II)Z"⟩, 8) := ⟨⟨by decide +kernel, by decide +kernel⟩, List.mem_of_getElem? (i := 12) (by decide +kernel), List.mem_of_getElem? (i := 294) (by decide +kernel), List.mem_of_getElem? (i := 295) (by decide +kernel)⟩
theorem lw_p9 : lw_okq (⟨"VineRows", "ofTrial", "(I)I"⟩, 8) := ⟨⟨by decide +kernel, by decide +kernel⟩, List.mem_of_getElem? (i := 12) (by decide +kernel), List.mem_of_getElem? (i := 298) (by decide +kernel), List.mem_of_getElem? (i := 299) (by decide +kernel)⟩
theorem lw_p10 : lw_okq (⟨"VineRows$Shape", "signsFrom", "(LVineRows$Vine;I)I"⟩, 3) := ⟨⟨by decide +kernel, by decide +kernel⟩, List.mem_of_getElem? (i := 67) (by decide +kernel), List.mem_of_getElem? (i := 354) (by decide +kernel), List.mem_of_getElem? (i := 355) (by decide +kernel)⟩
theorem lw_p11 : lw_okq (⟨"VineRows$Shape", "gather", "(LVineRows$Vine;II)I"⟩, 3) := ⟨⟨by decide +kernel, by decide +kernel⟩, List.mem_of_getElem? (i := 67) (by decide +kernel), List.mem_of_getElem? (i := 358) (by decide +kernel), List.mem_of_getElem? (i := 359) (by decide +kernel)⟩
theorem lw_p12 : lw_okq (⟨"VineRows$Shape", "insert", "(II)V"⟩, 3) := ⟨⟨by decide +kernel, by decide +kernel⟩, List.mem_of_getElem? (i := 67) (by decide +kernel), List.mem_of_getElem? (i := 362) (by decide +kernel), List.mem_of_getElem? (i := 363) (by decide +kernel)⟩
theorem lw_p13 : lw_okq (⟨"VineRows$Shape", "join", "(II)V"⟩, 3) := ⟨⟨by decide +kernel, by decide +kernel⟩, List.mem_of_getElem? (i := 67) (by decide +kernel), List.mem_of_getElem? (i := 366) (by decide +kernel), List.mem_of_getElem? (i := 367) (by decide +kernel)⟩
theorem lw_p14 : lw_okq (⟨"VineRows$Readings", "worthBeside", "(LVineRows$Vine;II)I"⟩, 4) := ⟨⟨by decide +kernel, by decide +kernel⟩, List.mem_of_getElem? (i := 83) (by decide +kernel), List.mem_of_getElem? (i := 411) (by decide +kernel), List.mem_of_getElem? (i := 412) (by decide +kernel)⟩
theorem lw_p15 : lw_okq (⟨"VineRows", "tellDouble", "(I)I"⟩, 8) := ⟨⟨by decide +kernel, by decide +kernel⟩, List.mem_of_getElem? (i := 12) (by decide +kernel), List.mem_of_getElem? (i := 464) (by decide +kernel), List.mem_of_getElem? (i := 465) (by decide +kernel)⟩
def lw_privs_1 : List (MethodName × Nat) := [(⟨"VineRows", "faulted", "(I)I"⟩, 8), (⟨"VineRows$Vine", "findTaken", "()V"⟩, 9), (⟨"VineRows$Vine", "namedFrom", "(I)I"⟩, 9), (⟨"VineRows$Vine", "tie", "(II)V"⟩, 9), (⟨"VineRows$Vine", "leastEnd", "(I)I"⟩, 9), (⟨"VineRows", "refusalOfPairs", "(LVineRows$Sheet;II)I"⟩, 8), (⟨"VineRows", "refusalOfPair", "(II)I"⟩, 8), (⟨"VineRows", "firstWrong", "(LVineRows$Sheet;II)I"⟩, 8), (⟨"VineRows", "tried", "(II)Z"⟩, 8), (⟨"VineRows", "ofTrial", "(I)I"⟩, 8), (⟨"VineRows$Shape", "signsFrom", "(LVineRows$Vine;I)I"⟩, 3), (⟨"VineRows$Shape", "gather", "(LVineRows$Vine;II)I"⟩, 3), (⟨"VineRows$Shape", "insert", "(II)V"⟩, 3), (⟨"VineRows$Shape", "join", "(II)V"⟩, 3), (⟨"VineRows$Readings", "worthBeside", "(LVineRows$Vine;II)I"⟩, 4), (⟨"VineRows", "tellDouble", "(I)I"⟩, 8)]
theorem lw_r1 : ∀ q ∈ lw_privs_1, lw_okq q := List.forall_mem_cons.mpr ⟨lw_p0, List.forall_mem_cons.mpr ⟨lw_p1, List.forall_mem_cons.mpr ⟨lw_p2, List.forall_mem_cons.mpr ⟨lw_p3, List.forall_mem_cons.mpr ⟨lw_p4, List.forall_mem_cons.mpr ⟨lw_p5, List.forall_mem_cons.mpr ⟨lw_p6, List.forall_mem_cons.mpr ⟨lw_p7, List.forall_mem_cons.mpr ⟨lw_p8, List.forall_mem_cons.mpr ⟨lw_p9, List.forall_mem_cons.mpr ⟨lw_p10, List.forall_mem_cons.mpr ⟨lw_p11, List.forall_mem_cons.mpr ⟨lw_p12, List.forall_mem_cons.mpr ⟨lw_p13, List.forall_mem_cons.mpr ⟨lw_p14, List.forall_mem_cons.mpr ⟨lw_p15, fun _ h => absurd h List.not_mem_nil⟩⟩⟩⟩⟩⟩⟩⟩⟩⟩⟩⟩⟩⟩⟩⟩
theorem lw_p16 : lw_okq (⟨"VineRows", "leave", "(I)V"⟩, 8) := ⟨⟨by decide +kernel, by decide +kernel⟩, List.mem_of_getElem? (i := 12) (by decide +kernel), List.mem_of_getElem? (i := 468) (by decide +kernel), List.mem_of_getElem? (i := 469) (by decide +kernel)⟩
theorem lw_p17 : lw_okq (⟨"VineRows", "tellBroad", "(I)I"⟩, 8) := ⟨⟨by decide +kernel, by decide +kernel⟩, List.mem_of_getElem? (i := 12) (by decide +kernel), List.mem_of_getElem? (i := 472) (by decide +kernel), List.mem_of_getElem? (i := 473) (by decide +kernel)⟩
theorem lw_p18 : lw_okq (⟨"VineRows", "tellPlain", "(I)I"⟩, 8) := ⟨⟨by decide +kernel, by decide +kernel⟩, List.mem_of_getElem? (i := 12) (by decide +kernel), List.mem_of_getElem? (i := 476) (by decide +kernel), List.mem_of_getElem? (i := 477) (by decide +kernel)⟩
theorem lw_p19 : lw_okq (⟨"VineRowsModel", "against", "(IIII)I"⟩, 27) := ⟨⟨by decide +kernel, by decide +kernel⟩, List.mem_of_getElem? (i := 500) (by decide +kernel), List.mem_of_getElem? (i := 601) (by decide +kernel), List.mem_of_getElem? (i := 602) (by decide +kernel)⟩
theorem lw_p20 : lw_okq (⟨"VineRowsModel", "fails", "(I)I"⟩, 27) := ⟨⟨by decide +kernel, by decide +kernel⟩, List.mem_of_getElem? (i := 500) (by decide +kernel), List.mem_of_getElem? (i := 605) (by decide +kernel), List.mem_of_getElem? (i := 606) (by decide +kernel)⟩
theorem lw_p21 : lw_okq (⟨"VineRowsModel", "readVine", "(I)Z"⟩, 27) := ⟨⟨by decide +kernel, by decide +kernel⟩, List.mem_of_getElem? (i := 500) (by decide +kernel), List.mem_of_getElem? (i := 609) (by decide +kernel), List.mem_of_getElem? (i := 610) (by decide +kernel)⟩
theorem lw_p22 : lw_okq (⟨"VineRowsModel", "digit", "(III)I"⟩, 27) := ⟨⟨by decide +kernel, by decide +kernel⟩, List.mem_of_getElem? (i := 500) (by decide +kernel), List.mem_of_getElem? (i := 613) (by decide +kernel), List.mem_of_getElem? (i := 614) (by decide +kernel)⟩
theorem lw_p23 : lw_okq (⟨"VineRowsModel", "readPost", "(II)Z"⟩, 27) := ⟨⟨by decide +kernel, by decide +kernel⟩, List.mem_of_getElem? (i := 500) (by decide +kernel), List.mem_of_getElem? (i := 617) (by decide +kernel), List.mem_of_getElem? (i := 618) (by decide +kernel)⟩
theorem lw_p24 : lw_okq (⟨"VineRowsModel", "growVine", "()V"⟩, 27) := ⟨⟨by decide +kernel, by decide +kernel⟩, List.mem_of_getElem? (i := 500) (by decide +kernel), List.mem_of_getElem? (i := 621) (by decide +kernel), List.mem_of_getElem? (i := 622) (by decide +kernel)⟩
theorem lw_p25 : lw_okq (⟨"VineRowsModel", "join", "(II)V"⟩, 27) := ⟨⟨by decide +kernel, by decide +kernel⟩, List.mem_of_getElem? (i := 500) (by decide +kernel), List.mem_of_getElem? (i := 631) (by decide +kernel), List.mem_of_getElem? (i := 632) (by decide +kernel)⟩
theorem lw_p26 : lw_okq (⟨"VineRowsModel", "isPost", "(I)Z"⟩, 27) := ⟨⟨by decide +kernel, by decide +kernel⟩, List.mem_of_getElem? (i := 500) (by decide +kernel), List.mem_of_getElem? (i := 639) (by decide +kernel), List.mem_of_getElem? (i := 640) (by decide +kernel)⟩
theorem lw_p27 : lw_okq (⟨"VineRowsModel", "worthOf", "(I)I"⟩, 27) := ⟨⟨by decide +kernel, by decide +kernel⟩, List.mem_of_getElem? (i := 500) (by decide +kernel), List.mem_of_getElem? (i := 643) (by decide +kernel), List.mem_of_getElem? (i := 644) (by decide +kernel)⟩
theorem lw_p28 : lw_okq (⟨"VineRowsModel", "findFars", "()V"⟩, 27) := ⟨⟨by decide +kernel, by decide +kernel⟩, List.mem_of_getElem? (i := 500) (by decide +kernel), List.mem_of_getElem? (i := 650) (by decide +kernel), List.mem_of_getElem? (i := 651) (by decide +kernel)⟩
theorem lw_p29 : lw_okq (⟨"VineRowsModel", "farthestFrom", "(I)I"⟩, 27) := ⟨⟨by decide +kernel, by decide +kernel⟩, List.mem_of_getElem? (i := 500) (by decide +kernel), List.mem_of_getElem? (i := 654) (by decide +kernel), List.mem_of_getElem? (i := 655) (by decide +kernel)⟩
theorem lw_p30 : lw_okq (⟨"VineRowsModel", "findRow", "()V"⟩, 27) := ⟨⟨by decide +kernel, by decide +kernel⟩, List.mem_of_getElem? (i := 500) (by decide +kernel), List.mem_of_getElem? (i := 666) (by decide +kernel), List.mem_of_getElem? (i := 667) (by decide +kernel)⟩
theorem lw_p31 : lw_okq (⟨"VineRowsModel", "areTwo", "(II)Z"⟩, 27) := ⟨⟨by decide +kernel, by decide +kernel⟩, List.mem_of_getElem? (i := 500) (by decide +kernel), List.mem_of_getElem? (i := 674) (by decide +kernel), List.mem_of_getElem? (i := 675) (by decide +kernel)⟩
def lw_privs_2 : List (MethodName × Nat) := [(⟨"VineRows", "leave", "(I)V"⟩, 8), (⟨"VineRows", "tellBroad", "(I)I"⟩, 8), (⟨"VineRows", "tellPlain", "(I)I"⟩, 8), (⟨"VineRowsModel", "against", "(IIII)I"⟩, 27), (⟨"VineRowsModel", "fails", "(I)I"⟩, 27), (⟨"VineRowsModel", "readVine", "(I)Z"⟩, 27), (⟨"VineRowsModel", "digit", "(III)I"⟩, 27), (⟨"VineRowsModel", "readPost", "(II)Z"⟩, 27), (⟨"VineRowsModel", "growVine", "()V"⟩, 27), (⟨"VineRowsModel", "join", "(II)V"⟩, 27), (⟨"VineRowsModel", "isPost", "(I)Z"⟩, 27), (⟨"VineRowsModel", "worthOf", "(I)I"⟩, 27), (⟨"VineRowsModel", "findFars", "()V"⟩, 27), (⟨"VineRowsModel", "farthestFrom", "(I)I"⟩, 27), (⟨"VineRowsModel", "findRow", "()V"⟩, 27), (⟨"VineRowsModel", "areTwo", "(II)Z"⟩, 27)]
theorem lw_r2 : ∀ q ∈ lw_privs_2, lw_okq q := List.forall_mem_cons.mpr ⟨lw_p16, List.forall_mem_cons.mpr ⟨lw_p17, List.forall_mem_cons.mpr ⟨lw_p18, List.forall_mem_cons.mpr ⟨lw_p19, List.forall_mem_cons.mpr ⟨lw_p20, List.forall_mem_cons.mpr ⟨lw_p21, List.forall_mem_cons.mpr ⟨lw_p22, List.forall_mem_cons.mpr ⟨lw_p23, List.forall_mem_cons.mpr ⟨lw_p24, List.forall_mem_cons.mpr ⟨lw_p25, List.forall_mem_cons.mpr ⟨lw_p26, List.forall_mem_cons.mpr ⟨lw_p27, List.forall_mem_cons.mpr ⟨lw_p28, List.forall_mem_cons.mpr ⟨lw_p29, List.forall_mem_cons.mpr ⟨lw_p30, List.forall_mem_cons.mpr ⟨lw_p31, fun _ h => absurd h List.not_mem_nil⟩⟩⟩⟩⟩⟩⟩⟩⟩⟩⟩⟩⟩⟩⟩⟩
theorem lw_p32 : lw_okq (⟨"VineRowsModel", "unjoin", "(II)V"⟩, 27) := ⟨⟨by decide +kernel, by decide +kernel⟩, List.mem_of_getElem? (i := 500) (by decide +kernel), List.mem_of_getElem? (i := 678) (by decide +kernel), List.mem_of_getElem? (i := 679) (by decide +kernel)⟩
theorem lw_p33 : lw_okq (⟨"VineRowsModel", "refusesPair", "(II)I"⟩, 27) := ⟨⟨by decide +kernel, by decide +kernel⟩, List.mem_of_getElem? (i := 500) (by decide +kernel), List.mem_of_getElem? (i := 686) (by decide +kernel), List.mem_of_getElem? (i := 687) (by decide +kernel)⟩
theorem lw_p34 : lw_okq (⟨"VineRowsModel", "goDay", "(II)I"⟩, 27) := ⟨⟨by decide +kernel, by decide +kernel⟩, List.mem_of_getElem? (i := 500) (by decide +kernel), List.mem_of_getElem? (i := 690) (by decide +kernel), List.mem_of_getElem? (i := 691) (by decide +kernel)⟩
theorem lw_p35 : lw_okq (⟨"VineRowsModel", "does", "(II)Z"⟩, 27) := ⟨⟨by decide +kernel, by decide +kernel⟩, List.mem_of_getElem? (i := 500) (by decide +kernel), List.mem_of_getElem? (i := 694) (by decide +kernel), List.mem_of_getElem? (i := 695) (by decide +kernel)⟩
theorem lw_p36 : lw_okq (⟨"VineRowsModel", "tellDay", "(I)I"⟩, 27) := ⟨⟨by decide +kernel, by decide +kernel⟩, List.mem_of_getElem? (i := 500) (by decide +kernel), List.mem_of_getElem? (i := 698) (by decide +kernel), List.mem_of_getElem? (i := 699) (by decide +kernel)⟩
theorem lw_p37 : lw_okq (⟨"VineRowsModel", "longest", "()I"⟩, 27) := ⟨⟨by decide +kernel, by decide +kernel⟩, List.mem_of_getElem? (i := 500) (by decide +kernel), List.mem_of_getElem? (i := 702) (by decide +kernel), List.mem_of_getElem? (i := 703) (by decide +kernel)⟩
theorem lw_p38 : lw_okq (⟨"VineRowsModel", "numberOf", "()I"⟩, 27) := ⟨⟨by decide +kernel, by decide +kernel⟩, List.mem_of_getElem? (i := 500) (by decide +kernel), List.mem_of_getElem? (i := 706) (by decide +kernel), List.mem_of_getElem? (i := 707) (by decide +kernel)⟩
theorem lw_p39 : lw_okq (⟨"VineRowsModel", "ends", "()I"⟩, 27) := ⟨⟨by decide +kernel, by decide +kernel⟩, List.mem_of_getElem? (i := 500) (by decide +kernel), List.mem_of_getElem? (i := 710) (by decide +kernel), List.mem_of_getElem? (i := 711) (by decide +kernel)⟩
theorem lw_p40 : lw_okq (⟨"VineRowsModel", "worthOfSet", "(I)I"⟩, 27) := ⟨⟨by decide +kernel, by decide +kernel⟩, List.mem_of_getElem? (i := 500) (by decide +kernel), List.mem_of_getElem? (i := 714) (by decide +kernel), List.mem_of_getElem? (i := 715) (by decide +kernel)⟩
theorem lw_p41 : lw_okq (⟨"VineRowsModel", "orders", "()I"⟩, 27) := ⟨⟨by decide +kernel, by decide +kernel⟩, List.mem_of_getElem? (i := 500) (by decide +kernel), List.mem_of_getElem? (i := 738) (by decide +kernel), List.mem_of_getElem? (i := 739) (by decide +kernel)⟩
theorem lw_p42 : lw_okq (⟨"VineRowsModel", "findNames", "(I)V"⟩, 27) := ⟨⟨by decide +kernel, by decide +kernel⟩, List.mem_of_getElem? (i := 500) (by decide +kernel), List.mem_of_getElem? (i := 742) (by decide +kernel), List.mem_of_getElem? (i := 743) (by decide +kernel)⟩
theorem lw_p43 : lw_okq (⟨"VineRowsModel", "isSame", "()Z"⟩, 27) := ⟨⟨by decide +kernel, by decide +kernel⟩, List.mem_of_getElem? (i := 500) (by decide +kernel), List.mem_of_getElem? (i := 746) (by decide +kernel), List.mem_of_getElem? (i := 747) (by decide +kernel)⟩
theorem lw_p44 : lw_okq (⟨"VineRowsModel", "findTwigs", "()I"⟩, 27) := ⟨⟨by decide +kernel, by decide +kernel⟩, List.mem_of_getElem? (i := 500) (by decide +kernel), List.mem_of_getElem? (i := 754) (by decide +kernel), List.mem_of_getElem? (i := 755) (by decide +kernel)⟩
theorem lw_p45 : lw_okq (⟨"VineRowsModel", "areSo", "()Z"⟩, 27) := ⟨⟨by decide +kernel, by decide +kernel⟩, List.mem_of_getElem? (i := 500) (by decide +kernel), List.mem_of_getElem? (i := 778) (by decide +kernel), List.mem_of_getElem? (i := 779) (by decide +kernel)⟩
theorem lw_p46 : lw_okq (⟨"VineRowsModel", "wayOf", "(II)I"⟩, 27) := ⟨⟨by decide +kernel, by decide +kernel⟩, List.mem_of_getElem? (i := 500) (by decide +kernel), List.mem_of_getElem? (i := 782) (by decide +kernel), List.mem_of_getElem? (i := 783) (by decide +kernel)⟩
theorem lw_p47 : lw_okq (⟨"VineRowsModel", "lost", "(I)J"⟩, 27) := ⟨⟨by decide +kernel, by decide +kernel⟩, List.mem_of_getElem? (i := 500) (by decide +kernel), List.mem_of_getElem? (i := 814) (by decide +kernel), List.mem_of_getElem? (i := 815) (by decide +kernel)⟩
def lw_privs_3 : List (MethodName × Nat) := [(⟨"VineRowsModel", "unjoin", "(II)V"⟩, 27), (⟨"VineRowsModel", "refusesPair", "(II)I"⟩, 27), (⟨"VineRowsModel", "goDay", "(II)I"⟩, 27), (⟨"VineRowsModel", "does", "(II)Z"⟩, 27), (⟨"VineRowsModel", "tellDay", "(I)I"⟩, 27), (⟨"VineRowsModel", "longest", "()I"⟩, 27), (⟨"VineRowsModel", "numberOf", "()I"⟩, 27), (⟨"VineRowsModel", "ends", "()I"⟩, 27), (⟨"VineRowsModel", "worthOfSet", "(I)I"⟩, 27), (⟨"VineRowsModel", "orders", "()I"⟩, 27), (⟨"VineRowsModel", "findNames", "(I)V"⟩, 27), (⟨"VineRowsModel", "isSame", "()Z"⟩, 27), (⟨"VineRowsModel", "findTwigs", "()I"⟩, 27), (⟨"VineRowsModel", "areSo", "()Z"⟩, 27), (⟨"VineRowsModel", "wayOf", "(II)I"⟩, 27), (⟨"VineRowsModel", "lost", "(I)J"⟩, 27)]
theorem lw_r3 : ∀ q ∈ lw_privs_3, lw_okq q := List.forall_mem_cons.mpr ⟨lw_p32, List.forall_mem_cons.mpr ⟨lw_p33, List.forall_mem_cons.mpr ⟨lw_p34, List.forall_mem_cons.mpr ⟨lw_p35, List.forall_mem_cons.mpr ⟨lw_p36, List.forall_mem_cons.mpr ⟨lw_p37, List.forall_mem_cons.mpr ⟨lw_p38, List.forall_mem_cons.mpr ⟨lw_p39, List.forall_mem_cons.mpr ⟨lw_p40, List.forall_mem_cons.mpr ⟨lw_p41, List.forall_mem_cons.mpr ⟨lw_p42, List.forall_mem_cons.mpr ⟨lw_p43, List.forall_mem_cons.mpr ⟨lw_p44, List.forall_mem_cons.mpr ⟨lw_p45, List.forall_mem_cons.mpr ⟨lw_p46, List.forall_mem_cons.mpr ⟨lw_p47, fun _ h => absurd h List.not_mem_nil⟩⟩⟩⟩⟩⟩⟩⟩⟩⟩⟩⟩⟩⟩⟩⟩
theorem lw_p48 : lw_okq (⟨"VineRowsModel", "begins", "(I)V"⟩, 27) := ⟨⟨by decide +kernel, by decide +kernel⟩, List.mem_of_getElem? (i := 500) (by decide +kernel), List.mem_of_getElem? (i := 826) (by decide +kernel), List.mem_of_getElem? (i := 827) (by decide +kernel)⟩
def lw_privs_4 : List (MethodName × Nat) := [(⟨"VineRowsModel", "begins", "(I)V"⟩, 27)]
theorem lw_r4 : ∀ q ∈ lw_privs_4, lw_okq q := List.forall_mem_cons.mpr ⟨lw_p48, fun _ h => absurd h List.not_mem_nil⟩
def lw_privs : List (MethodName × Nat) := lw_privs_1 ++ (lw_privs_2 ++ (lw_privs_3 ++ (lw_privs_4)))
def lw_tbl : List Cond := k2_sels lw_privs ++ tables_1
theorem lw_privs_ok : ∀ q ∈ lw_privs, lw_okq q := by
  show ∀ q ∈ lw_privs_1 ++ (lw_privs_2 ++ (lw_privs_3 ++ (lw_privs_4))), lw_okq q
  exact List.forall_mem_append.mpr ⟨lw_r1, List.forall_mem_append.mpr ⟨lw_r2, List.forall_mem_append.mpr ⟨lw_r3, lw_r4⟩⟩⟩
end
section
def RX0 : String := "VineRows$Readings"
def TX0 : u_T := fun k => match k with
  | 0 => ("VineRows$Readings", "count", "I", false)
  | 1 => ("VineRows$Readings", "starts", "[I", true)
  | 2 => ("VineRows$Readings", "goals", "[I", true)
  | _ => ("VineRows$Readings", "values", "[I", true)
def tyX0 : Nat → FieldType := fun k => match k with
  | 0 => .int
  | 1 => .array .int
  | 2 => .array .int
  | _ => .array .int
abbrev wsX00 : List Cond := u_ws RX0 TX0 4
theorem nmX0 : ∀ a, a < 4 → ∀ b, b < 4 → a ≠ b → (TX0 a).2.1 ≠ (TX0 b).2.1 := by decide +kernel
theorem tyX0_ok : ∀ k, k < 4 → parseFieldDescriptor (TX0 k).2.2.1 = some (tyX0 k) := by decide +kernel
abbrev cX0_init : ByteArray := prog_2_method_1_code
def yX0_init : MethodName := ⟨RX0, "<init>", "()V"⟩
abbrev cX0_take : ByteArray := prog_2_method_2_code
def yX0_take : MethodName := ⟨RX0, "take", "(III)I"⟩
abbrev cX0_askedOf : ByteArray := prog_2_method_3_code
def yX0_askedOf : MethodName := ⟨RX0, "askedOf", "(LVineRows$Vine;I)I"⟩
abbrev cX0_worthBeside : ByteArray := prog_2_method_4_code
def yX0_worthBeside : MethodName := ⟨RX0, "worthBeside", "(LVineRows$Vine;II)I"⟩
def RX1 : String := "VineRows$Shape"
def TX1 : u_T := fun k => match k with
  | 0 => ("VineRows$Shape", "signs", "[I", true)
  | 1 => ("VineRows$Shape", "below", "[I", true)
  | _ => ("VineRows$Shape", "turns", "I", false)
def tyX1 : Nat → FieldType := fun k => match k with
  | 0 => .array .int
  | 1 => .array .int
  | _ => .int
abbrev wsX10 : List Cond := u_ws RX1 TX1 3
theorem nmX1 : ∀ a, a < 3 → ∀ b, b < 3 → a ≠ b → (TX1 a).2.1 ≠ (TX1 b).2.1 := by decide +kernel
theorem tyX1_ok : ∀ k, k < 3 → parseFieldDescriptor (TX1 k).2.2.1 = some (tyX1 k) := by decide +kernel
abbrev cX1_init : ByteArray := prog_3_method_1_code
def yX1_init : MethodName := ⟨RX1, "<init>", "()V"⟩
abbrev cX1_sameShape : ByteArray := prog_3_method_2_code
def yX1_sameShape : MethodName := ⟨RX1, "sameShape", "(LVineRows$Vine;)I"⟩
abbrev cX1_signsFrom : ByteArray := prog_3_method_3_code
def yX1_signsFrom : MethodName := ⟨RX1, "signsFrom", "(LVineRows$Vine;I)I"⟩
abbrev cX1_gather : ByteArray := prog_3_method_4_code
def yX1_gather : MethodName := ⟨RX1, "gather", "(LVineRows$Vine;II)I"⟩
abbrev cX1_insert : ByteArray := prog_3_method_5_code
def yX1_insert : MethodName := ⟨RX1, "insert", "(II)V"⟩
abbrev cX1_join : ByteArray := prog_3_method_6_code
def yX1_join : MethodName := ⟨RX1, "join", "(II)V"⟩
def RX2 : String := "VineRows$Sheet"
def TX2 : u_T := fun k => match k with
  | 0 => ("VineRows$Sheet", "cells", "[I", true)
  | 1 => ("VineRows$Sheet", "lane", "I", false)
  | _ => ("VineRows$Sheet", "length", "I", false)
def tyX2 : Nat → FieldType := fun k => match k with
  | 0 => .array .int
  | 1 => .int
  | _ => .int
abbrev wsX20 : List Cond := u_ws RX2 TX2 3
theorem nmX2 : ∀ a, a < 3 → ∀ b, b < 3 → a ≠ b → (TX2 a).2.1 ≠ (TX2 b).2.1 := by decide +kernel
theorem tyX2_ok : ∀ k, k < 3 → parseFieldDescriptor (TX2 k).2.2.1 = some (tyX2 k) := by decide +kernel
abbrev cX2_init : ByteArray := prog_4_method_1_code
def yX2_init : MethodName := ⟨RX2, "<init>", "()V"⟩
abbrev cX2_begin : ByteArray := prog_4_method_2_code
def yX2_begin : MethodName := ⟨RX2, "begin", "(II)V"⟩
abbrev cX2_faultAs : ByteArray := prog_4_method_3_code
def yX2_faultAs : MethodName := ⟨RX2, "faultAs", "(I)I"⟩
abbrev cX2_has : ByteArray := prog_4_method_4_code
def yX2_has : MethodName := ⟨RX2, "has", "(II)Z"⟩
abbrev cX2_at : ByteArray := prog_4_method_5_code
def yX2_at : MethodName := ⟨RX2, "at", "(I)I"⟩
abbrev cX2_cut : ByteArray := prog_4_method_6_code
def yX2_cut : MethodName := ⟨RX2, "cut", "(I)I"⟩
def RX3 : String := "VineRows$Text"
def TX3 : u_T := fun k => match k with
  | _ => ("", "", "", false)
def tyX3 : Nat → FieldType := fun k => match k with
  | _ => .int
abbrev wsX30 : List Cond := u_ws RX3 TX3 0
theorem nmX3 : ∀ a, a < 0 → ∀ b, b < 0 → a ≠ b → (TX3 a).2.1 ≠ (TX3 b).2.1 := by decide +kernel
theorem tyX3_ok : ∀ k, k < 0 → parseFieldDescriptor (TX3 k).2.2.1 = some (tyX3 k) := by decide +kernel
abbrev cX3_firstFault : ByteArray := prog_5_method_2_code
def yX3_firstFault : MethodName := ⟨RX3, "firstFault", "(LVineRows$Sheet;II)I"⟩
abbrev cX3_goesOn : ByteArray := prog_5_method_3_code
def yX3_goesOn : MethodName := ⟨RX3, "goesOn", "(III)Z"⟩
abbrev cX3_kindOf : ByteArray := prog_5_method_4_code
def yX3_kindOf : MethodName := ⟨RX3, "kindOf", "(I)I"⟩
abbrev cX3_digitAt : ByteArray := prog_5_method_5_code
def yX3_digitAt : MethodName := ⟨RX3, "digitAt", "(LVineRows$Sheet;II)I"⟩
def RX4 : String := "VineRows$Vine"
def TX4 : u_T := fun k => match k with
  | 0 => ("VineRows$Vine", "posts", "I", false)
  | 1 => ("VineRows$Vine", "kinds", "[I", true)
  | 2 => ("VineRows$Vine", "loads", "[I", true)
  | 3 => ("VineRows$Vine", "twigs", "[I", true)
  | 4 => ("VineRows$Vine", "away", "[[I", true)
  | 5 => ("VineRows$Vine", "taken", "[I", true)
  | 6 => ("VineRows$Vine", "hung", "[I", true)
  | 7 => ("VineRows$Vine", "with", "[I", true)
  | _ => ("VineRows$Vine", "without", "[I", true)
def tyX4 : Nat → FieldType := fun k => match k with
  | 0 => .int
  | 1 => .array .int
  | 2 => .array .int
  | 3 => .array .int
  | 4 => .array (.array .int)
  | 5 => .array .int
  | 6 => .array .int
  | 7 => .array .int
  | _ => .array .int
abbrev wsX40 : List Cond := u_ws RX4 TX4 9
theorem nmX4 : ∀ a, a < 9 → ∀ b, b < 9 → a ≠ b → (TX4 a).2.1 ≠ (TX4 b).2.1 := by decide +kernel
theorem tyX4_ok : ∀ k, k < 9 → parseFieldDescriptor (TX4 k).2.2.1 = some (tyX4 k) := by decide +kernel
abbrev cX4_init : ByteArray := prog_6_method_1_code
def yX4_init : MethodName := ⟨RX4, "<init>", "()V"⟩
abbrev cX4_isPost : ByteArray := prog_6_method_2_code
def yX4_isPost : MethodName := ⟨RX4, "isPost", "(I)Z"⟩
abbrev cX4_isEnd : ByteArray := prog_6_method_3_code
def yX4_isEnd : MethodName := ⟨RX4, "isEnd", "(I)Z"⟩
abbrev cX4_worth : ByteArray := prog_6_method_4_code
def yX4_worth : MethodName := ⟨RX4, "worth", "(I)I"⟩
abbrev cX4_worthOfAll : ByteArray := prog_6_method_5_code
def yX4_worthOfAll : MethodName := ⟨RX4, "worthOfAll", "()I"⟩
abbrev cX4_ends : ByteArray := prog_6_method_6_code
def yX4_ends : MethodName := ⟨RX4, "ends", "()I"⟩
abbrev cX4_isOnWay : ByteArray := prog_6_method_7_code
def yX4_isOnWay : MethodName := ⟨RX4, "isOnWay", "(III)Z"⟩
abbrev cX4_farthest : ByteArray := prog_6_method_8_code
def yX4_farthest : MethodName := ⟨RX4, "farthest", "(I)I"⟩
abbrev cX4_longest : ByteArray := prog_6_method_9_code
def yX4_longest : MethodName := ⟨RX4, "longest", "()I"⟩
abbrev cX4_middles : ByteArray := prog_6_method_10_code
def yX4_middles : MethodName := ⟨RX4, "middles", "()I"⟩
abbrev cX4_twosWithin : ByteArray := prog_6_method_11_code
def yX4_twosWithin : MethodName := ⟨RX4, "twosWithin", "(I)I"⟩
abbrev cX4_become : ByteArray := prog_6_method_12_code
def yX4_become : MethodName := ⟨RX4, "become", "(LVineRows$Vine;)V"⟩
abbrev cX4_grow : ByteArray := prog_6_method_13_code
def yX4_grow : MethodName := ⟨RX4, "grow", "(LVineRows$Sheet;I)V"⟩
abbrev cX4_findTaken : ByteArray := prog_6_method_14_code
def yX4_findTaken : MethodName := ⟨RX4, "findTaken", "()V"⟩
abbrev cX4_namedFrom : ByteArray := prog_6_method_15_code
def yX4_namedFrom : MethodName := ⟨RX4, "namedFrom", "(I)I"⟩
abbrev cX4_tie : ByteArray := prog_6_method_16_code
def yX4_tie : MethodName := ⟨RX4, "tie", "(II)V"⟩
abbrev cX4_hangOn : ByteArray := prog_6_method_17_code
def yX4_hangOn : MethodName := ⟨RX4, "hangOn", "(II)I"⟩
abbrev cX4_strip : ByteArray := prog_6_method_18_code
def yX4_strip : MethodName := ⟨RX4, "strip", "()V"⟩
abbrev cX4_leastEnd : ByteArray := prog_6_method_19_code
def yX4_leastEnd : MethodName := ⟨RX4, "leastEnd", "(I)I"⟩
abbrev cX4_numberOfRow : ByteArray := prog_6_method_20_code
def yX4_numberOfRow : MethodName := ⟨RX4, "numberOfRow", "()I"⟩
abbrev cX4_twigsApart : ByteArray := prog_6_method_21_code
def yX4_twigsApart : MethodName := ⟨RX4, "twigsApart", "()I"⟩
abbrev cX4_bestApart : ByteArray := prog_6_method_22_code
def yX4_bestApart : MethodName := ⟨RX4, "bestApart", "()I"⟩
def RX5 : String := "VineRows"
def TX5 : u_T := fun k => match k with
  | 0 => ("VineRows", "now", "LVineRows$Vine;", true)
  | 1 => ("VineRows", "trial", "LVineRows$Vine;", true)
  | 2 => ("VineRows", "shape", "LVineRows$Shape;", true)
  | 3 => ("VineRows", "readings", "LVineRows$Readings;", true)
  | 4 => ("VineRows", "sheets", "[LVineRows$Sheet;", true)
  | 5 => ("VineRows", "grafts", "I", false)
  | 6 => ("VineRows", "steps", "I", false)
  | _ => ("VineRows", "latestFault", "I", false)
def tyX5 : Nat → FieldType := fun k => match k with
  | 0 => .object "VineRows$Vine"
  | 1 => .object "VineRows$Vine"
  | 2 => .object "VineRows$Shape"
  | 3 => .object "VineRows$Readings"
  | 4 => .array (.object "VineRows$Sheet")
  | 5 => .int
  | 6 => .int
  | _ => .int
abbrev wsX50 : List Cond := u_ws RX5 TX5 8
theorem nmX5 : ∀ a, a < 8 → ∀ b, b < 8 → a ≠ b → (TX5 a).2.1 ≠ (TX5 b).2.1 := by decide +kernel
theorem tyX5_ok : ∀ k, k < 8 → parseFieldDescriptor (TX5 k).2.2.1 = some (tyX5 k) := by decide +kernel
abbrev cX5_init : ByteArray := prog_1_method_1_code
def yX5_init : MethodName := ⟨RX5, "<init>", "()V"⟩
abbrev cX5_vine : ByteArray := prog_1_method_2_code
def yX5_vine : MethodName := ⟨RX5, "vine", "(IIII)I"⟩
abbrev cX5_ofPost : ByteArray := prog_1_method_3_code
def yX5_ofPost : MethodName := ⟨RX5, "ofPost", "(II)I"⟩
abbrev cX5_load : ByteArray := prog_1_method_4_code
def yX5_load : MethodName := ⟨RX5, "load", "(II)I"⟩
abbrev cX5_row : ByteArray := prog_1_method_5_code
def yX5_row : MethodName := ⟨RX5, "row", "(I)I"⟩
abbrev cX5_graft : ByteArray := prog_1_method_6_code
def yX5_graft : MethodName := ⟨RX5, "graft", "(II)I"⟩
abbrev cX5_day : ByteArray := prog_1_method_7_code
def yX5_day : MethodName := ⟨RX5, "day", "(IIIII)I"⟩
abbrev cX5_isOfDay : ByteArray := prog_1_method_8_code
def yX5_isOfDay : MethodName := ⟨RX5, "isOfDay", "(I)Z"⟩
abbrev cX5_refusalOfPairs : ByteArray := prog_1_method_9_code
def yX5_refusalOfPairs : MethodName := ⟨RX5, "refusalOfPairs", "(LVineRows$Sheet;II)I"⟩
abbrev cX5_refusalOfPair : ByteArray := prog_1_method_10_code
def yX5_refusalOfPair : MethodName := ⟨RX5, "refusalOfPair", "(II)I"⟩
abbrev cX5_firstWrong : ByteArray := prog_1_method_11_code
def yX5_firstWrong : MethodName := ⟨RX5, "firstWrong", "(LVineRows$Sheet;II)I"⟩
abbrev cX5_tried : ByteArray := prog_1_method_12_code
def yX5_tried : MethodName := ⟨RX5, "tried", "(II)Z"⟩
abbrev cX5_ofTrial : ByteArray := prog_1_method_13_code
def yX5_ofTrial : MethodName := ⟨RX5, "ofTrial", "(I)I"⟩
abbrev cX5_far : ByteArray := prog_1_method_14_code
def yX5_far : MethodName := ⟨RX5, "far", "(II)I"⟩
abbrev cX5_way : ByteArray := prog_1_method_15_code
def yX5_way : MethodName := ⟨RX5, "way", "(III)I"⟩
abbrev cX5_middle : ByteArray := prog_1_method_16_code
def yX5_middle : MethodName := ⟨RX5, "middle", "(I)I"⟩
abbrev cX5_number : ByteArray := prog_1_method_17_code
def yX5_number : MethodName := ⟨RX5, "number", "()I"⟩
abbrev cX5_alike : ByteArray := prog_1_method_18_code
def yX5_alike : MethodName := ⟨RX5, "alike", "()I"⟩
abbrev cX5_pairs : ByteArray := prog_1_method_19_code
def yX5_pairs : MethodName := ⟨RX5, "pairs", "()I"⟩
abbrev cX5_loners : ByteArray := prog_1_method_20_code
def yX5_loners : MethodName := ⟨RX5, "loners", "(I)I"⟩
abbrev cX5_part : ByteArray := prog_1_method_21_code
def yX5_part : MethodName := ⟨RX5, "part", "(II)I"⟩
abbrev cX5_reading : ByteArray := prog_1_method_22_code
def yX5_reading : MethodName := ⟨RX5, "reading", "(III)I"⟩
abbrev cX5_back : ByteArray := prog_1_method_23_code
def yX5_back : MethodName := ⟨RX5, "back", "(I)I"⟩
abbrev cX5_loadings : ByteArray := prog_1_method_24_code
def yX5_loadings : MethodName := ⟨RX5, "loadings", "(I)I"⟩
abbrev cX5_kinds : ByteArray := prog_1_method_25_code
def yX5_kinds : MethodName := ⟨RX5, "kinds", "(I)I"⟩
abbrev cX5_odds : ByteArray := prog_1_method_26_code
def yX5_odds : MethodName := ⟨RX5, "odds", "(II)J"⟩
abbrev cX5_sheet : ByteArray := prog_1_method_27_code
def yX5_sheet : MethodName := ⟨RX5, "sheet", "(III)I"⟩
abbrev cX5_lose : ByteArray := prog_1_method_28_code
def yX5_lose : MethodName := ⟨RX5, "lose", "(I)I"⟩
abbrev cX5_put : ByteArray := prog_1_method_29_code
def yX5_put : MethodName := ⟨RX5, "put", "(III)I"⟩
abbrev cX5_cell : ByteArray := prog_1_method_30_code
def yX5_cell : MethodName := ⟨RX5, "cell", "(III)J"⟩
abbrev cX5_copy : ByteArray := prog_1_method_31_code
def yX5_copy : MethodName := ⟨RX5, "copy", "(IIIII)I"⟩
abbrev cX5_tell : ByteArray := prog_1_method_32_code
def yX5_tell : MethodName := ⟨RX5, "tell", "(I)I"⟩
abbrev cX5_tellPlain : ByteArray := prog_1_method_33_code
def yX5_tellPlain : MethodName := ⟨RX5, "tellPlain", "(I)I"⟩
abbrev cX5_tellBroad : ByteArray := prog_1_method_34_code
def yX5_tellBroad : MethodName := ⟨RX5, "tellBroad", "(I)I"⟩
abbrev cX5_tellDouble : ByteArray := prog_1_method_35_code
def yX5_tellDouble : MethodName := ⟨RX5, "tellDouble", "(I)I"⟩
abbrev cX5_knock : ByteArray := prog_1_method_36_code
def yX5_knock : MethodName := ⟨RX5, "knock", "(I)I"⟩
abbrev cX5_as : ByteArray := prog_1_method_37_code
def yX5_as : MethodName := ⟨RX5, "as", "(II)I"⟩
abbrev cX5_trace : ByteArray := prog_1_method_38_code
def yX5_trace : MethodName := ⟨RX5, "trace", "()I"⟩
abbrev cX5_fault : ByteArray := prog_1_method_39_code
def yX5_fault : MethodName := ⟨RX5, "fault", "()I"⟩
abbrev cX5_many : ByteArray := prog_1_method_40_code
def yX5_many : MethodName := ⟨RX5, "many", "(I)I"⟩
abbrev cX5_leave : ByteArray := prog_1_method_41_code
def yX5_leave : MethodName := ⟨RX5, "leave", "(I)V"⟩
abbrev cX5_faulted : ByteArray := prog_1_method_42_code
def yX5_faulted : MethodName := ⟨RX5, "faulted", "(I)I"⟩
abbrev cX5_isSheet : ByteArray := prog_1_method_43_code
def yX5_isSheet : MethodName := ⟨RX5, "isSheet", "(I)Z"⟩
abbrev cX5_isLane : ByteArray := prog_1_method_44_code
def yX5_isLane : MethodName := ⟨RX5, "isLane", "(I)Z"⟩
abbrev cX5_worthOf : ByteArray := prog_1_method_45_code
def yX5_worthOf : MethodName := ⟨RX5, "worthOf", "(II)I"⟩
abbrev cX5_leastOf : ByteArray := prog_1_method_46_code
def yX5_leastOf : MethodName := ⟨RX5, "leastOf", "(I)I"⟩
def RX6 : String := "VineRowsModel"
def TX6 : u_T := fun k => match k with
  | 0 => ("VineRowsModel", "fault", "I", false)
  | 1 => ("VineRowsModel", "trace", "I", false)
  | 2 => ("VineRowsModel", "sorts", "[I", true)
  | 3 => ("VineRowsModel", "sheetLong", "[I", true)
  | 4 => ("VineRowsModel", "cells", "[I", true)
  | 5 => ("VineRowsModel", "posts", "I", false)
  | 6 => ("VineRowsModel", "grafts", "I", false)
  | 7 => ("VineRowsModel", "twigs", "[I", true)
  | 8 => ("VineRowsModel", "kind", "[I", true)
  | 9 => ("VineRowsModel", "loads", "[I", true)
  | 10 => ("VineRowsModel", "at", "I", false)
  | 11 => ("VineRowsModel", "readPosts", "I", false)
  | 12 => ("VineRowsModel", "readRow", "[I", true)
  | 13 => ("VineRowsModel", "readKind", "[I", true)
  | 14 => ("VineRowsModel", "readLoad", "[I", true)
  | 15 => ("VineRowsModel", "fars", "[I", true)
  | 16 => ("VineRowsModel", "rowNow", "[I", true)
  | 17 => ("VineRowsModel", "less", "[I", true)
  | 18 => ("VineRowsModel", "keptTwigs", "[I", true)
  | 19 => ("VineRowsModel", "keptLoads", "[I", true)
  | 20 => ("VineRowsModel", "names", "[I", true)
  | 21 => ("VineRowsModel", "twigA", "[I", true)
  | 22 => ("VineRowsModel", "twigB", "[I", true)
  | 23 => ("VineRowsModel", "readings", "I", false)
  | 24 => ("VineRowsModel", "readFrom", "[I", true)
  | 25 => ("VineRowsModel", "readTo", "[I", true)
  | _ => ("VineRowsModel", "readWorth", "[I", true)
def tyX6 : Nat → FieldType := fun k => match k with
  | 0 => .int
  | 1 => .int
  | 2 => .array .int
  | 3 => .array .int
  | 4 => .array .int
  | 5 => .int
  | 6 => .int
  | 7 => .array .int
  | 8 => .array .int
  | 9 => .array .int
  | 10 => .int
  | 11 => .int
  | 12 => .array .int
  | 13 => .array .int
  | 14 => .array .int
  | 15 => .array .int
  | 16 => .array .int
  | 17 => .array .int
  | 18 => .array .int
  | 19 => .array .int
  | 20 => .array .int
  | 21 => .array .int
  | 22 => .array .int
  | 23 => .int
  | 24 => .array .int
  | 25 => .array .int
  | _ => .array .int
abbrev wsX60 : List Cond := u_ws RX6 TX6 27
theorem nmX6 : ∀ a, a < 27 → ∀ b, b < 27 → a ≠ b → (TX6 a).2.1 ≠ (TX6 b).2.1 := by decide +kernel
theorem tyX6_ok : ∀ k, k < 27 → parseFieldDescriptor (TX6 k).2.2.1 = some (tyX6 k) := by decide +kernel
abbrev cX6_init : ByteArray := prog_8_method_1_code
def yX6_init : MethodName := ⟨RX6, "<init>", "()V"⟩
abbrev cX6_fails : ByteArray := prog_8_method_3_code
def yX6_fails : MethodName := ⟨RX6, "fails", "(I)I"⟩
abbrev cX6_lost : ByteArray := prog_8_method_4_code
def yX6_lost : MethodName := ⟨RX6, "lost", "(I)J"⟩
abbrev cX6_within : ByteArray := prog_8_method_5_code
def yX6_within : MethodName := ⟨RX6, "within", "(III)Z"⟩
abbrev cX6_isSheet : ByteArray := prog_8_method_6_code
def yX6_isSheet : MethodName := ⟨RX6, "isSheet", "(I)Z"⟩
abbrev cX6_isSort : ByteArray := prog_8_method_7_code
def yX6_isSort : MethodName := ⟨RX6, "isSort", "(I)Z"⟩
abbrev cX6_against : ByteArray := prog_8_method_8_code
def yX6_against : MethodName := ⟨RX6, "against", "(IIII)I"⟩
abbrev cX6_isPost : ByteArray := prog_8_method_9_code
def yX6_isPost : MethodName := ⟨RX6, "isPost", "(I)Z"⟩
abbrev cX6_areTwo : ByteArray := prog_8_method_10_code
def yX6_areTwo : MethodName := ⟨RX6, "areTwo", "(II)Z"⟩
abbrev cX6_isOf : ByteArray := prog_8_method_11_code
def yX6_isOf : MethodName := ⟨RX6, "isOf", "(II)Z"⟩
abbrev cX6_size : ByteArray := prog_8_method_12_code
def yX6_size : MethodName := ⟨RX6, "size", "(I)I"⟩
abbrev cX6_leastOf : ByteArray := prog_8_method_13_code
def yX6_leastOf : MethodName := ⟨RX6, "leastOf", "(I)I"⟩
abbrev cX6_digit : ByteArray := prog_8_method_14_code
def yX6_digit : MethodName := ⟨RX6, "digit", "(III)I"⟩
abbrev cX6_vine : ByteArray := prog_8_method_15_code
def yX6_vine : MethodName := ⟨RX6, "vine", "(IIII)I"⟩
abbrev cX6_readVine : ByteArray := prog_8_method_16_code
def yX6_readVine : MethodName := ⟨RX6, "readVine", "(I)Z"⟩
abbrev cX6_readPost : ByteArray := prog_8_method_17_code
def yX6_readPost : MethodName := ⟨RX6, "readPost", "(II)Z"⟩
abbrev cX6_join : ByteArray := prog_8_method_18_code
def yX6_join : MethodName := ⟨RX6, "join", "(II)V"⟩
abbrev cX6_unjoin : ByteArray := prog_8_method_19_code
def yX6_unjoin : MethodName := ⟨RX6, "unjoin", "(II)V"⟩
abbrev cX6_growVine : ByteArray := prog_8_method_20_code
def yX6_growVine : MethodName := ⟨RX6, "growVine", "()V"⟩
abbrev cX6_worthOf : ByteArray := prog_8_method_21_code
def yX6_worthOf : MethodName := ⟨RX6, "worthOf", "(I)I"⟩
abbrev cX6_worthOfSet : ByteArray := prog_8_method_22_code
def yX6_worthOfSet : MethodName := ⟨RX6, "worthOfSet", "(I)I"⟩
abbrev cX6_ends : ByteArray := prog_8_method_23_code
def yX6_ends : MethodName := ⟨RX6, "ends", "()I"⟩
abbrev cX6_findFars : ByteArray := prog_8_method_24_code
def yX6_findFars : MethodName := ⟨RX6, "findFars", "()V"⟩
abbrev cX6_farthestFrom : ByteArray := prog_8_method_25_code
def yX6_farthestFrom : MethodName := ⟨RX6, "farthestFrom", "(I)I"⟩
abbrev cX6_longest : ByteArray := prog_8_method_26_code
def yX6_longest : MethodName := ⟨RX6, "longest", "()I"⟩
abbrev cX6_ofPost : ByteArray := prog_8_method_27_code
def yX6_ofPost : MethodName := ⟨RX6, "ofPost", "(II)I"⟩
abbrev cX6_load : ByteArray := prog_8_method_28_code
def yX6_load : MethodName := ⟨RX6, "load", "(II)I"⟩
abbrev cX6_findRow : ByteArray := prog_8_method_29_code
def yX6_findRow : MethodName := ⟨RX6, "findRow", "()V"⟩
abbrev cX6_row : ByteArray := prog_8_method_30_code
def yX6_row : MethodName := ⟨RX6, "row", "(I)I"⟩
abbrev cX6_graft : ByteArray := prog_8_method_31_code
def yX6_graft : MethodName := ⟨RX6, "graft", "(II)I"⟩
abbrev cX6_does : ByteArray := prog_8_method_32_code
def yX6_does : MethodName := ⟨RX6, "does", "(II)Z"⟩
abbrev cX6_goDay : ByteArray := prog_8_method_33_code
def yX6_goDay : MethodName := ⟨RX6, "goDay", "(II)I"⟩
abbrev cX6_refusesPair : ByteArray := prog_8_method_34_code
def yX6_refusesPair : MethodName := ⟨RX6, "refusesPair", "(II)I"⟩
abbrev cX6_day : ByteArray := prog_8_method_35_code
def yX6_day : MethodName := ⟨RX6, "day", "(IIIII)I"⟩
abbrev cX6_tellDay : ByteArray := prog_8_method_36_code
def yX6_tellDay : MethodName := ⟨RX6, "tellDay", "(I)I"⟩
abbrev cX6_far : ByteArray := prog_8_method_37_code
def yX6_far : MethodName := ⟨RX6, "far", "(II)I"⟩
abbrev cX6_way : ByteArray := prog_8_method_38_code
def yX6_way : MethodName := ⟨RX6, "way", "(III)I"⟩
abbrev cX6_middle : ByteArray := prog_8_method_39_code
def yX6_middle : MethodName := ⟨RX6, "middle", "(I)I"⟩
abbrev cX6_numberOf : ByteArray := prog_8_method_40_code
def yX6_numberOf : MethodName := ⟨RX6, "numberOf", "()I"⟩
abbrev cX6_number : ByteArray := prog_8_method_41_code
def yX6_number : MethodName := ⟨RX6, "number", "()I"⟩
abbrev cX6_orders : ByteArray := prog_8_method_42_code
def yX6_orders : MethodName := ⟨RX6, "orders", "()I"⟩
abbrev cX6_findNames : ByteArray := prog_8_method_43_code
def yX6_findNames : MethodName := ⟨RX6, "findNames", "(I)V"⟩
abbrev cX6_isSame : ByteArray := prog_8_method_44_code
def yX6_isSame : MethodName := ⟨RX6, "isSame", "()Z"⟩
abbrev cX6_alike : ByteArray := prog_8_method_45_code
def yX6_alike : MethodName := ⟨RX6, "alike", "()I"⟩
abbrev cX6_findTwigs : ByteArray := prog_8_method_46_code
def yX6_findTwigs : MethodName := ⟨RX6, "findTwigs", "()I"⟩
abbrev cX6_pairs : ByteArray := prog_8_method_47_code
def yX6_pairs : MethodName := ⟨RX6, "pairs", "()I"⟩
abbrev cX6_loners : ByteArray := prog_8_method_48_code
def yX6_loners : MethodName := ⟨RX6, "loners", "(I)I"⟩
abbrev cX6_part : ByteArray := prog_8_method_49_code
def yX6_part : MethodName := ⟨RX6, "part", "(II)I"⟩
abbrev cX6_reading : ByteArray := prog_8_method_50_code
def yX6_reading : MethodName := ⟨RX6, "reading", "(III)I"⟩
abbrev cX6_back : ByteArray := prog_8_method_51_code
def yX6_back : MethodName := ⟨RX6, "back", "(I)I"⟩
abbrev cX6_wayOf : ByteArray := prog_8_method_52_code
def yX6_wayOf : MethodName := ⟨RX6, "wayOf", "(II)I"⟩
abbrev cX6_areSo : ByteArray := prog_8_method_53_code
def yX6_areSo : MethodName := ⟨RX6, "areSo", "()Z"⟩
abbrev cX6_loadings : ByteArray := prog_8_method_54_code
def yX6_loadings : MethodName := ⟨RX6, "loadings", "(I)I"⟩
abbrev cX6_kinds : ByteArray := prog_8_method_55_code
def yX6_kinds : MethodName := ⟨RX6, "kinds", "(I)I"⟩
abbrev cX6_inLeastTerms : ByteArray := prog_8_method_56_code
def yX6_inLeastTerms : MethodName := ⟨RX6, "inLeastTerms", "(JJI)J"⟩
abbrev cX6_odds : ByteArray := prog_8_method_57_code
def yX6_odds : MethodName := ⟨RX6, "odds", "(II)J"⟩
abbrev cX6_sheet : ByteArray := prog_8_method_58_code
def yX6_sheet : MethodName := ⟨RX6, "sheet", "(III)I"⟩
abbrev cX6_lose : ByteArray := prog_8_method_59_code
def yX6_lose : MethodName := ⟨RX6, "lose", "(I)I"⟩
abbrev cX6_put : ByteArray := prog_8_method_60_code
def yX6_put : MethodName := ⟨RX6, "put", "(III)I"⟩
abbrev cX6_cell : ByteArray := prog_8_method_61_code
def yX6_cell : MethodName := ⟨RX6, "cell", "(III)J"⟩
abbrev cX6_copy : ByteArray := prog_8_method_62_code
def yX6_copy : MethodName := ⟨RX6, "copy", "(IIIII)I"⟩
abbrev cX6_begins : ByteArray := prog_8_method_63_code
def yX6_begins : MethodName := ⟨RX6, "begins", "(I)V"⟩
abbrev cX6_tell : ByteArray := prog_8_method_64_code
def yX6_tell : MethodName := ⟨RX6, "tell", "(I)I"⟩
abbrev cX6_knock : ByteArray := prog_8_method_65_code
def yX6_knock : MethodName := ⟨RX6, "knock", "(I)I"⟩
abbrev cX6_as : ByteArray := prog_8_method_66_code
def yX6_as : MethodName := ⟨RX6, "as", "(II)I"⟩
abbrev cX6_trace : ByteArray := prog_8_method_67_code
def yX6_trace : MethodName := ⟨RX6, "trace", "()I"⟩
abbrev cX6_fault : ByteArray := prog_8_method_68_code
def yX6_fault : MethodName := ⟨RX6, "fault", "()I"⟩
abbrev cX6_many : ByteArray := prog_8_method_69_code
def yX6_many : MethodName := ⟨RX6, "many", "(I)I"⟩
def RJ6 : String := "java/lang/Integer"
def TJ6 : u_T := fun k => match k with
  | _ => ("", "", "", false)
def tyJ6 : Nat → FieldType := fun k => match k with
  | _ => .int
abbrev wsJ60 : List Cond := u_ws RJ6 TJ6 0
theorem nmJ6 : ∀ a, a < 0 → ∀ b, b < 0 → a ≠ b → (TJ6 a).2.1 ≠ (TJ6 b).2.1 := by decide +kernel
theorem tyJ6_ok : ∀ k, k < 0 → parseFieldDescriptor (TJ6 k).2.2.1 = some (tyJ6 k) := by decide +kernel
abbrev cJ6_bitCount_0f7a4 : ByteArray := prog_9_method_49_code
def yJ6_bitCount_0f7a4 : MethodName := ⟨RJ6, "bitCount", "(I)I"⟩
def RJ9 : String := "java/lang/Math"
def TJ9 : u_T := fun k => match k with
  | _ => ("", "", "", false)
def tyJ9 : Nat → FieldType := fun k => match k with
  | _ => .int
abbrev wsJ90 : List Cond := u_ws RJ9 TJ9 0
theorem nmJ9 : ∀ a, a < 0 → ∀ b, b < 0 → a ≠ b → (TJ9 a).2.1 ≠ (TJ9 b).2.1 := by decide +kernel
theorem tyJ9_ok : ∀ k, k < 0 → parseFieldDescriptor (TJ9 k).2.2.1 = some (tyJ9 k) := by decide +kernel
abbrev cJ9_max_7cf53 : ByteArray := prog_10_method_65_code
def yJ9_max_7cf53 : MethodName := ⟨RJ9, "max", "(II)I"⟩
abbrev cJ9_min_7cf53 : ByteArray := prog_10_method_69_code
def yJ9_min_7cf53 : MethodName := ⟨RJ9, "min", "(II)I"⟩
def RJ10 : String := "java/lang/System"
def TJ10 : u_T := fun k => match k with
  | _ => ("", "", "", false)
def tyJ10 : Nat → FieldType := fun k => match k with
  | _ => .int
abbrev wsJ100 : List Cond := u_ws RJ10 TJ10 0
theorem nmJ10 : ∀ a, a < 0 → ∀ b, b < 0 → a ≠ b → (TJ10 a).2.1 ≠ (TJ10 b).2.1 := by decide +kernel
theorem tyJ10_ok : ∀ k, k < 0 → parseFieldDescriptor (TJ10 k).2.2.1 = some (tyJ10 k) := by decide +kernel
def RL : String := "VineRowsLaw"
abbrev cL_law : ByteArray := code
def yL_law : MethodName := ⟨RL, "law", "([I)Z"⟩
end
section
theorem dX0_init_0 : decode cX0_init 0 = .ok (.aload_n 0, 1) := by decide +kernel
theorem dX0_init_1 : decode cX0_init 1 = .ok (.invokespecial 3, 3) := by decide +kernel
theorem dX0_init_4 : decode cX0_init 4 = .ok (.aload_n 0, 1) := by decide +kernel
theorem dX0_init_5 : decode cX0_init 5 = .ok (.bipush 8, 2) := by decide +kernel
theorem dX0_init_7 : decode cX0_init 7 = .ok (.newarray .int, 2) := by decide +kernel
theorem dX0_init_9 : decode cX0_init 9 = .ok (.putfield 9, 3) := by decide +kernel
theorem dX0_init_12 : decode cX0_init 12 = .ok (.aload_n 0, 1) := by decide +kernel
theorem dX0_init_13 : decode cX0_init 13 = .ok (.bipush 8, 2) := by decide +kernel
theorem dX0_init_15 : decode cX0_init 15 = .ok (.newarray .int, 2) := by decide +kernel
theorem dX0_init_17 : decode cX0_init 17 = .ok (.putfield 15, 3) := by decide +kernel
theorem dX0_init_20 : decode cX0_init 20 = .ok (.aload_n 0, 1) := by decide +kernel
theorem dX0_init_21 : decode cX0_init 21 = .ok (.bipush 8, 2) := by decide +kernel
theorem dX0_init_23 : decode cX0_init 23 = .ok (.newarray .int, 2) := by decide +kernel
theorem dX0_init_25 : decode cX0_init 25 = .ok (.putfield 18, 3) := by decide +kernel
theorem dX0_init_28 : decode cX0_init 28 = .ok (.return_, 1) := by decide +kernel
theorem dX0_take_0 : decode cX0_take 0 = .ok (.aload_n 0, 1) := by decide +kernel
theorem dX0_take_1 : decode cX0_take 1 = .ok (.getfield 9, 3) := by decide +kernel
theorem dX0_take_4 : decode cX0_take 4 = .ok (.aload_n 0, 1) := by decide +kernel
theorem dX0_take_5 : decode cX0_take 5 = .ok (.getfield 21, 3) := by decide +kernel
theorem dX0_take_8 : decode cX0_take 8 = .ok (.iload_n 1, 1) := by decide +kernel
theorem dX0_take_9 : decode cX0_take 9 = .ok (.iastore, 1) := by decide +kernel
theorem dX0_take_10 : decode cX0_take 10 = .ok (.aload_n 0, 1) := by decide +kernel
theorem dX0_take_11 : decode cX0_take 11 = .ok (.getfield 15, 3) := by decide +kernel
theorem dX0_take_14 : decode cX0_take 14 = .ok (.aload_n 0, 1) := by decide +kernel
theorem dX0_take_15 : decode cX0_take 15 = .ok (.getfield 21, 3) := by decide +kernel
theorem dX0_take_18 : decode cX0_take 18 = .ok (.iload_n 2, 1) := by decide +kernel
theorem dX0_take_19 : decode cX0_take 19 = .ok (.iastore, 1) := by decide +kernel
theorem dX0_take_20 : decode cX0_take 20 = .ok (.aload_n 0, 1) := by decide +kernel
theorem dX0_take_21 : decode cX0_take 21 = .ok (.getfield 18, 3) := by decide +kernel
theorem dX0_take_24 : decode cX0_take 24 = .ok (.aload_n 0, 1) := by decide +kernel
theorem dX0_take_25 : decode cX0_take 25 = .ok (.getfield 21, 3) := by decide +kernel
theorem dX0_take_28 : decode cX0_take 28 = .ok (.iload_n 3, 1) := by decide +kernel
theorem dX0_take_29 : decode cX0_take 29 = .ok (.iastore, 1) := by decide +kernel
theorem dX0_take_30 : decode cX0_take 30 = .ok (.aload_n 0, 1) := by decide +kernel
theorem dX0_take_31 : decode cX0_take 31 = .ok (.dup, 1) := by decide +kernel
theorem dX0_take_32 : decode cX0_take 32 = .ok (.getfield 21, 3) := by decide +kernel
theorem dX0_take_35 : decode cX0_take 35 = .ok (.iconst 1, 1) := by decide +kernel
theorem dX0_take_36 : decode cX0_take 36 = .ok (.iadd, 1) := by decide +kernel
theorem dX0_take_37 : decode cX0_take 37 = .ok (.putfield 21, 3) := by decide +kernel
theorem dX0_take_40 : decode cX0_take 40 = .ok (.aload_n 0, 1) := by decide +kernel
theorem dX0_take_41 : decode cX0_take 41 = .ok (.getfield 21, 3) := by decide +kernel
theorem dX0_take_44 : decode cX0_take 44 = .ok (.iconst 1, 1) := by decide +kernel
theorem dX0_take_45 : decode cX0_take 45 = .ok (.isub, 1) := by decide +kernel
theorem dX0_take_46 : decode cX0_take 46 = .ok (.ireturn, 1) := by decide +kernel
theorem dX0_askedOf_0 : decode cX0_askedOf 0 = .ok (.iconst (-1), 1) := by decide +kernel
theorem dX0_askedOf_1 : decode cX0_askedOf 1 = .ok (.istore_n 3, 1) := by decide +kernel
theorem dX0_askedOf_2 : decode cX0_askedOf 2 = .ok (.iconst 0, 1) := by decide +kernel
theorem dX0_askedOf_3 : decode cX0_askedOf 3 = .ok (.istore 4, 2) := by decide +kernel
theorem dX0_askedOf_5 : decode cX0_askedOf 5 = .ok (.iload 4, 2) := by decide +kernel
theorem dX0_askedOf_7 : decode cX0_askedOf 7 = .ok (.aload_n 0, 1) := by decide +kernel
theorem dX0_askedOf_8 : decode cX0_askedOf 8 = .ok (.getfield 21, 3) := by decide +kernel
theorem dX0_askedOf_11 : decode cX0_askedOf 11 = .ok (.if_icmp .ge 88, 3) := by decide +kernel
theorem dX0_askedOf_14 : decode cX0_askedOf 14 = .ok (.aload_n 0, 1) := by decide +kernel
theorem dX0_askedOf_15 : decode cX0_askedOf 15 = .ok (.getfield 18, 3) := by decide +kernel
theorem dX0_askedOf_18 : decode cX0_askedOf 18 = .ok (.iload 4, 2) := by decide +kernel
theorem dX0_askedOf_20 : decode cX0_askedOf 20 = .ok (.iaload, 1) := by decide +kernel
theorem dX0_askedOf_21 : decode cX0_askedOf 21 = .ok (.aload_n 0, 1) := by decide +kernel
theorem dX0_askedOf_22 : decode cX0_askedOf 22 = .ok (.aload_n 1, 1) := by decide +kernel
theorem dX0_askedOf_23 : decode cX0_askedOf 23 = .ok (.iload_n 2, 1) := by decide +kernel
theorem dX0_askedOf_24 : decode cX0_askedOf 24 = .ok (.iload 4, 2) := by decide +kernel
theorem dX0_askedOf_26 : decode cX0_askedOf 26 = .ok (.invokevirtual 25, 3) := by decide +kernel
theorem dX0_askedOf_29 : decode cX0_askedOf 29 = .ok (.isub, 1) := by decide +kernel
theorem dX0_askedOf_30 : decode cX0_askedOf 30 = .ok (.istore 5, 2) := by decide +kernel
theorem dX0_askedOf_32 : decode cX0_askedOf 32 = .ok (.aload_n 1, 1) := by decide +kernel
theorem dX0_askedOf_33 : decode cX0_askedOf 33 = .ok (.aload_n 0, 1) := by decide +kernel
theorem dX0_askedOf_34 : decode cX0_askedOf 34 = .ok (.getfield 9, 3) := by decide +kernel
theorem dX0_askedOf_37 : decode cX0_askedOf 37 = .ok (.iload 4, 2) := by decide +kernel
theorem dX0_askedOf_39 : decode cX0_askedOf 39 = .ok (.iaload, 1) := by decide +kernel
theorem dX0_askedOf_40 : decode cX0_askedOf 40 = .ok (.aload_n 0, 1) := by decide +kernel
theorem dX0_askedOf_41 : decode cX0_askedOf 41 = .ok (.getfield 15, 3) := by decide +kernel
theorem dX0_askedOf_44 : decode cX0_askedOf 44 = .ok (.iload 4, 2) := by decide +kernel
theorem dX0_askedOf_46 : decode cX0_askedOf 46 = .ok (.iaload, 1) := by decide +kernel
theorem dX0_askedOf_47 : decode cX0_askedOf 47 = .ok (.iload_n 2, 1) := by decide +kernel
theorem dX0_askedOf_48 : decode cX0_askedOf 48 = .ok (.invokevirtual 29, 3) := by decide +kernel
theorem dX0_askedOf_51 : decode cX0_askedOf 51 = .ok (.istore 6, 2) := by decide +kernel
theorem dX0_askedOf_53 : decode cX0_askedOf 53 = .ok (.iload 6, 2) := by decide +kernel
theorem dX0_askedOf_55 : decode cX0_askedOf 55 = .ok (.ifCond .eq 22, 3) := by decide +kernel
theorem dX0_askedOf_58 : decode cX0_askedOf 58 = .ok (.iload 5, 2) := by decide +kernel
theorem dX0_askedOf_60 : decode cX0_askedOf 60 = .ok (.ifCond .lt 22, 3) := by decide +kernel
theorem dX0_askedOf_63 : decode cX0_askedOf 63 = .ok (.iload_n 3, 1) := by decide +kernel
theorem dX0_askedOf_64 : decode cX0_askedOf 64 = .ok (.iconst (-1), 1) := by decide +kernel
theorem dX0_askedOf_65 : decode cX0_askedOf 65 = .ok (.if_icmp .eq 20, 3) := by decide +kernel
theorem dX0_askedOf_68 : decode cX0_askedOf 68 = .ok (.iload_n 3, 1) := by decide +kernel
theorem dX0_askedOf_69 : decode cX0_askedOf 69 = .ok (.iload 5, 2) := by decide +kernel
theorem dX0_askedOf_71 : decode cX0_askedOf 71 = .ok (.if_icmp .eq 14, 3) := by decide +kernel
theorem dX0_askedOf_74 : decode cX0_askedOf 74 = .ok (.goto 8, 3) := by decide +kernel
theorem dX0_askedOf_77 : decode cX0_askedOf 77 = .ok (.iload 5, 2) := by decide +kernel
theorem dX0_askedOf_79 : decode cX0_askedOf 79 = .ok (.ifCond .eq 6, 3) := by decide +kernel
theorem dX0_askedOf_82 : decode cX0_askedOf 82 = .ok (.bipush (-2), 2) := by decide +kernel
theorem dX0_askedOf_84 : decode cX0_askedOf 84 = .ok (.ireturn, 1) := by decide +kernel
theorem dX0_askedOf_85 : decode cX0_askedOf 85 = .ok (.iload 6, 2) := by decide +kernel
theorem dX0_askedOf_87 : decode cX0_askedOf 87 = .ok (.ifCond .eq 6, 3) := by decide +kernel
theorem dX0_askedOf_90 : decode cX0_askedOf 90 = .ok (.iload 5, 2) := by decide +kernel
theorem dX0_askedOf_92 : decode cX0_askedOf 92 = .ok (.istore_n 3, 1) := by decide +kernel
theorem dX0_askedOf_93 : decode cX0_askedOf 93 = .ok (.iinc 4 1, 3) := by decide +kernel
theorem dX0_askedOf_96 : decode cX0_askedOf 96 = .ok (.goto (-91), 3) := by decide +kernel
theorem dX0_askedOf_99 : decode cX0_askedOf 99 = .ok (.iload_n 3, 1) := by decide +kernel
theorem dX0_askedOf_100 : decode cX0_askedOf 100 = .ok (.ireturn, 1) := by decide +kernel
theorem dX0_worthBeside_0 : decode cX0_worthBeside 0 = .ok (.iconst 0, 1) := by decide +kernel
theorem dX0_worthBeside_1 : decode cX0_worthBeside 1 = .ok (.istore 4, 2) := by decide +kernel
theorem dX0_worthBeside_3 : decode cX0_worthBeside 3 = .ok (.iconst 0, 1) := by decide +kernel
theorem dX0_worthBeside_4 : decode cX0_worthBeside 4 = .ok (.istore 5, 2) := by decide +kernel
theorem dX0_worthBeside_6 : decode cX0_worthBeside 6 = .ok (.iload 5, 2) := by decide +kernel
theorem dX0_worthBeside_8 : decode cX0_worthBeside 8 = .ok (.aload_n 1, 1) := by decide +kernel
theorem dX0_worthBeside_9 : decode cX0_worthBeside 9 = .ok (.getfield 35, 3) := by decide +kernel
theorem dX0_worthBeside_12 : decode cX0_worthBeside 12 = .ok (.if_icmp .ge 47, 3) := by decide +kernel
theorem dX0_worthBeside_15 : decode cX0_worthBeside 15 = .ok (.iload 5, 2) := by decide +kernel
theorem dX0_worthBeside_17 : decode cX0_worthBeside 17 = .ok (.iload_n 2, 1) := by decide +kernel
theorem dX0_worthBeside_18 : decode cX0_worthBeside 18 = .ok (.if_icmp .eq 35, 3) := by decide +kernel
theorem dX0_worthBeside_21 : decode cX0_worthBeside 21 = .ok (.aload_n 1, 1) := by decide +kernel
theorem dX0_worthBeside_22 : decode cX0_worthBeside 22 = .ok (.aload_n 0, 1) := by decide +kernel
theorem dX0_worthBeside_23 : decode cX0_worthBeside 23 = .ok (.getfield 9, 3) := by decide +kernel
theorem dX0_worthBeside_26 : decode cX0_worthBeside 26 = .ok (.iload_n 3, 1) := by decide +kernel
theorem dX0_worthBeside_27 : decode cX0_worthBeside 27 = .ok (.iaload, 1) := by decide +kernel
theorem dX0_worthBeside_28 : decode cX0_worthBeside 28 = .ok (.aload_n 0, 1) := by decide +kernel
theorem dX0_worthBeside_29 : decode cX0_worthBeside 29 = .ok (.getfield 15, 3) := by decide +kernel
theorem dX0_worthBeside_32 : decode cX0_worthBeside 32 = .ok (.iload_n 3, 1) := by decide +kernel
theorem dX0_worthBeside_33 : decode cX0_worthBeside 33 = .ok (.iaload, 1) := by decide +kernel
theorem dX0_worthBeside_34 : decode cX0_worthBeside 34 = .ok (.iload 5, 2) := by decide +kernel
theorem dX0_worthBeside_36 : decode cX0_worthBeside 36 = .ok (.invokevirtual 29, 3) := by decide +kernel
theorem dX0_worthBeside_39 : decode cX0_worthBeside 39 = .ok (.ifCond .eq 14, 3) := by decide +kernel
theorem dX0_worthBeside_42 : decode cX0_worthBeside 42 = .ok (.iload 4, 2) := by decide +kernel
theorem dX0_worthBeside_44 : decode cX0_worthBeside 44 = .ok (.aload_n 1, 1) := by decide +kernel
theorem dX0_worthBeside_45 : decode cX0_worthBeside 45 = .ok (.iload 5, 2) := by decide +kernel
theorem dX0_worthBeside_47 : decode cX0_worthBeside 47 = .ok (.invokevirtual 38, 3) := by decide +kernel
theorem dX0_worthBeside_50 : decode cX0_worthBeside 50 = .ok (.iadd, 1) := by decide +kernel
theorem dX0_worthBeside_51 : decode cX0_worthBeside 51 = .ok (.istore 4, 2) := by decide +kernel
theorem dX0_worthBeside_53 : decode cX0_worthBeside 53 = .ok (.iinc 5 1, 3) := by decide +kernel
theorem dX0_worthBeside_56 : decode cX0_worthBeside 56 = .ok (.goto (-50), 3) := by decide +kernel
theorem dX0_worthBeside_59 : decode cX0_worthBeside 59 = .ok (.iload 4, 2) := by decide +kernel
theorem dX0_worthBeside_61 : decode cX0_worthBeside 61 = .ok (.ireturn, 1) := by decide +kernel
theorem dX1_init_0 : decode cX1_init 0 = .ok (.aload_n 0, 1) := by decide +kernel
theorem dX1_init_1 : decode cX1_init 1 = .ok (.invokespecial 3, 3) := by decide +kernel
theorem dX1_init_4 : decode cX1_init 4 = .ok (.aload_n 0, 1) := by decide +kernel
theorem dX1_init_5 : decode cX1_init 5 = .ok (.bipush 8, 2) := by decide +kernel
theorem dX1_init_7 : decode cX1_init 7 = .ok (.newarray .int, 2) := by decide +kernel
theorem dX1_init_9 : decode cX1_init 9 = .ok (.putfield 9, 3) := by decide +kernel
theorem dX1_init_12 : decode cX1_init 12 = .ok (.aload_n 0, 1) := by decide +kernel
theorem dX1_init_13 : decode cX1_init 13 = .ok (.bipush 8, 2) := by decide +kernel
theorem dX1_init_15 : decode cX1_init 15 = .ok (.newarray .int, 2) := by decide +kernel
theorem dX1_init_17 : decode cX1_init 17 = .ok (.putfield 15, 3) := by decide +kernel
theorem dX1_init_20 : decode cX1_init 20 = .ok (.return_, 1) := by decide +kernel
theorem dX1_sameShape_0 : decode cX1_sameShape 0 = .ok (.aload_n 0, 1) := by decide +kernel
theorem dX1_sameShape_1 : decode cX1_sameShape 1 = .ok (.aload_n 1, 1) := by decide +kernel
theorem dX1_sameShape_2 : decode cX1_sameShape 2 = .ok (.iconst 0, 1) := by decide +kernel
theorem dX1_sameShape_3 : decode cX1_sameShape 3 = .ok (.invokevirtual 18, 3) := by decide +kernel
theorem dX1_sameShape_6 : decode cX1_sameShape 6 = .ok (.istore_n 2, 1) := by decide +kernel
theorem dX1_sameShape_7 : decode cX1_sameShape 7 = .ok (.aload_n 0, 1) := by decide +kernel
theorem dX1_sameShape_8 : decode cX1_sameShape 8 = .ok (.getfield 22, 3) := by decide +kernel
theorem dX1_sameShape_11 : decode cX1_sameShape 11 = .ok (.istore_n 3, 1) := by decide +kernel
theorem dX1_sameShape_12 : decode cX1_sameShape 12 = .ok (.iconst 0, 1) := by decide +kernel
theorem dX1_sameShape_13 : decode cX1_sameShape 13 = .ok (.istore 4, 2) := by decide +kernel
theorem dX1_sameShape_15 : decode cX1_sameShape 15 = .ok (.iconst 1, 1) := by decide +kernel
theorem dX1_sameShape_16 : decode cX1_sameShape 16 = .ok (.istore 5, 2) := by decide +kernel
theorem dX1_sameShape_18 : decode cX1_sameShape 18 = .ok (.iconst 0, 1) := by decide +kernel
theorem dX1_sameShape_19 : decode cX1_sameShape 19 = .ok (.istore 6, 2) := by decide +kernel
theorem dX1_sameShape_21 : decode cX1_sameShape 21 = .ok (.iload 6, 2) := by decide +kernel
theorem dX1_sameShape_23 : decode cX1_sameShape 23 = .ok (.aload_n 1, 1) := by decide +kernel
theorem dX1_sameShape_24 : decode cX1_sameShape 24 = .ok (.getfield 26, 3) := by decide +kernel
theorem dX1_sameShape_27 : decode cX1_sameShape 27 = .ok (.if_icmp .ge 32, 3) := by decide +kernel
theorem dX1_sameShape_30 : decode cX1_sameShape 30 = .ok (.iload 5, 2) := by decide +kernel
theorem dX1_sameShape_32 : decode cX1_sameShape 32 = .ok (.iload 6, 2) := by decide +kernel
theorem dX1_sameShape_34 : decode cX1_sameShape 34 = .ok (.iconst 1, 1) := by decide +kernel
theorem dX1_sameShape_35 : decode cX1_sameShape 35 = .ok (.iadd, 1) := by decide +kernel
theorem dX1_sameShape_36 : decode cX1_sameShape 36 = .ok (.imul, 1) := by decide +kernel
theorem dX1_sameShape_37 : decode cX1_sameShape 37 = .ok (.istore 5, 2) := by decide +kernel
theorem dX1_sameShape_39 : decode cX1_sameShape 39 = .ok (.aload_n 0, 1) := by decide +kernel
theorem dX1_sameShape_40 : decode cX1_sameShape 40 = .ok (.aload_n 1, 1) := by decide +kernel
theorem dX1_sameShape_41 : decode cX1_sameShape 41 = .ok (.iload 6, 2) := by decide +kernel
theorem dX1_sameShape_43 : decode cX1_sameShape 43 = .ok (.invokevirtual 18, 3) := by decide +kernel
theorem dX1_sameShape_46 : decode cX1_sameShape 46 = .ok (.iload_n 2, 1) := by decide +kernel
theorem dX1_sameShape_47 : decode cX1_sameShape 47 = .ok (.if_icmp .ne 6, 3) := by decide +kernel
theorem dX1_sameShape_50 : decode cX1_sameShape 50 = .ok (.iinc 4 1, 3) := by decide +kernel
theorem dX1_sameShape_53 : decode cX1_sameShape 53 = .ok (.iinc 6 1, 3) := by decide +kernel
theorem dX1_sameShape_56 : decode cX1_sameShape 56 = .ok (.goto (-35), 3) := by decide +kernel
theorem dX1_sameShape_59 : decode cX1_sameShape 59 = .ok (.iload_n 3, 1) := by decide +kernel
theorem dX1_sameShape_60 : decode cX1_sameShape 60 = .ok (.iload 4, 2) := by decide +kernel
theorem dX1_sameShape_62 : decode cX1_sameShape 62 = .ok (.imul, 1) := by decide +kernel
theorem dX1_sameShape_63 : decode cX1_sameShape 63 = .ok (.istore 6, 2) := by decide +kernel
theorem dX1_sameShape_65 : decode cX1_sameShape 65 = .ok (.iload 6, 2) := by decide +kernel
theorem dX1_sameShape_67 : decode cX1_sameShape 67 = .ok (.ifCond .le 11, 3) := by decide +kernel
theorem dX1_sameShape_70 : decode cX1_sameShape 70 = .ok (.iload 5, 2) := by decide +kernel
theorem dX1_sameShape_72 : decode cX1_sameShape 72 = .ok (.iload 6, 2) := by decide +kernel
theorem dX1_sameShape_74 : decode cX1_sameShape 74 = .ok (.idiv, 1) := by decide +kernel
theorem dX1_sameShape_75 : decode cX1_sameShape 75 = .ok (.goto 4, 3) := by decide +kernel
theorem dX1_sameShape_78 : decode cX1_sameShape 78 = .ok (.iconst 0, 1) := by decide +kernel
theorem dX1_sameShape_79 : decode cX1_sameShape 79 = .ok (.ireturn, 1) := by decide +kernel
theorem dX1_signsFrom_0 : decode cX1_signsFrom 0 = .ok (.aload_n 0, 1) := by decide +kernel
theorem dX1_signsFrom_1 : decode cX1_signsFrom 1 = .ok (.iconst 1, 1) := by decide +kernel
theorem dX1_signsFrom_2 : decode cX1_signsFrom 2 = .ok (.putfield 22, 3) := by decide +kernel
theorem dX1_signsFrom_5 : decode cX1_signsFrom 5 = .ok (.aload_n 1, 1) := by decide +kernel
theorem dX1_signsFrom_6 : decode cX1_signsFrom 6 = .ok (.getfield 26, 3) := by decide +kernel
theorem dX1_signsFrom_9 : decode cX1_signsFrom 9 = .ok (.iconst 1, 1) := by decide +kernel
theorem dX1_signsFrom_10 : decode cX1_signsFrom 10 = .ok (.isub, 1) := by decide +kernel
theorem dX1_signsFrom_11 : decode cX1_signsFrom 11 = .ok (.istore_n 3, 1) := by decide +kernel
theorem dX1_signsFrom_12 : decode cX1_signsFrom 12 = .ok (.iload_n 3, 1) := by decide +kernel
theorem dX1_signsFrom_13 : decode cX1_signsFrom 13 = .ok (.ifCond .lt 54, 3) := by decide +kernel
theorem dX1_signsFrom_16 : decode cX1_signsFrom 16 = .ok (.iconst 0, 1) := by decide +kernel
theorem dX1_signsFrom_17 : decode cX1_signsFrom 17 = .ok (.istore 4, 2) := by decide +kernel
theorem dX1_signsFrom_19 : decode cX1_signsFrom 19 = .ok (.iload 4, 2) := by decide +kernel
theorem dX1_signsFrom_21 : decode cX1_signsFrom 21 = .ok (.aload_n 1, 1) := by decide +kernel
theorem dX1_signsFrom_22 : decode cX1_signsFrom 22 = .ok (.getfield 26, 3) := by decide +kernel
theorem dX1_signsFrom_25 : decode cX1_signsFrom 25 = .ok (.if_icmp .ge 36, 3) := by decide +kernel
theorem dX1_signsFrom_28 : decode cX1_signsFrom 28 = .ok (.aload_n 1, 1) := by decide +kernel
theorem dX1_signsFrom_29 : decode cX1_signsFrom 29 = .ok (.getfield 31, 3) := by decide +kernel
theorem dX1_signsFrom_32 : decode cX1_signsFrom 32 = .ok (.iload_n 2, 1) := by decide +kernel
theorem dX1_signsFrom_33 : decode cX1_signsFrom 33 = .ok (.aaload, 1) := by decide +kernel
theorem dX1_signsFrom_34 : decode cX1_signsFrom 34 = .ok (.iload 4, 2) := by decide +kernel
theorem dX1_signsFrom_36 : decode cX1_signsFrom 36 = .ok (.iaload, 1) := by decide +kernel
theorem dX1_signsFrom_37 : decode cX1_signsFrom 37 = .ok (.iload_n 3, 1) := by decide +kernel
theorem dX1_signsFrom_38 : decode cX1_signsFrom 38 = .ok (.if_icmp .ne 17, 3) := by decide +kernel
theorem dX1_signsFrom_41 : decode cX1_signsFrom 41 = .ok (.aload_n 0, 1) := by decide +kernel
theorem dX1_signsFrom_42 : decode cX1_signsFrom 42 = .ok (.aload_n 0, 1) := by decide +kernel
theorem dX1_signsFrom_43 : decode cX1_signsFrom 43 = .ok (.aload_n 1, 1) := by decide +kernel
theorem dX1_signsFrom_44 : decode cX1_signsFrom 44 = .ok (.iload_n 2, 1) := by decide +kernel
theorem dX1_signsFrom_45 : decode cX1_signsFrom 45 = .ok (.iload 4, 2) := by decide +kernel
theorem dX1_signsFrom_47 : decode cX1_signsFrom 47 = .ok (.invokevirtual 35, 3) := by decide +kernel
theorem dX1_signsFrom_50 : decode cX1_signsFrom 50 = .ok (.iload 4, 2) := by decide +kernel
theorem dX1_signsFrom_52 : decode cX1_signsFrom 52 = .ok (.invokevirtual 39, 3) := by decide +kernel
theorem dX1_signsFrom_55 : decode cX1_signsFrom 55 = .ok (.iinc 4 1, 3) := by decide +kernel
theorem dX1_signsFrom_58 : decode cX1_signsFrom 58 = .ok (.goto (-39), 3) := by decide +kernel
theorem dX1_signsFrom_61 : decode cX1_signsFrom 61 = .ok (.iinc 3 (-1), 3) := by decide +kernel
theorem dX1_signsFrom_64 : decode cX1_signsFrom 64 = .ok (.goto (-52), 3) := by decide +kernel
theorem dX1_signsFrom_67 : decode cX1_signsFrom 67 = .ok (.aload_n 0, 1) := by decide +kernel
theorem dX1_signsFrom_68 : decode cX1_signsFrom 68 = .ok (.getfield 9, 3) := by decide +kernel
theorem dX1_signsFrom_71 : decode cX1_signsFrom 71 = .ok (.iload_n 2, 1) := by decide +kernel
theorem dX1_signsFrom_72 : decode cX1_signsFrom 72 = .ok (.iaload, 1) := by decide +kernel
theorem dX1_signsFrom_73 : decode cX1_signsFrom 73 = .ok (.ireturn, 1) := by decide +kernel
theorem dX1_gather_0 : decode cX1_gather 0 = .ok (.iconst 0, 1) := by decide +kernel
theorem dX1_gather_1 : decode cX1_gather 1 = .ok (.istore 4, 2) := by decide +kernel
theorem dX1_gather_3 : decode cX1_gather 3 = .ok (.iconst 0, 1) := by decide +kernel
theorem dX1_gather_4 : decode cX1_gather 4 = .ok (.istore 5, 2) := by decide +kernel
theorem dX1_gather_6 : decode cX1_gather 6 = .ok (.iload 5, 2) := by decide +kernel
theorem dX1_gather_8 : decode cX1_gather 8 = .ok (.aload_n 1, 1) := by decide +kernel
theorem dX1_gather_9 : decode cX1_gather 9 = .ok (.getfield 26, 3) := by decide +kernel
theorem dX1_gather_12 : decode cX1_gather 12 = .ok (.if_icmp .ge 59, 3) := by decide +kernel
theorem dX1_gather_15 : decode cX1_gather 15 = .ok (.aload_n 1, 1) := by decide +kernel
theorem dX1_gather_16 : decode cX1_gather 16 = .ok (.getfield 43, 3) := by decide +kernel
theorem dX1_gather_19 : decode cX1_gather 19 = .ok (.iload_n 3, 1) := by decide +kernel
theorem dX1_gather_20 : decode cX1_gather 20 = .ok (.iaload, 1) := by decide +kernel
theorem dX1_gather_21 : decode cX1_gather 21 = .ok (.iload 5, 2) := by decide +kernel
theorem dX1_gather_23 : decode cX1_gather 23 = .ok (.ishr, 1) := by decide +kernel
theorem dX1_gather_24 : decode cX1_gather 24 = .ok (.iconst 1, 1) := by decide +kernel
theorem dX1_gather_25 : decode cX1_gather 25 = .ok (.iand, 1) := by decide +kernel
theorem dX1_gather_26 : decode cX1_gather 26 = .ok (.ifCond .eq 39, 3) := by decide +kernel
theorem dX1_gather_29 : decode cX1_gather 29 = .ok (.aload_n 1, 1) := by decide +kernel
theorem dX1_gather_30 : decode cX1_gather 30 = .ok (.getfield 31, 3) := by decide +kernel
theorem dX1_gather_33 : decode cX1_gather 33 = .ok (.iload_n 2, 1) := by decide +kernel
theorem dX1_gather_34 : decode cX1_gather 34 = .ok (.aaload, 1) := by decide +kernel
theorem dX1_gather_35 : decode cX1_gather 35 = .ok (.iload 5, 2) := by decide +kernel
theorem dX1_gather_37 : decode cX1_gather 37 = .ok (.iaload, 1) := by decide +kernel
theorem dX1_gather_38 : decode cX1_gather 38 = .ok (.aload_n 1, 1) := by decide +kernel
theorem dX1_gather_39 : decode cX1_gather 39 = .ok (.getfield 31, 3) := by decide +kernel
theorem dX1_gather_42 : decode cX1_gather 42 = .ok (.iload_n 2, 1) := by decide +kernel
theorem dX1_gather_43 : decode cX1_gather 43 = .ok (.aaload, 1) := by decide +kernel
theorem dX1_gather_44 : decode cX1_gather 44 = .ok (.iload_n 3, 1) := by decide +kernel
theorem dX1_gather_45 : decode cX1_gather 45 = .ok (.iaload, 1) := by decide +kernel
theorem dX1_gather_46 : decode cX1_gather 46 = .ok (.if_icmp .le 19, 3) := by decide +kernel
theorem dX1_gather_49 : decode cX1_gather 49 = .ok (.aload_n 0, 1) := by decide +kernel
theorem dX1_gather_50 : decode cX1_gather 50 = .ok (.aload_n 0, 1) := by decide +kernel
theorem dX1_gather_51 : decode cX1_gather 51 = .ok (.getfield 9, 3) := by decide +kernel
theorem dX1_gather_54 : decode cX1_gather 54 = .ok (.iload 5, 2) := by decide +kernel
theorem dX1_gather_56 : decode cX1_gather 56 = .ok (.iaload, 1) := by decide +kernel
theorem dX1_gather_57 : decode cX1_gather 57 = .ok (.iload 4, 2) := by decide +kernel
theorem dX1_gather_59 : decode cX1_gather 59 = .ok (.invokevirtual 46, 3) := by decide +kernel
theorem dX1_gather_62 : decode cX1_gather 62 = .ok (.iinc 4 1, 3) := by decide +kernel
theorem dX1_gather_65 : decode cX1_gather 65 = .ok (.iinc 5 1, 3) := by decide +kernel
theorem dX1_gather_68 : decode cX1_gather 68 = .ok (.goto (-62), 3) := by decide +kernel
theorem dX1_gather_71 : decode cX1_gather 71 = .ok (.iload 4, 2) := by decide +kernel
theorem dX1_gather_73 : decode cX1_gather 73 = .ok (.ireturn, 1) := by decide +kernel
theorem dX1_insert_0 : decode cX1_insert 0 = .ok (.iload_n 2, 1) := by decide +kernel
theorem dX1_insert_1 : decode cX1_insert 1 = .ok (.istore_n 3, 1) := by decide +kernel
theorem dX1_insert_2 : decode cX1_insert 2 = .ok (.iload_n 3, 1) := by decide +kernel
theorem dX1_insert_3 : decode cX1_insert 3 = .ok (.ifCond .le 35, 3) := by decide +kernel
theorem dX1_insert_6 : decode cX1_insert 6 = .ok (.aload_n 0, 1) := by decide +kernel
theorem dX1_insert_7 : decode cX1_insert 7 = .ok (.getfield 15, 3) := by decide +kernel
theorem dX1_insert_10 : decode cX1_insert 10 = .ok (.iload_n 3, 1) := by decide +kernel
theorem dX1_insert_11 : decode cX1_insert 11 = .ok (.iconst 1, 1) := by decide +kernel
theorem dX1_insert_12 : decode cX1_insert 12 = .ok (.isub, 1) := by decide +kernel
theorem dX1_insert_13 : decode cX1_insert 13 = .ok (.iaload, 1) := by decide +kernel
theorem dX1_insert_14 : decode cX1_insert 14 = .ok (.iload_n 1, 1) := by decide +kernel
theorem dX1_insert_15 : decode cX1_insert 15 = .ok (.if_icmp .le 23, 3) := by decide +kernel
theorem dX1_insert_18 : decode cX1_insert 18 = .ok (.aload_n 0, 1) := by decide +kernel
theorem dX1_insert_19 : decode cX1_insert 19 = .ok (.getfield 15, 3) := by decide +kernel
theorem dX1_insert_22 : decode cX1_insert 22 = .ok (.iload_n 3, 1) := by decide +kernel
theorem dX1_insert_23 : decode cX1_insert 23 = .ok (.aload_n 0, 1) := by decide +kernel
theorem dX1_insert_24 : decode cX1_insert 24 = .ok (.getfield 15, 3) := by decide +kernel
theorem dX1_insert_27 : decode cX1_insert 27 = .ok (.iload_n 3, 1) := by decide +kernel
theorem dX1_insert_28 : decode cX1_insert 28 = .ok (.iconst 1, 1) := by decide +kernel
theorem dX1_insert_29 : decode cX1_insert 29 = .ok (.isub, 1) := by decide +kernel
theorem dX1_insert_30 : decode cX1_insert 30 = .ok (.iaload, 1) := by decide +kernel
theorem dX1_insert_31 : decode cX1_insert 31 = .ok (.iastore, 1) := by decide +kernel
theorem dX1_insert_32 : decode cX1_insert 32 = .ok (.iinc 3 (-1), 3) := by decide +kernel
theorem dX1_insert_35 : decode cX1_insert 35 = .ok (.goto (-33), 3) := by decide +kernel
theorem dX1_insert_38 : decode cX1_insert 38 = .ok (.aload_n 0, 1) := by decide +kernel
theorem dX1_insert_39 : decode cX1_insert 39 = .ok (.getfield 15, 3) := by decide +kernel
theorem dX1_insert_42 : decode cX1_insert 42 = .ok (.iload_n 3, 1) := by decide +kernel
theorem dX1_insert_43 : decode cX1_insert 43 = .ok (.iload_n 1, 1) := by decide +kernel
theorem dX1_insert_44 : decode cX1_insert 44 = .ok (.iastore, 1) := by decide +kernel
theorem dX1_insert_45 : decode cX1_insert 45 = .ok (.return_, 1) := by decide +kernel
theorem dX1_join_0 : decode cX1_join 0 = .ok (.iconst 1, 1) := by decide +kernel
theorem dX1_join_1 : decode cX1_join 1 = .ok (.istore_n 3, 1) := by decide +kernel
theorem dX1_join_2 : decode cX1_join 2 = .ok (.iconst 0, 1) := by decide +kernel
theorem dX1_join_3 : decode cX1_join 3 = .ok (.istore 4, 2) := by decide +kernel
theorem dX1_join_5 : decode cX1_join 5 = .ok (.iconst 0, 1) := by decide +kernel
theorem dX1_join_6 : decode cX1_join 6 = .ok (.istore 5, 2) := by decide +kernel
theorem dX1_join_8 : decode cX1_join 8 = .ok (.iload 5, 2) := by decide +kernel
theorem dX1_join_10 : decode cX1_join 10 = .ok (.iload_n 1, 1) := by decide +kernel
theorem dX1_join_11 : decode cX1_join 11 = .ok (.if_icmp .ge 77, 3) := by decide +kernel
theorem dX1_join_14 : decode cX1_join 14 = .ok (.iload 5, 2) := by decide +kernel
theorem dX1_join_16 : decode cX1_join 16 = .ok (.ifCond .le 29, 3) := by decide +kernel
theorem dX1_join_19 : decode cX1_join 19 = .ok (.aload_n 0, 1) := by decide +kernel
theorem dX1_join_20 : decode cX1_join 20 = .ok (.getfield 15, 3) := by decide +kernel
theorem dX1_join_23 : decode cX1_join 23 = .ok (.iload 5, 2) := by decide +kernel
theorem dX1_join_25 : decode cX1_join 25 = .ok (.iaload, 1) := by decide +kernel
theorem dX1_join_26 : decode cX1_join 26 = .ok (.aload_n 0, 1) := by decide +kernel
theorem dX1_join_27 : decode cX1_join 27 = .ok (.getfield 15, 3) := by decide +kernel
theorem dX1_join_30 : decode cX1_join 30 = .ok (.iload 5, 2) := by decide +kernel
theorem dX1_join_32 : decode cX1_join 32 = .ok (.iconst 1, 1) := by decide +kernel
theorem dX1_join_33 : decode cX1_join 33 = .ok (.isub, 1) := by decide +kernel
theorem dX1_join_34 : decode cX1_join 34 = .ok (.iaload, 1) := by decide +kernel
theorem dX1_join_35 : decode cX1_join 35 = .ok (.if_icmp .ne 10, 3) := by decide +kernel
theorem dX1_join_38 : decode cX1_join 38 = .ok (.iload 4, 2) := by decide +kernel
theorem dX1_join_40 : decode cX1_join 40 = .ok (.iconst 1, 1) := by decide +kernel
theorem dX1_join_41 : decode cX1_join 41 = .ok (.iadd, 1) := by decide +kernel
theorem dX1_join_42 : decode cX1_join 42 = .ok (.goto 4, 3) := by decide +kernel
theorem dX1_join_45 : decode cX1_join 45 = .ok (.iconst 1, 1) := by decide +kernel
theorem dX1_join_46 : decode cX1_join 46 = .ok (.istore 4, 2) := by decide +kernel
theorem dX1_join_48 : decode cX1_join 48 = .ok (.aload_n 0, 1) := by decide +kernel
theorem dX1_join_49 : decode cX1_join 49 = .ok (.dup, 1) := by decide +kernel
theorem dX1_join_50 : decode cX1_join 50 = .ok (.getfield 22, 3) := by decide +kernel
theorem dX1_join_53 : decode cX1_join 53 = .ok (.iload 4, 2) := by decide +kernel
theorem dX1_join_55 : decode cX1_join 55 = .ok (.imul, 1) := by decide +kernel
theorem dX1_join_56 : decode cX1_join 56 = .ok (.putfield 22, 3) := by decide +kernel
theorem dX1_join_59 : decode cX1_join 59 = .ok (.iload_n 3, 1) := by decide +kernel
theorem dX1_join_60 : decode cX1_join 60 = .ok (.iconst 2, 1) := by decide +kernel
theorem dX1_join_61 : decode cX1_join 61 = .ok (.aload_n 0, 1) := by decide +kernel
theorem dX1_join_62 : decode cX1_join 62 = .ok (.getfield 15, 3) := by decide +kernel
theorem dX1_join_65 : decode cX1_join 65 = .ok (.iload 5, 2) := by decide +kernel
theorem dX1_join_67 : decode cX1_join 67 = .ok (.iaload, 1) := by decide +kernel
theorem dX1_join_68 : decode cX1_join 68 = .ok (.invokestatic 49, 3) := by decide +kernel
theorem dX1_join_71 : decode cX1_join 71 = .ok (.imul, 1) := by decide +kernel
theorem dX1_join_72 : decode cX1_join 72 = .ok (.ishl, 1) := by decide +kernel
theorem dX1_join_73 : decode cX1_join 73 = .ok (.aload_n 0, 1) := by decide +kernel
theorem dX1_join_74 : decode cX1_join 74 = .ok (.getfield 15, 3) := by decide +kernel
theorem dX1_join_77 : decode cX1_join 77 = .ok (.iload 5, 2) := by decide +kernel
theorem dX1_join_79 : decode cX1_join 79 = .ok (.iaload, 1) := by decide +kernel
theorem dX1_join_80 : decode cX1_join 80 = .ok (.ior, 1) := by decide +kernel
theorem dX1_join_81 : decode cX1_join 81 = .ok (.istore_n 3, 1) := by decide +kernel
theorem dX1_join_82 : decode cX1_join 82 = .ok (.iinc 5 1, 3) := by decide +kernel
theorem dX1_join_85 : decode cX1_join 85 = .ok (.goto (-77), 3) := by decide +kernel
theorem dX1_join_88 : decode cX1_join 88 = .ok (.aload_n 0, 1) := by decide +kernel
theorem dX1_join_89 : decode cX1_join 89 = .ok (.getfield 9, 3) := by decide +kernel
theorem dX1_join_92 : decode cX1_join 92 = .ok (.iload_n 2, 1) := by decide +kernel
theorem dX1_join_93 : decode cX1_join 93 = .ok (.iload_n 3, 1) := by decide +kernel
theorem dX1_join_94 : decode cX1_join 94 = .ok (.iconst 1, 1) := by decide +kernel
theorem dX1_join_95 : decode cX1_join 95 = .ok (.ishl, 1) := by decide +kernel
theorem dX1_join_96 : decode cX1_join 96 = .ok (.iastore, 1) := by decide +kernel
theorem dX1_join_97 : decode cX1_join 97 = .ok (.return_, 1) := by decide +kernel
theorem dX2_init_0 : decode cX2_init 0 = .ok (.aload_n 0, 1) := by decide +kernel
theorem dX2_init_1 : decode cX2_init 1 = .ok (.invokespecial 3, 3) := by decide +kernel
theorem dX2_init_4 : decode cX2_init 4 = .ok (.aload_n 0, 1) := by decide +kernel
theorem dX2_init_5 : decode cX2_init 5 = .ok (.bipush 60, 2) := by decide +kernel
theorem dX2_init_7 : decode cX2_init 7 = .ok (.newarray .int, 2) := by decide +kernel
theorem dX2_init_9 : decode cX2_init 9 = .ok (.putfield 9, 3) := by decide +kernel
theorem dX2_init_12 : decode cX2_init 12 = .ok (.aload_n 0, 1) := by decide +kernel
theorem dX2_init_13 : decode cX2_init 13 = .ok (.iconst (-1), 1) := by decide +kernel
theorem dX2_init_14 : decode cX2_init 14 = .ok (.putfield 15, 3) := by decide +kernel
theorem dX2_init_17 : decode cX2_init 17 = .ok (.return_, 1) := by decide +kernel
theorem dX2_begin_0 : decode cX2_begin 0 = .ok (.aload_n 0, 1) := by decide +kernel
theorem dX2_begin_1 : decode cX2_begin 1 = .ok (.iload_n 1, 1) := by decide +kernel
theorem dX2_begin_2 : decode cX2_begin 2 = .ok (.putfield 15, 3) := by decide +kernel
theorem dX2_begin_5 : decode cX2_begin 5 = .ok (.aload_n 0, 1) := by decide +kernel
theorem dX2_begin_6 : decode cX2_begin 6 = .ok (.iload_n 2, 1) := by decide +kernel
theorem dX2_begin_7 : decode cX2_begin 7 = .ok (.putfield 19, 3) := by decide +kernel
theorem dX2_begin_10 : decode cX2_begin 10 = .ok (.iconst 0, 1) := by decide +kernel
theorem dX2_begin_11 : decode cX2_begin 11 = .ok (.istore_n 3, 1) := by decide +kernel
theorem dX2_begin_12 : decode cX2_begin 12 = .ok (.iload_n 3, 1) := by decide +kernel
theorem dX2_begin_13 : decode cX2_begin 13 = .ok (.bipush 60, 2) := by decide +kernel
theorem dX2_begin_15 : decode cX2_begin 15 = .ok (.if_icmp .ge 16, 3) := by decide +kernel
theorem dX2_begin_18 : decode cX2_begin 18 = .ok (.aload_n 0, 1) := by decide +kernel
theorem dX2_begin_19 : decode cX2_begin 19 = .ok (.getfield 9, 3) := by decide +kernel
theorem dX2_begin_22 : decode cX2_begin 22 = .ok (.iload_n 3, 1) := by decide +kernel
theorem dX2_begin_23 : decode cX2_begin 23 = .ok (.iconst 0, 1) := by decide +kernel
theorem dX2_begin_24 : decode cX2_begin 24 = .ok (.iastore, 1) := by decide +kernel
theorem dX2_begin_25 : decode cX2_begin 25 = .ok (.iinc 3 1, 3) := by decide +kernel
theorem dX2_begin_28 : decode cX2_begin 28 = .ok (.goto (-16), 3) := by decide +kernel
theorem dX2_begin_31 : decode cX2_begin 31 = .ok (.return_, 1) := by decide +kernel
theorem dX2_faultAs_0 : decode cX2_faultAs 0 = .ok (.aload_n 0, 1) := by decide +kernel
theorem dX2_faultAs_1 : decode cX2_faultAs 1 = .ok (.getfield 15, 3) := by decide +kernel
theorem dX2_faultAs_4 : decode cX2_faultAs 4 = .ok (.iconst (-1), 1) := by decide +kernel
theorem dX2_faultAs_5 : decode cX2_faultAs 5 = .ok (.if_icmp .ne 5, 3) := by decide +kernel
theorem dX2_faultAs_8 : decode cX2_faultAs 8 = .ok (.iconst 1, 1) := by decide +kernel
theorem dX2_faultAs_9 : decode cX2_faultAs 9 = .ok (.ireturn, 1) := by decide +kernel
theorem dX2_faultAs_10 : decode cX2_faultAs 10 = .ok (.aload_n 0, 1) := by decide +kernel
theorem dX2_faultAs_11 : decode cX2_faultAs 11 = .ok (.getfield 15, 3) := by decide +kernel
theorem dX2_faultAs_14 : decode cX2_faultAs 14 = .ok (.iload_n 1, 1) := by decide +kernel
theorem dX2_faultAs_15 : decode cX2_faultAs 15 = .ok (.if_icmp .ne 7, 3) := by decide +kernel
theorem dX2_faultAs_18 : decode cX2_faultAs 18 = .ok (.iconst 0, 1) := by decide +kernel
theorem dX2_faultAs_19 : decode cX2_faultAs 19 = .ok (.goto 4, 3) := by decide +kernel
theorem dX2_faultAs_22 : decode cX2_faultAs 22 = .ok (.iconst 2, 1) := by decide +kernel
theorem dX2_faultAs_23 : decode cX2_faultAs 23 = .ok (.ireturn, 1) := by decide +kernel
theorem dX2_has_0 : decode cX2_has 0 = .ok (.iload_n 1, 1) := by decide +kernel
theorem dX2_has_1 : decode cX2_has 1 = .ok (.ifCond .lt 29, 3) := by decide +kernel
theorem dX2_has_4 : decode cX2_has 4 = .ok (.iload_n 1, 1) := by decide +kernel
theorem dX2_has_5 : decode cX2_has 5 = .ok (.aload_n 0, 1) := by decide +kernel
theorem dX2_has_6 : decode cX2_has 6 = .ok (.getfield 19, 3) := by decide +kernel
theorem dX2_has_9 : decode cX2_has 9 = .ok (.if_icmp .gt 21, 3) := by decide +kernel
theorem dX2_has_12 : decode cX2_has 12 = .ok (.iload_n 2, 1) := by decide +kernel
theorem dX2_has_13 : decode cX2_has 13 = .ok (.ifCond .lt 17, 3) := by decide +kernel
theorem dX2_has_16 : decode cX2_has 16 = .ok (.iload_n 2, 1) := by decide +kernel
theorem dX2_has_17 : decode cX2_has 17 = .ok (.aload_n 0, 1) := by decide +kernel
theorem dX2_has_18 : decode cX2_has 18 = .ok (.getfield 19, 3) := by decide +kernel
theorem dX2_has_21 : decode cX2_has 21 = .ok (.iload_n 1, 1) := by decide +kernel
theorem dX2_has_22 : decode cX2_has 22 = .ok (.isub, 1) := by decide +kernel
theorem dX2_has_23 : decode cX2_has 23 = .ok (.if_icmp .gt 7, 3) := by decide +kernel
theorem dX2_has_26 : decode cX2_has 26 = .ok (.iconst 1, 1) := by decide +kernel
theorem dX2_has_27 : decode cX2_has 27 = .ok (.goto 4, 3) := by decide +kernel
theorem dX2_has_30 : decode cX2_has 30 = .ok (.iconst 0, 1) := by decide +kernel
theorem dX2_has_31 : decode cX2_has 31 = .ok (.ireturn, 1) := by decide +kernel
theorem dX2_at_0 : decode cX2_at 0 = .ok (.iload_n 1, 1) := by decide +kernel
theorem dX2_at_1 : decode cX2_at 1 = .ok (.ifCond .lt 20, 3) := by decide +kernel
theorem dX2_at_4 : decode cX2_at 4 = .ok (.iload_n 1, 1) := by decide +kernel
theorem dX2_at_5 : decode cX2_at 5 = .ok (.aload_n 0, 1) := by decide +kernel
theorem dX2_at_6 : decode cX2_at 6 = .ok (.getfield 19, 3) := by decide +kernel
theorem dX2_at_9 : decode cX2_at 9 = .ok (.if_icmp .ge 12, 3) := by decide +kernel
theorem dX2_at_12 : decode cX2_at 12 = .ok (.aload_n 0, 1) := by decide +kernel
theorem dX2_at_13 : decode cX2_at 13 = .ok (.getfield 9, 3) := by decide +kernel
theorem dX2_at_16 : decode cX2_at 16 = .ok (.iload_n 1, 1) := by decide +kernel
theorem dX2_at_17 : decode cX2_at 17 = .ok (.iaload, 1) := by decide +kernel
theorem dX2_at_18 : decode cX2_at 18 = .ok (.goto 4, 3) := by decide +kernel
theorem dX2_at_21 : decode cX2_at 21 = .ok (.iconst 0, 1) := by decide +kernel
theorem dX2_at_22 : decode cX2_at 22 = .ok (.ireturn, 1) := by decide +kernel
theorem dX2_cut_0 : decode cX2_cut 0 = .ok (.aload_n 0, 1) := by decide +kernel
theorem dX2_cut_1 : decode cX2_cut 1 = .ok (.getfield 15, 3) := by decide +kernel
theorem dX2_cut_4 : decode cX2_cut 4 = .ok (.lookupswitch 34 #[(0, 28), (1, 31)], 28) := by decide +kernel
theorem dX2_cut_32 : decode cX2_cut 32 = .ok (.iload_n 1, 1) := by decide +kernel
theorem dX2_cut_33 : decode cX2_cut 33 = .ok (.i2b, 1) := by decide +kernel
theorem dX2_cut_34 : decode cX2_cut 34 = .ok (.ireturn, 1) := by decide +kernel
theorem dX2_cut_35 : decode cX2_cut 35 = .ok (.iload_n 1, 1) := by decide +kernel
theorem dX2_cut_36 : decode cX2_cut 36 = .ok (.i2s, 1) := by decide +kernel
theorem dX2_cut_37 : decode cX2_cut 37 = .ok (.ireturn, 1) := by decide +kernel
theorem dX2_cut_38 : decode cX2_cut 38 = .ok (.iload_n 1, 1) := by decide +kernel
theorem dX2_cut_39 : decode cX2_cut 39 = .ok (.ireturn, 1) := by decide +kernel
theorem dX3_firstFault_0 : decode cX3_firstFault 0 = .ok (.bipush 8, 2) := by decide +kernel
theorem dX3_firstFault_2 : decode cX3_firstFault 2 = .ok (.istore_n 3, 1) := by decide +kernel
theorem dX3_firstFault_3 : decode cX3_firstFault 3 = .ok (.iconst 0, 1) := by decide +kernel
theorem dX3_firstFault_4 : decode cX3_firstFault 4 = .ok (.istore 4, 2) := by decide +kernel
theorem dX3_firstFault_6 : decode cX3_firstFault 6 = .ok (.iload 4, 2) := by decide +kernel
theorem dX3_firstFault_8 : decode cX3_firstFault 8 = .ok (.iload_n 2, 1) := by decide +kernel
theorem dX3_firstFault_9 : decode cX3_firstFault 9 = .ok (.if_icmp .ge 45, 3) := by decide +kernel
theorem dX3_firstFault_12 : decode cX3_firstFault 12 = .ok (.aload_n 0, 1) := by decide +kernel
theorem dX3_firstFault_13 : decode cX3_firstFault 13 = .ok (.iload_n 1, 1) := by decide +kernel
theorem dX3_firstFault_14 : decode cX3_firstFault 14 = .ok (.iload 4, 2) := by decide +kernel
theorem dX3_firstFault_16 : decode cX3_firstFault 16 = .ok (.iadd, 1) := by decide +kernel
theorem dX3_firstFault_17 : decode cX3_firstFault 17 = .ok (.invokevirtual 9, 3) := by decide +kernel
theorem dX3_firstFault_20 : decode cX3_firstFault 20 = .ok (.istore 5, 2) := by decide +kernel
theorem dX3_firstFault_22 : decode cX3_firstFault 22 = .ok (.iload 4, 2) := by decide +kernel
theorem dX3_firstFault_24 : decode cX3_firstFault 24 = .ok (.iload 5, 2) := by decide +kernel
theorem dX3_firstFault_26 : decode cX3_firstFault 26 = .ok (.iload_n 3, 1) := by decide +kernel
theorem dX3_firstFault_27 : decode cX3_firstFault 27 = .ok (.invokestatic 15, 3) := by decide +kernel
theorem dX3_firstFault_30 : decode cX3_firstFault 30 = .ok (.ifCond .ne 6, 3) := by decide +kernel
theorem dX3_firstFault_33 : decode cX3_firstFault 33 = .ok (.iload 4, 2) := by decide +kernel
theorem dX3_firstFault_35 : decode cX3_firstFault 35 = .ok (.ireturn, 1) := by decide +kernel
theorem dX3_firstFault_36 : decode cX3_firstFault 36 = .ok (.iload 4, 2) := by decide +kernel
theorem dX3_firstFault_38 : decode cX3_firstFault 38 = .ok (.iconst 1, 1) := by decide +kernel
theorem dX3_firstFault_39 : decode cX3_firstFault 39 = .ok (.if_icmp .ne 9, 3) := by decide +kernel
theorem dX3_firstFault_42 : decode cX3_firstFault 42 = .ok (.iload 5, 2) := by decide +kernel
theorem dX3_firstFault_44 : decode cX3_firstFault 44 = .ok (.bipush 48, 2) := by decide +kernel
theorem dX3_firstFault_46 : decode cX3_firstFault 46 = .ok (.isub, 1) := by decide +kernel
theorem dX3_firstFault_47 : decode cX3_firstFault 47 = .ok (.istore_n 3, 1) := by decide +kernel
theorem dX3_firstFault_48 : decode cX3_firstFault 48 = .ok (.iinc 4 1, 3) := by decide +kernel
theorem dX3_firstFault_51 : decode cX3_firstFault 51 = .ok (.goto (-45), 3) := by decide +kernel
theorem dX3_firstFault_54 : decode cX3_firstFault 54 = .ok (.iload_n 2, 1) := by decide +kernel
theorem dX3_firstFault_55 : decode cX3_firstFault 55 = .ok (.iconst 3, 1) := by decide +kernel
theorem dX3_firstFault_56 : decode cX3_firstFault 56 = .ok (.iload_n 3, 1) := by decide +kernel
theorem dX3_firstFault_57 : decode cX3_firstFault 57 = .ok (.imul, 1) := by decide +kernel
theorem dX3_firstFault_58 : decode cX3_firstFault 58 = .ok (.if_icmp .ne 8, 3) := by decide +kernel
theorem dX3_firstFault_61 : decode cX3_firstFault 61 = .ok (.bipush (-9), 2) := by decide +kernel
theorem dX3_firstFault_63 : decode cX3_firstFault 63 = .ok (.goto 4, 3) := by decide +kernel
theorem dX3_firstFault_66 : decode cX3_firstFault 66 = .ok (.iload_n 2, 1) := by decide +kernel
theorem dX3_firstFault_67 : decode cX3_firstFault 67 = .ok (.ireturn, 1) := by decide +kernel
theorem dX3_goesOn_0 : decode cX3_goesOn 0 = .ok (.iload_n 0, 1) := by decide +kernel
theorem dX3_goesOn_1 : decode cX3_goesOn 1 = .ok (.ifCond .ne 15, 3) := by decide +kernel
theorem dX3_goesOn_4 : decode cX3_goesOn 4 = .ok (.iload_n 1, 1) := by decide +kernel
theorem dX3_goesOn_5 : decode cX3_goesOn 5 = .ok (.bipush 118, 2) := by decide +kernel
theorem dX3_goesOn_7 : decode cX3_goesOn 7 = .ok (.if_icmp .ne 7, 3) := by decide +kernel
theorem dX3_goesOn_10 : decode cX3_goesOn 10 = .ok (.iconst 1, 1) := by decide +kernel
theorem dX3_goesOn_11 : decode cX3_goesOn 11 = .ok (.goto 4, 3) := by decide +kernel
theorem dX3_goesOn_14 : decode cX3_goesOn 14 = .ok (.iconst 0, 1) := by decide +kernel
theorem dX3_goesOn_15 : decode cX3_goesOn 15 = .ok (.ireturn, 1) := by decide +kernel
theorem dX3_goesOn_16 : decode cX3_goesOn 16 = .ok (.iload_n 0, 1) := by decide +kernel
theorem dX3_goesOn_17 : decode cX3_goesOn 17 = .ok (.iconst 1, 1) := by decide +kernel
theorem dX3_goesOn_18 : decode cX3_goesOn 18 = .ok (.if_icmp .ne 21, 3) := by decide +kernel
theorem dX3_goesOn_21 : decode cX3_goesOn 21 = .ok (.iload_n 1, 1) := by decide +kernel
theorem dX3_goesOn_22 : decode cX3_goesOn 22 = .ok (.bipush 50, 2) := by decide +kernel
theorem dX3_goesOn_24 : decode cX3_goesOn 24 = .ok (.if_icmp .lt 13, 3) := by decide +kernel
theorem dX3_goesOn_27 : decode cX3_goesOn 27 = .ok (.iload_n 1, 1) := by decide +kernel
theorem dX3_goesOn_28 : decode cX3_goesOn 28 = .ok (.bipush 56, 2) := by decide +kernel
theorem dX3_goesOn_30 : decode cX3_goesOn 30 = .ok (.if_icmp .gt 7, 3) := by decide +kernel
theorem dX3_goesOn_33 : decode cX3_goesOn 33 = .ok (.iconst 1, 1) := by decide +kernel
theorem dX3_goesOn_34 : decode cX3_goesOn 34 = .ok (.goto 4, 3) := by decide +kernel
theorem dX3_goesOn_37 : decode cX3_goesOn 37 = .ok (.iconst 0, 1) := by decide +kernel
theorem dX3_goesOn_38 : decode cX3_goesOn 38 = .ok (.ireturn, 1) := by decide +kernel
theorem dX3_goesOn_39 : decode cX3_goesOn 39 = .ok (.iload_n 0, 1) := by decide +kernel
theorem dX3_goesOn_40 : decode cX3_goesOn 40 = .ok (.iload_n 2, 1) := by decide +kernel
theorem dX3_goesOn_41 : decode cX3_goesOn 41 = .ok (.if_icmp .ge 23, 3) := by decide +kernel
theorem dX3_goesOn_44 : decode cX3_goesOn 44 = .ok (.iload_n 1, 1) := by decide +kernel
theorem dX3_goesOn_45 : decode cX3_goesOn 45 = .ok (.bipush 48, 2) := by decide +kernel
theorem dX3_goesOn_47 : decode cX3_goesOn 47 = .ok (.if_icmp .lt 15, 3) := by decide +kernel
theorem dX3_goesOn_50 : decode cX3_goesOn 50 = .ok (.iload_n 1, 1) := by decide +kernel
theorem dX3_goesOn_51 : decode cX3_goesOn 51 = .ok (.bipush 48, 2) := by decide +kernel
theorem dX3_goesOn_53 : decode cX3_goesOn 53 = .ok (.iload_n 2, 1) := by decide +kernel
theorem dX3_goesOn_54 : decode cX3_goesOn 54 = .ok (.iadd, 1) := by decide +kernel
theorem dX3_goesOn_55 : decode cX3_goesOn 55 = .ok (.if_icmp .ge 7, 3) := by decide +kernel
theorem dX3_goesOn_58 : decode cX3_goesOn 58 = .ok (.iconst 1, 1) := by decide +kernel
theorem dX3_goesOn_59 : decode cX3_goesOn 59 = .ok (.goto 4, 3) := by decide +kernel
theorem dX3_goesOn_62 : decode cX3_goesOn 62 = .ok (.iconst 0, 1) := by decide +kernel
theorem dX3_goesOn_63 : decode cX3_goesOn 63 = .ok (.ireturn, 1) := by decide +kernel
theorem dX3_goesOn_64 : decode cX3_goesOn 64 = .ok (.iload_n 0, 1) := by decide +kernel
theorem dX3_goesOn_65 : decode cX3_goesOn 65 = .ok (.iconst 3, 1) := by decide +kernel
theorem dX3_goesOn_66 : decode cX3_goesOn 66 = .ok (.iload_n 2, 1) := by decide +kernel
theorem dX3_goesOn_67 : decode cX3_goesOn 67 = .ok (.imul, 1) := by decide +kernel
theorem dX3_goesOn_68 : decode cX3_goesOn 68 = .ok (.if_icmp .lt 5, 3) := by decide +kernel
theorem dX3_goesOn_71 : decode cX3_goesOn 71 = .ok (.iconst 0, 1) := by decide +kernel
theorem dX3_goesOn_72 : decode cX3_goesOn 72 = .ok (.ireturn, 1) := by decide +kernel
theorem dX3_goesOn_73 : decode cX3_goesOn 73 = .ok (.iload_n 0, 1) := by decide +kernel
theorem dX3_goesOn_74 : decode cX3_goesOn 74 = .ok (.iload_n 2, 1) := by decide +kernel
theorem dX3_goesOn_75 : decode cX3_goesOn 75 = .ok (.isub, 1) := by decide +kernel
theorem dX3_goesOn_76 : decode cX3_goesOn 76 = .ok (.iconst 2, 1) := by decide +kernel
theorem dX3_goesOn_77 : decode cX3_goesOn 77 = .ok (.irem, 1) := by decide +kernel
theorem dX3_goesOn_78 : decode cX3_goesOn 78 = .ok (.ifCond .ne 7, 3) := by decide +kernel
theorem dX3_goesOn_81 : decode cX3_goesOn 81 = .ok (.iconst 1, 1) := by decide +kernel
theorem dX3_goesOn_82 : decode cX3_goesOn 82 = .ok (.goto 4, 3) := by decide +kernel
theorem dX3_goesOn_85 : decode cX3_goesOn 85 = .ok (.iconst 0, 1) := by decide +kernel
theorem dX3_goesOn_86 : decode cX3_goesOn 86 = .ok (.istore_n 3, 1) := by decide +kernel
theorem dX3_goesOn_87 : decode cX3_goesOn 87 = .ok (.iload_n 3, 1) := by decide +kernel
theorem dX3_goesOn_88 : decode cX3_goesOn 88 = .ok (.ifCond .eq 20, 3) := by decide +kernel
theorem dX3_goesOn_91 : decode cX3_goesOn 91 = .ok (.iload_n 1, 1) := by decide +kernel
theorem dX3_goesOn_92 : decode cX3_goesOn 92 = .ok (.invokestatic 21, 3) := by decide +kernel
theorem dX3_goesOn_95 : decode cX3_goesOn 95 = .ok (.bipush (-9), 2) := by decide +kernel
theorem dX3_goesOn_97 : decode cX3_goesOn 97 = .ok (.if_icmp .eq 7, 3) := by decide +kernel
theorem dX3_goesOn_100 : decode cX3_goesOn 100 = .ok (.iconst 1, 1) := by decide +kernel
theorem dX3_goesOn_101 : decode cX3_goesOn 101 = .ok (.goto 24, 3) := by decide +kernel
theorem dX3_goesOn_104 : decode cX3_goesOn 104 = .ok (.iconst 0, 1) := by decide +kernel
theorem dX3_goesOn_105 : decode cX3_goesOn 105 = .ok (.goto 20, 3) := by decide +kernel
theorem dX3_goesOn_108 : decode cX3_goesOn 108 = .ok (.iload_n 1, 1) := by decide +kernel
theorem dX3_goesOn_109 : decode cX3_goesOn 109 = .ok (.bipush 48, 2) := by decide +kernel
theorem dX3_goesOn_111 : decode cX3_goesOn 111 = .ok (.if_icmp .lt 13, 3) := by decide +kernel
theorem dX3_goesOn_114 : decode cX3_goesOn 114 = .ok (.iload_n 1, 1) := by decide +kernel
theorem dX3_goesOn_115 : decode cX3_goesOn 115 = .ok (.bipush 57, 2) := by decide +kernel
theorem dX3_goesOn_117 : decode cX3_goesOn 117 = .ok (.if_icmp .gt 7, 3) := by decide +kernel
theorem dX3_goesOn_120 : decode cX3_goesOn 120 = .ok (.iconst 1, 1) := by decide +kernel
theorem dX3_goesOn_121 : decode cX3_goesOn 121 = .ok (.goto 4, 3) := by decide +kernel
theorem dX3_goesOn_124 : decode cX3_goesOn 124 = .ok (.iconst 0, 1) := by decide +kernel
theorem dX3_goesOn_125 : decode cX3_goesOn 125 = .ok (.ireturn, 1) := by decide +kernel
theorem dX3_kindOf_0 : decode cX3_kindOf 0 = .ok (.iload_n 0, 1) := by decide +kernel
theorem dX3_kindOf_1 : decode cX3_kindOf 1 = .ok (.lookupswitch 41 #[(98, 37), (100, 39), (112, 35)], 35) := by decide +kernel
theorem dX3_kindOf_36 : decode cX3_kindOf 36 = .ok (.iconst 0, 1) := by decide +kernel
theorem dX3_kindOf_37 : decode cX3_kindOf 37 = .ok (.ireturn, 1) := by decide +kernel
theorem dX3_kindOf_38 : decode cX3_kindOf 38 = .ok (.iconst 1, 1) := by decide +kernel
theorem dX3_kindOf_39 : decode cX3_kindOf 39 = .ok (.ireturn, 1) := by decide +kernel
theorem dX3_kindOf_40 : decode cX3_kindOf 40 = .ok (.iconst 2, 1) := by decide +kernel
theorem dX3_kindOf_41 : decode cX3_kindOf 41 = .ok (.ireturn, 1) := by decide +kernel
theorem dX3_kindOf_42 : decode cX3_kindOf 42 = .ok (.bipush (-9), 2) := by decide +kernel
theorem dX3_kindOf_44 : decode cX3_kindOf 44 = .ok (.ireturn, 1) := by decide +kernel
theorem dX3_digitAt_0 : decode cX3_digitAt 0 = .ok (.iconst 0, 1) := by decide +kernel
theorem dX3_digitAt_1 : decode cX3_digitAt 1 = .ok (.iload_n 2, 1) := by decide +kernel
theorem dX3_digitAt_2 : decode cX3_digitAt 2 = .ok (.aload_n 0, 1) := by decide +kernel
theorem dX3_digitAt_3 : decode cX3_digitAt 3 = .ok (.iload_n 1, 1) := by decide +kernel
theorem dX3_digitAt_4 : decode cX3_digitAt 4 = .ok (.invokevirtual 9, 3) := by decide +kernel
theorem dX3_digitAt_7 : decode cX3_digitAt 7 = .ok (.bipush 48, 2) := by decide +kernel
theorem dX3_digitAt_9 : decode cX3_digitAt 9 = .ok (.isub, 1) := by decide +kernel
theorem dX3_digitAt_10 : decode cX3_digitAt 10 = .ok (.invokestatic 24, 3) := by decide +kernel
theorem dX3_digitAt_13 : decode cX3_digitAt 13 = .ok (.invokestatic 30, 3) := by decide +kernel
theorem dX3_digitAt_16 : decode cX3_digitAt 16 = .ok (.ireturn, 1) := by decide +kernel
theorem dJ6_bitCount_0f7a4_0 : decode cJ6_bitCount_0f7a4 0 = .ok (.iload_n 0, 1) := by decide +kernel
theorem dJ6_bitCount_0f7a4_1 : decode cJ6_bitCount_0f7a4 1 = .ok (.iload_n 0, 1) := by decide +kernel
theorem dJ6_bitCount_0f7a4_2 : decode cJ6_bitCount_0f7a4 2 = .ok (.iconst 1, 1) := by decide +kernel
theorem dJ6_bitCount_0f7a4_3 : decode cJ6_bitCount_0f7a4 3 = .ok (.iushr, 1) := by decide +kernel
theorem dJ6_bitCount_0f7a4_4 : decode cJ6_bitCount_0f7a4 4 = .ok (.ldc_w 265, 3) := by decide +kernel
theorem dJ6_bitCount_0f7a4_7 : decode cJ6_bitCount_0f7a4 7 = .ok (.iand, 1) := by decide +kernel
theorem dJ6_bitCount_0f7a4_8 : decode cJ6_bitCount_0f7a4 8 = .ok (.isub, 1) := by decide +kernel
theorem dJ6_bitCount_0f7a4_9 : decode cJ6_bitCount_0f7a4 9 = .ok (.istore_n 0, 1) := by decide +kernel
theorem dJ6_bitCount_0f7a4_10 : decode cJ6_bitCount_0f7a4 10 = .ok (.iload_n 0, 1) := by decide +kernel
theorem dJ6_bitCount_0f7a4_11 : decode cJ6_bitCount_0f7a4 11 = .ok (.ldc_w 266, 3) := by decide +kernel
theorem dJ6_bitCount_0f7a4_14 : decode cJ6_bitCount_0f7a4 14 = .ok (.iand, 1) := by decide +kernel
theorem dJ6_bitCount_0f7a4_15 : decode cJ6_bitCount_0f7a4 15 = .ok (.iload_n 0, 1) := by decide +kernel
theorem dJ6_bitCount_0f7a4_16 : decode cJ6_bitCount_0f7a4 16 = .ok (.iconst 2, 1) := by decide +kernel
theorem dJ6_bitCount_0f7a4_17 : decode cJ6_bitCount_0f7a4 17 = .ok (.iushr, 1) := by decide +kernel
theorem dJ6_bitCount_0f7a4_18 : decode cJ6_bitCount_0f7a4 18 = .ok (.ldc_w 266, 3) := by decide +kernel
theorem dJ6_bitCount_0f7a4_21 : decode cJ6_bitCount_0f7a4 21 = .ok (.iand, 1) := by decide +kernel
theorem dJ6_bitCount_0f7a4_22 : decode cJ6_bitCount_0f7a4 22 = .ok (.iadd, 1) := by decide +kernel
theorem dJ6_bitCount_0f7a4_23 : decode cJ6_bitCount_0f7a4 23 = .ok (.istore_n 0, 1) := by decide +kernel
theorem dJ6_bitCount_0f7a4_24 : decode cJ6_bitCount_0f7a4 24 = .ok (.iload_n 0, 1) := by decide +kernel
theorem dJ6_bitCount_0f7a4_25 : decode cJ6_bitCount_0f7a4 25 = .ok (.iload_n 0, 1) := by decide +kernel
theorem dJ6_bitCount_0f7a4_26 : decode cJ6_bitCount_0f7a4 26 = .ok (.iconst 4, 1) := by decide +kernel
theorem dJ6_bitCount_0f7a4_27 : decode cJ6_bitCount_0f7a4 27 = .ok (.iushr, 1) := by decide +kernel
theorem dJ6_bitCount_0f7a4_28 : decode cJ6_bitCount_0f7a4 28 = .ok (.iadd, 1) := by decide +kernel
theorem dJ6_bitCount_0f7a4_29 : decode cJ6_bitCount_0f7a4 29 = .ok (.ldc_w 267, 3) := by decide +kernel
theorem dJ6_bitCount_0f7a4_32 : decode cJ6_bitCount_0f7a4 32 = .ok (.iand, 1) := by decide +kernel
theorem dJ6_bitCount_0f7a4_33 : decode cJ6_bitCount_0f7a4 33 = .ok (.istore_n 0, 1) := by decide +kernel
theorem dJ6_bitCount_0f7a4_34 : decode cJ6_bitCount_0f7a4 34 = .ok (.iload_n 0, 1) := by decide +kernel
theorem dJ6_bitCount_0f7a4_35 : decode cJ6_bitCount_0f7a4 35 = .ok (.iload_n 0, 1) := by decide +kernel
theorem dJ6_bitCount_0f7a4_36 : decode cJ6_bitCount_0f7a4 36 = .ok (.bipush 8, 2) := by decide +kernel
theorem dJ6_bitCount_0f7a4_38 : decode cJ6_bitCount_0f7a4 38 = .ok (.iushr, 1) := by decide +kernel
theorem dJ6_bitCount_0f7a4_39 : decode cJ6_bitCount_0f7a4 39 = .ok (.iadd, 1) := by decide +kernel
theorem dJ6_bitCount_0f7a4_40 : decode cJ6_bitCount_0f7a4 40 = .ok (.istore_n 0, 1) := by decide +kernel
theorem dJ6_bitCount_0f7a4_41 : decode cJ6_bitCount_0f7a4 41 = .ok (.iload_n 0, 1) := by decide +kernel
theorem dJ6_bitCount_0f7a4_42 : decode cJ6_bitCount_0f7a4 42 = .ok (.iload_n 0, 1) := by decide +kernel
theorem dJ6_bitCount_0f7a4_43 : decode cJ6_bitCount_0f7a4 43 = .ok (.bipush 16, 2) := by decide +kernel
theorem dJ6_bitCount_0f7a4_45 : decode cJ6_bitCount_0f7a4 45 = .ok (.iushr, 1) := by decide +kernel
theorem dJ6_bitCount_0f7a4_46 : decode cJ6_bitCount_0f7a4 46 = .ok (.iadd, 1) := by decide +kernel
theorem dJ6_bitCount_0f7a4_47 : decode cJ6_bitCount_0f7a4 47 = .ok (.istore_n 0, 1) := by decide +kernel
theorem dJ6_bitCount_0f7a4_48 : decode cJ6_bitCount_0f7a4 48 = .ok (.iload_n 0, 1) := by decide +kernel
theorem dJ6_bitCount_0f7a4_49 : decode cJ6_bitCount_0f7a4 49 = .ok (.bipush 63, 2) := by decide +kernel
theorem dJ6_bitCount_0f7a4_51 : decode cJ6_bitCount_0f7a4 51 = .ok (.iand, 1) := by decide +kernel
theorem dJ6_bitCount_0f7a4_52 : decode cJ6_bitCount_0f7a4 52 = .ok (.ireturn, 1) := by decide +kernel
end
section
theorem dX4_init_0 : decode cX4_init 0 = .ok (.aload_n 0, 1) := by decide +kernel
theorem dX4_init_1 : decode cX4_init 1 = .ok (.invokespecial 3, 3) := by decide +kernel
theorem dX4_init_4 : decode cX4_init 4 = .ok (.aload_n 0, 1) := by decide +kernel
theorem dX4_init_5 : decode cX4_init 5 = .ok (.bipush 8, 2) := by decide +kernel
theorem dX4_init_7 : decode cX4_init 7 = .ok (.newarray .int, 2) := by decide +kernel
theorem dX4_init_9 : decode cX4_init 9 = .ok (.putfield 9, 3) := by decide +kernel
theorem dX4_init_12 : decode cX4_init 12 = .ok (.aload_n 0, 1) := by decide +kernel
theorem dX4_init_13 : decode cX4_init 13 = .ok (.bipush 8, 2) := by decide +kernel
theorem dX4_init_15 : decode cX4_init 15 = .ok (.newarray .int, 2) := by decide +kernel
theorem dX4_init_17 : decode cX4_init 17 = .ok (.putfield 15, 3) := by decide +kernel
theorem dX4_init_20 : decode cX4_init 20 = .ok (.aload_n 0, 1) := by decide +kernel
theorem dX4_init_21 : decode cX4_init 21 = .ok (.bipush 8, 2) := by decide +kernel
theorem dX4_init_23 : decode cX4_init 23 = .ok (.newarray .int, 2) := by decide +kernel
theorem dX4_init_25 : decode cX4_init 25 = .ok (.putfield 18, 3) := by decide +kernel
theorem dX4_init_28 : decode cX4_init 28 = .ok (.aload_n 0, 1) := by decide +kernel
theorem dX4_init_29 : decode cX4_init 29 = .ok (.bipush 8, 2) := by decide +kernel
theorem dX4_init_31 : decode cX4_init 31 = .ok (.bipush 8, 2) := by decide +kernel
theorem dX4_init_33 : decode cX4_init 33 = .ok (.multianewarray 21 2, 4) := by decide +kernel
theorem dX4_init_37 : decode cX4_init 37 = .ok (.putfield 23, 3) := by decide +kernel
theorem dX4_init_40 : decode cX4_init 40 = .ok (.aload_n 0, 1) := by decide +kernel
theorem dX4_init_41 : decode cX4_init 41 = .ok (.bipush 8, 2) := by decide +kernel
theorem dX4_init_43 : decode cX4_init 43 = .ok (.newarray .int, 2) := by decide +kernel
theorem dX4_init_45 : decode cX4_init 45 = .ok (.putfield 26, 3) := by decide +kernel
theorem dX4_init_48 : decode cX4_init 48 = .ok (.aload_n 0, 1) := by decide +kernel
theorem dX4_init_49 : decode cX4_init 49 = .ok (.bipush 8, 2) := by decide +kernel
theorem dX4_init_51 : decode cX4_init 51 = .ok (.newarray .int, 2) := by decide +kernel
theorem dX4_init_53 : decode cX4_init 53 = .ok (.putfield 29, 3) := by decide +kernel
theorem dX4_init_56 : decode cX4_init 56 = .ok (.aload_n 0, 1) := by decide +kernel
theorem dX4_init_57 : decode cX4_init 57 = .ok (.bipush 8, 2) := by decide +kernel
theorem dX4_init_59 : decode cX4_init 59 = .ok (.newarray .int, 2) := by decide +kernel
theorem dX4_init_61 : decode cX4_init 61 = .ok (.putfield 32, 3) := by decide +kernel
theorem dX4_init_64 : decode cX4_init 64 = .ok (.aload_n 0, 1) := by decide +kernel
theorem dX4_init_65 : decode cX4_init 65 = .ok (.bipush 8, 2) := by decide +kernel
theorem dX4_init_67 : decode cX4_init 67 = .ok (.newarray .int, 2) := by decide +kernel
theorem dX4_init_69 : decode cX4_init 69 = .ok (.putfield 35, 3) := by decide +kernel
theorem dX4_init_72 : decode cX4_init 72 = .ok (.return_, 1) := by decide +kernel
theorem dX4_isPost_0 : decode cX4_isPost 0 = .ok (.iload_n 1, 1) := by decide +kernel
theorem dX4_isPost_1 : decode cX4_isPost 1 = .ok (.ifCond .lt 15, 3) := by decide +kernel
theorem dX4_isPost_4 : decode cX4_isPost 4 = .ok (.iload_n 1, 1) := by decide +kernel
theorem dX4_isPost_5 : decode cX4_isPost 5 = .ok (.aload_n 0, 1) := by decide +kernel
theorem dX4_isPost_6 : decode cX4_isPost 6 = .ok (.getfield 38, 3) := by decide +kernel
theorem dX4_isPost_9 : decode cX4_isPost 9 = .ok (.if_icmp .ge 7, 3) := by decide +kernel
theorem dX4_isPost_12 : decode cX4_isPost 12 = .ok (.iconst 1, 1) := by decide +kernel
theorem dX4_isPost_13 : decode cX4_isPost 13 = .ok (.goto 4, 3) := by decide +kernel
theorem dX4_isPost_16 : decode cX4_isPost 16 = .ok (.iconst 0, 1) := by decide +kernel
theorem dX4_isPost_17 : decode cX4_isPost 17 = .ok (.ireturn, 1) := by decide +kernel
theorem dX4_isEnd_0 : decode cX4_isEnd 0 = .ok (.aload_n 0, 1) := by decide +kernel
theorem dX4_isEnd_1 : decode cX4_isEnd 1 = .ok (.getfield 18, 3) := by decide +kernel
theorem dX4_isEnd_4 : decode cX4_isEnd 4 = .ok (.iload_n 1, 1) := by decide +kernel
theorem dX4_isEnd_5 : decode cX4_isEnd 5 = .ok (.iaload, 1) := by decide +kernel
theorem dX4_isEnd_6 : decode cX4_isEnd 6 = .ok (.invokestatic 42, 3) := by decide +kernel
theorem dX4_isEnd_9 : decode cX4_isEnd 9 = .ok (.iconst 1, 1) := by decide +kernel
theorem dX4_isEnd_10 : decode cX4_isEnd 10 = .ok (.if_icmp .ne 7, 3) := by decide +kernel
theorem dX4_isEnd_13 : decode cX4_isEnd 13 = .ok (.iconst 1, 1) := by decide +kernel
theorem dX4_isEnd_14 : decode cX4_isEnd 14 = .ok (.goto 4, 3) := by decide +kernel
theorem dX4_isEnd_17 : decode cX4_isEnd 17 = .ok (.iconst 0, 1) := by decide +kernel
theorem dX4_isEnd_18 : decode cX4_isEnd 18 = .ok (.ireturn, 1) := by decide +kernel
theorem dX4_worth_0 : decode cX4_worth 0 = .ok (.aload_n 0, 1) := by decide +kernel
theorem dX4_worth_1 : decode cX4_worth 1 = .ok (.getfield 9, 3) := by decide +kernel
theorem dX4_worth_4 : decode cX4_worth 4 = .ok (.iload_n 1, 1) := by decide +kernel
theorem dX4_worth_5 : decode cX4_worth 5 = .ok (.iaload, 1) := by decide +kernel
theorem dX4_worth_6 : decode cX4_worth 6 = .ok (.aload_n 0, 1) := by decide +kernel
theorem dX4_worth_7 : decode cX4_worth 7 = .ok (.getfield 15, 3) := by decide +kernel
theorem dX4_worth_10 : decode cX4_worth 10 = .ok (.iload_n 1, 1) := by decide +kernel
theorem dX4_worth_11 : decode cX4_worth 11 = .ok (.iaload, 1) := by decide +kernel
theorem dX4_worth_12 : decode cX4_worth 12 = .ok (.invokestatic 48, 3) := by decide +kernel
theorem dX4_worth_15 : decode cX4_worth 15 = .ok (.ireturn, 1) := by decide +kernel
theorem dX4_worthOfAll_0 : decode cX4_worthOfAll 0 = .ok (.iconst 0, 1) := by decide +kernel
theorem dX4_worthOfAll_1 : decode cX4_worthOfAll 1 = .ok (.istore_n 1, 1) := by decide +kernel
theorem dX4_worthOfAll_2 : decode cX4_worthOfAll 2 = .ok (.iconst 0, 1) := by decide +kernel
theorem dX4_worthOfAll_3 : decode cX4_worthOfAll 3 = .ok (.istore_n 2, 1) := by decide +kernel
theorem dX4_worthOfAll_4 : decode cX4_worthOfAll 4 = .ok (.iload_n 2, 1) := by decide +kernel
theorem dX4_worthOfAll_5 : decode cX4_worthOfAll 5 = .ok (.aload_n 0, 1) := by decide +kernel
theorem dX4_worthOfAll_6 : decode cX4_worthOfAll 6 = .ok (.getfield 38, 3) := by decide +kernel
theorem dX4_worthOfAll_9 : decode cX4_worthOfAll 9 = .ok (.if_icmp .ge 17, 3) := by decide +kernel
theorem dX4_worthOfAll_12 : decode cX4_worthOfAll 12 = .ok (.iload_n 1, 1) := by decide +kernel
theorem dX4_worthOfAll_13 : decode cX4_worthOfAll 13 = .ok (.aload_n 0, 1) := by decide +kernel
theorem dX4_worthOfAll_14 : decode cX4_worthOfAll 14 = .ok (.iload_n 2, 1) := by decide +kernel
theorem dX4_worthOfAll_15 : decode cX4_worthOfAll 15 = .ok (.invokevirtual 52, 3) := by decide +kernel
theorem dX4_worthOfAll_18 : decode cX4_worthOfAll 18 = .ok (.iadd, 1) := by decide +kernel
theorem dX4_worthOfAll_19 : decode cX4_worthOfAll 19 = .ok (.istore_n 1, 1) := by decide +kernel
theorem dX4_worthOfAll_20 : decode cX4_worthOfAll 20 = .ok (.iinc 2 1, 3) := by decide +kernel
theorem dX4_worthOfAll_23 : decode cX4_worthOfAll 23 = .ok (.goto (-19), 3) := by decide +kernel
theorem dX4_worthOfAll_26 : decode cX4_worthOfAll 26 = .ok (.iload_n 1, 1) := by decide +kernel
theorem dX4_worthOfAll_27 : decode cX4_worthOfAll 27 = .ok (.ireturn, 1) := by decide +kernel
theorem dX4_ends_0 : decode cX4_ends 0 = .ok (.iconst 0, 1) := by decide +kernel
theorem dX4_ends_1 : decode cX4_ends 1 = .ok (.istore_n 1, 1) := by decide +kernel
theorem dX4_ends_2 : decode cX4_ends 2 = .ok (.iconst 0, 1) := by decide +kernel
theorem dX4_ends_3 : decode cX4_ends 3 = .ok (.istore_n 2, 1) := by decide +kernel
theorem dX4_ends_4 : decode cX4_ends 4 = .ok (.iload_n 2, 1) := by decide +kernel
theorem dX4_ends_5 : decode cX4_ends 5 = .ok (.aload_n 0, 1) := by decide +kernel
theorem dX4_ends_6 : decode cX4_ends 6 = .ok (.getfield 38, 3) := by decide +kernel
theorem dX4_ends_9 : decode cX4_ends 9 = .ok (.if_icmp .ge 23, 3) := by decide +kernel
theorem dX4_ends_12 : decode cX4_ends 12 = .ok (.aload_n 0, 1) := by decide +kernel
theorem dX4_ends_13 : decode cX4_ends 13 = .ok (.iload_n 2, 1) := by decide +kernel
theorem dX4_ends_14 : decode cX4_ends 14 = .ok (.invokevirtual 55, 3) := by decide +kernel
theorem dX4_ends_17 : decode cX4_ends 17 = .ok (.ifCond .eq 9, 3) := by decide +kernel
theorem dX4_ends_20 : decode cX4_ends 20 = .ok (.iload_n 1, 1) := by decide +kernel
theorem dX4_ends_21 : decode cX4_ends 21 = .ok (.iconst 1, 1) := by decide +kernel
theorem dX4_ends_22 : decode cX4_ends 22 = .ok (.iload_n 2, 1) := by decide +kernel
theorem dX4_ends_23 : decode cX4_ends 23 = .ok (.ishl, 1) := by decide +kernel
theorem dX4_ends_24 : decode cX4_ends 24 = .ok (.ior, 1) := by decide +kernel
theorem dX4_ends_25 : decode cX4_ends 25 = .ok (.istore_n 1, 1) := by decide +kernel
theorem dX4_ends_26 : decode cX4_ends 26 = .ok (.iinc 2 1, 3) := by decide +kernel
theorem dX4_ends_29 : decode cX4_ends 29 = .ok (.goto (-25), 3) := by decide +kernel
theorem dX4_ends_32 : decode cX4_ends 32 = .ok (.iload_n 1, 1) := by decide +kernel
theorem dX4_ends_33 : decode cX4_ends 33 = .ok (.ireturn, 1) := by decide +kernel
theorem dX4_isOnWay_0 : decode cX4_isOnWay 0 = .ok (.aload_n 0, 1) := by decide +kernel
theorem dX4_isOnWay_1 : decode cX4_isOnWay 1 = .ok (.getfield 23, 3) := by decide +kernel
theorem dX4_isOnWay_4 : decode cX4_isOnWay 4 = .ok (.iload_n 1, 1) := by decide +kernel
theorem dX4_isOnWay_5 : decode cX4_isOnWay 5 = .ok (.aaload, 1) := by decide +kernel
theorem dX4_isOnWay_6 : decode cX4_isOnWay 6 = .ok (.iload_n 3, 1) := by decide +kernel
theorem dX4_isOnWay_7 : decode cX4_isOnWay 7 = .ok (.iaload, 1) := by decide +kernel
theorem dX4_isOnWay_8 : decode cX4_isOnWay 8 = .ok (.aload_n 0, 1) := by decide +kernel
theorem dX4_isOnWay_9 : decode cX4_isOnWay 9 = .ok (.getfield 23, 3) := by decide +kernel
theorem dX4_isOnWay_12 : decode cX4_isOnWay 12 = .ok (.iload_n 3, 1) := by decide +kernel
theorem dX4_isOnWay_13 : decode cX4_isOnWay 13 = .ok (.aaload, 1) := by decide +kernel
theorem dX4_isOnWay_14 : decode cX4_isOnWay 14 = .ok (.iload_n 2, 1) := by decide +kernel
theorem dX4_isOnWay_15 : decode cX4_isOnWay 15 = .ok (.iaload, 1) := by decide +kernel
theorem dX4_isOnWay_16 : decode cX4_isOnWay 16 = .ok (.iadd, 1) := by decide +kernel
theorem dX4_isOnWay_17 : decode cX4_isOnWay 17 = .ok (.aload_n 0, 1) := by decide +kernel
theorem dX4_isOnWay_18 : decode cX4_isOnWay 18 = .ok (.getfield 23, 3) := by decide +kernel
theorem dX4_isOnWay_21 : decode cX4_isOnWay 21 = .ok (.iload_n 1, 1) := by decide +kernel
theorem dX4_isOnWay_22 : decode cX4_isOnWay 22 = .ok (.aaload, 1) := by decide +kernel
theorem dX4_isOnWay_23 : decode cX4_isOnWay 23 = .ok (.iload_n 2, 1) := by decide +kernel
theorem dX4_isOnWay_24 : decode cX4_isOnWay 24 = .ok (.iaload, 1) := by decide +kernel
theorem dX4_isOnWay_25 : decode cX4_isOnWay 25 = .ok (.if_icmp .ne 7, 3) := by decide +kernel
theorem dX4_isOnWay_28 : decode cX4_isOnWay 28 = .ok (.iconst 1, 1) := by decide +kernel
theorem dX4_isOnWay_29 : decode cX4_isOnWay 29 = .ok (.goto 4, 3) := by decide +kernel
theorem dX4_isOnWay_32 : decode cX4_isOnWay 32 = .ok (.iconst 0, 1) := by decide +kernel
theorem dX4_isOnWay_33 : decode cX4_isOnWay 33 = .ok (.ireturn, 1) := by decide +kernel
theorem dX4_farthest_0 : decode cX4_farthest 0 = .ok (.iconst 0, 1) := by decide +kernel
theorem dX4_farthest_1 : decode cX4_farthest 1 = .ok (.istore_n 2, 1) := by decide +kernel
theorem dX4_farthest_2 : decode cX4_farthest 2 = .ok (.iconst 0, 1) := by decide +kernel
theorem dX4_farthest_3 : decode cX4_farthest 3 = .ok (.istore_n 3, 1) := by decide +kernel
theorem dX4_farthest_4 : decode cX4_farthest 4 = .ok (.iload_n 3, 1) := by decide +kernel
theorem dX4_farthest_5 : decode cX4_farthest 5 = .ok (.aload_n 0, 1) := by decide +kernel
theorem dX4_farthest_6 : decode cX4_farthest 6 = .ok (.getfield 38, 3) := by decide +kernel
theorem dX4_farthest_9 : decode cX4_farthest 9 = .ok (.if_icmp .ge 22, 3) := by decide +kernel
theorem dX4_farthest_12 : decode cX4_farthest 12 = .ok (.iload_n 2, 1) := by decide +kernel
theorem dX4_farthest_13 : decode cX4_farthest 13 = .ok (.aload_n 0, 1) := by decide +kernel
theorem dX4_farthest_14 : decode cX4_farthest 14 = .ok (.getfield 23, 3) := by decide +kernel
theorem dX4_farthest_17 : decode cX4_farthest 17 = .ok (.iload_n 1, 1) := by decide +kernel
theorem dX4_farthest_18 : decode cX4_farthest 18 = .ok (.aaload, 1) := by decide +kernel
theorem dX4_farthest_19 : decode cX4_farthest 19 = .ok (.iload_n 3, 1) := by decide +kernel
theorem dX4_farthest_20 : decode cX4_farthest 20 = .ok (.iaload, 1) := by decide +kernel
theorem dX4_farthest_21 : decode cX4_farthest 21 = .ok (.invokestatic 59, 3) := by decide +kernel
theorem dX4_farthest_24 : decode cX4_farthest 24 = .ok (.istore_n 2, 1) := by decide +kernel
theorem dX4_farthest_25 : decode cX4_farthest 25 = .ok (.iinc 3 1, 3) := by decide +kernel
theorem dX4_farthest_28 : decode cX4_farthest 28 = .ok (.goto (-24), 3) := by decide +kernel
theorem dX4_farthest_31 : decode cX4_farthest 31 = .ok (.iload_n 2, 1) := by decide +kernel
theorem dX4_farthest_32 : decode cX4_farthest 32 = .ok (.ireturn, 1) := by decide +kernel
theorem dX4_longest_0 : decode cX4_longest 0 = .ok (.iconst 0, 1) := by decide +kernel
theorem dX4_longest_1 : decode cX4_longest 1 = .ok (.istore_n 1, 1) := by decide +kernel
theorem dX4_longest_2 : decode cX4_longest 2 = .ok (.iconst 0, 1) := by decide +kernel
theorem dX4_longest_3 : decode cX4_longest 3 = .ok (.istore_n 2, 1) := by decide +kernel
theorem dX4_longest_4 : decode cX4_longest 4 = .ok (.iload_n 2, 1) := by decide +kernel
theorem dX4_longest_5 : decode cX4_longest 5 = .ok (.aload_n 0, 1) := by decide +kernel
theorem dX4_longest_6 : decode cX4_longest 6 = .ok (.getfield 38, 3) := by decide +kernel
theorem dX4_longest_9 : decode cX4_longest 9 = .ok (.if_icmp .ge 19, 3) := by decide +kernel
theorem dX4_longest_12 : decode cX4_longest 12 = .ok (.iload_n 1, 1) := by decide +kernel
theorem dX4_longest_13 : decode cX4_longest 13 = .ok (.aload_n 0, 1) := by decide +kernel
theorem dX4_longest_14 : decode cX4_longest 14 = .ok (.iload_n 2, 1) := by decide +kernel
theorem dX4_longest_15 : decode cX4_longest 15 = .ok (.invokevirtual 64, 3) := by decide +kernel
theorem dX4_longest_18 : decode cX4_longest 18 = .ok (.invokestatic 59, 3) := by decide +kernel
theorem dX4_longest_21 : decode cX4_longest 21 = .ok (.istore_n 1, 1) := by decide +kernel
theorem dX4_longest_22 : decode cX4_longest 22 = .ok (.iinc 2 1, 3) := by decide +kernel
theorem dX4_longest_25 : decode cX4_longest 25 = .ok (.goto (-21), 3) := by decide +kernel
theorem dX4_longest_28 : decode cX4_longest 28 = .ok (.iload_n 1, 1) := by decide +kernel
theorem dX4_longest_29 : decode cX4_longest 29 = .ok (.ireturn, 1) := by decide +kernel
theorem dX4_middles_0 : decode cX4_middles 0 = .ok (.bipush 8, 2) := by decide +kernel
theorem dX4_middles_2 : decode cX4_middles 2 = .ok (.istore_n 1, 1) := by decide +kernel
theorem dX4_middles_3 : decode cX4_middles 3 = .ok (.iconst 0, 1) := by decide +kernel
theorem dX4_middles_4 : decode cX4_middles 4 = .ok (.istore_n 2, 1) := by decide +kernel
theorem dX4_middles_5 : decode cX4_middles 5 = .ok (.iconst 0, 1) := by decide +kernel
theorem dX4_middles_6 : decode cX4_middles 6 = .ok (.istore_n 3, 1) := by decide +kernel
theorem dX4_middles_7 : decode cX4_middles 7 = .ok (.iload_n 3, 1) := by decide +kernel
theorem dX4_middles_8 : decode cX4_middles 8 = .ok (.aload_n 0, 1) := by decide +kernel
theorem dX4_middles_9 : decode cX4_middles 9 = .ok (.getfield 38, 3) := by decide +kernel
theorem dX4_middles_12 : decode cX4_middles 12 = .ok (.if_icmp .ge 39, 3) := by decide +kernel
theorem dX4_middles_15 : decode cX4_middles 15 = .ok (.aload_n 0, 1) := by decide +kernel
theorem dX4_middles_16 : decode cX4_middles 16 = .ok (.iload_n 3, 1) := by decide +kernel
theorem dX4_middles_17 : decode cX4_middles 17 = .ok (.invokevirtual 64, 3) := by decide +kernel
theorem dX4_middles_20 : decode cX4_middles 20 = .ok (.istore 4, 2) := by decide +kernel
theorem dX4_middles_22 : decode cX4_middles 22 = .ok (.iload 4, 2) := by decide +kernel
theorem dX4_middles_24 : decode cX4_middles 24 = .ok (.iload_n 1, 1) := by decide +kernel
theorem dX4_middles_25 : decode cX4_middles 25 = .ok (.if_icmp .ge 8, 3) := by decide +kernel
theorem dX4_middles_28 : decode cX4_middles 28 = .ok (.iload 4, 2) := by decide +kernel
theorem dX4_middles_30 : decode cX4_middles 30 = .ok (.istore_n 1, 1) := by decide +kernel
theorem dX4_middles_31 : decode cX4_middles 31 = .ok (.iconst 0, 1) := by decide +kernel
theorem dX4_middles_32 : decode cX4_middles 32 = .ok (.istore_n 2, 1) := by decide +kernel
theorem dX4_middles_33 : decode cX4_middles 33 = .ok (.iload 4, 2) := by decide +kernel
theorem dX4_middles_35 : decode cX4_middles 35 = .ok (.iload_n 1, 1) := by decide +kernel
theorem dX4_middles_36 : decode cX4_middles 36 = .ok (.if_icmp .ne 9, 3) := by decide +kernel
theorem dX4_middles_39 : decode cX4_middles 39 = .ok (.iload_n 2, 1) := by decide +kernel
theorem dX4_middles_40 : decode cX4_middles 40 = .ok (.iconst 1, 1) := by decide +kernel
theorem dX4_middles_41 : decode cX4_middles 41 = .ok (.iload_n 3, 1) := by decide +kernel
theorem dX4_middles_42 : decode cX4_middles 42 = .ok (.ishl, 1) := by decide +kernel
theorem dX4_middles_43 : decode cX4_middles 43 = .ok (.ior, 1) := by decide +kernel
theorem dX4_middles_44 : decode cX4_middles 44 = .ok (.istore_n 2, 1) := by decide +kernel
theorem dX4_middles_45 : decode cX4_middles 45 = .ok (.iinc 3 1, 3) := by decide +kernel
theorem dX4_middles_48 : decode cX4_middles 48 = .ok (.goto (-41), 3) := by decide +kernel
theorem dX4_middles_51 : decode cX4_middles 51 = .ok (.iload_n 2, 1) := by decide +kernel
theorem dX4_middles_52 : decode cX4_middles 52 = .ok (.ireturn, 1) := by decide +kernel
theorem dX4_twosWithin_0 : decode cX4_twosWithin 0 = .ok (.iconst 0, 1) := by decide +kernel
theorem dX4_twosWithin_1 : decode cX4_twosWithin 1 = .ok (.istore_n 2, 1) := by decide +kernel
theorem dX4_twosWithin_2 : decode cX4_twosWithin 2 = .ok (.iconst 0, 1) := by decide +kernel
theorem dX4_twosWithin_3 : decode cX4_twosWithin 3 = .ok (.istore_n 3, 1) := by decide +kernel
theorem dX4_twosWithin_4 : decode cX4_twosWithin 4 = .ok (.iload_n 3, 1) := by decide +kernel
theorem dX4_twosWithin_5 : decode cX4_twosWithin 5 = .ok (.aload_n 0, 1) := by decide +kernel
theorem dX4_twosWithin_6 : decode cX4_twosWithin 6 = .ok (.getfield 38, 3) := by decide +kernel
theorem dX4_twosWithin_9 : decode cX4_twosWithin 9 = .ok (.if_icmp .ge 40, 3) := by decide +kernel
theorem dX4_twosWithin_12 : decode cX4_twosWithin 12 = .ok (.iconst 0, 1) := by decide +kernel
theorem dX4_twosWithin_13 : decode cX4_twosWithin 13 = .ok (.istore 4, 2) := by decide +kernel
theorem dX4_twosWithin_15 : decode cX4_twosWithin 15 = .ok (.iload 4, 2) := by decide +kernel
theorem dX4_twosWithin_17 : decode cX4_twosWithin 17 = .ok (.iload_n 3, 1) := by decide +kernel
theorem dX4_twosWithin_18 : decode cX4_twosWithin 18 = .ok (.if_icmp .ge 25, 3) := by decide +kernel
theorem dX4_twosWithin_21 : decode cX4_twosWithin 21 = .ok (.aload_n 0, 1) := by decide +kernel
theorem dX4_twosWithin_22 : decode cX4_twosWithin 22 = .ok (.getfield 23, 3) := by decide +kernel
theorem dX4_twosWithin_25 : decode cX4_twosWithin 25 = .ok (.iload_n 3, 1) := by decide +kernel
theorem dX4_twosWithin_26 : decode cX4_twosWithin 26 = .ok (.aaload, 1) := by decide +kernel
theorem dX4_twosWithin_27 : decode cX4_twosWithin 27 = .ok (.iload 4, 2) := by decide +kernel
theorem dX4_twosWithin_29 : decode cX4_twosWithin 29 = .ok (.iaload, 1) := by decide +kernel
theorem dX4_twosWithin_30 : decode cX4_twosWithin 30 = .ok (.iload_n 1, 1) := by decide +kernel
theorem dX4_twosWithin_31 : decode cX4_twosWithin 31 = .ok (.if_icmp .gt 6, 3) := by decide +kernel
theorem dX4_twosWithin_34 : decode cX4_twosWithin 34 = .ok (.iinc 2 1, 3) := by decide +kernel
theorem dX4_twosWithin_37 : decode cX4_twosWithin 37 = .ok (.iinc 4 1, 3) := by decide +kernel
theorem dX4_twosWithin_40 : decode cX4_twosWithin 40 = .ok (.goto (-25), 3) := by decide +kernel
theorem dX4_twosWithin_43 : decode cX4_twosWithin 43 = .ok (.iinc 3 1, 3) := by decide +kernel
theorem dX4_twosWithin_46 : decode cX4_twosWithin 46 = .ok (.goto (-42), 3) := by decide +kernel
theorem dX4_twosWithin_49 : decode cX4_twosWithin 49 = .ok (.iload_n 2, 1) := by decide +kernel
theorem dX4_twosWithin_50 : decode cX4_twosWithin 50 = .ok (.ireturn, 1) := by decide +kernel
theorem dX4_become_0 : decode cX4_become 0 = .ok (.aload_n 0, 1) := by decide +kernel
theorem dX4_become_1 : decode cX4_become 1 = .ok (.aload_n 1, 1) := by decide +kernel
theorem dX4_become_2 : decode cX4_become 2 = .ok (.getfield 38, 3) := by decide +kernel
theorem dX4_become_5 : decode cX4_become 5 = .ok (.putfield 38, 3) := by decide +kernel
theorem dX4_become_8 : decode cX4_become 8 = .ok (.iconst 0, 1) := by decide +kernel
theorem dX4_become_9 : decode cX4_become 9 = .ok (.istore_n 2, 1) := by decide +kernel
theorem dX4_become_10 : decode cX4_become 10 = .ok (.iload_n 2, 1) := by decide +kernel
theorem dX4_become_11 : decode cX4_become 11 = .ok (.aload_n 0, 1) := by decide +kernel
theorem dX4_become_12 : decode cX4_become 12 = .ok (.getfield 38, 3) := by decide +kernel
theorem dX4_become_15 : decode cX4_become 15 = .ok (.if_icmp .ge 66, 3) := by decide +kernel
theorem dX4_become_18 : decode cX4_become 18 = .ok (.aload_n 0, 1) := by decide +kernel
theorem dX4_become_19 : decode cX4_become 19 = .ok (.getfield 9, 3) := by decide +kernel
theorem dX4_become_22 : decode cX4_become 22 = .ok (.iload_n 2, 1) := by decide +kernel
theorem dX4_become_23 : decode cX4_become 23 = .ok (.aload_n 1, 1) := by decide +kernel
theorem dX4_become_24 : decode cX4_become 24 = .ok (.getfield 9, 3) := by decide +kernel
theorem dX4_become_27 : decode cX4_become 27 = .ok (.iload_n 2, 1) := by decide +kernel
theorem dX4_become_28 : decode cX4_become 28 = .ok (.iaload, 1) := by decide +kernel
theorem dX4_become_29 : decode cX4_become 29 = .ok (.iastore, 1) := by decide +kernel
theorem dX4_become_30 : decode cX4_become 30 = .ok (.aload_n 0, 1) := by decide +kernel
theorem dX4_become_31 : decode cX4_become 31 = .ok (.getfield 15, 3) := by decide +kernel
theorem dX4_become_34 : decode cX4_become 34 = .ok (.iload_n 2, 1) := by decide +kernel
theorem dX4_become_35 : decode cX4_become 35 = .ok (.aload_n 1, 1) := by decide +kernel
theorem dX4_become_36 : decode cX4_become 36 = .ok (.getfield 15, 3) := by decide +kernel
theorem dX4_become_39 : decode cX4_become 39 = .ok (.iload_n 2, 1) := by decide +kernel
theorem dX4_become_40 : decode cX4_become 40 = .ok (.iaload, 1) := by decide +kernel
theorem dX4_become_41 : decode cX4_become 41 = .ok (.iastore, 1) := by decide +kernel
theorem dX4_become_42 : decode cX4_become 42 = .ok (.aload_n 0, 1) := by decide +kernel
theorem dX4_become_43 : decode cX4_become 43 = .ok (.getfield 18, 3) := by decide +kernel
theorem dX4_become_46 : decode cX4_become 46 = .ok (.iload_n 2, 1) := by decide +kernel
theorem dX4_become_47 : decode cX4_become 47 = .ok (.aload_n 1, 1) := by decide +kernel
theorem dX4_become_48 : decode cX4_become 48 = .ok (.getfield 18, 3) := by decide +kernel
theorem dX4_become_51 : decode cX4_become 51 = .ok (.iload_n 2, 1) := by decide +kernel
theorem dX4_become_52 : decode cX4_become 52 = .ok (.iaload, 1) := by decide +kernel
theorem dX4_become_53 : decode cX4_become 53 = .ok (.iastore, 1) := by decide +kernel
theorem dX4_become_54 : decode cX4_become 54 = .ok (.aload_n 1, 1) := by decide +kernel
theorem dX4_become_55 : decode cX4_become 55 = .ok (.getfield 23, 3) := by decide +kernel
theorem dX4_become_58 : decode cX4_become 58 = .ok (.iload_n 2, 1) := by decide +kernel
theorem dX4_become_59 : decode cX4_become 59 = .ok (.aaload, 1) := by decide +kernel
theorem dX4_become_60 : decode cX4_become 60 = .ok (.iconst 0, 1) := by decide +kernel
theorem dX4_become_61 : decode cX4_become 61 = .ok (.aload_n 0, 1) := by decide +kernel
theorem dX4_become_62 : decode cX4_become 62 = .ok (.getfield 23, 3) := by decide +kernel
theorem dX4_become_65 : decode cX4_become 65 = .ok (.iload_n 2, 1) := by decide +kernel
theorem dX4_become_66 : decode cX4_become 66 = .ok (.aaload, 1) := by decide +kernel
theorem dX4_become_67 : decode cX4_become 67 = .ok (.iconst 0, 1) := by decide +kernel
theorem dX4_become_68 : decode cX4_become 68 = .ok (.aload_n 0, 1) := by decide +kernel
theorem dX4_become_69 : decode cX4_become 69 = .ok (.getfield 38, 3) := by decide +kernel
theorem dX4_become_72 : decode cX4_become 72 = .ok (.invokestatic 67, 3) := by decide +kernel
theorem dX4_become_75 : decode cX4_become 75 = .ok (.iinc 2 1, 3) := by decide +kernel
theorem dX4_become_78 : decode cX4_become 78 = .ok (.goto (-68), 3) := by decide +kernel
theorem dX4_become_81 : decode cX4_become 81 = .ok (.return_, 1) := by decide +kernel
theorem dX4_grow_0 : decode cX4_grow 0 = .ok (.aload_n 0, 1) := by decide +kernel
theorem dX4_grow_1 : decode cX4_grow 1 = .ok (.aload_n 1, 1) := by decide +kernel
theorem dX4_grow_2 : decode cX4_grow 2 = .ok (.iload_n 2, 1) := by decide +kernel
theorem dX4_grow_3 : decode cX4_grow 3 = .ok (.iconst 1, 1) := by decide +kernel
theorem dX4_grow_4 : decode cX4_grow 4 = .ok (.iadd, 1) := by decide +kernel
theorem dX4_grow_5 : decode cX4_grow 5 = .ok (.bipush 8, 2) := by decide +kernel
theorem dX4_grow_7 : decode cX4_grow 7 = .ok (.invokestatic 73, 3) := by decide +kernel
theorem dX4_grow_10 : decode cX4_grow 10 = .ok (.putfield 38, 3) := by decide +kernel
theorem dX4_grow_13 : decode cX4_grow 13 = .ok (.iconst 0, 1) := by decide +kernel
theorem dX4_grow_14 : decode cX4_grow 14 = .ok (.istore_n 3, 1) := by decide +kernel
theorem dX4_grow_15 : decode cX4_grow 15 = .ok (.iload_n 3, 1) := by decide +kernel
theorem dX4_grow_16 : decode cX4_grow 16 = .ok (.aload_n 0, 1) := by decide +kernel
theorem dX4_grow_17 : decode cX4_grow 17 = .ok (.getfield 38, 3) := by decide +kernel
theorem dX4_grow_20 : decode cX4_grow 20 = .ok (.iconst 2, 1) := by decide +kernel
theorem dX4_grow_21 : decode cX4_grow 21 = .ok (.isub, 1) := by decide +kernel
theorem dX4_grow_22 : decode cX4_grow 22 = .ok (.if_icmp .ge 30, 3) := by decide +kernel
theorem dX4_grow_25 : decode cX4_grow 25 = .ok (.aload_n 0, 1) := by decide +kernel
theorem dX4_grow_26 : decode cX4_grow 26 = .ok (.getfield 29, 3) := by decide +kernel
theorem dX4_grow_29 : decode cX4_grow 29 = .ok (.iload_n 3, 1) := by decide +kernel
theorem dX4_grow_30 : decode cX4_grow 30 = .ok (.aload_n 1, 1) := by decide +kernel
theorem dX4_grow_31 : decode cX4_grow 31 = .ok (.iload_n 2, 1) := by decide +kernel
theorem dX4_grow_32 : decode cX4_grow 32 = .ok (.iconst 2, 1) := by decide +kernel
theorem dX4_grow_33 : decode cX4_grow 33 = .ok (.iadd, 1) := by decide +kernel
theorem dX4_grow_34 : decode cX4_grow 34 = .ok (.iload_n 3, 1) := by decide +kernel
theorem dX4_grow_35 : decode cX4_grow 35 = .ok (.iadd, 1) := by decide +kernel
theorem dX4_grow_36 : decode cX4_grow 36 = .ok (.aload_n 0, 1) := by decide +kernel
theorem dX4_grow_37 : decode cX4_grow 37 = .ok (.getfield 38, 3) := by decide +kernel
theorem dX4_grow_40 : decode cX4_grow 40 = .ok (.iconst 1, 1) := by decide +kernel
theorem dX4_grow_41 : decode cX4_grow 41 = .ok (.isub, 1) := by decide +kernel
theorem dX4_grow_42 : decode cX4_grow 42 = .ok (.invokestatic 73, 3) := by decide +kernel
theorem dX4_grow_45 : decode cX4_grow 45 = .ok (.iastore, 1) := by decide +kernel
theorem dX4_grow_46 : decode cX4_grow 46 = .ok (.iinc 3 1, 3) := by decide +kernel
theorem dX4_grow_49 : decode cX4_grow 49 = .ok (.goto (-34), 3) := by decide +kernel
theorem dX4_grow_52 : decode cX4_grow 52 = .ok (.iconst 0, 1) := by decide +kernel
theorem dX4_grow_53 : decode cX4_grow 53 = .ok (.istore_n 3, 1) := by decide +kernel
theorem dX4_grow_54 : decode cX4_grow 54 = .ok (.iload_n 3, 1) := by decide +kernel
theorem dX4_grow_55 : decode cX4_grow 55 = .ok (.aload_n 0, 1) := by decide +kernel
theorem dX4_grow_56 : decode cX4_grow 56 = .ok (.getfield 38, 3) := by decide +kernel
theorem dX4_grow_59 : decode cX4_grow 59 = .ok (.if_icmp .ge 63, 3) := by decide +kernel
theorem dX4_grow_62 : decode cX4_grow 62 = .ok (.iload_n 2, 1) := by decide +kernel
theorem dX4_grow_63 : decode cX4_grow 63 = .ok (.aload_n 0, 1) := by decide +kernel
theorem dX4_grow_64 : decode cX4_grow 64 = .ok (.getfield 38, 3) := by decide +kernel
theorem dX4_grow_67 : decode cX4_grow 67 = .ok (.iadd, 1) := by decide +kernel
theorem dX4_grow_68 : decode cX4_grow 68 = .ok (.iconst 2, 1) := by decide +kernel
theorem dX4_grow_69 : decode cX4_grow 69 = .ok (.iload_n 3, 1) := by decide +kernel
theorem dX4_grow_70 : decode cX4_grow 70 = .ok (.imul, 1) := by decide +kernel
theorem dX4_grow_71 : decode cX4_grow 71 = .ok (.iadd, 1) := by decide +kernel
theorem dX4_grow_72 : decode cX4_grow 72 = .ok (.istore 4, 2) := by decide +kernel
theorem dX4_grow_74 : decode cX4_grow 74 = .ok (.aload_n 0, 1) := by decide +kernel
theorem dX4_grow_75 : decode cX4_grow 75 = .ok (.getfield 9, 3) := by decide +kernel
theorem dX4_grow_78 : decode cX4_grow 78 = .ok (.iload_n 3, 1) := by decide +kernel
theorem dX4_grow_79 : decode cX4_grow 79 = .ok (.iconst 0, 1) := by decide +kernel
theorem dX4_grow_80 : decode cX4_grow 80 = .ok (.aload_n 1, 1) := by decide +kernel
theorem dX4_grow_81 : decode cX4_grow 81 = .ok (.iload 4, 2) := by decide +kernel
theorem dX4_grow_83 : decode cX4_grow 83 = .ok (.invokevirtual 79, 3) := by decide +kernel
theorem dX4_grow_86 : decode cX4_grow 86 = .ok (.invokestatic 84, 3) := by decide +kernel
theorem dX4_grow_89 : decode cX4_grow 89 = .ok (.invokestatic 59, 3) := by decide +kernel
theorem dX4_grow_92 : decode cX4_grow 92 = .ok (.iastore, 1) := by decide +kernel
theorem dX4_grow_93 : decode cX4_grow 93 = .ok (.aload_n 0, 1) := by decide +kernel
theorem dX4_grow_94 : decode cX4_grow 94 = .ok (.getfield 15, 3) := by decide +kernel
theorem dX4_grow_97 : decode cX4_grow 97 = .ok (.iload_n 3, 1) := by decide +kernel
theorem dX4_grow_98 : decode cX4_grow 98 = .ok (.aload_n 1, 1) := by decide +kernel
theorem dX4_grow_99 : decode cX4_grow 99 = .ok (.iload 4, 2) := by decide +kernel
theorem dX4_grow_101 : decode cX4_grow 101 = .ok (.iconst 1, 1) := by decide +kernel
theorem dX4_grow_102 : decode cX4_grow 102 = .ok (.iadd, 1) := by decide +kernel
theorem dX4_grow_103 : decode cX4_grow 103 = .ok (.bipush 9, 2) := by decide +kernel
theorem dX4_grow_105 : decode cX4_grow 105 = .ok (.invokestatic 73, 3) := by decide +kernel
theorem dX4_grow_108 : decode cX4_grow 108 = .ok (.iastore, 1) := by decide +kernel
theorem dX4_grow_109 : decode cX4_grow 109 = .ok (.aload_n 0, 1) := by decide +kernel
theorem dX4_grow_110 : decode cX4_grow 110 = .ok (.getfield 18, 3) := by decide +kernel
theorem dX4_grow_113 : decode cX4_grow 113 = .ok (.iload_n 3, 1) := by decide +kernel
theorem dX4_grow_114 : decode cX4_grow 114 = .ok (.iconst 0, 1) := by decide +kernel
theorem dX4_grow_115 : decode cX4_grow 115 = .ok (.iastore, 1) := by decide +kernel
theorem dX4_grow_116 : decode cX4_grow 116 = .ok (.iinc 3 1, 3) := by decide +kernel
theorem dX4_grow_119 : decode cX4_grow 119 = .ok (.goto (-65), 3) := by decide +kernel
theorem dX4_grow_122 : decode cX4_grow 122 = .ok (.aload_n 0, 1) := by decide +kernel
theorem dX4_grow_123 : decode cX4_grow 123 = .ok (.invokevirtual 87, 3) := by decide +kernel
theorem dX4_grow_126 : decode cX4_grow 126 = .ok (.aload_n 0, 1) := by decide +kernel
theorem dX4_grow_127 : decode cX4_grow 127 = .ok (.getfield 38, 3) := by decide +kernel
theorem dX4_grow_130 : decode cX4_grow 130 = .ok (.iconst 2, 1) := by decide +kernel
theorem dX4_grow_131 : decode cX4_grow 131 = .ok (.isub, 1) := by decide +kernel
theorem dX4_grow_132 : decode cX4_grow 132 = .ok (.istore_n 3, 1) := by decide +kernel
theorem dX4_grow_133 : decode cX4_grow 133 = .ok (.iload_n 3, 1) := by decide +kernel
theorem dX4_grow_134 : decode cX4_grow 134 = .ok (.ifCond .lt 25, 3) := by decide +kernel
theorem dX4_grow_137 : decode cX4_grow 137 = .ok (.aload_n 0, 1) := by decide +kernel
theorem dX4_grow_138 : decode cX4_grow 138 = .ok (.aload_n 0, 1) := by decide +kernel
theorem dX4_grow_139 : decode cX4_grow 139 = .ok (.getfield 26, 3) := by decide +kernel
theorem dX4_grow_142 : decode cX4_grow 142 = .ok (.iload_n 3, 1) := by decide +kernel
theorem dX4_grow_143 : decode cX4_grow 143 = .ok (.iaload, 1) := by decide +kernel
theorem dX4_grow_144 : decode cX4_grow 144 = .ok (.aload_n 0, 1) := by decide +kernel
theorem dX4_grow_145 : decode cX4_grow 145 = .ok (.getfield 29, 3) := by decide +kernel
theorem dX4_grow_148 : decode cX4_grow 148 = .ok (.iload_n 3, 1) := by decide +kernel
theorem dX4_grow_149 : decode cX4_grow 149 = .ok (.iaload, 1) := by decide +kernel
theorem dX4_grow_150 : decode cX4_grow 150 = .ok (.invokevirtual 90, 3) := by decide +kernel
theorem dX4_grow_153 : decode cX4_grow 153 = .ok (.iinc 3 (-1), 3) := by decide +kernel
theorem dX4_grow_156 : decode cX4_grow 156 = .ok (.goto (-23), 3) := by decide +kernel
theorem dX4_grow_159 : decode cX4_grow 159 = .ok (.return_, 1) := by decide +kernel
theorem dX4_findTaken_0 : decode cX4_findTaken 0 = .ok (.iconst 1, 1) := by decide +kernel
theorem dX4_findTaken_1 : decode cX4_findTaken 1 = .ok (.aload_n 0, 1) := by decide +kernel
theorem dX4_findTaken_2 : decode cX4_findTaken 2 = .ok (.getfield 38, 3) := by decide +kernel
theorem dX4_findTaken_5 : decode cX4_findTaken 5 = .ok (.ishl, 1) := by decide +kernel
theorem dX4_findTaken_6 : decode cX4_findTaken 6 = .ok (.iconst 1, 1) := by decide +kernel
theorem dX4_findTaken_7 : decode cX4_findTaken 7 = .ok (.isub, 1) := by decide +kernel
theorem dX4_findTaken_8 : decode cX4_findTaken 8 = .ok (.istore_n 1, 1) := by decide +kernel
theorem dX4_findTaken_9 : decode cX4_findTaken 9 = .ok (.iconst 0, 1) := by decide +kernel
theorem dX4_findTaken_10 : decode cX4_findTaken 10 = .ok (.istore_n 2, 1) := by decide +kernel
theorem dX4_findTaken_11 : decode cX4_findTaken 11 = .ok (.iload_n 2, 1) := by decide +kernel
theorem dX4_findTaken_12 : decode cX4_findTaken 12 = .ok (.aload_n 0, 1) := by decide +kernel
theorem dX4_findTaken_13 : decode cX4_findTaken 13 = .ok (.getfield 38, 3) := by decide +kernel
theorem dX4_findTaken_16 : decode cX4_findTaken 16 = .ok (.iconst 2, 1) := by decide +kernel
theorem dX4_findTaken_17 : decode cX4_findTaken 17 = .ok (.isub, 1) := by decide +kernel
theorem dX4_findTaken_18 : decode cX4_findTaken 18 = .ok (.if_icmp .ge 40, 3) := by decide +kernel
theorem dX4_findTaken_21 : decode cX4_findTaken 21 = .ok (.aload_n 0, 1) := by decide +kernel
theorem dX4_findTaken_22 : decode cX4_findTaken 22 = .ok (.getfield 26, 3) := by decide +kernel
theorem dX4_findTaken_25 : decode cX4_findTaken 25 = .ok (.iload_n 2, 1) := by decide +kernel
theorem dX4_findTaken_26 : decode cX4_findTaken 26 = .ok (.iload_n 1, 1) := by decide +kernel
theorem dX4_findTaken_27 : decode cX4_findTaken 27 = .ok (.aload_n 0, 1) := by decide +kernel
theorem dX4_findTaken_28 : decode cX4_findTaken 28 = .ok (.iload_n 2, 1) := by decide +kernel
theorem dX4_findTaken_29 : decode cX4_findTaken 29 = .ok (.invokevirtual 94, 3) := by decide +kernel
theorem dX4_findTaken_32 : decode cX4_findTaken 32 = .ok (.iconst (-1), 1) := by decide +kernel
theorem dX4_findTaken_33 : decode cX4_findTaken 33 = .ok (.ixor, 1) := by decide +kernel
theorem dX4_findTaken_34 : decode cX4_findTaken 34 = .ok (.iand, 1) := by decide +kernel
theorem dX4_findTaken_35 : decode cX4_findTaken 35 = .ok (.invokestatic 97, 3) := by decide +kernel
theorem dX4_findTaken_38 : decode cX4_findTaken 38 = .ok (.iastore, 1) := by decide +kernel
theorem dX4_findTaken_39 : decode cX4_findTaken 39 = .ok (.iload_n 1, 1) := by decide +kernel
theorem dX4_findTaken_40 : decode cX4_findTaken 40 = .ok (.iconst 1, 1) := by decide +kernel
theorem dX4_findTaken_41 : decode cX4_findTaken 41 = .ok (.aload_n 0, 1) := by decide +kernel
theorem dX4_findTaken_42 : decode cX4_findTaken 42 = .ok (.getfield 26, 3) := by decide +kernel
theorem dX4_findTaken_45 : decode cX4_findTaken 45 = .ok (.iload_n 2, 1) := by decide +kernel
theorem dX4_findTaken_46 : decode cX4_findTaken 46 = .ok (.iaload, 1) := by decide +kernel
theorem dX4_findTaken_47 : decode cX4_findTaken 47 = .ok (.ishl, 1) := by decide +kernel
theorem dX4_findTaken_48 : decode cX4_findTaken 48 = .ok (.iconst (-1), 1) := by decide +kernel
theorem dX4_findTaken_49 : decode cX4_findTaken 49 = .ok (.ixor, 1) := by decide +kernel
theorem dX4_findTaken_50 : decode cX4_findTaken 50 = .ok (.iand, 1) := by decide +kernel
theorem dX4_findTaken_51 : decode cX4_findTaken 51 = .ok (.istore_n 1, 1) := by decide +kernel
theorem dX4_findTaken_52 : decode cX4_findTaken 52 = .ok (.iinc 2 1, 3) := by decide +kernel
theorem dX4_findTaken_55 : decode cX4_findTaken 55 = .ok (.goto (-44), 3) := by decide +kernel
theorem dX4_findTaken_58 : decode cX4_findTaken 58 = .ok (.aload_n 0, 1) := by decide +kernel
theorem dX4_findTaken_59 : decode cX4_findTaken 59 = .ok (.getfield 38, 3) := by decide +kernel
theorem dX4_findTaken_62 : decode cX4_findTaken 62 = .ok (.iconst 2, 1) := by decide +kernel
theorem dX4_findTaken_63 : decode cX4_findTaken 63 = .ok (.if_icmp .lt 49, 3) := by decide +kernel
theorem dX4_findTaken_66 : decode cX4_findTaken 66 = .ok (.aload_n 0, 1) := by decide +kernel
theorem dX4_findTaken_67 : decode cX4_findTaken 67 = .ok (.getfield 26, 3) := by decide +kernel
theorem dX4_findTaken_70 : decode cX4_findTaken 70 = .ok (.aload_n 0, 1) := by decide +kernel
theorem dX4_findTaken_71 : decode cX4_findTaken 71 = .ok (.getfield 38, 3) := by decide +kernel
theorem dX4_findTaken_74 : decode cX4_findTaken 74 = .ok (.iconst 2, 1) := by decide +kernel
theorem dX4_findTaken_75 : decode cX4_findTaken 75 = .ok (.isub, 1) := by decide +kernel
theorem dX4_findTaken_76 : decode cX4_findTaken 76 = .ok (.iload_n 1, 1) := by decide +kernel
theorem dX4_findTaken_77 : decode cX4_findTaken 77 = .ok (.invokestatic 97, 3) := by decide +kernel
theorem dX4_findTaken_80 : decode cX4_findTaken 80 = .ok (.iastore, 1) := by decide +kernel
theorem dX4_findTaken_81 : decode cX4_findTaken 81 = .ok (.aload_n 0, 1) := by decide +kernel
theorem dX4_findTaken_82 : decode cX4_findTaken 82 = .ok (.getfield 29, 3) := by decide +kernel
theorem dX4_findTaken_85 : decode cX4_findTaken 85 = .ok (.aload_n 0, 1) := by decide +kernel
theorem dX4_findTaken_86 : decode cX4_findTaken 86 = .ok (.getfield 38, 3) := by decide +kernel
theorem dX4_findTaken_89 : decode cX4_findTaken 89 = .ok (.iconst 2, 1) := by decide +kernel
theorem dX4_findTaken_90 : decode cX4_findTaken 90 = .ok (.isub, 1) := by decide +kernel
theorem dX4_findTaken_91 : decode cX4_findTaken 91 = .ok (.iload_n 1, 1) := by decide +kernel
theorem dX4_findTaken_92 : decode cX4_findTaken 92 = .ok (.iconst 1, 1) := by decide +kernel
theorem dX4_findTaken_93 : decode cX4_findTaken 93 = .ok (.aload_n 0, 1) := by decide +kernel
theorem dX4_findTaken_94 : decode cX4_findTaken 94 = .ok (.getfield 26, 3) := by decide +kernel
theorem dX4_findTaken_97 : decode cX4_findTaken 97 = .ok (.aload_n 0, 1) := by decide +kernel
theorem dX4_findTaken_98 : decode cX4_findTaken 98 = .ok (.getfield 38, 3) := by decide +kernel
theorem dX4_findTaken_101 : decode cX4_findTaken 101 = .ok (.iconst 2, 1) := by decide +kernel
theorem dX4_findTaken_102 : decode cX4_findTaken 102 = .ok (.isub, 1) := by decide +kernel
theorem dX4_findTaken_103 : decode cX4_findTaken 103 = .ok (.iaload, 1) := by decide +kernel
theorem dX4_findTaken_104 : decode cX4_findTaken 104 = .ok (.ishl, 1) := by decide +kernel
theorem dX4_findTaken_105 : decode cX4_findTaken 105 = .ok (.iconst (-1), 1) := by decide +kernel
theorem dX4_findTaken_106 : decode cX4_findTaken 106 = .ok (.ixor, 1) := by decide +kernel
theorem dX4_findTaken_107 : decode cX4_findTaken 107 = .ok (.iand, 1) := by decide +kernel
theorem dX4_findTaken_108 : decode cX4_findTaken 108 = .ok (.invokestatic 97, 3) := by decide +kernel
theorem dX4_findTaken_111 : decode cX4_findTaken 111 = .ok (.iastore, 1) := by decide +kernel
theorem dX4_findTaken_112 : decode cX4_findTaken 112 = .ok (.return_, 1) := by decide +kernel
theorem dX4_namedFrom_0 : decode cX4_namedFrom 0 = .ok (.iconst 0, 1) := by decide +kernel
theorem dX4_namedFrom_1 : decode cX4_namedFrom 1 = .ok (.istore_n 2, 1) := by decide +kernel
theorem dX4_namedFrom_2 : decode cX4_namedFrom 2 = .ok (.iload_n 1, 1) := by decide +kernel
theorem dX4_namedFrom_3 : decode cX4_namedFrom 3 = .ok (.istore_n 3, 1) := by decide +kernel
theorem dX4_namedFrom_4 : decode cX4_namedFrom 4 = .ok (.iload_n 3, 1) := by decide +kernel
theorem dX4_namedFrom_5 : decode cX4_namedFrom 5 = .ok (.aload_n 0, 1) := by decide +kernel
theorem dX4_namedFrom_6 : decode cX4_namedFrom 6 = .ok (.getfield 38, 3) := by decide +kernel
theorem dX4_namedFrom_9 : decode cX4_namedFrom 9 = .ok (.iconst 2, 1) := by decide +kernel
theorem dX4_namedFrom_10 : decode cX4_namedFrom 10 = .ok (.isub, 1) := by decide +kernel
theorem dX4_namedFrom_11 : decode cX4_namedFrom 11 = .ok (.if_icmp .ge 20, 3) := by decide +kernel
theorem dX4_namedFrom_14 : decode cX4_namedFrom 14 = .ok (.iload_n 2, 1) := by decide +kernel
theorem dX4_namedFrom_15 : decode cX4_namedFrom 15 = .ok (.iconst 1, 1) := by decide +kernel
theorem dX4_namedFrom_16 : decode cX4_namedFrom 16 = .ok (.aload_n 0, 1) := by decide +kernel
theorem dX4_namedFrom_17 : decode cX4_namedFrom 17 = .ok (.getfield 29, 3) := by decide +kernel
theorem dX4_namedFrom_20 : decode cX4_namedFrom 20 = .ok (.iload_n 3, 1) := by decide +kernel
theorem dX4_namedFrom_21 : decode cX4_namedFrom 21 = .ok (.iaload, 1) := by decide +kernel
theorem dX4_namedFrom_22 : decode cX4_namedFrom 22 = .ok (.ishl, 1) := by decide +kernel
theorem dX4_namedFrom_23 : decode cX4_namedFrom 23 = .ok (.ior, 1) := by decide +kernel
theorem dX4_namedFrom_24 : decode cX4_namedFrom 24 = .ok (.istore_n 2, 1) := by decide +kernel
theorem dX4_namedFrom_25 : decode cX4_namedFrom 25 = .ok (.iinc 3 1, 3) := by decide +kernel
theorem dX4_namedFrom_28 : decode cX4_namedFrom 28 = .ok (.goto (-24), 3) := by decide +kernel
theorem dX4_namedFrom_31 : decode cX4_namedFrom 31 = .ok (.iload_n 2, 1) := by decide +kernel
theorem dX4_namedFrom_32 : decode cX4_namedFrom 32 = .ok (.ireturn, 1) := by decide +kernel
theorem dX4_tie_0 : decode cX4_tie 0 = .ok (.aload_n 0, 1) := by decide +kernel
theorem dX4_tie_1 : decode cX4_tie 1 = .ok (.getfield 18, 3) := by decide +kernel
theorem dX4_tie_4 : decode cX4_tie 4 = .ok (.iload_n 1, 1) := by decide +kernel
theorem dX4_tie_5 : decode cX4_tie 5 = .ok (.dup2, 1) := by decide +kernel
theorem dX4_tie_6 : decode cX4_tie 6 = .ok (.iaload, 1) := by decide +kernel
theorem dX4_tie_7 : decode cX4_tie 7 = .ok (.iconst 1, 1) := by decide +kernel
theorem dX4_tie_8 : decode cX4_tie 8 = .ok (.iload_n 2, 1) := by decide +kernel
theorem dX4_tie_9 : decode cX4_tie 9 = .ok (.ishl, 1) := by decide +kernel
theorem dX4_tie_10 : decode cX4_tie 10 = .ok (.ior, 1) := by decide +kernel
theorem dX4_tie_11 : decode cX4_tie 11 = .ok (.iastore, 1) := by decide +kernel
theorem dX4_tie_12 : decode cX4_tie 12 = .ok (.aload_n 0, 1) := by decide +kernel
theorem dX4_tie_13 : decode cX4_tie 13 = .ok (.getfield 18, 3) := by decide +kernel
theorem dX4_tie_16 : decode cX4_tie 16 = .ok (.iload_n 2, 1) := by decide +kernel
theorem dX4_tie_17 : decode cX4_tie 17 = .ok (.dup2, 1) := by decide +kernel
theorem dX4_tie_18 : decode cX4_tie 18 = .ok (.iaload, 1) := by decide +kernel
theorem dX4_tie_19 : decode cX4_tie 19 = .ok (.iconst 1, 1) := by decide +kernel
theorem dX4_tie_20 : decode cX4_tie 20 = .ok (.iload_n 1, 1) := by decide +kernel
theorem dX4_tie_21 : decode cX4_tie 21 = .ok (.ishl, 1) := by decide +kernel
theorem dX4_tie_22 : decode cX4_tie 22 = .ok (.ior, 1) := by decide +kernel
theorem dX4_tie_23 : decode cX4_tie 23 = .ok (.iastore, 1) := by decide +kernel
theorem dX4_tie_24 : decode cX4_tie 24 = .ok (.iconst 0, 1) := by decide +kernel
theorem dX4_tie_25 : decode cX4_tie 25 = .ok (.istore_n 3, 1) := by decide +kernel
theorem dX4_tie_26 : decode cX4_tie 26 = .ok (.iload_n 3, 1) := by decide +kernel
theorem dX4_tie_27 : decode cX4_tie 27 = .ok (.aload_n 0, 1) := by decide +kernel
theorem dX4_tie_28 : decode cX4_tie 28 = .ok (.getfield 38, 3) := by decide +kernel
theorem dX4_tie_31 : decode cX4_tie 31 = .ok (.if_icmp .ge 48, 3) := by decide +kernel
theorem dX4_tie_34 : decode cX4_tie 34 = .ok (.iload_n 3, 1) := by decide +kernel
theorem dX4_tie_35 : decode cX4_tie 35 = .ok (.iload_n 1, 1) := by decide +kernel
theorem dX4_tie_36 : decode cX4_tie 36 = .ok (.if_icmp .eq 37, 3) := by decide +kernel
theorem dX4_tie_39 : decode cX4_tie 39 = .ok (.aload_n 0, 1) := by decide +kernel
theorem dX4_tie_40 : decode cX4_tie 40 = .ok (.getfield 23, 3) := by decide +kernel
theorem dX4_tie_43 : decode cX4_tie 43 = .ok (.iload_n 1, 1) := by decide +kernel
theorem dX4_tie_44 : decode cX4_tie 44 = .ok (.aaload, 1) := by decide +kernel
theorem dX4_tie_45 : decode cX4_tie 45 = .ok (.iload_n 3, 1) := by decide +kernel
theorem dX4_tie_46 : decode cX4_tie 46 = .ok (.aload_n 0, 1) := by decide +kernel
theorem dX4_tie_47 : decode cX4_tie 47 = .ok (.getfield 23, 3) := by decide +kernel
theorem dX4_tie_50 : decode cX4_tie 50 = .ok (.iload_n 2, 1) := by decide +kernel
theorem dX4_tie_51 : decode cX4_tie 51 = .ok (.aaload, 1) := by decide +kernel
theorem dX4_tie_52 : decode cX4_tie 52 = .ok (.iload_n 3, 1) := by decide +kernel
theorem dX4_tie_53 : decode cX4_tie 53 = .ok (.iaload, 1) := by decide +kernel
theorem dX4_tie_54 : decode cX4_tie 54 = .ok (.iconst 1, 1) := by decide +kernel
theorem dX4_tie_55 : decode cX4_tie 55 = .ok (.iadd, 1) := by decide +kernel
theorem dX4_tie_56 : decode cX4_tie 56 = .ok (.iastore, 1) := by decide +kernel
theorem dX4_tie_57 : decode cX4_tie 57 = .ok (.aload_n 0, 1) := by decide +kernel
theorem dX4_tie_58 : decode cX4_tie 58 = .ok (.getfield 23, 3) := by decide +kernel
theorem dX4_tie_61 : decode cX4_tie 61 = .ok (.iload_n 3, 1) := by decide +kernel
theorem dX4_tie_62 : decode cX4_tie 62 = .ok (.aaload, 1) := by decide +kernel
theorem dX4_tie_63 : decode cX4_tie 63 = .ok (.iload_n 1, 1) := by decide +kernel
theorem dX4_tie_64 : decode cX4_tie 64 = .ok (.aload_n 0, 1) := by decide +kernel
theorem dX4_tie_65 : decode cX4_tie 65 = .ok (.getfield 23, 3) := by decide +kernel
theorem dX4_tie_68 : decode cX4_tie 68 = .ok (.iload_n 1, 1) := by decide +kernel
theorem dX4_tie_69 : decode cX4_tie 69 = .ok (.aaload, 1) := by decide +kernel
theorem dX4_tie_70 : decode cX4_tie 70 = .ok (.iload_n 3, 1) := by decide +kernel
theorem dX4_tie_71 : decode cX4_tie 71 = .ok (.iaload, 1) := by decide +kernel
theorem dX4_tie_72 : decode cX4_tie 72 = .ok (.iastore, 1) := by decide +kernel
theorem dX4_tie_73 : decode cX4_tie 73 = .ok (.iinc 3 1, 3) := by decide +kernel
theorem dX4_tie_76 : decode cX4_tie 76 = .ok (.goto (-50), 3) := by decide +kernel
theorem dX4_tie_79 : decode cX4_tie 79 = .ok (.return_, 1) := by decide +kernel
theorem dX4_hangOn_0 : decode cX4_hangOn 0 = .ok (.aload_n 0, 1) := by decide +kernel
theorem dX4_hangOn_1 : decode cX4_hangOn 1 = .ok (.getfield 18, 3) := by decide +kernel
theorem dX4_hangOn_4 : decode cX4_hangOn 4 = .ok (.iload_n 1, 1) := by decide +kernel
theorem dX4_hangOn_5 : decode cX4_hangOn 5 = .ok (.iaload, 1) := by decide +kernel
theorem dX4_hangOn_6 : decode cX4_hangOn 6 = .ok (.invokestatic 97, 3) := by decide +kernel
theorem dX4_hangOn_9 : decode cX4_hangOn 9 = .ok (.istore_n 3, 1) := by decide +kernel
theorem dX4_hangOn_10 : decode cX4_hangOn 10 = .ok (.aload_n 0, 1) := by decide +kernel
theorem dX4_hangOn_11 : decode cX4_hangOn 11 = .ok (.getfield 18, 3) := by decide +kernel
theorem dX4_hangOn_14 : decode cX4_hangOn 14 = .ok (.iload_n 3, 1) := by decide +kernel
theorem dX4_hangOn_15 : decode cX4_hangOn 15 = .ok (.dup2, 1) := by decide +kernel
theorem dX4_hangOn_16 : decode cX4_hangOn 16 = .ok (.iaload, 1) := by decide +kernel
theorem dX4_hangOn_17 : decode cX4_hangOn 17 = .ok (.iconst 1, 1) := by decide +kernel
theorem dX4_hangOn_18 : decode cX4_hangOn 18 = .ok (.iload_n 1, 1) := by decide +kernel
theorem dX4_hangOn_19 : decode cX4_hangOn 19 = .ok (.ishl, 1) := by decide +kernel
theorem dX4_hangOn_20 : decode cX4_hangOn 20 = .ok (.iconst (-1), 1) := by decide +kernel
theorem dX4_hangOn_21 : decode cX4_hangOn 21 = .ok (.ixor, 1) := by decide +kernel
theorem dX4_hangOn_22 : decode cX4_hangOn 22 = .ok (.iand, 1) := by decide +kernel
theorem dX4_hangOn_23 : decode cX4_hangOn 23 = .ok (.iastore, 1) := by decide +kernel
theorem dX4_hangOn_24 : decode cX4_hangOn 24 = .ok (.aload_n 0, 1) := by decide +kernel
theorem dX4_hangOn_25 : decode cX4_hangOn 25 = .ok (.getfield 18, 3) := by decide +kernel
theorem dX4_hangOn_28 : decode cX4_hangOn 28 = .ok (.iload_n 1, 1) := by decide +kernel
theorem dX4_hangOn_29 : decode cX4_hangOn 29 = .ok (.iconst 0, 1) := by decide +kernel
theorem dX4_hangOn_30 : decode cX4_hangOn 30 = .ok (.iastore, 1) := by decide +kernel
theorem dX4_hangOn_31 : decode cX4_hangOn 31 = .ok (.aload_n 0, 1) := by decide +kernel
theorem dX4_hangOn_32 : decode cX4_hangOn 32 = .ok (.iload_n 1, 1) := by decide +kernel
theorem dX4_hangOn_33 : decode cX4_hangOn 33 = .ok (.iload_n 2, 1) := by decide +kernel
theorem dX4_hangOn_34 : decode cX4_hangOn 34 = .ok (.invokevirtual 90, 3) := by decide +kernel
theorem dX4_hangOn_37 : decode cX4_hangOn 37 = .ok (.iload_n 3, 1) := by decide +kernel
theorem dX4_hangOn_38 : decode cX4_hangOn 38 = .ok (.ireturn, 1) := by decide +kernel
theorem dX4_strip_0 : decode cX4_strip 0 = .ok (.iconst 1, 1) := by decide +kernel
theorem dX4_strip_1 : decode cX4_strip 1 = .ok (.aload_n 0, 1) := by decide +kernel
theorem dX4_strip_2 : decode cX4_strip 2 = .ok (.getfield 38, 3) := by decide +kernel
theorem dX4_strip_5 : decode cX4_strip 5 = .ok (.ishl, 1) := by decide +kernel
theorem dX4_strip_6 : decode cX4_strip 6 = .ok (.iconst 1, 1) := by decide +kernel
theorem dX4_strip_7 : decode cX4_strip 7 = .ok (.isub, 1) := by decide +kernel
theorem dX4_strip_8 : decode cX4_strip 8 = .ok (.istore_n 1, 1) := by decide +kernel
theorem dX4_strip_9 : decode cX4_strip 9 = .ok (.iconst 0, 1) := by decide +kernel
theorem dX4_strip_10 : decode cX4_strip 10 = .ok (.istore_n 2, 1) := by decide +kernel
theorem dX4_strip_11 : decode cX4_strip 11 = .ok (.iload_n 2, 1) := by decide +kernel
theorem dX4_strip_12 : decode cX4_strip 12 = .ok (.aload_n 0, 1) := by decide +kernel
theorem dX4_strip_13 : decode cX4_strip 13 = .ok (.getfield 38, 3) := by decide +kernel
theorem dX4_strip_16 : decode cX4_strip 16 = .ok (.iconst 1, 1) := by decide +kernel
theorem dX4_strip_17 : decode cX4_strip 17 = .ok (.isub, 1) := by decide +kernel
theorem dX4_strip_18 : decode cX4_strip 18 = .ok (.if_icmp .ge 55, 3) := by decide +kernel
theorem dX4_strip_21 : decode cX4_strip 21 = .ok (.aload_n 0, 1) := by decide +kernel
theorem dX4_strip_22 : decode cX4_strip 22 = .ok (.getfield 26, 3) := by decide +kernel
theorem dX4_strip_25 : decode cX4_strip 25 = .ok (.iload_n 2, 1) := by decide +kernel
theorem dX4_strip_26 : decode cX4_strip 26 = .ok (.aload_n 0, 1) := by decide +kernel
theorem dX4_strip_27 : decode cX4_strip 27 = .ok (.iload_n 1, 1) := by decide +kernel
theorem dX4_strip_28 : decode cX4_strip 28 = .ok (.invokevirtual 100, 3) := by decide +kernel
theorem dX4_strip_31 : decode cX4_strip 31 = .ok (.iastore, 1) := by decide +kernel
theorem dX4_strip_32 : decode cX4_strip 32 = .ok (.aload_n 0, 1) := by decide +kernel
theorem dX4_strip_33 : decode cX4_strip 33 = .ok (.getfield 29, 3) := by decide +kernel
theorem dX4_strip_36 : decode cX4_strip 36 = .ok (.iload_n 2, 1) := by decide +kernel
theorem dX4_strip_37 : decode cX4_strip 37 = .ok (.aload_n 0, 1) := by decide +kernel
theorem dX4_strip_38 : decode cX4_strip 38 = .ok (.getfield 18, 3) := by decide +kernel
theorem dX4_strip_41 : decode cX4_strip 41 = .ok (.aload_n 0, 1) := by decide +kernel
theorem dX4_strip_42 : decode cX4_strip 42 = .ok (.getfield 26, 3) := by decide +kernel
theorem dX4_strip_45 : decode cX4_strip 45 = .ok (.iload_n 2, 1) := by decide +kernel
theorem dX4_strip_46 : decode cX4_strip 46 = .ok (.iaload, 1) := by decide +kernel
theorem dX4_strip_47 : decode cX4_strip 47 = .ok (.iaload, 1) := by decide +kernel
theorem dX4_strip_48 : decode cX4_strip 48 = .ok (.iload_n 1, 1) := by decide +kernel
theorem dX4_strip_49 : decode cX4_strip 49 = .ok (.iand, 1) := by decide +kernel
theorem dX4_strip_50 : decode cX4_strip 50 = .ok (.invokestatic 97, 3) := by decide +kernel
theorem dX4_strip_53 : decode cX4_strip 53 = .ok (.iastore, 1) := by decide +kernel
theorem dX4_strip_54 : decode cX4_strip 54 = .ok (.iload_n 1, 1) := by decide +kernel
theorem dX4_strip_55 : decode cX4_strip 55 = .ok (.iconst 1, 1) := by decide +kernel
theorem dX4_strip_56 : decode cX4_strip 56 = .ok (.aload_n 0, 1) := by decide +kernel
theorem dX4_strip_57 : decode cX4_strip 57 = .ok (.getfield 26, 3) := by decide +kernel
theorem dX4_strip_60 : decode cX4_strip 60 = .ok (.iload_n 2, 1) := by decide +kernel
theorem dX4_strip_61 : decode cX4_strip 61 = .ok (.iaload, 1) := by decide +kernel
theorem dX4_strip_62 : decode cX4_strip 62 = .ok (.ishl, 1) := by decide +kernel
theorem dX4_strip_63 : decode cX4_strip 63 = .ok (.iconst (-1), 1) := by decide +kernel
theorem dX4_strip_64 : decode cX4_strip 64 = .ok (.ixor, 1) := by decide +kernel
theorem dX4_strip_65 : decode cX4_strip 65 = .ok (.iand, 1) := by decide +kernel
theorem dX4_strip_66 : decode cX4_strip 66 = .ok (.istore_n 1, 1) := by decide +kernel
theorem dX4_strip_67 : decode cX4_strip 67 = .ok (.iinc 2 1, 3) := by decide +kernel
theorem dX4_strip_70 : decode cX4_strip 70 = .ok (.goto (-59), 3) := by decide +kernel
theorem dX4_strip_73 : decode cX4_strip 73 = .ok (.return_, 1) := by decide +kernel
theorem dX4_leastEnd_0 : decode cX4_leastEnd 0 = .ok (.iconst 0, 1) := by decide +kernel
theorem dX4_leastEnd_1 : decode cX4_leastEnd 1 = .ok (.istore_n 2, 1) := by decide +kernel
theorem dX4_leastEnd_2 : decode cX4_leastEnd 2 = .ok (.iload_n 2, 1) := by decide +kernel
theorem dX4_leastEnd_3 : decode cX4_leastEnd 3 = .ok (.aload_n 0, 1) := by decide +kernel
theorem dX4_leastEnd_4 : decode cX4_leastEnd 4 = .ok (.getfield 38, 3) := by decide +kernel
theorem dX4_leastEnd_7 : decode cX4_leastEnd 7 = .ok (.if_icmp .ge 34, 3) := by decide +kernel
theorem dX4_leastEnd_10 : decode cX4_leastEnd 10 = .ok (.iload_n 1, 1) := by decide +kernel
theorem dX4_leastEnd_11 : decode cX4_leastEnd 11 = .ok (.iload_n 2, 1) := by decide +kernel
theorem dX4_leastEnd_12 : decode cX4_leastEnd 12 = .ok (.ishr, 1) := by decide +kernel
theorem dX4_leastEnd_13 : decode cX4_leastEnd 13 = .ok (.iconst 1, 1) := by decide +kernel
theorem dX4_leastEnd_14 : decode cX4_leastEnd 14 = .ok (.iand, 1) := by decide +kernel
theorem dX4_leastEnd_15 : decode cX4_leastEnd 15 = .ok (.ifCond .eq 20, 3) := by decide +kernel
theorem dX4_leastEnd_18 : decode cX4_leastEnd 18 = .ok (.aload_n 0, 1) := by decide +kernel
theorem dX4_leastEnd_19 : decode cX4_leastEnd 19 = .ok (.getfield 18, 3) := by decide +kernel
theorem dX4_leastEnd_22 : decode cX4_leastEnd 22 = .ok (.iload_n 2, 1) := by decide +kernel
theorem dX4_leastEnd_23 : decode cX4_leastEnd 23 = .ok (.iaload, 1) := by decide +kernel
theorem dX4_leastEnd_24 : decode cX4_leastEnd 24 = .ok (.iload_n 1, 1) := by decide +kernel
theorem dX4_leastEnd_25 : decode cX4_leastEnd 25 = .ok (.iand, 1) := by decide +kernel
theorem dX4_leastEnd_26 : decode cX4_leastEnd 26 = .ok (.invokestatic 42, 3) := by decide +kernel
theorem dX4_leastEnd_29 : decode cX4_leastEnd 29 = .ok (.iconst 1, 1) := by decide +kernel
theorem dX4_leastEnd_30 : decode cX4_leastEnd 30 = .ok (.if_icmp .ne 5, 3) := by decide +kernel
theorem dX4_leastEnd_33 : decode cX4_leastEnd 33 = .ok (.iload_n 2, 1) := by decide +kernel
theorem dX4_leastEnd_34 : decode cX4_leastEnd 34 = .ok (.ireturn, 1) := by decide +kernel
theorem dX4_leastEnd_35 : decode cX4_leastEnd 35 = .ok (.iinc 2 1, 3) := by decide +kernel
theorem dX4_leastEnd_38 : decode cX4_leastEnd 38 = .ok (.goto (-36), 3) := by decide +kernel
theorem dX4_leastEnd_41 : decode cX4_leastEnd 41 = .ok (.iconst 0, 1) := by decide +kernel
theorem dX4_leastEnd_42 : decode cX4_leastEnd 42 = .ok (.ireturn, 1) := by decide +kernel
theorem dX4_numberOfRow_0 : decode cX4_numberOfRow 0 = .ok (.aload_n 0, 1) := by decide +kernel
theorem dX4_numberOfRow_1 : decode cX4_numberOfRow 1 = .ok (.invokevirtual 103, 3) := by decide +kernel
theorem dX4_numberOfRow_4 : decode cX4_numberOfRow 4 = .ok (.iconst 0, 1) := by decide +kernel
theorem dX4_numberOfRow_5 : decode cX4_numberOfRow 5 = .ok (.istore_n 1, 1) := by decide +kernel
theorem dX4_numberOfRow_6 : decode cX4_numberOfRow 6 = .ok (.iconst 0, 1) := by decide +kernel
theorem dX4_numberOfRow_7 : decode cX4_numberOfRow 7 = .ok (.istore_n 2, 1) := by decide +kernel
theorem dX4_numberOfRow_8 : decode cX4_numberOfRow 8 = .ok (.iload_n 2, 1) := by decide +kernel
theorem dX4_numberOfRow_9 : decode cX4_numberOfRow 9 = .ok (.aload_n 0, 1) := by decide +kernel
theorem dX4_numberOfRow_10 : decode cX4_numberOfRow 10 = .ok (.getfield 38, 3) := by decide +kernel
theorem dX4_numberOfRow_13 : decode cX4_numberOfRow 13 = .ok (.iconst 2, 1) := by decide +kernel
theorem dX4_numberOfRow_14 : decode cX4_numberOfRow 14 = .ok (.isub, 1) := by decide +kernel
theorem dX4_numberOfRow_15 : decode cX4_numberOfRow 15 = .ok (.if_icmp .ge 23, 3) := by decide +kernel
theorem dX4_numberOfRow_18 : decode cX4_numberOfRow 18 = .ok (.iload_n 1, 1) := by decide +kernel
theorem dX4_numberOfRow_19 : decode cX4_numberOfRow 19 = .ok (.aload_n 0, 1) := by decide +kernel
theorem dX4_numberOfRow_20 : decode cX4_numberOfRow 20 = .ok (.getfield 38, 3) := by decide +kernel
theorem dX4_numberOfRow_23 : decode cX4_numberOfRow 23 = .ok (.imul, 1) := by decide +kernel
theorem dX4_numberOfRow_24 : decode cX4_numberOfRow 24 = .ok (.aload_n 0, 1) := by decide +kernel
theorem dX4_numberOfRow_25 : decode cX4_numberOfRow 25 = .ok (.getfield 29, 3) := by decide +kernel
theorem dX4_numberOfRow_28 : decode cX4_numberOfRow 28 = .ok (.iload_n 2, 1) := by decide +kernel
theorem dX4_numberOfRow_29 : decode cX4_numberOfRow 29 = .ok (.iaload, 1) := by decide +kernel
theorem dX4_numberOfRow_30 : decode cX4_numberOfRow 30 = .ok (.iadd, 1) := by decide +kernel
theorem dX4_numberOfRow_31 : decode cX4_numberOfRow 31 = .ok (.istore_n 1, 1) := by decide +kernel
theorem dX4_numberOfRow_32 : decode cX4_numberOfRow 32 = .ok (.iinc 2 1, 3) := by decide +kernel
theorem dX4_numberOfRow_35 : decode cX4_numberOfRow 35 = .ok (.goto (-27), 3) := by decide +kernel
theorem dX4_numberOfRow_38 : decode cX4_numberOfRow 38 = .ok (.iload_n 1, 1) := by decide +kernel
theorem dX4_numberOfRow_39 : decode cX4_numberOfRow 39 = .ok (.ireturn, 1) := by decide +kernel
theorem dX4_twigsApart_0 : decode cX4_twigsApart 0 = .ok (.aload_n 0, 1) := by decide +kernel
theorem dX4_twigsApart_1 : decode cX4_twigsApart 1 = .ok (.invokevirtual 103, 3) := by decide +kernel
theorem dX4_twigsApart_4 : decode cX4_twigsApart 4 = .ok (.iconst 0, 1) := by decide +kernel
theorem dX4_twigsApart_5 : decode cX4_twigsApart 5 = .ok (.istore_n 1, 1) := by decide +kernel
theorem dX4_twigsApart_6 : decode cX4_twigsApart 6 = .ok (.iconst 0, 1) := by decide +kernel
theorem dX4_twigsApart_7 : decode cX4_twigsApart 7 = .ok (.istore_n 2, 1) := by decide +kernel
theorem dX4_twigsApart_8 : decode cX4_twigsApart 8 = .ok (.iconst 0, 1) := by decide +kernel
theorem dX4_twigsApart_9 : decode cX4_twigsApart 9 = .ok (.istore_n 3, 1) := by decide +kernel
theorem dX4_twigsApart_10 : decode cX4_twigsApart 10 = .ok (.iload_n 3, 1) := by decide +kernel
theorem dX4_twigsApart_11 : decode cX4_twigsApart 11 = .ok (.aload_n 0, 1) := by decide +kernel
theorem dX4_twigsApart_12 : decode cX4_twigsApart 12 = .ok (.getfield 38, 3) := by decide +kernel
theorem dX4_twigsApart_15 : decode cX4_twigsApart 15 = .ok (.iconst 1, 1) := by decide +kernel
theorem dX4_twigsApart_16 : decode cX4_twigsApart 16 = .ok (.isub, 1) := by decide +kernel
theorem dX4_twigsApart_17 : decode cX4_twigsApart 17 = .ok (.if_icmp .ge 43, 3) := by decide +kernel
theorem dX4_twigsApart_20 : decode cX4_twigsApart 20 = .ok (.iconst 1, 1) := by decide +kernel
theorem dX4_twigsApart_21 : decode cX4_twigsApart 21 = .ok (.aload_n 0, 1) := by decide +kernel
theorem dX4_twigsApart_22 : decode cX4_twigsApart 22 = .ok (.getfield 26, 3) := by decide +kernel
theorem dX4_twigsApart_25 : decode cX4_twigsApart 25 = .ok (.iload_n 3, 1) := by decide +kernel
theorem dX4_twigsApart_26 : decode cX4_twigsApart 26 = .ok (.iaload, 1) := by decide +kernel
theorem dX4_twigsApart_27 : decode cX4_twigsApart 27 = .ok (.ishl, 1) := by decide +kernel
theorem dX4_twigsApart_28 : decode cX4_twigsApart 28 = .ok (.iconst 1, 1) := by decide +kernel
theorem dX4_twigsApart_29 : decode cX4_twigsApart 29 = .ok (.aload_n 0, 1) := by decide +kernel
theorem dX4_twigsApart_30 : decode cX4_twigsApart 30 = .ok (.getfield 29, 3) := by decide +kernel
theorem dX4_twigsApart_33 : decode cX4_twigsApart 33 = .ok (.iload_n 3, 1) := by decide +kernel
theorem dX4_twigsApart_34 : decode cX4_twigsApart 34 = .ok (.iaload, 1) := by decide +kernel
theorem dX4_twigsApart_35 : decode cX4_twigsApart 35 = .ok (.ishl, 1) := by decide +kernel
theorem dX4_twigsApart_36 : decode cX4_twigsApart 36 = .ok (.ior, 1) := by decide +kernel
theorem dX4_twigsApart_37 : decode cX4_twigsApart 37 = .ok (.istore 4, 2) := by decide +kernel
theorem dX4_twigsApart_39 : decode cX4_twigsApart 39 = .ok (.iload_n 1, 1) := by decide +kernel
theorem dX4_twigsApart_40 : decode cX4_twigsApart 40 = .ok (.iload 4, 2) := by decide +kernel
theorem dX4_twigsApart_42 : decode cX4_twigsApart 42 = .ok (.iand, 1) := by decide +kernel
theorem dX4_twigsApart_43 : decode cX4_twigsApart 43 = .ok (.ifCond .ne 11, 3) := by decide +kernel
theorem dX4_twigsApart_46 : decode cX4_twigsApart 46 = .ok (.iload_n 1, 1) := by decide +kernel
theorem dX4_twigsApart_47 : decode cX4_twigsApart 47 = .ok (.iload 4, 2) := by decide +kernel
theorem dX4_twigsApart_49 : decode cX4_twigsApart 49 = .ok (.ior, 1) := by decide +kernel
theorem dX4_twigsApart_50 : decode cX4_twigsApart 50 = .ok (.istore_n 1, 1) := by decide +kernel
theorem dX4_twigsApart_51 : decode cX4_twigsApart 51 = .ok (.iinc 2 1, 3) := by decide +kernel
theorem dX4_twigsApart_54 : decode cX4_twigsApart 54 = .ok (.iinc 3 1, 3) := by decide +kernel
theorem dX4_twigsApart_57 : decode cX4_twigsApart 57 = .ok (.goto (-47), 3) := by decide +kernel
theorem dX4_twigsApart_60 : decode cX4_twigsApart 60 = .ok (.iload_n 2, 1) := by decide +kernel
theorem dX4_twigsApart_61 : decode cX4_twigsApart 61 = .ok (.ireturn, 1) := by decide +kernel
theorem dX4_bestApart_0 : decode cX4_bestApart 0 = .ok (.aload_n 0, 1) := by decide +kernel
theorem dX4_bestApart_1 : decode cX4_bestApart 1 = .ok (.invokevirtual 103, 3) := by decide +kernel
theorem dX4_bestApart_4 : decode cX4_bestApart 4 = .ok (.iconst 0, 1) := by decide +kernel
theorem dX4_bestApart_5 : decode cX4_bestApart 5 = .ok (.istore_n 1, 1) := by decide +kernel
theorem dX4_bestApart_6 : decode cX4_bestApart 6 = .ok (.iload_n 1, 1) := by decide +kernel
theorem dX4_bestApart_7 : decode cX4_bestApart 7 = .ok (.aload_n 0, 1) := by decide +kernel
theorem dX4_bestApart_8 : decode cX4_bestApart 8 = .ok (.getfield 38, 3) := by decide +kernel
theorem dX4_bestApart_11 : decode cX4_bestApart 11 = .ok (.if_icmp .ge 35, 3) := by decide +kernel
theorem dX4_bestApart_14 : decode cX4_bestApart 14 = .ok (.aload_n 0, 1) := by decide +kernel
theorem dX4_bestApart_15 : decode cX4_bestApart 15 = .ok (.getfield 32, 3) := by decide +kernel
theorem dX4_bestApart_18 : decode cX4_bestApart 18 = .ok (.iload_n 1, 1) := by decide +kernel
theorem dX4_bestApart_19 : decode cX4_bestApart 19 = .ok (.sipush 256, 3) := by decide +kernel
theorem dX4_bestApart_22 : decode cX4_bestApart 22 = .ok (.aload_n 0, 1) := by decide +kernel
theorem dX4_bestApart_23 : decode cX4_bestApart 23 = .ok (.iload_n 1, 1) := by decide +kernel
theorem dX4_bestApart_24 : decode cX4_bestApart 24 = .ok (.invokevirtual 52, 3) := by decide +kernel
theorem dX4_bestApart_27 : decode cX4_bestApart 27 = .ok (.imul, 1) := by decide +kernel
theorem dX4_bestApart_28 : decode cX4_bestApart 28 = .ok (.iconst 1, 1) := by decide +kernel
theorem dX4_bestApart_29 : decode cX4_bestApart 29 = .ok (.iload_n 1, 1) := by decide +kernel
theorem dX4_bestApart_30 : decode cX4_bestApart 30 = .ok (.ishl, 1) := by decide +kernel
theorem dX4_bestApart_31 : decode cX4_bestApart 31 = .ok (.isub, 1) := by decide +kernel
theorem dX4_bestApart_32 : decode cX4_bestApart 32 = .ok (.iastore, 1) := by decide +kernel
theorem dX4_bestApart_33 : decode cX4_bestApart 33 = .ok (.aload_n 0, 1) := by decide +kernel
theorem dX4_bestApart_34 : decode cX4_bestApart 34 = .ok (.getfield 35, 3) := by decide +kernel
theorem dX4_bestApart_37 : decode cX4_bestApart 37 = .ok (.iload_n 1, 1) := by decide +kernel
theorem dX4_bestApart_38 : decode cX4_bestApart 38 = .ok (.iconst 0, 1) := by decide +kernel
theorem dX4_bestApart_39 : decode cX4_bestApart 39 = .ok (.iastore, 1) := by decide +kernel
theorem dX4_bestApart_40 : decode cX4_bestApart 40 = .ok (.iinc 1 1, 3) := by decide +kernel
theorem dX4_bestApart_43 : decode cX4_bestApart 43 = .ok (.goto (-37), 3) := by decide +kernel
theorem dX4_bestApart_46 : decode cX4_bestApart 46 = .ok (.iconst 0, 1) := by decide +kernel
theorem dX4_bestApart_47 : decode cX4_bestApart 47 = .ok (.istore_n 1, 1) := by decide +kernel
theorem dX4_bestApart_48 : decode cX4_bestApart 48 = .ok (.iconst 0, 1) := by decide +kernel
theorem dX4_bestApart_49 : decode cX4_bestApart 49 = .ok (.istore_n 2, 1) := by decide +kernel
theorem dX4_bestApart_50 : decode cX4_bestApart 50 = .ok (.iload_n 2, 1) := by decide +kernel
theorem dX4_bestApart_51 : decode cX4_bestApart 51 = .ok (.aload_n 0, 1) := by decide +kernel
theorem dX4_bestApart_52 : decode cX4_bestApart 52 = .ok (.getfield 38, 3) := by decide +kernel
theorem dX4_bestApart_55 : decode cX4_bestApart 55 = .ok (.iconst 1, 1) := by decide +kernel
theorem dX4_bestApart_56 : decode cX4_bestApart 56 = .ok (.isub, 1) := by decide +kernel
theorem dX4_bestApart_57 : decode cX4_bestApart 57 = .ok (.if_icmp .ge 62, 3) := by decide +kernel
theorem dX4_bestApart_60 : decode cX4_bestApart 60 = .ok (.aload_n 0, 1) := by decide +kernel
theorem dX4_bestApart_61 : decode cX4_bestApart 61 = .ok (.getfield 26, 3) := by decide +kernel
theorem dX4_bestApart_64 : decode cX4_bestApart 64 = .ok (.iload_n 2, 1) := by decide +kernel
theorem dX4_bestApart_65 : decode cX4_bestApart 65 = .ok (.iaload, 1) := by decide +kernel
theorem dX4_bestApart_66 : decode cX4_bestApart 66 = .ok (.istore_n 3, 1) := by decide +kernel
theorem dX4_bestApart_67 : decode cX4_bestApart 67 = .ok (.aload_n 0, 1) := by decide +kernel
theorem dX4_bestApart_68 : decode cX4_bestApart 68 = .ok (.getfield 29, 3) := by decide +kernel
theorem dX4_bestApart_71 : decode cX4_bestApart 71 = .ok (.iload_n 2, 1) := by decide +kernel
theorem dX4_bestApart_72 : decode cX4_bestApart 72 = .ok (.iaload, 1) := by decide +kernel
theorem dX4_bestApart_73 : decode cX4_bestApart 73 = .ok (.istore_n 1, 1) := by decide +kernel
theorem dX4_bestApart_74 : decode cX4_bestApart 74 = .ok (.aload_n 0, 1) := by decide +kernel
theorem dX4_bestApart_75 : decode cX4_bestApart 75 = .ok (.getfield 32, 3) := by decide +kernel
theorem dX4_bestApart_78 : decode cX4_bestApart 78 = .ok (.iload_n 1, 1) := by decide +kernel
theorem dX4_bestApart_79 : decode cX4_bestApart 79 = .ok (.dup2, 1) := by decide +kernel
theorem dX4_bestApart_80 : decode cX4_bestApart 80 = .ok (.iaload, 1) := by decide +kernel
theorem dX4_bestApart_81 : decode cX4_bestApart 81 = .ok (.aload_n 0, 1) := by decide +kernel
theorem dX4_bestApart_82 : decode cX4_bestApart 82 = .ok (.getfield 35, 3) := by decide +kernel
theorem dX4_bestApart_85 : decode cX4_bestApart 85 = .ok (.iload_n 3, 1) := by decide +kernel
theorem dX4_bestApart_86 : decode cX4_bestApart 86 = .ok (.iaload, 1) := by decide +kernel
theorem dX4_bestApart_87 : decode cX4_bestApart 87 = .ok (.iadd, 1) := by decide +kernel
theorem dX4_bestApart_88 : decode cX4_bestApart 88 = .ok (.iastore, 1) := by decide +kernel
theorem dX4_bestApart_89 : decode cX4_bestApart 89 = .ok (.aload_n 0, 1) := by decide +kernel
theorem dX4_bestApart_90 : decode cX4_bestApart 90 = .ok (.getfield 35, 3) := by decide +kernel
theorem dX4_bestApart_93 : decode cX4_bestApart 93 = .ok (.iload_n 1, 1) := by decide +kernel
theorem dX4_bestApart_94 : decode cX4_bestApart 94 = .ok (.dup2, 1) := by decide +kernel
theorem dX4_bestApart_95 : decode cX4_bestApart 95 = .ok (.iaload, 1) := by decide +kernel
theorem dX4_bestApart_96 : decode cX4_bestApart 96 = .ok (.aload_n 0, 1) := by decide +kernel
theorem dX4_bestApart_97 : decode cX4_bestApart 97 = .ok (.getfield 32, 3) := by decide +kernel
theorem dX4_bestApart_100 : decode cX4_bestApart 100 = .ok (.iload_n 3, 1) := by decide +kernel
theorem dX4_bestApart_101 : decode cX4_bestApart 101 = .ok (.iaload, 1) := by decide +kernel
theorem dX4_bestApart_102 : decode cX4_bestApart 102 = .ok (.aload_n 0, 1) := by decide +kernel
theorem dX4_bestApart_103 : decode cX4_bestApart 103 = .ok (.getfield 35, 3) := by decide +kernel
theorem dX4_bestApart_106 : decode cX4_bestApart 106 = .ok (.iload_n 3, 1) := by decide +kernel
theorem dX4_bestApart_107 : decode cX4_bestApart 107 = .ok (.iaload, 1) := by decide +kernel
theorem dX4_bestApart_108 : decode cX4_bestApart 108 = .ok (.invokestatic 59, 3) := by decide +kernel
theorem dX4_bestApart_111 : decode cX4_bestApart 111 = .ok (.iadd, 1) := by decide +kernel
theorem dX4_bestApart_112 : decode cX4_bestApart 112 = .ok (.iastore, 1) := by decide +kernel
theorem dX4_bestApart_113 : decode cX4_bestApart 113 = .ok (.iinc 2 1, 3) := by decide +kernel
theorem dX4_bestApart_116 : decode cX4_bestApart 116 = .ok (.goto (-66), 3) := by decide +kernel
theorem dX4_bestApart_119 : decode cX4_bestApart 119 = .ok (.aload_n 0, 1) := by decide +kernel
theorem dX4_bestApart_120 : decode cX4_bestApart 120 = .ok (.getfield 32, 3) := by decide +kernel
theorem dX4_bestApart_123 : decode cX4_bestApart 123 = .ok (.iload_n 1, 1) := by decide +kernel
theorem dX4_bestApart_124 : decode cX4_bestApart 124 = .ok (.iaload, 1) := by decide +kernel
theorem dX4_bestApart_125 : decode cX4_bestApart 125 = .ok (.aload_n 0, 1) := by decide +kernel
theorem dX4_bestApart_126 : decode cX4_bestApart 126 = .ok (.getfield 35, 3) := by decide +kernel
theorem dX4_bestApart_129 : decode cX4_bestApart 129 = .ok (.iload_n 1, 1) := by decide +kernel
theorem dX4_bestApart_130 : decode cX4_bestApart 130 = .ok (.iaload, 1) := by decide +kernel
theorem dX4_bestApart_131 : decode cX4_bestApart 131 = .ok (.invokestatic 59, 3) := by decide +kernel
theorem dX4_bestApart_134 : decode cX4_bestApart 134 = .ok (.ireturn, 1) := by decide +kernel
end
section
theorem dX5_init_0 : decode cX5_init 0 = .ok (.aload_n 0, 1) := by decide +kernel
theorem dX5_init_1 : decode cX5_init 1 = .ok (.invokespecial 5, 3) := by decide +kernel
theorem dX5_init_4 : decode cX5_init 4 = .ok (.aload_n 0, 1) := by decide +kernel
theorem dX5_init_5 : decode cX5_init 5 = .ok (.new 11, 3) := by decide +kernel
theorem dX5_init_8 : decode cX5_init 8 = .ok (.dup, 1) := by decide +kernel
theorem dX5_init_9 : decode cX5_init 9 = .ok (.invokespecial 13, 3) := by decide +kernel
theorem dX5_init_12 : decode cX5_init 12 = .ok (.putfield 14, 3) := by decide +kernel
theorem dX5_init_15 : decode cX5_init 15 = .ok (.aload_n 0, 1) := by decide +kernel
theorem dX5_init_16 : decode cX5_init 16 = .ok (.new 11, 3) := by decide +kernel
theorem dX5_init_19 : decode cX5_init 19 = .ok (.dup, 1) := by decide +kernel
theorem dX5_init_20 : decode cX5_init 20 = .ok (.invokespecial 13, 3) := by decide +kernel
theorem dX5_init_23 : decode cX5_init 23 = .ok (.putfield 18, 3) := by decide +kernel
theorem dX5_init_26 : decode cX5_init 26 = .ok (.aload_n 0, 1) := by decide +kernel
theorem dX5_init_27 : decode cX5_init 27 = .ok (.new 21, 3) := by decide +kernel
theorem dX5_init_30 : decode cX5_init 30 = .ok (.dup, 1) := by decide +kernel
theorem dX5_init_31 : decode cX5_init 31 = .ok (.invokespecial 23, 3) := by decide +kernel
theorem dX5_init_34 : decode cX5_init 34 = .ok (.putfield 24, 3) := by decide +kernel
theorem dX5_init_37 : decode cX5_init 37 = .ok (.aload_n 0, 1) := by decide +kernel
theorem dX5_init_38 : decode cX5_init 38 = .ok (.new 28, 3) := by decide +kernel
theorem dX5_init_41 : decode cX5_init 41 = .ok (.dup, 1) := by decide +kernel
theorem dX5_init_42 : decode cX5_init 42 = .ok (.invokespecial 30, 3) := by decide +kernel
theorem dX5_init_45 : decode cX5_init 45 = .ok (.putfield 31, 3) := by decide +kernel
theorem dX5_init_48 : decode cX5_init 48 = .ok (.aload_n 0, 1) := by decide +kernel
theorem dX5_init_49 : decode cX5_init 49 = .ok (.iconst 4, 1) := by decide +kernel
theorem dX5_init_50 : decode cX5_init 50 = .ok (.anewarray 35, 3) := by decide +kernel
theorem dX5_init_53 : decode cX5_init 53 = .ok (.putfield 37, 3) := by decide +kernel
theorem dX5_init_56 : decode cX5_init 56 = .ok (.iconst 0, 1) := by decide +kernel
theorem dX5_init_57 : decode cX5_init 57 = .ok (.istore_n 1, 1) := by decide +kernel
theorem dX5_init_58 : decode cX5_init 58 = .ok (.iload_n 1, 1) := by decide +kernel
theorem dX5_init_59 : decode cX5_init 59 = .ok (.iconst 4, 1) := by decide +kernel
theorem dX5_init_60 : decode cX5_init 60 = .ok (.if_icmp .ge 22, 3) := by decide +kernel
theorem dX5_init_63 : decode cX5_init 63 = .ok (.aload_n 0, 1) := by decide +kernel
theorem dX5_init_64 : decode cX5_init 64 = .ok (.getfield 37, 3) := by decide +kernel
theorem dX5_init_67 : decode cX5_init 67 = .ok (.iload_n 1, 1) := by decide +kernel
theorem dX5_init_68 : decode cX5_init 68 = .ok (.new 35, 3) := by decide +kernel
theorem dX5_init_71 : decode cX5_init 71 = .ok (.dup, 1) := by decide +kernel
theorem dX5_init_72 : decode cX5_init 72 = .ok (.invokespecial 41, 3) := by decide +kernel
theorem dX5_init_75 : decode cX5_init 75 = .ok (.aastore, 1) := by decide +kernel
theorem dX5_init_76 : decode cX5_init 76 = .ok (.iinc 1 1, 3) := by decide +kernel
theorem dX5_init_79 : decode cX5_init 79 = .ok (.goto (-21), 3) := by decide +kernel
theorem dX5_init_82 : decode cX5_init 82 = .ok (.return_, 1) := by decide +kernel
theorem dX5_vine_0 : decode cX5_vine 0 = .ok (.aload_n 0, 1) := by decide +kernel
theorem dX5_vine_1 : decode cX5_vine 1 = .ok (.iconst 0, 1) := by decide +kernel
theorem dX5_vine_2 : decode cX5_vine 2 = .ok (.putfield 42, 3) := by decide +kernel
theorem dX5_vine_5 : decode cX5_vine 5 = .ok (.iload_n 1, 1) := by decide +kernel
theorem dX5_vine_6 : decode cX5_vine 6 = .ok (.invokestatic 46, 3) := by decide +kernel
theorem dX5_vine_9 : decode cX5_vine 9 = .ok (.ifCond .ne 5, 3) := by decide +kernel
theorem dX5_vine_12 : decode cX5_vine 12 = .ok (.iconst (-1), 1) := by decide +kernel
theorem dX5_vine_13 : decode cX5_vine 13 = .ok (.ireturn, 1) := by decide +kernel
theorem dX5_vine_14 : decode cX5_vine 14 = .ok (.iload_n 2, 1) := by decide +kernel
theorem dX5_vine_15 : decode cX5_vine 15 = .ok (.invokestatic 50, 3) := by decide +kernel
theorem dX5_vine_18 : decode cX5_vine 18 = .ok (.ifCond .ne 6, 3) := by decide +kernel
theorem dX5_vine_21 : decode cX5_vine 21 = .ok (.bipush (-2), 2) := by decide +kernel
theorem dX5_vine_23 : decode cX5_vine 23 = .ok (.ireturn, 1) := by decide +kernel
theorem dX5_vine_24 : decode cX5_vine 24 = .ok (.aload_n 0, 1) := by decide +kernel
theorem dX5_vine_25 : decode cX5_vine 25 = .ok (.getfield 37, 3) := by decide +kernel
theorem dX5_vine_28 : decode cX5_vine 28 = .ok (.iload_n 1, 1) := by decide +kernel
theorem dX5_vine_29 : decode cX5_vine 29 = .ok (.aaload, 1) := by decide +kernel
theorem dX5_vine_30 : decode cX5_vine 30 = .ok (.astore 5, 2) := by decide +kernel
theorem dX5_vine_32 : decode cX5_vine 32 = .ok (.aload 5, 2) := by decide +kernel
theorem dX5_vine_34 : decode cX5_vine 34 = .ok (.iload_n 2, 1) := by decide +kernel
theorem dX5_vine_35 : decode cX5_vine 35 = .ok (.invokevirtual 53, 3) := by decide +kernel
theorem dX5_vine_38 : decode cX5_vine 38 = .ok (.istore 6, 2) := by decide +kernel
theorem dX5_vine_40 : decode cX5_vine 40 = .ok (.iload 6, 2) := by decide +kernel
theorem dX5_vine_42 : decode cX5_vine 42 = .ok (.ifCond .ne 11, 3) := by decide +kernel
theorem dX5_vine_45 : decode cX5_vine 45 = .ok (.iload 4, 2) := by decide +kernel
theorem dX5_vine_47 : decode cX5_vine 47 = .ok (.ifCond .ge 6, 3) := by decide +kernel
theorem dX5_vine_50 : decode cX5_vine 50 = .ok (.iconst 4, 1) := by decide +kernel
theorem dX5_vine_51 : decode cX5_vine 51 = .ok (.istore 6, 2) := by decide +kernel
theorem dX5_vine_53 : decode cX5_vine 53 = .ok (.iload 6, 2) := by decide +kernel
theorem dX5_vine_55 : decode cX5_vine 55 = .ok (.ifCond .ne 17, 3) := by decide +kernel
theorem dX5_vine_58 : decode cX5_vine 58 = .ok (.aload 5, 2) := by decide +kernel
theorem dX5_vine_60 : decode cX5_vine 60 = .ok (.iload_n 3, 1) := by decide +kernel
theorem dX5_vine_61 : decode cX5_vine 61 = .ok (.iload 4, 2) := by decide +kernel
theorem dX5_vine_63 : decode cX5_vine 63 = .ok (.invokevirtual 57, 3) := by decide +kernel
theorem dX5_vine_66 : decode cX5_vine 66 = .ok (.ifCond .ne 6, 3) := by decide +kernel
theorem dX5_vine_69 : decode cX5_vine 69 = .ok (.iconst 3, 1) := by decide +kernel
theorem dX5_vine_70 : decode cX5_vine 70 = .ok (.istore 6, 2) := by decide +kernel
theorem dX5_vine_72 : decode cX5_vine 72 = .ok (.iload 6, 2) := by decide +kernel
theorem dX5_vine_74 : decode cX5_vine 74 = .ok (.ifCond .eq 10, 3) := by decide +kernel
theorem dX5_vine_77 : decode cX5_vine 77 = .ok (.aload_n 0, 1) := by decide +kernel
theorem dX5_vine_78 : decode cX5_vine 78 = .ok (.iload 6, 2) := by decide +kernel
theorem dX5_vine_80 : decode cX5_vine 80 = .ok (.invokevirtual 61, 3) := by decide +kernel
theorem dX5_vine_83 : decode cX5_vine 83 = .ok (.ireturn, 1) := by decide +kernel
theorem dX5_vine_84 : decode cX5_vine 84 = .ok (.aload 5, 2) := by decide +kernel
theorem dX5_vine_86 : decode cX5_vine 86 = .ok (.iload_n 3, 1) := by decide +kernel
theorem dX5_vine_87 : decode cX5_vine 87 = .ok (.iload 4, 2) := by decide +kernel
theorem dX5_vine_89 : decode cX5_vine 89 = .ok (.invokestatic 64, 3) := by decide +kernel
theorem dX5_vine_92 : decode cX5_vine 92 = .ok (.istore 7, 2) := by decide +kernel
theorem dX5_vine_94 : decode cX5_vine 94 = .ok (.iload 7, 2) := by decide +kernel
theorem dX5_vine_96 : decode cX5_vine 96 = .ok (.bipush (-9), 2) := by decide +kernel
theorem dX5_vine_98 : decode cX5_vine 98 = .ok (.if_icmp .eq 9, 3) := by decide +kernel
theorem dX5_vine_101 : decode cX5_vine 101 = .ok (.bipush (-100), 2) := by decide +kernel
theorem dX5_vine_103 : decode cX5_vine 103 = .ok (.iload 7, 2) := by decide +kernel
theorem dX5_vine_105 : decode cX5_vine 105 = .ok (.isub, 1) := by decide +kernel
theorem dX5_vine_106 : decode cX5_vine 106 = .ok (.ireturn, 1) := by decide +kernel
theorem dX5_vine_107 : decode cX5_vine 107 = .ok (.aload_n 0, 1) := by decide +kernel
theorem dX5_vine_108 : decode cX5_vine 108 = .ok (.getfield 14, 3) := by decide +kernel
theorem dX5_vine_111 : decode cX5_vine 111 = .ok (.aload 5, 2) := by decide +kernel
theorem dX5_vine_113 : decode cX5_vine 113 = .ok (.iload_n 3, 1) := by decide +kernel
theorem dX5_vine_114 : decode cX5_vine 114 = .ok (.invokevirtual 70, 3) := by decide +kernel
theorem dX5_vine_117 : decode cX5_vine 117 = .ok (.aload_n 0, 1) := by decide +kernel
theorem dX5_vine_118 : decode cX5_vine 118 = .ok (.iconst 0, 1) := by decide +kernel
theorem dX5_vine_119 : decode cX5_vine 119 = .ok (.putfield 74, 3) := by decide +kernel
theorem dX5_vine_122 : decode cX5_vine 122 = .ok (.aload_n 0, 1) := by decide +kernel
theorem dX5_vine_123 : decode cX5_vine 123 = .ok (.getfield 31, 3) := by decide +kernel
theorem dX5_vine_126 : decode cX5_vine 126 = .ok (.iconst 0, 1) := by decide +kernel
theorem dX5_vine_127 : decode cX5_vine 127 = .ok (.putfield 77, 3) := by decide +kernel
theorem dX5_vine_130 : decode cX5_vine 130 = .ok (.aload_n 0, 1) := by decide +kernel
theorem dX5_vine_131 : decode cX5_vine 131 = .ok (.getfield 14, 3) := by decide +kernel
theorem dX5_vine_134 : decode cX5_vine 134 = .ok (.getfield 80, 3) := by decide +kernel
theorem dX5_vine_137 : decode cX5_vine 137 = .ok (.ireturn, 1) := by decide +kernel
theorem dX5_ofPost_0 : decode cX5_ofPost 0 = .ok (.aload_n 0, 1) := by decide +kernel
theorem dX5_ofPost_1 : decode cX5_ofPost 1 = .ok (.getfield 14, 3) := by decide +kernel
theorem dX5_ofPost_4 : decode cX5_ofPost 4 = .ok (.iload_n 1, 1) := by decide +kernel
theorem dX5_ofPost_5 : decode cX5_ofPost 5 = .ok (.invokevirtual 83, 3) := by decide +kernel
theorem dX5_ofPost_8 : decode cX5_ofPost 8 = .ok (.ifCond .ne 5, 3) := by decide +kernel
theorem dX5_ofPost_11 : decode cX5_ofPost 11 = .ok (.iconst (-1), 1) := by decide +kernel
theorem dX5_ofPost_12 : decode cX5_ofPost 12 = .ok (.ireturn, 1) := by decide +kernel
theorem dX5_ofPost_13 : decode cX5_ofPost 13 = .ok (.iload_n 2, 1) := by decide +kernel
theorem dX5_ofPost_14 : decode cX5_ofPost 14 = .ok (.tableswitch 99 0 5 #[38, 48, 58, 67, 80, 90], 38) := by decide +kernel
theorem dX5_ofPost_52 : decode cX5_ofPost 52 = .ok (.aload_n 0, 1) := by decide +kernel
theorem dX5_ofPost_53 : decode cX5_ofPost 53 = .ok (.getfield 14, 3) := by decide +kernel
theorem dX5_ofPost_56 : decode cX5_ofPost 56 = .ok (.getfield 86, 3) := by decide +kernel
theorem dX5_ofPost_59 : decode cX5_ofPost 59 = .ok (.iload_n 1, 1) := by decide +kernel
theorem dX5_ofPost_60 : decode cX5_ofPost 60 = .ok (.iaload, 1) := by decide +kernel
theorem dX5_ofPost_61 : decode cX5_ofPost 61 = .ok (.ireturn, 1) := by decide +kernel
theorem dX5_ofPost_62 : decode cX5_ofPost 62 = .ok (.aload_n 0, 1) := by decide +kernel
theorem dX5_ofPost_63 : decode cX5_ofPost 63 = .ok (.getfield 14, 3) := by decide +kernel
theorem dX5_ofPost_66 : decode cX5_ofPost 66 = .ok (.getfield 90, 3) := by decide +kernel
theorem dX5_ofPost_69 : decode cX5_ofPost 69 = .ok (.iload_n 1, 1) := by decide +kernel
theorem dX5_ofPost_70 : decode cX5_ofPost 70 = .ok (.iaload, 1) := by decide +kernel
theorem dX5_ofPost_71 : decode cX5_ofPost 71 = .ok (.ireturn, 1) := by decide +kernel
theorem dX5_ofPost_72 : decode cX5_ofPost 72 = .ok (.aload_n 0, 1) := by decide +kernel
theorem dX5_ofPost_73 : decode cX5_ofPost 73 = .ok (.getfield 14, 3) := by decide +kernel
theorem dX5_ofPost_76 : decode cX5_ofPost 76 = .ok (.iload_n 1, 1) := by decide +kernel
theorem dX5_ofPost_77 : decode cX5_ofPost 77 = .ok (.invokevirtual 93, 3) := by decide +kernel
theorem dX5_ofPost_80 : decode cX5_ofPost 80 = .ok (.ireturn, 1) := by decide +kernel
theorem dX5_ofPost_81 : decode cX5_ofPost 81 = .ok (.aload_n 0, 1) := by decide +kernel
theorem dX5_ofPost_82 : decode cX5_ofPost 82 = .ok (.getfield 14, 3) := by decide +kernel
theorem dX5_ofPost_85 : decode cX5_ofPost 85 = .ok (.getfield 96, 3) := by decide +kernel
theorem dX5_ofPost_88 : decode cX5_ofPost 88 = .ok (.iload_n 1, 1) := by decide +kernel
theorem dX5_ofPost_89 : decode cX5_ofPost 89 = .ok (.iaload, 1) := by decide +kernel
theorem dX5_ofPost_90 : decode cX5_ofPost 90 = .ok (.invokestatic 99, 3) := by decide +kernel
theorem dX5_ofPost_93 : decode cX5_ofPost 93 = .ok (.ireturn, 1) := by decide +kernel
theorem dX5_ofPost_94 : decode cX5_ofPost 94 = .ok (.aload_n 0, 1) := by decide +kernel
theorem dX5_ofPost_95 : decode cX5_ofPost 95 = .ok (.getfield 14, 3) := by decide +kernel
theorem dX5_ofPost_98 : decode cX5_ofPost 98 = .ok (.getfield 96, 3) := by decide +kernel
theorem dX5_ofPost_101 : decode cX5_ofPost 101 = .ok (.iload_n 1, 1) := by decide +kernel
theorem dX5_ofPost_102 : decode cX5_ofPost 102 = .ok (.iaload, 1) := by decide +kernel
theorem dX5_ofPost_103 : decode cX5_ofPost 103 = .ok (.ireturn, 1) := by decide +kernel
theorem dX5_ofPost_104 : decode cX5_ofPost 104 = .ok (.aload_n 0, 1) := by decide +kernel
theorem dX5_ofPost_105 : decode cX5_ofPost 105 = .ok (.getfield 14, 3) := by decide +kernel
theorem dX5_ofPost_108 : decode cX5_ofPost 108 = .ok (.iload_n 1, 1) := by decide +kernel
theorem dX5_ofPost_109 : decode cX5_ofPost 109 = .ok (.invokevirtual 104, 3) := by decide +kernel
theorem dX5_ofPost_112 : decode cX5_ofPost 112 = .ok (.ireturn, 1) := by decide +kernel
theorem dX5_ofPost_113 : decode cX5_ofPost 113 = .ok (.bipush (-2), 2) := by decide +kernel
theorem dX5_ofPost_115 : decode cX5_ofPost 115 = .ok (.ireturn, 1) := by decide +kernel
theorem dX5_load_0 : decode cX5_load 0 = .ok (.aload_n 0, 1) := by decide +kernel
theorem dX5_load_1 : decode cX5_load 1 = .ok (.getfield 14, 3) := by decide +kernel
theorem dX5_load_4 : decode cX5_load 4 = .ok (.iload_n 1, 1) := by decide +kernel
theorem dX5_load_5 : decode cX5_load 5 = .ok (.invokevirtual 83, 3) := by decide +kernel
theorem dX5_load_8 : decode cX5_load 8 = .ok (.ifCond .ne 5, 3) := by decide +kernel
theorem dX5_load_11 : decode cX5_load 11 = .ok (.iconst (-1), 1) := by decide +kernel
theorem dX5_load_12 : decode cX5_load 12 = .ok (.ireturn, 1) := by decide +kernel
theorem dX5_load_13 : decode cX5_load 13 = .ok (.iload_n 2, 1) := by decide +kernel
theorem dX5_load_14 : decode cX5_load 14 = .ok (.ifCond .lt 9, 3) := by decide +kernel
theorem dX5_load_17 : decode cX5_load 17 = .ok (.iload_n 2, 1) := by decide +kernel
theorem dX5_load_18 : decode cX5_load 18 = .ok (.bipush 9, 2) := by decide +kernel
theorem dX5_load_20 : decode cX5_load 20 = .ok (.if_icmp .le 6, 3) := by decide +kernel
theorem dX5_load_23 : decode cX5_load 23 = .ok (.bipush (-2), 2) := by decide +kernel
theorem dX5_load_25 : decode cX5_load 25 = .ok (.ireturn, 1) := by decide +kernel
theorem dX5_load_26 : decode cX5_load 26 = .ok (.aload_n 0, 1) := by decide +kernel
theorem dX5_load_27 : decode cX5_load 27 = .ok (.getfield 14, 3) := by decide +kernel
theorem dX5_load_30 : decode cX5_load 30 = .ok (.getfield 90, 3) := by decide +kernel
theorem dX5_load_33 : decode cX5_load 33 = .ok (.iload_n 1, 1) := by decide +kernel
theorem dX5_load_34 : decode cX5_load 34 = .ok (.iaload, 1) := by decide +kernel
theorem dX5_load_35 : decode cX5_load 35 = .ok (.istore_n 3, 1) := by decide +kernel
theorem dX5_load_36 : decode cX5_load 36 = .ok (.aload_n 0, 1) := by decide +kernel
theorem dX5_load_37 : decode cX5_load 37 = .ok (.getfield 14, 3) := by decide +kernel
theorem dX5_load_40 : decode cX5_load 40 = .ok (.getfield 90, 3) := by decide +kernel
theorem dX5_load_43 : decode cX5_load 43 = .ok (.iload_n 1, 1) := by decide +kernel
theorem dX5_load_44 : decode cX5_load 44 = .ok (.iload_n 2, 1) := by decide +kernel
theorem dX5_load_45 : decode cX5_load 45 = .ok (.iastore, 1) := by decide +kernel
theorem dX5_load_46 : decode cX5_load 46 = .ok (.iload_n 3, 1) := by decide +kernel
theorem dX5_load_47 : decode cX5_load 47 = .ok (.ireturn, 1) := by decide +kernel
theorem dX5_row_0 : decode cX5_row 0 = .ok (.iload_n 1, 1) := by decide +kernel
theorem dX5_row_1 : decode cX5_row 1 = .ok (.ifCond .lt 8, 3) := by decide +kernel
theorem dX5_row_4 : decode cX5_row 4 = .ok (.iload_n 1, 1) := by decide +kernel
theorem dX5_row_5 : decode cX5_row 5 = .ok (.iconst 5, 1) := by decide +kernel
theorem dX5_row_6 : decode cX5_row 6 = .ok (.if_icmp .le 6, 3) := by decide +kernel
theorem dX5_row_9 : decode cX5_row 9 = .ok (.bipush (-2), 2) := by decide +kernel
theorem dX5_row_11 : decode cX5_row 11 = .ok (.ireturn, 1) := by decide +kernel
theorem dX5_row_12 : decode cX5_row 12 = .ok (.aload_n 0, 1) := by decide +kernel
theorem dX5_row_13 : decode cX5_row 13 = .ok (.getfield 14, 3) := by decide +kernel
theorem dX5_row_16 : decode cX5_row 16 = .ok (.getfield 80, 3) := by decide +kernel
theorem dX5_row_19 : decode cX5_row 19 = .ok (.ifCond .ne 6, 3) := by decide +kernel
theorem dX5_row_22 : decode cX5_row 22 = .ok (.bipush (-3), 2) := by decide +kernel
theorem dX5_row_24 : decode cX5_row 24 = .ok (.ireturn, 1) := by decide +kernel
theorem dX5_row_25 : decode cX5_row 25 = .ok (.iload_n 1, 1) := by decide +kernel
theorem dX5_row_26 : decode cX5_row 26 = .ok (.aload_n 0, 1) := by decide +kernel
theorem dX5_row_27 : decode cX5_row 27 = .ok (.getfield 14, 3) := by decide +kernel
theorem dX5_row_30 : decode cX5_row 30 = .ok (.getfield 80, 3) := by decide +kernel
theorem dX5_row_33 : decode cX5_row 33 = .ok (.iconst 2, 1) := by decide +kernel
theorem dX5_row_34 : decode cX5_row 34 = .ok (.isub, 1) := by decide +kernel
theorem dX5_row_35 : decode cX5_row 35 = .ok (.if_icmp .lt 6, 3) := by decide +kernel
theorem dX5_row_38 : decode cX5_row 38 = .ok (.bipush (-9), 2) := by decide +kernel
theorem dX5_row_40 : decode cX5_row 40 = .ok (.ireturn, 1) := by decide +kernel
theorem dX5_row_41 : decode cX5_row 41 = .ok (.aload_n 0, 1) := by decide +kernel
theorem dX5_row_42 : decode cX5_row 42 = .ok (.getfield 14, 3) := by decide +kernel
theorem dX5_row_45 : decode cX5_row 45 = .ok (.invokevirtual 107, 3) := by decide +kernel
theorem dX5_row_48 : decode cX5_row 48 = .ok (.aload_n 0, 1) := by decide +kernel
theorem dX5_row_49 : decode cX5_row 49 = .ok (.getfield 14, 3) := by decide +kernel
theorem dX5_row_52 : decode cX5_row 52 = .ok (.getfield 110, 3) := by decide +kernel
theorem dX5_row_55 : decode cX5_row 55 = .ok (.iload_n 1, 1) := by decide +kernel
theorem dX5_row_56 : decode cX5_row 56 = .ok (.iaload, 1) := by decide +kernel
theorem dX5_row_57 : decode cX5_row 57 = .ok (.ireturn, 1) := by decide +kernel
theorem dX5_graft_0 : decode cX5_graft 0 = .ok (.aload_n 0, 1) := by decide +kernel
theorem dX5_graft_1 : decode cX5_graft 1 = .ok (.getfield 14, 3) := by decide +kernel
theorem dX5_graft_4 : decode cX5_graft 4 = .ok (.iload_n 1, 1) := by decide +kernel
theorem dX5_graft_5 : decode cX5_graft 5 = .ok (.invokevirtual 83, 3) := by decide +kernel
theorem dX5_graft_8 : decode cX5_graft 8 = .ok (.ifCond .eq 19, 3) := by decide +kernel
theorem dX5_graft_11 : decode cX5_graft 11 = .ok (.aload_n 0, 1) := by decide +kernel
theorem dX5_graft_12 : decode cX5_graft 12 = .ok (.getfield 14, 3) := by decide +kernel
theorem dX5_graft_15 : decode cX5_graft 15 = .ok (.iload_n 2, 1) := by decide +kernel
theorem dX5_graft_16 : decode cX5_graft 16 = .ok (.invokevirtual 83, 3) := by decide +kernel
theorem dX5_graft_19 : decode cX5_graft 19 = .ok (.ifCond .eq 8, 3) := by decide +kernel
theorem dX5_graft_22 : decode cX5_graft 22 = .ok (.iload_n 1, 1) := by decide +kernel
theorem dX5_graft_23 : decode cX5_graft 23 = .ok (.iload_n 2, 1) := by decide +kernel
theorem dX5_graft_24 : decode cX5_graft 24 = .ok (.if_icmp .ne 5, 3) := by decide +kernel
theorem dX5_graft_27 : decode cX5_graft 27 = .ok (.iconst (-1), 1) := by decide +kernel
theorem dX5_graft_28 : decode cX5_graft 28 = .ok (.ireturn, 1) := by decide +kernel
theorem dX5_graft_29 : decode cX5_graft 29 = .ok (.aload_n 0, 1) := by decide +kernel
theorem dX5_graft_30 : decode cX5_graft 30 = .ok (.getfield 14, 3) := by decide +kernel
theorem dX5_graft_33 : decode cX5_graft 33 = .ok (.iload_n 1, 1) := by decide +kernel
theorem dX5_graft_34 : decode cX5_graft 34 = .ok (.invokevirtual 113, 3) := by decide +kernel
theorem dX5_graft_37 : decode cX5_graft 37 = .ok (.ifCond .ne 6, 3) := by decide +kernel
theorem dX5_graft_40 : decode cX5_graft 40 = .ok (.bipush (-3), 2) := by decide +kernel
theorem dX5_graft_42 : decode cX5_graft 42 = .ok (.ireturn, 1) := by decide +kernel
theorem dX5_graft_43 : decode cX5_graft 43 = .ok (.aload_n 0, 1) := by decide +kernel
theorem dX5_graft_44 : decode cX5_graft 44 = .ok (.dup, 1) := by decide +kernel
theorem dX5_graft_45 : decode cX5_graft 45 = .ok (.getfield 74, 3) := by decide +kernel
theorem dX5_graft_48 : decode cX5_graft 48 = .ok (.iconst 1, 1) := by decide +kernel
theorem dX5_graft_49 : decode cX5_graft 49 = .ok (.iadd, 1) := by decide +kernel
theorem dX5_graft_50 : decode cX5_graft 50 = .ok (.putfield 74, 3) := by decide +kernel
theorem dX5_graft_53 : decode cX5_graft 53 = .ok (.aload_n 0, 1) := by decide +kernel
theorem dX5_graft_54 : decode cX5_graft 54 = .ok (.getfield 14, 3) := by decide +kernel
theorem dX5_graft_57 : decode cX5_graft 57 = .ok (.iload_n 1, 1) := by decide +kernel
theorem dX5_graft_58 : decode cX5_graft 58 = .ok (.iload_n 2, 1) := by decide +kernel
theorem dX5_graft_59 : decode cX5_graft 59 = .ok (.invokevirtual 116, 3) := by decide +kernel
theorem dX5_graft_62 : decode cX5_graft 62 = .ok (.ireturn, 1) := by decide +kernel
theorem dX5_day_0 : decode cX5_day 0 = .ok (.aload_n 0, 1) := by decide +kernel
theorem dX5_day_1 : decode cX5_day 1 = .ok (.iconst 0, 1) := by decide +kernel
theorem dX5_day_2 : decode cX5_day 2 = .ok (.putfield 42, 3) := by decide +kernel
theorem dX5_day_5 : decode cX5_day 5 = .ok (.iload_n 1, 1) := by decide +kernel
theorem dX5_day_6 : decode cX5_day 6 = .ok (.invokestatic 46, 3) := by decide +kernel
theorem dX5_day_9 : decode cX5_day 9 = .ok (.ifCond .ne 5, 3) := by decide +kernel
theorem dX5_day_12 : decode cX5_day 12 = .ok (.iconst (-1), 1) := by decide +kernel
theorem dX5_day_13 : decode cX5_day 13 = .ok (.ireturn, 1) := by decide +kernel
theorem dX5_day_14 : decode cX5_day 14 = .ok (.iload_n 2, 1) := by decide +kernel
theorem dX5_day_15 : decode cX5_day 15 = .ok (.invokestatic 50, 3) := by decide +kernel
theorem dX5_day_18 : decode cX5_day 18 = .ok (.ifCond .eq 23, 3) := by decide +kernel
theorem dX5_day_21 : decode cX5_day 21 = .ok (.iload 4, 2) := by decide +kernel
theorem dX5_day_23 : decode cX5_day 23 = .ok (.ifCond .lt 18, 3) := by decide +kernel
theorem dX5_day_26 : decode cX5_day 26 = .ok (.iload 4, 2) := by decide +kernel
theorem dX5_day_28 : decode cX5_day 28 = .ok (.bipush 20, 2) := by decide +kernel
theorem dX5_day_30 : decode cX5_day 30 = .ok (.if_icmp .gt 11, 3) := by decide +kernel
theorem dX5_day_33 : decode cX5_day 33 = .ok (.iload 5, 2) := by decide +kernel
theorem dX5_day_35 : decode cX5_day 35 = .ok (.invokestatic 120, 3) := by decide +kernel
theorem dX5_day_38 : decode cX5_day 38 = .ok (.ifCond .ne 6, 3) := by decide +kernel
theorem dX5_day_41 : decode cX5_day 41 = .ok (.bipush (-2), 2) := by decide +kernel
theorem dX5_day_43 : decode cX5_day 43 = .ok (.ireturn, 1) := by decide +kernel
theorem dX5_day_44 : decode cX5_day 44 = .ok (.aload_n 0, 1) := by decide +kernel
theorem dX5_day_45 : decode cX5_day 45 = .ok (.getfield 37, 3) := by decide +kernel
theorem dX5_day_48 : decode cX5_day 48 = .ok (.iload_n 1, 1) := by decide +kernel
theorem dX5_day_49 : decode cX5_day 49 = .ok (.aaload, 1) := by decide +kernel
theorem dX5_day_50 : decode cX5_day 50 = .ok (.astore 6, 2) := by decide +kernel
theorem dX5_day_52 : decode cX5_day 52 = .ok (.aload 6, 2) := by decide +kernel
theorem dX5_day_54 : decode cX5_day 54 = .ok (.iload_n 2, 1) := by decide +kernel
theorem dX5_day_55 : decode cX5_day 55 = .ok (.invokevirtual 53, 3) := by decide +kernel
theorem dX5_day_58 : decode cX5_day 58 = .ok (.istore 7, 2) := by decide +kernel
theorem dX5_day_60 : decode cX5_day 60 = .ok (.iload 7, 2) := by decide +kernel
theorem dX5_day_62 : decode cX5_day 62 = .ok (.ifCond .ne 19, 3) := by decide +kernel
theorem dX5_day_65 : decode cX5_day 65 = .ok (.aload 6, 2) := by decide +kernel
theorem dX5_day_67 : decode cX5_day 67 = .ok (.iload_n 3, 1) := by decide +kernel
theorem dX5_day_68 : decode cX5_day 68 = .ok (.iconst 2, 1) := by decide +kernel
theorem dX5_day_69 : decode cX5_day 69 = .ok (.iload 4, 2) := by decide +kernel
theorem dX5_day_71 : decode cX5_day 71 = .ok (.imul, 1) := by decide +kernel
theorem dX5_day_72 : decode cX5_day 72 = .ok (.invokevirtual 57, 3) := by decide +kernel
theorem dX5_day_75 : decode cX5_day 75 = .ok (.ifCond .ne 6, 3) := by decide +kernel
theorem dX5_day_78 : decode cX5_day 78 = .ok (.iconst 3, 1) := by decide +kernel
theorem dX5_day_79 : decode cX5_day 79 = .ok (.istore 7, 2) := by decide +kernel
theorem dX5_day_81 : decode cX5_day 81 = .ok (.iload 7, 2) := by decide +kernel
theorem dX5_day_83 : decode cX5_day 83 = .ok (.ifCond .eq 10, 3) := by decide +kernel
theorem dX5_day_86 : decode cX5_day 86 = .ok (.aload_n 0, 1) := by decide +kernel
theorem dX5_day_87 : decode cX5_day 87 = .ok (.iload 7, 2) := by decide +kernel
theorem dX5_day_89 : decode cX5_day 89 = .ok (.invokevirtual 61, 3) := by decide +kernel
theorem dX5_day_92 : decode cX5_day 92 = .ok (.ireturn, 1) := by decide +kernel
theorem dX5_day_93 : decode cX5_day 93 = .ok (.aload_n 0, 1) := by decide +kernel
theorem dX5_day_94 : decode cX5_day 94 = .ok (.getfield 14, 3) := by decide +kernel
theorem dX5_day_97 : decode cX5_day 97 = .ok (.getfield 80, 3) := by decide +kernel
theorem dX5_day_100 : decode cX5_day 100 = .ok (.ifCond .ne 6, 3) := by decide +kernel
theorem dX5_day_103 : decode cX5_day 103 = .ok (.bipush (-3), 2) := by decide +kernel
theorem dX5_day_105 : decode cX5_day 105 = .ok (.ireturn, 1) := by decide +kernel
theorem dX5_day_106 : decode cX5_day 106 = .ok (.aload_n 0, 1) := by decide +kernel
theorem dX5_day_107 : decode cX5_day 107 = .ok (.aload 6, 2) := by decide +kernel
theorem dX5_day_109 : decode cX5_day 109 = .ok (.iload_n 3, 1) := by decide +kernel
theorem dX5_day_110 : decode cX5_day 110 = .ok (.iload 4, 2) := by decide +kernel
theorem dX5_day_112 : decode cX5_day 112 = .ok (.invokevirtual 123, 3) := by decide +kernel
theorem dX5_day_115 : decode cX5_day 115 = .ok (.istore 8, 2) := by decide +kernel
theorem dX5_day_117 : decode cX5_day 117 = .ok (.iload 8, 2) := by decide +kernel
theorem dX5_day_119 : decode cX5_day 119 = .ok (.ifCond .eq 6, 3) := by decide +kernel
theorem dX5_day_122 : decode cX5_day 122 = .ok (.iload 8, 2) := by decide +kernel
theorem dX5_day_124 : decode cX5_day 124 = .ok (.ireturn, 1) := by decide +kernel
theorem dX5_day_125 : decode cX5_day 125 = .ok (.aload_n 0, 1) := by decide +kernel
theorem dX5_day_126 : decode cX5_day 126 = .ok (.aload 6, 2) := by decide +kernel
theorem dX5_day_128 : decode cX5_day 128 = .ok (.iload_n 3, 1) := by decide +kernel
theorem dX5_day_129 : decode cX5_day 129 = .ok (.iload 4, 2) := by decide +kernel
theorem dX5_day_131 : decode cX5_day 131 = .ok (.invokevirtual 126, 3) := by decide +kernel
theorem dX5_day_134 : decode cX5_day 134 = .ok (.istore 9, 2) := by decide +kernel
theorem dX5_day_136 : decode cX5_day 136 = .ok (.iload 5, 2) := by decide +kernel
theorem dX5_day_138 : decode cX5_day 138 = .ok (.iconst 1, 1) := by decide +kernel
theorem dX5_day_139 : decode cX5_day 139 = .ok (.if_icmp .ne 6, 3) := by decide +kernel
theorem dX5_day_142 : decode cX5_day 142 = .ok (.iload 9, 2) := by decide +kernel
theorem dX5_day_144 : decode cX5_day 144 = .ok (.ireturn, 1) := by decide +kernel
theorem dX5_day_145 : decode cX5_day 145 = .ok (.iload 9, 2) := by decide +kernel
theorem dX5_day_147 : decode cX5_day 147 = .ok (.bipush (-9), 2) := by decide +kernel
theorem dX5_day_149 : decode cX5_day 149 = .ok (.if_icmp .ne 12, 3) := by decide +kernel
theorem dX5_day_152 : decode cX5_day 152 = .ok (.aload_n 0, 1) := by decide +kernel
theorem dX5_day_153 : decode cX5_day 153 = .ok (.iload 5, 2) := by decide +kernel
theorem dX5_day_155 : decode cX5_day 155 = .ok (.invokevirtual 129, 3) := by decide +kernel
theorem dX5_day_158 : decode cX5_day 158 = .ok (.goto 8, 3) := by decide +kernel
theorem dX5_day_161 : decode cX5_day 161 = .ok (.bipush (-100), 2) := by decide +kernel
theorem dX5_day_163 : decode cX5_day 163 = .ok (.iload 9, 2) := by decide +kernel
theorem dX5_day_165 : decode cX5_day 165 = .ok (.isub, 1) := by decide +kernel
theorem dX5_day_166 : decode cX5_day 166 = .ok (.ireturn, 1) := by decide +kernel
theorem dX5_isOfDay_0 : decode cX5_isOfDay 0 = .ok (.iload_n 0, 1) := by decide +kernel
theorem dX5_isOfDay_1 : decode cX5_isOfDay 1 = .ok (.ifCond .lt 8, 3) := by decide +kernel
theorem dX5_isOfDay_4 : decode cX5_isOfDay 4 = .ok (.iload_n 0, 1) := by decide +kernel
theorem dX5_isOfDay_5 : decode cX5_isOfDay 5 = .ok (.iconst 4, 1) := by decide +kernel
theorem dX5_isOfDay_6 : decode cX5_isOfDay 6 = .ok (.if_icmp .le 15, 3) := by decide +kernel
theorem dX5_isOfDay_9 : decode cX5_isOfDay 9 = .ok (.iload_n 0, 1) := by decide +kernel
theorem dX5_isOfDay_10 : decode cX5_isOfDay 10 = .ok (.bipush 10, 2) := by decide +kernel
theorem dX5_isOfDay_12 : decode cX5_isOfDay 12 = .ok (.if_icmp .lt 13, 3) := by decide +kernel
theorem dX5_isOfDay_15 : decode cX5_isOfDay 15 = .ok (.iload_n 0, 1) := by decide +kernel
theorem dX5_isOfDay_16 : decode cX5_isOfDay 16 = .ok (.bipush 18, 2) := by decide +kernel
theorem dX5_isOfDay_18 : decode cX5_isOfDay 18 = .ok (.if_icmp .ge 7, 3) := by decide +kernel
theorem dX5_isOfDay_21 : decode cX5_isOfDay 21 = .ok (.iconst 1, 1) := by decide +kernel
theorem dX5_isOfDay_22 : decode cX5_isOfDay 22 = .ok (.goto 4, 3) := by decide +kernel
theorem dX5_isOfDay_25 : decode cX5_isOfDay 25 = .ok (.iconst 0, 1) := by decide +kernel
theorem dX5_isOfDay_26 : decode cX5_isOfDay 26 = .ok (.ireturn, 1) := by decide +kernel
theorem dX5_refusalOfPairs_0 : decode cX5_refusalOfPairs 0 = .ok (.iconst 0, 1) := by decide +kernel
theorem dX5_refusalOfPairs_1 : decode cX5_refusalOfPairs 1 = .ok (.istore 4, 2) := by decide +kernel
theorem dX5_refusalOfPairs_3 : decode cX5_refusalOfPairs 3 = .ok (.iload 4, 2) := by decide +kernel
theorem dX5_refusalOfPairs_5 : decode cX5_refusalOfPairs 5 = .ok (.iload_n 3, 1) := by decide +kernel
theorem dX5_refusalOfPairs_6 : decode cX5_refusalOfPairs 6 = .ok (.if_icmp .ge 45, 3) := by decide +kernel
theorem dX5_refusalOfPairs_9 : decode cX5_refusalOfPairs 9 = .ok (.aload_n 0, 1) := by decide +kernel
theorem dX5_refusalOfPairs_10 : decode cX5_refusalOfPairs 10 = .ok (.aload_n 1, 1) := by decide +kernel
theorem dX5_refusalOfPairs_11 : decode cX5_refusalOfPairs 11 = .ok (.iload_n 2, 1) := by decide +kernel
theorem dX5_refusalOfPairs_12 : decode cX5_refusalOfPairs 12 = .ok (.iconst 2, 1) := by decide +kernel
theorem dX5_refusalOfPairs_13 : decode cX5_refusalOfPairs 13 = .ok (.iload 4, 2) := by decide +kernel
theorem dX5_refusalOfPairs_15 : decode cX5_refusalOfPairs 15 = .ok (.imul, 1) := by decide +kernel
theorem dX5_refusalOfPairs_16 : decode cX5_refusalOfPairs 16 = .ok (.iadd, 1) := by decide +kernel
theorem dX5_refusalOfPairs_17 : decode cX5_refusalOfPairs 17 = .ok (.invokevirtual 132, 3) := by decide +kernel
theorem dX5_refusalOfPairs_20 : decode cX5_refusalOfPairs 20 = .ok (.aload_n 1, 1) := by decide +kernel
theorem dX5_refusalOfPairs_21 : decode cX5_refusalOfPairs 21 = .ok (.iload_n 2, 1) := by decide +kernel
theorem dX5_refusalOfPairs_22 : decode cX5_refusalOfPairs 22 = .ok (.iconst 2, 1) := by decide +kernel
theorem dX5_refusalOfPairs_23 : decode cX5_refusalOfPairs 23 = .ok (.iload 4, 2) := by decide +kernel
theorem dX5_refusalOfPairs_25 : decode cX5_refusalOfPairs 25 = .ok (.imul, 1) := by decide +kernel
theorem dX5_refusalOfPairs_26 : decode cX5_refusalOfPairs 26 = .ok (.iadd, 1) := by decide +kernel
theorem dX5_refusalOfPairs_27 : decode cX5_refusalOfPairs 27 = .ok (.iconst 1, 1) := by decide +kernel
theorem dX5_refusalOfPairs_28 : decode cX5_refusalOfPairs 28 = .ok (.iadd, 1) := by decide +kernel
theorem dX5_refusalOfPairs_29 : decode cX5_refusalOfPairs 29 = .ok (.invokevirtual 132, 3) := by decide +kernel
theorem dX5_refusalOfPairs_32 : decode cX5_refusalOfPairs 32 = .ok (.invokevirtual 135, 3) := by decide +kernel
theorem dX5_refusalOfPairs_35 : decode cX5_refusalOfPairs 35 = .ok (.istore 5, 2) := by decide +kernel
theorem dX5_refusalOfPairs_37 : decode cX5_refusalOfPairs 37 = .ok (.iload 5, 2) := by decide +kernel
theorem dX5_refusalOfPairs_39 : decode cX5_refusalOfPairs 39 = .ok (.ifCond .eq 6, 3) := by decide +kernel
theorem dX5_refusalOfPairs_42 : decode cX5_refusalOfPairs 42 = .ok (.iload 5, 2) := by decide +kernel
theorem dX5_refusalOfPairs_44 : decode cX5_refusalOfPairs 44 = .ok (.ireturn, 1) := by decide +kernel
theorem dX5_refusalOfPairs_45 : decode cX5_refusalOfPairs 45 = .ok (.iinc 4 1, 3) := by decide +kernel
theorem dX5_refusalOfPairs_48 : decode cX5_refusalOfPairs 48 = .ok (.goto (-45), 3) := by decide +kernel
theorem dX5_refusalOfPairs_51 : decode cX5_refusalOfPairs 51 = .ok (.iconst 0, 1) := by decide +kernel
theorem dX5_refusalOfPairs_52 : decode cX5_refusalOfPairs 52 = .ok (.ireturn, 1) := by decide +kernel
theorem dX5_refusalOfPair_0 : decode cX5_refusalOfPair 0 = .ok (.iload_n 2, 1) := by decide +kernel
theorem dX5_refusalOfPair_1 : decode cX5_refusalOfPair 1 = .ok (.bipush 10, 2) := by decide +kernel
theorem dX5_refusalOfPair_3 : decode cX5_refusalOfPair 3 = .ok (.if_icmp .lt 26, 3) := by decide +kernel
theorem dX5_refusalOfPair_6 : decode cX5_refusalOfPair 6 = .ok (.iload_n 2, 1) := by decide +kernel
theorem dX5_refusalOfPair_7 : decode cX5_refusalOfPair 7 = .ok (.bipush 18, 2) := by decide +kernel
theorem dX5_refusalOfPair_9 : decode cX5_refusalOfPair 9 = .ok (.if_icmp .ge 20, 3) := by decide +kernel
theorem dX5_refusalOfPair_12 : decode cX5_refusalOfPair 12 = .ok (.iload_n 1, 1) := by decide +kernel
theorem dX5_refusalOfPair_13 : decode cX5_refusalOfPair 13 = .ok (.ifCond .lt 9, 3) := by decide +kernel
theorem dX5_refusalOfPair_16 : decode cX5_refusalOfPair 16 = .ok (.iload_n 1, 1) := by decide +kernel
theorem dX5_refusalOfPair_17 : decode cX5_refusalOfPair 17 = .ok (.bipush 9, 2) := by decide +kernel
theorem dX5_refusalOfPair_19 : decode cX5_refusalOfPair 19 = .ok (.if_icmp .le 8, 3) := by decide +kernel
theorem dX5_refusalOfPair_22 : decode cX5_refusalOfPair 22 = .ok (.bipush (-2), 2) := by decide +kernel
theorem dX5_refusalOfPair_24 : decode cX5_refusalOfPair 24 = .ok (.goto 4, 3) := by decide +kernel
theorem dX5_refusalOfPair_27 : decode cX5_refusalOfPair 27 = .ok (.iconst 0, 1) := by decide +kernel
theorem dX5_refusalOfPair_28 : decode cX5_refusalOfPair 28 = .ok (.ireturn, 1) := by decide +kernel
theorem dX5_refusalOfPair_29 : decode cX5_refusalOfPair 29 = .ok (.iload_n 2, 1) := by decide +kernel
theorem dX5_refusalOfPair_30 : decode cX5_refusalOfPair 30 = .ok (.ifCond .lt 9, 3) := by decide +kernel
theorem dX5_refusalOfPair_33 : decode cX5_refusalOfPair 33 = .ok (.iload_n 2, 1) := by decide +kernel
theorem dX5_refusalOfPair_34 : decode cX5_refusalOfPair 34 = .ok (.bipush 8, 2) := by decide +kernel
theorem dX5_refusalOfPair_36 : decode cX5_refusalOfPair 36 = .ok (.if_icmp .lt 6, 3) := by decide +kernel
theorem dX5_refusalOfPair_39 : decode cX5_refusalOfPair 39 = .ok (.bipush (-2), 2) := by decide +kernel
theorem dX5_refusalOfPair_41 : decode cX5_refusalOfPair 41 = .ok (.ireturn, 1) := by decide +kernel
theorem dX5_refusalOfPair_42 : decode cX5_refusalOfPair 42 = .ok (.aload_n 0, 1) := by decide +kernel
theorem dX5_refusalOfPair_43 : decode cX5_refusalOfPair 43 = .ok (.getfield 14, 3) := by decide +kernel
theorem dX5_refusalOfPair_46 : decode cX5_refusalOfPair 46 = .ok (.iload_n 1, 1) := by decide +kernel
theorem dX5_refusalOfPair_47 : decode cX5_refusalOfPair 47 = .ok (.invokevirtual 83, 3) := by decide +kernel
theorem dX5_refusalOfPair_50 : decode cX5_refusalOfPair 50 = .ok (.ifCond .eq 7, 3) := by decide +kernel
theorem dX5_refusalOfPair_53 : decode cX5_refusalOfPair 53 = .ok (.iconst 0, 1) := by decide +kernel
theorem dX5_refusalOfPair_54 : decode cX5_refusalOfPair 54 = .ok (.goto 4, 3) := by decide +kernel
theorem dX5_refusalOfPair_57 : decode cX5_refusalOfPair 57 = .ok (.iconst (-1), 1) := by decide +kernel
theorem dX5_refusalOfPair_58 : decode cX5_refusalOfPair 58 = .ok (.ireturn, 1) := by decide +kernel
theorem dX5_firstWrong_0 : decode cX5_firstWrong 0 = .ok (.aload_n 0, 1) := by decide +kernel
theorem dX5_firstWrong_1 : decode cX5_firstWrong 1 = .ok (.getfield 18, 3) := by decide +kernel
theorem dX5_firstWrong_4 : decode cX5_firstWrong 4 = .ok (.aload_n 0, 1) := by decide +kernel
theorem dX5_firstWrong_5 : decode cX5_firstWrong 5 = .ok (.getfield 14, 3) := by decide +kernel
theorem dX5_firstWrong_8 : decode cX5_firstWrong 8 = .ok (.invokevirtual 138, 3) := by decide +kernel
theorem dX5_firstWrong_11 : decode cX5_firstWrong 11 = .ok (.iconst 0, 1) := by decide +kernel
theorem dX5_firstWrong_12 : decode cX5_firstWrong 12 = .ok (.istore 4, 2) := by decide +kernel
theorem dX5_firstWrong_14 : decode cX5_firstWrong 14 = .ok (.iload 4, 2) := by decide +kernel
theorem dX5_firstWrong_16 : decode cX5_firstWrong 16 = .ok (.iload_n 3, 1) := by decide +kernel
theorem dX5_firstWrong_17 : decode cX5_firstWrong 17 = .ok (.if_icmp .ge 41, 3) := by decide +kernel
theorem dX5_firstWrong_20 : decode cX5_firstWrong 20 = .ok (.aload_n 0, 1) := by decide +kernel
theorem dX5_firstWrong_21 : decode cX5_firstWrong 21 = .ok (.aload_n 1, 1) := by decide +kernel
theorem dX5_firstWrong_22 : decode cX5_firstWrong 22 = .ok (.iload_n 2, 1) := by decide +kernel
theorem dX5_firstWrong_23 : decode cX5_firstWrong 23 = .ok (.iconst 2, 1) := by decide +kernel
theorem dX5_firstWrong_24 : decode cX5_firstWrong 24 = .ok (.iload 4, 2) := by decide +kernel
theorem dX5_firstWrong_26 : decode cX5_firstWrong 26 = .ok (.imul, 1) := by decide +kernel
theorem dX5_firstWrong_27 : decode cX5_firstWrong 27 = .ok (.iadd, 1) := by decide +kernel
theorem dX5_firstWrong_28 : decode cX5_firstWrong 28 = .ok (.invokevirtual 132, 3) := by decide +kernel
theorem dX5_firstWrong_31 : decode cX5_firstWrong 31 = .ok (.aload_n 1, 1) := by decide +kernel
theorem dX5_firstWrong_32 : decode cX5_firstWrong 32 = .ok (.iload_n 2, 1) := by decide +kernel
theorem dX5_firstWrong_33 : decode cX5_firstWrong 33 = .ok (.iconst 2, 1) := by decide +kernel
theorem dX5_firstWrong_34 : decode cX5_firstWrong 34 = .ok (.iload 4, 2) := by decide +kernel
theorem dX5_firstWrong_36 : decode cX5_firstWrong 36 = .ok (.imul, 1) := by decide +kernel
theorem dX5_firstWrong_37 : decode cX5_firstWrong 37 = .ok (.iadd, 1) := by decide +kernel
theorem dX5_firstWrong_38 : decode cX5_firstWrong 38 = .ok (.iconst 1, 1) := by decide +kernel
theorem dX5_firstWrong_39 : decode cX5_firstWrong 39 = .ok (.iadd, 1) := by decide +kernel
theorem dX5_firstWrong_40 : decode cX5_firstWrong 40 = .ok (.invokevirtual 132, 3) := by decide +kernel
theorem dX5_firstWrong_43 : decode cX5_firstWrong 43 = .ok (.invokevirtual 142, 3) := by decide +kernel
theorem dX5_firstWrong_46 : decode cX5_firstWrong 46 = .ok (.ifCond .ne 6, 3) := by decide +kernel
theorem dX5_firstWrong_49 : decode cX5_firstWrong 49 = .ok (.iload 4, 2) := by decide +kernel
theorem dX5_firstWrong_51 : decode cX5_firstWrong 51 = .ok (.ireturn, 1) := by decide +kernel
theorem dX5_firstWrong_52 : decode cX5_firstWrong 52 = .ok (.iinc 4 1, 3) := by decide +kernel
theorem dX5_firstWrong_55 : decode cX5_firstWrong 55 = .ok (.goto (-41), 3) := by decide +kernel
theorem dX5_firstWrong_58 : decode cX5_firstWrong 58 = .ok (.bipush (-9), 2) := by decide +kernel
theorem dX5_firstWrong_60 : decode cX5_firstWrong 60 = .ok (.ireturn, 1) := by decide +kernel
theorem dX5_tried_0 : decode cX5_tried 0 = .ok (.iload_n 2, 1) := by decide +kernel
theorem dX5_tried_1 : decode cX5_tried 1 = .ok (.bipush 10, 2) := by decide +kernel
theorem dX5_tried_3 : decode cX5_tried 3 = .ok (.if_icmp .lt 33, 3) := by decide +kernel
theorem dX5_tried_6 : decode cX5_tried 6 = .ok (.iload_n 2, 1) := by decide +kernel
theorem dX5_tried_7 : decode cX5_tried 7 = .ok (.bipush 10, 2) := by decide +kernel
theorem dX5_tried_9 : decode cX5_tried 9 = .ok (.isub, 1) := by decide +kernel
theorem dX5_tried_10 : decode cX5_tried 10 = .ok (.istore_n 3, 1) := by decide +kernel
theorem dX5_tried_11 : decode cX5_tried 11 = .ok (.aload_n 0, 1) := by decide +kernel
theorem dX5_tried_12 : decode cX5_tried 12 = .ok (.getfield 18, 3) := by decide +kernel
theorem dX5_tried_15 : decode cX5_tried 15 = .ok (.iload_n 3, 1) := by decide +kernel
theorem dX5_tried_16 : decode cX5_tried 16 = .ok (.invokevirtual 83, 3) := by decide +kernel
theorem dX5_tried_19 : decode cX5_tried 19 = .ok (.ifCond .ne 5, 3) := by decide +kernel
theorem dX5_tried_22 : decode cX5_tried 22 = .ok (.iconst 0, 1) := by decide +kernel
theorem dX5_tried_23 : decode cX5_tried 23 = .ok (.ireturn, 1) := by decide +kernel
theorem dX5_tried_24 : decode cX5_tried 24 = .ok (.aload_n 0, 1) := by decide +kernel
theorem dX5_tried_25 : decode cX5_tried 25 = .ok (.getfield 18, 3) := by decide +kernel
theorem dX5_tried_28 : decode cX5_tried 28 = .ok (.getfield 90, 3) := by decide +kernel
theorem dX5_tried_31 : decode cX5_tried 31 = .ok (.iload_n 3, 1) := by decide +kernel
theorem dX5_tried_32 : decode cX5_tried 32 = .ok (.iload_n 1, 1) := by decide +kernel
theorem dX5_tried_33 : decode cX5_tried 33 = .ok (.iastore, 1) := by decide +kernel
theorem dX5_tried_34 : decode cX5_tried 34 = .ok (.iconst 1, 1) := by decide +kernel
theorem dX5_tried_35 : decode cX5_tried 35 = .ok (.ireturn, 1) := by decide +kernel
theorem dX5_tried_36 : decode cX5_tried 36 = .ok (.aload_n 0, 1) := by decide +kernel
theorem dX5_tried_37 : decode cX5_tried 37 = .ok (.getfield 18, 3) := by decide +kernel
theorem dX5_tried_40 : decode cX5_tried 40 = .ok (.iload_n 1, 1) := by decide +kernel
theorem dX5_tried_41 : decode cX5_tried 41 = .ok (.invokevirtual 83, 3) := by decide +kernel
theorem dX5_tried_44 : decode cX5_tried 44 = .ok (.ifCond .eq 30, 3) := by decide +kernel
theorem dX5_tried_47 : decode cX5_tried 47 = .ok (.aload_n 0, 1) := by decide +kernel
theorem dX5_tried_48 : decode cX5_tried 48 = .ok (.getfield 18, 3) := by decide +kernel
theorem dX5_tried_51 : decode cX5_tried 51 = .ok (.iload_n 2, 1) := by decide +kernel
theorem dX5_tried_52 : decode cX5_tried 52 = .ok (.invokevirtual 83, 3) := by decide +kernel
theorem dX5_tried_55 : decode cX5_tried 55 = .ok (.ifCond .eq 19, 3) := by decide +kernel
theorem dX5_tried_58 : decode cX5_tried 58 = .ok (.iload_n 1, 1) := by decide +kernel
theorem dX5_tried_59 : decode cX5_tried 59 = .ok (.iload_n 2, 1) := by decide +kernel
theorem dX5_tried_60 : decode cX5_tried 60 = .ok (.if_icmp .eq 14, 3) := by decide +kernel
theorem dX5_tried_63 : decode cX5_tried 63 = .ok (.aload_n 0, 1) := by decide +kernel
theorem dX5_tried_64 : decode cX5_tried 64 = .ok (.getfield 18, 3) := by decide +kernel
theorem dX5_tried_67 : decode cX5_tried 67 = .ok (.iload_n 1, 1) := by decide +kernel
theorem dX5_tried_68 : decode cX5_tried 68 = .ok (.invokevirtual 113, 3) := by decide +kernel
theorem dX5_tried_71 : decode cX5_tried 71 = .ok (.ifCond .ne 5, 3) := by decide +kernel
theorem dX5_tried_74 : decode cX5_tried 74 = .ok (.iconst 0, 1) := by decide +kernel
theorem dX5_tried_75 : decode cX5_tried 75 = .ok (.ireturn, 1) := by decide +kernel
theorem dX5_tried_76 : decode cX5_tried 76 = .ok (.aload_n 0, 1) := by decide +kernel
theorem dX5_tried_77 : decode cX5_tried 77 = .ok (.getfield 18, 3) := by decide +kernel
theorem dX5_tried_80 : decode cX5_tried 80 = .ok (.iload_n 1, 1) := by decide +kernel
theorem dX5_tried_81 : decode cX5_tried 81 = .ok (.iload_n 2, 1) := by decide +kernel
theorem dX5_tried_82 : decode cX5_tried 82 = .ok (.invokevirtual 116, 3) := by decide +kernel
theorem dX5_tried_85 : decode cX5_tried 85 = .ok (.pop, 1) := by decide +kernel
theorem dX5_tried_86 : decode cX5_tried 86 = .ok (.iconst 1, 1) := by decide +kernel
theorem dX5_tried_87 : decode cX5_tried 87 = .ok (.ireturn, 1) := by decide +kernel
theorem dX5_ofTrial_0 : decode cX5_ofTrial 0 = .ok (.iload_n 1, 1) := by decide +kernel
theorem dX5_ofTrial_1 : decode cX5_ofTrial 1 = .ok (.tableswitch 67 0 4 #[35, 67, 43, 51, 59], 35) := by decide +kernel
theorem dX5_ofTrial_36 : decode cX5_ofTrial 36 = .ok (.aload_n 0, 1) := by decide +kernel
theorem dX5_ofTrial_37 : decode cX5_ofTrial 37 = .ok (.getfield 18, 3) := by decide +kernel
theorem dX5_ofTrial_40 : decode cX5_ofTrial 40 = .ok (.invokevirtual 145, 3) := by decide +kernel
theorem dX5_ofTrial_43 : decode cX5_ofTrial 43 = .ok (.ireturn, 1) := by decide +kernel
theorem dX5_ofTrial_44 : decode cX5_ofTrial 44 = .ok (.aload_n 0, 1) := by decide +kernel
theorem dX5_ofTrial_45 : decode cX5_ofTrial 45 = .ok (.getfield 18, 3) := by decide +kernel
theorem dX5_ofTrial_48 : decode cX5_ofTrial 48 = .ok (.invokevirtual 149, 3) := by decide +kernel
theorem dX5_ofTrial_51 : decode cX5_ofTrial 51 = .ok (.ireturn, 1) := by decide +kernel
theorem dX5_ofTrial_52 : decode cX5_ofTrial 52 = .ok (.aload_n 0, 1) := by decide +kernel
theorem dX5_ofTrial_53 : decode cX5_ofTrial 53 = .ok (.getfield 18, 3) := by decide +kernel
theorem dX5_ofTrial_56 : decode cX5_ofTrial 56 = .ok (.invokevirtual 152, 3) := by decide +kernel
theorem dX5_ofTrial_59 : decode cX5_ofTrial 59 = .ok (.ireturn, 1) := by decide +kernel
theorem dX5_ofTrial_60 : decode cX5_ofTrial 60 = .ok (.aload_n 0, 1) := by decide +kernel
theorem dX5_ofTrial_61 : decode cX5_ofTrial 61 = .ok (.getfield 18, 3) := by decide +kernel
theorem dX5_ofTrial_64 : decode cX5_ofTrial 64 = .ok (.invokevirtual 155, 3) := by decide +kernel
theorem dX5_ofTrial_67 : decode cX5_ofTrial 67 = .ok (.ireturn, 1) := by decide +kernel
theorem dX5_ofTrial_68 : decode cX5_ofTrial 68 = .ok (.aload_n 0, 1) := by decide +kernel
theorem dX5_ofTrial_69 : decode cX5_ofTrial 69 = .ok (.getfield 18, 3) := by decide +kernel
theorem dX5_ofTrial_72 : decode cX5_ofTrial 72 = .ok (.iload_n 1, 1) := by decide +kernel
theorem dX5_ofTrial_73 : decode cX5_ofTrial 73 = .ok (.bipush 10, 2) := by decide +kernel
theorem dX5_ofTrial_75 : decode cX5_ofTrial 75 = .ok (.isub, 1) := by decide +kernel
theorem dX5_ofTrial_76 : decode cX5_ofTrial 76 = .ok (.invokevirtual 83, 3) := by decide +kernel
theorem dX5_ofTrial_79 : decode cX5_ofTrial 79 = .ok (.ifCond .eq 18, 3) := by decide +kernel
theorem dX5_ofTrial_82 : decode cX5_ofTrial 82 = .ok (.aload_n 0, 1) := by decide +kernel
theorem dX5_ofTrial_83 : decode cX5_ofTrial 83 = .ok (.getfield 18, 3) := by decide +kernel
theorem dX5_ofTrial_86 : decode cX5_ofTrial 86 = .ok (.getfield 96, 3) := by decide +kernel
theorem dX5_ofTrial_89 : decode cX5_ofTrial 89 = .ok (.iload_n 1, 1) := by decide +kernel
theorem dX5_ofTrial_90 : decode cX5_ofTrial 90 = .ok (.bipush 10, 2) := by decide +kernel
theorem dX5_ofTrial_92 : decode cX5_ofTrial 92 = .ok (.isub, 1) := by decide +kernel
theorem dX5_ofTrial_93 : decode cX5_ofTrial 93 = .ok (.iaload, 1) := by decide +kernel
theorem dX5_ofTrial_94 : decode cX5_ofTrial 94 = .ok (.goto 5, 3) := by decide +kernel
theorem dX5_ofTrial_97 : decode cX5_ofTrial 97 = .ok (.bipush (-9), 2) := by decide +kernel
theorem dX5_ofTrial_99 : decode cX5_ofTrial 99 = .ok (.ireturn, 1) := by decide +kernel
theorem dX5_far_0 : decode cX5_far 0 = .ok (.aload_n 0, 1) := by decide +kernel
theorem dX5_far_1 : decode cX5_far 1 = .ok (.getfield 14, 3) := by decide +kernel
theorem dX5_far_4 : decode cX5_far 4 = .ok (.iload_n 1, 1) := by decide +kernel
theorem dX5_far_5 : decode cX5_far 5 = .ok (.invokevirtual 83, 3) := by decide +kernel
theorem dX5_far_8 : decode cX5_far 8 = .ok (.ifCond .eq 28, 3) := by decide +kernel
theorem dX5_far_11 : decode cX5_far 11 = .ok (.aload_n 0, 1) := by decide +kernel
theorem dX5_far_12 : decode cX5_far 12 = .ok (.getfield 14, 3) := by decide +kernel
theorem dX5_far_15 : decode cX5_far 15 = .ok (.iload_n 2, 1) := by decide +kernel
theorem dX5_far_16 : decode cX5_far 16 = .ok (.invokevirtual 83, 3) := by decide +kernel
theorem dX5_far_19 : decode cX5_far 19 = .ok (.ifCond .eq 17, 3) := by decide +kernel
theorem dX5_far_22 : decode cX5_far 22 = .ok (.aload_n 0, 1) := by decide +kernel
theorem dX5_far_23 : decode cX5_far 23 = .ok (.getfield 14, 3) := by decide +kernel
theorem dX5_far_26 : decode cX5_far 26 = .ok (.getfield 158, 3) := by decide +kernel
theorem dX5_far_29 : decode cX5_far 29 = .ok (.iload_n 1, 1) := by decide +kernel
theorem dX5_far_30 : decode cX5_far 30 = .ok (.aaload, 1) := by decide +kernel
theorem dX5_far_31 : decode cX5_far 31 = .ok (.iload_n 2, 1) := by decide +kernel
theorem dX5_far_32 : decode cX5_far 32 = .ok (.iaload, 1) := by decide +kernel
theorem dX5_far_33 : decode cX5_far 33 = .ok (.goto 4, 3) := by decide +kernel
theorem dX5_far_36 : decode cX5_far 36 = .ok (.iconst (-1), 1) := by decide +kernel
theorem dX5_far_37 : decode cX5_far 37 = .ok (.ireturn, 1) := by decide +kernel
theorem dX5_way_0 : decode cX5_way 0 = .ok (.aload_n 0, 1) := by decide +kernel
theorem dX5_way_1 : decode cX5_way 1 = .ok (.getfield 14, 3) := by decide +kernel
theorem dX5_way_4 : decode cX5_way 4 = .ok (.iload_n 1, 1) := by decide +kernel
theorem dX5_way_5 : decode cX5_way 5 = .ok (.invokevirtual 83, 3) := by decide +kernel
theorem dX5_way_8 : decode cX5_way 8 = .ok (.ifCond .eq 14, 3) := by decide +kernel
theorem dX5_way_11 : decode cX5_way 11 = .ok (.aload_n 0, 1) := by decide +kernel
theorem dX5_way_12 : decode cX5_way 12 = .ok (.getfield 14, 3) := by decide +kernel
theorem dX5_way_15 : decode cX5_way 15 = .ok (.iload_n 2, 1) := by decide +kernel
theorem dX5_way_16 : decode cX5_way 16 = .ok (.invokevirtual 83, 3) := by decide +kernel
theorem dX5_way_19 : decode cX5_way 19 = .ok (.ifCond .ne 5, 3) := by decide +kernel
theorem dX5_way_22 : decode cX5_way 22 = .ok (.iconst (-1), 1) := by decide +kernel
theorem dX5_way_23 : decode cX5_way 23 = .ok (.ireturn, 1) := by decide +kernel
theorem dX5_way_24 : decode cX5_way 24 = .ok (.iload_n 3, 1) := by decide +kernel
theorem dX5_way_25 : decode cX5_way 25 = .ok (.ifCond .lt 9, 3) := by decide +kernel
theorem dX5_way_28 : decode cX5_way 28 = .ok (.iload_n 3, 1) := by decide +kernel
theorem dX5_way_29 : decode cX5_way 29 = .ok (.bipush 8, 2) := by decide +kernel
theorem dX5_way_31 : decode cX5_way 31 = .ok (.if_icmp .lt 6, 3) := by decide +kernel
theorem dX5_way_34 : decode cX5_way 34 = .ok (.bipush (-2), 2) := by decide +kernel
theorem dX5_way_36 : decode cX5_way 36 = .ok (.ireturn, 1) := by decide +kernel
theorem dX5_way_37 : decode cX5_way 37 = .ok (.iconst 0, 1) := by decide +kernel
theorem dX5_way_38 : decode cX5_way 38 = .ok (.istore 4, 2) := by decide +kernel
theorem dX5_way_40 : decode cX5_way 40 = .ok (.iload 4, 2) := by decide +kernel
theorem dX5_way_42 : decode cX5_way 42 = .ok (.aload_n 0, 1) := by decide +kernel
theorem dX5_way_43 : decode cX5_way 43 = .ok (.getfield 14, 3) := by decide +kernel
theorem dX5_way_46 : decode cX5_way 46 = .ok (.getfield 80, 3) := by decide +kernel
theorem dX5_way_49 : decode cX5_way 49 = .ok (.if_icmp .ge 42, 3) := by decide +kernel
theorem dX5_way_52 : decode cX5_way 52 = .ok (.aload_n 0, 1) := by decide +kernel
theorem dX5_way_53 : decode cX5_way 53 = .ok (.getfield 14, 3) := by decide +kernel
theorem dX5_way_56 : decode cX5_way 56 = .ok (.getfield 158, 3) := by decide +kernel
theorem dX5_way_59 : decode cX5_way 59 = .ok (.iload_n 1, 1) := by decide +kernel
theorem dX5_way_60 : decode cX5_way 60 = .ok (.aaload, 1) := by decide +kernel
theorem dX5_way_61 : decode cX5_way 61 = .ok (.iload 4, 2) := by decide +kernel
theorem dX5_way_63 : decode cX5_way 63 = .ok (.iaload, 1) := by decide +kernel
theorem dX5_way_64 : decode cX5_way 64 = .ok (.iload_n 3, 1) := by decide +kernel
theorem dX5_way_65 : decode cX5_way 65 = .ok (.if_icmp .ne 20, 3) := by decide +kernel
theorem dX5_way_68 : decode cX5_way 68 = .ok (.aload_n 0, 1) := by decide +kernel
theorem dX5_way_69 : decode cX5_way 69 = .ok (.getfield 14, 3) := by decide +kernel
theorem dX5_way_72 : decode cX5_way 72 = .ok (.iload_n 1, 1) := by decide +kernel
theorem dX5_way_73 : decode cX5_way 73 = .ok (.iload_n 2, 1) := by decide +kernel
theorem dX5_way_74 : decode cX5_way 74 = .ok (.iload 4, 2) := by decide +kernel
theorem dX5_way_76 : decode cX5_way 76 = .ok (.invokevirtual 162, 3) := by decide +kernel
theorem dX5_way_79 : decode cX5_way 79 = .ok (.ifCond .eq 6, 3) := by decide +kernel
theorem dX5_way_82 : decode cX5_way 82 = .ok (.iload 4, 2) := by decide +kernel
theorem dX5_way_84 : decode cX5_way 84 = .ok (.ireturn, 1) := by decide +kernel
theorem dX5_way_85 : decode cX5_way 85 = .ok (.iinc 4 1, 3) := by decide +kernel
theorem dX5_way_88 : decode cX5_way 88 = .ok (.goto (-48), 3) := by decide +kernel
theorem dX5_way_91 : decode cX5_way 91 = .ok (.bipush (-9), 2) := by decide +kernel
theorem dX5_way_93 : decode cX5_way 93 = .ok (.ireturn, 1) := by decide +kernel
theorem dX5_middle_0 : decode cX5_middle 0 = .ok (.iload_n 1, 1) := by decide +kernel
theorem dX5_middle_1 : decode cX5_middle 1 = .ok (.ifCond .lt 8, 3) := by decide +kernel
theorem dX5_middle_4 : decode cX5_middle 4 = .ok (.iload_n 1, 1) := by decide +kernel
theorem dX5_middle_5 : decode cX5_middle 5 = .ok (.iconst 1, 1) := by decide +kernel
theorem dX5_middle_6 : decode cX5_middle 6 = .ok (.if_icmp .le 6, 3) := by decide +kernel
theorem dX5_middle_9 : decode cX5_middle 9 = .ok (.bipush (-2), 2) := by decide +kernel
theorem dX5_middle_11 : decode cX5_middle 11 = .ok (.ireturn, 1) := by decide +kernel
theorem dX5_middle_12 : decode cX5_middle 12 = .ok (.aload_n 0, 1) := by decide +kernel
theorem dX5_middle_13 : decode cX5_middle 13 = .ok (.getfield 14, 3) := by decide +kernel
theorem dX5_middle_16 : decode cX5_middle 16 = .ok (.getfield 80, 3) := by decide +kernel
theorem dX5_middle_19 : decode cX5_middle 19 = .ok (.ifCond .ne 6, 3) := by decide +kernel
theorem dX5_middle_22 : decode cX5_middle 22 = .ok (.bipush (-3), 2) := by decide +kernel
theorem dX5_middle_24 : decode cX5_middle 24 = .ok (.ireturn, 1) := by decide +kernel
theorem dX5_middle_25 : decode cX5_middle 25 = .ok (.iload_n 1, 1) := by decide +kernel
theorem dX5_middle_26 : decode cX5_middle 26 = .ok (.ifCond .ne 13, 3) := by decide +kernel
theorem dX5_middle_29 : decode cX5_middle 29 = .ok (.aload_n 0, 1) := by decide +kernel
theorem dX5_middle_30 : decode cX5_middle 30 = .ok (.getfield 14, 3) := by decide +kernel
theorem dX5_middle_33 : decode cX5_middle 33 = .ok (.invokevirtual 166, 3) := by decide +kernel
theorem dX5_middle_36 : decode cX5_middle 36 = .ok (.goto 10, 3) := by decide +kernel
theorem dX5_middle_39 : decode cX5_middle 39 = .ok (.aload_n 0, 1) := by decide +kernel
theorem dX5_middle_40 : decode cX5_middle 40 = .ok (.getfield 14, 3) := by decide +kernel
theorem dX5_middle_43 : decode cX5_middle 43 = .ok (.invokevirtual 145, 3) := by decide +kernel
theorem dX5_middle_46 : decode cX5_middle 46 = .ok (.ireturn, 1) := by decide +kernel
theorem dX5_number_0 : decode cX5_number 0 = .ok (.aload_n 0, 1) := by decide +kernel
theorem dX5_number_1 : decode cX5_number 1 = .ok (.getfield 14, 3) := by decide +kernel
theorem dX5_number_4 : decode cX5_number 4 = .ok (.getfield 80, 3) := by decide +kernel
theorem dX5_number_7 : decode cX5_number 7 = .ok (.ifCond .ne 8, 3) := by decide +kernel
theorem dX5_number_10 : decode cX5_number 10 = .ok (.bipush (-3), 2) := by decide +kernel
theorem dX5_number_12 : decode cX5_number 12 = .ok (.goto 10, 3) := by decide +kernel
theorem dX5_number_15 : decode cX5_number 15 = .ok (.aload_n 0, 1) := by decide +kernel
theorem dX5_number_16 : decode cX5_number 16 = .ok (.getfield 14, 3) := by decide +kernel
theorem dX5_number_19 : decode cX5_number 19 = .ok (.invokevirtual 149, 3) := by decide +kernel
theorem dX5_number_22 : decode cX5_number 22 = .ok (.ireturn, 1) := by decide +kernel
theorem dX5_alike_0 : decode cX5_alike 0 = .ok (.aload_n 0, 1) := by decide +kernel
theorem dX5_alike_1 : decode cX5_alike 1 = .ok (.getfield 14, 3) := by decide +kernel
theorem dX5_alike_4 : decode cX5_alike 4 = .ok (.getfield 80, 3) := by decide +kernel
theorem dX5_alike_7 : decode cX5_alike 7 = .ok (.ifCond .ne 8, 3) := by decide +kernel
theorem dX5_alike_10 : decode cX5_alike 10 = .ok (.bipush (-3), 2) := by decide +kernel
theorem dX5_alike_12 : decode cX5_alike 12 = .ok (.goto 14, 3) := by decide +kernel
theorem dX5_alike_15 : decode cX5_alike 15 = .ok (.aload_n 0, 1) := by decide +kernel
theorem dX5_alike_16 : decode cX5_alike 16 = .ok (.getfield 24, 3) := by decide +kernel
theorem dX5_alike_19 : decode cX5_alike 19 = .ok (.aload_n 0, 1) := by decide +kernel
theorem dX5_alike_20 : decode cX5_alike 20 = .ok (.getfield 14, 3) := by decide +kernel
theorem dX5_alike_23 : decode cX5_alike 23 = .ok (.invokevirtual 169, 3) := by decide +kernel
theorem dX5_alike_26 : decode cX5_alike 26 = .ok (.ireturn, 1) := by decide +kernel
theorem dX5_pairs_0 : decode cX5_pairs 0 = .ok (.aload_n 0, 1) := by decide +kernel
theorem dX5_pairs_1 : decode cX5_pairs 1 = .ok (.getfield 14, 3) := by decide +kernel
theorem dX5_pairs_4 : decode cX5_pairs 4 = .ok (.getfield 80, 3) := by decide +kernel
theorem dX5_pairs_7 : decode cX5_pairs 7 = .ok (.ifCond .ne 8, 3) := by decide +kernel
theorem dX5_pairs_10 : decode cX5_pairs 10 = .ok (.bipush (-3), 2) := by decide +kernel
theorem dX5_pairs_12 : decode cX5_pairs 12 = .ok (.goto 10, 3) := by decide +kernel
theorem dX5_pairs_15 : decode cX5_pairs 15 = .ok (.aload_n 0, 1) := by decide +kernel
theorem dX5_pairs_16 : decode cX5_pairs 16 = .ok (.getfield 14, 3) := by decide +kernel
theorem dX5_pairs_19 : decode cX5_pairs 19 = .ok (.invokevirtual 173, 3) := by decide +kernel
theorem dX5_pairs_22 : decode cX5_pairs 22 = .ok (.ireturn, 1) := by decide +kernel
theorem dX5_loners_0 : decode cX5_loners 0 = .ok (.iload_n 1, 1) := by decide +kernel
theorem dX5_loners_1 : decode cX5_loners 1 = .ok (.ifCond .lt 8, 3) := by decide +kernel
theorem dX5_loners_4 : decode cX5_loners 4 = .ok (.iload_n 1, 1) := by decide +kernel
theorem dX5_loners_5 : decode cX5_loners 5 = .ok (.iconst 1, 1) := by decide +kernel
theorem dX5_loners_6 : decode cX5_loners 6 = .ok (.if_icmp .le 6, 3) := by decide +kernel
theorem dX5_loners_9 : decode cX5_loners 9 = .ok (.bipush (-2), 2) := by decide +kernel
theorem dX5_loners_11 : decode cX5_loners 11 = .ok (.ireturn, 1) := by decide +kernel
theorem dX5_loners_12 : decode cX5_loners 12 = .ok (.aload_n 0, 1) := by decide +kernel
theorem dX5_loners_13 : decode cX5_loners 13 = .ok (.getfield 14, 3) := by decide +kernel
theorem dX5_loners_16 : decode cX5_loners 16 = .ok (.getfield 80, 3) := by decide +kernel
theorem dX5_loners_19 : decode cX5_loners 19 = .ok (.ifCond .ne 6, 3) := by decide +kernel
theorem dX5_loners_22 : decode cX5_loners 22 = .ok (.bipush (-3), 2) := by decide +kernel
theorem dX5_loners_24 : decode cX5_loners 24 = .ok (.ireturn, 1) := by decide +kernel
theorem dX5_loners_25 : decode cX5_loners 25 = .ok (.aload_n 0, 1) := by decide +kernel
theorem dX5_loners_26 : decode cX5_loners 26 = .ok (.getfield 14, 3) := by decide +kernel
theorem dX5_loners_29 : decode cX5_loners 29 = .ok (.invokevirtual 176, 3) := by decide +kernel
theorem dX5_loners_32 : decode cX5_loners 32 = .ok (.istore_n 2, 1) := by decide +kernel
theorem dX5_loners_33 : decode cX5_loners 33 = .ok (.iload_n 2, 1) := by decide +kernel
theorem dX5_loners_34 : decode cX5_loners 34 = .ok (.sipush 256, 3) := by decide +kernel
theorem dX5_loners_37 : decode cX5_loners 37 = .ok (.iadd, 1) := by decide +kernel
theorem dX5_loners_38 : decode cX5_loners 38 = .ok (.iconst 1, 1) := by decide +kernel
theorem dX5_loners_39 : decode cX5_loners 39 = .ok (.isub, 1) := by decide +kernel
theorem dX5_loners_40 : decode cX5_loners 40 = .ok (.sipush 256, 3) := by decide +kernel
theorem dX5_loners_43 : decode cX5_loners 43 = .ok (.idiv, 1) := by decide +kernel
theorem dX5_loners_44 : decode cX5_loners 44 = .ok (.istore_n 3, 1) := by decide +kernel
theorem dX5_loners_45 : decode cX5_loners 45 = .ok (.iload_n 1, 1) := by decide +kernel
theorem dX5_loners_46 : decode cX5_loners 46 = .ok (.ifCond .ne 7, 3) := by decide +kernel
theorem dX5_loners_49 : decode cX5_loners 49 = .ok (.iload_n 3, 1) := by decide +kernel
theorem dX5_loners_50 : decode cX5_loners 50 = .ok (.goto 10, 3) := by decide +kernel
theorem dX5_loners_53 : decode cX5_loners 53 = .ok (.iload_n 3, 1) := by decide +kernel
theorem dX5_loners_54 : decode cX5_loners 54 = .ok (.sipush 256, 3) := by decide +kernel
theorem dX5_loners_57 : decode cX5_loners 57 = .ok (.imul, 1) := by decide +kernel
theorem dX5_loners_58 : decode cX5_loners 58 = .ok (.iload_n 2, 1) := by decide +kernel
theorem dX5_loners_59 : decode cX5_loners 59 = .ok (.isub, 1) := by decide +kernel
theorem dX5_loners_60 : decode cX5_loners 60 = .ok (.ireturn, 1) := by decide +kernel
theorem dX5_part_0 : decode cX5_part 0 = .ok (.aload_n 0, 1) := by decide +kernel
theorem dX5_part_1 : decode cX5_part 1 = .ok (.getfield 14, 3) := by decide +kernel
theorem dX5_part_4 : decode cX5_part 4 = .ok (.iload_n 1, 1) := by decide +kernel
theorem dX5_part_5 : decode cX5_part 5 = .ok (.invokevirtual 83, 3) := by decide +kernel
theorem dX5_part_8 : decode cX5_part 8 = .ok (.ifCond .eq 19, 3) := by decide +kernel
theorem dX5_part_11 : decode cX5_part 11 = .ok (.aload_n 0, 1) := by decide +kernel
theorem dX5_part_12 : decode cX5_part 12 = .ok (.getfield 14, 3) := by decide +kernel
theorem dX5_part_15 : decode cX5_part 15 = .ok (.iload_n 2, 1) := by decide +kernel
theorem dX5_part_16 : decode cX5_part 16 = .ok (.invokevirtual 83, 3) := by decide +kernel
theorem dX5_part_19 : decode cX5_part 19 = .ok (.ifCond .eq 8, 3) := by decide +kernel
theorem dX5_part_22 : decode cX5_part 22 = .ok (.iload_n 1, 1) := by decide +kernel
theorem dX5_part_23 : decode cX5_part 23 = .ok (.iload_n 2, 1) := by decide +kernel
theorem dX5_part_24 : decode cX5_part 24 = .ok (.if_icmp .ne 5, 3) := by decide +kernel
theorem dX5_part_27 : decode cX5_part 27 = .ok (.iconst (-1), 1) := by decide +kernel
theorem dX5_part_28 : decode cX5_part 28 = .ok (.ireturn, 1) := by decide +kernel
theorem dX5_part_29 : decode cX5_part 29 = .ok (.aload_n 0, 1) := by decide +kernel
theorem dX5_part_30 : decode cX5_part 30 = .ok (.getfield 14, 3) := by decide +kernel
theorem dX5_part_33 : decode cX5_part 33 = .ok (.getfield 158, 3) := by decide +kernel
theorem dX5_part_36 : decode cX5_part 36 = .ok (.iload_n 1, 1) := by decide +kernel
theorem dX5_part_37 : decode cX5_part 37 = .ok (.aaload, 1) := by decide +kernel
theorem dX5_part_38 : decode cX5_part 38 = .ok (.iload_n 2, 1) := by decide +kernel
theorem dX5_part_39 : decode cX5_part 39 = .ok (.iaload, 1) := by decide +kernel
theorem dX5_part_40 : decode cX5_part 40 = .ok (.iconst 1, 1) := by decide +kernel
theorem dX5_part_41 : decode cX5_part 41 = .ok (.if_icmp .eq 6, 3) := by decide +kernel
theorem dX5_part_44 : decode cX5_part 44 = .ok (.bipush (-3), 2) := by decide +kernel
theorem dX5_part_46 : decode cX5_part 46 = .ok (.ireturn, 1) := by decide +kernel
theorem dX5_part_47 : decode cX5_part 47 = .ok (.iconst 0, 1) := by decide +kernel
theorem dX5_part_48 : decode cX5_part 48 = .ok (.istore_n 3, 1) := by decide +kernel
theorem dX5_part_49 : decode cX5_part 49 = .ok (.iconst 0, 1) := by decide +kernel
theorem dX5_part_50 : decode cX5_part 50 = .ok (.istore 4, 2) := by decide +kernel
theorem dX5_part_52 : decode cX5_part 52 = .ok (.iload 4, 2) := by decide +kernel
theorem dX5_part_54 : decode cX5_part 54 = .ok (.aload_n 0, 1) := by decide +kernel
theorem dX5_part_55 : decode cX5_part 55 = .ok (.getfield 14, 3) := by decide +kernel
theorem dX5_part_58 : decode cX5_part 58 = .ok (.getfield 80, 3) := by decide +kernel
theorem dX5_part_61 : decode cX5_part 61 = .ok (.if_icmp .ge 35, 3) := by decide +kernel
theorem dX5_part_64 : decode cX5_part 64 = .ok (.aload_n 0, 1) := by decide +kernel
theorem dX5_part_65 : decode cX5_part 65 = .ok (.getfield 14, 3) := by decide +kernel
theorem dX5_part_68 : decode cX5_part 68 = .ok (.iload 4, 2) := by decide +kernel
theorem dX5_part_70 : decode cX5_part 70 = .ok (.iload_n 2, 1) := by decide +kernel
theorem dX5_part_71 : decode cX5_part 71 = .ok (.iload_n 1, 1) := by decide +kernel
theorem dX5_part_72 : decode cX5_part 72 = .ok (.invokevirtual 162, 3) := by decide +kernel
theorem dX5_part_75 : decode cX5_part 75 = .ok (.ifCond .eq 15, 3) := by decide +kernel
theorem dX5_part_78 : decode cX5_part 78 = .ok (.iload_n 3, 1) := by decide +kernel
theorem dX5_part_79 : decode cX5_part 79 = .ok (.aload_n 0, 1) := by decide +kernel
theorem dX5_part_80 : decode cX5_part 80 = .ok (.getfield 14, 3) := by decide +kernel
theorem dX5_part_83 : decode cX5_part 83 = .ok (.iload 4, 2) := by decide +kernel
theorem dX5_part_85 : decode cX5_part 85 = .ok (.invokevirtual 93, 3) := by decide +kernel
theorem dX5_part_88 : decode cX5_part 88 = .ok (.iadd, 1) := by decide +kernel
theorem dX5_part_89 : decode cX5_part 89 = .ok (.istore_n 3, 1) := by decide +kernel
theorem dX5_part_90 : decode cX5_part 90 = .ok (.iinc 4 1, 3) := by decide +kernel
theorem dX5_part_93 : decode cX5_part 93 = .ok (.goto (-41), 3) := by decide +kernel
theorem dX5_part_96 : decode cX5_part 96 = .ok (.iload_n 3, 1) := by decide +kernel
theorem dX5_part_97 : decode cX5_part 97 = .ok (.ireturn, 1) := by decide +kernel
theorem dX5_reading_0 : decode cX5_reading 0 = .ok (.aload_n 0, 1) := by decide +kernel
theorem dX5_reading_1 : decode cX5_reading 1 = .ok (.getfield 14, 3) := by decide +kernel
theorem dX5_reading_4 : decode cX5_reading 4 = .ok (.iload_n 1, 1) := by decide +kernel
theorem dX5_reading_5 : decode cX5_reading 5 = .ok (.invokevirtual 83, 3) := by decide +kernel
theorem dX5_reading_8 : decode cX5_reading 8 = .ok (.ifCond .eq 14, 3) := by decide +kernel
theorem dX5_reading_11 : decode cX5_reading 11 = .ok (.aload_n 0, 1) := by decide +kernel
theorem dX5_reading_12 : decode cX5_reading 12 = .ok (.getfield 14, 3) := by decide +kernel
theorem dX5_reading_15 : decode cX5_reading 15 = .ok (.iload_n 2, 1) := by decide +kernel
theorem dX5_reading_16 : decode cX5_reading 16 = .ok (.invokevirtual 83, 3) := by decide +kernel
theorem dX5_reading_19 : decode cX5_reading 19 = .ok (.ifCond .ne 5, 3) := by decide +kernel
theorem dX5_reading_22 : decode cX5_reading 22 = .ok (.iconst (-1), 1) := by decide +kernel
theorem dX5_reading_23 : decode cX5_reading 23 = .ok (.ireturn, 1) := by decide +kernel
theorem dX5_reading_24 : decode cX5_reading 24 = .ok (.iload_n 3, 1) := by decide +kernel
theorem dX5_reading_25 : decode cX5_reading 25 = .ok (.ifCond .lt 10, 3) := by decide +kernel
theorem dX5_reading_28 : decode cX5_reading 28 = .ok (.iload_n 3, 1) := by decide +kernel
theorem dX5_reading_29 : decode cX5_reading 29 = .ok (.sipush 200, 3) := by decide +kernel
theorem dX5_reading_32 : decode cX5_reading 32 = .ok (.if_icmp .le 6, 3) := by decide +kernel
theorem dX5_reading_35 : decode cX5_reading 35 = .ok (.bipush (-2), 2) := by decide +kernel
theorem dX5_reading_37 : decode cX5_reading 37 = .ok (.ireturn, 1) := by decide +kernel
theorem dX5_reading_38 : decode cX5_reading 38 = .ok (.aload_n 0, 1) := by decide +kernel
theorem dX5_reading_39 : decode cX5_reading 39 = .ok (.getfield 31, 3) := by decide +kernel
theorem dX5_reading_42 : decode cX5_reading 42 = .ok (.getfield 77, 3) := by decide +kernel
theorem dX5_reading_45 : decode cX5_reading 45 = .ok (.bipush 8, 2) := by decide +kernel
theorem dX5_reading_47 : decode cX5_reading 47 = .ok (.if_icmp .lt 6, 3) := by decide +kernel
theorem dX5_reading_50 : decode cX5_reading 50 = .ok (.bipush (-4), 2) := by decide +kernel
theorem dX5_reading_52 : decode cX5_reading 52 = .ok (.ireturn, 1) := by decide +kernel
theorem dX5_reading_53 : decode cX5_reading 53 = .ok (.aload_n 0, 1) := by decide +kernel
theorem dX5_reading_54 : decode cX5_reading 54 = .ok (.getfield 31, 3) := by decide +kernel
theorem dX5_reading_57 : decode cX5_reading 57 = .ok (.iload_n 1, 1) := by decide +kernel
theorem dX5_reading_58 : decode cX5_reading 58 = .ok (.iload_n 2, 1) := by decide +kernel
theorem dX5_reading_59 : decode cX5_reading 59 = .ok (.iload_n 3, 1) := by decide +kernel
theorem dX5_reading_60 : decode cX5_reading 60 = .ok (.invokevirtual 179, 3) := by decide +kernel
theorem dX5_reading_63 : decode cX5_reading 63 = .ok (.ireturn, 1) := by decide +kernel
theorem dX5_back_0 : decode cX5_back 0 = .ok (.iload_n 1, 1) := by decide +kernel
theorem dX5_back_1 : decode cX5_back 1 = .ok (.ifCond .lt 14, 3) := by decide +kernel
theorem dX5_back_4 : decode cX5_back 4 = .ok (.iload_n 1, 1) := by decide +kernel
theorem dX5_back_5 : decode cX5_back 5 = .ok (.aload_n 0, 1) := by decide +kernel
theorem dX5_back_6 : decode cX5_back 6 = .ok (.getfield 31, 3) := by decide +kernel
theorem dX5_back_9 : decode cX5_back 9 = .ok (.getfield 77, 3) := by decide +kernel
theorem dX5_back_12 : decode cX5_back 12 = .ok (.if_icmp .le 6, 3) := by decide +kernel
theorem dX5_back_15 : decode cX5_back 15 = .ok (.bipush (-2), 2) := by decide +kernel
theorem dX5_back_17 : decode cX5_back 17 = .ok (.ireturn, 1) := by decide +kernel
theorem dX5_back_18 : decode cX5_back 18 = .ok (.aload_n 0, 1) := by decide +kernel
theorem dX5_back_19 : decode cX5_back 19 = .ok (.getfield 31, 3) := by decide +kernel
theorem dX5_back_22 : decode cX5_back 22 = .ok (.dup, 1) := by decide +kernel
theorem dX5_back_23 : decode cX5_back 23 = .ok (.getfield 77, 3) := by decide +kernel
theorem dX5_back_26 : decode cX5_back 26 = .ok (.iload_n 1, 1) := by decide +kernel
theorem dX5_back_27 : decode cX5_back 27 = .ok (.isub, 1) := by decide +kernel
theorem dX5_back_28 : decode cX5_back 28 = .ok (.putfield 77, 3) := by decide +kernel
theorem dX5_back_31 : decode cX5_back 31 = .ok (.aload_n 0, 1) := by decide +kernel
theorem dX5_back_32 : decode cX5_back 32 = .ok (.getfield 31, 3) := by decide +kernel
theorem dX5_back_35 : decode cX5_back 35 = .ok (.getfield 77, 3) := by decide +kernel
theorem dX5_back_38 : decode cX5_back 38 = .ok (.ireturn, 1) := by decide +kernel
theorem dX5_loadings_0 : decode cX5_loadings 0 = .ok (.aload_n 0, 1) := by decide +kernel
theorem dX5_loadings_1 : decode cX5_loadings 1 = .ok (.getfield 14, 3) := by decide +kernel
end
section
theorem dX5_loadings_4 : decode cX5_loadings 4 = .ok (.iload_n 1, 1) := by decide +kernel
theorem dX5_loadings_5 : decode cX5_loadings 5 = .ok (.invokevirtual 83, 3) := by decide +kernel
theorem dX5_loadings_8 : decode cX5_loadings 8 = .ok (.ifCond .ne 5, 3) := by decide +kernel
theorem dX5_loadings_11 : decode cX5_loadings 11 = .ok (.iconst (-1), 1) := by decide +kernel
theorem dX5_loadings_12 : decode cX5_loadings 12 = .ok (.ireturn, 1) := by decide +kernel
theorem dX5_loadings_13 : decode cX5_loadings 13 = .ok (.aload_n 0, 1) := by decide +kernel
theorem dX5_loadings_14 : decode cX5_loadings 14 = .ok (.getfield 31, 3) := by decide +kernel
theorem dX5_loadings_17 : decode cX5_loadings 17 = .ok (.aload_n 0, 1) := by decide +kernel
theorem dX5_loadings_18 : decode cX5_loadings 18 = .ok (.getfield 14, 3) := by decide +kernel
theorem dX5_loadings_21 : decode cX5_loadings 21 = .ok (.iload_n 1, 1) := by decide +kernel
theorem dX5_loadings_22 : decode cX5_loadings 22 = .ok (.invokevirtual 183, 3) := by decide +kernel
theorem dX5_loadings_25 : decode cX5_loadings 25 = .ok (.istore_n 2, 1) := by decide +kernel
theorem dX5_loadings_26 : decode cX5_loadings 26 = .ok (.iconst 0, 1) := by decide +kernel
theorem dX5_loadings_27 : decode cX5_loadings 27 = .ok (.istore_n 3, 1) := by decide +kernel
theorem dX5_loadings_28 : decode cX5_loadings 28 = .ok (.iconst 0, 1) := by decide +kernel
theorem dX5_loadings_29 : decode cX5_loadings 29 = .ok (.istore 4, 2) := by decide +kernel
theorem dX5_loadings_31 : decode cX5_loadings 31 = .ok (.iload 4, 2) := by decide +kernel
theorem dX5_loadings_33 : decode cX5_loadings 33 = .ok (.bipush 9, 2) := by decide +kernel
theorem dX5_loadings_35 : decode cX5_loadings 35 = .ok (.if_icmp .gt 39, 3) := by decide +kernel
theorem dX5_loadings_38 : decode cX5_loadings 38 = .ok (.iload_n 2, 1) := by decide +kernel
theorem dX5_loadings_39 : decode cX5_loadings 39 = .ok (.iconst (-1), 1) := by decide +kernel
theorem dX5_loadings_40 : decode cX5_loadings 40 = .ok (.if_icmp .eq 21, 3) := by decide +kernel
theorem dX5_loadings_43 : decode cX5_loadings 43 = .ok (.iload_n 2, 1) := by decide +kernel
theorem dX5_loadings_44 : decode cX5_loadings 44 = .ok (.aload_n 0, 1) := by decide +kernel
theorem dX5_loadings_45 : decode cX5_loadings 45 = .ok (.getfield 14, 3) := by decide +kernel
theorem dX5_loadings_48 : decode cX5_loadings 48 = .ok (.getfield 86, 3) := by decide +kernel
theorem dX5_loadings_51 : decode cX5_loadings 51 = .ok (.iload_n 1, 1) := by decide +kernel
theorem dX5_loadings_52 : decode cX5_loadings 52 = .ok (.iaload, 1) := by decide +kernel
theorem dX5_loadings_53 : decode cX5_loadings 53 = .ok (.iload 4, 2) := by decide +kernel
theorem dX5_loadings_55 : decode cX5_loadings 55 = .ok (.invokestatic 187, 3) := by decide +kernel
theorem dX5_loadings_58 : decode cX5_loadings 58 = .ok (.if_icmp .ne 10, 3) := by decide +kernel
theorem dX5_loadings_61 : decode cX5_loadings 61 = .ok (.iload_n 3, 1) := by decide +kernel
theorem dX5_loadings_62 : decode cX5_loadings 62 = .ok (.iconst 1, 1) := by decide +kernel
theorem dX5_loadings_63 : decode cX5_loadings 63 = .ok (.iload 4, 2) := by decide +kernel
theorem dX5_loadings_65 : decode cX5_loadings 65 = .ok (.ishl, 1) := by decide +kernel
theorem dX5_loadings_66 : decode cX5_loadings 66 = .ok (.ior, 1) := by decide +kernel
theorem dX5_loadings_67 : decode cX5_loadings 67 = .ok (.istore_n 3, 1) := by decide +kernel
theorem dX5_loadings_68 : decode cX5_loadings 68 = .ok (.iinc 4 1, 3) := by decide +kernel
theorem dX5_loadings_71 : decode cX5_loadings 71 = .ok (.goto (-40), 3) := by decide +kernel
theorem dX5_loadings_74 : decode cX5_loadings 74 = .ok (.iload_n 3, 1) := by decide +kernel
theorem dX5_loadings_75 : decode cX5_loadings 75 = .ok (.ireturn, 1) := by decide +kernel
theorem dX5_kinds_0 : decode cX5_kinds 0 = .ok (.aload_n 0, 1) := by decide +kernel
theorem dX5_kinds_1 : decode cX5_kinds 1 = .ok (.getfield 14, 3) := by decide +kernel
theorem dX5_kinds_4 : decode cX5_kinds 4 = .ok (.iload_n 1, 1) := by decide +kernel
theorem dX5_kinds_5 : decode cX5_kinds 5 = .ok (.invokevirtual 83, 3) := by decide +kernel
theorem dX5_kinds_8 : decode cX5_kinds 8 = .ok (.ifCond .ne 5, 3) := by decide +kernel
theorem dX5_kinds_11 : decode cX5_kinds 11 = .ok (.iconst (-1), 1) := by decide +kernel
theorem dX5_kinds_12 : decode cX5_kinds 12 = .ok (.ireturn, 1) := by decide +kernel
theorem dX5_kinds_13 : decode cX5_kinds 13 = .ok (.aload_n 0, 1) := by decide +kernel
theorem dX5_kinds_14 : decode cX5_kinds 14 = .ok (.getfield 31, 3) := by decide +kernel
theorem dX5_kinds_17 : decode cX5_kinds 17 = .ok (.aload_n 0, 1) := by decide +kernel
theorem dX5_kinds_18 : decode cX5_kinds 18 = .ok (.getfield 14, 3) := by decide +kernel
theorem dX5_kinds_21 : decode cX5_kinds 21 = .ok (.iload_n 1, 1) := by decide +kernel
theorem dX5_kinds_22 : decode cX5_kinds 22 = .ok (.invokevirtual 183, 3) := by decide +kernel
theorem dX5_kinds_25 : decode cX5_kinds 25 = .ok (.istore_n 2, 1) := by decide +kernel
theorem dX5_kinds_26 : decode cX5_kinds 26 = .ok (.iconst 0, 1) := by decide +kernel
theorem dX5_kinds_27 : decode cX5_kinds 27 = .ok (.istore_n 3, 1) := by decide +kernel
theorem dX5_kinds_28 : decode cX5_kinds 28 = .ok (.iconst 0, 1) := by decide +kernel
theorem dX5_kinds_29 : decode cX5_kinds 29 = .ok (.istore 4, 2) := by decide +kernel
theorem dX5_kinds_31 : decode cX5_kinds 31 = .ok (.iload 4, 2) := by decide +kernel
theorem dX5_kinds_33 : decode cX5_kinds 33 = .ok (.iconst 2, 1) := by decide +kernel
theorem dX5_kinds_34 : decode cX5_kinds 34 = .ok (.if_icmp .gt 39, 3) := by decide +kernel
theorem dX5_kinds_37 : decode cX5_kinds 37 = .ok (.iload_n 2, 1) := by decide +kernel
theorem dX5_kinds_38 : decode cX5_kinds 38 = .ok (.iconst (-1), 1) := by decide +kernel
theorem dX5_kinds_39 : decode cX5_kinds 39 = .ok (.if_icmp .eq 21, 3) := by decide +kernel
theorem dX5_kinds_42 : decode cX5_kinds 42 = .ok (.iload_n 2, 1) := by decide +kernel
theorem dX5_kinds_43 : decode cX5_kinds 43 = .ok (.iload 4, 2) := by decide +kernel
theorem dX5_kinds_45 : decode cX5_kinds 45 = .ok (.aload_n 0, 1) := by decide +kernel
theorem dX5_kinds_46 : decode cX5_kinds 46 = .ok (.getfield 14, 3) := by decide +kernel
theorem dX5_kinds_49 : decode cX5_kinds 49 = .ok (.getfield 90, 3) := by decide +kernel
theorem dX5_kinds_52 : decode cX5_kinds 52 = .ok (.iload_n 1, 1) := by decide +kernel
theorem dX5_kinds_53 : decode cX5_kinds 53 = .ok (.iaload, 1) := by decide +kernel
theorem dX5_kinds_54 : decode cX5_kinds 54 = .ok (.invokestatic 187, 3) := by decide +kernel
theorem dX5_kinds_57 : decode cX5_kinds 57 = .ok (.if_icmp .ne 10, 3) := by decide +kernel
theorem dX5_kinds_60 : decode cX5_kinds 60 = .ok (.iload_n 3, 1) := by decide +kernel
theorem dX5_kinds_61 : decode cX5_kinds 61 = .ok (.iconst 1, 1) := by decide +kernel
theorem dX5_kinds_62 : decode cX5_kinds 62 = .ok (.iload 4, 2) := by decide +kernel
theorem dX5_kinds_64 : decode cX5_kinds 64 = .ok (.ishl, 1) := by decide +kernel
theorem dX5_kinds_65 : decode cX5_kinds 65 = .ok (.ior, 1) := by decide +kernel
theorem dX5_kinds_66 : decode cX5_kinds 66 = .ok (.istore_n 3, 1) := by decide +kernel
theorem dX5_kinds_67 : decode cX5_kinds 67 = .ok (.iinc 4 1, 3) := by decide +kernel
theorem dX5_kinds_70 : decode cX5_kinds 70 = .ok (.goto (-39), 3) := by decide +kernel
theorem dX5_kinds_73 : decode cX5_kinds 73 = .ok (.iload_n 3, 1) := by decide +kernel
theorem dX5_kinds_74 : decode cX5_kinds 74 = .ok (.ireturn, 1) := by decide +kernel
theorem dX5_odds_0 : decode cX5_odds 0 = .ok (.iload_n 1, 1) := by decide +kernel
theorem dX5_odds_1 : decode cX5_odds 1 = .ok (.ifCond .lt 28, 3) := by decide +kernel
theorem dX5_odds_4 : decode cX5_odds 4 = .ok (.iload_n 1, 1) := by decide +kernel
theorem dX5_odds_5 : decode cX5_odds 5 = .ok (.bipush 8, 2) := by decide +kernel
theorem dX5_odds_7 : decode cX5_odds 7 = .ok (.if_icmp .ge 22, 3) := by decide +kernel
theorem dX5_odds_10 : decode cX5_odds 10 = .ok (.iload_n 2, 1) := by decide +kernel
theorem dX5_odds_11 : decode cX5_odds 11 = .ok (.ifCond .lt 18, 3) := by decide +kernel
theorem dX5_odds_14 : decode cX5_odds 14 = .ok (.iload_n 2, 1) := by decide +kernel
theorem dX5_odds_15 : decode cX5_odds 15 = .ok (.iconst 1, 1) := by decide +kernel
theorem dX5_odds_16 : decode cX5_odds 16 = .ok (.if_icmp .gt 13, 3) := by decide +kernel
theorem dX5_odds_19 : decode cX5_odds 19 = .ok (.aload_n 0, 1) := by decide +kernel
theorem dX5_odds_20 : decode cX5_odds 20 = .ok (.getfield 14, 3) := by decide +kernel
theorem dX5_odds_23 : decode cX5_odds 23 = .ok (.getfield 80, 3) := by decide +kernel
theorem dX5_odds_26 : decode cX5_odds 26 = .ok (.ifCond .ne 7, 3) := by decide +kernel
theorem dX5_odds_29 : decode cX5_odds 29 = .ok (.ldc2_w 190, 3) := by decide +kernel
theorem dX5_odds_32 : decode cX5_odds 32 = .ok (.lreturn, 1) := by decide +kernel
theorem dX5_odds_33 : decode cX5_odds 33 = .ok (.aload_n 0, 1) := by decide +kernel
theorem dX5_odds_34 : decode cX5_odds 34 = .ok (.getfield 14, 3) := by decide +kernel
theorem dX5_odds_37 : decode cX5_odds 37 = .ok (.iload_n 1, 1) := by decide +kernel
theorem dX5_odds_38 : decode cX5_odds 38 = .ok (.invokevirtual 192, 3) := by decide +kernel
theorem dX5_odds_41 : decode cX5_odds 41 = .ok (.istore_n 3, 1) := by decide +kernel
theorem dX5_odds_42 : decode cX5_odds 42 = .ok (.aload_n 0, 1) := by decide +kernel
theorem dX5_odds_43 : decode cX5_odds 43 = .ok (.getfield 14, 3) := by decide +kernel
theorem dX5_odds_46 : decode cX5_odds 46 = .ok (.getfield 80, 3) := by decide +kernel
theorem dX5_odds_49 : decode cX5_odds 49 = .ok (.aload_n 0, 1) := by decide +kernel
theorem dX5_odds_50 : decode cX5_odds 50 = .ok (.getfield 14, 3) := by decide +kernel
theorem dX5_odds_53 : decode cX5_odds 53 = .ok (.getfield 80, 3) := by decide +kernel
theorem dX5_odds_56 : decode cX5_odds 56 = .ok (.iconst 1, 1) := by decide +kernel
theorem dX5_odds_57 : decode cX5_odds 57 = .ok (.isub, 1) := by decide +kernel
theorem dX5_odds_58 : decode cX5_odds 58 = .ok (.imul, 1) := by decide +kernel
theorem dX5_odds_59 : decode cX5_odds 59 = .ok (.iconst 2, 1) := by decide +kernel
theorem dX5_odds_60 : decode cX5_odds 60 = .ok (.idiv, 1) := by decide +kernel
theorem dX5_odds_61 : decode cX5_odds 61 = .ok (.istore 4, 2) := by decide +kernel
theorem dX5_odds_63 : decode cX5_odds 63 = .ok (.iload_n 2, 1) := by decide +kernel
theorem dX5_odds_64 : decode cX5_odds 64 = .ok (.ifCond .ne 7, 3) := by decide +kernel
theorem dX5_odds_67 : decode cX5_odds 67 = .ok (.iload_n 3, 1) := by decide +kernel
theorem dX5_odds_68 : decode cX5_odds 68 = .ok (.goto 5, 3) := by decide +kernel
theorem dX5_odds_71 : decode cX5_odds 71 = .ok (.iload 4, 2) := by decide +kernel
theorem dX5_odds_73 : decode cX5_odds 73 = .ok (.istore 5, 2) := by decide +kernel
theorem dX5_odds_75 : decode cX5_odds 75 = .ok (.iload 4, 2) := by decide +kernel
theorem dX5_odds_77 : decode cX5_odds 77 = .ok (.istore 6, 2) := by decide +kernel
theorem dX5_odds_79 : decode cX5_odds 79 = .ok (.iload 6, 2) := by decide +kernel
theorem dX5_odds_81 : decode cX5_odds 81 = .ok (.iconst 1, 1) := by decide +kernel
theorem dX5_odds_82 : decode cX5_odds 82 = .ok (.if_icmp .le 31, 3) := by decide +kernel
theorem dX5_odds_85 : decode cX5_odds 85 = .ok (.iload_n 3, 1) := by decide +kernel
theorem dX5_odds_86 : decode cX5_odds 86 = .ok (.iload 6, 2) := by decide +kernel
theorem dX5_odds_88 : decode cX5_odds 88 = .ok (.irem, 1) := by decide +kernel
theorem dX5_odds_89 : decode cX5_odds 89 = .ok (.ifCond .ne 18, 3) := by decide +kernel
theorem dX5_odds_92 : decode cX5_odds 92 = .ok (.iload 4, 2) := by decide +kernel
theorem dX5_odds_94 : decode cX5_odds 94 = .ok (.iload 6, 2) := by decide +kernel
theorem dX5_odds_96 : decode cX5_odds 96 = .ok (.irem, 1) := by decide +kernel
theorem dX5_odds_97 : decode cX5_odds 97 = .ok (.ifCond .ne 10, 3) := by decide +kernel
theorem dX5_odds_100 : decode cX5_odds 100 = .ok (.iload 5, 2) := by decide +kernel
theorem dX5_odds_102 : decode cX5_odds 102 = .ok (.iload 6, 2) := by decide +kernel
theorem dX5_odds_104 : decode cX5_odds 104 = .ok (.idiv, 1) := by decide +kernel
theorem dX5_odds_105 : decode cX5_odds 105 = .ok (.i2l, 1) := by decide +kernel
theorem dX5_odds_106 : decode cX5_odds 106 = .ok (.lreturn, 1) := by decide +kernel
theorem dX5_odds_107 : decode cX5_odds 107 = .ok (.iinc 6 (-1), 3) := by decide +kernel
theorem dX5_odds_110 : decode cX5_odds 110 = .ok (.goto (-31), 3) := by decide +kernel
theorem dX5_odds_113 : decode cX5_odds 113 = .ok (.iload 5, 2) := by decide +kernel
theorem dX5_odds_115 : decode cX5_odds 115 = .ok (.i2l, 1) := by decide +kernel
theorem dX5_odds_116 : decode cX5_odds 116 = .ok (.lreturn, 1) := by decide +kernel
theorem dX5_sheet_0 : decode cX5_sheet 0 = .ok (.aload_n 0, 1) := by decide +kernel
theorem dX5_sheet_1 : decode cX5_sheet 1 = .ok (.iconst 0, 1) := by decide +kernel
theorem dX5_sheet_2 : decode cX5_sheet 2 = .ok (.putfield 42, 3) := by decide +kernel
theorem dX5_sheet_5 : decode cX5_sheet 5 = .ok (.iload_n 1, 1) := by decide +kernel
theorem dX5_sheet_6 : decode cX5_sheet 6 = .ok (.invokestatic 46, 3) := by decide +kernel
theorem dX5_sheet_9 : decode cX5_sheet 9 = .ok (.ifCond .ne 5, 3) := by decide +kernel
theorem dX5_sheet_12 : decode cX5_sheet 12 = .ok (.iconst (-1), 1) := by decide +kernel
theorem dX5_sheet_13 : decode cX5_sheet 13 = .ok (.ireturn, 1) := by decide +kernel
theorem dX5_sheet_14 : decode cX5_sheet 14 = .ok (.iload_n 2, 1) := by decide +kernel
theorem dX5_sheet_15 : decode cX5_sheet 15 = .ok (.invokestatic 50, 3) := by decide +kernel
theorem dX5_sheet_18 : decode cX5_sheet 18 = .ok (.ifCond .eq 9, 3) := by decide +kernel
theorem dX5_sheet_21 : decode cX5_sheet 21 = .ok (.iload_n 3, 1) := by decide +kernel
theorem dX5_sheet_22 : decode cX5_sheet 22 = .ok (.bipush 60, 2) := by decide +kernel
theorem dX5_sheet_24 : decode cX5_sheet 24 = .ok (.if_icmp .le 6, 3) := by decide +kernel
theorem dX5_sheet_27 : decode cX5_sheet 27 = .ok (.bipush (-2), 2) := by decide +kernel
theorem dX5_sheet_29 : decode cX5_sheet 29 = .ok (.ireturn, 1) := by decide +kernel
theorem dX5_sheet_30 : decode cX5_sheet 30 = .ok (.iload_n 3, 1) := by decide +kernel
theorem dX5_sheet_31 : decode cX5_sheet 31 = .ok (.ifCond .ge 9, 3) := by decide +kernel
theorem dX5_sheet_34 : decode cX5_sheet 34 = .ok (.aload_n 0, 1) := by decide +kernel
theorem dX5_sheet_35 : decode cX5_sheet 35 = .ok (.iconst 4, 1) := by decide +kernel
theorem dX5_sheet_36 : decode cX5_sheet 36 = .ok (.invokevirtual 61, 3) := by decide +kernel
theorem dX5_sheet_39 : decode cX5_sheet 39 = .ok (.ireturn, 1) := by decide +kernel
theorem dX5_sheet_40 : decode cX5_sheet 40 = .ok (.aload_n 0, 1) := by decide +kernel
theorem dX5_sheet_41 : decode cX5_sheet 41 = .ok (.getfield 37, 3) := by decide +kernel
theorem dX5_sheet_44 : decode cX5_sheet 44 = .ok (.iload_n 1, 1) := by decide +kernel
theorem dX5_sheet_45 : decode cX5_sheet 45 = .ok (.aaload, 1) := by decide +kernel
theorem dX5_sheet_46 : decode cX5_sheet 46 = .ok (.iload_n 2, 1) := by decide +kernel
theorem dX5_sheet_47 : decode cX5_sheet 47 = .ok (.iload_n 3, 1) := by decide +kernel
theorem dX5_sheet_48 : decode cX5_sheet 48 = .ok (.invokevirtual 195, 3) := by decide +kernel
theorem dX5_sheet_51 : decode cX5_sheet 51 = .ok (.iconst 1, 1) := by decide +kernel
theorem dX5_sheet_52 : decode cX5_sheet 52 = .ok (.ireturn, 1) := by decide +kernel
theorem dX5_lose_0 : decode cX5_lose 0 = .ok (.iload_n 1, 1) := by decide +kernel
theorem dX5_lose_1 : decode cX5_lose 1 = .ok (.invokestatic 46, 3) := by decide +kernel
theorem dX5_lose_4 : decode cX5_lose 4 = .ok (.ifCond .ne 5, 3) := by decide +kernel
theorem dX5_lose_7 : decode cX5_lose 7 = .ok (.iconst (-1), 1) := by decide +kernel
theorem dX5_lose_8 : decode cX5_lose 8 = .ok (.ireturn, 1) := by decide +kernel
theorem dX5_lose_9 : decode cX5_lose 9 = .ok (.aload_n 0, 1) := by decide +kernel
theorem dX5_lose_10 : decode cX5_lose 10 = .ok (.getfield 37, 3) := by decide +kernel
theorem dX5_lose_13 : decode cX5_lose 13 = .ok (.iload_n 1, 1) := by decide +kernel
theorem dX5_lose_14 : decode cX5_lose 14 = .ok (.aaload, 1) := by decide +kernel
theorem dX5_lose_15 : decode cX5_lose 15 = .ok (.getfield 199, 3) := by decide +kernel
theorem dX5_lose_18 : decode cX5_lose 18 = .ok (.iconst (-1), 1) := by decide +kernel
theorem dX5_lose_19 : decode cX5_lose 19 = .ok (.if_icmp .ne 5, 3) := by decide +kernel
theorem dX5_lose_22 : decode cX5_lose 22 = .ok (.iconst 0, 1) := by decide +kernel
theorem dX5_lose_23 : decode cX5_lose 23 = .ok (.ireturn, 1) := by decide +kernel
theorem dX5_lose_24 : decode cX5_lose 24 = .ok (.aload_n 0, 1) := by decide +kernel
theorem dX5_lose_25 : decode cX5_lose 25 = .ok (.getfield 37, 3) := by decide +kernel
theorem dX5_lose_28 : decode cX5_lose 28 = .ok (.iload_n 1, 1) := by decide +kernel
theorem dX5_lose_29 : decode cX5_lose 29 = .ok (.aaload, 1) := by decide +kernel
theorem dX5_lose_30 : decode cX5_lose 30 = .ok (.iconst (-1), 1) := by decide +kernel
theorem dX5_lose_31 : decode cX5_lose 31 = .ok (.iconst 0, 1) := by decide +kernel
theorem dX5_lose_32 : decode cX5_lose 32 = .ok (.invokevirtual 195, 3) := by decide +kernel
theorem dX5_lose_35 : decode cX5_lose 35 = .ok (.iconst 1, 1) := by decide +kernel
theorem dX5_lose_36 : decode cX5_lose 36 = .ok (.ireturn, 1) := by decide +kernel
theorem dX5_put_0 : decode cX5_put 0 = .ok (.aload_n 0, 1) := by decide +kernel
theorem dX5_put_1 : decode cX5_put 1 = .ok (.iconst 0, 1) := by decide +kernel
theorem dX5_put_2 : decode cX5_put 2 = .ok (.putfield 42, 3) := by decide +kernel
theorem dX5_put_5 : decode cX5_put 5 = .ok (.iload_n 1, 1) := by decide +kernel
theorem dX5_put_6 : decode cX5_put 6 = .ok (.invokestatic 46, 3) := by decide +kernel
theorem dX5_put_9 : decode cX5_put 9 = .ok (.ifCond .ne 5, 3) := by decide +kernel
theorem dX5_put_12 : decode cX5_put 12 = .ok (.iconst (-1), 1) := by decide +kernel
theorem dX5_put_13 : decode cX5_put 13 = .ok (.ireturn, 1) := by decide +kernel
theorem dX5_put_14 : decode cX5_put 14 = .ok (.aload_n 0, 1) := by decide +kernel
theorem dX5_put_15 : decode cX5_put 15 = .ok (.getfield 37, 3) := by decide +kernel
theorem dX5_put_18 : decode cX5_put 18 = .ok (.iload_n 1, 1) := by decide +kernel
theorem dX5_put_19 : decode cX5_put 19 = .ok (.aaload, 1) := by decide +kernel
theorem dX5_put_20 : decode cX5_put 20 = .ok (.astore 4, 2) := by decide +kernel
theorem dX5_put_22 : decode cX5_put 22 = .ok (.aload 4, 2) := by decide +kernel
theorem dX5_put_24 : decode cX5_put 24 = .ok (.getfield 199, 3) := by decide +kernel
theorem dX5_put_27 : decode cX5_put 27 = .ok (.iconst (-1), 1) := by decide +kernel
theorem dX5_put_28 : decode cX5_put 28 = .ok (.if_icmp .ne 9, 3) := by decide +kernel
theorem dX5_put_31 : decode cX5_put 31 = .ok (.aload_n 0, 1) := by decide +kernel
theorem dX5_put_32 : decode cX5_put 32 = .ok (.iconst 1, 1) := by decide +kernel
theorem dX5_put_33 : decode cX5_put 33 = .ok (.invokevirtual 61, 3) := by decide +kernel
theorem dX5_put_36 : decode cX5_put 36 = .ok (.ireturn, 1) := by decide +kernel
theorem dX5_put_37 : decode cX5_put 37 = .ok (.aload 4, 2) := by decide +kernel
theorem dX5_put_39 : decode cX5_put 39 = .ok (.iload_n 2, 1) := by decide +kernel
theorem dX5_put_40 : decode cX5_put 40 = .ok (.iconst 1, 1) := by decide +kernel
theorem dX5_put_41 : decode cX5_put 41 = .ok (.invokevirtual 57, 3) := by decide +kernel
theorem dX5_put_44 : decode cX5_put 44 = .ok (.ifCond .ne 9, 3) := by decide +kernel
theorem dX5_put_47 : decode cX5_put 47 = .ok (.aload_n 0, 1) := by decide +kernel
theorem dX5_put_48 : decode cX5_put 48 = .ok (.iconst 3, 1) := by decide +kernel
theorem dX5_put_49 : decode cX5_put 49 = .ok (.invokevirtual 61, 3) := by decide +kernel
theorem dX5_put_52 : decode cX5_put 52 = .ok (.ireturn, 1) := by decide +kernel
theorem dX5_put_53 : decode cX5_put 53 = .ok (.aload 4, 2) := by decide +kernel
theorem dX5_put_55 : decode cX5_put 55 = .ok (.getfield 202, 3) := by decide +kernel
theorem dX5_put_58 : decode cX5_put 58 = .ok (.iload_n 2, 1) := by decide +kernel
theorem dX5_put_59 : decode cX5_put 59 = .ok (.aload 4, 2) := by decide +kernel
theorem dX5_put_61 : decode cX5_put 61 = .ok (.iload_n 3, 1) := by decide +kernel
theorem dX5_put_62 : decode cX5_put 62 = .ok (.invokevirtual 205, 3) := by decide +kernel
theorem dX5_put_65 : decode cX5_put 65 = .ok (.iastore, 1) := by decide +kernel
theorem dX5_put_66 : decode cX5_put 66 = .ok (.iconst 1, 1) := by decide +kernel
theorem dX5_put_67 : decode cX5_put 67 = .ok (.ireturn, 1) := by decide +kernel
theorem dX5_cell_0 : decode cX5_cell 0 = .ok (.aload_n 0, 1) := by decide +kernel
theorem dX5_cell_1 : decode cX5_cell 1 = .ok (.iconst 0, 1) := by decide +kernel
theorem dX5_cell_2 : decode cX5_cell 2 = .ok (.putfield 42, 3) := by decide +kernel
theorem dX5_cell_5 : decode cX5_cell 5 = .ok (.iload_n 1, 1) := by decide +kernel
theorem dX5_cell_6 : decode cX5_cell 6 = .ok (.invokestatic 46, 3) := by decide +kernel
theorem dX5_cell_9 : decode cX5_cell 9 = .ok (.ifCond .eq 10, 3) := by decide +kernel
theorem dX5_cell_12 : decode cX5_cell 12 = .ok (.iload_n 3, 1) := by decide +kernel
theorem dX5_cell_13 : decode cX5_cell 13 = .ok (.invokestatic 50, 3) := by decide +kernel
theorem dX5_cell_16 : decode cX5_cell 16 = .ok (.ifCond .ne 7, 3) := by decide +kernel
theorem dX5_cell_19 : decode cX5_cell 19 = .ok (.ldc2_w 190, 3) := by decide +kernel
theorem dX5_cell_22 : decode cX5_cell 22 = .ok (.lreturn, 1) := by decide +kernel
theorem dX5_cell_23 : decode cX5_cell 23 = .ok (.aload_n 0, 1) := by decide +kernel
theorem dX5_cell_24 : decode cX5_cell 24 = .ok (.getfield 37, 3) := by decide +kernel
theorem dX5_cell_27 : decode cX5_cell 27 = .ok (.iload_n 1, 1) := by decide +kernel
theorem dX5_cell_28 : decode cX5_cell 28 = .ok (.aaload, 1) := by decide +kernel
theorem dX5_cell_29 : decode cX5_cell 29 = .ok (.astore 4, 2) := by decide +kernel
theorem dX5_cell_31 : decode cX5_cell 31 = .ok (.aload_n 0, 1) := by decide +kernel
theorem dX5_cell_32 : decode cX5_cell 32 = .ok (.aload 4, 2) := by decide +kernel
theorem dX5_cell_34 : decode cX5_cell 34 = .ok (.iload_n 3, 1) := by decide +kernel
theorem dX5_cell_35 : decode cX5_cell 35 = .ok (.invokevirtual 53, 3) := by decide +kernel
theorem dX5_cell_38 : decode cX5_cell 38 = .ok (.putfield 42, 3) := by decide +kernel
theorem dX5_cell_41 : decode cX5_cell 41 = .ok (.aload_n 0, 1) := by decide +kernel
theorem dX5_cell_42 : decode cX5_cell 42 = .ok (.getfield 42, 3) := by decide +kernel
theorem dX5_cell_45 : decode cX5_cell 45 = .ok (.ifCond .ne 18, 3) := by decide +kernel
theorem dX5_cell_48 : decode cX5_cell 48 = .ok (.aload 4, 2) := by decide +kernel
theorem dX5_cell_50 : decode cX5_cell 50 = .ok (.iload_n 2, 1) := by decide +kernel
theorem dX5_cell_51 : decode cX5_cell 51 = .ok (.iconst 1, 1) := by decide +kernel
theorem dX5_cell_52 : decode cX5_cell 52 = .ok (.invokevirtual 57, 3) := by decide +kernel
theorem dX5_cell_55 : decode cX5_cell 55 = .ok (.ifCond .ne 8, 3) := by decide +kernel
theorem dX5_cell_58 : decode cX5_cell 58 = .ok (.aload_n 0, 1) := by decide +kernel
theorem dX5_cell_59 : decode cX5_cell 59 = .ok (.iconst 3, 1) := by decide +kernel
theorem dX5_cell_60 : decode cX5_cell 60 = .ok (.putfield 42, 3) := by decide +kernel
theorem dX5_cell_63 : decode cX5_cell 63 = .ok (.aload_n 0, 1) := by decide +kernel
theorem dX5_cell_64 : decode cX5_cell 64 = .ok (.getfield 42, 3) := by decide +kernel
theorem dX5_cell_67 : decode cX5_cell 67 = .ok (.ifCond .ne 13, 3) := by decide +kernel
theorem dX5_cell_70 : decode cX5_cell 70 = .ok (.aload 4, 2) := by decide +kernel
theorem dX5_cell_72 : decode cX5_cell 72 = .ok (.iload_n 2, 1) := by decide +kernel
theorem dX5_cell_73 : decode cX5_cell 73 = .ok (.invokevirtual 132, 3) := by decide +kernel
theorem dX5_cell_76 : decode cX5_cell 76 = .ok (.i2l, 1) := by decide +kernel
theorem dX5_cell_77 : decode cX5_cell 77 = .ok (.goto 6, 3) := by decide +kernel
theorem dX5_cell_80 : decode cX5_cell 80 = .ok (.ldc2_w 190, 3) := by decide +kernel
theorem dX5_cell_83 : decode cX5_cell 83 = .ok (.lreturn, 1) := by decide +kernel
theorem dX5_copy_0 : decode cX5_copy 0 = .ok (.aload_n 0, 1) := by decide +kernel
theorem dX5_copy_1 : decode cX5_copy 1 = .ok (.iconst 0, 1) := by decide +kernel
theorem dX5_copy_2 : decode cX5_copy 2 = .ok (.putfield 42, 3) := by decide +kernel
theorem dX5_copy_5 : decode cX5_copy 5 = .ok (.iload_n 1, 1) := by decide +kernel
theorem dX5_copy_6 : decode cX5_copy 6 = .ok (.invokestatic 46, 3) := by decide +kernel
theorem dX5_copy_9 : decode cX5_copy 9 = .ok (.ifCond .eq 10, 3) := by decide +kernel
theorem dX5_copy_12 : decode cX5_copy 12 = .ok (.iload_n 3, 1) := by decide +kernel
theorem dX5_copy_13 : decode cX5_copy 13 = .ok (.invokestatic 46, 3) := by decide +kernel
theorem dX5_copy_16 : decode cX5_copy 16 = .ok (.ifCond .ne 5, 3) := by decide +kernel
theorem dX5_copy_19 : decode cX5_copy 19 = .ok (.iconst (-1), 1) := by decide +kernel
theorem dX5_copy_20 : decode cX5_copy 20 = .ok (.ireturn, 1) := by decide +kernel
theorem dX5_copy_21 : decode cX5_copy 21 = .ok (.aload_n 0, 1) := by decide +kernel
theorem dX5_copy_22 : decode cX5_copy 22 = .ok (.getfield 37, 3) := by decide +kernel
theorem dX5_copy_25 : decode cX5_copy 25 = .ok (.iload_n 1, 1) := by decide +kernel
theorem dX5_copy_26 : decode cX5_copy 26 = .ok (.aaload, 1) := by decide +kernel
theorem dX5_copy_27 : decode cX5_copy 27 = .ok (.astore 6, 2) := by decide +kernel
theorem dX5_copy_29 : decode cX5_copy 29 = .ok (.aload_n 0, 1) := by decide +kernel
theorem dX5_copy_30 : decode cX5_copy 30 = .ok (.getfield 37, 3) := by decide +kernel
theorem dX5_copy_33 : decode cX5_copy 33 = .ok (.iload_n 3, 1) := by decide +kernel
theorem dX5_copy_34 : decode cX5_copy 34 = .ok (.aaload, 1) := by decide +kernel
theorem dX5_copy_35 : decode cX5_copy 35 = .ok (.astore 7, 2) := by decide +kernel
theorem dX5_copy_37 : decode cX5_copy 37 = .ok (.aload 6, 2) := by decide +kernel
theorem dX5_copy_39 : decode cX5_copy 39 = .ok (.getfield 199, 3) := by decide +kernel
theorem dX5_copy_42 : decode cX5_copy 42 = .ok (.iconst (-1), 1) := by decide +kernel
theorem dX5_copy_43 : decode cX5_copy 43 = .ok (.if_icmp .eq 12, 3) := by decide +kernel
theorem dX5_copy_46 : decode cX5_copy 46 = .ok (.aload 7, 2) := by decide +kernel
theorem dX5_copy_48 : decode cX5_copy 48 = .ok (.getfield 199, 3) := by decide +kernel
theorem dX5_copy_51 : decode cX5_copy 51 = .ok (.iconst (-1), 1) := by decide +kernel
theorem dX5_copy_52 : decode cX5_copy 52 = .ok (.if_icmp .ne 9, 3) := by decide +kernel
theorem dX5_copy_55 : decode cX5_copy 55 = .ok (.aload_n 0, 1) := by decide +kernel
theorem dX5_copy_56 : decode cX5_copy 56 = .ok (.iconst 1, 1) := by decide +kernel
theorem dX5_copy_57 : decode cX5_copy 57 = .ok (.invokevirtual 61, 3) := by decide +kernel
theorem dX5_copy_60 : decode cX5_copy 60 = .ok (.ireturn, 1) := by decide +kernel
theorem dX5_copy_61 : decode cX5_copy 61 = .ok (.aload 6, 2) := by decide +kernel
theorem dX5_copy_63 : decode cX5_copy 63 = .ok (.getfield 199, 3) := by decide +kernel
theorem dX5_copy_66 : decode cX5_copy 66 = .ok (.aload 7, 2) := by decide +kernel
theorem dX5_copy_68 : decode cX5_copy 68 = .ok (.getfield 199, 3) := by decide +kernel
theorem dX5_copy_71 : decode cX5_copy 71 = .ok (.if_icmp .eq 9, 3) := by decide +kernel
theorem dX5_copy_74 : decode cX5_copy 74 = .ok (.aload_n 0, 1) := by decide +kernel
theorem dX5_copy_75 : decode cX5_copy 75 = .ok (.iconst 2, 1) := by decide +kernel
theorem dX5_copy_76 : decode cX5_copy 76 = .ok (.invokevirtual 61, 3) := by decide +kernel
theorem dX5_copy_79 : decode cX5_copy 79 = .ok (.ireturn, 1) := by decide +kernel
theorem dX5_copy_80 : decode cX5_copy 80 = .ok (.aload 6, 2) := by decide +kernel
theorem dX5_copy_82 : decode cX5_copy 82 = .ok (.iload_n 2, 1) := by decide +kernel
theorem dX5_copy_83 : decode cX5_copy 83 = .ok (.iload 5, 2) := by decide +kernel
theorem dX5_copy_85 : decode cX5_copy 85 = .ok (.invokevirtual 57, 3) := by decide +kernel
theorem dX5_copy_88 : decode cX5_copy 88 = .ok (.ifCond .eq 15, 3) := by decide +kernel
theorem dX5_copy_91 : decode cX5_copy 91 = .ok (.aload 7, 2) := by decide +kernel
theorem dX5_copy_93 : decode cX5_copy 93 = .ok (.iload 4, 2) := by decide +kernel
theorem dX5_copy_95 : decode cX5_copy 95 = .ok (.iload 5, 2) := by decide +kernel
theorem dX5_copy_97 : decode cX5_copy 97 = .ok (.invokevirtual 57, 3) := by decide +kernel
theorem dX5_copy_100 : decode cX5_copy 100 = .ok (.ifCond .ne 9, 3) := by decide +kernel
theorem dX5_copy_103 : decode cX5_copy 103 = .ok (.aload_n 0, 1) := by decide +kernel
theorem dX5_copy_104 : decode cX5_copy 104 = .ok (.iconst 3, 1) := by decide +kernel
theorem dX5_copy_105 : decode cX5_copy 105 = .ok (.invokevirtual 61, 3) := by decide +kernel
theorem dX5_copy_108 : decode cX5_copy 108 = .ok (.ireturn, 1) := by decide +kernel
theorem dX5_copy_109 : decode cX5_copy 109 = .ok (.aload 6, 2) := by decide +kernel
theorem dX5_copy_111 : decode cX5_copy 111 = .ok (.getfield 202, 3) := by decide +kernel
theorem dX5_copy_114 : decode cX5_copy 114 = .ok (.iload_n 2, 1) := by decide +kernel
theorem dX5_copy_115 : decode cX5_copy 115 = .ok (.aload 7, 2) := by decide +kernel
theorem dX5_copy_117 : decode cX5_copy 117 = .ok (.getfield 202, 3) := by decide +kernel
theorem dX5_copy_120 : decode cX5_copy 120 = .ok (.iload 4, 2) := by decide +kernel
theorem dX5_copy_122 : decode cX5_copy 122 = .ok (.iload 5, 2) := by decide +kernel
theorem dX5_copy_124 : decode cX5_copy 124 = .ok (.invokestatic 208, 3) := by decide +kernel
theorem dX5_copy_127 : decode cX5_copy 127 = .ok (.iload 5, 2) := by decide +kernel
theorem dX5_copy_129 : decode cX5_copy 129 = .ok (.ireturn, 1) := by decide +kernel
theorem dX5_tell_0 : decode cX5_tell 0 = .ok (.aload_n 0, 1) := by decide +kernel
theorem dX5_tell_1 : decode cX5_tell 1 = .ok (.getfield 14, 3) := by decide +kernel
theorem dX5_tell_4 : decode cX5_tell 4 = .ok (.iload_n 1, 1) := by decide +kernel
theorem dX5_tell_5 : decode cX5_tell 5 = .ok (.invokevirtual 83, 3) := by decide +kernel
theorem dX5_tell_8 : decode cX5_tell 8 = .ok (.ifCond .ne 5, 3) := by decide +kernel
theorem dX5_tell_11 : decode cX5_tell 11 = .ok (.iconst (-1), 1) := by decide +kernel
theorem dX5_tell_12 : decode cX5_tell 12 = .ok (.ireturn, 1) := by decide +kernel
theorem dX5_tell_13 : decode cX5_tell 13 = .ok (.aload_n 0, 1) := by decide +kernel
theorem dX5_tell_14 : decode cX5_tell 14 = .ok (.getfield 14, 3) := by decide +kernel
theorem dX5_tell_17 : decode cX5_tell 17 = .ok (.getfield 86, 3) := by decide +kernel
theorem dX5_tell_20 : decode cX5_tell 20 = .ok (.iload_n 1, 1) := by decide +kernel
theorem dX5_tell_21 : decode cX5_tell 21 = .ok (.iaload, 1) := by decide +kernel
theorem dX5_tell_22 : decode cX5_tell 22 = .ok (.lookupswitch 38 #[(1, 32), (2, 26)], 26) := by decide +kernel
theorem dX5_tell_48 : decode cX5_tell 48 = .ok (.aload_n 0, 1) := by decide +kernel
theorem dX5_tell_49 : decode cX5_tell 49 = .ok (.iload_n 1, 1) := by decide +kernel
theorem dX5_tell_50 : decode cX5_tell 50 = .ok (.invokevirtual 214, 3) := by decide +kernel
theorem dX5_tell_53 : decode cX5_tell 53 = .ok (.ireturn, 1) := by decide +kernel
theorem dX5_tell_54 : decode cX5_tell 54 = .ok (.aload_n 0, 1) := by decide +kernel
theorem dX5_tell_55 : decode cX5_tell 55 = .ok (.iload_n 1, 1) := by decide +kernel
theorem dX5_tell_56 : decode cX5_tell 56 = .ok (.invokevirtual 217, 3) := by decide +kernel
theorem dX5_tell_59 : decode cX5_tell 59 = .ok (.ireturn, 1) := by decide +kernel
theorem dX5_tell_60 : decode cX5_tell 60 = .ok (.aload_n 0, 1) := by decide +kernel
theorem dX5_tell_61 : decode cX5_tell 61 = .ok (.iload_n 1, 1) := by decide +kernel
theorem dX5_tell_62 : decode cX5_tell 62 = .ok (.invokevirtual 220, 3) := by decide +kernel
theorem dX5_tell_65 : decode cX5_tell 65 = .ok (.ireturn, 1) := by decide +kernel
theorem dX5_tellPlain_0 : decode cX5_tellPlain 0 = .ok (.aload_n 0, 1) := by decide +kernel
theorem dX5_tellPlain_1 : decode cX5_tellPlain 1 = .ok (.iconst 1, 1) := by decide +kernel
theorem dX5_tellPlain_2 : decode cX5_tellPlain 2 = .ok (.invokevirtual 223, 3) := by decide +kernel
theorem dX5_tellPlain_5 : decode cX5_tellPlain 5 = .ok (.aload_n 0, 1) := by decide +kernel
theorem dX5_tellPlain_6 : decode cX5_tellPlain 6 = .ok (.getfield 14, 3) := by decide +kernel
theorem dX5_tellPlain_9 : decode cX5_tellPlain 9 = .ok (.getfield 90, 3) := by decide +kernel
theorem dX5_tellPlain_12 : decode cX5_tellPlain 12 = .ok (.iload_n 1, 1) := by decide +kernel
theorem dX5_tellPlain_13 : decode cX5_tellPlain 13 = .ok (.iaload, 1) := by decide +kernel
theorem dX5_tellPlain_14 : decode cX5_tellPlain 14 = .ok (.ireturn, 1) := by decide +kernel
theorem dX5_tellBroad_0 : decode cX5_tellBroad 0 = .ok (.aload_n 0, 1) := by decide +kernel
theorem dX5_tellBroad_1 : decode cX5_tellBroad 1 = .ok (.iconst 2, 1) := by decide +kernel
theorem dX5_tellBroad_2 : decode cX5_tellBroad 2 = .ok (.invokevirtual 223, 3) := by decide +kernel
theorem dX5_tellBroad_5 : decode cX5_tellBroad 5 = .ok (.aload_n 0, 1) := by decide +kernel
theorem dX5_tellBroad_6 : decode cX5_tellBroad 6 = .ok (.iload_n 1, 1) := by decide +kernel
theorem dX5_tellBroad_7 : decode cX5_tellBroad 7 = .ok (.invokevirtual 220, 3) := by decide +kernel
theorem dX5_tellBroad_10 : decode cX5_tellBroad 10 = .ok (.bipush 100, 2) := by decide +kernel
theorem dX5_tellBroad_12 : decode cX5_tellBroad 12 = .ok (.iadd, 1) := by decide +kernel
theorem dX5_tellBroad_13 : decode cX5_tellBroad 13 = .ok (.ireturn, 1) := by decide +kernel
theorem dX5_tellDouble_0 : decode cX5_tellDouble 0 = .ok (.aload_n 0, 1) := by decide +kernel
theorem dX5_tellDouble_1 : decode cX5_tellDouble 1 = .ok (.iconst 3, 1) := by decide +kernel
theorem dX5_tellDouble_2 : decode cX5_tellDouble 2 = .ok (.invokevirtual 223, 3) := by decide +kernel
theorem dX5_tellDouble_5 : decode cX5_tellDouble 5 = .ok (.aload_n 0, 1) := by decide +kernel
theorem dX5_tellDouble_6 : decode cX5_tellDouble 6 = .ok (.iload_n 1, 1) := by decide +kernel
theorem dX5_tellDouble_7 : decode cX5_tellDouble 7 = .ok (.invokevirtual 217, 3) := by decide +kernel
theorem dX5_tellDouble_10 : decode cX5_tellDouble 10 = .ok (.istore_n 2, 1) := by decide +kernel
theorem dX5_tellDouble_11 : decode cX5_tellDouble 11 = .ok (.iload_n 2, 1) := by decide +kernel
theorem dX5_tellDouble_12 : decode cX5_tellDouble 12 = .ok (.aload_n 0, 1) := by decide +kernel
theorem dX5_tellDouble_13 : decode cX5_tellDouble 13 = .ok (.iload_n 1, 1) := by decide +kernel
theorem dX5_tellDouble_14 : decode cX5_tellDouble 14 = .ok (.invokevirtual 220, 3) := by decide +kernel
theorem dX5_tellDouble_17 : decode cX5_tellDouble 17 = .ok (.iadd, 1) := by decide +kernel
theorem dX5_tellDouble_18 : decode cX5_tellDouble 18 = .ok (.ireturn, 1) := by decide +kernel
theorem dX5_knock_0 : decode cX5_knock 0 = .ok (.aload_n 0, 1) := by decide +kernel
theorem dX5_knock_1 : decode cX5_knock 1 = .ok (.getfield 14, 3) := by decide +kernel
theorem dX5_knock_4 : decode cX5_knock 4 = .ok (.iload_n 1, 1) := by decide +kernel
theorem dX5_knock_5 : decode cX5_knock 5 = .ok (.invokevirtual 83, 3) := by decide +kernel
theorem dX5_knock_8 : decode cX5_knock 8 = .ok (.ifCond .ne 5, 3) := by decide +kernel
theorem dX5_knock_11 : decode cX5_knock 11 = .ok (.iconst (-1), 1) := by decide +kernel
theorem dX5_knock_12 : decode cX5_knock 12 = .ok (.ireturn, 1) := by decide +kernel
theorem dX5_knock_13 : decode cX5_knock 13 = .ok (.aload_n 0, 1) := by decide +kernel
theorem dX5_knock_14 : decode cX5_knock 14 = .ok (.getfield 14, 3) := by decide +kernel
theorem dX5_knock_17 : decode cX5_knock 17 = .ok (.getfield 86, 3) := by decide +kernel
theorem dX5_knock_20 : decode cX5_knock 20 = .ok (.iload_n 1, 1) := by decide +kernel
theorem dX5_knock_21 : decode cX5_knock 21 = .ok (.iaload, 1) := by decide +kernel
theorem dX5_knock_22 : decode cX5_knock 22 = .ok (.iconst 2, 1) := by decide +kernel
theorem dX5_knock_23 : decode cX5_knock 23 = .ok (.if_icmp .ne 11, 3) := by decide +kernel
theorem dX5_knock_26 : decode cX5_knock 26 = .ok (.aload_n 0, 1) := by decide +kernel
theorem dX5_knock_27 : decode cX5_knock 27 = .ok (.iconst 5, 1) := by decide +kernel
theorem dX5_knock_28 : decode cX5_knock 28 = .ok (.invokevirtual 223, 3) := by decide +kernel
theorem dX5_knock_31 : decode cX5_knock 31 = .ok (.bipush 80, 2) := by decide +kernel
theorem dX5_knock_33 : decode cX5_knock 33 = .ok (.ireturn, 1) := by decide +kernel
theorem dX5_knock_34 : decode cX5_knock 34 = .ok (.aload_n 0, 1) := by decide +kernel
theorem dX5_knock_35 : decode cX5_knock 35 = .ok (.iconst 4, 1) := by decide +kernel
theorem dX5_knock_36 : decode cX5_knock 36 = .ok (.invokevirtual 223, 3) := by decide +kernel
theorem dX5_knock_39 : decode cX5_knock 39 = .ok (.aload_n 0, 1) := by decide +kernel
theorem dX5_knock_40 : decode cX5_knock 40 = .ok (.getfield 14, 3) := by decide +kernel
theorem dX5_knock_43 : decode cX5_knock 43 = .ok (.getfield 96, 3) := by decide +kernel
theorem dX5_knock_46 : decode cX5_knock 46 = .ok (.iload_n 1, 1) := by decide +kernel
theorem dX5_knock_47 : decode cX5_knock 47 = .ok (.iaload, 1) := by decide +kernel
theorem dX5_knock_48 : decode cX5_knock 48 = .ok (.invokestatic 99, 3) := by decide +kernel
theorem dX5_knock_51 : decode cX5_knock 51 = .ok (.ireturn, 1) := by decide +kernel
theorem dX5_as_0 : decode cX5_as 0 = .ok (.aload_n 0, 1) := by decide +kernel
theorem dX5_as_1 : decode cX5_as 1 = .ok (.iconst 0, 1) := by decide +kernel
theorem dX5_as_2 : decode cX5_as 2 = .ok (.putfield 42, 3) := by decide +kernel
theorem dX5_as_5 : decode cX5_as 5 = .ok (.aload_n 0, 1) := by decide +kernel
theorem dX5_as_6 : decode cX5_as 6 = .ok (.getfield 14, 3) := by decide +kernel
theorem dX5_as_9 : decode cX5_as 9 = .ok (.iload_n 1, 1) := by decide +kernel
theorem dX5_as_10 : decode cX5_as 10 = .ok (.invokevirtual 83, 3) := by decide +kernel
theorem dX5_as_13 : decode cX5_as 13 = .ok (.ifCond .ne 5, 3) := by decide +kernel
theorem dX5_as_16 : decode cX5_as 16 = .ok (.iconst (-1), 1) := by decide +kernel
theorem dX5_as_17 : decode cX5_as 17 = .ok (.ireturn, 1) := by decide +kernel
theorem dX5_as_18 : decode cX5_as 18 = .ok (.iload_n 2, 1) := by decide +kernel
theorem dX5_as_19 : decode cX5_as 19 = .ok (.ifCond .lt 8, 3) := by decide +kernel
theorem dX5_as_22 : decode cX5_as 22 = .ok (.iload_n 2, 1) := by decide +kernel
theorem dX5_as_23 : decode cX5_as 23 = .ok (.iconst 2, 1) := by decide +kernel
theorem dX5_as_24 : decode cX5_as 24 = .ok (.if_icmp .le 6, 3) := by decide +kernel
theorem dX5_as_27 : decode cX5_as 27 = .ok (.bipush (-2), 2) := by decide +kernel
theorem dX5_as_29 : decode cX5_as 29 = .ok (.ireturn, 1) := by decide +kernel
theorem dX5_as_30 : decode cX5_as 30 = .ok (.aload_n 0, 1) := by decide +kernel
theorem dX5_as_31 : decode cX5_as 31 = .ok (.getfield 14, 3) := by decide +kernel
theorem dX5_as_34 : decode cX5_as 34 = .ok (.getfield 86, 3) := by decide +kernel
theorem dX5_as_37 : decode cX5_as 37 = .ok (.iload_n 1, 1) := by decide +kernel
theorem dX5_as_38 : decode cX5_as 38 = .ok (.iaload, 1) := by decide +kernel
theorem dX5_as_39 : decode cX5_as 39 = .ok (.iload_n 2, 1) := by decide +kernel
theorem dX5_as_40 : decode cX5_as 40 = .ok (.if_icmp .ge 11, 3) := by decide +kernel
theorem dX5_as_43 : decode cX5_as 43 = .ok (.aload_n 0, 1) := by decide +kernel
theorem dX5_as_44 : decode cX5_as 44 = .ok (.iconst 2, 1) := by decide +kernel
theorem dX5_as_45 : decode cX5_as 45 = .ok (.invokevirtual 61, 3) := by decide +kernel
theorem dX5_as_48 : decode cX5_as 48 = .ok (.goto 4, 3) := by decide +kernel
theorem dX5_as_51 : decode cX5_as 51 = .ok (.iconst 1, 1) := by decide +kernel
theorem dX5_as_52 : decode cX5_as 52 = .ok (.ireturn, 1) := by decide +kernel
theorem dX5_trace_0 : decode cX5_trace 0 = .ok (.aload_n 0, 1) := by decide +kernel
theorem dX5_trace_1 : decode cX5_trace 1 = .ok (.getfield 227, 3) := by decide +kernel
theorem dX5_trace_4 : decode cX5_trace 4 = .ok (.ireturn, 1) := by decide +kernel
theorem dX5_fault_0 : decode cX5_fault 0 = .ok (.aload_n 0, 1) := by decide +kernel
theorem dX5_fault_1 : decode cX5_fault 1 = .ok (.getfield 42, 3) := by decide +kernel
theorem dX5_fault_4 : decode cX5_fault 4 = .ok (.ireturn, 1) := by decide +kernel
theorem dX5_many_0 : decode cX5_many 0 = .ok (.iload_n 1, 1) := by decide +kernel
theorem dX5_many_1 : decode cX5_many 1 = .ok (.tableswitch 63 0 3 #[31, 39, 44, 55], 31) := by decide +kernel
theorem dX5_many_32 : decode cX5_many 32 = .ok (.aload_n 0, 1) := by decide +kernel
theorem dX5_many_33 : decode cX5_many 33 = .ok (.getfield 14, 3) := by decide +kernel
theorem dX5_many_36 : decode cX5_many 36 = .ok (.getfield 80, 3) := by decide +kernel
theorem dX5_many_39 : decode cX5_many 39 = .ok (.ireturn, 1) := by decide +kernel
theorem dX5_many_40 : decode cX5_many 40 = .ok (.aload_n 0, 1) := by decide +kernel
theorem dX5_many_41 : decode cX5_many 41 = .ok (.getfield 74, 3) := by decide +kernel
theorem dX5_many_44 : decode cX5_many 44 = .ok (.ireturn, 1) := by decide +kernel
theorem dX5_many_45 : decode cX5_many 45 = .ok (.aload_n 0, 1) := by decide +kernel
theorem dX5_many_46 : decode cX5_many 46 = .ok (.getfield 14, 3) := by decide +kernel
theorem dX5_many_49 : decode cX5_many 49 = .ok (.invokevirtual 152, 3) := by decide +kernel
theorem dX5_many_52 : decode cX5_many 52 = .ok (.invokestatic 99, 3) := by decide +kernel
theorem dX5_many_55 : decode cX5_many 55 = .ok (.ireturn, 1) := by decide +kernel
theorem dX5_many_56 : decode cX5_many 56 = .ok (.aload_n 0, 1) := by decide +kernel
theorem dX5_many_57 : decode cX5_many 57 = .ok (.getfield 31, 3) := by decide +kernel
theorem dX5_many_60 : decode cX5_many 60 = .ok (.getfield 77, 3) := by decide +kernel
theorem dX5_many_63 : decode cX5_many 63 = .ok (.ireturn, 1) := by decide +kernel
theorem dX5_many_64 : decode cX5_many 64 = .ok (.bipush (-2), 2) := by decide +kernel
theorem dX5_many_66 : decode cX5_many 66 = .ok (.ireturn, 1) := by decide +kernel
theorem dX5_leave_0 : decode cX5_leave 0 = .ok (.aload_n 0, 1) := by decide +kernel
theorem dX5_leave_1 : decode cX5_leave 1 = .ok (.bipush 31, 2) := by decide +kernel
theorem dX5_leave_3 : decode cX5_leave 3 = .ok (.aload_n 0, 1) := by decide +kernel
theorem dX5_leave_4 : decode cX5_leave 4 = .ok (.getfield 227, 3) := by decide +kernel
theorem dX5_leave_7 : decode cX5_leave 7 = .ok (.imul, 1) := by decide +kernel
theorem dX5_leave_8 : decode cX5_leave 8 = .ok (.iload_n 1, 1) := by decide +kernel
theorem dX5_leave_9 : decode cX5_leave 9 = .ok (.iadd, 1) := by decide +kernel
theorem dX5_leave_10 : decode cX5_leave 10 = .ok (.putfield 227, 3) := by decide +kernel
theorem dX5_leave_13 : decode cX5_leave 13 = .ok (.return_, 1) := by decide +kernel
theorem dX5_faulted_0 : decode cX5_faulted 0 = .ok (.aload_n 0, 1) := by decide +kernel
theorem dX5_faulted_1 : decode cX5_faulted 1 = .ok (.iload_n 1, 1) := by decide +kernel
theorem dX5_faulted_2 : decode cX5_faulted 2 = .ok (.putfield 42, 3) := by decide +kernel
theorem dX5_faulted_5 : decode cX5_faulted 5 = .ok (.bipush (-10), 2) := by decide +kernel
theorem dX5_faulted_7 : decode cX5_faulted 7 = .ok (.iload_n 1, 1) := by decide +kernel
theorem dX5_faulted_8 : decode cX5_faulted 8 = .ok (.isub, 1) := by decide +kernel
theorem dX5_faulted_9 : decode cX5_faulted 9 = .ok (.ireturn, 1) := by decide +kernel
theorem dX5_isSheet_0 : decode cX5_isSheet 0 = .ok (.iload_n 0, 1) := by decide +kernel
theorem dX5_isSheet_1 : decode cX5_isSheet 1 = .ok (.ifCond .lt 12, 3) := by decide +kernel
theorem dX5_isSheet_4 : decode cX5_isSheet 4 = .ok (.iload_n 0, 1) := by decide +kernel
theorem dX5_isSheet_5 : decode cX5_isSheet 5 = .ok (.iconst 4, 1) := by decide +kernel
theorem dX5_isSheet_6 : decode cX5_isSheet 6 = .ok (.if_icmp .ge 7, 3) := by decide +kernel
theorem dX5_isSheet_9 : decode cX5_isSheet 9 = .ok (.iconst 1, 1) := by decide +kernel
theorem dX5_isSheet_10 : decode cX5_isSheet 10 = .ok (.goto 4, 3) := by decide +kernel
theorem dX5_isSheet_13 : decode cX5_isSheet 13 = .ok (.iconst 0, 1) := by decide +kernel
theorem dX5_isSheet_14 : decode cX5_isSheet 14 = .ok (.ireturn, 1) := by decide +kernel
theorem dX5_isLane_0 : decode cX5_isLane 0 = .ok (.iload_n 0, 1) := by decide +kernel
theorem dX5_isLane_1 : decode cX5_isLane 1 = .ok (.ifCond .lt 12, 3) := by decide +kernel
theorem dX5_isLane_4 : decode cX5_isLane 4 = .ok (.iload_n 0, 1) := by decide +kernel
theorem dX5_isLane_5 : decode cX5_isLane 5 = .ok (.iconst 2, 1) := by decide +kernel
theorem dX5_isLane_6 : decode cX5_isLane 6 = .ok (.if_icmp .gt 7, 3) := by decide +kernel
theorem dX5_isLane_9 : decode cX5_isLane 9 = .ok (.iconst 1, 1) := by decide +kernel
theorem dX5_isLane_10 : decode cX5_isLane 10 = .ok (.goto 4, 3) := by decide +kernel
theorem dX5_isLane_13 : decode cX5_isLane 13 = .ok (.iconst 0, 1) := by decide +kernel
theorem dX5_isLane_14 : decode cX5_isLane 14 = .ok (.ireturn, 1) := by decide +kernel
theorem dX5_worthOf_0 : decode cX5_worthOf 0 = .ok (.iload_n 0, 1) := by decide +kernel
theorem dX5_worthOf_1 : decode cX5_worthOf 1 = .ok (.lookupswitch 35 #[(1, 27), (2, 31)], 27) := by decide +kernel
theorem dX5_worthOf_28 : decode cX5_worthOf 28 = .ok (.iload_n 1, 1) := by decide +kernel
theorem dX5_worthOf_29 : decode cX5_worthOf 29 = .ok (.iconst 1, 1) := by decide +kernel
theorem dX5_worthOf_30 : decode cX5_worthOf 30 = .ok (.iadd, 1) := by decide +kernel
theorem dX5_worthOf_31 : decode cX5_worthOf 31 = .ok (.ireturn, 1) := by decide +kernel
theorem dX5_worthOf_32 : decode cX5_worthOf 32 = .ok (.iconst 2, 1) := by decide +kernel
theorem dX5_worthOf_33 : decode cX5_worthOf 33 = .ok (.iload_n 1, 1) := by decide +kernel
theorem dX5_worthOf_34 : decode cX5_worthOf 34 = .ok (.imul, 1) := by decide +kernel
theorem dX5_worthOf_35 : decode cX5_worthOf 35 = .ok (.ireturn, 1) := by decide +kernel
theorem dX5_worthOf_36 : decode cX5_worthOf 36 = .ok (.iload_n 1, 1) := by decide +kernel
theorem dX5_worthOf_37 : decode cX5_worthOf 37 = .ok (.ireturn, 1) := by decide +kernel
theorem dX5_leastOf_0 : decode cX5_leastOf 0 = .ok (.iconst 0, 1) := by decide +kernel
theorem dX5_leastOf_1 : decode cX5_leastOf 1 = .ok (.istore_n 1, 1) := by decide +kernel
theorem dX5_leastOf_2 : decode cX5_leastOf 2 = .ok (.iload_n 1, 1) := by decide +kernel
theorem dX5_leastOf_3 : decode cX5_leastOf 3 = .ok (.bipush 8, 2) := by decide +kernel
theorem dX5_leastOf_5 : decode cX5_leastOf 5 = .ok (.if_icmp .ge 19, 3) := by decide +kernel
theorem dX5_leastOf_8 : decode cX5_leastOf 8 = .ok (.iload_n 0, 1) := by decide +kernel
theorem dX5_leastOf_9 : decode cX5_leastOf 9 = .ok (.iload_n 1, 1) := by decide +kernel
theorem dX5_leastOf_10 : decode cX5_leastOf 10 = .ok (.ishr, 1) := by decide +kernel
theorem dX5_leastOf_11 : decode cX5_leastOf 11 = .ok (.iconst 1, 1) := by decide +kernel
theorem dX5_leastOf_12 : decode cX5_leastOf 12 = .ok (.iand, 1) := by decide +kernel
theorem dX5_leastOf_13 : decode cX5_leastOf 13 = .ok (.ifCond .eq 5, 3) := by decide +kernel
theorem dX5_leastOf_16 : decode cX5_leastOf 16 = .ok (.iload_n 1, 1) := by decide +kernel
theorem dX5_leastOf_17 : decode cX5_leastOf 17 = .ok (.ireturn, 1) := by decide +kernel
theorem dX5_leastOf_18 : decode cX5_leastOf 18 = .ok (.iinc 1 1, 3) := by decide +kernel
theorem dX5_leastOf_21 : decode cX5_leastOf 21 = .ok (.goto (-19), 3) := by decide +kernel
theorem dX5_leastOf_24 : decode cX5_leastOf 24 = .ok (.iconst 0, 1) := by decide +kernel
theorem dX5_leastOf_25 : decode cX5_leastOf 25 = .ok (.ireturn, 1) := by decide +kernel
end
section
theorem dX6_init_0 : decode cX6_init 0 = .ok (.aload_n 0, 1) := by decide +kernel
theorem dX6_init_1 : decode cX6_init 1 = .ok (.invokespecial 1, 3) := by decide +kernel
theorem dX6_init_4 : decode cX6_init 4 = .ok (.aload_n 0, 1) := by decide +kernel
theorem dX6_init_5 : decode cX6_init 5 = .ok (.iconst 4, 1) := by decide +kernel
theorem dX6_init_6 : decode cX6_init 6 = .ok (.newarray .int, 2) := by decide +kernel
theorem dX6_init_8 : decode cX6_init 8 = .ok (.dup, 1) := by decide +kernel
theorem dX6_init_9 : decode cX6_init 9 = .ok (.iconst 0, 1) := by decide +kernel
theorem dX6_init_10 : decode cX6_init 10 = .ok (.bipush (-9), 2) := by decide +kernel
theorem dX6_init_12 : decode cX6_init 12 = .ok (.iastore, 1) := by decide +kernel
theorem dX6_init_13 : decode cX6_init 13 = .ok (.dup, 1) := by decide +kernel
theorem dX6_init_14 : decode cX6_init 14 = .ok (.iconst 1, 1) := by decide +kernel
theorem dX6_init_15 : decode cX6_init 15 = .ok (.bipush (-9), 2) := by decide +kernel
theorem dX6_init_17 : decode cX6_init 17 = .ok (.iastore, 1) := by decide +kernel
theorem dX6_init_18 : decode cX6_init 18 = .ok (.dup, 1) := by decide +kernel
theorem dX6_init_19 : decode cX6_init 19 = .ok (.iconst 2, 1) := by decide +kernel
theorem dX6_init_20 : decode cX6_init 20 = .ok (.bipush (-9), 2) := by decide +kernel
theorem dX6_init_22 : decode cX6_init 22 = .ok (.iastore, 1) := by decide +kernel
theorem dX6_init_23 : decode cX6_init 23 = .ok (.dup, 1) := by decide +kernel
theorem dX6_init_24 : decode cX6_init 24 = .ok (.iconst 3, 1) := by decide +kernel
theorem dX6_init_25 : decode cX6_init 25 = .ok (.bipush (-9), 2) := by decide +kernel
theorem dX6_init_27 : decode cX6_init 27 = .ok (.iastore, 1) := by decide +kernel
theorem dX6_init_28 : decode cX6_init 28 = .ok (.putfield 9, 3) := by decide +kernel
theorem dX6_init_31 : decode cX6_init 31 = .ok (.aload_n 0, 1) := by decide +kernel
theorem dX6_init_32 : decode cX6_init 32 = .ok (.iconst 4, 1) := by decide +kernel
theorem dX6_init_33 : decode cX6_init 33 = .ok (.newarray .int, 2) := by decide +kernel
theorem dX6_init_35 : decode cX6_init 35 = .ok (.putfield 13, 3) := by decide +kernel
theorem dX6_init_38 : decode cX6_init 38 = .ok (.aload_n 0, 1) := by decide +kernel
theorem dX6_init_39 : decode cX6_init 39 = .ok (.sipush 240, 3) := by decide +kernel
theorem dX6_init_42 : decode cX6_init 42 = .ok (.newarray .int, 2) := by decide +kernel
theorem dX6_init_44 : decode cX6_init 44 = .ok (.putfield 16, 3) := by decide +kernel
theorem dX6_init_47 : decode cX6_init 47 = .ok (.aload_n 0, 1) := by decide +kernel
theorem dX6_init_48 : decode cX6_init 48 = .ok (.bipush 8, 2) := by decide +kernel
theorem dX6_init_50 : decode cX6_init 50 = .ok (.newarray .int, 2) := by decide +kernel
theorem dX6_init_52 : decode cX6_init 52 = .ok (.putfield 19, 3) := by decide +kernel
theorem dX6_init_55 : decode cX6_init 55 = .ok (.aload_n 0, 1) := by decide +kernel
theorem dX6_init_56 : decode cX6_init 56 = .ok (.bipush 8, 2) := by decide +kernel
theorem dX6_init_58 : decode cX6_init 58 = .ok (.newarray .int, 2) := by decide +kernel
theorem dX6_init_60 : decode cX6_init 60 = .ok (.putfield 22, 3) := by decide +kernel
theorem dX6_init_63 : decode cX6_init 63 = .ok (.aload_n 0, 1) := by decide +kernel
theorem dX6_init_64 : decode cX6_init 64 = .ok (.bipush 8, 2) := by decide +kernel
theorem dX6_init_66 : decode cX6_init 66 = .ok (.newarray .int, 2) := by decide +kernel
theorem dX6_init_68 : decode cX6_init 68 = .ok (.putfield 25, 3) := by decide +kernel
theorem dX6_init_71 : decode cX6_init 71 = .ok (.aload_n 0, 1) := by decide +kernel
theorem dX6_init_72 : decode cX6_init 72 = .ok (.bipush 6, 2) := by decide +kernel
theorem dX6_init_74 : decode cX6_init 74 = .ok (.newarray .int, 2) := by decide +kernel
theorem dX6_init_76 : decode cX6_init 76 = .ok (.putfield 28, 3) := by decide +kernel
theorem dX6_init_79 : decode cX6_init 79 = .ok (.aload_n 0, 1) := by decide +kernel
theorem dX6_init_80 : decode cX6_init 80 = .ok (.bipush 8, 2) := by decide +kernel
theorem dX6_init_82 : decode cX6_init 82 = .ok (.newarray .int, 2) := by decide +kernel
theorem dX6_init_84 : decode cX6_init 84 = .ok (.putfield 31, 3) := by decide +kernel
theorem dX6_init_87 : decode cX6_init 87 = .ok (.aload_n 0, 1) := by decide +kernel
theorem dX6_init_88 : decode cX6_init 88 = .ok (.bipush 8, 2) := by decide +kernel
theorem dX6_init_90 : decode cX6_init 90 = .ok (.newarray .int, 2) := by decide +kernel
theorem dX6_init_92 : decode cX6_init 92 = .ok (.putfield 34, 3) := by decide +kernel
theorem dX6_init_95 : decode cX6_init 95 = .ok (.aload_n 0, 1) := by decide +kernel
theorem dX6_init_96 : decode cX6_init 96 = .ok (.bipush 64, 2) := by decide +kernel
theorem dX6_init_98 : decode cX6_init 98 = .ok (.newarray .int, 2) := by decide +kernel
theorem dX6_init_100 : decode cX6_init 100 = .ok (.putfield 37, 3) := by decide +kernel
theorem dX6_init_103 : decode cX6_init 103 = .ok (.aload_n 0, 1) := by decide +kernel
theorem dX6_init_104 : decode cX6_init 104 = .ok (.bipush 6, 2) := by decide +kernel
theorem dX6_init_106 : decode cX6_init 106 = .ok (.newarray .int, 2) := by decide +kernel
theorem dX6_init_108 : decode cX6_init 108 = .ok (.putfield 40, 3) := by decide +kernel
theorem dX6_init_111 : decode cX6_init 111 = .ok (.aload_n 0, 1) := by decide +kernel
theorem dX6_init_112 : decode cX6_init 112 = .ok (.bipush 8, 2) := by decide +kernel
theorem dX6_init_114 : decode cX6_init 114 = .ok (.newarray .int, 2) := by decide +kernel
theorem dX6_init_116 : decode cX6_init 116 = .ok (.putfield 43, 3) := by decide +kernel
theorem dX6_init_119 : decode cX6_init 119 = .ok (.aload_n 0, 1) := by decide +kernel
theorem dX6_init_120 : decode cX6_init 120 = .ok (.bipush 8, 2) := by decide +kernel
theorem dX6_init_122 : decode cX6_init 122 = .ok (.newarray .int, 2) := by decide +kernel
theorem dX6_init_124 : decode cX6_init 124 = .ok (.putfield 46, 3) := by decide +kernel
theorem dX6_init_127 : decode cX6_init 127 = .ok (.aload_n 0, 1) := by decide +kernel
theorem dX6_init_128 : decode cX6_init 128 = .ok (.bipush 8, 2) := by decide +kernel
theorem dX6_init_130 : decode cX6_init 130 = .ok (.newarray .int, 2) := by decide +kernel
theorem dX6_init_132 : decode cX6_init 132 = .ok (.putfield 49, 3) := by decide +kernel
theorem dX6_init_135 : decode cX6_init 135 = .ok (.aload_n 0, 1) := by decide +kernel
theorem dX6_init_136 : decode cX6_init 136 = .ok (.bipush 8, 2) := by decide +kernel
theorem dX6_init_138 : decode cX6_init 138 = .ok (.newarray .int, 2) := by decide +kernel
theorem dX6_init_140 : decode cX6_init 140 = .ok (.putfield 52, 3) := by decide +kernel
theorem dX6_init_143 : decode cX6_init 143 = .ok (.aload_n 0, 1) := by decide +kernel
theorem dX6_init_144 : decode cX6_init 144 = .ok (.bipush 7, 2) := by decide +kernel
theorem dX6_init_146 : decode cX6_init 146 = .ok (.newarray .int, 2) := by decide +kernel
theorem dX6_init_148 : decode cX6_init 148 = .ok (.putfield 55, 3) := by decide +kernel
theorem dX6_init_151 : decode cX6_init 151 = .ok (.aload_n 0, 1) := by decide +kernel
theorem dX6_init_152 : decode cX6_init 152 = .ok (.bipush 7, 2) := by decide +kernel
theorem dX6_init_154 : decode cX6_init 154 = .ok (.newarray .int, 2) := by decide +kernel
theorem dX6_init_156 : decode cX6_init 156 = .ok (.putfield 58, 3) := by decide +kernel
theorem dX6_init_159 : decode cX6_init 159 = .ok (.aload_n 0, 1) := by decide +kernel
theorem dX6_init_160 : decode cX6_init 160 = .ok (.bipush 8, 2) := by decide +kernel
theorem dX6_init_162 : decode cX6_init 162 = .ok (.newarray .int, 2) := by decide +kernel
theorem dX6_init_164 : decode cX6_init 164 = .ok (.putfield 61, 3) := by decide +kernel
theorem dX6_init_167 : decode cX6_init 167 = .ok (.aload_n 0, 1) := by decide +kernel
theorem dX6_init_168 : decode cX6_init 168 = .ok (.bipush 8, 2) := by decide +kernel
theorem dX6_init_170 : decode cX6_init 170 = .ok (.newarray .int, 2) := by decide +kernel
theorem dX6_init_172 : decode cX6_init 172 = .ok (.putfield 64, 3) := by decide +kernel
theorem dX6_init_175 : decode cX6_init 175 = .ok (.aload_n 0, 1) := by decide +kernel
theorem dX6_init_176 : decode cX6_init 176 = .ok (.bipush 8, 2) := by decide +kernel
theorem dX6_init_178 : decode cX6_init 178 = .ok (.newarray .int, 2) := by decide +kernel
theorem dX6_init_180 : decode cX6_init 180 = .ok (.putfield 67, 3) := by decide +kernel
theorem dX6_init_183 : decode cX6_init 183 = .ok (.return_, 1) := by decide +kernel
theorem dX6_fails_0 : decode cX6_fails 0 = .ok (.aload_n 0, 1) := by decide +kernel
theorem dX6_fails_1 : decode cX6_fails 1 = .ok (.iload_n 1, 1) := by decide +kernel
theorem dX6_fails_2 : decode cX6_fails 2 = .ok (.putfield 70, 3) := by decide +kernel
theorem dX6_fails_5 : decode cX6_fails 5 = .ok (.bipush (-10), 2) := by decide +kernel
theorem dX6_fails_7 : decode cX6_fails 7 = .ok (.iload_n 1, 1) := by decide +kernel
theorem dX6_fails_8 : decode cX6_fails 8 = .ok (.isub, 1) := by decide +kernel
theorem dX6_fails_9 : decode cX6_fails 9 = .ok (.ireturn, 1) := by decide +kernel
theorem dX6_lost_0 : decode cX6_lost 0 = .ok (.aload_n 0, 1) := by decide +kernel
theorem dX6_lost_1 : decode cX6_lost 1 = .ok (.iload_n 1, 1) := by decide +kernel
theorem dX6_lost_2 : decode cX6_lost 2 = .ok (.putfield 70, 3) := by decide +kernel
theorem dX6_lost_5 : decode cX6_lost 5 = .ok (.ldc2_w 74, 3) := by decide +kernel
theorem dX6_lost_8 : decode cX6_lost 8 = .ok (.lreturn, 1) := by decide +kernel
theorem dX6_within_0 : decode cX6_within 0 = .ok (.iload_n 0, 1) := by decide +kernel
theorem dX6_within_1 : decode cX6_within 1 = .ok (.iload_n 1, 1) := by decide +kernel
theorem dX6_within_2 : decode cX6_within 2 = .ok (.if_icmp .lt 12, 3) := by decide +kernel
theorem dX6_within_5 : decode cX6_within 5 = .ok (.iload_n 0, 1) := by decide +kernel
theorem dX6_within_6 : decode cX6_within 6 = .ok (.iload_n 2, 1) := by decide +kernel
theorem dX6_within_7 : decode cX6_within 7 = .ok (.if_icmp .gt 7, 3) := by decide +kernel
theorem dX6_within_10 : decode cX6_within 10 = .ok (.iconst 1, 1) := by decide +kernel
theorem dX6_within_11 : decode cX6_within 11 = .ok (.goto 4, 3) := by decide +kernel
theorem dX6_within_14 : decode cX6_within 14 = .ok (.iconst 0, 1) := by decide +kernel
theorem dX6_within_15 : decode cX6_within 15 = .ok (.ireturn, 1) := by decide +kernel
theorem dX6_isSheet_0 : decode cX6_isSheet 0 = .ok (.iload_n 0, 1) := by decide +kernel
theorem dX6_isSheet_1 : decode cX6_isSheet 1 = .ok (.iconst 0, 1) := by decide +kernel
theorem dX6_isSheet_2 : decode cX6_isSheet 2 = .ok (.iconst 3, 1) := by decide +kernel
theorem dX6_isSheet_3 : decode cX6_isSheet 3 = .ok (.invokestatic 76, 3) := by decide +kernel
theorem dX6_isSheet_6 : decode cX6_isSheet 6 = .ok (.ireturn, 1) := by decide +kernel
theorem dX6_isSort_0 : decode cX6_isSort 0 = .ok (.iload_n 0, 1) := by decide +kernel
theorem dX6_isSort_1 : decode cX6_isSort 1 = .ok (.iconst 0, 1) := by decide +kernel
theorem dX6_isSort_2 : decode cX6_isSort 2 = .ok (.iconst 2, 1) := by decide +kernel
theorem dX6_isSort_3 : decode cX6_isSort 3 = .ok (.invokestatic 76, 3) := by decide +kernel
theorem dX6_isSort_6 : decode cX6_isSort 6 = .ok (.ireturn, 1) := by decide +kernel
theorem dX6_against_0 : decode cX6_against 0 = .ok (.aload_n 0, 1) := by decide +kernel
theorem dX6_against_1 : decode cX6_against 1 = .ok (.getfield 9, 3) := by decide +kernel
theorem dX6_against_4 : decode cX6_against 4 = .ok (.iload_n 1, 1) := by decide +kernel
theorem dX6_against_5 : decode cX6_against 5 = .ok (.iaload, 1) := by decide +kernel
theorem dX6_against_6 : decode cX6_against 6 = .ok (.bipush (-9), 2) := by decide +kernel
theorem dX6_against_8 : decode cX6_against 8 = .ok (.if_icmp .eq 15, 3) := by decide +kernel
theorem dX6_against_11 : decode cX6_against 11 = .ok (.aload_n 0, 1) := by decide +kernel
theorem dX6_against_12 : decode cX6_against 12 = .ok (.getfield 9, 3) := by decide +kernel
theorem dX6_against_15 : decode cX6_against 15 = .ok (.iload_n 1, 1) := by decide +kernel
theorem dX6_against_16 : decode cX6_against 16 = .ok (.iaload, 1) := by decide +kernel
theorem dX6_against_17 : decode cX6_against 17 = .ok (.iload_n 2, 1) := by decide +kernel
theorem dX6_against_18 : decode cX6_against 18 = .ok (.if_icmp .eq 5, 3) := by decide +kernel
theorem dX6_against_21 : decode cX6_against 21 = .ok (.iconst 2, 1) := by decide +kernel
theorem dX6_against_22 : decode cX6_against 22 = .ok (.ireturn, 1) := by decide +kernel
theorem dX6_against_23 : decode cX6_against 23 = .ok (.aload_n 0, 1) := by decide +kernel
theorem dX6_against_24 : decode cX6_against 24 = .ok (.getfield 9, 3) := by decide +kernel
theorem dX6_against_27 : decode cX6_against 27 = .ok (.iload_n 1, 1) := by decide +kernel
theorem dX6_against_28 : decode cX6_against 28 = .ok (.iaload, 1) := by decide +kernel
theorem dX6_against_29 : decode cX6_against 29 = .ok (.bipush (-9), 2) := by decide +kernel
theorem dX6_against_31 : decode cX6_against 31 = .ok (.if_icmp .ne 5, 3) := by decide +kernel
theorem dX6_against_34 : decode cX6_against 34 = .ok (.iconst 1, 1) := by decide +kernel
theorem dX6_against_35 : decode cX6_against 35 = .ok (.ireturn, 1) := by decide +kernel
theorem dX6_against_36 : decode cX6_against 36 = .ok (.iload 4, 2) := by decide +kernel
theorem dX6_against_38 : decode cX6_against 38 = .ok (.ifCond .ge 5, 3) := by decide +kernel
theorem dX6_against_41 : decode cX6_against 41 = .ok (.iconst 4, 1) := by decide +kernel
theorem dX6_against_42 : decode cX6_against 42 = .ok (.ireturn, 1) := by decide +kernel
theorem dX6_against_43 : decode cX6_against 43 = .ok (.iload_n 3, 1) := by decide +kernel
theorem dX6_against_44 : decode cX6_against 44 = .ok (.ifCond .lt 26, 3) := by decide +kernel
theorem dX6_against_47 : decode cX6_against 47 = .ok (.iload_n 3, 1) := by decide +kernel
theorem dX6_against_48 : decode cX6_against 48 = .ok (.aload_n 0, 1) := by decide +kernel
theorem dX6_against_49 : decode cX6_against 49 = .ok (.getfield 13, 3) := by decide +kernel
theorem dX6_against_52 : decode cX6_against 52 = .ok (.iload_n 1, 1) := by decide +kernel
theorem dX6_against_53 : decode cX6_against 53 = .ok (.iaload, 1) := by decide +kernel
theorem dX6_against_54 : decode cX6_against 54 = .ok (.if_icmp .gt 16, 3) := by decide +kernel
theorem dX6_against_57 : decode cX6_against 57 = .ok (.iload 4, 2) := by decide +kernel
theorem dX6_against_59 : decode cX6_against 59 = .ok (.aload_n 0, 1) := by decide +kernel
theorem dX6_against_60 : decode cX6_against 60 = .ok (.getfield 13, 3) := by decide +kernel
theorem dX6_against_63 : decode cX6_against 63 = .ok (.iload_n 1, 1) := by decide +kernel
theorem dX6_against_64 : decode cX6_against 64 = .ok (.iaload, 1) := by decide +kernel
theorem dX6_against_65 : decode cX6_against 65 = .ok (.iload_n 3, 1) := by decide +kernel
theorem dX6_against_66 : decode cX6_against 66 = .ok (.isub, 1) := by decide +kernel
theorem dX6_against_67 : decode cX6_against 67 = .ok (.if_icmp .le 7, 3) := by decide +kernel
theorem dX6_against_70 : decode cX6_against 70 = .ok (.iconst 3, 1) := by decide +kernel
theorem dX6_against_71 : decode cX6_against 71 = .ok (.goto 4, 3) := by decide +kernel
theorem dX6_against_74 : decode cX6_against 74 = .ok (.iconst 0, 1) := by decide +kernel
theorem dX6_against_75 : decode cX6_against 75 = .ok (.ireturn, 1) := by decide +kernel
theorem dX6_isPost_0 : decode cX6_isPost 0 = .ok (.iload_n 1, 1) := by decide +kernel
theorem dX6_isPost_1 : decode cX6_isPost 1 = .ok (.ifCond .lt 15, 3) := by decide +kernel
theorem dX6_isPost_4 : decode cX6_isPost 4 = .ok (.iload_n 1, 1) := by decide +kernel
theorem dX6_isPost_5 : decode cX6_isPost 5 = .ok (.aload_n 0, 1) := by decide +kernel
theorem dX6_isPost_6 : decode cX6_isPost 6 = .ok (.getfield 80, 3) := by decide +kernel
theorem dX6_isPost_9 : decode cX6_isPost 9 = .ok (.if_icmp .ge 7, 3) := by decide +kernel
theorem dX6_isPost_12 : decode cX6_isPost 12 = .ok (.iconst 1, 1) := by decide +kernel
theorem dX6_isPost_13 : decode cX6_isPost 13 = .ok (.goto 4, 3) := by decide +kernel
theorem dX6_isPost_16 : decode cX6_isPost 16 = .ok (.iconst 0, 1) := by decide +kernel
theorem dX6_isPost_17 : decode cX6_isPost 17 = .ok (.ireturn, 1) := by decide +kernel
theorem dX6_areTwo_0 : decode cX6_areTwo 0 = .ok (.aload_n 0, 1) := by decide +kernel
theorem dX6_areTwo_1 : decode cX6_areTwo 1 = .ok (.iload_n 1, 1) := by decide +kernel
theorem dX6_areTwo_2 : decode cX6_areTwo 2 = .ok (.invokevirtual 83, 3) := by decide +kernel
theorem dX6_areTwo_5 : decode cX6_areTwo 5 = .ok (.ifCond .eq 20, 3) := by decide +kernel
theorem dX6_areTwo_8 : decode cX6_areTwo 8 = .ok (.aload_n 0, 1) := by decide +kernel
theorem dX6_areTwo_9 : decode cX6_areTwo 9 = .ok (.iload_n 2, 1) := by decide +kernel
theorem dX6_areTwo_10 : decode cX6_areTwo 10 = .ok (.invokevirtual 83, 3) := by decide +kernel
theorem dX6_areTwo_13 : decode cX6_areTwo 13 = .ok (.ifCond .eq 12, 3) := by decide +kernel
theorem dX6_areTwo_16 : decode cX6_areTwo 16 = .ok (.iload_n 1, 1) := by decide +kernel
theorem dX6_areTwo_17 : decode cX6_areTwo 17 = .ok (.iload_n 2, 1) := by decide +kernel
theorem dX6_areTwo_18 : decode cX6_areTwo 18 = .ok (.if_icmp .eq 7, 3) := by decide +kernel
theorem dX6_areTwo_21 : decode cX6_areTwo 21 = .ok (.iconst 1, 1) := by decide +kernel
theorem dX6_areTwo_22 : decode cX6_areTwo 22 = .ok (.goto 4, 3) := by decide +kernel
theorem dX6_areTwo_25 : decode cX6_areTwo 25 = .ok (.iconst 0, 1) := by decide +kernel
theorem dX6_areTwo_26 : decode cX6_areTwo 26 = .ok (.ireturn, 1) := by decide +kernel
theorem dX6_isOf_0 : decode cX6_isOf 0 = .ok (.iload_n 0, 1) := by decide +kernel
theorem dX6_isOf_1 : decode cX6_isOf 1 = .ok (.iload_n 1, 1) := by decide +kernel
theorem dX6_isOf_2 : decode cX6_isOf 2 = .ok (.ishr, 1) := by decide +kernel
theorem dX6_isOf_3 : decode cX6_isOf 3 = .ok (.iconst 1, 1) := by decide +kernel
theorem dX6_isOf_4 : decode cX6_isOf 4 = .ok (.iand, 1) := by decide +kernel
theorem dX6_isOf_5 : decode cX6_isOf 5 = .ok (.iconst 1, 1) := by decide +kernel
theorem dX6_isOf_6 : decode cX6_isOf 6 = .ok (.if_icmp .ne 7, 3) := by decide +kernel
theorem dX6_isOf_9 : decode cX6_isOf 9 = .ok (.iconst 1, 1) := by decide +kernel
theorem dX6_isOf_10 : decode cX6_isOf 10 = .ok (.goto 4, 3) := by decide +kernel
theorem dX6_isOf_13 : decode cX6_isOf 13 = .ok (.iconst 0, 1) := by decide +kernel
theorem dX6_isOf_14 : decode cX6_isOf 14 = .ok (.ireturn, 1) := by decide +kernel
theorem dX6_size_0 : decode cX6_size 0 = .ok (.iconst 0, 1) := by decide +kernel
theorem dX6_size_1 : decode cX6_size 1 = .ok (.istore_n 1, 1) := by decide +kernel
theorem dX6_size_2 : decode cX6_size 2 = .ok (.iload_n 0, 1) := by decide +kernel
theorem dX6_size_3 : decode cX6_size 3 = .ok (.istore_n 2, 1) := by decide +kernel
theorem dX6_size_4 : decode cX6_size 4 = .ok (.iload_n 2, 1) := by decide +kernel
theorem dX6_size_5 : decode cX6_size 5 = .ok (.ifCond .le 16, 3) := by decide +kernel
theorem dX6_size_8 : decode cX6_size 8 = .ok (.iload_n 1, 1) := by decide +kernel
theorem dX6_size_9 : decode cX6_size 9 = .ok (.iload_n 2, 1) := by decide +kernel
theorem dX6_size_10 : decode cX6_size 10 = .ok (.iconst 1, 1) := by decide +kernel
theorem dX6_size_11 : decode cX6_size 11 = .ok (.iand, 1) := by decide +kernel
theorem dX6_size_12 : decode cX6_size 12 = .ok (.iadd, 1) := by decide +kernel
theorem dX6_size_13 : decode cX6_size 13 = .ok (.istore_n 1, 1) := by decide +kernel
theorem dX6_size_14 : decode cX6_size 14 = .ok (.iload_n 2, 1) := by decide +kernel
theorem dX6_size_15 : decode cX6_size 15 = .ok (.iconst 1, 1) := by decide +kernel
theorem dX6_size_16 : decode cX6_size 16 = .ok (.ishr, 1) := by decide +kernel
theorem dX6_size_17 : decode cX6_size 17 = .ok (.istore_n 2, 1) := by decide +kernel
theorem dX6_size_18 : decode cX6_size 18 = .ok (.goto (-14), 3) := by decide +kernel
theorem dX6_size_21 : decode cX6_size 21 = .ok (.iload_n 1, 1) := by decide +kernel
theorem dX6_size_22 : decode cX6_size 22 = .ok (.ireturn, 1) := by decide +kernel
theorem dX6_leastOf_0 : decode cX6_leastOf 0 = .ok (.iconst 0, 1) := by decide +kernel
theorem dX6_leastOf_1 : decode cX6_leastOf 1 = .ok (.istore_n 1, 1) := by decide +kernel
theorem dX6_leastOf_2 : decode cX6_leastOf 2 = .ok (.iload_n 0, 1) := by decide +kernel
theorem dX6_leastOf_3 : decode cX6_leastOf 3 = .ok (.iload_n 1, 1) := by decide +kernel
theorem dX6_leastOf_4 : decode cX6_leastOf 4 = .ok (.invokestatic 87, 3) := by decide +kernel
theorem dX6_leastOf_7 : decode cX6_leastOf 7 = .ok (.ifCond .ne 9, 3) := by decide +kernel
theorem dX6_leastOf_10 : decode cX6_leastOf 10 = .ok (.iinc 1 1, 3) := by decide +kernel
theorem dX6_leastOf_13 : decode cX6_leastOf 13 = .ok (.goto (-11), 3) := by decide +kernel
theorem dX6_leastOf_16 : decode cX6_leastOf 16 = .ok (.iload_n 1, 1) := by decide +kernel
theorem dX6_leastOf_17 : decode cX6_leastOf 17 = .ok (.ireturn, 1) := by decide +kernel
theorem dX6_digit_0 : decode cX6_digit 0 = .ok (.aload_n 0, 1) := by decide +kernel
theorem dX6_digit_1 : decode cX6_digit 1 = .ok (.getfield 91, 3) := by decide +kernel
theorem dX6_digit_4 : decode cX6_digit 4 = .ok (.iload_n 1, 1) := by decide +kernel
theorem dX6_digit_5 : decode cX6_digit 5 = .ok (.if_icmp .ge 26, 3) := by decide +kernel
theorem dX6_digit_8 : decode cX6_digit 8 = .ok (.aload_n 0, 1) := by decide +kernel
theorem dX6_digit_9 : decode cX6_digit 9 = .ok (.getfield 16, 3) := by decide +kernel
theorem dX6_digit_12 : decode cX6_digit 12 = .ok (.aload_n 0, 1) := by decide +kernel
theorem dX6_digit_13 : decode cX6_digit 13 = .ok (.getfield 91, 3) := by decide +kernel
theorem dX6_digit_16 : decode cX6_digit 16 = .ok (.iaload, 1) := by decide +kernel
theorem dX6_digit_17 : decode cX6_digit 17 = .ok (.bipush 48, 2) := by decide +kernel
theorem dX6_digit_19 : decode cX6_digit 19 = .ok (.iload_n 2, 1) := by decide +kernel
theorem dX6_digit_20 : decode cX6_digit 20 = .ok (.iadd, 1) := by decide +kernel
theorem dX6_digit_21 : decode cX6_digit 21 = .ok (.bipush 48, 2) := by decide +kernel
theorem dX6_digit_23 : decode cX6_digit 23 = .ok (.iload_n 3, 1) := by decide +kernel
theorem dX6_digit_24 : decode cX6_digit 24 = .ok (.iadd, 1) := by decide +kernel
theorem dX6_digit_25 : decode cX6_digit 25 = .ok (.invokestatic 76, 3) := by decide +kernel
theorem dX6_digit_28 : decode cX6_digit 28 = .ok (.ifCond .ne 6, 3) := by decide +kernel
theorem dX6_digit_31 : decode cX6_digit 31 = .ok (.bipush (-9), 2) := by decide +kernel
theorem dX6_digit_33 : decode cX6_digit 33 = .ok (.ireturn, 1) := by decide +kernel
theorem dX6_digit_34 : decode cX6_digit 34 = .ok (.aload_n 0, 1) := by decide +kernel
theorem dX6_digit_35 : decode cX6_digit 35 = .ok (.dup, 1) := by decide +kernel
theorem dX6_digit_36 : decode cX6_digit 36 = .ok (.getfield 91, 3) := by decide +kernel
theorem dX6_digit_39 : decode cX6_digit 39 = .ok (.iconst 1, 1) := by decide +kernel
theorem dX6_digit_40 : decode cX6_digit 40 = .ok (.iadd, 1) := by decide +kernel
theorem dX6_digit_41 : decode cX6_digit 41 = .ok (.putfield 91, 3) := by decide +kernel
theorem dX6_digit_44 : decode cX6_digit 44 = .ok (.aload_n 0, 1) := by decide +kernel
theorem dX6_digit_45 : decode cX6_digit 45 = .ok (.getfield 16, 3) := by decide +kernel
theorem dX6_digit_48 : decode cX6_digit 48 = .ok (.aload_n 0, 1) := by decide +kernel
theorem dX6_digit_49 : decode cX6_digit 49 = .ok (.getfield 91, 3) := by decide +kernel
theorem dX6_digit_52 : decode cX6_digit 52 = .ok (.iconst 1, 1) := by decide +kernel
theorem dX6_digit_53 : decode cX6_digit 53 = .ok (.isub, 1) := by decide +kernel
theorem dX6_digit_54 : decode cX6_digit 54 = .ok (.iaload, 1) := by decide +kernel
theorem dX6_digit_55 : decode cX6_digit 55 = .ok (.bipush 48, 2) := by decide +kernel
theorem dX6_digit_57 : decode cX6_digit 57 = .ok (.isub, 1) := by decide +kernel
theorem dX6_digit_58 : decode cX6_digit 58 = .ok (.ireturn, 1) := by decide +kernel
theorem dX6_vine_0 : decode cX6_vine 0 = .ok (.aload_n 0, 1) := by decide +kernel
theorem dX6_vine_1 : decode cX6_vine 1 = .ok (.iconst 0, 1) := by decide +kernel
theorem dX6_vine_2 : decode cX6_vine 2 = .ok (.putfield 70, 3) := by decide +kernel
theorem dX6_vine_5 : decode cX6_vine 5 = .ok (.iload_n 1, 1) := by decide +kernel
theorem dX6_vine_6 : decode cX6_vine 6 = .ok (.invokestatic 94, 3) := by decide +kernel
theorem dX6_vine_9 : decode cX6_vine 9 = .ok (.ifCond .ne 5, 3) := by decide +kernel
theorem dX6_vine_12 : decode cX6_vine 12 = .ok (.iconst (-1), 1) := by decide +kernel
theorem dX6_vine_13 : decode cX6_vine 13 = .ok (.ireturn, 1) := by decide +kernel
theorem dX6_vine_14 : decode cX6_vine 14 = .ok (.iload_n 2, 1) := by decide +kernel
theorem dX6_vine_15 : decode cX6_vine 15 = .ok (.invokestatic 97, 3) := by decide +kernel
theorem dX6_vine_18 : decode cX6_vine 18 = .ok (.ifCond .ne 6, 3) := by decide +kernel
theorem dX6_vine_21 : decode cX6_vine 21 = .ok (.bipush (-2), 2) := by decide +kernel
theorem dX6_vine_23 : decode cX6_vine 23 = .ok (.ireturn, 1) := by decide +kernel
theorem dX6_vine_24 : decode cX6_vine 24 = .ok (.aload_n 0, 1) := by decide +kernel
theorem dX6_vine_25 : decode cX6_vine 25 = .ok (.iload_n 1, 1) := by decide +kernel
theorem dX6_vine_26 : decode cX6_vine 26 = .ok (.iload_n 2, 1) := by decide +kernel
theorem dX6_vine_27 : decode cX6_vine 27 = .ok (.iload_n 3, 1) := by decide +kernel
theorem dX6_vine_28 : decode cX6_vine 28 = .ok (.iload 4, 2) := by decide +kernel
theorem dX6_vine_30 : decode cX6_vine 30 = .ok (.invokevirtual 100, 3) := by decide +kernel
theorem dX6_vine_33 : decode cX6_vine 33 = .ok (.istore 5, 2) := by decide +kernel
theorem dX6_vine_35 : decode cX6_vine 35 = .ok (.iload 5, 2) := by decide +kernel
theorem dX6_vine_37 : decode cX6_vine 37 = .ok (.ifCond .eq 10, 3) := by decide +kernel
theorem dX6_vine_40 : decode cX6_vine 40 = .ok (.aload_n 0, 1) := by decide +kernel
theorem dX6_vine_41 : decode cX6_vine 41 = .ok (.iload 5, 2) := by decide +kernel
theorem dX6_vine_43 : decode cX6_vine 43 = .ok (.invokevirtual 104, 3) := by decide +kernel
theorem dX6_vine_46 : decode cX6_vine 46 = .ok (.ireturn, 1) := by decide +kernel
theorem dX6_vine_47 : decode cX6_vine 47 = .ok (.bipush 60, 2) := by decide +kernel
theorem dX6_vine_49 : decode cX6_vine 49 = .ok (.iload_n 1, 1) := by decide +kernel
theorem dX6_vine_50 : decode cX6_vine 50 = .ok (.imul, 1) := by decide +kernel
theorem dX6_vine_51 : decode cX6_vine 51 = .ok (.iload_n 3, 1) := by decide +kernel
theorem dX6_vine_52 : decode cX6_vine 52 = .ok (.iadd, 1) := by decide +kernel
theorem dX6_vine_53 : decode cX6_vine 53 = .ok (.istore 6, 2) := by decide +kernel
theorem dX6_vine_55 : decode cX6_vine 55 = .ok (.aload_n 0, 1) := by decide +kernel
theorem dX6_vine_56 : decode cX6_vine 56 = .ok (.iload 6, 2) := by decide +kernel
theorem dX6_vine_58 : decode cX6_vine 58 = .ok (.putfield 91, 3) := by decide +kernel
theorem dX6_vine_61 : decode cX6_vine 61 = .ok (.aload_n 0, 1) := by decide +kernel
theorem dX6_vine_62 : decode cX6_vine 62 = .ok (.iload 6, 2) := by decide +kernel
theorem dX6_vine_64 : decode cX6_vine 64 = .ok (.iload 4, 2) := by decide +kernel
theorem dX6_vine_66 : decode cX6_vine 66 = .ok (.iadd, 1) := by decide +kernel
theorem dX6_vine_67 : decode cX6_vine 67 = .ok (.invokevirtual 108, 3) := by decide +kernel
theorem dX6_vine_70 : decode cX6_vine 70 = .ok (.ifCond .ne 14, 3) := by decide +kernel
theorem dX6_vine_73 : decode cX6_vine 73 = .ok (.bipush (-100), 2) := by decide +kernel
theorem dX6_vine_75 : decode cX6_vine 75 = .ok (.aload_n 0, 1) := by decide +kernel
theorem dX6_vine_76 : decode cX6_vine 76 = .ok (.getfield 91, 3) := by decide +kernel
theorem dX6_vine_79 : decode cX6_vine 79 = .ok (.iload 6, 2) := by decide +kernel
theorem dX6_vine_81 : decode cX6_vine 81 = .ok (.isub, 1) := by decide +kernel
theorem dX6_vine_82 : decode cX6_vine 82 = .ok (.isub, 1) := by decide +kernel
theorem dX6_vine_83 : decode cX6_vine 83 = .ok (.ireturn, 1) := by decide +kernel
theorem dX6_vine_84 : decode cX6_vine 84 = .ok (.aload_n 0, 1) := by decide +kernel
theorem dX6_vine_85 : decode cX6_vine 85 = .ok (.aload_n 0, 1) := by decide +kernel
theorem dX6_vine_86 : decode cX6_vine 86 = .ok (.getfield 111, 3) := by decide +kernel
theorem dX6_vine_89 : decode cX6_vine 89 = .ok (.putfield 80, 3) := by decide +kernel
theorem dX6_vine_92 : decode cX6_vine 92 = .ok (.iconst 0, 1) := by decide +kernel
theorem dX6_vine_93 : decode cX6_vine 93 = .ok (.istore 7, 2) := by decide +kernel
theorem dX6_vine_95 : decode cX6_vine 95 = .ok (.iload 7, 2) := by decide +kernel
theorem dX6_vine_97 : decode cX6_vine 97 = .ok (.aload_n 0, 1) := by decide +kernel
theorem dX6_vine_98 : decode cX6_vine 98 = .ok (.getfield 80, 3) := by decide +kernel
theorem dX6_vine_101 : decode cX6_vine 101 = .ok (.if_icmp .ge 37, 3) := by decide +kernel
theorem dX6_vine_104 : decode cX6_vine 104 = .ok (.aload_n 0, 1) := by decide +kernel
theorem dX6_vine_105 : decode cX6_vine 105 = .ok (.getfield 22, 3) := by decide +kernel
theorem dX6_vine_108 : decode cX6_vine 108 = .ok (.iload 7, 2) := by decide +kernel
theorem dX6_vine_110 : decode cX6_vine 110 = .ok (.aload_n 0, 1) := by decide +kernel
theorem dX6_vine_111 : decode cX6_vine 111 = .ok (.getfield 31, 3) := by decide +kernel
theorem dX6_vine_114 : decode cX6_vine 114 = .ok (.iload 7, 2) := by decide +kernel
theorem dX6_vine_116 : decode cX6_vine 116 = .ok (.iaload, 1) := by decide +kernel
theorem dX6_vine_117 : decode cX6_vine 117 = .ok (.iastore, 1) := by decide +kernel
theorem dX6_vine_118 : decode cX6_vine 118 = .ok (.aload_n 0, 1) := by decide +kernel
theorem dX6_vine_119 : decode cX6_vine 119 = .ok (.getfield 25, 3) := by decide +kernel
theorem dX6_vine_122 : decode cX6_vine 122 = .ok (.iload 7, 2) := by decide +kernel
theorem dX6_vine_124 : decode cX6_vine 124 = .ok (.aload_n 0, 1) := by decide +kernel
theorem dX6_vine_125 : decode cX6_vine 125 = .ok (.getfield 34, 3) := by decide +kernel
theorem dX6_vine_128 : decode cX6_vine 128 = .ok (.iload 7, 2) := by decide +kernel
theorem dX6_vine_130 : decode cX6_vine 130 = .ok (.iaload, 1) := by decide +kernel
theorem dX6_vine_131 : decode cX6_vine 131 = .ok (.iastore, 1) := by decide +kernel
theorem dX6_vine_132 : decode cX6_vine 132 = .ok (.iinc 7 1, 3) := by decide +kernel
theorem dX6_vine_135 : decode cX6_vine 135 = .ok (.goto (-40), 3) := by decide +kernel
theorem dX6_vine_138 : decode cX6_vine 138 = .ok (.aload_n 0, 1) := by decide +kernel
theorem dX6_vine_139 : decode cX6_vine 139 = .ok (.invokevirtual 114, 3) := by decide +kernel
theorem dX6_vine_142 : decode cX6_vine 142 = .ok (.aload_n 0, 1) := by decide +kernel
theorem dX6_vine_143 : decode cX6_vine 143 = .ok (.iconst 0, 1) := by decide +kernel
theorem dX6_vine_144 : decode cX6_vine 144 = .ok (.putfield 117, 3) := by decide +kernel
theorem dX6_vine_147 : decode cX6_vine 147 = .ok (.aload_n 0, 1) := by decide +kernel
theorem dX6_vine_148 : decode cX6_vine 148 = .ok (.iconst 0, 1) := by decide +kernel
theorem dX6_vine_149 : decode cX6_vine 149 = .ok (.putfield 120, 3) := by decide +kernel
theorem dX6_vine_152 : decode cX6_vine 152 = .ok (.aload_n 0, 1) := by decide +kernel
theorem dX6_vine_153 : decode cX6_vine 153 = .ok (.getfield 80, 3) := by decide +kernel
theorem dX6_vine_156 : decode cX6_vine 156 = .ok (.ireturn, 1) := by decide +kernel
theorem dX6_readVine_0 : decode cX6_readVine 0 = .ok (.aload_n 0, 1) := by decide +kernel
theorem dX6_readVine_1 : decode cX6_readVine 1 = .ok (.getfield 91, 3) := by decide +kernel
theorem dX6_readVine_4 : decode cX6_readVine 4 = .ok (.iload_n 1, 1) := by decide +kernel
theorem dX6_readVine_5 : decode cX6_readVine 5 = .ok (.if_icmp .ge 17, 3) := by decide +kernel
theorem dX6_readVine_8 : decode cX6_readVine 8 = .ok (.aload_n 0, 1) := by decide +kernel
theorem dX6_readVine_9 : decode cX6_readVine 9 = .ok (.getfield 16, 3) := by decide +kernel
theorem dX6_readVine_12 : decode cX6_readVine 12 = .ok (.aload_n 0, 1) := by decide +kernel
theorem dX6_readVine_13 : decode cX6_readVine 13 = .ok (.getfield 91, 3) := by decide +kernel
theorem dX6_readVine_16 : decode cX6_readVine 16 = .ok (.iaload, 1) := by decide +kernel
theorem dX6_readVine_17 : decode cX6_readVine 17 = .ok (.bipush 118, 2) := by decide +kernel
theorem dX6_readVine_19 : decode cX6_readVine 19 = .ok (.if_icmp .eq 5, 3) := by decide +kernel
theorem dX6_readVine_22 : decode cX6_readVine 22 = .ok (.iconst 0, 1) := by decide +kernel
theorem dX6_readVine_23 : decode cX6_readVine 23 = .ok (.ireturn, 1) := by decide +kernel
theorem dX6_readVine_24 : decode cX6_readVine 24 = .ok (.aload_n 0, 1) := by decide +kernel
theorem dX6_readVine_25 : decode cX6_readVine 25 = .ok (.dup, 1) := by decide +kernel
theorem dX6_readVine_26 : decode cX6_readVine 26 = .ok (.getfield 91, 3) := by decide +kernel
theorem dX6_readVine_29 : decode cX6_readVine 29 = .ok (.iconst 1, 1) := by decide +kernel
theorem dX6_readVine_30 : decode cX6_readVine 30 = .ok (.iadd, 1) := by decide +kernel
theorem dX6_readVine_31 : decode cX6_readVine 31 = .ok (.putfield 91, 3) := by decide +kernel
theorem dX6_readVine_34 : decode cX6_readVine 34 = .ok (.aload_n 0, 1) := by decide +kernel
theorem dX6_readVine_35 : decode cX6_readVine 35 = .ok (.aload_n 0, 1) := by decide +kernel
theorem dX6_readVine_36 : decode cX6_readVine 36 = .ok (.iload_n 1, 1) := by decide +kernel
theorem dX6_readVine_37 : decode cX6_readVine 37 = .ok (.iconst 2, 1) := by decide +kernel
theorem dX6_readVine_38 : decode cX6_readVine 38 = .ok (.bipush 8, 2) := by decide +kernel
theorem dX6_readVine_40 : decode cX6_readVine 40 = .ok (.invokevirtual 123, 3) := by decide +kernel
theorem dX6_readVine_43 : decode cX6_readVine 43 = .ok (.putfield 111, 3) := by decide +kernel
theorem dX6_readVine_46 : decode cX6_readVine 46 = .ok (.aload_n 0, 1) := by decide +kernel
theorem dX6_readVine_47 : decode cX6_readVine 47 = .ok (.getfield 111, 3) := by decide +kernel
theorem dX6_readVine_50 : decode cX6_readVine 50 = .ok (.bipush (-9), 2) := by decide +kernel
theorem dX6_readVine_52 : decode cX6_readVine 52 = .ok (.if_icmp .ne 5, 3) := by decide +kernel
theorem dX6_readVine_55 : decode cX6_readVine 55 = .ok (.iconst 0, 1) := by decide +kernel
theorem dX6_readVine_56 : decode cX6_readVine 56 = .ok (.ireturn, 1) := by decide +kernel
theorem dX6_readVine_57 : decode cX6_readVine 57 = .ok (.iconst 0, 1) := by decide +kernel
theorem dX6_readVine_58 : decode cX6_readVine 58 = .ok (.istore_n 2, 1) := by decide +kernel
theorem dX6_readVine_59 : decode cX6_readVine 59 = .ok (.iload_n 2, 1) := by decide +kernel
theorem dX6_readVine_60 : decode cX6_readVine 60 = .ok (.aload_n 0, 1) := by decide +kernel
theorem dX6_readVine_61 : decode cX6_readVine 61 = .ok (.getfield 111, 3) := by decide +kernel
theorem dX6_readVine_64 : decode cX6_readVine 64 = .ok (.iconst 2, 1) := by decide +kernel
theorem dX6_readVine_65 : decode cX6_readVine 65 = .ok (.isub, 1) := by decide +kernel
theorem dX6_readVine_66 : decode cX6_readVine 66 = .ok (.if_icmp .ge 40, 3) := by decide +kernel
theorem dX6_readVine_69 : decode cX6_readVine 69 = .ok (.aload_n 0, 1) := by decide +kernel
theorem dX6_readVine_70 : decode cX6_readVine 70 = .ok (.getfield 28, 3) := by decide +kernel
theorem dX6_readVine_73 : decode cX6_readVine 73 = .ok (.iload_n 2, 1) := by decide +kernel
theorem dX6_readVine_74 : decode cX6_readVine 74 = .ok (.aload_n 0, 1) := by decide +kernel
theorem dX6_readVine_75 : decode cX6_readVine 75 = .ok (.iload_n 1, 1) := by decide +kernel
theorem dX6_readVine_76 : decode cX6_readVine 76 = .ok (.iconst 0, 1) := by decide +kernel
theorem dX6_readVine_77 : decode cX6_readVine 77 = .ok (.aload_n 0, 1) := by decide +kernel
theorem dX6_readVine_78 : decode cX6_readVine 78 = .ok (.getfield 111, 3) := by decide +kernel
theorem dX6_readVine_81 : decode cX6_readVine 81 = .ok (.iconst 1, 1) := by decide +kernel
theorem dX6_readVine_82 : decode cX6_readVine 82 = .ok (.isub, 1) := by decide +kernel
theorem dX6_readVine_83 : decode cX6_readVine 83 = .ok (.invokevirtual 123, 3) := by decide +kernel
theorem dX6_readVine_86 : decode cX6_readVine 86 = .ok (.iastore, 1) := by decide +kernel
theorem dX6_readVine_87 : decode cX6_readVine 87 = .ok (.aload_n 0, 1) := by decide +kernel
theorem dX6_readVine_88 : decode cX6_readVine 88 = .ok (.getfield 28, 3) := by decide +kernel
theorem dX6_readVine_91 : decode cX6_readVine 91 = .ok (.iload_n 2, 1) := by decide +kernel
theorem dX6_readVine_92 : decode cX6_readVine 92 = .ok (.iaload, 1) := by decide +kernel
theorem dX6_readVine_93 : decode cX6_readVine 93 = .ok (.bipush (-9), 2) := by decide +kernel
theorem dX6_readVine_95 : decode cX6_readVine 95 = .ok (.if_icmp .ne 5, 3) := by decide +kernel
theorem dX6_readVine_98 : decode cX6_readVine 98 = .ok (.iconst 0, 1) := by decide +kernel
theorem dX6_readVine_99 : decode cX6_readVine 99 = .ok (.ireturn, 1) := by decide +kernel
theorem dX6_readVine_100 : decode cX6_readVine 100 = .ok (.iinc 2 1, 3) := by decide +kernel
theorem dX6_readVine_103 : decode cX6_readVine 103 = .ok (.goto (-44), 3) := by decide +kernel
theorem dX6_readVine_106 : decode cX6_readVine 106 = .ok (.iconst 0, 1) := by decide +kernel
theorem dX6_readVine_107 : decode cX6_readVine 107 = .ok (.istore_n 2, 1) := by decide +kernel
theorem dX6_readVine_108 : decode cX6_readVine 108 = .ok (.iload_n 2, 1) := by decide +kernel
theorem dX6_readVine_109 : decode cX6_readVine 109 = .ok (.aload_n 0, 1) := by decide +kernel
theorem dX6_readVine_110 : decode cX6_readVine 110 = .ok (.getfield 111, 3) := by decide +kernel
theorem dX6_readVine_113 : decode cX6_readVine 113 = .ok (.if_icmp .ge 20, 3) := by decide +kernel
theorem dX6_readVine_116 : decode cX6_readVine 116 = .ok (.aload_n 0, 1) := by decide +kernel
theorem dX6_readVine_117 : decode cX6_readVine 117 = .ok (.iload_n 1, 1) := by decide +kernel
theorem dX6_readVine_118 : decode cX6_readVine 118 = .ok (.iload_n 2, 1) := by decide +kernel
theorem dX6_readVine_119 : decode cX6_readVine 119 = .ok (.invokevirtual 127, 3) := by decide +kernel
theorem dX6_readVine_122 : decode cX6_readVine 122 = .ok (.ifCond .ne 5, 3) := by decide +kernel
theorem dX6_readVine_125 : decode cX6_readVine 125 = .ok (.iconst 0, 1) := by decide +kernel
theorem dX6_readVine_126 : decode cX6_readVine 126 = .ok (.ireturn, 1) := by decide +kernel
theorem dX6_readVine_127 : decode cX6_readVine 127 = .ok (.iinc 2 1, 3) := by decide +kernel
theorem dX6_readVine_130 : decode cX6_readVine 130 = .ok (.goto (-22), 3) := by decide +kernel
theorem dX6_readVine_133 : decode cX6_readVine 133 = .ok (.aload_n 0, 1) := by decide +kernel
theorem dX6_readVine_134 : decode cX6_readVine 134 = .ok (.getfield 91, 3) := by decide +kernel
theorem dX6_readVine_137 : decode cX6_readVine 137 = .ok (.iload_n 1, 1) := by decide +kernel
theorem dX6_readVine_138 : decode cX6_readVine 138 = .ok (.if_icmp .ne 7, 3) := by decide +kernel
theorem dX6_readVine_141 : decode cX6_readVine 141 = .ok (.iconst 1, 1) := by decide +kernel
theorem dX6_readVine_142 : decode cX6_readVine 142 = .ok (.goto 4, 3) := by decide +kernel
theorem dX6_readVine_145 : decode cX6_readVine 145 = .ok (.iconst 0, 1) := by decide +kernel
theorem dX6_readVine_146 : decode cX6_readVine 146 = .ok (.ireturn, 1) := by decide +kernel
theorem dX6_readPost_0 : decode cX6_readPost 0 = .ok (.aload_n 0, 1) := by decide +kernel
theorem dX6_readPost_1 : decode cX6_readPost 1 = .ok (.getfield 91, 3) := by decide +kernel
theorem dX6_readPost_4 : decode cX6_readPost 4 = .ok (.iload_n 1, 1) := by decide +kernel
theorem dX6_readPost_5 : decode cX6_readPost 5 = .ok (.if_icmp .ge 15, 3) := by decide +kernel
theorem dX6_readPost_8 : decode cX6_readPost 8 = .ok (.aload_n 0, 1) := by decide +kernel
theorem dX6_readPost_9 : decode cX6_readPost 9 = .ok (.getfield 16, 3) := by decide +kernel
theorem dX6_readPost_12 : decode cX6_readPost 12 = .ok (.aload_n 0, 1) := by decide +kernel
theorem dX6_readPost_13 : decode cX6_readPost 13 = .ok (.getfield 91, 3) := by decide +kernel
theorem dX6_readPost_16 : decode cX6_readPost 16 = .ok (.iaload, 1) := by decide +kernel
theorem dX6_readPost_17 : decode cX6_readPost 17 = .ok (.goto 4, 3) := by decide +kernel
theorem dX6_readPost_20 : decode cX6_readPost 20 = .ok (.iconst 0, 1) := by decide +kernel
theorem dX6_readPost_21 : decode cX6_readPost 21 = .ok (.istore_n 3, 1) := by decide +kernel
theorem dX6_readPost_22 : decode cX6_readPost 22 = .ok (.aload_n 0, 1) := by decide +kernel
theorem dX6_readPost_23 : decode cX6_readPost 23 = .ok (.getfield 31, 3) := by decide +kernel
theorem dX6_readPost_26 : decode cX6_readPost 26 = .ok (.iload_n 2, 1) := by decide +kernel
theorem dX6_readPost_27 : decode cX6_readPost 27 = .ok (.iload_n 3, 1) := by decide +kernel
theorem dX6_readPost_28 : decode cX6_readPost 28 = .ok (.bipush 112, 2) := by decide +kernel
theorem dX6_readPost_30 : decode cX6_readPost 30 = .ok (.if_icmp .ne 7, 3) := by decide +kernel
theorem dX6_readPost_33 : decode cX6_readPost 33 = .ok (.iconst 0, 1) := by decide +kernel
theorem dX6_readPost_34 : decode cX6_readPost 34 = .ok (.goto 25, 3) := by decide +kernel
theorem dX6_readPost_37 : decode cX6_readPost 37 = .ok (.iload_n 3, 1) := by decide +kernel
theorem dX6_readPost_38 : decode cX6_readPost 38 = .ok (.bipush 98, 2) := by decide +kernel
theorem dX6_readPost_40 : decode cX6_readPost 40 = .ok (.if_icmp .ne 7, 3) := by decide +kernel
theorem dX6_readPost_43 : decode cX6_readPost 43 = .ok (.iconst 1, 1) := by decide +kernel
theorem dX6_readPost_44 : decode cX6_readPost 44 = .ok (.goto 15, 3) := by decide +kernel
theorem dX6_readPost_47 : decode cX6_readPost 47 = .ok (.iload_n 3, 1) := by decide +kernel
theorem dX6_readPost_48 : decode cX6_readPost 48 = .ok (.bipush 100, 2) := by decide +kernel
theorem dX6_readPost_50 : decode cX6_readPost 50 = .ok (.if_icmp .ne 7, 3) := by decide +kernel
theorem dX6_readPost_53 : decode cX6_readPost 53 = .ok (.iconst 2, 1) := by decide +kernel
theorem dX6_readPost_54 : decode cX6_readPost 54 = .ok (.goto 5, 3) := by decide +kernel
theorem dX6_readPost_57 : decode cX6_readPost 57 = .ok (.bipush (-9), 2) := by decide +kernel
theorem dX6_readPost_59 : decode cX6_readPost 59 = .ok (.iastore, 1) := by decide +kernel
theorem dX6_readPost_60 : decode cX6_readPost 60 = .ok (.aload_n 0, 1) := by decide +kernel
theorem dX6_readPost_61 : decode cX6_readPost 61 = .ok (.getfield 31, 3) := by decide +kernel
theorem dX6_readPost_64 : decode cX6_readPost 64 = .ok (.iload_n 2, 1) := by decide +kernel
theorem dX6_readPost_65 : decode cX6_readPost 65 = .ok (.iaload, 1) := by decide +kernel
theorem dX6_readPost_66 : decode cX6_readPost 66 = .ok (.bipush (-9), 2) := by decide +kernel
theorem dX6_readPost_68 : decode cX6_readPost 68 = .ok (.if_icmp .ne 5, 3) := by decide +kernel
theorem dX6_readPost_71 : decode cX6_readPost 71 = .ok (.iconst 0, 1) := by decide +kernel
theorem dX6_readPost_72 : decode cX6_readPost 72 = .ok (.ireturn, 1) := by decide +kernel
theorem dX6_readPost_73 : decode cX6_readPost 73 = .ok (.aload_n 0, 1) := by decide +kernel
theorem dX6_readPost_74 : decode cX6_readPost 74 = .ok (.dup, 1) := by decide +kernel
theorem dX6_readPost_75 : decode cX6_readPost 75 = .ok (.getfield 91, 3) := by decide +kernel
theorem dX6_readPost_78 : decode cX6_readPost 78 = .ok (.iconst 1, 1) := by decide +kernel
theorem dX6_readPost_79 : decode cX6_readPost 79 = .ok (.iadd, 1) := by decide +kernel
theorem dX6_readPost_80 : decode cX6_readPost 80 = .ok (.putfield 91, 3) := by decide +kernel
theorem dX6_readPost_83 : decode cX6_readPost 83 = .ok (.aload_n 0, 1) := by decide +kernel
theorem dX6_readPost_84 : decode cX6_readPost 84 = .ok (.getfield 34, 3) := by decide +kernel
theorem dX6_readPost_87 : decode cX6_readPost 87 = .ok (.iload_n 2, 1) := by decide +kernel
theorem dX6_readPost_88 : decode cX6_readPost 88 = .ok (.aload_n 0, 1) := by decide +kernel
theorem dX6_readPost_89 : decode cX6_readPost 89 = .ok (.iload_n 1, 1) := by decide +kernel
theorem dX6_readPost_90 : decode cX6_readPost 90 = .ok (.iconst 0, 1) := by decide +kernel
theorem dX6_readPost_91 : decode cX6_readPost 91 = .ok (.bipush 9, 2) := by decide +kernel
theorem dX6_readPost_93 : decode cX6_readPost 93 = .ok (.invokevirtual 123, 3) := by decide +kernel
theorem dX6_readPost_96 : decode cX6_readPost 96 = .ok (.iastore, 1) := by decide +kernel
theorem dX6_readPost_97 : decode cX6_readPost 97 = .ok (.aload_n 0, 1) := by decide +kernel
theorem dX6_readPost_98 : decode cX6_readPost 98 = .ok (.getfield 34, 3) := by decide +kernel
theorem dX6_readPost_101 : decode cX6_readPost 101 = .ok (.iload_n 2, 1) := by decide +kernel
theorem dX6_readPost_102 : decode cX6_readPost 102 = .ok (.iaload, 1) := by decide +kernel
theorem dX6_readPost_103 : decode cX6_readPost 103 = .ok (.bipush (-9), 2) := by decide +kernel
theorem dX6_readPost_105 : decode cX6_readPost 105 = .ok (.if_icmp .eq 7, 3) := by decide +kernel
theorem dX6_readPost_108 : decode cX6_readPost 108 = .ok (.iconst 1, 1) := by decide +kernel
theorem dX6_readPost_109 : decode cX6_readPost 109 = .ok (.goto 4, 3) := by decide +kernel
theorem dX6_readPost_112 : decode cX6_readPost 112 = .ok (.iconst 0, 1) := by decide +kernel
theorem dX6_readPost_113 : decode cX6_readPost 113 = .ok (.ireturn, 1) := by decide +kernel
theorem dX6_join_0 : decode cX6_join 0 = .ok (.aload_n 0, 1) := by decide +kernel
theorem dX6_join_1 : decode cX6_join 1 = .ok (.getfield 19, 3) := by decide +kernel
theorem dX6_join_4 : decode cX6_join 4 = .ok (.iload_n 1, 1) := by decide +kernel
theorem dX6_join_5 : decode cX6_join 5 = .ok (.dup2, 1) := by decide +kernel
theorem dX6_join_6 : decode cX6_join 6 = .ok (.iaload, 1) := by decide +kernel
theorem dX6_join_7 : decode cX6_join 7 = .ok (.iconst 1, 1) := by decide +kernel
theorem dX6_join_8 : decode cX6_join 8 = .ok (.iload_n 2, 1) := by decide +kernel
theorem dX6_join_9 : decode cX6_join 9 = .ok (.ishl, 1) := by decide +kernel
theorem dX6_join_10 : decode cX6_join 10 = .ok (.ior, 1) := by decide +kernel
theorem dX6_join_11 : decode cX6_join 11 = .ok (.iastore, 1) := by decide +kernel
theorem dX6_join_12 : decode cX6_join 12 = .ok (.aload_n 0, 1) := by decide +kernel
theorem dX6_join_13 : decode cX6_join 13 = .ok (.getfield 19, 3) := by decide +kernel
theorem dX6_join_16 : decode cX6_join 16 = .ok (.iload_n 2, 1) := by decide +kernel
theorem dX6_join_17 : decode cX6_join 17 = .ok (.dup2, 1) := by decide +kernel
theorem dX6_join_18 : decode cX6_join 18 = .ok (.iaload, 1) := by decide +kernel
theorem dX6_join_19 : decode cX6_join 19 = .ok (.iconst 1, 1) := by decide +kernel
theorem dX6_join_20 : decode cX6_join 20 = .ok (.iload_n 1, 1) := by decide +kernel
theorem dX6_join_21 : decode cX6_join 21 = .ok (.ishl, 1) := by decide +kernel
theorem dX6_join_22 : decode cX6_join 22 = .ok (.ior, 1) := by decide +kernel
theorem dX6_join_23 : decode cX6_join 23 = .ok (.iastore, 1) := by decide +kernel
theorem dX6_join_24 : decode cX6_join 24 = .ok (.return_, 1) := by decide +kernel
theorem dX6_unjoin_0 : decode cX6_unjoin 0 = .ok (.aload_n 0, 1) := by decide +kernel
theorem dX6_unjoin_1 : decode cX6_unjoin 1 = .ok (.getfield 19, 3) := by decide +kernel
theorem dX6_unjoin_4 : decode cX6_unjoin 4 = .ok (.iload_n 1, 1) := by decide +kernel
theorem dX6_unjoin_5 : decode cX6_unjoin 5 = .ok (.dup2, 1) := by decide +kernel
theorem dX6_unjoin_6 : decode cX6_unjoin 6 = .ok (.iaload, 1) := by decide +kernel
theorem dX6_unjoin_7 : decode cX6_unjoin 7 = .ok (.iconst 1, 1) := by decide +kernel
theorem dX6_unjoin_8 : decode cX6_unjoin 8 = .ok (.iload_n 2, 1) := by decide +kernel
theorem dX6_unjoin_9 : decode cX6_unjoin 9 = .ok (.ishl, 1) := by decide +kernel
theorem dX6_unjoin_10 : decode cX6_unjoin 10 = .ok (.iconst (-1), 1) := by decide +kernel
theorem dX6_unjoin_11 : decode cX6_unjoin 11 = .ok (.ixor, 1) := by decide +kernel
theorem dX6_unjoin_12 : decode cX6_unjoin 12 = .ok (.iand, 1) := by decide +kernel
theorem dX6_unjoin_13 : decode cX6_unjoin 13 = .ok (.iastore, 1) := by decide +kernel
theorem dX6_unjoin_14 : decode cX6_unjoin 14 = .ok (.aload_n 0, 1) := by decide +kernel
theorem dX6_unjoin_15 : decode cX6_unjoin 15 = .ok (.getfield 19, 3) := by decide +kernel
theorem dX6_unjoin_18 : decode cX6_unjoin 18 = .ok (.iload_n 2, 1) := by decide +kernel
theorem dX6_unjoin_19 : decode cX6_unjoin 19 = .ok (.dup2, 1) := by decide +kernel
theorem dX6_unjoin_20 : decode cX6_unjoin 20 = .ok (.iaload, 1) := by decide +kernel
theorem dX6_unjoin_21 : decode cX6_unjoin 21 = .ok (.iconst 1, 1) := by decide +kernel
theorem dX6_unjoin_22 : decode cX6_unjoin 22 = .ok (.iload_n 1, 1) := by decide +kernel
theorem dX6_unjoin_23 : decode cX6_unjoin 23 = .ok (.ishl, 1) := by decide +kernel
theorem dX6_unjoin_24 : decode cX6_unjoin 24 = .ok (.iconst (-1), 1) := by decide +kernel
theorem dX6_unjoin_25 : decode cX6_unjoin 25 = .ok (.ixor, 1) := by decide +kernel
theorem dX6_unjoin_26 : decode cX6_unjoin 26 = .ok (.iand, 1) := by decide +kernel
theorem dX6_unjoin_27 : decode cX6_unjoin 27 = .ok (.iastore, 1) := by decide +kernel
theorem dX6_unjoin_28 : decode cX6_unjoin 28 = .ok (.return_, 1) := by decide +kernel
theorem dX6_growVine_0 : decode cX6_growVine 0 = .ok (.iconst 0, 1) := by decide +kernel
theorem dX6_growVine_1 : decode cX6_growVine 1 = .ok (.istore_n 1, 1) := by decide +kernel
theorem dX6_growVine_2 : decode cX6_growVine 2 = .ok (.iload_n 1, 1) := by decide +kernel
theorem dX6_growVine_3 : decode cX6_growVine 3 = .ok (.bipush 8, 2) := by decide +kernel
theorem dX6_growVine_5 : decode cX6_growVine 5 = .ok (.if_icmp .ge 16, 3) := by decide +kernel
theorem dX6_growVine_8 : decode cX6_growVine 8 = .ok (.aload_n 0, 1) := by decide +kernel
theorem dX6_growVine_9 : decode cX6_growVine 9 = .ok (.getfield 19, 3) := by decide +kernel
theorem dX6_growVine_12 : decode cX6_growVine 12 = .ok (.iload_n 1, 1) := by decide +kernel
theorem dX6_growVine_13 : decode cX6_growVine 13 = .ok (.iconst 0, 1) := by decide +kernel
theorem dX6_growVine_14 : decode cX6_growVine 14 = .ok (.iastore, 1) := by decide +kernel
theorem dX6_growVine_15 : decode cX6_growVine 15 = .ok (.iinc 1 1, 3) := by decide +kernel
theorem dX6_growVine_18 : decode cX6_growVine 18 = .ok (.goto (-16), 3) := by decide +kernel
theorem dX6_growVine_21 : decode cX6_growVine 21 = .ok (.iconst 1, 1) := by decide +kernel
theorem dX6_growVine_22 : decode cX6_growVine 22 = .ok (.aload_n 0, 1) := by decide +kernel
theorem dX6_growVine_23 : decode cX6_growVine 23 = .ok (.getfield 80, 3) := by decide +kernel
theorem dX6_growVine_26 : decode cX6_growVine 26 = .ok (.ishl, 1) := by decide +kernel
theorem dX6_growVine_27 : decode cX6_growVine 27 = .ok (.iconst 1, 1) := by decide +kernel
theorem dX6_growVine_28 : decode cX6_growVine 28 = .ok (.isub, 1) := by decide +kernel
theorem dX6_growVine_29 : decode cX6_growVine 29 = .ok (.istore_n 1, 1) := by decide +kernel
theorem dX6_growVine_30 : decode cX6_growVine 30 = .ok (.iconst 0, 1) := by decide +kernel
theorem dX6_growVine_31 : decode cX6_growVine 31 = .ok (.istore_n 2, 1) := by decide +kernel
theorem dX6_growVine_32 : decode cX6_growVine 32 = .ok (.iload_n 2, 1) := by decide +kernel
theorem dX6_growVine_33 : decode cX6_growVine 33 = .ok (.aload_n 0, 1) := by decide +kernel
theorem dX6_growVine_34 : decode cX6_growVine 34 = .ok (.getfield 80, 3) := by decide +kernel
theorem dX6_growVine_37 : decode cX6_growVine 37 = .ok (.iconst 2, 1) := by decide +kernel
theorem dX6_growVine_38 : decode cX6_growVine 38 = .ok (.isub, 1) := by decide +kernel
theorem dX6_growVine_39 : decode cX6_growVine 39 = .ok (.if_icmp .ge 74, 3) := by decide +kernel
theorem dX6_growVine_42 : decode cX6_growVine 42 = .ok (.iconst 0, 1) := by decide +kernel
theorem dX6_growVine_43 : decode cX6_growVine 43 = .ok (.istore_n 3, 1) := by decide +kernel
theorem dX6_growVine_44 : decode cX6_growVine 44 = .ok (.iload_n 2, 1) := by decide +kernel
theorem dX6_growVine_45 : decode cX6_growVine 45 = .ok (.istore 4, 2) := by decide +kernel
theorem dX6_growVine_47 : decode cX6_growVine 47 = .ok (.iload 4, 2) := by decide +kernel
theorem dX6_growVine_49 : decode cX6_growVine 49 = .ok (.aload_n 0, 1) := by decide +kernel
theorem dX6_growVine_50 : decode cX6_growVine 50 = .ok (.getfield 80, 3) := by decide +kernel
theorem dX6_growVine_53 : decode cX6_growVine 53 = .ok (.iconst 2, 1) := by decide +kernel
theorem dX6_growVine_54 : decode cX6_growVine 54 = .ok (.isub, 1) := by decide +kernel
theorem dX6_growVine_55 : decode cX6_growVine 55 = .ok (.if_icmp .ge 21, 3) := by decide +kernel
theorem dX6_growVine_58 : decode cX6_growVine 58 = .ok (.iload_n 3, 1) := by decide +kernel
theorem dX6_growVine_59 : decode cX6_growVine 59 = .ok (.iconst 1, 1) := by decide +kernel
theorem dX6_growVine_60 : decode cX6_growVine 60 = .ok (.aload_n 0, 1) := by decide +kernel
theorem dX6_growVine_61 : decode cX6_growVine 61 = .ok (.getfield 28, 3) := by decide +kernel
theorem dX6_growVine_64 : decode cX6_growVine 64 = .ok (.iload 4, 2) := by decide +kernel
theorem dX6_growVine_66 : decode cX6_growVine 66 = .ok (.iaload, 1) := by decide +kernel
theorem dX6_growVine_67 : decode cX6_growVine 67 = .ok (.ishl, 1) := by decide +kernel
theorem dX6_growVine_68 : decode cX6_growVine 68 = .ok (.ior, 1) := by decide +kernel
theorem dX6_growVine_69 : decode cX6_growVine 69 = .ok (.istore_n 3, 1) := by decide +kernel
theorem dX6_growVine_70 : decode cX6_growVine 70 = .ok (.iinc 4 1, 3) := by decide +kernel
theorem dX6_growVine_73 : decode cX6_growVine 73 = .ok (.goto (-26), 3) := by decide +kernel
theorem dX6_growVine_76 : decode cX6_growVine 76 = .ok (.iload_n 1, 1) := by decide +kernel
theorem dX6_growVine_77 : decode cX6_growVine 77 = .ok (.iload_n 3, 1) := by decide +kernel
theorem dX6_growVine_78 : decode cX6_growVine 78 = .ok (.iconst (-1), 1) := by decide +kernel
theorem dX6_growVine_79 : decode cX6_growVine 79 = .ok (.ixor, 1) := by decide +kernel
theorem dX6_growVine_80 : decode cX6_growVine 80 = .ok (.iand, 1) := by decide +kernel
theorem dX6_growVine_81 : decode cX6_growVine 81 = .ok (.invokestatic 130, 3) := by decide +kernel
theorem dX6_growVine_84 : decode cX6_growVine 84 = .ok (.istore 4, 2) := by decide +kernel
theorem dX6_growVine_86 : decode cX6_growVine 86 = .ok (.aload_n 0, 1) := by decide +kernel
theorem dX6_growVine_87 : decode cX6_growVine 87 = .ok (.iload 4, 2) := by decide +kernel
theorem dX6_growVine_89 : decode cX6_growVine 89 = .ok (.aload_n 0, 1) := by decide +kernel
theorem dX6_growVine_90 : decode cX6_growVine 90 = .ok (.getfield 28, 3) := by decide +kernel
theorem dX6_growVine_93 : decode cX6_growVine 93 = .ok (.iload_n 2, 1) := by decide +kernel
theorem dX6_growVine_94 : decode cX6_growVine 94 = .ok (.iaload, 1) := by decide +kernel
theorem dX6_growVine_95 : decode cX6_growVine 95 = .ok (.invokevirtual 133, 3) := by decide +kernel
theorem dX6_growVine_98 : decode cX6_growVine 98 = .ok (.iload_n 1, 1) := by decide +kernel
theorem dX6_growVine_99 : decode cX6_growVine 99 = .ok (.iconst 1, 1) := by decide +kernel
theorem dX6_growVine_100 : decode cX6_growVine 100 = .ok (.iload 4, 2) := by decide +kernel
theorem dX6_growVine_102 : decode cX6_growVine 102 = .ok (.ishl, 1) := by decide +kernel
theorem dX6_growVine_103 : decode cX6_growVine 103 = .ok (.iconst (-1), 1) := by decide +kernel
theorem dX6_growVine_104 : decode cX6_growVine 104 = .ok (.ixor, 1) := by decide +kernel
theorem dX6_growVine_105 : decode cX6_growVine 105 = .ok (.iand, 1) := by decide +kernel
theorem dX6_growVine_106 : decode cX6_growVine 106 = .ok (.istore_n 1, 1) := by decide +kernel
theorem dX6_growVine_107 : decode cX6_growVine 107 = .ok (.iinc 2 1, 3) := by decide +kernel
theorem dX6_growVine_110 : decode cX6_growVine 110 = .ok (.goto (-78), 3) := by decide +kernel
theorem dX6_growVine_113 : decode cX6_growVine 113 = .ok (.iload_n 1, 1) := by decide +kernel
theorem dX6_growVine_114 : decode cX6_growVine 114 = .ok (.invokestatic 130, 3) := by decide +kernel
theorem dX6_growVine_117 : decode cX6_growVine 117 = .ok (.istore_n 2, 1) := by decide +kernel
theorem dX6_growVine_118 : decode cX6_growVine 118 = .ok (.aload_n 0, 1) := by decide +kernel
theorem dX6_growVine_119 : decode cX6_growVine 119 = .ok (.iload_n 2, 1) := by decide +kernel
theorem dX6_growVine_120 : decode cX6_growVine 120 = .ok (.iload_n 1, 1) := by decide +kernel
theorem dX6_growVine_121 : decode cX6_growVine 121 = .ok (.iconst 1, 1) := by decide +kernel
theorem dX6_growVine_122 : decode cX6_growVine 122 = .ok (.iload_n 2, 1) := by decide +kernel
theorem dX6_growVine_123 : decode cX6_growVine 123 = .ok (.ishl, 1) := by decide +kernel
theorem dX6_growVine_124 : decode cX6_growVine 124 = .ok (.iconst (-1), 1) := by decide +kernel
theorem dX6_growVine_125 : decode cX6_growVine 125 = .ok (.ixor, 1) := by decide +kernel
theorem dX6_growVine_126 : decode cX6_growVine 126 = .ok (.iand, 1) := by decide +kernel
theorem dX6_growVine_127 : decode cX6_growVine 127 = .ok (.invokestatic 130, 3) := by decide +kernel
theorem dX6_growVine_130 : decode cX6_growVine 130 = .ok (.invokevirtual 133, 3) := by decide +kernel
theorem dX6_growVine_133 : decode cX6_growVine 133 = .ok (.return_, 1) := by decide +kernel
theorem dX6_worthOf_0 : decode cX6_worthOf 0 = .ok (.aload_n 0, 1) := by decide +kernel
theorem dX6_worthOf_1 : decode cX6_worthOf 1 = .ok (.getfield 22, 3) := by decide +kernel
theorem dX6_worthOf_4 : decode cX6_worthOf 4 = .ok (.iload_n 1, 1) := by decide +kernel
theorem dX6_worthOf_5 : decode cX6_worthOf 5 = .ok (.iaload, 1) := by decide +kernel
theorem dX6_worthOf_6 : decode cX6_worthOf 6 = .ok (.ifCond .ne 12, 3) := by decide +kernel
theorem dX6_worthOf_9 : decode cX6_worthOf 9 = .ok (.aload_n 0, 1) := by decide +kernel
theorem dX6_worthOf_10 : decode cX6_worthOf 10 = .ok (.getfield 25, 3) := by decide +kernel
theorem dX6_worthOf_13 : decode cX6_worthOf 13 = .ok (.iload_n 1, 1) := by decide +kernel
theorem dX6_worthOf_14 : decode cX6_worthOf 14 = .ok (.iaload, 1) := by decide +kernel
theorem dX6_worthOf_15 : decode cX6_worthOf 15 = .ok (.goto 32, 3) := by decide +kernel
theorem dX6_worthOf_18 : decode cX6_worthOf 18 = .ok (.aload_n 0, 1) := by decide +kernel
theorem dX6_worthOf_19 : decode cX6_worthOf 19 = .ok (.getfield 22, 3) := by decide +kernel
theorem dX6_worthOf_22 : decode cX6_worthOf 22 = .ok (.iload_n 1, 1) := by decide +kernel
theorem dX6_worthOf_23 : decode cX6_worthOf 23 = .ok (.iaload, 1) := by decide +kernel
theorem dX6_worthOf_24 : decode cX6_worthOf 24 = .ok (.iconst 1, 1) := by decide +kernel
theorem dX6_worthOf_25 : decode cX6_worthOf 25 = .ok (.if_icmp .ne 14, 3) := by decide +kernel
theorem dX6_worthOf_28 : decode cX6_worthOf 28 = .ok (.aload_n 0, 1) := by decide +kernel
theorem dX6_worthOf_29 : decode cX6_worthOf 29 = .ok (.getfield 25, 3) := by decide +kernel
theorem dX6_worthOf_32 : decode cX6_worthOf 32 = .ok (.iload_n 1, 1) := by decide +kernel
theorem dX6_worthOf_33 : decode cX6_worthOf 33 = .ok (.iaload, 1) := by decide +kernel
theorem dX6_worthOf_34 : decode cX6_worthOf 34 = .ok (.iconst 1, 1) := by decide +kernel
theorem dX6_worthOf_35 : decode cX6_worthOf 35 = .ok (.iadd, 1) := by decide +kernel
theorem dX6_worthOf_36 : decode cX6_worthOf 36 = .ok (.goto 11, 3) := by decide +kernel
theorem dX6_worthOf_39 : decode cX6_worthOf 39 = .ok (.iconst 2, 1) := by decide +kernel
theorem dX6_worthOf_40 : decode cX6_worthOf 40 = .ok (.aload_n 0, 1) := by decide +kernel
theorem dX6_worthOf_41 : decode cX6_worthOf 41 = .ok (.getfield 25, 3) := by decide +kernel
theorem dX6_worthOf_44 : decode cX6_worthOf 44 = .ok (.iload_n 1, 1) := by decide +kernel
theorem dX6_worthOf_45 : decode cX6_worthOf 45 = .ok (.iaload, 1) := by decide +kernel
theorem dX6_worthOf_46 : decode cX6_worthOf 46 = .ok (.imul, 1) := by decide +kernel
theorem dX6_worthOf_47 : decode cX6_worthOf 47 = .ok (.ireturn, 1) := by decide +kernel
theorem dX6_worthOfSet_0 : decode cX6_worthOfSet 0 = .ok (.iconst 0, 1) := by decide +kernel
theorem dX6_worthOfSet_1 : decode cX6_worthOfSet 1 = .ok (.istore_n 2, 1) := by decide +kernel
theorem dX6_worthOfSet_2 : decode cX6_worthOfSet 2 = .ok (.iconst 0, 1) := by decide +kernel
theorem dX6_worthOfSet_3 : decode cX6_worthOfSet 3 = .ok (.istore_n 3, 1) := by decide +kernel
theorem dX6_worthOfSet_4 : decode cX6_worthOfSet 4 = .ok (.iload_n 3, 1) := by decide +kernel
theorem dX6_worthOfSet_5 : decode cX6_worthOfSet 5 = .ok (.aload_n 0, 1) := by decide +kernel
theorem dX6_worthOfSet_6 : decode cX6_worthOfSet 6 = .ok (.getfield 80, 3) := by decide +kernel
theorem dX6_worthOfSet_9 : decode cX6_worthOfSet 9 = .ok (.if_icmp .ge 29, 3) := by decide +kernel
theorem dX6_worthOfSet_12 : decode cX6_worthOfSet 12 = .ok (.iload_n 2, 1) := by decide +kernel
theorem dX6_worthOfSet_13 : decode cX6_worthOfSet 13 = .ok (.iload_n 1, 1) := by decide +kernel
theorem dX6_worthOfSet_14 : decode cX6_worthOfSet 14 = .ok (.iload_n 3, 1) := by decide +kernel
theorem dX6_worthOfSet_15 : decode cX6_worthOfSet 15 = .ok (.invokestatic 87, 3) := by decide +kernel
theorem dX6_worthOfSet_18 : decode cX6_worthOfSet 18 = .ok (.ifCond .eq 11, 3) := by decide +kernel
theorem dX6_worthOfSet_21 : decode cX6_worthOfSet 21 = .ok (.aload_n 0, 1) := by decide +kernel
theorem dX6_worthOfSet_22 : decode cX6_worthOfSet 22 = .ok (.iload_n 3, 1) := by decide +kernel
theorem dX6_worthOfSet_23 : decode cX6_worthOfSet 23 = .ok (.invokevirtual 137, 3) := by decide +kernel
theorem dX6_worthOfSet_26 : decode cX6_worthOfSet 26 = .ok (.goto 4, 3) := by decide +kernel
theorem dX6_worthOfSet_29 : decode cX6_worthOfSet 29 = .ok (.iconst 0, 1) := by decide +kernel
theorem dX6_worthOfSet_30 : decode cX6_worthOfSet 30 = .ok (.iadd, 1) := by decide +kernel
theorem dX6_worthOfSet_31 : decode cX6_worthOfSet 31 = .ok (.istore_n 2, 1) := by decide +kernel
theorem dX6_worthOfSet_32 : decode cX6_worthOfSet 32 = .ok (.iinc 3 1, 3) := by decide +kernel
theorem dX6_worthOfSet_35 : decode cX6_worthOfSet 35 = .ok (.goto (-31), 3) := by decide +kernel
theorem dX6_worthOfSet_38 : decode cX6_worthOfSet 38 = .ok (.iload_n 2, 1) := by decide +kernel
theorem dX6_worthOfSet_39 : decode cX6_worthOfSet 39 = .ok (.ireturn, 1) := by decide +kernel
theorem dX6_ends_0 : decode cX6_ends 0 = .ok (.iconst 0, 1) := by decide +kernel
theorem dX6_ends_1 : decode cX6_ends 1 = .ok (.istore_n 1, 1) := by decide +kernel
theorem dX6_ends_2 : decode cX6_ends 2 = .ok (.iconst 0, 1) := by decide +kernel
theorem dX6_ends_3 : decode cX6_ends 3 = .ok (.istore_n 2, 1) := by decide +kernel
theorem dX6_ends_4 : decode cX6_ends 4 = .ok (.iload_n 2, 1) := by decide +kernel
theorem dX6_ends_5 : decode cX6_ends 5 = .ok (.aload_n 0, 1) := by decide +kernel
theorem dX6_ends_6 : decode cX6_ends 6 = .ok (.getfield 80, 3) := by decide +kernel
theorem dX6_ends_9 : decode cX6_ends 9 = .ok (.if_icmp .ge 32, 3) := by decide +kernel
theorem dX6_ends_12 : decode cX6_ends 12 = .ok (.iload_n 1, 1) := by decide +kernel
theorem dX6_ends_13 : decode cX6_ends 13 = .ok (.aload_n 0, 1) := by decide +kernel
theorem dX6_ends_14 : decode cX6_ends 14 = .ok (.getfield 19, 3) := by decide +kernel
theorem dX6_ends_17 : decode cX6_ends 17 = .ok (.iload_n 2, 1) := by decide +kernel
theorem dX6_ends_18 : decode cX6_ends 18 = .ok (.iaload, 1) := by decide +kernel
theorem dX6_ends_19 : decode cX6_ends 19 = .ok (.invokestatic 140, 3) := by decide +kernel
theorem dX6_ends_22 : decode cX6_ends 22 = .ok (.iconst 1, 1) := by decide +kernel
theorem dX6_ends_23 : decode cX6_ends 23 = .ok (.if_icmp .ne 9, 3) := by decide +kernel
theorem dX6_ends_26 : decode cX6_ends 26 = .ok (.iconst 1, 1) := by decide +kernel
theorem dX6_ends_27 : decode cX6_ends 27 = .ok (.iload_n 2, 1) := by decide +kernel
theorem dX6_ends_28 : decode cX6_ends 28 = .ok (.ishl, 1) := by decide +kernel
theorem dX6_ends_29 : decode cX6_ends 29 = .ok (.goto 4, 3) := by decide +kernel
theorem dX6_ends_32 : decode cX6_ends 32 = .ok (.iconst 0, 1) := by decide +kernel
theorem dX6_ends_33 : decode cX6_ends 33 = .ok (.ior, 1) := by decide +kernel
theorem dX6_ends_34 : decode cX6_ends 34 = .ok (.istore_n 1, 1) := by decide +kernel
theorem dX6_ends_35 : decode cX6_ends 35 = .ok (.iinc 2 1, 3) := by decide +kernel
theorem dX6_ends_38 : decode cX6_ends 38 = .ok (.goto (-34), 3) := by decide +kernel
theorem dX6_ends_41 : decode cX6_ends 41 = .ok (.iload_n 1, 1) := by decide +kernel
theorem dX6_ends_42 : decode cX6_ends 42 = .ok (.ireturn, 1) := by decide +kernel
theorem dX6_findFars_0 : decode cX6_findFars 0 = .ok (.iconst 0, 1) := by decide +kernel
theorem dX6_findFars_1 : decode cX6_findFars 1 = .ok (.istore_n 1, 1) := by decide +kernel
theorem dX6_findFars_2 : decode cX6_findFars 2 = .ok (.iload_n 1, 1) := by decide +kernel
theorem dX6_findFars_3 : decode cX6_findFars 3 = .ok (.aload_n 0, 1) := by decide +kernel
theorem dX6_findFars_4 : decode cX6_findFars 4 = .ok (.getfield 80, 3) := by decide +kernel
theorem dX6_findFars_7 : decode cX6_findFars 7 = .ok (.if_icmp .ge 95, 3) := by decide +kernel
theorem dX6_findFars_10 : decode cX6_findFars 10 = .ok (.iconst 0, 1) := by decide +kernel
theorem dX6_findFars_11 : decode cX6_findFars 11 = .ok (.istore_n 2, 1) := by decide +kernel
theorem dX6_findFars_12 : decode cX6_findFars 12 = .ok (.iconst 1, 1) := by decide +kernel
theorem dX6_findFars_13 : decode cX6_findFars 13 = .ok (.iload_n 1, 1) := by decide +kernel
theorem dX6_findFars_14 : decode cX6_findFars 14 = .ok (.ishl, 1) := by decide +kernel
theorem dX6_findFars_15 : decode cX6_findFars 15 = .ok (.istore_n 3, 1) := by decide +kernel
theorem dX6_findFars_16 : decode cX6_findFars 16 = .ok (.iconst 0, 1) := by decide +kernel
theorem dX6_findFars_17 : decode cX6_findFars 17 = .ok (.istore 4, 2) := by decide +kernel
theorem dX6_findFars_19 : decode cX6_findFars 19 = .ok (.iload_n 3, 1) := by decide +kernel
theorem dX6_findFars_20 : decode cX6_findFars 20 = .ok (.ifCond .eq 76, 3) := by decide +kernel
theorem dX6_findFars_23 : decode cX6_findFars 23 = .ok (.iconst 0, 1) := by decide +kernel
theorem dX6_findFars_24 : decode cX6_findFars 24 = .ok (.istore 5, 2) := by decide +kernel
theorem dX6_findFars_26 : decode cX6_findFars 26 = .ok (.iconst 0, 1) := by decide +kernel
theorem dX6_findFars_27 : decode cX6_findFars 27 = .ok (.istore 6, 2) := by decide +kernel
theorem dX6_findFars_29 : decode cX6_findFars 29 = .ok (.iload 6, 2) := by decide +kernel
theorem dX6_findFars_31 : decode cX6_findFars 31 = .ok (.aload_n 0, 1) := by decide +kernel
theorem dX6_findFars_32 : decode cX6_findFars 32 = .ok (.getfield 80, 3) := by decide +kernel
theorem dX6_findFars_35 : decode cX6_findFars 35 = .ok (.if_icmp .ge 44, 3) := by decide +kernel
theorem dX6_findFars_38 : decode cX6_findFars 38 = .ok (.iload_n 3, 1) := by decide +kernel
theorem dX6_findFars_39 : decode cX6_findFars 39 = .ok (.iload 6, 2) := by decide +kernel
theorem dX6_findFars_41 : decode cX6_findFars 41 = .ok (.invokestatic 87, 3) := by decide +kernel
theorem dX6_findFars_44 : decode cX6_findFars 44 = .ok (.ifCond .eq 29, 3) := by decide +kernel
theorem dX6_findFars_47 : decode cX6_findFars 47 = .ok (.aload_n 0, 1) := by decide +kernel
theorem dX6_findFars_48 : decode cX6_findFars 48 = .ok (.getfield 37, 3) := by decide +kernel
theorem dX6_findFars_51 : decode cX6_findFars 51 = .ok (.bipush 8, 2) := by decide +kernel
theorem dX6_findFars_53 : decode cX6_findFars 53 = .ok (.iload_n 1, 1) := by decide +kernel
theorem dX6_findFars_54 : decode cX6_findFars 54 = .ok (.imul, 1) := by decide +kernel
theorem dX6_findFars_55 : decode cX6_findFars 55 = .ok (.iload 6, 2) := by decide +kernel
theorem dX6_findFars_57 : decode cX6_findFars 57 = .ok (.iadd, 1) := by decide +kernel
theorem dX6_findFars_58 : decode cX6_findFars 58 = .ok (.iload 4, 2) := by decide +kernel
theorem dX6_findFars_60 : decode cX6_findFars 60 = .ok (.iastore, 1) := by decide +kernel
theorem dX6_findFars_61 : decode cX6_findFars 61 = .ok (.iload 5, 2) := by decide +kernel
theorem dX6_findFars_63 : decode cX6_findFars 63 = .ok (.aload_n 0, 1) := by decide +kernel
theorem dX6_findFars_64 : decode cX6_findFars 64 = .ok (.getfield 19, 3) := by decide +kernel
theorem dX6_findFars_67 : decode cX6_findFars 67 = .ok (.iload 6, 2) := by decide +kernel
theorem dX6_findFars_69 : decode cX6_findFars 69 = .ok (.iaload, 1) := by decide +kernel
theorem dX6_findFars_70 : decode cX6_findFars 70 = .ok (.ior, 1) := by decide +kernel
theorem dX6_findFars_71 : decode cX6_findFars 71 = .ok (.istore 5, 2) := by decide +kernel
theorem dX6_findFars_73 : decode cX6_findFars 73 = .ok (.iinc 6 1, 3) := by decide +kernel
theorem dX6_findFars_76 : decode cX6_findFars 76 = .ok (.goto (-47), 3) := by decide +kernel
theorem dX6_findFars_79 : decode cX6_findFars 79 = .ok (.iload_n 2, 1) := by decide +kernel
theorem dX6_findFars_80 : decode cX6_findFars 80 = .ok (.iload_n 3, 1) := by decide +kernel
theorem dX6_findFars_81 : decode cX6_findFars 81 = .ok (.ior, 1) := by decide +kernel
theorem dX6_findFars_82 : decode cX6_findFars 82 = .ok (.istore_n 2, 1) := by decide +kernel
theorem dX6_findFars_83 : decode cX6_findFars 83 = .ok (.iload 5, 2) := by decide +kernel
theorem dX6_findFars_85 : decode cX6_findFars 85 = .ok (.iload_n 2, 1) := by decide +kernel
theorem dX6_findFars_86 : decode cX6_findFars 86 = .ok (.iconst (-1), 1) := by decide +kernel
theorem dX6_findFars_87 : decode cX6_findFars 87 = .ok (.ixor, 1) := by decide +kernel
theorem dX6_findFars_88 : decode cX6_findFars 88 = .ok (.iand, 1) := by decide +kernel
theorem dX6_findFars_89 : decode cX6_findFars 89 = .ok (.istore_n 3, 1) := by decide +kernel
theorem dX6_findFars_90 : decode cX6_findFars 90 = .ok (.iinc 4 1, 3) := by decide +kernel
theorem dX6_findFars_93 : decode cX6_findFars 93 = .ok (.goto (-74), 3) := by decide +kernel
theorem dX6_findFars_96 : decode cX6_findFars 96 = .ok (.iinc 1 1, 3) := by decide +kernel
theorem dX6_findFars_99 : decode cX6_findFars 99 = .ok (.goto (-97), 3) := by decide +kernel
theorem dX6_findFars_102 : decode cX6_findFars 102 = .ok (.return_, 1) := by decide +kernel
theorem dX6_farthestFrom_0 : decode cX6_farthestFrom 0 = .ok (.iconst 0, 1) := by decide +kernel
theorem dX6_farthestFrom_1 : decode cX6_farthestFrom 1 = .ok (.istore_n 2, 1) := by decide +kernel
theorem dX6_farthestFrom_2 : decode cX6_farthestFrom 2 = .ok (.iconst 0, 1) := by decide +kernel
theorem dX6_farthestFrom_3 : decode cX6_farthestFrom 3 = .ok (.istore_n 3, 1) := by decide +kernel
theorem dX6_farthestFrom_4 : decode cX6_farthestFrom 4 = .ok (.iload_n 3, 1) := by decide +kernel
theorem dX6_farthestFrom_5 : decode cX6_farthestFrom 5 = .ok (.aload_n 0, 1) := by decide +kernel
theorem dX6_farthestFrom_6 : decode cX6_farthestFrom 6 = .ok (.getfield 80, 3) := by decide +kernel
theorem dX6_farthestFrom_9 : decode cX6_farthestFrom 9 = .ok (.if_icmp .ge 40, 3) := by decide +kernel
theorem dX6_farthestFrom_12 : decode cX6_farthestFrom 12 = .ok (.aload_n 0, 1) := by decide +kernel
theorem dX6_farthestFrom_13 : decode cX6_farthestFrom 13 = .ok (.getfield 37, 3) := by decide +kernel
theorem dX6_farthestFrom_16 : decode cX6_farthestFrom 16 = .ok (.bipush 8, 2) := by decide +kernel
end
section
theorem dX6_farthestFrom_18 : decode cX6_farthestFrom 18 = .ok (.iload_n 1, 1) := by decide +kernel
theorem dX6_farthestFrom_19 : decode cX6_farthestFrom 19 = .ok (.imul, 1) := by decide +kernel
theorem dX6_farthestFrom_20 : decode cX6_farthestFrom 20 = .ok (.iload_n 3, 1) := by decide +kernel
theorem dX6_farthestFrom_21 : decode cX6_farthestFrom 21 = .ok (.iadd, 1) := by decide +kernel
theorem dX6_farthestFrom_22 : decode cX6_farthestFrom 22 = .ok (.iaload, 1) := by decide +kernel
theorem dX6_farthestFrom_23 : decode cX6_farthestFrom 23 = .ok (.iload_n 2, 1) := by decide +kernel
theorem dX6_farthestFrom_24 : decode cX6_farthestFrom 24 = .ok (.if_icmp .le 17, 3) := by decide +kernel
theorem dX6_farthestFrom_27 : decode cX6_farthestFrom 27 = .ok (.aload_n 0, 1) := by decide +kernel
theorem dX6_farthestFrom_28 : decode cX6_farthestFrom 28 = .ok (.getfield 37, 3) := by decide +kernel
theorem dX6_farthestFrom_31 : decode cX6_farthestFrom 31 = .ok (.bipush 8, 2) := by decide +kernel
theorem dX6_farthestFrom_33 : decode cX6_farthestFrom 33 = .ok (.iload_n 1, 1) := by decide +kernel
theorem dX6_farthestFrom_34 : decode cX6_farthestFrom 34 = .ok (.imul, 1) := by decide +kernel
theorem dX6_farthestFrom_35 : decode cX6_farthestFrom 35 = .ok (.iload_n 3, 1) := by decide +kernel
theorem dX6_farthestFrom_36 : decode cX6_farthestFrom 36 = .ok (.iadd, 1) := by decide +kernel
theorem dX6_farthestFrom_37 : decode cX6_farthestFrom 37 = .ok (.iaload, 1) := by decide +kernel
theorem dX6_farthestFrom_38 : decode cX6_farthestFrom 38 = .ok (.goto 4, 3) := by decide +kernel
theorem dX6_farthestFrom_41 : decode cX6_farthestFrom 41 = .ok (.iload_n 2, 1) := by decide +kernel
theorem dX6_farthestFrom_42 : decode cX6_farthestFrom 42 = .ok (.istore_n 2, 1) := by decide +kernel
theorem dX6_farthestFrom_43 : decode cX6_farthestFrom 43 = .ok (.iinc 3 1, 3) := by decide +kernel
theorem dX6_farthestFrom_46 : decode cX6_farthestFrom 46 = .ok (.goto (-42), 3) := by decide +kernel
theorem dX6_farthestFrom_49 : decode cX6_farthestFrom 49 = .ok (.iload_n 2, 1) := by decide +kernel
theorem dX6_farthestFrom_50 : decode cX6_farthestFrom 50 = .ok (.ireturn, 1) := by decide +kernel
theorem dX6_longest_0 : decode cX6_longest 0 = .ok (.iconst 0, 1) := by decide +kernel
theorem dX6_longest_1 : decode cX6_longest 1 = .ok (.istore_n 1, 1) := by decide +kernel
theorem dX6_longest_2 : decode cX6_longest 2 = .ok (.iconst 0, 1) := by decide +kernel
theorem dX6_longest_3 : decode cX6_longest 3 = .ok (.istore_n 2, 1) := by decide +kernel
theorem dX6_longest_4 : decode cX6_longest 4 = .ok (.iload_n 2, 1) := by decide +kernel
theorem dX6_longest_5 : decode cX6_longest 5 = .ok (.aload_n 0, 1) := by decide +kernel
theorem dX6_longest_6 : decode cX6_longest 6 = .ok (.getfield 80, 3) := by decide +kernel
theorem dX6_longest_9 : decode cX6_longest 9 = .ok (.if_icmp .ge 28, 3) := by decide +kernel
theorem dX6_longest_12 : decode cX6_longest 12 = .ok (.aload_n 0, 1) := by decide +kernel
theorem dX6_longest_13 : decode cX6_longest 13 = .ok (.iload_n 2, 1) := by decide +kernel
theorem dX6_longest_14 : decode cX6_longest 14 = .ok (.invokevirtual 143, 3) := by decide +kernel
theorem dX6_longest_17 : decode cX6_longest 17 = .ok (.iload_n 1, 1) := by decide +kernel
theorem dX6_longest_18 : decode cX6_longest 18 = .ok (.if_icmp .le 11, 3) := by decide +kernel
theorem dX6_longest_21 : decode cX6_longest 21 = .ok (.aload_n 0, 1) := by decide +kernel
theorem dX6_longest_22 : decode cX6_longest 22 = .ok (.iload_n 2, 1) := by decide +kernel
theorem dX6_longest_23 : decode cX6_longest 23 = .ok (.invokevirtual 143, 3) := by decide +kernel
theorem dX6_longest_26 : decode cX6_longest 26 = .ok (.goto 4, 3) := by decide +kernel
theorem dX6_longest_29 : decode cX6_longest 29 = .ok (.iload_n 1, 1) := by decide +kernel
theorem dX6_longest_30 : decode cX6_longest 30 = .ok (.istore_n 1, 1) := by decide +kernel
theorem dX6_longest_31 : decode cX6_longest 31 = .ok (.iinc 2 1, 3) := by decide +kernel
theorem dX6_longest_34 : decode cX6_longest 34 = .ok (.goto (-30), 3) := by decide +kernel
theorem dX6_longest_37 : decode cX6_longest 37 = .ok (.iload_n 1, 1) := by decide +kernel
theorem dX6_longest_38 : decode cX6_longest 38 = .ok (.ireturn, 1) := by decide +kernel
theorem dX6_ofPost_0 : decode cX6_ofPost 0 = .ok (.aload_n 0, 1) := by decide +kernel
theorem dX6_ofPost_1 : decode cX6_ofPost 1 = .ok (.iload_n 1, 1) := by decide +kernel
theorem dX6_ofPost_2 : decode cX6_ofPost 2 = .ok (.invokevirtual 83, 3) := by decide +kernel
theorem dX6_ofPost_5 : decode cX6_ofPost 5 = .ok (.ifCond .ne 5, 3) := by decide +kernel
theorem dX6_ofPost_8 : decode cX6_ofPost 8 = .ok (.iconst (-1), 1) := by decide +kernel
theorem dX6_ofPost_9 : decode cX6_ofPost 9 = .ok (.ireturn, 1) := by decide +kernel
theorem dX6_ofPost_10 : decode cX6_ofPost 10 = .ok (.iload_n 2, 1) := by decide +kernel
theorem dX6_ofPost_11 : decode cX6_ofPost 11 = .ok (.tableswitch 84 0 5 #[37, 44, 51, 57, 67, 74], 37) := by decide +kernel
theorem dX6_ofPost_48 : decode cX6_ofPost 48 = .ok (.aload_n 0, 1) := by decide +kernel
theorem dX6_ofPost_49 : decode cX6_ofPost 49 = .ok (.getfield 22, 3) := by decide +kernel
theorem dX6_ofPost_52 : decode cX6_ofPost 52 = .ok (.iload_n 1, 1) := by decide +kernel
theorem dX6_ofPost_53 : decode cX6_ofPost 53 = .ok (.iaload, 1) := by decide +kernel
theorem dX6_ofPost_54 : decode cX6_ofPost 54 = .ok (.ireturn, 1) := by decide +kernel
theorem dX6_ofPost_55 : decode cX6_ofPost 55 = .ok (.aload_n 0, 1) := by decide +kernel
theorem dX6_ofPost_56 : decode cX6_ofPost 56 = .ok (.getfield 25, 3) := by decide +kernel
theorem dX6_ofPost_59 : decode cX6_ofPost 59 = .ok (.iload_n 1, 1) := by decide +kernel
theorem dX6_ofPost_60 : decode cX6_ofPost 60 = .ok (.iaload, 1) := by decide +kernel
theorem dX6_ofPost_61 : decode cX6_ofPost 61 = .ok (.ireturn, 1) := by decide +kernel
theorem dX6_ofPost_62 : decode cX6_ofPost 62 = .ok (.aload_n 0, 1) := by decide +kernel
theorem dX6_ofPost_63 : decode cX6_ofPost 63 = .ok (.iload_n 1, 1) := by decide +kernel
theorem dX6_ofPost_64 : decode cX6_ofPost 64 = .ok (.invokevirtual 137, 3) := by decide +kernel
theorem dX6_ofPost_67 : decode cX6_ofPost 67 = .ok (.ireturn, 1) := by decide +kernel
theorem dX6_ofPost_68 : decode cX6_ofPost 68 = .ok (.aload_n 0, 1) := by decide +kernel
theorem dX6_ofPost_69 : decode cX6_ofPost 69 = .ok (.getfield 19, 3) := by decide +kernel
theorem dX6_ofPost_72 : decode cX6_ofPost 72 = .ok (.iload_n 1, 1) := by decide +kernel
theorem dX6_ofPost_73 : decode cX6_ofPost 73 = .ok (.iaload, 1) := by decide +kernel
theorem dX6_ofPost_74 : decode cX6_ofPost 74 = .ok (.invokestatic 140, 3) := by decide +kernel
theorem dX6_ofPost_77 : decode cX6_ofPost 77 = .ok (.ireturn, 1) := by decide +kernel
theorem dX6_ofPost_78 : decode cX6_ofPost 78 = .ok (.aload_n 0, 1) := by decide +kernel
theorem dX6_ofPost_79 : decode cX6_ofPost 79 = .ok (.getfield 19, 3) := by decide +kernel
theorem dX6_ofPost_82 : decode cX6_ofPost 82 = .ok (.iload_n 1, 1) := by decide +kernel
theorem dX6_ofPost_83 : decode cX6_ofPost 83 = .ok (.iaload, 1) := by decide +kernel
theorem dX6_ofPost_84 : decode cX6_ofPost 84 = .ok (.ireturn, 1) := by decide +kernel
theorem dX6_ofPost_85 : decode cX6_ofPost 85 = .ok (.aload_n 0, 1) := by decide +kernel
theorem dX6_ofPost_86 : decode cX6_ofPost 86 = .ok (.invokevirtual 146, 3) := by decide +kernel
theorem dX6_ofPost_89 : decode cX6_ofPost 89 = .ok (.aload_n 0, 1) := by decide +kernel
theorem dX6_ofPost_90 : decode cX6_ofPost 90 = .ok (.iload_n 1, 1) := by decide +kernel
theorem dX6_ofPost_91 : decode cX6_ofPost 91 = .ok (.invokevirtual 143, 3) := by decide +kernel
theorem dX6_ofPost_94 : decode cX6_ofPost 94 = .ok (.ireturn, 1) := by decide +kernel
theorem dX6_ofPost_95 : decode cX6_ofPost 95 = .ok (.bipush (-2), 2) := by decide +kernel
theorem dX6_ofPost_97 : decode cX6_ofPost 97 = .ok (.ireturn, 1) := by decide +kernel
theorem dX6_load_0 : decode cX6_load 0 = .ok (.aload_n 0, 1) := by decide +kernel
theorem dX6_load_1 : decode cX6_load 1 = .ok (.iload_n 1, 1) := by decide +kernel
theorem dX6_load_2 : decode cX6_load 2 = .ok (.invokevirtual 83, 3) := by decide +kernel
theorem dX6_load_5 : decode cX6_load 5 = .ok (.ifCond .ne 5, 3) := by decide +kernel
theorem dX6_load_8 : decode cX6_load 8 = .ok (.iconst (-1), 1) := by decide +kernel
theorem dX6_load_9 : decode cX6_load 9 = .ok (.ireturn, 1) := by decide +kernel
theorem dX6_load_10 : decode cX6_load 10 = .ok (.iload_n 2, 1) := by decide +kernel
theorem dX6_load_11 : decode cX6_load 11 = .ok (.iconst 0, 1) := by decide +kernel
theorem dX6_load_12 : decode cX6_load 12 = .ok (.bipush 9, 2) := by decide +kernel
theorem dX6_load_14 : decode cX6_load 14 = .ok (.invokestatic 76, 3) := by decide +kernel
theorem dX6_load_17 : decode cX6_load 17 = .ok (.ifCond .ne 6, 3) := by decide +kernel
theorem dX6_load_20 : decode cX6_load 20 = .ok (.bipush (-2), 2) := by decide +kernel
theorem dX6_load_22 : decode cX6_load 22 = .ok (.ireturn, 1) := by decide +kernel
theorem dX6_load_23 : decode cX6_load 23 = .ok (.aload_n 0, 1) := by decide +kernel
theorem dX6_load_24 : decode cX6_load 24 = .ok (.getfield 25, 3) := by decide +kernel
theorem dX6_load_27 : decode cX6_load 27 = .ok (.iload_n 1, 1) := by decide +kernel
theorem dX6_load_28 : decode cX6_load 28 = .ok (.iaload, 1) := by decide +kernel
theorem dX6_load_29 : decode cX6_load 29 = .ok (.istore_n 3, 1) := by decide +kernel
theorem dX6_load_30 : decode cX6_load 30 = .ok (.aload_n 0, 1) := by decide +kernel
theorem dX6_load_31 : decode cX6_load 31 = .ok (.getfield 25, 3) := by decide +kernel
theorem dX6_load_34 : decode cX6_load 34 = .ok (.iload_n 1, 1) := by decide +kernel
theorem dX6_load_35 : decode cX6_load 35 = .ok (.iload_n 2, 1) := by decide +kernel
theorem dX6_load_36 : decode cX6_load 36 = .ok (.iastore, 1) := by decide +kernel
theorem dX6_load_37 : decode cX6_load 37 = .ok (.iload_n 3, 1) := by decide +kernel
theorem dX6_load_38 : decode cX6_load 38 = .ok (.ireturn, 1) := by decide +kernel
theorem dX6_findRow_0 : decode cX6_findRow 0 = .ok (.iconst 0, 1) := by decide +kernel
theorem dX6_findRow_1 : decode cX6_findRow 1 = .ok (.istore_n 1, 1) := by decide +kernel
theorem dX6_findRow_2 : decode cX6_findRow 2 = .ok (.iload_n 1, 1) := by decide +kernel
theorem dX6_findRow_3 : decode cX6_findRow 3 = .ok (.aload_n 0, 1) := by decide +kernel
theorem dX6_findRow_4 : decode cX6_findRow 4 = .ok (.getfield 80, 3) := by decide +kernel
theorem dX6_findRow_7 : decode cX6_findRow 7 = .ok (.if_icmp .ge 21, 3) := by decide +kernel
theorem dX6_findRow_10 : decode cX6_findRow 10 = .ok (.aload_n 0, 1) := by decide +kernel
theorem dX6_findRow_11 : decode cX6_findRow 11 = .ok (.getfield 43, 3) := by decide +kernel
theorem dX6_findRow_14 : decode cX6_findRow 14 = .ok (.iload_n 1, 1) := by decide +kernel
theorem dX6_findRow_15 : decode cX6_findRow 15 = .ok (.aload_n 0, 1) := by decide +kernel
theorem dX6_findRow_16 : decode cX6_findRow 16 = .ok (.getfield 19, 3) := by decide +kernel
theorem dX6_findRow_19 : decode cX6_findRow 19 = .ok (.iload_n 1, 1) := by decide +kernel
theorem dX6_findRow_20 : decode cX6_findRow 20 = .ok (.iaload, 1) := by decide +kernel
theorem dX6_findRow_21 : decode cX6_findRow 21 = .ok (.iastore, 1) := by decide +kernel
theorem dX6_findRow_22 : decode cX6_findRow 22 = .ok (.iinc 1 1, 3) := by decide +kernel
theorem dX6_findRow_25 : decode cX6_findRow 25 = .ok (.goto (-23), 3) := by decide +kernel
theorem dX6_findRow_28 : decode cX6_findRow 28 = .ok (.iconst 0, 1) := by decide +kernel
theorem dX6_findRow_29 : decode cX6_findRow 29 = .ok (.istore_n 1, 1) := by decide +kernel
theorem dX6_findRow_30 : decode cX6_findRow 30 = .ok (.iload_n 1, 1) := by decide +kernel
theorem dX6_findRow_31 : decode cX6_findRow 31 = .ok (.aload_n 0, 1) := by decide +kernel
theorem dX6_findRow_32 : decode cX6_findRow 32 = .ok (.getfield 80, 3) := by decide +kernel
theorem dX6_findRow_35 : decode cX6_findRow 35 = .ok (.iconst 2, 1) := by decide +kernel
theorem dX6_findRow_36 : decode cX6_findRow 36 = .ok (.isub, 1) := by decide +kernel
theorem dX6_findRow_37 : decode cX6_findRow 37 = .ok (.if_icmp .ge 71, 3) := by decide +kernel
theorem dX6_findRow_40 : decode cX6_findRow 40 = .ok (.iconst 0, 1) := by decide +kernel
theorem dX6_findRow_41 : decode cX6_findRow 41 = .ok (.istore_n 2, 1) := by decide +kernel
theorem dX6_findRow_42 : decode cX6_findRow 42 = .ok (.aload_n 0, 1) := by decide +kernel
theorem dX6_findRow_43 : decode cX6_findRow 43 = .ok (.getfield 43, 3) := by decide +kernel
theorem dX6_findRow_46 : decode cX6_findRow 46 = .ok (.iload_n 2, 1) := by decide +kernel
theorem dX6_findRow_47 : decode cX6_findRow 47 = .ok (.iaload, 1) := by decide +kernel
theorem dX6_findRow_48 : decode cX6_findRow 48 = .ok (.invokestatic 140, 3) := by decide +kernel
theorem dX6_findRow_51 : decode cX6_findRow 51 = .ok (.iconst 1, 1) := by decide +kernel
theorem dX6_findRow_52 : decode cX6_findRow 52 = .ok (.if_icmp .eq 9, 3) := by decide +kernel
theorem dX6_findRow_55 : decode cX6_findRow 55 = .ok (.iinc 2 1, 3) := by decide +kernel
theorem dX6_findRow_58 : decode cX6_findRow 58 = .ok (.goto (-16), 3) := by decide +kernel
theorem dX6_findRow_61 : decode cX6_findRow 61 = .ok (.aload_n 0, 1) := by decide +kernel
theorem dX6_findRow_62 : decode cX6_findRow 62 = .ok (.getfield 40, 3) := by decide +kernel
theorem dX6_findRow_65 : decode cX6_findRow 65 = .ok (.iload_n 1, 1) := by decide +kernel
theorem dX6_findRow_66 : decode cX6_findRow 66 = .ok (.aload_n 0, 1) := by decide +kernel
theorem dX6_findRow_67 : decode cX6_findRow 67 = .ok (.getfield 43, 3) := by decide +kernel
theorem dX6_findRow_70 : decode cX6_findRow 70 = .ok (.iload_n 2, 1) := by decide +kernel
theorem dX6_findRow_71 : decode cX6_findRow 71 = .ok (.iaload, 1) := by decide +kernel
theorem dX6_findRow_72 : decode cX6_findRow 72 = .ok (.invokestatic 130, 3) := by decide +kernel
theorem dX6_findRow_75 : decode cX6_findRow 75 = .ok (.iastore, 1) := by decide +kernel
theorem dX6_findRow_76 : decode cX6_findRow 76 = .ok (.aload_n 0, 1) := by decide +kernel
theorem dX6_findRow_77 : decode cX6_findRow 77 = .ok (.getfield 43, 3) := by decide +kernel
theorem dX6_findRow_80 : decode cX6_findRow 80 = .ok (.aload_n 0, 1) := by decide +kernel
theorem dX6_findRow_81 : decode cX6_findRow 81 = .ok (.getfield 40, 3) := by decide +kernel
theorem dX6_findRow_84 : decode cX6_findRow 84 = .ok (.iload_n 1, 1) := by decide +kernel
theorem dX6_findRow_85 : decode cX6_findRow 85 = .ok (.iaload, 1) := by decide +kernel
theorem dX6_findRow_86 : decode cX6_findRow 86 = .ok (.dup2, 1) := by decide +kernel
theorem dX6_findRow_87 : decode cX6_findRow 87 = .ok (.iaload, 1) := by decide +kernel
theorem dX6_findRow_88 : decode cX6_findRow 88 = .ok (.iconst 1, 1) := by decide +kernel
theorem dX6_findRow_89 : decode cX6_findRow 89 = .ok (.iload_n 2, 1) := by decide +kernel
theorem dX6_findRow_90 : decode cX6_findRow 90 = .ok (.ishl, 1) := by decide +kernel
theorem dX6_findRow_91 : decode cX6_findRow 91 = .ok (.iconst (-1), 1) := by decide +kernel
theorem dX6_findRow_92 : decode cX6_findRow 92 = .ok (.ixor, 1) := by decide +kernel
theorem dX6_findRow_93 : decode cX6_findRow 93 = .ok (.iand, 1) := by decide +kernel
theorem dX6_findRow_94 : decode cX6_findRow 94 = .ok (.iastore, 1) := by decide +kernel
theorem dX6_findRow_95 : decode cX6_findRow 95 = .ok (.aload_n 0, 1) := by decide +kernel
theorem dX6_findRow_96 : decode cX6_findRow 96 = .ok (.getfield 43, 3) := by decide +kernel
theorem dX6_findRow_99 : decode cX6_findRow 99 = .ok (.iload_n 2, 1) := by decide +kernel
theorem dX6_findRow_100 : decode cX6_findRow 100 = .ok (.iconst 0, 1) := by decide +kernel
theorem dX6_findRow_101 : decode cX6_findRow 101 = .ok (.iastore, 1) := by decide +kernel
theorem dX6_findRow_102 : decode cX6_findRow 102 = .ok (.iinc 1 1, 3) := by decide +kernel
theorem dX6_findRow_105 : decode cX6_findRow 105 = .ok (.goto (-75), 3) := by decide +kernel
theorem dX6_findRow_108 : decode cX6_findRow 108 = .ok (.return_, 1) := by decide +kernel
theorem dX6_row_0 : decode cX6_row 0 = .ok (.iload_n 1, 1) := by decide +kernel
theorem dX6_row_1 : decode cX6_row 1 = .ok (.iconst 0, 1) := by decide +kernel
theorem dX6_row_2 : decode cX6_row 2 = .ok (.iconst 5, 1) := by decide +kernel
theorem dX6_row_3 : decode cX6_row 3 = .ok (.invokestatic 76, 3) := by decide +kernel
theorem dX6_row_6 : decode cX6_row 6 = .ok (.ifCond .ne 6, 3) := by decide +kernel
theorem dX6_row_9 : decode cX6_row 9 = .ok (.bipush (-2), 2) := by decide +kernel
theorem dX6_row_11 : decode cX6_row 11 = .ok (.ireturn, 1) := by decide +kernel
theorem dX6_row_12 : decode cX6_row 12 = .ok (.aload_n 0, 1) := by decide +kernel
theorem dX6_row_13 : decode cX6_row 13 = .ok (.getfield 80, 3) := by decide +kernel
theorem dX6_row_16 : decode cX6_row 16 = .ok (.ifCond .ne 6, 3) := by decide +kernel
theorem dX6_row_19 : decode cX6_row 19 = .ok (.bipush (-3), 2) := by decide +kernel
theorem dX6_row_21 : decode cX6_row 21 = .ok (.ireturn, 1) := by decide +kernel
theorem dX6_row_22 : decode cX6_row 22 = .ok (.aload_n 0, 1) := by decide +kernel
theorem dX6_row_23 : decode cX6_row 23 = .ok (.invokevirtual 149, 3) := by decide +kernel
theorem dX6_row_26 : decode cX6_row 26 = .ok (.iload_n 1, 1) := by decide +kernel
theorem dX6_row_27 : decode cX6_row 27 = .ok (.aload_n 0, 1) := by decide +kernel
theorem dX6_row_28 : decode cX6_row 28 = .ok (.getfield 80, 3) := by decide +kernel
theorem dX6_row_31 : decode cX6_row 31 = .ok (.iconst 2, 1) := by decide +kernel
theorem dX6_row_32 : decode cX6_row 32 = .ok (.isub, 1) := by decide +kernel
theorem dX6_row_33 : decode cX6_row 33 = .ok (.if_icmp .ge 12, 3) := by decide +kernel
theorem dX6_row_36 : decode cX6_row 36 = .ok (.aload_n 0, 1) := by decide +kernel
theorem dX6_row_37 : decode cX6_row 37 = .ok (.getfield 40, 3) := by decide +kernel
theorem dX6_row_40 : decode cX6_row 40 = .ok (.iload_n 1, 1) := by decide +kernel
theorem dX6_row_41 : decode cX6_row 41 = .ok (.iaload, 1) := by decide +kernel
theorem dX6_row_42 : decode cX6_row 42 = .ok (.goto 5, 3) := by decide +kernel
theorem dX6_row_45 : decode cX6_row 45 = .ok (.bipush (-9), 2) := by decide +kernel
theorem dX6_row_47 : decode cX6_row 47 = .ok (.ireturn, 1) := by decide +kernel
theorem dX6_graft_0 : decode cX6_graft 0 = .ok (.aload_n 0, 1) := by decide +kernel
theorem dX6_graft_1 : decode cX6_graft 1 = .ok (.iload_n 1, 1) := by decide +kernel
theorem dX6_graft_2 : decode cX6_graft 2 = .ok (.iload_n 2, 1) := by decide +kernel
theorem dX6_graft_3 : decode cX6_graft 3 = .ok (.invokevirtual 152, 3) := by decide +kernel
theorem dX6_graft_6 : decode cX6_graft 6 = .ok (.ifCond .ne 5, 3) := by decide +kernel
theorem dX6_graft_9 : decode cX6_graft 9 = .ok (.iconst (-1), 1) := by decide +kernel
theorem dX6_graft_10 : decode cX6_graft 10 = .ok (.ireturn, 1) := by decide +kernel
theorem dX6_graft_11 : decode cX6_graft 11 = .ok (.aload_n 0, 1) := by decide +kernel
theorem dX6_graft_12 : decode cX6_graft 12 = .ok (.getfield 19, 3) := by decide +kernel
theorem dX6_graft_15 : decode cX6_graft 15 = .ok (.iload_n 1, 1) := by decide +kernel
theorem dX6_graft_16 : decode cX6_graft 16 = .ok (.iaload, 1) := by decide +kernel
theorem dX6_graft_17 : decode cX6_graft 17 = .ok (.invokestatic 140, 3) := by decide +kernel
theorem dX6_graft_20 : decode cX6_graft 20 = .ok (.iconst 1, 1) := by decide +kernel
theorem dX6_graft_21 : decode cX6_graft 21 = .ok (.if_icmp .eq 6, 3) := by decide +kernel
theorem dX6_graft_24 : decode cX6_graft 24 = .ok (.bipush (-3), 2) := by decide +kernel
theorem dX6_graft_26 : decode cX6_graft 26 = .ok (.ireturn, 1) := by decide +kernel
theorem dX6_graft_27 : decode cX6_graft 27 = .ok (.aload_n 0, 1) := by decide +kernel
theorem dX6_graft_28 : decode cX6_graft 28 = .ok (.getfield 19, 3) := by decide +kernel
theorem dX6_graft_31 : decode cX6_graft 31 = .ok (.iload_n 1, 1) := by decide +kernel
theorem dX6_graft_32 : decode cX6_graft 32 = .ok (.iaload, 1) := by decide +kernel
theorem dX6_graft_33 : decode cX6_graft 33 = .ok (.invokestatic 130, 3) := by decide +kernel
theorem dX6_graft_36 : decode cX6_graft 36 = .ok (.istore_n 3, 1) := by decide +kernel
theorem dX6_graft_37 : decode cX6_graft 37 = .ok (.aload_n 0, 1) := by decide +kernel
theorem dX6_graft_38 : decode cX6_graft 38 = .ok (.iload_n 1, 1) := by decide +kernel
theorem dX6_graft_39 : decode cX6_graft 39 = .ok (.iload_n 3, 1) := by decide +kernel
theorem dX6_graft_40 : decode cX6_graft 40 = .ok (.invokevirtual 155, 3) := by decide +kernel
theorem dX6_graft_43 : decode cX6_graft 43 = .ok (.aload_n 0, 1) := by decide +kernel
theorem dX6_graft_44 : decode cX6_graft 44 = .ok (.iload_n 1, 1) := by decide +kernel
theorem dX6_graft_45 : decode cX6_graft 45 = .ok (.iload_n 2, 1) := by decide +kernel
theorem dX6_graft_46 : decode cX6_graft 46 = .ok (.invokevirtual 133, 3) := by decide +kernel
theorem dX6_graft_49 : decode cX6_graft 49 = .ok (.aload_n 0, 1) := by decide +kernel
theorem dX6_graft_50 : decode cX6_graft 50 = .ok (.dup, 1) := by decide +kernel
theorem dX6_graft_51 : decode cX6_graft 51 = .ok (.getfield 117, 3) := by decide +kernel
theorem dX6_graft_54 : decode cX6_graft 54 = .ok (.iconst 1, 1) := by decide +kernel
theorem dX6_graft_55 : decode cX6_graft 55 = .ok (.iadd, 1) := by decide +kernel
theorem dX6_graft_56 : decode cX6_graft 56 = .ok (.putfield 117, 3) := by decide +kernel
theorem dX6_graft_59 : decode cX6_graft 59 = .ok (.iload_n 3, 1) := by decide +kernel
theorem dX6_graft_60 : decode cX6_graft 60 = .ok (.ireturn, 1) := by decide +kernel
theorem dX6_does_0 : decode cX6_does 0 = .ok (.iload_n 2, 1) := by decide +kernel
theorem dX6_does_1 : decode cX6_does 1 = .ok (.bipush 10, 2) := by decide +kernel
theorem dX6_does_3 : decode cX6_does 3 = .ok (.if_icmp .lt 28, 3) := by decide +kernel
theorem dX6_does_6 : decode cX6_does 6 = .ok (.aload_n 0, 1) := by decide +kernel
theorem dX6_does_7 : decode cX6_does 7 = .ok (.iload_n 2, 1) := by decide +kernel
theorem dX6_does_8 : decode cX6_does 8 = .ok (.bipush 10, 2) := by decide +kernel
theorem dX6_does_10 : decode cX6_does 10 = .ok (.isub, 1) := by decide +kernel
theorem dX6_does_11 : decode cX6_does 11 = .ok (.invokevirtual 83, 3) := by decide +kernel
theorem dX6_does_14 : decode cX6_does 14 = .ok (.ifCond .ne 5, 3) := by decide +kernel
theorem dX6_does_17 : decode cX6_does 17 = .ok (.iconst 0, 1) := by decide +kernel
theorem dX6_does_18 : decode cX6_does 18 = .ok (.ireturn, 1) := by decide +kernel
theorem dX6_does_19 : decode cX6_does 19 = .ok (.aload_n 0, 1) := by decide +kernel
theorem dX6_does_20 : decode cX6_does 20 = .ok (.getfield 25, 3) := by decide +kernel
theorem dX6_does_23 : decode cX6_does 23 = .ok (.iload_n 2, 1) := by decide +kernel
theorem dX6_does_24 : decode cX6_does 24 = .ok (.bipush 10, 2) := by decide +kernel
theorem dX6_does_26 : decode cX6_does 26 = .ok (.isub, 1) := by decide +kernel
theorem dX6_does_27 : decode cX6_does 27 = .ok (.iload_n 1, 1) := by decide +kernel
theorem dX6_does_28 : decode cX6_does 28 = .ok (.iastore, 1) := by decide +kernel
theorem dX6_does_29 : decode cX6_does 29 = .ok (.iconst 1, 1) := by decide +kernel
theorem dX6_does_30 : decode cX6_does 30 = .ok (.ireturn, 1) := by decide +kernel
theorem dX6_does_31 : decode cX6_does 31 = .ok (.aload_n 0, 1) := by decide +kernel
theorem dX6_does_32 : decode cX6_does 32 = .ok (.iload_n 1, 1) := by decide +kernel
theorem dX6_does_33 : decode cX6_does 33 = .ok (.iload_n 2, 1) := by decide +kernel
theorem dX6_does_34 : decode cX6_does 34 = .ok (.invokevirtual 152, 3) := by decide +kernel
theorem dX6_does_37 : decode cX6_does 37 = .ok (.ifCond .eq 16, 3) := by decide +kernel
theorem dX6_does_40 : decode cX6_does 40 = .ok (.aload_n 0, 1) := by decide +kernel
theorem dX6_does_41 : decode cX6_does 41 = .ok (.getfield 19, 3) := by decide +kernel
theorem dX6_does_44 : decode cX6_does 44 = .ok (.iload_n 1, 1) := by decide +kernel
theorem dX6_does_45 : decode cX6_does 45 = .ok (.iaload, 1) := by decide +kernel
theorem dX6_does_46 : decode cX6_does 46 = .ok (.invokestatic 140, 3) := by decide +kernel
theorem dX6_does_49 : decode cX6_does 49 = .ok (.iconst 1, 1) := by decide +kernel
theorem dX6_does_50 : decode cX6_does 50 = .ok (.if_icmp .eq 5, 3) := by decide +kernel
theorem dX6_does_53 : decode cX6_does 53 = .ok (.iconst 0, 1) := by decide +kernel
theorem dX6_does_54 : decode cX6_does 54 = .ok (.ireturn, 1) := by decide +kernel
theorem dX6_does_55 : decode cX6_does 55 = .ok (.aload_n 0, 1) := by decide +kernel
theorem dX6_does_56 : decode cX6_does 56 = .ok (.iload_n 1, 1) := by decide +kernel
theorem dX6_does_57 : decode cX6_does 57 = .ok (.aload_n 0, 1) := by decide +kernel
theorem dX6_does_58 : decode cX6_does 58 = .ok (.getfield 19, 3) := by decide +kernel
theorem dX6_does_61 : decode cX6_does 61 = .ok (.iload_n 1, 1) := by decide +kernel
theorem dX6_does_62 : decode cX6_does 62 = .ok (.iaload, 1) := by decide +kernel
theorem dX6_does_63 : decode cX6_does 63 = .ok (.invokestatic 130, 3) := by decide +kernel
theorem dX6_does_66 : decode cX6_does 66 = .ok (.invokevirtual 155, 3) := by decide +kernel
theorem dX6_does_69 : decode cX6_does 69 = .ok (.aload_n 0, 1) := by decide +kernel
theorem dX6_does_70 : decode cX6_does 70 = .ok (.iload_n 1, 1) := by decide +kernel
theorem dX6_does_71 : decode cX6_does 71 = .ok (.iload_n 2, 1) := by decide +kernel
theorem dX6_does_72 : decode cX6_does 72 = .ok (.invokevirtual 133, 3) := by decide +kernel
theorem dX6_does_75 : decode cX6_does 75 = .ok (.iconst 1, 1) := by decide +kernel
theorem dX6_does_76 : decode cX6_does 76 = .ok (.ireturn, 1) := by decide +kernel
theorem dX6_goDay_0 : decode cX6_goDay 0 = .ok (.iconst 0, 1) := by decide +kernel
theorem dX6_goDay_1 : decode cX6_goDay 1 = .ok (.istore_n 3, 1) := by decide +kernel
theorem dX6_goDay_2 : decode cX6_goDay 2 = .ok (.iload_n 3, 1) := by decide +kernel
theorem dX6_goDay_3 : decode cX6_goDay 3 = .ok (.iload_n 2, 1) := by decide +kernel
theorem dX6_goDay_4 : decode cX6_goDay 4 = .ok (.if_icmp .ge 40, 3) := by decide +kernel
theorem dX6_goDay_7 : decode cX6_goDay 7 = .ok (.aload_n 0, 1) := by decide +kernel
theorem dX6_goDay_8 : decode cX6_goDay 8 = .ok (.aload_n 0, 1) := by decide +kernel
theorem dX6_goDay_9 : decode cX6_goDay 9 = .ok (.getfield 16, 3) := by decide +kernel
theorem dX6_goDay_12 : decode cX6_goDay 12 = .ok (.iload_n 1, 1) := by decide +kernel
theorem dX6_goDay_13 : decode cX6_goDay 13 = .ok (.iconst 2, 1) := by decide +kernel
theorem dX6_goDay_14 : decode cX6_goDay 14 = .ok (.iload_n 3, 1) := by decide +kernel
theorem dX6_goDay_15 : decode cX6_goDay 15 = .ok (.imul, 1) := by decide +kernel
theorem dX6_goDay_16 : decode cX6_goDay 16 = .ok (.iadd, 1) := by decide +kernel
theorem dX6_goDay_17 : decode cX6_goDay 17 = .ok (.iaload, 1) := by decide +kernel
theorem dX6_goDay_18 : decode cX6_goDay 18 = .ok (.aload_n 0, 1) := by decide +kernel
theorem dX6_goDay_19 : decode cX6_goDay 19 = .ok (.getfield 16, 3) := by decide +kernel
theorem dX6_goDay_22 : decode cX6_goDay 22 = .ok (.iload_n 1, 1) := by decide +kernel
theorem dX6_goDay_23 : decode cX6_goDay 23 = .ok (.iconst 2, 1) := by decide +kernel
theorem dX6_goDay_24 : decode cX6_goDay 24 = .ok (.iload_n 3, 1) := by decide +kernel
theorem dX6_goDay_25 : decode cX6_goDay 25 = .ok (.imul, 1) := by decide +kernel
theorem dX6_goDay_26 : decode cX6_goDay 26 = .ok (.iadd, 1) := by decide +kernel
theorem dX6_goDay_27 : decode cX6_goDay 27 = .ok (.iconst 1, 1) := by decide +kernel
theorem dX6_goDay_28 : decode cX6_goDay 28 = .ok (.iadd, 1) := by decide +kernel
theorem dX6_goDay_29 : decode cX6_goDay 29 = .ok (.iaload, 1) := by decide +kernel
theorem dX6_goDay_30 : decode cX6_goDay 30 = .ok (.invokevirtual 158, 3) := by decide +kernel
theorem dX6_goDay_33 : decode cX6_goDay 33 = .ok (.ifCond .ne 5, 3) := by decide +kernel
theorem dX6_goDay_36 : decode cX6_goDay 36 = .ok (.iload_n 3, 1) := by decide +kernel
theorem dX6_goDay_37 : decode cX6_goDay 37 = .ok (.ireturn, 1) := by decide +kernel
theorem dX6_goDay_38 : decode cX6_goDay 38 = .ok (.iinc 3 1, 3) := by decide +kernel
theorem dX6_goDay_41 : decode cX6_goDay 41 = .ok (.goto (-39), 3) := by decide +kernel
theorem dX6_goDay_44 : decode cX6_goDay 44 = .ok (.bipush (-9), 2) := by decide +kernel
theorem dX6_goDay_46 : decode cX6_goDay 46 = .ok (.ireturn, 1) := by decide +kernel
theorem dX6_refusesPair_0 : decode cX6_refusesPair 0 = .ok (.iload_n 2, 1) := by decide +kernel
theorem dX6_refusesPair_1 : decode cX6_refusesPair 1 = .ok (.bipush 10, 2) := by decide +kernel
theorem dX6_refusesPair_3 : decode cX6_refusesPair 3 = .ok (.bipush 17, 2) := by decide +kernel
theorem dX6_refusesPair_5 : decode cX6_refusesPair 5 = .ok (.invokestatic 76, 3) := by decide +kernel
theorem dX6_refusesPair_8 : decode cX6_refusesPair 8 = .ok (.istore_n 3, 1) := by decide +kernel
theorem dX6_refusesPair_9 : decode cX6_refusesPair 9 = .ok (.iload_n 2, 1) := by decide +kernel
theorem dX6_refusesPair_10 : decode cX6_refusesPair 10 = .ok (.iconst 0, 1) := by decide +kernel
theorem dX6_refusesPair_11 : decode cX6_refusesPair 11 = .ok (.bipush 7, 2) := by decide +kernel
theorem dX6_refusesPair_13 : decode cX6_refusesPair 13 = .ok (.invokestatic 76, 3) := by decide +kernel
theorem dX6_refusesPair_16 : decode cX6_refusesPair 16 = .ok (.ifCond .ne 7, 3) := by decide +kernel
theorem dX6_refusesPair_19 : decode cX6_refusesPair 19 = .ok (.iload_n 3, 1) := by decide +kernel
theorem dX6_refusesPair_20 : decode cX6_refusesPair 20 = .ok (.ifCond .eq 17, 3) := by decide +kernel
theorem dX6_refusesPair_23 : decode cX6_refusesPair 23 = .ok (.iload_n 3, 1) := by decide +kernel
theorem dX6_refusesPair_24 : decode cX6_refusesPair 24 = .ok (.ifCond .eq 16, 3) := by decide +kernel
theorem dX6_refusesPair_27 : decode cX6_refusesPair 27 = .ok (.iload_n 1, 1) := by decide +kernel
theorem dX6_refusesPair_28 : decode cX6_refusesPair 28 = .ok (.iconst 0, 1) := by decide +kernel
theorem dX6_refusesPair_29 : decode cX6_refusesPair 29 = .ok (.bipush 9, 2) := by decide +kernel
theorem dX6_refusesPair_31 : decode cX6_refusesPair 31 = .ok (.invokestatic 76, 3) := by decide +kernel
theorem dX6_refusesPair_34 : decode cX6_refusesPair 34 = .ok (.ifCond .ne 6, 3) := by decide +kernel
theorem dX6_refusesPair_37 : decode cX6_refusesPair 37 = .ok (.bipush (-2), 2) := by decide +kernel
theorem dX6_refusesPair_39 : decode cX6_refusesPair 39 = .ok (.ireturn, 1) := by decide +kernel
theorem dX6_refusesPair_40 : decode cX6_refusesPair 40 = .ok (.iload_n 3, 1) := by decide +kernel
theorem dX6_refusesPair_41 : decode cX6_refusesPair 41 = .ok (.ifCond .ne 15, 3) := by decide +kernel
theorem dX6_refusesPair_44 : decode cX6_refusesPair 44 = .ok (.aload_n 0, 1) := by decide +kernel
theorem dX6_refusesPair_45 : decode cX6_refusesPair 45 = .ok (.iload_n 1, 1) := by decide +kernel
theorem dX6_refusesPair_46 : decode cX6_refusesPair 46 = .ok (.invokevirtual 83, 3) := by decide +kernel
theorem dX6_refusesPair_49 : decode cX6_refusesPair 49 = .ok (.ifCond .ne 7, 3) := by decide +kernel
theorem dX6_refusesPair_52 : decode cX6_refusesPair 52 = .ok (.iconst (-1), 1) := by decide +kernel
theorem dX6_refusesPair_53 : decode cX6_refusesPair 53 = .ok (.goto 4, 3) := by decide +kernel
theorem dX6_refusesPair_56 : decode cX6_refusesPair 56 = .ok (.iconst 0, 1) := by decide +kernel
theorem dX6_refusesPair_57 : decode cX6_refusesPair 57 = .ok (.ireturn, 1) := by decide +kernel
theorem dX6_day_0 : decode cX6_day 0 = .ok (.aload_n 0, 1) := by decide +kernel
theorem dX6_day_1 : decode cX6_day 1 = .ok (.iconst 0, 1) := by decide +kernel
theorem dX6_day_2 : decode cX6_day 2 = .ok (.putfield 70, 3) := by decide +kernel
theorem dX6_day_5 : decode cX6_day 5 = .ok (.iload_n 1, 1) := by decide +kernel
theorem dX6_day_6 : decode cX6_day 6 = .ok (.invokestatic 94, 3) := by decide +kernel
theorem dX6_day_9 : decode cX6_day 9 = .ok (.ifCond .ne 5, 3) := by decide +kernel
theorem dX6_day_12 : decode cX6_day 12 = .ok (.iconst (-1), 1) := by decide +kernel
theorem dX6_day_13 : decode cX6_day 13 = .ok (.ireturn, 1) := by decide +kernel
theorem dX6_day_14 : decode cX6_day 14 = .ok (.iload_n 2, 1) := by decide +kernel
theorem dX6_day_15 : decode cX6_day 15 = .ok (.invokestatic 97, 3) := by decide +kernel
theorem dX6_day_18 : decode cX6_day 18 = .ok (.ifCond .eq 36, 3) := by decide +kernel
theorem dX6_day_21 : decode cX6_day 21 = .ok (.iload 4, 2) := by decide +kernel
theorem dX6_day_23 : decode cX6_day 23 = .ok (.iconst 0, 1) := by decide +kernel
theorem dX6_day_24 : decode cX6_day 24 = .ok (.bipush 20, 2) := by decide +kernel
theorem dX6_day_26 : decode cX6_day 26 = .ok (.invokestatic 76, 3) := by decide +kernel
theorem dX6_day_29 : decode cX6_day 29 = .ok (.ifCond .eq 25, 3) := by decide +kernel
theorem dX6_day_32 : decode cX6_day 32 = .ok (.iload 5, 2) := by decide +kernel
theorem dX6_day_34 : decode cX6_day 34 = .ok (.iconst 0, 1) := by decide +kernel
theorem dX6_day_35 : decode cX6_day 35 = .ok (.iconst 4, 1) := by decide +kernel
theorem dX6_day_36 : decode cX6_day 36 = .ok (.invokestatic 76, 3) := by decide +kernel
theorem dX6_day_39 : decode cX6_day 39 = .ok (.ifCond .ne 18, 3) := by decide +kernel
theorem dX6_day_42 : decode cX6_day 42 = .ok (.iload 5, 2) := by decide +kernel
theorem dX6_day_44 : decode cX6_day 44 = .ok (.bipush 10, 2) := by decide +kernel
theorem dX6_day_46 : decode cX6_day 46 = .ok (.bipush 17, 2) := by decide +kernel
theorem dX6_day_48 : decode cX6_day 48 = .ok (.invokestatic 76, 3) := by decide +kernel
theorem dX6_day_51 : decode cX6_day 51 = .ok (.ifCond .ne 6, 3) := by decide +kernel
theorem dX6_day_54 : decode cX6_day 54 = .ok (.bipush (-2), 2) := by decide +kernel
theorem dX6_day_56 : decode cX6_day 56 = .ok (.ireturn, 1) := by decide +kernel
theorem dX6_day_57 : decode cX6_day 57 = .ok (.aload_n 0, 1) := by decide +kernel
theorem dX6_day_58 : decode cX6_day 58 = .ok (.iload_n 1, 1) := by decide +kernel
theorem dX6_day_59 : decode cX6_day 59 = .ok (.iload_n 2, 1) := by decide +kernel
theorem dX6_day_60 : decode cX6_day 60 = .ok (.iload_n 3, 1) := by decide +kernel
theorem dX6_day_61 : decode cX6_day 61 = .ok (.iconst 2, 1) := by decide +kernel
theorem dX6_day_62 : decode cX6_day 62 = .ok (.iload 4, 2) := by decide +kernel
theorem dX6_day_64 : decode cX6_day 64 = .ok (.imul, 1) := by decide +kernel
theorem dX6_day_65 : decode cX6_day 65 = .ok (.invokevirtual 100, 3) := by decide +kernel
theorem dX6_day_68 : decode cX6_day 68 = .ok (.istore 6, 2) := by decide +kernel
theorem dX6_day_70 : decode cX6_day 70 = .ok (.iload 6, 2) := by decide +kernel
theorem dX6_day_72 : decode cX6_day 72 = .ok (.ifCond .eq 10, 3) := by decide +kernel
theorem dX6_day_75 : decode cX6_day 75 = .ok (.aload_n 0, 1) := by decide +kernel
theorem dX6_day_76 : decode cX6_day 76 = .ok (.iload 6, 2) := by decide +kernel
theorem dX6_day_78 : decode cX6_day 78 = .ok (.invokevirtual 104, 3) := by decide +kernel
theorem dX6_day_81 : decode cX6_day 81 = .ok (.ireturn, 1) := by decide +kernel
theorem dX6_day_82 : decode cX6_day 82 = .ok (.aload_n 0, 1) := by decide +kernel
theorem dX6_day_83 : decode cX6_day 83 = .ok (.getfield 80, 3) := by decide +kernel
theorem dX6_day_86 : decode cX6_day 86 = .ok (.ifCond .ne 6, 3) := by decide +kernel
theorem dX6_day_89 : decode cX6_day 89 = .ok (.bipush (-3), 2) := by decide +kernel
theorem dX6_day_91 : decode cX6_day 91 = .ok (.ireturn, 1) := by decide +kernel
theorem dX6_day_92 : decode cX6_day 92 = .ok (.bipush 60, 2) := by decide +kernel
theorem dX6_day_94 : decode cX6_day 94 = .ok (.iload_n 1, 1) := by decide +kernel
theorem dX6_day_95 : decode cX6_day 95 = .ok (.imul, 1) := by decide +kernel
theorem dX6_day_96 : decode cX6_day 96 = .ok (.iload_n 3, 1) := by decide +kernel
theorem dX6_day_97 : decode cX6_day 97 = .ok (.iadd, 1) := by decide +kernel
theorem dX6_day_98 : decode cX6_day 98 = .ok (.istore 7, 2) := by decide +kernel
theorem dX6_day_100 : decode cX6_day 100 = .ok (.iconst 0, 1) := by decide +kernel
theorem dX6_day_101 : decode cX6_day 101 = .ok (.istore 8, 2) := by decide +kernel
theorem dX6_day_103 : decode cX6_day 103 = .ok (.iload 8, 2) := by decide +kernel
theorem dX6_day_105 : decode cX6_day 105 = .ok (.iload 4, 2) := by decide +kernel
theorem dX6_day_107 : decode cX6_day 107 = .ok (.if_icmp .ge 49, 3) := by decide +kernel
theorem dX6_day_110 : decode cX6_day 110 = .ok (.aload_n 0, 1) := by decide +kernel
theorem dX6_day_111 : decode cX6_day 111 = .ok (.aload_n 0, 1) := by decide +kernel
theorem dX6_day_112 : decode cX6_day 112 = .ok (.getfield 16, 3) := by decide +kernel
theorem dX6_day_115 : decode cX6_day 115 = .ok (.iload 7, 2) := by decide +kernel
theorem dX6_day_117 : decode cX6_day 117 = .ok (.iconst 2, 1) := by decide +kernel
theorem dX6_day_118 : decode cX6_day 118 = .ok (.iload 8, 2) := by decide +kernel
theorem dX6_day_120 : decode cX6_day 120 = .ok (.imul, 1) := by decide +kernel
theorem dX6_day_121 : decode cX6_day 121 = .ok (.iadd, 1) := by decide +kernel
theorem dX6_day_122 : decode cX6_day 122 = .ok (.iaload, 1) := by decide +kernel
theorem dX6_day_123 : decode cX6_day 123 = .ok (.aload_n 0, 1) := by decide +kernel
theorem dX6_day_124 : decode cX6_day 124 = .ok (.getfield 16, 3) := by decide +kernel
theorem dX6_day_127 : decode cX6_day 127 = .ok (.iload 7, 2) := by decide +kernel
theorem dX6_day_129 : decode cX6_day 129 = .ok (.iconst 2, 1) := by decide +kernel
theorem dX6_day_130 : decode cX6_day 130 = .ok (.iload 8, 2) := by decide +kernel
theorem dX6_day_132 : decode cX6_day 132 = .ok (.imul, 1) := by decide +kernel
theorem dX6_day_133 : decode cX6_day 133 = .ok (.iadd, 1) := by decide +kernel
theorem dX6_day_134 : decode cX6_day 134 = .ok (.iconst 1, 1) := by decide +kernel
theorem dX6_day_135 : decode cX6_day 135 = .ok (.iadd, 1) := by decide +kernel
theorem dX6_day_136 : decode cX6_day 136 = .ok (.iaload, 1) := by decide +kernel
theorem dX6_day_137 : decode cX6_day 137 = .ok (.invokevirtual 161, 3) := by decide +kernel
theorem dX6_day_140 : decode cX6_day 140 = .ok (.istore 9, 2) := by decide +kernel
theorem dX6_day_142 : decode cX6_day 142 = .ok (.iload 9, 2) := by decide +kernel
theorem dX6_day_144 : decode cX6_day 144 = .ok (.ifCond .eq 6, 3) := by decide +kernel
theorem dX6_day_147 : decode cX6_day 147 = .ok (.iload 9, 2) := by decide +kernel
theorem dX6_day_149 : decode cX6_day 149 = .ok (.ireturn, 1) := by decide +kernel
theorem dX6_day_150 : decode cX6_day 150 = .ok (.iinc 8 1, 3) := by decide +kernel
theorem dX6_day_153 : decode cX6_day 153 = .ok (.goto (-50), 3) := by decide +kernel
theorem dX6_day_156 : decode cX6_day 156 = .ok (.iconst 0, 1) := by decide +kernel
theorem dX6_day_157 : decode cX6_day 157 = .ok (.istore 8, 2) := by decide +kernel
theorem dX6_day_159 : decode cX6_day 159 = .ok (.iload 8, 2) := by decide +kernel
theorem dX6_day_161 : decode cX6_day 161 = .ok (.aload_n 0, 1) := by decide +kernel
theorem dX6_day_162 : decode cX6_day 162 = .ok (.getfield 80, 3) := by decide +kernel
theorem dX6_day_165 : decode cX6_day 165 = .ok (.if_icmp .ge 37, 3) := by decide +kernel
theorem dX6_day_168 : decode cX6_day 168 = .ok (.aload_n 0, 1) := by decide +kernel
theorem dX6_day_169 : decode cX6_day 169 = .ok (.getfield 46, 3) := by decide +kernel
theorem dX6_day_172 : decode cX6_day 172 = .ok (.iload 8, 2) := by decide +kernel
theorem dX6_day_174 : decode cX6_day 174 = .ok (.aload_n 0, 1) := by decide +kernel
theorem dX6_day_175 : decode cX6_day 175 = .ok (.getfield 19, 3) := by decide +kernel
theorem dX6_day_178 : decode cX6_day 178 = .ok (.iload 8, 2) := by decide +kernel
theorem dX6_day_180 : decode cX6_day 180 = .ok (.iaload, 1) := by decide +kernel
theorem dX6_day_181 : decode cX6_day 181 = .ok (.iastore, 1) := by decide +kernel
theorem dX6_day_182 : decode cX6_day 182 = .ok (.aload_n 0, 1) := by decide +kernel
theorem dX6_day_183 : decode cX6_day 183 = .ok (.getfield 49, 3) := by decide +kernel
theorem dX6_day_186 : decode cX6_day 186 = .ok (.iload 8, 2) := by decide +kernel
theorem dX6_day_188 : decode cX6_day 188 = .ok (.aload_n 0, 1) := by decide +kernel
theorem dX6_day_189 : decode cX6_day 189 = .ok (.getfield 25, 3) := by decide +kernel
theorem dX6_day_192 : decode cX6_day 192 = .ok (.iload 8, 2) := by decide +kernel
theorem dX6_day_194 : decode cX6_day 194 = .ok (.iaload, 1) := by decide +kernel
theorem dX6_day_195 : decode cX6_day 195 = .ok (.iastore, 1) := by decide +kernel
theorem dX6_day_196 : decode cX6_day 196 = .ok (.iinc 8 1, 3) := by decide +kernel
theorem dX6_day_199 : decode cX6_day 199 = .ok (.goto (-40), 3) := by decide +kernel
theorem dX6_day_202 : decode cX6_day 202 = .ok (.aload_n 0, 1) := by decide +kernel
theorem dX6_day_203 : decode cX6_day 203 = .ok (.iload 7, 2) := by decide +kernel
theorem dX6_day_205 : decode cX6_day 205 = .ok (.iload 4, 2) := by decide +kernel
theorem dX6_day_207 : decode cX6_day 207 = .ok (.invokevirtual 165, 3) := by decide +kernel
theorem dX6_day_210 : decode cX6_day 210 = .ok (.istore 8, 2) := by decide +kernel
theorem dX6_day_212 : decode cX6_day 212 = .ok (.aload_n 0, 1) := by decide +kernel
theorem dX6_day_213 : decode cX6_day 213 = .ok (.iload 5, 2) := by decide +kernel
theorem dX6_day_215 : decode cX6_day 215 = .ok (.invokevirtual 168, 3) := by decide +kernel
theorem dX6_day_218 : decode cX6_day 218 = .ok (.istore 9, 2) := by decide +kernel
theorem dX6_day_220 : decode cX6_day 220 = .ok (.iconst 0, 1) := by decide +kernel
theorem dX6_day_221 : decode cX6_day 221 = .ok (.istore 10, 2) := by decide +kernel
theorem dX6_day_223 : decode cX6_day 223 = .ok (.iload 10, 2) := by decide +kernel
theorem dX6_day_225 : decode cX6_day 225 = .ok (.aload_n 0, 1) := by decide +kernel
theorem dX6_day_226 : decode cX6_day 226 = .ok (.getfield 80, 3) := by decide +kernel
theorem dX6_day_229 : decode cX6_day 229 = .ok (.if_icmp .ge 37, 3) := by decide +kernel
theorem dX6_day_232 : decode cX6_day 232 = .ok (.aload_n 0, 1) := by decide +kernel
theorem dX6_day_233 : decode cX6_day 233 = .ok (.getfield 19, 3) := by decide +kernel
theorem dX6_day_236 : decode cX6_day 236 = .ok (.iload 10, 2) := by decide +kernel
theorem dX6_day_238 : decode cX6_day 238 = .ok (.aload_n 0, 1) := by decide +kernel
theorem dX6_day_239 : decode cX6_day 239 = .ok (.getfield 46, 3) := by decide +kernel
theorem dX6_day_242 : decode cX6_day 242 = .ok (.iload 10, 2) := by decide +kernel
theorem dX6_day_244 : decode cX6_day 244 = .ok (.iaload, 1) := by decide +kernel
theorem dX6_day_245 : decode cX6_day 245 = .ok (.iastore, 1) := by decide +kernel
theorem dX6_day_246 : decode cX6_day 246 = .ok (.aload_n 0, 1) := by decide +kernel
theorem dX6_day_247 : decode cX6_day 247 = .ok (.getfield 25, 3) := by decide +kernel
theorem dX6_day_250 : decode cX6_day 250 = .ok (.iload 10, 2) := by decide +kernel
theorem dX6_day_252 : decode cX6_day 252 = .ok (.aload_n 0, 1) := by decide +kernel
theorem dX6_day_253 : decode cX6_day 253 = .ok (.getfield 49, 3) := by decide +kernel
theorem dX6_day_256 : decode cX6_day 256 = .ok (.iload 10, 2) := by decide +kernel
theorem dX6_day_258 : decode cX6_day 258 = .ok (.iaload, 1) := by decide +kernel
theorem dX6_day_259 : decode cX6_day 259 = .ok (.iastore, 1) := by decide +kernel
theorem dX6_day_260 : decode cX6_day 260 = .ok (.iinc 10 1, 3) := by decide +kernel
theorem dX6_day_263 : decode cX6_day 263 = .ok (.goto (-40), 3) := by decide +kernel
theorem dX6_day_266 : decode cX6_day 266 = .ok (.iload 5, 2) := by decide +kernel
theorem dX6_day_268 : decode cX6_day 268 = .ok (.iconst 1, 1) := by decide +kernel
theorem dX6_day_269 : decode cX6_day 269 = .ok (.if_icmp .ne 8, 3) := by decide +kernel
theorem dX6_day_272 : decode cX6_day 272 = .ok (.iload 8, 2) := by decide +kernel
theorem dX6_day_274 : decode cX6_day 274 = .ok (.goto 20, 3) := by decide +kernel
theorem dX6_day_277 : decode cX6_day 277 = .ok (.iload 8, 2) := by decide +kernel
theorem dX6_day_279 : decode cX6_day 279 = .ok (.bipush (-9), 2) := by decide +kernel
theorem dX6_day_281 : decode cX6_day 281 = .ok (.if_icmp .ne 8, 3) := by decide +kernel
theorem dX6_day_284 : decode cX6_day 284 = .ok (.iload 9, 2) := by decide +kernel
theorem dX6_day_286 : decode cX6_day 286 = .ok (.goto 8, 3) := by decide +kernel
theorem dX6_day_289 : decode cX6_day 289 = .ok (.bipush (-100), 2) := by decide +kernel
theorem dX6_day_291 : decode cX6_day 291 = .ok (.iload 8, 2) := by decide +kernel
theorem dX6_day_293 : decode cX6_day 293 = .ok (.isub, 1) := by decide +kernel
theorem dX6_day_294 : decode cX6_day 294 = .ok (.ireturn, 1) := by decide +kernel
theorem dX6_tellDay_0 : decode cX6_tellDay 0 = .ok (.iload_n 1, 1) := by decide +kernel
theorem dX6_tellDay_1 : decode cX6_tellDay 1 = .ok (.bipush 10, 2) := by decide +kernel
theorem dX6_tellDay_3 : decode cX6_tellDay 3 = .ok (.if_icmp .lt 29, 3) := by decide +kernel
theorem dX6_tellDay_6 : decode cX6_tellDay 6 = .ok (.aload_n 0, 1) := by decide +kernel
theorem dX6_tellDay_7 : decode cX6_tellDay 7 = .ok (.iload_n 1, 1) := by decide +kernel
theorem dX6_tellDay_8 : decode cX6_tellDay 8 = .ok (.bipush 10, 2) := by decide +kernel
theorem dX6_tellDay_10 : decode cX6_tellDay 10 = .ok (.isub, 1) := by decide +kernel
theorem dX6_tellDay_11 : decode cX6_tellDay 11 = .ok (.invokevirtual 83, 3) := by decide +kernel
theorem dX6_tellDay_14 : decode cX6_tellDay 14 = .ok (.ifCond .eq 15, 3) := by decide +kernel
theorem dX6_tellDay_17 : decode cX6_tellDay 17 = .ok (.aload_n 0, 1) := by decide +kernel
theorem dX6_tellDay_18 : decode cX6_tellDay 18 = .ok (.getfield 19, 3) := by decide +kernel
theorem dX6_tellDay_21 : decode cX6_tellDay 21 = .ok (.iload_n 1, 1) := by decide +kernel
theorem dX6_tellDay_22 : decode cX6_tellDay 22 = .ok (.bipush 10, 2) := by decide +kernel
theorem dX6_tellDay_24 : decode cX6_tellDay 24 = .ok (.isub, 1) := by decide +kernel
theorem dX6_tellDay_25 : decode cX6_tellDay 25 = .ok (.iaload, 1) := by decide +kernel
theorem dX6_tellDay_26 : decode cX6_tellDay 26 = .ok (.goto 5, 3) := by decide +kernel
theorem dX6_tellDay_29 : decode cX6_tellDay 29 = .ok (.bipush (-9), 2) := by decide +kernel
theorem dX6_tellDay_31 : decode cX6_tellDay 31 = .ok (.ireturn, 1) := by decide +kernel
theorem dX6_tellDay_32 : decode cX6_tellDay 32 = .ok (.iload_n 1, 1) := by decide +kernel
theorem dX6_tellDay_33 : decode cX6_tellDay 33 = .ok (.tableswitch 50 0 3 #[31, 50, 40, 45], 31) := by decide +kernel
theorem dX6_tellDay_64 : decode cX6_tellDay 64 = .ok (.aload_n 0, 1) := by decide +kernel
theorem dX6_tellDay_65 : decode cX6_tellDay 65 = .ok (.invokevirtual 146, 3) := by decide +kernel
theorem dX6_tellDay_68 : decode cX6_tellDay 68 = .ok (.aload_n 0, 1) := by decide +kernel
theorem dX6_tellDay_69 : decode cX6_tellDay 69 = .ok (.invokevirtual 171, 3) := by decide +kernel
theorem dX6_tellDay_72 : decode cX6_tellDay 72 = .ok (.ireturn, 1) := by decide +kernel
theorem dX6_tellDay_73 : decode cX6_tellDay 73 = .ok (.aload_n 0, 1) := by decide +kernel
theorem dX6_tellDay_74 : decode cX6_tellDay 74 = .ok (.invokevirtual 175, 3) := by decide +kernel
theorem dX6_tellDay_77 : decode cX6_tellDay 77 = .ok (.ireturn, 1) := by decide +kernel
theorem dX6_tellDay_78 : decode cX6_tellDay 78 = .ok (.aload_n 0, 1) := by decide +kernel
theorem dX6_tellDay_79 : decode cX6_tellDay 79 = .ok (.invokevirtual 178, 3) := by decide +kernel
theorem dX6_tellDay_82 : decode cX6_tellDay 82 = .ok (.ireturn, 1) := by decide +kernel
theorem dX6_tellDay_83 : decode cX6_tellDay 83 = .ok (.aload_n 0, 1) := by decide +kernel
theorem dX6_tellDay_84 : decode cX6_tellDay 84 = .ok (.iconst 1, 1) := by decide +kernel
theorem dX6_tellDay_85 : decode cX6_tellDay 85 = .ok (.aload_n 0, 1) := by decide +kernel
theorem dX6_tellDay_86 : decode cX6_tellDay 86 = .ok (.getfield 80, 3) := by decide +kernel
theorem dX6_tellDay_89 : decode cX6_tellDay 89 = .ok (.ishl, 1) := by decide +kernel
theorem dX6_tellDay_90 : decode cX6_tellDay 90 = .ok (.iconst 1, 1) := by decide +kernel
theorem dX6_tellDay_91 : decode cX6_tellDay 91 = .ok (.isub, 1) := by decide +kernel
theorem dX6_tellDay_92 : decode cX6_tellDay 92 = .ok (.invokevirtual 181, 3) := by decide +kernel
theorem dX6_tellDay_95 : decode cX6_tellDay 95 = .ok (.ireturn, 1) := by decide +kernel
theorem dX6_far_0 : decode cX6_far 0 = .ok (.aload_n 0, 1) := by decide +kernel
theorem dX6_far_1 : decode cX6_far 1 = .ok (.iload_n 1, 1) := by decide +kernel
theorem dX6_far_2 : decode cX6_far 2 = .ok (.invokevirtual 83, 3) := by decide +kernel
theorem dX6_far_5 : decode cX6_far 5 = .ok (.ifCond .eq 11, 3) := by decide +kernel
theorem dX6_far_8 : decode cX6_far 8 = .ok (.aload_n 0, 1) := by decide +kernel
theorem dX6_far_9 : decode cX6_far 9 = .ok (.iload_n 2, 1) := by decide +kernel
theorem dX6_far_10 : decode cX6_far 10 = .ok (.invokevirtual 83, 3) := by decide +kernel
theorem dX6_far_13 : decode cX6_far 13 = .ok (.ifCond .ne 5, 3) := by decide +kernel
theorem dX6_far_16 : decode cX6_far 16 = .ok (.iconst (-1), 1) := by decide +kernel
theorem dX6_far_17 : decode cX6_far 17 = .ok (.ireturn, 1) := by decide +kernel
theorem dX6_far_18 : decode cX6_far 18 = .ok (.aload_n 0, 1) := by decide +kernel
theorem dX6_far_19 : decode cX6_far 19 = .ok (.invokevirtual 146, 3) := by decide +kernel
theorem dX6_far_22 : decode cX6_far 22 = .ok (.aload_n 0, 1) := by decide +kernel
theorem dX6_far_23 : decode cX6_far 23 = .ok (.getfield 37, 3) := by decide +kernel
theorem dX6_far_26 : decode cX6_far 26 = .ok (.bipush 8, 2) := by decide +kernel
theorem dX6_far_28 : decode cX6_far 28 = .ok (.iload_n 1, 1) := by decide +kernel
theorem dX6_far_29 : decode cX6_far 29 = .ok (.imul, 1) := by decide +kernel
theorem dX6_far_30 : decode cX6_far 30 = .ok (.iload_n 2, 1) := by decide +kernel
theorem dX6_far_31 : decode cX6_far 31 = .ok (.iadd, 1) := by decide +kernel
theorem dX6_far_32 : decode cX6_far 32 = .ok (.iaload, 1) := by decide +kernel
theorem dX6_far_33 : decode cX6_far 33 = .ok (.ireturn, 1) := by decide +kernel
theorem dX6_way_0 : decode cX6_way 0 = .ok (.aload_n 0, 1) := by decide +kernel
theorem dX6_way_1 : decode cX6_way 1 = .ok (.iload_n 1, 1) := by decide +kernel
theorem dX6_way_2 : decode cX6_way 2 = .ok (.invokevirtual 83, 3) := by decide +kernel
theorem dX6_way_5 : decode cX6_way 5 = .ok (.ifCond .eq 11, 3) := by decide +kernel
theorem dX6_way_8 : decode cX6_way 8 = .ok (.aload_n 0, 1) := by decide +kernel
theorem dX6_way_9 : decode cX6_way 9 = .ok (.iload_n 2, 1) := by decide +kernel
theorem dX6_way_10 : decode cX6_way 10 = .ok (.invokevirtual 83, 3) := by decide +kernel
theorem dX6_way_13 : decode cX6_way 13 = .ok (.ifCond .ne 5, 3) := by decide +kernel
theorem dX6_way_16 : decode cX6_way 16 = .ok (.iconst (-1), 1) := by decide +kernel
theorem dX6_way_17 : decode cX6_way 17 = .ok (.ireturn, 1) := by decide +kernel
theorem dX6_way_18 : decode cX6_way 18 = .ok (.iload_n 3, 1) := by decide +kernel
theorem dX6_way_19 : decode cX6_way 19 = .ok (.iconst 0, 1) := by decide +kernel
theorem dX6_way_20 : decode cX6_way 20 = .ok (.bipush 7, 2) := by decide +kernel
theorem dX6_way_22 : decode cX6_way 22 = .ok (.invokestatic 76, 3) := by decide +kernel
theorem dX6_way_25 : decode cX6_way 25 = .ok (.ifCond .ne 6, 3) := by decide +kernel
theorem dX6_way_28 : decode cX6_way 28 = .ok (.bipush (-2), 2) := by decide +kernel
theorem dX6_way_30 : decode cX6_way 30 = .ok (.ireturn, 1) := by decide +kernel
theorem dX6_way_31 : decode cX6_way 31 = .ok (.aload_n 0, 1) := by decide +kernel
theorem dX6_way_32 : decode cX6_way 32 = .ok (.invokevirtual 146, 3) := by decide +kernel
theorem dX6_way_35 : decode cX6_way 35 = .ok (.aload_n 0, 1) := by decide +kernel
theorem dX6_way_36 : decode cX6_way 36 = .ok (.getfield 37, 3) := by decide +kernel
theorem dX6_way_39 : decode cX6_way 39 = .ok (.bipush 8, 2) := by decide +kernel
theorem dX6_way_41 : decode cX6_way 41 = .ok (.iload_n 1, 1) := by decide +kernel
theorem dX6_way_42 : decode cX6_way 42 = .ok (.imul, 1) := by decide +kernel
theorem dX6_way_43 : decode cX6_way 43 = .ok (.iload_n 2, 1) := by decide +kernel
theorem dX6_way_44 : decode cX6_way 44 = .ok (.iadd, 1) := by decide +kernel
theorem dX6_way_45 : decode cX6_way 45 = .ok (.iaload, 1) := by decide +kernel
theorem dX6_way_46 : decode cX6_way 46 = .ok (.istore 4, 2) := by decide +kernel
theorem dX6_way_48 : decode cX6_way 48 = .ok (.iload_n 3, 1) := by decide +kernel
theorem dX6_way_49 : decode cX6_way 49 = .ok (.iload 4, 2) := by decide +kernel
theorem dX6_way_51 : decode cX6_way 51 = .ok (.if_icmp .le 6, 3) := by decide +kernel
theorem dX6_way_54 : decode cX6_way 54 = .ok (.bipush (-9), 2) := by decide +kernel
theorem dX6_way_56 : decode cX6_way 56 = .ok (.ireturn, 1) := by decide +kernel
theorem dX6_way_57 : decode cX6_way 57 = .ok (.iconst 0, 1) := by decide +kernel
theorem dX6_way_58 : decode cX6_way 58 = .ok (.istore 5, 2) := by decide +kernel
theorem dX6_way_60 : decode cX6_way 60 = .ok (.iload 5, 2) := by decide +kernel
theorem dX6_way_62 : decode cX6_way 62 = .ok (.aload_n 0, 1) := by decide +kernel
theorem dX6_way_63 : decode cX6_way 63 = .ok (.getfield 80, 3) := by decide +kernel
theorem dX6_way_66 : decode cX6_way 66 = .ok (.if_icmp .ge 47, 3) := by decide +kernel
theorem dX6_way_69 : decode cX6_way 69 = .ok (.aload_n 0, 1) := by decide +kernel
theorem dX6_way_70 : decode cX6_way 70 = .ok (.getfield 37, 3) := by decide +kernel
theorem dX6_way_73 : decode cX6_way 73 = .ok (.bipush 8, 2) := by decide +kernel
theorem dX6_way_75 : decode cX6_way 75 = .ok (.iload_n 1, 1) := by decide +kernel
theorem dX6_way_76 : decode cX6_way 76 = .ok (.imul, 1) := by decide +kernel
theorem dX6_way_77 : decode cX6_way 77 = .ok (.iload 5, 2) := by decide +kernel
theorem dX6_way_79 : decode cX6_way 79 = .ok (.iadd, 1) := by decide +kernel
theorem dX6_way_80 : decode cX6_way 80 = .ok (.iaload, 1) := by decide +kernel
theorem dX6_way_81 : decode cX6_way 81 = .ok (.iload_n 3, 1) := by decide +kernel
theorem dX6_way_82 : decode cX6_way 82 = .ok (.if_icmp .ne 25, 3) := by decide +kernel
theorem dX6_way_85 : decode cX6_way 85 = .ok (.aload_n 0, 1) := by decide +kernel
theorem dX6_way_86 : decode cX6_way 86 = .ok (.getfield 37, 3) := by decide +kernel
theorem dX6_way_89 : decode cX6_way 89 = .ok (.bipush 8, 2) := by decide +kernel
theorem dX6_way_91 : decode cX6_way 91 = .ok (.iload 5, 2) := by decide +kernel
theorem dX6_way_93 : decode cX6_way 93 = .ok (.imul, 1) := by decide +kernel
theorem dX6_way_94 : decode cX6_way 94 = .ok (.iload_n 2, 1) := by decide +kernel
theorem dX6_way_95 : decode cX6_way 95 = .ok (.iadd, 1) := by decide +kernel
theorem dX6_way_96 : decode cX6_way 96 = .ok (.iaload, 1) := by decide +kernel
theorem dX6_way_97 : decode cX6_way 97 = .ok (.iload 4, 2) := by decide +kernel
theorem dX6_way_99 : decode cX6_way 99 = .ok (.iload_n 3, 1) := by decide +kernel
theorem dX6_way_100 : decode cX6_way 100 = .ok (.isub, 1) := by decide +kernel
theorem dX6_way_101 : decode cX6_way 101 = .ok (.if_icmp .ne 6, 3) := by decide +kernel
theorem dX6_way_104 : decode cX6_way 104 = .ok (.iload 5, 2) := by decide +kernel
theorem dX6_way_106 : decode cX6_way 106 = .ok (.ireturn, 1) := by decide +kernel
theorem dX6_way_107 : decode cX6_way 107 = .ok (.iinc 5 1, 3) := by decide +kernel
theorem dX6_way_110 : decode cX6_way 110 = .ok (.goto (-50), 3) := by decide +kernel
theorem dX6_way_113 : decode cX6_way 113 = .ok (.bipush (-9), 2) := by decide +kernel
theorem dX6_way_115 : decode cX6_way 115 = .ok (.ireturn, 1) := by decide +kernel
theorem dX6_middle_0 : decode cX6_middle 0 = .ok (.iload_n 1, 1) := by decide +kernel
theorem dX6_middle_1 : decode cX6_middle 1 = .ok (.iconst 0, 1) := by decide +kernel
theorem dX6_middle_2 : decode cX6_middle 2 = .ok (.iconst 1, 1) := by decide +kernel
theorem dX6_middle_3 : decode cX6_middle 3 = .ok (.invokestatic 76, 3) := by decide +kernel
theorem dX6_middle_6 : decode cX6_middle 6 = .ok (.ifCond .ne 6, 3) := by decide +kernel
theorem dX6_middle_9 : decode cX6_middle 9 = .ok (.bipush (-2), 2) := by decide +kernel
theorem dX6_middle_11 : decode cX6_middle 11 = .ok (.ireturn, 1) := by decide +kernel
theorem dX6_middle_12 : decode cX6_middle 12 = .ok (.aload_n 0, 1) := by decide +kernel
theorem dX6_middle_13 : decode cX6_middle 13 = .ok (.getfield 80, 3) := by decide +kernel
theorem dX6_middle_16 : decode cX6_middle 16 = .ok (.ifCond .ne 6, 3) := by decide +kernel
theorem dX6_middle_19 : decode cX6_middle 19 = .ok (.bipush (-3), 2) := by decide +kernel
theorem dX6_middle_21 : decode cX6_middle 21 = .ok (.ireturn, 1) := by decide +kernel
theorem dX6_middle_22 : decode cX6_middle 22 = .ok (.aload_n 0, 1) := by decide +kernel
theorem dX6_middle_23 : decode cX6_middle 23 = .ok (.invokevirtual 146, 3) := by decide +kernel
theorem dX6_middle_26 : decode cX6_middle 26 = .ok (.iload_n 1, 1) := by decide +kernel
theorem dX6_middle_27 : decode cX6_middle 27 = .ok (.iconst 1, 1) := by decide +kernel
theorem dX6_middle_28 : decode cX6_middle 28 = .ok (.if_icmp .ne 8, 3) := by decide +kernel
theorem dX6_middle_31 : decode cX6_middle 31 = .ok (.aload_n 0, 1) := by decide +kernel
theorem dX6_middle_32 : decode cX6_middle 32 = .ok (.invokevirtual 171, 3) := by decide +kernel
theorem dX6_middle_35 : decode cX6_middle 35 = .ok (.ireturn, 1) := by decide +kernel
theorem dX6_middle_36 : decode cX6_middle 36 = .ok (.bipush 8, 2) := by decide +kernel
theorem dX6_middle_38 : decode cX6_middle 38 = .ok (.istore_n 2, 1) := by decide +kernel
theorem dX6_middle_39 : decode cX6_middle 39 = .ok (.iconst 0, 1) := by decide +kernel
theorem dX6_middle_40 : decode cX6_middle 40 = .ok (.istore_n 3, 1) := by decide +kernel
theorem dX6_middle_41 : decode cX6_middle 41 = .ok (.iconst 0, 1) := by decide +kernel
theorem dX6_middle_42 : decode cX6_middle 42 = .ok (.istore 4, 2) := by decide +kernel
theorem dX6_middle_44 : decode cX6_middle 44 = .ok (.iload 4, 2) := by decide +kernel
theorem dX6_middle_46 : decode cX6_middle 46 = .ok (.aload_n 0, 1) := by decide +kernel
theorem dX6_middle_47 : decode cX6_middle 47 = .ok (.getfield 80, 3) := by decide +kernel
theorem dX6_middle_50 : decode cX6_middle 50 = .ok (.if_icmp .ge 60, 3) := by decide +kernel
theorem dX6_middle_53 : decode cX6_middle 53 = .ok (.aload_n 0, 1) := by decide +kernel
theorem dX6_middle_54 : decode cX6_middle 54 = .ok (.iload 4, 2) := by decide +kernel
theorem dX6_middle_56 : decode cX6_middle 56 = .ok (.invokevirtual 143, 3) := by decide +kernel
theorem dX6_middle_59 : decode cX6_middle 59 = .ok (.istore 5, 2) := by decide +kernel
theorem dX6_middle_61 : decode cX6_middle 61 = .ok (.iload 5, 2) := by decide +kernel
theorem dX6_middle_63 : decode cX6_middle 63 = .ok (.iload_n 2, 1) := by decide +kernel
theorem dX6_middle_64 : decode cX6_middle 64 = .ok (.if_icmp .ge 10, 3) := by decide +kernel
theorem dX6_middle_67 : decode cX6_middle 67 = .ok (.iconst 1, 1) := by decide +kernel
theorem dX6_middle_68 : decode cX6_middle 68 = .ok (.iload 4, 2) := by decide +kernel
theorem dX6_middle_70 : decode cX6_middle 70 = .ok (.ishl, 1) := by decide +kernel
theorem dX6_middle_71 : decode cX6_middle 71 = .ok (.goto 19, 3) := by decide +kernel
theorem dX6_middle_74 : decode cX6_middle 74 = .ok (.iload 5, 2) := by decide +kernel
theorem dX6_middle_76 : decode cX6_middle 76 = .ok (.iload_n 2, 1) := by decide +kernel
theorem dX6_middle_77 : decode cX6_middle 77 = .ok (.if_icmp .ne 12, 3) := by decide +kernel
theorem dX6_middle_80 : decode cX6_middle 80 = .ok (.iload_n 3, 1) := by decide +kernel
theorem dX6_middle_81 : decode cX6_middle 81 = .ok (.iconst 1, 1) := by decide +kernel
theorem dX6_middle_82 : decode cX6_middle 82 = .ok (.iload 4, 2) := by decide +kernel
theorem dX6_middle_84 : decode cX6_middle 84 = .ok (.ishl, 1) := by decide +kernel
theorem dX6_middle_85 : decode cX6_middle 85 = .ok (.ior, 1) := by decide +kernel
theorem dX6_middle_86 : decode cX6_middle 86 = .ok (.goto 4, 3) := by decide +kernel
theorem dX6_middle_89 : decode cX6_middle 89 = .ok (.iload_n 3, 1) := by decide +kernel
theorem dX6_middle_90 : decode cX6_middle 90 = .ok (.istore_n 3, 1) := by decide +kernel
theorem dX6_middle_91 : decode cX6_middle 91 = .ok (.iload 5, 2) := by decide +kernel
theorem dX6_middle_93 : decode cX6_middle 93 = .ok (.iload_n 2, 1) := by decide +kernel
theorem dX6_middle_94 : decode cX6_middle 94 = .ok (.if_icmp .ge 8, 3) := by decide +kernel
theorem dX6_middle_97 : decode cX6_middle 97 = .ok (.iload 5, 2) := by decide +kernel
theorem dX6_middle_99 : decode cX6_middle 99 = .ok (.goto 4, 3) := by decide +kernel
theorem dX6_middle_102 : decode cX6_middle 102 = .ok (.iload_n 2, 1) := by decide +kernel
theorem dX6_middle_103 : decode cX6_middle 103 = .ok (.istore_n 2, 1) := by decide +kernel
theorem dX6_middle_104 : decode cX6_middle 104 = .ok (.iinc 4 1, 3) := by decide +kernel
theorem dX6_middle_107 : decode cX6_middle 107 = .ok (.goto (-63), 3) := by decide +kernel
theorem dX6_middle_110 : decode cX6_middle 110 = .ok (.iload_n 3, 1) := by decide +kernel
theorem dX6_middle_111 : decode cX6_middle 111 = .ok (.ireturn, 1) := by decide +kernel
theorem dX6_numberOf_0 : decode cX6_numberOf 0 = .ok (.aload_n 0, 1) := by decide +kernel
theorem dX6_numberOf_1 : decode cX6_numberOf 1 = .ok (.invokevirtual 149, 3) := by decide +kernel
theorem dX6_numberOf_4 : decode cX6_numberOf 4 = .ok (.iconst 0, 1) := by decide +kernel
theorem dX6_numberOf_5 : decode cX6_numberOf 5 = .ok (.istore_n 1, 1) := by decide +kernel
theorem dX6_numberOf_6 : decode cX6_numberOf 6 = .ok (.iconst 0, 1) := by decide +kernel
theorem dX6_numberOf_7 : decode cX6_numberOf 7 = .ok (.istore_n 2, 1) := by decide +kernel
theorem dX6_numberOf_8 : decode cX6_numberOf 8 = .ok (.iload_n 2, 1) := by decide +kernel
theorem dX6_numberOf_9 : decode cX6_numberOf 9 = .ok (.aload_n 0, 1) := by decide +kernel
theorem dX6_numberOf_10 : decode cX6_numberOf 10 = .ok (.getfield 80, 3) := by decide +kernel
theorem dX6_numberOf_13 : decode cX6_numberOf 13 = .ok (.iconst 2, 1) := by decide +kernel
theorem dX6_numberOf_14 : decode cX6_numberOf 14 = .ok (.isub, 1) := by decide +kernel
theorem dX6_numberOf_15 : decode cX6_numberOf 15 = .ok (.if_icmp .ge 23, 3) := by decide +kernel
theorem dX6_numberOf_18 : decode cX6_numberOf 18 = .ok (.iload_n 1, 1) := by decide +kernel
theorem dX6_numberOf_19 : decode cX6_numberOf 19 = .ok (.aload_n 0, 1) := by decide +kernel
theorem dX6_numberOf_20 : decode cX6_numberOf 20 = .ok (.getfield 80, 3) := by decide +kernel
theorem dX6_numberOf_23 : decode cX6_numberOf 23 = .ok (.imul, 1) := by decide +kernel
theorem dX6_numberOf_24 : decode cX6_numberOf 24 = .ok (.aload_n 0, 1) := by decide +kernel
theorem dX6_numberOf_25 : decode cX6_numberOf 25 = .ok (.getfield 40, 3) := by decide +kernel
theorem dX6_numberOf_28 : decode cX6_numberOf 28 = .ok (.iload_n 2, 1) := by decide +kernel
theorem dX6_numberOf_29 : decode cX6_numberOf 29 = .ok (.iaload, 1) := by decide +kernel
theorem dX6_numberOf_30 : decode cX6_numberOf 30 = .ok (.iadd, 1) := by decide +kernel
theorem dX6_numberOf_31 : decode cX6_numberOf 31 = .ok (.istore_n 1, 1) := by decide +kernel
theorem dX6_numberOf_32 : decode cX6_numberOf 32 = .ok (.iinc 2 1, 3) := by decide +kernel
theorem dX6_numberOf_35 : decode cX6_numberOf 35 = .ok (.goto (-27), 3) := by decide +kernel
theorem dX6_numberOf_38 : decode cX6_numberOf 38 = .ok (.iload_n 1, 1) := by decide +kernel
theorem dX6_numberOf_39 : decode cX6_numberOf 39 = .ok (.ireturn, 1) := by decide +kernel
theorem dX6_number_0 : decode cX6_number 0 = .ok (.aload_n 0, 1) := by decide +kernel
theorem dX6_number_1 : decode cX6_number 1 = .ok (.getfield 80, 3) := by decide +kernel
theorem dX6_number_4 : decode cX6_number 4 = .ok (.ifCond .ne 8, 3) := by decide +kernel
theorem dX6_number_7 : decode cX6_number 7 = .ok (.bipush (-3), 2) := by decide +kernel
theorem dX6_number_9 : decode cX6_number 9 = .ok (.goto 7, 3) := by decide +kernel
theorem dX6_number_12 : decode cX6_number 12 = .ok (.aload_n 0, 1) := by decide +kernel
theorem dX6_number_13 : decode cX6_number 13 = .ok (.invokevirtual 175, 3) := by decide +kernel
theorem dX6_number_16 : decode cX6_number 16 = .ok (.ireturn, 1) := by decide +kernel
theorem dX6_orders_0 : decode cX6_orders 0 = .ok (.iconst 1, 1) := by decide +kernel
theorem dX6_orders_1 : decode cX6_orders 1 = .ok (.istore_n 1, 1) := by decide +kernel
theorem dX6_orders_2 : decode cX6_orders 2 = .ok (.iconst 2, 1) := by decide +kernel
theorem dX6_orders_3 : decode cX6_orders 3 = .ok (.istore_n 2, 1) := by decide +kernel
theorem dX6_orders_4 : decode cX6_orders 4 = .ok (.iload_n 2, 1) := by decide +kernel
theorem dX6_orders_5 : decode cX6_orders 5 = .ok (.aload_n 0, 1) := by decide +kernel
theorem dX6_orders_6 : decode cX6_orders 6 = .ok (.getfield 80, 3) := by decide +kernel
theorem dX6_orders_9 : decode cX6_orders 9 = .ok (.if_icmp .gt 13, 3) := by decide +kernel
theorem dX6_orders_12 : decode cX6_orders 12 = .ok (.iload_n 1, 1) := by decide +kernel
theorem dX6_orders_13 : decode cX6_orders 13 = .ok (.iload_n 2, 1) := by decide +kernel
theorem dX6_orders_14 : decode cX6_orders 14 = .ok (.imul, 1) := by decide +kernel
theorem dX6_orders_15 : decode cX6_orders 15 = .ok (.istore_n 1, 1) := by decide +kernel
theorem dX6_orders_16 : decode cX6_orders 16 = .ok (.iinc 2 1, 3) := by decide +kernel
theorem dX6_orders_19 : decode cX6_orders 19 = .ok (.goto (-15), 3) := by decide +kernel
theorem dX6_orders_22 : decode cX6_orders 22 = .ok (.iload_n 1, 1) := by decide +kernel
theorem dX6_orders_23 : decode cX6_orders 23 = .ok (.ireturn, 1) := by decide +kernel
theorem dX6_findNames_0 : decode cX6_findNames 0 = .ok (.iload_n 1, 1) := by decide +kernel
theorem dX6_findNames_1 : decode cX6_findNames 1 = .ok (.istore_n 2, 1) := by decide +kernel
theorem dX6_findNames_2 : decode cX6_findNames 2 = .ok (.iconst 1, 1) := by decide +kernel
theorem dX6_findNames_3 : decode cX6_findNames 3 = .ok (.aload_n 0, 1) := by decide +kernel
theorem dX6_findNames_4 : decode cX6_findNames 4 = .ok (.getfield 80, 3) := by decide +kernel
theorem dX6_findNames_7 : decode cX6_findNames 7 = .ok (.ishl, 1) := by decide +kernel
theorem dX6_findNames_8 : decode cX6_findNames 8 = .ok (.iconst 1, 1) := by decide +kernel
theorem dX6_findNames_9 : decode cX6_findNames 9 = .ok (.isub, 1) := by decide +kernel
theorem dX6_findNames_10 : decode cX6_findNames 10 = .ok (.istore_n 3, 1) := by decide +kernel
theorem dX6_findNames_11 : decode cX6_findNames 11 = .ok (.iconst 0, 1) := by decide +kernel
theorem dX6_findNames_12 : decode cX6_findNames 12 = .ok (.istore 4, 2) := by decide +kernel
theorem dX6_findNames_14 : decode cX6_findNames 14 = .ok (.iload 4, 2) := by decide +kernel
theorem dX6_findNames_16 : decode cX6_findNames 16 = .ok (.aload_n 0, 1) := by decide +kernel
theorem dX6_findNames_17 : decode cX6_findNames 17 = .ok (.getfield 80, 3) := by decide +kernel
theorem dX6_findNames_20 : decode cX6_findNames 20 = .ok (.if_icmp .ge 88, 3) := by decide +kernel
theorem dX6_findNames_23 : decode cX6_findNames 23 = .ok (.iload_n 2, 1) := by decide +kernel
theorem dX6_findNames_24 : decode cX6_findNames 24 = .ok (.aload_n 0, 1) := by decide +kernel
theorem dX6_findNames_25 : decode cX6_findNames 25 = .ok (.getfield 80, 3) := by decide +kernel
theorem dX6_findNames_28 : decode cX6_findNames 28 = .ok (.iload 4, 2) := by decide +kernel
theorem dX6_findNames_30 : decode cX6_findNames 30 = .ok (.isub, 1) := by decide +kernel
theorem dX6_findNames_31 : decode cX6_findNames 31 = .ok (.irem, 1) := by decide +kernel
theorem dX6_findNames_32 : decode cX6_findNames 32 = .ok (.istore 5, 2) := by decide +kernel
theorem dX6_findNames_34 : decode cX6_findNames 34 = .ok (.iload_n 2, 1) := by decide +kernel
theorem dX6_findNames_35 : decode cX6_findNames 35 = .ok (.aload_n 0, 1) := by decide +kernel
theorem dX6_findNames_36 : decode cX6_findNames 36 = .ok (.getfield 80, 3) := by decide +kernel
theorem dX6_findNames_39 : decode cX6_findNames 39 = .ok (.iload 4, 2) := by decide +kernel
theorem dX6_findNames_41 : decode cX6_findNames 41 = .ok (.isub, 1) := by decide +kernel
theorem dX6_findNames_42 : decode cX6_findNames 42 = .ok (.idiv, 1) := by decide +kernel
theorem dX6_findNames_43 : decode cX6_findNames 43 = .ok (.istore_n 2, 1) := by decide +kernel
theorem dX6_findNames_44 : decode cX6_findNames 44 = .ok (.iload_n 3, 1) := by decide +kernel
theorem dX6_findNames_45 : decode cX6_findNames 45 = .ok (.invokestatic 130, 3) := by decide +kernel
theorem dX6_findNames_48 : decode cX6_findNames 48 = .ok (.istore 6, 2) := by decide +kernel
theorem dX6_findNames_50 : decode cX6_findNames 50 = .ok (.iconst 0, 1) := by decide +kernel
theorem dX6_findNames_51 : decode cX6_findNames 51 = .ok (.istore 7, 2) := by decide +kernel
theorem dX6_findNames_53 : decode cX6_findNames 53 = .ok (.iload 7, 2) := by decide +kernel
theorem dX6_findNames_55 : decode cX6_findNames 55 = .ok (.iload 5, 2) := by decide +kernel
theorem dX6_findNames_57 : decode cX6_findNames 57 = .ok (.if_icmp .ge 27, 3) := by decide +kernel
theorem dX6_findNames_60 : decode cX6_findNames 60 = .ok (.iinc 6 1, 3) := by decide +kernel
theorem dX6_findNames_63 : decode cX6_findNames 63 = .ok (.iload_n 3, 1) := by decide +kernel
theorem dX6_findNames_64 : decode cX6_findNames 64 = .ok (.iload 6, 2) := by decide +kernel
theorem dX6_findNames_66 : decode cX6_findNames 66 = .ok (.invokestatic 87, 3) := by decide +kernel
theorem dX6_findNames_69 : decode cX6_findNames 69 = .ok (.ifCond .ne 9, 3) := by decide +kernel
theorem dX6_findNames_72 : decode cX6_findNames 72 = .ok (.iinc 6 1, 3) := by decide +kernel
theorem dX6_findNames_75 : decode cX6_findNames 75 = .ok (.goto (-12), 3) := by decide +kernel
theorem dX6_findNames_78 : decode cX6_findNames 78 = .ok (.iinc 7 1, 3) := by decide +kernel
theorem dX6_findNames_81 : decode cX6_findNames 81 = .ok (.goto (-28), 3) := by decide +kernel
theorem dX6_findNames_84 : decode cX6_findNames 84 = .ok (.aload_n 0, 1) := by decide +kernel
theorem dX6_findNames_85 : decode cX6_findNames 85 = .ok (.getfield 52, 3) := by decide +kernel
end
section
theorem dX6_findNames_88 : decode cX6_findNames 88 = .ok (.iload 4, 2) := by decide +kernel
theorem dX6_findNames_90 : decode cX6_findNames 90 = .ok (.iload 6, 2) := by decide +kernel
theorem dX6_findNames_92 : decode cX6_findNames 92 = .ok (.iastore, 1) := by decide +kernel
theorem dX6_findNames_93 : decode cX6_findNames 93 = .ok (.iload_n 3, 1) := by decide +kernel
theorem dX6_findNames_94 : decode cX6_findNames 94 = .ok (.iconst 1, 1) := by decide +kernel
theorem dX6_findNames_95 : decode cX6_findNames 95 = .ok (.iload 6, 2) := by decide +kernel
theorem dX6_findNames_97 : decode cX6_findNames 97 = .ok (.ishl, 1) := by decide +kernel
theorem dX6_findNames_98 : decode cX6_findNames 98 = .ok (.iconst (-1), 1) := by decide +kernel
theorem dX6_findNames_99 : decode cX6_findNames 99 = .ok (.ixor, 1) := by decide +kernel
theorem dX6_findNames_100 : decode cX6_findNames 100 = .ok (.iand, 1) := by decide +kernel
theorem dX6_findNames_101 : decode cX6_findNames 101 = .ok (.istore_n 3, 1) := by decide +kernel
theorem dX6_findNames_102 : decode cX6_findNames 102 = .ok (.iinc 4 1, 3) := by decide +kernel
theorem dX6_findNames_105 : decode cX6_findNames 105 = .ok (.goto (-91), 3) := by decide +kernel
theorem dX6_findNames_108 : decode cX6_findNames 108 = .ok (.return_, 1) := by decide +kernel
theorem dX6_isSame_0 : decode cX6_isSame 0 = .ok (.iconst 0, 1) := by decide +kernel
theorem dX6_isSame_1 : decode cX6_isSame 1 = .ok (.istore_n 1, 1) := by decide +kernel
theorem dX6_isSame_2 : decode cX6_isSame 2 = .ok (.iload_n 1, 1) := by decide +kernel
theorem dX6_isSame_3 : decode cX6_isSame 3 = .ok (.aload_n 0, 1) := by decide +kernel
theorem dX6_isSame_4 : decode cX6_isSame 4 = .ok (.getfield 80, 3) := by decide +kernel
theorem dX6_isSame_7 : decode cX6_isSame 7 = .ok (.if_icmp .ge 72, 3) := by decide +kernel
theorem dX6_isSame_10 : decode cX6_isSame 10 = .ok (.iconst 0, 1) := by decide +kernel
theorem dX6_isSame_11 : decode cX6_isSame 11 = .ok (.istore_n 2, 1) := by decide +kernel
theorem dX6_isSame_12 : decode cX6_isSame 12 = .ok (.iconst 0, 1) := by decide +kernel
theorem dX6_isSame_13 : decode cX6_isSame 13 = .ok (.istore_n 3, 1) := by decide +kernel
theorem dX6_isSame_14 : decode cX6_isSame 14 = .ok (.iload_n 3, 1) := by decide +kernel
theorem dX6_isSame_15 : decode cX6_isSame 15 = .ok (.aload_n 0, 1) := by decide +kernel
theorem dX6_isSame_16 : decode cX6_isSame 16 = .ok (.getfield 80, 3) := by decide +kernel
theorem dX6_isSame_19 : decode cX6_isSame 19 = .ok (.if_icmp .ge 37, 3) := by decide +kernel
theorem dX6_isSame_22 : decode cX6_isSame 22 = .ok (.iload_n 2, 1) := by decide +kernel
theorem dX6_isSame_23 : decode cX6_isSame 23 = .ok (.aload_n 0, 1) := by decide +kernel
theorem dX6_isSame_24 : decode cX6_isSame 24 = .ok (.getfield 19, 3) := by decide +kernel
theorem dX6_isSame_27 : decode cX6_isSame 27 = .ok (.iload_n 1, 1) := by decide +kernel
theorem dX6_isSame_28 : decode cX6_isSame 28 = .ok (.iaload, 1) := by decide +kernel
theorem dX6_isSame_29 : decode cX6_isSame 29 = .ok (.iload_n 3, 1) := by decide +kernel
theorem dX6_isSame_30 : decode cX6_isSame 30 = .ok (.invokestatic 87, 3) := by decide +kernel
theorem dX6_isSame_33 : decode cX6_isSame 33 = .ok (.ifCond .eq 14, 3) := by decide +kernel
theorem dX6_isSame_36 : decode cX6_isSame 36 = .ok (.iconst 1, 1) := by decide +kernel
theorem dX6_isSame_37 : decode cX6_isSame 37 = .ok (.aload_n 0, 1) := by decide +kernel
theorem dX6_isSame_38 : decode cX6_isSame 38 = .ok (.getfield 52, 3) := by decide +kernel
theorem dX6_isSame_41 : decode cX6_isSame 41 = .ok (.iload_n 3, 1) := by decide +kernel
theorem dX6_isSame_42 : decode cX6_isSame 42 = .ok (.iaload, 1) := by decide +kernel
theorem dX6_isSame_43 : decode cX6_isSame 43 = .ok (.ishl, 1) := by decide +kernel
theorem dX6_isSame_44 : decode cX6_isSame 44 = .ok (.goto 4, 3) := by decide +kernel
theorem dX6_isSame_47 : decode cX6_isSame 47 = .ok (.iconst 0, 1) := by decide +kernel
theorem dX6_isSame_48 : decode cX6_isSame 48 = .ok (.ior, 1) := by decide +kernel
theorem dX6_isSame_49 : decode cX6_isSame 49 = .ok (.istore_n 2, 1) := by decide +kernel
theorem dX6_isSame_50 : decode cX6_isSame 50 = .ok (.iinc 3 1, 3) := by decide +kernel
theorem dX6_isSame_53 : decode cX6_isSame 53 = .ok (.goto (-39), 3) := by decide +kernel
theorem dX6_isSame_56 : decode cX6_isSame 56 = .ok (.iload_n 2, 1) := by decide +kernel
theorem dX6_isSame_57 : decode cX6_isSame 57 = .ok (.aload_n 0, 1) := by decide +kernel
theorem dX6_isSame_58 : decode cX6_isSame 58 = .ok (.getfield 19, 3) := by decide +kernel
theorem dX6_isSame_61 : decode cX6_isSame 61 = .ok (.aload_n 0, 1) := by decide +kernel
theorem dX6_isSame_62 : decode cX6_isSame 62 = .ok (.getfield 52, 3) := by decide +kernel
theorem dX6_isSame_65 : decode cX6_isSame 65 = .ok (.iload_n 1, 1) := by decide +kernel
theorem dX6_isSame_66 : decode cX6_isSame 66 = .ok (.iaload, 1) := by decide +kernel
theorem dX6_isSame_67 : decode cX6_isSame 67 = .ok (.iaload, 1) := by decide +kernel
theorem dX6_isSame_68 : decode cX6_isSame 68 = .ok (.if_icmp .eq 5, 3) := by decide +kernel
theorem dX6_isSame_71 : decode cX6_isSame 71 = .ok (.iconst 0, 1) := by decide +kernel
theorem dX6_isSame_72 : decode cX6_isSame 72 = .ok (.ireturn, 1) := by decide +kernel
theorem dX6_isSame_73 : decode cX6_isSame 73 = .ok (.iinc 1 1, 3) := by decide +kernel
theorem dX6_isSame_76 : decode cX6_isSame 76 = .ok (.goto (-74), 3) := by decide +kernel
theorem dX6_isSame_79 : decode cX6_isSame 79 = .ok (.iconst 1, 1) := by decide +kernel
theorem dX6_isSame_80 : decode cX6_isSame 80 = .ok (.ireturn, 1) := by decide +kernel
theorem dX6_alike_0 : decode cX6_alike 0 = .ok (.aload_n 0, 1) := by decide +kernel
theorem dX6_alike_1 : decode cX6_alike 1 = .ok (.getfield 80, 3) := by decide +kernel
theorem dX6_alike_4 : decode cX6_alike 4 = .ok (.ifCond .ne 6, 3) := by decide +kernel
theorem dX6_alike_7 : decode cX6_alike 7 = .ok (.bipush (-3), 2) := by decide +kernel
theorem dX6_alike_9 : decode cX6_alike 9 = .ok (.ireturn, 1) := by decide +kernel
theorem dX6_alike_10 : decode cX6_alike 10 = .ok (.iconst 0, 1) := by decide +kernel
theorem dX6_alike_11 : decode cX6_alike 11 = .ok (.istore_n 1, 1) := by decide +kernel
theorem dX6_alike_12 : decode cX6_alike 12 = .ok (.aload_n 0, 1) := by decide +kernel
theorem dX6_alike_13 : decode cX6_alike 13 = .ok (.invokevirtual 184, 3) := by decide +kernel
theorem dX6_alike_16 : decode cX6_alike 16 = .ok (.istore_n 2, 1) := by decide +kernel
theorem dX6_alike_17 : decode cX6_alike 17 = .ok (.iconst 0, 1) := by decide +kernel
theorem dX6_alike_18 : decode cX6_alike 18 = .ok (.istore_n 3, 1) := by decide +kernel
theorem dX6_alike_19 : decode cX6_alike 19 = .ok (.iload_n 3, 1) := by decide +kernel
theorem dX6_alike_20 : decode cX6_alike 20 = .ok (.iload_n 2, 1) := by decide +kernel
theorem dX6_alike_21 : decode cX6_alike 21 = .ok (.if_icmp .ge 29, 3) := by decide +kernel
theorem dX6_alike_24 : decode cX6_alike 24 = .ok (.aload_n 0, 1) := by decide +kernel
theorem dX6_alike_25 : decode cX6_alike 25 = .ok (.iload_n 3, 1) := by decide +kernel
theorem dX6_alike_26 : decode cX6_alike 26 = .ok (.invokevirtual 187, 3) := by decide +kernel
theorem dX6_alike_29 : decode cX6_alike 29 = .ok (.iload_n 1, 1) := by decide +kernel
theorem dX6_alike_30 : decode cX6_alike 30 = .ok (.aload_n 0, 1) := by decide +kernel
theorem dX6_alike_31 : decode cX6_alike 31 = .ok (.invokevirtual 191, 3) := by decide +kernel
theorem dX6_alike_34 : decode cX6_alike 34 = .ok (.ifCond .eq 7, 3) := by decide +kernel
theorem dX6_alike_37 : decode cX6_alike 37 = .ok (.iconst 1, 1) := by decide +kernel
theorem dX6_alike_38 : decode cX6_alike 38 = .ok (.goto 4, 3) := by decide +kernel
theorem dX6_alike_41 : decode cX6_alike 41 = .ok (.iconst 0, 1) := by decide +kernel
theorem dX6_alike_42 : decode cX6_alike 42 = .ok (.iadd, 1) := by decide +kernel
theorem dX6_alike_43 : decode cX6_alike 43 = .ok (.istore_n 1, 1) := by decide +kernel
theorem dX6_alike_44 : decode cX6_alike 44 = .ok (.iinc 3 1, 3) := by decide +kernel
theorem dX6_alike_47 : decode cX6_alike 47 = .ok (.goto (-28), 3) := by decide +kernel
theorem dX6_alike_50 : decode cX6_alike 50 = .ok (.iload_n 2, 1) := by decide +kernel
theorem dX6_alike_51 : decode cX6_alike 51 = .ok (.iload_n 1, 1) := by decide +kernel
theorem dX6_alike_52 : decode cX6_alike 52 = .ok (.idiv, 1) := by decide +kernel
theorem dX6_alike_53 : decode cX6_alike 53 = .ok (.ireturn, 1) := by decide +kernel
theorem dX6_findTwigs_0 : decode cX6_findTwigs 0 = .ok (.iconst 0, 1) := by decide +kernel
theorem dX6_findTwigs_1 : decode cX6_findTwigs 1 = .ok (.istore_n 1, 1) := by decide +kernel
theorem dX6_findTwigs_2 : decode cX6_findTwigs 2 = .ok (.iconst 0, 1) := by decide +kernel
theorem dX6_findTwigs_3 : decode cX6_findTwigs 3 = .ok (.istore_n 2, 1) := by decide +kernel
theorem dX6_findTwigs_4 : decode cX6_findTwigs 4 = .ok (.iload_n 2, 1) := by decide +kernel
theorem dX6_findTwigs_5 : decode cX6_findTwigs 5 = .ok (.aload_n 0, 1) := by decide +kernel
theorem dX6_findTwigs_6 : decode cX6_findTwigs 6 = .ok (.getfield 80, 3) := by decide +kernel
theorem dX6_findTwigs_9 : decode cX6_findTwigs 9 = .ok (.if_icmp .ge 57, 3) := by decide +kernel
theorem dX6_findTwigs_12 : decode cX6_findTwigs 12 = .ok (.iload_n 2, 1) := by decide +kernel
theorem dX6_findTwigs_13 : decode cX6_findTwigs 13 = .ok (.iconst 1, 1) := by decide +kernel
theorem dX6_findTwigs_14 : decode cX6_findTwigs 14 = .ok (.iadd, 1) := by decide +kernel
theorem dX6_findTwigs_15 : decode cX6_findTwigs 15 = .ok (.istore_n 3, 1) := by decide +kernel
theorem dX6_findTwigs_16 : decode cX6_findTwigs 16 = .ok (.iload_n 3, 1) := by decide +kernel
theorem dX6_findTwigs_17 : decode cX6_findTwigs 17 = .ok (.aload_n 0, 1) := by decide +kernel
theorem dX6_findTwigs_18 : decode cX6_findTwigs 18 = .ok (.getfield 80, 3) := by decide +kernel
theorem dX6_findTwigs_21 : decode cX6_findTwigs 21 = .ok (.if_icmp .ge 39, 3) := by decide +kernel
theorem dX6_findTwigs_24 : decode cX6_findTwigs 24 = .ok (.aload_n 0, 1) := by decide +kernel
theorem dX6_findTwigs_25 : decode cX6_findTwigs 25 = .ok (.getfield 19, 3) := by decide +kernel
theorem dX6_findTwigs_28 : decode cX6_findTwigs 28 = .ok (.iload_n 2, 1) := by decide +kernel
theorem dX6_findTwigs_29 : decode cX6_findTwigs 29 = .ok (.iaload, 1) := by decide +kernel
theorem dX6_findTwigs_30 : decode cX6_findTwigs 30 = .ok (.iload_n 3, 1) := by decide +kernel
theorem dX6_findTwigs_31 : decode cX6_findTwigs 31 = .ok (.invokestatic 87, 3) := by decide +kernel
theorem dX6_findTwigs_34 : decode cX6_findTwigs 34 = .ok (.ifCond .eq 20, 3) := by decide +kernel
theorem dX6_findTwigs_37 : decode cX6_findTwigs 37 = .ok (.aload_n 0, 1) := by decide +kernel
theorem dX6_findTwigs_38 : decode cX6_findTwigs 38 = .ok (.getfield 55, 3) := by decide +kernel
theorem dX6_findTwigs_41 : decode cX6_findTwigs 41 = .ok (.iload_n 1, 1) := by decide +kernel
theorem dX6_findTwigs_42 : decode cX6_findTwigs 42 = .ok (.iload_n 2, 1) := by decide +kernel
theorem dX6_findTwigs_43 : decode cX6_findTwigs 43 = .ok (.iastore, 1) := by decide +kernel
theorem dX6_findTwigs_44 : decode cX6_findTwigs 44 = .ok (.aload_n 0, 1) := by decide +kernel
theorem dX6_findTwigs_45 : decode cX6_findTwigs 45 = .ok (.getfield 58, 3) := by decide +kernel
theorem dX6_findTwigs_48 : decode cX6_findTwigs 48 = .ok (.iload_n 1, 1) := by decide +kernel
theorem dX6_findTwigs_49 : decode cX6_findTwigs 49 = .ok (.iload_n 3, 1) := by decide +kernel
theorem dX6_findTwigs_50 : decode cX6_findTwigs 50 = .ok (.iastore, 1) := by decide +kernel
theorem dX6_findTwigs_51 : decode cX6_findTwigs 51 = .ok (.iinc 1 1, 3) := by decide +kernel
theorem dX6_findTwigs_54 : decode cX6_findTwigs 54 = .ok (.iinc 3 1, 3) := by decide +kernel
theorem dX6_findTwigs_57 : decode cX6_findTwigs 57 = .ok (.goto (-41), 3) := by decide +kernel
theorem dX6_findTwigs_60 : decode cX6_findTwigs 60 = .ok (.iinc 2 1, 3) := by decide +kernel
theorem dX6_findTwigs_63 : decode cX6_findTwigs 63 = .ok (.goto (-59), 3) := by decide +kernel
theorem dX6_findTwigs_66 : decode cX6_findTwigs 66 = .ok (.iload_n 1, 1) := by decide +kernel
theorem dX6_findTwigs_67 : decode cX6_findTwigs 67 = .ok (.ireturn, 1) := by decide +kernel
theorem dX6_pairs_0 : decode cX6_pairs 0 = .ok (.aload_n 0, 1) := by decide +kernel
theorem dX6_pairs_1 : decode cX6_pairs 1 = .ok (.getfield 80, 3) := by decide +kernel
theorem dX6_pairs_4 : decode cX6_pairs 4 = .ok (.ifCond .ne 6, 3) := by decide +kernel
theorem dX6_pairs_7 : decode cX6_pairs 7 = .ok (.bipush (-3), 2) := by decide +kernel
theorem dX6_pairs_9 : decode cX6_pairs 9 = .ok (.ireturn, 1) := by decide +kernel
theorem dX6_pairs_10 : decode cX6_pairs 10 = .ok (.aload_n 0, 1) := by decide +kernel
theorem dX6_pairs_11 : decode cX6_pairs 11 = .ok (.invokevirtual 195, 3) := by decide +kernel
theorem dX6_pairs_14 : decode cX6_pairs 14 = .ok (.istore_n 1, 1) := by decide +kernel
theorem dX6_pairs_15 : decode cX6_pairs 15 = .ok (.iconst 0, 1) := by decide +kernel
theorem dX6_pairs_16 : decode cX6_pairs 16 = .ok (.istore_n 2, 1) := by decide +kernel
theorem dX6_pairs_17 : decode cX6_pairs 17 = .ok (.iconst 0, 1) := by decide +kernel
theorem dX6_pairs_18 : decode cX6_pairs 18 = .ok (.istore_n 3, 1) := by decide +kernel
theorem dX6_pairs_19 : decode cX6_pairs 19 = .ok (.iload_n 3, 1) := by decide +kernel
theorem dX6_pairs_20 : decode cX6_pairs 20 = .ok (.iconst 1, 1) := by decide +kernel
theorem dX6_pairs_21 : decode cX6_pairs 21 = .ok (.iload_n 1, 1) := by decide +kernel
theorem dX6_pairs_22 : decode cX6_pairs 22 = .ok (.ishl, 1) := by decide +kernel
theorem dX6_pairs_23 : decode cX6_pairs 23 = .ok (.if_icmp .ge 113, 3) := by decide +kernel
theorem dX6_pairs_26 : decode cX6_pairs 26 = .ok (.iconst 0, 1) := by decide +kernel
theorem dX6_pairs_27 : decode cX6_pairs 27 = .ok (.istore 4, 2) := by decide +kernel
theorem dX6_pairs_29 : decode cX6_pairs 29 = .ok (.iconst 1, 1) := by decide +kernel
theorem dX6_pairs_30 : decode cX6_pairs 30 = .ok (.istore 5, 2) := by decide +kernel
theorem dX6_pairs_32 : decode cX6_pairs 32 = .ok (.iconst 0, 1) := by decide +kernel
theorem dX6_pairs_33 : decode cX6_pairs 33 = .ok (.istore 6, 2) := by decide +kernel
theorem dX6_pairs_35 : decode cX6_pairs 35 = .ok (.iload 6, 2) := by decide +kernel
theorem dX6_pairs_37 : decode cX6_pairs 37 = .ok (.iload_n 1, 1) := by decide +kernel
theorem dX6_pairs_38 : decode cX6_pairs 38 = .ok (.if_icmp .ge 70, 3) := by decide +kernel
theorem dX6_pairs_41 : decode cX6_pairs 41 = .ok (.iload 5, 2) := by decide +kernel
theorem dX6_pairs_43 : decode cX6_pairs 43 = .ok (.ifCond .eq 65, 3) := by decide +kernel
theorem dX6_pairs_46 : decode cX6_pairs 46 = .ok (.iload_n 3, 1) := by decide +kernel
theorem dX6_pairs_47 : decode cX6_pairs 47 = .ok (.iload 6, 2) := by decide +kernel
theorem dX6_pairs_49 : decode cX6_pairs 49 = .ok (.invokestatic 87, 3) := by decide +kernel
theorem dX6_pairs_52 : decode cX6_pairs 52 = .ok (.ifCond .eq 25, 3) := by decide +kernel
theorem dX6_pairs_55 : decode cX6_pairs 55 = .ok (.iconst 1, 1) := by decide +kernel
theorem dX6_pairs_56 : decode cX6_pairs 56 = .ok (.aload_n 0, 1) := by decide +kernel
theorem dX6_pairs_57 : decode cX6_pairs 57 = .ok (.getfield 55, 3) := by decide +kernel
theorem dX6_pairs_60 : decode cX6_pairs 60 = .ok (.iload 6, 2) := by decide +kernel
theorem dX6_pairs_62 : decode cX6_pairs 62 = .ok (.iaload, 1) := by decide +kernel
theorem dX6_pairs_63 : decode cX6_pairs 63 = .ok (.ishl, 1) := by decide +kernel
theorem dX6_pairs_64 : decode cX6_pairs 64 = .ok (.iconst 1, 1) := by decide +kernel
theorem dX6_pairs_65 : decode cX6_pairs 65 = .ok (.aload_n 0, 1) := by decide +kernel
theorem dX6_pairs_66 : decode cX6_pairs 66 = .ok (.getfield 58, 3) := by decide +kernel
theorem dX6_pairs_69 : decode cX6_pairs 69 = .ok (.iload 6, 2) := by decide +kernel
theorem dX6_pairs_71 : decode cX6_pairs 71 = .ok (.iaload, 1) := by decide +kernel
theorem dX6_pairs_72 : decode cX6_pairs 72 = .ok (.ishl, 1) := by decide +kernel
theorem dX6_pairs_73 : decode cX6_pairs 73 = .ok (.ior, 1) := by decide +kernel
theorem dX6_pairs_74 : decode cX6_pairs 74 = .ok (.goto 4, 3) := by decide +kernel
theorem dX6_pairs_77 : decode cX6_pairs 77 = .ok (.iconst 0, 1) := by decide +kernel
theorem dX6_pairs_78 : decode cX6_pairs 78 = .ok (.istore 7, 2) := by decide +kernel
theorem dX6_pairs_80 : decode cX6_pairs 80 = .ok (.iload 4, 2) := by decide +kernel
theorem dX6_pairs_82 : decode cX6_pairs 82 = .ok (.iload 7, 2) := by decide +kernel
theorem dX6_pairs_84 : decode cX6_pairs 84 = .ok (.iand, 1) := by decide +kernel
theorem dX6_pairs_85 : decode cX6_pairs 85 = .ok (.ifCond .ne 7, 3) := by decide +kernel
theorem dX6_pairs_88 : decode cX6_pairs 88 = .ok (.iconst 1, 1) := by decide +kernel
theorem dX6_pairs_89 : decode cX6_pairs 89 = .ok (.goto 4, 3) := by decide +kernel
theorem dX6_pairs_92 : decode cX6_pairs 92 = .ok (.iconst 0, 1) := by decide +kernel
theorem dX6_pairs_93 : decode cX6_pairs 93 = .ok (.istore 5, 2) := by decide +kernel
theorem dX6_pairs_95 : decode cX6_pairs 95 = .ok (.iload 4, 2) := by decide +kernel
theorem dX6_pairs_97 : decode cX6_pairs 97 = .ok (.iload 7, 2) := by decide +kernel
theorem dX6_pairs_99 : decode cX6_pairs 99 = .ok (.ior, 1) := by decide +kernel
theorem dX6_pairs_100 : decode cX6_pairs 100 = .ok (.istore 4, 2) := by decide +kernel
theorem dX6_pairs_102 : decode cX6_pairs 102 = .ok (.iinc 6 1, 3) := by decide +kernel
theorem dX6_pairs_105 : decode cX6_pairs 105 = .ok (.goto (-70), 3) := by decide +kernel
theorem dX6_pairs_108 : decode cX6_pairs 108 = .ok (.iload 5, 2) := by decide +kernel
theorem dX6_pairs_110 : decode cX6_pairs 110 = .ok (.ifCond .eq 18, 3) := by decide +kernel
theorem dX6_pairs_113 : decode cX6_pairs 113 = .ok (.iload_n 3, 1) := by decide +kernel
theorem dX6_pairs_114 : decode cX6_pairs 114 = .ok (.invokestatic 140, 3) := by decide +kernel
theorem dX6_pairs_117 : decode cX6_pairs 117 = .ok (.iload_n 2, 1) := by decide +kernel
theorem dX6_pairs_118 : decode cX6_pairs 118 = .ok (.if_icmp .le 10, 3) := by decide +kernel
theorem dX6_pairs_121 : decode cX6_pairs 121 = .ok (.iload_n 3, 1) := by decide +kernel
theorem dX6_pairs_122 : decode cX6_pairs 122 = .ok (.invokestatic 140, 3) := by decide +kernel
theorem dX6_pairs_125 : decode cX6_pairs 125 = .ok (.goto 4, 3) := by decide +kernel
theorem dX6_pairs_128 : decode cX6_pairs 128 = .ok (.iload_n 2, 1) := by decide +kernel
theorem dX6_pairs_129 : decode cX6_pairs 129 = .ok (.istore_n 2, 1) := by decide +kernel
theorem dX6_pairs_130 : decode cX6_pairs 130 = .ok (.iinc 3 1, 3) := by decide +kernel
theorem dX6_pairs_133 : decode cX6_pairs 133 = .ok (.goto (-114), 3) := by decide +kernel
theorem dX6_pairs_136 : decode cX6_pairs 136 = .ok (.iload_n 2, 1) := by decide +kernel
theorem dX6_pairs_137 : decode cX6_pairs 137 = .ok (.ireturn, 1) := by decide +kernel
theorem dX6_loners_0 : decode cX6_loners 0 = .ok (.iload_n 1, 1) := by decide +kernel
theorem dX6_loners_1 : decode cX6_loners 1 = .ok (.iconst 0, 1) := by decide +kernel
theorem dX6_loners_2 : decode cX6_loners 2 = .ok (.iconst 1, 1) := by decide +kernel
theorem dX6_loners_3 : decode cX6_loners 3 = .ok (.invokestatic 76, 3) := by decide +kernel
theorem dX6_loners_6 : decode cX6_loners 6 = .ok (.ifCond .ne 6, 3) := by decide +kernel
theorem dX6_loners_9 : decode cX6_loners 9 = .ok (.bipush (-2), 2) := by decide +kernel
theorem dX6_loners_11 : decode cX6_loners 11 = .ok (.ireturn, 1) := by decide +kernel
theorem dX6_loners_12 : decode cX6_loners 12 = .ok (.aload_n 0, 1) := by decide +kernel
theorem dX6_loners_13 : decode cX6_loners 13 = .ok (.getfield 80, 3) := by decide +kernel
theorem dX6_loners_16 : decode cX6_loners 16 = .ok (.ifCond .ne 6, 3) := by decide +kernel
theorem dX6_loners_19 : decode cX6_loners 19 = .ok (.bipush (-3), 2) := by decide +kernel
theorem dX6_loners_21 : decode cX6_loners 21 = .ok (.ireturn, 1) := by decide +kernel
theorem dX6_loners_22 : decode cX6_loners 22 = .ok (.iconst 0, 1) := by decide +kernel
theorem dX6_loners_23 : decode cX6_loners 23 = .ok (.istore_n 2, 1) := by decide +kernel
theorem dX6_loners_24 : decode cX6_loners 24 = .ok (.iconst 0, 1) := by decide +kernel
theorem dX6_loners_25 : decode cX6_loners 25 = .ok (.istore_n 3, 1) := by decide +kernel
theorem dX6_loners_26 : decode cX6_loners 26 = .ok (.iconst 0, 1) := by decide +kernel
theorem dX6_loners_27 : decode cX6_loners 27 = .ok (.istore 4, 2) := by decide +kernel
theorem dX6_loners_29 : decode cX6_loners 29 = .ok (.iload 4, 2) := by decide +kernel
theorem dX6_loners_31 : decode cX6_loners 31 = .ok (.iconst 1, 1) := by decide +kernel
theorem dX6_loners_32 : decode cX6_loners 32 = .ok (.aload_n 0, 1) := by decide +kernel
theorem dX6_loners_33 : decode cX6_loners 33 = .ok (.getfield 80, 3) := by decide +kernel
theorem dX6_loners_36 : decode cX6_loners 36 = .ok (.ishl, 1) := by decide +kernel
theorem dX6_loners_37 : decode cX6_loners 37 = .ok (.if_icmp .ge 84, 3) := by decide +kernel
theorem dX6_loners_40 : decode cX6_loners 40 = .ok (.iconst 0, 1) := by decide +kernel
theorem dX6_loners_41 : decode cX6_loners 41 = .ok (.istore 5, 2) := by decide +kernel
theorem dX6_loners_43 : decode cX6_loners 43 = .ok (.iconst 0, 1) := by decide +kernel
theorem dX6_loners_44 : decode cX6_loners 44 = .ok (.istore 6, 2) := by decide +kernel
theorem dX6_loners_46 : decode cX6_loners 46 = .ok (.iload 6, 2) := by decide +kernel
theorem dX6_loners_48 : decode cX6_loners 48 = .ok (.aload_n 0, 1) := by decide +kernel
theorem dX6_loners_49 : decode cX6_loners 49 = .ok (.getfield 80, 3) := by decide +kernel
theorem dX6_loners_52 : decode cX6_loners 52 = .ok (.if_icmp .ge 35, 3) := by decide +kernel
theorem dX6_loners_55 : decode cX6_loners 55 = .ok (.iload 5, 2) := by decide +kernel
theorem dX6_loners_57 : decode cX6_loners 57 = .ok (.iload 4, 2) := by decide +kernel
theorem dX6_loners_59 : decode cX6_loners 59 = .ok (.iload 6, 2) := by decide +kernel
theorem dX6_loners_61 : decode cX6_loners 61 = .ok (.invokestatic 87, 3) := by decide +kernel
theorem dX6_loners_64 : decode cX6_loners 64 = .ok (.ifCond .eq 13, 3) := by decide +kernel
theorem dX6_loners_67 : decode cX6_loners 67 = .ok (.aload_n 0, 1) := by decide +kernel
theorem dX6_loners_68 : decode cX6_loners 68 = .ok (.getfield 19, 3) := by decide +kernel
theorem dX6_loners_71 : decode cX6_loners 71 = .ok (.iload 6, 2) := by decide +kernel
theorem dX6_loners_73 : decode cX6_loners 73 = .ok (.iaload, 1) := by decide +kernel
theorem dX6_loners_74 : decode cX6_loners 74 = .ok (.goto 4, 3) := by decide +kernel
theorem dX6_loners_77 : decode cX6_loners 77 = .ok (.iconst 0, 1) := by decide +kernel
theorem dX6_loners_78 : decode cX6_loners 78 = .ok (.ior, 1) := by decide +kernel
theorem dX6_loners_79 : decode cX6_loners 79 = .ok (.istore 5, 2) := by decide +kernel
theorem dX6_loners_81 : decode cX6_loners 81 = .ok (.iinc 6 1, 3) := by decide +kernel
theorem dX6_loners_84 : decode cX6_loners 84 = .ok (.goto (-38), 3) := by decide +kernel
theorem dX6_loners_87 : decode cX6_loners 87 = .ok (.iload 5, 2) := by decide +kernel
theorem dX6_loners_89 : decode cX6_loners 89 = .ok (.iload 4, 2) := by decide +kernel
theorem dX6_loners_91 : decode cX6_loners 91 = .ok (.iand, 1) := by decide +kernel
theorem dX6_loners_92 : decode cX6_loners 92 = .ok (.ifCond .ne 23, 3) := by decide +kernel
theorem dX6_loners_95 : decode cX6_loners 95 = .ok (.aload_n 0, 1) := by decide +kernel
theorem dX6_loners_96 : decode cX6_loners 96 = .ok (.iload 4, 2) := by decide +kernel
theorem dX6_loners_98 : decode cX6_loners 98 = .ok (.invokevirtual 181, 3) := by decide +kernel
theorem dX6_loners_101 : decode cX6_loners 101 = .ok (.iload_n 3, 1) := by decide +kernel
theorem dX6_loners_102 : decode cX6_loners 102 = .ok (.if_icmp .le 13, 3) := by decide +kernel
theorem dX6_loners_105 : decode cX6_loners 105 = .ok (.iload 4, 2) := by decide +kernel
theorem dX6_loners_107 : decode cX6_loners 107 = .ok (.istore_n 2, 1) := by decide +kernel
theorem dX6_loners_108 : decode cX6_loners 108 = .ok (.aload_n 0, 1) := by decide +kernel
theorem dX6_loners_109 : decode cX6_loners 109 = .ok (.iload 4, 2) := by decide +kernel
theorem dX6_loners_111 : decode cX6_loners 111 = .ok (.invokevirtual 181, 3) := by decide +kernel
theorem dX6_loners_114 : decode cX6_loners 114 = .ok (.istore_n 3, 1) := by decide +kernel
theorem dX6_loners_115 : decode cX6_loners 115 = .ok (.iinc 4 1, 3) := by decide +kernel
theorem dX6_loners_118 : decode cX6_loners 118 = .ok (.goto (-89), 3) := by decide +kernel
theorem dX6_loners_121 : decode cX6_loners 121 = .ok (.iload_n 1, 1) := by decide +kernel
theorem dX6_loners_122 : decode cX6_loners 122 = .ok (.ifCond .ne 7, 3) := by decide +kernel
theorem dX6_loners_125 : decode cX6_loners 125 = .ok (.iload_n 3, 1) := by decide +kernel
theorem dX6_loners_126 : decode cX6_loners 126 = .ok (.goto 4, 3) := by decide +kernel
theorem dX6_loners_129 : decode cX6_loners 129 = .ok (.iload_n 2, 1) := by decide +kernel
theorem dX6_loners_130 : decode cX6_loners 130 = .ok (.ireturn, 1) := by decide +kernel
theorem dX6_part_0 : decode cX6_part 0 = .ok (.aload_n 0, 1) := by decide +kernel
theorem dX6_part_1 : decode cX6_part 1 = .ok (.iload_n 1, 1) := by decide +kernel
theorem dX6_part_2 : decode cX6_part 2 = .ok (.iload_n 2, 1) := by decide +kernel
theorem dX6_part_3 : decode cX6_part 3 = .ok (.invokevirtual 152, 3) := by decide +kernel
theorem dX6_part_6 : decode cX6_part 6 = .ok (.ifCond .ne 5, 3) := by decide +kernel
theorem dX6_part_9 : decode cX6_part 9 = .ok (.iconst (-1), 1) := by decide +kernel
theorem dX6_part_10 : decode cX6_part 10 = .ok (.ireturn, 1) := by decide +kernel
theorem dX6_part_11 : decode cX6_part 11 = .ok (.aload_n 0, 1) := by decide +kernel
theorem dX6_part_12 : decode cX6_part 12 = .ok (.getfield 19, 3) := by decide +kernel
theorem dX6_part_15 : decode cX6_part 15 = .ok (.iload_n 1, 1) := by decide +kernel
theorem dX6_part_16 : decode cX6_part 16 = .ok (.iaload, 1) := by decide +kernel
theorem dX6_part_17 : decode cX6_part 17 = .ok (.iload_n 2, 1) := by decide +kernel
theorem dX6_part_18 : decode cX6_part 18 = .ok (.invokestatic 87, 3) := by decide +kernel
theorem dX6_part_21 : decode cX6_part 21 = .ok (.ifCond .ne 6, 3) := by decide +kernel
theorem dX6_part_24 : decode cX6_part 24 = .ok (.bipush (-3), 2) := by decide +kernel
theorem dX6_part_26 : decode cX6_part 26 = .ok (.ireturn, 1) := by decide +kernel
theorem dX6_part_27 : decode cX6_part 27 = .ok (.aload_n 0, 1) := by decide +kernel
theorem dX6_part_28 : decode cX6_part 28 = .ok (.invokevirtual 146, 3) := by decide +kernel
theorem dX6_part_31 : decode cX6_part 31 = .ok (.iconst 0, 1) := by decide +kernel
theorem dX6_part_32 : decode cX6_part 32 = .ok (.istore_n 3, 1) := by decide +kernel
theorem dX6_part_33 : decode cX6_part 33 = .ok (.iconst 0, 1) := by decide +kernel
theorem dX6_part_34 : decode cX6_part 34 = .ok (.istore 4, 2) := by decide +kernel
theorem dX6_part_36 : decode cX6_part 36 = .ok (.iload 4, 2) := by decide +kernel
theorem dX6_part_38 : decode cX6_part 38 = .ok (.aload_n 0, 1) := by decide +kernel
theorem dX6_part_39 : decode cX6_part 39 = .ok (.getfield 80, 3) := by decide +kernel
theorem dX6_part_42 : decode cX6_part 42 = .ok (.if_icmp .ge 47, 3) := by decide +kernel
theorem dX6_part_45 : decode cX6_part 45 = .ok (.iload_n 3, 1) := by decide +kernel
theorem dX6_part_46 : decode cX6_part 46 = .ok (.aload_n 0, 1) := by decide +kernel
theorem dX6_part_47 : decode cX6_part 47 = .ok (.getfield 37, 3) := by decide +kernel
theorem dX6_part_50 : decode cX6_part 50 = .ok (.bipush 8, 2) := by decide +kernel
theorem dX6_part_52 : decode cX6_part 52 = .ok (.iload 4, 2) := by decide +kernel
theorem dX6_part_54 : decode cX6_part 54 = .ok (.imul, 1) := by decide +kernel
theorem dX6_part_55 : decode cX6_part 55 = .ok (.iload_n 1, 1) := by decide +kernel
theorem dX6_part_56 : decode cX6_part 56 = .ok (.iadd, 1) := by decide +kernel
theorem dX6_part_57 : decode cX6_part 57 = .ok (.iaload, 1) := by decide +kernel
theorem dX6_part_58 : decode cX6_part 58 = .ok (.aload_n 0, 1) := by decide +kernel
theorem dX6_part_59 : decode cX6_part 59 = .ok (.getfield 37, 3) := by decide +kernel
theorem dX6_part_62 : decode cX6_part 62 = .ok (.bipush 8, 2) := by decide +kernel
theorem dX6_part_64 : decode cX6_part 64 = .ok (.iload 4, 2) := by decide +kernel
theorem dX6_part_66 : decode cX6_part 66 = .ok (.imul, 1) := by decide +kernel
theorem dX6_part_67 : decode cX6_part 67 = .ok (.iload_n 2, 1) := by decide +kernel
theorem dX6_part_68 : decode cX6_part 68 = .ok (.iadd, 1) := by decide +kernel
theorem dX6_part_69 : decode cX6_part 69 = .ok (.iaload, 1) := by decide +kernel
theorem dX6_part_70 : decode cX6_part 70 = .ok (.if_icmp .ge 10, 3) := by decide +kernel
theorem dX6_part_73 : decode cX6_part 73 = .ok (.iconst 1, 1) := by decide +kernel
theorem dX6_part_74 : decode cX6_part 74 = .ok (.iload 4, 2) := by decide +kernel
theorem dX6_part_76 : decode cX6_part 76 = .ok (.ishl, 1) := by decide +kernel
theorem dX6_part_77 : decode cX6_part 77 = .ok (.goto 4, 3) := by decide +kernel
theorem dX6_part_80 : decode cX6_part 80 = .ok (.iconst 0, 1) := by decide +kernel
theorem dX6_part_81 : decode cX6_part 81 = .ok (.ior, 1) := by decide +kernel
theorem dX6_part_82 : decode cX6_part 82 = .ok (.istore_n 3, 1) := by decide +kernel
theorem dX6_part_83 : decode cX6_part 83 = .ok (.iinc 4 1, 3) := by decide +kernel
theorem dX6_part_86 : decode cX6_part 86 = .ok (.goto (-50), 3) := by decide +kernel
theorem dX6_part_89 : decode cX6_part 89 = .ok (.aload_n 0, 1) := by decide +kernel
theorem dX6_part_90 : decode cX6_part 90 = .ok (.iload_n 3, 1) := by decide +kernel
theorem dX6_part_91 : decode cX6_part 91 = .ok (.invokevirtual 181, 3) := by decide +kernel
theorem dX6_part_94 : decode cX6_part 94 = .ok (.ireturn, 1) := by decide +kernel
theorem dX6_reading_0 : decode cX6_reading 0 = .ok (.aload_n 0, 1) := by decide +kernel
theorem dX6_reading_1 : decode cX6_reading 1 = .ok (.iload_n 1, 1) := by decide +kernel
theorem dX6_reading_2 : decode cX6_reading 2 = .ok (.invokevirtual 83, 3) := by decide +kernel
theorem dX6_reading_5 : decode cX6_reading 5 = .ok (.ifCond .eq 11, 3) := by decide +kernel
theorem dX6_reading_8 : decode cX6_reading 8 = .ok (.aload_n 0, 1) := by decide +kernel
theorem dX6_reading_9 : decode cX6_reading 9 = .ok (.iload_n 2, 1) := by decide +kernel
theorem dX6_reading_10 : decode cX6_reading 10 = .ok (.invokevirtual 83, 3) := by decide +kernel
theorem dX6_reading_13 : decode cX6_reading 13 = .ok (.ifCond .ne 5, 3) := by decide +kernel
theorem dX6_reading_16 : decode cX6_reading 16 = .ok (.iconst (-1), 1) := by decide +kernel
theorem dX6_reading_17 : decode cX6_reading 17 = .ok (.ireturn, 1) := by decide +kernel
theorem dX6_reading_18 : decode cX6_reading 18 = .ok (.iload_n 3, 1) := by decide +kernel
theorem dX6_reading_19 : decode cX6_reading 19 = .ok (.iconst 0, 1) := by decide +kernel
theorem dX6_reading_20 : decode cX6_reading 20 = .ok (.sipush 200, 3) := by decide +kernel
theorem dX6_reading_23 : decode cX6_reading 23 = .ok (.invokestatic 76, 3) := by decide +kernel
theorem dX6_reading_26 : decode cX6_reading 26 = .ok (.ifCond .ne 6, 3) := by decide +kernel
theorem dX6_reading_29 : decode cX6_reading 29 = .ok (.bipush (-2), 2) := by decide +kernel
theorem dX6_reading_31 : decode cX6_reading 31 = .ok (.ireturn, 1) := by decide +kernel
theorem dX6_reading_32 : decode cX6_reading 32 = .ok (.aload_n 0, 1) := by decide +kernel
theorem dX6_reading_33 : decode cX6_reading 33 = .ok (.getfield 120, 3) := by decide +kernel
theorem dX6_reading_36 : decode cX6_reading 36 = .ok (.bipush 8, 2) := by decide +kernel
theorem dX6_reading_38 : decode cX6_reading 38 = .ok (.if_icmp .ne 6, 3) := by decide +kernel
theorem dX6_reading_41 : decode cX6_reading 41 = .ok (.bipush (-4), 2) := by decide +kernel
theorem dX6_reading_43 : decode cX6_reading 43 = .ok (.ireturn, 1) := by decide +kernel
theorem dX6_reading_44 : decode cX6_reading 44 = .ok (.aload_n 0, 1) := by decide +kernel
theorem dX6_reading_45 : decode cX6_reading 45 = .ok (.getfield 61, 3) := by decide +kernel
theorem dX6_reading_48 : decode cX6_reading 48 = .ok (.aload_n 0, 1) := by decide +kernel
theorem dX6_reading_49 : decode cX6_reading 49 = .ok (.getfield 120, 3) := by decide +kernel
theorem dX6_reading_52 : decode cX6_reading 52 = .ok (.iload_n 1, 1) := by decide +kernel
theorem dX6_reading_53 : decode cX6_reading 53 = .ok (.iastore, 1) := by decide +kernel
theorem dX6_reading_54 : decode cX6_reading 54 = .ok (.aload_n 0, 1) := by decide +kernel
theorem dX6_reading_55 : decode cX6_reading 55 = .ok (.getfield 64, 3) := by decide +kernel
theorem dX6_reading_58 : decode cX6_reading 58 = .ok (.aload_n 0, 1) := by decide +kernel
theorem dX6_reading_59 : decode cX6_reading 59 = .ok (.getfield 120, 3) := by decide +kernel
theorem dX6_reading_62 : decode cX6_reading 62 = .ok (.iload_n 2, 1) := by decide +kernel
theorem dX6_reading_63 : decode cX6_reading 63 = .ok (.iastore, 1) := by decide +kernel
theorem dX6_reading_64 : decode cX6_reading 64 = .ok (.aload_n 0, 1) := by decide +kernel
theorem dX6_reading_65 : decode cX6_reading 65 = .ok (.getfield 67, 3) := by decide +kernel
theorem dX6_reading_68 : decode cX6_reading 68 = .ok (.aload_n 0, 1) := by decide +kernel
theorem dX6_reading_69 : decode cX6_reading 69 = .ok (.getfield 120, 3) := by decide +kernel
theorem dX6_reading_72 : decode cX6_reading 72 = .ok (.iload_n 3, 1) := by decide +kernel
theorem dX6_reading_73 : decode cX6_reading 73 = .ok (.iastore, 1) := by decide +kernel
theorem dX6_reading_74 : decode cX6_reading 74 = .ok (.aload_n 0, 1) := by decide +kernel
theorem dX6_reading_75 : decode cX6_reading 75 = .ok (.dup, 1) := by decide +kernel
theorem dX6_reading_76 : decode cX6_reading 76 = .ok (.getfield 120, 3) := by decide +kernel
theorem dX6_reading_79 : decode cX6_reading 79 = .ok (.iconst 1, 1) := by decide +kernel
theorem dX6_reading_80 : decode cX6_reading 80 = .ok (.iadd, 1) := by decide +kernel
theorem dX6_reading_81 : decode cX6_reading 81 = .ok (.putfield 120, 3) := by decide +kernel
theorem dX6_reading_84 : decode cX6_reading 84 = .ok (.aload_n 0, 1) := by decide +kernel
theorem dX6_reading_85 : decode cX6_reading 85 = .ok (.getfield 120, 3) := by decide +kernel
theorem dX6_reading_88 : decode cX6_reading 88 = .ok (.iconst 1, 1) := by decide +kernel
theorem dX6_reading_89 : decode cX6_reading 89 = .ok (.isub, 1) := by decide +kernel
theorem dX6_reading_90 : decode cX6_reading 90 = .ok (.ireturn, 1) := by decide +kernel
theorem dX6_back_0 : decode cX6_back 0 = .ok (.iload_n 1, 1) := by decide +kernel
theorem dX6_back_1 : decode cX6_back 1 = .ok (.iconst 0, 1) := by decide +kernel
theorem dX6_back_2 : decode cX6_back 2 = .ok (.aload_n 0, 1) := by decide +kernel
theorem dX6_back_3 : decode cX6_back 3 = .ok (.getfield 120, 3) := by decide +kernel
theorem dX6_back_6 : decode cX6_back 6 = .ok (.invokestatic 76, 3) := by decide +kernel
theorem dX6_back_9 : decode cX6_back 9 = .ok (.ifCond .ne 6, 3) := by decide +kernel
theorem dX6_back_12 : decode cX6_back 12 = .ok (.bipush (-2), 2) := by decide +kernel
theorem dX6_back_14 : decode cX6_back 14 = .ok (.ireturn, 1) := by decide +kernel
theorem dX6_back_15 : decode cX6_back 15 = .ok (.aload_n 0, 1) := by decide +kernel
theorem dX6_back_16 : decode cX6_back 16 = .ok (.dup, 1) := by decide +kernel
theorem dX6_back_17 : decode cX6_back 17 = .ok (.getfield 120, 3) := by decide +kernel
theorem dX6_back_20 : decode cX6_back 20 = .ok (.iload_n 1, 1) := by decide +kernel
theorem dX6_back_21 : decode cX6_back 21 = .ok (.isub, 1) := by decide +kernel
theorem dX6_back_22 : decode cX6_back 22 = .ok (.putfield 120, 3) := by decide +kernel
theorem dX6_back_25 : decode cX6_back 25 = .ok (.aload_n 0, 1) := by decide +kernel
theorem dX6_back_26 : decode cX6_back 26 = .ok (.getfield 120, 3) := by decide +kernel
theorem dX6_back_29 : decode cX6_back 29 = .ok (.ireturn, 1) := by decide +kernel
theorem dX6_wayOf_0 : decode cX6_wayOf 0 = .ok (.iconst 0, 1) := by decide +kernel
theorem dX6_wayOf_1 : decode cX6_wayOf 1 = .ok (.istore_n 3, 1) := by decide +kernel
theorem dX6_wayOf_2 : decode cX6_wayOf 2 = .ok (.iconst 0, 1) := by decide +kernel
theorem dX6_wayOf_3 : decode cX6_wayOf 3 = .ok (.istore 4, 2) := by decide +kernel
theorem dX6_wayOf_5 : decode cX6_wayOf 5 = .ok (.iload 4, 2) := by decide +kernel
theorem dX6_wayOf_7 : decode cX6_wayOf 7 = .ok (.aload_n 0, 1) := by decide +kernel
theorem dX6_wayOf_8 : decode cX6_wayOf 8 = .ok (.getfield 80, 3) := by decide +kernel
theorem dX6_wayOf_11 : decode cX6_wayOf 11 = .ok (.if_icmp .ge 71, 3) := by decide +kernel
theorem dX6_wayOf_14 : decode cX6_wayOf 14 = .ok (.aload_n 0, 1) := by decide +kernel
theorem dX6_wayOf_15 : decode cX6_wayOf 15 = .ok (.getfield 37, 3) := by decide +kernel
theorem dX6_wayOf_18 : decode cX6_wayOf 18 = .ok (.bipush 8, 2) := by decide +kernel
theorem dX6_wayOf_20 : decode cX6_wayOf 20 = .ok (.iload_n 1, 1) := by decide +kernel
theorem dX6_wayOf_21 : decode cX6_wayOf 21 = .ok (.imul, 1) := by decide +kernel
theorem dX6_wayOf_22 : decode cX6_wayOf 22 = .ok (.iload 4, 2) := by decide +kernel
theorem dX6_wayOf_24 : decode cX6_wayOf 24 = .ok (.iadd, 1) := by decide +kernel
theorem dX6_wayOf_25 : decode cX6_wayOf 25 = .ok (.iaload, 1) := by decide +kernel
theorem dX6_wayOf_26 : decode cX6_wayOf 26 = .ok (.aload_n 0, 1) := by decide +kernel
theorem dX6_wayOf_27 : decode cX6_wayOf 27 = .ok (.getfield 37, 3) := by decide +kernel
theorem dX6_wayOf_30 : decode cX6_wayOf 30 = .ok (.bipush 8, 2) := by decide +kernel
theorem dX6_wayOf_32 : decode cX6_wayOf 32 = .ok (.iload 4, 2) := by decide +kernel
theorem dX6_wayOf_34 : decode cX6_wayOf 34 = .ok (.imul, 1) := by decide +kernel
theorem dX6_wayOf_35 : decode cX6_wayOf 35 = .ok (.iload_n 2, 1) := by decide +kernel
theorem dX6_wayOf_36 : decode cX6_wayOf 36 = .ok (.iadd, 1) := by decide +kernel
theorem dX6_wayOf_37 : decode cX6_wayOf 37 = .ok (.iaload, 1) := by decide +kernel
theorem dX6_wayOf_38 : decode cX6_wayOf 38 = .ok (.iadd, 1) := by decide +kernel
theorem dX6_wayOf_39 : decode cX6_wayOf 39 = .ok (.aload_n 0, 1) := by decide +kernel
theorem dX6_wayOf_40 : decode cX6_wayOf 40 = .ok (.getfield 37, 3) := by decide +kernel
theorem dX6_wayOf_43 : decode cX6_wayOf 43 = .ok (.bipush 8, 2) := by decide +kernel
theorem dX6_wayOf_45 : decode cX6_wayOf 45 = .ok (.iload_n 1, 1) := by decide +kernel
theorem dX6_wayOf_46 : decode cX6_wayOf 46 = .ok (.imul, 1) := by decide +kernel
theorem dX6_wayOf_47 : decode cX6_wayOf 47 = .ok (.iload_n 2, 1) := by decide +kernel
theorem dX6_wayOf_48 : decode cX6_wayOf 48 = .ok (.iadd, 1) := by decide +kernel
theorem dX6_wayOf_49 : decode cX6_wayOf 49 = .ok (.iaload, 1) := by decide +kernel
theorem dX6_wayOf_50 : decode cX6_wayOf 50 = .ok (.if_icmp .ne 7, 3) := by decide +kernel
theorem dX6_wayOf_53 : decode cX6_wayOf 53 = .ok (.iconst 1, 1) := by decide +kernel
theorem dX6_wayOf_54 : decode cX6_wayOf 54 = .ok (.goto 4, 3) := by decide +kernel
theorem dX6_wayOf_57 : decode cX6_wayOf 57 = .ok (.iconst 0, 1) := by decide +kernel
theorem dX6_wayOf_58 : decode cX6_wayOf 58 = .ok (.istore 5, 2) := by decide +kernel
theorem dX6_wayOf_60 : decode cX6_wayOf 60 = .ok (.iload_n 3, 1) := by decide +kernel
theorem dX6_wayOf_61 : decode cX6_wayOf 61 = .ok (.iload 5, 2) := by decide +kernel
theorem dX6_wayOf_63 : decode cX6_wayOf 63 = .ok (.ifCond .eq 10, 3) := by decide +kernel
theorem dX6_wayOf_66 : decode cX6_wayOf 66 = .ok (.iconst 1, 1) := by decide +kernel
theorem dX6_wayOf_67 : decode cX6_wayOf 67 = .ok (.iload 4, 2) := by decide +kernel
theorem dX6_wayOf_69 : decode cX6_wayOf 69 = .ok (.ishl, 1) := by decide +kernel
theorem dX6_wayOf_70 : decode cX6_wayOf 70 = .ok (.goto 4, 3) := by decide +kernel
theorem dX6_wayOf_73 : decode cX6_wayOf 73 = .ok (.iconst 0, 1) := by decide +kernel
theorem dX6_wayOf_74 : decode cX6_wayOf 74 = .ok (.ior, 1) := by decide +kernel
theorem dX6_wayOf_75 : decode cX6_wayOf 75 = .ok (.istore_n 3, 1) := by decide +kernel
theorem dX6_wayOf_76 : decode cX6_wayOf 76 = .ok (.iinc 4 1, 3) := by decide +kernel
theorem dX6_wayOf_79 : decode cX6_wayOf 79 = .ok (.goto (-74), 3) := by decide +kernel
theorem dX6_wayOf_82 : decode cX6_wayOf 82 = .ok (.iload_n 3, 1) := by decide +kernel
theorem dX6_wayOf_83 : decode cX6_wayOf 83 = .ok (.ireturn, 1) := by decide +kernel
theorem dX6_areSo_0 : decode cX6_areSo 0 = .ok (.iconst 0, 1) := by decide +kernel
theorem dX6_areSo_1 : decode cX6_areSo 1 = .ok (.istore_n 1, 1) := by decide +kernel
theorem dX6_areSo_2 : decode cX6_areSo 2 = .ok (.iload_n 1, 1) := by decide +kernel
theorem dX6_areSo_3 : decode cX6_areSo 3 = .ok (.aload_n 0, 1) := by decide +kernel
theorem dX6_areSo_4 : decode cX6_areSo 4 = .ok (.getfield 120, 3) := by decide +kernel
theorem dX6_areSo_7 : decode cX6_areSo 7 = .ok (.if_icmp .ge 40, 3) := by decide +kernel
theorem dX6_areSo_10 : decode cX6_areSo 10 = .ok (.aload_n 0, 1) := by decide +kernel
theorem dX6_areSo_11 : decode cX6_areSo 11 = .ok (.aload_n 0, 1) := by decide +kernel
theorem dX6_areSo_12 : decode cX6_areSo 12 = .ok (.aload_n 0, 1) := by decide +kernel
theorem dX6_areSo_13 : decode cX6_areSo 13 = .ok (.getfield 61, 3) := by decide +kernel
theorem dX6_areSo_16 : decode cX6_areSo 16 = .ok (.iload_n 1, 1) := by decide +kernel
theorem dX6_areSo_17 : decode cX6_areSo 17 = .ok (.iaload, 1) := by decide +kernel
theorem dX6_areSo_18 : decode cX6_areSo 18 = .ok (.aload_n 0, 1) := by decide +kernel
theorem dX6_areSo_19 : decode cX6_areSo 19 = .ok (.getfield 64, 3) := by decide +kernel
theorem dX6_areSo_22 : decode cX6_areSo 22 = .ok (.iload_n 1, 1) := by decide +kernel
theorem dX6_areSo_23 : decode cX6_areSo 23 = .ok (.iaload, 1) := by decide +kernel
theorem dX6_areSo_24 : decode cX6_areSo 24 = .ok (.invokevirtual 198, 3) := by decide +kernel
theorem dX6_areSo_27 : decode cX6_areSo 27 = .ok (.invokevirtual 181, 3) := by decide +kernel
theorem dX6_areSo_30 : decode cX6_areSo 30 = .ok (.aload_n 0, 1) := by decide +kernel
theorem dX6_areSo_31 : decode cX6_areSo 31 = .ok (.getfield 67, 3) := by decide +kernel
theorem dX6_areSo_34 : decode cX6_areSo 34 = .ok (.iload_n 1, 1) := by decide +kernel
theorem dX6_areSo_35 : decode cX6_areSo 35 = .ok (.iaload, 1) := by decide +kernel
theorem dX6_areSo_36 : decode cX6_areSo 36 = .ok (.if_icmp .eq 5, 3) := by decide +kernel
theorem dX6_areSo_39 : decode cX6_areSo 39 = .ok (.iconst 0, 1) := by decide +kernel
theorem dX6_areSo_40 : decode cX6_areSo 40 = .ok (.ireturn, 1) := by decide +kernel
theorem dX6_areSo_41 : decode cX6_areSo 41 = .ok (.iinc 1 1, 3) := by decide +kernel
theorem dX6_areSo_44 : decode cX6_areSo 44 = .ok (.goto (-42), 3) := by decide +kernel
theorem dX6_areSo_47 : decode cX6_areSo 47 = .ok (.iconst 1, 1) := by decide +kernel
theorem dX6_areSo_48 : decode cX6_areSo 48 = .ok (.ireturn, 1) := by decide +kernel
theorem dX6_loadings_0 : decode cX6_loadings 0 = .ok (.aload_n 0, 1) := by decide +kernel
theorem dX6_loadings_1 : decode cX6_loadings 1 = .ok (.iload_n 1, 1) := by decide +kernel
theorem dX6_loadings_2 : decode cX6_loadings 2 = .ok (.invokevirtual 83, 3) := by decide +kernel
theorem dX6_loadings_5 : decode cX6_loadings 5 = .ok (.ifCond .ne 5, 3) := by decide +kernel
theorem dX6_loadings_8 : decode cX6_loadings 8 = .ok (.iconst (-1), 1) := by decide +kernel
theorem dX6_loadings_9 : decode cX6_loadings 9 = .ok (.ireturn, 1) := by decide +kernel
theorem dX6_loadings_10 : decode cX6_loadings 10 = .ok (.aload_n 0, 1) := by decide +kernel
theorem dX6_loadings_11 : decode cX6_loadings 11 = .ok (.invokevirtual 146, 3) := by decide +kernel
theorem dX6_loadings_14 : decode cX6_loadings 14 = .ok (.aload_n 0, 1) := by decide +kernel
theorem dX6_loadings_15 : decode cX6_loadings 15 = .ok (.getfield 25, 3) := by decide +kernel
theorem dX6_loadings_18 : decode cX6_loadings 18 = .ok (.iload_n 1, 1) := by decide +kernel
theorem dX6_loadings_19 : decode cX6_loadings 19 = .ok (.iaload, 1) := by decide +kernel
theorem dX6_loadings_20 : decode cX6_loadings 20 = .ok (.istore_n 2, 1) := by decide +kernel
theorem dX6_loadings_21 : decode cX6_loadings 21 = .ok (.iconst 0, 1) := by decide +kernel
theorem dX6_loadings_22 : decode cX6_loadings 22 = .ok (.istore_n 3, 1) := by decide +kernel
theorem dX6_loadings_23 : decode cX6_loadings 23 = .ok (.iconst 0, 1) := by decide +kernel
theorem dX6_loadings_24 : decode cX6_loadings 24 = .ok (.istore 4, 2) := by decide +kernel
theorem dX6_loadings_26 : decode cX6_loadings 26 = .ok (.iload 4, 2) := by decide +kernel
theorem dX6_loadings_28 : decode cX6_loadings 28 = .ok (.bipush 9, 2) := by decide +kernel
theorem dX6_loadings_30 : decode cX6_loadings 30 = .ok (.if_icmp .gt 35, 3) := by decide +kernel
theorem dX6_loadings_33 : decode cX6_loadings 33 = .ok (.aload_n 0, 1) := by decide +kernel
theorem dX6_loadings_34 : decode cX6_loadings 34 = .ok (.getfield 25, 3) := by decide +kernel
theorem dX6_loadings_37 : decode cX6_loadings 37 = .ok (.iload_n 1, 1) := by decide +kernel
theorem dX6_loadings_38 : decode cX6_loadings 38 = .ok (.iload 4, 2) := by decide +kernel
theorem dX6_loadings_40 : decode cX6_loadings 40 = .ok (.iastore, 1) := by decide +kernel
theorem dX6_loadings_41 : decode cX6_loadings 41 = .ok (.iload_n 3, 1) := by decide +kernel
theorem dX6_loadings_42 : decode cX6_loadings 42 = .ok (.aload_n 0, 1) := by decide +kernel
theorem dX6_loadings_43 : decode cX6_loadings 43 = .ok (.invokevirtual 201, 3) := by decide +kernel
theorem dX6_loadings_46 : decode cX6_loadings 46 = .ok (.ifCond .eq 10, 3) := by decide +kernel
theorem dX6_loadings_49 : decode cX6_loadings 49 = .ok (.iconst 1, 1) := by decide +kernel
theorem dX6_loadings_50 : decode cX6_loadings 50 = .ok (.iload 4, 2) := by decide +kernel
theorem dX6_loadings_52 : decode cX6_loadings 52 = .ok (.ishl, 1) := by decide +kernel
theorem dX6_loadings_53 : decode cX6_loadings 53 = .ok (.goto 4, 3) := by decide +kernel
theorem dX6_loadings_56 : decode cX6_loadings 56 = .ok (.iconst 0, 1) := by decide +kernel
theorem dX6_loadings_57 : decode cX6_loadings 57 = .ok (.ior, 1) := by decide +kernel
theorem dX6_loadings_58 : decode cX6_loadings 58 = .ok (.istore_n 3, 1) := by decide +kernel
theorem dX6_loadings_59 : decode cX6_loadings 59 = .ok (.iinc 4 1, 3) := by decide +kernel
theorem dX6_loadings_62 : decode cX6_loadings 62 = .ok (.goto (-36), 3) := by decide +kernel
theorem dX6_loadings_65 : decode cX6_loadings 65 = .ok (.aload_n 0, 1) := by decide +kernel
theorem dX6_loadings_66 : decode cX6_loadings 66 = .ok (.getfield 25, 3) := by decide +kernel
theorem dX6_loadings_69 : decode cX6_loadings 69 = .ok (.iload_n 1, 1) := by decide +kernel
theorem dX6_loadings_70 : decode cX6_loadings 70 = .ok (.iload_n 2, 1) := by decide +kernel
theorem dX6_loadings_71 : decode cX6_loadings 71 = .ok (.iastore, 1) := by decide +kernel
theorem dX6_loadings_72 : decode cX6_loadings 72 = .ok (.iload_n 3, 1) := by decide +kernel
theorem dX6_loadings_73 : decode cX6_loadings 73 = .ok (.ireturn, 1) := by decide +kernel
theorem dX6_kinds_0 : decode cX6_kinds 0 = .ok (.aload_n 0, 1) := by decide +kernel
theorem dX6_kinds_1 : decode cX6_kinds 1 = .ok (.iload_n 1, 1) := by decide +kernel
theorem dX6_kinds_2 : decode cX6_kinds 2 = .ok (.invokevirtual 83, 3) := by decide +kernel
theorem dX6_kinds_5 : decode cX6_kinds 5 = .ok (.ifCond .ne 5, 3) := by decide +kernel
theorem dX6_kinds_8 : decode cX6_kinds 8 = .ok (.iconst (-1), 1) := by decide +kernel
theorem dX6_kinds_9 : decode cX6_kinds 9 = .ok (.ireturn, 1) := by decide +kernel
theorem dX6_kinds_10 : decode cX6_kinds 10 = .ok (.aload_n 0, 1) := by decide +kernel
theorem dX6_kinds_11 : decode cX6_kinds 11 = .ok (.invokevirtual 146, 3) := by decide +kernel
theorem dX6_kinds_14 : decode cX6_kinds 14 = .ok (.aload_n 0, 1) := by decide +kernel
theorem dX6_kinds_15 : decode cX6_kinds 15 = .ok (.getfield 22, 3) := by decide +kernel
theorem dX6_kinds_18 : decode cX6_kinds 18 = .ok (.iload_n 1, 1) := by decide +kernel
theorem dX6_kinds_19 : decode cX6_kinds 19 = .ok (.iaload, 1) := by decide +kernel
theorem dX6_kinds_20 : decode cX6_kinds 20 = .ok (.istore_n 2, 1) := by decide +kernel
theorem dX6_kinds_21 : decode cX6_kinds 21 = .ok (.iconst 0, 1) := by decide +kernel
theorem dX6_kinds_22 : decode cX6_kinds 22 = .ok (.istore_n 3, 1) := by decide +kernel
theorem dX6_kinds_23 : decode cX6_kinds 23 = .ok (.iconst 0, 1) := by decide +kernel
theorem dX6_kinds_24 : decode cX6_kinds 24 = .ok (.istore 4, 2) := by decide +kernel
theorem dX6_kinds_26 : decode cX6_kinds 26 = .ok (.iload 4, 2) := by decide +kernel
theorem dX6_kinds_28 : decode cX6_kinds 28 = .ok (.iconst 3, 1) := by decide +kernel
theorem dX6_kinds_29 : decode cX6_kinds 29 = .ok (.if_icmp .ge 35, 3) := by decide +kernel
theorem dX6_kinds_32 : decode cX6_kinds 32 = .ok (.aload_n 0, 1) := by decide +kernel
theorem dX6_kinds_33 : decode cX6_kinds 33 = .ok (.getfield 22, 3) := by decide +kernel
theorem dX6_kinds_36 : decode cX6_kinds 36 = .ok (.iload_n 1, 1) := by decide +kernel
theorem dX6_kinds_37 : decode cX6_kinds 37 = .ok (.iload 4, 2) := by decide +kernel
theorem dX6_kinds_39 : decode cX6_kinds 39 = .ok (.iastore, 1) := by decide +kernel
theorem dX6_kinds_40 : decode cX6_kinds 40 = .ok (.iload_n 3, 1) := by decide +kernel
theorem dX6_kinds_41 : decode cX6_kinds 41 = .ok (.aload_n 0, 1) := by decide +kernel
theorem dX6_kinds_42 : decode cX6_kinds 42 = .ok (.invokevirtual 201, 3) := by decide +kernel
theorem dX6_kinds_45 : decode cX6_kinds 45 = .ok (.ifCond .eq 10, 3) := by decide +kernel
theorem dX6_kinds_48 : decode cX6_kinds 48 = .ok (.iconst 1, 1) := by decide +kernel
theorem dX6_kinds_49 : decode cX6_kinds 49 = .ok (.iload 4, 2) := by decide +kernel
theorem dX6_kinds_51 : decode cX6_kinds 51 = .ok (.ishl, 1) := by decide +kernel
theorem dX6_kinds_52 : decode cX6_kinds 52 = .ok (.goto 4, 3) := by decide +kernel
theorem dX6_kinds_55 : decode cX6_kinds 55 = .ok (.iconst 0, 1) := by decide +kernel
theorem dX6_kinds_56 : decode cX6_kinds 56 = .ok (.ior, 1) := by decide +kernel
theorem dX6_kinds_57 : decode cX6_kinds 57 = .ok (.istore_n 3, 1) := by decide +kernel
theorem dX6_kinds_58 : decode cX6_kinds 58 = .ok (.iinc 4 1, 3) := by decide +kernel
theorem dX6_kinds_61 : decode cX6_kinds 61 = .ok (.goto (-35), 3) := by decide +kernel
theorem dX6_kinds_64 : decode cX6_kinds 64 = .ok (.aload_n 0, 1) := by decide +kernel
theorem dX6_kinds_65 : decode cX6_kinds 65 = .ok (.getfield 22, 3) := by decide +kernel
theorem dX6_kinds_68 : decode cX6_kinds 68 = .ok (.iload_n 1, 1) := by decide +kernel
theorem dX6_kinds_69 : decode cX6_kinds 69 = .ok (.iload_n 2, 1) := by decide +kernel
theorem dX6_kinds_70 : decode cX6_kinds 70 = .ok (.iastore, 1) := by decide +kernel
theorem dX6_kinds_71 : decode cX6_kinds 71 = .ok (.iload_n 3, 1) := by decide +kernel
theorem dX6_kinds_72 : decode cX6_kinds 72 = .ok (.ireturn, 1) := by decide +kernel
theorem dX6_inLeastTerms_0 : decode cX6_inLeastTerms 0 = .ok (.lload_n 0, 1) := by decide +kernel
theorem dX6_inLeastTerms_1 : decode cX6_inLeastTerms 1 = .ok (.lstore 5, 2) := by decide +kernel
theorem dX6_inLeastTerms_3 : decode cX6_inLeastTerms 3 = .ok (.lload_n 2, 1) := by decide +kernel
theorem dX6_inLeastTerms_4 : decode cX6_inLeastTerms 4 = .ok (.lstore 7, 2) := by decide +kernel
theorem dX6_inLeastTerms_6 : decode cX6_inLeastTerms 6 = .ok (.lload 7, 2) := by decide +kernel
theorem dX6_inLeastTerms_8 : decode cX6_inLeastTerms 8 = .ok (.lconst 0, 1) := by decide +kernel
theorem dX6_inLeastTerms_9 : decode cX6_inLeastTerms 9 = .ok (.lcmp, 1) := by decide +kernel
theorem dX6_inLeastTerms_10 : decode cX6_inLeastTerms 10 = .ok (.ifCond .eq 21, 3) := by decide +kernel
theorem dX6_inLeastTerms_13 : decode cX6_inLeastTerms 13 = .ok (.lload 5, 2) := by decide +kernel
theorem dX6_inLeastTerms_15 : decode cX6_inLeastTerms 15 = .ok (.lload 7, 2) := by decide +kernel
theorem dX6_inLeastTerms_17 : decode cX6_inLeastTerms 17 = .ok (.lrem, 1) := by decide +kernel
theorem dX6_inLeastTerms_18 : decode cX6_inLeastTerms 18 = .ok (.lstore 9, 2) := by decide +kernel
theorem dX6_inLeastTerms_20 : decode cX6_inLeastTerms 20 = .ok (.lload 7, 2) := by decide +kernel
theorem dX6_inLeastTerms_22 : decode cX6_inLeastTerms 22 = .ok (.lstore 5, 2) := by decide +kernel
theorem dX6_inLeastTerms_24 : decode cX6_inLeastTerms 24 = .ok (.lload 9, 2) := by decide +kernel
theorem dX6_inLeastTerms_26 : decode cX6_inLeastTerms 26 = .ok (.lstore 7, 2) := by decide +kernel
theorem dX6_inLeastTerms_28 : decode cX6_inLeastTerms 28 = .ok (.goto (-22), 3) := by decide +kernel
theorem dX6_inLeastTerms_31 : decode cX6_inLeastTerms 31 = .ok (.iload 4, 2) := by decide +kernel
theorem dX6_inLeastTerms_33 : decode cX6_inLeastTerms 33 = .ok (.ifCond .ne 10, 3) := by decide +kernel
theorem dX6_inLeastTerms_36 : decode cX6_inLeastTerms 36 = .ok (.lload_n 0, 1) := by decide +kernel
theorem dX6_inLeastTerms_37 : decode cX6_inLeastTerms 37 = .ok (.lload 5, 2) := by decide +kernel
theorem dX6_inLeastTerms_39 : decode cX6_inLeastTerms 39 = .ok (.ldiv, 1) := by decide +kernel
theorem dX6_inLeastTerms_40 : decode cX6_inLeastTerms 40 = .ok (.goto 7, 3) := by decide +kernel
theorem dX6_inLeastTerms_43 : decode cX6_inLeastTerms 43 = .ok (.lload_n 2, 1) := by decide +kernel
theorem dX6_inLeastTerms_44 : decode cX6_inLeastTerms 44 = .ok (.lload 5, 2) := by decide +kernel
theorem dX6_inLeastTerms_46 : decode cX6_inLeastTerms 46 = .ok (.ldiv, 1) := by decide +kernel
theorem dX6_inLeastTerms_47 : decode cX6_inLeastTerms 47 = .ok (.lreturn, 1) := by decide +kernel
theorem dX6_odds_0 : decode cX6_odds 0 = .ok (.iload_n 1, 1) := by decide +kernel
theorem dX6_odds_1 : decode cX6_odds 1 = .ok (.iconst 0, 1) := by decide +kernel
theorem dX6_odds_2 : decode cX6_odds 2 = .ok (.bipush 7, 2) := by decide +kernel
theorem dX6_odds_4 : decode cX6_odds 4 = .ok (.invokestatic 76, 3) := by decide +kernel
theorem dX6_odds_7 : decode cX6_odds 7 = .ok (.ifCond .eq 19, 3) := by decide +kernel
theorem dX6_odds_10 : decode cX6_odds 10 = .ok (.iload_n 2, 1) := by decide +kernel
theorem dX6_odds_11 : decode cX6_odds 11 = .ok (.iconst 0, 1) := by decide +kernel
theorem dX6_odds_12 : decode cX6_odds 12 = .ok (.iconst 1, 1) := by decide +kernel
theorem dX6_odds_13 : decode cX6_odds 13 = .ok (.invokestatic 76, 3) := by decide +kernel
theorem dX6_odds_16 : decode cX6_odds 16 = .ok (.ifCond .eq 10, 3) := by decide +kernel
theorem dX6_odds_19 : decode cX6_odds 19 = .ok (.aload_n 0, 1) := by decide +kernel
theorem dX6_odds_20 : decode cX6_odds 20 = .ok (.getfield 80, 3) := by decide +kernel
theorem dX6_odds_23 : decode cX6_odds 23 = .ok (.ifCond .ne 7, 3) := by decide +kernel
theorem dX6_odds_26 : decode cX6_odds 26 = .ok (.ldc2_w 74, 3) := by decide +kernel
theorem dX6_odds_29 : decode cX6_odds 29 = .ok (.lreturn, 1) := by decide +kernel
theorem dX6_odds_30 : decode cX6_odds 30 = .ok (.aload_n 0, 1) := by decide +kernel
theorem dX6_odds_31 : decode cX6_odds 31 = .ok (.invokevirtual 146, 3) := by decide +kernel
theorem dX6_odds_34 : decode cX6_odds 34 = .ok (.iconst 0, 1) := by decide +kernel
theorem dX6_odds_35 : decode cX6_odds 35 = .ok (.istore_n 3, 1) := by decide +kernel
theorem dX6_odds_36 : decode cX6_odds 36 = .ok (.iconst 0, 1) := by decide +kernel
theorem dX6_odds_37 : decode cX6_odds 37 = .ok (.istore 4, 2) := by decide +kernel
theorem dX6_odds_39 : decode cX6_odds 39 = .ok (.iconst 0, 1) := by decide +kernel
theorem dX6_odds_40 : decode cX6_odds 40 = .ok (.istore 5, 2) := by decide +kernel
theorem dX6_odds_42 : decode cX6_odds 42 = .ok (.iload 5, 2) := by decide +kernel
theorem dX6_odds_44 : decode cX6_odds 44 = .ok (.aload_n 0, 1) := by decide +kernel
theorem dX6_odds_45 : decode cX6_odds 45 = .ok (.getfield 80, 3) := by decide +kernel
theorem dX6_odds_48 : decode cX6_odds 48 = .ok (.if_icmp .ge 60, 3) := by decide +kernel
theorem dX6_odds_51 : decode cX6_odds 51 = .ok (.iload 5, 2) := by decide +kernel
theorem dX6_odds_53 : decode cX6_odds 53 = .ok (.iconst 1, 1) := by decide +kernel
theorem dX6_odds_54 : decode cX6_odds 54 = .ok (.iadd, 1) := by decide +kernel
theorem dX6_odds_55 : decode cX6_odds 55 = .ok (.istore 6, 2) := by decide +kernel
theorem dX6_odds_57 : decode cX6_odds 57 = .ok (.iload 6, 2) := by decide +kernel
theorem dX6_odds_59 : decode cX6_odds 59 = .ok (.aload_n 0, 1) := by decide +kernel
theorem dX6_odds_60 : decode cX6_odds 60 = .ok (.getfield 80, 3) := by decide +kernel
theorem dX6_odds_63 : decode cX6_odds 63 = .ok (.if_icmp .ge 39, 3) := by decide +kernel
theorem dX6_odds_66 : decode cX6_odds 66 = .ok (.iinc 3 1, 3) := by decide +kernel
theorem dX6_odds_69 : decode cX6_odds 69 = .ok (.iload 4, 2) := by decide +kernel
theorem dX6_odds_71 : decode cX6_odds 71 = .ok (.aload_n 0, 1) := by decide +kernel
theorem dX6_odds_72 : decode cX6_odds 72 = .ok (.getfield 37, 3) := by decide +kernel
theorem dX6_odds_75 : decode cX6_odds 75 = .ok (.bipush 8, 2) := by decide +kernel
theorem dX6_odds_77 : decode cX6_odds 77 = .ok (.iload 5, 2) := by decide +kernel
theorem dX6_odds_79 : decode cX6_odds 79 = .ok (.imul, 1) := by decide +kernel
theorem dX6_odds_80 : decode cX6_odds 80 = .ok (.iload 6, 2) := by decide +kernel
theorem dX6_odds_82 : decode cX6_odds 82 = .ok (.iadd, 1) := by decide +kernel
theorem dX6_odds_83 : decode cX6_odds 83 = .ok (.iaload, 1) := by decide +kernel
theorem dX6_odds_84 : decode cX6_odds 84 = .ok (.iload_n 1, 1) := by decide +kernel
theorem dX6_odds_85 : decode cX6_odds 85 = .ok (.if_icmp .gt 7, 3) := by decide +kernel
theorem dX6_odds_88 : decode cX6_odds 88 = .ok (.iconst 1, 1) := by decide +kernel
theorem dX6_odds_89 : decode cX6_odds 89 = .ok (.goto 4, 3) := by decide +kernel
theorem dX6_odds_92 : decode cX6_odds 92 = .ok (.iconst 0, 1) := by decide +kernel
theorem dX6_odds_93 : decode cX6_odds 93 = .ok (.iadd, 1) := by decide +kernel
theorem dX6_odds_94 : decode cX6_odds 94 = .ok (.istore 4, 2) := by decide +kernel
theorem dX6_odds_96 : decode cX6_odds 96 = .ok (.iinc 6 1, 3) := by decide +kernel
theorem dX6_odds_99 : decode cX6_odds 99 = .ok (.goto (-42), 3) := by decide +kernel
theorem dX6_odds_102 : decode cX6_odds 102 = .ok (.iinc 5 1, 3) := by decide +kernel
theorem dX6_odds_105 : decode cX6_odds 105 = .ok (.goto (-63), 3) := by decide +kernel
theorem dX6_odds_108 : decode cX6_odds 108 = .ok (.iload 4, 2) := by decide +kernel
theorem dX6_odds_110 : decode cX6_odds 110 = .ok (.i2l, 1) := by decide +kernel
theorem dX6_odds_111 : decode cX6_odds 111 = .ok (.iload_n 3, 1) := by decide +kernel
theorem dX6_odds_112 : decode cX6_odds 112 = .ok (.i2l, 1) := by decide +kernel
theorem dX6_odds_113 : decode cX6_odds 113 = .ok (.iload_n 2, 1) := by decide +kernel
theorem dX6_odds_114 : decode cX6_odds 114 = .ok (.invokestatic 204, 3) := by decide +kernel
theorem dX6_odds_117 : decode cX6_odds 117 = .ok (.lreturn, 1) := by decide +kernel
theorem dX6_sheet_0 : decode cX6_sheet 0 = .ok (.aload_n 0, 1) := by decide +kernel
theorem dX6_sheet_1 : decode cX6_sheet 1 = .ok (.iconst 0, 1) := by decide +kernel
theorem dX6_sheet_2 : decode cX6_sheet 2 = .ok (.putfield 70, 3) := by decide +kernel
theorem dX6_sheet_5 : decode cX6_sheet 5 = .ok (.iload_n 1, 1) := by decide +kernel
theorem dX6_sheet_6 : decode cX6_sheet 6 = .ok (.invokestatic 94, 3) := by decide +kernel
theorem dX6_sheet_9 : decode cX6_sheet 9 = .ok (.ifCond .ne 5, 3) := by decide +kernel
theorem dX6_sheet_12 : decode cX6_sheet 12 = .ok (.iconst (-1), 1) := by decide +kernel
theorem dX6_sheet_13 : decode cX6_sheet 13 = .ok (.ireturn, 1) := by decide +kernel
theorem dX6_sheet_14 : decode cX6_sheet 14 = .ok (.iload_n 2, 1) := by decide +kernel
theorem dX6_sheet_15 : decode cX6_sheet 15 = .ok (.invokestatic 97, 3) := by decide +kernel
theorem dX6_sheet_18 : decode cX6_sheet 18 = .ok (.ifCond .eq 9, 3) := by decide +kernel
theorem dX6_sheet_21 : decode cX6_sheet 21 = .ok (.iload_n 3, 1) := by decide +kernel
theorem dX6_sheet_22 : decode cX6_sheet 22 = .ok (.bipush 60, 2) := by decide +kernel
theorem dX6_sheet_24 : decode cX6_sheet 24 = .ok (.if_icmp .le 6, 3) := by decide +kernel
theorem dX6_sheet_27 : decode cX6_sheet 27 = .ok (.bipush (-2), 2) := by decide +kernel
theorem dX6_sheet_29 : decode cX6_sheet 29 = .ok (.ireturn, 1) := by decide +kernel
theorem dX6_sheet_30 : decode cX6_sheet 30 = .ok (.iload_n 3, 1) := by decide +kernel
theorem dX6_sheet_31 : decode cX6_sheet 31 = .ok (.ifCond .ge 9, 3) := by decide +kernel
theorem dX6_sheet_34 : decode cX6_sheet 34 = .ok (.aload_n 0, 1) := by decide +kernel
theorem dX6_sheet_35 : decode cX6_sheet 35 = .ok (.iconst 4, 1) := by decide +kernel
theorem dX6_sheet_36 : decode cX6_sheet 36 = .ok (.invokevirtual 104, 3) := by decide +kernel
theorem dX6_sheet_39 : decode cX6_sheet 39 = .ok (.ireturn, 1) := by decide +kernel
theorem dX6_sheet_40 : decode cX6_sheet 40 = .ok (.aload_n 0, 1) := by decide +kernel
theorem dX6_sheet_41 : decode cX6_sheet 41 = .ok (.getfield 9, 3) := by decide +kernel
theorem dX6_sheet_44 : decode cX6_sheet 44 = .ok (.iload_n 1, 1) := by decide +kernel
theorem dX6_sheet_45 : decode cX6_sheet 45 = .ok (.iload_n 2, 1) := by decide +kernel
theorem dX6_sheet_46 : decode cX6_sheet 46 = .ok (.iastore, 1) := by decide +kernel
theorem dX6_sheet_47 : decode cX6_sheet 47 = .ok (.aload_n 0, 1) := by decide +kernel
theorem dX6_sheet_48 : decode cX6_sheet 48 = .ok (.getfield 13, 3) := by decide +kernel
theorem dX6_sheet_51 : decode cX6_sheet 51 = .ok (.iload_n 1, 1) := by decide +kernel
theorem dX6_sheet_52 : decode cX6_sheet 52 = .ok (.iload_n 3, 1) := by decide +kernel
theorem dX6_sheet_53 : decode cX6_sheet 53 = .ok (.iastore, 1) := by decide +kernel
theorem dX6_sheet_54 : decode cX6_sheet 54 = .ok (.iconst 0, 1) := by decide +kernel
theorem dX6_sheet_55 : decode cX6_sheet 55 = .ok (.istore 4, 2) := by decide +kernel
theorem dX6_sheet_57 : decode cX6_sheet 57 = .ok (.iload 4, 2) := by decide +kernel
theorem dX6_sheet_59 : decode cX6_sheet 59 = .ok (.bipush 60, 2) := by decide +kernel
theorem dX6_sheet_61 : decode cX6_sheet 61 = .ok (.if_icmp .ge 22, 3) := by decide +kernel
theorem dX6_sheet_64 : decode cX6_sheet 64 = .ok (.aload_n 0, 1) := by decide +kernel
theorem dX6_sheet_65 : decode cX6_sheet 65 = .ok (.getfield 16, 3) := by decide +kernel
theorem dX6_sheet_68 : decode cX6_sheet 68 = .ok (.bipush 60, 2) := by decide +kernel
theorem dX6_sheet_70 : decode cX6_sheet 70 = .ok (.iload_n 1, 1) := by decide +kernel
theorem dX6_sheet_71 : decode cX6_sheet 71 = .ok (.imul, 1) := by decide +kernel
theorem dX6_sheet_72 : decode cX6_sheet 72 = .ok (.iload 4, 2) := by decide +kernel
theorem dX6_sheet_74 : decode cX6_sheet 74 = .ok (.iadd, 1) := by decide +kernel
theorem dX6_sheet_75 : decode cX6_sheet 75 = .ok (.iconst 0, 1) := by decide +kernel
theorem dX6_sheet_76 : decode cX6_sheet 76 = .ok (.iastore, 1) := by decide +kernel
theorem dX6_sheet_77 : decode cX6_sheet 77 = .ok (.iinc 4 1, 3) := by decide +kernel
theorem dX6_sheet_80 : decode cX6_sheet 80 = .ok (.goto (-23), 3) := by decide +kernel
theorem dX6_sheet_83 : decode cX6_sheet 83 = .ok (.iconst 1, 1) := by decide +kernel
theorem dX6_sheet_84 : decode cX6_sheet 84 = .ok (.ireturn, 1) := by decide +kernel
theorem dX6_lose_0 : decode cX6_lose 0 = .ok (.iload_n 1, 1) := by decide +kernel
theorem dX6_lose_1 : decode cX6_lose 1 = .ok (.invokestatic 94, 3) := by decide +kernel
theorem dX6_lose_4 : decode cX6_lose 4 = .ok (.ifCond .ne 5, 3) := by decide +kernel
theorem dX6_lose_7 : decode cX6_lose 7 = .ok (.iconst (-1), 1) := by decide +kernel
theorem dX6_lose_8 : decode cX6_lose 8 = .ok (.ireturn, 1) := by decide +kernel
theorem dX6_lose_9 : decode cX6_lose 9 = .ok (.aload_n 0, 1) := by decide +kernel
theorem dX6_lose_10 : decode cX6_lose 10 = .ok (.getfield 9, 3) := by decide +kernel
theorem dX6_lose_13 : decode cX6_lose 13 = .ok (.iload_n 1, 1) := by decide +kernel
theorem dX6_lose_14 : decode cX6_lose 14 = .ok (.iaload, 1) := by decide +kernel
theorem dX6_lose_15 : decode cX6_lose 15 = .ok (.bipush (-9), 2) := by decide +kernel
theorem dX6_lose_17 : decode cX6_lose 17 = .ok (.if_icmp .ne 7, 3) := by decide +kernel
theorem dX6_lose_20 : decode cX6_lose 20 = .ok (.iconst 0, 1) := by decide +kernel
theorem dX6_lose_21 : decode cX6_lose 21 = .ok (.goto 4, 3) := by decide +kernel
theorem dX6_lose_24 : decode cX6_lose 24 = .ok (.iconst 1, 1) := by decide +kernel
theorem dX6_lose_25 : decode cX6_lose 25 = .ok (.istore_n 2, 1) := by decide +kernel
theorem dX6_lose_26 : decode cX6_lose 26 = .ok (.aload_n 0, 1) := by decide +kernel
theorem dX6_lose_27 : decode cX6_lose 27 = .ok (.getfield 9, 3) := by decide +kernel
theorem dX6_lose_30 : decode cX6_lose 30 = .ok (.iload_n 1, 1) := by decide +kernel
theorem dX6_lose_31 : decode cX6_lose 31 = .ok (.bipush (-9), 2) := by decide +kernel
theorem dX6_lose_33 : decode cX6_lose 33 = .ok (.iastore, 1) := by decide +kernel
theorem dX6_lose_34 : decode cX6_lose 34 = .ok (.iload_n 2, 1) := by decide +kernel
theorem dX6_lose_35 : decode cX6_lose 35 = .ok (.ireturn, 1) := by decide +kernel
theorem dX6_put_0 : decode cX6_put 0 = .ok (.aload_n 0, 1) := by decide +kernel
theorem dX6_put_1 : decode cX6_put 1 = .ok (.iconst 0, 1) := by decide +kernel
theorem dX6_put_2 : decode cX6_put 2 = .ok (.putfield 70, 3) := by decide +kernel
theorem dX6_put_5 : decode cX6_put 5 = .ok (.iload_n 1, 1) := by decide +kernel
theorem dX6_put_6 : decode cX6_put 6 = .ok (.invokestatic 94, 3) := by decide +kernel
theorem dX6_put_9 : decode cX6_put 9 = .ok (.ifCond .ne 5, 3) := by decide +kernel
theorem dX6_put_12 : decode cX6_put 12 = .ok (.iconst (-1), 1) := by decide +kernel
theorem dX6_put_13 : decode cX6_put 13 = .ok (.ireturn, 1) := by decide +kernel
theorem dX6_put_14 : decode cX6_put 14 = .ok (.aload_n 0, 1) := by decide +kernel
theorem dX6_put_15 : decode cX6_put 15 = .ok (.getfield 9, 3) := by decide +kernel
theorem dX6_put_18 : decode cX6_put 18 = .ok (.iload_n 1, 1) := by decide +kernel
theorem dX6_put_19 : decode cX6_put 19 = .ok (.iaload, 1) := by decide +kernel
theorem dX6_put_20 : decode cX6_put 20 = .ok (.bipush (-9), 2) := by decide +kernel
theorem dX6_put_22 : decode cX6_put 22 = .ok (.if_icmp .ne 9, 3) := by decide +kernel
theorem dX6_put_25 : decode cX6_put 25 = .ok (.aload_n 0, 1) := by decide +kernel
theorem dX6_put_26 : decode cX6_put 26 = .ok (.iconst 1, 1) := by decide +kernel
theorem dX6_put_27 : decode cX6_put 27 = .ok (.invokevirtual 104, 3) := by decide +kernel
theorem dX6_put_30 : decode cX6_put 30 = .ok (.ireturn, 1) := by decide +kernel
theorem dX6_put_31 : decode cX6_put 31 = .ok (.iload_n 2, 1) := by decide +kernel
theorem dX6_put_32 : decode cX6_put 32 = .ok (.iconst 0, 1) := by decide +kernel
theorem dX6_put_33 : decode cX6_put 33 = .ok (.aload_n 0, 1) := by decide +kernel
theorem dX6_put_34 : decode cX6_put 34 = .ok (.getfield 13, 3) := by decide +kernel
theorem dX6_put_37 : decode cX6_put 37 = .ok (.iload_n 1, 1) := by decide +kernel
theorem dX6_put_38 : decode cX6_put 38 = .ok (.iaload, 1) := by decide +kernel
theorem dX6_put_39 : decode cX6_put 39 = .ok (.iconst 1, 1) := by decide +kernel
theorem dX6_put_40 : decode cX6_put 40 = .ok (.isub, 1) := by decide +kernel
theorem dX6_put_41 : decode cX6_put 41 = .ok (.invokestatic 76, 3) := by decide +kernel
theorem dX6_put_44 : decode cX6_put 44 = .ok (.ifCond .ne 9, 3) := by decide +kernel
theorem dX6_put_47 : decode cX6_put 47 = .ok (.aload_n 0, 1) := by decide +kernel
theorem dX6_put_48 : decode cX6_put 48 = .ok (.iconst 3, 1) := by decide +kernel
theorem dX6_put_49 : decode cX6_put 49 = .ok (.invokevirtual 104, 3) := by decide +kernel
theorem dX6_put_52 : decode cX6_put 52 = .ok (.ireturn, 1) := by decide +kernel
theorem dX6_put_53 : decode cX6_put 53 = .ok (.aload_n 0, 1) := by decide +kernel
theorem dX6_put_54 : decode cX6_put 54 = .ok (.getfield 16, 3) := by decide +kernel
theorem dX6_put_57 : decode cX6_put 57 = .ok (.bipush 60, 2) := by decide +kernel
theorem dX6_put_59 : decode cX6_put 59 = .ok (.iload_n 1, 1) := by decide +kernel
theorem dX6_put_60 : decode cX6_put 60 = .ok (.imul, 1) := by decide +kernel
theorem dX6_put_61 : decode cX6_put 61 = .ok (.iload_n 2, 1) := by decide +kernel
theorem dX6_put_62 : decode cX6_put 62 = .ok (.iadd, 1) := by decide +kernel
theorem dX6_put_63 : decode cX6_put 63 = .ok (.aload_n 0, 1) := by decide +kernel
theorem dX6_put_64 : decode cX6_put 64 = .ok (.getfield 9, 3) := by decide +kernel
theorem dX6_put_67 : decode cX6_put 67 = .ok (.iload_n 1, 1) := by decide +kernel
theorem dX6_put_68 : decode cX6_put 68 = .ok (.iaload, 1) := by decide +kernel
theorem dX6_put_69 : decode cX6_put 69 = .ok (.ifCond .ne 8, 3) := by decide +kernel
theorem dX6_put_72 : decode cX6_put 72 = .ok (.iload_n 3, 1) := by decide +kernel
theorem dX6_put_73 : decode cX6_put 73 = .ok (.i2b, 1) := by decide +kernel
theorem dX6_put_74 : decode cX6_put 74 = .ok (.goto 19, 3) := by decide +kernel
theorem dX6_put_77 : decode cX6_put 77 = .ok (.aload_n 0, 1) := by decide +kernel
theorem dX6_put_78 : decode cX6_put 78 = .ok (.getfield 9, 3) := by decide +kernel
theorem dX6_put_81 : decode cX6_put 81 = .ok (.iload_n 1, 1) := by decide +kernel
theorem dX6_put_82 : decode cX6_put 82 = .ok (.iaload, 1) := by decide +kernel
theorem dX6_put_83 : decode cX6_put 83 = .ok (.iconst 1, 1) := by decide +kernel
theorem dX6_put_84 : decode cX6_put 84 = .ok (.if_icmp .ne 8, 3) := by decide +kernel
theorem dX6_put_87 : decode cX6_put 87 = .ok (.iload_n 3, 1) := by decide +kernel
theorem dX6_put_88 : decode cX6_put 88 = .ok (.i2s, 1) := by decide +kernel
theorem dX6_put_89 : decode cX6_put 89 = .ok (.goto 4, 3) := by decide +kernel
theorem dX6_put_92 : decode cX6_put 92 = .ok (.iload_n 3, 1) := by decide +kernel
theorem dX6_put_93 : decode cX6_put 93 = .ok (.iastore, 1) := by decide +kernel
end
section
theorem dX6_put_94 : decode cX6_put 94 = .ok (.iconst 1, 1) := by decide +kernel
theorem dX6_put_95 : decode cX6_put 95 = .ok (.ireturn, 1) := by decide +kernel
theorem dX6_cell_0 : decode cX6_cell 0 = .ok (.aload_n 0, 1) := by decide +kernel
theorem dX6_cell_1 : decode cX6_cell 1 = .ok (.iconst 0, 1) := by decide +kernel
theorem dX6_cell_2 : decode cX6_cell 2 = .ok (.putfield 70, 3) := by decide +kernel
theorem dX6_cell_5 : decode cX6_cell 5 = .ok (.iload_n 1, 1) := by decide +kernel
theorem dX6_cell_6 : decode cX6_cell 6 = .ok (.invokestatic 94, 3) := by decide +kernel
theorem dX6_cell_9 : decode cX6_cell 9 = .ok (.ifCond .eq 10, 3) := by decide +kernel
theorem dX6_cell_12 : decode cX6_cell 12 = .ok (.iload_n 3, 1) := by decide +kernel
theorem dX6_cell_13 : decode cX6_cell 13 = .ok (.invokestatic 97, 3) := by decide +kernel
theorem dX6_cell_16 : decode cX6_cell 16 = .ok (.ifCond .ne 7, 3) := by decide +kernel
theorem dX6_cell_19 : decode cX6_cell 19 = .ok (.ldc2_w 74, 3) := by decide +kernel
theorem dX6_cell_22 : decode cX6_cell 22 = .ok (.lreturn, 1) := by decide +kernel
theorem dX6_cell_23 : decode cX6_cell 23 = .ok (.aload_n 0, 1) := by decide +kernel
theorem dX6_cell_24 : decode cX6_cell 24 = .ok (.getfield 9, 3) := by decide +kernel
theorem dX6_cell_27 : decode cX6_cell 27 = .ok (.iload_n 1, 1) := by decide +kernel
theorem dX6_cell_28 : decode cX6_cell 28 = .ok (.iaload, 1) := by decide +kernel
theorem dX6_cell_29 : decode cX6_cell 29 = .ok (.bipush (-9), 2) := by decide +kernel
theorem dX6_cell_31 : decode cX6_cell 31 = .ok (.if_icmp .eq 19, 3) := by decide +kernel
theorem dX6_cell_34 : decode cX6_cell 34 = .ok (.aload_n 0, 1) := by decide +kernel
theorem dX6_cell_35 : decode cX6_cell 35 = .ok (.getfield 9, 3) := by decide +kernel
theorem dX6_cell_38 : decode cX6_cell 38 = .ok (.iload_n 1, 1) := by decide +kernel
theorem dX6_cell_39 : decode cX6_cell 39 = .ok (.iaload, 1) := by decide +kernel
theorem dX6_cell_40 : decode cX6_cell 40 = .ok (.iload_n 3, 1) := by decide +kernel
theorem dX6_cell_41 : decode cX6_cell 41 = .ok (.if_icmp .eq 9, 3) := by decide +kernel
theorem dX6_cell_44 : decode cX6_cell 44 = .ok (.aload_n 0, 1) := by decide +kernel
theorem dX6_cell_45 : decode cX6_cell 45 = .ok (.iconst 2, 1) := by decide +kernel
theorem dX6_cell_46 : decode cX6_cell 46 = .ok (.invokevirtual 208, 3) := by decide +kernel
theorem dX6_cell_49 : decode cX6_cell 49 = .ok (.lreturn, 1) := by decide +kernel
theorem dX6_cell_50 : decode cX6_cell 50 = .ok (.aload_n 0, 1) := by decide +kernel
theorem dX6_cell_51 : decode cX6_cell 51 = .ok (.getfield 9, 3) := by decide +kernel
theorem dX6_cell_54 : decode cX6_cell 54 = .ok (.iload_n 1, 1) := by decide +kernel
theorem dX6_cell_55 : decode cX6_cell 55 = .ok (.iaload, 1) := by decide +kernel
theorem dX6_cell_56 : decode cX6_cell 56 = .ok (.bipush (-9), 2) := by decide +kernel
theorem dX6_cell_58 : decode cX6_cell 58 = .ok (.if_icmp .ne 9, 3) := by decide +kernel
theorem dX6_cell_61 : decode cX6_cell 61 = .ok (.aload_n 0, 1) := by decide +kernel
theorem dX6_cell_62 : decode cX6_cell 62 = .ok (.iconst 1, 1) := by decide +kernel
theorem dX6_cell_63 : decode cX6_cell 63 = .ok (.invokevirtual 208, 3) := by decide +kernel
theorem dX6_cell_66 : decode cX6_cell 66 = .ok (.lreturn, 1) := by decide +kernel
theorem dX6_cell_67 : decode cX6_cell 67 = .ok (.iload_n 2, 1) := by decide +kernel
theorem dX6_cell_68 : decode cX6_cell 68 = .ok (.iconst 0, 1) := by decide +kernel
theorem dX6_cell_69 : decode cX6_cell 69 = .ok (.aload_n 0, 1) := by decide +kernel
theorem dX6_cell_70 : decode cX6_cell 70 = .ok (.getfield 13, 3) := by decide +kernel
theorem dX6_cell_73 : decode cX6_cell 73 = .ok (.iload_n 1, 1) := by decide +kernel
theorem dX6_cell_74 : decode cX6_cell 74 = .ok (.iaload, 1) := by decide +kernel
theorem dX6_cell_75 : decode cX6_cell 75 = .ok (.iconst 1, 1) := by decide +kernel
theorem dX6_cell_76 : decode cX6_cell 76 = .ok (.isub, 1) := by decide +kernel
theorem dX6_cell_77 : decode cX6_cell 77 = .ok (.invokestatic 76, 3) := by decide +kernel
theorem dX6_cell_80 : decode cX6_cell 80 = .ok (.ifCond .ne 9, 3) := by decide +kernel
theorem dX6_cell_83 : decode cX6_cell 83 = .ok (.aload_n 0, 1) := by decide +kernel
theorem dX6_cell_84 : decode cX6_cell 84 = .ok (.iconst 3, 1) := by decide +kernel
theorem dX6_cell_85 : decode cX6_cell 85 = .ok (.invokevirtual 208, 3) := by decide +kernel
theorem dX6_cell_88 : decode cX6_cell 88 = .ok (.lreturn, 1) := by decide +kernel
theorem dX6_cell_89 : decode cX6_cell 89 = .ok (.aload_n 0, 1) := by decide +kernel
theorem dX6_cell_90 : decode cX6_cell 90 = .ok (.getfield 16, 3) := by decide +kernel
theorem dX6_cell_93 : decode cX6_cell 93 = .ok (.bipush 60, 2) := by decide +kernel
theorem dX6_cell_95 : decode cX6_cell 95 = .ok (.iload_n 1, 1) := by decide +kernel
theorem dX6_cell_96 : decode cX6_cell 96 = .ok (.imul, 1) := by decide +kernel
theorem dX6_cell_97 : decode cX6_cell 97 = .ok (.iload_n 2, 1) := by decide +kernel
theorem dX6_cell_98 : decode cX6_cell 98 = .ok (.iadd, 1) := by decide +kernel
theorem dX6_cell_99 : decode cX6_cell 99 = .ok (.iaload, 1) := by decide +kernel
theorem dX6_cell_100 : decode cX6_cell 100 = .ok (.i2l, 1) := by decide +kernel
theorem dX6_cell_101 : decode cX6_cell 101 = .ok (.lreturn, 1) := by decide +kernel
theorem dX6_copy_0 : decode cX6_copy 0 = .ok (.aload_n 0, 1) := by decide +kernel
theorem dX6_copy_1 : decode cX6_copy 1 = .ok (.iconst 0, 1) := by decide +kernel
theorem dX6_copy_2 : decode cX6_copy 2 = .ok (.putfield 70, 3) := by decide +kernel
theorem dX6_copy_5 : decode cX6_copy 5 = .ok (.iload_n 1, 1) := by decide +kernel
theorem dX6_copy_6 : decode cX6_copy 6 = .ok (.invokestatic 94, 3) := by decide +kernel
theorem dX6_copy_9 : decode cX6_copy 9 = .ok (.ifCond .eq 10, 3) := by decide +kernel
theorem dX6_copy_12 : decode cX6_copy 12 = .ok (.iload_n 3, 1) := by decide +kernel
theorem dX6_copy_13 : decode cX6_copy 13 = .ok (.invokestatic 94, 3) := by decide +kernel
theorem dX6_copy_16 : decode cX6_copy 16 = .ok (.ifCond .ne 5, 3) := by decide +kernel
theorem dX6_copy_19 : decode cX6_copy 19 = .ok (.iconst (-1), 1) := by decide +kernel
theorem dX6_copy_20 : decode cX6_copy 20 = .ok (.ireturn, 1) := by decide +kernel
theorem dX6_copy_21 : decode cX6_copy 21 = .ok (.aload_n 0, 1) := by decide +kernel
theorem dX6_copy_22 : decode cX6_copy 22 = .ok (.getfield 9, 3) := by decide +kernel
theorem dX6_copy_25 : decode cX6_copy 25 = .ok (.iload_n 1, 1) := by decide +kernel
theorem dX6_copy_26 : decode cX6_copy 26 = .ok (.iaload, 1) := by decide +kernel
theorem dX6_copy_27 : decode cX6_copy 27 = .ok (.bipush (-9), 2) := by decide +kernel
theorem dX6_copy_29 : decode cX6_copy 29 = .ok (.if_icmp .eq 14, 3) := by decide +kernel
theorem dX6_copy_32 : decode cX6_copy 32 = .ok (.aload_n 0, 1) := by decide +kernel
theorem dX6_copy_33 : decode cX6_copy 33 = .ok (.getfield 9, 3) := by decide +kernel
theorem dX6_copy_36 : decode cX6_copy 36 = .ok (.iload_n 3, 1) := by decide +kernel
theorem dX6_copy_37 : decode cX6_copy 37 = .ok (.iaload, 1) := by decide +kernel
theorem dX6_copy_38 : decode cX6_copy 38 = .ok (.bipush (-9), 2) := by decide +kernel
theorem dX6_copy_40 : decode cX6_copy 40 = .ok (.if_icmp .ne 9, 3) := by decide +kernel
theorem dX6_copy_43 : decode cX6_copy 43 = .ok (.aload_n 0, 1) := by decide +kernel
theorem dX6_copy_44 : decode cX6_copy 44 = .ok (.iconst 1, 1) := by decide +kernel
theorem dX6_copy_45 : decode cX6_copy 45 = .ok (.invokevirtual 104, 3) := by decide +kernel
theorem dX6_copy_48 : decode cX6_copy 48 = .ok (.ireturn, 1) := by decide +kernel
theorem dX6_copy_49 : decode cX6_copy 49 = .ok (.aload_n 0, 1) := by decide +kernel
theorem dX6_copy_50 : decode cX6_copy 50 = .ok (.getfield 9, 3) := by decide +kernel
theorem dX6_copy_53 : decode cX6_copy 53 = .ok (.iload_n 1, 1) := by decide +kernel
theorem dX6_copy_54 : decode cX6_copy 54 = .ok (.iaload, 1) := by decide +kernel
theorem dX6_copy_55 : decode cX6_copy 55 = .ok (.aload_n 0, 1) := by decide +kernel
theorem dX6_copy_56 : decode cX6_copy 56 = .ok (.getfield 9, 3) := by decide +kernel
theorem dX6_copy_59 : decode cX6_copy 59 = .ok (.iload_n 3, 1) := by decide +kernel
theorem dX6_copy_60 : decode cX6_copy 60 = .ok (.iaload, 1) := by decide +kernel
theorem dX6_copy_61 : decode cX6_copy 61 = .ok (.if_icmp .eq 9, 3) := by decide +kernel
theorem dX6_copy_64 : decode cX6_copy 64 = .ok (.aload_n 0, 1) := by decide +kernel
theorem dX6_copy_65 : decode cX6_copy 65 = .ok (.iconst 2, 1) := by decide +kernel
theorem dX6_copy_66 : decode cX6_copy 66 = .ok (.invokevirtual 104, 3) := by decide +kernel
theorem dX6_copy_69 : decode cX6_copy 69 = .ok (.ireturn, 1) := by decide +kernel
theorem dX6_copy_70 : decode cX6_copy 70 = .ok (.iload_n 2, 1) := by decide +kernel
theorem dX6_copy_71 : decode cX6_copy 71 = .ok (.ifCond .lt 38, 3) := by decide +kernel
theorem dX6_copy_74 : decode cX6_copy 74 = .ok (.iload 4, 2) := by decide +kernel
theorem dX6_copy_76 : decode cX6_copy 76 = .ok (.ifCond .lt 33, 3) := by decide +kernel
theorem dX6_copy_79 : decode cX6_copy 79 = .ok (.iload 5, 2) := by decide +kernel
theorem dX6_copy_81 : decode cX6_copy 81 = .ok (.ifCond .lt 28, 3) := by decide +kernel
theorem dX6_copy_84 : decode cX6_copy 84 = .ok (.iload_n 2, 1) := by decide +kernel
theorem dX6_copy_85 : decode cX6_copy 85 = .ok (.aload_n 0, 1) := by decide +kernel
theorem dX6_copy_86 : decode cX6_copy 86 = .ok (.getfield 13, 3) := by decide +kernel
theorem dX6_copy_89 : decode cX6_copy 89 = .ok (.iload_n 1, 1) := by decide +kernel
theorem dX6_copy_90 : decode cX6_copy 90 = .ok (.iaload, 1) := by decide +kernel
theorem dX6_copy_91 : decode cX6_copy 91 = .ok (.if_icmp .gt 18, 3) := by decide +kernel
theorem dX6_copy_94 : decode cX6_copy 94 = .ok (.iload 4, 2) := by decide +kernel
theorem dX6_copy_96 : decode cX6_copy 96 = .ok (.aload_n 0, 1) := by decide +kernel
theorem dX6_copy_97 : decode cX6_copy 97 = .ok (.getfield 13, 3) := by decide +kernel
theorem dX6_copy_100 : decode cX6_copy 100 = .ok (.iload_n 3, 1) := by decide +kernel
theorem dX6_copy_101 : decode cX6_copy 101 = .ok (.iaload, 1) := by decide +kernel
theorem dX6_copy_102 : decode cX6_copy 102 = .ok (.if_icmp .gt 7, 3) := by decide +kernel
theorem dX6_copy_105 : decode cX6_copy 105 = .ok (.iconst 1, 1) := by decide +kernel
theorem dX6_copy_106 : decode cX6_copy 106 = .ok (.goto 4, 3) := by decide +kernel
theorem dX6_copy_109 : decode cX6_copy 109 = .ok (.iconst 0, 1) := by decide +kernel
theorem dX6_copy_110 : decode cX6_copy 110 = .ok (.istore 6, 2) := by decide +kernel
theorem dX6_copy_112 : decode cX6_copy 112 = .ok (.iload 6, 2) := by decide +kernel
theorem dX6_copy_114 : decode cX6_copy 114 = .ok (.ifCond .eq 30, 3) := by decide +kernel
theorem dX6_copy_117 : decode cX6_copy 117 = .ok (.iload 5, 2) := by decide +kernel
theorem dX6_copy_119 : decode cX6_copy 119 = .ok (.aload_n 0, 1) := by decide +kernel
theorem dX6_copy_120 : decode cX6_copy 120 = .ok (.getfield 13, 3) := by decide +kernel
theorem dX6_copy_123 : decode cX6_copy 123 = .ok (.iload_n 1, 1) := by decide +kernel
theorem dX6_copy_124 : decode cX6_copy 124 = .ok (.iaload, 1) := by decide +kernel
theorem dX6_copy_125 : decode cX6_copy 125 = .ok (.iload_n 2, 1) := by decide +kernel
theorem dX6_copy_126 : decode cX6_copy 126 = .ok (.isub, 1) := by decide +kernel
theorem dX6_copy_127 : decode cX6_copy 127 = .ok (.if_icmp .gt 17, 3) := by decide +kernel
theorem dX6_copy_130 : decode cX6_copy 130 = .ok (.iload 5, 2) := by decide +kernel
theorem dX6_copy_132 : decode cX6_copy 132 = .ok (.aload_n 0, 1) := by decide +kernel
theorem dX6_copy_133 : decode cX6_copy 133 = .ok (.getfield 13, 3) := by decide +kernel
theorem dX6_copy_136 : decode cX6_copy 136 = .ok (.iload_n 3, 1) := by decide +kernel
theorem dX6_copy_137 : decode cX6_copy 137 = .ok (.iaload, 1) := by decide +kernel
theorem dX6_copy_138 : decode cX6_copy 138 = .ok (.iload 4, 2) := by decide +kernel
theorem dX6_copy_140 : decode cX6_copy 140 = .ok (.isub, 1) := by decide +kernel
theorem dX6_copy_141 : decode cX6_copy 141 = .ok (.if_icmp .le 9, 3) := by decide +kernel
theorem dX6_copy_144 : decode cX6_copy 144 = .ok (.aload_n 0, 1) := by decide +kernel
theorem dX6_copy_145 : decode cX6_copy 145 = .ok (.iconst 3, 1) := by decide +kernel
theorem dX6_copy_146 : decode cX6_copy 146 = .ok (.invokevirtual 104, 3) := by decide +kernel
theorem dX6_copy_149 : decode cX6_copy 149 = .ok (.ireturn, 1) := by decide +kernel
theorem dX6_copy_150 : decode cX6_copy 150 = .ok (.iload_n 2, 1) := by decide +kernel
theorem dX6_copy_151 : decode cX6_copy 151 = .ok (.iload 4, 2) := by decide +kernel
theorem dX6_copy_153 : decode cX6_copy 153 = .ok (.if_icmp .ge 7, 3) := by decide +kernel
theorem dX6_copy_156 : decode cX6_copy 156 = .ok (.iconst 1, 1) := by decide +kernel
theorem dX6_copy_157 : decode cX6_copy 157 = .ok (.goto 4, 3) := by decide +kernel
theorem dX6_copy_160 : decode cX6_copy 160 = .ok (.iconst 0, 1) := by decide +kernel
theorem dX6_copy_161 : decode cX6_copy 161 = .ok (.istore 7, 2) := by decide +kernel
theorem dX6_copy_163 : decode cX6_copy 163 = .ok (.iconst 0, 1) := by decide +kernel
theorem dX6_copy_164 : decode cX6_copy 164 = .ok (.istore 8, 2) := by decide +kernel
theorem dX6_copy_166 : decode cX6_copy 166 = .ok (.iload 8, 2) := by decide +kernel
theorem dX6_copy_168 : decode cX6_copy 168 = .ok (.iload 5, 2) := by decide +kernel
theorem dX6_copy_170 : decode cX6_copy 170 = .ok (.if_icmp .ge 57, 3) := by decide +kernel
theorem dX6_copy_173 : decode cX6_copy 173 = .ok (.iload 7, 2) := by decide +kernel
theorem dX6_copy_175 : decode cX6_copy 175 = .ok (.ifCond .eq 13, 3) := by decide +kernel
theorem dX6_copy_178 : decode cX6_copy 178 = .ok (.iload 5, 2) := by decide +kernel
theorem dX6_copy_180 : decode cX6_copy 180 = .ok (.iconst 1, 1) := by decide +kernel
theorem dX6_copy_181 : decode cX6_copy 181 = .ok (.isub, 1) := by decide +kernel
theorem dX6_copy_182 : decode cX6_copy 182 = .ok (.iload 8, 2) := by decide +kernel
theorem dX6_copy_184 : decode cX6_copy 184 = .ok (.isub, 1) := by decide +kernel
theorem dX6_copy_185 : decode cX6_copy 185 = .ok (.goto 5, 3) := by decide +kernel
theorem dX6_copy_188 : decode cX6_copy 188 = .ok (.iload 8, 2) := by decide +kernel
theorem dX6_copy_190 : decode cX6_copy 190 = .ok (.istore 9, 2) := by decide +kernel
theorem dX6_copy_192 : decode cX6_copy 192 = .ok (.aload_n 0, 1) := by decide +kernel
theorem dX6_copy_193 : decode cX6_copy 193 = .ok (.getfield 16, 3) := by decide +kernel
theorem dX6_copy_196 : decode cX6_copy 196 = .ok (.bipush 60, 2) := by decide +kernel
theorem dX6_copy_198 : decode cX6_copy 198 = .ok (.iload_n 3, 1) := by decide +kernel
theorem dX6_copy_199 : decode cX6_copy 199 = .ok (.imul, 1) := by decide +kernel
theorem dX6_copy_200 : decode cX6_copy 200 = .ok (.iload 4, 2) := by decide +kernel
theorem dX6_copy_202 : decode cX6_copy 202 = .ok (.iadd, 1) := by decide +kernel
theorem dX6_copy_203 : decode cX6_copy 203 = .ok (.iload 9, 2) := by decide +kernel
theorem dX6_copy_205 : decode cX6_copy 205 = .ok (.iadd, 1) := by decide +kernel
theorem dX6_copy_206 : decode cX6_copy 206 = .ok (.aload_n 0, 1) := by decide +kernel
theorem dX6_copy_207 : decode cX6_copy 207 = .ok (.getfield 16, 3) := by decide +kernel
theorem dX6_copy_210 : decode cX6_copy 210 = .ok (.bipush 60, 2) := by decide +kernel
theorem dX6_copy_212 : decode cX6_copy 212 = .ok (.iload_n 1, 1) := by decide +kernel
theorem dX6_copy_213 : decode cX6_copy 213 = .ok (.imul, 1) := by decide +kernel
theorem dX6_copy_214 : decode cX6_copy 214 = .ok (.iload_n 2, 1) := by decide +kernel
theorem dX6_copy_215 : decode cX6_copy 215 = .ok (.iadd, 1) := by decide +kernel
theorem dX6_copy_216 : decode cX6_copy 216 = .ok (.iload 9, 2) := by decide +kernel
theorem dX6_copy_218 : decode cX6_copy 218 = .ok (.iadd, 1) := by decide +kernel
theorem dX6_copy_219 : decode cX6_copy 219 = .ok (.iaload, 1) := by decide +kernel
theorem dX6_copy_220 : decode cX6_copy 220 = .ok (.iastore, 1) := by decide +kernel
theorem dX6_copy_221 : decode cX6_copy 221 = .ok (.iinc 8 1, 3) := by decide +kernel
theorem dX6_copy_224 : decode cX6_copy 224 = .ok (.goto (-58), 3) := by decide +kernel
theorem dX6_copy_227 : decode cX6_copy 227 = .ok (.iload 5, 2) := by decide +kernel
theorem dX6_copy_229 : decode cX6_copy 229 = .ok (.ireturn, 1) := by decide +kernel
theorem dX6_begins_0 : decode cX6_begins 0 = .ok (.aload_n 0, 1) := by decide +kernel
theorem dX6_begins_1 : decode cX6_begins 1 = .ok (.bipush 31, 2) := by decide +kernel
theorem dX6_begins_3 : decode cX6_begins 3 = .ok (.aload_n 0, 1) := by decide +kernel
theorem dX6_begins_4 : decode cX6_begins 4 = .ok (.getfield 212, 3) := by decide +kernel
theorem dX6_begins_7 : decode cX6_begins 7 = .ok (.imul, 1) := by decide +kernel
theorem dX6_begins_8 : decode cX6_begins 8 = .ok (.iload_n 1, 1) := by decide +kernel
theorem dX6_begins_9 : decode cX6_begins 9 = .ok (.iadd, 1) := by decide +kernel
theorem dX6_begins_10 : decode cX6_begins 10 = .ok (.putfield 212, 3) := by decide +kernel
theorem dX6_begins_13 : decode cX6_begins 13 = .ok (.return_, 1) := by decide +kernel
theorem dX6_tell_0 : decode cX6_tell 0 = .ok (.aload_n 0, 1) := by decide +kernel
theorem dX6_tell_1 : decode cX6_tell 1 = .ok (.iload_n 1, 1) := by decide +kernel
theorem dX6_tell_2 : decode cX6_tell 2 = .ok (.invokevirtual 83, 3) := by decide +kernel
theorem dX6_tell_5 : decode cX6_tell 5 = .ok (.ifCond .ne 5, 3) := by decide +kernel
theorem dX6_tell_8 : decode cX6_tell 8 = .ok (.iconst (-1), 1) := by decide +kernel
theorem dX6_tell_9 : decode cX6_tell 9 = .ok (.ireturn, 1) := by decide +kernel
theorem dX6_tell_10 : decode cX6_tell 10 = .ok (.aload_n 0, 1) := by decide +kernel
theorem dX6_tell_11 : decode cX6_tell 11 = .ok (.getfield 25, 3) := by decide +kernel
theorem dX6_tell_14 : decode cX6_tell 14 = .ok (.iload_n 1, 1) := by decide +kernel
theorem dX6_tell_15 : decode cX6_tell 15 = .ok (.iaload, 1) := by decide +kernel
theorem dX6_tell_16 : decode cX6_tell 16 = .ok (.istore_n 2, 1) := by decide +kernel
theorem dX6_tell_17 : decode cX6_tell 17 = .ok (.aload_n 0, 1) := by decide +kernel
theorem dX6_tell_18 : decode cX6_tell 18 = .ok (.getfield 22, 3) := by decide +kernel
theorem dX6_tell_21 : decode cX6_tell 21 = .ok (.iload_n 1, 1) := by decide +kernel
theorem dX6_tell_22 : decode cX6_tell 22 = .ok (.iaload, 1) := by decide +kernel
theorem dX6_tell_23 : decode cX6_tell 23 = .ok (.lookupswitch 67 #[(1, 25), (2, 40)], 25) := by decide +kernel
theorem dX6_tell_48 : decode cX6_tell 48 = .ok (.aload_n 0, 1) := by decide +kernel
theorem dX6_tell_49 : decode cX6_tell 49 = .ok (.iconst 2, 1) := by decide +kernel
theorem dX6_tell_50 : decode cX6_tell 50 = .ok (.invokevirtual 215, 3) := by decide +kernel
theorem dX6_tell_53 : decode cX6_tell 53 = .ok (.aload_n 0, 1) := by decide +kernel
theorem dX6_tell_54 : decode cX6_tell 54 = .ok (.iconst 1, 1) := by decide +kernel
theorem dX6_tell_55 : decode cX6_tell 55 = .ok (.invokevirtual 215, 3) := by decide +kernel
theorem dX6_tell_58 : decode cX6_tell 58 = .ok (.iload_n 2, 1) := by decide +kernel
theorem dX6_tell_59 : decode cX6_tell 59 = .ok (.bipush 100, 2) := by decide +kernel
theorem dX6_tell_61 : decode cX6_tell 61 = .ok (.iadd, 1) := by decide +kernel
theorem dX6_tell_62 : decode cX6_tell 62 = .ok (.ireturn, 1) := by decide +kernel
theorem dX6_tell_63 : decode cX6_tell 63 = .ok (.aload_n 0, 1) := by decide +kernel
theorem dX6_tell_64 : decode cX6_tell 64 = .ok (.iconst 3, 1) := by decide +kernel
theorem dX6_tell_65 : decode cX6_tell 65 = .ok (.invokevirtual 215, 3) := by decide +kernel
theorem dX6_tell_68 : decode cX6_tell 68 = .ok (.aload_n 0, 1) := by decide +kernel
theorem dX6_tell_69 : decode cX6_tell 69 = .ok (.iconst 2, 1) := by decide +kernel
theorem dX6_tell_70 : decode cX6_tell 70 = .ok (.invokevirtual 215, 3) := by decide +kernel
theorem dX6_tell_73 : decode cX6_tell 73 = .ok (.aload_n 0, 1) := by decide +kernel
theorem dX6_tell_74 : decode cX6_tell 74 = .ok (.iconst 1, 1) := by decide +kernel
theorem dX6_tell_75 : decode cX6_tell 75 = .ok (.invokevirtual 215, 3) := by decide +kernel
theorem dX6_tell_78 : decode cX6_tell 78 = .ok (.aload_n 0, 1) := by decide +kernel
theorem dX6_tell_79 : decode cX6_tell 79 = .ok (.iconst 1, 1) := by decide +kernel
theorem dX6_tell_80 : decode cX6_tell 80 = .ok (.invokevirtual 215, 3) := by decide +kernel
theorem dX6_tell_83 : decode cX6_tell 83 = .ok (.iconst 2, 1) := by decide +kernel
theorem dX6_tell_84 : decode cX6_tell 84 = .ok (.iload_n 2, 1) := by decide +kernel
theorem dX6_tell_85 : decode cX6_tell 85 = .ok (.imul, 1) := by decide +kernel
theorem dX6_tell_86 : decode cX6_tell 86 = .ok (.bipush 100, 2) := by decide +kernel
theorem dX6_tell_88 : decode cX6_tell 88 = .ok (.iadd, 1) := by decide +kernel
theorem dX6_tell_89 : decode cX6_tell 89 = .ok (.ireturn, 1) := by decide +kernel
theorem dX6_tell_90 : decode cX6_tell 90 = .ok (.aload_n 0, 1) := by decide +kernel
theorem dX6_tell_91 : decode cX6_tell 91 = .ok (.iconst 1, 1) := by decide +kernel
theorem dX6_tell_92 : decode cX6_tell 92 = .ok (.invokevirtual 215, 3) := by decide +kernel
theorem dX6_tell_95 : decode cX6_tell 95 = .ok (.iload_n 2, 1) := by decide +kernel
theorem dX6_tell_96 : decode cX6_tell 96 = .ok (.ireturn, 1) := by decide +kernel
theorem dX6_knock_0 : decode cX6_knock 0 = .ok (.aload_n 0, 1) := by decide +kernel
theorem dX6_knock_1 : decode cX6_knock 1 = .ok (.iload_n 1, 1) := by decide +kernel
theorem dX6_knock_2 : decode cX6_knock 2 = .ok (.invokevirtual 83, 3) := by decide +kernel
theorem dX6_knock_5 : decode cX6_knock 5 = .ok (.ifCond .ne 5, 3) := by decide +kernel
theorem dX6_knock_8 : decode cX6_knock 8 = .ok (.iconst (-1), 1) := by decide +kernel
theorem dX6_knock_9 : decode cX6_knock 9 = .ok (.ireturn, 1) := by decide +kernel
theorem dX6_knock_10 : decode cX6_knock 10 = .ok (.aload_n 0, 1) := by decide +kernel
theorem dX6_knock_11 : decode cX6_knock 11 = .ok (.aload_n 0, 1) := by decide +kernel
theorem dX6_knock_12 : decode cX6_knock 12 = .ok (.getfield 22, 3) := by decide +kernel
theorem dX6_knock_15 : decode cX6_knock 15 = .ok (.iload_n 1, 1) := by decide +kernel
theorem dX6_knock_16 : decode cX6_knock 16 = .ok (.iaload, 1) := by decide +kernel
theorem dX6_knock_17 : decode cX6_knock 17 = .ok (.iconst 2, 1) := by decide +kernel
theorem dX6_knock_18 : decode cX6_knock 18 = .ok (.if_icmp .ne 7, 3) := by decide +kernel
theorem dX6_knock_21 : decode cX6_knock 21 = .ok (.iconst 5, 1) := by decide +kernel
theorem dX6_knock_22 : decode cX6_knock 22 = .ok (.goto 4, 3) := by decide +kernel
theorem dX6_knock_25 : decode cX6_knock 25 = .ok (.iconst 4, 1) := by decide +kernel
theorem dX6_knock_26 : decode cX6_knock 26 = .ok (.invokevirtual 215, 3) := by decide +kernel
theorem dX6_knock_29 : decode cX6_knock 29 = .ok (.aload_n 0, 1) := by decide +kernel
theorem dX6_knock_30 : decode cX6_knock 30 = .ok (.getfield 22, 3) := by decide +kernel
theorem dX6_knock_33 : decode cX6_knock 33 = .ok (.iload_n 1, 1) := by decide +kernel
theorem dX6_knock_34 : decode cX6_knock 34 = .ok (.iaload, 1) := by decide +kernel
theorem dX6_knock_35 : decode cX6_knock 35 = .ok (.iconst 2, 1) := by decide +kernel
theorem dX6_knock_36 : decode cX6_knock 36 = .ok (.if_icmp .ne 8, 3) := by decide +kernel
theorem dX6_knock_39 : decode cX6_knock 39 = .ok (.bipush 80, 2) := by decide +kernel
theorem dX6_knock_41 : decode cX6_knock 41 = .ok (.goto 12, 3) := by decide +kernel
theorem dX6_knock_44 : decode cX6_knock 44 = .ok (.aload_n 0, 1) := by decide +kernel
theorem dX6_knock_45 : decode cX6_knock 45 = .ok (.getfield 19, 3) := by decide +kernel
theorem dX6_knock_48 : decode cX6_knock 48 = .ok (.iload_n 1, 1) := by decide +kernel
theorem dX6_knock_49 : decode cX6_knock 49 = .ok (.iaload, 1) := by decide +kernel
theorem dX6_knock_50 : decode cX6_knock 50 = .ok (.invokestatic 140, 3) := by decide +kernel
theorem dX6_knock_53 : decode cX6_knock 53 = .ok (.ireturn, 1) := by decide +kernel
theorem dX6_as_0 : decode cX6_as 0 = .ok (.aload_n 0, 1) := by decide +kernel
theorem dX6_as_1 : decode cX6_as 1 = .ok (.iconst 0, 1) := by decide +kernel
theorem dX6_as_2 : decode cX6_as 2 = .ok (.putfield 70, 3) := by decide +kernel
theorem dX6_as_5 : decode cX6_as 5 = .ok (.aload_n 0, 1) := by decide +kernel
theorem dX6_as_6 : decode cX6_as 6 = .ok (.iload_n 1, 1) := by decide +kernel
theorem dX6_as_7 : decode cX6_as 7 = .ok (.invokevirtual 83, 3) := by decide +kernel
theorem dX6_as_10 : decode cX6_as 10 = .ok (.ifCond .ne 5, 3) := by decide +kernel
theorem dX6_as_13 : decode cX6_as 13 = .ok (.iconst (-1), 1) := by decide +kernel
theorem dX6_as_14 : decode cX6_as 14 = .ok (.ireturn, 1) := by decide +kernel
theorem dX6_as_15 : decode cX6_as 15 = .ok (.iload_n 2, 1) := by decide +kernel
theorem dX6_as_16 : decode cX6_as 16 = .ok (.iconst 0, 1) := by decide +kernel
theorem dX6_as_17 : decode cX6_as 17 = .ok (.iconst 2, 1) := by decide +kernel
theorem dX6_as_18 : decode cX6_as 18 = .ok (.invokestatic 76, 3) := by decide +kernel
theorem dX6_as_21 : decode cX6_as 21 = .ok (.ifCond .ne 6, 3) := by decide +kernel
theorem dX6_as_24 : decode cX6_as 24 = .ok (.bipush (-2), 2) := by decide +kernel
theorem dX6_as_26 : decode cX6_as 26 = .ok (.ireturn, 1) := by decide +kernel
theorem dX6_as_27 : decode cX6_as 27 = .ok (.aload_n 0, 1) := by decide +kernel
theorem dX6_as_28 : decode cX6_as 28 = .ok (.getfield 22, 3) := by decide +kernel
theorem dX6_as_31 : decode cX6_as 31 = .ok (.iload_n 1, 1) := by decide +kernel
theorem dX6_as_32 : decode cX6_as 32 = .ok (.iaload, 1) := by decide +kernel
theorem dX6_as_33 : decode cX6_as 33 = .ok (.iload_n 2, 1) := by decide +kernel
theorem dX6_as_34 : decode cX6_as 34 = .ok (.if_icmp .lt 7, 3) := by decide +kernel
theorem dX6_as_37 : decode cX6_as 37 = .ok (.iconst 1, 1) := by decide +kernel
theorem dX6_as_38 : decode cX6_as 38 = .ok (.goto 8, 3) := by decide +kernel
theorem dX6_as_41 : decode cX6_as 41 = .ok (.aload_n 0, 1) := by decide +kernel
theorem dX6_as_42 : decode cX6_as 42 = .ok (.iconst 2, 1) := by decide +kernel
theorem dX6_as_43 : decode cX6_as 43 = .ok (.invokevirtual 104, 3) := by decide +kernel
theorem dX6_as_46 : decode cX6_as 46 = .ok (.ireturn, 1) := by decide +kernel
theorem dX6_trace_0 : decode cX6_trace 0 = .ok (.aload_n 0, 1) := by decide +kernel
theorem dX6_trace_1 : decode cX6_trace 1 = .ok (.getfield 212, 3) := by decide +kernel
theorem dX6_trace_4 : decode cX6_trace 4 = .ok (.ireturn, 1) := by decide +kernel
theorem dX6_fault_0 : decode cX6_fault 0 = .ok (.aload_n 0, 1) := by decide +kernel
theorem dX6_fault_1 : decode cX6_fault 1 = .ok (.getfield 70, 3) := by decide +kernel
theorem dX6_fault_4 : decode cX6_fault 4 = .ok (.ireturn, 1) := by decide +kernel
theorem dX6_many_0 : decode cX6_many 0 = .ok (.iload_n 1, 1) := by decide +kernel
theorem dX6_many_1 : decode cX6_many 1 = .ok (.tableswitch 54 0 3 #[31, 36, 41, 49], 31) := by decide +kernel
theorem dX6_many_32 : decode cX6_many 32 = .ok (.aload_n 0, 1) := by decide +kernel
theorem dX6_many_33 : decode cX6_many 33 = .ok (.getfield 80, 3) := by decide +kernel
theorem dX6_many_36 : decode cX6_many 36 = .ok (.ireturn, 1) := by decide +kernel
theorem dX6_many_37 : decode cX6_many 37 = .ok (.aload_n 0, 1) := by decide +kernel
theorem dX6_many_38 : decode cX6_many 38 = .ok (.getfield 117, 3) := by decide +kernel
theorem dX6_many_41 : decode cX6_many 41 = .ok (.ireturn, 1) := by decide +kernel
theorem dX6_many_42 : decode cX6_many 42 = .ok (.aload_n 0, 1) := by decide +kernel
theorem dX6_many_43 : decode cX6_many 43 = .ok (.invokevirtual 178, 3) := by decide +kernel
theorem dX6_many_46 : decode cX6_many 46 = .ok (.invokestatic 140, 3) := by decide +kernel
theorem dX6_many_49 : decode cX6_many 49 = .ok (.ireturn, 1) := by decide +kernel
theorem dX6_many_50 : decode cX6_many 50 = .ok (.aload_n 0, 1) := by decide +kernel
theorem dX6_many_51 : decode cX6_many 51 = .ok (.getfield 120, 3) := by decide +kernel
theorem dX6_many_54 : decode cX6_many 54 = .ok (.ireturn, 1) := by decide +kernel
theorem dX6_many_55 : decode cX6_many 55 = .ok (.bipush (-2), 2) := by decide +kernel
theorem dX6_many_57 : decode cX6_many 57 = .ok (.ireturn, 1) := by decide +kernel
end
section
theorem dL_law_0 : decode cL_law 0 = .ok (.new 7, 3) := by decide +kernel
theorem dL_law_3 : decode cL_law 3 = .ok (.dup, 1) := by decide +kernel
theorem dL_law_4 : decode cL_law 4 = .ok (.invokespecial 9, 3) := by decide +kernel
theorem dL_law_7 : decode cL_law 7 = .ok (.astore_n 1, 1) := by decide +kernel
theorem dL_law_8 : decode cL_law 8 = .ok (.new 10, 3) := by decide +kernel
theorem dL_law_11 : decode cL_law 11 = .ok (.dup, 1) := by decide +kernel
theorem dL_law_12 : decode cL_law 12 = .ok (.invokespecial 12, 3) := by decide +kernel
theorem dL_law_15 : decode cL_law 15 = .ok (.astore_n 2, 1) := by decide +kernel
theorem dL_law_16 : decode cL_law 16 = .ok (.iconst 0, 1) := by decide +kernel
theorem dL_law_17 : decode cL_law 17 = .ok (.istore_n 3, 1) := by decide +kernel
theorem dL_law_18 : decode cL_law 18 = .ok (.iload_n 3, 1) := by decide +kernel
theorem dL_law_19 : decode cL_law 19 = .ok (.aload_n 0, 1) := by decide +kernel
theorem dL_law_20 : decode cL_law 20 = .ok (.arraylength, 1) := by decide +kernel
theorem dL_law_21 : decode cL_law 21 = .ok (.bipush 6, 2) := by decide +kernel
theorem dL_law_23 : decode cL_law 23 = .ok (.isub, 1) := by decide +kernel
theorem dL_law_24 : decode cL_law 24 = .ok (.if_icmp .gt 1072, 3) := by decide +kernel
theorem dL_law_27 : decode cL_law 27 = .ok (.aload_n 0, 1) := by decide +kernel
theorem dL_law_28 : decode cL_law 28 = .ok (.iload_n 3, 1) := by decide +kernel
theorem dL_law_29 : decode cL_law 29 = .ok (.iaload, 1) := by decide +kernel
theorem dL_law_30 : decode cL_law 30 = .ok (.bipush 31, 2) := by decide +kernel
theorem dL_law_32 : decode cL_law 32 = .ok (.iand, 1) := by decide +kernel
theorem dL_law_33 : decode cL_law 33 = .ok (.tableswitch 1057 0 29 #[135, 188, 221, 254, 277, 310, 373, 406, 449, 472, 485, 498, 511, 534, 567, 610, 633, 656, 679, 713, 756, 779, 822, 866, 929, 952, 975, 1008, 1021, 1034], 135) := by decide +kernel
theorem dL_law_168 : decode cL_law 168 = .ok (.aload_n 1, 1) := by decide +kernel
theorem dL_law_169 : decode cL_law 169 = .ok (.aload_n 0, 1) := by decide +kernel
theorem dL_law_170 : decode cL_law 170 = .ok (.iload_n 3, 1) := by decide +kernel
theorem dL_law_171 : decode cL_law 171 = .ok (.iconst 1, 1) := by decide +kernel
theorem dL_law_172 : decode cL_law 172 = .ok (.iadd, 1) := by decide +kernel
theorem dL_law_173 : decode cL_law 173 = .ok (.iaload, 1) := by decide +kernel
theorem dL_law_174 : decode cL_law 174 = .ok (.aload_n 0, 1) := by decide +kernel
theorem dL_law_175 : decode cL_law 175 = .ok (.iload_n 3, 1) := by decide +kernel
theorem dL_law_176 : decode cL_law 176 = .ok (.iconst 2, 1) := by decide +kernel
theorem dL_law_177 : decode cL_law 177 = .ok (.iadd, 1) := by decide +kernel
theorem dL_law_178 : decode cL_law 178 = .ok (.iaload, 1) := by decide +kernel
theorem dL_law_179 : decode cL_law 179 = .ok (.aload_n 0, 1) := by decide +kernel
theorem dL_law_180 : decode cL_law 180 = .ok (.iload_n 3, 1) := by decide +kernel
theorem dL_law_181 : decode cL_law 181 = .ok (.iconst 3, 1) := by decide +kernel
theorem dL_law_182 : decode cL_law 182 = .ok (.iadd, 1) := by decide +kernel
theorem dL_law_183 : decode cL_law 183 = .ok (.iaload, 1) := by decide +kernel
theorem dL_law_184 : decode cL_law 184 = .ok (.aload_n 0, 1) := by decide +kernel
theorem dL_law_185 : decode cL_law 185 = .ok (.iload_n 3, 1) := by decide +kernel
theorem dL_law_186 : decode cL_law 186 = .ok (.iconst 4, 1) := by decide +kernel
theorem dL_law_187 : decode cL_law 187 = .ok (.iadd, 1) := by decide +kernel
theorem dL_law_188 : decode cL_law 188 = .ok (.iaload, 1) := by decide +kernel
theorem dL_law_189 : decode cL_law 189 = .ok (.invokevirtual 13, 3) := by decide +kernel
theorem dL_law_192 : decode cL_law 192 = .ok (.aload_n 2, 1) := by decide +kernel
theorem dL_law_193 : decode cL_law 193 = .ok (.aload_n 0, 1) := by decide +kernel
theorem dL_law_194 : decode cL_law 194 = .ok (.iload_n 3, 1) := by decide +kernel
theorem dL_law_195 : decode cL_law 195 = .ok (.iconst 1, 1) := by decide +kernel
theorem dL_law_196 : decode cL_law 196 = .ok (.iadd, 1) := by decide +kernel
theorem dL_law_197 : decode cL_law 197 = .ok (.iaload, 1) := by decide +kernel
theorem dL_law_198 : decode cL_law 198 = .ok (.aload_n 0, 1) := by decide +kernel
theorem dL_law_199 : decode cL_law 199 = .ok (.iload_n 3, 1) := by decide +kernel
theorem dL_law_200 : decode cL_law 200 = .ok (.iconst 2, 1) := by decide +kernel
theorem dL_law_201 : decode cL_law 201 = .ok (.iadd, 1) := by decide +kernel
theorem dL_law_202 : decode cL_law 202 = .ok (.iaload, 1) := by decide +kernel
theorem dL_law_203 : decode cL_law 203 = .ok (.aload_n 0, 1) := by decide +kernel
theorem dL_law_204 : decode cL_law 204 = .ok (.iload_n 3, 1) := by decide +kernel
theorem dL_law_205 : decode cL_law 205 = .ok (.iconst 3, 1) := by decide +kernel
theorem dL_law_206 : decode cL_law 206 = .ok (.iadd, 1) := by decide +kernel
theorem dL_law_207 : decode cL_law 207 = .ok (.iaload, 1) := by decide +kernel
theorem dL_law_208 : decode cL_law 208 = .ok (.aload_n 0, 1) := by decide +kernel
theorem dL_law_209 : decode cL_law 209 = .ok (.iload_n 3, 1) := by decide +kernel
theorem dL_law_210 : decode cL_law 210 = .ok (.iconst 4, 1) := by decide +kernel
theorem dL_law_211 : decode cL_law 211 = .ok (.iadd, 1) := by decide +kernel
theorem dL_law_212 : decode cL_law 212 = .ok (.iaload, 1) := by decide +kernel
theorem dL_law_213 : decode cL_law 213 = .ok (.invokevirtual 17, 3) := by decide +kernel
theorem dL_law_216 : decode cL_law 216 = .ok (.if_icmp .eq 874, 3) := by decide +kernel
theorem dL_law_219 : decode cL_law 219 = .ok (.iconst 0, 1) := by decide +kernel
theorem dL_law_220 : decode cL_law 220 = .ok (.ireturn, 1) := by decide +kernel
theorem dL_law_221 : decode cL_law 221 = .ok (.aload_n 1, 1) := by decide +kernel
theorem dL_law_222 : decode cL_law 222 = .ok (.aload_n 0, 1) := by decide +kernel
theorem dL_law_223 : decode cL_law 223 = .ok (.iload_n 3, 1) := by decide +kernel
theorem dL_law_224 : decode cL_law 224 = .ok (.iconst 1, 1) := by decide +kernel
theorem dL_law_225 : decode cL_law 225 = .ok (.iadd, 1) := by decide +kernel
theorem dL_law_226 : decode cL_law 226 = .ok (.iaload, 1) := by decide +kernel
theorem dL_law_227 : decode cL_law 227 = .ok (.aload_n 0, 1) := by decide +kernel
theorem dL_law_228 : decode cL_law 228 = .ok (.iload_n 3, 1) := by decide +kernel
theorem dL_law_229 : decode cL_law 229 = .ok (.iconst 2, 1) := by decide +kernel
theorem dL_law_230 : decode cL_law 230 = .ok (.iadd, 1) := by decide +kernel
theorem dL_law_231 : decode cL_law 231 = .ok (.iaload, 1) := by decide +kernel
theorem dL_law_232 : decode cL_law 232 = .ok (.invokevirtual 18, 3) := by decide +kernel
theorem dL_law_235 : decode cL_law 235 = .ok (.aload_n 2, 1) := by decide +kernel
theorem dL_law_236 : decode cL_law 236 = .ok (.aload_n 0, 1) := by decide +kernel
theorem dL_law_237 : decode cL_law 237 = .ok (.iload_n 3, 1) := by decide +kernel
theorem dL_law_238 : decode cL_law 238 = .ok (.iconst 1, 1) := by decide +kernel
theorem dL_law_239 : decode cL_law 239 = .ok (.iadd, 1) := by decide +kernel
theorem dL_law_240 : decode cL_law 240 = .ok (.iaload, 1) := by decide +kernel
theorem dL_law_241 : decode cL_law 241 = .ok (.aload_n 0, 1) := by decide +kernel
theorem dL_law_242 : decode cL_law 242 = .ok (.iload_n 3, 1) := by decide +kernel
theorem dL_law_243 : decode cL_law 243 = .ok (.iconst 2, 1) := by decide +kernel
theorem dL_law_244 : decode cL_law 244 = .ok (.iadd, 1) := by decide +kernel
theorem dL_law_245 : decode cL_law 245 = .ok (.iaload, 1) := by decide +kernel
theorem dL_law_246 : decode cL_law 246 = .ok (.invokevirtual 22, 3) := by decide +kernel
theorem dL_law_249 : decode cL_law 249 = .ok (.if_icmp .eq 841, 3) := by decide +kernel
theorem dL_law_252 : decode cL_law 252 = .ok (.iconst 0, 1) := by decide +kernel
theorem dL_law_253 : decode cL_law 253 = .ok (.ireturn, 1) := by decide +kernel
theorem dL_law_254 : decode cL_law 254 = .ok (.aload_n 1, 1) := by decide +kernel
theorem dL_law_255 : decode cL_law 255 = .ok (.aload_n 0, 1) := by decide +kernel
theorem dL_law_256 : decode cL_law 256 = .ok (.iload_n 3, 1) := by decide +kernel
theorem dL_law_257 : decode cL_law 257 = .ok (.iconst 1, 1) := by decide +kernel
theorem dL_law_258 : decode cL_law 258 = .ok (.iadd, 1) := by decide +kernel
theorem dL_law_259 : decode cL_law 259 = .ok (.iaload, 1) := by decide +kernel
theorem dL_law_260 : decode cL_law 260 = .ok (.aload_n 0, 1) := by decide +kernel
theorem dL_law_261 : decode cL_law 261 = .ok (.iload_n 3, 1) := by decide +kernel
theorem dL_law_262 : decode cL_law 262 = .ok (.iconst 2, 1) := by decide +kernel
theorem dL_law_263 : decode cL_law 263 = .ok (.iadd, 1) := by decide +kernel
theorem dL_law_264 : decode cL_law 264 = .ok (.iaload, 1) := by decide +kernel
theorem dL_law_265 : decode cL_law 265 = .ok (.invokevirtual 23, 3) := by decide +kernel
theorem dL_law_268 : decode cL_law 268 = .ok (.aload_n 2, 1) := by decide +kernel
theorem dL_law_269 : decode cL_law 269 = .ok (.aload_n 0, 1) := by decide +kernel
theorem dL_law_270 : decode cL_law 270 = .ok (.iload_n 3, 1) := by decide +kernel
theorem dL_law_271 : decode cL_law 271 = .ok (.iconst 1, 1) := by decide +kernel
theorem dL_law_272 : decode cL_law 272 = .ok (.iadd, 1) := by decide +kernel
theorem dL_law_273 : decode cL_law 273 = .ok (.iaload, 1) := by decide +kernel
theorem dL_law_274 : decode cL_law 274 = .ok (.aload_n 0, 1) := by decide +kernel
theorem dL_law_275 : decode cL_law 275 = .ok (.iload_n 3, 1) := by decide +kernel
theorem dL_law_276 : decode cL_law 276 = .ok (.iconst 2, 1) := by decide +kernel
theorem dL_law_277 : decode cL_law 277 = .ok (.iadd, 1) := by decide +kernel
theorem dL_law_278 : decode cL_law 278 = .ok (.iaload, 1) := by decide +kernel
theorem dL_law_279 : decode cL_law 279 = .ok (.invokevirtual 26, 3) := by decide +kernel
theorem dL_law_282 : decode cL_law 282 = .ok (.if_icmp .eq 808, 3) := by decide +kernel
theorem dL_law_285 : decode cL_law 285 = .ok (.iconst 0, 1) := by decide +kernel
theorem dL_law_286 : decode cL_law 286 = .ok (.ireturn, 1) := by decide +kernel
theorem dL_law_287 : decode cL_law 287 = .ok (.aload_n 1, 1) := by decide +kernel
theorem dL_law_288 : decode cL_law 288 = .ok (.aload_n 0, 1) := by decide +kernel
theorem dL_law_289 : decode cL_law 289 = .ok (.iload_n 3, 1) := by decide +kernel
theorem dL_law_290 : decode cL_law 290 = .ok (.iconst 1, 1) := by decide +kernel
theorem dL_law_291 : decode cL_law 291 = .ok (.iadd, 1) := by decide +kernel
theorem dL_law_292 : decode cL_law 292 = .ok (.iaload, 1) := by decide +kernel
theorem dL_law_293 : decode cL_law 293 = .ok (.invokevirtual 27, 3) := by decide +kernel
theorem dL_law_296 : decode cL_law 296 = .ok (.aload_n 2, 1) := by decide +kernel
theorem dL_law_297 : decode cL_law 297 = .ok (.aload_n 0, 1) := by decide +kernel
theorem dL_law_298 : decode cL_law 298 = .ok (.iload_n 3, 1) := by decide +kernel
theorem dL_law_299 : decode cL_law 299 = .ok (.iconst 1, 1) := by decide +kernel
theorem dL_law_300 : decode cL_law 300 = .ok (.iadd, 1) := by decide +kernel
theorem dL_law_301 : decode cL_law 301 = .ok (.iaload, 1) := by decide +kernel
theorem dL_law_302 : decode cL_law 302 = .ok (.invokevirtual 31, 3) := by decide +kernel
theorem dL_law_305 : decode cL_law 305 = .ok (.if_icmp .eq 785, 3) := by decide +kernel
theorem dL_law_308 : decode cL_law 308 = .ok (.iconst 0, 1) := by decide +kernel
theorem dL_law_309 : decode cL_law 309 = .ok (.ireturn, 1) := by decide +kernel
theorem dL_law_310 : decode cL_law 310 = .ok (.aload_n 1, 1) := by decide +kernel
theorem dL_law_311 : decode cL_law 311 = .ok (.aload_n 0, 1) := by decide +kernel
theorem dL_law_312 : decode cL_law 312 = .ok (.iload_n 3, 1) := by decide +kernel
theorem dL_law_313 : decode cL_law 313 = .ok (.iconst 1, 1) := by decide +kernel
theorem dL_law_314 : decode cL_law 314 = .ok (.iadd, 1) := by decide +kernel
theorem dL_law_315 : decode cL_law 315 = .ok (.iaload, 1) := by decide +kernel
theorem dL_law_316 : decode cL_law 316 = .ok (.aload_n 0, 1) := by decide +kernel
theorem dL_law_317 : decode cL_law 317 = .ok (.iload_n 3, 1) := by decide +kernel
theorem dL_law_318 : decode cL_law 318 = .ok (.iconst 2, 1) := by decide +kernel
theorem dL_law_319 : decode cL_law 319 = .ok (.iadd, 1) := by decide +kernel
theorem dL_law_320 : decode cL_law 320 = .ok (.iaload, 1) := by decide +kernel
theorem dL_law_321 : decode cL_law 321 = .ok (.invokevirtual 32, 3) := by decide +kernel
theorem dL_law_324 : decode cL_law 324 = .ok (.aload_n 2, 1) := by decide +kernel
theorem dL_law_325 : decode cL_law 325 = .ok (.aload_n 0, 1) := by decide +kernel
theorem dL_law_326 : decode cL_law 326 = .ok (.iload_n 3, 1) := by decide +kernel
theorem dL_law_327 : decode cL_law 327 = .ok (.iconst 1, 1) := by decide +kernel
theorem dL_law_328 : decode cL_law 328 = .ok (.iadd, 1) := by decide +kernel
theorem dL_law_329 : decode cL_law 329 = .ok (.iaload, 1) := by decide +kernel
theorem dL_law_330 : decode cL_law 330 = .ok (.aload_n 0, 1) := by decide +kernel
theorem dL_law_331 : decode cL_law 331 = .ok (.iload_n 3, 1) := by decide +kernel
theorem dL_law_332 : decode cL_law 332 = .ok (.iconst 2, 1) := by decide +kernel
theorem dL_law_333 : decode cL_law 333 = .ok (.iadd, 1) := by decide +kernel
theorem dL_law_334 : decode cL_law 334 = .ok (.iaload, 1) := by decide +kernel
theorem dL_law_335 : decode cL_law 335 = .ok (.invokevirtual 35, 3) := by decide +kernel
theorem dL_law_338 : decode cL_law 338 = .ok (.if_icmp .eq 752, 3) := by decide +kernel
theorem dL_law_341 : decode cL_law 341 = .ok (.iconst 0, 1) := by decide +kernel
theorem dL_law_342 : decode cL_law 342 = .ok (.ireturn, 1) := by decide +kernel
theorem dL_law_343 : decode cL_law 343 = .ok (.aload_n 1, 1) := by decide +kernel
theorem dL_law_344 : decode cL_law 344 = .ok (.aload_n 0, 1) := by decide +kernel
theorem dL_law_345 : decode cL_law 345 = .ok (.iload_n 3, 1) := by decide +kernel
theorem dL_law_346 : decode cL_law 346 = .ok (.iconst 1, 1) := by decide +kernel
theorem dL_law_347 : decode cL_law 347 = .ok (.iadd, 1) := by decide +kernel
theorem dL_law_348 : decode cL_law 348 = .ok (.iaload, 1) := by decide +kernel
theorem dL_law_349 : decode cL_law 349 = .ok (.aload_n 0, 1) := by decide +kernel
theorem dL_law_350 : decode cL_law 350 = .ok (.iload_n 3, 1) := by decide +kernel
theorem dL_law_351 : decode cL_law 351 = .ok (.iconst 2, 1) := by decide +kernel
theorem dL_law_352 : decode cL_law 352 = .ok (.iadd, 1) := by decide +kernel
theorem dL_law_353 : decode cL_law 353 = .ok (.iaload, 1) := by decide +kernel
theorem dL_law_354 : decode cL_law 354 = .ok (.aload_n 0, 1) := by decide +kernel
theorem dL_law_355 : decode cL_law 355 = .ok (.iload_n 3, 1) := by decide +kernel
theorem dL_law_356 : decode cL_law 356 = .ok (.iconst 3, 1) := by decide +kernel
theorem dL_law_357 : decode cL_law 357 = .ok (.iadd, 1) := by decide +kernel
theorem dL_law_358 : decode cL_law 358 = .ok (.iaload, 1) := by decide +kernel
theorem dL_law_359 : decode cL_law 359 = .ok (.aload_n 0, 1) := by decide +kernel
theorem dL_law_360 : decode cL_law 360 = .ok (.iload_n 3, 1) := by decide +kernel
theorem dL_law_361 : decode cL_law 361 = .ok (.iconst 4, 1) := by decide +kernel
theorem dL_law_362 : decode cL_law 362 = .ok (.iadd, 1) := by decide +kernel
theorem dL_law_363 : decode cL_law 363 = .ok (.iaload, 1) := by decide +kernel
theorem dL_law_364 : decode cL_law 364 = .ok (.aload_n 0, 1) := by decide +kernel
theorem dL_law_365 : decode cL_law 365 = .ok (.iload_n 3, 1) := by decide +kernel
theorem dL_law_366 : decode cL_law 366 = .ok (.iconst 5, 1) := by decide +kernel
theorem dL_law_367 : decode cL_law 367 = .ok (.iadd, 1) := by decide +kernel
theorem dL_law_368 : decode cL_law 368 = .ok (.iaload, 1) := by decide +kernel
theorem dL_law_369 : decode cL_law 369 = .ok (.invokevirtual 36, 3) := by decide +kernel
theorem dL_law_372 : decode cL_law 372 = .ok (.aload_n 2, 1) := by decide +kernel
theorem dL_law_373 : decode cL_law 373 = .ok (.aload_n 0, 1) := by decide +kernel
theorem dL_law_374 : decode cL_law 374 = .ok (.iload_n 3, 1) := by decide +kernel
theorem dL_law_375 : decode cL_law 375 = .ok (.iconst 1, 1) := by decide +kernel
theorem dL_law_376 : decode cL_law 376 = .ok (.iadd, 1) := by decide +kernel
theorem dL_law_377 : decode cL_law 377 = .ok (.iaload, 1) := by decide +kernel
end
section
theorem dL_law_378 : decode cL_law 378 = .ok (.aload_n 0, 1) := by decide +kernel
theorem dL_law_379 : decode cL_law 379 = .ok (.iload_n 3, 1) := by decide +kernel
theorem dL_law_380 : decode cL_law 380 = .ok (.iconst 2, 1) := by decide +kernel
theorem dL_law_381 : decode cL_law 381 = .ok (.iadd, 1) := by decide +kernel
theorem dL_law_382 : decode cL_law 382 = .ok (.iaload, 1) := by decide +kernel
theorem dL_law_383 : decode cL_law 383 = .ok (.aload_n 0, 1) := by decide +kernel
theorem dL_law_384 : decode cL_law 384 = .ok (.iload_n 3, 1) := by decide +kernel
theorem dL_law_385 : decode cL_law 385 = .ok (.iconst 3, 1) := by decide +kernel
theorem dL_law_386 : decode cL_law 386 = .ok (.iadd, 1) := by decide +kernel
theorem dL_law_387 : decode cL_law 387 = .ok (.iaload, 1) := by decide +kernel
theorem dL_law_388 : decode cL_law 388 = .ok (.aload_n 0, 1) := by decide +kernel
theorem dL_law_389 : decode cL_law 389 = .ok (.iload_n 3, 1) := by decide +kernel
theorem dL_law_390 : decode cL_law 390 = .ok (.iconst 4, 1) := by decide +kernel
theorem dL_law_391 : decode cL_law 391 = .ok (.iadd, 1) := by decide +kernel
theorem dL_law_392 : decode cL_law 392 = .ok (.iaload, 1) := by decide +kernel
theorem dL_law_393 : decode cL_law 393 = .ok (.aload_n 0, 1) := by decide +kernel
theorem dL_law_394 : decode cL_law 394 = .ok (.iload_n 3, 1) := by decide +kernel
theorem dL_law_395 : decode cL_law 395 = .ok (.iconst 5, 1) := by decide +kernel
theorem dL_law_396 : decode cL_law 396 = .ok (.iadd, 1) := by decide +kernel
theorem dL_law_397 : decode cL_law 397 = .ok (.iaload, 1) := by decide +kernel
theorem dL_law_398 : decode cL_law 398 = .ok (.invokevirtual 40, 3) := by decide +kernel
theorem dL_law_401 : decode cL_law 401 = .ok (.if_icmp .eq 689, 3) := by decide +kernel
theorem dL_law_404 : decode cL_law 404 = .ok (.iconst 0, 1) := by decide +kernel
theorem dL_law_405 : decode cL_law 405 = .ok (.ireturn, 1) := by decide +kernel
theorem dL_law_406 : decode cL_law 406 = .ok (.aload_n 1, 1) := by decide +kernel
theorem dL_law_407 : decode cL_law 407 = .ok (.aload_n 0, 1) := by decide +kernel
theorem dL_law_408 : decode cL_law 408 = .ok (.iload_n 3, 1) := by decide +kernel
theorem dL_law_409 : decode cL_law 409 = .ok (.iconst 1, 1) := by decide +kernel
theorem dL_law_410 : decode cL_law 410 = .ok (.iadd, 1) := by decide +kernel
theorem dL_law_411 : decode cL_law 411 = .ok (.iaload, 1) := by decide +kernel
theorem dL_law_412 : decode cL_law 412 = .ok (.aload_n 0, 1) := by decide +kernel
theorem dL_law_413 : decode cL_law 413 = .ok (.iload_n 3, 1) := by decide +kernel
theorem dL_law_414 : decode cL_law 414 = .ok (.iconst 2, 1) := by decide +kernel
theorem dL_law_415 : decode cL_law 415 = .ok (.iadd, 1) := by decide +kernel
theorem dL_law_416 : decode cL_law 416 = .ok (.iaload, 1) := by decide +kernel
theorem dL_law_417 : decode cL_law 417 = .ok (.invokevirtual 41, 3) := by decide +kernel
theorem dL_law_420 : decode cL_law 420 = .ok (.aload_n 2, 1) := by decide +kernel
theorem dL_law_421 : decode cL_law 421 = .ok (.aload_n 0, 1) := by decide +kernel
theorem dL_law_422 : decode cL_law 422 = .ok (.iload_n 3, 1) := by decide +kernel
theorem dL_law_423 : decode cL_law 423 = .ok (.iconst 1, 1) := by decide +kernel
theorem dL_law_424 : decode cL_law 424 = .ok (.iadd, 1) := by decide +kernel
theorem dL_law_425 : decode cL_law 425 = .ok (.iaload, 1) := by decide +kernel
theorem dL_law_426 : decode cL_law 426 = .ok (.aload_n 0, 1) := by decide +kernel
theorem dL_law_427 : decode cL_law 427 = .ok (.iload_n 3, 1) := by decide +kernel
theorem dL_law_428 : decode cL_law 428 = .ok (.iconst 2, 1) := by decide +kernel
theorem dL_law_429 : decode cL_law 429 = .ok (.iadd, 1) := by decide +kernel
theorem dL_law_430 : decode cL_law 430 = .ok (.iaload, 1) := by decide +kernel
theorem dL_law_431 : decode cL_law 431 = .ok (.invokevirtual 44, 3) := by decide +kernel
theorem dL_law_434 : decode cL_law 434 = .ok (.if_icmp .eq 656, 3) := by decide +kernel
theorem dL_law_437 : decode cL_law 437 = .ok (.iconst 0, 1) := by decide +kernel
theorem dL_law_438 : decode cL_law 438 = .ok (.ireturn, 1) := by decide +kernel
theorem dL_law_439 : decode cL_law 439 = .ok (.aload_n 1, 1) := by decide +kernel
theorem dL_law_440 : decode cL_law 440 = .ok (.aload_n 0, 1) := by decide +kernel
theorem dL_law_441 : decode cL_law 441 = .ok (.iload_n 3, 1) := by decide +kernel
theorem dL_law_442 : decode cL_law 442 = .ok (.iconst 1, 1) := by decide +kernel
theorem dL_law_443 : decode cL_law 443 = .ok (.iadd, 1) := by decide +kernel
theorem dL_law_444 : decode cL_law 444 = .ok (.iaload, 1) := by decide +kernel
theorem dL_law_445 : decode cL_law 445 = .ok (.aload_n 0, 1) := by decide +kernel
theorem dL_law_446 : decode cL_law 446 = .ok (.iload_n 3, 1) := by decide +kernel
theorem dL_law_447 : decode cL_law 447 = .ok (.iconst 2, 1) := by decide +kernel
theorem dL_law_448 : decode cL_law 448 = .ok (.iadd, 1) := by decide +kernel
theorem dL_law_449 : decode cL_law 449 = .ok (.iaload, 1) := by decide +kernel
theorem dL_law_450 : decode cL_law 450 = .ok (.aload_n 0, 1) := by decide +kernel
theorem dL_law_451 : decode cL_law 451 = .ok (.iload_n 3, 1) := by decide +kernel
theorem dL_law_452 : decode cL_law 452 = .ok (.iconst 3, 1) := by decide +kernel
theorem dL_law_453 : decode cL_law 453 = .ok (.iadd, 1) := by decide +kernel
theorem dL_law_454 : decode cL_law 454 = .ok (.iaload, 1) := by decide +kernel
theorem dL_law_455 : decode cL_law 455 = .ok (.invokevirtual 45, 3) := by decide +kernel
theorem dL_law_458 : decode cL_law 458 = .ok (.aload_n 2, 1) := by decide +kernel
theorem dL_law_459 : decode cL_law 459 = .ok (.aload_n 0, 1) := by decide +kernel
theorem dL_law_460 : decode cL_law 460 = .ok (.iload_n 3, 1) := by decide +kernel
theorem dL_law_461 : decode cL_law 461 = .ok (.iconst 1, 1) := by decide +kernel
theorem dL_law_462 : decode cL_law 462 = .ok (.iadd, 1) := by decide +kernel
theorem dL_law_463 : decode cL_law 463 = .ok (.iaload, 1) := by decide +kernel
theorem dL_law_464 : decode cL_law 464 = .ok (.aload_n 0, 1) := by decide +kernel
theorem dL_law_465 : decode cL_law 465 = .ok (.iload_n 3, 1) := by decide +kernel
theorem dL_law_466 : decode cL_law 466 = .ok (.iconst 2, 1) := by decide +kernel
theorem dL_law_467 : decode cL_law 467 = .ok (.iadd, 1) := by decide +kernel
theorem dL_law_468 : decode cL_law 468 = .ok (.iaload, 1) := by decide +kernel
theorem dL_law_469 : decode cL_law 469 = .ok (.aload_n 0, 1) := by decide +kernel
theorem dL_law_470 : decode cL_law 470 = .ok (.iload_n 3, 1) := by decide +kernel
theorem dL_law_471 : decode cL_law 471 = .ok (.iconst 3, 1) := by decide +kernel
theorem dL_law_472 : decode cL_law 472 = .ok (.iadd, 1) := by decide +kernel
theorem dL_law_473 : decode cL_law 473 = .ok (.iaload, 1) := by decide +kernel
theorem dL_law_474 : decode cL_law 474 = .ok (.invokevirtual 49, 3) := by decide +kernel
theorem dL_law_477 : decode cL_law 477 = .ok (.if_icmp .eq 613, 3) := by decide +kernel
theorem dL_law_480 : decode cL_law 480 = .ok (.iconst 0, 1) := by decide +kernel
theorem dL_law_481 : decode cL_law 481 = .ok (.ireturn, 1) := by decide +kernel
theorem dL_law_482 : decode cL_law 482 = .ok (.aload_n 1, 1) := by decide +kernel
theorem dL_law_483 : decode cL_law 483 = .ok (.aload_n 0, 1) := by decide +kernel
theorem dL_law_484 : decode cL_law 484 = .ok (.iload_n 3, 1) := by decide +kernel
theorem dL_law_485 : decode cL_law 485 = .ok (.iconst 1, 1) := by decide +kernel
theorem dL_law_486 : decode cL_law 486 = .ok (.iadd, 1) := by decide +kernel
theorem dL_law_487 : decode cL_law 487 = .ok (.iaload, 1) := by decide +kernel
theorem dL_law_488 : decode cL_law 488 = .ok (.invokevirtual 50, 3) := by decide +kernel
theorem dL_law_491 : decode cL_law 491 = .ok (.aload_n 2, 1) := by decide +kernel
theorem dL_law_492 : decode cL_law 492 = .ok (.aload_n 0, 1) := by decide +kernel
theorem dL_law_493 : decode cL_law 493 = .ok (.iload_n 3, 1) := by decide +kernel
theorem dL_law_494 : decode cL_law 494 = .ok (.iconst 1, 1) := by decide +kernel
theorem dL_law_495 : decode cL_law 495 = .ok (.iadd, 1) := by decide +kernel
theorem dL_law_496 : decode cL_law 496 = .ok (.iaload, 1) := by decide +kernel
theorem dL_law_497 : decode cL_law 497 = .ok (.invokevirtual 53, 3) := by decide +kernel
theorem dL_law_500 : decode cL_law 500 = .ok (.if_icmp .eq 590, 3) := by decide +kernel
theorem dL_law_503 : decode cL_law 503 = .ok (.iconst 0, 1) := by decide +kernel
theorem dL_law_504 : decode cL_law 504 = .ok (.ireturn, 1) := by decide +kernel
theorem dL_law_505 : decode cL_law 505 = .ok (.aload_n 1, 1) := by decide +kernel
theorem dL_law_506 : decode cL_law 506 = .ok (.invokevirtual 54, 3) := by decide +kernel
theorem dL_law_509 : decode cL_law 509 = .ok (.aload_n 2, 1) := by decide +kernel
theorem dL_law_510 : decode cL_law 510 = .ok (.invokevirtual 58, 3) := by decide +kernel
theorem dL_law_513 : decode cL_law 513 = .ok (.if_icmp .eq 577, 3) := by decide +kernel
theorem dL_law_516 : decode cL_law 516 = .ok (.iconst 0, 1) := by decide +kernel
theorem dL_law_517 : decode cL_law 517 = .ok (.ireturn, 1) := by decide +kernel
theorem dL_law_518 : decode cL_law 518 = .ok (.aload_n 1, 1) := by decide +kernel
theorem dL_law_519 : decode cL_law 519 = .ok (.invokevirtual 59, 3) := by decide +kernel
theorem dL_law_522 : decode cL_law 522 = .ok (.aload_n 2, 1) := by decide +kernel
theorem dL_law_523 : decode cL_law 523 = .ok (.invokevirtual 62, 3) := by decide +kernel
theorem dL_law_526 : decode cL_law 526 = .ok (.if_icmp .eq 564, 3) := by decide +kernel
theorem dL_law_529 : decode cL_law 529 = .ok (.iconst 0, 1) := by decide +kernel
theorem dL_law_530 : decode cL_law 530 = .ok (.ireturn, 1) := by decide +kernel
theorem dL_law_531 : decode cL_law 531 = .ok (.aload_n 1, 1) := by decide +kernel
theorem dL_law_532 : decode cL_law 532 = .ok (.invokevirtual 63, 3) := by decide +kernel
theorem dL_law_535 : decode cL_law 535 = .ok (.aload_n 2, 1) := by decide +kernel
theorem dL_law_536 : decode cL_law 536 = .ok (.invokevirtual 66, 3) := by decide +kernel
theorem dL_law_539 : decode cL_law 539 = .ok (.if_icmp .eq 551, 3) := by decide +kernel
theorem dL_law_542 : decode cL_law 542 = .ok (.iconst 0, 1) := by decide +kernel
theorem dL_law_543 : decode cL_law 543 = .ok (.ireturn, 1) := by decide +kernel
theorem dL_law_544 : decode cL_law 544 = .ok (.aload_n 1, 1) := by decide +kernel
theorem dL_law_545 : decode cL_law 545 = .ok (.aload_n 0, 1) := by decide +kernel
theorem dL_law_546 : decode cL_law 546 = .ok (.iload_n 3, 1) := by decide +kernel
theorem dL_law_547 : decode cL_law 547 = .ok (.iconst 1, 1) := by decide +kernel
theorem dL_law_548 : decode cL_law 548 = .ok (.iadd, 1) := by decide +kernel
theorem dL_law_549 : decode cL_law 549 = .ok (.iaload, 1) := by decide +kernel
theorem dL_law_550 : decode cL_law 550 = .ok (.invokevirtual 67, 3) := by decide +kernel
theorem dL_law_553 : decode cL_law 553 = .ok (.aload_n 2, 1) := by decide +kernel
theorem dL_law_554 : decode cL_law 554 = .ok (.aload_n 0, 1) := by decide +kernel
theorem dL_law_555 : decode cL_law 555 = .ok (.iload_n 3, 1) := by decide +kernel
theorem dL_law_556 : decode cL_law 556 = .ok (.iconst 1, 1) := by decide +kernel
theorem dL_law_557 : decode cL_law 557 = .ok (.iadd, 1) := by decide +kernel
theorem dL_law_558 : decode cL_law 558 = .ok (.iaload, 1) := by decide +kernel
theorem dL_law_559 : decode cL_law 559 = .ok (.invokevirtual 70, 3) := by decide +kernel
theorem dL_law_562 : decode cL_law 562 = .ok (.if_icmp .eq 528, 3) := by decide +kernel
theorem dL_law_565 : decode cL_law 565 = .ok (.iconst 0, 1) := by decide +kernel
theorem dL_law_566 : decode cL_law 566 = .ok (.ireturn, 1) := by decide +kernel
theorem dL_law_567 : decode cL_law 567 = .ok (.aload_n 1, 1) := by decide +kernel
theorem dL_law_568 : decode cL_law 568 = .ok (.aload_n 0, 1) := by decide +kernel
theorem dL_law_569 : decode cL_law 569 = .ok (.iload_n 3, 1) := by decide +kernel
theorem dL_law_570 : decode cL_law 570 = .ok (.iconst 1, 1) := by decide +kernel
theorem dL_law_571 : decode cL_law 571 = .ok (.iadd, 1) := by decide +kernel
theorem dL_law_572 : decode cL_law 572 = .ok (.iaload, 1) := by decide +kernel
theorem dL_law_573 : decode cL_law 573 = .ok (.aload_n 0, 1) := by decide +kernel
theorem dL_law_574 : decode cL_law 574 = .ok (.iload_n 3, 1) := by decide +kernel
theorem dL_law_575 : decode cL_law 575 = .ok (.iconst 2, 1) := by decide +kernel
theorem dL_law_576 : decode cL_law 576 = .ok (.iadd, 1) := by decide +kernel
theorem dL_law_577 : decode cL_law 577 = .ok (.iaload, 1) := by decide +kernel
theorem dL_law_578 : decode cL_law 578 = .ok (.invokevirtual 71, 3) := by decide +kernel
theorem dL_law_581 : decode cL_law 581 = .ok (.aload_n 2, 1) := by decide +kernel
theorem dL_law_582 : decode cL_law 582 = .ok (.aload_n 0, 1) := by decide +kernel
theorem dL_law_583 : decode cL_law 583 = .ok (.iload_n 3, 1) := by decide +kernel
theorem dL_law_584 : decode cL_law 584 = .ok (.iconst 1, 1) := by decide +kernel
theorem dL_law_585 : decode cL_law 585 = .ok (.iadd, 1) := by decide +kernel
theorem dL_law_586 : decode cL_law 586 = .ok (.iaload, 1) := by decide +kernel
theorem dL_law_587 : decode cL_law 587 = .ok (.aload_n 0, 1) := by decide +kernel
theorem dL_law_588 : decode cL_law 588 = .ok (.iload_n 3, 1) := by decide +kernel
theorem dL_law_589 : decode cL_law 589 = .ok (.iconst 2, 1) := by decide +kernel
theorem dL_law_590 : decode cL_law 590 = .ok (.iadd, 1) := by decide +kernel
theorem dL_law_591 : decode cL_law 591 = .ok (.iaload, 1) := by decide +kernel
theorem dL_law_592 : decode cL_law 592 = .ok (.invokevirtual 74, 3) := by decide +kernel
theorem dL_law_595 : decode cL_law 595 = .ok (.if_icmp .eq 495, 3) := by decide +kernel
theorem dL_law_598 : decode cL_law 598 = .ok (.iconst 0, 1) := by decide +kernel
theorem dL_law_599 : decode cL_law 599 = .ok (.ireturn, 1) := by decide +kernel
theorem dL_law_600 : decode cL_law 600 = .ok (.aload_n 1, 1) := by decide +kernel
theorem dL_law_601 : decode cL_law 601 = .ok (.aload_n 0, 1) := by decide +kernel
theorem dL_law_602 : decode cL_law 602 = .ok (.iload_n 3, 1) := by decide +kernel
theorem dL_law_603 : decode cL_law 603 = .ok (.iconst 1, 1) := by decide +kernel
theorem dL_law_604 : decode cL_law 604 = .ok (.iadd, 1) := by decide +kernel
theorem dL_law_605 : decode cL_law 605 = .ok (.iaload, 1) := by decide +kernel
theorem dL_law_606 : decode cL_law 606 = .ok (.aload_n 0, 1) := by decide +kernel
theorem dL_law_607 : decode cL_law 607 = .ok (.iload_n 3, 1) := by decide +kernel
theorem dL_law_608 : decode cL_law 608 = .ok (.iconst 2, 1) := by decide +kernel
theorem dL_law_609 : decode cL_law 609 = .ok (.iadd, 1) := by decide +kernel
theorem dL_law_610 : decode cL_law 610 = .ok (.iaload, 1) := by decide +kernel
theorem dL_law_611 : decode cL_law 611 = .ok (.aload_n 0, 1) := by decide +kernel
theorem dL_law_612 : decode cL_law 612 = .ok (.iload_n 3, 1) := by decide +kernel
theorem dL_law_613 : decode cL_law 613 = .ok (.iconst 3, 1) := by decide +kernel
theorem dL_law_614 : decode cL_law 614 = .ok (.iadd, 1) := by decide +kernel
theorem dL_law_615 : decode cL_law 615 = .ok (.iaload, 1) := by decide +kernel
theorem dL_law_616 : decode cL_law 616 = .ok (.invokevirtual 75, 3) := by decide +kernel
theorem dL_law_619 : decode cL_law 619 = .ok (.aload_n 2, 1) := by decide +kernel
theorem dL_law_620 : decode cL_law 620 = .ok (.aload_n 0, 1) := by decide +kernel
theorem dL_law_621 : decode cL_law 621 = .ok (.iload_n 3, 1) := by decide +kernel
theorem dL_law_622 : decode cL_law 622 = .ok (.iconst 1, 1) := by decide +kernel
theorem dL_law_623 : decode cL_law 623 = .ok (.iadd, 1) := by decide +kernel
theorem dL_law_624 : decode cL_law 624 = .ok (.iaload, 1) := by decide +kernel
theorem dL_law_625 : decode cL_law 625 = .ok (.aload_n 0, 1) := by decide +kernel
theorem dL_law_626 : decode cL_law 626 = .ok (.iload_n 3, 1) := by decide +kernel
theorem dL_law_627 : decode cL_law 627 = .ok (.iconst 2, 1) := by decide +kernel
theorem dL_law_628 : decode cL_law 628 = .ok (.iadd, 1) := by decide +kernel
theorem dL_law_629 : decode cL_law 629 = .ok (.iaload, 1) := by decide +kernel
theorem dL_law_630 : decode cL_law 630 = .ok (.aload_n 0, 1) := by decide +kernel
theorem dL_law_631 : decode cL_law 631 = .ok (.iload_n 3, 1) := by decide +kernel
end
section
theorem dL_law_632 : decode cL_law 632 = .ok (.iconst 3, 1) := by decide +kernel
theorem dL_law_633 : decode cL_law 633 = .ok (.iadd, 1) := by decide +kernel
theorem dL_law_634 : decode cL_law 634 = .ok (.iaload, 1) := by decide +kernel
theorem dL_law_635 : decode cL_law 635 = .ok (.invokevirtual 78, 3) := by decide +kernel
theorem dL_law_638 : decode cL_law 638 = .ok (.if_icmp .eq 452, 3) := by decide +kernel
theorem dL_law_641 : decode cL_law 641 = .ok (.iconst 0, 1) := by decide +kernel
theorem dL_law_642 : decode cL_law 642 = .ok (.ireturn, 1) := by decide +kernel
theorem dL_law_643 : decode cL_law 643 = .ok (.aload_n 1, 1) := by decide +kernel
theorem dL_law_644 : decode cL_law 644 = .ok (.aload_n 0, 1) := by decide +kernel
theorem dL_law_645 : decode cL_law 645 = .ok (.iload_n 3, 1) := by decide +kernel
theorem dL_law_646 : decode cL_law 646 = .ok (.iconst 1, 1) := by decide +kernel
theorem dL_law_647 : decode cL_law 647 = .ok (.iadd, 1) := by decide +kernel
theorem dL_law_648 : decode cL_law 648 = .ok (.iaload, 1) := by decide +kernel
theorem dL_law_649 : decode cL_law 649 = .ok (.invokevirtual 79, 3) := by decide +kernel
theorem dL_law_652 : decode cL_law 652 = .ok (.aload_n 2, 1) := by decide +kernel
theorem dL_law_653 : decode cL_law 653 = .ok (.aload_n 0, 1) := by decide +kernel
theorem dL_law_654 : decode cL_law 654 = .ok (.iload_n 3, 1) := by decide +kernel
theorem dL_law_655 : decode cL_law 655 = .ok (.iconst 1, 1) := by decide +kernel
theorem dL_law_656 : decode cL_law 656 = .ok (.iadd, 1) := by decide +kernel
theorem dL_law_657 : decode cL_law 657 = .ok (.iaload, 1) := by decide +kernel
theorem dL_law_658 : decode cL_law 658 = .ok (.invokevirtual 82, 3) := by decide +kernel
theorem dL_law_661 : decode cL_law 661 = .ok (.if_icmp .eq 429, 3) := by decide +kernel
theorem dL_law_664 : decode cL_law 664 = .ok (.iconst 0, 1) := by decide +kernel
theorem dL_law_665 : decode cL_law 665 = .ok (.ireturn, 1) := by decide +kernel
theorem dL_law_666 : decode cL_law 666 = .ok (.aload_n 1, 1) := by decide +kernel
theorem dL_law_667 : decode cL_law 667 = .ok (.aload_n 0, 1) := by decide +kernel
theorem dL_law_668 : decode cL_law 668 = .ok (.iload_n 3, 1) := by decide +kernel
theorem dL_law_669 : decode cL_law 669 = .ok (.iconst 1, 1) := by decide +kernel
theorem dL_law_670 : decode cL_law 670 = .ok (.iadd, 1) := by decide +kernel
theorem dL_law_671 : decode cL_law 671 = .ok (.iaload, 1) := by decide +kernel
theorem dL_law_672 : decode cL_law 672 = .ok (.invokevirtual 83, 3) := by decide +kernel
theorem dL_law_675 : decode cL_law 675 = .ok (.aload_n 2, 1) := by decide +kernel
theorem dL_law_676 : decode cL_law 676 = .ok (.aload_n 0, 1) := by decide +kernel
theorem dL_law_677 : decode cL_law 677 = .ok (.iload_n 3, 1) := by decide +kernel
theorem dL_law_678 : decode cL_law 678 = .ok (.iconst 1, 1) := by decide +kernel
theorem dL_law_679 : decode cL_law 679 = .ok (.iadd, 1) := by decide +kernel
theorem dL_law_680 : decode cL_law 680 = .ok (.iaload, 1) := by decide +kernel
theorem dL_law_681 : decode cL_law 681 = .ok (.invokevirtual 86, 3) := by decide +kernel
theorem dL_law_684 : decode cL_law 684 = .ok (.if_icmp .eq 406, 3) := by decide +kernel
theorem dL_law_687 : decode cL_law 687 = .ok (.iconst 0, 1) := by decide +kernel
theorem dL_law_688 : decode cL_law 688 = .ok (.ireturn, 1) := by decide +kernel
theorem dL_law_689 : decode cL_law 689 = .ok (.aload_n 1, 1) := by decide +kernel
theorem dL_law_690 : decode cL_law 690 = .ok (.aload_n 0, 1) := by decide +kernel
theorem dL_law_691 : decode cL_law 691 = .ok (.iload_n 3, 1) := by decide +kernel
theorem dL_law_692 : decode cL_law 692 = .ok (.iconst 1, 1) := by decide +kernel
theorem dL_law_693 : decode cL_law 693 = .ok (.iadd, 1) := by decide +kernel
theorem dL_law_694 : decode cL_law 694 = .ok (.iaload, 1) := by decide +kernel
theorem dL_law_695 : decode cL_law 695 = .ok (.invokevirtual 87, 3) := by decide +kernel
theorem dL_law_698 : decode cL_law 698 = .ok (.aload_n 2, 1) := by decide +kernel
theorem dL_law_699 : decode cL_law 699 = .ok (.aload_n 0, 1) := by decide +kernel
theorem dL_law_700 : decode cL_law 700 = .ok (.iload_n 3, 1) := by decide +kernel
theorem dL_law_701 : decode cL_law 701 = .ok (.iconst 1, 1) := by decide +kernel
theorem dL_law_702 : decode cL_law 702 = .ok (.iadd, 1) := by decide +kernel
theorem dL_law_703 : decode cL_law 703 = .ok (.iaload, 1) := by decide +kernel
theorem dL_law_704 : decode cL_law 704 = .ok (.invokevirtual 90, 3) := by decide +kernel
theorem dL_law_707 : decode cL_law 707 = .ok (.if_icmp .eq 383, 3) := by decide +kernel
theorem dL_law_710 : decode cL_law 710 = .ok (.iconst 0, 1) := by decide +kernel
theorem dL_law_711 : decode cL_law 711 = .ok (.ireturn, 1) := by decide +kernel
theorem dL_law_712 : decode cL_law 712 = .ok (.aload_n 1, 1) := by decide +kernel
theorem dL_law_713 : decode cL_law 713 = .ok (.aload_n 0, 1) := by decide +kernel
theorem dL_law_714 : decode cL_law 714 = .ok (.iload_n 3, 1) := by decide +kernel
theorem dL_law_715 : decode cL_law 715 = .ok (.iconst 1, 1) := by decide +kernel
theorem dL_law_716 : decode cL_law 716 = .ok (.iadd, 1) := by decide +kernel
theorem dL_law_717 : decode cL_law 717 = .ok (.iaload, 1) := by decide +kernel
theorem dL_law_718 : decode cL_law 718 = .ok (.aload_n 0, 1) := by decide +kernel
theorem dL_law_719 : decode cL_law 719 = .ok (.iload_n 3, 1) := by decide +kernel
theorem dL_law_720 : decode cL_law 720 = .ok (.iconst 2, 1) := by decide +kernel
theorem dL_law_721 : decode cL_law 721 = .ok (.iadd, 1) := by decide +kernel
theorem dL_law_722 : decode cL_law 722 = .ok (.iaload, 1) := by decide +kernel
theorem dL_law_723 : decode cL_law 723 = .ok (.invokevirtual 91, 3) := by decide +kernel
theorem dL_law_726 : decode cL_law 726 = .ok (.aload_n 2, 1) := by decide +kernel
theorem dL_law_727 : decode cL_law 727 = .ok (.aload_n 0, 1) := by decide +kernel
theorem dL_law_728 : decode cL_law 728 = .ok (.iload_n 3, 1) := by decide +kernel
theorem dL_law_729 : decode cL_law 729 = .ok (.iconst 1, 1) := by decide +kernel
theorem dL_law_730 : decode cL_law 730 = .ok (.iadd, 1) := by decide +kernel
theorem dL_law_731 : decode cL_law 731 = .ok (.iaload, 1) := by decide +kernel
theorem dL_law_732 : decode cL_law 732 = .ok (.aload_n 0, 1) := by decide +kernel
theorem dL_law_733 : decode cL_law 733 = .ok (.iload_n 3, 1) := by decide +kernel
theorem dL_law_734 : decode cL_law 734 = .ok (.iconst 2, 1) := by decide +kernel
theorem dL_law_735 : decode cL_law 735 = .ok (.iadd, 1) := by decide +kernel
theorem dL_law_736 : decode cL_law 736 = .ok (.iaload, 1) := by decide +kernel
theorem dL_law_737 : decode cL_law 737 = .ok (.invokevirtual 95, 3) := by decide +kernel
theorem dL_law_740 : decode cL_law 740 = .ok (.lcmp, 1) := by decide +kernel
theorem dL_law_741 : decode cL_law 741 = .ok (.ifCond .eq 349, 3) := by decide +kernel
theorem dL_law_744 : decode cL_law 744 = .ok (.iconst 0, 1) := by decide +kernel
theorem dL_law_745 : decode cL_law 745 = .ok (.ireturn, 1) := by decide +kernel
theorem dL_law_746 : decode cL_law 746 = .ok (.aload_n 1, 1) := by decide +kernel
theorem dL_law_747 : decode cL_law 747 = .ok (.aload_n 0, 1) := by decide +kernel
theorem dL_law_748 : decode cL_law 748 = .ok (.iload_n 3, 1) := by decide +kernel
theorem dL_law_749 : decode cL_law 749 = .ok (.iconst 1, 1) := by decide +kernel
theorem dL_law_750 : decode cL_law 750 = .ok (.iadd, 1) := by decide +kernel
theorem dL_law_751 : decode cL_law 751 = .ok (.iaload, 1) := by decide +kernel
theorem dL_law_752 : decode cL_law 752 = .ok (.aload_n 0, 1) := by decide +kernel
theorem dL_law_753 : decode cL_law 753 = .ok (.iload_n 3, 1) := by decide +kernel
theorem dL_law_754 : decode cL_law 754 = .ok (.iconst 2, 1) := by decide +kernel
theorem dL_law_755 : decode cL_law 755 = .ok (.iadd, 1) := by decide +kernel
theorem dL_law_756 : decode cL_law 756 = .ok (.iaload, 1) := by decide +kernel
theorem dL_law_757 : decode cL_law 757 = .ok (.aload_n 0, 1) := by decide +kernel
theorem dL_law_758 : decode cL_law 758 = .ok (.iload_n 3, 1) := by decide +kernel
theorem dL_law_759 : decode cL_law 759 = .ok (.iconst 3, 1) := by decide +kernel
theorem dL_law_760 : decode cL_law 760 = .ok (.iadd, 1) := by decide +kernel
theorem dL_law_761 : decode cL_law 761 = .ok (.iaload, 1) := by decide +kernel
theorem dL_law_762 : decode cL_law 762 = .ok (.invokevirtual 96, 3) := by decide +kernel
theorem dL_law_765 : decode cL_law 765 = .ok (.aload_n 2, 1) := by decide +kernel
theorem dL_law_766 : decode cL_law 766 = .ok (.aload_n 0, 1) := by decide +kernel
theorem dL_law_767 : decode cL_law 767 = .ok (.iload_n 3, 1) := by decide +kernel
theorem dL_law_768 : decode cL_law 768 = .ok (.iconst 1, 1) := by decide +kernel
theorem dL_law_769 : decode cL_law 769 = .ok (.iadd, 1) := by decide +kernel
theorem dL_law_770 : decode cL_law 770 = .ok (.iaload, 1) := by decide +kernel
theorem dL_law_771 : decode cL_law 771 = .ok (.aload_n 0, 1) := by decide +kernel
theorem dL_law_772 : decode cL_law 772 = .ok (.iload_n 3, 1) := by decide +kernel
theorem dL_law_773 : decode cL_law 773 = .ok (.iconst 2, 1) := by decide +kernel
theorem dL_law_774 : decode cL_law 774 = .ok (.iadd, 1) := by decide +kernel
theorem dL_law_775 : decode cL_law 775 = .ok (.iaload, 1) := by decide +kernel
theorem dL_law_776 : decode cL_law 776 = .ok (.aload_n 0, 1) := by decide +kernel
theorem dL_law_777 : decode cL_law 777 = .ok (.iload_n 3, 1) := by decide +kernel
theorem dL_law_778 : decode cL_law 778 = .ok (.iconst 3, 1) := by decide +kernel
theorem dL_law_779 : decode cL_law 779 = .ok (.iadd, 1) := by decide +kernel
theorem dL_law_780 : decode cL_law 780 = .ok (.iaload, 1) := by decide +kernel
theorem dL_law_781 : decode cL_law 781 = .ok (.invokevirtual 99, 3) := by decide +kernel
theorem dL_law_784 : decode cL_law 784 = .ok (.if_icmp .eq 306, 3) := by decide +kernel
theorem dL_law_787 : decode cL_law 787 = .ok (.iconst 0, 1) := by decide +kernel
theorem dL_law_788 : decode cL_law 788 = .ok (.ireturn, 1) := by decide +kernel
theorem dL_law_789 : decode cL_law 789 = .ok (.aload_n 1, 1) := by decide +kernel
theorem dL_law_790 : decode cL_law 790 = .ok (.aload_n 0, 1) := by decide +kernel
theorem dL_law_791 : decode cL_law 791 = .ok (.iload_n 3, 1) := by decide +kernel
theorem dL_law_792 : decode cL_law 792 = .ok (.iconst 1, 1) := by decide +kernel
theorem dL_law_793 : decode cL_law 793 = .ok (.iadd, 1) := by decide +kernel
theorem dL_law_794 : decode cL_law 794 = .ok (.iaload, 1) := by decide +kernel
theorem dL_law_795 : decode cL_law 795 = .ok (.invokevirtual 100, 3) := by decide +kernel
theorem dL_law_798 : decode cL_law 798 = .ok (.aload_n 2, 1) := by decide +kernel
theorem dL_law_799 : decode cL_law 799 = .ok (.aload_n 0, 1) := by decide +kernel
theorem dL_law_800 : decode cL_law 800 = .ok (.iload_n 3, 1) := by decide +kernel
theorem dL_law_801 : decode cL_law 801 = .ok (.iconst 1, 1) := by decide +kernel
theorem dL_law_802 : decode cL_law 802 = .ok (.iadd, 1) := by decide +kernel
theorem dL_law_803 : decode cL_law 803 = .ok (.iaload, 1) := by decide +kernel
theorem dL_law_804 : decode cL_law 804 = .ok (.invokevirtual 103, 3) := by decide +kernel
theorem dL_law_807 : decode cL_law 807 = .ok (.if_icmp .eq 283, 3) := by decide +kernel
theorem dL_law_810 : decode cL_law 810 = .ok (.iconst 0, 1) := by decide +kernel
theorem dL_law_811 : decode cL_law 811 = .ok (.ireturn, 1) := by decide +kernel
theorem dL_law_812 : decode cL_law 812 = .ok (.aload_n 1, 1) := by decide +kernel
theorem dL_law_813 : decode cL_law 813 = .ok (.aload_n 0, 1) := by decide +kernel
theorem dL_law_814 : decode cL_law 814 = .ok (.iload_n 3, 1) := by decide +kernel
theorem dL_law_815 : decode cL_law 815 = .ok (.iconst 1, 1) := by decide +kernel
theorem dL_law_816 : decode cL_law 816 = .ok (.iadd, 1) := by decide +kernel
theorem dL_law_817 : decode cL_law 817 = .ok (.iaload, 1) := by decide +kernel
theorem dL_law_818 : decode cL_law 818 = .ok (.aload_n 0, 1) := by decide +kernel
theorem dL_law_819 : decode cL_law 819 = .ok (.iload_n 3, 1) := by decide +kernel
theorem dL_law_820 : decode cL_law 820 = .ok (.iconst 2, 1) := by decide +kernel
theorem dL_law_821 : decode cL_law 821 = .ok (.iadd, 1) := by decide +kernel
theorem dL_law_822 : decode cL_law 822 = .ok (.iaload, 1) := by decide +kernel
theorem dL_law_823 : decode cL_law 823 = .ok (.aload_n 0, 1) := by decide +kernel
theorem dL_law_824 : decode cL_law 824 = .ok (.iload_n 3, 1) := by decide +kernel
theorem dL_law_825 : decode cL_law 825 = .ok (.iconst 3, 1) := by decide +kernel
theorem dL_law_826 : decode cL_law 826 = .ok (.iadd, 1) := by decide +kernel
theorem dL_law_827 : decode cL_law 827 = .ok (.iaload, 1) := by decide +kernel
theorem dL_law_828 : decode cL_law 828 = .ok (.invokevirtual 104, 3) := by decide +kernel
theorem dL_law_831 : decode cL_law 831 = .ok (.aload_n 2, 1) := by decide +kernel
theorem dL_law_832 : decode cL_law 832 = .ok (.aload_n 0, 1) := by decide +kernel
theorem dL_law_833 : decode cL_law 833 = .ok (.iload_n 3, 1) := by decide +kernel
theorem dL_law_834 : decode cL_law 834 = .ok (.iconst 1, 1) := by decide +kernel
theorem dL_law_835 : decode cL_law 835 = .ok (.iadd, 1) := by decide +kernel
theorem dL_law_836 : decode cL_law 836 = .ok (.iaload, 1) := by decide +kernel
theorem dL_law_837 : decode cL_law 837 = .ok (.aload_n 0, 1) := by decide +kernel
theorem dL_law_838 : decode cL_law 838 = .ok (.iload_n 3, 1) := by decide +kernel
theorem dL_law_839 : decode cL_law 839 = .ok (.iconst 2, 1) := by decide +kernel
theorem dL_law_840 : decode cL_law 840 = .ok (.iadd, 1) := by decide +kernel
theorem dL_law_841 : decode cL_law 841 = .ok (.iaload, 1) := by decide +kernel
theorem dL_law_842 : decode cL_law 842 = .ok (.aload_n 0, 1) := by decide +kernel
theorem dL_law_843 : decode cL_law 843 = .ok (.iload_n 3, 1) := by decide +kernel
theorem dL_law_844 : decode cL_law 844 = .ok (.iconst 3, 1) := by decide +kernel
theorem dL_law_845 : decode cL_law 845 = .ok (.iadd, 1) := by decide +kernel
theorem dL_law_846 : decode cL_law 846 = .ok (.iaload, 1) := by decide +kernel
theorem dL_law_847 : decode cL_law 847 = .ok (.invokevirtual 107, 3) := by decide +kernel
theorem dL_law_850 : decode cL_law 850 = .ok (.if_icmp .eq 240, 3) := by decide +kernel
theorem dL_law_853 : decode cL_law 853 = .ok (.iconst 0, 1) := by decide +kernel
theorem dL_law_854 : decode cL_law 854 = .ok (.ireturn, 1) := by decide +kernel
theorem dL_law_855 : decode cL_law 855 = .ok (.aload_n 1, 1) := by decide +kernel
theorem dL_law_856 : decode cL_law 856 = .ok (.aload_n 0, 1) := by decide +kernel
theorem dL_law_857 : decode cL_law 857 = .ok (.iload_n 3, 1) := by decide +kernel
theorem dL_law_858 : decode cL_law 858 = .ok (.iconst 1, 1) := by decide +kernel
theorem dL_law_859 : decode cL_law 859 = .ok (.iadd, 1) := by decide +kernel
theorem dL_law_860 : decode cL_law 860 = .ok (.iaload, 1) := by decide +kernel
theorem dL_law_861 : decode cL_law 861 = .ok (.aload_n 0, 1) := by decide +kernel
theorem dL_law_862 : decode cL_law 862 = .ok (.iload_n 3, 1) := by decide +kernel
theorem dL_law_863 : decode cL_law 863 = .ok (.iconst 2, 1) := by decide +kernel
theorem dL_law_864 : decode cL_law 864 = .ok (.iadd, 1) := by decide +kernel
theorem dL_law_865 : decode cL_law 865 = .ok (.iaload, 1) := by decide +kernel
theorem dL_law_866 : decode cL_law 866 = .ok (.aload_n 0, 1) := by decide +kernel
theorem dL_law_867 : decode cL_law 867 = .ok (.iload_n 3, 1) := by decide +kernel
theorem dL_law_868 : decode cL_law 868 = .ok (.iconst 3, 1) := by decide +kernel
theorem dL_law_869 : decode cL_law 869 = .ok (.iadd, 1) := by decide +kernel
theorem dL_law_870 : decode cL_law 870 = .ok (.iaload, 1) := by decide +kernel
theorem dL_law_871 : decode cL_law 871 = .ok (.invokevirtual 108, 3) := by decide +kernel
theorem dL_law_874 : decode cL_law 874 = .ok (.aload_n 2, 1) := by decide +kernel
theorem dL_law_875 : decode cL_law 875 = .ok (.aload_n 0, 1) := by decide +kernel
theorem dL_law_876 : decode cL_law 876 = .ok (.iload_n 3, 1) := by decide +kernel
theorem dL_law_877 : decode cL_law 877 = .ok (.iconst 1, 1) := by decide +kernel
theorem dL_law_878 : decode cL_law 878 = .ok (.iadd, 1) := by decide +kernel
theorem dL_law_879 : decode cL_law 879 = .ok (.iaload, 1) := by decide +kernel
end
section
theorem dL_law_880 : decode cL_law 880 = .ok (.aload_n 0, 1) := by decide +kernel
theorem dL_law_881 : decode cL_law 881 = .ok (.iload_n 3, 1) := by decide +kernel
theorem dL_law_882 : decode cL_law 882 = .ok (.iconst 2, 1) := by decide +kernel
theorem dL_law_883 : decode cL_law 883 = .ok (.iadd, 1) := by decide +kernel
theorem dL_law_884 : decode cL_law 884 = .ok (.iaload, 1) := by decide +kernel
theorem dL_law_885 : decode cL_law 885 = .ok (.aload_n 0, 1) := by decide +kernel
theorem dL_law_886 : decode cL_law 886 = .ok (.iload_n 3, 1) := by decide +kernel
theorem dL_law_887 : decode cL_law 887 = .ok (.iconst 3, 1) := by decide +kernel
theorem dL_law_888 : decode cL_law 888 = .ok (.iadd, 1) := by decide +kernel
theorem dL_law_889 : decode cL_law 889 = .ok (.iaload, 1) := by decide +kernel
theorem dL_law_890 : decode cL_law 890 = .ok (.invokevirtual 112, 3) := by decide +kernel
theorem dL_law_893 : decode cL_law 893 = .ok (.lcmp, 1) := by decide +kernel
theorem dL_law_894 : decode cL_law 894 = .ok (.ifCond .eq 196, 3) := by decide +kernel
theorem dL_law_897 : decode cL_law 897 = .ok (.iconst 0, 1) := by decide +kernel
theorem dL_law_898 : decode cL_law 898 = .ok (.ireturn, 1) := by decide +kernel
theorem dL_law_899 : decode cL_law 899 = .ok (.aload_n 1, 1) := by decide +kernel
theorem dL_law_900 : decode cL_law 900 = .ok (.aload_n 0, 1) := by decide +kernel
theorem dL_law_901 : decode cL_law 901 = .ok (.iload_n 3, 1) := by decide +kernel
theorem dL_law_902 : decode cL_law 902 = .ok (.iconst 1, 1) := by decide +kernel
theorem dL_law_903 : decode cL_law 903 = .ok (.iadd, 1) := by decide +kernel
theorem dL_law_904 : decode cL_law 904 = .ok (.iaload, 1) := by decide +kernel
theorem dL_law_905 : decode cL_law 905 = .ok (.aload_n 0, 1) := by decide +kernel
theorem dL_law_906 : decode cL_law 906 = .ok (.iload_n 3, 1) := by decide +kernel
theorem dL_law_907 : decode cL_law 907 = .ok (.iconst 2, 1) := by decide +kernel
theorem dL_law_908 : decode cL_law 908 = .ok (.iadd, 1) := by decide +kernel
theorem dL_law_909 : decode cL_law 909 = .ok (.iaload, 1) := by decide +kernel
theorem dL_law_910 : decode cL_law 910 = .ok (.aload_n 0, 1) := by decide +kernel
theorem dL_law_911 : decode cL_law 911 = .ok (.iload_n 3, 1) := by decide +kernel
theorem dL_law_912 : decode cL_law 912 = .ok (.iconst 3, 1) := by decide +kernel
theorem dL_law_913 : decode cL_law 913 = .ok (.iadd, 1) := by decide +kernel
theorem dL_law_914 : decode cL_law 914 = .ok (.iaload, 1) := by decide +kernel
theorem dL_law_915 : decode cL_law 915 = .ok (.aload_n 0, 1) := by decide +kernel
theorem dL_law_916 : decode cL_law 916 = .ok (.iload_n 3, 1) := by decide +kernel
theorem dL_law_917 : decode cL_law 917 = .ok (.iconst 4, 1) := by decide +kernel
theorem dL_law_918 : decode cL_law 918 = .ok (.iadd, 1) := by decide +kernel
theorem dL_law_919 : decode cL_law 919 = .ok (.iaload, 1) := by decide +kernel
theorem dL_law_920 : decode cL_law 920 = .ok (.aload_n 0, 1) := by decide +kernel
theorem dL_law_921 : decode cL_law 921 = .ok (.iload_n 3, 1) := by decide +kernel
theorem dL_law_922 : decode cL_law 922 = .ok (.iconst 5, 1) := by decide +kernel
theorem dL_law_923 : decode cL_law 923 = .ok (.iadd, 1) := by decide +kernel
theorem dL_law_924 : decode cL_law 924 = .ok (.iaload, 1) := by decide +kernel
theorem dL_law_925 : decode cL_law 925 = .ok (.invokevirtual 113, 3) := by decide +kernel
theorem dL_law_928 : decode cL_law 928 = .ok (.aload_n 2, 1) := by decide +kernel
theorem dL_law_929 : decode cL_law 929 = .ok (.aload_n 0, 1) := by decide +kernel
theorem dL_law_930 : decode cL_law 930 = .ok (.iload_n 3, 1) := by decide +kernel
theorem dL_law_931 : decode cL_law 931 = .ok (.iconst 1, 1) := by decide +kernel
theorem dL_law_932 : decode cL_law 932 = .ok (.iadd, 1) := by decide +kernel
theorem dL_law_933 : decode cL_law 933 = .ok (.iaload, 1) := by decide +kernel
theorem dL_law_934 : decode cL_law 934 = .ok (.aload_n 0, 1) := by decide +kernel
theorem dL_law_935 : decode cL_law 935 = .ok (.iload_n 3, 1) := by decide +kernel
theorem dL_law_936 : decode cL_law 936 = .ok (.iconst 2, 1) := by decide +kernel
theorem dL_law_937 : decode cL_law 937 = .ok (.iadd, 1) := by decide +kernel
theorem dL_law_938 : decode cL_law 938 = .ok (.iaload, 1) := by decide +kernel
theorem dL_law_939 : decode cL_law 939 = .ok (.aload_n 0, 1) := by decide +kernel
theorem dL_law_940 : decode cL_law 940 = .ok (.iload_n 3, 1) := by decide +kernel
theorem dL_law_941 : decode cL_law 941 = .ok (.iconst 3, 1) := by decide +kernel
theorem dL_law_942 : decode cL_law 942 = .ok (.iadd, 1) := by decide +kernel
theorem dL_law_943 : decode cL_law 943 = .ok (.iaload, 1) := by decide +kernel
theorem dL_law_944 : decode cL_law 944 = .ok (.aload_n 0, 1) := by decide +kernel
theorem dL_law_945 : decode cL_law 945 = .ok (.iload_n 3, 1) := by decide +kernel
theorem dL_law_946 : decode cL_law 946 = .ok (.iconst 4, 1) := by decide +kernel
theorem dL_law_947 : decode cL_law 947 = .ok (.iadd, 1) := by decide +kernel
theorem dL_law_948 : decode cL_law 948 = .ok (.iaload, 1) := by decide +kernel
theorem dL_law_949 : decode cL_law 949 = .ok (.aload_n 0, 1) := by decide +kernel
theorem dL_law_950 : decode cL_law 950 = .ok (.iload_n 3, 1) := by decide +kernel
theorem dL_law_951 : decode cL_law 951 = .ok (.iconst 5, 1) := by decide +kernel
theorem dL_law_952 : decode cL_law 952 = .ok (.iadd, 1) := by decide +kernel
theorem dL_law_953 : decode cL_law 953 = .ok (.iaload, 1) := by decide +kernel
theorem dL_law_954 : decode cL_law 954 = .ok (.invokevirtual 116, 3) := by decide +kernel
theorem dL_law_957 : decode cL_law 957 = .ok (.if_icmp .eq 133, 3) := by decide +kernel
theorem dL_law_960 : decode cL_law 960 = .ok (.iconst 0, 1) := by decide +kernel
theorem dL_law_961 : decode cL_law 961 = .ok (.ireturn, 1) := by decide +kernel
theorem dL_law_962 : decode cL_law 962 = .ok (.aload_n 1, 1) := by decide +kernel
theorem dL_law_963 : decode cL_law 963 = .ok (.aload_n 0, 1) := by decide +kernel
theorem dL_law_964 : decode cL_law 964 = .ok (.iload_n 3, 1) := by decide +kernel
theorem dL_law_965 : decode cL_law 965 = .ok (.iconst 1, 1) := by decide +kernel
theorem dL_law_966 : decode cL_law 966 = .ok (.iadd, 1) := by decide +kernel
theorem dL_law_967 : decode cL_law 967 = .ok (.iaload, 1) := by decide +kernel
theorem dL_law_968 : decode cL_law 968 = .ok (.invokevirtual 117, 3) := by decide +kernel
theorem dL_law_971 : decode cL_law 971 = .ok (.aload_n 2, 1) := by decide +kernel
theorem dL_law_972 : decode cL_law 972 = .ok (.aload_n 0, 1) := by decide +kernel
theorem dL_law_973 : decode cL_law 973 = .ok (.iload_n 3, 1) := by decide +kernel
theorem dL_law_974 : decode cL_law 974 = .ok (.iconst 1, 1) := by decide +kernel
theorem dL_law_975 : decode cL_law 975 = .ok (.iadd, 1) := by decide +kernel
theorem dL_law_976 : decode cL_law 976 = .ok (.iaload, 1) := by decide +kernel
theorem dL_law_977 : decode cL_law 977 = .ok (.invokevirtual 120, 3) := by decide +kernel
theorem dL_law_980 : decode cL_law 980 = .ok (.if_icmp .eq 110, 3) := by decide +kernel
theorem dL_law_983 : decode cL_law 983 = .ok (.iconst 0, 1) := by decide +kernel
theorem dL_law_984 : decode cL_law 984 = .ok (.ireturn, 1) := by decide +kernel
theorem dL_law_985 : decode cL_law 985 = .ok (.aload_n 1, 1) := by decide +kernel
theorem dL_law_986 : decode cL_law 986 = .ok (.aload_n 0, 1) := by decide +kernel
theorem dL_law_987 : decode cL_law 987 = .ok (.iload_n 3, 1) := by decide +kernel
theorem dL_law_988 : decode cL_law 988 = .ok (.iconst 1, 1) := by decide +kernel
theorem dL_law_989 : decode cL_law 989 = .ok (.iadd, 1) := by decide +kernel
theorem dL_law_990 : decode cL_law 990 = .ok (.iaload, 1) := by decide +kernel
theorem dL_law_991 : decode cL_law 991 = .ok (.invokevirtual 121, 3) := by decide +kernel
theorem dL_law_994 : decode cL_law 994 = .ok (.aload_n 2, 1) := by decide +kernel
theorem dL_law_995 : decode cL_law 995 = .ok (.aload_n 0, 1) := by decide +kernel
theorem dL_law_996 : decode cL_law 996 = .ok (.iload_n 3, 1) := by decide +kernel
theorem dL_law_997 : decode cL_law 997 = .ok (.iconst 1, 1) := by decide +kernel
theorem dL_law_998 : decode cL_law 998 = .ok (.iadd, 1) := by decide +kernel
theorem dL_law_999 : decode cL_law 999 = .ok (.iaload, 1) := by decide +kernel
theorem dL_law_1000 : decode cL_law 1000 = .ok (.invokevirtual 124, 3) := by decide +kernel
theorem dL_law_1003 : decode cL_law 1003 = .ok (.if_icmp .eq 87, 3) := by decide +kernel
theorem dL_law_1006 : decode cL_law 1006 = .ok (.iconst 0, 1) := by decide +kernel
theorem dL_law_1007 : decode cL_law 1007 = .ok (.ireturn, 1) := by decide +kernel
theorem dL_law_1008 : decode cL_law 1008 = .ok (.aload_n 1, 1) := by decide +kernel
theorem dL_law_1009 : decode cL_law 1009 = .ok (.aload_n 0, 1) := by decide +kernel
theorem dL_law_1010 : decode cL_law 1010 = .ok (.iload_n 3, 1) := by decide +kernel
theorem dL_law_1011 : decode cL_law 1011 = .ok (.iconst 1, 1) := by decide +kernel
theorem dL_law_1012 : decode cL_law 1012 = .ok (.iadd, 1) := by decide +kernel
theorem dL_law_1013 : decode cL_law 1013 = .ok (.iaload, 1) := by decide +kernel
theorem dL_law_1014 : decode cL_law 1014 = .ok (.aload_n 0, 1) := by decide +kernel
theorem dL_law_1015 : decode cL_law 1015 = .ok (.iload_n 3, 1) := by decide +kernel
theorem dL_law_1016 : decode cL_law 1016 = .ok (.iconst 2, 1) := by decide +kernel
theorem dL_law_1017 : decode cL_law 1017 = .ok (.iadd, 1) := by decide +kernel
theorem dL_law_1018 : decode cL_law 1018 = .ok (.iaload, 1) := by decide +kernel
theorem dL_law_1019 : decode cL_law 1019 = .ok (.invokevirtual 125, 3) := by decide +kernel
theorem dL_law_1022 : decode cL_law 1022 = .ok (.aload_n 2, 1) := by decide +kernel
theorem dL_law_1023 : decode cL_law 1023 = .ok (.aload_n 0, 1) := by decide +kernel
theorem dL_law_1024 : decode cL_law 1024 = .ok (.iload_n 3, 1) := by decide +kernel
theorem dL_law_1025 : decode cL_law 1025 = .ok (.iconst 1, 1) := by decide +kernel
theorem dL_law_1026 : decode cL_law 1026 = .ok (.iadd, 1) := by decide +kernel
theorem dL_law_1027 : decode cL_law 1027 = .ok (.iaload, 1) := by decide +kernel
theorem dL_law_1028 : decode cL_law 1028 = .ok (.aload_n 0, 1) := by decide +kernel
theorem dL_law_1029 : decode cL_law 1029 = .ok (.iload_n 3, 1) := by decide +kernel
theorem dL_law_1030 : decode cL_law 1030 = .ok (.iconst 2, 1) := by decide +kernel
theorem dL_law_1031 : decode cL_law 1031 = .ok (.iadd, 1) := by decide +kernel
theorem dL_law_1032 : decode cL_law 1032 = .ok (.iaload, 1) := by decide +kernel
theorem dL_law_1033 : decode cL_law 1033 = .ok (.invokevirtual 128, 3) := by decide +kernel
theorem dL_law_1036 : decode cL_law 1036 = .ok (.if_icmp .eq 54, 3) := by decide +kernel
theorem dL_law_1039 : decode cL_law 1039 = .ok (.iconst 0, 1) := by decide +kernel
theorem dL_law_1040 : decode cL_law 1040 = .ok (.ireturn, 1) := by decide +kernel
theorem dL_law_1041 : decode cL_law 1041 = .ok (.aload_n 1, 1) := by decide +kernel
theorem dL_law_1042 : decode cL_law 1042 = .ok (.invokevirtual 129, 3) := by decide +kernel
theorem dL_law_1045 : decode cL_law 1045 = .ok (.aload_n 2, 1) := by decide +kernel
theorem dL_law_1046 : decode cL_law 1046 = .ok (.invokevirtual 132, 3) := by decide +kernel
theorem dL_law_1049 : decode cL_law 1049 = .ok (.if_icmp .eq 41, 3) := by decide +kernel
theorem dL_law_1052 : decode cL_law 1052 = .ok (.iconst 0, 1) := by decide +kernel
theorem dL_law_1053 : decode cL_law 1053 = .ok (.ireturn, 1) := by decide +kernel
theorem dL_law_1054 : decode cL_law 1054 = .ok (.aload_n 1, 1) := by decide +kernel
theorem dL_law_1055 : decode cL_law 1055 = .ok (.invokevirtual 133, 3) := by decide +kernel
theorem dL_law_1058 : decode cL_law 1058 = .ok (.aload_n 2, 1) := by decide +kernel
theorem dL_law_1059 : decode cL_law 1059 = .ok (.invokevirtual 136, 3) := by decide +kernel
theorem dL_law_1062 : decode cL_law 1062 = .ok (.if_icmp .eq 28, 3) := by decide +kernel
theorem dL_law_1065 : decode cL_law 1065 = .ok (.iconst 0, 1) := by decide +kernel
theorem dL_law_1066 : decode cL_law 1066 = .ok (.ireturn, 1) := by decide +kernel
theorem dL_law_1067 : decode cL_law 1067 = .ok (.aload_n 1, 1) := by decide +kernel
theorem dL_law_1068 : decode cL_law 1068 = .ok (.aload_n 0, 1) := by decide +kernel
theorem dL_law_1069 : decode cL_law 1069 = .ok (.iload_n 3, 1) := by decide +kernel
theorem dL_law_1070 : decode cL_law 1070 = .ok (.iconst 1, 1) := by decide +kernel
theorem dL_law_1071 : decode cL_law 1071 = .ok (.iadd, 1) := by decide +kernel
theorem dL_law_1072 : decode cL_law 1072 = .ok (.iaload, 1) := by decide +kernel
theorem dL_law_1073 : decode cL_law 1073 = .ok (.invokevirtual 137, 3) := by decide +kernel
theorem dL_law_1076 : decode cL_law 1076 = .ok (.aload_n 2, 1) := by decide +kernel
theorem dL_law_1077 : decode cL_law 1077 = .ok (.aload_n 0, 1) := by decide +kernel
theorem dL_law_1078 : decode cL_law 1078 = .ok (.iload_n 3, 1) := by decide +kernel
theorem dL_law_1079 : decode cL_law 1079 = .ok (.iconst 1, 1) := by decide +kernel
theorem dL_law_1080 : decode cL_law 1080 = .ok (.iadd, 1) := by decide +kernel
theorem dL_law_1081 : decode cL_law 1081 = .ok (.iaload, 1) := by decide +kernel
theorem dL_law_1082 : decode cL_law 1082 = .ok (.invokevirtual 140, 3) := by decide +kernel
theorem dL_law_1085 : decode cL_law 1085 = .ok (.if_icmp .eq 5, 3) := by decide +kernel
theorem dL_law_1088 : decode cL_law 1088 = .ok (.iconst 0, 1) := by decide +kernel
theorem dL_law_1089 : decode cL_law 1089 = .ok (.ireturn, 1) := by decide +kernel
theorem dL_law_1090 : decode cL_law 1090 = .ok (.iinc 3 6, 3) := by decide +kernel
theorem dL_law_1093 : decode cL_law 1093 = .ok (.goto (-1075), 3) := by decide +kernel
theorem dL_law_1096 : decode cL_law 1096 = .ok (.iconst 1, 1) := by decide +kernel
theorem dL_law_1097 : decode cL_law 1097 = .ok (.ireturn, 1) := by decide +kernel
end
section
/-! THE LAYER: a world of fixed cells whose ints change; one judgement zV over (state, pc, locals, stack) -/
abbrev zSt : Type := Nat → Nat → Int32
def zsu (σ : zSt) (i : Nat) (φ : Nat → Int32) : zSt := fun a => if a = i then φ else σ a
def zwd (N : Nat) (a : Nat → Nat) (f : Nat → (Nat → Int32) → va_E) (σ : zSt) : va_W := (List.range N).map (fun i => (a i, f i (σ i)))
def zAA (N : Nat) (a : Nat → Nat) : Nat → Prop := fun q => ∃ i, i < N ∧ q = a i
theorem zwd_get {N : Nat} {a : Nat → Nat} {f : Nat → (Nat → Int32) → va_E} {σ : zSt} {i : Nat} (h : i < N) : (zwd N a f σ)[i]? = some (a i, f i (σ i)) := by
  simp [zwd, h]
theorem zwd_some {N : Nat} {a : Nat → Nat} {f : Nat → (Nat → Int32) → va_E} {σ : zSt} {i : Nat} {q : Nat × va_E} (h : (zwd N a f σ)[i]? = some q) : i < N ∧ q = (a i, f i (σ i)) := by
  have hl : i < N := by
    have h1 := (List.getElem?_eq_some_iff.mp h).1
    simpa [zwd] using h1
  refine ⟨hl, ?_⟩
  rw [zwd_get hl] at h
  exact (Option.some.inj h).symm
theorem zwd_set {N : Nat} {a : Nat → Nat} {f : Nat → (Nat → Int32) → va_E} {σ : zSt} {i : Nat} {φ : Nat → Int32} (h : i < N) : (zwd N a f σ).set i (a i, f i φ) = zwd N a f (zsu σ i φ) := by
  apply List.ext_getElem?
  intro j
  by_cases hj : j = i
  · subst hj
    rw [List.getElem?_set_self (by simpa [zwd] using h), zwd_get h]
    simp [zsu]
  · rw [List.getElem?_set_ne (Ne.symm hj)]
    by_cases hjN : j < N
    · rw [zwd_get hjN, zwd_get hjN]
      simp [zsu, hj]
    · rw [List.getElem?_eq_none (by simpa [zwd] using hjN), List.getElem?_eq_none (by simpa [zwd] using hjN)]
theorem zwd_D {N : Nat} {a : Nat → Nat} {f : Nat → (Nat → Int32) → va_E} {σ : zSt} (hinj : ∀ i j, i < N → j < N → a i = a j → i = j) : va_D (zAA N a) (zwd N a f σ) := by
  refine ⟨fun i j x y hi hj hxy => ?_, fun k q hk => ?_⟩
  · obtain ⟨h1, rfl⟩ := zwd_some hi
    obtain ⟨h2, rfl⟩ := zwd_some hj
    exact hinj i j h1 h2 hxy
  · obtain ⟨h1, rfl⟩ := zwd_some hk
    exact ⟨k, h1, rfl⟩
/-! locals, by place -/
def zlp : Nat → List (Option Value) → List (Nat × Value)
  | _, [] => []
  | k, none :: t => zlp (k + 1) t
  | k, some v :: t => (k, v) :: zlp (k + 1) t
theorem zlp_mem : ∀ (lv : List (Option Value)) (k i : Nat) (v : Value), (i, v) ∈ zlp k lv ↔ ∃ j, i = k + j ∧ lv[j]? = some (some v)
  | [], k, i, v => by simp [zlp]
  | none :: t, k, i, v => by
    rw [zlp, zlp_mem t (k + 1) i v]
    constructor
    · rintro ⟨j, h1, h2⟩
      exact ⟨j + 1, by omega, by simpa using h2⟩
    · rintro ⟨j, h1, h2⟩
      cases j with
      | zero => simp at h2
      | succ j => exact ⟨j, by omega, by simpa using h2⟩
  | some w :: t, k, i, v => by
    rw [zlp, List.mem_cons, zlp_mem t (k + 1) i v]
    constructor
    · rintro (h | ⟨j, h1, h2⟩)
      · obtain ⟨rfl, rfl⟩ := Prod.mk.inj h
        exact ⟨0, rfl, rfl⟩
      · exact ⟨j + 1, by omega, by simpa using h2⟩
    · rintro ⟨j, h1, h2⟩
      cases j with
      | zero =>
        have e : some w = some v := by simpa using h2
        cases e
        exact Or.inl (by rw [h1]; rfl)
      | succ j => exact Or.inr ⟨j, by omega, by simpa using h2⟩
def zlx (ls : Array Slot) (nL : Nat) (lv : List (Option Value)) : Prop := lv_has ls nL (zlp 0 lv)
theorem zlx_at {ls : Array Slot} {nL : Nat} {lv : List (Option Value)} (h : zlx ls nL lv) {i : Nat} {v : Value} (hk : lv[i]? = some (some v)) : ls[i]? = some (.val v) := h.2.2 (i, v) ((zlp_mem lv 0 i v).mpr ⟨i, by omega, hk⟩)
def zle : List (Option Value) → List (Option Value) → Prop
  | [], _ => True
  | none :: t, x => zle t x.tail
  | some v :: t, x => x.head? = some (some v) ∧ zle t x.tail
theorem zle_get : ∀ (lv' lv : List (Option Value)), zle lv' lv → ∀ (i : Nat) (v : Value), lv'[i]? = some (some v) → lv[i]? = some (some v)
  | [], _, _, i, v, h => by simp at h
  | none :: t, x, hz, i, v, h => by
    cases i with
    | zero => simp at h
    | succ i =>
      have := zle_get t x.tail hz i v (by simpa using h)
      simpa using this
  | some w :: t, x, hz, i, v, h => by
    cases i with
    | zero =>
      have e : some w = some v := by simpa using h
      cases e
      have := hz.1
      cases x with
      | nil => simp at this
      | cons y x => simpa using this
    | succ i =>
      have := zle_get t x.tail hz.2 i v (by simpa using h)
      simpa using this
theorem zlx_le {ls : Array Slot} {nL : Nat} {lv lv' : List (Option Value)} (h : zlx ls nL lv) (hz : zle lv' lv) : zlx ls nL lv' := by
  refine ⟨h.1, h.2.1, fun q hq => ?_⟩
  obtain ⟨i, v⟩ := q
  obtain ⟨j, h1, h2⟩ := (zlp_mem lv' 0 i v).mp hq
  have : i = j := by omega
  subst this
  exact zlx_at h (zle_get lv' lv hz i v h2)
/-- no long stands in the place before -/
def zpre (lv : List (Option Value)) (i : Nat) : Bool := match i with
  | 0 => true
  | k + 1 => match lv[k]? with
    | some (some v) => v.category == 1
    | _ => true
theorem zpre_ne {lv : List (Option Value)} {i j : Nat} {w : Value} (hp : zpre lv i = true) (h : lv[j]? = some (some w)) : (!(j + 1 == i && w.category == 2)) = true := by
  by_cases hj : j + 1 = i
  · subst hj
    have h1 : w.category = 1 := by simpa [zpre, h] using hp
    simp [h1]
  · simp [hj]
theorem zlx_st1 {ls : Array Slot} {nL : Nat} {lv : List (Option Value)} {i : Nat} {v : Value} (hp : zpre lv i = true) (h : lv_has ls nL ((i, v) :: (zlp 0 lv).filter (fun q => !(q.1 == i) && !(q.1 + 1 == i && q.2.category == 2)))) : zlx ls nL (lv.set i (some v)) := by
  refine ⟨h.1, h.2.1, fun q hq => h.2.2 q ?_⟩
  obtain ⟨k, w⟩ := q
  obtain ⟨j, h1, h2⟩ := (zlp_mem _ 0 k w).mp hq
  have e : k = j := by omega
  subst e
  by_cases hk : k = i
  · subst hk
    have hlt : k < lv.length := by
      have := (List.getElem?_eq_some_iff.mp h2).1
      simpa using this
    rw [List.getElem?_set_self hlt] at h2
    cases h2
    exact List.mem_cons_self
  · rw [List.getElem?_set_ne (Ne.symm hk)] at h2
    refine List.mem_cons_of_mem _ (List.mem_filter.mpr ⟨(zlp_mem lv 0 k w).mpr ⟨k, by omega, h2⟩, ?_⟩)
    rw [Bool.and_eq_true]
    exact ⟨by simp [hk], zpre_ne hp h2⟩
theorem zlx_st2 {ls : Array Slot} {nL : Nat} {lv : List (Option Value)} {i : Nat} {v : Value} (hp : zpre lv i = true) (h : lv_has ls nL ((i, v) :: (zlp 0 lv).filter (fun q => !(q.1 == i) && (!(q.1 == i + 1) && !(q.1 + 1 == i && q.2.category == 2))))) : zlx ls nL ((lv.set i (some v)).set (i + 1) none) := by
  refine ⟨h.1, h.2.1, fun q hq => h.2.2 q ?_⟩
  obtain ⟨k, w⟩ := q
  obtain ⟨j, h1, h2⟩ := (zlp_mem _ 0 k w).mp hq
  have e : k = j := by omega
  subst e
  by_cases hk1 : k = i + 1
  · subst hk1
    by_cases hlt : i + 1 < (lv.set i (some v)).length
    · rw [List.getElem?_set_self hlt] at h2
      cases h2
    · rw [List.getElem?_eq_none (by simpa using hlt)] at h2
      cases h2
  · rw [List.getElem?_set_ne (Ne.symm hk1)] at h2
    by_cases hk : k = i
    · subst hk
      have hlt : k < lv.length := by
        have := (List.getElem?_eq_some_iff.mp h2).1
        simpa using this
      rw [List.getElem?_set_self hlt] at h2
      cases h2
      exact List.mem_cons_self
    · rw [List.getElem?_set_ne (Ne.symm hk)] at h2
      refine List.mem_cons_of_mem _ (List.mem_filter.mpr ⟨(zlp_mem lv 0 k w).mpr ⟨k, by omega, h2⟩, ?_⟩)
      rw [Bool.and_eq_true, Bool.and_eq_true]
      exact ⟨by simp [hk], by simp [hk1], zpre_ne hp h2⟩
/-! the words -/
def zbig : List Cond := lw_tbl.filter goodWord
theorem zbigM {w : Cond} (i : Nat) (h : lw_tbl[i]? = some w) (g : goodWord w = true) : w ∈ zbig := List.mem_filter.mpr ⟨List.mem_of_getElem? h, g⟩
theorem zgood {w c : Cond} (h : c ∈ zbig) (hw : w ∈ c :: zbig) : w ∈ zbig ∧ ((w.onTables && w.keeps) = true ∨ ∃ ty, w = .arrayClass ty) := by
  have h1 : w ∈ zbig := by
    rcases List.mem_cons.mp hw with e | e
    · rw [e]; exact h
    · exact e
  exact ⟨h1, good_of_word (List.mem_filter.mp h1).2⟩
/-! partial steps of the pure pictures -/
def znm {α β : Type} (v : α) (K : α → Option β) : Option β := K v
def zga {β : Type} (φ : Nat → Int32) (x : Int32) (n : Nat) (K : Int32 → Option β) : Option β := if 0 ≤ x ∧ x.toNatClampNeg < n then K (φ x.toNatClampNeg) else none
def zgs {β : Type} (σ : zSt) (i : Nat) (x : Int32) (n : Nat) (v : Int32) (K : zSt → Option β) : Option β := if 0 ≤ x ∧ x.toNatClampNeg < n then K (zsu σ i (upd (σ i) x.toNatClampNeg v)) else none
def zgr {β : Type} (x : Int32) (n off : Nat) (K : Nat → Option β) : Option β := if 0 ≤ x ∧ x.toNatClampNeg < n then K (off + x.toNatClampNeg) else none
def zdv {β : Type} (x y : Int32) (K : Int32 → Option β) : Option β := if y = 0 then none else K (x / y)
def zrm {β : Type} (x y : Int32) (K : Int32 → Option β) : Option β := if y = 0 then none else K (x - x / y * y)
def zdvL {β : Type} (x y : Int64) (K : Int64 → Option β) : Option β := if y = 0 then none else K (x / y)
def zrmL {β : Type} (x y : Int64) (K : Int64 → Option β) : Option β := if y = 0 then none else K (x - x / y * y)
def zgz (v : Int32) (σ : zSt) : Option (Int32 × zSt) := if v = 0 ∨ v = 1 then some (v, σ) else none
def zbd {α β : Type} (o : Option (α × zSt)) (K : α → zSt → Option β) : Option β := match o with
  | some (r, σ) => K r σ
  | none => none
def zbv {β : Type} (o : Option zSt) (K : zSt → Option β) : Option β := match o with
  | some σ => K σ
  | none => none
def zcp {β : Type} (σ : zSt) (i j : Nat) (ni nj : Nat) (sp dp n : Int32) (K : zSt → Option β) : Option β := if (0 ≤ sp ∧ 0 ≤ dp ∧ 0 ≤ n) ∧ sp.toNatClampNeg + n.toNatClampNeg ≤ ni ∧ dp.toNatClampNeg + n.toNatClampNeg ≤ nj then K (zsu σ j (va_cpy (σ i) (σ j) sp.toNatClampNeg dp.toNatClampNeg n.toNatClampNeg)) else none
theorem znn {x : Int32} (h : 0 ≤ x) : ¬ x < 0 := fun q => by
  rw [Int32.le_iff_toInt_le] at h
  rw [Int32.lt_iff_toInt_lt] at q
  omega
theorem zin {x : Int32} {n : Nat} (h : 0 ≤ x ∧ x.toNatClampNeg < n) : vp_in x n := fun q => q.elim (znn h.1) (fun q => absurd h.2 (Nat.not_lt.mpr q))
/-! the classes whose objects the worlds hold; the links to nest mates -/
def zcl : List vw_C := [(RX0, TX0, 4), (RX1, TX1, 3), (RX2, TX2, 3), (RX4, TX4, 9), (RX5, TX5, 8), (RX6, TX6, 27)]
def znests : List Cond := [.methodLinkNest RX4 48 yX5_worthOf "VineRows", .methodLinkNest RX4 97 yX5_leastOf "VineRows"]
theorem znests_on : znests.all Cond.onTables = true := rfl
theorem znests_warm {s U : State} (hW : s.WarmedH U.vm) (h : ∀ w ∈ znests, va_Nw w s) : ∀ w ∈ znests, va_Nw w U := by
  intro w hw
  have h1 := h w hw
  rcases List.mem_cons.mp hw with rfl | hw
  · exact va_Nw.warmM hW h1
  · rcases List.mem_cons.mp hw with rfl | hw
    · exact va_Nw.warmM hW h1
    · exact absurd hw List.not_mem_nil
/-! the judgement -/
def zV (p : Program) (l : Launch) (e : Env) (R : Room) (s : State) (m : MethodId) (args : Array Value) (below : List Frame) (meth : Method) (c : Code) (D : va_G) (N : Nat) (a : Nat → Nat) (f : Nat → (Nat → Int32) → va_E) (nL : Nat) (Q : State → Prop) (σ : zSt) (pc : Nat) (lv : List (Option Value)) (st : List Value) : Prop :=
  ∀ (H : Heap) (locs : List Loc) (ls : Array Slot), va_P D zcl (zwd N a f σ) H → va_S (zAA N a) s.heap H locs → zlx ls nL lv → W p l e R s m args below meth c H locs 0 0 Q (F0 m pc ls st)
def zC (p : Program) (s : State) (m : MethodId) (args : Array Value) (meth : Method) (c : Code) (D : va_G) (tys : List (ClassId × FieldType)) (N : Nat) (a : Nat → Nat) (cc : ByteArray) (nL : Nat) (own : String) (ret : Option FieldType) : Prop :=
  p.tables.exec = Jvm.exec ∧ c.code = cc ∧ c.maxLocals = nL ∧ s.vm.findClass own = some m.cls ∧ (∀ w ∈ zbig, w.before args s = true) ∧ va_K D zcl tys s ∧ (∀ w ∈ znests, va_Nw w s) ∧ (∀ i j, i < N → j < N → a i = a j → i = j) ∧ meth.locks = false ∧ meth.sig.returnType = ret
def zQi (below : List Frame) (args : Array Value) (s : State) (D : va_G) (N : Nat) (a : Nat → Nat) (f : Nat → (Nat → Int32) → va_E) (out : Int32 × zSt) : State → Prop := MQ below (va_Qi (fun (r : Int32) (u : zSt) => (r, u) = out) (fun u t => va_P D zcl (zwd N a f u) t.heap) (zAA N a)) args s 0 0 (zAA N a)
def zQl (below : List Frame) (args : Array Value) (s : State) (D : va_G) (N : Nat) (a : Nat → Nat) (f : Nat → (Nat → Int32) → va_E) (out : Int64 × zSt) : State → Prop := MQ below (va_Ql (fun (r : Int64) (u : zSt) => (r, u) = out) (fun u t => va_P D zcl (zwd N a f u) t.heap) (zAA N a)) args s 0 0 (zAA N a)
def zQv (below : List Frame) (args : Array Value) (s : State) (D : va_G) (N : Nat) (a : Nat → Nat) (f : Nat → (Nat → Int32) → va_E) (out : zSt) : State → Prop := MQ below (va_Qv (fun (u : zSt) => u = out) (fun u t => va_P D zcl (zwd N a f u) t.heap) (zAA N a)) args s 0 0 (zAA N a)
def zPc (D : va_G) (tys : List (ClassId × FieldType)) (N : Nat) (a : Nat → Nat) (f : Nat → (Nat → Int32) → va_E) (av : List Value) (σ : zSt) : Array Value → State → Prop := va_Pc av (fun U => va_P D zcl (zwd N a f σ) U.heap ∧ va_K D zcl tys U ∧ (∀ w ∈ znests, va_Nw w U))
def zMi (l : Launch) (D : va_G) (tys : List (ClassId × FieldType)) (N : Nat) (a : Nat → Nat) (f : Nat → (Nat → Int32) → va_E) (y : MethodName) (cc : ByteArray) (nL : Nat) (ret : Option FieldType) (rm : Room) (av : List Value) (σ : zSt) (out : Int32 × zSt) : Prop :=
  Met l y (.code y cc nL ret :: zbig) rm (zPc D tys N a f av σ) (va_Qi (fun (r : Int32) (u : zSt) => (r, u) = out) (fun u t => va_P D zcl (zwd N a f u) t.heap) (zAA N a)) 0 0 (zAA N a)
def zMl (l : Launch) (D : va_G) (tys : List (ClassId × FieldType)) (N : Nat) (a : Nat → Nat) (f : Nat → (Nat → Int32) → va_E) (y : MethodName) (cc : ByteArray) (nL : Nat) (ret : Option FieldType) (rm : Room) (av : List Value) (σ : zSt) (out : Int64 × zSt) : Prop :=
  Met l y (.code y cc nL ret :: zbig) rm (zPc D tys N a f av σ) (va_Ql (fun (r : Int64) (u : zSt) => (r, u) = out) (fun u t => va_P D zcl (zwd N a f u) t.heap) (zAA N a)) 0 0 (zAA N a)
def zMv (l : Launch) (D : va_G) (tys : List (ClassId × FieldType)) (N : Nat) (a : Nat → Nat) (f : Nat → (Nat → Int32) → va_E) (y : MethodName) (cc : ByteArray) (nL : Nat) (ret : Option FieldType) (rm : Room) (av : List Value) (σ : zSt) (out : zSt) : Prop :=
  Met l y (.code y cc nL ret :: zbig) rm (zPc D tys N a f av σ) (va_Qv (fun (u : zSt) => u = out) (fun u t => va_P D zcl (zwd N a f u) t.heap) (zAA N a)) 0 0 (zAA N a)
theorem zPc_blind {D : va_G} {tys : List (ClassId × FieldType)} {N : Nat} {a : Nat → Nat} {f : Nat → (Nat → Int32) → va_E} {av : List Value} {σ : zSt} : FrameBlind (zPc D tys N a f av σ) := by
  intro v U g mk q
  obtain ⟨q0, qP, qK, qN⟩ := q
  exact ⟨q0, qP, va_K.moved (u := U) (U := U.calling g mk v) (Vm.Alike.refl U.vm) qK, fun w hw => va_Nw.same (u := U) (U := U.calling g mk v) (List.all_eq_true.mp znests_on w hw) rfl (qN w hw)⟩
end
section
/-! ROWS over zV: one an instruction -/
section ZR
variable {p : Program} {l : Launch} {e : Env} {R : Room} {s : State} {m : MethodId} {args : Array Value} {below : List Frame} {meth : Method} {c : Code} {D : va_G} {tys : List (ClassId × FieldType)} {N : Nat} {a : Nat → Nat} {f : Nat → (Nat → Int32) → va_E} {cc : ByteArray} {nL : Nat} {own : String} {ret : Option FieldType} {Q : State → Prop} {σ : zSt} {pc : Nat} {lv lv' : List (Option Value)} {st : List Value} {β : Type} {o : β}
theorem r_iconst (C : zC p s m args meth c D tys N a cc nL own ret) {n : Int} {v : Int32} (hd : decode cc pc = .ok (.iconst n, 1)) (hv : Int32.ofInt n = v) (k : zV p l e R s m args below meth c D N a f nL Q σ (pc + 1) lv (.int v :: st)) : zV p l e R s m args below meth c D N a f nL Q σ pc lv st := fun H locs ls hP hS hl => lv_iconst C.1 C.2.1 hd hv (k H locs ls hP hS hl)
theorem r_bipush (C : zC p s m args meth c D tys N a cc nL own ret) {n : Int} {v : Int32} (hd : decode cc pc = .ok (.bipush n, 2)) (hv : (Int8.ofInt n).toInt32 = v) (k : zV p l e R s m args below meth c D N a f nL Q σ (pc + 2) lv (.int v :: st)) : zV p l e R s m args below meth c D N a f nL Q σ pc lv st := fun H locs ls hP hS hl => lv_bipush C.1 C.2.1 hd hv (k H locs ls hP hS hl)
theorem r_sipush (C : zC p s m args meth c D tys N a cc nL own ret) {n : Int} {v : Int32} (hd : decode cc pc = .ok (.sipush n, 3)) (hv : (Int16.ofInt n).toInt32 = v) (k : zV p l e R s m args below meth c D N a f nL Q σ (pc + 3) lv (.int v :: st)) : zV p l e R s m args below meth c D N a f nL Q σ pc lv st := fun H locs ls hP hS hl => lv_sipush C.1 C.2.1 hd hv (k H locs ls hP hS hl)
theorem r_lconst (C : zC p s m args meth c D tys N a cc nL own ret) {n : Fin 2} {v : Int64} (hd : decode cc pc = .ok (.lconst n, 1)) (hv : Int64.ofNat (n : Nat) = v) (k : zV p l e R s m args below meth c D N a f nL Q σ (pc + 1) lv (.long v :: st)) : zV p l e R s m args below meth c D N a f nL Q σ pc lv st := fun H locs ls hP hS hl => lv_lconst C.1 C.2.1 hd hv (k H locs ls hP hS hl)
theorem r_iload_n (C : zC p s m args meth c D tys N a cc nL own ret) {k : Fin 4} {x : Int32} (hd : decode cc pc = .ok (.iload_n k, 1)) (hl : lv[(k : Nat)]? = some (some (.int x))) (kk : zV p l e R s m args below meth c D N a f nL Q σ (pc + 1) lv (.int x :: st)) : zV p l e R s m args below meth c D N a f nL Q σ pc lv st := fun H locs ls hP hS hL => lv_iload_n C.1 C.2.1 hd rfl (zlx_at hL hl) (kk H locs ls hP hS hL)
theorem r_iload (C : zC p s m args meth c D tys N a cc nL own ret) {k : Nat} {x : Int32} (hd : decode cc pc = .ok (.iload k, 2)) (hl : lv[k]? = some (some (.int x))) (kk : zV p l e R s m args below meth c D N a f nL Q σ (pc + 2) lv (.int x :: st)) : zV p l e R s m args below meth c D N a f nL Q σ pc lv st := fun H locs ls hP hS hL => lv_iload C.1 C.2.1 hd (zlx_at hL hl) (kk H locs ls hP hS hL)
theorem r_lload_n (C : zC p s m args meth c D tys N a cc nL own ret) {k : Fin 4} {x : Int64} (hd : decode cc pc = .ok (.lload_n k, 1)) (hl : lv[(k : Nat)]? = some (some (.long x))) (kk : zV p l e R s m args below meth c D N a f nL Q σ (pc + 1) lv (.long x :: st)) : zV p l e R s m args below meth c D N a f nL Q σ pc lv st := fun H locs ls hP hS hL => lv_lload_n C.1 C.2.1 hd rfl (zlx_at hL hl) (kk H locs ls hP hS hL)
theorem r_lload (C : zC p s m args meth c D tys N a cc nL own ret) {k : Nat} {x : Int64} (hd : decode cc pc = .ok (.lload k, 2)) (hl : lv[k]? = some (some (.long x))) (kk : zV p l e R s m args below meth c D N a f nL Q σ (pc + 2) lv (.long x :: st)) : zV p l e R s m args below meth c D N a f nL Q σ pc lv st := fun H locs ls hP hS hL => lv_lload C.1 C.2.1 hd (zlx_at hL hl) (kk H locs ls hP hS hL)
theorem r_aload_n (C : zC p s m args meth c D tys N a cc nL own ret) {k : Fin 4} {x : Nat} (hd : decode cc pc = .ok (.aload_n k, 1)) (hl : lv[(k : Nat)]? = some (some (.ref x))) (kk : zV p l e R s m args below meth c D N a f nL Q σ (pc + 1) lv (.ref x :: st)) : zV p l e R s m args below meth c D N a f nL Q σ pc lv st := fun H locs ls hP hS hL => lv_aload_n C.1 C.2.1 hd rfl (zlx_at hL hl) (kk H locs ls hP hS hL)
theorem r_aload (C : zC p s m args meth c D tys N a cc nL own ret) {k : Nat} {x : Nat} (hd : decode cc pc = .ok (.aload k, 2)) (hl : lv[k]? = some (some (.ref x))) (kk : zV p l e R s m args below meth c D N a f nL Q σ (pc + 2) lv (.ref x :: st)) : zV p l e R s m args below meth c D N a f nL Q σ pc lv st := fun H locs ls hP hS hL => lv_aload C.1 C.2.1 hd (zlx_at hL hl) (kk H locs ls hP hS hL)
theorem r_istore_n (C : zC p s m args meth c D tys N a cc nL own ret) {k : Fin 4} {x : Int32} (hd : decode cc pc = .ok (.istore_n k, 1)) (hn : (k : Nat) < nL) (hp : zpre lv (k : Nat) = true) (hs : lv.set (k : Nat) (some (.int x)) = lv') (kk : zV p l e R s m args below meth c D N a f nL Q σ (pc + 1) lv' st) : zV p l e R s m args below meth c D N a f nL Q σ pc lv (.int x :: st) := fun H locs ls hP hS hL => lv_istore_n C.1 C.2.1 hd rfl hL hn rfl (fun ls' h => kk H locs ls' hP hS (hs ▸ zlx_st1 hp h))
theorem r_istore (C : zC p s m args meth c D tys N a cc nL own ret) {k : Nat} {x : Int32} (hd : decode cc pc = .ok (.istore k, 2)) (hn : k < nL) (hp : zpre lv k = true) (hs : lv.set k (some (.int x)) = lv') (kk : zV p l e R s m args below meth c D N a f nL Q σ (pc + 2) lv' st) : zV p l e R s m args below meth c D N a f nL Q σ pc lv (.int x :: st) := fun H locs ls hP hS hL => lv_istore C.1 C.2.1 hd hL hn rfl (fun ls' h => kk H locs ls' hP hS (hs ▸ zlx_st1 hp h))
theorem r_astore_n (C : zC p s m args meth c D tys N a cc nL own ret) {k : Fin 4} {x : Nat} (hd : decode cc pc = .ok (.astore_n k, 1)) (hn : (k : Nat) < nL) (hp : zpre lv (k : Nat) = true) (hs : lv.set (k : Nat) (some (.ref x)) = lv') (kk : zV p l e R s m args below meth c D N a f nL Q σ (pc + 1) lv' st) : zV p l e R s m args below meth c D N a f nL Q σ pc lv (.ref x :: st) := fun H locs ls hP hS hL => lv_astore_n C.1 C.2.1 hd rfl hL hn rfl (fun ls' h => kk H locs ls' hP hS (hs ▸ zlx_st1 hp h))
theorem r_astore (C : zC p s m args meth c D tys N a cc nL own ret) {k : Nat} {x : Nat} (hd : decode cc pc = .ok (.astore k, 2)) (hn : k < nL) (hp : zpre lv k = true) (hs : lv.set k (some (.ref x)) = lv') (kk : zV p l e R s m args below meth c D N a f nL Q σ (pc + 2) lv' st) : zV p l e R s m args below meth c D N a f nL Q σ pc lv (.ref x :: st) := fun H locs ls hP hS hL => lv_astore C.1 C.2.1 hd hL hn rfl (fun ls' h => kk H locs ls' hP hS (hs ▸ zlx_st1 hp h))
theorem r_lstore_n (C : zC p s m args meth c D tys N a cc nL own ret) {k : Fin 4} {x : Int64} (hd : decode cc pc = .ok (.lstore_n k, 1)) (hn : (k : Nat) + 1 < nL) (hp : zpre lv (k : Nat) = true) (hs : (lv.set (k : Nat) (some (.long x))).set ((k : Nat) + 1) none = lv') (kk : zV p l e R s m args below meth c D N a f nL Q σ (pc + 1) lv' st) : zV p l e R s m args below meth c D N a f nL Q σ pc lv (.long x :: st) := fun H locs ls hP hS hL => lv_lstore_n C.1 C.2.1 hd rfl hL hn rfl (fun ls' h => kk H locs ls' hP hS (hs ▸ zlx_st2 hp h))
theorem r_lstore (C : zC p s m args meth c D tys N a cc nL own ret) {k : Nat} {x : Int64} (hd : decode cc pc = .ok (.lstore k, 2)) (hn : k + 1 < nL) (hp : zpre lv k = true) (hs : (lv.set k (some (.long x))).set (k + 1) none = lv') (kk : zV p l e R s m args below meth c D N a f nL Q σ (pc + 2) lv' st) : zV p l e R s m args below meth c D N a f nL Q σ pc lv (.long x :: st) := fun H locs ls hP hS hL => lv_lstore C.1 C.2.1 hd hL hn rfl (fun ls' h => kk H locs ls' hP hS (hs ▸ zlx_st2 hp h))
theorem r_iinc (C : zC p s m args meth c D tys N a cc nL own ret) {i : Nat} {n : Int} {x v : Int32} (hd : decode cc pc = .ok (.iinc i n, 3)) (hl : lv[i]? = some (some (.int x))) (hv : x + Int32.ofInt n = v) (hn : i < nL) (hp : zpre lv i = true) (hs : lv.set i (some (.int v)) = lv') (kk : zV p l e R s m args below meth c D N a f nL Q σ (pc + 3) lv' st) : zV p l e R s m args below meth c D N a f nL Q σ pc lv st := by
  intro H locs ls hP hS hL
  obtain ⟨k, hk⟩ := List.getElem?_of_mem ((zlp_mem lv 0 i (.int x)).mpr ⟨i, by omega, hl⟩)
  exact lv_iinc C.1 C.2.1 hd hL hk hv hn rfl (fun ls' h => kk H locs ls' hP hS (hs ▸ zlx_st1 hp h))
theorem r_iadd (C : zC p s m args meth c D tys N a cc nL own ret) {x y : Int32} (hd : decode cc pc = .ok (.iadd, 1)) (k : zV p l e R s m args below meth c D N a f nL Q σ (pc + 1) lv (.int (x + y) :: st)) : zV p l e R s m args below meth c D N a f nL Q σ pc lv (.int y :: .int x :: st) := fun H locs ls hP hS hl => lv_iadd C.1 C.2.1 hd (k H locs ls hP hS hl)
theorem r_isub (C : zC p s m args meth c D tys N a cc nL own ret) {x y : Int32} (hd : decode cc pc = .ok (.isub, 1)) (k : zV p l e R s m args below meth c D N a f nL Q σ (pc + 1) lv (.int (x - y) :: st)) : zV p l e R s m args below meth c D N a f nL Q σ pc lv (.int y :: .int x :: st) := fun H locs ls hP hS hl => lv_isub C.1 C.2.1 hd (k H locs ls hP hS hl)
theorem r_imul (C : zC p s m args meth c D tys N a cc nL own ret) {x y : Int32} (hd : decode cc pc = .ok (.imul, 1)) (k : zV p l e R s m args below meth c D N a f nL Q σ (pc + 1) lv (.int (x * y) :: st)) : zV p l e R s m args below meth c D N a f nL Q σ pc lv (.int y :: .int x :: st) := fun H locs ls hP hS hl => lv_imul C.1 C.2.1 hd (k H locs ls hP hS hl)
theorem r_iand (C : zC p s m args meth c D tys N a cc nL own ret) {x y : Int32} (hd : decode cc pc = .ok (.iand, 1)) (k : zV p l e R s m args below meth c D N a f nL Q σ (pc + 1) lv (.int (x &&& y) :: st)) : zV p l e R s m args below meth c D N a f nL Q σ pc lv (.int y :: .int x :: st) := fun H locs ls hP hS hl => lv_iand C.1 C.2.1 hd (k H locs ls hP hS hl)
theorem r_ior (C : zC p s m args meth c D tys N a cc nL own ret) {x y : Int32} (hd : decode cc pc = .ok (.ior, 1)) (k : zV p l e R s m args below meth c D N a f nL Q σ (pc + 1) lv (.int (x ||| y) :: st)) : zV p l e R s m args below meth c D N a f nL Q σ pc lv (.int y :: .int x :: st) := fun H locs ls hP hS hl => lv_ior C.1 C.2.1 hd (k H locs ls hP hS hl)
theorem r_ixor (C : zC p s m args meth c D tys N a cc nL own ret) {x y : Int32} (hd : decode cc pc = .ok (.ixor, 1)) (k : zV p l e R s m args below meth c D N a f nL Q σ (pc + 1) lv (.int (x ^^^ y) :: st)) : zV p l e R s m args below meth c D N a f nL Q σ pc lv (.int y :: .int x :: st) := fun H locs ls hP hS hl => lv_ixor C.1 C.2.1 hd (k H locs ls hP hS hl)
theorem r_ishl (C : zC p s m args meth c D tys N a cc nL own ret) {x y : Int32} (hd : decode cc pc = .ok (.ishl, 1)) (k : zV p l e R s m args below meth c D N a f nL Q σ (pc + 1) lv (.int (x <<< (y &&& 31)) :: st)) : zV p l e R s m args below meth c D N a f nL Q σ pc lv (.int y :: .int x :: st) := fun H locs ls hP hS hl => lv_ishl C.1 C.2.1 hd (k H locs ls hP hS hl)
theorem r_ishr (C : zC p s m args meth c D tys N a cc nL own ret) {x y : Int32} (hd : decode cc pc = .ok (.ishr, 1)) (k : zV p l e R s m args below meth c D N a f nL Q σ (pc + 1) lv (.int (x >>> (y &&& 31)) :: st)) : zV p l e R s m args below meth c D N a f nL Q σ pc lv (.int y :: .int x :: st) := fun H locs ls hP hS hl => lv_ishr C.1 C.2.1 hd (k H locs ls hP hS hl)
theorem r_iushr (C : zC p s m args meth c D tys N a cc nL own ret) {x y : Int32} (hd : decode cc pc = .ok (.iushr, 1)) (k : zV p l e R s m args below meth c D N a f nL Q σ (pc + 1) lv (.int ((x.toUInt32 >>> (y.toUInt32 &&& Int32.toUInt32 31)).toInt32) :: st)) : zV p l e R s m args below meth c D N a f nL Q σ pc lv (.int y :: .int x :: st) := fun H locs ls hP hS hl => lv_iushr C.1 C.2.1 hd rfl (k H locs ls hP hS hl)
theorem r_idiv (C : zC p s m args meth c D tys N a cc nL own ret) {x y : Int32} {K : Int32 → Option β} (hd : decode cc pc = .ok (.idiv, 1)) (h : zdv x y K = some o) (k : ∀ v, K v = some o → zV p l e R s m args below meth c D N a f nL Q σ (pc + 1) lv (.int v :: st)) : zV p l e R s m args below meth c D N a f nL Q σ pc lv (.int y :: .int x :: st) := by
  intro H locs ls hP hS hl
  unfold zdv at h
  by_cases hy : y = 0
  · rw [if_pos hy] at h; cases h
  · rw [if_neg hy] at h
    exact lv_idiv C.1 C.2.1 hd hy (k _ h H locs ls hP hS hl)
theorem r_irem (C : zC p s m args meth c D tys N a cc nL own ret) {x y : Int32} {K : Int32 → Option β} (hd : decode cc pc = .ok (.irem, 1)) (h : zrm x y K = some o) (k : ∀ v, K v = some o → zV p l e R s m args below meth c D N a f nL Q σ (pc + 1) lv (.int v :: st)) : zV p l e R s m args below meth c D N a f nL Q σ pc lv (.int y :: .int x :: st) := by
  intro H locs ls hP hS hl
  unfold zrm at h
  by_cases hy : y = 0
  · rw [if_pos hy] at h; cases h
  · rw [if_neg hy] at h
    exact lv_irem C.1 C.2.1 hd hy (k _ h H locs ls hP hS hl)
theorem r_ldiv (C : zC p s m args meth c D tys N a cc nL own ret) {x y : Int64} {K : Int64 → Option β} (hd : decode cc pc = .ok (.ldiv, 1)) (h : zdvL x y K = some o) (k : ∀ v, K v = some o → zV p l e R s m args below meth c D N a f nL Q σ (pc + 1) lv (.long v :: st)) : zV p l e R s m args below meth c D N a f nL Q σ pc lv (.long y :: .long x :: st) := by
  intro H locs ls hP hS hl
  unfold zdvL at h
  by_cases hy : y = 0
  · rw [if_pos hy] at h; cases h
  · rw [if_neg hy] at h
    exact lv_ldiv C.1 C.2.1 hd hy (k _ h H locs ls hP hS hl)
theorem r_lrem (C : zC p s m args meth c D tys N a cc nL own ret) {x y : Int64} {K : Int64 → Option β} (hd : decode cc pc = .ok (.lrem, 1)) (h : zrmL x y K = some o) (k : ∀ v, K v = some o → zV p l e R s m args below meth c D N a f nL Q σ (pc + 1) lv (.long v :: st)) : zV p l e R s m args below meth c D N a f nL Q σ pc lv (.long y :: .long x :: st) := by
  intro H locs ls hP hS hl
  unfold zrmL at h
  by_cases hy : y = 0
  · rw [if_pos hy] at h; cases h
  · rw [if_neg hy] at h
    exact lv_lrem C.1 C.2.1 hd hy (k _ h H locs ls hP hS hl)
theorem r_i2l (C : zC p s m args meth c D tys N a cc nL own ret) {x : Int32} (hd : decode cc pc = .ok (.i2l, 1)) (k : zV p l e R s m args below meth c D N a f nL Q σ (pc + 1) lv (.long x.toInt64 :: st)) : zV p l e R s m args below meth c D N a f nL Q σ pc lv (.int x :: st) := fun H locs ls hP hS hl => lv_i2l C.1 C.2.1 hd rfl (k H locs ls hP hS hl)
theorem r_i2b (C : zC p s m args meth c D tys N a cc nL own ret) {x : Int32} (hd : decode cc pc = .ok (.i2b, 1)) (k : zV p l e R s m args below meth c D N a f nL Q σ (pc + 1) lv (.int x.toInt8.toInt32 :: st)) : zV p l e R s m args below meth c D N a f nL Q σ pc lv (.int x :: st) := fun H locs ls hP hS hl => lv_i2b C.1 C.2.1 hd rfl (k H locs ls hP hS hl)
theorem r_i2s (C : zC p s m args meth c D tys N a cc nL own ret) {x : Int32} (hd : decode cc pc = .ok (.i2s, 1)) (k : zV p l e R s m args below meth c D N a f nL Q σ (pc + 1) lv (.int x.toInt16.toInt32 :: st)) : zV p l e R s m args below meth c D N a f nL Q σ pc lv (.int x :: st) := fun H locs ls hP hS hl => lv_i2s C.1 C.2.1 hd rfl (k H locs ls hP hS hl)
theorem r_lcmp (C : zC p s m args meth c D tys N a cc nL own ret) {x y : Int64} (hd : decode cc pc = .ok (.lcmp, 1)) (k : zV p l e R s m args below meth c D N a f nL Q σ (pc + 1) lv (.int (lg_cmp x y) :: st)) : zV p l e R s m args below meth c D N a f nL Q σ pc lv (.long y :: .long x :: st) := fun H locs ls hP hS hl => W.lcmp C.1 C.2.1 hd (k H locs ls hP hS hl)
theorem r_dup (C : zC p s m args meth c D tys N a cc nL own ret) {v : Value} (hd : decode cc pc = .ok (.dup, 1)) (hv : v.category = 1) (k : zV p l e R s m args below meth c D N a f nL Q σ (pc + 1) lv (v :: v :: st)) : zV p l e R s m args below meth c D N a f nL Q σ pc lv (v :: st) := fun H locs ls hP hS hl => lv_dup C.1 C.2.1 hd hv (k H locs ls hP hS hl)
theorem r_pop (C : zC p s m args meth c D tys N a cc nL own ret) {v : Value} (hd : decode cc pc = .ok (.pop, 1)) (hv : v.category = 1) (k : zV p l e R s m args below meth c D N a f nL Q σ (pc + 1) lv st) : zV p l e R s m args below meth c D N a f nL Q σ pc lv (v :: st) := fun H locs ls hP hS hl => lv_pop C.1 C.2.1 hd hv (k H locs ls hP hS hl)
theorem r_dup2 (C : zC p s m args meth c D tys N a cc nL own ret) {v w : Value} (hd : decode cc pc = .ok (.dup2, 1)) (hv : v.category = 1) (hw : w.category = 1) (k : zV p l e R s m args below meth c D N a f nL Q σ (pc + 1) lv (v :: w :: v :: w :: st)) : zV p l e R s m args below meth c D N a f nL Q σ pc lv (v :: w :: st) := fun H locs ls hP hS hl => lv_dup2_11 C.1 C.2.1 hd hv hw (k H locs ls hP hS hl)
theorem r_goto (C : zC p s m args meth c D tys N a cc nL own ret) {off : Int} {tgt : Nat} (hd : decode cc pc = .ok (.goto off, 3)) (ht : (pc : Int) + off = (tgt : Int)) (k : zV p l e R s m args below meth c D N a f nL Q σ tgt lv st) : zV p l e R s m args below meth c D N a f nL Q σ pc lv st := fun H locs ls hP hS hl => lv_goto C.1 C.2.1 hd ht (k H locs ls hP hS hl)
theorem r_icmp_eq (C : zC p s m args meth c D tys N a cc nL own ret) {x y : Int32} {off : Int} {tgt : Nat} {A B : Option β} (hd : decode cc pc = .ok (.if_icmp .eq off, 3)) (ht : (pc : Int) + off = (tgt : Int)) (h : (if x = y then A else B) = some o) (kt : A = some o → zV p l e R s m args below meth c D N a f nL Q σ tgt lv st) (kf : B = some o → zV p l e R s m args below meth c D N a f nL Q σ (pc + 3) lv st) : zV p l e R s m args below meth c D N a f nL Q σ pc lv (.int y :: .int x :: st) := fun H locs ls hP hS hl => lv_icmp_eq C.1 C.2.1 hd ht (fun q => kt (by rw [if_pos q] at h; exact h) H locs ls hP hS hl) (fun q => kf (by rw [if_neg q] at h; exact h) H locs ls hP hS hl)
theorem r_if_eq (C : zC p s m args meth c D tys N a cc nL own ret) {x : Int32} {off : Int} {tgt : Nat} {A B : Option β} (hd : decode cc pc = .ok (.ifCond .eq off, 3)) (ht : (pc : Int) + off = (tgt : Int)) (h : (if x = 0 then A else B) = some o) (kt : A = some o → zV p l e R s m args below meth c D N a f nL Q σ tgt lv st) (kf : B = some o → zV p l e R s m args below meth c D N a f nL Q σ (pc + 3) lv st) : zV p l e R s m args below meth c D N a f nL Q σ pc lv (.int x :: st) := fun H locs ls hP hS hl => lv_if_eq C.1 C.2.1 hd ht (fun q => kt (by rw [if_pos q] at h; exact h) H locs ls hP hS hl) (fun q => kf (by rw [if_neg q] at h; exact h) H locs ls hP hS hl)
theorem r_icmp_ne (C : zC p s m args meth c D tys N a cc nL own ret) {x y : Int32} {off : Int} {tgt : Nat} {A B : Option β} (hd : decode cc pc = .ok (.if_icmp .ne off, 3)) (ht : (pc : Int) + off = (tgt : Int)) (h : (if x = y then A else B) = some o) (kt : B = some o → zV p l e R s m args below meth c D N a f nL Q σ tgt lv st) (kf : A = some o → zV p l e R s m args below meth c D N a f nL Q σ (pc + 3) lv st) : zV p l e R s m args below meth c D N a f nL Q σ pc lv (.int y :: .int x :: st) := fun H locs ls hP hS hl => lv_icmp_ne C.1 C.2.1 hd ht (fun q => kt (by rw [if_neg q] at h; exact h) H locs ls hP hS hl) (fun q => kf (by rw [if_pos q] at h; exact h) H locs ls hP hS hl)
theorem r_if_ne (C : zC p s m args meth c D tys N a cc nL own ret) {x : Int32} {off : Int} {tgt : Nat} {A B : Option β} (hd : decode cc pc = .ok (.ifCond .ne off, 3)) (ht : (pc : Int) + off = (tgt : Int)) (h : (if x = 0 then A else B) = some o) (kt : B = some o → zV p l e R s m args below meth c D N a f nL Q σ tgt lv st) (kf : A = some o → zV p l e R s m args below meth c D N a f nL Q σ (pc + 3) lv st) : zV p l e R s m args below meth c D N a f nL Q σ pc lv (.int x :: st) := fun H locs ls hP hS hl => lv_if_ne C.1 C.2.1 hd ht (fun q => kt (by rw [if_neg q] at h; exact h) H locs ls hP hS hl) (fun q => kf (by rw [if_pos q] at h; exact h) H locs ls hP hS hl)
theorem r_icmp_lt (C : zC p s m args meth c D tys N a cc nL own ret) {x y : Int32} {off : Int} {tgt : Nat} {A B : Option β} (hd : decode cc pc = .ok (.if_icmp .lt off, 3)) (ht : (pc : Int) + off = (tgt : Int)) (h : (if x < y then A else B) = some o) (kt : A = some o → zV p l e R s m args below meth c D N a f nL Q σ tgt lv st) (kf : B = some o → zV p l e R s m args below meth c D N a f nL Q σ (pc + 3) lv st) : zV p l e R s m args below meth c D N a f nL Q σ pc lv (.int y :: .int x :: st) := fun H locs ls hP hS hl => lv_icmp_lt C.1 C.2.1 hd ht (fun q => kt (by rw [if_pos q] at h; exact h) H locs ls hP hS hl) (fun q => kf (by rw [if_neg q] at h; exact h) H locs ls hP hS hl)
theorem r_if_lt (C : zC p s m args meth c D tys N a cc nL own ret) {x : Int32} {off : Int} {tgt : Nat} {A B : Option β} (hd : decode cc pc = .ok (.ifCond .lt off, 3)) (ht : (pc : Int) + off = (tgt : Int)) (h : (if x < 0 then A else B) = some o) (kt : A = some o → zV p l e R s m args below meth c D N a f nL Q σ tgt lv st) (kf : B = some o → zV p l e R s m args below meth c D N a f nL Q σ (pc + 3) lv st) : zV p l e R s m args below meth c D N a f nL Q σ pc lv (.int x :: st) := fun H locs ls hP hS hl => lv_if_lt C.1 C.2.1 hd ht (fun q => kt (by rw [if_pos q] at h; exact h) H locs ls hP hS hl) (fun q => kf (by rw [if_neg q] at h; exact h) H locs ls hP hS hl)
theorem r_icmp_ge (C : zC p s m args meth c D tys N a cc nL own ret) {x y : Int32} {off : Int} {tgt : Nat} {A B : Option β} (hd : decode cc pc = .ok (.if_icmp .ge off, 3)) (ht : (pc : Int) + off = (tgt : Int)) (h : (if y ≤ x then A else B) = some o) (kt : A = some o → zV p l e R s m args below meth c D N a f nL Q σ tgt lv st) (kf : B = some o → zV p l e R s m args below meth c D N a f nL Q σ (pc + 3) lv st) : zV p l e R s m args below meth c D N a f nL Q σ pc lv (.int y :: .int x :: st) := fun H locs ls hP hS hl => lv_icmp_ge C.1 C.2.1 hd ht (fun q => kt (by rw [if_pos q] at h; exact h) H locs ls hP hS hl) (fun q => kf (by rw [if_neg q] at h; exact h) H locs ls hP hS hl)
theorem r_if_ge (C : zC p s m args meth c D tys N a cc nL own ret) {x : Int32} {off : Int} {tgt : Nat} {A B : Option β} (hd : decode cc pc = .ok (.ifCond .ge off, 3)) (ht : (pc : Int) + off = (tgt : Int)) (h : (if 0 ≤ x then A else B) = some o) (kt : A = some o → zV p l e R s m args below meth c D N a f nL Q σ tgt lv st) (kf : B = some o → zV p l e R s m args below meth c D N a f nL Q σ (pc + 3) lv st) : zV p l e R s m args below meth c D N a f nL Q σ pc lv (.int x :: st) := fun H locs ls hP hS hl => lv_if_ge C.1 C.2.1 hd ht (fun q => kt (by rw [if_pos q] at h; exact h) H locs ls hP hS hl) (fun q => kf (by rw [if_neg q] at h; exact h) H locs ls hP hS hl)
theorem r_icmp_gt (C : zC p s m args meth c D tys N a cc nL own ret) {x y : Int32} {off : Int} {tgt : Nat} {A B : Option β} (hd : decode cc pc = .ok (.if_icmp .gt off, 3)) (ht : (pc : Int) + off = (tgt : Int)) (h : (if y < x then A else B) = some o) (kt : A = some o → zV p l e R s m args below meth c D N a f nL Q σ tgt lv st) (kf : B = some o → zV p l e R s m args below meth c D N a f nL Q σ (pc + 3) lv st) : zV p l e R s m args below meth c D N a f nL Q σ pc lv (.int y :: .int x :: st) := fun H locs ls hP hS hl => lv_icmp_gt C.1 C.2.1 hd ht (fun q => kt (by rw [if_pos q] at h; exact h) H locs ls hP hS hl) (fun q => kf (by rw [if_neg q] at h; exact h) H locs ls hP hS hl)
theorem r_if_gt (C : zC p s m args meth c D tys N a cc nL own ret) {x : Int32} {off : Int} {tgt : Nat} {A B : Option β} (hd : decode cc pc = .ok (.ifCond .gt off, 3)) (ht : (pc : Int) + off = (tgt : Int)) (h : (if 0 < x then A else B) = some o) (kt : A = some o → zV p l e R s m args below meth c D N a f nL Q σ tgt lv st) (kf : B = some o → zV p l e R s m args below meth c D N a f nL Q σ (pc + 3) lv st) : zV p l e R s m args below meth c D N a f nL Q σ pc lv (.int x :: st) := fun H locs ls hP hS hl => lv_if_gt C.1 C.2.1 hd ht (fun q => kt (by rw [if_pos q] at h; exact h) H locs ls hP hS hl) (fun q => kf (by rw [if_neg q] at h; exact h) H locs ls hP hS hl)
theorem r_icmp_le (C : zC p s m args meth c D tys N a cc nL own ret) {x y : Int32} {off : Int} {tgt : Nat} {A B : Option β} (hd : decode cc pc = .ok (.if_icmp .le off, 3)) (ht : (pc : Int) + off = (tgt : Int)) (h : (if x ≤ y then A else B) = some o) (kt : A = some o → zV p l e R s m args below meth c D N a f nL Q σ tgt lv st) (kf : B = some o → zV p l e R s m args below meth c D N a f nL Q σ (pc + 3) lv st) : zV p l e R s m args below meth c D N a f nL Q σ pc lv (.int y :: .int x :: st) := fun H locs ls hP hS hl => lv_icmp_le C.1 C.2.1 hd ht (fun q => kt (by rw [if_pos q] at h; exact h) H locs ls hP hS hl) (fun q => kf (by rw [if_neg q] at h; exact h) H locs ls hP hS hl)
theorem r_if_le (C : zC p s m args meth c D tys N a cc nL own ret) {x : Int32} {off : Int} {tgt : Nat} {A B : Option β} (hd : decode cc pc = .ok (.ifCond .le off, 3)) (ht : (pc : Int) + off = (tgt : Int)) (h : (if x ≤ 0 then A else B) = some o) (kt : A = some o → zV p l e R s m args below meth c D N a f nL Q σ tgt lv st) (kf : B = some o → zV p l e R s m args below meth c D N a f nL Q σ (pc + 3) lv st) : zV p l e R s m args below meth c D N a f nL Q σ pc lv (.int x :: st) := fun H locs ls hP hS hl => lv_if_le C.1 C.2.1 hd ht (fun q => kt (by rw [if_pos q] at h; exact h) H locs ls hP hS hl) (fun q => kf (by rw [if_neg q] at h; exact h) H locs ls hP hS hl)
theorem r_le (hz : zle lv' lv) (k : zV p l e R s m args below meth c D N a f nL Q σ pc lv' st) : zV p l e R s m args below meth c D N a f nL Q σ pc lv st := fun H locs ls hP hS hl => k H locs ls hP hS (zlx_le hl hz)
theorem r_nm {v : Int32} {K : Int32 → Option β} (h : znm v K = some o) (k : ∀ x, K x = some o → zV p l e R s m args below meth c D N a f nL Q σ pc lv (.int x :: st)) : zV p l e R s m args below meth c D N a f nL Q σ pc lv (.int v :: st) := k v h
theorem r_nmL {v : Int64} {K : Int64 → Option β} (h : znm v K = some o) (k : ∀ x, K x = some o → zV p l e R s m args below meth c D N a f nL Q σ pc lv (.long x :: st)) : zV p l e R s m args below meth c D N a f nL Q σ pc lv (.long v :: st) := k v h
theorem r_gen {G : Prop} {v : Int32} {K : Int32 → Option β} (h : znm v K = some o) (k : ∀ x, v = x → K x = some o → G) : G := k v rfl h
theorem r_ldc2 (C : zC p s m args meth c D tys N a cc nL own ret) {index : Nat} {v : Int64} (hw : Cond.constantLong own index v ∈ zbig) (hd : decode cc pc = .ok (.ldc2_w index, 3)) (k : zV p l e R s m args below meth c D N a f nL Q σ (pc + 3) lv (.long v :: st)) : zV p l e R s m args below meth c D N a f nL Q σ pc lv st := fun H locs ls hP hS hl => lv_ldc2 C.1 C.2.1 C.2.2.2.1 (C.2.2.2.2.1 _ hw) hd (k H locs ls hP hS hl)
theorem r_ldcw (C : zC p s m args meth c D tys N a cc nL own ret) {index : Nat} {v : Int32} (hw : Cond.constant own index v ∈ zbig) (hd : decode cc pc = .ok (.ldc_w index, 3)) (k : zV p l e R s m args below meth c D N a f nL Q σ (pc + 3) lv (.int v :: st)) : zV p l e R s m args below meth c D N a f nL Q σ pc lv st := fun H locs ls hP hS hl => lv_ldcw C.1 C.2.1 C.2.2.2.1 (C.2.2.2.2.1 _ hw) hd (k H locs ls hP hS hl)
theorem r_lookup (C : zC p s m args meth c D tys N a cc nL own ret) {dflt : Int} {ps : Array (Int × Int)} {len : Nat} {x : Int32} {off : Int} {tgt : Nat} (hd : decode cc pc = .ok (.lookupswitch dflt ps, len)) (hp : (ps.toList.zip (ps.toList.drop 1)).all (fun (a, next) => a.1 < next.1) = true) (ho : Op.lookupswitch.offset ps.toList dflt x.toInt = off) (ht : (pc : Int) + off = (tgt : Int)) (k : zV p l e R s m args below meth c D N a f nL Q σ tgt lv st) : zV p l e R s m args below meth c D N a f nL Q σ pc lv (.int x :: st) := fun H locs ls hP hS hl => lv_lookup C.1 C.2.1 hd hp ho ht (k H locs ls hP hS hl)
theorem r_tableOut (C : zC p s m args meth c D tys N a cc nL own ret) {dflt lo hi : Int} {offs : Array Int} {len : Nat} {x : Int32} {tgt : Nat} (hd : decode cc pc = .ok (.tableswitch dflt lo hi offs, len)) (h : x.toInt < lo ∨ hi < x.toInt) (ht : (pc : Int) + dflt = (tgt : Int)) (k : zV p l e R s m args below meth c D N a f nL Q σ tgt lv st) : zV p l e R s m args below meth c D N a f nL Q σ pc lv (.int x :: st) := fun H locs ls hP hS hl => lv_tableOut C.1 C.2.1 hd h ht (k H locs ls hP hS hl)
theorem r_tableIn (C : zC p s m args meth c D tys N a cc nL own ret) {dflt lo hi : Int} {offs : Array Int} {len : Nat} {x : Int32} {off : Int} {tgt : Nat} (hd : decode cc pc = .ok (.tableswitch dflt lo hi offs, len)) (h1 : ¬ x.toInt < lo) (h2 : ¬ hi < x.toInt) (ho : offs[(x.toInt - lo).toNat]? = some off) (ht : (pc : Int) + off = (tgt : Int)) (k : zV p l e R s m args below meth c D N a f nL Q σ tgt lv st) : zV p l e R s m args below meth c D N a f nL Q σ pc lv (.int x :: st) := fun H locs ls hP hS hl => lv_tableIn C.1 C.2.1 hd h1 h2 ho ht (k H locs ls hP hS hl)
/-- a field is read: fs are the fields of the cell i -/
theorem r_get (C : zC p s m args meth c D tys N a cc nL own ret) {Cn : String} {T : u_T} {n ci index : Nat} {fs : List Value} {v : Value} (i : Nat) (hi : i < N) (hf : f i (σ i) = .inr (ci, fs)) (hc : zcl[ci]? = some (Cn, T, n)) (hin : ∀ w ∈ u_ws Cn T n, w ∈ zbig) (k : Nat) (hk : k < n) (hlink : Cond.fieldLink own index (T k).1 (T k).2.1 (T k).2.2.1 ∈ zbig) (hv : fs[k]? = some v) (hd : decode cc pc = .ok (.getfield index, 3)) (kk : zV p l e R s m args below meth c D N a f nL Q σ (pc + 3) lv (v :: st)) : zV p l e R s m args below meth c D N a f nL Q σ pc lv (.ref (a i) :: st) :=
  fun H locs ls hP hS hl => va_get (D := D) (C := Cn) (T := T) (N := n) C.1 C.2.1 C.2.2.2.2.1 hin C.2.2.2.1 C.2.2.2.2.2.1 hP i (by rw [zwd_get hi, hf]) hc k hk (C.2.2.2.2.1 _ hlink) (fun _ h9 => h9) hv hd (kk H locs ls hP hS hl)
theorem r_put (C : zC p s m args meth c D tys N a cc nL own ret) {Cn : String} {T : u_T} {n ci index : Nat} {fs : List Value} {v : Int32} {φ : Nat → Int32} {K : zSt → Option β} (i : Nat) (hi : i < N) (hf : f i (σ i) = .inr (ci, fs)) (hc : zcl[ci]? = some (Cn, T, n)) (hin : ∀ w ∈ u_ws Cn T n, w ∈ zbig) (ty0 : Nat → FieldType) (hty : ∀ k, k < n → parseFieldDescriptor (T k).2.2.1 = some (ty0 k)) (hnm : ∀ a, a < n → ∀ b, b < n → a ≠ b → (T a).2.1 ≠ (T b).2.1) (k : Nat) (hk : k < n) (hlink : Cond.fieldLink own index (T k).1 (T k).2.1 (T k).2.2.1 ∈ zbig) (hfin : (T k).2.2.2 = false) (hdd : parseFieldDescriptor (T k).2.2.1 = some .int) (hfl : k < fs.length) (hset : f i φ = .inr (ci, fs.set k (.int v))) (hd : decode cc pc = .ok (.putfield index, 3)) (h : znm (zsu σ i φ) K = some o) (kk : ∀ σ', K σ' = some o → zV p l e R s m args below meth c D N a f nL Q σ' (pc + 3) lv st) : zV p l e R s m args below meth c D N a f nL Q σ pc lv (.int v :: .ref (a i) :: st) :=
  fun H locs ls hP hS hl => va_put (D := D) (A := zAA N a) (C := Cn) (T := T) (N := n) C.1 C.2.1 C.2.2.2.2.1 hin ty0 hty hnm C.2.2.2.1 C.2.2.2.2.2.1 hP (zwd_D C.2.2.2.2.2.2.2.1) hS i (by rw [zwd_get hi, hf]) hc k hk (C.2.2.2.2.1 _ hlink) (fun _ h9 => h9) hfin hdd rfl rfl hfl hd (fun H1 locs1 hP1 _ hS1 => kk _ h H1 locs1 ls (by rw [← hset, zwd_set hi] at hP1; exact hP1) hS1 hl)
theorem r_iald (C : zC p s m args meth c D tys N a cc nL own ret) {n t0 : Nat} {cA : ClassId} {x : Int32} {K : Int32 → Option β} (i : Nat) (hi : i < N) (hf : ∀ φ, f i φ = .inl (cA, n, .inl φ)) (ht : tys[t0]? = some (cA, .int)) (hd : decode cc pc = .ok (.iaload, 1)) (h : zga (σ i) x n K = some o) (kk : ∀ v, K v = some o → zV p l e R s m args below meth c D N a f nL Q σ (pc + 1) lv (.int v :: st)) : zV p l e R s m args below meth c D N a f nL Q σ pc lv (.int x :: .ref (a i) :: st) := by
  intro H locs ls hP hS hl
  unfold zga at h
  by_cases hq : 0 ≤ x ∧ x.toNatClampNeg < n
  · rw [if_pos hq] at h
    exact va_iald (D := D) C.1 C.2.1 C.2.2.2.2.2.1 hP i t0 (by rw [zwd_get hi, hf]) ht (zin hq) hd (kk _ h H locs ls hP hS hl)
  · rw [if_neg hq] at h; cases h
theorem r_iast (C : zC p s m args meth c D tys N a cc nL own ret) {n t0 : Nat} {cA : ClassId} {x v : Int32} {K : zSt → Option β} (i : Nat) (hi : i < N) (hf : ∀ φ, f i φ = .inl (cA, n, .inl φ)) (ht : tys[t0]? = some (cA, .int)) (hd : decode cc pc = .ok (.iastore, 1)) (h : zgs σ i x n v K = some o) (kk : ∀ σ', K σ' = some o → zV p l e R s m args below meth c D N a f nL Q σ' (pc + 1) lv st) : zV p l e R s m args below meth c D N a f nL Q σ pc lv (.int v :: .int x :: .ref (a i) :: st) := by
  intro H locs ls hP hS hl
  unfold zgs at h
  by_cases hq : 0 ≤ x ∧ x.toNatClampNeg < n
  · rw [if_pos hq] at h
    exact va_iast (D := D) (A := zAA N a) C.1 C.2.1 C.2.2.2.2.2.1 hP (zwd_D C.2.2.2.2.2.2.2.1) hS i t0 (by rw [zwd_get hi, hf]) ht (zin hq) hd (fun H1 locs1 hP1 _ hS1 => kk _ h H1 locs1 ls (by rw [← hf, zwd_set hi] at hP1; exact hP1) hS1 hl)
  · rw [if_neg hq] at h; cases h
theorem r_aald (C : zC p s m args meth c D tys N a cc nL own ret) {n t0 off : Nat} {cA : ClassId} {ty : FieldType} {x : Int32} {K : Nat → Option β} (i : Nat) (hi : i < N) (hf : ∀ φ, f i φ = .inl (cA, n, .inr (.inr (.inr (.inr (fun j => some (a (off + j)))))))) (ht : tys[t0]? = some (cA, ty)) (hty : ty.isReference = true) (hd : decode cc pc = .ok (.aaload, 1)) (h : zgr x n off K = some o) (kk : ∀ q, off ≤ q → q < off + n → K q = some o → zV p l e R s m args below meth c D N a f nL Q σ (pc + 1) lv (.ref (a q) :: st)) : zV p l e R s m args below meth c D N a f nL Q σ pc lv (.int x :: .ref (a i) :: st) := by
  intro H locs ls hP hS hl
  unfold zgr at h
  by_cases hq : 0 ≤ x ∧ x.toNatClampNeg < n
  · rw [if_pos hq] at h
    have ha : (zwd N a f σ)[i]? = some (a i, .inl (cA, n, .inr (.inr (.inr (.inr (fun j => some (a (off + j)))))))) := by rw [zwd_get hi, hf]
    exact W.aald (v := .ref (a (off + x.toNatClampNeg))) (ty := ty) C.1 C.2.1 (hP i _ ha) ((C.2.2.2.2.2.1.2 t0 _ ht).1 n (fun j => va_rf (some (a (off + j))))) hty (fun q => by cases q) (by show ¬ (x < 0 ∨ (arrV _ _ _).slots.size ≤ _); rw [arrV_size]; exact zin hq) (by show (arrV _ _ _).slots[_]? = _; rw [arrV_read _ _ hq.2]; rfl) rfl rfl hd (kk _ (by omega) (by omega) h H locs ls hP hS hl)
  · rw [if_neg hq] at h; cases h

/-- the words of a call -/
def zwB (y : MethodName) (yc : ByteArray) (yL : Nat) (yret : Option FieldType) (n : Nat) : Prop := Cond.initialized y.cls ∈ zbig ∧ Cond.code y yc yL yret ∈ zbig ∧ (y.cls ≠ "java/lang/invoke/MethodHandle" ∧ y.cls ≠ "java/lang/invoke/VarHandle" ∧ (parseMethodDescriptor y.desc).map (fun d => d.parameters.length) = some n)
def zwV (ow : String) (idx : Nat) (y : MethodName) : Prop := Cond.methodLink ow idx y ∈ zbig ∧ Cond.instanceMethod y ∈ zbig ∧ Cond.selects y.cls y y ∈ zbig
def zwS (ow : String) (idx : Nat) (y : MethodName) : Prop := Cond.methodLink ow idx y ∈ zbig ∧ Cond.static y ∈ zbig
def zrm_ok (rm R : Room) (yL : Nat) : Prop := rm.cells = 0 ∧ rm.slots = 0 ∧ rm.frames + 1 ≤ R.frames ∧ 8 + (yL + 11) + rm.locals ≤ R.locals
theorem zcallB {y : MethodName} {yc : ByteArray} {yL n idx : Nat} {yret : Option FieldType} {rm : Room} (ht : ∀ w ∈ zbig, w.before args s = true) (hB : zwB y yc yL yret n) (hl : Cond.methodLink own idx y ∈ zbig) (hr : zrm_ok rm R yL) : CallB R s args own idx y yc yL yret (.code y yc yL yret :: zbig) rm 0 0 n := by
  refine ⟨hr.1, hr.2.1, hr.2.2.1, hr.2.2.2, pay_in ht (fun w hw => zgood hB.2.1 hw), List.mem_cons_self, ht _ hB.2.1, ht _ hB.1, ⟨hB.2.2.1, hB.2.2.2.1⟩, fun sig h => ?_, ht _ hl⟩
  have h2 := hB.2.2.2.2
  rw [h] at h2
  exact (Option.some.inj h2).symm
theorem zpreS {av : List Value} {H : Heap} (hP : va_P D zcl (zwd N a f σ) H) (hK : va_K D zcl tys s) (hN : ∀ w ∈ znests, va_Nw w s) : PreS s H (zPc D tys N a f av σ) av := ⟨zPc_blind, fun U hU hW => ⟨rfl, by rw [hU]; exact hP, va_K.moved hW.alike hK, znests_warm hW hN⟩⟩
theorem zpreV {As : List Value} {H : Heap} {b ci : Nat} {fs : List Value} {q : vw_C} (hP : va_P D zcl (zwd N a f σ) H) (hK : va_K D zcl tys s) (hN : ∀ w ∈ znests, va_Nw w s) (hb : b < N) (hf : f b (σ b) = .inr (ci, fs)) (hc : zcl[ci]? = some q) : PreV s H q.1 (a b) (zPc D tys N a f (.ref (a b) :: As) σ) As := ⟨zPc_blind, va_recv hK hP hc (by rw [zwd_get hb, hf]), fun U hU hW => ⟨rfl, by rw [hU]; exact hP, va_K.moved hW.alike hK, znests_warm hW hN⟩⟩
theorem r_callVi (C : zC p s m args meth c D tys N a cc nL own ret) {y : MethodName} {yc : ByteArray} {yL n idx : Nat} {yret : Option FieldType} {rm : Room} {mo : Option (Int32 × zSt)} {K : Int32 → zSt → Option β} (As rest : List Value) {b ci : Nat} {fs : List Value} {q : vw_C} (hb : b < N) (hf : f b (σ b) = .inr (ci, fs)) (hc : zcl[ci]? = some q) (hq : y.cls = q.1) (hw : zwV own idx y) (hB : zwB y yc yL yret n) (hr : zrm_ok rm R yL) (hM : ∀ out, mo = some out → zMi l D tys N a f y yc yL yret rm (.ref (a b) :: As) σ out) (hn : As.length = n) (hst : st = As.reverse ++ .ref (a b) :: rest) (hcat : (rest.map fun v => v.category).sum ≤ 8) (hd : decode cc pc = .ok (.invokevirtual idx, 3)) (h : zbd mo K = some o) (kk : ∀ r σ', K r σ' = some o → zV p l e R s m args below meth c D N a f nL Q σ' (pc + 3) lv (.int r :: rest)) : zV p l e R s m args below meth c D N a f nL Q σ pc lv st := by
  intro H locs ls hP hS hl
  obtain ⟨hx, hbb, hml, hown, ht, hK, hN, hinj, hlk, hret⟩ := C
  cases mo with
  | none => cases h
  | some out =>
    obtain ⟨r0, σ0⟩ := out
    have hM := hM (r0, σ0) rfl
    have h : K r0 σ0 = some o := h
    have cw : CallW R s args own y.cls idx y yc yL yret (.code y yc yL yret :: zbig) rm 0 0 n := ⟨zcallB ht hB hw.1 hr, ht _ hw.2.1, ht _ hw.2.2⟩
    have hp : PreV s H y.cls (a b) (zPc D tys N a f (.ref (a b) :: As) σ) As := by rw [hq]; exact zpreV hP hK hN hb hf hc
    refine va_calli (A0 := zAA N a) (va_runV (As := As) (rest := rest) ⟨hx, hbb, hml, hown, ht⟩ hM cw hp rfl hn hl.1 hst (lv_room hcat) hd ⟨Nat.zero_le _, Nat.zero_le _⟩) hS (fun q _ h => h) (fun q h => h) (fun r u t H1 locs1 ht1 hvm hw1 hB1 hz1 hk1 hS1 => ?_)
    cases hw1
    exact kk r0 σ0 h H1 locs1 ls (by rw [← ht1]; exact hB1) hS1 hl
theorem r_callSi (C : zC p s m args meth c D tys N a cc nL own ret) {y : MethodName} {yc : ByteArray} {yL n idx : Nat} {yret : Option FieldType} {rm : Room} {mo : Option (Int32 × zSt)} {K : Int32 → zSt → Option β} (As rest : List Value) (hw : zwS own idx y) (hB : zwB y yc yL yret n) (hr : zrm_ok rm R yL) (hM : ∀ out, mo = some out → zMi l D tys N a f y yc yL yret rm As σ out) (hn : As.length = n) (hst : st = As.reverse ++ rest) (hcat : (rest.map fun v => v.category).sum ≤ 8) (hd : decode cc pc = .ok (.invokestatic idx, 3)) (h : zbd mo K = some o) (kk : ∀ r σ', K r σ' = some o → zV p l e R s m args below meth c D N a f nL Q σ' (pc + 3) lv (.int r :: rest)) : zV p l e R s m args below meth c D N a f nL Q σ pc lv st := by
  intro H locs ls hP hS hl
  obtain ⟨hx, hbb, hml, hown, ht, hK, hN, hinj, hlk, hret⟩ := C
  cases mo with
  | none => cases h
  | some out =>
    obtain ⟨r0, σ0⟩ := out
    have hM := hM (r0, σ0) rfl
    have h : K r0 σ0 = some o := h
    refine va_calli (A0 := zAA N a) (va_runS (As := As) (rest := rest) ⟨hx, hbb, hml, hown, ht⟩ hM ⟨zcallB ht hB hw.1 hr, ht _ hw.2⟩ (zpreS hP hK hN) rfl hn hl.1 hst (lv_room hcat) hd ⟨Nat.zero_le _, Nat.zero_le _⟩) hS (fun q _ h => h) (fun q h => h) (fun r u t H1 locs1 ht1 hvm hw1 hB1 hz1 hk1 hS1 => ?_)
    cases hw1
    exact kk r0 σ0 h H1 locs1 ls (by rw [← ht1]; exact hB1) hS1 hl
theorem r_callNi (C : zC p s m args meth c D tys N a cc nL own ret) {y : MethodName} {yc : ByteArray} {yL n idx : Nat} {yret : Option FieldType} {rm : Room} {mo : Option (Int32 × zSt)} {K : Int32 → zSt → Option β} (As rest : List Value) (host : String) (hnl : Cond.methodLinkNest own idx y host ∈ znests) (hw : Cond.static y ∈ zbig) (hB : zwB y yc yL yret n) (hr : zrm_ok rm R yL) (hM : ∀ out, mo = some out → zMi l D tys N a f y yc yL yret rm As σ out) (hn : As.length = n) (hst : st = As.reverse ++ rest) (hcat : (rest.map fun v => v.category).sum ≤ 8) (hd : decode cc pc = .ok (.invokestatic idx, 3)) (h : zbd mo K = some o) (kk : ∀ r σ', K r σ' = some o → zV p l e R s m args below meth c D N a f nL Q σ' (pc + 3) lv (.int r :: rest)) : zV p l e R s m args below meth c D N a f nL Q σ pc lv st := by
  intro H locs ls hP hS hl
  obtain ⟨hx, hbb, hml, hown, ht, hK, hN, hinj, hlk, hret⟩ := C
  cases mo with
  | none => cases h
  | some out =>
    obtain ⟨r0, σ0⟩ := out
    have hM := hM (r0, σ0) rfl
    have h : K r0 σ0 = some o := h
    have hcn : va_CN R s args own idx y host yc yL yret (.code y yc yL yret :: zbig) rm 0 0 n := va_cnB n ht (fun w hw => zgood hB.2.1 hw) rfl hr.1 hr.2.1 (hN _ hnl) (ht _ hB.1) hB.2.2 ⟨hr.2.2.1, hr.2.2.2⟩
    refine va_calli (A0 := zAA N a) (va_runSN (As := As) (rest := rest) (Ts := zbig) ⟨hx, hbb, hml, hown, ht⟩ hM ⟨hcn, ht _ hw, trivial⟩ (zpreS hP hK hN) rfl hn hl.1 hst (lv_room hcat) hd ⟨Nat.zero_le _, Nat.zero_le _⟩) hS (fun q _ h => h) (fun q h => h) (fun r u t H1 locs1 ht1 hvm hw1 hB1 hz1 hk1 hS1 => ?_)
    cases hw1
    exact kk r0 σ0 h H1 locs1 ls (by rw [← ht1]; exact hB1) hS1 hl
theorem r_callVl (C : zC p s m args meth c D tys N a cc nL own ret) {y : MethodName} {yc : ByteArray} {yL n idx : Nat} {yret : Option FieldType} {rm : Room} {mo : Option (Int64 × zSt)} {K : Int64 → zSt → Option β} (As rest : List Value) {b ci : Nat} {fs : List Value} {q : vw_C} (hb : b < N) (hf : f b (σ b) = .inr (ci, fs)) (hc : zcl[ci]? = some q) (hq : y.cls = q.1) (hw : zwV own idx y) (hB : zwB y yc yL yret n) (hr : zrm_ok rm R yL) (hM : ∀ out, mo = some out → zMl l D tys N a f y yc yL yret rm (.ref (a b) :: As) σ out) (hn : As.length = n) (hst : st = As.reverse ++ .ref (a b) :: rest) (hcat : (rest.map fun v => v.category).sum ≤ 8) (hd : decode cc pc = .ok (.invokevirtual idx, 3)) (h : zbd mo K = some o) (kk : ∀ r σ', K r σ' = some o → zV p l e R s m args below meth c D N a f nL Q σ' (pc + 3) lv (.long r :: rest)) : zV p l e R s m args below meth c D N a f nL Q σ pc lv st := by
  intro H locs ls hP hS hl
  obtain ⟨hx, hbb, hml, hown, ht, hK, hN, hinj, hlk, hret⟩ := C
  cases mo with
  | none => cases h
  | some out =>
    obtain ⟨r0, σ0⟩ := out
    have hM := hM (r0, σ0) rfl
    have h : K r0 σ0 = some o := h
    have cw : CallW R s args own y.cls idx y yc yL yret (.code y yc yL yret :: zbig) rm 0 0 n := ⟨zcallB ht hB hw.1 hr, ht _ hw.2.1, ht _ hw.2.2⟩
    have hp : PreV s H y.cls (a b) (zPc D tys N a f (.ref (a b) :: As) σ) As := by rw [hq]; exact zpreV hP hK hN hb hf hc
    refine va_calll (A0 := zAA N a) (va_runV (As := As) (rest := rest) ⟨hx, hbb, hml, hown, ht⟩ hM cw hp rfl hn hl.1 hst (lv_room hcat) hd ⟨Nat.zero_le _, Nat.zero_le _⟩) hS (fun q _ h => h) (fun q h => h) (fun r u t H1 locs1 ht1 hvm hw1 hB1 hz1 hk1 hS1 => ?_)
    cases hw1
    exact kk r0 σ0 h H1 locs1 ls (by rw [← ht1]; exact hB1) hS1 hl
theorem r_callSl (C : zC p s m args meth c D tys N a cc nL own ret) {y : MethodName} {yc : ByteArray} {yL n idx : Nat} {yret : Option FieldType} {rm : Room} {mo : Option (Int64 × zSt)} {K : Int64 → zSt → Option β} (As rest : List Value) (hw : zwS own idx y) (hB : zwB y yc yL yret n) (hr : zrm_ok rm R yL) (hM : ∀ out, mo = some out → zMl l D tys N a f y yc yL yret rm As σ out) (hn : As.length = n) (hst : st = As.reverse ++ rest) (hcat : (rest.map fun v => v.category).sum ≤ 8) (hd : decode cc pc = .ok (.invokestatic idx, 3)) (h : zbd mo K = some o) (kk : ∀ r σ', K r σ' = some o → zV p l e R s m args below meth c D N a f nL Q σ' (pc + 3) lv (.long r :: rest)) : zV p l e R s m args below meth c D N a f nL Q σ pc lv st := by
  intro H locs ls hP hS hl
  obtain ⟨hx, hbb, hml, hown, ht, hK, hN, hinj, hlk, hret⟩ := C
  cases mo with
  | none => cases h
  | some out =>
    obtain ⟨r0, σ0⟩ := out
    have hM := hM (r0, σ0) rfl
    have h : K r0 σ0 = some o := h
    refine va_calll (A0 := zAA N a) (va_runS (As := As) (rest := rest) ⟨hx, hbb, hml, hown, ht⟩ hM ⟨zcallB ht hB hw.1 hr, ht _ hw.2⟩ (zpreS hP hK hN) rfl hn hl.1 hst (lv_room hcat) hd ⟨Nat.zero_le _, Nat.zero_le _⟩) hS (fun q _ h => h) (fun q h => h) (fun r u t H1 locs1 ht1 hvm hw1 hB1 hz1 hk1 hS1 => ?_)
    cases hw1
    exact kk r0 σ0 h H1 locs1 ls (by rw [← ht1]; exact hB1) hS1 hl
theorem r_callVv (C : zC p s m args meth c D tys N a cc nL own ret) {y : MethodName} {yc : ByteArray} {yL n idx : Nat} {yret : Option FieldType} {rm : Room} {mo : Option zSt} {K : zSt → Option β} (As rest : List Value) {b ci : Nat} {fs : List Value} {q : vw_C} (hb : b < N) (hf : f b (σ b) = .inr (ci, fs)) (hc : zcl[ci]? = some q) (hq : y.cls = q.1) (hw : zwV own idx y) (hB : zwB y yc yL yret n) (hr : zrm_ok rm R yL) (hM : ∀ out, mo = some out → zMv l D tys N a f y yc yL yret rm (.ref (a b) :: As) σ out) (hn : As.length = n) (hst : st = As.reverse ++ .ref (a b) :: rest) (hcat : (rest.map fun v => v.category).sum ≤ 8) (hd : decode cc pc = .ok (.invokevirtual idx, 3)) (h : zbv mo K = some o) (kk : ∀ σ', K σ' = some o → zV p l e R s m args below meth c D N a f nL Q σ' (pc + 3) lv rest) : zV p l e R s m args below meth c D N a f nL Q σ pc lv st := by
  intro H locs ls hP hS hl
  obtain ⟨hx, hbb, hml, hown, ht, hK, hN, hinj, hlk, hret⟩ := C
  cases mo with
  | none => cases h
  | some σ0 =>
    have hM := hM σ0 rfl
    have h : K σ0 = some o := h
    have cw : CallW R s args own y.cls idx y yc yL yret (.code y yc yL yret :: zbig) rm 0 0 n := ⟨zcallB ht hB hw.1 hr, ht _ hw.2.1, ht _ hw.2.2⟩
    have hp : PreV s H y.cls (a b) (zPc D tys N a f (.ref (a b) :: As) σ) As := by rw [hq]; exact zpreV hP hK hN hb hf hc
    refine va_callv (A0 := zAA N a) (va_runV (As := As) (rest := rest) ⟨hx, hbb, hml, hown, ht⟩ hM cw hp rfl hn hl.1 hst (lv_room hcat) hd ⟨Nat.zero_le _, Nat.zero_le _⟩) hS (fun q _ h => h) (fun q h => h) (fun u t H1 locs1 ht1 hvm hw1 hB1 hz1 hk1 hS1 => ?_)
    cases hw1
    exact kk _ h H1 locs1 ls (by rw [← ht1]; exact hB1) hS1 hl
theorem r_mmax (C : zC p s m args meth c D tys N a cc nL own ret) {index : Nat} {x y : Int32} (hw : Cond.methodLink own index Lib.Math.max.name ∈ zbig ∧ Cond.static Lib.Math.max.name ∈ zbig ∧ Cond.initialized "java/lang/Math" ∈ zbig ∧ Cond.code Lib.Math.max.name Lib.Math.max.code 2 (some .int) ∈ zbig) (hfr : 1 ≤ R.frames) (hlo : (st.map fun v => v.category).sum + 13 ≤ R.locals) (hd : decode cc pc = .ok (.invokestatic index, 3)) (k : zV p l e R s m args below meth c D N a f nL Q σ (pc + 3) lv (.int (if x < y then y else x) :: st)) : zV p l e R s m args below meth c D N a f nL Q σ pc lv (.int y :: .int x :: st) := fun H locs ls hP hS hl => va_mmax C.1 C.2.1 (C.2.2.1.trans hl.1.symm) C.2.2.2.1 (C.2.2.2.2.1 _ hw.1) (C.2.2.2.2.1 _ hw.2.1) (C.2.2.2.2.1 _ hw.2.2.1) (C.2.2.2.2.1 _ hw.2.2.2) hfr hlo (Nat.zero_le _) (Nat.zero_le _) hd (k H locs ls hP hS hl)
theorem r_mmin (C : zC p s m args meth c D tys N a cc nL own ret) {index : Nat} {x y : Int32} (hw : Cond.methodLink own index Lib.Math.min.name ∈ zbig ∧ Cond.static Lib.Math.min.name ∈ zbig ∧ Cond.initialized "java/lang/Math" ∈ zbig ∧ Cond.code Lib.Math.min.name Lib.Math.min.code 2 (some .int) ∈ zbig) (hfr : 1 ≤ R.frames) (hlo : (st.map fun v => v.category).sum + 13 ≤ R.locals) (hd : decode cc pc = .ok (.invokestatic index, 3)) (k : zV p l e R s m args below meth c D N a f nL Q σ (pc + 3) lv (.int (if y < x then y else x) :: st)) : zV p l e R s m args below meth c D N a f nL Q σ pc lv (.int y :: .int x :: st) := fun H locs ls hP hS hl => va_mmin C.1 C.2.1 (C.2.2.1.trans hl.1.symm) C.2.2.2.1 (C.2.2.2.2.1 _ hw.1) (C.2.2.2.2.1 _ hw.2.1) (C.2.2.2.2.1 _ hw.2.2.1) (C.2.2.2.2.1 _ hw.2.2.2) hfr hlo (Nat.zero_le _) (Nat.zero_le _) hd (k H locs ls hP hS hl)
theorem r_copy (C : zC p s m args meth c D tys N a cc nL own ret) {index ni nj t0 : Nat} {cA : ClassId} {sp dp n : Int32} {K : zSt → Option β} (i j : Nat) (hi : i < N) (hj : j < N) (hfi : ∀ φ, f i φ = .inl (cA, ni, .inl φ)) (hfj : ∀ φ, f j φ = .inl (cA, nj, .inl φ)) (ht : tys[t0]? = some (cA, .int)) (hw : Cond.methodLink own index arraycopyName ∈ zbig ∧ Cond.native arraycopyName ∈ zbig ∧ Cond.static arraycopyName ∈ zbig ∧ Cond.initialized "java/lang/System" ∈ zbig) (hfr : 1 ≤ R.frames) (hlo : (st.map fun v => v.category).sum + (nativeFrameWords "java/lang/System" "arraycopy" 5 + 11) ≤ R.locals) (hd : decode cc pc = .ok (.invokestatic index, 3)) (h : zcp σ i j ni nj sp dp n K = some o) (kk : ∀ σ', K σ' = some o → zV p l e R s m args below meth c D N a f nL Q σ' (pc + 3) lv st) : zV p l e R s m args below meth c D N a f nL Q σ pc lv (.int n :: .int dp :: .ref (a j) :: .int sp :: .ref (a i) :: st) := by
  intro H locs ls hP hS hl
  unfold zcp at h
  by_cases hq : (0 ≤ sp ∧ 0 ≤ dp ∧ 0 ≤ n) ∧ sp.toNatClampNeg + n.toNatClampNeg ≤ ni ∧ dp.toNatClampNeg + n.toNatClampNeg ≤ nj
  · rw [if_pos hq] at h
    exact va_copyi (D := D) (A := zAA N a) C.1 C.2.1 (C.2.2.1.trans hl.1.symm) C.2.2.2.1 (C.2.2.2.2.1 _ hw.1) (C.2.2.2.2.1 _ hw.2.1) (C.2.2.2.2.1 _ hw.2.2.1) (C.2.2.2.2.1 _ hw.2.2.2) C.2.2.2.2.2.1 hP (zwd_D C.2.2.2.2.2.2.2.1) hS i j t0 t0 (by rw [zwd_get hi, hfi]) (by rw [zwd_get hj, hfj]) ht ht rfl (znn hq.1.1) (znn hq.1.2.1) (znn hq.1.2.2) hq.2.1 hq.2.2 (fun _ _ => rfl) hfr hlo hd (fun H1 locs1 hP1 _ hS1 => kk _ h H1 locs1 ls (by rw [← hfj, zwd_set hj] at hP1; exact hP1) hS1 hl)
  · rw [if_neg hq] at h; cases h
end ZR
section ZE
variable {p : Program} {l : Launch} {e : Env} {R : Room} {s : State} {m : MethodId} {args : Array Value} {below : List Frame} {meth : Method} {c : Code} {D : va_G} {tys : List (ClassId × FieldType)} {N : Nat} {a : Nat → Nat} {f : Nat → (Nat → Int32) → va_E} {cc : ByteArray} {nL : Nat} {own : String} {σ : zSt} {pc : Nat} {lv lv' : List (Option Value)} {st : List Value} {β : Type} {o : β}
theorem r_iret (C : zC p s m args meth c D tys N a cc nL own (some .int)) {v : Int32} {out : Int32 × zSt} (hd : decode cc pc = .ok (.ireturn, 1)) (h : some (v, σ) = some out) : zV p l e R s m args below meth c D N a f nL (zQi below args s D N a f out) σ pc lv [.int v] := by
  cases h
  intro H locs ls hP hS hl
  exact W.iret (v := v) C.1 C.2.1 C.2.2.2.2.2.2.2.2.2 (fun t ht hW => ⟨⟨v, σ, rfl, rfl, by show va_P D zcl (zwd N a f σ) t.heap; rw [ht]; exact hP⟩, hS.F ht⟩) hS.2.2 hd C.2.2.2.2.2.2.2.2.1
theorem r_zret (C : zC p s m args meth c D tys N a cc nL own (some .boolean)) {v : Int32} {out : Int32 × zSt} (hd : decode cc pc = .ok (.ireturn, 1)) (h : zgz v σ = some out) : zV p l e R s m args below meth c D N a f nL (zQi below args s D N a f out) σ pc lv [.int v] := by
  intro H locs ls hP hS hl
  unfold zgz at h
  by_cases hv : v = 0 ∨ v = 1
  · rw [if_pos hv] at h
    cases h
    have hn : narrow .boolean (.int v) = .int v := by rcases hv with rfl | rfl <;> rfl
    exact W.zret (v := v) C.1 C.2.1 C.2.2.2.2.2.2.2.2.2 hn (fun t ht hW => ⟨⟨v, σ, rfl, rfl, by show va_P D zcl (zwd N a f σ) t.heap; rw [ht]; exact hP⟩, hS.F ht⟩) hS.2.2 hd C.2.2.2.2.2.2.2.2.1
  · rw [if_neg hv] at h; cases h
theorem r_lret (C : zC p s m args meth c D tys N a cc nL own (some .long)) {v : Int64} {out : Int64 × zSt} (hd : decode cc pc = .ok (.lreturn, 1)) (h : some (v, σ) = some out) : zV p l e R s m args below meth c D N a f nL (zQl below args s D N a f out) σ pc lv [.long v] := by
  cases h
  intro H locs ls hP hS hl
  exact W.lret (v := v) C.1 C.2.1 C.2.2.2.2.2.2.2.2.2 (fun t ht hW => ⟨⟨v, σ, rfl, rfl, by show va_P D zcl (zwd N a f σ) t.heap; rw [ht]; exact hP⟩, hS.F ht⟩) hS.2.2 hd C.2.2.2.2.2.2.2.2.1
theorem r_vret (C : zC p s m args meth c D tys N a cc nL own none) {out : zSt} (hd : decode cc pc = .ok (.return_, 1)) (h : some σ = some out) : zV p l e R s m args below meth c D N a f nL (zQv below args s D N a f out) σ pc lv [] := by
  cases h
  intro H locs ls hP hS hl
  exact W.vret C.1 C.2.1 C.2.2.2.2.2.2.2.2.2 (fun t ht hW => ⟨⟨σ, rfl, rfl, by show va_P D zcl (zwd N a f σ) t.heap; rw [ht]; exact hP⟩, hS.F ht⟩) hS.2.2 hd C.2.2.2.2.2.2.2.2.1
end ZE
theorem zmeti {l : Launch} {D : va_G} {tys : List (ClassId × FieldType)} {N : Nat} {a : Nat → Nat} {f : Nat → (Nat → Int32) → va_E} {y : MethodName} {cc : ByteArray} {nL : Nat} {ret : Option FieldType} {rm : Room} {av : List Value} {σ : zSt} {out : Int32 × zSt} {own : String} (lv : List (Option Value)) (hy : plainName y.cls = true) (ho : y.cls = own) (hinj : ∀ i j, i < N → j < N → a i = a j → i = j) (hle : (lg_sl av).length ≤ nL) (hlv : lv_args 0 av = zlp 0 lv) (body : ∀ (p : Program) (e : Env) (s : State) (m : MethodId) (args : Array Value) (below : List Frame) (meth : Method) (c : Code), zC p s m args meth c D tys N a cc nL own ret → zV p l e rm s m args below meth c D N a f nL (zQi below args s D N a f out) σ 0 lv []) : zMi l D tys N a f y cc nL ret rm av σ out := by
  refine Met.ofW (cc := cc) (maxL := nL) (ret := ret) hy rfl ?_
  intro p e s m args below meth c s₁ B hml hv
  obtain ⟨rfl, hP, hK, hN⟩ := hv
  have hts := atoms_spec (ws := .code y cc nL ret :: zbig) B.pre
  have hown : s.vm.findClass own = some m.cls := ho ▸ findClass_of_methodNamed B.named
  have C : zC p s m av.toArray meth c D tys N a cc nL own ret := ⟨B.exec, B.bytes, hml, hown, fun w hw => hts w (List.mem_cons_of_mem _ hw), hK, hN, hinj, B.notSynchronized, B.returns⟩
  rw [lg_entry_eq]
  have hl := lv_entry av (n := nL) hle
  rw [hlv] at hl
  exact body p e s m av.toArray below meth c C s.heap [] _ hP va_S.rf hl
theorem zmetl {l : Launch} {D : va_G} {tys : List (ClassId × FieldType)} {N : Nat} {a : Nat → Nat} {f : Nat → (Nat → Int32) → va_E} {y : MethodName} {cc : ByteArray} {nL : Nat} {ret : Option FieldType} {rm : Room} {av : List Value} {σ : zSt} {out : Int64 × zSt} {own : String} (lv : List (Option Value)) (hy : plainName y.cls = true) (ho : y.cls = own) (hinj : ∀ i j, i < N → j < N → a i = a j → i = j) (hle : (lg_sl av).length ≤ nL) (hlv : lv_args 0 av = zlp 0 lv) (body : ∀ (p : Program) (e : Env) (s : State) (m : MethodId) (args : Array Value) (below : List Frame) (meth : Method) (c : Code), zC p s m args meth c D tys N a cc nL own ret → zV p l e rm s m args below meth c D N a f nL (zQl below args s D N a f out) σ 0 lv []) : zMl l D tys N a f y cc nL ret rm av σ out := by
  refine Met.ofW (cc := cc) (maxL := nL) (ret := ret) hy rfl ?_
  intro p e s m args below meth c s₁ B hml hv
  obtain ⟨rfl, hP, hK, hN⟩ := hv
  have hts := atoms_spec (ws := .code y cc nL ret :: zbig) B.pre
  have hown : s.vm.findClass own = some m.cls := ho ▸ findClass_of_methodNamed B.named
  have C : zC p s m av.toArray meth c D tys N a cc nL own ret := ⟨B.exec, B.bytes, hml, hown, fun w hw => hts w (List.mem_cons_of_mem _ hw), hK, hN, hinj, B.notSynchronized, B.returns⟩
  rw [lg_entry_eq]
  have hl := lv_entry av (n := nL) hle
  rw [hlv] at hl
  exact body p e s m av.toArray below meth c C s.heap [] _ hP va_S.rf hl
theorem zmetv {l : Launch} {D : va_G} {tys : List (ClassId × FieldType)} {N : Nat} {a : Nat → Nat} {f : Nat → (Nat → Int32) → va_E} {y : MethodName} {cc : ByteArray} {nL : Nat} {ret : Option FieldType} {rm : Room} {av : List Value} {σ : zSt} {out : zSt} {own : String} (lv : List (Option Value)) (hy : plainName y.cls = true) (ho : y.cls = own) (hinj : ∀ i j, i < N → j < N → a i = a j → i = j) (hle : (lg_sl av).length ≤ nL) (hlv : lv_args 0 av = zlp 0 lv) (body : ∀ (p : Program) (e : Env) (s : State) (m : MethodId) (args : Array Value) (below : List Frame) (meth : Method) (c : Code), zC p s m args meth c D tys N a cc nL own ret → zV p l e rm s m args below meth c D N a f nL (zQv below args s D N a f out) σ 0 lv []) : zMv l D tys N a f y cc nL ret rm av σ out := by
  refine Met.ofW (cc := cc) (maxL := nL) (ret := ret) hy rfl ?_
  intro p e s m args below meth c s₁ B hml hv
  obtain ⟨rfl, hP, hK, hN⟩ := hv
  have hts := atoms_spec (ws := .code y cc nL ret :: zbig) B.pre
  have hown : s.vm.findClass own = some m.cls := ho ▸ findClass_of_methodNamed B.named
  have C : zC p s m av.toArray meth c D tys N a cc nL own ret := ⟨B.exec, B.bytes, hml, hown, fun w hw => hts w (List.mem_cons_of_mem _ hw), hK, hN, hinj, B.notSynchronized, B.returns⟩
  rw [lg_entry_eq]
  have hl := lv_entry av (n := nL) hle
  rw [hlv] at hl
  exact body p e s m av.toArray below meth c C s.heap [] _ hP va_S.rf hl
end
