section
-- ===== PART A: goes FIRST, ahead of the names: the tables' words, and 'selects' of the private methods out of them =====
/-- a private method of a class that the tables say can be made, by its rows of tables_1 -/
def lw_okq (q : MethodName × Nat) : Prop := (q.1.cls ≠ "java/lang/invoke/MethodHandle" ∧ q.1.cls ≠ "java/lang/invoke/VarHandle") ∧ Cond.instantiable q.1.cls q.2 ∈ tables_1 ∧ Cond.privateMethod q.1 ∈ tables_1 ∧ Cond.instanceMethod q.1 ∈ tables_1
theorem lw_p0 : lw_okq (⟨"JuryDesk", "find", "(I)LJuryDesk$Heat;"⟩, 5) := ⟨⟨by decide +kernel, by decide +kernel⟩, List.mem_of_getElem? (i := 16) (by decide +kernel), List.mem_of_getElem? (i := 89) (by decide +kernel), List.mem_of_getElem? (i := 90) (by decide +kernel)⟩
theorem lw_p1 : lw_okq (⟨"JuryDesk$Reason", "measure", "(LJuryDesk$Heat;I)V"⟩, 3) := ⟨⟨by decide +kernel, by decide +kernel⟩, List.mem_of_getElem? (i := 26) (by decide +kernel), List.mem_of_getElem? (i := 109) (by decide +kernel), List.mem_of_getElem? (i := 110) (by decide +kernel)⟩
theorem lw_p2 : lw_okq (⟨"JuryDesk$Reason", "leastToward", "(LJuryDesk$Heat;II)I"⟩, 3) := ⟨⟨by decide +kernel, by decide +kernel⟩, List.mem_of_getElem? (i := 26) (by decide +kernel), List.mem_of_getElem? (i := 118) (by decide +kernel), List.mem_of_getElem? (i := 119) (by decide +kernel)⟩
theorem lw_p3 : lw_okq (⟨"JuryDesk$Heat", "settle", "()V"⟩, 9) := ⟨⟨by decide +kernel, by decide +kernel⟩, List.mem_of_getElem? (i := 128) (by decide +kernel), List.mem_of_getElem? (i := 126) (by decide +kernel), List.mem_of_getElem? (i := 127) (by decide +kernel)⟩
theorem lw_p4 : lw_okq (⟨"JuryDesk$Heat", "leadOn", "()V"⟩, 9) := ⟨⟨by decide +kernel, by decide +kernel⟩, List.mem_of_getElem? (i := 128) (by decide +kernel), List.mem_of_getElem? (i := 133) (by decide +kernel), List.mem_of_getElem? (i := 134) (by decide +kernel)⟩
theorem lw_p5 : lw_okq (⟨"JuryDesk$Heat", "turn", "()V"⟩, 9) := ⟨⟨by decide +kernel, by decide +kernel⟩, List.mem_of_getElem? (i := 128) (by decide +kernel), List.mem_of_getElem? (i := 137) (by decide +kernel), List.mem_of_getElem? (i := 138) (by decide +kernel)⟩
theorem lw_p6 : lw_okq (⟨"JuryDesk", "unload", "(I)V"⟩, 5) := ⟨⟨by decide +kernel, by decide +kernel⟩, List.mem_of_getElem? (i := 16) (by decide +kernel), List.mem_of_getElem? (i := 145) (by decide +kernel), List.mem_of_getElem? (i := 146) (by decide +kernel)⟩
theorem lw_p7 : lw_okq (⟨"JuryDesk", "total", "(ILJuryDesk$Heat;)J"⟩, 5) := ⟨⟨by decide +kernel, by decide +kernel⟩, List.mem_of_getElem? (i := 16) (by decide +kernel), List.mem_of_getElem? (i := 195) (by decide +kernel), List.mem_of_getElem? (i := 196) (by decide +kernel)⟩
theorem lw_p8 : lw_okq (⟨"JuryDesk", "load", "(ILJuryDesk$Heat;)V"⟩, 5) := ⟨⟨by decide +kernel, by decide +kernel⟩, List.mem_of_getElem? (i := 16) (by decide +kernel), List.mem_of_getElem? (i := 199) (by decide +kernel), List.mem_of_getElem? (i := 200) (by decide +kernel)⟩
theorem lw_p9 : lw_okq (⟨"JuryDesk$Lattice", "setBars", "([I)V"⟩, 4) := ⟨⟨by decide +kernel, by decide +kernel⟩, List.mem_of_getElem? (i := 45) (by decide +kernel), List.mem_of_getElem? (i := 207) (by decide +kernel), List.mem_of_getElem? (i := 208) (by decide +kernel)⟩
theorem lw_p10 : lw_okq (⟨"JuryDesk$Lattice", "countHeads", "(LJuryDesk$Heat;)V"⟩, 4) := ⟨⟨by decide +kernel, by decide +kernel⟩, List.mem_of_getElem? (i := 45) (by decide +kernel), List.mem_of_getElem? (i := 215) (by decide +kernel), List.mem_of_getElem? (i := 216) (by decide +kernel)⟩
theorem lw_p11 : lw_okq (⟨"JuryDesk$Lattice", "clearHeads", "(LJuryDesk$Heat;)V"⟩, 4) := ⟨⟨by decide +kernel, by decide +kernel⟩, List.mem_of_getElem? (i := 45) (by decide +kernel), List.mem_of_getElem? (i := 219) (by decide +kernel), List.mem_of_getElem? (i := 220) (by decide +kernel)⟩
theorem lw_p12 : lw_okq (⟨"JuryDesk$Lattice", "handOn", "(LJuryDesk$Heat;I)V"⟩, 4) := ⟨⟨by decide +kernel, by decide +kernel⟩, List.mem_of_getElem? (i := 45) (by decide +kernel), List.mem_of_getElem? (i := 227) (by decide +kernel), List.mem_of_getElem? (i := 228) (by decide +kernel)⟩
theorem lw_p13 : lw_okq (⟨"JuryDesk$Lattice", "readyOf", "(I)I"⟩, 4) := ⟨⟨by decide +kernel, by decide +kernel⟩, List.mem_of_getElem? (i := 45) (by decide +kernel), List.mem_of_getElem? (i := 231) (by decide +kernel), List.mem_of_getElem? (i := 232) (by decide +kernel)⟩
theorem lw_p14 : lw_okq (⟨"JuryDesk$Lattice", "countTails", "(LJuryDesk$Heat;)V"⟩, 4) := ⟨⟨by decide +kernel, by decide +kernel⟩, List.mem_of_getElem? (i := 45) (by decide +kernel), List.mem_of_getElem? (i := 235) (by decide +kernel), List.mem_of_getElem? (i := 236) (by decide +kernel)⟩
theorem lw_p15 : lw_okq (⟨"JuryDesk$Lattice", "gather", "(LJuryDesk$Heat;I)J"⟩, 4) := ⟨⟨by decide +kernel, by decide +kernel⟩, List.mem_of_getElem? (i := 45) (by decide +kernel), List.mem_of_getElem? (i := 239) (by decide +kernel), List.mem_of_getElem? (i := 240) (by decide +kernel)⟩
def lw_privs_1 : List (MethodName × Nat) := [(⟨"JuryDesk", "find", "(I)LJuryDesk$Heat;"⟩, 5), (⟨"JuryDesk$Reason", "measure", "(LJuryDesk$Heat;I)V"⟩, 3), (⟨"JuryDesk$Reason", "leastToward", "(LJuryDesk$Heat;II)I"⟩, 3), (⟨"JuryDesk$Heat", "settle", "()V"⟩, 9), (⟨"JuryDesk$Heat", "leadOn", "()V"⟩, 9), (⟨"JuryDesk$Heat", "turn", "()V"⟩, 9), (⟨"JuryDesk", "unload", "(I)V"⟩, 5), (⟨"JuryDesk", "total", "(ILJuryDesk$Heat;)J"⟩, 5), (⟨"JuryDesk", "load", "(ILJuryDesk$Heat;)V"⟩, 5), (⟨"JuryDesk$Lattice", "setBars", "([I)V"⟩, 4), (⟨"JuryDesk$Lattice", "countHeads", "(LJuryDesk$Heat;)V"⟩, 4), (⟨"JuryDesk$Lattice", "clearHeads", "(LJuryDesk$Heat;)V"⟩, 4), (⟨"JuryDesk$Lattice", "handOn", "(LJuryDesk$Heat;I)V"⟩, 4), (⟨"JuryDesk$Lattice", "readyOf", "(I)I"⟩, 4), (⟨"JuryDesk$Lattice", "countTails", "(LJuryDesk$Heat;)V"⟩, 4), (⟨"JuryDesk$Lattice", "gather", "(LJuryDesk$Heat;I)J"⟩, 4)]
theorem lw_r1 : ∀ q ∈ lw_privs_1, lw_okq q := List.forall_mem_cons.mpr ⟨lw_p0, List.forall_mem_cons.mpr ⟨lw_p1, List.forall_mem_cons.mpr ⟨lw_p2, List.forall_mem_cons.mpr ⟨lw_p3, List.forall_mem_cons.mpr ⟨lw_p4, List.forall_mem_cons.mpr ⟨lw_p5, List.forall_mem_cons.mpr ⟨lw_p6, List.forall_mem_cons.mpr ⟨lw_p7, List.forall_mem_cons.mpr ⟨lw_p8, List.forall_mem_cons.mpr ⟨lw_p9, List.forall_mem_cons.mpr ⟨lw_p10, List.forall_mem_cons.mpr ⟨lw_p11, List.forall_mem_cons.mpr ⟨lw_p12, List.forall_mem_cons.mpr ⟨lw_p13, List.forall_mem_cons.mpr ⟨lw_p14, List.forall_mem_cons.mpr ⟨lw_p15, fun _ h => absurd h List.not_mem_nil⟩⟩⟩⟩⟩⟩⟩⟩⟩⟩⟩⟩⟩⟩⟩⟩
theorem lw_p16 : lw_okq (⟨"JuryDesk", "tally", "(ILJuryDesk$Heat;)V"⟩, 5) := ⟨⟨by decide +kernel, by decide +kernel⟩, List.mem_of_getElem? (i := 16) (by decide +kernel), List.mem_of_getElem? (i := 251) (by decide +kernel), List.mem_of_getElem? (i := 252) (by decide +kernel)⟩
theorem lw_p17 : lw_okq (⟨"JuryDesk$Lattice", "fillBehind", "(LJuryDesk$Heat;I)V"⟩, 4) := ⟨⟨by decide +kernel, by decide +kernel⟩, List.mem_of_getElem? (i := 45) (by decide +kernel), List.mem_of_getElem? (i := 266) (by decide +kernel), List.mem_of_getElem? (i := 267) (by decide +kernel)⟩
theorem lw_p18 : lw_okq (⟨"JuryDesk$Rows", "widthOf", "(LJuryDesk$Heat;I)I"⟩, 8) := ⟨⟨by decide +kernel, by decide +kernel⟩, List.mem_of_getElem? (i := 353) (by decide +kernel), List.mem_of_getElem? (i := 351) (by decide +kernel), List.mem_of_getElem? (i := 352) (by decide +kernel)⟩
theorem lw_p19 : lw_okq (⟨"JuryDesk$Rows", "mostPairs", "(LJuryDesk$Heat;II)I"⟩, 8) := ⟨⟨by decide +kernel, by decide +kernel⟩, List.mem_of_getElem? (i := 353) (by decide +kernel), List.mem_of_getElem? (i := 357) (by decide +kernel), List.mem_of_getElem? (i := 358) (by decide +kernel)⟩
theorem lw_p20 : lw_okq (⟨"JuryDesk$Rows", "pairUp", "(LJuryDesk$Heat;II)Z"⟩, 8) := ⟨⟨by decide +kernel, by decide +kernel⟩, List.mem_of_getElem? (i := 353) (by decide +kernel), List.mem_of_getElem? (i := 363) (by decide +kernel), List.mem_of_getElem? (i := 364) (by decide +kernel)⟩
theorem lw_p21 : lw_okq (⟨"JuryDesk$Rows", "changePartners", "(I)V"⟩, 8) := ⟨⟨by decide +kernel, by decide +kernel⟩, List.mem_of_getElem? (i := 353) (by decide +kernel), List.mem_of_getElem? (i := 367) (by decide +kernel), List.mem_of_getElem? (i := 368) (by decide +kernel)⟩
theorem lw_p22 : lw_okq (⟨"JuryDesk$Rows", "chooseFollowers", "(LJuryDesk$Heat;)V"⟩, 8) := ⟨⟨by decide +kernel, by decide +kernel⟩, List.mem_of_getElem? (i := 353) (by decide +kernel), List.mem_of_getElem? (i := 371) (by decide +kernel), List.mem_of_getElem? (i := 372) (by decide +kernel)⟩
theorem lw_p23 : lw_okq (⟨"JuryDesk$Rows", "leastFollower", "(LJuryDesk$Heat;IIII)I"⟩, 8) := ⟨⟨by decide +kernel, by decide +kernel⟩, List.mem_of_getElem? (i := 353) (by decide +kernel), List.mem_of_getElem? (i := 376) (by decide +kernel), List.mem_of_getElem? (i := 377) (by decide +kernel)⟩
theorem lw_p24 : lw_okq (⟨"JuryDesk$Rows", "chooseTie", "(LJuryDesk$Heat;)V"⟩, 8) := ⟨⟨by decide +kernel, by decide +kernel⟩, List.mem_of_getElem? (i := 353) (by decide +kernel), List.mem_of_getElem? (i := 380) (by decide +kernel), List.mem_of_getElem? (i := 381) (by decide +kernel)⟩
theorem lw_p25 : lw_okq (⟨"java/lang/Throwable", "fillInStackTrace", "(I)Ljava/lang/Throwable;"⟩, 6) := ⟨⟨by decide +kernel, by decide +kernel⟩, List.mem_of_getElem? (i := 456) (by decide +kernel), List.mem_of_getElem? (i := 454) (by decide +kernel), List.mem_of_getElem? (i := 455) (by decide +kernel)⟩
theorem lw_p26 : lw_okq (⟨"JuryDeskModel", "there", "(II)Z"⟩, 24) := ⟨⟨by decide +kernel, by decide +kernel⟩, List.mem_of_getElem? (i := 612) (by decide +kernel), List.mem_of_getElem? (i := 704) (by decide +kernel), List.mem_of_getElem? (i := 705) (by decide +kernel)⟩
theorem lw_p27 : lw_okq (⟨"JuryDeskModel", "settle", "(I)V"⟩, 24) := ⟨⟨by decide +kernel, by decide +kernel⟩, List.mem_of_getElem? (i := 612) (by decide +kernel), List.mem_of_getElem? (i := 708) (by decide +kernel), List.mem_of_getElem? (i := 709) (by decide +kernel)⟩
theorem lw_p28 : lw_okq (⟨"JuryDeskModel", "inForce", "(II)Z"⟩, 24) := ⟨⟨by decide +kernel, by decide +kernel⟩, List.mem_of_getElem? (i := 612) (by decide +kernel), List.mem_of_getElem? (i := 712) (by decide +kernel), List.mem_of_getElem? (i := 713) (by decide +kernel)⟩
theorem lw_p29 : lw_okq (⟨"JuryDeskModel", "findWhy", "(III)V"⟩, 24) := ⟨⟨by decide +kernel, by decide +kernel⟩, List.mem_of_getElem? (i := 612) (by decide +kernel), List.mem_of_getElem? (i := 716) (by decide +kernel), List.mem_of_getElem? (i := 717) (by decide +kernel)⟩
theorem lw_p30 : lw_okq (⟨"JuryDeskModel", "isHeat", "(I)Z"⟩, 24) := ⟨⟨by decide +kernel, by decide +kernel⟩, List.mem_of_getElem? (i := 612) (by decide +kernel), List.mem_of_getElem? (i := 732) (by decide +kernel), List.mem_of_getElem? (i := 733) (by decide +kernel)⟩
theorem lw_p31 : lw_okq (⟨"JuryDeskModel", "countAll", "(I)V"⟩, 24) := ⟨⟨by decide +kernel, by decide +kernel⟩, List.mem_of_getElem? (i := 612) (by decide +kernel), List.mem_of_getElem? (i := 756) (by decide +kernel), List.mem_of_getElem? (i := 757) (by decide +kernel)⟩
def lw_privs_2 : List (MethodName × Nat) := [(⟨"JuryDesk", "tally", "(ILJuryDesk$Heat;)V"⟩, 5), (⟨"JuryDesk$Lattice", "fillBehind", "(LJuryDesk$Heat;I)V"⟩, 4), (⟨"JuryDesk$Rows", "widthOf", "(LJuryDesk$Heat;I)I"⟩, 8), (⟨"JuryDesk$Rows", "mostPairs", "(LJuryDesk$Heat;II)I"⟩, 8), (⟨"JuryDesk$Rows", "pairUp", "(LJuryDesk$Heat;II)Z"⟩, 8), (⟨"JuryDesk$Rows", "changePartners", "(I)V"⟩, 8), (⟨"JuryDesk$Rows", "chooseFollowers", "(LJuryDesk$Heat;)V"⟩, 8), (⟨"JuryDesk$Rows", "leastFollower", "(LJuryDesk$Heat;IIII)I"⟩, 8), (⟨"JuryDesk$Rows", "chooseTie", "(LJuryDesk$Heat;)V"⟩, 8), (⟨"java/lang/Throwable", "fillInStackTrace", "(I)Ljava/lang/Throwable;"⟩, 6), (⟨"JuryDeskModel", "there", "(II)Z"⟩, 24), (⟨"JuryDeskModel", "settle", "(I)V"⟩, 24), (⟨"JuryDeskModel", "inForce", "(II)Z"⟩, 24), (⟨"JuryDeskModel", "findWhy", "(III)V"⟩, 24), (⟨"JuryDeskModel", "isHeat", "(I)Z"⟩, 24), (⟨"JuryDeskModel", "countAll", "(I)V"⟩, 24)]
theorem lw_r2 : ∀ q ∈ lw_privs_2, lw_okq q := List.forall_mem_cons.mpr ⟨lw_p16, List.forall_mem_cons.mpr ⟨lw_p17, List.forall_mem_cons.mpr ⟨lw_p18, List.forall_mem_cons.mpr ⟨lw_p19, List.forall_mem_cons.mpr ⟨lw_p20, List.forall_mem_cons.mpr ⟨lw_p21, List.forall_mem_cons.mpr ⟨lw_p22, List.forall_mem_cons.mpr ⟨lw_p23, List.forall_mem_cons.mpr ⟨lw_p24, List.forall_mem_cons.mpr ⟨lw_p25, List.forall_mem_cons.mpr ⟨lw_p26, List.forall_mem_cons.mpr ⟨lw_p27, List.forall_mem_cons.mpr ⟨lw_p28, List.forall_mem_cons.mpr ⟨lw_p29, List.forall_mem_cons.mpr ⟨lw_p30, List.forall_mem_cons.mpr ⟨lw_p31, fun _ h => absurd h List.not_mem_nil⟩⟩⟩⟩⟩⟩⟩⟩⟩⟩⟩⟩⟩⟩⟩⟩
theorem lw_p32 : lw_okq (⟨"JuryDeskModel", "mayCome", "(II)Z"⟩, 24) := ⟨⟨by decide +kernel, by decide +kernel⟩, List.mem_of_getElem? (i := 612) (by decide +kernel), List.mem_of_getElem? (i := 760) (by decide +kernel), List.mem_of_getElem? (i := 761) (by decide +kernel)⟩
theorem lw_p33 : lw_okq (⟨"JuryDeskModel", "rank", "(III)J"⟩, 24) := ⟨⟨by decide +kernel, by decide +kernel⟩, List.mem_of_getElem? (i := 612) (by decide +kernel), List.mem_of_getElem? (i := 768) (by decide +kernel), List.mem_of_getElem? (i := 769) (by decide +kernel)⟩
theorem lw_p34 : lw_okq (⟨"JuryDeskModel", "pairs", "(I)V"⟩, 24) := ⟨⟨by decide +kernel, by decide +kernel⟩, List.mem_of_getElem? (i := 612) (by decide +kernel), List.mem_of_getElem? (i := 804) (by decide +kernel), List.mem_of_getElem? (i := 805) (by decide +kernel)⟩
theorem lw_p35 : lw_okq (⟨"JuryDeskModel", "widest", "(I)V"⟩, 24) := ⟨⟨by decide +kernel, by decide +kernel⟩, List.mem_of_getElem? (i := 612) (by decide +kernel), List.mem_of_getElem? (i := 812) (by decide +kernel), List.mem_of_getElem? (i := 813) (by decide +kernel)⟩
theorem lw_p36 : lw_okq (⟨"JuryDeskModel", "apart", "(I)Z"⟩, 24) := ⟨⟨by decide +kernel, by decide +kernel⟩, List.mem_of_getElem? (i := 612) (by decide +kernel), List.mem_of_getElem? (i := 816) (by decide +kernel), List.mem_of_getElem? (i := 817) (by decide +kernel)⟩
theorem lw_p37 : lw_okq (⟨"JuryDeskModel", "rows", "(I)I"⟩, 24) := ⟨⟨by decide +kernel, by decide +kernel⟩, List.mem_of_getElem? (i := 612) (by decide +kernel), List.mem_of_getElem? (i := 831) (by decide +kernel), List.mem_of_getElem? (i := 832) (by decide +kernel)⟩
theorem lw_p38 : lw_okq (⟨"JuryDeskModel", "most", "(I)I"⟩, 24) := ⟨⟨by decide +kernel, by decide +kernel⟩, List.mem_of_getElem? (i := 612) (by decide +kernel), List.mem_of_getElem? (i := 835) (by decide +kernel), List.mem_of_getElem? (i := 836) (by decide +kernel)⟩
theorem lw_p39 : lw_okq (⟨"JuryDeskModel", "grow", "(I)Z"⟩, 24) := ⟨⟨by decide +kernel, by decide +kernel⟩, List.mem_of_getElem? (i := 612) (by decide +kernel), List.mem_of_getElem? (i := 839) (by decide +kernel), List.mem_of_getElem? (i := 840) (by decide +kernel)⟩
theorem lw_p40 : lw_okq (⟨"JuryDeskModel", "turnAbout", "(I)V"⟩, 24) := ⟨⟨by decide +kernel, by decide +kernel⟩, List.mem_of_getElem? (i := 612) (by decide +kernel), List.mem_of_getElem? (i := 843) (by decide +kernel), List.mem_of_getElem? (i := 844) (by decide +kernel)⟩
theorem lw_p41 : lw_okq (⟨"JuryDeskModel", "free", "(II)Z"⟩, 24) := ⟨⟨by decide +kernel, by decide +kernel⟩, List.mem_of_getElem? (i := 612) (by decide +kernel), List.mem_of_getElem? (i := 847) (by decide +kernel), List.mem_of_getElem? (i := 848) (by decide +kernel)⟩
def lw_privs_3 : List (MethodName × Nat) := [(⟨"JuryDeskModel", "mayCome", "(II)Z"⟩, 24), (⟨"JuryDeskModel", "rank", "(III)J"⟩, 24), (⟨"JuryDeskModel", "pairs", "(I)V"⟩, 24), (⟨"JuryDeskModel", "widest", "(I)V"⟩, 24), (⟨"JuryDeskModel", "apart", "(I)Z"⟩, 24), (⟨"JuryDeskModel", "rows", "(I)I"⟩, 24), (⟨"JuryDeskModel", "most", "(I)I"⟩, 24), (⟨"JuryDeskModel", "grow", "(I)Z"⟩, 24), (⟨"JuryDeskModel", "turnAbout", "(I)V"⟩, 24), (⟨"JuryDeskModel", "free", "(II)Z"⟩, 24)]
theorem lw_r3 : ∀ q ∈ lw_privs_3, lw_okq q := List.forall_mem_cons.mpr ⟨lw_p32, List.forall_mem_cons.mpr ⟨lw_p33, List.forall_mem_cons.mpr ⟨lw_p34, List.forall_mem_cons.mpr ⟨lw_p35, List.forall_mem_cons.mpr ⟨lw_p36, List.forall_mem_cons.mpr ⟨lw_p37, List.forall_mem_cons.mpr ⟨lw_p38, List.forall_mem_cons.mpr ⟨lw_p39, List.forall_mem_cons.mpr ⟨lw_p40, List.forall_mem_cons.mpr ⟨lw_p41, fun _ h => absurd h List.not_mem_nil⟩⟩⟩⟩⟩⟩⟩⟩⟩⟩
def lw_privs : List (MethodName × Nat) := lw_privs_1 ++ (lw_privs_2 ++ (lw_privs_3))
def lw_tbl : List Cond := k2_sels lw_privs ++ tables_1
theorem lw_privs_ok : ∀ q ∈ lw_privs, lw_okq q := by
  show ∀ q ∈ lw_privs_1 ++ (lw_privs_2 ++ (lw_privs_3)), lw_okq q
  exact List.forall_mem_append.mpr ⟨lw_r1, List.forall_mem_append.mpr ⟨lw_r2, lw_r3⟩⟩
def TB_0 : List Cond := [(Jvm.Cond.selects "JuryDesk" ({ cls := "JuryDesk", name := "find", desc := "(I)LJuryDesk$Heat;" } : Jvm.MethodName) ({ cls := "JuryDesk", name := "find", desc := "(I)LJuryDesk$Heat;" } : Jvm.MethodName)), (Jvm.Cond.selects "JuryDesk$Reason" ({ cls := "JuryDesk$Reason", name := "measure", desc := "(LJuryDesk$Heat;I)V" } : Jvm.MethodName) ({ cls := "JuryDesk$Reason", name := "measure", desc := "(LJuryDesk$Heat;I)V" } : Jvm.MethodName)), (Jvm.Cond.selects "JuryDesk$Reason" ({ cls := "JuryDesk$Reason", name := "leastToward", desc := "(LJuryDesk$Heat;II)I" } : Jvm.MethodName) ({ cls := "JuryDesk$Reason", name := "leastToward", desc := "(LJuryDesk$Heat;II)I" } : Jvm.MethodName)), (Jvm.Cond.selects "JuryDesk$Heat" ({ cls := "JuryDesk$Heat", name := "settle", desc := "()V" } : Jvm.MethodName) ({ cls := "JuryDesk$Heat", name := "settle", desc := "()V" } : Jvm.MethodName)), (Jvm.Cond.selects "JuryDesk$Heat" ({ cls := "JuryDesk$Heat", name := "leadOn", desc := "()V" } : Jvm.MethodName) ({ cls := "JuryDesk$Heat", name := "leadOn", desc := "()V" } : Jvm.MethodName)), (Jvm.Cond.selects "JuryDesk$Heat" ({ cls := "JuryDesk$Heat", name := "turn", desc := "()V" } : Jvm.MethodName) ({ cls := "JuryDesk$Heat", name := "turn", desc := "()V" } : Jvm.MethodName)), (Jvm.Cond.selects "JuryDesk" ({ cls := "JuryDesk", name := "unload", desc := "(I)V" } : Jvm.MethodName) ({ cls := "JuryDesk", name := "unload", desc := "(I)V" } : Jvm.MethodName)), (Jvm.Cond.selects "JuryDesk" ({ cls := "JuryDesk", name := "total", desc := "(ILJuryDesk$Heat;)J" } : Jvm.MethodName) ({ cls := "JuryDesk", name := "total", desc := "(ILJuryDesk$Heat;)J" } : Jvm.MethodName)), (Jvm.Cond.selects "JuryDesk" ({ cls := "JuryDesk", name := "load", desc := "(ILJuryDesk$Heat;)V" } : Jvm.MethodName) ({ cls := "JuryDesk", name := "load", desc := "(ILJuryDesk$Heat;)V" } : Jvm.MethodName)), (Jvm.Cond.selects "JuryDesk$Lattice" ({ cls := "JuryDesk$Lattice", name := "setBars", desc := "([I)V" } : Jvm.MethodName) ({ cls := "JuryDesk$Lattice", name := "setBars", desc := "([I)V" } : Jvm.MethodName)), (Jvm.Cond.selects "JuryDesk$Lattice" ({ cls := "JuryDesk$Lattice", name := "countHeads", desc := "(LJuryDesk$Heat;)V" } : Jvm.MethodName) ({ cls := "JuryDesk$Lattice", name := "countHeads", desc := "(LJuryDesk$Heat;)V" } : Jvm.MethodName)), (Jvm.Cond.selects "JuryDesk$Lattice" ({ cls := "JuryDesk$Lattice", name := "clearHeads", desc := "(LJuryDesk$Heat;)V" } : Jvm.MethodName) ({ cls := "JuryDesk$Lattice", name := "clearHeads", desc := "(LJuryDesk$Heat;)V" } : Jvm.MethodName)), (Jvm.Cond.selects "JuryDesk$Lattice" ({ cls := "JuryDesk$Lattice", name := "handOn", desc := "(LJuryDesk$Heat;I)V" } : Jvm.MethodName) ({ cls := "JuryDesk$Lattice", name := "handOn", desc := "(LJuryDesk$Heat;I)V" } : Jvm.MethodName)), (Jvm.Cond.selects "JuryDesk$Lattice" ({ cls := "JuryDesk$Lattice", name := "readyOf", desc := "(I)I" } : Jvm.MethodName) ({ cls := "JuryDesk$Lattice", name := "readyOf", desc := "(I)I" } : Jvm.MethodName)), (Jvm.Cond.selects "JuryDesk$Lattice" ({ cls := "JuryDesk$Lattice", name := "countTails", desc := "(LJuryDesk$Heat;)V" } : Jvm.MethodName) ({ cls := "JuryDesk$Lattice", name := "countTails", desc := "(LJuryDesk$Heat;)V" } : Jvm.MethodName)), (Jvm.Cond.selects "JuryDesk$Lattice" ({ cls := "JuryDesk$Lattice", name := "gather", desc := "(LJuryDesk$Heat;I)J" } : Jvm.MethodName) ({ cls := "JuryDesk$Lattice", name := "gather", desc := "(LJuryDesk$Heat;I)J" } : Jvm.MethodName)), (Jvm.Cond.selects "JuryDesk" ({ cls := "JuryDesk", name := "tally", desc := "(ILJuryDesk$Heat;)V" } : Jvm.MethodName) ({ cls := "JuryDesk", name := "tally", desc := "(ILJuryDesk$Heat;)V" } : Jvm.MethodName)), (Jvm.Cond.selects "JuryDesk$Lattice" ({ cls := "JuryDesk$Lattice", name := "fillBehind", desc := "(LJuryDesk$Heat;I)V" } : Jvm.MethodName) ({ cls := "JuryDesk$Lattice", name := "fillBehind", desc := "(LJuryDesk$Heat;I)V" } : Jvm.MethodName)), (Jvm.Cond.selects "JuryDesk$Rows" ({ cls := "JuryDesk$Rows", name := "widthOf", desc := "(LJuryDesk$Heat;I)I" } : Jvm.MethodName) ({ cls := "JuryDesk$Rows", name := "widthOf", desc := "(LJuryDesk$Heat;I)I" } : Jvm.MethodName)), (Jvm.Cond.selects "JuryDesk$Rows" ({ cls := "JuryDesk$Rows", name := "mostPairs", desc := "(LJuryDesk$Heat;II)I" } : Jvm.MethodName) ({ cls := "JuryDesk$Rows", name := "mostPairs", desc := "(LJuryDesk$Heat;II)I" } : Jvm.MethodName)), (Jvm.Cond.selects "JuryDesk$Rows" ({ cls := "JuryDesk$Rows", name := "pairUp", desc := "(LJuryDesk$Heat;II)Z" } : Jvm.MethodName) ({ cls := "JuryDesk$Rows", name := "pairUp", desc := "(LJuryDesk$Heat;II)Z" } : Jvm.MethodName)), (Jvm.Cond.selects "JuryDesk$Rows" ({ cls := "JuryDesk$Rows", name := "changePartners", desc := "(I)V" } : Jvm.MethodName) ({ cls := "JuryDesk$Rows", name := "changePartners", desc := "(I)V" } : Jvm.MethodName)), (Jvm.Cond.selects "JuryDesk$Rows" ({ cls := "JuryDesk$Rows", name := "chooseFollowers", desc := "(LJuryDesk$Heat;)V" } : Jvm.MethodName) ({ cls := "JuryDesk$Rows", name := "chooseFollowers", desc := "(LJuryDesk$Heat;)V" } : Jvm.MethodName)), (Jvm.Cond.selects "JuryDesk$Rows" ({ cls := "JuryDesk$Rows", name := "leastFollower", desc := "(LJuryDesk$Heat;IIII)I" } : Jvm.MethodName) ({ cls := "JuryDesk$Rows", name := "leastFollower", desc := "(LJuryDesk$Heat;IIII)I" } : Jvm.MethodName)), (Jvm.Cond.selects "JuryDesk$Rows" ({ cls := "JuryDesk$Rows", name := "chooseTie", desc := "(LJuryDesk$Heat;)V" } : Jvm.MethodName) ({ cls := "JuryDesk$Rows", name := "chooseTie", desc := "(LJuryDesk$Heat;)V" } : Jvm.MethodName)), (Jvm.Cond.selects "java/lang/Throwable" ({ cls := "java/lang/Throwable", name := "fillInStackTrace", desc := "(I)Ljava/lang/Throwable;" } : Jvm.MethodName) ({ cls := "java/lang/Throwable", name := "fillInStackTrace", desc := "(I)Ljava/lang/Throwable;" } : Jvm.MethodName)), (Jvm.Cond.selects "JuryDeskModel" ({ cls := "JuryDeskModel", name := "there", desc := "(II)Z" } : Jvm.MethodName) ({ cls := "JuryDeskModel", name := "there", desc := "(II)Z" } : Jvm.MethodName)), (Jvm.Cond.selects "JuryDeskModel" ({ cls := "JuryDeskModel", name := "settle", desc := "(I)V" } : Jvm.MethodName) ({ cls := "JuryDeskModel", name := "settle", desc := "(I)V" } : Jvm.MethodName)), (Jvm.Cond.selects "JuryDeskModel" ({ cls := "JuryDeskModel", name := "inForce", desc := "(II)Z" } : Jvm.MethodName) ({ cls := "JuryDeskModel", name := "inForce", desc := "(II)Z" } : Jvm.MethodName)), (Jvm.Cond.selects "JuryDeskModel" ({ cls := "JuryDeskModel", name := "findWhy", desc := "(III)V" } : Jvm.MethodName) ({ cls := "JuryDeskModel", name := "findWhy", desc := "(III)V" } : Jvm.MethodName)), (Jvm.Cond.selects "JuryDeskModel" ({ cls := "JuryDeskModel", name := "isHeat", desc := "(I)Z" } : Jvm.MethodName) ({ cls := "JuryDeskModel", name := "isHeat", desc := "(I)Z" } : Jvm.MethodName)), (Jvm.Cond.selects "JuryDeskModel" ({ cls := "JuryDeskModel", name := "countAll", desc := "(I)V" } : Jvm.MethodName) ({ cls := "JuryDeskModel", name := "countAll", desc := "(I)V" } : Jvm.MethodName)), (Jvm.Cond.selects "JuryDeskModel" ({ cls := "JuryDeskModel", name := "mayCome", desc := "(II)Z" } : Jvm.MethodName) ({ cls := "JuryDeskModel", name := "mayCome", desc := "(II)Z" } : Jvm.MethodName)), (Jvm.Cond.selects "JuryDeskModel" ({ cls := "JuryDeskModel", name := "rank", desc := "(III)J" } : Jvm.MethodName) ({ cls := "JuryDeskModel", name := "rank", desc := "(III)J" } : Jvm.MethodName)), (Jvm.Cond.selects "JuryDeskModel" ({ cls := "JuryDeskModel", name := "pairs", desc := "(I)V" } : Jvm.MethodName) ({ cls := "JuryDeskModel", name := "pairs", desc := "(I)V" } : Jvm.MethodName)), (Jvm.Cond.selects "JuryDeskModel" ({ cls := "JuryDeskModel", name := "widest", desc := "(I)V" } : Jvm.MethodName) ({ cls := "JuryDeskModel", name := "widest", desc := "(I)V" } : Jvm.MethodName)), (Jvm.Cond.selects "JuryDeskModel" ({ cls := "JuryDeskModel", name := "apart", desc := "(I)Z" } : Jvm.MethodName) ({ cls := "JuryDeskModel", name := "apart", desc := "(I)Z" } : Jvm.MethodName)), (Jvm.Cond.selects "JuryDeskModel" ({ cls := "JuryDeskModel", name := "rows", desc := "(I)I" } : Jvm.MethodName) ({ cls := "JuryDeskModel", name := "rows", desc := "(I)I" } : Jvm.MethodName)), (Jvm.Cond.selects "JuryDeskModel" ({ cls := "JuryDeskModel", name := "most", desc := "(I)I" } : Jvm.MethodName) ({ cls := "JuryDeskModel", name := "most", desc := "(I)I" } : Jvm.MethodName)), (Jvm.Cond.selects "JuryDeskModel" ({ cls := "JuryDeskModel", name := "grow", desc := "(I)Z" } : Jvm.MethodName) ({ cls := "JuryDeskModel", name := "grow", desc := "(I)Z" } : Jvm.MethodName))]
theorem TB_0_in : TB_0 = ([0, 1, 2, 3, 4, 5, 6, 7, 8, 9, 10, 11, 12, 13, 14, 15, 16, 17, 18, 19, 20, 21, 22, 23, 24, 25, 26, 27, 28, 29, 30, 31, 32, 33, 34, 35, 36, 37, 38, 39] : List Nat).filterMap (fun i => lw_tbl[i]?) := by decide +kernel
theorem TB_0_ok : TB_0.all goodWord = true := by decide +kernel
def TB_1 : List Cond := [(Jvm.Cond.selects "JuryDeskModel" ({ cls := "JuryDeskModel", name := "turnAbout", desc := "(I)V" } : Jvm.MethodName) ({ cls := "JuryDeskModel", name := "turnAbout", desc := "(I)V" } : Jvm.MethodName)), (Jvm.Cond.selects "JuryDeskModel" ({ cls := "JuryDeskModel", name := "free", desc := "(II)Z" } : Jvm.MethodName) ({ cls := "JuryDeskModel", name := "free", desc := "(II)Z" } : Jvm.MethodName)), (Jvm.Cond.initialized "JuryDeskLaw"), (Jvm.Cond.initialized "JuryDesk"), (Jvm.Cond.initialized "JuryDesk$Reason"), (Jvm.Cond.initialized "JuryDesk$Lattice"), (Jvm.Cond.initialized "java/util/Arrays"), (Jvm.Cond.initialized "JuryDeskModel"), (Jvm.Cond.initialized "java/lang/Throwable"), (Jvm.Cond.initialized "java/lang/Exception"), (Jvm.Cond.initialized "java/lang/RuntimeException"), (Jvm.Cond.initialized "java/lang/IllegalArgumentException"), (Jvm.Cond.initialized "JuryDesk$Heat"), (Jvm.Cond.initialized "JuryDesk$Tally"), (Jvm.Cond.initialized "JuryDesk$Rows"), (Jvm.Cond.initialized "java/lang/Integer"), (Jvm.Cond.initialized "java/lang/Math"), (Jvm.Cond.classLink "JuryDeskLaw" (8 : Nat) "JuryDesk"), (Jvm.Cond.instantiable "JuryDesk" (5 : Nat)), (Jvm.Cond.methodLink "JuryDeskLaw" (23 : Nat) ({ cls := "JuryDesk", name := "<init>", desc := "()V" } : Jvm.MethodName)), (Jvm.Cond.instanceMethod ({ cls := "JuryDesk", name := "<init>", desc := "()V" } : Jvm.MethodName)), (Jvm.Cond.code ({ cls := "JuryDesk", name := "<init>", desc := "()V" } : Jvm.MethodName) prog_1_method_1_code (1 : Nat) (Option.none : Option Jvm.ClassFile.FieldType)), (Jvm.Cond.methodLink "JuryDesk" (3 : Nat) ({ cls := "java/lang/Object", name := "<init>", desc := "()V" } : Jvm.MethodName)), (Jvm.Cond.instanceMethod ({ cls := "java/lang/Object", name := "<init>", desc := "()V" } : Jvm.MethodName)), (Jvm.Cond.code ({ cls := "java/lang/Object", name := "<init>", desc := "()V" } : Jvm.MethodName) object_method_1_code (1 : Nat) (Option.none : Option Jvm.ClassFile.FieldType)), (Jvm.Cond.classLink "JuryDesk" (9 : Nat) "JuryDesk$Heat"), (Jvm.Cond.classLink "JuryDesk" (19 : Nat) "JuryDesk$Reason"), (Jvm.Cond.instantiable "JuryDesk$Reason" (3 : Nat)), (Jvm.Cond.instanceMethod ({ cls := "JuryDesk$Reason", name := "<init>", desc := "()V" } : Jvm.MethodName)), (Jvm.Cond.code ({ cls := "JuryDesk$Reason", name := "<init>", desc := "()V" } : Jvm.MethodName) prog_4_method_1_code (1 : Nat) (Option.none : Option Jvm.ClassFile.FieldType)), (Jvm.Cond.methodLink "JuryDesk$Reason" (3 : Nat) ({ cls := "java/lang/Object", name := "<init>", desc := "()V" } : Jvm.MethodName)), (Jvm.Cond.fieldLink "JuryDesk$Reason" (9 : Nat) "JuryDesk$Reason" "numbers" "[I"), (Jvm.Cond.fieldLink "JuryDesk" (84 : Nat) "JuryDesk$Reason" "numbers" "[I"), (Jvm.Cond.fieldLink "JuryDesk$Reason" (22 : Nat) "JuryDesk$Reason" "length" "I"), (Jvm.Cond.fieldLink "JuryDesk" (81 : Nat) "JuryDesk$Reason" "length" "I"), (Jvm.Cond.fieldLink "JuryDesk$Reason" (15 : Nat) "JuryDesk$Reason" "steps" "[I"), (Jvm.Cond.laysFinal "JuryDesk$Reason" "JuryDesk$Reason" "numbers" "[I"), (Jvm.Cond.soleField "JuryDesk$Reason" "numbers"), (Jvm.Cond.lays "JuryDesk$Reason" "JuryDesk$Reason" "length" "I"), (Jvm.Cond.soleField "JuryDesk$Reason" "length")]
theorem TB_1_in : TB_1 = ([40, 41, 42, 43, 44, 45, 46, 47, 48, 49, 50, 51, 52, 53, 54, 55, 56, 57, 58, 59, 60, 61, 62, 63, 64, 65, 67, 68, 70, 71, 72, 73, 74, 75, 76, 77, 78, 79, 80, 81] : List Nat).filterMap (fun i => lw_tbl[i]?) := by decide +kernel
theorem TB_1_ok : TB_1.all goodWord = true := by decide +kernel
def TB_2 : List Cond := [(Jvm.Cond.laysFinal "JuryDesk$Reason" "JuryDesk$Reason" "steps" "[I"), (Jvm.Cond.soleField "JuryDesk$Reason" "steps"), (Jvm.Cond.arrayClass Jvm.ClassFile.FieldType.int), (Jvm.Cond.classLink "JuryDesk" (26 : Nat) "JuryDesk$Lattice"), (Jvm.Cond.instantiable "JuryDesk$Lattice" (4 : Nat)), (Jvm.Cond.instanceMethod ({ cls := "JuryDesk$Lattice", name := "<init>", desc := "()V" } : Jvm.MethodName)), (Jvm.Cond.code ({ cls := "JuryDesk$Lattice", name := "<init>", desc := "()V" } : Jvm.MethodName) prog_3_method_1_code (1 : Nat) (Option.none : Option Jvm.ClassFile.FieldType)), (Jvm.Cond.methodLink "JuryDesk$Lattice" (3 : Nat) ({ cls := "java/lang/Object", name := "<init>", desc := "()V" } : Jvm.MethodName)), (Jvm.Cond.constant "JuryDesk$Lattice" (9 : Nat) (65536 : Int32)), (Jvm.Cond.fieldLink "JuryDesk$Lattice" (10 : Nat) "JuryDesk$Lattice" "heads" "[J"), (Jvm.Cond.fieldLink "JuryDesk$Lattice" (16 : Nat) "JuryDesk$Lattice" "tails" "[J"), (Jvm.Cond.fieldLink "JuryDesk$Lattice" (19 : Nat) "JuryDesk$Lattice" "lowBars" "[I"), (Jvm.Cond.fieldLink "JuryDesk$Lattice" (23 : Nat) "JuryDesk$Lattice" "highBars" "[I"), (Jvm.Cond.laysFinal "JuryDesk$Lattice" "JuryDesk$Lattice" "heads" "[J"), (Jvm.Cond.soleField "JuryDesk$Lattice" "heads"), (Jvm.Cond.laysFinal "JuryDesk$Lattice" "JuryDesk$Lattice" "tails" "[J"), (Jvm.Cond.soleField "JuryDesk$Lattice" "tails"), (Jvm.Cond.laysFinal "JuryDesk$Lattice" "JuryDesk$Lattice" "lowBars" "[I"), (Jvm.Cond.soleField "JuryDesk$Lattice" "lowBars"), (Jvm.Cond.laysFinal "JuryDesk$Lattice" "JuryDesk$Lattice" "highBars" "[I"), (Jvm.Cond.soleField "JuryDesk$Lattice" "highBars"), (Jvm.Cond.arrayClass Jvm.ClassFile.FieldType.long), (Jvm.Cond.methodLink "JuryDesk" (37 : Nat) ({ cls := "java/util/Arrays", name := "fill", desc := "([II)V" } : Jvm.MethodName)), (Jvm.Cond.static ({ cls := "java/util/Arrays", name := "fill", desc := "([II)V" } : Jvm.MethodName)), (Jvm.Cond.code ({ cls := "java/util/Arrays", name := "fill", desc := "([II)V" } : Jvm.MethodName) prog_16_method_103_code (4 : Nat) (Option.none : Option Jvm.ClassFile.FieldType)), (Jvm.Cond.fieldLink "JuryDesk" (11 : Nat) "JuryDesk" "heats" "[LJuryDesk$Heat;"), (Jvm.Cond.fieldLink "JuryDesk" (15 : Nat) "JuryDesk" "row" "[I"), (Jvm.Cond.fieldLink "JuryDesk" (22 : Nat) "JuryDesk" "reason" "LJuryDesk$Reason;"), (Jvm.Cond.fieldLink "JuryDesk" (29 : Nat) "JuryDesk" "lattice" "LJuryDesk$Lattice;"), (Jvm.Cond.fieldLink "JuryDesk" (33 : Nat) "JuryDesk" "loaded" "I"), (Jvm.Cond.laysFinal "JuryDesk" "JuryDesk" "heats" "[LJuryDesk$Heat;"), (Jvm.Cond.soleField "JuryDesk" "heats"), (Jvm.Cond.laysFinal "JuryDesk" "JuryDesk" "row" "[I"), (Jvm.Cond.soleField "JuryDesk" "row"), (Jvm.Cond.laysFinal "JuryDesk" "JuryDesk" "reason" "LJuryDesk$Reason;"), (Jvm.Cond.soleField "JuryDesk" "reason"), (Jvm.Cond.laysFinal "JuryDesk" "JuryDesk" "lattice" "LJuryDesk$Lattice;"), (Jvm.Cond.soleField "JuryDesk" "lattice"), (Jvm.Cond.lays "JuryDesk" "JuryDesk" "loaded" "I"), (Jvm.Cond.soleField "JuryDesk" "loaded")]
theorem TB_2_in : TB_2 = ([82, 83, 85, 86, 87, 89, 90, 91, 92, 93, 94, 95, 96, 97, 98, 99, 100, 101, 102, 103, 104, 106, 107, 108, 109, 110, 111, 112, 113, 114, 115, 116, 117, 118, 119, 120, 121, 122, 123, 124] : List Nat).filterMap (fun i => lw_tbl[i]?) := by decide +kernel
theorem TB_2_ok : TB_2.all goodWord = true := by decide +kernel
def TB_3 : List Cond := [(Jvm.Cond.methodLink "JuryDeskLaw" (37 : Nat) ({ cls := "JuryDesk", name := "better", desc := "(III)I" } : Jvm.MethodName)), (Jvm.Cond.instanceMethod ({ cls := "JuryDesk", name := "better", desc := "(III)I" } : Jvm.MethodName)), (Jvm.Cond.selects "JuryDesk" ({ cls := "JuryDesk", name := "better", desc := "(III)I" } : Jvm.MethodName) ({ cls := "JuryDesk", name := "better", desc := "(III)I" } : Jvm.MethodName)), (Jvm.Cond.code ({ cls := "JuryDesk", name := "better", desc := "(III)I" } : Jvm.MethodName) prog_1_method_3_code (5 : Nat) (Option.some Jvm.ClassFile.FieldType.int)), (Jvm.Cond.methodLink "JuryDesk" (58 : Nat) ({ cls := "JuryDesk", name := "find", desc := "(I)LJuryDesk$Heat;" } : Jvm.MethodName)), (Jvm.Cond.instanceMethod ({ cls := "JuryDesk", name := "find", desc := "(I)LJuryDesk$Heat;" } : Jvm.MethodName)), (Jvm.Cond.code ({ cls := "JuryDesk", name := "find", desc := "(I)LJuryDesk$Heat;" } : Jvm.MethodName) prog_1_method_24_code (2 : Nat) (Option.some (Jvm.ClassFile.FieldType.object "JuryDesk$Heat"))), (Jvm.Cond.methodLink "JuryDesk" (62 : Nat) ({ cls := "JuryDesk$Heat", name := "has", desc := "(I)Z" } : Jvm.MethodName)), (Jvm.Cond.instanceMethod ({ cls := "JuryDesk$Heat", name := "has", desc := "(I)Z" } : Jvm.MethodName)), (Jvm.Cond.selects "JuryDesk$Heat" ({ cls := "JuryDesk$Heat", name := "has", desc := "(I)Z" } : Jvm.MethodName) ({ cls := "JuryDesk$Heat", name := "has", desc := "(I)Z" } : Jvm.MethodName)), (Jvm.Cond.code ({ cls := "JuryDesk$Heat", name := "has", desc := "(I)Z" } : Jvm.MethodName) prog_2_method_6_code (2 : Nat) (Option.some Jvm.ClassFile.FieldType.boolean)), (Jvm.Cond.static ({ cls := "JuryDesk", name := "holds", desc := "(II)Z" } : Jvm.MethodName)), (Jvm.Cond.code ({ cls := "JuryDesk", name := "holds", desc := "(II)Z" } : Jvm.MethodName) prog_1_method_30_code (2 : Nat) (Option.some Jvm.ClassFile.FieldType.boolean)), (Jvm.Cond.methodLink "JuryDesk" (66 : Nat) ({ cls := "JuryDesk$Heat", name := "isAbove", desc := "(II)Z" } : Jvm.MethodName)), (Jvm.Cond.instanceMethod ({ cls := "JuryDesk$Heat", name := "isAbove", desc := "(II)Z" } : Jvm.MethodName)), (Jvm.Cond.selects "JuryDesk$Heat" ({ cls := "JuryDesk$Heat", name := "isAbove", desc := "(II)Z" } : Jvm.MethodName) ({ cls := "JuryDesk$Heat", name := "isAbove", desc := "(II)Z" } : Jvm.MethodName)), (Jvm.Cond.code ({ cls := "JuryDesk$Heat", name := "isAbove", desc := "(II)Z" } : Jvm.MethodName) prog_2_method_8_code (3 : Nat) (Option.some Jvm.ClassFile.FieldType.boolean)), (Jvm.Cond.methodLink "JuryDesk$Heat" (63 : Nat) ({ cls := "JuryDesk$Heat", name := "has", desc := "(I)Z" } : Jvm.MethodName)), (Jvm.Cond.methodLink "JuryDesk" (70 : Nat) ({ cls := "JuryDesk$Reason", name := "trace", desc := "(LJuryDesk$Heat;II)V" } : Jvm.MethodName)), (Jvm.Cond.instanceMethod ({ cls := "JuryDesk$Reason", name := "trace", desc := "(LJuryDesk$Heat;II)V" } : Jvm.MethodName)), (Jvm.Cond.selects "JuryDesk$Reason" ({ cls := "JuryDesk$Reason", name := "trace", desc := "(LJuryDesk$Heat;II)V" } : Jvm.MethodName) ({ cls := "JuryDesk$Reason", name := "trace", desc := "(LJuryDesk$Heat;II)V" } : Jvm.MethodName)), (Jvm.Cond.code ({ cls := "JuryDesk$Reason", name := "trace", desc := "(LJuryDesk$Heat;II)V" } : Jvm.MethodName) prog_4_method_2_code (7 : Nat) (Option.none : Option Jvm.ClassFile.FieldType)), (Jvm.Cond.methodLink "JuryDesk$Reason" (18 : Nat) ({ cls := "JuryDesk$Reason", name := "measure", desc := "(LJuryDesk$Heat;I)V" } : Jvm.MethodName)), (Jvm.Cond.instanceMethod ({ cls := "JuryDesk$Reason", name := "measure", desc := "(LJuryDesk$Heat;I)V" } : Jvm.MethodName)), (Jvm.Cond.code ({ cls := "JuryDesk$Reason", name := "measure", desc := "(LJuryDesk$Heat;I)V" } : Jvm.MethodName) prog_4_method_3_code (6 : Nat) (Option.none : Option Jvm.ClassFile.FieldType)), (Jvm.Cond.methodLink "JuryDesk$Reason" (36 : Nat) ({ cls := "java/util/Arrays", name := "fill", desc := "([II)V" } : Jvm.MethodName)), (Jvm.Cond.methodLink "JuryDesk$Reason" (48 : Nat) ({ cls := "JuryDesk$Heat", name := "inForce", desc := "(I)Z" } : Jvm.MethodName)), (Jvm.Cond.instanceMethod ({ cls := "JuryDesk$Heat", name := "inForce", desc := "(I)Z" } : Jvm.MethodName)), (Jvm.Cond.selects "JuryDesk$Heat" ({ cls := "JuryDesk$Heat", name := "inForce", desc := "(I)Z" } : Jvm.MethodName) ({ cls := "JuryDesk$Heat", name := "inForce", desc := "(I)Z" } : Jvm.MethodName)), (Jvm.Cond.code ({ cls := "JuryDesk$Heat", name := "inForce", desc := "(I)Z" } : Jvm.MethodName) prog_2_method_9_code (2 : Nat) (Option.some Jvm.ClassFile.FieldType.boolean)), (Jvm.Cond.methodLink "JuryDesk$Reason" (26 : Nat) ({ cls := "JuryDesk$Reason", name := "leastToward", desc := "(LJuryDesk$Heat;II)I" } : Jvm.MethodName)), (Jvm.Cond.instanceMethod ({ cls := "JuryDesk$Reason", name := "leastToward", desc := "(LJuryDesk$Heat;II)I" } : Jvm.MethodName)), (Jvm.Cond.code ({ cls := "JuryDesk$Reason", name := "leastToward", desc := "(LJuryDesk$Heat;II)I" } : Jvm.MethodName) prog_4_method_4_code (5 : Nat) (Option.some Jvm.ClassFile.FieldType.int)), (Jvm.Cond.methodLink "JuryDesk" (77 : Nat) ({ cls := "JuryDesk$Heat", name := "write", desc := "(II)V" } : Jvm.MethodName)), (Jvm.Cond.instanceMethod ({ cls := "JuryDesk$Heat", name := "write", desc := "(II)V" } : Jvm.MethodName)), (Jvm.Cond.selects "JuryDesk$Heat" ({ cls := "JuryDesk$Heat", name := "write", desc := "(II)V" } : Jvm.MethodName) ({ cls := "JuryDesk$Heat", name := "write", desc := "(II)V" } : Jvm.MethodName)), (Jvm.Cond.code ({ cls := "JuryDesk$Heat", name := "write", desc := "(II)V" } : Jvm.MethodName) prog_2_method_3_code (3 : Nat) (Option.none : Option Jvm.ClassFile.FieldType)), (Jvm.Cond.methodLink "JuryDesk$Heat" (50 : Nat) ({ cls := "JuryDesk$Heat", name := "settle", desc := "()V" } : Jvm.MethodName)), (Jvm.Cond.instanceMethod ({ cls := "JuryDesk$Heat", name := "settle", desc := "()V" } : Jvm.MethodName)), (Jvm.Cond.instantiable "JuryDesk$Heat" (9 : Nat))]
theorem TB_3_in : TB_3 = ([126, 127, 128, 129, 130, 132, 133, 134, 135, 136, 137, 139, 140, 141, 142, 143, 144, 145, 146, 147, 148, 149, 150, 152, 153, 154, 155, 156, 157, 158, 159, 161, 162, 163, 164, 165, 166, 167, 169, 170] : List Nat).filterMap (fun i => lw_tbl[i]?) := by decide +kernel
theorem TB_3_ok : TB_3.all goodWord = true := by decide +kernel
def TB_4 : List Cond := [(Jvm.Cond.code ({ cls := "JuryDesk$Heat", name := "settle", desc := "()V" } : Jvm.MethodName) prog_2_method_14_code (2 : Nat) (Option.none : Option Jvm.ClassFile.FieldType)), (Jvm.Cond.methodLink "JuryDesk$Heat" (77 : Nat) ({ cls := "java/util/Arrays", name := "fill", desc := "([II)V" } : Jvm.MethodName)), (Jvm.Cond.methodLink "JuryDesk$Heat" (67 : Nat) ({ cls := "JuryDesk$Heat", name := "inForce", desc := "(I)Z" } : Jvm.MethodName)), (Jvm.Cond.methodLink "JuryDesk$Heat" (83 : Nat) ({ cls := "JuryDesk$Heat", name := "leadOn", desc := "()V" } : Jvm.MethodName)), (Jvm.Cond.instanceMethod ({ cls := "JuryDesk$Heat", name := "leadOn", desc := "()V" } : Jvm.MethodName)), (Jvm.Cond.code ({ cls := "JuryDesk$Heat", name := "leadOn", desc := "()V" } : Jvm.MethodName) prog_2_method_15_code (3 : Nat) (Option.none : Option Jvm.ClassFile.FieldType)), (Jvm.Cond.methodLink "JuryDesk$Heat" (86 : Nat) ({ cls := "JuryDesk$Heat", name := "turn", desc := "()V" } : Jvm.MethodName)), (Jvm.Cond.instanceMethod ({ cls := "JuryDesk$Heat", name := "turn", desc := "()V" } : Jvm.MethodName)), (Jvm.Cond.code ({ cls := "JuryDesk$Heat", name := "turn", desc := "()V" } : Jvm.MethodName) prog_2_method_16_code (3 : Nat) (Option.none : Option Jvm.ClassFile.FieldType)), (Jvm.Cond.methodLink "JuryDesk$Heat" (89 : Nat) ({ cls := "JuryDesk$Tally", name := "forget", desc := "()V" } : Jvm.MethodName)), (Jvm.Cond.instanceMethod ({ cls := "JuryDesk$Tally", name := "forget", desc := "()V" } : Jvm.MethodName)), (Jvm.Cond.selects "JuryDesk$Tally" ({ cls := "JuryDesk$Tally", name := "forget", desc := "()V" } : Jvm.MethodName) ({ cls := "JuryDesk$Tally", name := "forget", desc := "()V" } : Jvm.MethodName)), (Jvm.Cond.code ({ cls := "JuryDesk$Tally", name := "forget", desc := "()V" } : Jvm.MethodName) prog_6_method_2_code (1 : Nat) (Option.none : Option Jvm.ClassFile.FieldType)), (Jvm.Cond.methodLink "JuryDesk" (55 : Nat) ({ cls := "JuryDesk", name := "unload", desc := "(I)V" } : Jvm.MethodName)), (Jvm.Cond.instanceMethod ({ cls := "JuryDesk", name := "unload", desc := "(I)V" } : Jvm.MethodName)), (Jvm.Cond.code ({ cls := "JuryDesk", name := "unload", desc := "(I)V" } : Jvm.MethodName) prog_1_method_26_code (2 : Nat) (Option.none : Option Jvm.ClassFile.FieldType)), (Jvm.Cond.methodLink "JuryDeskLaw" (42 : Nat) ({ cls := "JuryDesk", name := "whyLast", desc := "()I" } : Jvm.MethodName)), (Jvm.Cond.instanceMethod ({ cls := "JuryDesk", name := "whyLast", desc := "()I" } : Jvm.MethodName)), (Jvm.Cond.selects "JuryDesk" ({ cls := "JuryDesk", name := "whyLast", desc := "()I" } : Jvm.MethodName) ({ cls := "JuryDesk", name := "whyLast", desc := "()I" } : Jvm.MethodName)), (Jvm.Cond.code ({ cls := "JuryDesk", name := "whyLast", desc := "()I" } : Jvm.MethodName) prog_1_method_4_code (1 : Nat) (Option.some Jvm.ClassFile.FieldType.int)), (Jvm.Cond.methodLink "JuryDeskLaw" (46 : Nat) ({ cls := "JuryDesk", name := "why", desc := "(I)I" } : Jvm.MethodName)), (Jvm.Cond.instanceMethod ({ cls := "JuryDesk", name := "why", desc := "(I)I" } : Jvm.MethodName)), (Jvm.Cond.selects "JuryDesk" ({ cls := "JuryDesk", name := "why", desc := "(I)I" } : Jvm.MethodName) ({ cls := "JuryDesk", name := "why", desc := "(I)I" } : Jvm.MethodName)), (Jvm.Cond.code ({ cls := "JuryDesk", name := "why", desc := "(I)I" } : Jvm.MethodName) prog_1_method_5_code (2 : Nat) (Option.some Jvm.ClassFile.FieldType.int)), (Jvm.Cond.methodLink "JuryDeskLaw" (51 : Nat) ({ cls := "JuryDesk", name := "withdraw", desc := "(II)Z" } : Jvm.MethodName)), (Jvm.Cond.instanceMethod ({ cls := "JuryDesk", name := "withdraw", desc := "(II)Z" } : Jvm.MethodName)), (Jvm.Cond.selects "JuryDesk" ({ cls := "JuryDesk", name := "withdraw", desc := "(II)Z" } : Jvm.MethodName) ({ cls := "JuryDesk", name := "withdraw", desc := "(II)Z" } : Jvm.MethodName)), (Jvm.Cond.code ({ cls := "JuryDesk", name := "withdraw", desc := "(II)Z" } : Jvm.MethodName) prog_1_method_6_code (4 : Nat) (Option.some Jvm.ClassFile.FieldType.boolean)), (Jvm.Cond.methodLink "JuryDesk" (91 : Nat) ({ cls := "JuryDesk$Heat", name := "takeBack", desc := "(I)V" } : Jvm.MethodName)), (Jvm.Cond.instanceMethod ({ cls := "JuryDesk$Heat", name := "takeBack", desc := "(I)V" } : Jvm.MethodName)), (Jvm.Cond.selects "JuryDesk$Heat" ({ cls := "JuryDesk$Heat", name := "takeBack", desc := "(I)V" } : Jvm.MethodName) ({ cls := "JuryDesk$Heat", name := "takeBack", desc := "(I)V" } : Jvm.MethodName)), (Jvm.Cond.code ({ cls := "JuryDesk$Heat", name := "takeBack", desc := "(I)V" } : Jvm.MethodName) prog_2_method_4_code (2 : Nat) (Option.none : Option Jvm.ClassFile.FieldType)), (Jvm.Cond.methodLink "JuryDeskLaw" (56 : Nat) ({ cls := "JuryDesk", name := "scratch", desc := "(II)Z" } : Jvm.MethodName)), (Jvm.Cond.instanceMethod ({ cls := "JuryDesk", name := "scratch", desc := "(II)Z" } : Jvm.MethodName)), (Jvm.Cond.selects "JuryDesk" ({ cls := "JuryDesk", name := "scratch", desc := "(II)Z" } : Jvm.MethodName) ({ cls := "JuryDesk", name := "scratch", desc := "(II)Z" } : Jvm.MethodName)), (Jvm.Cond.code ({ cls := "JuryDesk", name := "scratch", desc := "(II)Z" } : Jvm.MethodName) prog_1_method_7_code (4 : Nat) (Option.some Jvm.ClassFile.FieldType.boolean)), (Jvm.Cond.methodLink "JuryDesk" (94 : Nat) ({ cls := "JuryDesk$Heat", name := "size", desc := "()I" } : Jvm.MethodName)), (Jvm.Cond.instanceMethod ({ cls := "JuryDesk$Heat", name := "size", desc := "()I" } : Jvm.MethodName)), (Jvm.Cond.selects "JuryDesk$Heat" ({ cls := "JuryDesk$Heat", name := "size", desc := "()I" } : Jvm.MethodName) ({ cls := "JuryDesk$Heat", name := "size", desc := "()I" } : Jvm.MethodName)), (Jvm.Cond.code ({ cls := "JuryDesk$Heat", name := "size", desc := "()I" } : Jvm.MethodName) prog_2_method_7_code (1 : Nat) (Option.some Jvm.ClassFile.FieldType.int))]
theorem TB_4_in : TB_4 = ([171, 172, 173, 174, 176, 177, 178, 180, 181, 182, 183, 184, 185, 186, 188, 189, 190, 191, 192, 193, 194, 195, 196, 197, 198, 199, 200, 201, 202, 203, 204, 205, 206, 207, 208, 209, 210, 211, 212, 213] : List Nat).filterMap (fun i => lw_tbl[i]?) := by decide +kernel
theorem TB_4_ok : TB_4.all goodWord = true := by decide +kernel
def TB_5 : List Cond := [(Jvm.Cond.methodLink "JuryDesk$Heat" (57 : Nat) ({ cls := "java/lang/Integer", name := "bitCount", desc := "(I)I" } : Jvm.MethodName)), (Jvm.Cond.static ({ cls := "java/lang/Integer", name := "bitCount", desc := "(I)I" } : Jvm.MethodName)), (Jvm.Cond.code ({ cls := "java/lang/Integer", name := "bitCount", desc := "(I)I" } : Jvm.MethodName) prog_11_method_49_code (1 : Nat) (Option.some Jvm.ClassFile.FieldType.int)), (Jvm.Cond.constant "java/lang/Integer" (265 : Nat) (1431655765 : Int32)), (Jvm.Cond.constant "java/lang/Integer" (266 : Nat) (858993459 : Int32)), (Jvm.Cond.constant "java/lang/Integer" (267 : Nat) (252645135 : Int32)), (Jvm.Cond.methodLink "JuryDesk" (98 : Nat) ({ cls := "JuryDesk$Heat", name := "remove", desc := "(I)V" } : Jvm.MethodName)), (Jvm.Cond.instanceMethod ({ cls := "JuryDesk$Heat", name := "remove", desc := "(I)V" } : Jvm.MethodName)), (Jvm.Cond.selects "JuryDesk$Heat" ({ cls := "JuryDesk$Heat", name := "remove", desc := "(I)V" } : Jvm.MethodName) ({ cls := "JuryDesk$Heat", name := "remove", desc := "(I)V" } : Jvm.MethodName)), (Jvm.Cond.code ({ cls := "JuryDesk$Heat", name := "remove", desc := "(I)V" } : Jvm.MethodName) prog_2_method_5_code (2 : Nat) (Option.none : Option Jvm.ClassFile.FieldType)), (Jvm.Cond.methodLink "JuryDeskLaw" (60 : Nat) ({ cls := "JuryDesk", name := "settled", desc := "(III)Z" } : Jvm.MethodName)), (Jvm.Cond.instanceMethod ({ cls := "JuryDesk", name := "settled", desc := "(III)Z" } : Jvm.MethodName)), (Jvm.Cond.selects "JuryDesk" ({ cls := "JuryDesk", name := "settled", desc := "(III)Z" } : Jvm.MethodName) ({ cls := "JuryDesk", name := "settled", desc := "(III)Z" } : Jvm.MethodName)), (Jvm.Cond.code ({ cls := "JuryDesk", name := "settled", desc := "(III)Z" } : Jvm.MethodName) prog_1_method_8_code (5 : Nat) (Option.some Jvm.ClassFile.FieldType.boolean)), (Jvm.Cond.methodLink "JuryDeskLaw" (65 : Nat) ({ cls := "JuryDesk", name := "direct", desc := "(III)Z" } : Jvm.MethodName)), (Jvm.Cond.instanceMethod ({ cls := "JuryDesk", name := "direct", desc := "(III)Z" } : Jvm.MethodName)), (Jvm.Cond.selects "JuryDesk" ({ cls := "JuryDesk", name := "direct", desc := "(III)Z" } : Jvm.MethodName) ({ cls := "JuryDesk", name := "direct", desc := "(III)Z" } : Jvm.MethodName)), (Jvm.Cond.code ({ cls := "JuryDesk", name := "direct", desc := "(III)Z" } : Jvm.MethodName) prog_1_method_9_code (5 : Nat) (Option.some Jvm.ClassFile.FieldType.boolean)), (Jvm.Cond.methodLink "JuryDeskLaw" (69 : Nat) ({ cls := "JuryDesk", name := "orders", desc := "(I)J" } : Jvm.MethodName)), (Jvm.Cond.instanceMethod ({ cls := "JuryDesk", name := "orders", desc := "(I)J" } : Jvm.MethodName)), (Jvm.Cond.selects "JuryDesk" ({ cls := "JuryDesk", name := "orders", desc := "(I)J" } : Jvm.MethodName) ({ cls := "JuryDesk", name := "orders", desc := "(I)J" } : Jvm.MethodName)), (Jvm.Cond.code ({ cls := "JuryDesk", name := "orders", desc := "(I)J" } : Jvm.MethodName) prog_1_method_10_code (3 : Nat) (Option.some Jvm.ClassFile.FieldType.long)), (Jvm.Cond.methodLink "JuryDesk" (107 : Nat) ({ cls := "JuryDesk", name := "total", desc := "(ILJuryDesk$Heat;)J" } : Jvm.MethodName)), (Jvm.Cond.instanceMethod ({ cls := "JuryDesk", name := "total", desc := "(ILJuryDesk$Heat;)J" } : Jvm.MethodName)), (Jvm.Cond.code ({ cls := "JuryDesk", name := "total", desc := "(ILJuryDesk$Heat;)J" } : Jvm.MethodName) prog_1_method_27_code (3 : Nat) (Option.some Jvm.ClassFile.FieldType.long)), (Jvm.Cond.methodLink "JuryDesk" (140 : Nat) ({ cls := "JuryDesk", name := "load", desc := "(ILJuryDesk$Heat;)V" } : Jvm.MethodName)), (Jvm.Cond.instanceMethod ({ cls := "JuryDesk", name := "load", desc := "(ILJuryDesk$Heat;)V" } : Jvm.MethodName)), (Jvm.Cond.code ({ cls := "JuryDesk", name := "load", desc := "(ILJuryDesk$Heat;)V" } : Jvm.MethodName) prog_1_method_25_code (3 : Nat) (Option.none : Option Jvm.ClassFile.FieldType)), (Jvm.Cond.methodLink "JuryDesk" (185 : Nat) ({ cls := "JuryDesk$Lattice", name := "load", desc := "(LJuryDesk$Heat;)V" } : Jvm.MethodName)), (Jvm.Cond.instanceMethod ({ cls := "JuryDesk$Lattice", name := "load", desc := "(LJuryDesk$Heat;)V" } : Jvm.MethodName)), (Jvm.Cond.selects "JuryDesk$Lattice" ({ cls := "JuryDesk$Lattice", name := "load", desc := "(LJuryDesk$Heat;)V" } : Jvm.MethodName) ({ cls := "JuryDesk$Lattice", name := "load", desc := "(LJuryDesk$Heat;)V" } : Jvm.MethodName)), (Jvm.Cond.code ({ cls := "JuryDesk$Lattice", name := "load", desc := "(LJuryDesk$Heat;)V" } : Jvm.MethodName) prog_3_method_2_code (2 : Nat) (Option.none : Option Jvm.ClassFile.FieldType)), (Jvm.Cond.methodLink "JuryDesk$Lattice" (31 : Nat) ({ cls := "JuryDesk$Lattice", name := "setBars", desc := "([I)V" } : Jvm.MethodName)), (Jvm.Cond.instanceMethod ({ cls := "JuryDesk$Lattice", name := "setBars", desc := "([I)V" } : Jvm.MethodName)), (Jvm.Cond.code ({ cls := "JuryDesk$Lattice", name := "setBars", desc := "([I)V" } : Jvm.MethodName) prog_3_method_8_code (5 : Nat) (Option.none : Option Jvm.ClassFile.FieldType)), (Jvm.Cond.methodLink "JuryDesk$Lattice" (90 : Nat) ({ cls := "java/lang/Integer", name := "numberOfTrailingZeros", desc := "(I)I" } : Jvm.MethodName)), (Jvm.Cond.static ({ cls := "java/lang/Integer", name := "numberOfTrailingZeros", desc := "(I)I" } : Jvm.MethodName)), (Jvm.Cond.code ({ cls := "java/lang/Integer", name := "numberOfTrailingZeros", desc := "(I)I" } : Jvm.MethodName) prog_11_method_48_code (2 : Nat) (Option.some Jvm.ClassFile.FieldType.int)), (Jvm.Cond.constant "java/lang/Integer" (264 : Nat) (65536 : Int32)), (Jvm.Cond.methodLink "JuryDesk$Lattice" (35 : Nat) ({ cls := "JuryDesk$Lattice", name := "countHeads", desc := "(LJuryDesk$Heat;)V" } : Jvm.MethodName))]
theorem TB_5_in : TB_5 = ([214, 215, 216, 217, 218, 219, 220, 221, 222, 223, 224, 225, 226, 227, 228, 229, 230, 231, 232, 233, 234, 235, 236, 238, 239, 240, 242, 243, 244, 245, 246, 247, 248, 250, 251, 252, 253, 254, 255, 256] : List Nat).filterMap (fun i => lw_tbl[i]?) := by decide +kernel
theorem TB_5_ok : TB_5.all goodWord = true := by decide +kernel
def TB_6 : List Cond := [(Jvm.Cond.instanceMethod ({ cls := "JuryDesk$Lattice", name := "countHeads", desc := "(LJuryDesk$Heat;)V" } : Jvm.MethodName)), (Jvm.Cond.code ({ cls := "JuryDesk$Lattice", name := "countHeads", desc := "(LJuryDesk$Heat;)V" } : Jvm.MethodName) prog_3_method_10_code (5 : Nat) (Option.none : Option Jvm.ClassFile.FieldType)), (Jvm.Cond.methodLink "JuryDesk$Lattice" (93 : Nat) ({ cls := "JuryDesk$Lattice", name := "clearHeads", desc := "(LJuryDesk$Heat;)V" } : Jvm.MethodName)), (Jvm.Cond.instanceMethod ({ cls := "JuryDesk$Lattice", name := "clearHeads", desc := "(LJuryDesk$Heat;)V" } : Jvm.MethodName)), (Jvm.Cond.code ({ cls := "JuryDesk$Lattice", name := "clearHeads", desc := "(LJuryDesk$Heat;)V" } : Jvm.MethodName) prog_3_method_11_code (5 : Nat) (Option.none : Option Jvm.ClassFile.FieldType)), (Jvm.Cond.methodLink "JuryDesk$Lattice" (50 : Nat) ({ cls := "JuryDesk$Heat", name := "size", desc := "()I" } : Jvm.MethodName)), (Jvm.Cond.methodLink "JuryDesk$Lattice" (67 : Nat) ({ cls := "JuryDesk$Lattice", name := "setAfter", desc := "(II)I" } : Jvm.MethodName)), (Jvm.Cond.static ({ cls := "JuryDesk$Lattice", name := "setAfter", desc := "(II)I" } : Jvm.MethodName)), (Jvm.Cond.code ({ cls := "JuryDesk$Lattice", name := "setAfter", desc := "(II)I" } : Jvm.MethodName) prog_3_method_15_code (2 : Nat) (Option.some Jvm.ClassFile.FieldType.int)), (Jvm.Cond.methodLink "JuryDesk$Lattice" (96 : Nat) ({ cls := "JuryDesk$Lattice", name := "handOn", desc := "(LJuryDesk$Heat;I)V" } : Jvm.MethodName)), (Jvm.Cond.instanceMethod ({ cls := "JuryDesk$Lattice", name := "handOn", desc := "(LJuryDesk$Heat;I)V" } : Jvm.MethodName)), (Jvm.Cond.code ({ cls := "JuryDesk$Lattice", name := "handOn", desc := "(LJuryDesk$Heat;I)V" } : Jvm.MethodName) prog_3_method_12_code (7 : Nat) (Option.none : Option Jvm.ClassFile.FieldType)), (Jvm.Cond.methodLink "JuryDesk$Lattice" (80 : Nat) ({ cls := "JuryDesk$Lattice", name := "readyOf", desc := "(I)I" } : Jvm.MethodName)), (Jvm.Cond.instanceMethod ({ cls := "JuryDesk$Lattice", name := "readyOf", desc := "(I)I" } : Jvm.MethodName)), (Jvm.Cond.code ({ cls := "JuryDesk$Lattice", name := "readyOf", desc := "(I)I" } : Jvm.MethodName) prog_3_method_9_code (2 : Nat) (Option.some Jvm.ClassFile.FieldType.int)), (Jvm.Cond.methodLink "JuryDesk$Lattice" (39 : Nat) ({ cls := "JuryDesk$Lattice", name := "countTails", desc := "(LJuryDesk$Heat;)V" } : Jvm.MethodName)), (Jvm.Cond.instanceMethod ({ cls := "JuryDesk$Lattice", name := "countTails", desc := "(LJuryDesk$Heat;)V" } : Jvm.MethodName)), (Jvm.Cond.code ({ cls := "JuryDesk$Lattice", name := "countTails", desc := "(LJuryDesk$Heat;)V" } : Jvm.MethodName) prog_3_method_13_code (5 : Nat) (Option.none : Option Jvm.ClassFile.FieldType)), (Jvm.Cond.methodLink "JuryDesk$Lattice" (99 : Nat) ({ cls := "JuryDesk$Lattice", name := "gather", desc := "(LJuryDesk$Heat;I)J" } : Jvm.MethodName)), (Jvm.Cond.instanceMethod ({ cls := "JuryDesk$Lattice", name := "gather", desc := "(LJuryDesk$Heat;I)J" } : Jvm.MethodName)), (Jvm.Cond.code ({ cls := "JuryDesk$Lattice", name := "gather", desc := "(LJuryDesk$Heat;I)J" } : Jvm.MethodName) prog_3_method_14_code (7 : Nat) (Option.some Jvm.ClassFile.FieldType.long)), (Jvm.Cond.methodLink "JuryDesk" (188 : Nat) ({ cls := "JuryDesk$Lattice", name := "total", desc := "(LJuryDesk$Heat;)J" } : Jvm.MethodName)), (Jvm.Cond.instanceMethod ({ cls := "JuryDesk$Lattice", name := "total", desc := "(LJuryDesk$Heat;)J" } : Jvm.MethodName)), (Jvm.Cond.selects "JuryDesk$Lattice" ({ cls := "JuryDesk$Lattice", name := "total", desc := "(LJuryDesk$Heat;)J" } : Jvm.MethodName) ({ cls := "JuryDesk$Lattice", name := "total", desc := "(LJuryDesk$Heat;)J" } : Jvm.MethodName)), (Jvm.Cond.code ({ cls := "JuryDesk$Lattice", name := "total", desc := "(LJuryDesk$Heat;)J" } : Jvm.MethodName) prog_3_method_3_code (2 : Nat) (Option.some Jvm.ClassFile.FieldType.long)), (Jvm.Cond.methodLink "JuryDeskLaw" (74 : Nat) ({ cls := "JuryDesk", name := "atRank", desc := "(III)J" } : Jvm.MethodName)), (Jvm.Cond.instanceMethod ({ cls := "JuryDesk", name := "atRank", desc := "(III)J" } : Jvm.MethodName)), (Jvm.Cond.selects "JuryDesk" ({ cls := "JuryDesk", name := "atRank", desc := "(III)J" } : Jvm.MethodName) ({ cls := "JuryDesk", name := "atRank", desc := "(III)J" } : Jvm.MethodName)), (Jvm.Cond.code ({ cls := "JuryDesk", name := "atRank", desc := "(III)J" } : Jvm.MethodName) prog_1_method_11_code (5 : Nat) (Option.some Jvm.ClassFile.FieldType.long)), (Jvm.Cond.methodLink "JuryDesk" (111 : Nat) ({ cls := "JuryDesk", name := "tally", desc := "(ILJuryDesk$Heat;)V" } : Jvm.MethodName)), (Jvm.Cond.instanceMethod ({ cls := "JuryDesk", name := "tally", desc := "(ILJuryDesk$Heat;)V" } : Jvm.MethodName)), (Jvm.Cond.code ({ cls := "JuryDesk", name := "tally", desc := "(ILJuryDesk$Heat;)V" } : Jvm.MethodName) prog_1_method_28_code (3 : Nat) (Option.none : Option Jvm.ClassFile.FieldType)), (Jvm.Cond.methodLink "JuryDesk" (195 : Nat) ({ cls := "JuryDesk$Lattice", name := "fill", desc := "(LJuryDesk$Heat;)V" } : Jvm.MethodName)), (Jvm.Cond.instanceMethod ({ cls := "JuryDesk$Lattice", name := "fill", desc := "(LJuryDesk$Heat;)V" } : Jvm.MethodName)), (Jvm.Cond.selects "JuryDesk$Lattice" ({ cls := "JuryDesk$Lattice", name := "fill", desc := "(LJuryDesk$Heat;)V" } : Jvm.MethodName) ({ cls := "JuryDesk$Lattice", name := "fill", desc := "(LJuryDesk$Heat;)V" } : Jvm.MethodName)), (Jvm.Cond.code ({ cls := "JuryDesk$Lattice", name := "fill", desc := "(LJuryDesk$Heat;)V" } : Jvm.MethodName) prog_3_method_6_code (5 : Nat) (Option.none : Option Jvm.ClassFile.FieldType)), (Jvm.Cond.methodLink "JuryDesk$Lattice" (58 : Nat) ({ cls := "JuryDesk$Tally", name := "clear", desc := "()V" } : Jvm.MethodName)), (Jvm.Cond.instanceMethod ({ cls := "JuryDesk$Tally", name := "clear", desc := "()V" } : Jvm.MethodName)), (Jvm.Cond.selects "JuryDesk$Tally" ({ cls := "JuryDesk$Tally", name := "clear", desc := "()V" } : Jvm.MethodName) ({ cls := "JuryDesk$Tally", name := "clear", desc := "()V" } : Jvm.MethodName)), (Jvm.Cond.code ({ cls := "JuryDesk$Tally", name := "clear", desc := "()V" } : Jvm.MethodName) prog_6_method_3_code (1 : Nat) (Option.none : Option Jvm.ClassFile.FieldType))]
theorem TB_6_in : TB_6 = ([258, 259, 260, 262, 263, 264, 265, 266, 267, 268, 270, 271, 272, 274, 275, 276, 278, 279, 280, 282, 283, 284, 285, 286, 287, 288, 289, 290, 291, 292, 294, 295, 296, 297, 298, 299, 300, 301, 302, 303] : List Nat).filterMap (fun i => lw_tbl[i]?) := by decide +kernel
theorem TB_6_ok : TB_6.all goodWord = true := by decide +kernel
def TB_7 : List Cond := [(Jvm.Cond.methodLink "JuryDesk$Tally" (26 : Nat) ({ cls := "java/util/Arrays", name := "fill", desc := "([JJ)V" } : Jvm.MethodName)), (Jvm.Cond.static ({ cls := "java/util/Arrays", name := "fill", desc := "([JJ)V" } : Jvm.MethodName)), (Jvm.Cond.code ({ cls := "java/util/Arrays", name := "fill", desc := "([JJ)V" } : Jvm.MethodName) prog_16_method_101_code (5 : Nat) (Option.none : Option Jvm.ClassFile.FieldType)), (Jvm.Cond.methodLink "JuryDesk$Lattice" (63 : Nat) ({ cls := "JuryDesk$Lattice", name := "fillBehind", desc := "(LJuryDesk$Heat;I)V" } : Jvm.MethodName)), (Jvm.Cond.instanceMethod ({ cls := "JuryDesk$Lattice", name := "fillBehind", desc := "(LJuryDesk$Heat;I)V" } : Jvm.MethodName)), (Jvm.Cond.code ({ cls := "JuryDesk$Lattice", name := "fillBehind", desc := "(LJuryDesk$Heat;I)V" } : Jvm.MethodName) prog_3_method_7_code (9 : Nat) (Option.none : Option Jvm.ClassFile.FieldType)), (Jvm.Cond.methodLink "JuryDesk$Lattice" (74 : Nat) ({ cls := "java/lang/Integer", name := "bitCount", desc := "(I)I" } : Jvm.MethodName)), (Jvm.Cond.methodLink "JuryDesk$Lattice" (86 : Nat) ({ cls := "JuryDesk$Tally", name := "add", desc := "(IIJ)V" } : Jvm.MethodName)), (Jvm.Cond.instanceMethod ({ cls := "JuryDesk$Tally", name := "add", desc := "(IIJ)V" } : Jvm.MethodName)), (Jvm.Cond.selects "JuryDesk$Tally" ({ cls := "JuryDesk$Tally", name := "add", desc := "(IIJ)V" } : Jvm.MethodName) ({ cls := "JuryDesk$Tally", name := "add", desc := "(IIJ)V" } : Jvm.MethodName)), (Jvm.Cond.code ({ cls := "JuryDesk$Tally", name := "add", desc := "(IIJ)V" } : Jvm.MethodName) prog_6_method_4_code (6 : Nat) (Option.none : Option Jvm.ClassFile.FieldType)), (Jvm.Cond.methodLink "JuryDesk$Lattice" (71 : Nat) ({ cls := "JuryDesk$Tally", name := "complete", desc := "(LJuryDesk$Heat;)V" } : Jvm.MethodName)), (Jvm.Cond.instanceMethod ({ cls := "JuryDesk$Tally", name := "complete", desc := "(LJuryDesk$Heat;)V" } : Jvm.MethodName)), (Jvm.Cond.selects "JuryDesk$Tally" ({ cls := "JuryDesk$Tally", name := "complete", desc := "(LJuryDesk$Heat;)V" } : Jvm.MethodName) ({ cls := "JuryDesk$Tally", name := "complete", desc := "(LJuryDesk$Heat;)V" } : Jvm.MethodName)), (Jvm.Cond.code ({ cls := "JuryDesk$Tally", name := "complete", desc := "(LJuryDesk$Heat;)V" } : Jvm.MethodName) prog_6_method_5_code (4 : Nat) (Option.none : Option Jvm.ClassFile.FieldType)), (Jvm.Cond.methodLink "JuryDesk$Tally" (32 : Nat) ({ cls := "JuryDesk$Heat", name := "has", desc := "(I)Z" } : Jvm.MethodName)), (Jvm.Cond.methodLink "JuryDeskLaw" (79 : Nat) ({ cls := "JuryDesk", name := "before", desc := "(III)J" } : Jvm.MethodName)), (Jvm.Cond.instanceMethod ({ cls := "JuryDesk", name := "before", desc := "(III)J" } : Jvm.MethodName)), (Jvm.Cond.selects "JuryDesk" ({ cls := "JuryDesk", name := "before", desc := "(III)J" } : Jvm.MethodName) ({ cls := "JuryDesk", name := "before", desc := "(III)J" } : Jvm.MethodName)), (Jvm.Cond.code ({ cls := "JuryDesk", name := "before", desc := "(III)J" } : Jvm.MethodName) prog_1_method_12_code (5 : Nat) (Option.some Jvm.ClassFile.FieldType.long)), (Jvm.Cond.methodLink "JuryDeskLaw" (83 : Nat) ({ cls := "JuryDesk", name := "meanRank", desc := "(IIZ)J" } : Jvm.MethodName)), (Jvm.Cond.instanceMethod ({ cls := "JuryDesk", name := "meanRank", desc := "(IIZ)J" } : Jvm.MethodName)), (Jvm.Cond.selects "JuryDesk" ({ cls := "JuryDesk", name := "meanRank", desc := "(IIZ)J" } : Jvm.MethodName) ({ cls := "JuryDesk", name := "meanRank", desc := "(IIZ)J" } : Jvm.MethodName)), (Jvm.Cond.code ({ cls := "JuryDesk", name := "meanRank", desc := "(IIZ)J" } : Jvm.MethodName) prog_1_method_13_code (5 : Nat) (Option.some Jvm.ClassFile.FieldType.long)), (Jvm.Cond.methodLink "JuryDesk" (127 : Nat) ({ cls := "JuryDesk$Tally", name := "sumOfRanks", desc := "(I)J" } : Jvm.MethodName)), (Jvm.Cond.instanceMethod ({ cls := "JuryDesk$Tally", name := "sumOfRanks", desc := "(I)J" } : Jvm.MethodName)), (Jvm.Cond.selects "JuryDesk$Tally" ({ cls := "JuryDesk$Tally", name := "sumOfRanks", desc := "(I)J" } : Jvm.MethodName) ({ cls := "JuryDesk$Tally", name := "sumOfRanks", desc := "(I)J" } : Jvm.MethodName)), (Jvm.Cond.code ({ cls := "JuryDesk$Tally", name := "sumOfRanks", desc := "(I)J" } : Jvm.MethodName) prog_6_method_6_code (5 : Nat) (Option.some Jvm.ClassFile.FieldType.long)), (Jvm.Cond.methodLink "JuryDesk" (134 : Nat) ({ cls := "JuryDesk", name := "inLowestTerms", desc := "(JJZ)J" } : Jvm.MethodName)), (Jvm.Cond.static ({ cls := "JuryDesk", name := "inLowestTerms", desc := "(JJZ)J" } : Jvm.MethodName)), (Jvm.Cond.code ({ cls := "JuryDesk", name := "inLowestTerms", desc := "(JJZ)J" } : Jvm.MethodName) prog_1_method_31_code (7 : Nat) (Option.some Jvm.ClassFile.FieldType.long)), (Jvm.Cond.methodLink "JuryDesk" (205 : Nat) ({ cls := "JuryDesk", name := "commonDivisor", desc := "(JJ)J" } : Jvm.MethodName)), (Jvm.Cond.static ({ cls := "JuryDesk", name := "commonDivisor", desc := "(JJ)J" } : Jvm.MethodName)), (Jvm.Cond.code ({ cls := "JuryDesk", name := "commonDivisor", desc := "(JJ)J" } : Jvm.MethodName) prog_1_method_32_code (11 : Nat) (Option.some Jvm.ClassFile.FieldType.long)), (Jvm.Cond.methodLink "JuryDeskLaw" (94 : Nat) ({ cls := "JuryDesk", name := "order", desc := "(IJI)I" } : Jvm.MethodName)), (Jvm.Cond.instanceMethod ({ cls := "JuryDesk", name := "order", desc := "(IJI)I" } : Jvm.MethodName)), (Jvm.Cond.selects "JuryDesk" ({ cls := "JuryDesk", name := "order", desc := "(IJI)I" } : Jvm.MethodName) ({ cls := "JuryDesk", name := "order", desc := "(IJI)I" } : Jvm.MethodName)), (Jvm.Cond.code ({ cls := "JuryDesk", name := "order", desc := "(IJI)I" } : Jvm.MethodName) prog_1_method_15_code (6 : Nat) (Option.some Jvm.ClassFile.FieldType.int)), (Jvm.Cond.methodLink "JuryDesk" (143 : Nat) ({ cls := "JuryDesk$Lattice", name := "entryAt", desc := "(LJuryDesk$Heat;JI)I" } : Jvm.MethodName)), (Jvm.Cond.instanceMethod ({ cls := "JuryDesk$Lattice", name := "entryAt", desc := "(LJuryDesk$Heat;JI)I" } : Jvm.MethodName))]
theorem TB_7_in : TB_7 = ([304, 305, 306, 307, 309, 310, 311, 312, 313, 314, 315, 316, 317, 318, 319, 320, 321, 322, 323, 324, 325, 326, 327, 328, 329, 330, 331, 332, 333, 334, 335, 336, 337, 338, 339, 340, 341, 342, 343, 344] : List Nat).filterMap (fun i => lw_tbl[i]?) := by decide +kernel
theorem TB_7_ok : TB_7.all goodWord = true := by decide +kernel
def TB_8 : List Cond := [(Jvm.Cond.selects "JuryDesk$Lattice" ({ cls := "JuryDesk$Lattice", name := "entryAt", desc := "(LJuryDesk$Heat;JI)I" } : Jvm.MethodName) ({ cls := "JuryDesk$Lattice", name := "entryAt", desc := "(LJuryDesk$Heat;JI)I" } : Jvm.MethodName)), (Jvm.Cond.code ({ cls := "JuryDesk$Lattice", name := "entryAt", desc := "(LJuryDesk$Heat;JI)I" } : Jvm.MethodName) prog_3_method_4_code (13 : Nat) (Option.some Jvm.ClassFile.FieldType.int)), (Jvm.Cond.methodLink "JuryDesk$Lattice" (46 : Nat) ({ cls := "JuryDesk$Heat", name := "mayCome", desc := "(II)Z" } : Jvm.MethodName)), (Jvm.Cond.instanceMethod ({ cls := "JuryDesk$Heat", name := "mayCome", desc := "(II)Z" } : Jvm.MethodName)), (Jvm.Cond.selects "JuryDesk$Heat" ({ cls := "JuryDesk$Heat", name := "mayCome", desc := "(II)Z" } : Jvm.MethodName) ({ cls := "JuryDesk$Heat", name := "mayCome", desc := "(II)Z" } : Jvm.MethodName)), (Jvm.Cond.code ({ cls := "JuryDesk$Heat", name := "mayCome", desc := "(II)Z" } : Jvm.MethodName) prog_2_method_12_code (3 : Nat) (Option.some Jvm.ClassFile.FieldType.boolean)), (Jvm.Cond.methodLink "JuryDeskLaw" (103 : Nat) ({ cls := "JuryDesk", name := "numberOf", desc := "(I)J" } : Jvm.MethodName)), (Jvm.Cond.instanceMethod ({ cls := "JuryDesk", name := "numberOf", desc := "(I)J" } : Jvm.MethodName)), (Jvm.Cond.selects "JuryDesk" ({ cls := "JuryDesk", name := "numberOf", desc := "(I)J" } : Jvm.MethodName) ({ cls := "JuryDesk", name := "numberOf", desc := "(I)J" } : Jvm.MethodName)), (Jvm.Cond.code ({ cls := "JuryDesk", name := "numberOf", desc := "(I)J" } : Jvm.MethodName) prog_1_method_17_code (3 : Nat) (Option.some Jvm.ClassFile.FieldType.long)), (Jvm.Cond.methodLink "JuryDesk" (149 : Nat) ({ cls := "JuryDesk$Heat", name := "allows", desc := "([I)Z" } : Jvm.MethodName)), (Jvm.Cond.instanceMethod ({ cls := "JuryDesk$Heat", name := "allows", desc := "([I)Z" } : Jvm.MethodName)), (Jvm.Cond.selects "JuryDesk$Heat" ({ cls := "JuryDesk$Heat", name := "allows", desc := "([I)Z" } : Jvm.MethodName) ({ cls := "JuryDesk$Heat", name := "allows", desc := "([I)Z" } : Jvm.MethodName)), (Jvm.Cond.code ({ cls := "JuryDesk$Heat", name := "allows", desc := "([I)Z" } : Jvm.MethodName) prog_2_method_13_code (5 : Nat) (Option.some Jvm.ClassFile.FieldType.boolean)), (Jvm.Cond.methodLink "JuryDesk$Heat" (70 : Nat) ({ cls := "JuryDesk$Heat", name := "size", desc := "()I" } : Jvm.MethodName)), (Jvm.Cond.methodLink "JuryDesk$Heat" (74 : Nat) ({ cls := "JuryDesk$Heat", name := "mayCome", desc := "(II)Z" } : Jvm.MethodName)), (Jvm.Cond.constantLong "JuryDesk" (153 : Nat) (-1 : Int64)), (Jvm.Cond.methodLink "JuryDesk" (155 : Nat) ({ cls := "JuryDesk$Lattice", name := "numberOfRow", desc := "(LJuryDesk$Heat;[I)J" } : Jvm.MethodName)), (Jvm.Cond.instanceMethod ({ cls := "JuryDesk$Lattice", name := "numberOfRow", desc := "(LJuryDesk$Heat;[I)J" } : Jvm.MethodName)), (Jvm.Cond.selects "JuryDesk$Lattice" ({ cls := "JuryDesk$Lattice", name := "numberOfRow", desc := "(LJuryDesk$Heat;[I)J" } : Jvm.MethodName) ({ cls := "JuryDesk$Lattice", name := "numberOfRow", desc := "(LJuryDesk$Heat;[I)J" } : Jvm.MethodName)), (Jvm.Cond.code ({ cls := "JuryDesk$Lattice", name := "numberOfRow", desc := "(LJuryDesk$Heat;[I)J" } : Jvm.MethodName) prog_3_method_5_code (8 : Nat) (Option.some Jvm.ClassFile.FieldType.long)), (Jvm.Cond.methodLink "JuryDeskLaw" (107 : Nat) ({ cls := "JuryDesk", name := "ask", desc := "(II)I" } : Jvm.MethodName)), (Jvm.Cond.instanceMethod ({ cls := "JuryDesk", name := "ask", desc := "(II)I" } : Jvm.MethodName)), (Jvm.Cond.selects "JuryDesk" ({ cls := "JuryDesk", name := "ask", desc := "(II)I" } : Jvm.MethodName) ({ cls := "JuryDesk", name := "ask", desc := "(II)I" } : Jvm.MethodName)), (Jvm.Cond.code ({ cls := "JuryDesk", name := "ask", desc := "(II)I" } : Jvm.MethodName) prog_1_method_18_code (5 : Nat) (Option.some Jvm.ClassFile.FieldType.int)), (Jvm.Cond.methodLink "JuryDesk" (159 : Nat) ({ cls := "JuryDesk$Tally", name := "evenestPair", desc := "(LJuryDesk$Heat;)I" } : Jvm.MethodName)), (Jvm.Cond.instanceMethod ({ cls := "JuryDesk$Tally", name := "evenestPair", desc := "(LJuryDesk$Heat;)I" } : Jvm.MethodName)), (Jvm.Cond.selects "JuryDesk$Tally" ({ cls := "JuryDesk$Tally", name := "evenestPair", desc := "(LJuryDesk$Heat;)I" } : Jvm.MethodName) ({ cls := "JuryDesk$Tally", name := "evenestPair", desc := "(LJuryDesk$Heat;)I" } : Jvm.MethodName)), (Jvm.Cond.code ({ cls := "JuryDesk$Tally", name := "evenestPair", desc := "(LJuryDesk$Heat;)I" } : Jvm.MethodName) prog_6_method_7_code (10 : Nat) (Option.some Jvm.ClassFile.FieldType.int)), (Jvm.Cond.methodLink "JuryDesk$Tally" (38 : Nat) ({ cls := "java/lang/Math", name := "abs", desc := "(J)J" } : Jvm.MethodName)), (Jvm.Cond.static ({ cls := "java/lang/Math", name := "abs", desc := "(J)J" } : Jvm.MethodName)), (Jvm.Cond.code ({ cls := "java/lang/Math", name := "abs", desc := "(J)J" } : Jvm.MethodName) prog_12_method_61_code (2 : Nat) (Option.some Jvm.ClassFile.FieldType.long)), (Jvm.Cond.methodLink "JuryDesk$Tally" (44 : Nat) ({ cls := "JuryDesk$Tally", name := "isOpen", desc := "(LJuryDesk$Heat;II)Z" } : Jvm.MethodName)), (Jvm.Cond.static ({ cls := "JuryDesk$Tally", name := "isOpen", desc := "(LJuryDesk$Heat;II)Z" } : Jvm.MethodName)), (Jvm.Cond.code ({ cls := "JuryDesk$Tally", name := "isOpen", desc := "(LJuryDesk$Heat;II)Z" } : Jvm.MethodName) prog_6_method_8_code (3 : Nat) (Option.some Jvm.ClassFile.FieldType.boolean)), (Jvm.Cond.methodLink "JuryDesk$Tally" (48 : Nat) ({ cls := "JuryDesk$Heat", name := "isAbove", desc := "(II)Z" } : Jvm.MethodName)), (Jvm.Cond.methodLink "JuryDeskLaw" (111 : Nat) ({ cls := "JuryDesk", name := "tie", desc := "(I)I" } : Jvm.MethodName)), (Jvm.Cond.instanceMethod ({ cls := "JuryDesk", name := "tie", desc := "(I)I" } : Jvm.MethodName)), (Jvm.Cond.selects "JuryDesk" ({ cls := "JuryDesk", name := "tie", desc := "(I)I" } : Jvm.MethodName) ({ cls := "JuryDesk", name := "tie", desc := "(I)I" } : Jvm.MethodName)), (Jvm.Cond.code ({ cls := "JuryDesk", name := "tie", desc := "(I)I" } : Jvm.MethodName) prog_1_method_19_code (3 : Nat) (Option.some Jvm.ClassFile.FieldType.int))]
theorem TB_8_in : TB_8 = ([345, 346, 347, 348, 349, 350, 351, 352, 353, 354, 355, 356, 357, 358, 359, 360, 361, 362, 363, 364, 365, 366, 367, 368, 369, 370, 371, 372, 373, 374, 375, 376, 377, 378, 379, 380, 381, 382, 383, 384] : List Nat).filterMap (fun i => lw_tbl[i]?) := by decide +kernel
theorem TB_8_ok : TB_8.all goodWord = true := by decide +kernel
def TB_9 : List Cond := [(Jvm.Cond.methodLink "JuryDesk" (163 : Nat) ({ cls := "JuryDesk", name := "rowsOf", desc := "(LJuryDesk$Heat;)LJuryDesk$Rows;" } : Jvm.MethodName)), (Jvm.Cond.static ({ cls := "JuryDesk", name := "rowsOf", desc := "(LJuryDesk$Heat;)LJuryDesk$Rows;" } : Jvm.MethodName)), (Jvm.Cond.code ({ cls := "JuryDesk", name := "rowsOf", desc := "(LJuryDesk$Heat;)LJuryDesk$Rows;" } : Jvm.MethodName) prog_1_method_29_code (1 : Nat) (Option.some (Jvm.ClassFile.FieldType.object "JuryDesk$Rows"))), (Jvm.Cond.methodLink "JuryDesk" (202 : Nat) ({ cls := "JuryDesk$Rows", name := "arrange", desc := "(LJuryDesk$Heat;)V" } : Jvm.MethodName)), (Jvm.Cond.instanceMethod ({ cls := "JuryDesk$Rows", name := "arrange", desc := "(LJuryDesk$Heat;)V" } : Jvm.MethodName)), (Jvm.Cond.selects "JuryDesk$Rows" ({ cls := "JuryDesk$Rows", name := "arrange", desc := "(LJuryDesk$Heat;)V" } : Jvm.MethodName) ({ cls := "JuryDesk$Rows", name := "arrange", desc := "(LJuryDesk$Heat;)V" } : Jvm.MethodName)), (Jvm.Cond.code ({ cls := "JuryDesk$Rows", name := "arrange", desc := "(LJuryDesk$Heat;)V" } : Jvm.MethodName) prog_5_method_2_code (2 : Nat) (Option.none : Option Jvm.ClassFile.FieldType)), (Jvm.Cond.methodLink "JuryDesk$Rows" (33 : Nat) ({ cls := "JuryDesk$Rows", name := "widthOf", desc := "(LJuryDesk$Heat;I)I" } : Jvm.MethodName)), (Jvm.Cond.instanceMethod ({ cls := "JuryDesk$Rows", name := "widthOf", desc := "(LJuryDesk$Heat;I)I" } : Jvm.MethodName)), (Jvm.Cond.instantiable "JuryDesk$Rows" (8 : Nat)), (Jvm.Cond.code ({ cls := "JuryDesk$Rows", name := "widthOf", desc := "(LJuryDesk$Heat;I)I" } : Jvm.MethodName) prog_5_method_7_code (3 : Nat) (Option.some Jvm.ClassFile.FieldType.int)), (Jvm.Cond.methodLink "JuryDesk$Rows" (76 : Nat) ({ cls := "java/lang/Integer", name := "bitCount", desc := "(I)I" } : Jvm.MethodName)), (Jvm.Cond.methodLink "JuryDesk$Rows" (69 : Nat) ({ cls := "JuryDesk$Rows", name := "mostPairs", desc := "(LJuryDesk$Heat;II)I" } : Jvm.MethodName)), (Jvm.Cond.instanceMethod ({ cls := "JuryDesk$Rows", name := "mostPairs", desc := "(LJuryDesk$Heat;II)I" } : Jvm.MethodName)), (Jvm.Cond.code ({ cls := "JuryDesk$Rows", name := "mostPairs", desc := "(LJuryDesk$Heat;II)I" } : Jvm.MethodName) prog_5_method_8_code (6 : Nat) (Option.some Jvm.ClassFile.FieldType.int)), (Jvm.Cond.methodLink "JuryDesk$Rows" (82 : Nat) ({ cls := "java/util/Arrays", name := "fill", desc := "([II)V" } : Jvm.MethodName)), (Jvm.Cond.methodLink "JuryDesk$Rows" (88 : Nat) ({ cls := "JuryDesk$Rows", name := "pairUp", desc := "(LJuryDesk$Heat;II)Z" } : Jvm.MethodName)), (Jvm.Cond.instanceMethod ({ cls := "JuryDesk$Rows", name := "pairUp", desc := "(LJuryDesk$Heat;II)Z" } : Jvm.MethodName)), (Jvm.Cond.code ({ cls := "JuryDesk$Rows", name := "pairUp", desc := "(LJuryDesk$Heat;II)Z" } : Jvm.MethodName) prog_5_method_9_code (9 : Nat) (Option.some Jvm.ClassFile.FieldType.boolean)), (Jvm.Cond.methodLink "JuryDesk$Rows" (92 : Nat) ({ cls := "JuryDesk$Rows", name := "changePartners", desc := "(I)V" } : Jvm.MethodName)), (Jvm.Cond.instanceMethod ({ cls := "JuryDesk$Rows", name := "changePartners", desc := "(I)V" } : Jvm.MethodName)), (Jvm.Cond.code ({ cls := "JuryDesk$Rows", name := "changePartners", desc := "(I)V" } : Jvm.MethodName) prog_5_method_10_code (6 : Nat) (Option.none : Option Jvm.ClassFile.FieldType)), (Jvm.Cond.methodLink "JuryDesk$Rows" (40 : Nat) ({ cls := "JuryDesk$Rows", name := "chooseFollowers", desc := "(LJuryDesk$Heat;)V" } : Jvm.MethodName)), (Jvm.Cond.instanceMethod ({ cls := "JuryDesk$Rows", name := "chooseFollowers", desc := "(LJuryDesk$Heat;)V" } : Jvm.MethodName)), (Jvm.Cond.code ({ cls := "JuryDesk$Rows", name := "chooseFollowers", desc := "(LJuryDesk$Heat;)V" } : Jvm.MethodName) prog_5_method_4_code (6 : Nat) (Option.none : Option Jvm.ClassFile.FieldType)), (Jvm.Cond.methodLink "JuryDesk$Rows" (58 : Nat) ({ cls := "JuryDesk$Heat", name := "size", desc := "()I" } : Jvm.MethodName)), (Jvm.Cond.methodLink "JuryDesk$Rows" (62 : Nat) ({ cls := "JuryDesk$Rows", name := "leastFollower", desc := "(LJuryDesk$Heat;IIII)I" } : Jvm.MethodName)), (Jvm.Cond.instanceMethod ({ cls := "JuryDesk$Rows", name := "leastFollower", desc := "(LJuryDesk$Heat;IIII)I" } : Jvm.MethodName)), (Jvm.Cond.code ({ cls := "JuryDesk$Rows", name := "leastFollower", desc := "(LJuryDesk$Heat;IIII)I" } : Jvm.MethodName) prog_5_method_5_code (7 : Nat) (Option.some Jvm.ClassFile.FieldType.int)), (Jvm.Cond.methodLink "JuryDesk$Rows" (44 : Nat) ({ cls := "JuryDesk$Rows", name := "chooseTie", desc := "(LJuryDesk$Heat;)V" } : Jvm.MethodName)), (Jvm.Cond.instanceMethod ({ cls := "JuryDesk$Rows", name := "chooseTie", desc := "(LJuryDesk$Heat;)V" } : Jvm.MethodName)), (Jvm.Cond.code ({ cls := "JuryDesk$Rows", name := "chooseTie", desc := "(LJuryDesk$Heat;)V" } : Jvm.MethodName) prog_5_method_6_code (6 : Nat) (Option.none : Option Jvm.ClassFile.FieldType)), (Jvm.Cond.methodLink "JuryDeskLaw" (115 : Nat) ({ cls := "JuryDesk", name := "tieEntry", desc := "(II)I" } : Jvm.MethodName)), (Jvm.Cond.instanceMethod ({ cls := "JuryDesk", name := "tieEntry", desc := "(II)I" } : Jvm.MethodName)), (Jvm.Cond.selects "JuryDesk" ({ cls := "JuryDesk", name := "tieEntry", desc := "(II)I" } : Jvm.MethodName) ({ cls := "JuryDesk", name := "tieEntry", desc := "(II)I" } : Jvm.MethodName)), (Jvm.Cond.code ({ cls := "JuryDesk", name := "tieEntry", desc := "(II)I" } : Jvm.MethodName) prog_1_method_20_code (4 : Nat) (Option.some Jvm.ClassFile.FieldType.int)), (Jvm.Cond.methodLink "JuryDesk" (172 : Nat) ({ cls := "JuryDesk$Rows", name := "tied", desc := "(I)I" } : Jvm.MethodName)), (Jvm.Cond.instanceMethod ({ cls := "JuryDesk$Rows", name := "tied", desc := "(I)I" } : Jvm.MethodName)), (Jvm.Cond.selects "JuryDesk$Rows" ({ cls := "JuryDesk$Rows", name := "tied", desc := "(I)I" } : Jvm.MethodName) ({ cls := "JuryDesk$Rows", name := "tied", desc := "(I)I" } : Jvm.MethodName)), (Jvm.Cond.code ({ cls := "JuryDesk$Rows", name := "tied", desc := "(I)I" } : Jvm.MethodName) prog_5_method_3_code (4 : Nat) (Option.some Jvm.ClassFile.FieldType.int))]
theorem TB_9_in : TB_9 = ([385, 386, 387, 388, 389, 390, 391, 392, 394, 395, 396, 397, 398, 400, 401, 402, 404, 406, 407, 408, 410, 411, 412, 414, 415, 416, 417, 419, 420, 421, 423, 424, 425, 426, 427, 428, 429, 430, 431, 432] : List Nat).filterMap (fun i => lw_tbl[i]?) := by decide +kernel
theorem TB_9_ok : TB_9.all goodWord = true := by decide +kernel
def TB_10 : List Cond := [(Jvm.Cond.methodLink "JuryDeskLaw" (119 : Nat) ({ cls := "JuryDesk", name := "chains", desc := "(I)I" } : Jvm.MethodName)), (Jvm.Cond.instanceMethod ({ cls := "JuryDesk", name := "chains", desc := "(I)I" } : Jvm.MethodName)), (Jvm.Cond.selects "JuryDesk" ({ cls := "JuryDesk", name := "chains", desc := "(I)I" } : Jvm.MethodName) ({ cls := "JuryDesk", name := "chains", desc := "(I)I" } : Jvm.MethodName)), (Jvm.Cond.code ({ cls := "JuryDesk", name := "chains", desc := "(I)I" } : Jvm.MethodName) prog_1_method_21_code (3 : Nat) (Option.some Jvm.ClassFile.FieldType.int)), (Jvm.Cond.methodLink "JuryDeskLaw" (123 : Nat) ({ cls := "JuryDesk", name := "follows", desc := "(II)I" } : Jvm.MethodName)), (Jvm.Cond.instanceMethod ({ cls := "JuryDesk", name := "follows", desc := "(II)I" } : Jvm.MethodName)), (Jvm.Cond.selects "JuryDesk" ({ cls := "JuryDesk", name := "follows", desc := "(II)I" } : Jvm.MethodName) ({ cls := "JuryDesk", name := "follows", desc := "(II)I" } : Jvm.MethodName)), (Jvm.Cond.code ({ cls := "JuryDesk", name := "follows", desc := "(II)I" } : Jvm.MethodName) prog_1_method_22_code (4 : Nat) (Option.some Jvm.ClassFile.FieldType.int)), (Jvm.Cond.methodLink "JuryDeskLaw" (127 : Nat) ({ cls := "JuryDesk", name := "count", desc := "(II)I" } : Jvm.MethodName)), (Jvm.Cond.instanceMethod ({ cls := "JuryDesk", name := "count", desc := "(II)I" } : Jvm.MethodName)), (Jvm.Cond.selects "JuryDesk" ({ cls := "JuryDesk", name := "count", desc := "(II)I" } : Jvm.MethodName) ({ cls := "JuryDesk", name := "count", desc := "(II)I" } : Jvm.MethodName)), (Jvm.Cond.code ({ cls := "JuryDesk", name := "count", desc := "(II)I" } : Jvm.MethodName) prog_1_method_23_code (4 : Nat) (Option.some Jvm.ClassFile.FieldType.int)), (Jvm.Cond.methodLink "JuryDesk" (179 : Nat) ({ cls := "JuryDesk$Heat", name := "verdictsInForce", desc := "()I" } : Jvm.MethodName)), (Jvm.Cond.instanceMethod ({ cls := "JuryDesk$Heat", name := "verdictsInForce", desc := "()I" } : Jvm.MethodName)), (Jvm.Cond.selects "JuryDesk$Heat" ({ cls := "JuryDesk$Heat", name := "verdictsInForce", desc := "()I" } : Jvm.MethodName) ({ cls := "JuryDesk$Heat", name := "verdictsInForce", desc := "()I" } : Jvm.MethodName)), (Jvm.Cond.code ({ cls := "JuryDesk$Heat", name := "verdictsInForce", desc := "()I" } : Jvm.MethodName) prog_2_method_10_code (3 : Nat) (Option.some Jvm.ClassFile.FieldType.int)), (Jvm.Cond.methodLink "JuryDesk" (182 : Nat) ({ cls := "JuryDesk$Heat", name := "settledPairs", desc := "()I" } : Jvm.MethodName)), (Jvm.Cond.instanceMethod ({ cls := "JuryDesk$Heat", name := "settledPairs", desc := "()I" } : Jvm.MethodName)), (Jvm.Cond.selects "JuryDesk$Heat" ({ cls := "JuryDesk$Heat", name := "settledPairs", desc := "()I" } : Jvm.MethodName) ({ cls := "JuryDesk$Heat", name := "settledPairs", desc := "()I" } : Jvm.MethodName)), (Jvm.Cond.code ({ cls := "JuryDesk$Heat", name := "settledPairs", desc := "()I" } : Jvm.MethodName) prog_2_method_11_code (3 : Nat) (Option.some Jvm.ClassFile.FieldType.int)), (Jvm.Cond.methodLink "JuryDeskLaw" (27 : Nat) ({ cls := "JuryDeskLaw", name := "heat", desc := "(LJuryDesk;II)I" } : Jvm.MethodName)), (Jvm.Cond.static ({ cls := "JuryDeskLaw", name := "heat", desc := "(LJuryDesk;II)I" } : Jvm.MethodName)), (Jvm.Cond.classLink "JuryDeskLaw" (13 : Nat) "java/lang/IllegalArgumentException"), (Jvm.Cond.methodLink "JuryDeskLaw" (7 : Nat) ({ cls := "JuryDesk", name := "heat", desc := "(II)V" } : Jvm.MethodName)), (Jvm.Cond.instanceMethod ({ cls := "JuryDesk", name := "heat", desc := "(II)V" } : Jvm.MethodName)), (Jvm.Cond.selects "JuryDesk" ({ cls := "JuryDesk", name := "heat", desc := "(II)V" } : Jvm.MethodName) ({ cls := "JuryDesk", name := "heat", desc := "(II)V" } : Jvm.MethodName)), (Jvm.Cond.code ({ cls := "JuryDesk", name := "heat", desc := "(II)V" } : Jvm.MethodName) prog_1_method_2_code (3 : Nat) (Option.none : Option Jvm.ClassFile.FieldType)), (Jvm.Cond.classLink "JuryDesk" (43 : Nat) "java/lang/IllegalArgumentException"), (Jvm.Cond.instantiable "java/lang/IllegalArgumentException" (6 : Nat)), (Jvm.Cond.selects "java/lang/IllegalArgumentException" ({ cls := "java/lang/Throwable", name := "fillInStackTrace", desc := "(I)Ljava/lang/Throwable;" } : Jvm.MethodName) ({ cls := "java/lang/Throwable", name := "fillInStackTrace", desc := "(I)Ljava/lang/Throwable;" } : Jvm.MethodName)), (Jvm.Cond.selects "java/lang/IllegalArgumentException" ({ cls := "java/lang/Throwable", name := "fillInStackTrace", desc := "()Ljava/lang/Throwable;" } : Jvm.MethodName) ({ cls := "java/lang/Throwable", name := "fillInStackTrace", desc := "()Ljava/lang/Throwable;" } : Jvm.MethodName)), (Jvm.Cond.lays "java/lang/IllegalArgumentException" "java/lang/Throwable" "cause" "Ljava/lang/Throwable;"), (Jvm.Cond.lays "java/lang/Throwable" "java/lang/Throwable" "cause" "Ljava/lang/Throwable;"), (Jvm.Cond.lays "java/lang/IllegalArgumentException" "java/lang/Throwable" "stackTrace" "[Ljava/lang/StackTraceElement;"), (Jvm.Cond.lays "java/lang/Throwable" "java/lang/Throwable" "stackTrace" "[Ljava/lang/StackTraceElement;"), (Jvm.Cond.lays "java/lang/IllegalArgumentException" "java/lang/Throwable" "suppressedExceptions" "Ljava/util/List;"), (Jvm.Cond.lays "java/lang/Throwable" "java/lang/Throwable" "suppressedExceptions" "Ljava/util/List;"), (Jvm.Cond.lays "java/lang/IllegalArgumentException" "java/lang/Throwable" "detailMessage" "Ljava/lang/String;"), (Jvm.Cond.lays "java/lang/Throwable" "java/lang/Throwable" "detailMessage" "Ljava/lang/String;"), (Jvm.Cond.lays "java/lang/IllegalArgumentException" "java/lang/Throwable" "backtrace" "Ljava/lang/Object;")]
theorem TB_10_in : TB_10 = ([433, 434, 435, 436, 437, 438, 439, 440, 441, 442, 443, 444, 445, 446, 447, 448, 449, 450, 451, 452, 453, 454, 456, 457, 458, 459, 460, 461, 462, 470, 471, 472, 473, 474, 475, 476, 477, 478, 479, 480] : List Nat).filterMap (fun i => lw_tbl[i]?) := by decide +kernel
theorem TB_10_ok : TB_10.all goodWord = true := by decide +kernel
def TB_11 : List Cond := [(Jvm.Cond.lays "java/lang/Throwable" "java/lang/Throwable" "backtrace" "Ljava/lang/Object;"), (Jvm.Cond.fieldLink "java/lang/Throwable" (198 : Nat) "java/lang/Throwable" "backtrace" "Ljava/lang/Object;"), (Jvm.Cond.instanceMethod ({ cls := "java/lang/Throwable", name := "<init>", desc := "()V" } : Jvm.MethodName)), (Jvm.Cond.code ({ cls := "java/lang/Throwable", name := "<init>", desc := "()V" } : Jvm.MethodName) prog_15_method_1_code (1 : Nat) (Option.none : Option Jvm.ClassFile.FieldType)), (Jvm.Cond.methodLink "java/lang/Throwable" (1 : Nat) ({ cls := "java/lang/Object", name := "<init>", desc := "()V" } : Jvm.MethodName)), (Jvm.Cond.fieldLink "java/lang/Throwable" (13 : Nat) "java/lang/Throwable" "UNASSIGNED_STACK" "[Ljava/lang/StackTraceElement;"), (Jvm.Cond.fieldLink "java/lang/Throwable" (20 : Nat) "java/lang/Throwable" "SUPPRESSED_SENTINEL" "Ljava/util/List;"), (Jvm.Cond.methodLink "java/lang/Throwable" (27 : Nat) ({ cls := "java/lang/Throwable", name := "fillInStackTrace", desc := "()Ljava/lang/Throwable;" } : Jvm.MethodName)), (Jvm.Cond.instanceMethod ({ cls := "java/lang/Throwable", name := "fillInStackTrace", desc := "()Ljava/lang/Throwable;" } : Jvm.MethodName)), (Jvm.Cond.methodLink "java/lang/Throwable" (202 : Nat) ({ cls := "java/lang/Throwable", name := "fillInStackTrace", desc := "(I)Ljava/lang/Throwable;" } : Jvm.MethodName)), (Jvm.Cond.instanceMethod ({ cls := "java/lang/Throwable", name := "fillInStackTrace", desc := "(I)Ljava/lang/Throwable;" } : Jvm.MethodName)), (Jvm.Cond.instantiable "java/lang/Throwable" (6 : Nat)), (Jvm.Cond.methodLink "JuryDesk" (47 : Nat) ({ cls := "java/lang/IllegalArgumentException", name := "<init>", desc := "(Ljava/lang/String;)V" } : Jvm.MethodName)), (Jvm.Cond.instanceMethod ({ cls := "java/lang/IllegalArgumentException", name := "<init>", desc := "(Ljava/lang/String;)V" } : Jvm.MethodName)), (Jvm.Cond.code ({ cls := "java/lang/IllegalArgumentException", name := "<init>", desc := "(Ljava/lang/String;)V" } : Jvm.MethodName) prog_10_method_2_code (2 : Nat) (Option.none : Option Jvm.ClassFile.FieldType)), (Jvm.Cond.methodLink "java/lang/IllegalArgumentException" (7 : Nat) ({ cls := "java/lang/RuntimeException", name := "<init>", desc := "(Ljava/lang/String;)V" } : Jvm.MethodName)), (Jvm.Cond.instanceMethod ({ cls := "java/lang/RuntimeException", name := "<init>", desc := "(Ljava/lang/String;)V" } : Jvm.MethodName)), (Jvm.Cond.code ({ cls := "java/lang/RuntimeException", name := "<init>", desc := "(Ljava/lang/String;)V" } : Jvm.MethodName) prog_13_method_2_code (2 : Nat) (Option.none : Option Jvm.ClassFile.FieldType)), (Jvm.Cond.methodLink "java/lang/RuntimeException" (7 : Nat) ({ cls := "java/lang/Exception", name := "<init>", desc := "(Ljava/lang/String;)V" } : Jvm.MethodName)), (Jvm.Cond.instanceMethod ({ cls := "java/lang/Exception", name := "<init>", desc := "(Ljava/lang/String;)V" } : Jvm.MethodName)), (Jvm.Cond.code ({ cls := "java/lang/Exception", name := "<init>", desc := "(Ljava/lang/String;)V" } : Jvm.MethodName) prog_9_method_2_code (2 : Nat) (Option.none : Option Jvm.ClassFile.FieldType)), (Jvm.Cond.methodLink "java/lang/Exception" (7 : Nat) ({ cls := "java/lang/Throwable", name := "<init>", desc := "(Ljava/lang/String;)V" } : Jvm.MethodName)), (Jvm.Cond.instanceMethod ({ cls := "java/lang/Throwable", name := "<init>", desc := "(Ljava/lang/String;)V" } : Jvm.MethodName)), (Jvm.Cond.code ({ cls := "java/lang/Throwable", name := "<init>", desc := "(Ljava/lang/String;)V" } : Jvm.MethodName) prog_15_method_2_code (2 : Nat) (Option.none : Option Jvm.ClassFile.FieldType)), (Jvm.Cond.fieldLink "java/lang/Throwable" (198 : Nat) "java/lang/Throwable" "backtrace" "Ljava/lang/Object;"), (Jvm.Cond.fieldLink "java/lang/Throwable" (31 : Nat) "java/lang/Throwable" "detailMessage" "Ljava/lang/String;"), (Jvm.Cond.fieldLink "java/lang/Throwable" (7 : Nat) "java/lang/Throwable" "cause" "Ljava/lang/Throwable;"), (Jvm.Cond.fieldLink "java/lang/Throwable" (17 : Nat) "java/lang/Throwable" "stackTrace" "[Ljava/lang/StackTraceElement;"), (Jvm.Cond.fieldLink "java/lang/Throwable" (24 : Nat) "java/lang/Throwable" "suppressedExceptions" "Ljava/util/List;"), (Jvm.Cond.soleField "java/lang/Throwable" "backtrace"), (Jvm.Cond.soleField "java/lang/Throwable" "detailMessage"), (Jvm.Cond.soleField "java/lang/Throwable" "cause"), (Jvm.Cond.soleField "java/lang/Throwable" "stackTrace"), (Jvm.Cond.lays "java/lang/IllegalArgumentException" "java/lang/Throwable" "depth" "I"), (Jvm.Cond.soleField "java/lang/Throwable" "depth"), (Jvm.Cond.soleField "java/lang/Throwable" "suppressedExceptions"), (Jvm.Cond.arrayClass Jvm.ClassFile.FieldType.byte), (Jvm.Cond.instanceMethod ({ cls := "JuryDesk$Heat", name := "<init>", desc := "()V" } : Jvm.MethodName)), (Jvm.Cond.code ({ cls := "JuryDesk$Heat", name := "<init>", desc := "()V" } : Jvm.MethodName) prog_2_method_1_code (1 : Nat) (Option.none : Option Jvm.ClassFile.FieldType)), (Jvm.Cond.methodLink "JuryDesk$Heat" (3 : Nat) ({ cls := "java/lang/Object", name := "<init>", desc := "()V" } : Jvm.MethodName))]
theorem TB_11_in : TB_11 = ([481, 482, 484, 485, 486, 487, 489, 491, 492, 495, 497, 498, 501, 502, 503, 504, 505, 506, 507, 508, 509, 510, 511, 512, 513, 514, 515, 516, 517, 518, 519, 520, 521, 522, 523, 524, 526, 528, 529, 530] : List Nat).filterMap (fun i => lw_tbl[i]?) := by decide +kernel
theorem TB_11_ok : TB_11.all goodWord = true := by decide +kernel
def TB_12 : List Cond := [(Jvm.Cond.classLink "JuryDesk$Heat" (29 : Nat) "JuryDesk$Tally"), (Jvm.Cond.instantiable "JuryDesk$Tally" (4 : Nat)), (Jvm.Cond.instanceMethod ({ cls := "JuryDesk$Tally", name := "<init>", desc := "()V" } : Jvm.MethodName)), (Jvm.Cond.code ({ cls := "JuryDesk$Tally", name := "<init>", desc := "()V" } : Jvm.MethodName) prog_6_method_1_code (1 : Nat) (Option.none : Option Jvm.ClassFile.FieldType)), (Jvm.Cond.methodLink "JuryDesk$Tally" (3 : Nat) ({ cls := "java/lang/Object", name := "<init>", desc := "()V" } : Jvm.MethodName)), (Jvm.Cond.fieldLink "JuryDesk$Tally" (18 : Nat) "JuryDesk$Tally" "known" "Z"), (Jvm.Cond.fieldLink "JuryDesk" (191 : Nat) "JuryDesk$Tally" "known" "Z"), (Jvm.Cond.fieldLink "JuryDesk$Tally" (22 : Nat) "JuryDesk$Tally" "total" "J"), (Jvm.Cond.fieldLink "JuryDesk" (131 : Nat) "JuryDesk$Tally" "total" "J"), (Jvm.Cond.fieldLink "JuryDesk$Tally" (9 : Nat) "JuryDesk$Tally" "standing" "[J"), (Jvm.Cond.fieldLink "JuryDesk$Lattice" (83 : Nat) "JuryDesk$Tally" "standing" "[J"), (Jvm.Cond.fieldLink "JuryDesk" (118 : Nat) "JuryDesk$Tally" "standing" "[J"), (Jvm.Cond.fieldLink "JuryDesk$Tally" (15 : Nat) "JuryDesk$Tally" "ahead" "[J"), (Jvm.Cond.fieldLink "JuryDesk" (124 : Nat) "JuryDesk$Tally" "ahead" "[J"), (Jvm.Cond.lays "JuryDesk$Tally" "JuryDesk$Tally" "known" "Z"), (Jvm.Cond.soleField "JuryDesk$Tally" "known"), (Jvm.Cond.lays "JuryDesk$Tally" "JuryDesk$Tally" "total" "J"), (Jvm.Cond.soleField "JuryDesk$Tally" "total"), (Jvm.Cond.laysFinal "JuryDesk$Tally" "JuryDesk$Tally" "standing" "[J"), (Jvm.Cond.soleField "JuryDesk$Tally" "standing"), (Jvm.Cond.laysFinal "JuryDesk$Tally" "JuryDesk$Tally" "ahead" "[J"), (Jvm.Cond.soleField "JuryDesk$Tally" "ahead"), (Jvm.Cond.arrayClass Jvm.ClassFile.FieldType.boolean), (Jvm.Cond.classLink "JuryDesk$Heat" (36 : Nat) "JuryDesk$Rows"), (Jvm.Cond.instanceMethod ({ cls := "JuryDesk$Rows", name := "<init>", desc := "()V" } : Jvm.MethodName)), (Jvm.Cond.code ({ cls := "JuryDesk$Rows", name := "<init>", desc := "()V" } : Jvm.MethodName) prog_5_method_1_code (1 : Nat) (Option.none : Option Jvm.ClassFile.FieldType)), (Jvm.Cond.methodLink "JuryDesk$Rows" (3 : Nat) ({ cls := "java/lang/Object", name := "<init>", desc := "()V" } : Jvm.MethodName)), (Jvm.Cond.fieldLink "JuryDesk$Rows" (47 : Nat) "JuryDesk$Rows" "known" "Z"), (Jvm.Cond.fieldLink "JuryDesk$Heat" (92 : Nat) "JuryDesk$Rows" "known" "Z"), (Jvm.Cond.fieldLink "JuryDesk" (201 : Nat) "JuryDesk$Rows" "known" "Z"), (Jvm.Cond.fieldLink "JuryDesk$Rows" (37 : Nat) "JuryDesk$Rows" "width" "I"), (Jvm.Cond.fieldLink "JuryDesk" (167 : Nat) "JuryDesk$Rows" "width" "I"), (Jvm.Cond.fieldLink "JuryDesk$Rows" (9 : Nat) "JuryDesk$Rows" "follower" "[I"), (Jvm.Cond.fieldLink "JuryDesk" (176 : Nat) "JuryDesk$Rows" "follower" "[I"), (Jvm.Cond.fieldLink "JuryDesk$Rows" (51 : Nat) "JuryDesk$Rows" "tieSet" "I"), (Jvm.Cond.fieldLink "JuryDesk$Rows" (15 : Nat) "JuryDesk$Rows" "next" "[I"), (Jvm.Cond.fieldLink "JuryDesk$Rows" (18 : Nat) "JuryDesk$Rows" "previous" "[I"), (Jvm.Cond.fieldLink "JuryDesk$Rows" (21 : Nat) "JuryDesk$Rows" "reachedFrom" "[I"), (Jvm.Cond.fieldLink "JuryDesk$Rows" (24 : Nat) "JuryDesk$Rows" "queue" "[I"), (Jvm.Cond.lays "JuryDesk$Rows" "JuryDesk$Rows" "known" "Z")]
theorem TB_12_in : TB_12 = ([531, 532, 534, 535, 536, 537, 538, 539, 540, 541, 542, 543, 544, 545, 546, 547, 548, 549, 550, 551, 552, 553, 555, 556, 558, 559, 560, 561, 562, 563, 564, 565, 566, 567, 568, 569, 570, 571, 572, 573] : List Nat).filterMap (fun i => lw_tbl[i]?) := by decide +kernel
theorem TB_12_ok : TB_12.all goodWord = true := by decide +kernel
def TB_13 : List Cond := [(Jvm.Cond.soleField "JuryDesk$Rows" "known"), (Jvm.Cond.lays "JuryDesk$Rows" "JuryDesk$Rows" "width" "I"), (Jvm.Cond.soleField "JuryDesk$Rows" "width"), (Jvm.Cond.laysFinal "JuryDesk$Rows" "JuryDesk$Rows" "follower" "[I"), (Jvm.Cond.soleField "JuryDesk$Rows" "follower"), (Jvm.Cond.lays "JuryDesk$Rows" "JuryDesk$Rows" "tieSet" "I"), (Jvm.Cond.soleField "JuryDesk$Rows" "tieSet"), (Jvm.Cond.laysFinal "JuryDesk$Rows" "JuryDesk$Rows" "next" "[I"), (Jvm.Cond.soleField "JuryDesk$Rows" "next"), (Jvm.Cond.laysFinal "JuryDesk$Rows" "JuryDesk$Rows" "previous" "[I"), (Jvm.Cond.soleField "JuryDesk$Rows" "previous"), (Jvm.Cond.laysFinal "JuryDesk$Rows" "JuryDesk$Rows" "reachedFrom" "[I"), (Jvm.Cond.soleField "JuryDesk$Rows" "reachedFrom"), (Jvm.Cond.laysFinal "JuryDesk$Rows" "JuryDesk$Rows" "queue" "[I"), (Jvm.Cond.soleField "JuryDesk$Rows" "queue"), (Jvm.Cond.fieldLink "JuryDesk$Heat" (9 : Nat) "JuryDesk$Heat" "upper" "[B"), (Jvm.Cond.fieldLink "JuryDesk$Reason" (45 : Nat) "JuryDesk$Heat" "upper" "[B"), (Jvm.Cond.fieldLink "JuryDesk$Heat" (15 : Nat) "JuryDesk$Heat" "lower" "[B"), (Jvm.Cond.fieldLink "JuryDesk$Reason" (30 : Nat) "JuryDesk$Heat" "lower" "[B"), (Jvm.Cond.fieldLink "JuryDesk$Heat" (18 : Nat) "JuryDesk$Heat" "withdrawn" "[Z"), (Jvm.Cond.fieldLink "JuryDesk" (87 : Nat) "JuryDesk$Heat" "withdrawn" "[Z"), (Jvm.Cond.fieldLink "JuryDesk$Heat" (22 : Nat) "JuryDesk$Heat" "below" "[I"), (Jvm.Cond.fieldLink "JuryDesk$Lattice" (26 : Nat) "JuryDesk$Heat" "below" "[I"), (Jvm.Cond.fieldLink "JuryDesk$Rows" (66 : Nat) "JuryDesk$Heat" "below" "[I"), (Jvm.Cond.fieldLink "JuryDesk" (101 : Nat) "JuryDesk$Heat" "below" "[I"), (Jvm.Cond.fieldLink "JuryDesk$Heat" (26 : Nat) "JuryDesk$Heat" "above" "[I"), (Jvm.Cond.fieldLink "JuryDesk$Rows" (73 : Nat) "JuryDesk$Heat" "above" "[I"), (Jvm.Cond.fieldLink "JuryDesk" (104 : Nat) "JuryDesk$Heat" "above" "[I"), (Jvm.Cond.fieldLink "JuryDesk$Heat" (32 : Nat) "JuryDesk$Heat" "tally" "LJuryDesk$Tally;"), (Jvm.Cond.fieldLink "JuryDesk$Lattice" (54 : Nat) "JuryDesk$Heat" "tally" "LJuryDesk$Tally;"), (Jvm.Cond.fieldLink "JuryDesk" (115 : Nat) "JuryDesk$Heat" "tally" "LJuryDesk$Tally;"), (Jvm.Cond.fieldLink "JuryDesk$Heat" (39 : Nat) "JuryDesk$Heat" "rows" "LJuryDesk$Rows;"), (Jvm.Cond.fieldLink "JuryDesk" (197 : Nat) "JuryDesk$Heat" "rows" "LJuryDesk$Rows;"), (Jvm.Cond.fieldLink "JuryDesk$Rows" (27 : Nat) "JuryDesk$Heat" "live" "I"), (Jvm.Cond.fieldLink "JuryDesk$Heat" (43 : Nat) "JuryDesk$Heat" "live" "I"), (Jvm.Cond.fieldLink "JuryDesk$Lattice" (42 : Nat) "JuryDesk$Heat" "live" "I"), (Jvm.Cond.fieldLink "JuryDesk$Heat" (47 : Nat) "JuryDesk$Heat" "verdicts" "I"), (Jvm.Cond.fieldLink "JuryDesk$Reason" (42 : Nat) "JuryDesk$Heat" "verdicts" "I"), (Jvm.Cond.fieldLink "JuryDesk" (74 : Nat) "JuryDesk$Heat" "verdicts" "I"), (Jvm.Cond.laysFinal "JuryDesk$Heat" "JuryDesk$Heat" "upper" "[B")]
theorem TB_13_in : TB_13 = ([574, 575, 576, 577, 578, 579, 580, 581, 582, 583, 584, 585, 586, 587, 588, 590, 591, 592, 593, 594, 595, 596, 597, 598, 599, 600, 601, 602, 603, 604, 605, 606, 607, 608, 609, 610, 611, 612, 613, 614] : List Nat).filterMap (fun i => lw_tbl[i]?) := by decide +kernel
theorem TB_13_ok : TB_13.all goodWord = true := by decide +kernel
def TB_14 : List Cond := [(Jvm.Cond.soleField "JuryDesk$Heat" "upper"), (Jvm.Cond.laysFinal "JuryDesk$Heat" "JuryDesk$Heat" "lower" "[B"), (Jvm.Cond.soleField "JuryDesk$Heat" "lower"), (Jvm.Cond.laysFinal "JuryDesk$Heat" "JuryDesk$Heat" "withdrawn" "[Z"), (Jvm.Cond.soleField "JuryDesk$Heat" "withdrawn"), (Jvm.Cond.laysFinal "JuryDesk$Heat" "JuryDesk$Heat" "below" "[I"), (Jvm.Cond.soleField "JuryDesk$Heat" "below"), (Jvm.Cond.laysFinal "JuryDesk$Heat" "JuryDesk$Heat" "above" "[I"), (Jvm.Cond.soleField "JuryDesk$Heat" "above"), (Jvm.Cond.laysFinal "JuryDesk$Heat" "JuryDesk$Heat" "tally" "LJuryDesk$Tally;"), (Jvm.Cond.soleField "JuryDesk$Heat" "tally"), (Jvm.Cond.laysFinal "JuryDesk$Heat" "JuryDesk$Heat" "rows" "LJuryDesk$Rows;"), (Jvm.Cond.soleField "JuryDesk$Heat" "rows"), (Jvm.Cond.lays "JuryDesk$Heat" "JuryDesk$Heat" "live" "I"), (Jvm.Cond.soleField "JuryDesk$Heat" "live"), (Jvm.Cond.lays "JuryDesk$Heat" "JuryDesk$Heat" "verdicts" "I"), (Jvm.Cond.soleField "JuryDesk$Heat" "verdicts"), (Jvm.Cond.methodLink "JuryDesk" (51 : Nat) ({ cls := "JuryDesk$Heat", name := "begin", desc := "(I)V" } : Jvm.MethodName)), (Jvm.Cond.instanceMethod ({ cls := "JuryDesk$Heat", name := "begin", desc := "(I)V" } : Jvm.MethodName)), (Jvm.Cond.selects "JuryDesk$Heat" ({ cls := "JuryDesk$Heat", name := "begin", desc := "(I)V" } : Jvm.MethodName) ({ cls := "JuryDesk$Heat", name := "begin", desc := "(I)V" } : Jvm.MethodName)), (Jvm.Cond.code ({ cls := "JuryDesk$Heat", name := "begin", desc := "(I)V" } : Jvm.MethodName) prog_2_method_2_code (2 : Nat) (Option.none : Option Jvm.ClassFile.FieldType)), (Jvm.Cond.methodLink "JuryDeskLaw" (90 : Nat) ({ cls := "JuryDeskLaw", name := "chance", desc := "(LJuryDesk;JJZ[J)I" } : Jvm.MethodName)), (Jvm.Cond.static ({ cls := "JuryDeskLaw", name := "chance", desc := "(LJuryDesk;JJZ[J)I" } : Jvm.MethodName)), (Jvm.Cond.methodLink "JuryDeskLaw" (15 : Nat) ({ cls := "JuryDesk", name := "chance", desc := "(JJZ)J" } : Jvm.MethodName)), (Jvm.Cond.instanceMethod ({ cls := "JuryDesk", name := "chance", desc := "(JJZ)J" } : Jvm.MethodName)), (Jvm.Cond.selects "JuryDesk" ({ cls := "JuryDesk", name := "chance", desc := "(JJZ)J" } : Jvm.MethodName) ({ cls := "JuryDesk", name := "chance", desc := "(JJZ)J" } : Jvm.MethodName)), (Jvm.Cond.code ({ cls := "JuryDesk", name := "chance", desc := "(JJZ)J" } : Jvm.MethodName) prog_1_method_14_code (6 : Nat) (Option.some Jvm.ClassFile.FieldType.long)), (Jvm.Cond.methodLink "JuryDeskLaw" (99 : Nat) ({ cls := "JuryDeskLaw", name := "give", desc := "(LJuryDesk;II[J)I" } : Jvm.MethodName)), (Jvm.Cond.static ({ cls := "JuryDeskLaw", name := "give", desc := "(LJuryDesk;II[J)I" } : Jvm.MethodName)), (Jvm.Cond.methodLink "JuryDeskLaw" (19 : Nat) ({ cls := "JuryDesk", name := "give", desc := "(II)I" } : Jvm.MethodName)), (Jvm.Cond.instanceMethod ({ cls := "JuryDesk", name := "give", desc := "(II)I" } : Jvm.MethodName)), (Jvm.Cond.selects "JuryDesk" ({ cls := "JuryDesk", name := "give", desc := "(II)I" } : Jvm.MethodName) ({ cls := "JuryDesk", name := "give", desc := "(II)I" } : Jvm.MethodName)), (Jvm.Cond.code ({ cls := "JuryDesk", name := "give", desc := "(II)I" } : Jvm.MethodName) prog_1_method_16_code (4 : Nat) (Option.some Jvm.ClassFile.FieldType.int)), (Jvm.Cond.classLink "JuryDeskLaw" (24 : Nat) "JuryDeskModel"), (Jvm.Cond.instantiable "JuryDeskModel" (24 : Nat)), (Jvm.Cond.methodLink "JuryDeskLaw" (26 : Nat) ({ cls := "JuryDeskModel", name := "<init>", desc := "()V" } : Jvm.MethodName)), (Jvm.Cond.instanceMethod ({ cls := "JuryDeskModel", name := "<init>", desc := "()V" } : Jvm.MethodName)), (Jvm.Cond.code ({ cls := "JuryDeskModel", name := "<init>", desc := "()V" } : Jvm.MethodName) prog_8_method_1_code (2 : Nat) (Option.none : Option Jvm.ClassFile.FieldType)), (Jvm.Cond.methodLink "JuryDeskModel" (1 : Nat) ({ cls := "java/lang/Object", name := "<init>", desc := "()V" } : Jvm.MethodName)), (Jvm.Cond.constant "JuryDeskModel" (49 : Nat) (65536 : Int32))]
theorem TB_14_in : TB_14 = ([615, 616, 617, 618, 619, 620, 621, 622, 623, 624, 625, 626, 627, 628, 629, 630, 631, 633, 634, 635, 636, 637, 638, 640, 641, 642, 643, 645, 646, 648, 649, 650, 651, 653, 654, 655, 656, 657, 658, 659] : List Nat).filterMap (fun i => lw_tbl[i]?) := by decide +kernel
theorem TB_14_ok : TB_14.all goodWord = true := by decide +kernel
def TB_15 : List Cond := [(Jvm.Cond.fieldLink "JuryDeskModel" (7 : Nat) "JuryDeskModel" "thrownCode" "I"), (Jvm.Cond.fieldLink "JuryDeskModel" (13 : Nat) "JuryDeskModel" "size" "[I"), (Jvm.Cond.fieldLink "JuryDeskModel" (17 : Nat) "JuryDeskModel" "gone" "[I"), (Jvm.Cond.fieldLink "JuryDeskModel" (20 : Nat) "JuryDeskModel" "verdicts" "[I"), (Jvm.Cond.fieldLink "JuryDeskModel" (23 : Nat) "JuryDeskModel" "upper" "[I"), (Jvm.Cond.fieldLink "JuryDeskModel" (26 : Nat) "JuryDeskModel" "lower" "[I"), (Jvm.Cond.fieldLink "JuryDeskModel" (29 : Nat) "JuryDeskModel" "back" "[Z"), (Jvm.Cond.fieldLink "JuryDeskModel" (33 : Nat) "JuryDeskModel" "ready" "I"), (Jvm.Cond.fieldLink "JuryDeskModel" (36 : Nat) "JuryDeskModel" "all" "I"), (Jvm.Cond.fieldLink "JuryDeskModel" (39 : Nat) "JuryDeskModel" "below" "[I"), (Jvm.Cond.fieldLink "JuryDeskModel" (42 : Nat) "JuryDeskModel" "above" "[I"), (Jvm.Cond.fieldLink "JuryDeskModel" (45 : Nat) "JuryDeskModel" "counted" "Z"), (Jvm.Cond.fieldLink "JuryDeskModel" (50 : Nat) "JuryDeskModel" "to" "[J"), (Jvm.Cond.fieldLink "JuryDeskModel" (54 : Nat) "JuryDeskModel" "from" "[J"), (Jvm.Cond.fieldLink "JuryDeskModel" (57 : Nat) "JuryDeskModel" "whys" "I"), (Jvm.Cond.fieldLink "JuryDeskModel" (60 : Nat) "JuryDeskModel" "whyNow" "[I"), (Jvm.Cond.fieldLink "JuryDeskModel" (63 : Nat) "JuryDeskModel" "far" "[I"), (Jvm.Cond.fieldLink "JuryDeskModel" (66 : Nat) "JuryDeskModel" "row" "[I"), (Jvm.Cond.fieldLink "JuryDeskModel" (69 : Nat) "JuryDeskModel" "next" "[I"), (Jvm.Cond.fieldLink "JuryDeskModel" (72 : Nat) "JuryDeskModel" "ahead" "[I"), (Jvm.Cond.fieldLink "JuryDeskModel" (75 : Nat) "JuryDeskModel" "queue" "[I"), (Jvm.Cond.fieldLink "JuryDeskModel" (78 : Nat) "JuryDeskModel" "came" "[I"), (Jvm.Cond.fieldLink "JuryDeskModel" (81 : Nat) "JuryDeskModel" "pair" "[J"), (Jvm.Cond.fieldLink "JuryDeskModel" (84 : Nat) "JuryDeskModel" "best" "I"), (Jvm.Cond.lays "JuryDeskModel" "JuryDeskModel" "thrownCode" "I"), (Jvm.Cond.soleField "JuryDeskModel" "thrownCode"), (Jvm.Cond.laysFinal "JuryDeskModel" "JuryDeskModel" "size" "[I"), (Jvm.Cond.soleField "JuryDeskModel" "size"), (Jvm.Cond.laysFinal "JuryDeskModel" "JuryDeskModel" "gone" "[I"), (Jvm.Cond.soleField "JuryDeskModel" "gone"), (Jvm.Cond.laysFinal "JuryDeskModel" "JuryDeskModel" "verdicts" "[I"), (Jvm.Cond.soleField "JuryDeskModel" "verdicts"), (Jvm.Cond.laysFinal "JuryDeskModel" "JuryDeskModel" "upper" "[I"), (Jvm.Cond.soleField "JuryDeskModel" "upper"), (Jvm.Cond.laysFinal "JuryDeskModel" "JuryDeskModel" "lower" "[I"), (Jvm.Cond.soleField "JuryDeskModel" "lower"), (Jvm.Cond.laysFinal "JuryDeskModel" "JuryDeskModel" "back" "[Z"), (Jvm.Cond.soleField "JuryDeskModel" "back"), (Jvm.Cond.lays "JuryDeskModel" "JuryDeskModel" "ready" "I"), (Jvm.Cond.soleField "JuryDeskModel" "ready")]
theorem TB_15_in : TB_15 = ([660, 661, 662, 663, 664, 665, 666, 667, 668, 669, 670, 671, 672, 673, 674, 675, 676, 677, 678, 679, 680, 681, 682, 683, 684, 685, 686, 687, 688, 689, 690, 691, 692, 693, 694, 695, 696, 697, 698, 699] : List Nat).filterMap (fun i => lw_tbl[i]?) := by decide +kernel
theorem TB_15_ok : TB_15.all goodWord = true := by decide +kernel
def TB_16 : List Cond := [(Jvm.Cond.lays "JuryDeskModel" "JuryDeskModel" "all" "I"), (Jvm.Cond.soleField "JuryDeskModel" "all"), (Jvm.Cond.laysFinal "JuryDeskModel" "JuryDeskModel" "below" "[I"), (Jvm.Cond.soleField "JuryDeskModel" "below"), (Jvm.Cond.laysFinal "JuryDeskModel" "JuryDeskModel" "above" "[I"), (Jvm.Cond.soleField "JuryDeskModel" "above"), (Jvm.Cond.lays "JuryDeskModel" "JuryDeskModel" "counted" "Z"), (Jvm.Cond.soleField "JuryDeskModel" "counted"), (Jvm.Cond.laysFinal "JuryDeskModel" "JuryDeskModel" "to" "[J"), (Jvm.Cond.soleField "JuryDeskModel" "to"), (Jvm.Cond.laysFinal "JuryDeskModel" "JuryDeskModel" "from" "[J"), (Jvm.Cond.soleField "JuryDeskModel" "from"), (Jvm.Cond.lays "JuryDeskModel" "JuryDeskModel" "whys" "I"), (Jvm.Cond.soleField "JuryDeskModel" "whys"), (Jvm.Cond.laysFinal "JuryDeskModel" "JuryDeskModel" "whyNow" "[I"), (Jvm.Cond.soleField "JuryDeskModel" "whyNow"), (Jvm.Cond.laysFinal "JuryDeskModel" "JuryDeskModel" "far" "[I"), (Jvm.Cond.soleField "JuryDeskModel" "far"), (Jvm.Cond.laysFinal "JuryDeskModel" "JuryDeskModel" "row" "[I"), (Jvm.Cond.soleField "JuryDeskModel" "row"), (Jvm.Cond.laysFinal "JuryDeskModel" "JuryDeskModel" "next" "[I"), (Jvm.Cond.soleField "JuryDeskModel" "next"), (Jvm.Cond.laysFinal "JuryDeskModel" "JuryDeskModel" "ahead" "[I"), (Jvm.Cond.soleField "JuryDeskModel" "ahead"), (Jvm.Cond.laysFinal "JuryDeskModel" "JuryDeskModel" "queue" "[I"), (Jvm.Cond.soleField "JuryDeskModel" "queue"), (Jvm.Cond.laysFinal "JuryDeskModel" "JuryDeskModel" "came" "[I"), (Jvm.Cond.soleField "JuryDeskModel" "came"), (Jvm.Cond.laysFinal "JuryDeskModel" "JuryDeskModel" "pair" "[J"), (Jvm.Cond.soleField "JuryDeskModel" "pair"), (Jvm.Cond.lays "JuryDeskModel" "JuryDeskModel" "best" "I"), (Jvm.Cond.soleField "JuryDeskModel" "best"), (Jvm.Cond.methodLink "JuryDeskLaw" (33 : Nat) ({ cls := "JuryDeskModel", name := "thrown", desc := "()I" } : Jvm.MethodName)), (Jvm.Cond.instanceMethod ({ cls := "JuryDeskModel", name := "thrown", desc := "()I" } : Jvm.MethodName)), (Jvm.Cond.selects "JuryDeskModel" ({ cls := "JuryDeskModel", name := "thrown", desc := "()I" } : Jvm.MethodName) ({ cls := "JuryDeskModel", name := "thrown", desc := "()I" } : Jvm.MethodName)), (Jvm.Cond.code ({ cls := "JuryDeskModel", name := "thrown", desc := "()I" } : Jvm.MethodName) prog_8_method_21_code (1 : Nat) (Option.some Jvm.ClassFile.FieldType.int)), (Jvm.Cond.methodLink "JuryDeskLaw" (32 : Nat) ({ cls := "JuryDeskModel", name := "heat", desc := "(II)V" } : Jvm.MethodName)), (Jvm.Cond.instanceMethod ({ cls := "JuryDeskModel", name := "heat", desc := "(II)V" } : Jvm.MethodName)), (Jvm.Cond.selects "JuryDeskModel" ({ cls := "JuryDeskModel", name := "heat", desc := "(II)V" } : Jvm.MethodName) ({ cls := "JuryDeskModel", name := "heat", desc := "(II)V" } : Jvm.MethodName)), (Jvm.Cond.code ({ cls := "JuryDeskModel", name := "heat", desc := "(II)V" } : Jvm.MethodName) prog_8_method_22_code (3 : Nat) (Option.none : Option Jvm.ClassFile.FieldType))]
theorem TB_16_in : TB_16 = ([700, 701, 702, 703, 704, 705, 706, 707, 708, 709, 710, 711, 712, 713, 714, 715, 716, 717, 718, 719, 720, 721, 722, 723, 724, 725, 726, 727, 728, 729, 730, 731, 733, 734, 735, 736, 737, 738, 739, 740] : List Nat).filterMap (fun i => lw_tbl[i]?) := by decide +kernel
theorem TB_16_ok : TB_16.all goodWord = true := by decide +kernel
def TB_17 : List Cond := [(Jvm.Cond.methodLink "JuryDeskLaw" (41 : Nat) ({ cls := "JuryDeskModel", name := "better", desc := "(III)I" } : Jvm.MethodName)), (Jvm.Cond.instanceMethod ({ cls := "JuryDeskModel", name := "better", desc := "(III)I" } : Jvm.MethodName)), (Jvm.Cond.selects "JuryDeskModel" ({ cls := "JuryDeskModel", name := "better", desc := "(III)I" } : Jvm.MethodName) ({ cls := "JuryDeskModel", name := "better", desc := "(III)I" } : Jvm.MethodName)), (Jvm.Cond.code ({ cls := "JuryDeskModel", name := "better", desc := "(III)I" } : Jvm.MethodName) prog_8_method_23_code (5 : Nat) (Option.some Jvm.ClassFile.FieldType.int)), (Jvm.Cond.methodLink "JuryDeskModel" (87 : Nat) ({ cls := "JuryDeskModel", name := "there", desc := "(II)Z" } : Jvm.MethodName)), (Jvm.Cond.instanceMethod ({ cls := "JuryDeskModel", name := "there", desc := "(II)Z" } : Jvm.MethodName)), (Jvm.Cond.code ({ cls := "JuryDeskModel", name := "there", desc := "(II)Z" } : Jvm.MethodName) prog_8_method_2_code (3 : Nat) (Option.some Jvm.ClassFile.FieldType.boolean)), (Jvm.Cond.methodLink "JuryDeskModel" (94 : Nat) ({ cls := "JuryDeskModel", name := "settle", desc := "(I)V" } : Jvm.MethodName)), (Jvm.Cond.instanceMethod ({ cls := "JuryDeskModel", name := "settle", desc := "(I)V" } : Jvm.MethodName)), (Jvm.Cond.code ({ cls := "JuryDeskModel", name := "settle", desc := "(I)V" } : Jvm.MethodName) prog_8_method_5_code (4 : Nat) (Option.none : Option Jvm.ClassFile.FieldType)), (Jvm.Cond.methodLink "JuryDeskModel" (91 : Nat) ({ cls := "JuryDeskModel", name := "inForce", desc := "(II)Z" } : Jvm.MethodName)), (Jvm.Cond.instanceMethod ({ cls := "JuryDeskModel", name := "inForce", desc := "(II)Z" } : Jvm.MethodName)), (Jvm.Cond.code ({ cls := "JuryDeskModel", name := "inForce", desc := "(II)Z" } : Jvm.MethodName) prog_8_method_4_code (4 : Nat) (Option.some Jvm.ClassFile.FieldType.boolean)), (Jvm.Cond.methodLink "JuryDeskModel" (127 : Nat) ({ cls := "JuryDeskModel", name := "findWhy", desc := "(III)V" } : Jvm.MethodName)), (Jvm.Cond.instanceMethod ({ cls := "JuryDeskModel", name := "findWhy", desc := "(III)V" } : Jvm.MethodName)), (Jvm.Cond.code ({ cls := "JuryDeskModel", name := "findWhy", desc := "(III)V" } : Jvm.MethodName) prog_8_method_9_code (7 : Nat) (Option.none : Option Jvm.ClassFile.FieldType)), (Jvm.Cond.methodLink "JuryDeskLaw" (45 : Nat) ({ cls := "JuryDeskModel", name := "whyLast", desc := "()I" } : Jvm.MethodName)), (Jvm.Cond.instanceMethod ({ cls := "JuryDeskModel", name := "whyLast", desc := "()I" } : Jvm.MethodName)), (Jvm.Cond.selects "JuryDeskModel" ({ cls := "JuryDeskModel", name := "whyLast", desc := "()I" } : Jvm.MethodName) ({ cls := "JuryDeskModel", name := "whyLast", desc := "()I" } : Jvm.MethodName)), (Jvm.Cond.code ({ cls := "JuryDeskModel", name := "whyLast", desc := "()I" } : Jvm.MethodName) prog_8_method_24_code (1 : Nat) (Option.some Jvm.ClassFile.FieldType.int)), (Jvm.Cond.methodLink "JuryDeskLaw" (50 : Nat) ({ cls := "JuryDeskModel", name := "why", desc := "(I)I" } : Jvm.MethodName)), (Jvm.Cond.instanceMethod ({ cls := "JuryDeskModel", name := "why", desc := "(I)I" } : Jvm.MethodName)), (Jvm.Cond.selects "JuryDeskModel" ({ cls := "JuryDeskModel", name := "why", desc := "(I)I" } : Jvm.MethodName) ({ cls := "JuryDeskModel", name := "why", desc := "(I)I" } : Jvm.MethodName)), (Jvm.Cond.code ({ cls := "JuryDeskModel", name := "why", desc := "(I)I" } : Jvm.MethodName) prog_8_method_25_code (2 : Nat) (Option.some Jvm.ClassFile.FieldType.int)), (Jvm.Cond.methodLink "JuryDeskLaw" (55 : Nat) ({ cls := "JuryDeskModel", name := "withdraw", desc := "(II)Z" } : Jvm.MethodName)), (Jvm.Cond.instanceMethod ({ cls := "JuryDeskModel", name := "withdraw", desc := "(II)Z" } : Jvm.MethodName)), (Jvm.Cond.selects "JuryDeskModel" ({ cls := "JuryDeskModel", name := "withdraw", desc := "(II)Z" } : Jvm.MethodName) ({ cls := "JuryDeskModel", name := "withdraw", desc := "(II)Z" } : Jvm.MethodName)), (Jvm.Cond.code ({ cls := "JuryDeskModel", name := "withdraw", desc := "(II)Z" } : Jvm.MethodName) prog_8_method_26_code (3 : Nat) (Option.some Jvm.ClassFile.FieldType.boolean)), (Jvm.Cond.methodLink "JuryDeskModel" (131 : Nat) ({ cls := "JuryDeskModel", name := "isHeat", desc := "(I)Z" } : Jvm.MethodName)), (Jvm.Cond.instanceMethod ({ cls := "JuryDeskModel", name := "isHeat", desc := "(I)Z" } : Jvm.MethodName)), (Jvm.Cond.code ({ cls := "JuryDeskModel", name := "isHeat", desc := "(I)Z" } : Jvm.MethodName) prog_8_method_3_code (2 : Nat) (Option.some Jvm.ClassFile.FieldType.boolean)), (Jvm.Cond.methodLink "JuryDeskLaw" (59 : Nat) ({ cls := "JuryDeskModel", name := "scratch", desc := "(II)Z" } : Jvm.MethodName)), (Jvm.Cond.instanceMethod ({ cls := "JuryDeskModel", name := "scratch", desc := "(II)Z" } : Jvm.MethodName)), (Jvm.Cond.selects "JuryDeskModel" ({ cls := "JuryDeskModel", name := "scratch", desc := "(II)Z" } : Jvm.MethodName) ({ cls := "JuryDeskModel", name := "scratch", desc := "(II)Z" } : Jvm.MethodName)), (Jvm.Cond.code ({ cls := "JuryDeskModel", name := "scratch", desc := "(II)Z" } : Jvm.MethodName) prog_8_method_27_code (3 : Nat) (Option.some Jvm.ClassFile.FieldType.boolean)), (Jvm.Cond.methodLink "JuryDeskModel" (112 : Nat) ({ cls := "JuryDeskModel", name := "bits", desc := "(I)I" } : Jvm.MethodName)), (Jvm.Cond.static ({ cls := "JuryDeskModel", name := "bits", desc := "(I)I" } : Jvm.MethodName)), (Jvm.Cond.code ({ cls := "JuryDeskModel", name := "bits", desc := "(I)I" } : Jvm.MethodName) prog_8_method_8_code (3 : Nat) (Option.some Jvm.ClassFile.FieldType.int)), (Jvm.Cond.methodLink "JuryDeskLaw" (64 : Nat) ({ cls := "JuryDeskModel", name := "settled", desc := "(III)Z" } : Jvm.MethodName)), (Jvm.Cond.instanceMethod ({ cls := "JuryDeskModel", name := "settled", desc := "(III)Z" } : Jvm.MethodName))]
theorem TB_17_in : TB_17 = ([741, 742, 743, 744, 745, 747, 748, 749, 751, 752, 753, 755, 756, 757, 759, 760, 761, 762, 763, 764, 765, 766, 767, 768, 769, 770, 771, 772, 773, 775, 776, 777, 778, 779, 780, 781, 782, 783, 784, 785] : List Nat).filterMap (fun i => lw_tbl[i]?) := by decide +kernel
theorem TB_17_ok : TB_17.all goodWord = true := by decide +kernel
def TB_18 : List Cond := [(Jvm.Cond.selects "JuryDeskModel" ({ cls := "JuryDeskModel", name := "settled", desc := "(III)Z" } : Jvm.MethodName) ({ cls := "JuryDeskModel", name := "settled", desc := "(III)Z" } : Jvm.MethodName)), (Jvm.Cond.code ({ cls := "JuryDeskModel", name := "settled", desc := "(III)Z" } : Jvm.MethodName) prog_8_method_28_code (4 : Nat) (Option.some Jvm.ClassFile.FieldType.boolean)), (Jvm.Cond.methodLink "JuryDeskLaw" (68 : Nat) ({ cls := "JuryDeskModel", name := "direct", desc := "(III)Z" } : Jvm.MethodName)), (Jvm.Cond.instanceMethod ({ cls := "JuryDeskModel", name := "direct", desc := "(III)Z" } : Jvm.MethodName)), (Jvm.Cond.selects "JuryDeskModel" ({ cls := "JuryDeskModel", name := "direct", desc := "(III)Z" } : Jvm.MethodName) ({ cls := "JuryDeskModel", name := "direct", desc := "(III)Z" } : Jvm.MethodName)), (Jvm.Cond.code ({ cls := "JuryDeskModel", name := "direct", desc := "(III)Z" } : Jvm.MethodName) prog_8_method_29_code (4 : Nat) (Option.some Jvm.ClassFile.FieldType.boolean)), (Jvm.Cond.methodLink "JuryDeskModel" (134 : Nat) ({ cls := "JuryDeskModel", name := "settled", desc := "(III)Z" } : Jvm.MethodName)), (Jvm.Cond.methodLink "JuryDeskLaw" (73 : Nat) ({ cls := "JuryDeskModel", name := "orders", desc := "(I)J" } : Jvm.MethodName)), (Jvm.Cond.instanceMethod ({ cls := "JuryDeskModel", name := "orders", desc := "(I)J" } : Jvm.MethodName)), (Jvm.Cond.selects "JuryDeskModel" ({ cls := "JuryDeskModel", name := "orders", desc := "(I)J" } : Jvm.MethodName) ({ cls := "JuryDeskModel", name := "orders", desc := "(I)J" } : Jvm.MethodName)), (Jvm.Cond.code ({ cls := "JuryDeskModel", name := "orders", desc := "(I)J" } : Jvm.MethodName) prog_8_method_30_code (2 : Nat) (Option.some Jvm.ClassFile.FieldType.long)), (Jvm.Cond.methodLink "JuryDeskModel" (124 : Nat) ({ cls := "JuryDeskModel", name := "countAll", desc := "(I)V" } : Jvm.MethodName)), (Jvm.Cond.instanceMethod ({ cls := "JuryDeskModel", name := "countAll", desc := "(I)V" } : Jvm.MethodName)), (Jvm.Cond.code ({ cls := "JuryDeskModel", name := "countAll", desc := "(I)V" } : Jvm.MethodName) prog_8_method_7_code (4 : Nat) (Option.none : Option Jvm.ClassFile.FieldType)), (Jvm.Cond.methodLink "JuryDeskModel" (98 : Nat) ({ cls := "JuryDeskModel", name := "mayCome", desc := "(II)Z" } : Jvm.MethodName)), (Jvm.Cond.instanceMethod ({ cls := "JuryDeskModel", name := "mayCome", desc := "(II)Z" } : Jvm.MethodName)), (Jvm.Cond.code ({ cls := "JuryDeskModel", name := "mayCome", desc := "(II)Z" } : Jvm.MethodName) prog_8_method_6_code (3 : Nat) (Option.some Jvm.ClassFile.FieldType.boolean)), (Jvm.Cond.methodLink "JuryDeskLaw" (78 : Nat) ({ cls := "JuryDeskModel", name := "atRank", desc := "(III)J" } : Jvm.MethodName)), (Jvm.Cond.instanceMethod ({ cls := "JuryDeskModel", name := "atRank", desc := "(III)J" } : Jvm.MethodName)), (Jvm.Cond.selects "JuryDeskModel" ({ cls := "JuryDeskModel", name := "atRank", desc := "(III)J" } : Jvm.MethodName) ({ cls := "JuryDeskModel", name := "atRank", desc := "(III)J" } : Jvm.MethodName)), (Jvm.Cond.code ({ cls := "JuryDeskModel", name := "atRank", desc := "(III)J" } : Jvm.MethodName) prog_8_method_31_code (4 : Nat) (Option.some Jvm.ClassFile.FieldType.long)), (Jvm.Cond.methodLink "JuryDeskModel" (138 : Nat) ({ cls := "JuryDeskModel", name := "rank", desc := "(III)J" } : Jvm.MethodName)), (Jvm.Cond.instanceMethod ({ cls := "JuryDeskModel", name := "rank", desc := "(III)J" } : Jvm.MethodName)), (Jvm.Cond.code ({ cls := "JuryDeskModel", name := "rank", desc := "(III)J" } : Jvm.MethodName) prog_8_method_20_code (7 : Nat) (Option.some Jvm.ClassFile.FieldType.long)), (Jvm.Cond.methodLink "JuryDeskLaw" (82 : Nat) ({ cls := "JuryDeskModel", name := "before", desc := "(III)J" } : Jvm.MethodName)), (Jvm.Cond.instanceMethod ({ cls := "JuryDeskModel", name := "before", desc := "(III)J" } : Jvm.MethodName)), (Jvm.Cond.selects "JuryDeskModel" ({ cls := "JuryDeskModel", name := "before", desc := "(III)J" } : Jvm.MethodName) ({ cls := "JuryDeskModel", name := "before", desc := "(III)J" } : Jvm.MethodName)), (Jvm.Cond.code ({ cls := "JuryDeskModel", name := "before", desc := "(III)J" } : Jvm.MethodName) prog_8_method_32_code (7 : Nat) (Option.some Jvm.ClassFile.FieldType.long)), (Jvm.Cond.methodLink "JuryDeskLaw" (87 : Nat) ({ cls := "JuryDeskModel", name := "meanRank", desc := "(IIZ)J" } : Jvm.MethodName)), (Jvm.Cond.instanceMethod ({ cls := "JuryDeskModel", name := "meanRank", desc := "(IIZ)J" } : Jvm.MethodName)), (Jvm.Cond.selects "JuryDeskModel" ({ cls := "JuryDeskModel", name := "meanRank", desc := "(IIZ)J" } : Jvm.MethodName) ({ cls := "JuryDeskModel", name := "meanRank", desc := "(IIZ)J" } : Jvm.MethodName)), (Jvm.Cond.code ({ cls := "JuryDeskModel", name := "meanRank", desc := "(IIZ)J" } : Jvm.MethodName) prog_8_method_33_code (8 : Nat) (Option.some Jvm.ClassFile.FieldType.long)), (Jvm.Cond.methodLink "JuryDeskModel" (142 : Nat) ({ cls := "JuryDeskModel", name := "common", desc := "(JJ)J" } : Jvm.MethodName)), (Jvm.Cond.static ({ cls := "JuryDeskModel", name := "common", desc := "(JJ)J" } : Jvm.MethodName)), (Jvm.Cond.code ({ cls := "JuryDeskModel", name := "common", desc := "(JJ)J" } : Jvm.MethodName) prog_8_method_18_code (10 : Nat) (Option.some Jvm.ClassFile.FieldType.long)), (Jvm.Cond.methodLink "JuryDeskLaw" (93 : Nat) ({ cls := "JuryDeskModel", name := "chance", desc := "(JJZ)J" } : Jvm.MethodName)), (Jvm.Cond.instanceMethod ({ cls := "JuryDeskModel", name := "chance", desc := "(JJZ)J" } : Jvm.MethodName)), (Jvm.Cond.selects "JuryDeskModel" ({ cls := "JuryDeskModel", name := "chance", desc := "(JJZ)J" } : Jvm.MethodName) ({ cls := "JuryDeskModel", name := "chance", desc := "(JJZ)J" } : Jvm.MethodName)), (Jvm.Cond.code ({ cls := "JuryDeskModel", name := "chance", desc := "(JJZ)J" } : Jvm.MethodName) prog_8_method_34_code (8 : Nat) (Option.some Jvm.ClassFile.FieldType.long)), (Jvm.Cond.methodLink "JuryDeskLaw" (98 : Nat) ({ cls := "JuryDeskModel", name := "order", desc := "(IJI)I" } : Jvm.MethodName))]
theorem TB_18_in : TB_18 = ([786, 787, 788, 789, 790, 791, 792, 793, 794, 795, 796, 797, 799, 800, 801, 803, 804, 805, 806, 807, 808, 809, 811, 812, 813, 814, 815, 816, 817, 818, 819, 820, 821, 822, 823, 824, 825, 826, 827, 828] : List Nat).filterMap (fun i => lw_tbl[i]?) := by decide +kernel
theorem TB_18_ok : TB_18.all goodWord = true := by decide +kernel
def TB_19 : List Cond := [(Jvm.Cond.instanceMethod ({ cls := "JuryDeskModel", name := "order", desc := "(IJI)I" } : Jvm.MethodName)), (Jvm.Cond.selects "JuryDeskModel" ({ cls := "JuryDeskModel", name := "order", desc := "(IJI)I" } : Jvm.MethodName) ({ cls := "JuryDeskModel", name := "order", desc := "(IJI)I" } : Jvm.MethodName)), (Jvm.Cond.code ({ cls := "JuryDeskModel", name := "order", desc := "(IJI)I" } : Jvm.MethodName) prog_8_method_35_code (12 : Nat) (Option.some Jvm.ClassFile.FieldType.int)), (Jvm.Cond.methodLink "JuryDeskLaw" (102 : Nat) ({ cls := "JuryDeskModel", name := "give", desc := "(II)I" } : Jvm.MethodName)), (Jvm.Cond.instanceMethod ({ cls := "JuryDeskModel", name := "give", desc := "(II)I" } : Jvm.MethodName)), (Jvm.Cond.selects "JuryDeskModel" ({ cls := "JuryDeskModel", name := "give", desc := "(II)I" } : Jvm.MethodName) ({ cls := "JuryDeskModel", name := "give", desc := "(II)I" } : Jvm.MethodName)), (Jvm.Cond.code ({ cls := "JuryDeskModel", name := "give", desc := "(II)I" } : Jvm.MethodName) prog_8_method_36_code (4 : Nat) (Option.some Jvm.ClassFile.FieldType.int)), (Jvm.Cond.methodLink "JuryDeskLaw" (106 : Nat) ({ cls := "JuryDeskModel", name := "numberOf", desc := "(I)J" } : Jvm.MethodName)), (Jvm.Cond.instanceMethod ({ cls := "JuryDeskModel", name := "numberOf", desc := "(I)J" } : Jvm.MethodName)), (Jvm.Cond.selects "JuryDeskModel" ({ cls := "JuryDeskModel", name := "numberOf", desc := "(I)J" } : Jvm.MethodName) ({ cls := "JuryDeskModel", name := "numberOf", desc := "(I)J" } : Jvm.MethodName)), (Jvm.Cond.code ({ cls := "JuryDeskModel", name := "numberOf", desc := "(I)J" } : Jvm.MethodName) prog_8_method_37_code (7 : Nat) (Option.some Jvm.ClassFile.FieldType.long)), (Jvm.Cond.constantLong "JuryDeskModel" (146 : Nat) (-1 : Int64)), (Jvm.Cond.methodLink "JuryDeskLaw" (110 : Nat) ({ cls := "JuryDeskModel", name := "ask", desc := "(II)I" } : Jvm.MethodName)), (Jvm.Cond.instanceMethod ({ cls := "JuryDeskModel", name := "ask", desc := "(II)I" } : Jvm.MethodName)), (Jvm.Cond.selects "JuryDeskModel" ({ cls := "JuryDeskModel", name := "ask", desc := "(II)I" } : Jvm.MethodName) ({ cls := "JuryDeskModel", name := "ask", desc := "(II)I" } : Jvm.MethodName)), (Jvm.Cond.code ({ cls := "JuryDeskModel", name := "ask", desc := "(II)I" } : Jvm.MethodName) prog_8_method_38_code (11 : Nat) (Option.some Jvm.ClassFile.FieldType.int)), (Jvm.Cond.methodLink "JuryDeskModel" (148 : Nat) ({ cls := "JuryDeskModel", name := "pairs", desc := "(I)V" } : Jvm.MethodName)), (Jvm.Cond.instanceMethod ({ cls := "JuryDeskModel", name := "pairs", desc := "(I)V" } : Jvm.MethodName)), (Jvm.Cond.code ({ cls := "JuryDeskModel", name := "pairs", desc := "(I)V" } : Jvm.MethodName) prog_8_method_19_code (8 : Nat) (Option.none : Option Jvm.ClassFile.FieldType)), (Jvm.Cond.methodLink "JuryDeskLaw" (114 : Nat) ({ cls := "JuryDeskModel", name := "tie", desc := "(I)I" } : Jvm.MethodName)), (Jvm.Cond.instanceMethod ({ cls := "JuryDeskModel", name := "tie", desc := "(I)I" } : Jvm.MethodName)), (Jvm.Cond.selects "JuryDeskModel" ({ cls := "JuryDeskModel", name := "tie", desc := "(I)I" } : Jvm.MethodName) ({ cls := "JuryDeskModel", name := "tie", desc := "(I)I" } : Jvm.MethodName)), (Jvm.Cond.code ({ cls := "JuryDeskModel", name := "tie", desc := "(I)I" } : Jvm.MethodName) prog_8_method_39_code (2 : Nat) (Option.some Jvm.ClassFile.FieldType.int)), (Jvm.Cond.methodLink "JuryDeskModel" (151 : Nat) ({ cls := "JuryDeskModel", name := "widest", desc := "(I)V" } : Jvm.MethodName)), (Jvm.Cond.instanceMethod ({ cls := "JuryDeskModel", name := "widest", desc := "(I)V" } : Jvm.MethodName)), (Jvm.Cond.code ({ cls := "JuryDeskModel", name := "widest", desc := "(I)V" } : Jvm.MethodName) prog_8_method_15_code (5 : Nat) (Option.none : Option Jvm.ClassFile.FieldType)), (Jvm.Cond.methodLink "JuryDeskModel" (118 : Nat) ({ cls := "JuryDeskModel", name := "apart", desc := "(I)Z" } : Jvm.MethodName)), (Jvm.Cond.instanceMethod ({ cls := "JuryDeskModel", name := "apart", desc := "(I)Z" } : Jvm.MethodName)), (Jvm.Cond.code ({ cls := "JuryDeskModel", name := "apart", desc := "(I)Z" } : Jvm.MethodName) prog_8_method_16_code (3 : Nat) (Option.some Jvm.ClassFile.FieldType.boolean)), (Jvm.Cond.methodLink "JuryDeskModel" (121 : Nat) ({ cls := "JuryDeskModel", name := "earlier", desc := "(II)Z" } : Jvm.MethodName)), (Jvm.Cond.static ({ cls := "JuryDeskModel", name := "earlier", desc := "(II)Z" } : Jvm.MethodName)), (Jvm.Cond.code ({ cls := "JuryDeskModel", name := "earlier", desc := "(II)Z" } : Jvm.MethodName) prog_8_method_17_code (4 : Nat) (Option.some Jvm.ClassFile.FieldType.boolean)), (Jvm.Cond.methodLink "JuryDeskLaw" (118 : Nat) ({ cls := "JuryDeskModel", name := "tieEntry", desc := "(II)I" } : Jvm.MethodName)), (Jvm.Cond.instanceMethod ({ cls := "JuryDeskModel", name := "tieEntry", desc := "(II)I" } : Jvm.MethodName)), (Jvm.Cond.selects "JuryDeskModel" ({ cls := "JuryDeskModel", name := "tieEntry", desc := "(II)I" } : Jvm.MethodName) ({ cls := "JuryDeskModel", name := "tieEntry", desc := "(II)I" } : Jvm.MethodName)), (Jvm.Cond.code ({ cls := "JuryDeskModel", name := "tieEntry", desc := "(II)I" } : Jvm.MethodName) prog_8_method_40_code (5 : Nat) (Option.some Jvm.ClassFile.FieldType.int)), (Jvm.Cond.methodLink "JuryDeskLaw" (122 : Nat) ({ cls := "JuryDeskModel", name := "chains", desc := "(I)I" } : Jvm.MethodName)), (Jvm.Cond.instanceMethod ({ cls := "JuryDeskModel", name := "chains", desc := "(I)I" } : Jvm.MethodName)), (Jvm.Cond.selects "JuryDeskModel" ({ cls := "JuryDeskModel", name := "chains", desc := "(I)I" } : Jvm.MethodName) ({ cls := "JuryDeskModel", name := "chains", desc := "(I)I" } : Jvm.MethodName)), (Jvm.Cond.code ({ cls := "JuryDeskModel", name := "chains", desc := "(I)I" } : Jvm.MethodName) prog_8_method_41_code (2 : Nat) (Option.some Jvm.ClassFile.FieldType.int))]
theorem TB_19_in : TB_19 = ([829, 830, 831, 832, 833, 834, 835, 836, 837, 838, 839, 840, 841, 842, 843, 844, 845, 847, 848, 849, 850, 851, 852, 853, 855, 856, 857, 859, 860, 861, 862, 863, 864, 865, 866, 867, 868, 869, 870, 871] : List Nat).filterMap (fun i => lw_tbl[i]?) := by decide +kernel
theorem TB_19_ok : TB_19.all goodWord = true := by decide +kernel
def TB_20 : List Cond := [(Jvm.Cond.methodLink "JuryDeskModel" (154 : Nat) ({ cls := "JuryDeskModel", name := "rows", desc := "(I)I" } : Jvm.MethodName)), (Jvm.Cond.instanceMethod ({ cls := "JuryDeskModel", name := "rows", desc := "(I)I" } : Jvm.MethodName)), (Jvm.Cond.code ({ cls := "JuryDeskModel", name := "rows", desc := "(I)I" } : Jvm.MethodName) prog_8_method_13_code (8 : Nat) (Option.some Jvm.ClassFile.FieldType.int)), (Jvm.Cond.methodLink "JuryDeskModel" (108 : Nat) ({ cls := "JuryDeskModel", name := "most", desc := "(I)I" } : Jvm.MethodName)), (Jvm.Cond.instanceMethod ({ cls := "JuryDeskModel", name := "most", desc := "(I)I" } : Jvm.MethodName)), (Jvm.Cond.code ({ cls := "JuryDeskModel", name := "most", desc := "(I)I" } : Jvm.MethodName) prog_8_method_12_code (3 : Nat) (Option.some Jvm.ClassFile.FieldType.int)), (Jvm.Cond.methodLink "JuryDeskModel" (104 : Nat) ({ cls := "JuryDeskModel", name := "grow", desc := "(I)Z" } : Jvm.MethodName)), (Jvm.Cond.instanceMethod ({ cls := "JuryDeskModel", name := "grow", desc := "(I)Z" } : Jvm.MethodName)), (Jvm.Cond.code ({ cls := "JuryDeskModel", name := "grow", desc := "(I)Z" } : Jvm.MethodName) prog_8_method_10_code (6 : Nat) (Option.some Jvm.ClassFile.FieldType.boolean)), (Jvm.Cond.methodLink "JuryDeskModel" (101 : Nat) ({ cls := "JuryDeskModel", name := "turnAbout", desc := "(I)V" } : Jvm.MethodName)), (Jvm.Cond.instanceMethod ({ cls := "JuryDeskModel", name := "turnAbout", desc := "(I)V" } : Jvm.MethodName)), (Jvm.Cond.code ({ cls := "JuryDeskModel", name := "turnAbout", desc := "(I)V" } : Jvm.MethodName) prog_8_method_11_code (5 : Nat) (Option.none : Option Jvm.ClassFile.FieldType)), (Jvm.Cond.methodLink "JuryDeskModel" (115 : Nat) ({ cls := "JuryDeskModel", name := "free", desc := "(II)Z" } : Jvm.MethodName)), (Jvm.Cond.instanceMethod ({ cls := "JuryDeskModel", name := "free", desc := "(II)Z" } : Jvm.MethodName)), (Jvm.Cond.code ({ cls := "JuryDeskModel", name := "free", desc := "(II)Z" } : Jvm.MethodName) prog_8_method_14_code (4 : Nat) (Option.some Jvm.ClassFile.FieldType.boolean)), (Jvm.Cond.methodLink "JuryDeskLaw" (126 : Nat) ({ cls := "JuryDeskModel", name := "follows", desc := "(II)I" } : Jvm.MethodName)), (Jvm.Cond.instanceMethod ({ cls := "JuryDeskModel", name := "follows", desc := "(II)I" } : Jvm.MethodName)), (Jvm.Cond.selects "JuryDeskModel" ({ cls := "JuryDeskModel", name := "follows", desc := "(II)I" } : Jvm.MethodName) ({ cls := "JuryDeskModel", name := "follows", desc := "(II)I" } : Jvm.MethodName)), (Jvm.Cond.code ({ cls := "JuryDeskModel", name := "follows", desc := "(II)I" } : Jvm.MethodName) prog_8_method_42_code (3 : Nat) (Option.some Jvm.ClassFile.FieldType.int)), (Jvm.Cond.methodLink "JuryDeskLaw" (130 : Nat) ({ cls := "JuryDeskModel", name := "count", desc := "(II)I" } : Jvm.MethodName)), (Jvm.Cond.instanceMethod ({ cls := "JuryDeskModel", name := "count", desc := "(II)I" } : Jvm.MethodName)), (Jvm.Cond.selects "JuryDeskModel" ({ cls := "JuryDeskModel", name := "count", desc := "(II)I" } : Jvm.MethodName) ({ cls := "JuryDeskModel", name := "count", desc := "(II)I" } : Jvm.MethodName)), (Jvm.Cond.code ({ cls := "JuryDeskModel", name := "count", desc := "(II)I" } : Jvm.MethodName) prog_8_method_43_code (5 : Nat) (Option.some Jvm.ClassFile.FieldType.int)), (Jvm.Cond.constantLong "JuryDeskLaw" (88 : Nat) (4294967295 : Int64))]
theorem TB_20_in : TB_20 = ([872, 874, 875, 876, 878, 879, 880, 882, 883, 884, 886, 887, 888, 890, 891, 892, 893, 894, 895, 896, 897, 898, 899, 900] : List Nat).filterMap (fun i => lw_tbl[i]?) := by decide +kernel
theorem TB_20_ok : TB_20.all goodWord = true := by decide +kernel
def TB : List Cond := TB_0 ++ (TB_1 ++ (TB_2 ++ (TB_3 ++ (TB_4 ++ (TB_5 ++ (TB_6 ++ (TB_7 ++ (TB_8 ++ (TB_9 ++ (TB_10 ++ (TB_11 ++ (TB_12 ++ (TB_13 ++ (TB_14 ++ (TB_15 ++ (TB_16 ++ (TB_17 ++ (TB_18 ++ (TB_19 ++ (TB_20))))))))))))))))))))
theorem TB_ok : ∀ w ∈ TB, goodWord w = true := by
  intro w h
  unfold TB at h
  simp only [List.mem_append] at h
  rcases h with h | h | h | h | h | h | h | h | h | h | h | h | h | h | h | h | h | h | h | h | h
  · exact List.all_eq_true.mp TB_0_ok w h
  · exact List.all_eq_true.mp TB_1_ok w h
  · exact List.all_eq_true.mp TB_2_ok w h
  · exact List.all_eq_true.mp TB_3_ok w h
  · exact List.all_eq_true.mp TB_4_ok w h
  · exact List.all_eq_true.mp TB_5_ok w h
  · exact List.all_eq_true.mp TB_6_ok w h
  · exact List.all_eq_true.mp TB_7_ok w h
  · exact List.all_eq_true.mp TB_8_ok w h
  · exact List.all_eq_true.mp TB_9_ok w h
  · exact List.all_eq_true.mp TB_10_ok w h
  · exact List.all_eq_true.mp TB_11_ok w h
  · exact List.all_eq_true.mp TB_12_ok w h
  · exact List.all_eq_true.mp TB_13_ok w h
  · exact List.all_eq_true.mp TB_14_ok w h
  · exact List.all_eq_true.mp TB_15_ok w h
  · exact List.all_eq_true.mp TB_16_ok w h
  · exact List.all_eq_true.mp TB_17_ok w h
  · exact List.all_eq_true.mp TB_18_ok w h
  · exact List.all_eq_true.mp TB_19_ok w h
  · exact List.all_eq_true.mp TB_20_ok w h
theorem TB_in : ∀ w ∈ TB, w ∈ lw_tbl := by
  intro w h
  unfold TB at h
  simp only [List.mem_append] at h
  rcases h with h | h | h | h | h | h | h | h | h | h | h | h | h | h | h | h | h | h | h | h | h
  · rw [TB_0_in] at h; obtain ⟨i, -, hi⟩ := List.mem_filterMap.mp h; exact List.mem_of_getElem? hi
  · rw [TB_1_in] at h; obtain ⟨i, -, hi⟩ := List.mem_filterMap.mp h; exact List.mem_of_getElem? hi
  · rw [TB_2_in] at h; obtain ⟨i, -, hi⟩ := List.mem_filterMap.mp h; exact List.mem_of_getElem? hi
  · rw [TB_3_in] at h; obtain ⟨i, -, hi⟩ := List.mem_filterMap.mp h; exact List.mem_of_getElem? hi
  · rw [TB_4_in] at h; obtain ⟨i, -, hi⟩ := List.mem_filterMap.mp h; exact List.mem_of_getElem? hi
  · rw [TB_5_in] at h; obtain ⟨i, -, hi⟩ := List.mem_filterMap.mp h; exact List.mem_of_getElem? hi
  · rw [TB_6_in] at h; obtain ⟨i, -, hi⟩ := List.mem_filterMap.mp h; exact List.mem_of_getElem? hi
  · rw [TB_7_in] at h; obtain ⟨i, -, hi⟩ := List.mem_filterMap.mp h; exact List.mem_of_getElem? hi
  · rw [TB_8_in] at h; obtain ⟨i, -, hi⟩ := List.mem_filterMap.mp h; exact List.mem_of_getElem? hi
  · rw [TB_9_in] at h; obtain ⟨i, -, hi⟩ := List.mem_filterMap.mp h; exact List.mem_of_getElem? hi
  · rw [TB_10_in] at h; obtain ⟨i, -, hi⟩ := List.mem_filterMap.mp h; exact List.mem_of_getElem? hi
  · rw [TB_11_in] at h; obtain ⟨i, -, hi⟩ := List.mem_filterMap.mp h; exact List.mem_of_getElem? hi
  · rw [TB_12_in] at h; obtain ⟨i, -, hi⟩ := List.mem_filterMap.mp h; exact List.mem_of_getElem? hi
  · rw [TB_13_in] at h; obtain ⟨i, -, hi⟩ := List.mem_filterMap.mp h; exact List.mem_of_getElem? hi
  · rw [TB_14_in] at h; obtain ⟨i, -, hi⟩ := List.mem_filterMap.mp h; exact List.mem_of_getElem? hi
  · rw [TB_15_in] at h; obtain ⟨i, -, hi⟩ := List.mem_filterMap.mp h; exact List.mem_of_getElem? hi
  · rw [TB_16_in] at h; obtain ⟨i, -, hi⟩ := List.mem_filterMap.mp h; exact List.mem_of_getElem? hi
  · rw [TB_17_in] at h; obtain ⟨i, -, hi⟩ := List.mem_filterMap.mp h; exact List.mem_of_getElem? hi
  · rw [TB_18_in] at h; obtain ⟨i, -, hi⟩ := List.mem_filterMap.mp h; exact List.mem_of_getElem? hi
  · rw [TB_19_in] at h; obtain ⟨i, -, hi⟩ := List.mem_filterMap.mp h; exact List.mem_of_getElem? hi
  · rw [TB_20_in] at h; obtain ⟨i, -, hi⟩ := List.mem_filterMap.mp h; exact List.mem_of_getElem? hi
theorem TB_m0 {w : Cond} (h : w ∈ TB_0) : w ∈ TB := List.mem_append_left _ h
theorem TB_m1 {w : Cond} (h : w ∈ TB_1) : w ∈ TB := List.mem_append_right _ (List.mem_append_left _ h)
theorem TB_m2 {w : Cond} (h : w ∈ TB_2) : w ∈ TB := List.mem_append_right _ (List.mem_append_right _ (List.mem_append_left _ h))
theorem TB_m3 {w : Cond} (h : w ∈ TB_3) : w ∈ TB := List.mem_append_right _ (List.mem_append_right _ (List.mem_append_right _ (List.mem_append_left _ h)))
theorem TB_m4 {w : Cond} (h : w ∈ TB_4) : w ∈ TB := List.mem_append_right _ (List.mem_append_right _ (List.mem_append_right _ (List.mem_append_right _ (List.mem_append_left _ h))))
theorem TB_m5 {w : Cond} (h : w ∈ TB_5) : w ∈ TB := List.mem_append_right _ (List.mem_append_right _ (List.mem_append_right _ (List.mem_append_right _ (List.mem_append_right _ (List.mem_append_left _ h)))))
theorem TB_m6 {w : Cond} (h : w ∈ TB_6) : w ∈ TB := List.mem_append_right _ (List.mem_append_right _ (List.mem_append_right _ (List.mem_append_right _ (List.mem_append_right _ (List.mem_append_right _ (List.mem_append_left _ h))))))
theorem TB_m7 {w : Cond} (h : w ∈ TB_7) : w ∈ TB := List.mem_append_right _ (List.mem_append_right _ (List.mem_append_right _ (List.mem_append_right _ (List.mem_append_right _ (List.mem_append_right _ (List.mem_append_right _ (List.mem_append_left _ h)))))))
theorem TB_m8 {w : Cond} (h : w ∈ TB_8) : w ∈ TB := List.mem_append_right _ (List.mem_append_right _ (List.mem_append_right _ (List.mem_append_right _ (List.mem_append_right _ (List.mem_append_right _ (List.mem_append_right _ (List.mem_append_right _ (List.mem_append_left _ h))))))))
theorem TB_m9 {w : Cond} (h : w ∈ TB_9) : w ∈ TB := List.mem_append_right _ (List.mem_append_right _ (List.mem_append_right _ (List.mem_append_right _ (List.mem_append_right _ (List.mem_append_right _ (List.mem_append_right _ (List.mem_append_right _ (List.mem_append_right _ (List.mem_append_left _ h)))))))))
theorem TB_m10 {w : Cond} (h : w ∈ TB_10) : w ∈ TB := List.mem_append_right _ (List.mem_append_right _ (List.mem_append_right _ (List.mem_append_right _ (List.mem_append_right _ (List.mem_append_right _ (List.mem_append_right _ (List.mem_append_right _ (List.mem_append_right _ (List.mem_append_right _ (List.mem_append_left _ h))))))))))
theorem TB_m11 {w : Cond} (h : w ∈ TB_11) : w ∈ TB := List.mem_append_right _ (List.mem_append_right _ (List.mem_append_right _ (List.mem_append_right _ (List.mem_append_right _ (List.mem_append_right _ (List.mem_append_right _ (List.mem_append_right _ (List.mem_append_right _ (List.mem_append_right _ (List.mem_append_right _ (List.mem_append_left _ h)))))))))))
theorem TB_m12 {w : Cond} (h : w ∈ TB_12) : w ∈ TB := List.mem_append_right _ (List.mem_append_right _ (List.mem_append_right _ (List.mem_append_right _ (List.mem_append_right _ (List.mem_append_right _ (List.mem_append_right _ (List.mem_append_right _ (List.mem_append_right _ (List.mem_append_right _ (List.mem_append_right _ (List.mem_append_right _ (List.mem_append_left _ h))))))))))))
theorem TB_m13 {w : Cond} (h : w ∈ TB_13) : w ∈ TB := List.mem_append_right _ (List.mem_append_right _ (List.mem_append_right _ (List.mem_append_right _ (List.mem_append_right _ (List.mem_append_right _ (List.mem_append_right _ (List.mem_append_right _ (List.mem_append_right _ (List.mem_append_right _ (List.mem_append_right _ (List.mem_append_right _ (List.mem_append_right _ (List.mem_append_left _ h)))))))))))))
theorem TB_m14 {w : Cond} (h : w ∈ TB_14) : w ∈ TB := List.mem_append_right _ (List.mem_append_right _ (List.mem_append_right _ (List.mem_append_right _ (List.mem_append_right _ (List.mem_append_right _ (List.mem_append_right _ (List.mem_append_right _ (List.mem_append_right _ (List.mem_append_right _ (List.mem_append_right _ (List.mem_append_right _ (List.mem_append_right _ (List.mem_append_right _ (List.mem_append_left _ h))))))))))))))
theorem TB_m15 {w : Cond} (h : w ∈ TB_15) : w ∈ TB := List.mem_append_right _ (List.mem_append_right _ (List.mem_append_right _ (List.mem_append_right _ (List.mem_append_right _ (List.mem_append_right _ (List.mem_append_right _ (List.mem_append_right _ (List.mem_append_right _ (List.mem_append_right _ (List.mem_append_right _ (List.mem_append_right _ (List.mem_append_right _ (List.mem_append_right _ (List.mem_append_right _ (List.mem_append_left _ h)))))))))))))))
theorem TB_m16 {w : Cond} (h : w ∈ TB_16) : w ∈ TB := List.mem_append_right _ (List.mem_append_right _ (List.mem_append_right _ (List.mem_append_right _ (List.mem_append_right _ (List.mem_append_right _ (List.mem_append_right _ (List.mem_append_right _ (List.mem_append_right _ (List.mem_append_right _ (List.mem_append_right _ (List.mem_append_right _ (List.mem_append_right _ (List.mem_append_right _ (List.mem_append_right _ (List.mem_append_right _ (List.mem_append_left _ h))))))))))))))))
theorem TB_m17 {w : Cond} (h : w ∈ TB_17) : w ∈ TB := List.mem_append_right _ (List.mem_append_right _ (List.mem_append_right _ (List.mem_append_right _ (List.mem_append_right _ (List.mem_append_right _ (List.mem_append_right _ (List.mem_append_right _ (List.mem_append_right _ (List.mem_append_right _ (List.mem_append_right _ (List.mem_append_right _ (List.mem_append_right _ (List.mem_append_right _ (List.mem_append_right _ (List.mem_append_right _ (List.mem_append_right _ (List.mem_append_left _ h)))))))))))))))))
theorem TB_m18 {w : Cond} (h : w ∈ TB_18) : w ∈ TB := List.mem_append_right _ (List.mem_append_right _ (List.mem_append_right _ (List.mem_append_right _ (List.mem_append_right _ (List.mem_append_right _ (List.mem_append_right _ (List.mem_append_right _ (List.mem_append_right _ (List.mem_append_right _ (List.mem_append_right _ (List.mem_append_right _ (List.mem_append_right _ (List.mem_append_right _ (List.mem_append_right _ (List.mem_append_right _ (List.mem_append_right _ (List.mem_append_right _ (List.mem_append_left _ h))))))))))))))))))
theorem TB_m19 {w : Cond} (h : w ∈ TB_19) : w ∈ TB := List.mem_append_right _ (List.mem_append_right _ (List.mem_append_right _ (List.mem_append_right _ (List.mem_append_right _ (List.mem_append_right _ (List.mem_append_right _ (List.mem_append_right _ (List.mem_append_right _ (List.mem_append_right _ (List.mem_append_right _ (List.mem_append_right _ (List.mem_append_right _ (List.mem_append_right _ (List.mem_append_right _ (List.mem_append_right _ (List.mem_append_right _ (List.mem_append_right _ (List.mem_append_right _ (List.mem_append_left _ h)))))))))))))))))))
theorem TB_m20 {w : Cond} (h : w ∈ TB_20) : w ∈ TB := List.mem_append_right _ (List.mem_append_right _ (List.mem_append_right _ (List.mem_append_right _ (List.mem_append_right _ (List.mem_append_right _ (List.mem_append_right _ (List.mem_append_right _ (List.mem_append_right _ (List.mem_append_right _ (List.mem_append_right _ (List.mem_append_right _ (List.mem_append_right _ (List.mem_append_right _ (List.mem_append_right _ (List.mem_append_right _ (List.mem_append_right _ (List.mem_append_right _ (List.mem_append_right _ (List.mem_append_right _ (h))))))))))))))))))))
theorem tb_0 : (Jvm.Cond.selects "JuryDesk" ({ cls := "JuryDesk", name := "find", desc := "(I)LJuryDesk$Heat;" } : Jvm.MethodName) ({ cls := "JuryDesk", name := "find", desc := "(I)LJuryDesk$Heat;" } : Jvm.MethodName)) ∈ TB := TB_m0 (List.mem_of_getElem? (i := 0) rfl)
theorem tb_1 : (Jvm.Cond.selects "JuryDesk$Reason" ({ cls := "JuryDesk$Reason", name := "measure", desc := "(LJuryDesk$Heat;I)V" } : Jvm.MethodName) ({ cls := "JuryDesk$Reason", name := "measure", desc := "(LJuryDesk$Heat;I)V" } : Jvm.MethodName)) ∈ TB := TB_m0 (List.mem_of_getElem? (i := 1) rfl)
theorem tb_2 : (Jvm.Cond.selects "JuryDesk$Reason" ({ cls := "JuryDesk$Reason", name := "leastToward", desc := "(LJuryDesk$Heat;II)I" } : Jvm.MethodName) ({ cls := "JuryDesk$Reason", name := "leastToward", desc := "(LJuryDesk$Heat;II)I" } : Jvm.MethodName)) ∈ TB := TB_m0 (List.mem_of_getElem? (i := 2) rfl)
theorem tb_3 : (Jvm.Cond.selects "JuryDesk$Heat" ({ cls := "JuryDesk$Heat", name := "settle", desc := "()V" } : Jvm.MethodName) ({ cls := "JuryDesk$Heat", name := "settle", desc := "()V" } : Jvm.MethodName)) ∈ TB := TB_m0 (List.mem_of_getElem? (i := 3) rfl)
theorem tb_4 : (Jvm.Cond.selects "JuryDesk$Heat" ({ cls := "JuryDesk$Heat", name := "leadOn", desc := "()V" } : Jvm.MethodName) ({ cls := "JuryDesk$Heat", name := "leadOn", desc := "()V" } : Jvm.MethodName)) ∈ TB := TB_m0 (List.mem_of_getElem? (i := 4) rfl)
theorem tb_5 : (Jvm.Cond.selects "JuryDesk$Heat" ({ cls := "JuryDesk$Heat", name := "turn", desc := "()V" } : Jvm.MethodName) ({ cls := "JuryDesk$Heat", name := "turn", desc := "()V" } : Jvm.MethodName)) ∈ TB := TB_m0 (List.mem_of_getElem? (i := 5) rfl)
theorem tb_6 : (Jvm.Cond.selects "JuryDesk" ({ cls := "JuryDesk", name := "unload", desc := "(I)V" } : Jvm.MethodName) ({ cls := "JuryDesk", name := "unload", desc := "(I)V" } : Jvm.MethodName)) ∈ TB := TB_m0 (List.mem_of_getElem? (i := 6) rfl)
theorem tb_7 : (Jvm.Cond.selects "JuryDesk" ({ cls := "JuryDesk", name := "total", desc := "(ILJuryDesk$Heat;)J" } : Jvm.MethodName) ({ cls := "JuryDesk", name := "total", desc := "(ILJuryDesk$Heat;)J" } : Jvm.MethodName)) ∈ TB := TB_m0 (List.mem_of_getElem? (i := 7) rfl)
theorem tb_8 : (Jvm.Cond.selects "JuryDesk" ({ cls := "JuryDesk", name := "load", desc := "(ILJuryDesk$Heat;)V" } : Jvm.MethodName) ({ cls := "JuryDesk", name := "load", desc := "(ILJuryDesk$Heat;)V" } : Jvm.MethodName)) ∈ TB := TB_m0 (List.mem_of_getElem? (i := 8) rfl)
theorem tb_9 : (Jvm.Cond.selects "JuryDesk$Lattice" ({ cls := "JuryDesk$Lattice", name := "setBars", desc := "([I)V" } : Jvm.MethodName) ({ cls := "JuryDesk$Lattice", name := "setBars", desc := "([I)V" } : Jvm.MethodName)) ∈ TB := TB_m0 (List.mem_of_getElem? (i := 9) rfl)
theorem tb_10 : (Jvm.Cond.selects "JuryDesk$Lattice" ({ cls := "JuryDesk$Lattice", name := "countHeads", desc := "(LJuryDesk$Heat;)V" } : Jvm.MethodName) ({ cls := "JuryDesk$Lattice", name := "countHeads", desc := "(LJuryDesk$Heat;)V" } : Jvm.MethodName)) ∈ TB := TB_m0 (List.mem_of_getElem? (i := 10) rfl)
theorem tb_11 : (Jvm.Cond.selects "JuryDesk$Lattice" ({ cls := "JuryDesk$Lattice", name := "clearHeads", desc := "(LJuryDesk$Heat;)V" } : Jvm.MethodName) ({ cls := "JuryDesk$Lattice", name := "clearHeads", desc := "(LJuryDesk$Heat;)V" } : Jvm.MethodName)) ∈ TB := TB_m0 (List.mem_of_getElem? (i := 11) rfl)
theorem tb_12 : (Jvm.Cond.selects "JuryDesk$Lattice" ({ cls := "JuryDesk$Lattice", name := "handOn", desc := "(LJuryDesk$Heat;I)V" } : Jvm.MethodName) ({ cls := "JuryDesk$Lattice", name := "handOn", desc := "(LJuryDesk$Heat;I)V" } : Jvm.MethodName)) ∈ TB := TB_m0 (List.mem_of_getElem? (i := 12) rfl)
theorem tb_13 : (Jvm.Cond.selects "JuryDesk$Lattice" ({ cls := "JuryDesk$Lattice", name := "readyOf", desc := "(I)I" } : Jvm.MethodName) ({ cls := "JuryDesk$Lattice", name := "readyOf", desc := "(I)I" } : Jvm.MethodName)) ∈ TB := TB_m0 (List.mem_of_getElem? (i := 13) rfl)
theorem tb_14 : (Jvm.Cond.selects "JuryDesk$Lattice" ({ cls := "JuryDesk$Lattice", name := "countTails", desc := "(LJuryDesk$Heat;)V" } : Jvm.MethodName) ({ cls := "JuryDesk$Lattice", name := "countTails", desc := "(LJuryDesk$Heat;)V" } : Jvm.MethodName)) ∈ TB := TB_m0 (List.mem_of_getElem? (i := 14) rfl)
theorem tb_15 : (Jvm.Cond.selects "JuryDesk$Lattice" ({ cls := "JuryDesk$Lattice", name := "gather", desc := "(LJuryDesk$Heat;I)J" } : Jvm.MethodName) ({ cls := "JuryDesk$Lattice", name := "gather", desc := "(LJuryDesk$Heat;I)J" } : Jvm.MethodName)) ∈ TB := TB_m0 (List.mem_of_getElem? (i := 15) rfl)
theorem tb_16 : (Jvm.Cond.selects "JuryDesk" ({ cls := "JuryDesk", name := "tally", desc := "(ILJuryDesk$Heat;)V" } : Jvm.MethodName) ({ cls := "JuryDesk", name := "tally", desc := "(ILJuryDesk$Heat;)V" } : Jvm.MethodName)) ∈ TB := TB_m0 (List.mem_of_getElem? (i := 16) rfl)
theorem tb_17 : (Jvm.Cond.selects "JuryDesk$Lattice" ({ cls := "JuryDesk$Lattice", name := "fillBehind", desc := "(LJuryDesk$Heat;I)V" } : Jvm.MethodName) ({ cls := "JuryDesk$Lattice", name := "fillBehind", desc := "(LJuryDesk$Heat;I)V" } : Jvm.MethodName)) ∈ TB := TB_m0 (List.mem_of_getElem? (i := 17) rfl)
theorem tb_18 : (Jvm.Cond.selects "JuryDesk$Rows" ({ cls := "JuryDesk$Rows", name := "widthOf", desc := "(LJuryDesk$Heat;I)I" } : Jvm.MethodName) ({ cls := "JuryDesk$Rows", name := "widthOf", desc := "(LJuryDesk$Heat;I)I" } : Jvm.MethodName)) ∈ TB := TB_m0 (List.mem_of_getElem? (i := 18) rfl)
theorem tb_19 : (Jvm.Cond.selects "JuryDesk$Rows" ({ cls := "JuryDesk$Rows", name := "mostPairs", desc := "(LJuryDesk$Heat;II)I" } : Jvm.MethodName) ({ cls := "JuryDesk$Rows", name := "mostPairs", desc := "(LJuryDesk$Heat;II)I" } : Jvm.MethodName)) ∈ TB := TB_m0 (List.mem_of_getElem? (i := 19) rfl)
theorem tb_20 : (Jvm.Cond.selects "JuryDesk$Rows" ({ cls := "JuryDesk$Rows", name := "pairUp", desc := "(LJuryDesk$Heat;II)Z" } : Jvm.MethodName) ({ cls := "JuryDesk$Rows", name := "pairUp", desc := "(LJuryDesk$Heat;II)Z" } : Jvm.MethodName)) ∈ TB := TB_m0 (List.mem_of_getElem? (i := 20) rfl)
theorem tb_21 : (Jvm.Cond.selects "JuryDesk$Rows" ({ cls := "JuryDesk$Rows", name := "changePartners", desc := "(I)V" } : Jvm.MethodName) ({ cls := "JuryDesk$Rows", name := "changePartners", desc := "(I)V" } : Jvm.MethodName)) ∈ TB := TB_m0 (List.mem_of_getElem? (i := 21) rfl)
theorem tb_22 : (Jvm.Cond.selects "JuryDesk$Rows" ({ cls := "JuryDesk$Rows", name := "chooseFollowers", desc := "(LJuryDesk$Heat;)V" } : Jvm.MethodName) ({ cls := "JuryDesk$Rows", name := "chooseFollowers", desc := "(LJuryDesk$Heat;)V" } : Jvm.MethodName)) ∈ TB := TB_m0 (List.mem_of_getElem? (i := 22) rfl)
theorem tb_23 : (Jvm.Cond.selects "JuryDesk$Rows" ({ cls := "JuryDesk$Rows", name := "leastFollower", desc := "(LJuryDesk$Heat;IIII)I" } : Jvm.MethodName) ({ cls := "JuryDesk$Rows", name := "leastFollower", desc := "(LJuryDesk$Heat;IIII)I" } : Jvm.MethodName)) ∈ TB := TB_m0 (List.mem_of_getElem? (i := 23) rfl)
theorem tb_24 : (Jvm.Cond.selects "JuryDesk$Rows" ({ cls := "JuryDesk$Rows", name := "chooseTie", desc := "(LJuryDesk$Heat;)V" } : Jvm.MethodName) ({ cls := "JuryDesk$Rows", name := "chooseTie", desc := "(LJuryDesk$Heat;)V" } : Jvm.MethodName)) ∈ TB := TB_m0 (List.mem_of_getElem? (i := 24) rfl)
theorem tb_25 : (Jvm.Cond.selects "java/lang/Throwable" ({ cls := "java/lang/Throwable", name := "fillInStackTrace", desc := "(I)Ljava/lang/Throwable;" } : Jvm.MethodName) ({ cls := "java/lang/Throwable", name := "fillInStackTrace", desc := "(I)Ljava/lang/Throwable;" } : Jvm.MethodName)) ∈ TB := TB_m0 (List.mem_of_getElem? (i := 25) rfl)
theorem tb_26 : (Jvm.Cond.selects "JuryDeskModel" ({ cls := "JuryDeskModel", name := "there", desc := "(II)Z" } : Jvm.MethodName) ({ cls := "JuryDeskModel", name := "there", desc := "(II)Z" } : Jvm.MethodName)) ∈ TB := TB_m0 (List.mem_of_getElem? (i := 26) rfl)
theorem tb_27 : (Jvm.Cond.selects "JuryDeskModel" ({ cls := "JuryDeskModel", name := "settle", desc := "(I)V" } : Jvm.MethodName) ({ cls := "JuryDeskModel", name := "settle", desc := "(I)V" } : Jvm.MethodName)) ∈ TB := TB_m0 (List.mem_of_getElem? (i := 27) rfl)
theorem tb_28 : (Jvm.Cond.selects "JuryDeskModel" ({ cls := "JuryDeskModel", name := "inForce", desc := "(II)Z" } : Jvm.MethodName) ({ cls := "JuryDeskModel", name := "inForce", desc := "(II)Z" } : Jvm.MethodName)) ∈ TB := TB_m0 (List.mem_of_getElem? (i := 28) rfl)
theorem tb_29 : (Jvm.Cond.selects "JuryDeskModel" ({ cls := "JuryDeskModel", name := "findWhy", desc := "(III)V" } : Jvm.MethodName) ({ cls := "JuryDeskModel", name := "findWhy", desc := "(III)V" } : Jvm.MethodName)) ∈ TB := TB_m0 (List.mem_of_getElem? (i := 29) rfl)
theorem tb_30 : (Jvm.Cond.selects "JuryDeskModel" ({ cls := "JuryDeskModel", name := "isHeat", desc := "(I)Z" } : Jvm.MethodName) ({ cls := "JuryDeskModel", name := "isHeat", desc := "(I)Z" } : Jvm.MethodName)) ∈ TB := TB_m0 (List.mem_of_getElem? (i := 30) rfl)
theorem tb_31 : (Jvm.Cond.selects "JuryDeskModel" ({ cls := "JuryDeskModel", name := "countAll", desc := "(I)V" } : Jvm.MethodName) ({ cls := "JuryDeskModel", name := "countAll", desc := "(I)V" } : Jvm.MethodName)) ∈ TB := TB_m0 (List.mem_of_getElem? (i := 31) rfl)
theorem tb_32 : (Jvm.Cond.selects "JuryDeskModel" ({ cls := "JuryDeskModel", name := "mayCome", desc := "(II)Z" } : Jvm.MethodName) ({ cls := "JuryDeskModel", name := "mayCome", desc := "(II)Z" } : Jvm.MethodName)) ∈ TB := TB_m0 (List.mem_of_getElem? (i := 32) rfl)
theorem tb_33 : (Jvm.Cond.selects "JuryDeskModel" ({ cls := "JuryDeskModel", name := "rank", desc := "(III)J" } : Jvm.MethodName) ({ cls := "JuryDeskModel", name := "rank", desc := "(III)J" } : Jvm.MethodName)) ∈ TB := TB_m0 (List.mem_of_getElem? (i := 33) rfl)
theorem tb_34 : (Jvm.Cond.selects "JuryDeskModel" ({ cls := "JuryDeskModel", name := "pairs", desc := "(I)V" } : Jvm.MethodName) ({ cls := "JuryDeskModel", name := "pairs", desc := "(I)V" } : Jvm.MethodName)) ∈ TB := TB_m0 (List.mem_of_getElem? (i := 34) rfl)
theorem tb_35 : (Jvm.Cond.selects "JuryDeskModel" ({ cls := "JuryDeskModel", name := "widest", desc := "(I)V" } : Jvm.MethodName) ({ cls := "JuryDeskModel", name := "widest", desc := "(I)V" } : Jvm.MethodName)) ∈ TB := TB_m0 (List.mem_of_getElem? (i := 35) rfl)
theorem tb_36 : (Jvm.Cond.selects "JuryDeskModel" ({ cls := "JuryDeskModel", name := "apart", desc := "(I)Z" } : Jvm.MethodName) ({ cls := "JuryDeskModel", name := "apart", desc := "(I)Z" } : Jvm.MethodName)) ∈ TB := TB_m0 (List.mem_of_getElem? (i := 36) rfl)
theorem tb_37 : (Jvm.Cond.selects "JuryDeskModel" ({ cls := "JuryDeskModel", name := "rows", desc := "(I)I" } : Jvm.MethodName) ({ cls := "JuryDeskModel", name := "rows", desc := "(I)I" } : Jvm.MethodName)) ∈ TB := TB_m0 (List.mem_of_getElem? (i := 37) rfl)
theorem tb_38 : (Jvm.Cond.selects "JuryDeskModel" ({ cls := "JuryDeskModel", name := "most", desc := "(I)I" } : Jvm.MethodName) ({ cls := "JuryDeskModel", name := "most", desc := "(I)I" } : Jvm.MethodName)) ∈ TB := TB_m0 (List.mem_of_getElem? (i := 38) rfl)
theorem tb_39 : (Jvm.Cond.selects "JuryDeskModel" ({ cls := "JuryDeskModel", name := "grow", desc := "(I)Z" } : Jvm.MethodName) ({ cls := "JuryDeskModel", name := "grow", desc := "(I)Z" } : Jvm.MethodName)) ∈ TB := TB_m0 (List.mem_of_getElem? (i := 39) rfl)
theorem tb_40 : (Jvm.Cond.selects "JuryDeskModel" ({ cls := "JuryDeskModel", name := "turnAbout", desc := "(I)V" } : Jvm.MethodName) ({ cls := "JuryDeskModel", name := "turnAbout", desc := "(I)V" } : Jvm.MethodName)) ∈ TB := TB_m1 (List.mem_of_getElem? (i := 0) rfl)
theorem tb_41 : (Jvm.Cond.selects "JuryDeskModel" ({ cls := "JuryDeskModel", name := "free", desc := "(II)Z" } : Jvm.MethodName) ({ cls := "JuryDeskModel", name := "free", desc := "(II)Z" } : Jvm.MethodName)) ∈ TB := TB_m1 (List.mem_of_getElem? (i := 1) rfl)
theorem tb_42 : (Jvm.Cond.initialized "JuryDeskLaw") ∈ TB := TB_m1 (List.mem_of_getElem? (i := 2) rfl)
theorem tb_43 : (Jvm.Cond.initialized "JuryDesk") ∈ TB := TB_m1 (List.mem_of_getElem? (i := 3) rfl)
theorem tb_44 : (Jvm.Cond.initialized "JuryDesk$Reason") ∈ TB := TB_m1 (List.mem_of_getElem? (i := 4) rfl)
theorem tb_45 : (Jvm.Cond.initialized "JuryDesk$Lattice") ∈ TB := TB_m1 (List.mem_of_getElem? (i := 5) rfl)
theorem tb_46 : (Jvm.Cond.initialized "java/util/Arrays") ∈ TB := TB_m1 (List.mem_of_getElem? (i := 6) rfl)
theorem tb_47 : (Jvm.Cond.initialized "JuryDeskModel") ∈ TB := TB_m1 (List.mem_of_getElem? (i := 7) rfl)
theorem tb_48 : (Jvm.Cond.initialized "java/lang/Throwable") ∈ TB := TB_m1 (List.mem_of_getElem? (i := 8) rfl)
theorem tb_49 : (Jvm.Cond.initialized "java/lang/Exception") ∈ TB := TB_m1 (List.mem_of_getElem? (i := 9) rfl)
theorem tb_50 : (Jvm.Cond.initialized "java/lang/RuntimeException") ∈ TB := TB_m1 (List.mem_of_getElem? (i := 10) rfl)
theorem tb_51 : (Jvm.Cond.initialized "java/lang/IllegalArgumentException") ∈ TB := TB_m1 (List.mem_of_getElem? (i := 11) rfl)
theorem tb_52 : (Jvm.Cond.initialized "JuryDesk$Heat") ∈ TB := TB_m1 (List.mem_of_getElem? (i := 12) rfl)
theorem tb_53 : (Jvm.Cond.initialized "JuryDesk$Tally") ∈ TB := TB_m1 (List.mem_of_getElem? (i := 13) rfl)
theorem tb_54 : (Jvm.Cond.initialized "JuryDesk$Rows") ∈ TB := TB_m1 (List.mem_of_getElem? (i := 14) rfl)
theorem tb_55 : (Jvm.Cond.initialized "java/lang/Integer") ∈ TB := TB_m1 (List.mem_of_getElem? (i := 15) rfl)
theorem tb_56 : (Jvm.Cond.initialized "java/lang/Math") ∈ TB := TB_m1 (List.mem_of_getElem? (i := 16) rfl)
theorem tb_57 : (Jvm.Cond.classLink "JuryDeskLaw" (8 : Nat) "JuryDesk") ∈ TB := TB_m1 (List.mem_of_getElem? (i := 17) rfl)
theorem tb_58 : (Jvm.Cond.instantiable "JuryDesk" (5 : Nat)) ∈ TB := TB_m1 (List.mem_of_getElem? (i := 18) rfl)
theorem tb_59 : (Jvm.Cond.methodLink "JuryDeskLaw" (23 : Nat) ({ cls := "JuryDesk", name := "<init>", desc := "()V" } : Jvm.MethodName)) ∈ TB := TB_m1 (List.mem_of_getElem? (i := 19) rfl)
theorem tb_60 : (Jvm.Cond.instanceMethod ({ cls := "JuryDesk", name := "<init>", desc := "()V" } : Jvm.MethodName)) ∈ TB := TB_m1 (List.mem_of_getElem? (i := 20) rfl)
theorem tb_61 : (Jvm.Cond.code ({ cls := "JuryDesk", name := "<init>", desc := "()V" } : Jvm.MethodName) prog_1_method_1_code (1 : Nat) (Option.none : Option Jvm.ClassFile.FieldType)) ∈ TB := TB_m1 (List.mem_of_getElem? (i := 21) rfl)
theorem tb_62 : (Jvm.Cond.methodLink "JuryDesk" (3 : Nat) ({ cls := "java/lang/Object", name := "<init>", desc := "()V" } : Jvm.MethodName)) ∈ TB := TB_m1 (List.mem_of_getElem? (i := 22) rfl)
theorem tb_63 : (Jvm.Cond.instanceMethod ({ cls := "java/lang/Object", name := "<init>", desc := "()V" } : Jvm.MethodName)) ∈ TB := TB_m1 (List.mem_of_getElem? (i := 23) rfl)
theorem tb_64 : (Jvm.Cond.code ({ cls := "java/lang/Object", name := "<init>", desc := "()V" } : Jvm.MethodName) object_method_1_code (1 : Nat) (Option.none : Option Jvm.ClassFile.FieldType)) ∈ TB := TB_m1 (List.mem_of_getElem? (i := 24) rfl)
theorem tb_65 : (Jvm.Cond.classLink "JuryDesk" (9 : Nat) "JuryDesk$Heat") ∈ TB := TB_m1 (List.mem_of_getElem? (i := 25) rfl)
theorem tb_66 : (Jvm.Cond.classLink "JuryDesk" (19 : Nat) "JuryDesk$Reason") ∈ TB := TB_m1 (List.mem_of_getElem? (i := 26) rfl)
theorem tb_67 : (Jvm.Cond.instantiable "JuryDesk$Reason" (3 : Nat)) ∈ TB := TB_m1 (List.mem_of_getElem? (i := 27) rfl)
theorem tb_68 : (Jvm.Cond.instanceMethod ({ cls := "JuryDesk$Reason", name := "<init>", desc := "()V" } : Jvm.MethodName)) ∈ TB := TB_m1 (List.mem_of_getElem? (i := 28) rfl)
theorem tb_69 : (Jvm.Cond.code ({ cls := "JuryDesk$Reason", name := "<init>", desc := "()V" } : Jvm.MethodName) prog_4_method_1_code (1 : Nat) (Option.none : Option Jvm.ClassFile.FieldType)) ∈ TB := TB_m1 (List.mem_of_getElem? (i := 29) rfl)
theorem tb_70 : (Jvm.Cond.methodLink "JuryDesk$Reason" (3 : Nat) ({ cls := "java/lang/Object", name := "<init>", desc := "()V" } : Jvm.MethodName)) ∈ TB := TB_m1 (List.mem_of_getElem? (i := 30) rfl)
theorem tb_71 : (Jvm.Cond.fieldLink "JuryDesk$Reason" (9 : Nat) "JuryDesk$Reason" "numbers" "[I") ∈ TB := TB_m1 (List.mem_of_getElem? (i := 31) rfl)
theorem tb_72 : (Jvm.Cond.fieldLink "JuryDesk" (84 : Nat) "JuryDesk$Reason" "numbers" "[I") ∈ TB := TB_m1 (List.mem_of_getElem? (i := 32) rfl)
theorem tb_73 : (Jvm.Cond.fieldLink "JuryDesk$Reason" (22 : Nat) "JuryDesk$Reason" "length" "I") ∈ TB := TB_m1 (List.mem_of_getElem? (i := 33) rfl)
theorem tb_74 : (Jvm.Cond.fieldLink "JuryDesk" (81 : Nat) "JuryDesk$Reason" "length" "I") ∈ TB := TB_m1 (List.mem_of_getElem? (i := 34) rfl)
theorem tb_75 : (Jvm.Cond.fieldLink "JuryDesk$Reason" (15 : Nat) "JuryDesk$Reason" "steps" "[I") ∈ TB := TB_m1 (List.mem_of_getElem? (i := 35) rfl)
theorem tb_76 : (Jvm.Cond.laysFinal "JuryDesk$Reason" "JuryDesk$Reason" "numbers" "[I") ∈ TB := TB_m1 (List.mem_of_getElem? (i := 36) rfl)
theorem tb_77 : (Jvm.Cond.soleField "JuryDesk$Reason" "numbers") ∈ TB := TB_m1 (List.mem_of_getElem? (i := 37) rfl)
theorem tb_78 : (Jvm.Cond.lays "JuryDesk$Reason" "JuryDesk$Reason" "length" "I") ∈ TB := TB_m1 (List.mem_of_getElem? (i := 38) rfl)
theorem tb_79 : (Jvm.Cond.soleField "JuryDesk$Reason" "length") ∈ TB := TB_m1 (List.mem_of_getElem? (i := 39) rfl)
theorem tb_80 : (Jvm.Cond.laysFinal "JuryDesk$Reason" "JuryDesk$Reason" "steps" "[I") ∈ TB := TB_m2 (List.mem_of_getElem? (i := 0) rfl)
theorem tb_81 : (Jvm.Cond.soleField "JuryDesk$Reason" "steps") ∈ TB := TB_m2 (List.mem_of_getElem? (i := 1) rfl)
theorem tb_82 : (Jvm.Cond.arrayClass Jvm.ClassFile.FieldType.int) ∈ TB := TB_m2 (List.mem_of_getElem? (i := 2) rfl)
theorem tb_83 : (Jvm.Cond.classLink "JuryDesk" (26 : Nat) "JuryDesk$Lattice") ∈ TB := TB_m2 (List.mem_of_getElem? (i := 3) rfl)
theorem tb_84 : (Jvm.Cond.instantiable "JuryDesk$Lattice" (4 : Nat)) ∈ TB := TB_m2 (List.mem_of_getElem? (i := 4) rfl)
theorem tb_85 : (Jvm.Cond.instanceMethod ({ cls := "JuryDesk$Lattice", name := "<init>", desc := "()V" } : Jvm.MethodName)) ∈ TB := TB_m2 (List.mem_of_getElem? (i := 5) rfl)
theorem tb_86 : (Jvm.Cond.code ({ cls := "JuryDesk$Lattice", name := "<init>", desc := "()V" } : Jvm.MethodName) prog_3_method_1_code (1 : Nat) (Option.none : Option Jvm.ClassFile.FieldType)) ∈ TB := TB_m2 (List.mem_of_getElem? (i := 6) rfl)
theorem tb_87 : (Jvm.Cond.methodLink "JuryDesk$Lattice" (3 : Nat) ({ cls := "java/lang/Object", name := "<init>", desc := "()V" } : Jvm.MethodName)) ∈ TB := TB_m2 (List.mem_of_getElem? (i := 7) rfl)
theorem tb_88 : (Jvm.Cond.constant "JuryDesk$Lattice" (9 : Nat) (65536 : Int32)) ∈ TB := TB_m2 (List.mem_of_getElem? (i := 8) rfl)
theorem tb_89 : (Jvm.Cond.fieldLink "JuryDesk$Lattice" (10 : Nat) "JuryDesk$Lattice" "heads" "[J") ∈ TB := TB_m2 (List.mem_of_getElem? (i := 9) rfl)
theorem tb_90 : (Jvm.Cond.fieldLink "JuryDesk$Lattice" (16 : Nat) "JuryDesk$Lattice" "tails" "[J") ∈ TB := TB_m2 (List.mem_of_getElem? (i := 10) rfl)
theorem tb_91 : (Jvm.Cond.fieldLink "JuryDesk$Lattice" (19 : Nat) "JuryDesk$Lattice" "lowBars" "[I") ∈ TB := TB_m2 (List.mem_of_getElem? (i := 11) rfl)
theorem tb_92 : (Jvm.Cond.fieldLink "JuryDesk$Lattice" (23 : Nat) "JuryDesk$Lattice" "highBars" "[I") ∈ TB := TB_m2 (List.mem_of_getElem? (i := 12) rfl)
theorem tb_93 : (Jvm.Cond.laysFinal "JuryDesk$Lattice" "JuryDesk$Lattice" "heads" "[J") ∈ TB := TB_m2 (List.mem_of_getElem? (i := 13) rfl)
theorem tb_94 : (Jvm.Cond.soleField "JuryDesk$Lattice" "heads") ∈ TB := TB_m2 (List.mem_of_getElem? (i := 14) rfl)
theorem tb_95 : (Jvm.Cond.laysFinal "JuryDesk$Lattice" "JuryDesk$Lattice" "tails" "[J") ∈ TB := TB_m2 (List.mem_of_getElem? (i := 15) rfl)
theorem tb_96 : (Jvm.Cond.soleField "JuryDesk$Lattice" "tails") ∈ TB := TB_m2 (List.mem_of_getElem? (i := 16) rfl)
theorem tb_97 : (Jvm.Cond.laysFinal "JuryDesk$Lattice" "JuryDesk$Lattice" "lowBars" "[I") ∈ TB := TB_m2 (List.mem_of_getElem? (i := 17) rfl)
theorem tb_98 : (Jvm.Cond.soleField "JuryDesk$Lattice" "lowBars") ∈ TB := TB_m2 (List.mem_of_getElem? (i := 18) rfl)
theorem tb_99 : (Jvm.Cond.laysFinal "JuryDesk$Lattice" "JuryDesk$Lattice" "highBars" "[I") ∈ TB := TB_m2 (List.mem_of_getElem? (i := 19) rfl)
theorem tb_100 : (Jvm.Cond.soleField "JuryDesk$Lattice" "highBars") ∈ TB := TB_m2 (List.mem_of_getElem? (i := 20) rfl)
theorem tb_101 : (Jvm.Cond.arrayClass Jvm.ClassFile.FieldType.long) ∈ TB := TB_m2 (List.mem_of_getElem? (i := 21) rfl)
theorem tb_102 : (Jvm.Cond.methodLink "JuryDesk" (37 : Nat) ({ cls := "java/util/Arrays", name := "fill", desc := "([II)V" } : Jvm.MethodName)) ∈ TB := TB_m2 (List.mem_of_getElem? (i := 22) rfl)
theorem tb_103 : (Jvm.Cond.static ({ cls := "java/util/Arrays", name := "fill", desc := "([II)V" } : Jvm.MethodName)) ∈ TB := TB_m2 (List.mem_of_getElem? (i := 23) rfl)
theorem tb_104 : (Jvm.Cond.code ({ cls := "java/util/Arrays", name := "fill", desc := "([II)V" } : Jvm.MethodName) prog_16_method_103_code (4 : Nat) (Option.none : Option Jvm.ClassFile.FieldType)) ∈ TB := TB_m2 (List.mem_of_getElem? (i := 24) rfl)
theorem tb_105 : (Jvm.Cond.fieldLink "JuryDesk" (11 : Nat) "JuryDesk" "heats" "[LJuryDesk$Heat;") ∈ TB := TB_m2 (List.mem_of_getElem? (i := 25) rfl)
theorem tb_106 : (Jvm.Cond.fieldLink "JuryDesk" (15 : Nat) "JuryDesk" "row" "[I") ∈ TB := TB_m2 (List.mem_of_getElem? (i := 26) rfl)
theorem tb_107 : (Jvm.Cond.fieldLink "JuryDesk" (22 : Nat) "JuryDesk" "reason" "LJuryDesk$Reason;") ∈ TB := TB_m2 (List.mem_of_getElem? (i := 27) rfl)
theorem tb_108 : (Jvm.Cond.fieldLink "JuryDesk" (29 : Nat) "JuryDesk" "lattice" "LJuryDesk$Lattice;") ∈ TB := TB_m2 (List.mem_of_getElem? (i := 28) rfl)
theorem tb_109 : (Jvm.Cond.fieldLink "JuryDesk" (33 : Nat) "JuryDesk" "loaded" "I") ∈ TB := TB_m2 (List.mem_of_getElem? (i := 29) rfl)
theorem tb_110 : (Jvm.Cond.laysFinal "JuryDesk" "JuryDesk" "heats" "[LJuryDesk$Heat;") ∈ TB := TB_m2 (List.mem_of_getElem? (i := 30) rfl)
theorem tb_111 : (Jvm.Cond.soleField "JuryDesk" "heats") ∈ TB := TB_m2 (List.mem_of_getElem? (i := 31) rfl)
theorem tb_112 : (Jvm.Cond.laysFinal "JuryDesk" "JuryDesk" "row" "[I") ∈ TB := TB_m2 (List.mem_of_getElem? (i := 32) rfl)
theorem tb_113 : (Jvm.Cond.soleField "JuryDesk" "row") ∈ TB := TB_m2 (List.mem_of_getElem? (i := 33) rfl)
theorem tb_114 : (Jvm.Cond.laysFinal "JuryDesk" "JuryDesk" "reason" "LJuryDesk$Reason;") ∈ TB := TB_m2 (List.mem_of_getElem? (i := 34) rfl)
theorem tb_115 : (Jvm.Cond.soleField "JuryDesk" "reason") ∈ TB := TB_m2 (List.mem_of_getElem? (i := 35) rfl)
theorem tb_116 : (Jvm.Cond.laysFinal "JuryDesk" "JuryDesk" "lattice" "LJuryDesk$Lattice;") ∈ TB := TB_m2 (List.mem_of_getElem? (i := 36) rfl)
theorem tb_117 : (Jvm.Cond.soleField "JuryDesk" "lattice") ∈ TB := TB_m2 (List.mem_of_getElem? (i := 37) rfl)
theorem tb_118 : (Jvm.Cond.lays "JuryDesk" "JuryDesk" "loaded" "I") ∈ TB := TB_m2 (List.mem_of_getElem? (i := 38) rfl)
theorem tb_119 : (Jvm.Cond.soleField "JuryDesk" "loaded") ∈ TB := TB_m2 (List.mem_of_getElem? (i := 39) rfl)
theorem tb_120 : (Jvm.Cond.methodLink "JuryDeskLaw" (37 : Nat) ({ cls := "JuryDesk", name := "better", desc := "(III)I" } : Jvm.MethodName)) ∈ TB := TB_m3 (List.mem_of_getElem? (i := 0) rfl)
theorem tb_121 : (Jvm.Cond.instanceMethod ({ cls := "JuryDesk", name := "better", desc := "(III)I" } : Jvm.MethodName)) ∈ TB := TB_m3 (List.mem_of_getElem? (i := 1) rfl)
theorem tb_122 : (Jvm.Cond.selects "JuryDesk" ({ cls := "JuryDesk", name := "better", desc := "(III)I" } : Jvm.MethodName) ({ cls := "JuryDesk", name := "better", desc := "(III)I" } : Jvm.MethodName)) ∈ TB := TB_m3 (List.mem_of_getElem? (i := 2) rfl)
theorem tb_123 : (Jvm.Cond.code ({ cls := "JuryDesk", name := "better", desc := "(III)I" } : Jvm.MethodName) prog_1_method_3_code (5 : Nat) (Option.some Jvm.ClassFile.FieldType.int)) ∈ TB := TB_m3 (List.mem_of_getElem? (i := 3) rfl)
theorem tb_124 : (Jvm.Cond.methodLink "JuryDesk" (58 : Nat) ({ cls := "JuryDesk", name := "find", desc := "(I)LJuryDesk$Heat;" } : Jvm.MethodName)) ∈ TB := TB_m3 (List.mem_of_getElem? (i := 4) rfl)
theorem tb_125 : (Jvm.Cond.instanceMethod ({ cls := "JuryDesk", name := "find", desc := "(I)LJuryDesk$Heat;" } : Jvm.MethodName)) ∈ TB := TB_m3 (List.mem_of_getElem? (i := 5) rfl)
theorem tb_126 : (Jvm.Cond.code ({ cls := "JuryDesk", name := "find", desc := "(I)LJuryDesk$Heat;" } : Jvm.MethodName) prog_1_method_24_code (2 : Nat) (Option.some (Jvm.ClassFile.FieldType.object "JuryDesk$Heat"))) ∈ TB := TB_m3 (List.mem_of_getElem? (i := 6) rfl)
theorem tb_127 : (Jvm.Cond.methodLink "JuryDesk" (62 : Nat) ({ cls := "JuryDesk$Heat", name := "has", desc := "(I)Z" } : Jvm.MethodName)) ∈ TB := TB_m3 (List.mem_of_getElem? (i := 7) rfl)
theorem tb_128 : (Jvm.Cond.instanceMethod ({ cls := "JuryDesk$Heat", name := "has", desc := "(I)Z" } : Jvm.MethodName)) ∈ TB := TB_m3 (List.mem_of_getElem? (i := 8) rfl)
theorem tb_129 : (Jvm.Cond.selects "JuryDesk$Heat" ({ cls := "JuryDesk$Heat", name := "has", desc := "(I)Z" } : Jvm.MethodName) ({ cls := "JuryDesk$Heat", name := "has", desc := "(I)Z" } : Jvm.MethodName)) ∈ TB := TB_m3 (List.mem_of_getElem? (i := 9) rfl)
theorem tb_130 : (Jvm.Cond.code ({ cls := "JuryDesk$Heat", name := "has", desc := "(I)Z" } : Jvm.MethodName) prog_2_method_6_code (2 : Nat) (Option.some Jvm.ClassFile.FieldType.boolean)) ∈ TB := TB_m3 (List.mem_of_getElem? (i := 10) rfl)
theorem tb_131 : (Jvm.Cond.static ({ cls := "JuryDesk", name := "holds", desc := "(II)Z" } : Jvm.MethodName)) ∈ TB := TB_m3 (List.mem_of_getElem? (i := 11) rfl)
theorem tb_132 : (Jvm.Cond.code ({ cls := "JuryDesk", name := "holds", desc := "(II)Z" } : Jvm.MethodName) prog_1_method_30_code (2 : Nat) (Option.some Jvm.ClassFile.FieldType.boolean)) ∈ TB := TB_m3 (List.mem_of_getElem? (i := 12) rfl)
theorem tb_133 : (Jvm.Cond.methodLink "JuryDesk" (66 : Nat) ({ cls := "JuryDesk$Heat", name := "isAbove", desc := "(II)Z" } : Jvm.MethodName)) ∈ TB := TB_m3 (List.mem_of_getElem? (i := 13) rfl)
theorem tb_134 : (Jvm.Cond.instanceMethod ({ cls := "JuryDesk$Heat", name := "isAbove", desc := "(II)Z" } : Jvm.MethodName)) ∈ TB := TB_m3 (List.mem_of_getElem? (i := 14) rfl)
theorem tb_135 : (Jvm.Cond.selects "JuryDesk$Heat" ({ cls := "JuryDesk$Heat", name := "isAbove", desc := "(II)Z" } : Jvm.MethodName) ({ cls := "JuryDesk$Heat", name := "isAbove", desc := "(II)Z" } : Jvm.MethodName)) ∈ TB := TB_m3 (List.mem_of_getElem? (i := 15) rfl)
theorem tb_136 : (Jvm.Cond.code ({ cls := "JuryDesk$Heat", name := "isAbove", desc := "(II)Z" } : Jvm.MethodName) prog_2_method_8_code (3 : Nat) (Option.some Jvm.ClassFile.FieldType.boolean)) ∈ TB := TB_m3 (List.mem_of_getElem? (i := 16) rfl)
theorem tb_137 : (Jvm.Cond.methodLink "JuryDesk$Heat" (63 : Nat) ({ cls := "JuryDesk$Heat", name := "has", desc := "(I)Z" } : Jvm.MethodName)) ∈ TB := TB_m3 (List.mem_of_getElem? (i := 17) rfl)
theorem tb_138 : (Jvm.Cond.methodLink "JuryDesk" (70 : Nat) ({ cls := "JuryDesk$Reason", name := "trace", desc := "(LJuryDesk$Heat;II)V" } : Jvm.MethodName)) ∈ TB := TB_m3 (List.mem_of_getElem? (i := 18) rfl)
theorem tb_139 : (Jvm.Cond.instanceMethod ({ cls := "JuryDesk$Reason", name := "trace", desc := "(LJuryDesk$Heat;II)V" } : Jvm.MethodName)) ∈ TB := TB_m3 (List.mem_of_getElem? (i := 19) rfl)
theorem tb_140 : (Jvm.Cond.selects "JuryDesk$Reason" ({ cls := "JuryDesk$Reason", name := "trace", desc := "(LJuryDesk$Heat;II)V" } : Jvm.MethodName) ({ cls := "JuryDesk$Reason", name := "trace", desc := "(LJuryDesk$Heat;II)V" } : Jvm.MethodName)) ∈ TB := TB_m3 (List.mem_of_getElem? (i := 20) rfl)
theorem tb_141 : (Jvm.Cond.code ({ cls := "JuryDesk$Reason", name := "trace", desc := "(LJuryDesk$Heat;II)V" } : Jvm.MethodName) prog_4_method_2_code (7 : Nat) (Option.none : Option Jvm.ClassFile.FieldType)) ∈ TB := TB_m3 (List.mem_of_getElem? (i := 21) rfl)
theorem tb_142 : (Jvm.Cond.methodLink "JuryDesk$Reason" (18 : Nat) ({ cls := "JuryDesk$Reason", name := "measure", desc := "(LJuryDesk$Heat;I)V" } : Jvm.MethodName)) ∈ TB := TB_m3 (List.mem_of_getElem? (i := 22) rfl)
theorem tb_143 : (Jvm.Cond.instanceMethod ({ cls := "JuryDesk$Reason", name := "measure", desc := "(LJuryDesk$Heat;I)V" } : Jvm.MethodName)) ∈ TB := TB_m3 (List.mem_of_getElem? (i := 23) rfl)
theorem tb_144 : (Jvm.Cond.code ({ cls := "JuryDesk$Reason", name := "measure", desc := "(LJuryDesk$Heat;I)V" } : Jvm.MethodName) prog_4_method_3_code (6 : Nat) (Option.none : Option Jvm.ClassFile.FieldType)) ∈ TB := TB_m3 (List.mem_of_getElem? (i := 24) rfl)
theorem tb_145 : (Jvm.Cond.methodLink "JuryDesk$Reason" (36 : Nat) ({ cls := "java/util/Arrays", name := "fill", desc := "([II)V" } : Jvm.MethodName)) ∈ TB := TB_m3 (List.mem_of_getElem? (i := 25) rfl)
theorem tb_146 : (Jvm.Cond.methodLink "JuryDesk$Reason" (48 : Nat) ({ cls := "JuryDesk$Heat", name := "inForce", desc := "(I)Z" } : Jvm.MethodName)) ∈ TB := TB_m3 (List.mem_of_getElem? (i := 26) rfl)
theorem tb_147 : (Jvm.Cond.instanceMethod ({ cls := "JuryDesk$Heat", name := "inForce", desc := "(I)Z" } : Jvm.MethodName)) ∈ TB := TB_m3 (List.mem_of_getElem? (i := 27) rfl)
theorem tb_148 : (Jvm.Cond.selects "JuryDesk$Heat" ({ cls := "JuryDesk$Heat", name := "inForce", desc := "(I)Z" } : Jvm.MethodName) ({ cls := "JuryDesk$Heat", name := "inForce", desc := "(I)Z" } : Jvm.MethodName)) ∈ TB := TB_m3 (List.mem_of_getElem? (i := 28) rfl)
theorem tb_149 : (Jvm.Cond.code ({ cls := "JuryDesk$Heat", name := "inForce", desc := "(I)Z" } : Jvm.MethodName) prog_2_method_9_code (2 : Nat) (Option.some Jvm.ClassFile.FieldType.boolean)) ∈ TB := TB_m3 (List.mem_of_getElem? (i := 29) rfl)
theorem tb_150 : (Jvm.Cond.methodLink "JuryDesk$Reason" (26 : Nat) ({ cls := "JuryDesk$Reason", name := "leastToward", desc := "(LJuryDesk$Heat;II)I" } : Jvm.MethodName)) ∈ TB := TB_m3 (List.mem_of_getElem? (i := 30) rfl)
theorem tb_151 : (Jvm.Cond.instanceMethod ({ cls := "JuryDesk$Reason", name := "leastToward", desc := "(LJuryDesk$Heat;II)I" } : Jvm.MethodName)) ∈ TB := TB_m3 (List.mem_of_getElem? (i := 31) rfl)
theorem tb_152 : (Jvm.Cond.code ({ cls := "JuryDesk$Reason", name := "leastToward", desc := "(LJuryDesk$Heat;II)I" } : Jvm.MethodName) prog_4_method_4_code (5 : Nat) (Option.some Jvm.ClassFile.FieldType.int)) ∈ TB := TB_m3 (List.mem_of_getElem? (i := 32) rfl)
theorem tb_153 : (Jvm.Cond.methodLink "JuryDesk" (77 : Nat) ({ cls := "JuryDesk$Heat", name := "write", desc := "(II)V" } : Jvm.MethodName)) ∈ TB := TB_m3 (List.mem_of_getElem? (i := 33) rfl)
theorem tb_154 : (Jvm.Cond.instanceMethod ({ cls := "JuryDesk$Heat", name := "write", desc := "(II)V" } : Jvm.MethodName)) ∈ TB := TB_m3 (List.mem_of_getElem? (i := 34) rfl)
theorem tb_155 : (Jvm.Cond.selects "JuryDesk$Heat" ({ cls := "JuryDesk$Heat", name := "write", desc := "(II)V" } : Jvm.MethodName) ({ cls := "JuryDesk$Heat", name := "write", desc := "(II)V" } : Jvm.MethodName)) ∈ TB := TB_m3 (List.mem_of_getElem? (i := 35) rfl)
theorem tb_156 : (Jvm.Cond.code ({ cls := "JuryDesk$Heat", name := "write", desc := "(II)V" } : Jvm.MethodName) prog_2_method_3_code (3 : Nat) (Option.none : Option Jvm.ClassFile.FieldType)) ∈ TB := TB_m3 (List.mem_of_getElem? (i := 36) rfl)
theorem tb_157 : (Jvm.Cond.methodLink "JuryDesk$Heat" (50 : Nat) ({ cls := "JuryDesk$Heat", name := "settle", desc := "()V" } : Jvm.MethodName)) ∈ TB := TB_m3 (List.mem_of_getElem? (i := 37) rfl)
theorem tb_158 : (Jvm.Cond.instanceMethod ({ cls := "JuryDesk$Heat", name := "settle", desc := "()V" } : Jvm.MethodName)) ∈ TB := TB_m3 (List.mem_of_getElem? (i := 38) rfl)
theorem tb_159 : (Jvm.Cond.instantiable "JuryDesk$Heat" (9 : Nat)) ∈ TB := TB_m3 (List.mem_of_getElem? (i := 39) rfl)
theorem tb_160 : (Jvm.Cond.code ({ cls := "JuryDesk$Heat", name := "settle", desc := "()V" } : Jvm.MethodName) prog_2_method_14_code (2 : Nat) (Option.none : Option Jvm.ClassFile.FieldType)) ∈ TB := TB_m4 (List.mem_of_getElem? (i := 0) rfl)
theorem tb_161 : (Jvm.Cond.methodLink "JuryDesk$Heat" (77 : Nat) ({ cls := "java/util/Arrays", name := "fill", desc := "([II)V" } : Jvm.MethodName)) ∈ TB := TB_m4 (List.mem_of_getElem? (i := 1) rfl)
theorem tb_162 : (Jvm.Cond.methodLink "JuryDesk$Heat" (67 : Nat) ({ cls := "JuryDesk$Heat", name := "inForce", desc := "(I)Z" } : Jvm.MethodName)) ∈ TB := TB_m4 (List.mem_of_getElem? (i := 2) rfl)
theorem tb_163 : (Jvm.Cond.methodLink "JuryDesk$Heat" (83 : Nat) ({ cls := "JuryDesk$Heat", name := "leadOn", desc := "()V" } : Jvm.MethodName)) ∈ TB := TB_m4 (List.mem_of_getElem? (i := 3) rfl)
theorem tb_164 : (Jvm.Cond.instanceMethod ({ cls := "JuryDesk$Heat", name := "leadOn", desc := "()V" } : Jvm.MethodName)) ∈ TB := TB_m4 (List.mem_of_getElem? (i := 4) rfl)
theorem tb_165 : (Jvm.Cond.code ({ cls := "JuryDesk$Heat", name := "leadOn", desc := "()V" } : Jvm.MethodName) prog_2_method_15_code (3 : Nat) (Option.none : Option Jvm.ClassFile.FieldType)) ∈ TB := TB_m4 (List.mem_of_getElem? (i := 5) rfl)
theorem tb_166 : (Jvm.Cond.methodLink "JuryDesk$Heat" (86 : Nat) ({ cls := "JuryDesk$Heat", name := "turn", desc := "()V" } : Jvm.MethodName)) ∈ TB := TB_m4 (List.mem_of_getElem? (i := 6) rfl)
theorem tb_167 : (Jvm.Cond.instanceMethod ({ cls := "JuryDesk$Heat", name := "turn", desc := "()V" } : Jvm.MethodName)) ∈ TB := TB_m4 (List.mem_of_getElem? (i := 7) rfl)
theorem tb_168 : (Jvm.Cond.code ({ cls := "JuryDesk$Heat", name := "turn", desc := "()V" } : Jvm.MethodName) prog_2_method_16_code (3 : Nat) (Option.none : Option Jvm.ClassFile.FieldType)) ∈ TB := TB_m4 (List.mem_of_getElem? (i := 8) rfl)
theorem tb_169 : (Jvm.Cond.methodLink "JuryDesk$Heat" (89 : Nat) ({ cls := "JuryDesk$Tally", name := "forget", desc := "()V" } : Jvm.MethodName)) ∈ TB := TB_m4 (List.mem_of_getElem? (i := 9) rfl)
theorem tb_170 : (Jvm.Cond.instanceMethod ({ cls := "JuryDesk$Tally", name := "forget", desc := "()V" } : Jvm.MethodName)) ∈ TB := TB_m4 (List.mem_of_getElem? (i := 10) rfl)
theorem tb_171 : (Jvm.Cond.selects "JuryDesk$Tally" ({ cls := "JuryDesk$Tally", name := "forget", desc := "()V" } : Jvm.MethodName) ({ cls := "JuryDesk$Tally", name := "forget", desc := "()V" } : Jvm.MethodName)) ∈ TB := TB_m4 (List.mem_of_getElem? (i := 11) rfl)
theorem tb_172 : (Jvm.Cond.code ({ cls := "JuryDesk$Tally", name := "forget", desc := "()V" } : Jvm.MethodName) prog_6_method_2_code (1 : Nat) (Option.none : Option Jvm.ClassFile.FieldType)) ∈ TB := TB_m4 (List.mem_of_getElem? (i := 12) rfl)
theorem tb_173 : (Jvm.Cond.methodLink "JuryDesk" (55 : Nat) ({ cls := "JuryDesk", name := "unload", desc := "(I)V" } : Jvm.MethodName)) ∈ TB := TB_m4 (List.mem_of_getElem? (i := 13) rfl)
theorem tb_174 : (Jvm.Cond.instanceMethod ({ cls := "JuryDesk", name := "unload", desc := "(I)V" } : Jvm.MethodName)) ∈ TB := TB_m4 (List.mem_of_getElem? (i := 14) rfl)
theorem tb_175 : (Jvm.Cond.code ({ cls := "JuryDesk", name := "unload", desc := "(I)V" } : Jvm.MethodName) prog_1_method_26_code (2 : Nat) (Option.none : Option Jvm.ClassFile.FieldType)) ∈ TB := TB_m4 (List.mem_of_getElem? (i := 15) rfl)
theorem tb_176 : (Jvm.Cond.methodLink "JuryDeskLaw" (42 : Nat) ({ cls := "JuryDesk", name := "whyLast", desc := "()I" } : Jvm.MethodName)) ∈ TB := TB_m4 (List.mem_of_getElem? (i := 16) rfl)
theorem tb_177 : (Jvm.Cond.instanceMethod ({ cls := "JuryDesk", name := "whyLast", desc := "()I" } : Jvm.MethodName)) ∈ TB := TB_m4 (List.mem_of_getElem? (i := 17) rfl)
theorem tb_178 : (Jvm.Cond.selects "JuryDesk" ({ cls := "JuryDesk", name := "whyLast", desc := "()I" } : Jvm.MethodName) ({ cls := "JuryDesk", name := "whyLast", desc := "()I" } : Jvm.MethodName)) ∈ TB := TB_m4 (List.mem_of_getElem? (i := 18) rfl)
theorem tb_179 : (Jvm.Cond.code ({ cls := "JuryDesk", name := "whyLast", desc := "()I" } : Jvm.MethodName) prog_1_method_4_code (1 : Nat) (Option.some Jvm.ClassFile.FieldType.int)) ∈ TB := TB_m4 (List.mem_of_getElem? (i := 19) rfl)
theorem tb_180 : (Jvm.Cond.methodLink "JuryDeskLaw" (46 : Nat) ({ cls := "JuryDesk", name := "why", desc := "(I)I" } : Jvm.MethodName)) ∈ TB := TB_m4 (List.mem_of_getElem? (i := 20) rfl)
theorem tb_181 : (Jvm.Cond.instanceMethod ({ cls := "JuryDesk", name := "why", desc := "(I)I" } : Jvm.MethodName)) ∈ TB := TB_m4 (List.mem_of_getElem? (i := 21) rfl)
theorem tb_182 : (Jvm.Cond.selects "JuryDesk" ({ cls := "JuryDesk", name := "why", desc := "(I)I" } : Jvm.MethodName) ({ cls := "JuryDesk", name := "why", desc := "(I)I" } : Jvm.MethodName)) ∈ TB := TB_m4 (List.mem_of_getElem? (i := 22) rfl)
theorem tb_183 : (Jvm.Cond.code ({ cls := "JuryDesk", name := "why", desc := "(I)I" } : Jvm.MethodName) prog_1_method_5_code (2 : Nat) (Option.some Jvm.ClassFile.FieldType.int)) ∈ TB := TB_m4 (List.mem_of_getElem? (i := 23) rfl)
theorem tb_184 : (Jvm.Cond.methodLink "JuryDeskLaw" (51 : Nat) ({ cls := "JuryDesk", name := "withdraw", desc := "(II)Z" } : Jvm.MethodName)) ∈ TB := TB_m4 (List.mem_of_getElem? (i := 24) rfl)
theorem tb_185 : (Jvm.Cond.instanceMethod ({ cls := "JuryDesk", name := "withdraw", desc := "(II)Z" } : Jvm.MethodName)) ∈ TB := TB_m4 (List.mem_of_getElem? (i := 25) rfl)
theorem tb_186 : (Jvm.Cond.selects "JuryDesk" ({ cls := "JuryDesk", name := "withdraw", desc := "(II)Z" } : Jvm.MethodName) ({ cls := "JuryDesk", name := "withdraw", desc := "(II)Z" } : Jvm.MethodName)) ∈ TB := TB_m4 (List.mem_of_getElem? (i := 26) rfl)
theorem tb_187 : (Jvm.Cond.code ({ cls := "JuryDesk", name := "withdraw", desc := "(II)Z" } : Jvm.MethodName) prog_1_method_6_code (4 : Nat) (Option.some Jvm.ClassFile.FieldType.boolean)) ∈ TB := TB_m4 (List.mem_of_getElem? (i := 27) rfl)
theorem tb_188 : (Jvm.Cond.methodLink "JuryDesk" (91 : Nat) ({ cls := "JuryDesk$Heat", name := "takeBack", desc := "(I)V" } : Jvm.MethodName)) ∈ TB := TB_m4 (List.mem_of_getElem? (i := 28) rfl)
theorem tb_189 : (Jvm.Cond.instanceMethod ({ cls := "JuryDesk$Heat", name := "takeBack", desc := "(I)V" } : Jvm.MethodName)) ∈ TB := TB_m4 (List.mem_of_getElem? (i := 29) rfl)
theorem tb_190 : (Jvm.Cond.selects "JuryDesk$Heat" ({ cls := "JuryDesk$Heat", name := "takeBack", desc := "(I)V" } : Jvm.MethodName) ({ cls := "JuryDesk$Heat", name := "takeBack", desc := "(I)V" } : Jvm.MethodName)) ∈ TB := TB_m4 (List.mem_of_getElem? (i := 30) rfl)
theorem tb_191 : (Jvm.Cond.code ({ cls := "JuryDesk$Heat", name := "takeBack", desc := "(I)V" } : Jvm.MethodName) prog_2_method_4_code (2 : Nat) (Option.none : Option Jvm.ClassFile.FieldType)) ∈ TB := TB_m4 (List.mem_of_getElem? (i := 31) rfl)
theorem tb_192 : (Jvm.Cond.methodLink "JuryDeskLaw" (56 : Nat) ({ cls := "JuryDesk", name := "scratch", desc := "(II)Z" } : Jvm.MethodName)) ∈ TB := TB_m4 (List.mem_of_getElem? (i := 32) rfl)
theorem tb_193 : (Jvm.Cond.instanceMethod ({ cls := "JuryDesk", name := "scratch", desc := "(II)Z" } : Jvm.MethodName)) ∈ TB := TB_m4 (List.mem_of_getElem? (i := 33) rfl)
theorem tb_194 : (Jvm.Cond.selects "JuryDesk" ({ cls := "JuryDesk", name := "scratch", desc := "(II)Z" } : Jvm.MethodName) ({ cls := "JuryDesk", name := "scratch", desc := "(II)Z" } : Jvm.MethodName)) ∈ TB := TB_m4 (List.mem_of_getElem? (i := 34) rfl)
theorem tb_195 : (Jvm.Cond.code ({ cls := "JuryDesk", name := "scratch", desc := "(II)Z" } : Jvm.MethodName) prog_1_method_7_code (4 : Nat) (Option.some Jvm.ClassFile.FieldType.boolean)) ∈ TB := TB_m4 (List.mem_of_getElem? (i := 35) rfl)
theorem tb_196 : (Jvm.Cond.methodLink "JuryDesk" (94 : Nat) ({ cls := "JuryDesk$Heat", name := "size", desc := "()I" } : Jvm.MethodName)) ∈ TB := TB_m4 (List.mem_of_getElem? (i := 36) rfl)
theorem tb_197 : (Jvm.Cond.instanceMethod ({ cls := "JuryDesk$Heat", name := "size", desc := "()I" } : Jvm.MethodName)) ∈ TB := TB_m4 (List.mem_of_getElem? (i := 37) rfl)
theorem tb_198 : (Jvm.Cond.selects "JuryDesk$Heat" ({ cls := "JuryDesk$Heat", name := "size", desc := "()I" } : Jvm.MethodName) ({ cls := "JuryDesk$Heat", name := "size", desc := "()I" } : Jvm.MethodName)) ∈ TB := TB_m4 (List.mem_of_getElem? (i := 38) rfl)
theorem tb_199 : (Jvm.Cond.code ({ cls := "JuryDesk$Heat", name := "size", desc := "()I" } : Jvm.MethodName) prog_2_method_7_code (1 : Nat) (Option.some Jvm.ClassFile.FieldType.int)) ∈ TB := TB_m4 (List.mem_of_getElem? (i := 39) rfl)
theorem tb_200 : (Jvm.Cond.methodLink "JuryDesk$Heat" (57 : Nat) ({ cls := "java/lang/Integer", name := "bitCount", desc := "(I)I" } : Jvm.MethodName)) ∈ TB := TB_m5 (List.mem_of_getElem? (i := 0) rfl)
theorem tb_201 : (Jvm.Cond.static ({ cls := "java/lang/Integer", name := "bitCount", desc := "(I)I" } : Jvm.MethodName)) ∈ TB := TB_m5 (List.mem_of_getElem? (i := 1) rfl)
theorem tb_202 : (Jvm.Cond.code ({ cls := "java/lang/Integer", name := "bitCount", desc := "(I)I" } : Jvm.MethodName) prog_11_method_49_code (1 : Nat) (Option.some Jvm.ClassFile.FieldType.int)) ∈ TB := TB_m5 (List.mem_of_getElem? (i := 2) rfl)
theorem tb_203 : (Jvm.Cond.constant "java/lang/Integer" (265 : Nat) (1431655765 : Int32)) ∈ TB := TB_m5 (List.mem_of_getElem? (i := 3) rfl)
theorem tb_204 : (Jvm.Cond.constant "java/lang/Integer" (266 : Nat) (858993459 : Int32)) ∈ TB := TB_m5 (List.mem_of_getElem? (i := 4) rfl)
theorem tb_205 : (Jvm.Cond.constant "java/lang/Integer" (267 : Nat) (252645135 : Int32)) ∈ TB := TB_m5 (List.mem_of_getElem? (i := 5) rfl)
theorem tb_206 : (Jvm.Cond.methodLink "JuryDesk" (98 : Nat) ({ cls := "JuryDesk$Heat", name := "remove", desc := "(I)V" } : Jvm.MethodName)) ∈ TB := TB_m5 (List.mem_of_getElem? (i := 6) rfl)
theorem tb_207 : (Jvm.Cond.instanceMethod ({ cls := "JuryDesk$Heat", name := "remove", desc := "(I)V" } : Jvm.MethodName)) ∈ TB := TB_m5 (List.mem_of_getElem? (i := 7) rfl)
theorem tb_208 : (Jvm.Cond.selects "JuryDesk$Heat" ({ cls := "JuryDesk$Heat", name := "remove", desc := "(I)V" } : Jvm.MethodName) ({ cls := "JuryDesk$Heat", name := "remove", desc := "(I)V" } : Jvm.MethodName)) ∈ TB := TB_m5 (List.mem_of_getElem? (i := 8) rfl)
theorem tb_209 : (Jvm.Cond.code ({ cls := "JuryDesk$Heat", name := "remove", desc := "(I)V" } : Jvm.MethodName) prog_2_method_5_code (2 : Nat) (Option.none : Option Jvm.ClassFile.FieldType)) ∈ TB := TB_m5 (List.mem_of_getElem? (i := 9) rfl)
theorem tb_210 : (Jvm.Cond.methodLink "JuryDeskLaw" (60 : Nat) ({ cls := "JuryDesk", name := "settled", desc := "(III)Z" } : Jvm.MethodName)) ∈ TB := TB_m5 (List.mem_of_getElem? (i := 10) rfl)
theorem tb_211 : (Jvm.Cond.instanceMethod ({ cls := "JuryDesk", name := "settled", desc := "(III)Z" } : Jvm.MethodName)) ∈ TB := TB_m5 (List.mem_of_getElem? (i := 11) rfl)
theorem tb_212 : (Jvm.Cond.selects "JuryDesk" ({ cls := "JuryDesk", name := "settled", desc := "(III)Z" } : Jvm.MethodName) ({ cls := "JuryDesk", name := "settled", desc := "(III)Z" } : Jvm.MethodName)) ∈ TB := TB_m5 (List.mem_of_getElem? (i := 12) rfl)
theorem tb_213 : (Jvm.Cond.code ({ cls := "JuryDesk", name := "settled", desc := "(III)Z" } : Jvm.MethodName) prog_1_method_8_code (5 : Nat) (Option.some Jvm.ClassFile.FieldType.boolean)) ∈ TB := TB_m5 (List.mem_of_getElem? (i := 13) rfl)
theorem tb_214 : (Jvm.Cond.methodLink "JuryDeskLaw" (65 : Nat) ({ cls := "JuryDesk", name := "direct", desc := "(III)Z" } : Jvm.MethodName)) ∈ TB := TB_m5 (List.mem_of_getElem? (i := 14) rfl)
theorem tb_215 : (Jvm.Cond.instanceMethod ({ cls := "JuryDesk", name := "direct", desc := "(III)Z" } : Jvm.MethodName)) ∈ TB := TB_m5 (List.mem_of_getElem? (i := 15) rfl)
theorem tb_216 : (Jvm.Cond.selects "JuryDesk" ({ cls := "JuryDesk", name := "direct", desc := "(III)Z" } : Jvm.MethodName) ({ cls := "JuryDesk", name := "direct", desc := "(III)Z" } : Jvm.MethodName)) ∈ TB := TB_m5 (List.mem_of_getElem? (i := 16) rfl)
theorem tb_217 : (Jvm.Cond.code ({ cls := "JuryDesk", name := "direct", desc := "(III)Z" } : Jvm.MethodName) prog_1_method_9_code (5 : Nat) (Option.some Jvm.ClassFile.FieldType.boolean)) ∈ TB := TB_m5 (List.mem_of_getElem? (i := 17) rfl)
theorem tb_218 : (Jvm.Cond.methodLink "JuryDeskLaw" (69 : Nat) ({ cls := "JuryDesk", name := "orders", desc := "(I)J" } : Jvm.MethodName)) ∈ TB := TB_m5 (List.mem_of_getElem? (i := 18) rfl)
theorem tb_219 : (Jvm.Cond.instanceMethod ({ cls := "JuryDesk", name := "orders", desc := "(I)J" } : Jvm.MethodName)) ∈ TB := TB_m5 (List.mem_of_getElem? (i := 19) rfl)
theorem tb_220 : (Jvm.Cond.selects "JuryDesk" ({ cls := "JuryDesk", name := "orders", desc := "(I)J" } : Jvm.MethodName) ({ cls := "JuryDesk", name := "orders", desc := "(I)J" } : Jvm.MethodName)) ∈ TB := TB_m5 (List.mem_of_getElem? (i := 20) rfl)
theorem tb_221 : (Jvm.Cond.code ({ cls := "JuryDesk", name := "orders", desc := "(I)J" } : Jvm.MethodName) prog_1_method_10_code (3 : Nat) (Option.some Jvm.ClassFile.FieldType.long)) ∈ TB := TB_m5 (List.mem_of_getElem? (i := 21) rfl)
theorem tb_222 : (Jvm.Cond.methodLink "JuryDesk" (107 : Nat) ({ cls := "JuryDesk", name := "total", desc := "(ILJuryDesk$Heat;)J" } : Jvm.MethodName)) ∈ TB := TB_m5 (List.mem_of_getElem? (i := 22) rfl)
theorem tb_223 : (Jvm.Cond.instanceMethod ({ cls := "JuryDesk", name := "total", desc := "(ILJuryDesk$Heat;)J" } : Jvm.MethodName)) ∈ TB := TB_m5 (List.mem_of_getElem? (i := 23) rfl)
theorem tb_224 : (Jvm.Cond.code ({ cls := "JuryDesk", name := "total", desc := "(ILJuryDesk$Heat;)J" } : Jvm.MethodName) prog_1_method_27_code (3 : Nat) (Option.some Jvm.ClassFile.FieldType.long)) ∈ TB := TB_m5 (List.mem_of_getElem? (i := 24) rfl)
theorem tb_225 : (Jvm.Cond.methodLink "JuryDesk" (140 : Nat) ({ cls := "JuryDesk", name := "load", desc := "(ILJuryDesk$Heat;)V" } : Jvm.MethodName)) ∈ TB := TB_m5 (List.mem_of_getElem? (i := 25) rfl)
theorem tb_226 : (Jvm.Cond.instanceMethod ({ cls := "JuryDesk", name := "load", desc := "(ILJuryDesk$Heat;)V" } : Jvm.MethodName)) ∈ TB := TB_m5 (List.mem_of_getElem? (i := 26) rfl)
theorem tb_227 : (Jvm.Cond.code ({ cls := "JuryDesk", name := "load", desc := "(ILJuryDesk$Heat;)V" } : Jvm.MethodName) prog_1_method_25_code (3 : Nat) (Option.none : Option Jvm.ClassFile.FieldType)) ∈ TB := TB_m5 (List.mem_of_getElem? (i := 27) rfl)
theorem tb_228 : (Jvm.Cond.methodLink "JuryDesk" (185 : Nat) ({ cls := "JuryDesk$Lattice", name := "load", desc := "(LJuryDesk$Heat;)V" } : Jvm.MethodName)) ∈ TB := TB_m5 (List.mem_of_getElem? (i := 28) rfl)
theorem tb_229 : (Jvm.Cond.instanceMethod ({ cls := "JuryDesk$Lattice", name := "load", desc := "(LJuryDesk$Heat;)V" } : Jvm.MethodName)) ∈ TB := TB_m5 (List.mem_of_getElem? (i := 29) rfl)
theorem tb_230 : (Jvm.Cond.selects "JuryDesk$Lattice" ({ cls := "JuryDesk$Lattice", name := "load", desc := "(LJuryDesk$Heat;)V" } : Jvm.MethodName) ({ cls := "JuryDesk$Lattice", name := "load", desc := "(LJuryDesk$Heat;)V" } : Jvm.MethodName)) ∈ TB := TB_m5 (List.mem_of_getElem? (i := 30) rfl)
theorem tb_231 : (Jvm.Cond.code ({ cls := "JuryDesk$Lattice", name := "load", desc := "(LJuryDesk$Heat;)V" } : Jvm.MethodName) prog_3_method_2_code (2 : Nat) (Option.none : Option Jvm.ClassFile.FieldType)) ∈ TB := TB_m5 (List.mem_of_getElem? (i := 31) rfl)
theorem tb_232 : (Jvm.Cond.methodLink "JuryDesk$Lattice" (31 : Nat) ({ cls := "JuryDesk$Lattice", name := "setBars", desc := "([I)V" } : Jvm.MethodName)) ∈ TB := TB_m5 (List.mem_of_getElem? (i := 32) rfl)
theorem tb_233 : (Jvm.Cond.instanceMethod ({ cls := "JuryDesk$Lattice", name := "setBars", desc := "([I)V" } : Jvm.MethodName)) ∈ TB := TB_m5 (List.mem_of_getElem? (i := 33) rfl)
theorem tb_234 : (Jvm.Cond.code ({ cls := "JuryDesk$Lattice", name := "setBars", desc := "([I)V" } : Jvm.MethodName) prog_3_method_8_code (5 : Nat) (Option.none : Option Jvm.ClassFile.FieldType)) ∈ TB := TB_m5 (List.mem_of_getElem? (i := 34) rfl)
theorem tb_235 : (Jvm.Cond.methodLink "JuryDesk$Lattice" (90 : Nat) ({ cls := "java/lang/Integer", name := "numberOfTrailingZeros", desc := "(I)I" } : Jvm.MethodName)) ∈ TB := TB_m5 (List.mem_of_getElem? (i := 35) rfl)
theorem tb_236 : (Jvm.Cond.static ({ cls := "java/lang/Integer", name := "numberOfTrailingZeros", desc := "(I)I" } : Jvm.MethodName)) ∈ TB := TB_m5 (List.mem_of_getElem? (i := 36) rfl)
theorem tb_237 : (Jvm.Cond.code ({ cls := "java/lang/Integer", name := "numberOfTrailingZeros", desc := "(I)I" } : Jvm.MethodName) prog_11_method_48_code (2 : Nat) (Option.some Jvm.ClassFile.FieldType.int)) ∈ TB := TB_m5 (List.mem_of_getElem? (i := 37) rfl)
theorem tb_238 : (Jvm.Cond.constant "java/lang/Integer" (264 : Nat) (65536 : Int32)) ∈ TB := TB_m5 (List.mem_of_getElem? (i := 38) rfl)
theorem tb_239 : (Jvm.Cond.methodLink "JuryDesk$Lattice" (35 : Nat) ({ cls := "JuryDesk$Lattice", name := "countHeads", desc := "(LJuryDesk$Heat;)V" } : Jvm.MethodName)) ∈ TB := TB_m5 (List.mem_of_getElem? (i := 39) rfl)
theorem tb_240 : (Jvm.Cond.instanceMethod ({ cls := "JuryDesk$Lattice", name := "countHeads", desc := "(LJuryDesk$Heat;)V" } : Jvm.MethodName)) ∈ TB := TB_m6 (List.mem_of_getElem? (i := 0) rfl)
theorem tb_241 : (Jvm.Cond.code ({ cls := "JuryDesk$Lattice", name := "countHeads", desc := "(LJuryDesk$Heat;)V" } : Jvm.MethodName) prog_3_method_10_code (5 : Nat) (Option.none : Option Jvm.ClassFile.FieldType)) ∈ TB := TB_m6 (List.mem_of_getElem? (i := 1) rfl)
theorem tb_242 : (Jvm.Cond.methodLink "JuryDesk$Lattice" (93 : Nat) ({ cls := "JuryDesk$Lattice", name := "clearHeads", desc := "(LJuryDesk$Heat;)V" } : Jvm.MethodName)) ∈ TB := TB_m6 (List.mem_of_getElem? (i := 2) rfl)
theorem tb_243 : (Jvm.Cond.instanceMethod ({ cls := "JuryDesk$Lattice", name := "clearHeads", desc := "(LJuryDesk$Heat;)V" } : Jvm.MethodName)) ∈ TB := TB_m6 (List.mem_of_getElem? (i := 3) rfl)
theorem tb_244 : (Jvm.Cond.code ({ cls := "JuryDesk$Lattice", name := "clearHeads", desc := "(LJuryDesk$Heat;)V" } : Jvm.MethodName) prog_3_method_11_code (5 : Nat) (Option.none : Option Jvm.ClassFile.FieldType)) ∈ TB := TB_m6 (List.mem_of_getElem? (i := 4) rfl)
theorem tb_245 : (Jvm.Cond.methodLink "JuryDesk$Lattice" (50 : Nat) ({ cls := "JuryDesk$Heat", name := "size", desc := "()I" } : Jvm.MethodName)) ∈ TB := TB_m6 (List.mem_of_getElem? (i := 5) rfl)
theorem tb_246 : (Jvm.Cond.methodLink "JuryDesk$Lattice" (67 : Nat) ({ cls := "JuryDesk$Lattice", name := "setAfter", desc := "(II)I" } : Jvm.MethodName)) ∈ TB := TB_m6 (List.mem_of_getElem? (i := 6) rfl)
theorem tb_247 : (Jvm.Cond.static ({ cls := "JuryDesk$Lattice", name := "setAfter", desc := "(II)I" } : Jvm.MethodName)) ∈ TB := TB_m6 (List.mem_of_getElem? (i := 7) rfl)
theorem tb_248 : (Jvm.Cond.code ({ cls := "JuryDesk$Lattice", name := "setAfter", desc := "(II)I" } : Jvm.MethodName) prog_3_method_15_code (2 : Nat) (Option.some Jvm.ClassFile.FieldType.int)) ∈ TB := TB_m6 (List.mem_of_getElem? (i := 8) rfl)
theorem tb_249 : (Jvm.Cond.methodLink "JuryDesk$Lattice" (96 : Nat) ({ cls := "JuryDesk$Lattice", name := "handOn", desc := "(LJuryDesk$Heat;I)V" } : Jvm.MethodName)) ∈ TB := TB_m6 (List.mem_of_getElem? (i := 9) rfl)
theorem tb_250 : (Jvm.Cond.instanceMethod ({ cls := "JuryDesk$Lattice", name := "handOn", desc := "(LJuryDesk$Heat;I)V" } : Jvm.MethodName)) ∈ TB := TB_m6 (List.mem_of_getElem? (i := 10) rfl)
theorem tb_251 : (Jvm.Cond.code ({ cls := "JuryDesk$Lattice", name := "handOn", desc := "(LJuryDesk$Heat;I)V" } : Jvm.MethodName) prog_3_method_12_code (7 : Nat) (Option.none : Option Jvm.ClassFile.FieldType)) ∈ TB := TB_m6 (List.mem_of_getElem? (i := 11) rfl)
theorem tb_252 : (Jvm.Cond.methodLink "JuryDesk$Lattice" (80 : Nat) ({ cls := "JuryDesk$Lattice", name := "readyOf", desc := "(I)I" } : Jvm.MethodName)) ∈ TB := TB_m6 (List.mem_of_getElem? (i := 12) rfl)
theorem tb_253 : (Jvm.Cond.instanceMethod ({ cls := "JuryDesk$Lattice", name := "readyOf", desc := "(I)I" } : Jvm.MethodName)) ∈ TB := TB_m6 (List.mem_of_getElem? (i := 13) rfl)
theorem tb_254 : (Jvm.Cond.code ({ cls := "JuryDesk$Lattice", name := "readyOf", desc := "(I)I" } : Jvm.MethodName) prog_3_method_9_code (2 : Nat) (Option.some Jvm.ClassFile.FieldType.int)) ∈ TB := TB_m6 (List.mem_of_getElem? (i := 14) rfl)
theorem tb_255 : (Jvm.Cond.methodLink "JuryDesk$Lattice" (39 : Nat) ({ cls := "JuryDesk$Lattice", name := "countTails", desc := "(LJuryDesk$Heat;)V" } : Jvm.MethodName)) ∈ TB := TB_m6 (List.mem_of_getElem? (i := 15) rfl)
theorem tb_256 : (Jvm.Cond.instanceMethod ({ cls := "JuryDesk$Lattice", name := "countTails", desc := "(LJuryDesk$Heat;)V" } : Jvm.MethodName)) ∈ TB := TB_m6 (List.mem_of_getElem? (i := 16) rfl)
theorem tb_257 : (Jvm.Cond.code ({ cls := "JuryDesk$Lattice", name := "countTails", desc := "(LJuryDesk$Heat;)V" } : Jvm.MethodName) prog_3_method_13_code (5 : Nat) (Option.none : Option Jvm.ClassFile.FieldType)) ∈ TB := TB_m6 (List.mem_of_getElem? (i := 17) rfl)
theorem tb_258 : (Jvm.Cond.methodLink "JuryDesk$Lattice" (99 : Nat) ({ cls := "JuryDesk$Lattice", name := "gather", desc := "(LJuryDesk$Heat;I)J" } : Jvm.MethodName)) ∈ TB := TB_m6 (List.mem_of_getElem? (i := 18) rfl)
theorem tb_259 : (Jvm.Cond.instanceMethod ({ cls := "JuryDesk$Lattice", name := "gather", desc := "(LJuryDesk$Heat;I)J" } : Jvm.MethodName)) ∈ TB := TB_m6 (List.mem_of_getElem? (i := 19) rfl)
theorem tb_260 : (Jvm.Cond.code ({ cls := "JuryDesk$Lattice", name := "gather", desc := "(LJuryDesk$Heat;I)J" } : Jvm.MethodName) prog_3_method_14_code (7 : Nat) (Option.some Jvm.ClassFile.FieldType.long)) ∈ TB := TB_m6 (List.mem_of_getElem? (i := 20) rfl)
theorem tb_261 : (Jvm.Cond.methodLink "JuryDesk" (188 : Nat) ({ cls := "JuryDesk$Lattice", name := "total", desc := "(LJuryDesk$Heat;)J" } : Jvm.MethodName)) ∈ TB := TB_m6 (List.mem_of_getElem? (i := 21) rfl)
theorem tb_262 : (Jvm.Cond.instanceMethod ({ cls := "JuryDesk$Lattice", name := "total", desc := "(LJuryDesk$Heat;)J" } : Jvm.MethodName)) ∈ TB := TB_m6 (List.mem_of_getElem? (i := 22) rfl)
theorem tb_263 : (Jvm.Cond.selects "JuryDesk$Lattice" ({ cls := "JuryDesk$Lattice", name := "total", desc := "(LJuryDesk$Heat;)J" } : Jvm.MethodName) ({ cls := "JuryDesk$Lattice", name := "total", desc := "(LJuryDesk$Heat;)J" } : Jvm.MethodName)) ∈ TB := TB_m6 (List.mem_of_getElem? (i := 23) rfl)
theorem tb_264 : (Jvm.Cond.code ({ cls := "JuryDesk$Lattice", name := "total", desc := "(LJuryDesk$Heat;)J" } : Jvm.MethodName) prog_3_method_3_code (2 : Nat) (Option.some Jvm.ClassFile.FieldType.long)) ∈ TB := TB_m6 (List.mem_of_getElem? (i := 24) rfl)
theorem tb_265 : (Jvm.Cond.methodLink "JuryDeskLaw" (74 : Nat) ({ cls := "JuryDesk", name := "atRank", desc := "(III)J" } : Jvm.MethodName)) ∈ TB := TB_m6 (List.mem_of_getElem? (i := 25) rfl)
theorem tb_266 : (Jvm.Cond.instanceMethod ({ cls := "JuryDesk", name := "atRank", desc := "(III)J" } : Jvm.MethodName)) ∈ TB := TB_m6 (List.mem_of_getElem? (i := 26) rfl)
theorem tb_267 : (Jvm.Cond.selects "JuryDesk" ({ cls := "JuryDesk", name := "atRank", desc := "(III)J" } : Jvm.MethodName) ({ cls := "JuryDesk", name := "atRank", desc := "(III)J" } : Jvm.MethodName)) ∈ TB := TB_m6 (List.mem_of_getElem? (i := 27) rfl)
theorem tb_268 : (Jvm.Cond.code ({ cls := "JuryDesk", name := "atRank", desc := "(III)J" } : Jvm.MethodName) prog_1_method_11_code (5 : Nat) (Option.some Jvm.ClassFile.FieldType.long)) ∈ TB := TB_m6 (List.mem_of_getElem? (i := 28) rfl)
theorem tb_269 : (Jvm.Cond.methodLink "JuryDesk" (111 : Nat) ({ cls := "JuryDesk", name := "tally", desc := "(ILJuryDesk$Heat;)V" } : Jvm.MethodName)) ∈ TB := TB_m6 (List.mem_of_getElem? (i := 29) rfl)
theorem tb_270 : (Jvm.Cond.instanceMethod ({ cls := "JuryDesk", name := "tally", desc := "(ILJuryDesk$Heat;)V" } : Jvm.MethodName)) ∈ TB := TB_m6 (List.mem_of_getElem? (i := 30) rfl)
theorem tb_271 : (Jvm.Cond.code ({ cls := "JuryDesk", name := "tally", desc := "(ILJuryDesk$Heat;)V" } : Jvm.MethodName) prog_1_method_28_code (3 : Nat) (Option.none : Option Jvm.ClassFile.FieldType)) ∈ TB := TB_m6 (List.mem_of_getElem? (i := 31) rfl)
theorem tb_272 : (Jvm.Cond.methodLink "JuryDesk" (195 : Nat) ({ cls := "JuryDesk$Lattice", name := "fill", desc := "(LJuryDesk$Heat;)V" } : Jvm.MethodName)) ∈ TB := TB_m6 (List.mem_of_getElem? (i := 32) rfl)
theorem tb_273 : (Jvm.Cond.instanceMethod ({ cls := "JuryDesk$Lattice", name := "fill", desc := "(LJuryDesk$Heat;)V" } : Jvm.MethodName)) ∈ TB := TB_m6 (List.mem_of_getElem? (i := 33) rfl)
theorem tb_274 : (Jvm.Cond.selects "JuryDesk$Lattice" ({ cls := "JuryDesk$Lattice", name := "fill", desc := "(LJuryDesk$Heat;)V" } : Jvm.MethodName) ({ cls := "JuryDesk$Lattice", name := "fill", desc := "(LJuryDesk$Heat;)V" } : Jvm.MethodName)) ∈ TB := TB_m6 (List.mem_of_getElem? (i := 34) rfl)
theorem tb_275 : (Jvm.Cond.code ({ cls := "JuryDesk$Lattice", name := "fill", desc := "(LJuryDesk$Heat;)V" } : Jvm.MethodName) prog_3_method_6_code (5 : Nat) (Option.none : Option Jvm.ClassFile.FieldType)) ∈ TB := TB_m6 (List.mem_of_getElem? (i := 35) rfl)
theorem tb_276 : (Jvm.Cond.methodLink "JuryDesk$Lattice" (58 : Nat) ({ cls := "JuryDesk$Tally", name := "clear", desc := "()V" } : Jvm.MethodName)) ∈ TB := TB_m6 (List.mem_of_getElem? (i := 36) rfl)
theorem tb_277 : (Jvm.Cond.instanceMethod ({ cls := "JuryDesk$Tally", name := "clear", desc := "()V" } : Jvm.MethodName)) ∈ TB := TB_m6 (List.mem_of_getElem? (i := 37) rfl)
theorem tb_278 : (Jvm.Cond.selects "JuryDesk$Tally" ({ cls := "JuryDesk$Tally", name := "clear", desc := "()V" } : Jvm.MethodName) ({ cls := "JuryDesk$Tally", name := "clear", desc := "()V" } : Jvm.MethodName)) ∈ TB := TB_m6 (List.mem_of_getElem? (i := 38) rfl)
theorem tb_279 : (Jvm.Cond.code ({ cls := "JuryDesk$Tally", name := "clear", desc := "()V" } : Jvm.MethodName) prog_6_method_3_code (1 : Nat) (Option.none : Option Jvm.ClassFile.FieldType)) ∈ TB := TB_m6 (List.mem_of_getElem? (i := 39) rfl)
theorem tb_280 : (Jvm.Cond.methodLink "JuryDesk$Tally" (26 : Nat) ({ cls := "java/util/Arrays", name := "fill", desc := "([JJ)V" } : Jvm.MethodName)) ∈ TB := TB_m7 (List.mem_of_getElem? (i := 0) rfl)
theorem tb_281 : (Jvm.Cond.static ({ cls := "java/util/Arrays", name := "fill", desc := "([JJ)V" } : Jvm.MethodName)) ∈ TB := TB_m7 (List.mem_of_getElem? (i := 1) rfl)
theorem tb_282 : (Jvm.Cond.code ({ cls := "java/util/Arrays", name := "fill", desc := "([JJ)V" } : Jvm.MethodName) prog_16_method_101_code (5 : Nat) (Option.none : Option Jvm.ClassFile.FieldType)) ∈ TB := TB_m7 (List.mem_of_getElem? (i := 2) rfl)
theorem tb_283 : (Jvm.Cond.methodLink "JuryDesk$Lattice" (63 : Nat) ({ cls := "JuryDesk$Lattice", name := "fillBehind", desc := "(LJuryDesk$Heat;I)V" } : Jvm.MethodName)) ∈ TB := TB_m7 (List.mem_of_getElem? (i := 3) rfl)
theorem tb_284 : (Jvm.Cond.instanceMethod ({ cls := "JuryDesk$Lattice", name := "fillBehind", desc := "(LJuryDesk$Heat;I)V" } : Jvm.MethodName)) ∈ TB := TB_m7 (List.mem_of_getElem? (i := 4) rfl)
theorem tb_285 : (Jvm.Cond.code ({ cls := "JuryDesk$Lattice", name := "fillBehind", desc := "(LJuryDesk$Heat;I)V" } : Jvm.MethodName) prog_3_method_7_code (9 : Nat) (Option.none : Option Jvm.ClassFile.FieldType)) ∈ TB := TB_m7 (List.mem_of_getElem? (i := 5) rfl)
theorem tb_286 : (Jvm.Cond.methodLink "JuryDesk$Lattice" (74 : Nat) ({ cls := "java/lang/Integer", name := "bitCount", desc := "(I)I" } : Jvm.MethodName)) ∈ TB := TB_m7 (List.mem_of_getElem? (i := 6) rfl)
theorem tb_287 : (Jvm.Cond.methodLink "JuryDesk$Lattice" (86 : Nat) ({ cls := "JuryDesk$Tally", name := "add", desc := "(IIJ)V" } : Jvm.MethodName)) ∈ TB := TB_m7 (List.mem_of_getElem? (i := 7) rfl)
theorem tb_288 : (Jvm.Cond.instanceMethod ({ cls := "JuryDesk$Tally", name := "add", desc := "(IIJ)V" } : Jvm.MethodName)) ∈ TB := TB_m7 (List.mem_of_getElem? (i := 8) rfl)
theorem tb_289 : (Jvm.Cond.selects "JuryDesk$Tally" ({ cls := "JuryDesk$Tally", name := "add", desc := "(IIJ)V" } : Jvm.MethodName) ({ cls := "JuryDesk$Tally", name := "add", desc := "(IIJ)V" } : Jvm.MethodName)) ∈ TB := TB_m7 (List.mem_of_getElem? (i := 9) rfl)
theorem tb_290 : (Jvm.Cond.code ({ cls := "JuryDesk$Tally", name := "add", desc := "(IIJ)V" } : Jvm.MethodName) prog_6_method_4_code (6 : Nat) (Option.none : Option Jvm.ClassFile.FieldType)) ∈ TB := TB_m7 (List.mem_of_getElem? (i := 10) rfl)
theorem tb_291 : (Jvm.Cond.methodLink "JuryDesk$Lattice" (71 : Nat) ({ cls := "JuryDesk$Tally", name := "complete", desc := "(LJuryDesk$Heat;)V" } : Jvm.MethodName)) ∈ TB := TB_m7 (List.mem_of_getElem? (i := 11) rfl)
theorem tb_292 : (Jvm.Cond.instanceMethod ({ cls := "JuryDesk$Tally", name := "complete", desc := "(LJuryDesk$Heat;)V" } : Jvm.MethodName)) ∈ TB := TB_m7 (List.mem_of_getElem? (i := 12) rfl)
theorem tb_293 : (Jvm.Cond.selects "JuryDesk$Tally" ({ cls := "JuryDesk$Tally", name := "complete", desc := "(LJuryDesk$Heat;)V" } : Jvm.MethodName) ({ cls := "JuryDesk$Tally", name := "complete", desc := "(LJuryDesk$Heat;)V" } : Jvm.MethodName)) ∈ TB := TB_m7 (List.mem_of_getElem? (i := 13) rfl)
theorem tb_294 : (Jvm.Cond.code ({ cls := "JuryDesk$Tally", name := "complete", desc := "(LJuryDesk$Heat;)V" } : Jvm.MethodName) prog_6_method_5_code (4 : Nat) (Option.none : Option Jvm.ClassFile.FieldType)) ∈ TB := TB_m7 (List.mem_of_getElem? (i := 14) rfl)
theorem tb_295 : (Jvm.Cond.methodLink "JuryDesk$Tally" (32 : Nat) ({ cls := "JuryDesk$Heat", name := "has", desc := "(I)Z" } : Jvm.MethodName)) ∈ TB := TB_m7 (List.mem_of_getElem? (i := 15) rfl)
theorem tb_296 : (Jvm.Cond.methodLink "JuryDeskLaw" (79 : Nat) ({ cls := "JuryDesk", name := "before", desc := "(III)J" } : Jvm.MethodName)) ∈ TB := TB_m7 (List.mem_of_getElem? (i := 16) rfl)
theorem tb_297 : (Jvm.Cond.instanceMethod ({ cls := "JuryDesk", name := "before", desc := "(III)J" } : Jvm.MethodName)) ∈ TB := TB_m7 (List.mem_of_getElem? (i := 17) rfl)
theorem tb_298 : (Jvm.Cond.selects "JuryDesk" ({ cls := "JuryDesk", name := "before", desc := "(III)J" } : Jvm.MethodName) ({ cls := "JuryDesk", name := "before", desc := "(III)J" } : Jvm.MethodName)) ∈ TB := TB_m7 (List.mem_of_getElem? (i := 18) rfl)
theorem tb_299 : (Jvm.Cond.code ({ cls := "JuryDesk", name := "before", desc := "(III)J" } : Jvm.MethodName) prog_1_method_12_code (5 : Nat) (Option.some Jvm.ClassFile.FieldType.long)) ∈ TB := TB_m7 (List.mem_of_getElem? (i := 19) rfl)
theorem tb_300 : (Jvm.Cond.methodLink "JuryDeskLaw" (83 : Nat) ({ cls := "JuryDesk", name := "meanRank", desc := "(IIZ)J" } : Jvm.MethodName)) ∈ TB := TB_m7 (List.mem_of_getElem? (i := 20) rfl)
theorem tb_301 : (Jvm.Cond.instanceMethod ({ cls := "JuryDesk", name := "meanRank", desc := "(IIZ)J" } : Jvm.MethodName)) ∈ TB := TB_m7 (List.mem_of_getElem? (i := 21) rfl)
theorem tb_302 : (Jvm.Cond.selects "JuryDesk" ({ cls := "JuryDesk", name := "meanRank", desc := "(IIZ)J" } : Jvm.MethodName) ({ cls := "JuryDesk", name := "meanRank", desc := "(IIZ)J" } : Jvm.MethodName)) ∈ TB := TB_m7 (List.mem_of_getElem? (i := 22) rfl)
theorem tb_303 : (Jvm.Cond.code ({ cls := "JuryDesk", name := "meanRank", desc := "(IIZ)J" } : Jvm.MethodName) prog_1_method_13_code (5 : Nat) (Option.some Jvm.ClassFile.FieldType.long)) ∈ TB := TB_m7 (List.mem_of_getElem? (i := 23) rfl)
theorem tb_304 : (Jvm.Cond.methodLink "JuryDesk" (127 : Nat) ({ cls := "JuryDesk$Tally", name := "sumOfRanks", desc := "(I)J" } : Jvm.MethodName)) ∈ TB := TB_m7 (List.mem_of_getElem? (i := 24) rfl)
theorem tb_305 : (Jvm.Cond.instanceMethod ({ cls := "JuryDesk$Tally", name := "sumOfRanks", desc := "(I)J" } : Jvm.MethodName)) ∈ TB := TB_m7 (List.mem_of_getElem? (i := 25) rfl)
theorem tb_306 : (Jvm.Cond.selects "JuryDesk$Tally" ({ cls := "JuryDesk$Tally", name := "sumOfRanks", desc := "(I)J" } : Jvm.MethodName) ({ cls := "JuryDesk$Tally", name := "sumOfRanks", desc := "(I)J" } : Jvm.MethodName)) ∈ TB := TB_m7 (List.mem_of_getElem? (i := 26) rfl)
theorem tb_307 : (Jvm.Cond.code ({ cls := "JuryDesk$Tally", name := "sumOfRanks", desc := "(I)J" } : Jvm.MethodName) prog_6_method_6_code (5 : Nat) (Option.some Jvm.ClassFile.FieldType.long)) ∈ TB := TB_m7 (List.mem_of_getElem? (i := 27) rfl)
theorem tb_308 : (Jvm.Cond.methodLink "JuryDesk" (134 : Nat) ({ cls := "JuryDesk", name := "inLowestTerms", desc := "(JJZ)J" } : Jvm.MethodName)) ∈ TB := TB_m7 (List.mem_of_getElem? (i := 28) rfl)
theorem tb_309 : (Jvm.Cond.static ({ cls := "JuryDesk", name := "inLowestTerms", desc := "(JJZ)J" } : Jvm.MethodName)) ∈ TB := TB_m7 (List.mem_of_getElem? (i := 29) rfl)
theorem tb_310 : (Jvm.Cond.code ({ cls := "JuryDesk", name := "inLowestTerms", desc := "(JJZ)J" } : Jvm.MethodName) prog_1_method_31_code (7 : Nat) (Option.some Jvm.ClassFile.FieldType.long)) ∈ TB := TB_m7 (List.mem_of_getElem? (i := 30) rfl)
theorem tb_311 : (Jvm.Cond.methodLink "JuryDesk" (205 : Nat) ({ cls := "JuryDesk", name := "commonDivisor", desc := "(JJ)J" } : Jvm.MethodName)) ∈ TB := TB_m7 (List.mem_of_getElem? (i := 31) rfl)
theorem tb_312 : (Jvm.Cond.static ({ cls := "JuryDesk", name := "commonDivisor", desc := "(JJ)J" } : Jvm.MethodName)) ∈ TB := TB_m7 (List.mem_of_getElem? (i := 32) rfl)
theorem tb_313 : (Jvm.Cond.code ({ cls := "JuryDesk", name := "commonDivisor", desc := "(JJ)J" } : Jvm.MethodName) prog_1_method_32_code (11 : Nat) (Option.some Jvm.ClassFile.FieldType.long)) ∈ TB := TB_m7 (List.mem_of_getElem? (i := 33) rfl)
theorem tb_314 : (Jvm.Cond.methodLink "JuryDeskLaw" (94 : Nat) ({ cls := "JuryDesk", name := "order", desc := "(IJI)I" } : Jvm.MethodName)) ∈ TB := TB_m7 (List.mem_of_getElem? (i := 34) rfl)
theorem tb_315 : (Jvm.Cond.instanceMethod ({ cls := "JuryDesk", name := "order", desc := "(IJI)I" } : Jvm.MethodName)) ∈ TB := TB_m7 (List.mem_of_getElem? (i := 35) rfl)
theorem tb_316 : (Jvm.Cond.selects "JuryDesk" ({ cls := "JuryDesk", name := "order", desc := "(IJI)I" } : Jvm.MethodName) ({ cls := "JuryDesk", name := "order", desc := "(IJI)I" } : Jvm.MethodName)) ∈ TB := TB_m7 (List.mem_of_getElem? (i := 36) rfl)
theorem tb_317 : (Jvm.Cond.code ({ cls := "JuryDesk", name := "order", desc := "(IJI)I" } : Jvm.MethodName) prog_1_method_15_code (6 : Nat) (Option.some Jvm.ClassFile.FieldType.int)) ∈ TB := TB_m7 (List.mem_of_getElem? (i := 37) rfl)
theorem tb_318 : (Jvm.Cond.methodLink "JuryDesk" (143 : Nat) ({ cls := "JuryDesk$Lattice", name := "entryAt", desc := "(LJuryDesk$Heat;JI)I" } : Jvm.MethodName)) ∈ TB := TB_m7 (List.mem_of_getElem? (i := 38) rfl)
theorem tb_319 : (Jvm.Cond.instanceMethod ({ cls := "JuryDesk$Lattice", name := "entryAt", desc := "(LJuryDesk$Heat;JI)I" } : Jvm.MethodName)) ∈ TB := TB_m7 (List.mem_of_getElem? (i := 39) rfl)
theorem tb_320 : (Jvm.Cond.selects "JuryDesk$Lattice" ({ cls := "JuryDesk$Lattice", name := "entryAt", desc := "(LJuryDesk$Heat;JI)I" } : Jvm.MethodName) ({ cls := "JuryDesk$Lattice", name := "entryAt", desc := "(LJuryDesk$Heat;JI)I" } : Jvm.MethodName)) ∈ TB := TB_m8 (List.mem_of_getElem? (i := 0) rfl)
theorem tb_321 : (Jvm.Cond.code ({ cls := "JuryDesk$Lattice", name := "entryAt", desc := "(LJuryDesk$Heat;JI)I" } : Jvm.MethodName) prog_3_method_4_code (13 : Nat) (Option.some Jvm.ClassFile.FieldType.int)) ∈ TB := TB_m8 (List.mem_of_getElem? (i := 1) rfl)
theorem tb_322 : (Jvm.Cond.methodLink "JuryDesk$Lattice" (46 : Nat) ({ cls := "JuryDesk$Heat", name := "mayCome", desc := "(II)Z" } : Jvm.MethodName)) ∈ TB := TB_m8 (List.mem_of_getElem? (i := 2) rfl)
theorem tb_323 : (Jvm.Cond.instanceMethod ({ cls := "JuryDesk$Heat", name := "mayCome", desc := "(II)Z" } : Jvm.MethodName)) ∈ TB := TB_m8 (List.mem_of_getElem? (i := 3) rfl)
theorem tb_324 : (Jvm.Cond.selects "JuryDesk$Heat" ({ cls := "JuryDesk$Heat", name := "mayCome", desc := "(II)Z" } : Jvm.MethodName) ({ cls := "JuryDesk$Heat", name := "mayCome", desc := "(II)Z" } : Jvm.MethodName)) ∈ TB := TB_m8 (List.mem_of_getElem? (i := 4) rfl)
theorem tb_325 : (Jvm.Cond.code ({ cls := "JuryDesk$Heat", name := "mayCome", desc := "(II)Z" } : Jvm.MethodName) prog_2_method_12_code (3 : Nat) (Option.some Jvm.ClassFile.FieldType.boolean)) ∈ TB := TB_m8 (List.mem_of_getElem? (i := 5) rfl)
theorem tb_326 : (Jvm.Cond.methodLink "JuryDeskLaw" (103 : Nat) ({ cls := "JuryDesk", name := "numberOf", desc := "(I)J" } : Jvm.MethodName)) ∈ TB := TB_m8 (List.mem_of_getElem? (i := 6) rfl)
theorem tb_327 : (Jvm.Cond.instanceMethod ({ cls := "JuryDesk", name := "numberOf", desc := "(I)J" } : Jvm.MethodName)) ∈ TB := TB_m8 (List.mem_of_getElem? (i := 7) rfl)
theorem tb_328 : (Jvm.Cond.selects "JuryDesk" ({ cls := "JuryDesk", name := "numberOf", desc := "(I)J" } : Jvm.MethodName) ({ cls := "JuryDesk", name := "numberOf", desc := "(I)J" } : Jvm.MethodName)) ∈ TB := TB_m8 (List.mem_of_getElem? (i := 8) rfl)
theorem tb_329 : (Jvm.Cond.code ({ cls := "JuryDesk", name := "numberOf", desc := "(I)J" } : Jvm.MethodName) prog_1_method_17_code (3 : Nat) (Option.some Jvm.ClassFile.FieldType.long)) ∈ TB := TB_m8 (List.mem_of_getElem? (i := 9) rfl)
theorem tb_330 : (Jvm.Cond.methodLink "JuryDesk" (149 : Nat) ({ cls := "JuryDesk$Heat", name := "allows", desc := "([I)Z" } : Jvm.MethodName)) ∈ TB := TB_m8 (List.mem_of_getElem? (i := 10) rfl)
theorem tb_331 : (Jvm.Cond.instanceMethod ({ cls := "JuryDesk$Heat", name := "allows", desc := "([I)Z" } : Jvm.MethodName)) ∈ TB := TB_m8 (List.mem_of_getElem? (i := 11) rfl)
theorem tb_332 : (Jvm.Cond.selects "JuryDesk$Heat" ({ cls := "JuryDesk$Heat", name := "allows", desc := "([I)Z" } : Jvm.MethodName) ({ cls := "JuryDesk$Heat", name := "allows", desc := "([I)Z" } : Jvm.MethodName)) ∈ TB := TB_m8 (List.mem_of_getElem? (i := 12) rfl)
theorem tb_333 : (Jvm.Cond.code ({ cls := "JuryDesk$Heat", name := "allows", desc := "([I)Z" } : Jvm.MethodName) prog_2_method_13_code (5 : Nat) (Option.some Jvm.ClassFile.FieldType.boolean)) ∈ TB := TB_m8 (List.mem_of_getElem? (i := 13) rfl)
theorem tb_334 : (Jvm.Cond.methodLink "JuryDesk$Heat" (70 : Nat) ({ cls := "JuryDesk$Heat", name := "size", desc := "()I" } : Jvm.MethodName)) ∈ TB := TB_m8 (List.mem_of_getElem? (i := 14) rfl)
theorem tb_335 : (Jvm.Cond.methodLink "JuryDesk$Heat" (74 : Nat) ({ cls := "JuryDesk$Heat", name := "mayCome", desc := "(II)Z" } : Jvm.MethodName)) ∈ TB := TB_m8 (List.mem_of_getElem? (i := 15) rfl)
theorem tb_336 : (Jvm.Cond.constantLong "JuryDesk" (153 : Nat) (-1 : Int64)) ∈ TB := TB_m8 (List.mem_of_getElem? (i := 16) rfl)
theorem tb_337 : (Jvm.Cond.methodLink "JuryDesk" (155 : Nat) ({ cls := "JuryDesk$Lattice", name := "numberOfRow", desc := "(LJuryDesk$Heat;[I)J" } : Jvm.MethodName)) ∈ TB := TB_m8 (List.mem_of_getElem? (i := 17) rfl)
theorem tb_338 : (Jvm.Cond.instanceMethod ({ cls := "JuryDesk$Lattice", name := "numberOfRow", desc := "(LJuryDesk$Heat;[I)J" } : Jvm.MethodName)) ∈ TB := TB_m8 (List.mem_of_getElem? (i := 18) rfl)
theorem tb_339 : (Jvm.Cond.selects "JuryDesk$Lattice" ({ cls := "JuryDesk$Lattice", name := "numberOfRow", desc := "(LJuryDesk$Heat;[I)J" } : Jvm.MethodName) ({ cls := "JuryDesk$Lattice", name := "numberOfRow", desc := "(LJuryDesk$Heat;[I)J" } : Jvm.MethodName)) ∈ TB := TB_m8 (List.mem_of_getElem? (i := 19) rfl)
theorem tb_340 : (Jvm.Cond.code ({ cls := "JuryDesk$Lattice", name := "numberOfRow", desc := "(LJuryDesk$Heat;[I)J" } : Jvm.MethodName) prog_3_method_5_code (8 : Nat) (Option.some Jvm.ClassFile.FieldType.long)) ∈ TB := TB_m8 (List.mem_of_getElem? (i := 20) rfl)
theorem tb_341 : (Jvm.Cond.methodLink "JuryDeskLaw" (107 : Nat) ({ cls := "JuryDesk", name := "ask", desc := "(II)I" } : Jvm.MethodName)) ∈ TB := TB_m8 (List.mem_of_getElem? (i := 21) rfl)
theorem tb_342 : (Jvm.Cond.instanceMethod ({ cls := "JuryDesk", name := "ask", desc := "(II)I" } : Jvm.MethodName)) ∈ TB := TB_m8 (List.mem_of_getElem? (i := 22) rfl)
theorem tb_343 : (Jvm.Cond.selects "JuryDesk" ({ cls := "JuryDesk", name := "ask", desc := "(II)I" } : Jvm.MethodName) ({ cls := "JuryDesk", name := "ask", desc := "(II)I" } : Jvm.MethodName)) ∈ TB := TB_m8 (List.mem_of_getElem? (i := 23) rfl)
theorem tb_344 : (Jvm.Cond.code ({ cls := "JuryDesk", name := "ask", desc := "(II)I" } : Jvm.MethodName) prog_1_method_18_code (5 : Nat) (Option.some Jvm.ClassFile.FieldType.int)) ∈ TB := TB_m8 (List.mem_of_getElem? (i := 24) rfl)
theorem tb_345 : (Jvm.Cond.methodLink "JuryDesk" (159 : Nat) ({ cls := "JuryDesk$Tally", name := "evenestPair", desc := "(LJuryDesk$Heat;)I" } : Jvm.MethodName)) ∈ TB := TB_m8 (List.mem_of_getElem? (i := 25) rfl)
theorem tb_346 : (Jvm.Cond.instanceMethod ({ cls := "JuryDesk$Tally", name := "evenestPair", desc := "(LJuryDesk$Heat;)I" } : Jvm.MethodName)) ∈ TB := TB_m8 (List.mem_of_getElem? (i := 26) rfl)
theorem tb_347 : (Jvm.Cond.selects "JuryDesk$Tally" ({ cls := "JuryDesk$Tally", name := "evenestPair", desc := "(LJuryDesk$Heat;)I" } : Jvm.MethodName) ({ cls := "JuryDesk$Tally", name := "evenestPair", desc := "(LJuryDesk$Heat;)I" } : Jvm.MethodName)) ∈ TB := TB_m8 (List.mem_of_getElem? (i := 27) rfl)
theorem tb_348 : (Jvm.Cond.code ({ cls := "JuryDesk$Tally", name := "evenestPair", desc := "(LJuryDesk$Heat;)I" } : Jvm.MethodName) prog_6_method_7_code (10 : Nat) (Option.some Jvm.ClassFile.FieldType.int)) ∈ TB := TB_m8 (List.mem_of_getElem? (i := 28) rfl)
theorem tb_349 : (Jvm.Cond.methodLink "JuryDesk$Tally" (38 : Nat) ({ cls := "java/lang/Math", name := "abs", desc := "(J)J" } : Jvm.MethodName)) ∈ TB := TB_m8 (List.mem_of_getElem? (i := 29) rfl)
theorem tb_350 : (Jvm.Cond.static ({ cls := "java/lang/Math", name := "abs", desc := "(J)J" } : Jvm.MethodName)) ∈ TB := TB_m8 (List.mem_of_getElem? (i := 30) rfl)
theorem tb_351 : (Jvm.Cond.code ({ cls := "java/lang/Math", name := "abs", desc := "(J)J" } : Jvm.MethodName) prog_12_method_61_code (2 : Nat) (Option.some Jvm.ClassFile.FieldType.long)) ∈ TB := TB_m8 (List.mem_of_getElem? (i := 31) rfl)
theorem tb_352 : (Jvm.Cond.methodLink "JuryDesk$Tally" (44 : Nat) ({ cls := "JuryDesk$Tally", name := "isOpen", desc := "(LJuryDesk$Heat;II)Z" } : Jvm.MethodName)) ∈ TB := TB_m8 (List.mem_of_getElem? (i := 32) rfl)
theorem tb_353 : (Jvm.Cond.static ({ cls := "JuryDesk$Tally", name := "isOpen", desc := "(LJuryDesk$Heat;II)Z" } : Jvm.MethodName)) ∈ TB := TB_m8 (List.mem_of_getElem? (i := 33) rfl)
theorem tb_354 : (Jvm.Cond.code ({ cls := "JuryDesk$Tally", name := "isOpen", desc := "(LJuryDesk$Heat;II)Z" } : Jvm.MethodName) prog_6_method_8_code (3 : Nat) (Option.some Jvm.ClassFile.FieldType.boolean)) ∈ TB := TB_m8 (List.mem_of_getElem? (i := 34) rfl)
theorem tb_355 : (Jvm.Cond.methodLink "JuryDesk$Tally" (48 : Nat) ({ cls := "JuryDesk$Heat", name := "isAbove", desc := "(II)Z" } : Jvm.MethodName)) ∈ TB := TB_m8 (List.mem_of_getElem? (i := 35) rfl)
theorem tb_356 : (Jvm.Cond.methodLink "JuryDeskLaw" (111 : Nat) ({ cls := "JuryDesk", name := "tie", desc := "(I)I" } : Jvm.MethodName)) ∈ TB := TB_m8 (List.mem_of_getElem? (i := 36) rfl)
theorem tb_357 : (Jvm.Cond.instanceMethod ({ cls := "JuryDesk", name := "tie", desc := "(I)I" } : Jvm.MethodName)) ∈ TB := TB_m8 (List.mem_of_getElem? (i := 37) rfl)
theorem tb_358 : (Jvm.Cond.selects "JuryDesk" ({ cls := "JuryDesk", name := "tie", desc := "(I)I" } : Jvm.MethodName) ({ cls := "JuryDesk", name := "tie", desc := "(I)I" } : Jvm.MethodName)) ∈ TB := TB_m8 (List.mem_of_getElem? (i := 38) rfl)
theorem tb_359 : (Jvm.Cond.code ({ cls := "JuryDesk", name := "tie", desc := "(I)I" } : Jvm.MethodName) prog_1_method_19_code (3 : Nat) (Option.some Jvm.ClassFile.FieldType.int)) ∈ TB := TB_m8 (List.mem_of_getElem? (i := 39) rfl)
theorem tb_360 : (Jvm.Cond.methodLink "JuryDesk" (163 : Nat) ({ cls := "JuryDesk", name := "rowsOf", desc := "(LJuryDesk$Heat;)LJuryDesk$Rows;" } : Jvm.MethodName)) ∈ TB := TB_m9 (List.mem_of_getElem? (i := 0) rfl)
theorem tb_361 : (Jvm.Cond.static ({ cls := "JuryDesk", name := "rowsOf", desc := "(LJuryDesk$Heat;)LJuryDesk$Rows;" } : Jvm.MethodName)) ∈ TB := TB_m9 (List.mem_of_getElem? (i := 1) rfl)
theorem tb_362 : (Jvm.Cond.code ({ cls := "JuryDesk", name := "rowsOf", desc := "(LJuryDesk$Heat;)LJuryDesk$Rows;" } : Jvm.MethodName) prog_1_method_29_code (1 : Nat) (Option.some (Jvm.ClassFile.FieldType.object "JuryDesk$Rows"))) ∈ TB := TB_m9 (List.mem_of_getElem? (i := 2) rfl)
theorem tb_363 : (Jvm.Cond.methodLink "JuryDesk" (202 : Nat) ({ cls := "JuryDesk$Rows", name := "arrange", desc := "(LJuryDesk$Heat;)V" } : Jvm.MethodName)) ∈ TB := TB_m9 (List.mem_of_getElem? (i := 3) rfl)
theorem tb_364 : (Jvm.Cond.instanceMethod ({ cls := "JuryDesk$Rows", name := "arrange", desc := "(LJuryDesk$Heat;)V" } : Jvm.MethodName)) ∈ TB := TB_m9 (List.mem_of_getElem? (i := 4) rfl)
theorem tb_365 : (Jvm.Cond.selects "JuryDesk$Rows" ({ cls := "JuryDesk$Rows", name := "arrange", desc := "(LJuryDesk$Heat;)V" } : Jvm.MethodName) ({ cls := "JuryDesk$Rows", name := "arrange", desc := "(LJuryDesk$Heat;)V" } : Jvm.MethodName)) ∈ TB := TB_m9 (List.mem_of_getElem? (i := 5) rfl)
theorem tb_366 : (Jvm.Cond.code ({ cls := "JuryDesk$Rows", name := "arrange", desc := "(LJuryDesk$Heat;)V" } : Jvm.MethodName) prog_5_method_2_code (2 : Nat) (Option.none : Option Jvm.ClassFile.FieldType)) ∈ TB := TB_m9 (List.mem_of_getElem? (i := 6) rfl)
theorem tb_367 : (Jvm.Cond.methodLink "JuryDesk$Rows" (33 : Nat) ({ cls := "JuryDesk$Rows", name := "widthOf", desc := "(LJuryDesk$Heat;I)I" } : Jvm.MethodName)) ∈ TB := TB_m9 (List.mem_of_getElem? (i := 7) rfl)
theorem tb_368 : (Jvm.Cond.instanceMethod ({ cls := "JuryDesk$Rows", name := "widthOf", desc := "(LJuryDesk$Heat;I)I" } : Jvm.MethodName)) ∈ TB := TB_m9 (List.mem_of_getElem? (i := 8) rfl)
theorem tb_369 : (Jvm.Cond.instantiable "JuryDesk$Rows" (8 : Nat)) ∈ TB := TB_m9 (List.mem_of_getElem? (i := 9) rfl)
theorem tb_370 : (Jvm.Cond.code ({ cls := "JuryDesk$Rows", name := "widthOf", desc := "(LJuryDesk$Heat;I)I" } : Jvm.MethodName) prog_5_method_7_code (3 : Nat) (Option.some Jvm.ClassFile.FieldType.int)) ∈ TB := TB_m9 (List.mem_of_getElem? (i := 10) rfl)
theorem tb_371 : (Jvm.Cond.methodLink "JuryDesk$Rows" (76 : Nat) ({ cls := "java/lang/Integer", name := "bitCount", desc := "(I)I" } : Jvm.MethodName)) ∈ TB := TB_m9 (List.mem_of_getElem? (i := 11) rfl)
theorem tb_372 : (Jvm.Cond.methodLink "JuryDesk$Rows" (69 : Nat) ({ cls := "JuryDesk$Rows", name := "mostPairs", desc := "(LJuryDesk$Heat;II)I" } : Jvm.MethodName)) ∈ TB := TB_m9 (List.mem_of_getElem? (i := 12) rfl)
theorem tb_373 : (Jvm.Cond.instanceMethod ({ cls := "JuryDesk$Rows", name := "mostPairs", desc := "(LJuryDesk$Heat;II)I" } : Jvm.MethodName)) ∈ TB := TB_m9 (List.mem_of_getElem? (i := 13) rfl)
theorem tb_374 : (Jvm.Cond.code ({ cls := "JuryDesk$Rows", name := "mostPairs", desc := "(LJuryDesk$Heat;II)I" } : Jvm.MethodName) prog_5_method_8_code (6 : Nat) (Option.some Jvm.ClassFile.FieldType.int)) ∈ TB := TB_m9 (List.mem_of_getElem? (i := 14) rfl)
theorem tb_375 : (Jvm.Cond.methodLink "JuryDesk$Rows" (82 : Nat) ({ cls := "java/util/Arrays", name := "fill", desc := "([II)V" } : Jvm.MethodName)) ∈ TB := TB_m9 (List.mem_of_getElem? (i := 15) rfl)
theorem tb_376 : (Jvm.Cond.methodLink "JuryDesk$Rows" (88 : Nat) ({ cls := "JuryDesk$Rows", name := "pairUp", desc := "(LJuryDesk$Heat;II)Z" } : Jvm.MethodName)) ∈ TB := TB_m9 (List.mem_of_getElem? (i := 16) rfl)
theorem tb_377 : (Jvm.Cond.instanceMethod ({ cls := "JuryDesk$Rows", name := "pairUp", desc := "(LJuryDesk$Heat;II)Z" } : Jvm.MethodName)) ∈ TB := TB_m9 (List.mem_of_getElem? (i := 17) rfl)
theorem tb_378 : (Jvm.Cond.code ({ cls := "JuryDesk$Rows", name := "pairUp", desc := "(LJuryDesk$Heat;II)Z" } : Jvm.MethodName) prog_5_method_9_code (9 : Nat) (Option.some Jvm.ClassFile.FieldType.boolean)) ∈ TB := TB_m9 (List.mem_of_getElem? (i := 18) rfl)
theorem tb_379 : (Jvm.Cond.methodLink "JuryDesk$Rows" (92 : Nat) ({ cls := "JuryDesk$Rows", name := "changePartners", desc := "(I)V" } : Jvm.MethodName)) ∈ TB := TB_m9 (List.mem_of_getElem? (i := 19) rfl)
theorem tb_380 : (Jvm.Cond.instanceMethod ({ cls := "JuryDesk$Rows", name := "changePartners", desc := "(I)V" } : Jvm.MethodName)) ∈ TB := TB_m9 (List.mem_of_getElem? (i := 20) rfl)
theorem tb_381 : (Jvm.Cond.code ({ cls := "JuryDesk$Rows", name := "changePartners", desc := "(I)V" } : Jvm.MethodName) prog_5_method_10_code (6 : Nat) (Option.none : Option Jvm.ClassFile.FieldType)) ∈ TB := TB_m9 (List.mem_of_getElem? (i := 21) rfl)
theorem tb_382 : (Jvm.Cond.methodLink "JuryDesk$Rows" (40 : Nat) ({ cls := "JuryDesk$Rows", name := "chooseFollowers", desc := "(LJuryDesk$Heat;)V" } : Jvm.MethodName)) ∈ TB := TB_m9 (List.mem_of_getElem? (i := 22) rfl)
theorem tb_383 : (Jvm.Cond.instanceMethod ({ cls := "JuryDesk$Rows", name := "chooseFollowers", desc := "(LJuryDesk$Heat;)V" } : Jvm.MethodName)) ∈ TB := TB_m9 (List.mem_of_getElem? (i := 23) rfl)
theorem tb_384 : (Jvm.Cond.code ({ cls := "JuryDesk$Rows", name := "chooseFollowers", desc := "(LJuryDesk$Heat;)V" } : Jvm.MethodName) prog_5_method_4_code (6 : Nat) (Option.none : Option Jvm.ClassFile.FieldType)) ∈ TB := TB_m9 (List.mem_of_getElem? (i := 24) rfl)
theorem tb_385 : (Jvm.Cond.methodLink "JuryDesk$Rows" (58 : Nat) ({ cls := "JuryDesk$Heat", name := "size", desc := "()I" } : Jvm.MethodName)) ∈ TB := TB_m9 (List.mem_of_getElem? (i := 25) rfl)
theorem tb_386 : (Jvm.Cond.methodLink "JuryDesk$Rows" (62 : Nat) ({ cls := "JuryDesk$Rows", name := "leastFollower", desc := "(LJuryDesk$Heat;IIII)I" } : Jvm.MethodName)) ∈ TB := TB_m9 (List.mem_of_getElem? (i := 26) rfl)
theorem tb_387 : (Jvm.Cond.instanceMethod ({ cls := "JuryDesk$Rows", name := "leastFollower", desc := "(LJuryDesk$Heat;IIII)I" } : Jvm.MethodName)) ∈ TB := TB_m9 (List.mem_of_getElem? (i := 27) rfl)
theorem tb_388 : (Jvm.Cond.code ({ cls := "JuryDesk$Rows", name := "leastFollower", desc := "(LJuryDesk$Heat;IIII)I" } : Jvm.MethodName) prog_5_method_5_code (7 : Nat) (Option.some Jvm.ClassFile.FieldType.int)) ∈ TB := TB_m9 (List.mem_of_getElem? (i := 28) rfl)
theorem tb_389 : (Jvm.Cond.methodLink "JuryDesk$Rows" (44 : Nat) ({ cls := "JuryDesk$Rows", name := "chooseTie", desc := "(LJuryDesk$Heat;)V" } : Jvm.MethodName)) ∈ TB := TB_m9 (List.mem_of_getElem? (i := 29) rfl)
theorem tb_390 : (Jvm.Cond.instanceMethod ({ cls := "JuryDesk$Rows", name := "chooseTie", desc := "(LJuryDesk$Heat;)V" } : Jvm.MethodName)) ∈ TB := TB_m9 (List.mem_of_getElem? (i := 30) rfl)
theorem tb_391 : (Jvm.Cond.code ({ cls := "JuryDesk$Rows", name := "chooseTie", desc := "(LJuryDesk$Heat;)V" } : Jvm.MethodName) prog_5_method_6_code (6 : Nat) (Option.none : Option Jvm.ClassFile.FieldType)) ∈ TB := TB_m9 (List.mem_of_getElem? (i := 31) rfl)
theorem tb_392 : (Jvm.Cond.methodLink "JuryDeskLaw" (115 : Nat) ({ cls := "JuryDesk", name := "tieEntry", desc := "(II)I" } : Jvm.MethodName)) ∈ TB := TB_m9 (List.mem_of_getElem? (i := 32) rfl)
theorem tb_393 : (Jvm.Cond.instanceMethod ({ cls := "JuryDesk", name := "tieEntry", desc := "(II)I" } : Jvm.MethodName)) ∈ TB := TB_m9 (List.mem_of_getElem? (i := 33) rfl)
theorem tb_394 : (Jvm.Cond.selects "JuryDesk" ({ cls := "JuryDesk", name := "tieEntry", desc := "(II)I" } : Jvm.MethodName) ({ cls := "JuryDesk", name := "tieEntry", desc := "(II)I" } : Jvm.MethodName)) ∈ TB := TB_m9 (List.mem_of_getElem? (i := 34) rfl)
theorem tb_395 : (Jvm.Cond.code ({ cls := "JuryDesk", name := "tieEntry", desc := "(II)I" } : Jvm.MethodName) prog_1_method_20_code (4 : Nat) (Option.some Jvm.ClassFile.FieldType.int)) ∈ TB := TB_m9 (List.mem_of_getElem? (i := 35) rfl)
theorem tb_396 : (Jvm.Cond.methodLink "JuryDesk" (172 : Nat) ({ cls := "JuryDesk$Rows", name := "tied", desc := "(I)I" } : Jvm.MethodName)) ∈ TB := TB_m9 (List.mem_of_getElem? (i := 36) rfl)
theorem tb_397 : (Jvm.Cond.instanceMethod ({ cls := "JuryDesk$Rows", name := "tied", desc := "(I)I" } : Jvm.MethodName)) ∈ TB := TB_m9 (List.mem_of_getElem? (i := 37) rfl)
theorem tb_398 : (Jvm.Cond.selects "JuryDesk$Rows" ({ cls := "JuryDesk$Rows", name := "tied", desc := "(I)I" } : Jvm.MethodName) ({ cls := "JuryDesk$Rows", name := "tied", desc := "(I)I" } : Jvm.MethodName)) ∈ TB := TB_m9 (List.mem_of_getElem? (i := 38) rfl)
theorem tb_399 : (Jvm.Cond.code ({ cls := "JuryDesk$Rows", name := "tied", desc := "(I)I" } : Jvm.MethodName) prog_5_method_3_code (4 : Nat) (Option.some Jvm.ClassFile.FieldType.int)) ∈ TB := TB_m9 (List.mem_of_getElem? (i := 39) rfl)
theorem tb_400 : (Jvm.Cond.methodLink "JuryDeskLaw" (119 : Nat) ({ cls := "JuryDesk", name := "chains", desc := "(I)I" } : Jvm.MethodName)) ∈ TB := TB_m10 (List.mem_of_getElem? (i := 0) rfl)
theorem tb_401 : (Jvm.Cond.instanceMethod ({ cls := "JuryDesk", name := "chains", desc := "(I)I" } : Jvm.MethodName)) ∈ TB := TB_m10 (List.mem_of_getElem? (i := 1) rfl)
theorem tb_402 : (Jvm.Cond.selects "JuryDesk" ({ cls := "JuryDesk", name := "chains", desc := "(I)I" } : Jvm.MethodName) ({ cls := "JuryDesk", name := "chains", desc := "(I)I" } : Jvm.MethodName)) ∈ TB := TB_m10 (List.mem_of_getElem? (i := 2) rfl)
theorem tb_403 : (Jvm.Cond.code ({ cls := "JuryDesk", name := "chains", desc := "(I)I" } : Jvm.MethodName) prog_1_method_21_code (3 : Nat) (Option.some Jvm.ClassFile.FieldType.int)) ∈ TB := TB_m10 (List.mem_of_getElem? (i := 3) rfl)
theorem tb_404 : (Jvm.Cond.methodLink "JuryDeskLaw" (123 : Nat) ({ cls := "JuryDesk", name := "follows", desc := "(II)I" } : Jvm.MethodName)) ∈ TB := TB_m10 (List.mem_of_getElem? (i := 4) rfl)
theorem tb_405 : (Jvm.Cond.instanceMethod ({ cls := "JuryDesk", name := "follows", desc := "(II)I" } : Jvm.MethodName)) ∈ TB := TB_m10 (List.mem_of_getElem? (i := 5) rfl)
theorem tb_406 : (Jvm.Cond.selects "JuryDesk" ({ cls := "JuryDesk", name := "follows", desc := "(II)I" } : Jvm.MethodName) ({ cls := "JuryDesk", name := "follows", desc := "(II)I" } : Jvm.MethodName)) ∈ TB := TB_m10 (List.mem_of_getElem? (i := 6) rfl)
theorem tb_407 : (Jvm.Cond.code ({ cls := "JuryDesk", name := "follows", desc := "(II)I" } : Jvm.MethodName) prog_1_method_22_code (4 : Nat) (Option.some Jvm.ClassFile.FieldType.int)) ∈ TB := TB_m10 (List.mem_of_getElem? (i := 7) rfl)
theorem tb_408 : (Jvm.Cond.methodLink "JuryDeskLaw" (127 : Nat) ({ cls := "JuryDesk", name := "count", desc := "(II)I" } : Jvm.MethodName)) ∈ TB := TB_m10 (List.mem_of_getElem? (i := 8) rfl)
theorem tb_409 : (Jvm.Cond.instanceMethod ({ cls := "JuryDesk", name := "count", desc := "(II)I" } : Jvm.MethodName)) ∈ TB := TB_m10 (List.mem_of_getElem? (i := 9) rfl)
theorem tb_410 : (Jvm.Cond.selects "JuryDesk" ({ cls := "JuryDesk", name := "count", desc := "(II)I" } : Jvm.MethodName) ({ cls := "JuryDesk", name := "count", desc := "(II)I" } : Jvm.MethodName)) ∈ TB := TB_m10 (List.mem_of_getElem? (i := 10) rfl)
theorem tb_411 : (Jvm.Cond.code ({ cls := "JuryDesk", name := "count", desc := "(II)I" } : Jvm.MethodName) prog_1_method_23_code (4 : Nat) (Option.some Jvm.ClassFile.FieldType.int)) ∈ TB := TB_m10 (List.mem_of_getElem? (i := 11) rfl)
theorem tb_412 : (Jvm.Cond.methodLink "JuryDesk" (179 : Nat) ({ cls := "JuryDesk$Heat", name := "verdictsInForce", desc := "()I" } : Jvm.MethodName)) ∈ TB := TB_m10 (List.mem_of_getElem? (i := 12) rfl)
theorem tb_413 : (Jvm.Cond.instanceMethod ({ cls := "JuryDesk$Heat", name := "verdictsInForce", desc := "()I" } : Jvm.MethodName)) ∈ TB := TB_m10 (List.mem_of_getElem? (i := 13) rfl)
theorem tb_414 : (Jvm.Cond.selects "JuryDesk$Heat" ({ cls := "JuryDesk$Heat", name := "verdictsInForce", desc := "()I" } : Jvm.MethodName) ({ cls := "JuryDesk$Heat", name := "verdictsInForce", desc := "()I" } : Jvm.MethodName)) ∈ TB := TB_m10 (List.mem_of_getElem? (i := 14) rfl)
theorem tb_415 : (Jvm.Cond.code ({ cls := "JuryDesk$Heat", name := "verdictsInForce", desc := "()I" } : Jvm.MethodName) prog_2_method_10_code (3 : Nat) (Option.some Jvm.ClassFile.FieldType.int)) ∈ TB := TB_m10 (List.mem_of_getElem? (i := 15) rfl)
theorem tb_416 : (Jvm.Cond.methodLink "JuryDesk" (182 : Nat) ({ cls := "JuryDesk$Heat", name := "settledPairs", desc := "()I" } : Jvm.MethodName)) ∈ TB := TB_m10 (List.mem_of_getElem? (i := 16) rfl)
theorem tb_417 : (Jvm.Cond.instanceMethod ({ cls := "JuryDesk$Heat", name := "settledPairs", desc := "()I" } : Jvm.MethodName)) ∈ TB := TB_m10 (List.mem_of_getElem? (i := 17) rfl)
theorem tb_418 : (Jvm.Cond.selects "JuryDesk$Heat" ({ cls := "JuryDesk$Heat", name := "settledPairs", desc := "()I" } : Jvm.MethodName) ({ cls := "JuryDesk$Heat", name := "settledPairs", desc := "()I" } : Jvm.MethodName)) ∈ TB := TB_m10 (List.mem_of_getElem? (i := 18) rfl)
theorem tb_419 : (Jvm.Cond.code ({ cls := "JuryDesk$Heat", name := "settledPairs", desc := "()I" } : Jvm.MethodName) prog_2_method_11_code (3 : Nat) (Option.some Jvm.ClassFile.FieldType.int)) ∈ TB := TB_m10 (List.mem_of_getElem? (i := 19) rfl)
theorem tb_420 : (Jvm.Cond.methodLink "JuryDeskLaw" (27 : Nat) ({ cls := "JuryDeskLaw", name := "heat", desc := "(LJuryDesk;II)I" } : Jvm.MethodName)) ∈ TB := TB_m10 (List.mem_of_getElem? (i := 20) rfl)
theorem tb_421 : (Jvm.Cond.static ({ cls := "JuryDeskLaw", name := "heat", desc := "(LJuryDesk;II)I" } : Jvm.MethodName)) ∈ TB := TB_m10 (List.mem_of_getElem? (i := 21) rfl)
theorem tb_422 : (Jvm.Cond.classLink "JuryDeskLaw" (13 : Nat) "java/lang/IllegalArgumentException") ∈ TB := TB_m10 (List.mem_of_getElem? (i := 22) rfl)
theorem tb_423 : (Jvm.Cond.methodLink "JuryDeskLaw" (7 : Nat) ({ cls := "JuryDesk", name := "heat", desc := "(II)V" } : Jvm.MethodName)) ∈ TB := TB_m10 (List.mem_of_getElem? (i := 23) rfl)
theorem tb_424 : (Jvm.Cond.instanceMethod ({ cls := "JuryDesk", name := "heat", desc := "(II)V" } : Jvm.MethodName)) ∈ TB := TB_m10 (List.mem_of_getElem? (i := 24) rfl)
theorem tb_425 : (Jvm.Cond.selects "JuryDesk" ({ cls := "JuryDesk", name := "heat", desc := "(II)V" } : Jvm.MethodName) ({ cls := "JuryDesk", name := "heat", desc := "(II)V" } : Jvm.MethodName)) ∈ TB := TB_m10 (List.mem_of_getElem? (i := 25) rfl)
theorem tb_426 : (Jvm.Cond.code ({ cls := "JuryDesk", name := "heat", desc := "(II)V" } : Jvm.MethodName) prog_1_method_2_code (3 : Nat) (Option.none : Option Jvm.ClassFile.FieldType)) ∈ TB := TB_m10 (List.mem_of_getElem? (i := 26) rfl)
theorem tb_427 : (Jvm.Cond.classLink "JuryDesk" (43 : Nat) "java/lang/IllegalArgumentException") ∈ TB := TB_m10 (List.mem_of_getElem? (i := 27) rfl)
theorem tb_428 : (Jvm.Cond.instantiable "java/lang/IllegalArgumentException" (6 : Nat)) ∈ TB := TB_m10 (List.mem_of_getElem? (i := 28) rfl)
theorem tb_429 : (Jvm.Cond.selects "java/lang/IllegalArgumentException" ({ cls := "java/lang/Throwable", name := "fillInStackTrace", desc := "(I)Ljava/lang/Throwable;" } : Jvm.MethodName) ({ cls := "java/lang/Throwable", name := "fillInStackTrace", desc := "(I)Ljava/lang/Throwable;" } : Jvm.MethodName)) ∈ TB := TB_m10 (List.mem_of_getElem? (i := 29) rfl)
theorem tb_430 : (Jvm.Cond.selects "java/lang/IllegalArgumentException" ({ cls := "java/lang/Throwable", name := "fillInStackTrace", desc := "()Ljava/lang/Throwable;" } : Jvm.MethodName) ({ cls := "java/lang/Throwable", name := "fillInStackTrace", desc := "()Ljava/lang/Throwable;" } : Jvm.MethodName)) ∈ TB := TB_m10 (List.mem_of_getElem? (i := 30) rfl)
theorem tb_431 : (Jvm.Cond.lays "java/lang/IllegalArgumentException" "java/lang/Throwable" "cause" "Ljava/lang/Throwable;") ∈ TB := TB_m10 (List.mem_of_getElem? (i := 31) rfl)
theorem tb_432 : (Jvm.Cond.lays "java/lang/Throwable" "java/lang/Throwable" "cause" "Ljava/lang/Throwable;") ∈ TB := TB_m10 (List.mem_of_getElem? (i := 32) rfl)
theorem tb_433 : (Jvm.Cond.lays "java/lang/IllegalArgumentException" "java/lang/Throwable" "stackTrace" "[Ljava/lang/StackTraceElement;") ∈ TB := TB_m10 (List.mem_of_getElem? (i := 33) rfl)
theorem tb_434 : (Jvm.Cond.lays "java/lang/Throwable" "java/lang/Throwable" "stackTrace" "[Ljava/lang/StackTraceElement;") ∈ TB := TB_m10 (List.mem_of_getElem? (i := 34) rfl)
theorem tb_435 : (Jvm.Cond.lays "java/lang/IllegalArgumentException" "java/lang/Throwable" "suppressedExceptions" "Ljava/util/List;") ∈ TB := TB_m10 (List.mem_of_getElem? (i := 35) rfl)
theorem tb_436 : (Jvm.Cond.lays "java/lang/Throwable" "java/lang/Throwable" "suppressedExceptions" "Ljava/util/List;") ∈ TB := TB_m10 (List.mem_of_getElem? (i := 36) rfl)
theorem tb_437 : (Jvm.Cond.lays "java/lang/IllegalArgumentException" "java/lang/Throwable" "detailMessage" "Ljava/lang/String;") ∈ TB := TB_m10 (List.mem_of_getElem? (i := 37) rfl)
theorem tb_438 : (Jvm.Cond.lays "java/lang/Throwable" "java/lang/Throwable" "detailMessage" "Ljava/lang/String;") ∈ TB := TB_m10 (List.mem_of_getElem? (i := 38) rfl)
theorem tb_439 : (Jvm.Cond.lays "java/lang/IllegalArgumentException" "java/lang/Throwable" "backtrace" "Ljava/lang/Object;") ∈ TB := TB_m10 (List.mem_of_getElem? (i := 39) rfl)
theorem tb_440 : (Jvm.Cond.lays "java/lang/Throwable" "java/lang/Throwable" "backtrace" "Ljava/lang/Object;") ∈ TB := TB_m11 (List.mem_of_getElem? (i := 0) rfl)
theorem tb_441 : (Jvm.Cond.fieldLink "java/lang/Throwable" (198 : Nat) "java/lang/Throwable" "backtrace" "Ljava/lang/Object;") ∈ TB := TB_m11 (List.mem_of_getElem? (i := 1) rfl)
theorem tb_442 : (Jvm.Cond.instanceMethod ({ cls := "java/lang/Throwable", name := "<init>", desc := "()V" } : Jvm.MethodName)) ∈ TB := TB_m11 (List.mem_of_getElem? (i := 2) rfl)
theorem tb_443 : (Jvm.Cond.code ({ cls := "java/lang/Throwable", name := "<init>", desc := "()V" } : Jvm.MethodName) prog_15_method_1_code (1 : Nat) (Option.none : Option Jvm.ClassFile.FieldType)) ∈ TB := TB_m11 (List.mem_of_getElem? (i := 3) rfl)
theorem tb_444 : (Jvm.Cond.methodLink "java/lang/Throwable" (1 : Nat) ({ cls := "java/lang/Object", name := "<init>", desc := "()V" } : Jvm.MethodName)) ∈ TB := TB_m11 (List.mem_of_getElem? (i := 4) rfl)
theorem tb_445 : (Jvm.Cond.fieldLink "java/lang/Throwable" (13 : Nat) "java/lang/Throwable" "UNASSIGNED_STACK" "[Ljava/lang/StackTraceElement;") ∈ TB := TB_m11 (List.mem_of_getElem? (i := 5) rfl)
theorem tb_446 : (Jvm.Cond.fieldLink "java/lang/Throwable" (20 : Nat) "java/lang/Throwable" "SUPPRESSED_SENTINEL" "Ljava/util/List;") ∈ TB := TB_m11 (List.mem_of_getElem? (i := 6) rfl)
theorem tb_447 : (Jvm.Cond.methodLink "java/lang/Throwable" (27 : Nat) ({ cls := "java/lang/Throwable", name := "fillInStackTrace", desc := "()Ljava/lang/Throwable;" } : Jvm.MethodName)) ∈ TB := TB_m11 (List.mem_of_getElem? (i := 7) rfl)
theorem tb_448 : (Jvm.Cond.instanceMethod ({ cls := "java/lang/Throwable", name := "fillInStackTrace", desc := "()Ljava/lang/Throwable;" } : Jvm.MethodName)) ∈ TB := TB_m11 (List.mem_of_getElem? (i := 8) rfl)
theorem tb_449 : (Jvm.Cond.methodLink "java/lang/Throwable" (202 : Nat) ({ cls := "java/lang/Throwable", name := "fillInStackTrace", desc := "(I)Ljava/lang/Throwable;" } : Jvm.MethodName)) ∈ TB := TB_m11 (List.mem_of_getElem? (i := 9) rfl)
theorem tb_450 : (Jvm.Cond.instanceMethod ({ cls := "java/lang/Throwable", name := "fillInStackTrace", desc := "(I)Ljava/lang/Throwable;" } : Jvm.MethodName)) ∈ TB := TB_m11 (List.mem_of_getElem? (i := 10) rfl)
theorem tb_451 : (Jvm.Cond.instantiable "java/lang/Throwable" (6 : Nat)) ∈ TB := TB_m11 (List.mem_of_getElem? (i := 11) rfl)
theorem tb_452 : (Jvm.Cond.methodLink "JuryDesk" (47 : Nat) ({ cls := "java/lang/IllegalArgumentException", name := "<init>", desc := "(Ljava/lang/String;)V" } : Jvm.MethodName)) ∈ TB := TB_m11 (List.mem_of_getElem? (i := 12) rfl)
theorem tb_453 : (Jvm.Cond.instanceMethod ({ cls := "java/lang/IllegalArgumentException", name := "<init>", desc := "(Ljava/lang/String;)V" } : Jvm.MethodName)) ∈ TB := TB_m11 (List.mem_of_getElem? (i := 13) rfl)
theorem tb_454 : (Jvm.Cond.code ({ cls := "java/lang/IllegalArgumentException", name := "<init>", desc := "(Ljava/lang/String;)V" } : Jvm.MethodName) prog_10_method_2_code (2 : Nat) (Option.none : Option Jvm.ClassFile.FieldType)) ∈ TB := TB_m11 (List.mem_of_getElem? (i := 14) rfl)
theorem tb_455 : (Jvm.Cond.methodLink "java/lang/IllegalArgumentException" (7 : Nat) ({ cls := "java/lang/RuntimeException", name := "<init>", desc := "(Ljava/lang/String;)V" } : Jvm.MethodName)) ∈ TB := TB_m11 (List.mem_of_getElem? (i := 15) rfl)
theorem tb_456 : (Jvm.Cond.instanceMethod ({ cls := "java/lang/RuntimeException", name := "<init>", desc := "(Ljava/lang/String;)V" } : Jvm.MethodName)) ∈ TB := TB_m11 (List.mem_of_getElem? (i := 16) rfl)
theorem tb_457 : (Jvm.Cond.code ({ cls := "java/lang/RuntimeException", name := "<init>", desc := "(Ljava/lang/String;)V" } : Jvm.MethodName) prog_13_method_2_code (2 : Nat) (Option.none : Option Jvm.ClassFile.FieldType)) ∈ TB := TB_m11 (List.mem_of_getElem? (i := 17) rfl)
theorem tb_458 : (Jvm.Cond.methodLink "java/lang/RuntimeException" (7 : Nat) ({ cls := "java/lang/Exception", name := "<init>", desc := "(Ljava/lang/String;)V" } : Jvm.MethodName)) ∈ TB := TB_m11 (List.mem_of_getElem? (i := 18) rfl)
theorem tb_459 : (Jvm.Cond.instanceMethod ({ cls := "java/lang/Exception", name := "<init>", desc := "(Ljava/lang/String;)V" } : Jvm.MethodName)) ∈ TB := TB_m11 (List.mem_of_getElem? (i := 19) rfl)
theorem tb_460 : (Jvm.Cond.code ({ cls := "java/lang/Exception", name := "<init>", desc := "(Ljava/lang/String;)V" } : Jvm.MethodName) prog_9_method_2_code (2 : Nat) (Option.none : Option Jvm.ClassFile.FieldType)) ∈ TB := TB_m11 (List.mem_of_getElem? (i := 20) rfl)
theorem tb_461 : (Jvm.Cond.methodLink "java/lang/Exception" (7 : Nat) ({ cls := "java/lang/Throwable", name := "<init>", desc := "(Ljava/lang/String;)V" } : Jvm.MethodName)) ∈ TB := TB_m11 (List.mem_of_getElem? (i := 21) rfl)
theorem tb_462 : (Jvm.Cond.instanceMethod ({ cls := "java/lang/Throwable", name := "<init>", desc := "(Ljava/lang/String;)V" } : Jvm.MethodName)) ∈ TB := TB_m11 (List.mem_of_getElem? (i := 22) rfl)
theorem tb_463 : (Jvm.Cond.code ({ cls := "java/lang/Throwable", name := "<init>", desc := "(Ljava/lang/String;)V" } : Jvm.MethodName) prog_15_method_2_code (2 : Nat) (Option.none : Option Jvm.ClassFile.FieldType)) ∈ TB := TB_m11 (List.mem_of_getElem? (i := 23) rfl)
theorem tb_464 : (Jvm.Cond.fieldLink "java/lang/Throwable" (198 : Nat) "java/lang/Throwable" "backtrace" "Ljava/lang/Object;") ∈ TB := TB_m11 (List.mem_of_getElem? (i := 24) rfl)
theorem tb_465 : (Jvm.Cond.fieldLink "java/lang/Throwable" (31 : Nat) "java/lang/Throwable" "detailMessage" "Ljava/lang/String;") ∈ TB := TB_m11 (List.mem_of_getElem? (i := 25) rfl)
theorem tb_466 : (Jvm.Cond.fieldLink "java/lang/Throwable" (7 : Nat) "java/lang/Throwable" "cause" "Ljava/lang/Throwable;") ∈ TB := TB_m11 (List.mem_of_getElem? (i := 26) rfl)
theorem tb_467 : (Jvm.Cond.fieldLink "java/lang/Throwable" (17 : Nat) "java/lang/Throwable" "stackTrace" "[Ljava/lang/StackTraceElement;") ∈ TB := TB_m11 (List.mem_of_getElem? (i := 27) rfl)
theorem tb_468 : (Jvm.Cond.fieldLink "java/lang/Throwable" (24 : Nat) "java/lang/Throwable" "suppressedExceptions" "Ljava/util/List;") ∈ TB := TB_m11 (List.mem_of_getElem? (i := 28) rfl)
theorem tb_469 : (Jvm.Cond.soleField "java/lang/Throwable" "backtrace") ∈ TB := TB_m11 (List.mem_of_getElem? (i := 29) rfl)
theorem tb_470 : (Jvm.Cond.soleField "java/lang/Throwable" "detailMessage") ∈ TB := TB_m11 (List.mem_of_getElem? (i := 30) rfl)
theorem tb_471 : (Jvm.Cond.soleField "java/lang/Throwable" "cause") ∈ TB := TB_m11 (List.mem_of_getElem? (i := 31) rfl)
theorem tb_472 : (Jvm.Cond.soleField "java/lang/Throwable" "stackTrace") ∈ TB := TB_m11 (List.mem_of_getElem? (i := 32) rfl)
theorem tb_473 : (Jvm.Cond.lays "java/lang/IllegalArgumentException" "java/lang/Throwable" "depth" "I") ∈ TB := TB_m11 (List.mem_of_getElem? (i := 33) rfl)
theorem tb_474 : (Jvm.Cond.soleField "java/lang/Throwable" "depth") ∈ TB := TB_m11 (List.mem_of_getElem? (i := 34) rfl)
theorem tb_475 : (Jvm.Cond.soleField "java/lang/Throwable" "suppressedExceptions") ∈ TB := TB_m11 (List.mem_of_getElem? (i := 35) rfl)
theorem tb_476 : (Jvm.Cond.arrayClass Jvm.ClassFile.FieldType.byte) ∈ TB := TB_m11 (List.mem_of_getElem? (i := 36) rfl)
theorem tb_477 : (Jvm.Cond.instanceMethod ({ cls := "JuryDesk$Heat", name := "<init>", desc := "()V" } : Jvm.MethodName)) ∈ TB := TB_m11 (List.mem_of_getElem? (i := 37) rfl)
theorem tb_478 : (Jvm.Cond.code ({ cls := "JuryDesk$Heat", name := "<init>", desc := "()V" } : Jvm.MethodName) prog_2_method_1_code (1 : Nat) (Option.none : Option Jvm.ClassFile.FieldType)) ∈ TB := TB_m11 (List.mem_of_getElem? (i := 38) rfl)
theorem tb_479 : (Jvm.Cond.methodLink "JuryDesk$Heat" (3 : Nat) ({ cls := "java/lang/Object", name := "<init>", desc := "()V" } : Jvm.MethodName)) ∈ TB := TB_m11 (List.mem_of_getElem? (i := 39) rfl)
theorem tb_480 : (Jvm.Cond.classLink "JuryDesk$Heat" (29 : Nat) "JuryDesk$Tally") ∈ TB := TB_m12 (List.mem_of_getElem? (i := 0) rfl)
theorem tb_481 : (Jvm.Cond.instantiable "JuryDesk$Tally" (4 : Nat)) ∈ TB := TB_m12 (List.mem_of_getElem? (i := 1) rfl)
theorem tb_482 : (Jvm.Cond.instanceMethod ({ cls := "JuryDesk$Tally", name := "<init>", desc := "()V" } : Jvm.MethodName)) ∈ TB := TB_m12 (List.mem_of_getElem? (i := 2) rfl)
theorem tb_483 : (Jvm.Cond.code ({ cls := "JuryDesk$Tally", name := "<init>", desc := "()V" } : Jvm.MethodName) prog_6_method_1_code (1 : Nat) (Option.none : Option Jvm.ClassFile.FieldType)) ∈ TB := TB_m12 (List.mem_of_getElem? (i := 3) rfl)
theorem tb_484 : (Jvm.Cond.methodLink "JuryDesk$Tally" (3 : Nat) ({ cls := "java/lang/Object", name := "<init>", desc := "()V" } : Jvm.MethodName)) ∈ TB := TB_m12 (List.mem_of_getElem? (i := 4) rfl)
theorem tb_485 : (Jvm.Cond.fieldLink "JuryDesk$Tally" (18 : Nat) "JuryDesk$Tally" "known" "Z") ∈ TB := TB_m12 (List.mem_of_getElem? (i := 5) rfl)
theorem tb_486 : (Jvm.Cond.fieldLink "JuryDesk" (191 : Nat) "JuryDesk$Tally" "known" "Z") ∈ TB := TB_m12 (List.mem_of_getElem? (i := 6) rfl)
theorem tb_487 : (Jvm.Cond.fieldLink "JuryDesk$Tally" (22 : Nat) "JuryDesk$Tally" "total" "J") ∈ TB := TB_m12 (List.mem_of_getElem? (i := 7) rfl)
theorem tb_488 : (Jvm.Cond.fieldLink "JuryDesk" (131 : Nat) "JuryDesk$Tally" "total" "J") ∈ TB := TB_m12 (List.mem_of_getElem? (i := 8) rfl)
theorem tb_489 : (Jvm.Cond.fieldLink "JuryDesk$Tally" (9 : Nat) "JuryDesk$Tally" "standing" "[J") ∈ TB := TB_m12 (List.mem_of_getElem? (i := 9) rfl)
theorem tb_490 : (Jvm.Cond.fieldLink "JuryDesk$Lattice" (83 : Nat) "JuryDesk$Tally" "standing" "[J") ∈ TB := TB_m12 (List.mem_of_getElem? (i := 10) rfl)
theorem tb_491 : (Jvm.Cond.fieldLink "JuryDesk" (118 : Nat) "JuryDesk$Tally" "standing" "[J") ∈ TB := TB_m12 (List.mem_of_getElem? (i := 11) rfl)
theorem tb_492 : (Jvm.Cond.fieldLink "JuryDesk$Tally" (15 : Nat) "JuryDesk$Tally" "ahead" "[J") ∈ TB := TB_m12 (List.mem_of_getElem? (i := 12) rfl)
theorem tb_493 : (Jvm.Cond.fieldLink "JuryDesk" (124 : Nat) "JuryDesk$Tally" "ahead" "[J") ∈ TB := TB_m12 (List.mem_of_getElem? (i := 13) rfl)
theorem tb_494 : (Jvm.Cond.lays "JuryDesk$Tally" "JuryDesk$Tally" "known" "Z") ∈ TB := TB_m12 (List.mem_of_getElem? (i := 14) rfl)
theorem tb_495 : (Jvm.Cond.soleField "JuryDesk$Tally" "known") ∈ TB := TB_m12 (List.mem_of_getElem? (i := 15) rfl)
theorem tb_496 : (Jvm.Cond.lays "JuryDesk$Tally" "JuryDesk$Tally" "total" "J") ∈ TB := TB_m12 (List.mem_of_getElem? (i := 16) rfl)
theorem tb_497 : (Jvm.Cond.soleField "JuryDesk$Tally" "total") ∈ TB := TB_m12 (List.mem_of_getElem? (i := 17) rfl)
theorem tb_498 : (Jvm.Cond.laysFinal "JuryDesk$Tally" "JuryDesk$Tally" "standing" "[J") ∈ TB := TB_m12 (List.mem_of_getElem? (i := 18) rfl)
theorem tb_499 : (Jvm.Cond.soleField "JuryDesk$Tally" "standing") ∈ TB := TB_m12 (List.mem_of_getElem? (i := 19) rfl)
theorem tb_500 : (Jvm.Cond.laysFinal "JuryDesk$Tally" "JuryDesk$Tally" "ahead" "[J") ∈ TB := TB_m12 (List.mem_of_getElem? (i := 20) rfl)
theorem tb_501 : (Jvm.Cond.soleField "JuryDesk$Tally" "ahead") ∈ TB := TB_m12 (List.mem_of_getElem? (i := 21) rfl)
theorem tb_502 : (Jvm.Cond.arrayClass Jvm.ClassFile.FieldType.boolean) ∈ TB := TB_m12 (List.mem_of_getElem? (i := 22) rfl)
theorem tb_503 : (Jvm.Cond.classLink "JuryDesk$Heat" (36 : Nat) "JuryDesk$Rows") ∈ TB := TB_m12 (List.mem_of_getElem? (i := 23) rfl)
theorem tb_504 : (Jvm.Cond.instanceMethod ({ cls := "JuryDesk$Rows", name := "<init>", desc := "()V" } : Jvm.MethodName)) ∈ TB := TB_m12 (List.mem_of_getElem? (i := 24) rfl)
theorem tb_505 : (Jvm.Cond.code ({ cls := "JuryDesk$Rows", name := "<init>", desc := "()V" } : Jvm.MethodName) prog_5_method_1_code (1 : Nat) (Option.none : Option Jvm.ClassFile.FieldType)) ∈ TB := TB_m12 (List.mem_of_getElem? (i := 25) rfl)
theorem tb_506 : (Jvm.Cond.methodLink "JuryDesk$Rows" (3 : Nat) ({ cls := "java/lang/Object", name := "<init>", desc := "()V" } : Jvm.MethodName)) ∈ TB := TB_m12 (List.mem_of_getElem? (i := 26) rfl)
theorem tb_507 : (Jvm.Cond.fieldLink "JuryDesk$Rows" (47 : Nat) "JuryDesk$Rows" "known" "Z") ∈ TB := TB_m12 (List.mem_of_getElem? (i := 27) rfl)
theorem tb_508 : (Jvm.Cond.fieldLink "JuryDesk$Heat" (92 : Nat) "JuryDesk$Rows" "known" "Z") ∈ TB := TB_m12 (List.mem_of_getElem? (i := 28) rfl)
theorem tb_509 : (Jvm.Cond.fieldLink "JuryDesk" (201 : Nat) "JuryDesk$Rows" "known" "Z") ∈ TB := TB_m12 (List.mem_of_getElem? (i := 29) rfl)
theorem tb_510 : (Jvm.Cond.fieldLink "JuryDesk$Rows" (37 : Nat) "JuryDesk$Rows" "width" "I") ∈ TB := TB_m12 (List.mem_of_getElem? (i := 30) rfl)
theorem tb_511 : (Jvm.Cond.fieldLink "JuryDesk" (167 : Nat) "JuryDesk$Rows" "width" "I") ∈ TB := TB_m12 (List.mem_of_getElem? (i := 31) rfl)
theorem tb_512 : (Jvm.Cond.fieldLink "JuryDesk$Rows" (9 : Nat) "JuryDesk$Rows" "follower" "[I") ∈ TB := TB_m12 (List.mem_of_getElem? (i := 32) rfl)
theorem tb_513 : (Jvm.Cond.fieldLink "JuryDesk" (176 : Nat) "JuryDesk$Rows" "follower" "[I") ∈ TB := TB_m12 (List.mem_of_getElem? (i := 33) rfl)
theorem tb_514 : (Jvm.Cond.fieldLink "JuryDesk$Rows" (51 : Nat) "JuryDesk$Rows" "tieSet" "I") ∈ TB := TB_m12 (List.mem_of_getElem? (i := 34) rfl)
theorem tb_515 : (Jvm.Cond.fieldLink "JuryDesk$Rows" (15 : Nat) "JuryDesk$Rows" "next" "[I") ∈ TB := TB_m12 (List.mem_of_getElem? (i := 35) rfl)
theorem tb_516 : (Jvm.Cond.fieldLink "JuryDesk$Rows" (18 : Nat) "JuryDesk$Rows" "previous" "[I") ∈ TB := TB_m12 (List.mem_of_getElem? (i := 36) rfl)
theorem tb_517 : (Jvm.Cond.fieldLink "JuryDesk$Rows" (21 : Nat) "JuryDesk$Rows" "reachedFrom" "[I") ∈ TB := TB_m12 (List.mem_of_getElem? (i := 37) rfl)
theorem tb_518 : (Jvm.Cond.fieldLink "JuryDesk$Rows" (24 : Nat) "JuryDesk$Rows" "queue" "[I") ∈ TB := TB_m12 (List.mem_of_getElem? (i := 38) rfl)
theorem tb_519 : (Jvm.Cond.lays "JuryDesk$Rows" "JuryDesk$Rows" "known" "Z") ∈ TB := TB_m12 (List.mem_of_getElem? (i := 39) rfl)
theorem tb_520 : (Jvm.Cond.soleField "JuryDesk$Rows" "known") ∈ TB := TB_m13 (List.mem_of_getElem? (i := 0) rfl)
theorem tb_521 : (Jvm.Cond.lays "JuryDesk$Rows" "JuryDesk$Rows" "width" "I") ∈ TB := TB_m13 (List.mem_of_getElem? (i := 1) rfl)
theorem tb_522 : (Jvm.Cond.soleField "JuryDesk$Rows" "width") ∈ TB := TB_m13 (List.mem_of_getElem? (i := 2) rfl)
theorem tb_523 : (Jvm.Cond.laysFinal "JuryDesk$Rows" "JuryDesk$Rows" "follower" "[I") ∈ TB := TB_m13 (List.mem_of_getElem? (i := 3) rfl)
theorem tb_524 : (Jvm.Cond.soleField "JuryDesk$Rows" "follower") ∈ TB := TB_m13 (List.mem_of_getElem? (i := 4) rfl)
theorem tb_525 : (Jvm.Cond.lays "JuryDesk$Rows" "JuryDesk$Rows" "tieSet" "I") ∈ TB := TB_m13 (List.mem_of_getElem? (i := 5) rfl)
theorem tb_526 : (Jvm.Cond.soleField "JuryDesk$Rows" "tieSet") ∈ TB := TB_m13 (List.mem_of_getElem? (i := 6) rfl)
theorem tb_527 : (Jvm.Cond.laysFinal "JuryDesk$Rows" "JuryDesk$Rows" "next" "[I") ∈ TB := TB_m13 (List.mem_of_getElem? (i := 7) rfl)
theorem tb_528 : (Jvm.Cond.soleField "JuryDesk$Rows" "next") ∈ TB := TB_m13 (List.mem_of_getElem? (i := 8) rfl)
theorem tb_529 : (Jvm.Cond.laysFinal "JuryDesk$Rows" "JuryDesk$Rows" "previous" "[I") ∈ TB := TB_m13 (List.mem_of_getElem? (i := 9) rfl)
theorem tb_530 : (Jvm.Cond.soleField "JuryDesk$Rows" "previous") ∈ TB := TB_m13 (List.mem_of_getElem? (i := 10) rfl)
theorem tb_531 : (Jvm.Cond.laysFinal "JuryDesk$Rows" "JuryDesk$Rows" "reachedFrom" "[I") ∈ TB := TB_m13 (List.mem_of_getElem? (i := 11) rfl)
theorem tb_532 : (Jvm.Cond.soleField "JuryDesk$Rows" "reachedFrom") ∈ TB := TB_m13 (List.mem_of_getElem? (i := 12) rfl)
theorem tb_533 : (Jvm.Cond.laysFinal "JuryDesk$Rows" "JuryDesk$Rows" "queue" "[I") ∈ TB := TB_m13 (List.mem_of_getElem? (i := 13) rfl)
theorem tb_534 : (Jvm.Cond.soleField "JuryDesk$Rows" "queue") ∈ TB := TB_m13 (List.mem_of_getElem? (i := 14) rfl)
theorem tb_535 : (Jvm.Cond.fieldLink "JuryDesk$Heat" (9 : Nat) "JuryDesk$Heat" "upper" "[B") ∈ TB := TB_m13 (List.mem_of_getElem? (i := 15) rfl)
theorem tb_536 : (Jvm.Cond.fieldLink "JuryDesk$Reason" (45 : Nat) "JuryDesk$Heat" "upper" "[B") ∈ TB := TB_m13 (List.mem_of_getElem? (i := 16) rfl)
theorem tb_537 : (Jvm.Cond.fieldLink "JuryDesk$Heat" (15 : Nat) "JuryDesk$Heat" "lower" "[B") ∈ TB := TB_m13 (List.mem_of_getElem? (i := 17) rfl)
theorem tb_538 : (Jvm.Cond.fieldLink "JuryDesk$Reason" (30 : Nat) "JuryDesk$Heat" "lower" "[B") ∈ TB := TB_m13 (List.mem_of_getElem? (i := 18) rfl)
theorem tb_539 : (Jvm.Cond.fieldLink "JuryDesk$Heat" (18 : Nat) "JuryDesk$Heat" "withdrawn" "[Z") ∈ TB := TB_m13 (List.mem_of_getElem? (i := 19) rfl)
theorem tb_540 : (Jvm.Cond.fieldLink "JuryDesk" (87 : Nat) "JuryDesk$Heat" "withdrawn" "[Z") ∈ TB := TB_m13 (List.mem_of_getElem? (i := 20) rfl)
theorem tb_541 : (Jvm.Cond.fieldLink "JuryDesk$Heat" (22 : Nat) "JuryDesk$Heat" "below" "[I") ∈ TB := TB_m13 (List.mem_of_getElem? (i := 21) rfl)
theorem tb_542 : (Jvm.Cond.fieldLink "JuryDesk$Lattice" (26 : Nat) "JuryDesk$Heat" "below" "[I") ∈ TB := TB_m13 (List.mem_of_getElem? (i := 22) rfl)
theorem tb_543 : (Jvm.Cond.fieldLink "JuryDesk$Rows" (66 : Nat) "JuryDesk$Heat" "below" "[I") ∈ TB := TB_m13 (List.mem_of_getElem? (i := 23) rfl)
theorem tb_544 : (Jvm.Cond.fieldLink "JuryDesk" (101 : Nat) "JuryDesk$Heat" "below" "[I") ∈ TB := TB_m13 (List.mem_of_getElem? (i := 24) rfl)
theorem tb_545 : (Jvm.Cond.fieldLink "JuryDesk$Heat" (26 : Nat) "JuryDesk$Heat" "above" "[I") ∈ TB := TB_m13 (List.mem_of_getElem? (i := 25) rfl)
theorem tb_546 : (Jvm.Cond.fieldLink "JuryDesk$Rows" (73 : Nat) "JuryDesk$Heat" "above" "[I") ∈ TB := TB_m13 (List.mem_of_getElem? (i := 26) rfl)
theorem tb_547 : (Jvm.Cond.fieldLink "JuryDesk" (104 : Nat) "JuryDesk$Heat" "above" "[I") ∈ TB := TB_m13 (List.mem_of_getElem? (i := 27) rfl)
theorem tb_548 : (Jvm.Cond.fieldLink "JuryDesk$Heat" (32 : Nat) "JuryDesk$Heat" "tally" "LJuryDesk$Tally;") ∈ TB := TB_m13 (List.mem_of_getElem? (i := 28) rfl)
theorem tb_549 : (Jvm.Cond.fieldLink "JuryDesk$Lattice" (54 : Nat) "JuryDesk$Heat" "tally" "LJuryDesk$Tally;") ∈ TB := TB_m13 (List.mem_of_getElem? (i := 29) rfl)
theorem tb_550 : (Jvm.Cond.fieldLink "JuryDesk" (115 : Nat) "JuryDesk$Heat" "tally" "LJuryDesk$Tally;") ∈ TB := TB_m13 (List.mem_of_getElem? (i := 30) rfl)
theorem tb_551 : (Jvm.Cond.fieldLink "JuryDesk$Heat" (39 : Nat) "JuryDesk$Heat" "rows" "LJuryDesk$Rows;") ∈ TB := TB_m13 (List.mem_of_getElem? (i := 31) rfl)
theorem tb_552 : (Jvm.Cond.fieldLink "JuryDesk" (197 : Nat) "JuryDesk$Heat" "rows" "LJuryDesk$Rows;") ∈ TB := TB_m13 (List.mem_of_getElem? (i := 32) rfl)
theorem tb_553 : (Jvm.Cond.fieldLink "JuryDesk$Rows" (27 : Nat) "JuryDesk$Heat" "live" "I") ∈ TB := TB_m13 (List.mem_of_getElem? (i := 33) rfl)
theorem tb_554 : (Jvm.Cond.fieldLink "JuryDesk$Heat" (43 : Nat) "JuryDesk$Heat" "live" "I") ∈ TB := TB_m13 (List.mem_of_getElem? (i := 34) rfl)
theorem tb_555 : (Jvm.Cond.fieldLink "JuryDesk$Lattice" (42 : Nat) "JuryDesk$Heat" "live" "I") ∈ TB := TB_m13 (List.mem_of_getElem? (i := 35) rfl)
theorem tb_556 : (Jvm.Cond.fieldLink "JuryDesk$Heat" (47 : Nat) "JuryDesk$Heat" "verdicts" "I") ∈ TB := TB_m13 (List.mem_of_getElem? (i := 36) rfl)
theorem tb_557 : (Jvm.Cond.fieldLink "JuryDesk$Reason" (42 : Nat) "JuryDesk$Heat" "verdicts" "I") ∈ TB := TB_m13 (List.mem_of_getElem? (i := 37) rfl)
theorem tb_558 : (Jvm.Cond.fieldLink "JuryDesk" (74 : Nat) "JuryDesk$Heat" "verdicts" "I") ∈ TB := TB_m13 (List.mem_of_getElem? (i := 38) rfl)
theorem tb_559 : (Jvm.Cond.laysFinal "JuryDesk$Heat" "JuryDesk$Heat" "upper" "[B") ∈ TB := TB_m13 (List.mem_of_getElem? (i := 39) rfl)
theorem tb_560 : (Jvm.Cond.soleField "JuryDesk$Heat" "upper") ∈ TB := TB_m14 (List.mem_of_getElem? (i := 0) rfl)
theorem tb_561 : (Jvm.Cond.laysFinal "JuryDesk$Heat" "JuryDesk$Heat" "lower" "[B") ∈ TB := TB_m14 (List.mem_of_getElem? (i := 1) rfl)
theorem tb_562 : (Jvm.Cond.soleField "JuryDesk$Heat" "lower") ∈ TB := TB_m14 (List.mem_of_getElem? (i := 2) rfl)
theorem tb_563 : (Jvm.Cond.laysFinal "JuryDesk$Heat" "JuryDesk$Heat" "withdrawn" "[Z") ∈ TB := TB_m14 (List.mem_of_getElem? (i := 3) rfl)
theorem tb_564 : (Jvm.Cond.soleField "JuryDesk$Heat" "withdrawn") ∈ TB := TB_m14 (List.mem_of_getElem? (i := 4) rfl)
theorem tb_565 : (Jvm.Cond.laysFinal "JuryDesk$Heat" "JuryDesk$Heat" "below" "[I") ∈ TB := TB_m14 (List.mem_of_getElem? (i := 5) rfl)
theorem tb_566 : (Jvm.Cond.soleField "JuryDesk$Heat" "below") ∈ TB := TB_m14 (List.mem_of_getElem? (i := 6) rfl)
theorem tb_567 : (Jvm.Cond.laysFinal "JuryDesk$Heat" "JuryDesk$Heat" "above" "[I") ∈ TB := TB_m14 (List.mem_of_getElem? (i := 7) rfl)
theorem tb_568 : (Jvm.Cond.soleField "JuryDesk$Heat" "above") ∈ TB := TB_m14 (List.mem_of_getElem? (i := 8) rfl)
theorem tb_569 : (Jvm.Cond.laysFinal "JuryDesk$Heat" "JuryDesk$Heat" "tally" "LJuryDesk$Tally;") ∈ TB := TB_m14 (List.mem_of_getElem? (i := 9) rfl)
theorem tb_570 : (Jvm.Cond.soleField "JuryDesk$Heat" "tally") ∈ TB := TB_m14 (List.mem_of_getElem? (i := 10) rfl)
theorem tb_571 : (Jvm.Cond.laysFinal "JuryDesk$Heat" "JuryDesk$Heat" "rows" "LJuryDesk$Rows;") ∈ TB := TB_m14 (List.mem_of_getElem? (i := 11) rfl)
theorem tb_572 : (Jvm.Cond.soleField "JuryDesk$Heat" "rows") ∈ TB := TB_m14 (List.mem_of_getElem? (i := 12) rfl)
theorem tb_573 : (Jvm.Cond.lays "JuryDesk$Heat" "JuryDesk$Heat" "live" "I") ∈ TB := TB_m14 (List.mem_of_getElem? (i := 13) rfl)
theorem tb_574 : (Jvm.Cond.soleField "JuryDesk$Heat" "live") ∈ TB := TB_m14 (List.mem_of_getElem? (i := 14) rfl)
theorem tb_575 : (Jvm.Cond.lays "JuryDesk$Heat" "JuryDesk$Heat" "verdicts" "I") ∈ TB := TB_m14 (List.mem_of_getElem? (i := 15) rfl)
theorem tb_576 : (Jvm.Cond.soleField "JuryDesk$Heat" "verdicts") ∈ TB := TB_m14 (List.mem_of_getElem? (i := 16) rfl)
theorem tb_577 : (Jvm.Cond.methodLink "JuryDesk" (51 : Nat) ({ cls := "JuryDesk$Heat", name := "begin", desc := "(I)V" } : Jvm.MethodName)) ∈ TB := TB_m14 (List.mem_of_getElem? (i := 17) rfl)
theorem tb_578 : (Jvm.Cond.instanceMethod ({ cls := "JuryDesk$Heat", name := "begin", desc := "(I)V" } : Jvm.MethodName)) ∈ TB := TB_m14 (List.mem_of_getElem? (i := 18) rfl)
theorem tb_579 : (Jvm.Cond.selects "JuryDesk$Heat" ({ cls := "JuryDesk$Heat", name := "begin", desc := "(I)V" } : Jvm.MethodName) ({ cls := "JuryDesk$Heat", name := "begin", desc := "(I)V" } : Jvm.MethodName)) ∈ TB := TB_m14 (List.mem_of_getElem? (i := 19) rfl)
theorem tb_580 : (Jvm.Cond.code ({ cls := "JuryDesk$Heat", name := "begin", desc := "(I)V" } : Jvm.MethodName) prog_2_method_2_code (2 : Nat) (Option.none : Option Jvm.ClassFile.FieldType)) ∈ TB := TB_m14 (List.mem_of_getElem? (i := 20) rfl)
theorem tb_581 : (Jvm.Cond.methodLink "JuryDeskLaw" (90 : Nat) ({ cls := "JuryDeskLaw", name := "chance", desc := "(LJuryDesk;JJZ[J)I" } : Jvm.MethodName)) ∈ TB := TB_m14 (List.mem_of_getElem? (i := 21) rfl)
theorem tb_582 : (Jvm.Cond.static ({ cls := "JuryDeskLaw", name := "chance", desc := "(LJuryDesk;JJZ[J)I" } : Jvm.MethodName)) ∈ TB := TB_m14 (List.mem_of_getElem? (i := 22) rfl)
theorem tb_583 : (Jvm.Cond.methodLink "JuryDeskLaw" (15 : Nat) ({ cls := "JuryDesk", name := "chance", desc := "(JJZ)J" } : Jvm.MethodName)) ∈ TB := TB_m14 (List.mem_of_getElem? (i := 23) rfl)
theorem tb_584 : (Jvm.Cond.instanceMethod ({ cls := "JuryDesk", name := "chance", desc := "(JJZ)J" } : Jvm.MethodName)) ∈ TB := TB_m14 (List.mem_of_getElem? (i := 24) rfl)
theorem tb_585 : (Jvm.Cond.selects "JuryDesk" ({ cls := "JuryDesk", name := "chance", desc := "(JJZ)J" } : Jvm.MethodName) ({ cls := "JuryDesk", name := "chance", desc := "(JJZ)J" } : Jvm.MethodName)) ∈ TB := TB_m14 (List.mem_of_getElem? (i := 25) rfl)
theorem tb_586 : (Jvm.Cond.code ({ cls := "JuryDesk", name := "chance", desc := "(JJZ)J" } : Jvm.MethodName) prog_1_method_14_code (6 : Nat) (Option.some Jvm.ClassFile.FieldType.long)) ∈ TB := TB_m14 (List.mem_of_getElem? (i := 26) rfl)
theorem tb_587 : (Jvm.Cond.methodLink "JuryDeskLaw" (99 : Nat) ({ cls := "JuryDeskLaw", name := "give", desc := "(LJuryDesk;II[J)I" } : Jvm.MethodName)) ∈ TB := TB_m14 (List.mem_of_getElem? (i := 27) rfl)
theorem tb_588 : (Jvm.Cond.static ({ cls := "JuryDeskLaw", name := "give", desc := "(LJuryDesk;II[J)I" } : Jvm.MethodName)) ∈ TB := TB_m14 (List.mem_of_getElem? (i := 28) rfl)
theorem tb_589 : (Jvm.Cond.methodLink "JuryDeskLaw" (19 : Nat) ({ cls := "JuryDesk", name := "give", desc := "(II)I" } : Jvm.MethodName)) ∈ TB := TB_m14 (List.mem_of_getElem? (i := 29) rfl)
theorem tb_590 : (Jvm.Cond.instanceMethod ({ cls := "JuryDesk", name := "give", desc := "(II)I" } : Jvm.MethodName)) ∈ TB := TB_m14 (List.mem_of_getElem? (i := 30) rfl)
theorem tb_591 : (Jvm.Cond.selects "JuryDesk" ({ cls := "JuryDesk", name := "give", desc := "(II)I" } : Jvm.MethodName) ({ cls := "JuryDesk", name := "give", desc := "(II)I" } : Jvm.MethodName)) ∈ TB := TB_m14 (List.mem_of_getElem? (i := 31) rfl)
theorem tb_592 : (Jvm.Cond.code ({ cls := "JuryDesk", name := "give", desc := "(II)I" } : Jvm.MethodName) prog_1_method_16_code (4 : Nat) (Option.some Jvm.ClassFile.FieldType.int)) ∈ TB := TB_m14 (List.mem_of_getElem? (i := 32) rfl)
theorem tb_593 : (Jvm.Cond.classLink "JuryDeskLaw" (24 : Nat) "JuryDeskModel") ∈ TB := TB_m14 (List.mem_of_getElem? (i := 33) rfl)
theorem tb_594 : (Jvm.Cond.instantiable "JuryDeskModel" (24 : Nat)) ∈ TB := TB_m14 (List.mem_of_getElem? (i := 34) rfl)
theorem tb_595 : (Jvm.Cond.methodLink "JuryDeskLaw" (26 : Nat) ({ cls := "JuryDeskModel", name := "<init>", desc := "()V" } : Jvm.MethodName)) ∈ TB := TB_m14 (List.mem_of_getElem? (i := 35) rfl)
theorem tb_596 : (Jvm.Cond.instanceMethod ({ cls := "JuryDeskModel", name := "<init>", desc := "()V" } : Jvm.MethodName)) ∈ TB := TB_m14 (List.mem_of_getElem? (i := 36) rfl)
theorem tb_597 : (Jvm.Cond.code ({ cls := "JuryDeskModel", name := "<init>", desc := "()V" } : Jvm.MethodName) prog_8_method_1_code (2 : Nat) (Option.none : Option Jvm.ClassFile.FieldType)) ∈ TB := TB_m14 (List.mem_of_getElem? (i := 37) rfl)
theorem tb_598 : (Jvm.Cond.methodLink "JuryDeskModel" (1 : Nat) ({ cls := "java/lang/Object", name := "<init>", desc := "()V" } : Jvm.MethodName)) ∈ TB := TB_m14 (List.mem_of_getElem? (i := 38) rfl)
theorem tb_599 : (Jvm.Cond.constant "JuryDeskModel" (49 : Nat) (65536 : Int32)) ∈ TB := TB_m14 (List.mem_of_getElem? (i := 39) rfl)
theorem tb_600 : (Jvm.Cond.fieldLink "JuryDeskModel" (7 : Nat) "JuryDeskModel" "thrownCode" "I") ∈ TB := TB_m15 (List.mem_of_getElem? (i := 0) rfl)
theorem tb_601 : (Jvm.Cond.fieldLink "JuryDeskModel" (13 : Nat) "JuryDeskModel" "size" "[I") ∈ TB := TB_m15 (List.mem_of_getElem? (i := 1) rfl)
theorem tb_602 : (Jvm.Cond.fieldLink "JuryDeskModel" (17 : Nat) "JuryDeskModel" "gone" "[I") ∈ TB := TB_m15 (List.mem_of_getElem? (i := 2) rfl)
theorem tb_603 : (Jvm.Cond.fieldLink "JuryDeskModel" (20 : Nat) "JuryDeskModel" "verdicts" "[I") ∈ TB := TB_m15 (List.mem_of_getElem? (i := 3) rfl)
theorem tb_604 : (Jvm.Cond.fieldLink "JuryDeskModel" (23 : Nat) "JuryDeskModel" "upper" "[I") ∈ TB := TB_m15 (List.mem_of_getElem? (i := 4) rfl)
theorem tb_605 : (Jvm.Cond.fieldLink "JuryDeskModel" (26 : Nat) "JuryDeskModel" "lower" "[I") ∈ TB := TB_m15 (List.mem_of_getElem? (i := 5) rfl)
theorem tb_606 : (Jvm.Cond.fieldLink "JuryDeskModel" (29 : Nat) "JuryDeskModel" "back" "[Z") ∈ TB := TB_m15 (List.mem_of_getElem? (i := 6) rfl)
theorem tb_607 : (Jvm.Cond.fieldLink "JuryDeskModel" (33 : Nat) "JuryDeskModel" "ready" "I") ∈ TB := TB_m15 (List.mem_of_getElem? (i := 7) rfl)
theorem tb_608 : (Jvm.Cond.fieldLink "JuryDeskModel" (36 : Nat) "JuryDeskModel" "all" "I") ∈ TB := TB_m15 (List.mem_of_getElem? (i := 8) rfl)
theorem tb_609 : (Jvm.Cond.fieldLink "JuryDeskModel" (39 : Nat) "JuryDeskModel" "below" "[I") ∈ TB := TB_m15 (List.mem_of_getElem? (i := 9) rfl)
theorem tb_610 : (Jvm.Cond.fieldLink "JuryDeskModel" (42 : Nat) "JuryDeskModel" "above" "[I") ∈ TB := TB_m15 (List.mem_of_getElem? (i := 10) rfl)
theorem tb_611 : (Jvm.Cond.fieldLink "JuryDeskModel" (45 : Nat) "JuryDeskModel" "counted" "Z") ∈ TB := TB_m15 (List.mem_of_getElem? (i := 11) rfl)
theorem tb_612 : (Jvm.Cond.fieldLink "JuryDeskModel" (50 : Nat) "JuryDeskModel" "to" "[J") ∈ TB := TB_m15 (List.mem_of_getElem? (i := 12) rfl)
theorem tb_613 : (Jvm.Cond.fieldLink "JuryDeskModel" (54 : Nat) "JuryDeskModel" "from" "[J") ∈ TB := TB_m15 (List.mem_of_getElem? (i := 13) rfl)
theorem tb_614 : (Jvm.Cond.fieldLink "JuryDeskModel" (57 : Nat) "JuryDeskModel" "whys" "I") ∈ TB := TB_m15 (List.mem_of_getElem? (i := 14) rfl)
theorem tb_615 : (Jvm.Cond.fieldLink "JuryDeskModel" (60 : Nat) "JuryDeskModel" "whyNow" "[I") ∈ TB := TB_m15 (List.mem_of_getElem? (i := 15) rfl)
theorem tb_616 : (Jvm.Cond.fieldLink "JuryDeskModel" (63 : Nat) "JuryDeskModel" "far" "[I") ∈ TB := TB_m15 (List.mem_of_getElem? (i := 16) rfl)
theorem tb_617 : (Jvm.Cond.fieldLink "JuryDeskModel" (66 : Nat) "JuryDeskModel" "row" "[I") ∈ TB := TB_m15 (List.mem_of_getElem? (i := 17) rfl)
theorem tb_618 : (Jvm.Cond.fieldLink "JuryDeskModel" (69 : Nat) "JuryDeskModel" "next" "[I") ∈ TB := TB_m15 (List.mem_of_getElem? (i := 18) rfl)
theorem tb_619 : (Jvm.Cond.fieldLink "JuryDeskModel" (72 : Nat) "JuryDeskModel" "ahead" "[I") ∈ TB := TB_m15 (List.mem_of_getElem? (i := 19) rfl)
theorem tb_620 : (Jvm.Cond.fieldLink "JuryDeskModel" (75 : Nat) "JuryDeskModel" "queue" "[I") ∈ TB := TB_m15 (List.mem_of_getElem? (i := 20) rfl)
theorem tb_621 : (Jvm.Cond.fieldLink "JuryDeskModel" (78 : Nat) "JuryDeskModel" "came" "[I") ∈ TB := TB_m15 (List.mem_of_getElem? (i := 21) rfl)
theorem tb_622 : (Jvm.Cond.fieldLink "JuryDeskModel" (81 : Nat) "JuryDeskModel" "pair" "[J") ∈ TB := TB_m15 (List.mem_of_getElem? (i := 22) rfl)
theorem tb_623 : (Jvm.Cond.fieldLink "JuryDeskModel" (84 : Nat) "JuryDeskModel" "best" "I") ∈ TB := TB_m15 (List.mem_of_getElem? (i := 23) rfl)
theorem tb_624 : (Jvm.Cond.lays "JuryDeskModel" "JuryDeskModel" "thrownCode" "I") ∈ TB := TB_m15 (List.mem_of_getElem? (i := 24) rfl)
theorem tb_625 : (Jvm.Cond.soleField "JuryDeskModel" "thrownCode") ∈ TB := TB_m15 (List.mem_of_getElem? (i := 25) rfl)
theorem tb_626 : (Jvm.Cond.laysFinal "JuryDeskModel" "JuryDeskModel" "size" "[I") ∈ TB := TB_m15 (List.mem_of_getElem? (i := 26) rfl)
theorem tb_627 : (Jvm.Cond.soleField "JuryDeskModel" "size") ∈ TB := TB_m15 (List.mem_of_getElem? (i := 27) rfl)
theorem tb_628 : (Jvm.Cond.laysFinal "JuryDeskModel" "JuryDeskModel" "gone" "[I") ∈ TB := TB_m15 (List.mem_of_getElem? (i := 28) rfl)
theorem tb_629 : (Jvm.Cond.soleField "JuryDeskModel" "gone") ∈ TB := TB_m15 (List.mem_of_getElem? (i := 29) rfl)
theorem tb_630 : (Jvm.Cond.laysFinal "JuryDeskModel" "JuryDeskModel" "verdicts" "[I") ∈ TB := TB_m15 (List.mem_of_getElem? (i := 30) rfl)
theorem tb_631 : (Jvm.Cond.soleField "JuryDeskModel" "verdicts") ∈ TB := TB_m15 (List.mem_of_getElem? (i := 31) rfl)
theorem tb_632 : (Jvm.Cond.laysFinal "JuryDeskModel" "JuryDeskModel" "upper" "[I") ∈ TB := TB_m15 (List.mem_of_getElem? (i := 32) rfl)
theorem tb_633 : (Jvm.Cond.soleField "JuryDeskModel" "upper") ∈ TB := TB_m15 (List.mem_of_getElem? (i := 33) rfl)
theorem tb_634 : (Jvm.Cond.laysFinal "JuryDeskModel" "JuryDeskModel" "lower" "[I") ∈ TB := TB_m15 (List.mem_of_getElem? (i := 34) rfl)
theorem tb_635 : (Jvm.Cond.soleField "JuryDeskModel" "lower") ∈ TB := TB_m15 (List.mem_of_getElem? (i := 35) rfl)
theorem tb_636 : (Jvm.Cond.laysFinal "JuryDeskModel" "JuryDeskModel" "back" "[Z") ∈ TB := TB_m15 (List.mem_of_getElem? (i := 36) rfl)
theorem tb_637 : (Jvm.Cond.soleField "JuryDeskModel" "back") ∈ TB := TB_m15 (List.mem_of_getElem? (i := 37) rfl)
theorem tb_638 : (Jvm.Cond.lays "JuryDeskModel" "JuryDeskModel" "ready" "I") ∈ TB := TB_m15 (List.mem_of_getElem? (i := 38) rfl)
theorem tb_639 : (Jvm.Cond.soleField "JuryDeskModel" "ready") ∈ TB := TB_m15 (List.mem_of_getElem? (i := 39) rfl)
theorem tb_640 : (Jvm.Cond.lays "JuryDeskModel" "JuryDeskModel" "all" "I") ∈ TB := TB_m16 (List.mem_of_getElem? (i := 0) rfl)
theorem tb_641 : (Jvm.Cond.soleField "JuryDeskModel" "all") ∈ TB := TB_m16 (List.mem_of_getElem? (i := 1) rfl)
theorem tb_642 : (Jvm.Cond.laysFinal "JuryDeskModel" "JuryDeskModel" "below" "[I") ∈ TB := TB_m16 (List.mem_of_getElem? (i := 2) rfl)
theorem tb_643 : (Jvm.Cond.soleField "JuryDeskModel" "below") ∈ TB := TB_m16 (List.mem_of_getElem? (i := 3) rfl)
theorem tb_644 : (Jvm.Cond.laysFinal "JuryDeskModel" "JuryDeskModel" "above" "[I") ∈ TB := TB_m16 (List.mem_of_getElem? (i := 4) rfl)
theorem tb_645 : (Jvm.Cond.soleField "JuryDeskModel" "above") ∈ TB := TB_m16 (List.mem_of_getElem? (i := 5) rfl)
theorem tb_646 : (Jvm.Cond.lays "JuryDeskModel" "JuryDeskModel" "counted" "Z") ∈ TB := TB_m16 (List.mem_of_getElem? (i := 6) rfl)
theorem tb_647 : (Jvm.Cond.soleField "JuryDeskModel" "counted") ∈ TB := TB_m16 (List.mem_of_getElem? (i := 7) rfl)
theorem tb_648 : (Jvm.Cond.laysFinal "JuryDeskModel" "JuryDeskModel" "to" "[J") ∈ TB := TB_m16 (List.mem_of_getElem? (i := 8) rfl)
theorem tb_649 : (Jvm.Cond.soleField "JuryDeskModel" "to") ∈ TB := TB_m16 (List.mem_of_getElem? (i := 9) rfl)
theorem tb_650 : (Jvm.Cond.laysFinal "JuryDeskModel" "JuryDeskModel" "from" "[J") ∈ TB := TB_m16 (List.mem_of_getElem? (i := 10) rfl)
theorem tb_651 : (Jvm.Cond.soleField "JuryDeskModel" "from") ∈ TB := TB_m16 (List.mem_of_getElem? (i := 11) rfl)
theorem tb_652 : (Jvm.Cond.lays "JuryDeskModel" "JuryDeskModel" "whys" "I") ∈ TB := TB_m16 (List.mem_of_getElem? (i := 12) rfl)
theorem tb_653 : (Jvm.Cond.soleField "JuryDeskModel" "whys") ∈ TB := TB_m16 (List.mem_of_getElem? (i := 13) rfl)
theorem tb_654 : (Jvm.Cond.laysFinal "JuryDeskModel" "JuryDeskModel" "whyNow" "[I") ∈ TB := TB_m16 (List.mem_of_getElem? (i := 14) rfl)
theorem tb_655 : (Jvm.Cond.soleField "JuryDeskModel" "whyNow") ∈ TB := TB_m16 (List.mem_of_getElem? (i := 15) rfl)
theorem tb_656 : (Jvm.Cond.laysFinal "JuryDeskModel" "JuryDeskModel" "far" "[I") ∈ TB := TB_m16 (List.mem_of_getElem? (i := 16) rfl)
theorem tb_657 : (Jvm.Cond.soleField "JuryDeskModel" "far") ∈ TB := TB_m16 (List.mem_of_getElem? (i := 17) rfl)
theorem tb_658 : (Jvm.Cond.laysFinal "JuryDeskModel" "JuryDeskModel" "row" "[I") ∈ TB := TB_m16 (List.mem_of_getElem? (i := 18) rfl)
theorem tb_659 : (Jvm.Cond.soleField "JuryDeskModel" "row") ∈ TB := TB_m16 (List.mem_of_getElem? (i := 19) rfl)
theorem tb_660 : (Jvm.Cond.laysFinal "JuryDeskModel" "JuryDeskModel" "next" "[I") ∈ TB := TB_m16 (List.mem_of_getElem? (i := 20) rfl)
theorem tb_661 : (Jvm.Cond.soleField "JuryDeskModel" "next") ∈ TB := TB_m16 (List.mem_of_getElem? (i := 21) rfl)
theorem tb_662 : (Jvm.Cond.laysFinal "JuryDeskModel" "JuryDeskModel" "ahead" "[I") ∈ TB := TB_m16 (List.mem_of_getElem? (i := 22) rfl)
theorem tb_663 : (Jvm.Cond.soleField "JuryDeskModel" "ahead") ∈ TB := TB_m16 (List.mem_of_getElem? (i := 23) rfl)
theorem tb_664 : (Jvm.Cond.laysFinal "JuryDeskModel" "JuryDeskModel" "queue" "[I") ∈ TB := TB_m16 (List.mem_of_getElem? (i := 24) rfl)
theorem tb_665 : (Jvm.Cond.soleField "JuryDeskModel" "queue") ∈ TB := TB_m16 (List.mem_of_getElem? (i := 25) rfl)
theorem tb_666 : (Jvm.Cond.laysFinal "JuryDeskModel" "JuryDeskModel" "came" "[I") ∈ TB := TB_m16 (List.mem_of_getElem? (i := 26) rfl)
theorem tb_667 : (Jvm.Cond.soleField "JuryDeskModel" "came") ∈ TB := TB_m16 (List.mem_of_getElem? (i := 27) rfl)
theorem tb_668 : (Jvm.Cond.laysFinal "JuryDeskModel" "JuryDeskModel" "pair" "[J") ∈ TB := TB_m16 (List.mem_of_getElem? (i := 28) rfl)
theorem tb_669 : (Jvm.Cond.soleField "JuryDeskModel" "pair") ∈ TB := TB_m16 (List.mem_of_getElem? (i := 29) rfl)
theorem tb_670 : (Jvm.Cond.lays "JuryDeskModel" "JuryDeskModel" "best" "I") ∈ TB := TB_m16 (List.mem_of_getElem? (i := 30) rfl)
theorem tb_671 : (Jvm.Cond.soleField "JuryDeskModel" "best") ∈ TB := TB_m16 (List.mem_of_getElem? (i := 31) rfl)
theorem tb_672 : (Jvm.Cond.methodLink "JuryDeskLaw" (33 : Nat) ({ cls := "JuryDeskModel", name := "thrown", desc := "()I" } : Jvm.MethodName)) ∈ TB := TB_m16 (List.mem_of_getElem? (i := 32) rfl)
theorem tb_673 : (Jvm.Cond.instanceMethod ({ cls := "JuryDeskModel", name := "thrown", desc := "()I" } : Jvm.MethodName)) ∈ TB := TB_m16 (List.mem_of_getElem? (i := 33) rfl)
theorem tb_674 : (Jvm.Cond.selects "JuryDeskModel" ({ cls := "JuryDeskModel", name := "thrown", desc := "()I" } : Jvm.MethodName) ({ cls := "JuryDeskModel", name := "thrown", desc := "()I" } : Jvm.MethodName)) ∈ TB := TB_m16 (List.mem_of_getElem? (i := 34) rfl)
theorem tb_675 : (Jvm.Cond.code ({ cls := "JuryDeskModel", name := "thrown", desc := "()I" } : Jvm.MethodName) prog_8_method_21_code (1 : Nat) (Option.some Jvm.ClassFile.FieldType.int)) ∈ TB := TB_m16 (List.mem_of_getElem? (i := 35) rfl)
theorem tb_676 : (Jvm.Cond.methodLink "JuryDeskLaw" (32 : Nat) ({ cls := "JuryDeskModel", name := "heat", desc := "(II)V" } : Jvm.MethodName)) ∈ TB := TB_m16 (List.mem_of_getElem? (i := 36) rfl)
theorem tb_677 : (Jvm.Cond.instanceMethod ({ cls := "JuryDeskModel", name := "heat", desc := "(II)V" } : Jvm.MethodName)) ∈ TB := TB_m16 (List.mem_of_getElem? (i := 37) rfl)
theorem tb_678 : (Jvm.Cond.selects "JuryDeskModel" ({ cls := "JuryDeskModel", name := "heat", desc := "(II)V" } : Jvm.MethodName) ({ cls := "JuryDeskModel", name := "heat", desc := "(II)V" } : Jvm.MethodName)) ∈ TB := TB_m16 (List.mem_of_getElem? (i := 38) rfl)
theorem tb_679 : (Jvm.Cond.code ({ cls := "JuryDeskModel", name := "heat", desc := "(II)V" } : Jvm.MethodName) prog_8_method_22_code (3 : Nat) (Option.none : Option Jvm.ClassFile.FieldType)) ∈ TB := TB_m16 (List.mem_of_getElem? (i := 39) rfl)
theorem tb_680 : (Jvm.Cond.methodLink "JuryDeskLaw" (41 : Nat) ({ cls := "JuryDeskModel", name := "better", desc := "(III)I" } : Jvm.MethodName)) ∈ TB := TB_m17 (List.mem_of_getElem? (i := 0) rfl)
theorem tb_681 : (Jvm.Cond.instanceMethod ({ cls := "JuryDeskModel", name := "better", desc := "(III)I" } : Jvm.MethodName)) ∈ TB := TB_m17 (List.mem_of_getElem? (i := 1) rfl)
theorem tb_682 : (Jvm.Cond.selects "JuryDeskModel" ({ cls := "JuryDeskModel", name := "better", desc := "(III)I" } : Jvm.MethodName) ({ cls := "JuryDeskModel", name := "better", desc := "(III)I" } : Jvm.MethodName)) ∈ TB := TB_m17 (List.mem_of_getElem? (i := 2) rfl)
theorem tb_683 : (Jvm.Cond.code ({ cls := "JuryDeskModel", name := "better", desc := "(III)I" } : Jvm.MethodName) prog_8_method_23_code (5 : Nat) (Option.some Jvm.ClassFile.FieldType.int)) ∈ TB := TB_m17 (List.mem_of_getElem? (i := 3) rfl)
theorem tb_684 : (Jvm.Cond.methodLink "JuryDeskModel" (87 : Nat) ({ cls := "JuryDeskModel", name := "there", desc := "(II)Z" } : Jvm.MethodName)) ∈ TB := TB_m17 (List.mem_of_getElem? (i := 4) rfl)
theorem tb_685 : (Jvm.Cond.instanceMethod ({ cls := "JuryDeskModel", name := "there", desc := "(II)Z" } : Jvm.MethodName)) ∈ TB := TB_m17 (List.mem_of_getElem? (i := 5) rfl)
theorem tb_686 : (Jvm.Cond.code ({ cls := "JuryDeskModel", name := "there", desc := "(II)Z" } : Jvm.MethodName) prog_8_method_2_code (3 : Nat) (Option.some Jvm.ClassFile.FieldType.boolean)) ∈ TB := TB_m17 (List.mem_of_getElem? (i := 6) rfl)
theorem tb_687 : (Jvm.Cond.methodLink "JuryDeskModel" (94 : Nat) ({ cls := "JuryDeskModel", name := "settle", desc := "(I)V" } : Jvm.MethodName)) ∈ TB := TB_m17 (List.mem_of_getElem? (i := 7) rfl)
theorem tb_688 : (Jvm.Cond.instanceMethod ({ cls := "JuryDeskModel", name := "settle", desc := "(I)V" } : Jvm.MethodName)) ∈ TB := TB_m17 (List.mem_of_getElem? (i := 8) rfl)
theorem tb_689 : (Jvm.Cond.code ({ cls := "JuryDeskModel", name := "settle", desc := "(I)V" } : Jvm.MethodName) prog_8_method_5_code (4 : Nat) (Option.none : Option Jvm.ClassFile.FieldType)) ∈ TB := TB_m17 (List.mem_of_getElem? (i := 9) rfl)
theorem tb_690 : (Jvm.Cond.methodLink "JuryDeskModel" (91 : Nat) ({ cls := "JuryDeskModel", name := "inForce", desc := "(II)Z" } : Jvm.MethodName)) ∈ TB := TB_m17 (List.mem_of_getElem? (i := 10) rfl)
theorem tb_691 : (Jvm.Cond.instanceMethod ({ cls := "JuryDeskModel", name := "inForce", desc := "(II)Z" } : Jvm.MethodName)) ∈ TB := TB_m17 (List.mem_of_getElem? (i := 11) rfl)
theorem tb_692 : (Jvm.Cond.code ({ cls := "JuryDeskModel", name := "inForce", desc := "(II)Z" } : Jvm.MethodName) prog_8_method_4_code (4 : Nat) (Option.some Jvm.ClassFile.FieldType.boolean)) ∈ TB := TB_m17 (List.mem_of_getElem? (i := 12) rfl)
theorem tb_693 : (Jvm.Cond.methodLink "JuryDeskModel" (127 : Nat) ({ cls := "JuryDeskModel", name := "findWhy", desc := "(III)V" } : Jvm.MethodName)) ∈ TB := TB_m17 (List.mem_of_getElem? (i := 13) rfl)
theorem tb_694 : (Jvm.Cond.instanceMethod ({ cls := "JuryDeskModel", name := "findWhy", desc := "(III)V" } : Jvm.MethodName)) ∈ TB := TB_m17 (List.mem_of_getElem? (i := 14) rfl)
theorem tb_695 : (Jvm.Cond.code ({ cls := "JuryDeskModel", name := "findWhy", desc := "(III)V" } : Jvm.MethodName) prog_8_method_9_code (7 : Nat) (Option.none : Option Jvm.ClassFile.FieldType)) ∈ TB := TB_m17 (List.mem_of_getElem? (i := 15) rfl)
theorem tb_696 : (Jvm.Cond.methodLink "JuryDeskLaw" (45 : Nat) ({ cls := "JuryDeskModel", name := "whyLast", desc := "()I" } : Jvm.MethodName)) ∈ TB := TB_m17 (List.mem_of_getElem? (i := 16) rfl)
theorem tb_697 : (Jvm.Cond.instanceMethod ({ cls := "JuryDeskModel", name := "whyLast", desc := "()I" } : Jvm.MethodName)) ∈ TB := TB_m17 (List.mem_of_getElem? (i := 17) rfl)
theorem tb_698 : (Jvm.Cond.selects "JuryDeskModel" ({ cls := "JuryDeskModel", name := "whyLast", desc := "()I" } : Jvm.MethodName) ({ cls := "JuryDeskModel", name := "whyLast", desc := "()I" } : Jvm.MethodName)) ∈ TB := TB_m17 (List.mem_of_getElem? (i := 18) rfl)
theorem tb_699 : (Jvm.Cond.code ({ cls := "JuryDeskModel", name := "whyLast", desc := "()I" } : Jvm.MethodName) prog_8_method_24_code (1 : Nat) (Option.some Jvm.ClassFile.FieldType.int)) ∈ TB := TB_m17 (List.mem_of_getElem? (i := 19) rfl)
theorem tb_700 : (Jvm.Cond.methodLink "JuryDeskLaw" (50 : Nat) ({ cls := "JuryDeskModel", name := "why", desc := "(I)I" } : Jvm.MethodName)) ∈ TB := TB_m17 (List.mem_of_getElem? (i := 20) rfl)
theorem tb_701 : (Jvm.Cond.instanceMethod ({ cls := "JuryDeskModel", name := "why", desc := "(I)I" } : Jvm.MethodName)) ∈ TB := TB_m17 (List.mem_of_getElem? (i := 21) rfl)
theorem tb_702 : (Jvm.Cond.selects "JuryDeskModel" ({ cls := "JuryDeskModel", name := "why", desc := "(I)I" } : Jvm.MethodName) ({ cls := "JuryDeskModel", name := "why", desc := "(I)I" } : Jvm.MethodName)) ∈ TB := TB_m17 (List.mem_of_getElem? (i := 22) rfl)
theorem tb_703 : (Jvm.Cond.code ({ cls := "JuryDeskModel", name := "why", desc := "(I)I" } : Jvm.MethodName) prog_8_method_25_code (2 : Nat) (Option.some Jvm.ClassFile.FieldType.int)) ∈ TB := TB_m17 (List.mem_of_getElem? (i := 23) rfl)
theorem tb_704 : (Jvm.Cond.methodLink "JuryDeskLaw" (55 : Nat) ({ cls := "JuryDeskModel", name := "withdraw", desc := "(II)Z" } : Jvm.MethodName)) ∈ TB := TB_m17 (List.mem_of_getElem? (i := 24) rfl)
theorem tb_705 : (Jvm.Cond.instanceMethod ({ cls := "JuryDeskModel", name := "withdraw", desc := "(II)Z" } : Jvm.MethodName)) ∈ TB := TB_m17 (List.mem_of_getElem? (i := 25) rfl)
theorem tb_706 : (Jvm.Cond.selects "JuryDeskModel" ({ cls := "JuryDeskModel", name := "withdraw", desc := "(II)Z" } : Jvm.MethodName) ({ cls := "JuryDeskModel", name := "withdraw", desc := "(II)Z" } : Jvm.MethodName)) ∈ TB := TB_m17 (List.mem_of_getElem? (i := 26) rfl)
theorem tb_707 : (Jvm.Cond.code ({ cls := "JuryDeskModel", name := "withdraw", desc := "(II)Z" } : Jvm.MethodName) prog_8_method_26_code (3 : Nat) (Option.some Jvm.ClassFile.FieldType.boolean)) ∈ TB := TB_m17 (List.mem_of_getElem? (i := 27) rfl)
theorem tb_708 : (Jvm.Cond.methodLink "JuryDeskModel" (131 : Nat) ({ cls := "JuryDeskModel", name := "isHeat", desc := "(I)Z" } : Jvm.MethodName)) ∈ TB := TB_m17 (List.mem_of_getElem? (i := 28) rfl)
theorem tb_709 : (Jvm.Cond.instanceMethod ({ cls := "JuryDeskModel", name := "isHeat", desc := "(I)Z" } : Jvm.MethodName)) ∈ TB := TB_m17 (List.mem_of_getElem? (i := 29) rfl)
theorem tb_710 : (Jvm.Cond.code ({ cls := "JuryDeskModel", name := "isHeat", desc := "(I)Z" } : Jvm.MethodName) prog_8_method_3_code (2 : Nat) (Option.some Jvm.ClassFile.FieldType.boolean)) ∈ TB := TB_m17 (List.mem_of_getElem? (i := 30) rfl)
theorem tb_711 : (Jvm.Cond.methodLink "JuryDeskLaw" (59 : Nat) ({ cls := "JuryDeskModel", name := "scratch", desc := "(II)Z" } : Jvm.MethodName)) ∈ TB := TB_m17 (List.mem_of_getElem? (i := 31) rfl)
theorem tb_712 : (Jvm.Cond.instanceMethod ({ cls := "JuryDeskModel", name := "scratch", desc := "(II)Z" } : Jvm.MethodName)) ∈ TB := TB_m17 (List.mem_of_getElem? (i := 32) rfl)
theorem tb_713 : (Jvm.Cond.selects "JuryDeskModel" ({ cls := "JuryDeskModel", name := "scratch", desc := "(II)Z" } : Jvm.MethodName) ({ cls := "JuryDeskModel", name := "scratch", desc := "(II)Z" } : Jvm.MethodName)) ∈ TB := TB_m17 (List.mem_of_getElem? (i := 33) rfl)
theorem tb_714 : (Jvm.Cond.code ({ cls := "JuryDeskModel", name := "scratch", desc := "(II)Z" } : Jvm.MethodName) prog_8_method_27_code (3 : Nat) (Option.some Jvm.ClassFile.FieldType.boolean)) ∈ TB := TB_m17 (List.mem_of_getElem? (i := 34) rfl)
theorem tb_715 : (Jvm.Cond.methodLink "JuryDeskModel" (112 : Nat) ({ cls := "JuryDeskModel", name := "bits", desc := "(I)I" } : Jvm.MethodName)) ∈ TB := TB_m17 (List.mem_of_getElem? (i := 35) rfl)
theorem tb_716 : (Jvm.Cond.static ({ cls := "JuryDeskModel", name := "bits", desc := "(I)I" } : Jvm.MethodName)) ∈ TB := TB_m17 (List.mem_of_getElem? (i := 36) rfl)
theorem tb_717 : (Jvm.Cond.code ({ cls := "JuryDeskModel", name := "bits", desc := "(I)I" } : Jvm.MethodName) prog_8_method_8_code (3 : Nat) (Option.some Jvm.ClassFile.FieldType.int)) ∈ TB := TB_m17 (List.mem_of_getElem? (i := 37) rfl)
theorem tb_718 : (Jvm.Cond.methodLink "JuryDeskLaw" (64 : Nat) ({ cls := "JuryDeskModel", name := "settled", desc := "(III)Z" } : Jvm.MethodName)) ∈ TB := TB_m17 (List.mem_of_getElem? (i := 38) rfl)
theorem tb_719 : (Jvm.Cond.instanceMethod ({ cls := "JuryDeskModel", name := "settled", desc := "(III)Z" } : Jvm.MethodName)) ∈ TB := TB_m17 (List.mem_of_getElem? (i := 39) rfl)
theorem tb_720 : (Jvm.Cond.selects "JuryDeskModel" ({ cls := "JuryDeskModel", name := "settled", desc := "(III)Z" } : Jvm.MethodName) ({ cls := "JuryDeskModel", name := "settled", desc := "(III)Z" } : Jvm.MethodName)) ∈ TB := TB_m18 (List.mem_of_getElem? (i := 0) rfl)
theorem tb_721 : (Jvm.Cond.code ({ cls := "JuryDeskModel", name := "settled", desc := "(III)Z" } : Jvm.MethodName) prog_8_method_28_code (4 : Nat) (Option.some Jvm.ClassFile.FieldType.boolean)) ∈ TB := TB_m18 (List.mem_of_getElem? (i := 1) rfl)
theorem tb_722 : (Jvm.Cond.methodLink "JuryDeskLaw" (68 : Nat) ({ cls := "JuryDeskModel", name := "direct", desc := "(III)Z" } : Jvm.MethodName)) ∈ TB := TB_m18 (List.mem_of_getElem? (i := 2) rfl)
theorem tb_723 : (Jvm.Cond.instanceMethod ({ cls := "JuryDeskModel", name := "direct", desc := "(III)Z" } : Jvm.MethodName)) ∈ TB := TB_m18 (List.mem_of_getElem? (i := 3) rfl)
theorem tb_724 : (Jvm.Cond.selects "JuryDeskModel" ({ cls := "JuryDeskModel", name := "direct", desc := "(III)Z" } : Jvm.MethodName) ({ cls := "JuryDeskModel", name := "direct", desc := "(III)Z" } : Jvm.MethodName)) ∈ TB := TB_m18 (List.mem_of_getElem? (i := 4) rfl)
theorem tb_725 : (Jvm.Cond.code ({ cls := "JuryDeskModel", name := "direct", desc := "(III)Z" } : Jvm.MethodName) prog_8_method_29_code (4 : Nat) (Option.some Jvm.ClassFile.FieldType.boolean)) ∈ TB := TB_m18 (List.mem_of_getElem? (i := 5) rfl)
theorem tb_726 : (Jvm.Cond.methodLink "JuryDeskModel" (134 : Nat) ({ cls := "JuryDeskModel", name := "settled", desc := "(III)Z" } : Jvm.MethodName)) ∈ TB := TB_m18 (List.mem_of_getElem? (i := 6) rfl)
theorem tb_727 : (Jvm.Cond.methodLink "JuryDeskLaw" (73 : Nat) ({ cls := "JuryDeskModel", name := "orders", desc := "(I)J" } : Jvm.MethodName)) ∈ TB := TB_m18 (List.mem_of_getElem? (i := 7) rfl)
theorem tb_728 : (Jvm.Cond.instanceMethod ({ cls := "JuryDeskModel", name := "orders", desc := "(I)J" } : Jvm.MethodName)) ∈ TB := TB_m18 (List.mem_of_getElem? (i := 8) rfl)
theorem tb_729 : (Jvm.Cond.selects "JuryDeskModel" ({ cls := "JuryDeskModel", name := "orders", desc := "(I)J" } : Jvm.MethodName) ({ cls := "JuryDeskModel", name := "orders", desc := "(I)J" } : Jvm.MethodName)) ∈ TB := TB_m18 (List.mem_of_getElem? (i := 9) rfl)
theorem tb_730 : (Jvm.Cond.code ({ cls := "JuryDeskModel", name := "orders", desc := "(I)J" } : Jvm.MethodName) prog_8_method_30_code (2 : Nat) (Option.some Jvm.ClassFile.FieldType.long)) ∈ TB := TB_m18 (List.mem_of_getElem? (i := 10) rfl)
theorem tb_731 : (Jvm.Cond.methodLink "JuryDeskModel" (124 : Nat) ({ cls := "JuryDeskModel", name := "countAll", desc := "(I)V" } : Jvm.MethodName)) ∈ TB := TB_m18 (List.mem_of_getElem? (i := 11) rfl)
theorem tb_732 : (Jvm.Cond.instanceMethod ({ cls := "JuryDeskModel", name := "countAll", desc := "(I)V" } : Jvm.MethodName)) ∈ TB := TB_m18 (List.mem_of_getElem? (i := 12) rfl)
theorem tb_733 : (Jvm.Cond.code ({ cls := "JuryDeskModel", name := "countAll", desc := "(I)V" } : Jvm.MethodName) prog_8_method_7_code (4 : Nat) (Option.none : Option Jvm.ClassFile.FieldType)) ∈ TB := TB_m18 (List.mem_of_getElem? (i := 13) rfl)
theorem tb_734 : (Jvm.Cond.methodLink "JuryDeskModel" (98 : Nat) ({ cls := "JuryDeskModel", name := "mayCome", desc := "(II)Z" } : Jvm.MethodName)) ∈ TB := TB_m18 (List.mem_of_getElem? (i := 14) rfl)
theorem tb_735 : (Jvm.Cond.instanceMethod ({ cls := "JuryDeskModel", name := "mayCome", desc := "(II)Z" } : Jvm.MethodName)) ∈ TB := TB_m18 (List.mem_of_getElem? (i := 15) rfl)
theorem tb_736 : (Jvm.Cond.code ({ cls := "JuryDeskModel", name := "mayCome", desc := "(II)Z" } : Jvm.MethodName) prog_8_method_6_code (3 : Nat) (Option.some Jvm.ClassFile.FieldType.boolean)) ∈ TB := TB_m18 (List.mem_of_getElem? (i := 16) rfl)
theorem tb_737 : (Jvm.Cond.methodLink "JuryDeskLaw" (78 : Nat) ({ cls := "JuryDeskModel", name := "atRank", desc := "(III)J" } : Jvm.MethodName)) ∈ TB := TB_m18 (List.mem_of_getElem? (i := 17) rfl)
theorem tb_738 : (Jvm.Cond.instanceMethod ({ cls := "JuryDeskModel", name := "atRank", desc := "(III)J" } : Jvm.MethodName)) ∈ TB := TB_m18 (List.mem_of_getElem? (i := 18) rfl)
theorem tb_739 : (Jvm.Cond.selects "JuryDeskModel" ({ cls := "JuryDeskModel", name := "atRank", desc := "(III)J" } : Jvm.MethodName) ({ cls := "JuryDeskModel", name := "atRank", desc := "(III)J" } : Jvm.MethodName)) ∈ TB := TB_m18 (List.mem_of_getElem? (i := 19) rfl)
theorem tb_740 : (Jvm.Cond.code ({ cls := "JuryDeskModel", name := "atRank", desc := "(III)J" } : Jvm.MethodName) prog_8_method_31_code (4 : Nat) (Option.some Jvm.ClassFile.FieldType.long)) ∈ TB := TB_m18 (List.mem_of_getElem? (i := 20) rfl)
theorem tb_741 : (Jvm.Cond.methodLink "JuryDeskModel" (138 : Nat) ({ cls := "JuryDeskModel", name := "rank", desc := "(III)J" } : Jvm.MethodName)) ∈ TB := TB_m18 (List.mem_of_getElem? (i := 21) rfl)
theorem tb_742 : (Jvm.Cond.instanceMethod ({ cls := "JuryDeskModel", name := "rank", desc := "(III)J" } : Jvm.MethodName)) ∈ TB := TB_m18 (List.mem_of_getElem? (i := 22) rfl)
theorem tb_743 : (Jvm.Cond.code ({ cls := "JuryDeskModel", name := "rank", desc := "(III)J" } : Jvm.MethodName) prog_8_method_20_code (7 : Nat) (Option.some Jvm.ClassFile.FieldType.long)) ∈ TB := TB_m18 (List.mem_of_getElem? (i := 23) rfl)
theorem tb_744 : (Jvm.Cond.methodLink "JuryDeskLaw" (82 : Nat) ({ cls := "JuryDeskModel", name := "before", desc := "(III)J" } : Jvm.MethodName)) ∈ TB := TB_m18 (List.mem_of_getElem? (i := 24) rfl)
theorem tb_745 : (Jvm.Cond.instanceMethod ({ cls := "JuryDeskModel", name := "before", desc := "(III)J" } : Jvm.MethodName)) ∈ TB := TB_m18 (List.mem_of_getElem? (i := 25) rfl)
theorem tb_746 : (Jvm.Cond.selects "JuryDeskModel" ({ cls := "JuryDeskModel", name := "before", desc := "(III)J" } : Jvm.MethodName) ({ cls := "JuryDeskModel", name := "before", desc := "(III)J" } : Jvm.MethodName)) ∈ TB := TB_m18 (List.mem_of_getElem? (i := 26) rfl)
theorem tb_747 : (Jvm.Cond.code ({ cls := "JuryDeskModel", name := "before", desc := "(III)J" } : Jvm.MethodName) prog_8_method_32_code (7 : Nat) (Option.some Jvm.ClassFile.FieldType.long)) ∈ TB := TB_m18 (List.mem_of_getElem? (i := 27) rfl)
theorem tb_748 : (Jvm.Cond.methodLink "JuryDeskLaw" (87 : Nat) ({ cls := "JuryDeskModel", name := "meanRank", desc := "(IIZ)J" } : Jvm.MethodName)) ∈ TB := TB_m18 (List.mem_of_getElem? (i := 28) rfl)
theorem tb_749 : (Jvm.Cond.instanceMethod ({ cls := "JuryDeskModel", name := "meanRank", desc := "(IIZ)J" } : Jvm.MethodName)) ∈ TB := TB_m18 (List.mem_of_getElem? (i := 29) rfl)
theorem tb_750 : (Jvm.Cond.selects "JuryDeskModel" ({ cls := "JuryDeskModel", name := "meanRank", desc := "(IIZ)J" } : Jvm.MethodName) ({ cls := "JuryDeskModel", name := "meanRank", desc := "(IIZ)J" } : Jvm.MethodName)) ∈ TB := TB_m18 (List.mem_of_getElem? (i := 30) rfl)
theorem tb_751 : (Jvm.Cond.code ({ cls := "JuryDeskModel", name := "meanRank", desc := "(IIZ)J" } : Jvm.MethodName) prog_8_method_33_code (8 : Nat) (Option.some Jvm.ClassFile.FieldType.long)) ∈ TB := TB_m18 (List.mem_of_getElem? (i := 31) rfl)
theorem tb_752 : (Jvm.Cond.methodLink "JuryDeskModel" (142 : Nat) ({ cls := "JuryDeskModel", name := "common", desc := "(JJ)J" } : Jvm.MethodName)) ∈ TB := TB_m18 (List.mem_of_getElem? (i := 32) rfl)
theorem tb_753 : (Jvm.Cond.static ({ cls := "JuryDeskModel", name := "common", desc := "(JJ)J" } : Jvm.MethodName)) ∈ TB := TB_m18 (List.mem_of_getElem? (i := 33) rfl)
theorem tb_754 : (Jvm.Cond.code ({ cls := "JuryDeskModel", name := "common", desc := "(JJ)J" } : Jvm.MethodName) prog_8_method_18_code (10 : Nat) (Option.some Jvm.ClassFile.FieldType.long)) ∈ TB := TB_m18 (List.mem_of_getElem? (i := 34) rfl)
theorem tb_755 : (Jvm.Cond.methodLink "JuryDeskLaw" (93 : Nat) ({ cls := "JuryDeskModel", name := "chance", desc := "(JJZ)J" } : Jvm.MethodName)) ∈ TB := TB_m18 (List.mem_of_getElem? (i := 35) rfl)
theorem tb_756 : (Jvm.Cond.instanceMethod ({ cls := "JuryDeskModel", name := "chance", desc := "(JJZ)J" } : Jvm.MethodName)) ∈ TB := TB_m18 (List.mem_of_getElem? (i := 36) rfl)
theorem tb_757 : (Jvm.Cond.selects "JuryDeskModel" ({ cls := "JuryDeskModel", name := "chance", desc := "(JJZ)J" } : Jvm.MethodName) ({ cls := "JuryDeskModel", name := "chance", desc := "(JJZ)J" } : Jvm.MethodName)) ∈ TB := TB_m18 (List.mem_of_getElem? (i := 37) rfl)
theorem tb_758 : (Jvm.Cond.code ({ cls := "JuryDeskModel", name := "chance", desc := "(JJZ)J" } : Jvm.MethodName) prog_8_method_34_code (8 : Nat) (Option.some Jvm.ClassFile.FieldType.long)) ∈ TB := TB_m18 (List.mem_of_getElem? (i := 38) rfl)
theorem tb_759 : (Jvm.Cond.methodLink "JuryDeskLaw" (98 : Nat) ({ cls := "JuryDeskModel", name := "order", desc := "(IJI)I" } : Jvm.MethodName)) ∈ TB := TB_m18 (List.mem_of_getElem? (i := 39) rfl)
theorem tb_760 : (Jvm.Cond.instanceMethod ({ cls := "JuryDeskModel", name := "order", desc := "(IJI)I" } : Jvm.MethodName)) ∈ TB := TB_m19 (List.mem_of_getElem? (i := 0) rfl)
theorem tb_761 : (Jvm.Cond.selects "JuryDeskModel" ({ cls := "JuryDeskModel", name := "order", desc := "(IJI)I" } : Jvm.MethodName) ({ cls := "JuryDeskModel", name := "order", desc := "(IJI)I" } : Jvm.MethodName)) ∈ TB := TB_m19 (List.mem_of_getElem? (i := 1) rfl)
theorem tb_762 : (Jvm.Cond.code ({ cls := "JuryDeskModel", name := "order", desc := "(IJI)I" } : Jvm.MethodName) prog_8_method_35_code (12 : Nat) (Option.some Jvm.ClassFile.FieldType.int)) ∈ TB := TB_m19 (List.mem_of_getElem? (i := 2) rfl)
theorem tb_763 : (Jvm.Cond.methodLink "JuryDeskLaw" (102 : Nat) ({ cls := "JuryDeskModel", name := "give", desc := "(II)I" } : Jvm.MethodName)) ∈ TB := TB_m19 (List.mem_of_getElem? (i := 3) rfl)
theorem tb_764 : (Jvm.Cond.instanceMethod ({ cls := "JuryDeskModel", name := "give", desc := "(II)I" } : Jvm.MethodName)) ∈ TB := TB_m19 (List.mem_of_getElem? (i := 4) rfl)
theorem tb_765 : (Jvm.Cond.selects "JuryDeskModel" ({ cls := "JuryDeskModel", name := "give", desc := "(II)I" } : Jvm.MethodName) ({ cls := "JuryDeskModel", name := "give", desc := "(II)I" } : Jvm.MethodName)) ∈ TB := TB_m19 (List.mem_of_getElem? (i := 5) rfl)
theorem tb_766 : (Jvm.Cond.code ({ cls := "JuryDeskModel", name := "give", desc := "(II)I" } : Jvm.MethodName) prog_8_method_36_code (4 : Nat) (Option.some Jvm.ClassFile.FieldType.int)) ∈ TB := TB_m19 (List.mem_of_getElem? (i := 6) rfl)
theorem tb_767 : (Jvm.Cond.methodLink "JuryDeskLaw" (106 : Nat) ({ cls := "JuryDeskModel", name := "numberOf", desc := "(I)J" } : Jvm.MethodName)) ∈ TB := TB_m19 (List.mem_of_getElem? (i := 7) rfl)
theorem tb_768 : (Jvm.Cond.instanceMethod ({ cls := "JuryDeskModel", name := "numberOf", desc := "(I)J" } : Jvm.MethodName)) ∈ TB := TB_m19 (List.mem_of_getElem? (i := 8) rfl)
theorem tb_769 : (Jvm.Cond.selects "JuryDeskModel" ({ cls := "JuryDeskModel", name := "numberOf", desc := "(I)J" } : Jvm.MethodName) ({ cls := "JuryDeskModel", name := "numberOf", desc := "(I)J" } : Jvm.MethodName)) ∈ TB := TB_m19 (List.mem_of_getElem? (i := 9) rfl)
theorem tb_770 : (Jvm.Cond.code ({ cls := "JuryDeskModel", name := "numberOf", desc := "(I)J" } : Jvm.MethodName) prog_8_method_37_code (7 : Nat) (Option.some Jvm.ClassFile.FieldType.long)) ∈ TB := TB_m19 (List.mem_of_getElem? (i := 10) rfl)
theorem tb_771 : (Jvm.Cond.constantLong "JuryDeskModel" (146 : Nat) (-1 : Int64)) ∈ TB := TB_m19 (List.mem_of_getElem? (i := 11) rfl)
theorem tb_772 : (Jvm.Cond.methodLink "JuryDeskLaw" (110 : Nat) ({ cls := "JuryDeskModel", name := "ask", desc := "(II)I" } : Jvm.MethodName)) ∈ TB := TB_m19 (List.mem_of_getElem? (i := 12) rfl)
theorem tb_773 : (Jvm.Cond.instanceMethod ({ cls := "JuryDeskModel", name := "ask", desc := "(II)I" } : Jvm.MethodName)) ∈ TB := TB_m19 (List.mem_of_getElem? (i := 13) rfl)
theorem tb_774 : (Jvm.Cond.selects "JuryDeskModel" ({ cls := "JuryDeskModel", name := "ask", desc := "(II)I" } : Jvm.MethodName) ({ cls := "JuryDeskModel", name := "ask", desc := "(II)I" } : Jvm.MethodName)) ∈ TB := TB_m19 (List.mem_of_getElem? (i := 14) rfl)
theorem tb_775 : (Jvm.Cond.code ({ cls := "JuryDeskModel", name := "ask", desc := "(II)I" } : Jvm.MethodName) prog_8_method_38_code (11 : Nat) (Option.some Jvm.ClassFile.FieldType.int)) ∈ TB := TB_m19 (List.mem_of_getElem? (i := 15) rfl)
theorem tb_776 : (Jvm.Cond.methodLink "JuryDeskModel" (148 : Nat) ({ cls := "JuryDeskModel", name := "pairs", desc := "(I)V" } : Jvm.MethodName)) ∈ TB := TB_m19 (List.mem_of_getElem? (i := 16) rfl)
theorem tb_777 : (Jvm.Cond.instanceMethod ({ cls := "JuryDeskModel", name := "pairs", desc := "(I)V" } : Jvm.MethodName)) ∈ TB := TB_m19 (List.mem_of_getElem? (i := 17) rfl)
theorem tb_778 : (Jvm.Cond.code ({ cls := "JuryDeskModel", name := "pairs", desc := "(I)V" } : Jvm.MethodName) prog_8_method_19_code (8 : Nat) (Option.none : Option Jvm.ClassFile.FieldType)) ∈ TB := TB_m19 (List.mem_of_getElem? (i := 18) rfl)
theorem tb_779 : (Jvm.Cond.methodLink "JuryDeskLaw" (114 : Nat) ({ cls := "JuryDeskModel", name := "tie", desc := "(I)I" } : Jvm.MethodName)) ∈ TB := TB_m19 (List.mem_of_getElem? (i := 19) rfl)
theorem tb_780 : (Jvm.Cond.instanceMethod ({ cls := "JuryDeskModel", name := "tie", desc := "(I)I" } : Jvm.MethodName)) ∈ TB := TB_m19 (List.mem_of_getElem? (i := 20) rfl)
theorem tb_781 : (Jvm.Cond.selects "JuryDeskModel" ({ cls := "JuryDeskModel", name := "tie", desc := "(I)I" } : Jvm.MethodName) ({ cls := "JuryDeskModel", name := "tie", desc := "(I)I" } : Jvm.MethodName)) ∈ TB := TB_m19 (List.mem_of_getElem? (i := 21) rfl)
theorem tb_782 : (Jvm.Cond.code ({ cls := "JuryDeskModel", name := "tie", desc := "(I)I" } : Jvm.MethodName) prog_8_method_39_code (2 : Nat) (Option.some Jvm.ClassFile.FieldType.int)) ∈ TB := TB_m19 (List.mem_of_getElem? (i := 22) rfl)
theorem tb_783 : (Jvm.Cond.methodLink "JuryDeskModel" (151 : Nat) ({ cls := "JuryDeskModel", name := "widest", desc := "(I)V" } : Jvm.MethodName)) ∈ TB := TB_m19 (List.mem_of_getElem? (i := 23) rfl)
theorem tb_784 : (Jvm.Cond.instanceMethod ({ cls := "JuryDeskModel", name := "widest", desc := "(I)V" } : Jvm.MethodName)) ∈ TB := TB_m19 (List.mem_of_getElem? (i := 24) rfl)
theorem tb_785 : (Jvm.Cond.code ({ cls := "JuryDeskModel", name := "widest", desc := "(I)V" } : Jvm.MethodName) prog_8_method_15_code (5 : Nat) (Option.none : Option Jvm.ClassFile.FieldType)) ∈ TB := TB_m19 (List.mem_of_getElem? (i := 25) rfl)
theorem tb_786 : (Jvm.Cond.methodLink "JuryDeskModel" (118 : Nat) ({ cls := "JuryDeskModel", name := "apart", desc := "(I)Z" } : Jvm.MethodName)) ∈ TB := TB_m19 (List.mem_of_getElem? (i := 26) rfl)
theorem tb_787 : (Jvm.Cond.instanceMethod ({ cls := "JuryDeskModel", name := "apart", desc := "(I)Z" } : Jvm.MethodName)) ∈ TB := TB_m19 (List.mem_of_getElem? (i := 27) rfl)
theorem tb_788 : (Jvm.Cond.code ({ cls := "JuryDeskModel", name := "apart", desc := "(I)Z" } : Jvm.MethodName) prog_8_method_16_code (3 : Nat) (Option.some Jvm.ClassFile.FieldType.boolean)) ∈ TB := TB_m19 (List.mem_of_getElem? (i := 28) rfl)
theorem tb_789 : (Jvm.Cond.methodLink "JuryDeskModel" (121 : Nat) ({ cls := "JuryDeskModel", name := "earlier", desc := "(II)Z" } : Jvm.MethodName)) ∈ TB := TB_m19 (List.mem_of_getElem? (i := 29) rfl)
theorem tb_790 : (Jvm.Cond.static ({ cls := "JuryDeskModel", name := "earlier", desc := "(II)Z" } : Jvm.MethodName)) ∈ TB := TB_m19 (List.mem_of_getElem? (i := 30) rfl)
theorem tb_791 : (Jvm.Cond.code ({ cls := "JuryDeskModel", name := "earlier", desc := "(II)Z" } : Jvm.MethodName) prog_8_method_17_code (4 : Nat) (Option.some Jvm.ClassFile.FieldType.boolean)) ∈ TB := TB_m19 (List.mem_of_getElem? (i := 31) rfl)
theorem tb_792 : (Jvm.Cond.methodLink "JuryDeskLaw" (118 : Nat) ({ cls := "JuryDeskModel", name := "tieEntry", desc := "(II)I" } : Jvm.MethodName)) ∈ TB := TB_m19 (List.mem_of_getElem? (i := 32) rfl)
theorem tb_793 : (Jvm.Cond.instanceMethod ({ cls := "JuryDeskModel", name := "tieEntry", desc := "(II)I" } : Jvm.MethodName)) ∈ TB := TB_m19 (List.mem_of_getElem? (i := 33) rfl)
theorem tb_794 : (Jvm.Cond.selects "JuryDeskModel" ({ cls := "JuryDeskModel", name := "tieEntry", desc := "(II)I" } : Jvm.MethodName) ({ cls := "JuryDeskModel", name := "tieEntry", desc := "(II)I" } : Jvm.MethodName)) ∈ TB := TB_m19 (List.mem_of_getElem? (i := 34) rfl)
theorem tb_795 : (Jvm.Cond.code ({ cls := "JuryDeskModel", name := "tieEntry", desc := "(II)I" } : Jvm.MethodName) prog_8_method_40_code (5 : Nat) (Option.some Jvm.ClassFile.FieldType.int)) ∈ TB := TB_m19 (List.mem_of_getElem? (i := 35) rfl)
theorem tb_796 : (Jvm.Cond.methodLink "JuryDeskLaw" (122 : Nat) ({ cls := "JuryDeskModel", name := "chains", desc := "(I)I" } : Jvm.MethodName)) ∈ TB := TB_m19 (List.mem_of_getElem? (i := 36) rfl)
theorem tb_797 : (Jvm.Cond.instanceMethod ({ cls := "JuryDeskModel", name := "chains", desc := "(I)I" } : Jvm.MethodName)) ∈ TB := TB_m19 (List.mem_of_getElem? (i := 37) rfl)
theorem tb_798 : (Jvm.Cond.selects "JuryDeskModel" ({ cls := "JuryDeskModel", name := "chains", desc := "(I)I" } : Jvm.MethodName) ({ cls := "JuryDeskModel", name := "chains", desc := "(I)I" } : Jvm.MethodName)) ∈ TB := TB_m19 (List.mem_of_getElem? (i := 38) rfl)
theorem tb_799 : (Jvm.Cond.code ({ cls := "JuryDeskModel", name := "chains", desc := "(I)I" } : Jvm.MethodName) prog_8_method_41_code (2 : Nat) (Option.some Jvm.ClassFile.FieldType.int)) ∈ TB := TB_m19 (List.mem_of_getElem? (i := 39) rfl)
theorem tb_800 : (Jvm.Cond.methodLink "JuryDeskModel" (154 : Nat) ({ cls := "JuryDeskModel", name := "rows", desc := "(I)I" } : Jvm.MethodName)) ∈ TB := TB_m20 (List.mem_of_getElem? (i := 0) rfl)
theorem tb_801 : (Jvm.Cond.instanceMethod ({ cls := "JuryDeskModel", name := "rows", desc := "(I)I" } : Jvm.MethodName)) ∈ TB := TB_m20 (List.mem_of_getElem? (i := 1) rfl)
theorem tb_802 : (Jvm.Cond.code ({ cls := "JuryDeskModel", name := "rows", desc := "(I)I" } : Jvm.MethodName) prog_8_method_13_code (8 : Nat) (Option.some Jvm.ClassFile.FieldType.int)) ∈ TB := TB_m20 (List.mem_of_getElem? (i := 2) rfl)
theorem tb_803 : (Jvm.Cond.methodLink "JuryDeskModel" (108 : Nat) ({ cls := "JuryDeskModel", name := "most", desc := "(I)I" } : Jvm.MethodName)) ∈ TB := TB_m20 (List.mem_of_getElem? (i := 3) rfl)
theorem tb_804 : (Jvm.Cond.instanceMethod ({ cls := "JuryDeskModel", name := "most", desc := "(I)I" } : Jvm.MethodName)) ∈ TB := TB_m20 (List.mem_of_getElem? (i := 4) rfl)
theorem tb_805 : (Jvm.Cond.code ({ cls := "JuryDeskModel", name := "most", desc := "(I)I" } : Jvm.MethodName) prog_8_method_12_code (3 : Nat) (Option.some Jvm.ClassFile.FieldType.int)) ∈ TB := TB_m20 (List.mem_of_getElem? (i := 5) rfl)
theorem tb_806 : (Jvm.Cond.methodLink "JuryDeskModel" (104 : Nat) ({ cls := "JuryDeskModel", name := "grow", desc := "(I)Z" } : Jvm.MethodName)) ∈ TB := TB_m20 (List.mem_of_getElem? (i := 6) rfl)
theorem tb_807 : (Jvm.Cond.instanceMethod ({ cls := "JuryDeskModel", name := "grow", desc := "(I)Z" } : Jvm.MethodName)) ∈ TB := TB_m20 (List.mem_of_getElem? (i := 7) rfl)
theorem tb_808 : (Jvm.Cond.code ({ cls := "JuryDeskModel", name := "grow", desc := "(I)Z" } : Jvm.MethodName) prog_8_method_10_code (6 : Nat) (Option.some Jvm.ClassFile.FieldType.boolean)) ∈ TB := TB_m20 (List.mem_of_getElem? (i := 8) rfl)
theorem tb_809 : (Jvm.Cond.methodLink "JuryDeskModel" (101 : Nat) ({ cls := "JuryDeskModel", name := "turnAbout", desc := "(I)V" } : Jvm.MethodName)) ∈ TB := TB_m20 (List.mem_of_getElem? (i := 9) rfl)
theorem tb_810 : (Jvm.Cond.instanceMethod ({ cls := "JuryDeskModel", name := "turnAbout", desc := "(I)V" } : Jvm.MethodName)) ∈ TB := TB_m20 (List.mem_of_getElem? (i := 10) rfl)
theorem tb_811 : (Jvm.Cond.code ({ cls := "JuryDeskModel", name := "turnAbout", desc := "(I)V" } : Jvm.MethodName) prog_8_method_11_code (5 : Nat) (Option.none : Option Jvm.ClassFile.FieldType)) ∈ TB := TB_m20 (List.mem_of_getElem? (i := 11) rfl)
theorem tb_812 : (Jvm.Cond.methodLink "JuryDeskModel" (115 : Nat) ({ cls := "JuryDeskModel", name := "free", desc := "(II)Z" } : Jvm.MethodName)) ∈ TB := TB_m20 (List.mem_of_getElem? (i := 12) rfl)
theorem tb_813 : (Jvm.Cond.instanceMethod ({ cls := "JuryDeskModel", name := "free", desc := "(II)Z" } : Jvm.MethodName)) ∈ TB := TB_m20 (List.mem_of_getElem? (i := 13) rfl)
theorem tb_814 : (Jvm.Cond.code ({ cls := "JuryDeskModel", name := "free", desc := "(II)Z" } : Jvm.MethodName) prog_8_method_14_code (4 : Nat) (Option.some Jvm.ClassFile.FieldType.boolean)) ∈ TB := TB_m20 (List.mem_of_getElem? (i := 14) rfl)
theorem tb_815 : (Jvm.Cond.methodLink "JuryDeskLaw" (126 : Nat) ({ cls := "JuryDeskModel", name := "follows", desc := "(II)I" } : Jvm.MethodName)) ∈ TB := TB_m20 (List.mem_of_getElem? (i := 15) rfl)
theorem tb_816 : (Jvm.Cond.instanceMethod ({ cls := "JuryDeskModel", name := "follows", desc := "(II)I" } : Jvm.MethodName)) ∈ TB := TB_m20 (List.mem_of_getElem? (i := 16) rfl)
theorem tb_817 : (Jvm.Cond.selects "JuryDeskModel" ({ cls := "JuryDeskModel", name := "follows", desc := "(II)I" } : Jvm.MethodName) ({ cls := "JuryDeskModel", name := "follows", desc := "(II)I" } : Jvm.MethodName)) ∈ TB := TB_m20 (List.mem_of_getElem? (i := 17) rfl)
theorem tb_818 : (Jvm.Cond.code ({ cls := "JuryDeskModel", name := "follows", desc := "(II)I" } : Jvm.MethodName) prog_8_method_42_code (3 : Nat) (Option.some Jvm.ClassFile.FieldType.int)) ∈ TB := TB_m20 (List.mem_of_getElem? (i := 18) rfl)
theorem tb_819 : (Jvm.Cond.methodLink "JuryDeskLaw" (130 : Nat) ({ cls := "JuryDeskModel", name := "count", desc := "(II)I" } : Jvm.MethodName)) ∈ TB := TB_m20 (List.mem_of_getElem? (i := 19) rfl)
theorem tb_820 : (Jvm.Cond.instanceMethod ({ cls := "JuryDeskModel", name := "count", desc := "(II)I" } : Jvm.MethodName)) ∈ TB := TB_m20 (List.mem_of_getElem? (i := 20) rfl)
theorem tb_821 : (Jvm.Cond.selects "JuryDeskModel" ({ cls := "JuryDeskModel", name := "count", desc := "(II)I" } : Jvm.MethodName) ({ cls := "JuryDeskModel", name := "count", desc := "(II)I" } : Jvm.MethodName)) ∈ TB := TB_m20 (List.mem_of_getElem? (i := 21) rfl)
theorem tb_822 : (Jvm.Cond.code ({ cls := "JuryDeskModel", name := "count", desc := "(II)I" } : Jvm.MethodName) prog_8_method_43_code (5 : Nat) (Option.some Jvm.ClassFile.FieldType.int)) ∈ TB := TB_m20 (List.mem_of_getElem? (i := 22) rfl)
theorem tb_823 : (Jvm.Cond.constantLong "JuryDeskLaw" (88 : Nat) (4294967295 : Int64)) ∈ TB := TB_m20 (List.mem_of_getElem? (i := 23) rfl)
def R_H : String := "JuryDesk$Heat"
def F_H : u_T := fun k => match k with
  | 0 => ("JuryDesk$Heat", "upper", "[B", true)
  | 1 => ("JuryDesk$Heat", "lower", "[B", true)
  | 2 => ("JuryDesk$Heat", "withdrawn", "[Z", true)
  | 3 => ("JuryDesk$Heat", "below", "[I", true)
  | 4 => ("JuryDesk$Heat", "above", "[I", true)
  | 5 => ("JuryDesk$Heat", "tally", "LJuryDesk$Tally;", true)
  | 6 => ("JuryDesk$Heat", "rows", "LJuryDesk$Rows;", true)
  | 7 => ("JuryDesk$Heat", "live", "I", false)
  | _ => ("JuryDesk$Heat", "verdicts", "I", false)
def ft_H : Nat → FieldType := fun k => match k with
  | 0 => .array .byte
  | 1 => .array .byte
  | 2 => .array .boolean
  | 3 => .array .int
  | 4 => .array .int
  | 5 => .object "JuryDesk$Tally"
  | 6 => .object "JuryDesk$Rows"
  | 7 => .int
  | _ => .int
theorem n_H : ∀ a, a < 9 → ∀ b, b < 9 → a ≠ b → (F_H a).2.1 ≠ (F_H b).2.1 := by decide +kernel
theorem tk_H : ∀ k, k < 9 → parseFieldDescriptor (F_H k).2.2.1 = some (ft_H k) := by decide +kernel
theorem uw_H : ∀ w ∈ u_ws R_H F_H 9, w ∈ TB := by
  intro w h
  simp only [u_ws, List.mem_map, List.mem_range] at h
  obtain ⟨k, hk, rfl⟩ := h
  rcases (show k = 0 ∨ k = 1 ∨ k = 2 ∨ k = 3 ∨ k = 4 ∨ k = 5 ∨ k = 6 ∨ k = 7 ∨ k = 8 by omega) with rfl | rfl | rfl | rfl | rfl | rfl | rfl | rfl | rfl
  · exact tb_559
  · exact tb_561
  · exact tb_563
  · exact tb_565
  · exact tb_567
  · exact tb_569
  · exact tb_571
  · exact tb_573
  · exact tb_575
def R_T : String := "JuryDesk$Tally"
def F_T : u_T := fun k => match k with
  | 0 => ("JuryDesk$Tally", "known", "Z", false)
  | 1 => ("JuryDesk$Tally", "total", "J", false)
  | 2 => ("JuryDesk$Tally", "standing", "[J", true)
  | _ => ("JuryDesk$Tally", "ahead", "[J", true)
def ft_T : Nat → FieldType := fun k => match k with
  | 0 => .boolean
  | 1 => .long
  | 2 => .array .long
  | _ => .array .long
theorem n_T : ∀ a, a < 4 → ∀ b, b < 4 → a ≠ b → (F_T a).2.1 ≠ (F_T b).2.1 := by decide +kernel
theorem tk_T : ∀ k, k < 4 → parseFieldDescriptor (F_T k).2.2.1 = some (ft_T k) := by decide +kernel
theorem uw_T : ∀ w ∈ u_ws R_T F_T 4, w ∈ TB := by
  intro w h
  simp only [u_ws, List.mem_map, List.mem_range] at h
  obtain ⟨k, hk, rfl⟩ := h
  rcases (show k = 0 ∨ k = 1 ∨ k = 2 ∨ k = 3 by omega) with rfl | rfl | rfl | rfl
  · exact tb_494
  · exact tb_496
  · exact tb_498
  · exact tb_500
def R_R : String := "JuryDesk$Rows"
def F_R : u_T := fun k => match k with
  | 0 => ("JuryDesk$Rows", "known", "Z", false)
  | 1 => ("JuryDesk$Rows", "width", "I", false)
  | 2 => ("JuryDesk$Rows", "follower", "[I", true)
  | 3 => ("JuryDesk$Rows", "tieSet", "I", false)
  | 4 => ("JuryDesk$Rows", "next", "[I", true)
  | 5 => ("JuryDesk$Rows", "previous", "[I", true)
  | 6 => ("JuryDesk$Rows", "reachedFrom", "[I", true)
  | _ => ("JuryDesk$Rows", "queue", "[I", true)
def ft_R : Nat → FieldType := fun k => match k with
  | 0 => .boolean
  | 1 => .int
  | 2 => .array .int
  | 3 => .int
  | 4 => .array .int
  | 5 => .array .int
  | 6 => .array .int
  | _ => .array .int
theorem n_R : ∀ a, a < 8 → ∀ b, b < 8 → a ≠ b → (F_R a).2.1 ≠ (F_R b).2.1 := by decide +kernel
theorem tk_R : ∀ k, k < 8 → parseFieldDescriptor (F_R k).2.2.1 = some (ft_R k) := by decide +kernel
theorem uw_R : ∀ w ∈ u_ws R_R F_R 8, w ∈ TB := by
  intro w h
  simp only [u_ws, List.mem_map, List.mem_range] at h
  obtain ⟨k, hk, rfl⟩ := h
  rcases (show k = 0 ∨ k = 1 ∨ k = 2 ∨ k = 3 ∨ k = 4 ∨ k = 5 ∨ k = 6 ∨ k = 7 by omega) with rfl | rfl | rfl | rfl | rfl | rfl | rfl | rfl
  · exact tb_519
  · exact tb_521
  · exact tb_523
  · exact tb_525
  · exact tb_527
  · exact tb_529
  · exact tb_531
  · exact tb_533
def R_K : String := "JuryDesk"
def F_K : u_T := fun k => match k with
  | 0 => ("JuryDesk", "heats", "[LJuryDesk$Heat;", true)
  | 1 => ("JuryDesk", "row", "[I", true)
  | 2 => ("JuryDesk", "reason", "LJuryDesk$Reason;", true)
  | 3 => ("JuryDesk", "lattice", "LJuryDesk$Lattice;", true)
  | _ => ("JuryDesk", "loaded", "I", false)
def ft_K : Nat → FieldType := fun k => match k with
  | 0 => .array (.object "JuryDesk$Heat")
  | 1 => .array .int
  | 2 => .object "JuryDesk$Reason"
  | 3 => .object "JuryDesk$Lattice"
  | _ => .int
theorem n_K : ∀ a, a < 5 → ∀ b, b < 5 → a ≠ b → (F_K a).2.1 ≠ (F_K b).2.1 := by decide +kernel
theorem tk_K : ∀ k, k < 5 → parseFieldDescriptor (F_K k).2.2.1 = some (ft_K k) := by decide +kernel
theorem uw_K : ∀ w ∈ u_ws R_K F_K 5, w ∈ TB := by
  intro w h
  simp only [u_ws, List.mem_map, List.mem_range] at h
  obtain ⟨k, hk, rfl⟩ := h
  rcases (show k = 0 ∨ k = 1 ∨ k = 2 ∨ k = 3 ∨ k = 4 by omega) with rfl | rfl | rfl | rfl | rfl
  · exact tb_110
  · exact tb_112
  · exact tb_114
  · exact tb_116
  · exact tb_118
def R_S : String := "JuryDesk$Reason"
def F_S : u_T := fun k => match k with
  | 0 => ("JuryDesk$Reason", "numbers", "[I", true)
  | 1 => ("JuryDesk$Reason", "length", "I", false)
  | _ => ("JuryDesk$Reason", "steps", "[I", true)
def ft_S : Nat → FieldType := fun k => match k with
  | 0 => .array .int
  | 1 => .int
  | _ => .array .int
theorem n_S : ∀ a, a < 3 → ∀ b, b < 3 → a ≠ b → (F_S a).2.1 ≠ (F_S b).2.1 := by decide +kernel
theorem tk_S : ∀ k, k < 3 → parseFieldDescriptor (F_S k).2.2.1 = some (ft_S k) := by decide +kernel
theorem uw_S : ∀ w ∈ u_ws R_S F_S 3, w ∈ TB := by
  intro w h
  simp only [u_ws, List.mem_map, List.mem_range] at h
  obtain ⟨k, hk, rfl⟩ := h
  rcases (show k = 0 ∨ k = 1 ∨ k = 2 by omega) with rfl | rfl | rfl
  · exact tb_76
  · exact tb_78
  · exact tb_80
def R_L : String := "JuryDesk$Lattice"
def F_L : u_T := fun k => match k with
  | 0 => ("JuryDesk$Lattice", "heads", "[J", true)
  | 1 => ("JuryDesk$Lattice", "tails", "[J", true)
  | 2 => ("JuryDesk$Lattice", "lowBars", "[I", true)
  | _ => ("JuryDesk$Lattice", "highBars", "[I", true)
def ft_L : Nat → FieldType := fun k => match k with
  | 0 => .array .long
  | 1 => .array .long
  | 2 => .array .int
  | _ => .array .int
theorem n_L : ∀ a, a < 4 → ∀ b, b < 4 → a ≠ b → (F_L a).2.1 ≠ (F_L b).2.1 := by decide +kernel
theorem tk_L : ∀ k, k < 4 → parseFieldDescriptor (F_L k).2.2.1 = some (ft_L k) := by decide +kernel
theorem uw_L : ∀ w ∈ u_ws R_L F_L 4, w ∈ TB := by
  intro w h
  simp only [u_ws, List.mem_map, List.mem_range] at h
  obtain ⟨k, hk, rfl⟩ := h
  rcases (show k = 0 ∨ k = 1 ∨ k = 2 ∨ k = 3 by omega) with rfl | rfl | rfl | rfl
  · exact tb_93
  · exact tb_95
  · exact tb_97
  · exact tb_99
def R_M : String := "JuryDeskModel"
def F_M : u_T := fun k => match k with
  | 0 => ("JuryDeskModel", "thrownCode", "I", false)
  | 1 => ("JuryDeskModel", "size", "[I", true)
  | 2 => ("JuryDeskModel", "gone", "[I", true)
  | 3 => ("JuryDeskModel", "verdicts", "[I", true)
  | 4 => ("JuryDeskModel", "upper", "[I", true)
  | 5 => ("JuryDeskModel", "lower", "[I", true)
  | 6 => ("JuryDeskModel", "back", "[Z", true)
  | 7 => ("JuryDeskModel", "ready", "I", false)
  | 8 => ("JuryDeskModel", "all", "I", false)
  | 9 => ("JuryDeskModel", "below", "[I", true)
  | 10 => ("JuryDeskModel", "above", "[I", true)
  | 11 => ("JuryDeskModel", "counted", "Z", false)
  | 12 => ("JuryDeskModel", "to", "[J", true)
  | 13 => ("JuryDeskModel", "from", "[J", true)
  | 14 => ("JuryDeskModel", "whys", "I", false)
  | 15 => ("JuryDeskModel", "whyNow", "[I", true)
  | 16 => ("JuryDeskModel", "far", "[I", true)
  | 17 => ("JuryDeskModel", "row", "[I", true)
  | 18 => ("JuryDeskModel", "next", "[I", true)
  | 19 => ("JuryDeskModel", "ahead", "[I", true)
  | 20 => ("JuryDeskModel", "queue", "[I", true)
  | 21 => ("JuryDeskModel", "came", "[I", true)
  | 22 => ("JuryDeskModel", "pair", "[J", true)
  | _ => ("JuryDeskModel", "best", "I", false)
def ft_M : Nat → FieldType := fun k => match k with
  | 0 => .int
  | 1 => .array .int
  | 2 => .array .int
  | 3 => .array .int
  | 4 => .array .int
  | 5 => .array .int
  | 6 => .array .boolean
  | 7 => .int
  | 8 => .int
  | 9 => .array .int
  | 10 => .array .int
  | 11 => .boolean
  | 12 => .array .long
  | 13 => .array .long
  | 14 => .int
  | 15 => .array .int
  | 16 => .array .int
  | 17 => .array .int
  | 18 => .array .int
  | 19 => .array .int
  | 20 => .array .int
  | 21 => .array .int
  | 22 => .array .long
  | _ => .int
theorem n_M : ∀ a, a < 24 → ∀ b, b < 24 → a ≠ b → (F_M a).2.1 ≠ (F_M b).2.1 := by decide +kernel
theorem tk_M : ∀ k, k < 24 → parseFieldDescriptor (F_M k).2.2.1 = some (ft_M k) := by decide +kernel
theorem uw_M : ∀ w ∈ u_ws R_M F_M 24, w ∈ TB := by
  intro w h
  simp only [u_ws, List.mem_map, List.mem_range] at h
  obtain ⟨k, hk, rfl⟩ := h
  rcases (show k = 0 ∨ k = 1 ∨ k = 2 ∨ k = 3 ∨ k = 4 ∨ k = 5 ∨ k = 6 ∨ k = 7 ∨ k = 8 ∨ k = 9 ∨ k = 10 ∨ k = 11 ∨ k = 12 ∨ k = 13 ∨ k = 14 ∨ k = 15 ∨ k = 16 ∨ k = 17 ∨ k = 18 ∨ k = 19 ∨ k = 20 ∨ k = 21 ∨ k = 22 ∨ k = 23 by omega) with rfl | rfl | rfl | rfl | rfl | rfl | rfl | rfl | rfl | rfl | rfl | rfl | rfl | rfl | rfl | rfl | rfl | rfl | rfl | rfl | rfl | rfl | rfl | rfl
  · exact tb_624
  · exact tb_626
  · exact tb_628
  · exact tb_630
  · exact tb_632
  · exact tb_634
  · exact tb_636
  · exact tb_638
  · exact tb_640
  · exact tb_642
  · exact tb_644
  · exact tb_646
  · exact tb_648
  · exact tb_650
  · exact tb_652
  · exact tb_654
  · exact tb_656
  · exact tb_658
  · exact tb_660
  · exact tb_662
  · exact tb_664
  · exact tb_666
  · exact tb_668
  · exact tb_670
abbrev cls_all : List vw_C := [(R_H, F_H, 9), (R_T, F_T, 4), (R_R, F_R, 8), (R_K, F_K, 5), (R_S, F_S, 3), (R_L, F_L, 4), (R_M, F_M, 24)]
abbrev b_K_init : ByteArray := prog_1_method_1_code
def y_K_init : MethodName := ⟨"JuryDesk", "<init>", "()V"⟩
abbrev b_S_init : ByteArray := prog_4_method_1_code
def y_S_init : MethodName := ⟨"JuryDesk$Reason", "<init>", "()V"⟩
abbrev b_L_init : ByteArray := prog_3_method_1_code
def y_L_init : MethodName := ⟨"JuryDesk$Lattice", "<init>", "()V"⟩
abbrev b_A_fillI : ByteArray := prog_16_method_103_code
def y_A_fillI : MethodName := ⟨"java/util/Arrays", "fill", "([II)V"⟩
abbrev b_K_better : ByteArray := prog_1_method_3_code
def y_K_better : MethodName := ⟨"JuryDesk", "better", "(III)I"⟩
abbrev b_K_find : ByteArray := prog_1_method_24_code
def y_K_find : MethodName := ⟨"JuryDesk", "find", "(I)LJuryDesk$Heat;"⟩
abbrev b_H_has : ByteArray := prog_2_method_6_code
def y_H_has : MethodName := ⟨"JuryDesk$Heat", "has", "(I)Z"⟩
abbrev b_K_holds : ByteArray := prog_1_method_30_code
def y_K_holds : MethodName := ⟨"JuryDesk", "holds", "(II)Z"⟩
abbrev b_H_isAbove : ByteArray := prog_2_method_8_code
def y_H_isAbove : MethodName := ⟨"JuryDesk$Heat", "isAbove", "(II)Z"⟩
abbrev b_S_trace : ByteArray := prog_4_method_2_code
def y_S_trace : MethodName := ⟨"JuryDesk$Reason", "trace", "(LJuryDesk$Heat;II)V"⟩
abbrev b_S_measure : ByteArray := prog_4_method_3_code
def y_S_measure : MethodName := ⟨"JuryDesk$Reason", "measure", "(LJuryDesk$Heat;I)V"⟩
abbrev b_H_inForce : ByteArray := prog_2_method_9_code
def y_H_inForce : MethodName := ⟨"JuryDesk$Heat", "inForce", "(I)Z"⟩
abbrev b_S_leastToward : ByteArray := prog_4_method_4_code
def y_S_leastToward : MethodName := ⟨"JuryDesk$Reason", "leastToward", "(LJuryDesk$Heat;II)I"⟩
abbrev b_H_write : ByteArray := prog_2_method_3_code
def y_H_write : MethodName := ⟨"JuryDesk$Heat", "write", "(II)V"⟩
abbrev b_H_settle : ByteArray := prog_2_method_14_code
def y_H_settle : MethodName := ⟨"JuryDesk$Heat", "settle", "()V"⟩
abbrev b_H_leadOn : ByteArray := prog_2_method_15_code
def y_H_leadOn : MethodName := ⟨"JuryDesk$Heat", "leadOn", "()V"⟩
abbrev b_H_turn : ByteArray := prog_2_method_16_code
def y_H_turn : MethodName := ⟨"JuryDesk$Heat", "turn", "()V"⟩
abbrev b_T_forget : ByteArray := prog_6_method_2_code
def y_T_forget : MethodName := ⟨"JuryDesk$Tally", "forget", "()V"⟩
abbrev b_K_unload : ByteArray := prog_1_method_26_code
def y_K_unload : MethodName := ⟨"JuryDesk", "unload", "(I)V"⟩
abbrev b_K_whyLast : ByteArray := prog_1_method_4_code
def y_K_whyLast : MethodName := ⟨"JuryDesk", "whyLast", "()I"⟩
abbrev b_K_why : ByteArray := prog_1_method_5_code
def y_K_why : MethodName := ⟨"JuryDesk", "why", "(I)I"⟩
abbrev b_K_withdraw : ByteArray := prog_1_method_6_code
def y_K_withdraw : MethodName := ⟨"JuryDesk", "withdraw", "(II)Z"⟩
abbrev b_H_takeBack : ByteArray := prog_2_method_4_code
def y_H_takeBack : MethodName := ⟨"JuryDesk$Heat", "takeBack", "(I)V"⟩
abbrev b_K_scratch : ByteArray := prog_1_method_7_code
def y_K_scratch : MethodName := ⟨"JuryDesk", "scratch", "(II)Z"⟩
abbrev b_H_size : ByteArray := prog_2_method_7_code
def y_H_size : MethodName := ⟨"JuryDesk$Heat", "size", "()I"⟩
abbrev b_G_bitCount : ByteArray := prog_11_method_49_code
def y_G_bitCount : MethodName := ⟨"java/lang/Integer", "bitCount", "(I)I"⟩
abbrev b_H_remove : ByteArray := prog_2_method_5_code
def y_H_remove : MethodName := ⟨"JuryDesk$Heat", "remove", "(I)V"⟩
abbrev b_K_settled : ByteArray := prog_1_method_8_code
def y_K_settled : MethodName := ⟨"JuryDesk", "settled", "(III)Z"⟩
abbrev b_K_direct : ByteArray := prog_1_method_9_code
def y_K_direct : MethodName := ⟨"JuryDesk", "direct", "(III)Z"⟩
abbrev b_K_orders : ByteArray := prog_1_method_10_code
def y_K_orders : MethodName := ⟨"JuryDesk", "orders", "(I)J"⟩
abbrev b_K_total : ByteArray := prog_1_method_27_code
def y_K_total : MethodName := ⟨"JuryDesk", "total", "(ILJuryDesk$Heat;)J"⟩
abbrev b_K_load : ByteArray := prog_1_method_25_code
def y_K_load : MethodName := ⟨"JuryDesk", "load", "(ILJuryDesk$Heat;)V"⟩
abbrev b_L_load : ByteArray := prog_3_method_2_code
def y_L_load : MethodName := ⟨"JuryDesk$Lattice", "load", "(LJuryDesk$Heat;)V"⟩
abbrev b_L_setBars : ByteArray := prog_3_method_8_code
def y_L_setBars : MethodName := ⟨"JuryDesk$Lattice", "setBars", "([I)V"⟩
abbrev b_G_numberOfTrailingZeros : ByteArray := prog_11_method_48_code
def y_G_numberOfTrailingZeros : MethodName := ⟨"java/lang/Integer", "numberOfTrailingZeros", "(I)I"⟩
abbrev b_L_countHeads : ByteArray := prog_3_method_10_code
def y_L_countHeads : MethodName := ⟨"JuryDesk$Lattice", "countHeads", "(LJuryDesk$Heat;)V"⟩
abbrev b_L_clearHeads : ByteArray := prog_3_method_11_code
def y_L_clearHeads : MethodName := ⟨"JuryDesk$Lattice", "clearHeads", "(LJuryDesk$Heat;)V"⟩
abbrev b_L_setAfter : ByteArray := prog_3_method_15_code
def y_L_setAfter : MethodName := ⟨"JuryDesk$Lattice", "setAfter", "(II)I"⟩
abbrev b_L_handOn : ByteArray := prog_3_method_12_code
def y_L_handOn : MethodName := ⟨"JuryDesk$Lattice", "handOn", "(LJuryDesk$Heat;I)V"⟩
abbrev b_L_readyOf : ByteArray := prog_3_method_9_code
def y_L_readyOf : MethodName := ⟨"JuryDesk$Lattice", "readyOf", "(I)I"⟩
abbrev b_L_countTails : ByteArray := prog_3_method_13_code
def y_L_countTails : MethodName := ⟨"JuryDesk$Lattice", "countTails", "(LJuryDesk$Heat;)V"⟩
abbrev b_L_gather : ByteArray := prog_3_method_14_code
def y_L_gather : MethodName := ⟨"JuryDesk$Lattice", "gather", "(LJuryDesk$Heat;I)J"⟩
abbrev b_L_total : ByteArray := prog_3_method_3_code
def y_L_total : MethodName := ⟨"JuryDesk$Lattice", "total", "(LJuryDesk$Heat;)J"⟩
abbrev b_K_atRank : ByteArray := prog_1_method_11_code
def y_K_atRank : MethodName := ⟨"JuryDesk", "atRank", "(III)J"⟩
abbrev b_K_tally : ByteArray := prog_1_method_28_code
def y_K_tally : MethodName := ⟨"JuryDesk", "tally", "(ILJuryDesk$Heat;)V"⟩
abbrev b_L_fill : ByteArray := prog_3_method_6_code
def y_L_fill : MethodName := ⟨"JuryDesk$Lattice", "fill", "(LJuryDesk$Heat;)V"⟩
abbrev b_T_clear : ByteArray := prog_6_method_3_code
def y_T_clear : MethodName := ⟨"JuryDesk$Tally", "clear", "()V"⟩
abbrev b_A_fillJ : ByteArray := prog_16_method_101_code
def y_A_fillJ : MethodName := ⟨"java/util/Arrays", "fill", "([JJ)V"⟩
abbrev b_L_fillBehind : ByteArray := prog_3_method_7_code
def y_L_fillBehind : MethodName := ⟨"JuryDesk$Lattice", "fillBehind", "(LJuryDesk$Heat;I)V"⟩
abbrev b_T_add : ByteArray := prog_6_method_4_code
def y_T_add : MethodName := ⟨"JuryDesk$Tally", "add", "(IIJ)V"⟩
abbrev b_T_complete : ByteArray := prog_6_method_5_code
def y_T_complete : MethodName := ⟨"JuryDesk$Tally", "complete", "(LJuryDesk$Heat;)V"⟩
abbrev b_K_before : ByteArray := prog_1_method_12_code
def y_K_before : MethodName := ⟨"JuryDesk", "before", "(III)J"⟩
abbrev b_K_meanRank : ByteArray := prog_1_method_13_code
def y_K_meanRank : MethodName := ⟨"JuryDesk", "meanRank", "(IIZ)J"⟩
abbrev b_T_sumOfRanks : ByteArray := prog_6_method_6_code
def y_T_sumOfRanks : MethodName := ⟨"JuryDesk$Tally", "sumOfRanks", "(I)J"⟩
abbrev b_K_inLowestTerms : ByteArray := prog_1_method_31_code
def y_K_inLowestTerms : MethodName := ⟨"JuryDesk", "inLowestTerms", "(JJZ)J"⟩
abbrev b_K_commonDivisor : ByteArray := prog_1_method_32_code
def y_K_commonDivisor : MethodName := ⟨"JuryDesk", "commonDivisor", "(JJ)J"⟩
abbrev b_K_order : ByteArray := prog_1_method_15_code
def y_K_order : MethodName := ⟨"JuryDesk", "order", "(IJI)I"⟩
abbrev b_L_entryAt : ByteArray := prog_3_method_4_code
def y_L_entryAt : MethodName := ⟨"JuryDesk$Lattice", "entryAt", "(LJuryDesk$Heat;JI)I"⟩
abbrev b_H_mayCome : ByteArray := prog_2_method_12_code
def y_H_mayCome : MethodName := ⟨"JuryDesk$Heat", "mayCome", "(II)Z"⟩
abbrev b_K_numberOf : ByteArray := prog_1_method_17_code
def y_K_numberOf : MethodName := ⟨"JuryDesk", "numberOf", "(I)J"⟩
abbrev b_H_allows : ByteArray := prog_2_method_13_code
def y_H_allows : MethodName := ⟨"JuryDesk$Heat", "allows", "([I)Z"⟩
abbrev b_L_numberOfRow : ByteArray := prog_3_method_5_code
def y_L_numberOfRow : MethodName := ⟨"JuryDesk$Lattice", "numberOfRow", "(LJuryDesk$Heat;[I)J"⟩
abbrev b_K_ask : ByteArray := prog_1_method_18_code
def y_K_ask : MethodName := ⟨"JuryDesk", "ask", "(II)I"⟩
abbrev b_T_evenestPair : ByteArray := prog_6_method_7_code
def y_T_evenestPair : MethodName := ⟨"JuryDesk$Tally", "evenestPair", "(LJuryDesk$Heat;)I"⟩
abbrev b_T_isOpen : ByteArray := prog_6_method_8_code
def y_T_isOpen : MethodName := ⟨"JuryDesk$Tally", "isOpen", "(LJuryDesk$Heat;II)Z"⟩
abbrev b_K_tie : ByteArray := prog_1_method_19_code
def y_K_tie : MethodName := ⟨"JuryDesk", "tie", "(I)I"⟩
abbrev b_K_rowsOf : ByteArray := prog_1_method_29_code
def y_K_rowsOf : MethodName := ⟨"JuryDesk", "rowsOf", "(LJuryDesk$Heat;)LJuryDesk$Rows;"⟩
abbrev b_R_arrange : ByteArray := prog_5_method_2_code
def y_R_arrange : MethodName := ⟨"JuryDesk$Rows", "arrange", "(LJuryDesk$Heat;)V"⟩
abbrev b_R_widthOf : ByteArray := prog_5_method_7_code
def y_R_widthOf : MethodName := ⟨"JuryDesk$Rows", "widthOf", "(LJuryDesk$Heat;I)I"⟩
abbrev b_R_mostPairs : ByteArray := prog_5_method_8_code
def y_R_mostPairs : MethodName := ⟨"JuryDesk$Rows", "mostPairs", "(LJuryDesk$Heat;II)I"⟩
abbrev b_R_pairUp : ByteArray := prog_5_method_9_code
def y_R_pairUp : MethodName := ⟨"JuryDesk$Rows", "pairUp", "(LJuryDesk$Heat;II)Z"⟩
abbrev b_R_changePartners : ByteArray := prog_5_method_10_code
def y_R_changePartners : MethodName := ⟨"JuryDesk$Rows", "changePartners", "(I)V"⟩
abbrev b_R_chooseFollowers : ByteArray := prog_5_method_4_code
def y_R_chooseFollowers : MethodName := ⟨"JuryDesk$Rows", "chooseFollowers", "(LJuryDesk$Heat;)V"⟩
abbrev b_R_leastFollower : ByteArray := prog_5_method_5_code
def y_R_leastFollower : MethodName := ⟨"JuryDesk$Rows", "leastFollower", "(LJuryDesk$Heat;IIII)I"⟩
abbrev b_R_chooseTie : ByteArray := prog_5_method_6_code
def y_R_chooseTie : MethodName := ⟨"JuryDesk$Rows", "chooseTie", "(LJuryDesk$Heat;)V"⟩
abbrev b_K_tieEntry : ByteArray := prog_1_method_20_code
def y_K_tieEntry : MethodName := ⟨"JuryDesk", "tieEntry", "(II)I"⟩
abbrev b_R_tied : ByteArray := prog_5_method_3_code
def y_R_tied : MethodName := ⟨"JuryDesk$Rows", "tied", "(I)I"⟩
abbrev b_K_chains : ByteArray := prog_1_method_21_code
def y_K_chains : MethodName := ⟨"JuryDesk", "chains", "(I)I"⟩
abbrev b_K_follows : ByteArray := prog_1_method_22_code
def y_K_follows : MethodName := ⟨"JuryDesk", "follows", "(II)I"⟩
abbrev b_K_count : ByteArray := prog_1_method_23_code
def y_K_count : MethodName := ⟨"JuryDesk", "count", "(II)I"⟩
abbrev b_H_verdictsInForce : ByteArray := prog_2_method_10_code
def y_H_verdictsInForce : MethodName := ⟨"JuryDesk$Heat", "verdictsInForce", "()I"⟩
abbrev b_H_settledPairs : ByteArray := prog_2_method_11_code
def y_H_settledPairs : MethodName := ⟨"JuryDesk$Heat", "settledPairs", "()I"⟩
abbrev b_K_heat : ByteArray := prog_1_method_2_code
def y_K_heat : MethodName := ⟨"JuryDesk", "heat", "(II)V"⟩
abbrev b_H_init : ByteArray := prog_2_method_1_code
def y_H_init : MethodName := ⟨"JuryDesk$Heat", "<init>", "()V"⟩
abbrev b_T_init : ByteArray := prog_6_method_1_code
def y_T_init : MethodName := ⟨"JuryDesk$Tally", "<init>", "()V"⟩
abbrev b_R_init : ByteArray := prog_5_method_1_code
def y_R_init : MethodName := ⟨"JuryDesk$Rows", "<init>", "()V"⟩
abbrev b_H_begin : ByteArray := prog_2_method_2_code
def y_H_begin : MethodName := ⟨"JuryDesk$Heat", "begin", "(I)V"⟩
abbrev b_K_chance : ByteArray := prog_1_method_14_code
def y_K_chance : MethodName := ⟨"JuryDesk", "chance", "(JJZ)J"⟩
abbrev b_K_give : ByteArray := prog_1_method_16_code
def y_K_give : MethodName := ⟨"JuryDesk", "give", "(II)I"⟩
abbrev b_M_init : ByteArray := prog_8_method_1_code
def y_M_init : MethodName := ⟨"JuryDeskModel", "<init>", "()V"⟩
abbrev b_M_thrown : ByteArray := prog_8_method_21_code
def y_M_thrown : MethodName := ⟨"JuryDeskModel", "thrown", "()I"⟩
abbrev b_M_heat : ByteArray := prog_8_method_22_code
def y_M_heat : MethodName := ⟨"JuryDeskModel", "heat", "(II)V"⟩
abbrev b_M_better : ByteArray := prog_8_method_23_code
def y_M_better : MethodName := ⟨"JuryDeskModel", "better", "(III)I"⟩
abbrev b_M_there : ByteArray := prog_8_method_2_code
def y_M_there : MethodName := ⟨"JuryDeskModel", "there", "(II)Z"⟩
abbrev b_M_settle : ByteArray := prog_8_method_5_code
def y_M_settle : MethodName := ⟨"JuryDeskModel", "settle", "(I)V"⟩
abbrev b_M_inForce : ByteArray := prog_8_method_4_code
def y_M_inForce : MethodName := ⟨"JuryDeskModel", "inForce", "(II)Z"⟩
abbrev b_M_findWhy : ByteArray := prog_8_method_9_code
def y_M_findWhy : MethodName := ⟨"JuryDeskModel", "findWhy", "(III)V"⟩
abbrev b_M_whyLast : ByteArray := prog_8_method_24_code
def y_M_whyLast : MethodName := ⟨"JuryDeskModel", "whyLast", "()I"⟩
abbrev b_M_why : ByteArray := prog_8_method_25_code
def y_M_why : MethodName := ⟨"JuryDeskModel", "why", "(I)I"⟩
abbrev b_M_withdraw : ByteArray := prog_8_method_26_code
def y_M_withdraw : MethodName := ⟨"JuryDeskModel", "withdraw", "(II)Z"⟩
abbrev b_M_isHeat : ByteArray := prog_8_method_3_code
def y_M_isHeat : MethodName := ⟨"JuryDeskModel", "isHeat", "(I)Z"⟩
abbrev b_M_scratch : ByteArray := prog_8_method_27_code
def y_M_scratch : MethodName := ⟨"JuryDeskModel", "scratch", "(II)Z"⟩
abbrev b_M_bits : ByteArray := prog_8_method_8_code
def y_M_bits : MethodName := ⟨"JuryDeskModel", "bits", "(I)I"⟩
abbrev b_M_settled : ByteArray := prog_8_method_28_code
def y_M_settled : MethodName := ⟨"JuryDeskModel", "settled", "(III)Z"⟩
abbrev b_M_direct : ByteArray := prog_8_method_29_code
def y_M_direct : MethodName := ⟨"JuryDeskModel", "direct", "(III)Z"⟩
abbrev b_M_orders : ByteArray := prog_8_method_30_code
def y_M_orders : MethodName := ⟨"JuryDeskModel", "orders", "(I)J"⟩
abbrev b_M_countAll : ByteArray := prog_8_method_7_code
def y_M_countAll : MethodName := ⟨"JuryDeskModel", "countAll", "(I)V"⟩
abbrev b_M_mayCome : ByteArray := prog_8_method_6_code
def y_M_mayCome : MethodName := ⟨"JuryDeskModel", "mayCome", "(II)Z"⟩
abbrev b_M_atRank : ByteArray := prog_8_method_31_code
def y_M_atRank : MethodName := ⟨"JuryDeskModel", "atRank", "(III)J"⟩
abbrev b_M_rank : ByteArray := prog_8_method_20_code
def y_M_rank : MethodName := ⟨"JuryDeskModel", "rank", "(III)J"⟩
abbrev b_M_before : ByteArray := prog_8_method_32_code
def y_M_before : MethodName := ⟨"JuryDeskModel", "before", "(III)J"⟩
abbrev b_M_meanRank : ByteArray := prog_8_method_33_code
def y_M_meanRank : MethodName := ⟨"JuryDeskModel", "meanRank", "(IIZ)J"⟩
abbrev b_M_common : ByteArray := prog_8_method_18_code
def y_M_common : MethodName := ⟨"JuryDeskModel", "common", "(JJ)J"⟩
abbrev b_M_chance : ByteArray := prog_8_method_34_code
def y_M_chance : MethodName := ⟨"JuryDeskModel", "chance", "(JJZ)J"⟩
abbrev b_M_order : ByteArray := prog_8_method_35_code
def y_M_order : MethodName := ⟨"JuryDeskModel", "order", "(IJI)I"⟩
abbrev b_M_give : ByteArray := prog_8_method_36_code
def y_M_give : MethodName := ⟨"JuryDeskModel", "give", "(II)I"⟩
abbrev b_M_numberOf : ByteArray := prog_8_method_37_code
def y_M_numberOf : MethodName := ⟨"JuryDeskModel", "numberOf", "(I)J"⟩
abbrev b_M_ask : ByteArray := prog_8_method_38_code
def y_M_ask : MethodName := ⟨"JuryDeskModel", "ask", "(II)I"⟩
abbrev b_M_pairs : ByteArray := prog_8_method_19_code
def y_M_pairs : MethodName := ⟨"JuryDeskModel", "pairs", "(I)V"⟩
abbrev b_M_tie : ByteArray := prog_8_method_39_code
def y_M_tie : MethodName := ⟨"JuryDeskModel", "tie", "(I)I"⟩
abbrev b_M_widest : ByteArray := prog_8_method_15_code
def y_M_widest : MethodName := ⟨"JuryDeskModel", "widest", "(I)V"⟩
abbrev b_M_apart : ByteArray := prog_8_method_16_code
def y_M_apart : MethodName := ⟨"JuryDeskModel", "apart", "(I)Z"⟩
abbrev b_M_earlier : ByteArray := prog_8_method_17_code
def y_M_earlier : MethodName := ⟨"JuryDeskModel", "earlier", "(II)Z"⟩
abbrev b_M_tieEntry : ByteArray := prog_8_method_40_code
def y_M_tieEntry : MethodName := ⟨"JuryDeskModel", "tieEntry", "(II)I"⟩
abbrev b_M_chains : ByteArray := prog_8_method_41_code
def y_M_chains : MethodName := ⟨"JuryDeskModel", "chains", "(I)I"⟩
abbrev b_M_rows : ByteArray := prog_8_method_13_code
def y_M_rows : MethodName := ⟨"JuryDeskModel", "rows", "(I)I"⟩
abbrev b_M_most : ByteArray := prog_8_method_12_code
def y_M_most : MethodName := ⟨"JuryDeskModel", "most", "(I)I"⟩
abbrev b_M_grow : ByteArray := prog_8_method_10_code
def y_M_grow : MethodName := ⟨"JuryDeskModel", "grow", "(I)Z"⟩
abbrev b_M_turnAbout : ByteArray := prog_8_method_11_code
def y_M_turnAbout : MethodName := ⟨"JuryDeskModel", "turnAbout", "(I)V"⟩
abbrev b_M_free : ByteArray := prog_8_method_14_code
def y_M_free : MethodName := ⟨"JuryDeskModel", "free", "(II)Z"⟩
abbrev b_M_follows : ByteArray := prog_8_method_42_code
def y_M_follows : MethodName := ⟨"JuryDeskModel", "follows", "(II)I"⟩
abbrev b_M_count : ByteArray := prog_8_method_43_code
def y_M_count : MethodName := ⟨"JuryDeskModel", "count", "(II)I"⟩
end
section
/-! Pure functions of the methods: what they are made of. Stores: I k j is the j-th int of the k-th int array (or number field), J the same for longs. -/
abbrev IS : Type := Nat → Nat → Int32
abbrev JS : Type := Nat → Nat → Int64
def sI (I : IS) (k i : Nat) (x : Int32) : IS := fun k' => cond (Nat.beq k' k) (upd (I k) i x) (I k')
def sV (I : IS) (k : Nat) (x : Int32) : IS := fun k' => cond (Nat.beq k' k) (fun _ => x) (I k')
def sJ (J : JS) (k i : Nat) (x : Int64) : JS := fun k' => cond (Nat.beq k' k) (vp_updL (J k) i x) (J k')
def sL (J : JS) (k : Nat) (x : Int64) : JS := fun k' => cond (Nat.beq k' k) (fun _ => x) (J k')
def inB (i : Int32) (n : Nat) : Bool := !(decide (i < 0)) && decide (i.toNatClampNeg < n)
theorem inB_in {i : Int32} {n : Nat} (h : inB i n = true) : vp_in i n := by
  simp only [inB, Bool.and_eq_true, Bool.not_eq_true', decide_eq_false_iff_not, decide_eq_true_eq] at h
  exact fun q => q.elim h.1 (fun q => Nat.not_le.mpr h.2 q)
def bnd {α β : Type} (a : α) (f : α → Option β) : Option β := f a
theorem bnd_ex {α β : Type} {a : α} {f : α → Option β} {r : β} (h : bnd a f = some r) : ∃ x, x = a ∧ f x = some r := ⟨a, rfl, h⟩
def grd {β : Type} (b : Bool) (t : Option β) : Option β := cond b t none
theorem grd_ex {β : Type} {b : Bool} {t : Option β} {r : β} (h : grd b t = some r) : b = true ∧ t = some r := by
  cases b with
  | false => cases h
  | true => exact ⟨rfl, h⟩
theorem ifp {β : Type} {c : Prop} [Decidable c] {a b : Option β} {r : β} (h : (if c then a else b) = some r) (hc : c) : a = some r := by rw [if_pos hc] at h; exact h
theorem ifn {β : Type} {c : Prop} [Decidable c] {a b : Option β} {r : β} (h : (if c then a else b) = some r) (hc : ¬ c) : b = some r := by rw [if_neg hc] at h; exact h
def iter {σ : Type} (step : σ → Option (Nat × σ)) : Nat → σ → Option (Nat × σ)
  | 0, _ => none
  | n + 1, z => match step z with
    | none => none
    | some (0, z') => iter step n z'
    | some (k + 1, z') => some (k + 1, z')
theorem iter_ind {σ : Type} {step : σ → Option (Nat × σ)} {r : Nat × σ} (C : σ → Prop) (h : ∀ z o, step z = some o → (o.1 = 0 → C o.2) → (o.1 ≠ 0 → o = r) → C z) : ∀ n z, iter step n z = some r → C z := by
  intro n
  induction n with
  | zero => intro z hz; cases hz
  | succ n ih =>
    intro z hz
    unfold iter at hz
    cases hs : step z with
    | none => rw [hs] at hz; cases hz
    | some o =>
      rw [hs] at hz
      obtain ⟨k, z'⟩ := o
      cases k with
      | zero => exact h z _ hs (fun _ => ih z' hz) (fun q => absurd rfl q)
      | succ k => exact h z _ hs (fun q => by cases q) (fun _ => Option.some.inj hz)
def FU : Nat := 70000
def ob1 {A1 B : Type} (a : Option (A1)) (f : A1 → Option B) : Option B := a.bind fun o => f o
theorem ob1_ex {A1 B : Type} {a : Option (A1)} {f : A1 → Option B} {r : B} (h : ob1 a f = some r) : ∃ x1, a = some x1 ∧ f x1 = some r := by
  cases a with
  | none => cases h
  | some o => exact ⟨o, rfl, h⟩
def ob2 {A1 A2 B : Type} (a : Option (A1 × A2)) (f : A1 → A2 → Option B) : Option B := a.bind fun o => f o.1 o.2
theorem ob2_ex {A1 A2 B : Type} {a : Option (A1 × A2)} {f : A1 → A2 → Option B} {r : B} (h : ob2 a f = some r) : ∃ x1 x2, a = some (x1, x2) ∧ f x1 x2 = some r := by
  cases a with
  | none => cases h
  | some o => exact ⟨o.1, o.2, rfl, h⟩
def ob3 {A1 A2 A3 B : Type} (a : Option (A1 × A2 × A3)) (f : A1 → A2 → A3 → Option B) : Option B := a.bind fun o => f o.1 o.2.1 o.2.2
theorem ob3_ex {A1 A2 A3 B : Type} {a : Option (A1 × A2 × A3)} {f : A1 → A2 → A3 → Option B} {r : B} (h : ob3 a f = some r) : ∃ x1 x2 x3, a = some (x1, x2, x3) ∧ f x1 x2 x3 = some r := by
  cases a with
  | none => cases h
  | some o => exact ⟨o.1, o.2.1, o.2.2, rfl, h⟩
def ob4 {A1 A2 A3 A4 B : Type} (a : Option (A1 × A2 × A3 × A4)) (f : A1 → A2 → A3 → A4 → Option B) : Option B := a.bind fun o => f o.1 o.2.1 o.2.2.1 o.2.2.2
theorem ob4_ex {A1 A2 A3 A4 B : Type} {a : Option (A1 × A2 × A3 × A4)} {f : A1 → A2 → A3 → A4 → Option B} {r : B} (h : ob4 a f = some r) : ∃ x1 x2 x3 x4, a = some (x1, x2, x3, x4) ∧ f x1 x2 x3 x4 = some r := by
  cases a with
  | none => cases h
  | some o => exact ⟨o.1, o.2.1, o.2.2.1, o.2.2.2, rfl, h⟩
def ob5 {A1 A2 A3 A4 A5 B : Type} (a : Option (A1 × A2 × A3 × A4 × A5)) (f : A1 → A2 → A3 → A4 → A5 → Option B) : Option B := a.bind fun o => f o.1 o.2.1 o.2.2.1 o.2.2.2.1 o.2.2.2.2
theorem ob5_ex {A1 A2 A3 A4 A5 B : Type} {a : Option (A1 × A2 × A3 × A4 × A5)} {f : A1 → A2 → A3 → A4 → A5 → Option B} {r : B} (h : ob5 a f = some r) : ∃ x1 x2 x3 x4 x5, a = some (x1, x2, x3, x4, x5) ∧ f x1 x2 x3 x4 x5 = some r := by
  cases a with
  | none => cases h
  | some o => exact ⟨o.1, o.2.1, o.2.2.1, o.2.2.2.1, o.2.2.2.2, rfl, h⟩
def ob6 {A1 A2 A3 A4 A5 A6 B : Type} (a : Option (A1 × A2 × A3 × A4 × A5 × A6)) (f : A1 → A2 → A3 → A4 → A5 → A6 → Option B) : Option B := a.bind fun o => f o.1 o.2.1 o.2.2.1 o.2.2.2.1 o.2.2.2.2.1 o.2.2.2.2.2
theorem ob6_ex {A1 A2 A3 A4 A5 A6 B : Type} {a : Option (A1 × A2 × A3 × A4 × A5 × A6)} {f : A1 → A2 → A3 → A4 → A5 → A6 → Option B} {r : B} (h : ob6 a f = some r) : ∃ x1 x2 x3 x4 x5 x6, a = some (x1, x2, x3, x4, x5, x6) ∧ f x1 x2 x3 x4 x5 x6 = some r := by
  cases a with
  | none => cases h
  | some o => exact ⟨o.1, o.2.1, o.2.2.1, o.2.2.2.1, o.2.2.2.2.1, o.2.2.2.2.2, rfl, h⟩
def ob7 {A1 A2 A3 A4 A5 A6 A7 B : Type} (a : Option (A1 × A2 × A3 × A4 × A5 × A6 × A7)) (f : A1 → A2 → A3 → A4 → A5 → A6 → A7 → Option B) : Option B := a.bind fun o => f o.1 o.2.1 o.2.2.1 o.2.2.2.1 o.2.2.2.2.1 o.2.2.2.2.2.1 o.2.2.2.2.2.2
theorem ob7_ex {A1 A2 A3 A4 A5 A6 A7 B : Type} {a : Option (A1 × A2 × A3 × A4 × A5 × A6 × A7)} {f : A1 → A2 → A3 → A4 → A5 → A6 → A7 → Option B} {r : B} (h : ob7 a f = some r) : ∃ x1 x2 x3 x4 x5 x6 x7, a = some (x1, x2, x3, x4, x5, x6, x7) ∧ f x1 x2 x3 x4 x5 x6 x7 = some r := by
  cases a with
  | none => cases h
  | some o => exact ⟨o.1, o.2.1, o.2.2.1, o.2.2.2.1, o.2.2.2.2.1, o.2.2.2.2.2.1, o.2.2.2.2.2.2, rfl, h⟩
def ob8 {A1 A2 A3 A4 A5 A6 A7 A8 B : Type} (a : Option (A1 × A2 × A3 × A4 × A5 × A6 × A7 × A8)) (f : A1 → A2 → A3 → A4 → A5 → A6 → A7 → A8 → Option B) : Option B := a.bind fun o => f o.1 o.2.1 o.2.2.1 o.2.2.2.1 o.2.2.2.2.1 o.2.2.2.2.2.1 o.2.2.2.2.2.2.1 o.2.2.2.2.2.2.2
theorem ob8_ex {A1 A2 A3 A4 A5 A6 A7 A8 B : Type} {a : Option (A1 × A2 × A3 × A4 × A5 × A6 × A7 × A8)} {f : A1 → A2 → A3 → A4 → A5 → A6 → A7 → A8 → Option B} {r : B} (h : ob8 a f = some r) : ∃ x1 x2 x3 x4 x5 x6 x7 x8, a = some (x1, x2, x3, x4, x5, x6, x7, x8) ∧ f x1 x2 x3 x4 x5 x6 x7 x8 = some r := by
  cases a with
  | none => cases h
  | some o => exact ⟨o.1, o.2.1, o.2.2.1, o.2.2.2.1, o.2.2.2.2.1, o.2.2.2.2.2.1, o.2.2.2.2.2.2.1, o.2.2.2.2.2.2.2, rfl, h⟩
def ob9 {A1 A2 A3 A4 A5 A6 A7 A8 A9 B : Type} (a : Option (A1 × A2 × A3 × A4 × A5 × A6 × A7 × A8 × A9)) (f : A1 → A2 → A3 → A4 → A5 → A6 → A7 → A8 → A9 → Option B) : Option B := a.bind fun o => f o.1 o.2.1 o.2.2.1 o.2.2.2.1 o.2.2.2.2.1 o.2.2.2.2.2.1 o.2.2.2.2.2.2.1 o.2.2.2.2.2.2.2.1 o.2.2.2.2.2.2.2.2
theorem ob9_ex {A1 A2 A3 A4 A5 A6 A7 A8 A9 B : Type} {a : Option (A1 × A2 × A3 × A4 × A5 × A6 × A7 × A8 × A9)} {f : A1 → A2 → A3 → A4 → A5 → A6 → A7 → A8 → A9 → Option B} {r : B} (h : ob9 a f = some r) : ∃ x1 x2 x3 x4 x5 x6 x7 x8 x9, a = some (x1, x2, x3, x4, x5, x6, x7, x8, x9) ∧ f x1 x2 x3 x4 x5 x6 x7 x8 x9 = some r := by
  cases a with
  | none => cases h
  | some o => exact ⟨o.1, o.2.1, o.2.2.1, o.2.2.2.1, o.2.2.2.2.1, o.2.2.2.2.2.1, o.2.2.2.2.2.2.1, o.2.2.2.2.2.2.2.1, o.2.2.2.2.2.2.2.2, rfl, h⟩
def ob10 {A1 A2 A3 A4 A5 A6 A7 A8 A9 A10 B : Type} (a : Option (A1 × A2 × A3 × A4 × A5 × A6 × A7 × A8 × A9 × A10)) (f : A1 → A2 → A3 → A4 → A5 → A6 → A7 → A8 → A9 → A10 → Option B) : Option B := a.bind fun o => f o.1 o.2.1 o.2.2.1 o.2.2.2.1 o.2.2.2.2.1 o.2.2.2.2.2.1 o.2.2.2.2.2.2.1 o.2.2.2.2.2.2.2.1 o.2.2.2.2.2.2.2.2.1 o.2.2.2.2.2.2.2.2.2
theorem ob10_ex {A1 A2 A3 A4 A5 A6 A7 A8 A9 A10 B : Type} {a : Option (A1 × A2 × A3 × A4 × A5 × A6 × A7 × A8 × A9 × A10)} {f : A1 → A2 → A3 → A4 → A5 → A6 → A7 → A8 → A9 → A10 → Option B} {r : B} (h : ob10 a f = some r) : ∃ x1 x2 x3 x4 x5 x6 x7 x8 x9 x10, a = some (x1, x2, x3, x4, x5, x6, x7, x8, x9, x10) ∧ f x1 x2 x3 x4 x5 x6 x7 x8 x9 x10 = some r := by
  cases a with
  | none => cases h
  | some o => exact ⟨o.1, o.2.1, o.2.2.1, o.2.2.2.1, o.2.2.2.2.1, o.2.2.2.2.2.1, o.2.2.2.2.2.2.1, o.2.2.2.2.2.2.2.1, o.2.2.2.2.2.2.2.2.1, o.2.2.2.2.2.2.2.2.2, rfl, h⟩
def ob11 {A1 A2 A3 A4 A5 A6 A7 A8 A9 A10 A11 B : Type} (a : Option (A1 × A2 × A3 × A4 × A5 × A6 × A7 × A8 × A9 × A10 × A11)) (f : A1 → A2 → A3 → A4 → A5 → A6 → A7 → A8 → A9 → A10 → A11 → Option B) : Option B := a.bind fun o => f o.1 o.2.1 o.2.2.1 o.2.2.2.1 o.2.2.2.2.1 o.2.2.2.2.2.1 o.2.2.2.2.2.2.1 o.2.2.2.2.2.2.2.1 o.2.2.2.2.2.2.2.2.1 o.2.2.2.2.2.2.2.2.2.1 o.2.2.2.2.2.2.2.2.2.2
theorem ob11_ex {A1 A2 A3 A4 A5 A6 A7 A8 A9 A10 A11 B : Type} {a : Option (A1 × A2 × A3 × A4 × A5 × A6 × A7 × A8 × A9 × A10 × A11)} {f : A1 → A2 → A3 → A4 → A5 → A6 → A7 → A8 → A9 → A10 → A11 → Option B} {r : B} (h : ob11 a f = some r) : ∃ x1 x2 x3 x4 x5 x6 x7 x8 x9 x10 x11, a = some (x1, x2, x3, x4, x5, x6, x7, x8, x9, x10, x11) ∧ f x1 x2 x3 x4 x5 x6 x7 x8 x9 x10 x11 = some r := by
  cases a with
  | none => cases h
  | some o => exact ⟨o.1, o.2.1, o.2.2.1, o.2.2.2.1, o.2.2.2.2.1, o.2.2.2.2.2.1, o.2.2.2.2.2.2.1, o.2.2.2.2.2.2.2.1, o.2.2.2.2.2.2.2.2.1, o.2.2.2.2.2.2.2.2.2.1, o.2.2.2.2.2.2.2.2.2.2, rfl, h⟩
def ob12 {A1 A2 A3 A4 A5 A6 A7 A8 A9 A10 A11 A12 B : Type} (a : Option (A1 × A2 × A3 × A4 × A5 × A6 × A7 × A8 × A9 × A10 × A11 × A12)) (f : A1 → A2 → A3 → A4 → A5 → A6 → A7 → A8 → A9 → A10 → A11 → A12 → Option B) : Option B := a.bind fun o => f o.1 o.2.1 o.2.2.1 o.2.2.2.1 o.2.2.2.2.1 o.2.2.2.2.2.1 o.2.2.2.2.2.2.1 o.2.2.2.2.2.2.2.1 o.2.2.2.2.2.2.2.2.1 o.2.2.2.2.2.2.2.2.2.1 o.2.2.2.2.2.2.2.2.2.2.1 o.2.2.2.2.2.2.2.2.2.2.2
theorem ob12_ex {A1 A2 A3 A4 A5 A6 A7 A8 A9 A10 A11 A12 B : Type} {a : Option (A1 × A2 × A3 × A4 × A5 × A6 × A7 × A8 × A9 × A10 × A11 × A12)} {f : A1 → A2 → A3 → A4 → A5 → A6 → A7 → A8 → A9 → A10 → A11 → A12 → Option B} {r : B} (h : ob12 a f = some r) : ∃ x1 x2 x3 x4 x5 x6 x7 x8 x9 x10 x11 x12, a = some (x1, x2, x3, x4, x5, x6, x7, x8, x9, x10, x11, x12) ∧ f x1 x2 x3 x4 x5 x6 x7 x8 x9 x10 x11 x12 = some r := by
  cases a with
  | none => cases h
  | some o => exact ⟨o.1, o.2.1, o.2.2.1, o.2.2.2.1, o.2.2.2.2.1, o.2.2.2.2.2.1, o.2.2.2.2.2.2.1, o.2.2.2.2.2.2.2.1, o.2.2.2.2.2.2.2.2.1, o.2.2.2.2.2.2.2.2.2.1, o.2.2.2.2.2.2.2.2.2.2.1, o.2.2.2.2.2.2.2.2.2.2.2, rfl, h⟩
/-! Rows over the kit's -/
/-- what a method takes as given of the state it begins in -/
def pW (D : va_G) (cl : List vw_C) (tys : List (ClassId × FieldType)) (N : State → Prop) (w : va_W) (sz : Nat) (U : State) : Prop := U.heap.size = sz ∧ va_P D cl w U.heap ∧ va_K D cl tys U ∧ va_D (fun _ => True) w ∧ N U
def CtI (l : Launch) (y : MethodName) (ws : List Cond) (rm : Room) (av : List Value) (D : va_G) (cl : List vw_C) (tys : List (ClassId × FieldType)) (N : State → Prop) (w w1 : va_W) (r1 : Int32) : Prop := ∀ sz : Nat, Met l y ws rm (va_Pc av (pW D cl tys N w sz)) (va_Qi (fun r (_ : Unit) => r = r1) (fun _ t => va_P D cl w1 t.heap) (va_A w sz)) 0 0 (va_A w sz)
def CtL (l : Launch) (y : MethodName) (ws : List Cond) (rm : Room) (av : List Value) (D : va_G) (cl : List vw_C) (tys : List (ClassId × FieldType)) (N : State → Prop) (w w1 : va_W) (r1 : Int64) : Prop := ∀ sz : Nat, Met l y ws rm (va_Pc av (pW D cl tys N w sz)) (va_Ql (fun r (_ : Unit) => r = r1) (fun _ t => va_P D cl w1 t.heap) (va_A w sz)) 0 0 (va_A w sz)
def CtV (l : Launch) (y : MethodName) (ws : List Cond) (rm : Room) (av : List Value) (D : va_G) (cl : List vw_C) (tys : List (ClassId × FieldType)) (N : State → Prop) (w w1 : va_W) : Prop := ∀ sz : Nat, Met l y ws rm (va_Pc av (pW D cl tys N w sz)) (va_Qv (fun (_ : Unit) => True) (fun _ t => va_P D cl w1 t.heap) (va_A w sz)) 0 0 (va_A w sz)
def CtQ (l : Launch) (y : MethodName) (ws : List Cond) (rm : Room) (av : List Value) (D : va_G) (cl : List vw_C) (tys : List (ClassId × FieldType)) (N : State → Prop) (w w1 : va_W) (r1 : Option Nat) : Prop := ∀ sz : Nat, Met l y ws rm (va_Pc av (pW D cl tys N w sz)) (va_Qq (fun r (_ : Unit) => r = r1) (fun _ t => va_P D cl w1 t.heap) (va_A w sz)) 0 0 (va_A w sz)
/-- a set of words that stays: as nest words do -/
def nW (L : List Cond) (U : State) : Prop := ∀ w ∈ L, va_Nw w U
section JDW
variable {p : Program} {l : Launch} {e : Env} {R : Room} {s : State} {m : MethodId} {args : Array Value} {below : List Frame} {meth : Method} {c : Code} {H : Heap} {locs : List Loc} {cells slots : Nat} {Q : State → Prop}
variable {cc : ByteArray} {pc : Nat} {ls : Array Slot} {rest st0 : List Value} {D : va_G} {cl : List vw_C} {A : Nat → Prop} {a : Nat} {tys : List (ClassId × FieldType)} {H0 : Heap} {N : State → Prop}
theorem jd_free {w : va_W} (hD : va_D A w) (hS : va_S A H0 H locs) (hA : ∀ q, H0.size ≤ q → A q) : ∀ q, va_A w H.size q → A q := by
  intro q h
  rcases h with ⟨k, e, h⟩ | h
  · exact hD.2 k (q, e) h
  · exact hA q (Nat.le_trans hS.1 h)
theorem jd_blind {av : List Value} {w : va_W} {sz : Nat} (hN : ∀ (U : State) (g : JFrame) (mk : MethodId) (a : Array Value), N U → N (U.calling g mk a)) : FrameBlind (va_Pc av (pW D cl tys N w sz)) := fun a U g mk q => by
  obtain ⟨q0, q1, qP, qK, qD, qN⟩ := q
  exact ⟨q0, q1, qP, va_K.moved (u := U) (U := U.calling g mk a) (Vm.Alike.refl U.vm) qK, qD, hN U g mk a qN⟩
theorem jd_pre {av : List Value} {w : va_W} (hP : va_P D cl w H) (hK : va_K D cl tys s) (hD : va_D A w) (hN : ∀ U : State, s.WarmedH U.vm → N U) : ∀ U : State, U.heap = H → s.WarmedH U.vm → va_Pc av (pW D cl tys N w H.size) av.toArray U := fun U hU hW =>
  ⟨rfl, by rw [hU], by rw [hU]; exact hP, va_K.moved hW.alike hK, hD.weaken (fun _ _ _ _ => trivial), hN U hW⟩
theorem jd_tni {x y : Int32} (h : y = x) (k : W p l e R s m args below meth c H locs cells slots Q (F0 m pc ls (.int y :: rest))) : W p l e R s m args below meth c H locs cells slots Q (F0 m pc ls (.int x :: rest)) := h ▸ k
theorem jd_tnl {x y : Int64} (h : y = x) (k : W p l e R s m args below meth c H locs cells slots Q (F0 m pc ls (.long y :: rest))) : W p l e R s m args below meth c H locs cells slots Q (F0 m pc ls (.long x :: rest)) := h ▸ k
theorem jd_ci {w w1 : va_W} {r1 : Int32} {av : Array Value} (hr : va_Run p l e R s m args below meth c H locs cells slots 0 0 (F0 m pc ls st0) rest (va_Qi (fun r (_ : Unit) => r = r1) (fun _ t => va_P D cl w1 t.heap) (va_A w H.size) av) (va_A w H.size)) (hS : va_S A H0 H locs) (hD : va_D A w) (hA : ∀ q, H0.size ≤ q → A q)
    (kk : ∀ (H1 : Heap) (locs1 : List Loc), va_P D cl w1 H1 → va_S A H0 H1 locs1 → W p l e R s m args below meth c H1 locs1 cells slots Q (F0 m (pc + 3) ls (.int r1 :: rest))) : W p l e R s m args below meth c H locs cells slots Q (F0 m pc ls st0) :=
  va_calli hr hS (fun q _ h => jd_free hD hS hA q h) (jd_free hD hS hA) (fun r _ t H1 locs1 ht _ hp hB _ _ hS1 => by subst hp; subst ht; exact kk _ _ hB hS1)
theorem jd_cl {w w1 : va_W} {r1 : Int64} {av : Array Value} (hr : va_Run p l e R s m args below meth c H locs cells slots 0 0 (F0 m pc ls st0) rest (va_Ql (fun r (_ : Unit) => r = r1) (fun _ t => va_P D cl w1 t.heap) (va_A w H.size) av) (va_A w H.size)) (hS : va_S A H0 H locs) (hD : va_D A w) (hA : ∀ q, H0.size ≤ q → A q)
    (kk : ∀ (H1 : Heap) (locs1 : List Loc), va_P D cl w1 H1 → va_S A H0 H1 locs1 → W p l e R s m args below meth c H1 locs1 cells slots Q (F0 m (pc + 3) ls (.long r1 :: rest))) : W p l e R s m args below meth c H locs cells slots Q (F0 m pc ls st0) :=
  va_calll hr hS (fun q _ h => jd_free hD hS hA q h) (jd_free hD hS hA) (fun r _ t H1 locs1 ht _ hp hB _ _ hS1 => by subst hp; subst ht; exact kk _ _ hB hS1)
theorem jd_cv {w w1 : va_W} {av : Array Value} (hr : va_Run p l e R s m args below meth c H locs cells slots 0 0 (F0 m pc ls st0) rest (va_Qv (fun (_ : Unit) => True) (fun _ t => va_P D cl w1 t.heap) (va_A w H.size) av) (va_A w H.size)) (hS : va_S A H0 H locs) (hD : va_D A w) (hA : ∀ q, H0.size ≤ q → A q)
    (kk : ∀ (H1 : Heap) (locs1 : List Loc), va_P D cl w1 H1 → va_S A H0 H1 locs1 → W p l e R s m args below meth c H1 locs1 cells slots Q (F0 m (pc + 3) ls rest)) : W p l e R s m args below meth c H locs cells slots Q (F0 m pc ls st0) :=
  va_callv hr hS (fun q _ h => jd_free hD hS hA q h) (jd_free hD hS hA) (fun _ t H1 locs1 ht _ _ hB _ _ hS1 => by subst ht; exact kk _ _ hB hS1)
theorem jd_cq {w w1 : va_W} {r1 : Option Nat} {av : Array Value} (hr : va_Run p l e R s m args below meth c H locs cells slots 0 0 (F0 m pc ls st0) rest (va_Qq (fun r (_ : Unit) => r = r1) (fun _ t => va_P D cl w1 t.heap) (va_A w H.size) av) (va_A w H.size)) (hS : va_S A H0 H locs) (hD : va_D A w) (hA : ∀ q, H0.size ≤ q → A q)
    (kk : ∀ (H1 : Heap) (locs1 : List Loc), va_P D cl w1 H1 → va_S A H0 H1 locs1 → W p l e R s m args below meth c H1 locs1 cells slots Q (F0 m (pc + 3) ls (va_rf r1 :: rest))) : W p l e R s m args below meth c H locs cells slots Q (F0 m pc ls st0) :=
  va_callq hr hS (fun q _ h => jd_free hD hS hA q h) (jd_free hD hS hA) (fun r _ t H1 locs1 ht _ hp hB _ _ hS1 => by subst hp; subst ht; exact kk _ _ hB hS1)
theorem jd_iret {w1 : va_W} {r1 : Int32} (hx : p.tables.exec = Jvm.exec) (hb : c.code = cc) (hr : meth.sig.returnType = some .int) (hlk : meth.locks = false) (hP : va_P D cl w1 H) (hS : va_S A s.heap H locs) (hdg : decode cc pc = .ok (.ireturn, 1)) : W p l e R s m args below meth c H locs cells slots (MQ below (va_Qi (fun r (_ : Unit) => r = r1) (fun _ t => va_P D cl w1 t.heap) A) args s cells slots A) (F0 m pc ls [.int r1]) :=
  W.iret (v := r1) hx hb hr (fun t ht hW => ⟨⟨r1, (), rfl, rfl, (by show va_P D cl w1 t.heap; rw [ht]; exact hP)⟩, hS.F ht⟩) hS.2.2 hdg hlk
theorem jd_zret {w1 : va_W} {r1 : Int32} (hx : p.tables.exec = Jvm.exec) (hb : c.code = cc) (hr : meth.sig.returnType = some .boolean) (hlk : meth.locks = false) (hn : narrow .boolean (.int r1) = .int r1) (hP : va_P D cl w1 H) (hS : va_S A s.heap H locs) (hdg : decode cc pc = .ok (.ireturn, 1)) : W p l e R s m args below meth c H locs cells slots (MQ below (va_Qi (fun r (_ : Unit) => r = r1) (fun _ t => va_P D cl w1 t.heap) A) args s cells slots A) (F0 m pc ls [.int r1]) :=
  W.zret (v := r1) hx hb hr hn (fun t ht hW => ⟨⟨r1, (), rfl, rfl, (by show va_P D cl w1 t.heap; rw [ht]; exact hP)⟩, hS.F ht⟩) hS.2.2 hdg hlk
theorem jd_lret {w1 : va_W} {r1 : Int64} (hx : p.tables.exec = Jvm.exec) (hb : c.code = cc) (hr : meth.sig.returnType = some .long) (hlk : meth.locks = false) (hP : va_P D cl w1 H) (hS : va_S A s.heap H locs) (hdg : decode cc pc = .ok (.lreturn, 1)) : W p l e R s m args below meth c H locs cells slots (MQ below (va_Ql (fun r (_ : Unit) => r = r1) (fun _ t => va_P D cl w1 t.heap) A) args s cells slots A) (F0 m pc ls [.long r1]) :=
  W.lret (v := r1) hx hb hr (fun t ht hW => ⟨⟨r1, (), rfl, rfl, (by show va_P D cl w1 t.heap; rw [ht]; exact hP)⟩, hS.F ht⟩) hS.2.2 hdg hlk
theorem jd_vret {w1 : va_W} (hx : p.tables.exec = Jvm.exec) (hb : c.code = cc) (hr : meth.sig.returnType = none) (hlk : meth.locks = false) (hP : va_P D cl w1 H) (hS : va_S A s.heap H locs) (hdg : decode cc pc = .ok (.return_, 1)) : W p l e R s m args below meth c H locs cells slots (MQ below (va_Qv (fun (_ : Unit) => True) (fun _ t => va_P D cl w1 t.heap) A) args s cells slots A) (F0 m pc ls []) :=
  W.vret hx hb hr (fun t ht hW => ⟨⟨(), rfl, trivial, (by show va_P D cl w1 t.heap; rw [ht]; exact hP)⟩, hS.F ht⟩) hS.2.2 hdg hlk
theorem jd_aret {w1 : va_W} {r1 : Option Nat} {rt : FieldType} (hx : p.tables.exec = Jvm.exec) (hb : c.code = cc) (hr : meth.sig.returnType = some rt) (hrt : (∃ n, rt = .object n) ∨ ∃ t, rt = .array t) (hlk : meth.locks = false) (hP : va_P D cl w1 H) (hS : va_S A s.heap H locs) (hdg : decode cc pc = .ok (.areturn, 1)) : W p l e R s m args below meth c H locs cells slots (MQ below (va_Qq (fun r (_ : Unit) => r = r1) (fun _ t => va_P D cl w1 t.heap) A) args s cells slots A) (F0 m pc ls [va_rf r1]) :=
  W.aret (v := va_rf r1) hx hb hr hrt (va_rf_or r1) (fun t ht hW => ⟨⟨r1, (), rfl, rfl, (by show va_P D cl w1 t.heap; rw [ht]; exact hP)⟩, hS.F ht⟩) hS.2.2 hdg hlk
theorem jd_aldS (hexec : p.tables.exec = Jvm.exec) (hb : c.code = cc) {ws : va_W} (hK : va_K D cl tys s) (hP : va_P D cl ws H) (q0 t0 : Nat) {cA : ClassId} {C : String} {n b : Nat} {f : Nat → Option Nat} (ha : ws[q0]? = some (a, .inl (cA, n, .inr (.inr (.inr (.inr f)))))) (ht : tys[t0]? = some (cA, .object C)) {i : Int32} (hin : vp_in i n) (hf : f i.toNatClampNeg = some b) (hdg : decode cc pc = .ok (.aaload, 1))
    (kk : W p l e R s m args below meth c H locs cells slots Q (F0 m (pc + 1) ls (.ref b :: rest))) : W p l e R s m args below meth c H locs cells slots Q (F0 m pc ls (.int i :: .ref a :: rest)) :=
  va_aldq hexec hb hK hP q0 t0 ha ht hin hdg (by rw [hf]; exact kk)
theorem jd_aldN (hexec : p.tables.exec = Jvm.exec) (hb : c.code = cc) {ws : va_W} (hK : va_K D cl tys s) (hP : va_P D cl ws H) (q0 t0 : Nat) {cA : ClassId} {C : String} {n : Nat} {f : Nat → Option Nat} (ha : ws[q0]? = some (a, .inl (cA, n, .inr (.inr (.inr (.inr f)))))) (ht : tys[t0]? = some (cA, .object C)) {i : Int32} (hin : vp_in i n) (hf : f i.toNatClampNeg = none) (hdg : decode cc pc = .ok (.aaload, 1))
    (kk : W p l e R s m args below meth c H locs cells slots Q (F0 m (pc + 1) ls (.null :: rest))) : W p l e R s m args below meth c H locs cells slots Q (F0 m pc ls (.int i :: .ref a :: rest)) :=
  va_aldq hexec hb hK hP q0 t0 ha ht hin hdg (by rw [hf]; exact kk)
theorem jd_sw {x : Int32} {n : Nat} {lo : Int} (h : x = nI n) (hn : n < 2 ^ 31) (hlo : lo = 0) : (x.toInt - lo).toNat = n := by
  rw [h, nI_toInt hn, hlo]; omega
theorem jd_newa {ws : va_W} (hexec : p.tables.exec = Jvm.exec) (hb : c.code = cc) {atype : ArrayType} (harr : (Cond.arrayClass (newarray.typeOf atype)).before args s = true) {ty : FieldType} (hty : newarray.typeOf atype = ty) (hra : ∀ (U : State) (cA : ClassId), va_RA U cA ty → U.vm.findClass ("[" ++ ty.toString) = some cA) (hK : va_K D cl tys s) (hP : va_P D cl ws H) (hD : va_D A ws) (hS : va_S A H0 H locs) (hA : ∀ q, H0.size ≤ q → A q) (t0 : Nat) {cA : ClassId} (ht : tys[t0]? = some (cA, ty))
    {n : Int32} {N' : Nat} {a0 : vp_A} (ha : ∀ cA : ClassId, vp_cell cA a0 = arrV cA N' (fun _ => defaultValue ty)) (hn : ¬ n < 0) (hN : n.toNatClampNeg = N') (hbytes : N' * componentBytes ty ≤ 536870912) (hcells : cells + 1 ≤ R.cells) (hslots : slots + N' ≤ R.slots) (hdg : decode cc pc = .ok (.newarray atype, 2)) {c' s' : Nat} (hc' : cells + 1 = c') (hs' : slots + N' = s')
    (kk : ∀ (q : Nat) (H1 : Heap), va_P D cl (ws ++ [(q, .inl (cA, a0))]) H1 → va_D A (ws ++ [(q, .inl (cA, a0))]) → va_S A H0 H1 locs → W p l e R s m args below meth c H1 locs c' s' Q (F0 m (pc + 2) ls (.ref q :: rest))) : W p l e R s m args below meth c H locs cells slots Q (F0 m pc ls (.int n :: rest)) :=
  va_newa hexec hb harr hty hK hP hD hS hA ha hn hN hbytes hcells hslots hdg (fun q cA2 H1 hK2 hP hD hS => by
    have h1 := hra _ _ (hK2.2 tys.length (cA2, ty) (by simp)).2
    have h2 := hra _ _ (hK.2 t0 _ ht).2
    have e : cA2 = cA := Option.some.inj (h1.symm.trans h2)
    subst e; subst hc'; subst hs'
    exact kk q H1 hP hD hS)
theorem jd_newq {ws : va_W} (hexec : p.tables.exec = Jvm.exec) (hb : c.code = cc) {own C : String} {index : Nat} (hown : s.vm.findClass own = some m.cls) (hclink : (Cond.classLink own index C).before args s = true) (hover : va_AO C s) (hK : va_K D cl tys s) (hP : va_P D cl ws H) (hD : va_D A ws) (hS : va_S A H0 H locs) (hA : ∀ q, H0.size ≤ q → A q) (t0 : Nat) {cA : ClassId} (ht : tys[t0]? = some (cA, .object C))
    {n : Int32} {N' : Nat} (hn : ¬ n < 0) (hN : n.toNatClampNeg = N') (hbytes : N' * 4 ≤ 536870912) (hcells : cells + 1 ≤ R.cells) (hslots : slots + N' ≤ R.slots) (hdg : decode cc pc = .ok (.anewarray index, 3)) {c' s' : Nat} (hc' : cells + 1 = c') (hs' : slots + N' = s')
    (kk : ∀ (q : Nat) (H1 : Heap), va_P D cl (ws ++ [(q, .inl (cA, N', .inr (.inr (.inr (.inr (fun _ => none))))))]) H1 → va_D A (ws ++ [(q, .inl (cA, N', .inr (.inr (.inr (.inr (fun _ => none))))))]) → va_S A H0 H1 locs → W p l e R s m args below meth c H1 locs c' s' Q (F0 m (pc + 3) ls (.ref q :: rest))) : W p l e R s m args below meth c H locs cells slots Q (F0 m pc ls (.int n :: rest)) :=
  va_newq hexec hb hown hclink hover hK hP hD hS hA hn hN hbytes hcells hslots hdg (fun q cA2 H1 hK2 hP hD hS => by
    obtain ⟨_, _, _, _, _, h1⟩ := (hK2.2 tys.length (cA2, .object C) (by simp)).2
    obtain ⟨_, _, _, _, _, h2⟩ := (hK.2 t0 _ ht).2
    have e : cA2 = cA := Option.some.inj (h1.symm.trans h2)
    subst e; subst hc'; subst hs'
    exact kk q H1 hP hD hS)
theorem jd_out3 {x : Int32} (h0 : ¬ x = 0) (h1 : ¬ x = 1) (h2 : ¬ x = 2) : x.toInt < 0 ∨ 2 < x.toInt := by
  have a0 := lv_neT h0 (a := 0) (by decide)
  have a1 := lv_neT h1 (a := 1) (by decide)
  have a2 := lv_neT h2 (a := 2) (by decide)
  omega
end JDW
abbrev kw (w : va_W) (_ : IS) (_ : JS) : va_W := w
theorem jd_Dc {A : Nat → Prop} {w w' : va_W} (h : va_D A w) (e : w.map Prod.fst = w'.map Prod.fst) : va_D A w' := by
  have key : ∀ (k : Nat) (q : Nat × va_E), w'[k]? = some q → ∃ q0, w[k]? = some q0 ∧ q0.1 = q.1 := by
    intro k q hq
    have h1 : (w'.map Prod.fst)[k]? = some q.1 := by rw [List.getElem?_map, hq]; rfl
    rw [← e, List.getElem?_map] at h1
    cases hw : w[k]? with
    | none => rw [hw] at h1; cases h1
    | some q0 => rw [hw] at h1; exact ⟨q0, rfl, Option.some.inj h1⟩
  refine ⟨fun i j x y hi hj hxy => ?_, fun k q hk => ?_⟩
  · obtain ⟨x0, h1, h2⟩ := key i x hi
    obtain ⟨y0, h3, h4⟩ := key j y hj
    exact h.1 i j x0 y0 h1 h3 (h2.trans (hxy.trans h4.symm))
  · obtain ⟨q0, h1, h2⟩ := key k q hk
    rw [← h2]
    exact h.2 k q0 h1
/-- a method's body, from its entry: the end is a hypothesis -/
abbrev jdB (l : Launch) (y : MethodName) (ws : List Cond) (rm : Room) (D : va_G) (cl : List vw_C) (tys : List (ClassId × FieldType)) (N : State → Prop) (w : va_W) (cc : ByteArray) (maxL : Nat) (ret : Option FieldType) (lv : List (Nat × Value)) (E : (p : Program) → (e : Env) → (R : Room) → (s : State) → (m : MethodId) → (args : Array Value) → (below : List Frame) → (meth : Method) → (c : Code) → (A : Nat → Prop) → (Q : State → Prop) → Prop) : Prop :=
  ∀ (p : Program) (e : Env) (R : Room) (s : State) (m : MethodId) (args : Array Value) (below : List Frame) (meth : Method) (c : Code) (A : Nat → Prop) (Q : State → Prop) (ls : Array Slot), CallFix p m c cc maxL s args ws y.cls → R = rm → va_K D cl tys s → N s → va_D A w → (∀ q, s.heap.size ≤ q → A q) → va_P D cl w s.heap → va_S A s.heap s.heap [] → lv_has ls maxL lv → E p e R s m args below meth c A Q →
      W p l e R s m args below meth c s.heap [] 0 0 Q (F0 m 0 ls [])
abbrev jdEi (l : Launch) (D : va_G) (cl : List vw_C) (w1 : va_W) (cc : ByteArray) (r1 : Int32) (p : Program) (e : Env) (R : Room) (s : State) (m : MethodId) (args : Array Value) (below : List Frame) (meth : Method) (c : Code) (A : Nat → Prop) (Q : State → Prop) : Prop :=
  ∀ (H : Heap) (locs : List Loc) (pc : Nat) (ls : Array Slot), va_P D cl w1 H → va_S A s.heap H locs → decode cc pc = .ok (.ireturn, 1) → W p l e R s m args below meth c H locs 0 0 Q (F0 m pc ls [.int r1])
abbrev jdEz (l : Launch) (D : va_G) (cl : List vw_C) (w1 : va_W) (cc : ByteArray) (r1 : Int32) (p : Program) (e : Env) (R : Room) (s : State) (m : MethodId) (args : Array Value) (below : List Frame) (meth : Method) (c : Code) (A : Nat → Prop) (Q : State → Prop) : Prop :=
  ∀ (H : Heap) (locs : List Loc) (pc : Nat) (ls : Array Slot), narrow .boolean (.int r1) = .int r1 → va_P D cl w1 H → va_S A s.heap H locs → decode cc pc = .ok (.ireturn, 1) → W p l e R s m args below meth c H locs 0 0 Q (F0 m pc ls [.int r1])
abbrev jdEl (l : Launch) (D : va_G) (cl : List vw_C) (w1 : va_W) (cc : ByteArray) (r1 : Int64) (p : Program) (e : Env) (R : Room) (s : State) (m : MethodId) (args : Array Value) (below : List Frame) (meth : Method) (c : Code) (A : Nat → Prop) (Q : State → Prop) : Prop :=
  ∀ (H : Heap) (locs : List Loc) (pc : Nat) (ls : Array Slot), va_P D cl w1 H → va_S A s.heap H locs → decode cc pc = .ok (.lreturn, 1) → W p l e R s m args below meth c H locs 0 0 Q (F0 m pc ls [.long r1])
abbrev jdEv (l : Launch) (D : va_G) (cl : List vw_C) (w1 : va_W) (cc : ByteArray) (p : Program) (e : Env) (R : Room) (s : State) (m : MethodId) (args : Array Value) (below : List Frame) (meth : Method) (c : Code) (A : Nat → Prop) (Q : State → Prop) : Prop :=
  ∀ (H : Heap) (locs : List Loc) (pc : Nat) (ls : Array Slot), va_P D cl w1 H → va_S A s.heap H locs → decode cc pc = .ok (.return_, 1) → W p l e R s m args below meth c H locs 0 0 Q (F0 m pc ls [])
abbrev jdEq (l : Launch) (D : va_G) (cl : List vw_C) (w1 : va_W) (cc : ByteArray) (r1 : Option Nat) (p : Program) (e : Env) (R : Room) (s : State) (m : MethodId) (args : Array Value) (below : List Frame) (meth : Method) (c : Code) (A : Nat → Prop) (Q : State → Prop) : Prop :=
  ∀ (H : Heap) (locs : List Loc) (pc : Nat) (ls : Array Slot), va_P D cl w1 H → va_S A s.heap H locs → decode cc pc = .ok (.areturn, 1) → W p l e R s m args below meth c H locs 0 0 Q (F0 m pc ls [va_rf r1])
section JDM
variable {l : Launch} {y : MethodName} {ws ws' : List Cond} {rm : Room} {av : List Value} {D : va_G} {cl : List vw_C} {tys : List (ClassId × FieldType)} {N : State → Prop} {w w1 : va_W} {cc : ByteArray} {maxL : Nat} {ret : Option FieldType} {lv : List (Nat × Value)}
theorem jd_met {Qc : (Nat → Prop) → Array Value → State → Outcome → State → Prop} {E : (p : Program) → (e : Env) → (R : Room) → (s : State) → (m : MethodId) → (args : Array Value) → (below : List Frame) → (meth : Method) → (c : Code) → (A : Nat → Prop) → (Q : State → Prop) → Prop}
    (hE : ∀ (p : Program) (e : Env) (s : State) (m : MethodId) (args : Array Value) (below : List Frame) (meth : Method) (c : Code) (A : Nat → Prop), p.tables.exec = Jvm.exec → c.code = cc → meth.sig.returnType = ret → meth.locks = false → E p e rm s m args below meth c A (MQ below (Qc A) args s 0 0 A))
    (hy : plainName y.cls = true) (hw : ws = Cond.code y cc maxL ret :: ws') (hlen : (lg_sl av).length ≤ maxL) (hlv : lv_args 0 av = lv)
    (body : jdB l y ws rm D cl tys N w cc maxL ret lv E) : ∀ sz : Nat, Met l y ws rm (va_Pc av (pW D cl tys N w sz)) (Qc (va_A w sz)) 0 0 (va_A w sz) := by
  intro sz
  refine Met.ofW (cc := cc) (maxL := maxL) (ret := ret) hy hw ?_
  intro p e s m args below meth c s₁ B hml hv
  obtain ⟨rfl, hsz, hP, hK, hD0, hN⟩ := hv
  subst hsz
  have hl := lv_entry av (n := maxL) hlen
  rw [lg_entry_eq]
  generalize (lg_sl av ++ List.replicate (maxL - (lg_sl av).length) Slot.unset).toArray = ls at hl ⊢
  rw [hlv] at hl
  exact body p e rm s m _ below meth c (va_A w s.heap.size) _ ls ⟨B.exec, B.bytes, hml, findClass_of_methodNamed B.named, atoms_spec (ws := ws) B.pre⟩ rfl hK hN hD0.self (fun q h => Or.inr h) hP va_S.rf hl (hE p e s m _ below meth c _ B.exec B.bytes B.returns B.notSynchronized)
theorem jd_metI {r1 : Int32} (hy : plainName y.cls = true) (hw : ws = Cond.code y cc maxL (some .int) :: ws') (hlen : (lg_sl av).length ≤ maxL) (hlv : lv_args 0 av = lv)
    (body : jdB l y ws rm D cl tys N w cc maxL (some .int) lv (jdEi l D cl w1 cc r1)) : CtI l y ws rm av D cl tys N w w1 r1 :=
  jd_met (Qc := fun A => va_Qi (fun r (_ : Unit) => r = r1) (fun _ t => va_P D cl w1 t.heap) A) (fun _ _ _ _ _ _ _ _ _ hx hb hr hlk _ _ _ _ hP hS hd => jd_iret hx hb hr hlk hP hS hd) hy hw hlen hlv body
theorem jd_metZ {r1 : Int32} (hy : plainName y.cls = true) (hw : ws = Cond.code y cc maxL (some .boolean) :: ws') (hlen : (lg_sl av).length ≤ maxL) (hlv : lv_args 0 av = lv)
    (body : jdB l y ws rm D cl tys N w cc maxL (some .boolean) lv (jdEz l D cl w1 cc r1)) : CtI l y ws rm av D cl tys N w w1 r1 :=
  jd_met (Qc := fun A => va_Qi (fun r (_ : Unit) => r = r1) (fun _ t => va_P D cl w1 t.heap) A) (fun _ _ _ _ _ _ _ _ _ hx hb hr hlk _ _ _ _ hn hP hS hd => jd_zret hx hb hr hlk hn hP hS hd) hy hw hlen hlv body
theorem jd_metL {r1 : Int64} (hy : plainName y.cls = true) (hw : ws = Cond.code y cc maxL (some .long) :: ws') (hlen : (lg_sl av).length ≤ maxL) (hlv : lv_args 0 av = lv)
    (body : jdB l y ws rm D cl tys N w cc maxL (some .long) lv (jdEl l D cl w1 cc r1)) : CtL l y ws rm av D cl tys N w w1 r1 :=
  jd_met (Qc := fun A => va_Ql (fun r (_ : Unit) => r = r1) (fun _ t => va_P D cl w1 t.heap) A) (fun _ _ _ _ _ _ _ _ _ hx hb hr hlk _ _ _ _ hP hS hd => jd_lret hx hb hr hlk hP hS hd) hy hw hlen hlv body
theorem jd_metV (hy : plainName y.cls = true) (hw : ws = Cond.code y cc maxL none :: ws') (hlen : (lg_sl av).length ≤ maxL) (hlv : lv_args 0 av = lv)
    (body : jdB l y ws rm D cl tys N w cc maxL none lv (jdEv l D cl w1 cc)) : CtV l y ws rm av D cl tys N w w1 :=
  jd_met (Qc := fun A => va_Qv (fun (_ : Unit) => True) (fun _ t => va_P D cl w1 t.heap) A) (fun _ _ _ _ _ _ _ _ _ hx hb hr hlk _ _ _ _ hP hS hd => jd_vret hx hb hr hlk hP hS hd) hy hw hlen hlv body
theorem jd_metQ {r1 : Option Nat} {C : String} (hy : plainName y.cls = true) (hw : ws = Cond.code y cc maxL (some (.object C)) :: ws') (hlen : (lg_sl av).length ≤ maxL) (hlv : lv_args 0 av = lv)
    (body : jdB l y ws rm D cl tys N w cc maxL (some (.object C)) lv (jdEq l D cl w1 cc r1)) : CtQ l y ws rm av D cl tys N w w1 r1 :=
  jd_met (Qc := fun A => va_Qq (fun r (_ : Unit) => r = r1) (fun _ t => va_P D cl w1 t.heap) A) (fun _ _ _ _ _ _ _ _ _ hx hb hr hlk _ _ _ _ hP hS hd => jd_aret hx hb hr (Or.inl ⟨C, rfl⟩) hlk hP hS hd) hy hw hlen hlv body
end JDM
end
section
theorem jd_in {c c2 : Cond} (h5 : c2 ∈ TB) : ∀ w ∈ c2 :: TB, w ∈ TB := fun w h => (List.mem_cons.mp h).elim (fun q => q ▸ h5) id
theorem jd_gw {c : Cond} {ws : List Cond} (h : ∀ w ∈ ws, w ∈ TB) : GoodIn (c :: TB) ws := fun w hw => ⟨List.mem_cons_of_mem _ (h w hw), good_of_word (TB_ok w (h w hw))⟩
theorem jd_gB {c c2 : Cond} (h5 : c2 ∈ TB) : GoodIn (c :: TB) (c2 :: TB) := jd_gw (jd_in (c := c) h5)
theorem jd_gV {own C : String} {idx : Nat} {y : MethodName} {c c2 : Cond} (h1 : Cond.methodLink own idx y ∈ TB) (h2 : Cond.instanceMethod y ∈ TB) (h3 : Cond.selects C y y ∈ TB) (h4 : Cond.initialized C ∈ TB) (h5 : c2 ∈ TB) : GoodIn (c :: TB) (wsV own idx C y (c2 :: TB)) := jd_gw fun w hw => by
  rcases List.mem_append.mp hw with h | h
  · rcases List.mem_cons.mp h with rfl | h
    · exact h1
    rcases List.mem_cons.mp h with rfl | h
    · exact h2
    rcases List.mem_cons.mp h with rfl | h
    · exact h3
    rcases List.mem_cons.mp h with rfl | h
    · exact h4
    · cases h
  · exact jd_in (c := c) h5 w h
theorem jd_gS2 {own : String} {idx : Nat} {y : MethodName} {c c2 : Cond} (h1 : Cond.methodLink own idx y ∈ TB) (h2 : Cond.static y ∈ TB) (h4 : Cond.initialized y.cls ∈ TB) (h5 : c2 ∈ TB) : GoodIn (c :: TB) (va_wsS own idx y (c2 :: TB)) := jd_gw fun w hw => by
  rcases List.mem_append.mp hw with h | h
  · rcases List.mem_cons.mp h with rfl | h
    · exact h1
    rcases List.mem_cons.mp h with rfl | h
    · exact h2
    rcases List.mem_cons.mp h with rfl | h
    · exact h4
    · cases h
  · exact jd_in (c := c) h5 w h
def NL : List Cond := [(Jvm.Cond.methodLinkNest "JuryDesk" (21 : Nat) ({ cls := "JuryDesk$Reason", name := "<init>", desc := "()V" } : Jvm.MethodName) "JuryDesk"), (Jvm.Cond.methodLinkNest "JuryDesk" (28 : Nat) ({ cls := "JuryDesk$Lattice", name := "<init>", desc := "()V" } : Jvm.MethodName) "JuryDesk"), (Jvm.Cond.methodLinkNest "JuryDesk$Heat" (53 : Nat) ({ cls := "JuryDesk", name := "holds", desc := "(II)Z" } : Jvm.MethodName) "JuryDesk"), (Jvm.Cond.methodLinkNest "JuryDesk$Rows" (54 : Nat) ({ cls := "JuryDesk", name := "holds", desc := "(II)Z" } : Jvm.MethodName) "JuryDesk"), (Jvm.Cond.methodLinkNest "JuryDesk" (50 : Nat) ({ cls := "JuryDesk$Heat", name := "<init>", desc := "()V" } : Jvm.MethodName) "JuryDesk"), (Jvm.Cond.methodLinkNest "JuryDesk$Heat" (31 : Nat) ({ cls := "JuryDesk$Tally", name := "<init>", desc := "()V" } : Jvm.MethodName) "JuryDesk"), (Jvm.Cond.methodLinkNest "JuryDesk$Heat" (38 : Nat) ({ cls := "JuryDesk$Rows", name := "<init>", desc := "()V" } : Jvm.MethodName) "JuryDesk")]
abbrev NN : State → Prop := nW NL
theorem nw_0 : (Jvm.Cond.methodLinkNest "JuryDesk" (21 : Nat) ({ cls := "JuryDesk$Reason", name := "<init>", desc := "()V" } : Jvm.MethodName) "JuryDesk") ∈ NL := List.mem_of_getElem? (i := 0) rfl
theorem nw_1 : (Jvm.Cond.methodLinkNest "JuryDesk" (28 : Nat) ({ cls := "JuryDesk$Lattice", name := "<init>", desc := "()V" } : Jvm.MethodName) "JuryDesk") ∈ NL := List.mem_of_getElem? (i := 1) rfl
theorem nw_2 : (Jvm.Cond.methodLinkNest "JuryDesk$Heat" (53 : Nat) ({ cls := "JuryDesk", name := "holds", desc := "(II)Z" } : Jvm.MethodName) "JuryDesk") ∈ NL := List.mem_of_getElem? (i := 2) rfl
theorem nw_3 : (Jvm.Cond.methodLinkNest "JuryDesk$Rows" (54 : Nat) ({ cls := "JuryDesk", name := "holds", desc := "(II)Z" } : Jvm.MethodName) "JuryDesk") ∈ NL := List.mem_of_getElem? (i := 3) rfl
theorem nw_4 : (Jvm.Cond.methodLinkNest "JuryDesk" (50 : Nat) ({ cls := "JuryDesk$Heat", name := "<init>", desc := "()V" } : Jvm.MethodName) "JuryDesk") ∈ NL := List.mem_of_getElem? (i := 4) rfl
theorem nw_5 : (Jvm.Cond.methodLinkNest "JuryDesk$Heat" (31 : Nat) ({ cls := "JuryDesk$Tally", name := "<init>", desc := "()V" } : Jvm.MethodName) "JuryDesk") ∈ NL := List.mem_of_getElem? (i := 5) rfl
theorem nw_6 : (Jvm.Cond.methodLinkNest "JuryDesk$Heat" (38 : Nat) ({ cls := "JuryDesk$Rows", name := "<init>", desc := "()V" } : Jvm.MethodName) "JuryDesk") ∈ NL := List.mem_of_getElem? (i := 6) rfl
theorem nWm {s U : State} (h : s.WarmedH U.vm) (hN : NN s) : NN U := by
  intro w hw
  have h1 := hN w hw
  simp only [NL, List.mem_cons, List.not_mem_nil, or_false] at hw
  rcases hw with rfl | rfl | rfl | rfl | rfl | rfl | rfl <;> exact va_Nw.warmM h h1
theorem nWc (U : State) (g : JFrame) (mk : MethodId) (a : Array Value) (hN : NN U) : NN (U.calling g mk a) := by
  intro w hw
  have h1 := hN w hw
  simp only [NL, List.mem_cons, List.not_mem_nil, or_false] at hw
  rcases hw with rfl | rfl | rfl | rfl | rfl | rfl | rfl <;> exact va_Nw.same (u := U) (U := U.calling g mk a) rfl rfl h1
abbrev tysC (ca : Nat → ClassId) : List (ClassId × FieldType) := [(ca 0, .byte), (ca 1, .boolean), (ca 2, .int), (ca 3, .long), (ca 4, .object "JuryDesk$Heat")]
/-- the heat that a call is about -/
def wH (ca : Nat → ClassId) (ad : Nat → Nat) (I : IS) (J : JS) : va_W := [(ad 0, .inr (0, [.ref (ad 1), .ref (ad 2), .ref (ad 3), .ref (ad 4), .ref (ad 5), .ref (ad 6), .ref (ad 9), .int (I 5 0), .int (I 6 0)])), (ad 1, .inl (ca 0, 400, .inl (I 0))), (ad 2, .inl (ca 0, 400, .inl (I 1))), (ad 3, .inl (ca 1, 400, .inl (I 2))), (ad 4, .inl (ca 2, 16, .inl (I 3))), (ad 5, .inl (ca 2, 16, .inl (I 4))), (ad 6, .inr (1, [.int (I 7 0), .long (J 0 0), .ref (ad 7), .ref (ad 8)])), (ad 7, .inl (ca 3, 256, .inr (.inl (J 1)))), (ad 8, .inl (ca 3, 256, .inr (.inl (J 2)))), (ad 9, .inr (2, [.int (I 8 0), .int (I 9 0), .ref (ad 10), .int (I 11 0), .ref (ad 11), .ref (ad 12), .ref (ad 13), .ref (ad 14)])), (ad 10, .inl (ca 2, 16, .inl (I 10))), (ad 11, .inl (ca 2, 16, .inl (I 12))), (ad 12, .inl (ca 2, 16, .inl (I 13))), (ad 13, .inl (ca 2, 16, .inl (I 14))), (ad 14, .inl (ca 2, 16, .inl (I 15)))]
/-- the desk itself -/
def wD (ca : Nat → ClassId) (ad : Nat → Nat) (hs : Nat → Option Nat) (I : IS) (J : JS) : va_W := [(ad 15, .inr (3, [.ref (ad 16), .ref (ad 17), .ref (ad 18), .ref (ad 21), .int (I 17 0)])), (ad 16, .inl (ca 4, 12, .inr (.inr (.inr (.inr hs))))), (ad 17, .inl (ca 2, 16, .inl (I 16))), (ad 18, .inr (4, [.ref (ad 19), .int (I 19 0), .ref (ad 20)])), (ad 19, .inl (ca 2, 16, .inl (I 18))), (ad 20, .inl (ca 2, 16, .inl (I 20))), (ad 21, .inr (5, [.ref (ad 22), .ref (ad 23), .ref (ad 24), .ref (ad 25)])), (ad 22, .inl (ca 3, 65536, .inr (.inl (J 3)))), (ad 23, .inl (ca 3, 65536, .inr (.inl (J 4)))), (ad 24, .inl (ca 2, 256, .inl (I 21))), (ad 25, .inl (ca 2, 256, .inl (I 22)))]
def wC (ca : Nat → ClassId) (ad : Nat → Nat) (hs : Nat → Option Nat) (I : IS) (J : JS) : va_W := [(ad 0, .inr (0, [.ref (ad 1), .ref (ad 2), .ref (ad 3), .ref (ad 4), .ref (ad 5), .ref (ad 6), .ref (ad 9), .int (I 5 0), .int (I 6 0)])), (ad 1, .inl (ca 0, 400, .inl (I 0))), (ad 2, .inl (ca 0, 400, .inl (I 1))), (ad 3, .inl (ca 1, 400, .inl (I 2))), (ad 4, .inl (ca 2, 16, .inl (I 3))), (ad 5, .inl (ca 2, 16, .inl (I 4))), (ad 6, .inr (1, [.int (I 7 0), .long (J 0 0), .ref (ad 7), .ref (ad 8)])), (ad 7, .inl (ca 3, 256, .inr (.inl (J 1)))), (ad 8, .inl (ca 3, 256, .inr (.inl (J 2)))), (ad 9, .inr (2, [.int (I 8 0), .int (I 9 0), .ref (ad 10), .int (I 11 0), .ref (ad 11), .ref (ad 12), .ref (ad 13), .ref (ad 14)])), (ad 10, .inl (ca 2, 16, .inl (I 10))), (ad 11, .inl (ca 2, 16, .inl (I 12))), (ad 12, .inl (ca 2, 16, .inl (I 13))), (ad 13, .inl (ca 2, 16, .inl (I 14))), (ad 14, .inl (ca 2, 16, .inl (I 15))), (ad 15, .inr (3, [.ref (ad 16), .ref (ad 17), .ref (ad 18), .ref (ad 21), .int (I 17 0)])), (ad 16, .inl (ca 4, 12, .inr (.inr (.inr (.inr hs))))), (ad 17, .inl (ca 2, 16, .inl (I 16))), (ad 18, .inr (4, [.ref (ad 19), .int (I 19 0), .ref (ad 20)])), (ad 19, .inl (ca 2, 16, .inl (I 18))), (ad 20, .inl (ca 2, 16, .inl (I 20))), (ad 21, .inr (5, [.ref (ad 22), .ref (ad 23), .ref (ad 24), .ref (ad 25)])), (ad 22, .inl (ca 3, 65536, .inr (.inl (J 3)))), (ad 23, .inl (ca 3, 65536, .inr (.inl (J 4)))), (ad 24, .inl (ca 2, 256, .inl (I 21))), (ad 25, .inl (ca 2, 256, .inl (I 22)))]
/-- the reference -/
def wM (ca : Nat → ClassId) (am : Nat → Nat) (I : IS) (J : JS) : va_W := [(am 0, .inr (6, [.int (I 0 0), .ref (am 1), .ref (am 2), .ref (am 3), .ref (am 4), .ref (am 5), .ref (am 6), .int (I 7 0), .int (I 8 0), .ref (am 7), .ref (am 8), .int (I 11 0), .ref (am 9), .ref (am 10), .int (I 12 0), .ref (am 11), .ref (am 12), .ref (am 13), .ref (am 14), .ref (am 15), .ref (am 16), .ref (am 17), .ref (am 18), .int (I 20 0)])), (am 1, .inl (ca 2, 12, .inl (I 1))), (am 2, .inl (ca 2, 12, .inl (I 2))), (am 3, .inl (ca 2, 12, .inl (I 3))), (am 4, .inl (ca 2, 4800, .inl (I 4))), (am 5, .inl (ca 2, 4800, .inl (I 5))), (am 6, .inl (ca 1, 4800, .inl (I 6))), (am 7, .inl (ca 2, 16, .inl (I 9))), (am 8, .inl (ca 2, 16, .inl (I 10))), (am 9, .inl (ca 3, 65536, .inr (.inl (J 0)))), (am 10, .inl (ca 3, 65536, .inr (.inl (J 1)))), (am 11, .inl (ca 2, 16, .inl (I 13))), (am 12, .inl (ca 2, 16, .inl (I 14))), (am 13, .inl (ca 2, 16, .inl (I 15))), (am 14, .inl (ca 2, 16, .inl (I 16))), (am 15, .inl (ca 2, 16, .inl (I 17))), (am 16, .inl (ca 2, 16, .inl (I 18))), (am 17, .inl (ca 2, 16, .inl (I 19))), (am 18, .inl (ca 3, 256, .inr (.inl (J 2))))]
end
section
theorem d_T_init_0 : decode b_T_init 0 = .ok (.aload_n 0, 1) := by decide +kernel
theorem d_T_init_1 : decode b_T_init 1 = .ok (.invokespecial 3, 3) := by decide +kernel
theorem d_T_init_4 : decode b_T_init 4 = .ok (.aload_n 0, 1) := by decide +kernel
theorem d_T_init_5 : decode b_T_init 5 = .ok (.sipush 256, 3) := by decide +kernel
theorem d_T_init_8 : decode b_T_init 8 = .ok (.newarray .long, 2) := by decide +kernel
theorem d_T_init_10 : decode b_T_init 10 = .ok (.putfield 9, 3) := by decide +kernel
theorem d_T_init_13 : decode b_T_init 13 = .ok (.aload_n 0, 1) := by decide +kernel
theorem d_T_init_14 : decode b_T_init 14 = .ok (.sipush 256, 3) := by decide +kernel
theorem d_T_init_17 : decode b_T_init 17 = .ok (.newarray .long, 2) := by decide +kernel
theorem d_T_init_19 : decode b_T_init 19 = .ok (.putfield 15, 3) := by decide +kernel
theorem d_T_init_22 : decode b_T_init 22 = .ok (.return_, 1) := by decide +kernel
abbrev cw_T (ca : Nat → ClassId) (a0 : Nat) (u : Nat → Nat) : va_W := [(a0, .inr (1, [.int 0, .long 0, .ref (u 0), .ref (u 1)])), ((u 0), .inl (ca 3, 256, .inr (.inl (fun _ => 0)))), ((u 1), .inl (ca 3, 256, .inr (.inl (fun _ => 0))))]
set_option maxHeartbeats 4000000 in
set_option maxRecDepth 100000 in
theorem cm_T_init (l : Launch) (D : va_G) (ca : Nat → ClassId) (a0 : Nat) : ∀ sz : Nat, Met l y_T_init (Cond.code y_T_init b_T_init 1 none :: TB) { frames := 1, cells := 2, slots := 512, locals := 12 } (va_Pc [.ref a0] (pW D cls_all (tysC ca) NN [(a0, .inr (1, [.int 0, .long 0, .null, .null]))] sz)) (va_Qv (fun (_ : Nat → Nat) => True) (fun u t => va_P D cls_all (cw_T ca a0 u) t.heap ∧ va_D (va_A [(a0, .inr (1, [.int 0, .long 0, .null, .null]))] sz) (cw_T ca a0 u)) (va_A [(a0, .inr (1, [.int 0, .long 0, .null, .null]))] sz)) 2 512 (va_A [(a0, .inr (1, [.int 0, .long 0, .null, .null]))] sz) := by
  intro sz
  refine Met.ofW (cc := b_T_init) (maxL := 1) (ret := none) (by decide) rfl ?_
  intro p e s m args below meth c s₁ B hml hv
  obtain ⟨rfl, hsz, hP, hK, hD0, hN⟩ := hv
  have hx := B.exec
  have hb := B.bytes
  have hr := B.returns
  have hts := atoms_spec (ws := Cond.code y_T_init b_T_init 1 none :: TB) B.pre
  have hown : s.vm.findClass R_T = some m.cls := findClass_of_methodNamed B.named
  have hlocks := B.notSynchronized
  have hin : meth.name = "<init>" := (name_of_methodNamed B.named B.method).1
  subst hsz
  have hD := hD0.self (sz := s.heap.size)
  generalize hAe : va_A [(a0, .inr (1, [.int 0, .long 0, .null, .null]))] s.heap.size = A at hD ⊢
  have hA : ∀ q : Nat, s.heap.size ≤ q → A q := fun q h => by rw [← hAe]; exact Or.inr h
  have hS : va_S A s.heap s.heap [] := va_S.rf
  have hl := lv_entry ([.ref a0]) (n := 1) (Nat.le_of_ble_eq_true rfl)
  rw [lg_entry_eq]
  generalize (lg_sl ([.ref a0]) ++ List.replicate (1 - (lg_sl ([.ref a0])).length) Slot.unset).toArray = ls at hl ⊢
  have hl : lv_has ls 1 [(0, .ref a0)] := hl
  refine lv_aload_n hx hb d_T_init_0 rfl (lv_at hl 0 rfl) ?_
  refine W.objInit hx hb hown (hts _ (List.mem_cons_of_mem _ tb_484)) (hts _ (List.mem_cons_of_mem _ tb_63)) (hts _ (List.mem_cons_of_mem _ tb_64)) rfl (by rw [hml]; exact hl.1) rfl d_T_init_1 (Nat.le_of_ble_eq_true rfl) (Nat.le_of_ble_eq_true rfl) ?_
  refine W.eq (g2 := F0 m 4 ls []) rfl ?_
  refine lv_aload_n hx hb d_T_init_4 rfl (lv_at hl 0 rfl) ?_
  refine lv_sipush (v := 256) hx hb d_T_init_5 (by decide) ?_
  refine jd_newa (atype := .long) (a0 := (256, .inr (.inl (fun _ => 0)))) (N' := 256) (ty := .long) hx hb (hts _ (List.mem_cons_of_mem _ tb_101)) rfl (fun _ _ h => h) hK hP hD hS hA 3 rfl (fun _ => rfl) (by decide) (by decide) (by decide) (Nat.le_of_ble_eq_true rfl) (Nat.le_of_ble_eq_true rfl) d_T_init_8 (c' := 1) (s' := 256) rfl rfl (fun q1 H hP hD hS => ?_)
  have hP : va_P D cls_all [(a0, .inr (1, [.int 0, .long 0, .null, .null])), (q1, .inl (ca 3, 256, .inr (.inl (fun _ => 0))))] H := hP
  have hD : va_D A [(a0, .inr (1, [.int 0, .long 0, .null, .null])), (q1, .inl (ca 3, 256, .inr (.inl (fun _ => 0))))] := hD
  refine va_putF (D := D) (ci := 1) (v := .ref q1) (ty := .array .long) (C := R_T) (T := F_T) (N := 4) hx hb hts (fun w h => List.mem_cons_of_mem _ (uw_T w h)) ft_T tk_T n_T hown hK hP hD hS 0 rfl rfl 2 (by decide) (hts _ (List.mem_cons_of_mem _ tb_489)) (fun _ h => h) rfl hin rfl (by decide +kernel) rfl rfl (Nat.le_of_ble_eq_true rfl) d_T_init_10 (fun H locs hP hD hS => ?_)
  have hP : va_P D cls_all [(a0, .inr (1, [.int 0, .long 0, .ref q1, .null])), (q1, .inl (ca 3, 256, .inr (.inl (fun _ => 0))))] H := hP
  have hD : va_D A [(a0, .inr (1, [.int 0, .long 0, .ref q1, .null])), (q1, .inl (ca 3, 256, .inr (.inl (fun _ => 0))))] := hD
  refine lv_aload_n hx hb d_T_init_13 rfl (lv_at hl 0 rfl) ?_
  refine lv_sipush (v := 256) hx hb d_T_init_14 (by decide) ?_
  refine jd_newa (atype := .long) (a0 := (256, .inr (.inl (fun _ => 0)))) (N' := 256) (ty := .long) hx hb (hts _ (List.mem_cons_of_mem _ tb_101)) rfl (fun _ _ h => h) hK hP hD hS hA 3 rfl (fun _ => rfl) (by decide) (by decide) (by decide) (Nat.le_of_ble_eq_true rfl) (Nat.le_of_ble_eq_true rfl) d_T_init_17 (c' := 2) (s' := 512) rfl rfl (fun q2 H hP hD hS => ?_)
  have hP : va_P D cls_all [(a0, .inr (1, [.int 0, .long 0, .ref q1, .null])), (q1, .inl (ca 3, 256, .inr (.inl (fun _ => 0)))), (q2, .inl (ca 3, 256, .inr (.inl (fun _ => 0))))] H := hP
  have hD : va_D A [(a0, .inr (1, [.int 0, .long 0, .ref q1, .null])), (q1, .inl (ca 3, 256, .inr (.inl (fun _ => 0)))), (q2, .inl (ca 3, 256, .inr (.inl (fun _ => 0))))] := hD
  refine va_putF (D := D) (ci := 1) (v := .ref q2) (ty := .array .long) (C := R_T) (T := F_T) (N := 4) hx hb hts (fun w h => List.mem_cons_of_mem _ (uw_T w h)) ft_T tk_T n_T hown hK hP hD hS 0 rfl rfl 3 (by decide) (hts _ (List.mem_cons_of_mem _ tb_492)) (fun _ h => h) rfl hin rfl (by decide +kernel) rfl rfl (Nat.le_of_ble_eq_true rfl) d_T_init_19 (fun H locs hP hD hS => ?_)
  have hP : va_P D cls_all [(a0, .inr (1, [.int 0, .long 0, .ref q1, .ref q2])), (q1, .inl (ca 3, 256, .inr (.inl (fun _ => 0)))), (q2, .inl (ca 3, 256, .inr (.inl (fun _ => 0))))] H := hP
  have hD : va_D A [(a0, .inr (1, [.int 0, .long 0, .ref q1, .ref q2])), (q1, .inl (ca 3, 256, .inr (.inl (fun _ => 0)))), (q2, .inl (ca 3, 256, .inr (.inl (fun _ => 0))))] := hD
  exact W.vret hx hb hr (fun t ht hW => ⟨⟨(fun k => ([q1, q2] : List Nat).getD k 0), rfl, trivial, by rw [ht]; exact hP, hD⟩, hS.F ht⟩) hS.2.2 d_T_init_22 hlocks
theorem d_R_init_0 : decode b_R_init 0 = .ok (.aload_n 0, 1) := by decide +kernel
theorem d_R_init_1 : decode b_R_init 1 = .ok (.invokespecial 3, 3) := by decide +kernel
theorem d_R_init_4 : decode b_R_init 4 = .ok (.aload_n 0, 1) := by decide +kernel
theorem d_R_init_5 : decode b_R_init 5 = .ok (.bipush 16, 2) := by decide +kernel
theorem d_R_init_7 : decode b_R_init 7 = .ok (.newarray .int, 2) := by decide +kernel
theorem d_R_init_9 : decode b_R_init 9 = .ok (.putfield 9, 3) := by decide +kernel
theorem d_R_init_12 : decode b_R_init 12 = .ok (.aload_n 0, 1) := by decide +kernel
theorem d_R_init_13 : decode b_R_init 13 = .ok (.bipush 16, 2) := by decide +kernel
theorem d_R_init_15 : decode b_R_init 15 = .ok (.newarray .int, 2) := by decide +kernel
theorem d_R_init_17 : decode b_R_init 17 = .ok (.putfield 15, 3) := by decide +kernel
theorem d_R_init_20 : decode b_R_init 20 = .ok (.aload_n 0, 1) := by decide +kernel
theorem d_R_init_21 : decode b_R_init 21 = .ok (.bipush 16, 2) := by decide +kernel
theorem d_R_init_23 : decode b_R_init 23 = .ok (.newarray .int, 2) := by decide +kernel
theorem d_R_init_25 : decode b_R_init 25 = .ok (.putfield 18, 3) := by decide +kernel
theorem d_R_init_28 : decode b_R_init 28 = .ok (.aload_n 0, 1) := by decide +kernel
theorem d_R_init_29 : decode b_R_init 29 = .ok (.bipush 16, 2) := by decide +kernel
theorem d_R_init_31 : decode b_R_init 31 = .ok (.newarray .int, 2) := by decide +kernel
theorem d_R_init_33 : decode b_R_init 33 = .ok (.putfield 21, 3) := by decide +kernel
theorem d_R_init_36 : decode b_R_init 36 = .ok (.aload_n 0, 1) := by decide +kernel
theorem d_R_init_37 : decode b_R_init 37 = .ok (.bipush 16, 2) := by decide +kernel
theorem d_R_init_39 : decode b_R_init 39 = .ok (.newarray .int, 2) := by decide +kernel
theorem d_R_init_41 : decode b_R_init 41 = .ok (.putfield 24, 3) := by decide +kernel
theorem d_R_init_44 : decode b_R_init 44 = .ok (.return_, 1) := by decide +kernel
abbrev cw_R (ca : Nat → ClassId) (a0 : Nat) (u : Nat → Nat) : va_W := [(a0, .inr (2, [.int 0, .int 0, .ref (u 0), .int 0, .ref (u 1), .ref (u 2), .ref (u 3), .ref (u 4)])), ((u 0), .inl (ca 2, 16, .inl (fun _ => 0))), ((u 1), .inl (ca 2, 16, .inl (fun _ => 0))), ((u 2), .inl (ca 2, 16, .inl (fun _ => 0))), ((u 3), .inl (ca 2, 16, .inl (fun _ => 0))), ((u 4), .inl (ca 2, 16, .inl (fun _ => 0)))]
set_option maxHeartbeats 4000000 in
set_option maxRecDepth 100000 in
theorem cm_R_init (l : Launch) (D : va_G) (ca : Nat → ClassId) (a0 : Nat) : ∀ sz : Nat, Met l y_R_init (Cond.code y_R_init b_R_init 1 none :: TB) { frames := 1, cells := 5, slots := 80, locals := 12 } (va_Pc [.ref a0] (pW D cls_all (tysC ca) NN [(a0, .inr (2, [.int 0, .int 0, .null, .int 0, .null, .null, .null, .null]))] sz)) (va_Qv (fun (_ : Nat → Nat) => True) (fun u t => va_P D cls_all (cw_R ca a0 u) t.heap ∧ va_D (va_A [(a0, .inr (2, [.int 0, .int 0, .null, .int 0, .null, .null, .null, .null]))] sz) (cw_R ca a0 u)) (va_A [(a0, .inr (2, [.int 0, .int 0, .null, .int 0, .null, .null, .null, .null]))] sz)) 5 80 (va_A [(a0, .inr (2, [.int 0, .int 0, .null, .int 0, .null, .null, .null, .null]))] sz) := by
  intro sz
  refine Met.ofW (cc := b_R_init) (maxL := 1) (ret := none) (by decide) rfl ?_
  intro p e s m args below meth c s₁ B hml hv
  obtain ⟨rfl, hsz, hP, hK, hD0, hN⟩ := hv
  have hx := B.exec
  have hb := B.bytes
  have hr := B.returns
  have hts := atoms_spec (ws := Cond.code y_R_init b_R_init 1 none :: TB) B.pre
  have hown : s.vm.findClass R_R = some m.cls := findClass_of_methodNamed B.named
  have hlocks := B.notSynchronized
  have hin : meth.name = "<init>" := (name_of_methodNamed B.named B.method).1
  subst hsz
  have hD := hD0.self (sz := s.heap.size)
  generalize hAe : va_A [(a0, .inr (2, [.int 0, .int 0, .null, .int 0, .null, .null, .null, .null]))] s.heap.size = A at hD ⊢
  have hA : ∀ q : Nat, s.heap.size ≤ q → A q := fun q h => by rw [← hAe]; exact Or.inr h
  have hS : va_S A s.heap s.heap [] := va_S.rf
  have hl := lv_entry ([.ref a0]) (n := 1) (Nat.le_of_ble_eq_true rfl)
  rw [lg_entry_eq]
  generalize (lg_sl ([.ref a0]) ++ List.replicate (1 - (lg_sl ([.ref a0])).length) Slot.unset).toArray = ls at hl ⊢
  have hl : lv_has ls 1 [(0, .ref a0)] := hl
  refine lv_aload_n hx hb d_R_init_0 rfl (lv_at hl 0 rfl) ?_
  refine W.objInit hx hb hown (hts _ (List.mem_cons_of_mem _ tb_506)) (hts _ (List.mem_cons_of_mem _ tb_63)) (hts _ (List.mem_cons_of_mem _ tb_64)) rfl (by rw [hml]; exact hl.1) rfl d_R_init_1 (Nat.le_of_ble_eq_true rfl) (Nat.le_of_ble_eq_true rfl) ?_
  refine W.eq (g2 := F0 m 4 ls []) rfl ?_
  refine lv_aload_n hx hb d_R_init_4 rfl (lv_at hl 0 rfl) ?_
  refine lv_bipush (v := 16) hx hb d_R_init_5 (by decide) ?_
  refine jd_newa (atype := .int) (a0 := (16, .inl (fun _ => 0))) (N' := 16) (ty := .int) hx hb (hts _ (List.mem_cons_of_mem _ tb_82)) rfl (fun _ _ h => h) hK hP hD hS hA 2 rfl (fun _ => rfl) (by decide) (by decide) (by decide) (Nat.le_of_ble_eq_true rfl) (Nat.le_of_ble_eq_true rfl) d_R_init_7 (c' := 1) (s' := 16) rfl rfl (fun q1 H hP hD hS => ?_)
  have hP : va_P D cls_all [(a0, .inr (2, [.int 0, .int 0, .null, .int 0, .null, .null, .null, .null])), (q1, .inl (ca 2, 16, .inl (fun _ => 0)))] H := hP
  have hD : va_D A [(a0, .inr (2, [.int 0, .int 0, .null, .int 0, .null, .null, .null, .null])), (q1, .inl (ca 2, 16, .inl (fun _ => 0)))] := hD
  refine va_putF (D := D) (ci := 2) (v := .ref q1) (ty := .array .int) (C := R_R) (T := F_R) (N := 8) hx hb hts (fun w h => List.mem_cons_of_mem _ (uw_R w h)) ft_R tk_R n_R hown hK hP hD hS 0 rfl rfl 2 (by decide) (hts _ (List.mem_cons_of_mem _ tb_512)) (fun _ h => h) rfl hin rfl (by decide +kernel) rfl rfl (Nat.le_of_ble_eq_true rfl) d_R_init_9 (fun H locs hP hD hS => ?_)
  have hP : va_P D cls_all [(a0, .inr (2, [.int 0, .int 0, .ref q1, .int 0, .null, .null, .null, .null])), (q1, .inl (ca 2, 16, .inl (fun _ => 0)))] H := hP
  have hD : va_D A [(a0, .inr (2, [.int 0, .int 0, .ref q1, .int 0, .null, .null, .null, .null])), (q1, .inl (ca 2, 16, .inl (fun _ => 0)))] := hD
  refine lv_aload_n hx hb d_R_init_12 rfl (lv_at hl 0 rfl) ?_
  refine lv_bipush (v := 16) hx hb d_R_init_13 (by decide) ?_
  refine jd_newa (atype := .int) (a0 := (16, .inl (fun _ => 0))) (N' := 16) (ty := .int) hx hb (hts _ (List.mem_cons_of_mem _ tb_82)) rfl (fun _ _ h => h) hK hP hD hS hA 2 rfl (fun _ => rfl) (by decide) (by decide) (by decide) (Nat.le_of_ble_eq_true rfl) (Nat.le_of_ble_eq_true rfl) d_R_init_15 (c' := 2) (s' := 32) rfl rfl (fun q2 H hP hD hS => ?_)
  have hP : va_P D cls_all [(a0, .inr (2, [.int 0, .int 0, .ref q1, .int 0, .null, .null, .null, .null])), (q1, .inl (ca 2, 16, .inl (fun _ => 0))), (q2, .inl (ca 2, 16, .inl (fun _ => 0)))] H := hP
  have hD : va_D A [(a0, .inr (2, [.int 0, .int 0, .ref q1, .int 0, .null, .null, .null, .null])), (q1, .inl (ca 2, 16, .inl (fun _ => 0))), (q2, .inl (ca 2, 16, .inl (fun _ => 0)))] := hD
  refine va_putF (D := D) (ci := 2) (v := .ref q2) (ty := .array .int) (C := R_R) (T := F_R) (N := 8) hx hb hts (fun w h => List.mem_cons_of_mem _ (uw_R w h)) ft_R tk_R n_R hown hK hP hD hS 0 rfl rfl 4 (by decide) (hts _ (List.mem_cons_of_mem _ tb_515)) (fun _ h => h) rfl hin rfl (by decide +kernel) rfl rfl (Nat.le_of_ble_eq_true rfl) d_R_init_17 (fun H locs hP hD hS => ?_)
  have hP : va_P D cls_all [(a0, .inr (2, [.int 0, .int 0, .ref q1, .int 0, .ref q2, .null, .null, .null])), (q1, .inl (ca 2, 16, .inl (fun _ => 0))), (q2, .inl (ca 2, 16, .inl (fun _ => 0)))] H := hP
  have hD : va_D A [(a0, .inr (2, [.int 0, .int 0, .ref q1, .int 0, .ref q2, .null, .null, .null])), (q1, .inl (ca 2, 16, .inl (fun _ => 0))), (q2, .inl (ca 2, 16, .inl (fun _ => 0)))] := hD
  refine lv_aload_n hx hb d_R_init_20 rfl (lv_at hl 0 rfl) ?_
  refine lv_bipush (v := 16) hx hb d_R_init_21 (by decide) ?_
  refine jd_newa (atype := .int) (a0 := (16, .inl (fun _ => 0))) (N' := 16) (ty := .int) hx hb (hts _ (List.mem_cons_of_mem _ tb_82)) rfl (fun _ _ h => h) hK hP hD hS hA 2 rfl (fun _ => rfl) (by decide) (by decide) (by decide) (Nat.le_of_ble_eq_true rfl) (Nat.le_of_ble_eq_true rfl) d_R_init_23 (c' := 3) (s' := 48) rfl rfl (fun q3 H hP hD hS => ?_)
  have hP : va_P D cls_all [(a0, .inr (2, [.int 0, .int 0, .ref q1, .int 0, .ref q2, .null, .null, .null])), (q1, .inl (ca 2, 16, .inl (fun _ => 0))), (q2, .inl (ca 2, 16, .inl (fun _ => 0))), (q3, .inl (ca 2, 16, .inl (fun _ => 0)))] H := hP
  have hD : va_D A [(a0, .inr (2, [.int 0, .int 0, .ref q1, .int 0, .ref q2, .null, .null, .null])), (q1, .inl (ca 2, 16, .inl (fun _ => 0))), (q2, .inl (ca 2, 16, .inl (fun _ => 0))), (q3, .inl (ca 2, 16, .inl (fun _ => 0)))] := hD
  refine va_putF (D := D) (ci := 2) (v := .ref q3) (ty := .array .int) (C := R_R) (T := F_R) (N := 8) hx hb hts (fun w h => List.mem_cons_of_mem _ (uw_R w h)) ft_R tk_R n_R hown hK hP hD hS 0 rfl rfl 5 (by decide) (hts _ (List.mem_cons_of_mem _ tb_516)) (fun _ h => h) rfl hin rfl (by decide +kernel) rfl rfl (Nat.le_of_ble_eq_true rfl) d_R_init_25 (fun H locs hP hD hS => ?_)
  have hP : va_P D cls_all [(a0, .inr (2, [.int 0, .int 0, .ref q1, .int 0, .ref q2, .ref q3, .null, .null])), (q1, .inl (ca 2, 16, .inl (fun _ => 0))), (q2, .inl (ca 2, 16, .inl (fun _ => 0))), (q3, .inl (ca 2, 16, .inl (fun _ => 0)))] H := hP
  have hD : va_D A [(a0, .inr (2, [.int 0, .int 0, .ref q1, .int 0, .ref q2, .ref q3, .null, .null])), (q1, .inl (ca 2, 16, .inl (fun _ => 0))), (q2, .inl (ca 2, 16, .inl (fun _ => 0))), (q3, .inl (ca 2, 16, .inl (fun _ => 0)))] := hD
  refine lv_aload_n hx hb d_R_init_28 rfl (lv_at hl 0 rfl) ?_
  refine lv_bipush (v := 16) hx hb d_R_init_29 (by decide) ?_
  refine jd_newa (atype := .int) (a0 := (16, .inl (fun _ => 0))) (N' := 16) (ty := .int) hx hb (hts _ (List.mem_cons_of_mem _ tb_82)) rfl (fun _ _ h => h) hK hP hD hS hA 2 rfl (fun _ => rfl) (by decide) (by decide) (by decide) (Nat.le_of_ble_eq_true rfl) (Nat.le_of_ble_eq_true rfl) d_R_init_31 (c' := 4) (s' := 64) rfl rfl (fun q4 H hP hD hS => ?_)
  have hP : va_P D cls_all [(a0, .inr (2, [.int 0, .int 0, .ref q1, .int 0, .ref q2, .ref q3, .null, .null])), (q1, .inl (ca 2, 16, .inl (fun _ => 0))), (q2, .inl (ca 2, 16, .inl (fun _ => 0))), (q3, .inl (ca 2, 16, .inl (fun _ => 0))), (q4, .inl (ca 2, 16, .inl (fun _ => 0)))] H := hP
  have hD : va_D A [(a0, .inr (2, [.int 0, .int 0, .ref q1, .int 0, .ref q2, .ref q3, .null, .null])), (q1, .inl (ca 2, 16, .inl (fun _ => 0))), (q2, .inl (ca 2, 16, .inl (fun _ => 0))), (q3, .inl (ca 2, 16, .inl (fun _ => 0))), (q4, .inl (ca 2, 16, .inl (fun _ => 0)))] := hD
  refine va_putF (D := D) (ci := 2) (v := .ref q4) (ty := .array .int) (C := R_R) (T := F_R) (N := 8) hx hb hts (fun w h => List.mem_cons_of_mem _ (uw_R w h)) ft_R tk_R n_R hown hK hP hD hS 0 rfl rfl 6 (by decide) (hts _ (List.mem_cons_of_mem _ tb_517)) (fun _ h => h) rfl hin rfl (by decide +kernel) rfl rfl (Nat.le_of_ble_eq_true rfl) d_R_init_33 (fun H locs hP hD hS => ?_)
  have hP : va_P D cls_all [(a0, .inr (2, [.int 0, .int 0, .ref q1, .int 0, .ref q2, .ref q3, .ref q4, .null])), (q1, .inl (ca 2, 16, .inl (fun _ => 0))), (q2, .inl (ca 2, 16, .inl (fun _ => 0))), (q3, .inl (ca 2, 16, .inl (fun _ => 0))), (q4, .inl (ca 2, 16, .inl (fun _ => 0)))] H := hP
  have hD : va_D A [(a0, .inr (2, [.int 0, .int 0, .ref q1, .int 0, .ref q2, .ref q3, .ref q4, .null])), (q1, .inl (ca 2, 16, .inl (fun _ => 0))), (q2, .inl (ca 2, 16, .inl (fun _ => 0))), (q3, .inl (ca 2, 16, .inl (fun _ => 0))), (q4, .inl (ca 2, 16, .inl (fun _ => 0)))] := hD
  refine lv_aload_n hx hb d_R_init_36 rfl (lv_at hl 0 rfl) ?_
  refine lv_bipush (v := 16) hx hb d_R_init_37 (by decide) ?_
  refine jd_newa (atype := .int) (a0 := (16, .inl (fun _ => 0))) (N' := 16) (ty := .int) hx hb (hts _ (List.mem_cons_of_mem _ tb_82)) rfl (fun _ _ h => h) hK hP hD hS hA 2 rfl (fun _ => rfl) (by decide) (by decide) (by decide) (Nat.le_of_ble_eq_true rfl) (Nat.le_of_ble_eq_true rfl) d_R_init_39 (c' := 5) (s' := 80) rfl rfl (fun q5 H hP hD hS => ?_)
  have hP : va_P D cls_all [(a0, .inr (2, [.int 0, .int 0, .ref q1, .int 0, .ref q2, .ref q3, .ref q4, .null])), (q1, .inl (ca 2, 16, .inl (fun _ => 0))), (q2, .inl (ca 2, 16, .inl (fun _ => 0))), (q3, .inl (ca 2, 16, .inl (fun _ => 0))), (q4, .inl (ca 2, 16, .inl (fun _ => 0))), (q5, .inl (ca 2, 16, .inl (fun _ => 0)))] H := hP
  have hD : va_D A [(a0, .inr (2, [.int 0, .int 0, .ref q1, .int 0, .ref q2, .ref q3, .ref q4, .null])), (q1, .inl (ca 2, 16, .inl (fun _ => 0))), (q2, .inl (ca 2, 16, .inl (fun _ => 0))), (q3, .inl (ca 2, 16, .inl (fun _ => 0))), (q4, .inl (ca 2, 16, .inl (fun _ => 0))), (q5, .inl (ca 2, 16, .inl (fun _ => 0)))] := hD
  refine va_putF (D := D) (ci := 2) (v := .ref q5) (ty := .array .int) (C := R_R) (T := F_R) (N := 8) hx hb hts (fun w h => List.mem_cons_of_mem _ (uw_R w h)) ft_R tk_R n_R hown hK hP hD hS 0 rfl rfl 7 (by decide) (hts _ (List.mem_cons_of_mem _ tb_518)) (fun _ h => h) rfl hin rfl (by decide +kernel) rfl rfl (Nat.le_of_ble_eq_true rfl) d_R_init_41 (fun H locs hP hD hS => ?_)
  have hP : va_P D cls_all [(a0, .inr (2, [.int 0, .int 0, .ref q1, .int 0, .ref q2, .ref q3, .ref q4, .ref q5])), (q1, .inl (ca 2, 16, .inl (fun _ => 0))), (q2, .inl (ca 2, 16, .inl (fun _ => 0))), (q3, .inl (ca 2, 16, .inl (fun _ => 0))), (q4, .inl (ca 2, 16, .inl (fun _ => 0))), (q5, .inl (ca 2, 16, .inl (fun _ => 0)))] H := hP
  have hD : va_D A [(a0, .inr (2, [.int 0, .int 0, .ref q1, .int 0, .ref q2, .ref q3, .ref q4, .ref q5])), (q1, .inl (ca 2, 16, .inl (fun _ => 0))), (q2, .inl (ca 2, 16, .inl (fun _ => 0))), (q3, .inl (ca 2, 16, .inl (fun _ => 0))), (q4, .inl (ca 2, 16, .inl (fun _ => 0))), (q5, .inl (ca 2, 16, .inl (fun _ => 0)))] := hD
  exact W.vret hx hb hr (fun t ht hW => ⟨⟨(fun k => ([q1, q2, q3, q4, q5] : List Nat).getD k 0), rfl, trivial, by rw [ht]; exact hP, hD⟩, hS.F ht⟩) hS.2.2 d_R_init_44 hlocks
theorem d_L_init_0 : decode b_L_init 0 = .ok (.aload_n 0, 1) := by decide +kernel
theorem d_L_init_1 : decode b_L_init 1 = .ok (.invokespecial 3, 3) := by decide +kernel
theorem d_L_init_4 : decode b_L_init 4 = .ok (.aload_n 0, 1) := by decide +kernel
theorem d_L_init_5 : decode b_L_init 5 = .ok (.ldc 9, 2) := by decide +kernel
theorem d_L_init_7 : decode b_L_init 7 = .ok (.newarray .long, 2) := by decide +kernel
theorem d_L_init_9 : decode b_L_init 9 = .ok (.putfield 10, 3) := by decide +kernel
theorem d_L_init_12 : decode b_L_init 12 = .ok (.aload_n 0, 1) := by decide +kernel
theorem d_L_init_13 : decode b_L_init 13 = .ok (.ldc 9, 2) := by decide +kernel
theorem d_L_init_15 : decode b_L_init 15 = .ok (.newarray .long, 2) := by decide +kernel
theorem d_L_init_17 : decode b_L_init 17 = .ok (.putfield 16, 3) := by decide +kernel
theorem d_L_init_20 : decode b_L_init 20 = .ok (.aload_n 0, 1) := by decide +kernel
theorem d_L_init_21 : decode b_L_init 21 = .ok (.sipush 256, 3) := by decide +kernel
theorem d_L_init_24 : decode b_L_init 24 = .ok (.newarray .int, 2) := by decide +kernel
theorem d_L_init_26 : decode b_L_init 26 = .ok (.putfield 19, 3) := by decide +kernel
theorem d_L_init_29 : decode b_L_init 29 = .ok (.aload_n 0, 1) := by decide +kernel
theorem d_L_init_30 : decode b_L_init 30 = .ok (.sipush 256, 3) := by decide +kernel
theorem d_L_init_33 : decode b_L_init 33 = .ok (.newarray .int, 2) := by decide +kernel
theorem d_L_init_35 : decode b_L_init 35 = .ok (.putfield 23, 3) := by decide +kernel
theorem d_L_init_38 : decode b_L_init 38 = .ok (.return_, 1) := by decide +kernel
abbrev cw_L (ca : Nat → ClassId) (a0 : Nat) (u : Nat → Nat) : va_W := [(a0, .inr (5, [.ref (u 0), .ref (u 1), .ref (u 2), .ref (u 3)])), ((u 0), .inl (ca 3, 65536, .inr (.inl (fun _ => 0)))), ((u 1), .inl (ca 3, 65536, .inr (.inl (fun _ => 0)))), ((u 2), .inl (ca 2, 256, .inl (fun _ => 0))), ((u 3), .inl (ca 2, 256, .inl (fun _ => 0)))]
set_option maxHeartbeats 4000000 in
set_option maxRecDepth 100000 in
theorem cm_L_init (l : Launch) (D : va_G) (ca : Nat → ClassId) (a0 : Nat) : ∀ sz : Nat, Met l y_L_init (Cond.code y_L_init b_L_init 1 none :: TB) { frames := 1, cells := 4, slots := 131584, locals := 12 } (va_Pc [.ref a0] (pW D cls_all (tysC ca) NN [(a0, .inr (5, [.null, .null, .null, .null]))] sz)) (va_Qv (fun (_ : Nat → Nat) => True) (fun u t => va_P D cls_all (cw_L ca a0 u) t.heap ∧ va_D (va_A [(a0, .inr (5, [.null, .null, .null, .null]))] sz) (cw_L ca a0 u)) (va_A [(a0, .inr (5, [.null, .null, .null, .null]))] sz)) 4 131584 (va_A [(a0, .inr (5, [.null, .null, .null, .null]))] sz) := by
  intro sz
  refine Met.ofW (cc := b_L_init) (maxL := 1) (ret := none) (by decide) rfl ?_
  intro p e s m args below meth c s₁ B hml hv
  obtain ⟨rfl, hsz, hP, hK, hD0, hN⟩ := hv
  have hx := B.exec
  have hb := B.bytes
  have hr := B.returns
  have hts := atoms_spec (ws := Cond.code y_L_init b_L_init 1 none :: TB) B.pre
  have hown : s.vm.findClass R_L = some m.cls := findClass_of_methodNamed B.named
  have hlocks := B.notSynchronized
  have hin : meth.name = "<init>" := (name_of_methodNamed B.named B.method).1
  subst hsz
  have hD := hD0.self (sz := s.heap.size)
  generalize hAe : va_A [(a0, .inr (5, [.null, .null, .null, .null]))] s.heap.size = A at hD ⊢
  have hA : ∀ q : Nat, s.heap.size ≤ q → A q := fun q h => by rw [← hAe]; exact Or.inr h
  have hS : va_S A s.heap s.heap [] := va_S.rf
  have hl := lv_entry ([.ref a0]) (n := 1) (Nat.le_of_ble_eq_true rfl)
  rw [lg_entry_eq]
  generalize (lg_sl ([.ref a0]) ++ List.replicate (1 - (lg_sl ([.ref a0])).length) Slot.unset).toArray = ls at hl ⊢
  have hl : lv_has ls 1 [(0, .ref a0)] := hl
  refine lv_aload_n hx hb d_L_init_0 rfl (lv_at hl 0 rfl) ?_
  refine W.objInit hx hb hown (hts _ (List.mem_cons_of_mem _ tb_87)) (hts _ (List.mem_cons_of_mem _ tb_63)) (hts _ (List.mem_cons_of_mem _ tb_64)) rfl (by rw [hml]; exact hl.1) rfl d_L_init_1 (Nat.le_of_ble_eq_true rfl) (Nat.le_of_ble_eq_true rfl) ?_
  refine W.eq (g2 := F0 m 4 ls []) rfl ?_
  refine lv_aload_n hx hb d_L_init_4 rfl (lv_at hl 0 rfl) ?_
  refine lv_ldc (v := 65536) hx hb hown (hts _ (List.mem_cons_of_mem _ tb_88)) d_L_init_5 ?_
  refine jd_newa (atype := .long) (a0 := (65536, .inr (.inl (fun _ => 0)))) (N' := 65536) (ty := .long) hx hb (hts _ (List.mem_cons_of_mem _ tb_101)) rfl (fun _ _ h => h) hK hP hD hS hA 3 rfl (fun _ => rfl) (by decide) (by decide) (by decide) (Nat.le_of_ble_eq_true rfl) (Nat.le_of_ble_eq_true rfl) d_L_init_7 (c' := 1) (s' := 65536) rfl rfl (fun q1 H hP hD hS => ?_)
  have hP : va_P D cls_all [(a0, .inr (5, [.null, .null, .null, .null])), (q1, .inl (ca 3, 65536, .inr (.inl (fun _ => 0))))] H := hP
  have hD : va_D A [(a0, .inr (5, [.null, .null, .null, .null])), (q1, .inl (ca 3, 65536, .inr (.inl (fun _ => 0))))] := hD
  refine va_putF (D := D) (ci := 5) (v := .ref q1) (ty := .array .long) (C := R_L) (T := F_L) (N := 4) hx hb hts (fun w h => List.mem_cons_of_mem _ (uw_L w h)) ft_L tk_L n_L hown hK hP hD hS 0 rfl rfl 0 (by decide) (hts _ (List.mem_cons_of_mem _ tb_89)) (fun _ h => h) rfl hin rfl (by decide +kernel) rfl rfl (Nat.le_of_ble_eq_true rfl) d_L_init_9 (fun H locs hP hD hS => ?_)
  have hP : va_P D cls_all [(a0, .inr (5, [.ref q1, .null, .null, .null])), (q1, .inl (ca 3, 65536, .inr (.inl (fun _ => 0))))] H := hP
  have hD : va_D A [(a0, .inr (5, [.ref q1, .null, .null, .null])), (q1, .inl (ca 3, 65536, .inr (.inl (fun _ => 0))))] := hD
  refine lv_aload_n hx hb d_L_init_12 rfl (lv_at hl 0 rfl) ?_
  refine lv_ldc (v := 65536) hx hb hown (hts _ (List.mem_cons_of_mem _ tb_88)) d_L_init_13 ?_
  refine jd_newa (atype := .long) (a0 := (65536, .inr (.inl (fun _ => 0)))) (N' := 65536) (ty := .long) hx hb (hts _ (List.mem_cons_of_mem _ tb_101)) rfl (fun _ _ h => h) hK hP hD hS hA 3 rfl (fun _ => rfl) (by decide) (by decide) (by decide) (Nat.le_of_ble_eq_true rfl) (Nat.le_of_ble_eq_true rfl) d_L_init_15 (c' := 2) (s' := 131072) rfl rfl (fun q2 H hP hD hS => ?_)
  have hP : va_P D cls_all [(a0, .inr (5, [.ref q1, .null, .null, .null])), (q1, .inl (ca 3, 65536, .inr (.inl (fun _ => 0)))), (q2, .inl (ca 3, 65536, .inr (.inl (fun _ => 0))))] H := hP
  have hD : va_D A [(a0, .inr (5, [.ref q1, .null, .null, .null])), (q1, .inl (ca 3, 65536, .inr (.inl (fun _ => 0)))), (q2, .inl (ca 3, 65536, .inr (.inl (fun _ => 0))))] := hD
  refine va_putF (D := D) (ci := 5) (v := .ref q2) (ty := .array .long) (C := R_L) (T := F_L) (N := 4) hx hb hts (fun w h => List.mem_cons_of_mem _ (uw_L w h)) ft_L tk_L n_L hown hK hP hD hS 0 rfl rfl 1 (by decide) (hts _ (List.mem_cons_of_mem _ tb_90)) (fun _ h => h) rfl hin rfl (by decide +kernel) rfl rfl (Nat.le_of_ble_eq_true rfl) d_L_init_17 (fun H locs hP hD hS => ?_)
  have hP : va_P D cls_all [(a0, .inr (5, [.ref q1, .ref q2, .null, .null])), (q1, .inl (ca 3, 65536, .inr (.inl (fun _ => 0)))), (q2, .inl (ca 3, 65536, .inr (.inl (fun _ => 0))))] H := hP
  have hD : va_D A [(a0, .inr (5, [.ref q1, .ref q2, .null, .null])), (q1, .inl (ca 3, 65536, .inr (.inl (fun _ => 0)))), (q2, .inl (ca 3, 65536, .inr (.inl (fun _ => 0))))] := hD
  refine lv_aload_n hx hb d_L_init_20 rfl (lv_at hl 0 rfl) ?_
  refine lv_sipush (v := 256) hx hb d_L_init_21 (by decide) ?_
  refine jd_newa (atype := .int) (a0 := (256, .inl (fun _ => 0))) (N' := 256) (ty := .int) hx hb (hts _ (List.mem_cons_of_mem _ tb_82)) rfl (fun _ _ h => h) hK hP hD hS hA 2 rfl (fun _ => rfl) (by decide) (by decide) (by decide) (Nat.le_of_ble_eq_true rfl) (Nat.le_of_ble_eq_true rfl) d_L_init_24 (c' := 3) (s' := 131328) rfl rfl (fun q3 H hP hD hS => ?_)
  have hP : va_P D cls_all [(a0, .inr (5, [.ref q1, .ref q2, .null, .null])), (q1, .inl (ca 3, 65536, .inr (.inl (fun _ => 0)))), (q2, .inl (ca 3, 65536, .inr (.inl (fun _ => 0)))), (q3, .inl (ca 2, 256, .inl (fun _ => 0)))] H := hP
  have hD : va_D A [(a0, .inr (5, [.ref q1, .ref q2, .null, .null])), (q1, .inl (ca 3, 65536, .inr (.inl (fun _ => 0)))), (q2, .inl (ca 3, 65536, .inr (.inl (fun _ => 0)))), (q3, .inl (ca 2, 256, .inl (fun _ => 0)))] := hD
  refine va_putF (D := D) (ci := 5) (v := .ref q3) (ty := .array .int) (C := R_L) (T := F_L) (N := 4) hx hb hts (fun w h => List.mem_cons_of_mem _ (uw_L w h)) ft_L tk_L n_L hown hK hP hD hS 0 rfl rfl 2 (by decide) (hts _ (List.mem_cons_of_mem _ tb_91)) (fun _ h => h) rfl hin rfl (by decide +kernel) rfl rfl (Nat.le_of_ble_eq_true rfl) d_L_init_26 (fun H locs hP hD hS => ?_)
  have hP : va_P D cls_all [(a0, .inr (5, [.ref q1, .ref q2, .ref q3, .null])), (q1, .inl (ca 3, 65536, .inr (.inl (fun _ => 0)))), (q2, .inl (ca 3, 65536, .inr (.inl (fun _ => 0)))), (q3, .inl (ca 2, 256, .inl (fun _ => 0)))] H := hP
  have hD : va_D A [(a0, .inr (5, [.ref q1, .ref q2, .ref q3, .null])), (q1, .inl (ca 3, 65536, .inr (.inl (fun _ => 0)))), (q2, .inl (ca 3, 65536, .inr (.inl (fun _ => 0)))), (q3, .inl (ca 2, 256, .inl (fun _ => 0)))] := hD
  refine lv_aload_n hx hb d_L_init_29 rfl (lv_at hl 0 rfl) ?_
  refine lv_sipush (v := 256) hx hb d_L_init_30 (by decide) ?_
  refine jd_newa (atype := .int) (a0 := (256, .inl (fun _ => 0))) (N' := 256) (ty := .int) hx hb (hts _ (List.mem_cons_of_mem _ tb_82)) rfl (fun _ _ h => h) hK hP hD hS hA 2 rfl (fun _ => rfl) (by decide) (by decide) (by decide) (Nat.le_of_ble_eq_true rfl) (Nat.le_of_ble_eq_true rfl) d_L_init_33 (c' := 4) (s' := 131584) rfl rfl (fun q4 H hP hD hS => ?_)
  have hP : va_P D cls_all [(a0, .inr (5, [.ref q1, .ref q2, .ref q3, .null])), (q1, .inl (ca 3, 65536, .inr (.inl (fun _ => 0)))), (q2, .inl (ca 3, 65536, .inr (.inl (fun _ => 0)))), (q3, .inl (ca 2, 256, .inl (fun _ => 0))), (q4, .inl (ca 2, 256, .inl (fun _ => 0)))] H := hP
  have hD : va_D A [(a0, .inr (5, [.ref q1, .ref q2, .ref q3, .null])), (q1, .inl (ca 3, 65536, .inr (.inl (fun _ => 0)))), (q2, .inl (ca 3, 65536, .inr (.inl (fun _ => 0)))), (q3, .inl (ca 2, 256, .inl (fun _ => 0))), (q4, .inl (ca 2, 256, .inl (fun _ => 0)))] := hD
  refine va_putF (D := D) (ci := 5) (v := .ref q4) (ty := .array .int) (C := R_L) (T := F_L) (N := 4) hx hb hts (fun w h => List.mem_cons_of_mem _ (uw_L w h)) ft_L tk_L n_L hown hK hP hD hS 0 rfl rfl 3 (by decide) (hts _ (List.mem_cons_of_mem _ tb_92)) (fun _ h => h) rfl hin rfl (by decide +kernel) rfl rfl (Nat.le_of_ble_eq_true rfl) d_L_init_35 (fun H locs hP hD hS => ?_)
  have hP : va_P D cls_all [(a0, .inr (5, [.ref q1, .ref q2, .ref q3, .ref q4])), (q1, .inl (ca 3, 65536, .inr (.inl (fun _ => 0)))), (q2, .inl (ca 3, 65536, .inr (.inl (fun _ => 0)))), (q3, .inl (ca 2, 256, .inl (fun _ => 0))), (q4, .inl (ca 2, 256, .inl (fun _ => 0)))] H := hP
  have hD : va_D A [(a0, .inr (5, [.ref q1, .ref q2, .ref q3, .ref q4])), (q1, .inl (ca 3, 65536, .inr (.inl (fun _ => 0)))), (q2, .inl (ca 3, 65536, .inr (.inl (fun _ => 0)))), (q3, .inl (ca 2, 256, .inl (fun _ => 0))), (q4, .inl (ca 2, 256, .inl (fun _ => 0)))] := hD
  exact W.vret hx hb hr (fun t ht hW => ⟨⟨(fun k => ([q1, q2, q3, q4] : List Nat).getD k 0), rfl, trivial, by rw [ht]; exact hP, hD⟩, hS.F ht⟩) hS.2.2 d_L_init_38 hlocks
theorem d_S_init_0 : decode b_S_init 0 = .ok (.aload_n 0, 1) := by decide +kernel
theorem d_S_init_1 : decode b_S_init 1 = .ok (.invokespecial 3, 3) := by decide +kernel
theorem d_S_init_4 : decode b_S_init 4 = .ok (.aload_n 0, 1) := by decide +kernel
theorem d_S_init_5 : decode b_S_init 5 = .ok (.bipush 16, 2) := by decide +kernel
theorem d_S_init_7 : decode b_S_init 7 = .ok (.newarray .int, 2) := by decide +kernel
theorem d_S_init_9 : decode b_S_init 9 = .ok (.putfield 9, 3) := by decide +kernel
theorem d_S_init_12 : decode b_S_init 12 = .ok (.aload_n 0, 1) := by decide +kernel
theorem d_S_init_13 : decode b_S_init 13 = .ok (.bipush 16, 2) := by decide +kernel
theorem d_S_init_15 : decode b_S_init 15 = .ok (.newarray .int, 2) := by decide +kernel
theorem d_S_init_17 : decode b_S_init 17 = .ok (.putfield 15, 3) := by decide +kernel
theorem d_S_init_20 : decode b_S_init 20 = .ok (.return_, 1) := by decide +kernel
abbrev cw_S (ca : Nat → ClassId) (a0 : Nat) (u : Nat → Nat) : va_W := [(a0, .inr (4, [.ref (u 0), .int 0, .ref (u 1)])), ((u 0), .inl (ca 2, 16, .inl (fun _ => 0))), ((u 1), .inl (ca 2, 16, .inl (fun _ => 0)))]
set_option maxHeartbeats 4000000 in
set_option maxRecDepth 100000 in
theorem cm_S_init (l : Launch) (D : va_G) (ca : Nat → ClassId) (a0 : Nat) : ∀ sz : Nat, Met l y_S_init (Cond.code y_S_init b_S_init 1 none :: TB) { frames := 1, cells := 2, slots := 32, locals := 12 } (va_Pc [.ref a0] (pW D cls_all (tysC ca) NN [(a0, .inr (4, [.null, .int 0, .null]))] sz)) (va_Qv (fun (_ : Nat → Nat) => True) (fun u t => va_P D cls_all (cw_S ca a0 u) t.heap ∧ va_D (va_A [(a0, .inr (4, [.null, .int 0, .null]))] sz) (cw_S ca a0 u)) (va_A [(a0, .inr (4, [.null, .int 0, .null]))] sz)) 2 32 (va_A [(a0, .inr (4, [.null, .int 0, .null]))] sz) := by
  intro sz
  refine Met.ofW (cc := b_S_init) (maxL := 1) (ret := none) (by decide) rfl ?_
  intro p e s m args below meth c s₁ B hml hv
  obtain ⟨rfl, hsz, hP, hK, hD0, hN⟩ := hv
  have hx := B.exec
  have hb := B.bytes
  have hr := B.returns
  have hts := atoms_spec (ws := Cond.code y_S_init b_S_init 1 none :: TB) B.pre
  have hown : s.vm.findClass R_S = some m.cls := findClass_of_methodNamed B.named
  have hlocks := B.notSynchronized
  have hin : meth.name = "<init>" := (name_of_methodNamed B.named B.method).1
  subst hsz
  have hD := hD0.self (sz := s.heap.size)
  generalize hAe : va_A [(a0, .inr (4, [.null, .int 0, .null]))] s.heap.size = A at hD ⊢
  have hA : ∀ q : Nat, s.heap.size ≤ q → A q := fun q h => by rw [← hAe]; exact Or.inr h
  have hS : va_S A s.heap s.heap [] := va_S.rf
  have hl := lv_entry ([.ref a0]) (n := 1) (Nat.le_of_ble_eq_true rfl)
  rw [lg_entry_eq]
  generalize (lg_sl ([.ref a0]) ++ List.replicate (1 - (lg_sl ([.ref a0])).length) Slot.unset).toArray = ls at hl ⊢
  have hl : lv_has ls 1 [(0, .ref a0)] := hl
  refine lv_aload_n hx hb d_S_init_0 rfl (lv_at hl 0 rfl) ?_
  refine W.objInit hx hb hown (hts _ (List.mem_cons_of_mem _ tb_70)) (hts _ (List.mem_cons_of_mem _ tb_63)) (hts _ (List.mem_cons_of_mem _ tb_64)) rfl (by rw [hml]; exact hl.1) rfl d_S_init_1 (Nat.le_of_ble_eq_true rfl) (Nat.le_of_ble_eq_true rfl) ?_
  refine W.eq (g2 := F0 m 4 ls []) rfl ?_
  refine lv_aload_n hx hb d_S_init_4 rfl (lv_at hl 0 rfl) ?_
  refine lv_bipush (v := 16) hx hb d_S_init_5 (by decide) ?_
  refine jd_newa (atype := .int) (a0 := (16, .inl (fun _ => 0))) (N' := 16) (ty := .int) hx hb (hts _ (List.mem_cons_of_mem _ tb_82)) rfl (fun _ _ h => h) hK hP hD hS hA 2 rfl (fun _ => rfl) (by decide) (by decide) (by decide) (Nat.le_of_ble_eq_true rfl) (Nat.le_of_ble_eq_true rfl) d_S_init_7 (c' := 1) (s' := 16) rfl rfl (fun q1 H hP hD hS => ?_)
  have hP : va_P D cls_all [(a0, .inr (4, [.null, .int 0, .null])), (q1, .inl (ca 2, 16, .inl (fun _ => 0)))] H := hP
  have hD : va_D A [(a0, .inr (4, [.null, .int 0, .null])), (q1, .inl (ca 2, 16, .inl (fun _ => 0)))] := hD
  refine va_putF (D := D) (ci := 4) (v := .ref q1) (ty := .array .int) (C := R_S) (T := F_S) (N := 3) hx hb hts (fun w h => List.mem_cons_of_mem _ (uw_S w h)) ft_S tk_S n_S hown hK hP hD hS 0 rfl rfl 0 (by decide) (hts _ (List.mem_cons_of_mem _ tb_71)) (fun _ h => h) rfl hin rfl (by decide +kernel) rfl rfl (Nat.le_of_ble_eq_true rfl) d_S_init_9 (fun H locs hP hD hS => ?_)
  have hP : va_P D cls_all [(a0, .inr (4, [.ref q1, .int 0, .null])), (q1, .inl (ca 2, 16, .inl (fun _ => 0)))] H := hP
  have hD : va_D A [(a0, .inr (4, [.ref q1, .int 0, .null])), (q1, .inl (ca 2, 16, .inl (fun _ => 0)))] := hD
  refine lv_aload_n hx hb d_S_init_12 rfl (lv_at hl 0 rfl) ?_
  refine lv_bipush (v := 16) hx hb d_S_init_13 (by decide) ?_
  refine jd_newa (atype := .int) (a0 := (16, .inl (fun _ => 0))) (N' := 16) (ty := .int) hx hb (hts _ (List.mem_cons_of_mem _ tb_82)) rfl (fun _ _ h => h) hK hP hD hS hA 2 rfl (fun _ => rfl) (by decide) (by decide) (by decide) (Nat.le_of_ble_eq_true rfl) (Nat.le_of_ble_eq_true rfl) d_S_init_15 (c' := 2) (s' := 32) rfl rfl (fun q2 H hP hD hS => ?_)
  have hP : va_P D cls_all [(a0, .inr (4, [.ref q1, .int 0, .null])), (q1, .inl (ca 2, 16, .inl (fun _ => 0))), (q2, .inl (ca 2, 16, .inl (fun _ => 0)))] H := hP
  have hD : va_D A [(a0, .inr (4, [.ref q1, .int 0, .null])), (q1, .inl (ca 2, 16, .inl (fun _ => 0))), (q2, .inl (ca 2, 16, .inl (fun _ => 0)))] := hD
  refine va_putF (D := D) (ci := 4) (v := .ref q2) (ty := .array .int) (C := R_S) (T := F_S) (N := 3) hx hb hts (fun w h => List.mem_cons_of_mem _ (uw_S w h)) ft_S tk_S n_S hown hK hP hD hS 0 rfl rfl 2 (by decide) (hts _ (List.mem_cons_of_mem _ tb_75)) (fun _ h => h) rfl hin rfl (by decide +kernel) rfl rfl (Nat.le_of_ble_eq_true rfl) d_S_init_17 (fun H locs hP hD hS => ?_)
  have hP : va_P D cls_all [(a0, .inr (4, [.ref q1, .int 0, .ref q2])), (q1, .inl (ca 2, 16, .inl (fun _ => 0))), (q2, .inl (ca 2, 16, .inl (fun _ => 0)))] H := hP
  have hD : va_D A [(a0, .inr (4, [.ref q1, .int 0, .ref q2])), (q1, .inl (ca 2, 16, .inl (fun _ => 0))), (q2, .inl (ca 2, 16, .inl (fun _ => 0)))] := hD
  exact W.vret hx hb hr (fun t ht hW => ⟨⟨(fun k => ([q1, q2] : List Nat).getD k 0), rfl, trivial, by rw [ht]; exact hP, hD⟩, hS.F ht⟩) hS.2.2 d_S_init_20 hlocks
theorem d_H_init_0 : decode b_H_init 0 = .ok (.aload_n 0, 1) := by decide +kernel
theorem d_H_init_1 : decode b_H_init 1 = .ok (.invokespecial 3, 3) := by decide +kernel
theorem d_H_init_4 : decode b_H_init 4 = .ok (.aload_n 0, 1) := by decide +kernel
theorem d_H_init_5 : decode b_H_init 5 = .ok (.sipush 400, 3) := by decide +kernel
theorem d_H_init_8 : decode b_H_init 8 = .ok (.newarray .byte, 2) := by decide +kernel
theorem d_H_init_10 : decode b_H_init 10 = .ok (.putfield 9, 3) := by decide +kernel
theorem d_H_init_13 : decode b_H_init 13 = .ok (.aload_n 0, 1) := by decide +kernel
theorem d_H_init_14 : decode b_H_init 14 = .ok (.sipush 400, 3) := by decide +kernel
theorem d_H_init_17 : decode b_H_init 17 = .ok (.newarray .byte, 2) := by decide +kernel
theorem d_H_init_19 : decode b_H_init 19 = .ok (.putfield 15, 3) := by decide +kernel
theorem d_H_init_22 : decode b_H_init 22 = .ok (.aload_n 0, 1) := by decide +kernel
theorem d_H_init_23 : decode b_H_init 23 = .ok (.sipush 400, 3) := by decide +kernel
theorem d_H_init_26 : decode b_H_init 26 = .ok (.newarray .boolean, 2) := by decide +kernel
theorem d_H_init_28 : decode b_H_init 28 = .ok (.putfield 18, 3) := by decide +kernel
theorem d_H_init_31 : decode b_H_init 31 = .ok (.aload_n 0, 1) := by decide +kernel
theorem d_H_init_32 : decode b_H_init 32 = .ok (.bipush 16, 2) := by decide +kernel
theorem d_H_init_34 : decode b_H_init 34 = .ok (.newarray .int, 2) := by decide +kernel
theorem d_H_init_36 : decode b_H_init 36 = .ok (.putfield 22, 3) := by decide +kernel
theorem d_H_init_39 : decode b_H_init 39 = .ok (.aload_n 0, 1) := by decide +kernel
theorem d_H_init_40 : decode b_H_init 40 = .ok (.bipush 16, 2) := by decide +kernel
theorem d_H_init_42 : decode b_H_init 42 = .ok (.newarray .int, 2) := by decide +kernel
theorem d_H_init_44 : decode b_H_init 44 = .ok (.putfield 26, 3) := by decide +kernel
theorem d_H_init_47 : decode b_H_init 47 = .ok (.aload_n 0, 1) := by decide +kernel
theorem d_H_init_48 : decode b_H_init 48 = .ok (.new 29, 3) := by decide +kernel
theorem d_H_init_51 : decode b_H_init 51 = .ok (.dup, 1) := by decide +kernel
theorem d_H_init_52 : decode b_H_init 52 = .ok (.invokespecial 31, 3) := by decide +kernel
theorem d_H_init_55 : decode b_H_init 55 = .ok (.putfield 32, 3) := by decide +kernel
theorem d_H_init_58 : decode b_H_init 58 = .ok (.aload_n 0, 1) := by decide +kernel
theorem d_H_init_59 : decode b_H_init 59 = .ok (.new 36, 3) := by decide +kernel
theorem d_H_init_62 : decode b_H_init 62 = .ok (.dup, 1) := by decide +kernel
theorem d_H_init_63 : decode b_H_init 63 = .ok (.invokespecial 38, 3) := by decide +kernel
theorem d_H_init_66 : decode b_H_init 66 = .ok (.putfield 39, 3) := by decide +kernel
theorem d_H_init_69 : decode b_H_init 69 = .ok (.return_, 1) := by decide +kernel
abbrev cw_H (ca : Nat → ClassId) (a0 : Nat) (u : Nat → Nat) : va_W := [(a0, .inr (0, [.ref (u 0), .ref (u 1), .ref (u 2), .ref (u 3), .ref (u 4), .ref (u 5), .ref (u 8), .int 0, .int 0])), ((u 0), .inl (ca 0, 400, .inl (fun _ => 0))), ((u 1), .inl (ca 0, 400, .inl (fun _ => 0))), ((u 2), .inl (ca 1, 400, .inl (fun _ => 0))), ((u 3), .inl (ca 2, 16, .inl (fun _ => 0))), ((u 4), .inl (ca 2, 16, .inl (fun _ => 0))), ((u 5), .inr (1, [.int 0, .long 0, .ref (u 6), .ref (u 7)])), ((u 6), .inl (ca 3, 256, .inr (.inl (fun _ => 0)))), ((u 7), .inl (ca 3, 256, .inr (.inl (fun _ => 0)))), ((u 8), .inr (2, [.int 0, .int 0, .ref (u 9), .int 0, .ref (u 10), .ref (u 11), .ref (u 12), .ref (u 13)])), ((u 9), .inl (ca 2, 16, .inl (fun _ => 0))), ((u 10), .inl (ca 2, 16, .inl (fun _ => 0))), ((u 11), .inl (ca 2, 16, .inl (fun _ => 0))), ((u 12), .inl (ca 2, 16, .inl (fun _ => 0))), ((u 13), .inl (ca 2, 16, .inl (fun _ => 0)))]
set_option maxHeartbeats 4000000 in
set_option maxRecDepth 100000 in
theorem cm_H_init (l : Launch) (D : va_G) (ca : Nat → ClassId) (a0 : Nat) : ∀ sz : Nat, Met l y_H_init (Cond.code y_H_init b_H_init 1 none :: TB) { frames := 2, cells := 14, slots := 1836, locals := 32 } (va_Pc [.ref a0] (pW D cls_all (tysC ca) NN [(a0, .inr (0, [.null, .null, .null, .null, .null, .null, .null, .int 0, .int 0]))] sz)) (va_Qv (fun (_ : Nat → Nat) => True) (fun u t => va_P D cls_all (cw_H ca a0 u) t.heap ∧ va_D (va_A [(a0, .inr (0, [.null, .null, .null, .null, .null, .null, .null, .int 0, .int 0]))] sz) (cw_H ca a0 u)) (va_A [(a0, .inr (0, [.null, .null, .null, .null, .null, .null, .null, .int 0, .int 0]))] sz)) 14 1836 (va_A [(a0, .inr (0, [.null, .null, .null, .null, .null, .null, .null, .int 0, .int 0]))] sz) := by
  intro sz
  refine Met.ofW (cc := b_H_init) (maxL := 1) (ret := none) (by decide) rfl ?_
  intro p e s m args below meth c s₁ B hml hv
  obtain ⟨rfl, hsz, hP, hK, hD0, hN⟩ := hv
  have hx := B.exec
  have hb := B.bytes
  have hr := B.returns
  have hts := atoms_spec (ws := Cond.code y_H_init b_H_init 1 none :: TB) B.pre
  have hown : s.vm.findClass R_H = some m.cls := findClass_of_methodNamed B.named
  have hlocks := B.notSynchronized
  have hin : meth.name = "<init>" := (name_of_methodNamed B.named B.method).1
  subst hsz
  have hD := hD0.self (sz := s.heap.size)
  generalize hAe : va_A [(a0, .inr (0, [.null, .null, .null, .null, .null, .null, .null, .int 0, .int 0]))] s.heap.size = A at hD ⊢
  have hA : ∀ q : Nat, s.heap.size ≤ q → A q := fun q h => by rw [← hAe]; exact Or.inr h
  have hS : va_S A s.heap s.heap [] := va_S.rf
  have hl := lv_entry ([.ref a0]) (n := 1) (Nat.le_of_ble_eq_true rfl)
  rw [lg_entry_eq]
  generalize (lg_sl ([.ref a0]) ++ List.replicate (1 - (lg_sl ([.ref a0])).length) Slot.unset).toArray = ls at hl ⊢
  have hl : lv_has ls 1 [(0, .ref a0)] := hl
  refine lv_aload_n hx hb d_H_init_0 rfl (lv_at hl 0 rfl) ?_
  refine W.objInit hx hb hown (hts _ (List.mem_cons_of_mem _ tb_479)) (hts _ (List.mem_cons_of_mem _ tb_63)) (hts _ (List.mem_cons_of_mem _ tb_64)) rfl (by rw [hml]; exact hl.1) rfl d_H_init_1 (Nat.le_of_ble_eq_true rfl) (Nat.le_of_ble_eq_true rfl) ?_
  refine W.eq (g2 := F0 m 4 ls []) rfl ?_
  refine lv_aload_n hx hb d_H_init_4 rfl (lv_at hl 0 rfl) ?_
  refine lv_sipush (v := 400) hx hb d_H_init_5 (by decide) ?_
  refine jd_newa (atype := .byte) (a0 := (400, .inl (fun _ => 0))) (N' := 400) (ty := .byte) hx hb (hts _ (List.mem_cons_of_mem _ tb_476)) rfl (fun _ _ h => h) hK hP hD hS hA 0 rfl (fun _ => rfl) (by decide) (by decide) (by decide) (Nat.le_of_ble_eq_true rfl) (Nat.le_of_ble_eq_true rfl) d_H_init_8 (c' := 1) (s' := 400) rfl rfl (fun q1 H hP hD hS => ?_)
  have hP : va_P D cls_all [(a0, .inr (0, [.null, .null, .null, .null, .null, .null, .null, .int 0, .int 0])), (q1, .inl (ca 0, 400, .inl (fun _ => 0)))] H := hP
  have hD : va_D A [(a0, .inr (0, [.null, .null, .null, .null, .null, .null, .null, .int 0, .int 0])), (q1, .inl (ca 0, 400, .inl (fun _ => 0)))] := hD
  refine va_putF (D := D) (ci := 0) (v := .ref q1) (ty := .array .byte) (C := R_H) (T := F_H) (N := 9) hx hb hts (fun w h => List.mem_cons_of_mem _ (uw_H w h)) ft_H tk_H n_H hown hK hP hD hS 0 rfl rfl 0 (by decide) (hts _ (List.mem_cons_of_mem _ tb_535)) (fun _ h => h) rfl hin rfl (by decide +kernel) rfl rfl (Nat.le_of_ble_eq_true rfl) d_H_init_10 (fun H locs hP hD hS => ?_)
  have hP : va_P D cls_all [(a0, .inr (0, [.ref q1, .null, .null, .null, .null, .null, .null, .int 0, .int 0])), (q1, .inl (ca 0, 400, .inl (fun _ => 0)))] H := hP
  have hD : va_D A [(a0, .inr (0, [.ref q1, .null, .null, .null, .null, .null, .null, .int 0, .int 0])), (q1, .inl (ca 0, 400, .inl (fun _ => 0)))] := hD
  refine lv_aload_n hx hb d_H_init_13 rfl (lv_at hl 0 rfl) ?_
  refine lv_sipush (v := 400) hx hb d_H_init_14 (by decide) ?_
  refine jd_newa (atype := .byte) (a0 := (400, .inl (fun _ => 0))) (N' := 400) (ty := .byte) hx hb (hts _ (List.mem_cons_of_mem _ tb_476)) rfl (fun _ _ h => h) hK hP hD hS hA 0 rfl (fun _ => rfl) (by decide) (by decide) (by decide) (Nat.le_of_ble_eq_true rfl) (Nat.le_of_ble_eq_true rfl) d_H_init_17 (c' := 2) (s' := 800) rfl rfl (fun q2 H hP hD hS => ?_)
  have hP : va_P D cls_all [(a0, .inr (0, [.ref q1, .null, .null, .null, .null, .null, .null, .int 0, .int 0])), (q1, .inl (ca 0, 400, .inl (fun _ => 0))), (q2, .inl (ca 0, 400, .inl (fun _ => 0)))] H := hP
  have hD : va_D A [(a0, .inr (0, [.ref q1, .null, .null, .null, .null, .null, .null, .int 0, .int 0])), (q1, .inl (ca 0, 400, .inl (fun _ => 0))), (q2, .inl (ca 0, 400, .inl (fun _ => 0)))] := hD
  refine va_putF (D := D) (ci := 0) (v := .ref q2) (ty := .array .byte) (C := R_H) (T := F_H) (N := 9) hx hb hts (fun w h => List.mem_cons_of_mem _ (uw_H w h)) ft_H tk_H n_H hown hK hP hD hS 0 rfl rfl 1 (by decide) (hts _ (List.mem_cons_of_mem _ tb_537)) (fun _ h => h) rfl hin rfl (by decide +kernel) rfl rfl (Nat.le_of_ble_eq_true rfl) d_H_init_19 (fun H locs hP hD hS => ?_)
  have hP : va_P D cls_all [(a0, .inr (0, [.ref q1, .ref q2, .null, .null, .null, .null, .null, .int 0, .int 0])), (q1, .inl (ca 0, 400, .inl (fun _ => 0))), (q2, .inl (ca 0, 400, .inl (fun _ => 0)))] H := hP
  have hD : va_D A [(a0, .inr (0, [.ref q1, .ref q2, .null, .null, .null, .null, .null, .int 0, .int 0])), (q1, .inl (ca 0, 400, .inl (fun _ => 0))), (q2, .inl (ca 0, 400, .inl (fun _ => 0)))] := hD
  refine lv_aload_n hx hb d_H_init_22 rfl (lv_at hl 0 rfl) ?_
  refine lv_sipush (v := 400) hx hb d_H_init_23 (by decide) ?_
  refine jd_newa (atype := .boolean) (a0 := (400, .inl (fun _ => 0))) (N' := 400) (ty := .boolean) hx hb (hts _ (List.mem_cons_of_mem _ tb_502)) rfl (fun _ _ h => h) hK hP hD hS hA 1 rfl (fun _ => rfl) (by decide) (by decide) (by decide) (Nat.le_of_ble_eq_true rfl) (Nat.le_of_ble_eq_true rfl) d_H_init_26 (c' := 3) (s' := 1200) rfl rfl (fun q3 H hP hD hS => ?_)
  have hP : va_P D cls_all [(a0, .inr (0, [.ref q1, .ref q2, .null, .null, .null, .null, .null, .int 0, .int 0])), (q1, .inl (ca 0, 400, .inl (fun _ => 0))), (q2, .inl (ca 0, 400, .inl (fun _ => 0))), (q3, .inl (ca 1, 400, .inl (fun _ => 0)))] H := hP
  have hD : va_D A [(a0, .inr (0, [.ref q1, .ref q2, .null, .null, .null, .null, .null, .int 0, .int 0])), (q1, .inl (ca 0, 400, .inl (fun _ => 0))), (q2, .inl (ca 0, 400, .inl (fun _ => 0))), (q3, .inl (ca 1, 400, .inl (fun _ => 0)))] := hD
  refine va_putF (D := D) (ci := 0) (v := .ref q3) (ty := .array .boolean) (C := R_H) (T := F_H) (N := 9) hx hb hts (fun w h => List.mem_cons_of_mem _ (uw_H w h)) ft_H tk_H n_H hown hK hP hD hS 0 rfl rfl 2 (by decide) (hts _ (List.mem_cons_of_mem _ tb_539)) (fun _ h => h) rfl hin rfl (by decide +kernel) rfl rfl (Nat.le_of_ble_eq_true rfl) d_H_init_28 (fun H locs hP hD hS => ?_)
  have hP : va_P D cls_all [(a0, .inr (0, [.ref q1, .ref q2, .ref q3, .null, .null, .null, .null, .int 0, .int 0])), (q1, .inl (ca 0, 400, .inl (fun _ => 0))), (q2, .inl (ca 0, 400, .inl (fun _ => 0))), (q3, .inl (ca 1, 400, .inl (fun _ => 0)))] H := hP
  have hD : va_D A [(a0, .inr (0, [.ref q1, .ref q2, .ref q3, .null, .null, .null, .null, .int 0, .int 0])), (q1, .inl (ca 0, 400, .inl (fun _ => 0))), (q2, .inl (ca 0, 400, .inl (fun _ => 0))), (q3, .inl (ca 1, 400, .inl (fun _ => 0)))] := hD
  refine lv_aload_n hx hb d_H_init_31 rfl (lv_at hl 0 rfl) ?_
  refine lv_bipush (v := 16) hx hb d_H_init_32 (by decide) ?_
  refine jd_newa (atype := .int) (a0 := (16, .inl (fun _ => 0))) (N' := 16) (ty := .int) hx hb (hts _ (List.mem_cons_of_mem _ tb_82)) rfl (fun _ _ h => h) hK hP hD hS hA 2 rfl (fun _ => rfl) (by decide) (by decide) (by decide) (Nat.le_of_ble_eq_true rfl) (Nat.le_of_ble_eq_true rfl) d_H_init_34 (c' := 4) (s' := 1216) rfl rfl (fun q4 H hP hD hS => ?_)
  have hP : va_P D cls_all [(a0, .inr (0, [.ref q1, .ref q2, .ref q3, .null, .null, .null, .null, .int 0, .int 0])), (q1, .inl (ca 0, 400, .inl (fun _ => 0))), (q2, .inl (ca 0, 400, .inl (fun _ => 0))), (q3, .inl (ca 1, 400, .inl (fun _ => 0))), (q4, .inl (ca 2, 16, .inl (fun _ => 0)))] H := hP
  have hD : va_D A [(a0, .inr (0, [.ref q1, .ref q2, .ref q3, .null, .null, .null, .null, .int 0, .int 0])), (q1, .inl (ca 0, 400, .inl (fun _ => 0))), (q2, .inl (ca 0, 400, .inl (fun _ => 0))), (q3, .inl (ca 1, 400, .inl (fun _ => 0))), (q4, .inl (ca 2, 16, .inl (fun _ => 0)))] := hD
  refine va_putF (D := D) (ci := 0) (v := .ref q4) (ty := .array .int) (C := R_H) (T := F_H) (N := 9) hx hb hts (fun w h => List.mem_cons_of_mem _ (uw_H w h)) ft_H tk_H n_H hown hK hP hD hS 0 rfl rfl 3 (by decide) (hts _ (List.mem_cons_of_mem _ tb_541)) (fun _ h => h) rfl hin rfl (by decide +kernel) rfl rfl (Nat.le_of_ble_eq_true rfl) d_H_init_36 (fun H locs hP hD hS => ?_)
  have hP : va_P D cls_all [(a0, .inr (0, [.ref q1, .ref q2, .ref q3, .ref q4, .null, .null, .null, .int 0, .int 0])), (q1, .inl (ca 0, 400, .inl (fun _ => 0))), (q2, .inl (ca 0, 400, .inl (fun _ => 0))), (q3, .inl (ca 1, 400, .inl (fun _ => 0))), (q4, .inl (ca 2, 16, .inl (fun _ => 0)))] H := hP
  have hD : va_D A [(a0, .inr (0, [.ref q1, .ref q2, .ref q3, .ref q4, .null, .null, .null, .int 0, .int 0])), (q1, .inl (ca 0, 400, .inl (fun _ => 0))), (q2, .inl (ca 0, 400, .inl (fun _ => 0))), (q3, .inl (ca 1, 400, .inl (fun _ => 0))), (q4, .inl (ca 2, 16, .inl (fun _ => 0)))] := hD
  refine lv_aload_n hx hb d_H_init_39 rfl (lv_at hl 0 rfl) ?_
  refine lv_bipush (v := 16) hx hb d_H_init_40 (by decide) ?_
  refine jd_newa (atype := .int) (a0 := (16, .inl (fun _ => 0))) (N' := 16) (ty := .int) hx hb (hts _ (List.mem_cons_of_mem _ tb_82)) rfl (fun _ _ h => h) hK hP hD hS hA 2 rfl (fun _ => rfl) (by decide) (by decide) (by decide) (Nat.le_of_ble_eq_true rfl) (Nat.le_of_ble_eq_true rfl) d_H_init_42 (c' := 5) (s' := 1232) rfl rfl (fun q5 H hP hD hS => ?_)
  have hP : va_P D cls_all [(a0, .inr (0, [.ref q1, .ref q2, .ref q3, .ref q4, .null, .null, .null, .int 0, .int 0])), (q1, .inl (ca 0, 400, .inl (fun _ => 0))), (q2, .inl (ca 0, 400, .inl (fun _ => 0))), (q3, .inl (ca 1, 400, .inl (fun _ => 0))), (q4, .inl (ca 2, 16, .inl (fun _ => 0))), (q5, .inl (ca 2, 16, .inl (fun _ => 0)))] H := hP
  have hD : va_D A [(a0, .inr (0, [.ref q1, .ref q2, .ref q3, .ref q4, .null, .null, .null, .int 0, .int 0])), (q1, .inl (ca 0, 400, .inl (fun _ => 0))), (q2, .inl (ca 0, 400, .inl (fun _ => 0))), (q3, .inl (ca 1, 400, .inl (fun _ => 0))), (q4, .inl (ca 2, 16, .inl (fun _ => 0))), (q5, .inl (ca 2, 16, .inl (fun _ => 0)))] := hD
  refine va_putF (D := D) (ci := 0) (v := .ref q5) (ty := .array .int) (C := R_H) (T := F_H) (N := 9) hx hb hts (fun w h => List.mem_cons_of_mem _ (uw_H w h)) ft_H tk_H n_H hown hK hP hD hS 0 rfl rfl 4 (by decide) (hts _ (List.mem_cons_of_mem _ tb_545)) (fun _ h => h) rfl hin rfl (by decide +kernel) rfl rfl (Nat.le_of_ble_eq_true rfl) d_H_init_44 (fun H locs hP hD hS => ?_)
  have hP : va_P D cls_all [(a0, .inr (0, [.ref q1, .ref q2, .ref q3, .ref q4, .ref q5, .null, .null, .int 0, .int 0])), (q1, .inl (ca 0, 400, .inl (fun _ => 0))), (q2, .inl (ca 0, 400, .inl (fun _ => 0))), (q3, .inl (ca 1, 400, .inl (fun _ => 0))), (q4, .inl (ca 2, 16, .inl (fun _ => 0))), (q5, .inl (ca 2, 16, .inl (fun _ => 0)))] H := hP
  have hD : va_D A [(a0, .inr (0, [.ref q1, .ref q2, .ref q3, .ref q4, .ref q5, .null, .null, .int 0, .int 0])), (q1, .inl (ca 0, 400, .inl (fun _ => 0))), (q2, .inl (ca 0, 400, .inl (fun _ => 0))), (q3, .inl (ca 1, 400, .inl (fun _ => 0))), (q4, .inl (ca 2, 16, .inl (fun _ => 0))), (q5, .inl (ca 2, 16, .inl (fun _ => 0)))] := hD
  refine lv_aload_n hx hb d_H_init_47 rfl (lv_at hl 0 rfl) ?_
  refine va_new (ci := 1) (fs := [.int 0, .long 0, .null, .null]) (C := R_T) (T := F_T) (N := 4) hx hb hts (fun w h => List.mem_cons_of_mem _ (uw_T w h)) ft_T tk_T hown (hts _ (List.mem_cons_of_mem _ tb_480)) (hts _ (List.mem_cons_of_mem _ tb_481)) (hts _ (List.mem_cons_of_mem _ tb_53)) hK hP hD hS hA rfl (fun j hj => by rcases (show j = 0 ∨ j = 1 ∨ j = 2 ∨ j = 3 by omega) with rfl | rfl | rfl | rfl <;> rfl) (Nat.le_of_ble_eq_true rfl) (Nat.le_of_ble_eq_true rfl) d_H_init_48 (fun q6 H hP hD hS => ?_)
  have hP : va_P D cls_all [(a0, .inr (0, [.ref q1, .ref q2, .ref q3, .ref q4, .ref q5, .null, .null, .int 0, .int 0])), (q1, .inl (ca 0, 400, .inl (fun _ => 0))), (q2, .inl (ca 0, 400, .inl (fun _ => 0))), (q3, .inl (ca 1, 400, .inl (fun _ => 0))), (q4, .inl (ca 2, 16, .inl (fun _ => 0))), (q5, .inl (ca 2, 16, .inl (fun _ => 0))), (q6, .inr (1, [.int 0, .long 0, .null, .null]))] H := hP
  have hD : va_D A [(a0, .inr (0, [.ref q1, .ref q2, .ref q3, .ref q4, .ref q5, .null, .null, .int 0, .int 0])), (q1, .inl (ca 0, 400, .inl (fun _ => 0))), (q2, .inl (ca 0, 400, .inl (fun _ => 0))), (q3, .inl (ca 1, 400, .inl (fun _ => 0))), (q4, .inl (ca 2, 16, .inl (fun _ => 0))), (q5, .inl (ca 2, 16, .inl (fun _ => 0))), (q6, .inr (1, [.int 0, .long 0, .null, .null]))] := hD
  refine W.cs (cells' := 6) (slots' := 1236) rfl rfl ?_
  refine lv_dup hx hb d_H_init_51 rfl ?_
  have hPc := hP.sub (ws' := [(q6, .inr (1, [.int 0, .long 0, .null, .null]))]) [6] rfl
  have hDc := hD.sub (ws' := [(q6, .inr (1, [.int 0, .long 0, .null, .null]))]) [6] (by decide) rfl
  have hFc := va_free (wc := [(q6, .inr (1, [.int 0, .long 0, .null, .null]))]) hD hS hA [6] rfl
  refine va_callv (va_runIN (As := []) (rest := [.ref q6, .ref a0]) ⟨hx, hb, hml, hown, hts⟩ (cm_T_init l D ca q6 H.size) ⟨va_cnB 0 hts (jd_gB tb_483) rfl rfl rfl (hN _ nw_5) (hts _ (List.mem_cons_of_mem _ tb_53)) ⟨by decide, by decide, rfl⟩ ⟨Nat.le_of_ble_eq_true rfl, Nat.le_of_ble_eq_true rfl⟩, rfl, (hts _ (List.mem_cons_of_mem _ tb_482))⟩ ⟨jd_blind nWc, jd_pre (av := [.ref q6]) hPc hK hDc (fun U h => nWm h hN)⟩ rfl rfl hl.1 rfl (lv_room (Nat.le_of_ble_eq_true rfl)) d_H_init_52 ⟨Nat.le_of_ble_eq_true rfl, Nat.le_of_ble_eq_true rfl⟩) hS (fun q _ h => hFc q h) hFc (fun u7 t H1 locs ht hvm _ hB hz1 hk1 hS => ?_)
  obtain ⟨hP1, hD1⟩ := hB
  rw [ht] at hP1
  have hP1 : va_P D cls_all [(q6, .inr (1, [.int 0, .long 0, .ref (u7 0), .ref (u7 1)])), ((u7 0), .inl (ca 3, 256, .inr (.inl (fun _ => 0)))), ((u7 1), .inl (ca 3, 256, .inr (.inl (fun _ => 0))))] H1 := hP1
  have hD1 : va_D _ [(q6, .inr (1, [.int 0, .long 0, .ref (u7 0), .ref (u7 1)])), ((u7 0), .inl (ca 3, 256, .inr (.inl (fun _ => 0)))), ((u7 1), .inl (ca 3, 256, .inr (.inl (fun _ => 0))))] := hD1
  obtain ⟨hP, hD⟩ := va_join (wr := [(a0, .inr (0, [.ref q1, .ref q2, .ref q3, .ref q4, .ref q5, .null, .null, .int 0, .int 0])), (q1, .inl (ca 0, 400, .inl (fun _ => 0))), (q2, .inl (ca 0, 400, .inl (fun _ => 0))), (q3, .inl (ca 1, 400, .inl (fun _ => 0))), (q4, .inl (ca 2, 16, .inl (fun _ => 0))), (q5, .inl (ca 2, 16, .inl (fun _ => 0)))]) (w1 := [(q6, .inr (1, [.int 0, .long 0, .ref (u7 0), .ref (u7 1)])), ((u7 0), .inl (ca 3, 256, .inr (.inl (fun _ => 0)))), ((u7 1), .inl (ca 3, 256, .inr (.inl (fun _ => 0))))]) hP hD [6] [0, 1, 2, 3, 4, 5] rfl rfl (by decide) (by decide) hk1 hFc hP1 hD1
  generalize H1 = H at hP hS ⊢
  have hP : va_P D cls_all [(a0, .inr (0, [.ref q1, .ref q2, .ref q3, .ref q4, .ref q5, .null, .null, .int 0, .int 0])), (q1, .inl (ca 0, 400, .inl (fun _ => 0))), (q2, .inl (ca 0, 400, .inl (fun _ => 0))), (q3, .inl (ca 1, 400, .inl (fun _ => 0))), (q4, .inl (ca 2, 16, .inl (fun _ => 0))), (q5, .inl (ca 2, 16, .inl (fun _ => 0))), (q6, .inr (1, [.int 0, .long 0, .ref (u7 0), .ref (u7 1)])), ((u7 0), .inl (ca 3, 256, .inr (.inl (fun _ => 0)))), ((u7 1), .inl (ca 3, 256, .inr (.inl (fun _ => 0))))] H := hP
  have hD : va_D A [(a0, .inr (0, [.ref q1, .ref q2, .ref q3, .ref q4, .ref q5, .null, .null, .int 0, .int 0])), (q1, .inl (ca 0, 400, .inl (fun _ => 0))), (q2, .inl (ca 0, 400, .inl (fun _ => 0))), (q3, .inl (ca 1, 400, .inl (fun _ => 0))), (q4, .inl (ca 2, 16, .inl (fun _ => 0))), (q5, .inl (ca 2, 16, .inl (fun _ => 0))), (q6, .inr (1, [.int 0, .long 0, .ref (u7 0), .ref (u7 1)])), ((u7 0), .inl (ca 3, 256, .inr (.inl (fun _ => 0)))), ((u7 1), .inl (ca 3, 256, .inr (.inl (fun _ => 0))))] := hD
  refine W.cs (cells' := 8) (slots' := 1748) rfl rfl ?_
  refine va_putF (D := D) (ci := 0) (v := .ref q6) (ty := .object "JuryDesk$Tally") (C := R_H) (T := F_H) (N := 9) hx hb hts (fun w h => List.mem_cons_of_mem _ (uw_H w h)) ft_H tk_H n_H hown hK hP hD hS 0 rfl rfl 5 (by decide) (hts _ (List.mem_cons_of_mem _ tb_548)) (fun _ h => h) rfl hin rfl (by decide +kernel) rfl rfl (Nat.le_of_ble_eq_true rfl) d_H_init_55 (fun H locs hP hD hS => ?_)
  have hP : va_P D cls_all [(a0, .inr (0, [.ref q1, .ref q2, .ref q3, .ref q4, .ref q5, .ref q6, .null, .int 0, .int 0])), (q1, .inl (ca 0, 400, .inl (fun _ => 0))), (q2, .inl (ca 0, 400, .inl (fun _ => 0))), (q3, .inl (ca 1, 400, .inl (fun _ => 0))), (q4, .inl (ca 2, 16, .inl (fun _ => 0))), (q5, .inl (ca 2, 16, .inl (fun _ => 0))), (q6, .inr (1, [.int 0, .long 0, .ref (u7 0), .ref (u7 1)])), ((u7 0), .inl (ca 3, 256, .inr (.inl (fun _ => 0)))), ((u7 1), .inl (ca 3, 256, .inr (.inl (fun _ => 0))))] H := hP
  have hD : va_D A [(a0, .inr (0, [.ref q1, .ref q2, .ref q3, .ref q4, .ref q5, .ref q6, .null, .int 0, .int 0])), (q1, .inl (ca 0, 400, .inl (fun _ => 0))), (q2, .inl (ca 0, 400, .inl (fun _ => 0))), (q3, .inl (ca 1, 400, .inl (fun _ => 0))), (q4, .inl (ca 2, 16, .inl (fun _ => 0))), (q5, .inl (ca 2, 16, .inl (fun _ => 0))), (q6, .inr (1, [.int 0, .long 0, .ref (u7 0), .ref (u7 1)])), ((u7 0), .inl (ca 3, 256, .inr (.inl (fun _ => 0)))), ((u7 1), .inl (ca 3, 256, .inr (.inl (fun _ => 0))))] := hD
  refine lv_aload_n hx hb d_H_init_58 rfl (lv_at hl 0 rfl) ?_
  refine va_new (ci := 2) (fs := [.int 0, .int 0, .null, .int 0, .null, .null, .null, .null]) (C := R_R) (T := F_R) (N := 8) hx hb hts (fun w h => List.mem_cons_of_mem _ (uw_R w h)) ft_R tk_R hown (hts _ (List.mem_cons_of_mem _ tb_503)) (hts _ (List.mem_cons_of_mem _ tb_369)) (hts _ (List.mem_cons_of_mem _ tb_54)) hK hP hD hS hA rfl (fun j hj => by rcases (show j = 0 ∨ j = 1 ∨ j = 2 ∨ j = 3 ∨ j = 4 ∨ j = 5 ∨ j = 6 ∨ j = 7 by omega) with rfl | rfl | rfl | rfl | rfl | rfl | rfl | rfl <;> rfl) (Nat.le_of_ble_eq_true rfl) (Nat.le_of_ble_eq_true rfl) d_H_init_59 (fun q8 H hP hD hS => ?_)
  have hP : va_P D cls_all [(a0, .inr (0, [.ref q1, .ref q2, .ref q3, .ref q4, .ref q5, .ref q6, .null, .int 0, .int 0])), (q1, .inl (ca 0, 400, .inl (fun _ => 0))), (q2, .inl (ca 0, 400, .inl (fun _ => 0))), (q3, .inl (ca 1, 400, .inl (fun _ => 0))), (q4, .inl (ca 2, 16, .inl (fun _ => 0))), (q5, .inl (ca 2, 16, .inl (fun _ => 0))), (q6, .inr (1, [.int 0, .long 0, .ref (u7 0), .ref (u7 1)])), ((u7 0), .inl (ca 3, 256, .inr (.inl (fun _ => 0)))), ((u7 1), .inl (ca 3, 256, .inr (.inl (fun _ => 0)))), (q8, .inr (2, [.int 0, .int 0, .null, .int 0, .null, .null, .null, .null]))] H := hP
  have hD : va_D A [(a0, .inr (0, [.ref q1, .ref q2, .ref q3, .ref q4, .ref q5, .ref q6, .null, .int 0, .int 0])), (q1, .inl (ca 0, 400, .inl (fun _ => 0))), (q2, .inl (ca 0, 400, .inl (fun _ => 0))), (q3, .inl (ca 1, 400, .inl (fun _ => 0))), (q4, .inl (ca 2, 16, .inl (fun _ => 0))), (q5, .inl (ca 2, 16, .inl (fun _ => 0))), (q6, .inr (1, [.int 0, .long 0, .ref (u7 0), .ref (u7 1)])), ((u7 0), .inl (ca 3, 256, .inr (.inl (fun _ => 0)))), ((u7 1), .inl (ca 3, 256, .inr (.inl (fun _ => 0)))), (q8, .inr (2, [.int 0, .int 0, .null, .int 0, .null, .null, .null, .null]))] := hD
  refine W.cs (cells' := 9) (slots' := 1756) rfl rfl ?_
  refine lv_dup hx hb d_H_init_62 rfl ?_
  have hPc := hP.sub (ws' := [(q8, .inr (2, [.int 0, .int 0, .null, .int 0, .null, .null, .null, .null]))]) [9] rfl
  have hDc := hD.sub (ws' := [(q8, .inr (2, [.int 0, .int 0, .null, .int 0, .null, .null, .null, .null]))]) [9] (by decide) rfl
  have hFc := va_free (wc := [(q8, .inr (2, [.int 0, .int 0, .null, .int 0, .null, .null, .null, .null]))]) hD hS hA [9] rfl
  refine va_callv (va_runIN (As := []) (rest := [.ref q8, .ref a0]) ⟨hx, hb, hml, hown, hts⟩ (cm_R_init l D ca q8 H.size) ⟨va_cnB 0 hts (jd_gB tb_505) rfl rfl rfl (hN _ nw_6) (hts _ (List.mem_cons_of_mem _ tb_54)) ⟨by decide, by decide, rfl⟩ ⟨Nat.le_of_ble_eq_true rfl, Nat.le_of_ble_eq_true rfl⟩, rfl, (hts _ (List.mem_cons_of_mem _ tb_504))⟩ ⟨jd_blind nWc, jd_pre (av := [.ref q8]) hPc hK hDc (fun U h => nWm h hN)⟩ rfl rfl hl.1 rfl (lv_room (Nat.le_of_ble_eq_true rfl)) d_H_init_63 ⟨Nat.le_of_ble_eq_true rfl, Nat.le_of_ble_eq_true rfl⟩) hS (fun q _ h => hFc q h) hFc (fun u9 t H1 locs ht hvm _ hB hz1 hk1 hS => ?_)
  obtain ⟨hP1, hD1⟩ := hB
  rw [ht] at hP1
  have hP1 : va_P D cls_all [(q8, .inr (2, [.int 0, .int 0, .ref (u9 0), .int 0, .ref (u9 1), .ref (u9 2), .ref (u9 3), .ref (u9 4)])), ((u9 0), .inl (ca 2, 16, .inl (fun _ => 0))), ((u9 1), .inl (ca 2, 16, .inl (fun _ => 0))), ((u9 2), .inl (ca 2, 16, .inl (fun _ => 0))), ((u9 3), .inl (ca 2, 16, .inl (fun _ => 0))), ((u9 4), .inl (ca 2, 16, .inl (fun _ => 0)))] H1 := hP1
  have hD1 : va_D _ [(q8, .inr (2, [.int 0, .int 0, .ref (u9 0), .int 0, .ref (u9 1), .ref (u9 2), .ref (u9 3), .ref (u9 4)])), ((u9 0), .inl (ca 2, 16, .inl (fun _ => 0))), ((u9 1), .inl (ca 2, 16, .inl (fun _ => 0))), ((u9 2), .inl (ca 2, 16, .inl (fun _ => 0))), ((u9 3), .inl (ca 2, 16, .inl (fun _ => 0))), ((u9 4), .inl (ca 2, 16, .inl (fun _ => 0)))] := hD1
  obtain ⟨hP, hD⟩ := va_join (wr := [(a0, .inr (0, [.ref q1, .ref q2, .ref q3, .ref q4, .ref q5, .ref q6, .null, .int 0, .int 0])), (q1, .inl (ca 0, 400, .inl (fun _ => 0))), (q2, .inl (ca 0, 400, .inl (fun _ => 0))), (q3, .inl (ca 1, 400, .inl (fun _ => 0))), (q4, .inl (ca 2, 16, .inl (fun _ => 0))), (q5, .inl (ca 2, 16, .inl (fun _ => 0))), (q6, .inr (1, [.int 0, .long 0, .ref (u7 0), .ref (u7 1)])), ((u7 0), .inl (ca 3, 256, .inr (.inl (fun _ => 0)))), ((u7 1), .inl (ca 3, 256, .inr (.inl (fun _ => 0))))]) (w1 := [(q8, .inr (2, [.int 0, .int 0, .ref (u9 0), .int 0, .ref (u9 1), .ref (u9 2), .ref (u9 3), .ref (u9 4)])), ((u9 0), .inl (ca 2, 16, .inl (fun _ => 0))), ((u9 1), .inl (ca 2, 16, .inl (fun _ => 0))), ((u9 2), .inl (ca 2, 16, .inl (fun _ => 0))), ((u9 3), .inl (ca 2, 16, .inl (fun _ => 0))), ((u9 4), .inl (ca 2, 16, .inl (fun _ => 0)))]) hP hD [9] [0, 1, 2, 3, 4, 5, 6, 7, 8] rfl rfl (by decide) (by decide) hk1 hFc hP1 hD1
  generalize H1 = H at hP hS ⊢
  have hP : va_P D cls_all [(a0, .inr (0, [.ref q1, .ref q2, .ref q3, .ref q4, .ref q5, .ref q6, .null, .int 0, .int 0])), (q1, .inl (ca 0, 400, .inl (fun _ => 0))), (q2, .inl (ca 0, 400, .inl (fun _ => 0))), (q3, .inl (ca 1, 400, .inl (fun _ => 0))), (q4, .inl (ca 2, 16, .inl (fun _ => 0))), (q5, .inl (ca 2, 16, .inl (fun _ => 0))), (q6, .inr (1, [.int 0, .long 0, .ref (u7 0), .ref (u7 1)])), ((u7 0), .inl (ca 3, 256, .inr (.inl (fun _ => 0)))), ((u7 1), .inl (ca 3, 256, .inr (.inl (fun _ => 0)))), (q8, .inr (2, [.int 0, .int 0, .ref (u9 0), .int 0, .ref (u9 1), .ref (u9 2), .ref (u9 3), .ref (u9 4)])), ((u9 0), .inl (ca 2, 16, .inl (fun _ => 0))), ((u9 1), .inl (ca 2, 16, .inl (fun _ => 0))), ((u9 2), .inl (ca 2, 16, .inl (fun _ => 0))), ((u9 3), .inl (ca 2, 16, .inl (fun _ => 0))), ((u9 4), .inl (ca 2, 16, .inl (fun _ => 0)))] H := hP
  have hD : va_D A [(a0, .inr (0, [.ref q1, .ref q2, .ref q3, .ref q4, .ref q5, .ref q6, .null, .int 0, .int 0])), (q1, .inl (ca 0, 400, .inl (fun _ => 0))), (q2, .inl (ca 0, 400, .inl (fun _ => 0))), (q3, .inl (ca 1, 400, .inl (fun _ => 0))), (q4, .inl (ca 2, 16, .inl (fun _ => 0))), (q5, .inl (ca 2, 16, .inl (fun _ => 0))), (q6, .inr (1, [.int 0, .long 0, .ref (u7 0), .ref (u7 1)])), ((u7 0), .inl (ca 3, 256, .inr (.inl (fun _ => 0)))), ((u7 1), .inl (ca 3, 256, .inr (.inl (fun _ => 0)))), (q8, .inr (2, [.int 0, .int 0, .ref (u9 0), .int 0, .ref (u9 1), .ref (u9 2), .ref (u9 3), .ref (u9 4)])), ((u9 0), .inl (ca 2, 16, .inl (fun _ => 0))), ((u9 1), .inl (ca 2, 16, .inl (fun _ => 0))), ((u9 2), .inl (ca 2, 16, .inl (fun _ => 0))), ((u9 3), .inl (ca 2, 16, .inl (fun _ => 0))), ((u9 4), .inl (ca 2, 16, .inl (fun _ => 0)))] := hD
  refine W.cs (cells' := 14) (slots' := 1836) rfl rfl ?_
  refine va_putF (D := D) (ci := 0) (v := .ref q8) (ty := .object "JuryDesk$Rows") (C := R_H) (T := F_H) (N := 9) hx hb hts (fun w h => List.mem_cons_of_mem _ (uw_H w h)) ft_H tk_H n_H hown hK hP hD hS 0 rfl rfl 6 (by decide) (hts _ (List.mem_cons_of_mem _ tb_551)) (fun _ h => h) rfl hin rfl (by decide +kernel) rfl rfl (Nat.le_of_ble_eq_true rfl) d_H_init_66 (fun H locs hP hD hS => ?_)
  have hP : va_P D cls_all [(a0, .inr (0, [.ref q1, .ref q2, .ref q3, .ref q4, .ref q5, .ref q6, .ref q8, .int 0, .int 0])), (q1, .inl (ca 0, 400, .inl (fun _ => 0))), (q2, .inl (ca 0, 400, .inl (fun _ => 0))), (q3, .inl (ca 1, 400, .inl (fun _ => 0))), (q4, .inl (ca 2, 16, .inl (fun _ => 0))), (q5, .inl (ca 2, 16, .inl (fun _ => 0))), (q6, .inr (1, [.int 0, .long 0, .ref (u7 0), .ref (u7 1)])), ((u7 0), .inl (ca 3, 256, .inr (.inl (fun _ => 0)))), ((u7 1), .inl (ca 3, 256, .inr (.inl (fun _ => 0)))), (q8, .inr (2, [.int 0, .int 0, .ref (u9 0), .int 0, .ref (u9 1), .ref (u9 2), .ref (u9 3), .ref (u9 4)])), ((u9 0), .inl (ca 2, 16, .inl (fun _ => 0))), ((u9 1), .inl (ca 2, 16, .inl (fun _ => 0))), ((u9 2), .inl (ca 2, 16, .inl (fun _ => 0))), ((u9 3), .inl (ca 2, 16, .inl (fun _ => 0))), ((u9 4), .inl (ca 2, 16, .inl (fun _ => 0)))] H := hP
  have hD : va_D A [(a0, .inr (0, [.ref q1, .ref q2, .ref q3, .ref q4, .ref q5, .ref q6, .ref q8, .int 0, .int 0])), (q1, .inl (ca 0, 400, .inl (fun _ => 0))), (q2, .inl (ca 0, 400, .inl (fun _ => 0))), (q3, .inl (ca 1, 400, .inl (fun _ => 0))), (q4, .inl (ca 2, 16, .inl (fun _ => 0))), (q5, .inl (ca 2, 16, .inl (fun _ => 0))), (q6, .inr (1, [.int 0, .long 0, .ref (u7 0), .ref (u7 1)])), ((u7 0), .inl (ca 3, 256, .inr (.inl (fun _ => 0)))), ((u7 1), .inl (ca 3, 256, .inr (.inl (fun _ => 0)))), (q8, .inr (2, [.int 0, .int 0, .ref (u9 0), .int 0, .ref (u9 1), .ref (u9 2), .ref (u9 3), .ref (u9 4)])), ((u9 0), .inl (ca 2, 16, .inl (fun _ => 0))), ((u9 1), .inl (ca 2, 16, .inl (fun _ => 0))), ((u9 2), .inl (ca 2, 16, .inl (fun _ => 0))), ((u9 3), .inl (ca 2, 16, .inl (fun _ => 0))), ((u9 4), .inl (ca 2, 16, .inl (fun _ => 0)))] := hD
  exact W.vret hx hb hr (fun t ht hW => ⟨⟨(fun k => ([q1, q2, q3, q4, q5, q6, (u7 0), (u7 1), q8, (u9 0), (u9 1), (u9 2), (u9 3), (u9 4)] : List Nat).getD k 0), rfl, trivial, by rw [ht]; exact hP, hD⟩, hS.F ht⟩) hS.2.2 d_H_init_69 hlocks
end
