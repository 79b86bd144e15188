section
-- ===== PART A: goes FIRST, ahead of the names: the tables' words, and 'selects' of the private methods out of them =====
/-- a private method of a class that the tables say can be made, by its rows of tables_1 -/
def lw_okq (q : MethodName × Nat) : Prop := (q.1.cls ≠ "java/lang/invoke/MethodHandle" ∧ q.1.cls ≠ "java/lang/invoke/VarHandle") ∧ Cond.instantiable q.1.cls q.2 ∈ tables_1 ∧ Cond.privateMethod q.1 ∈ tables_1 ∧ Cond.instanceMethod q.1 ∈ tables_1
theorem lw_p0 : lw_okq (⟨"SkewFind$Picture", "shearAll", "(II)V"⟩, 6) := ⟨⟨by decide +kernel, by decide +kernel⟩, List.mem_of_getElem? (i := 26) (by decide +kernel), List.mem_of_getElem? (i := 161) (by decide +kernel), List.mem_of_getElem? (i := 162) (by decide +kernel)⟩
theorem lw_p1 : lw_okq (⟨"SkewFind$Picture", "shearRows", "(DI)V"⟩, 6) := ⟨⟨by decide +kernel, by decide +kernel⟩, List.mem_of_getElem? (i := 26) (by decide +kernel), List.mem_of_getElem? (i := 182) (by decide +kernel), List.mem_of_getElem? (i := 183) (by decide +kernel)⟩
theorem lw_p2 : lw_okq (⟨"SkewFind$Picture", "movedRight", "(II)I"⟩, 6) := ⟨⟨by decide +kernel, by decide +kernel⟩, List.mem_of_getElem? (i := 26) (by decide +kernel), List.mem_of_getElem? (i := 194) (by decide +kernel), List.mem_of_getElem? (i := 195) (by decide +kernel)⟩
theorem lw_p3 : lw_okq (⟨"SkewFind$Picture", "setRowBits", "(II)V"⟩, 6) := ⟨⟨by decide +kernel, by decide +kernel⟩, List.mem_of_getElem? (i := 26) (by decide +kernel), List.mem_of_getElem? (i := 207) (by decide +kernel), List.mem_of_getElem? (i := 208) (by decide +kernel)⟩
theorem lw_p4 : lw_okq (⟨"SkewFind$Picture", "shearColumns", "(DI)V"⟩, 6) := ⟨⟨by decide +kernel, by decide +kernel⟩, List.mem_of_getElem? (i := 26) (by decide +kernel), List.mem_of_getElem? (i := 211) (by decide +kernel), List.mem_of_getElem? (i := 212) (by decide +kernel)⟩
theorem lw_p5 : lw_okq (⟨"SkewFind$Picture", "keepOldBits", "()V"⟩, 6) := ⟨⟨by decide +kernel, by decide +kernel⟩, List.mem_of_getElem? (i := 26) (by decide +kernel), List.mem_of_getElem? (i := 215) (by decide +kernel), List.mem_of_getElem? (i := 216) (by decide +kernel)⟩
theorem lw_p6 : lw_okq (⟨"SkewFind$Picture", "oldRowBits", "(I)I"⟩, 6) := ⟨⟨by decide +kernel, by decide +kernel⟩, List.mem_of_getElem? (i := 26) (by decide +kernel), List.mem_of_getElem? (i := 223) (by decide +kernel), List.mem_of_getElem? (i := 224) (by decide +kernel)⟩
theorem lw_p7 : lw_okq (⟨"SkewFind", "noteChange", "()V"⟩, 6) := ⟨⟨by decide +kernel, by decide +kernel⟩, List.mem_of_getElem? (i := 18) (by decide +kernel), List.mem_of_getElem? (i := 227) (by decide +kernel), List.mem_of_getElem? (i := 228) (by decide +kernel)⟩
theorem lw_p8 : lw_okq (⟨"SkewFind$Rows", "beginsBand", "(I)Z"⟩, 1) := ⟨⟨by decide +kernel, by decide +kernel⟩, List.mem_of_getElem? (i := 124) (by decide +kernel), List.mem_of_getElem? (i := 244) (by decide +kernel), List.mem_of_getElem? (i := 245) (by decide +kernel)⟩
theorem lw_p9 : lw_okq (⟨"SkewFind", "checkSample", "(II)V"⟩, 6) := ⟨⟨by decide +kernel, by decide +kernel⟩, List.mem_of_getElem? (i := 18) (by decide +kernel), List.mem_of_getElem? (i := 305) (by decide +kernel), List.mem_of_getElem? (i := 306) (by decide +kernel)⟩
theorem lw_p10 : lw_okq (⟨"java/lang/Throwable", "fillInStackTrace", "(I)Ljava/lang/Throwable;"⟩, 6) := ⟨⟨by decide +kernel, by decide +kernel⟩, List.mem_of_getElem? (i := 352) (by decide +kernel), List.mem_of_getElem? (i := 350) (by decide +kernel), List.mem_of_getElem? (i := 351) (by decide +kernel)⟩
theorem lw_p11 : lw_okq (⟨"SkewFind$Search", "countEnds", "(D)V"⟩, 7) := ⟨⟨by decide +kernel, by decide +kernel⟩, List.mem_of_getElem? (i := 96) (by decide +kernel), List.mem_of_getElem? (i := 432) (by decide +kernel), List.mem_of_getElem? (i := 433) (by decide +kernel)⟩
theorem lw_p12 : lw_okq (⟨"SkewFind$Search", "countOnLine", "(I)V"⟩, 7) := ⟨⟨by decide +kernel, by decide +kernel⟩, List.mem_of_getElem? (i := 96) (by decide +kernel), List.mem_of_getElem? (i := 438) (by decide +kernel), List.mem_of_getElem? (i := 439) (by decide +kernel)⟩
theorem lw_p13 : lw_okq (⟨"SkewFind$Search", "squaresOfCounts", "()I"⟩, 7) := ⟨⟨by decide +kernel, by decide +kernel⟩, List.mem_of_getElem? (i := 96) (by decide +kernel), List.mem_of_getElem? (i := 442) (by decide +kernel), List.mem_of_getElem? (i := 443) (by decide +kernel)⟩
theorem lw_p14 : lw_okq (⟨"SkewFind$Search", "tryGrid", "(I)V"⟩, 7) := ⟨⟨by decide +kernel, by decide +kernel⟩, List.mem_of_getElem? (i := 96) (by decide +kernel), List.mem_of_getElem? (i := 460) (by decide +kernel), List.mem_of_getElem? (i := 461) (by decide +kernel)⟩
theorem lw_p15 : lw_okq (⟨"SkewFind$Search", "take", "(ID)V"⟩, 7) := ⟨⟨by decide +kernel, by decide +kernel⟩, List.mem_of_getElem? (i := 96) (by decide +kernel), List.mem_of_getElem? (i := 465) (by decide +kernel), List.mem_of_getElem? (i := 466) (by decide +kernel)⟩
def lw_privs_1 : List (MethodName × Nat) := [(⟨"SkewFind$Picture", "shearAll", "(II)V"⟩, 6), (⟨"SkewFind$Picture", "shearRows", "(DI)V"⟩, 6), (⟨"SkewFind$Picture", "movedRight", "(II)I"⟩, 6), (⟨"SkewFind$Picture", "setRowBits", "(II)V"⟩, 6), (⟨"SkewFind$Picture", "shearColumns", "(DI)V"⟩, 6), (⟨"SkewFind$Picture", "keepOldBits", "()V"⟩, 6), (⟨"SkewFind$Picture", "oldRowBits", "(I)I"⟩, 6), (⟨"SkewFind", "noteChange", "()V"⟩, 6), (⟨"SkewFind$Rows", "beginsBand", "(I)Z"⟩, 1), (⟨"SkewFind", "checkSample", "(II)V"⟩, 6), (⟨"java/lang/Throwable", "fillInStackTrace", "(I)Ljava/lang/Throwable;"⟩, 6), (⟨"SkewFind$Search", "countEnds", "(D)V"⟩, 7), (⟨"SkewFind$Search", "countOnLine", "(I)V"⟩, 7), (⟨"SkewFind$Search", "squaresOfCounts", "()I"⟩, 7), (⟨"SkewFind$Search", "tryGrid", "(I)V"⟩, 7), (⟨"SkewFind$Search", "take", "(ID)V"⟩, 7)]
theorem lw_r1 : ∀ q ∈ lw_privs_1, lw_okq q := List.forall_mem_cons.mpr ⟨lw_p0, List.forall_mem_cons.mpr ⟨lw_p1, List.forall_mem_cons.mpr ⟨lw_p2, List.forall_mem_cons.mpr ⟨lw_p3, List.forall_mem_cons.mpr ⟨lw_p4, List.forall_mem_cons.mpr ⟨lw_p5, List.forall_mem_cons.mpr ⟨lw_p6, List.forall_mem_cons.mpr ⟨lw_p7, List.forall_mem_cons.mpr ⟨lw_p8, List.forall_mem_cons.mpr ⟨lw_p9, List.forall_mem_cons.mpr ⟨lw_p10, List.forall_mem_cons.mpr ⟨lw_p11, List.forall_mem_cons.mpr ⟨lw_p12, List.forall_mem_cons.mpr ⟨lw_p13, List.forall_mem_cons.mpr ⟨lw_p14, List.forall_mem_cons.mpr ⟨lw_p15, fun _ h => absurd h List.not_mem_nil⟩⟩⟩⟩⟩⟩⟩⟩⟩⟩⟩⟩⟩⟩⟩⟩
theorem lw_p16 : lw_okq (⟨"SkewFind$Search", "tryBeside", "(II)V"⟩, 7) := ⟨⟨by decide +kernel, by decide +kernel⟩, List.mem_of_getElem? (i := 96) (by decide +kernel), List.mem_of_getElem? (i := 471) (by decide +kernel), List.mem_of_getElem? (i := 472) (by decide +kernel)⟩
theorem lw_p17 : lw_okq (⟨"SkewFind", "checkAsked", "()V"⟩, 6) := ⟨⟨by decide +kernel, by decide +kernel⟩, List.mem_of_getElem? (i := 18) (by decide +kernel), List.mem_of_getElem? (i := 484) (by decide +kernel), List.mem_of_getElem? (i := 485) (by decide +kernel)⟩
theorem lw_p18 : lw_okq (⟨"SkewFind$Picture", "sampledRow", "(IDD)I"⟩, 6) := ⟨⟨by decide +kernel, by decide +kernel⟩, List.mem_of_getElem? (i := 26) (by decide +kernel), List.mem_of_getElem? (i := 541) (by decide +kernel), List.mem_of_getElem? (i := 542) (by decide +kernel)⟩
theorem lw_p19 : lw_okq (⟨"SkewFind$Window", "cropLeft", "()V"⟩, 5) := ⟨⟨by decide +kernel, by decide +kernel⟩, List.mem_of_getElem? (i := 70) (by decide +kernel), List.mem_of_getElem? (i := 585) (by decide +kernel), List.mem_of_getElem? (i := 586) (by decide +kernel)⟩
theorem lw_p20 : lw_okq (⟨"SkewFind$Window", "columnIsEmpty", "(I)Z"⟩, 5) := ⟨⟨by decide +kernel, by decide +kernel⟩, List.mem_of_getElem? (i := 70) (by decide +kernel), List.mem_of_getElem? (i := 589) (by decide +kernel), List.mem_of_getElem? (i := 590) (by decide +kernel)⟩
theorem lw_p21 : lw_okq (⟨"SkewFind$Window", "cropUpper", "()V"⟩, 5) := ⟨⟨by decide +kernel, by decide +kernel⟩, List.mem_of_getElem? (i := 70) (by decide +kernel), List.mem_of_getElem? (i := 594) (by decide +kernel), List.mem_of_getElem? (i := 595) (by decide +kernel)⟩
theorem lw_p22 : lw_okq (⟨"SkewFind$Window", "cropRight", "()V"⟩, 5) := ⟨⟨by decide +kernel, by decide +kernel⟩, List.mem_of_getElem? (i := 70) (by decide +kernel), List.mem_of_getElem? (i := 599) (by decide +kernel), List.mem_of_getElem? (i := 600) (by decide +kernel)⟩
theorem lw_p23 : lw_okq (⟨"SkewFind$Window", "cropLower", "()V"⟩, 5) := ⟨⟨by decide +kernel, by decide +kernel⟩, List.mem_of_getElem? (i := 70) (by decide +kernel), List.mem_of_getElem? (i := 603) (by decide +kernel), List.mem_of_getElem? (i := 604) (by decide +kernel)⟩
theorem lw_p24 : lw_okq (⟨"SkewFind", "checkBand", "(I)V"⟩, 6) := ⟨⟨by decide +kernel, by decide +kernel⟩, List.mem_of_getElem? (i := 18) (by decide +kernel), List.mem_of_getElem? (i := 625) (by decide +kernel), List.mem_of_getElem? (i := 626) (by decide +kernel)⟩
theorem lw_p25 : lw_okq (⟨"SkewFind$Rows", "lowestOn", "(III)I"⟩, 1) := ⟨⟨by decide +kernel, by decide +kernel⟩, List.mem_of_getElem? (i := 124) (by decide +kernel), List.mem_of_getElem? (i := 651) (by decide +kernel), List.mem_of_getElem? (i := 652) (by decide +kernel)⟩
theorem lw_p26 : lw_okq (⟨"SkewFindModel", "whole", "()V"⟩, 14) := ⟨⟨by decide +kernel, by decide +kernel⟩, List.mem_of_getElem? (i := 657) (by decide +kernel), List.mem_of_getElem? (i := 663) (by decide +kernel), List.mem_of_getElem? (i := 664) (by decide +kernel)⟩
theorem lw_p27 : lw_okq (⟨"SkewFindModel", "isSample", "(II)Z"⟩, 14) := ⟨⟨by decide +kernel, by decide +kernel⟩, List.mem_of_getElem? (i := 657) (by decide +kernel), List.mem_of_getElem? (i := 719) (by decide +kernel), List.mem_of_getElem? (i := 720) (by decide +kernel)⟩
theorem lw_p28 : lw_okq (⟨"SkewFindModel", "refuses", "(I)Z"⟩, 14) := ⟨⟨by decide +kernel, by decide +kernel⟩, List.mem_of_getElem? (i := 657) (by decide +kernel), List.mem_of_getElem? (i := 723) (by decide +kernel), List.mem_of_getElem? (i := 724) (by decide +kernel)⟩
theorem lw_p29 : lw_okq (⟨"SkewFindModel", "isOn", "(II)Z"⟩, 14) := ⟨⟨by decide +kernel, by decide +kernel⟩, List.mem_of_getElem? (i := 657) (by decide +kernel), List.mem_of_getElem? (i := 731) (by decide +kernel), List.mem_of_getElem? (i := 732) (by decide +kernel)⟩
theorem lw_p30 : lw_okq (⟨"SkewFindModel", "sumOf", "(I)D"⟩, 14) := ⟨⟨by decide +kernel, by decide +kernel⟩, List.mem_of_getElem? (i := 657) (by decide +kernel), List.mem_of_getElem? (i := 739) (by decide +kernel), List.mem_of_getElem? (i := 740) (by decide +kernel)⟩
theorem lw_p31 : lw_okq (⟨"SkewFindModel", "countEnds", "()I"⟩, 14) := ⟨⟨by decide +kernel, by decide +kernel⟩, List.mem_of_getElem? (i := 657) (by decide +kernel), List.mem_of_getElem? (i := 754) (by decide +kernel), List.mem_of_getElem? (i := 755) (by decide +kernel)⟩
def lw_privs_2 : List (MethodName × Nat) := [(⟨"SkewFind$Search", "tryBeside", "(II)V"⟩, 7), (⟨"SkewFind", "checkAsked", "()V"⟩, 6), (⟨"SkewFind$Picture", "sampledRow", "(IDD)I"⟩, 6), (⟨"SkewFind$Window", "cropLeft", "()V"⟩, 5), (⟨"SkewFind$Window", "columnIsEmpty", "(I)Z"⟩, 5), (⟨"SkewFind$Window", "cropUpper", "()V"⟩, 5), (⟨"SkewFind$Window", "cropRight", "()V"⟩, 5), (⟨"SkewFind$Window", "cropLower", "()V"⟩, 5), (⟨"SkewFind", "checkBand", "(I)V"⟩, 6), (⟨"SkewFind$Rows", "lowestOn", "(III)I"⟩, 1), (⟨"SkewFindModel", "whole", "()V"⟩, 14), (⟨"SkewFindModel", "isSample", "(II)Z"⟩, 14), (⟨"SkewFindModel", "refuses", "(I)Z"⟩, 14), (⟨"SkewFindModel", "isOn", "(II)Z"⟩, 14), (⟨"SkewFindModel", "sumOf", "(I)D"⟩, 14), (⟨"SkewFindModel", "countEnds", "()I"⟩, 14)]
theorem lw_r2 : ∀ q ∈ lw_privs_2, lw_okq q := List.forall_mem_cons.mpr ⟨lw_p16, List.forall_mem_cons.mpr ⟨lw_p17, List.forall_mem_cons.mpr ⟨lw_p18, List.forall_mem_cons.mpr ⟨lw_p19, List.forall_mem_cons.mpr ⟨lw_p20, List.forall_mem_cons.mpr ⟨lw_p21, List.forall_mem_cons.mpr ⟨lw_p22, List.forall_mem_cons.mpr ⟨lw_p23, List.forall_mem_cons.mpr ⟨lw_p24, List.forall_mem_cons.mpr ⟨lw_p25, List.forall_mem_cons.mpr ⟨lw_p26, List.forall_mem_cons.mpr ⟨lw_p27, List.forall_mem_cons.mpr ⟨lw_p28, List.forall_mem_cons.mpr ⟨lw_p29, List.forall_mem_cons.mpr ⟨lw_p30, List.forall_mem_cons.mpr ⟨lw_p31, fun _ h => absurd h List.not_mem_nil⟩⟩⟩⟩⟩⟩⟩⟩⟩⟩⟩⟩⟩⟩⟩⟩
theorem lw_p32 : lw_okq (⟨"SkewFindModel", "isEnd", "(II)Z"⟩, 14) := ⟨⟨by decide +kernel, by decide +kernel⟩, List.mem_of_getElem? (i := 657) (by decide +kernel), List.mem_of_getElem? (i := 758) (by decide +kernel), List.mem_of_getElem? (i := 759) (by decide +kernel)⟩
theorem lw_p33 : lw_okq (⟨"SkewFindModel", "countOn", "()I"⟩, 14) := ⟨⟨by decide +kernel, by decide +kernel⟩, List.mem_of_getElem? (i := 657) (by decide +kernel), List.mem_of_getElem? (i := 770) (by decide +kernel), List.mem_of_getElem? (i := 771) (by decide +kernel)⟩
theorem lw_p34 : lw_okq (⟨"SkewFindModel", "shear", "(II)V"⟩, 14) := ⟨⟨by decide +kernel, by decide +kernel⟩, List.mem_of_getElem? (i := 657) (by decide +kernel), List.mem_of_getElem? (i := 792) (by decide +kernel), List.mem_of_getElem? (i := 793) (by decide +kernel)⟩
theorem lw_p35 : lw_okq (⟨"SkewFindModel", "shearRows", "(DI)V"⟩, 14) := ⟨⟨by decide +kernel, by decide +kernel⟩, List.mem_of_getElem? (i := 657) (by decide +kernel), List.mem_of_getElem? (i := 797) (by decide +kernel), List.mem_of_getElem? (i := 798) (by decide +kernel)⟩
theorem lw_p36 : lw_okq (⟨"SkewFindModel", "forget", "()V"⟩, 14) := ⟨⟨by decide +kernel, by decide +kernel⟩, List.mem_of_getElem? (i := 657) (by decide +kernel), List.mem_of_getElem? (i := 801) (by decide +kernel), List.mem_of_getElem? (i := 802) (by decide +kernel)⟩
theorem lw_p37 : lw_okq (⟨"SkewFindModel", "change", "()V"⟩, 14) := ⟨⟨by decide +kernel, by decide +kernel⟩, List.mem_of_getElem? (i := 657) (by decide +kernel), List.mem_of_getElem? (i := 808) (by decide +kernel), List.mem_of_getElem? (i := 809) (by decide +kernel)⟩
theorem lw_p38 : lw_okq (⟨"SkewFindModel", "shearColumns", "(DI)V"⟩, 14) := ⟨⟨by decide +kernel, by decide +kernel⟩, List.mem_of_getElem? (i := 657) (by decide +kernel), List.mem_of_getElem? (i := 818) (by decide +kernel), List.mem_of_getElem? (i := 819) (by decide +kernel)⟩
theorem lw_p39 : lw_okq (⟨"SkewFindModel", "sample", "(I)V"⟩, 14) := ⟨⟨by decide +kernel, by decide +kernel⟩, List.mem_of_getElem? (i := 657) (by decide +kernel), List.mem_of_getElem? (i := 822) (by decide +kernel), List.mem_of_getElem? (i := 823) (by decide +kernel)⟩
theorem lw_p40 : lw_okq (⟨"SkewFindModel", "isBare", "(II)Z"⟩, 14) := ⟨⟨by decide +kernel, by decide +kernel⟩, List.mem_of_getElem? (i := 657) (by decide +kernel), List.mem_of_getElem? (i := 840) (by decide +kernel), List.mem_of_getElem? (i := 841) (by decide +kernel)⟩
theorem lw_p41 : lw_okq (⟨"SkewFindModel", "goTo", "(I)Z"⟩, 14) := ⟨⟨by decide +kernel, by decide +kernel⟩, List.mem_of_getElem? (i := 657) (by decide +kernel), List.mem_of_getElem? (i := 852) (by decide +kernel), List.mem_of_getElem? (i := 853) (by decide +kernel)⟩
theorem lw_p42 : lw_okq (⟨"SkewFindModel", "onIn", "(II)I"⟩, 14) := ⟨⟨by decide +kernel, by decide +kernel⟩, List.mem_of_getElem? (i := 657) (by decide +kernel), List.mem_of_getElem? (i := 860) (by decide +kernel), List.mem_of_getElem? (i := 861) (by decide +kernel)⟩
def lw_privs_3 : List (MethodName × Nat) := [(⟨"SkewFindModel", "isEnd", "(II)Z"⟩, 14), (⟨"SkewFindModel", "countOn", "()I"⟩, 14), (⟨"SkewFindModel", "shear", "(II)V"⟩, 14), (⟨"SkewFindModel", "shearRows", "(DI)V"⟩, 14), (⟨"SkewFindModel", "forget", "()V"⟩, 14), (⟨"SkewFindModel", "change", "()V"⟩, 14), (⟨"SkewFindModel", "shearColumns", "(DI)V"⟩, 14), (⟨"SkewFindModel", "sample", "(I)V"⟩, 14), (⟨"SkewFindModel", "isBare", "(II)Z"⟩, 14), (⟨"SkewFindModel", "goTo", "(I)Z"⟩, 14), (⟨"SkewFindModel", "onIn", "(II)I"⟩, 14)]
theorem lw_r3 : ∀ q ∈ lw_privs_3, lw_okq q := List.forall_mem_cons.mpr ⟨lw_p32, List.forall_mem_cons.mpr ⟨lw_p33, List.forall_mem_cons.mpr ⟨lw_p34, List.forall_mem_cons.mpr ⟨lw_p35, List.forall_mem_cons.mpr ⟨lw_p36, List.forall_mem_cons.mpr ⟨lw_p37, List.forall_mem_cons.mpr ⟨lw_p38, List.forall_mem_cons.mpr ⟨lw_p39, List.forall_mem_cons.mpr ⟨lw_p40, List.forall_mem_cons.mpr ⟨lw_p41, List.forall_mem_cons.mpr ⟨lw_p42, fun _ h => absurd h List.not_mem_nil⟩⟩⟩⟩⟩⟩⟩⟩⟩⟩⟩
def lw_privs : List (MethodName × Nat) := lw_privs_1 ++ (lw_privs_2 ++ (lw_privs_3))
def lw_tbl : List Cond := k2_sels lw_privs ++ tables_1
theorem lw_privs_ok : ∀ q ∈ lw_privs, lw_okq q := by
  show ∀ q ∈ lw_privs_1 ++ (lw_privs_2 ++ (lw_privs_3)), lw_okq q
  exact List.forall_mem_append.mpr ⟨lw_r1, List.forall_mem_append.mpr ⟨lw_r2, lw_r3⟩⟩
/-- the streams that the claim lets the run draw from -/
abbrev lw_cs : List Choice := [Jvm.Choice.named "NaN.bits"]
theorem lw_bits : nanBits ∈ lw_cs := by first | decide | exact List.mem_cons_self | simp [lw_cs, nanBits]
-- ===== end of PART A; then your names; then what follows =====
end
section
/-! ===== BEGIN words of one list among another's, by their places ===== -/
theorem goodIn_r {big : List Cond} (ws : List Cond) (ps : List Nat) (hp : ws = ps.filterMap (fun i => big[i]?)) (h : ws.all goodWord = true) : GoodIn big ws := by
  intro w hw
  have h1 := List.all_eq_true.mp h w hw
  rw [hp] at hw
  obtain ⟨i, -, hi⟩ := List.mem_filterMap.mp hw
  have hm : w ∈ big := by first | exact List.mem_of_getElem? hi | exact List.getElem?_mem hi
  exact ⟨hm, good_of_word h1⟩
theorem goodIn_app {big a b : List Cond} (ha : GoodIn big a) (hb : GoodIn big b) : GoodIn big (a ++ b) := fun w h => (List.mem_append.mp h).elim (ha w) (hb w)
theorem goodIn_ca {big a b : List Cond} {c : Cond} (ha : GoodIn big (c :: a)) (hb : GoodIn big b) : GoodIn big (c :: (a ++ b)) := fun w h => (List.mem_cons.mp h).elim (fun e => ha w (List.mem_cons.mpr (Or.inl e))) (fun h => (List.mem_append.mp h).elim (fun h => ha w (List.mem_cons.mpr (Or.inr h))) (hb w))
theorem goodIn_sub {big ws : List Cond} (hm : ∀ w ∈ ws, w ∈ big) (h : ws.all goodWord = true) : GoodIn big ws := fun w hw => ⟨hm w hw, good_of_word (List.all_eq_true.mp h w hw)⟩
/-! ===== END ===== -/

/-! ===== BEGIN exceptions that leave a method, and their catching by the caller (launches without stack traces) ===== -/
section VXA
/-! The laws vx_back, vx_callV, vx_callS, vx_callSW, vx_throw0, vx_throwS follow proofs of the library, with one case more: JvmDerived/Free/Laws.lean (Back.of_free), Shelf42/LK1.lean (callV, callS), Shelf/KitTraced.lean (throwNew0V, throwNewS). -/
/-- where a method has thrown q: the class by its name, the cell, what was written, the world -/
def vx_T (XC : String → State → State → Prop) (st : State) (q : Addr) (t : State) (mc ms : Nat) (free : Addr → Prop) : Prop :=
  ∃ (E : String) (ce : Cell) (L : List Loc), XC E st t ∧ t.heap[q]? = some ce ∧ ce.vm = .none ∧ st.vm.findClass E = some ce.cls ∧ st.WarmedH t.vm ∧ st.sameButNew ({ t with vm := st.vm } : State) L mc ms ∧ ∀ z ∈ L, free z.base
def vx_Q (Qc : Array Value → State → Outcome → State → Prop) (XC : String → State → State → Prop) (mc ms : Nat) (free : Addr → Prop) : Array Value → State → Outcome → State → Prop := fun a st o t =>
  (Qc a st o t ∧ ∃ L, FrameEnd st o t L mc ms ∧ ∀ q ∈ L, free q.base) ∨ ∃ q, o = .threw q ∧ vx_T XC st q t mc ms free
/-- a callee that returns or throws -/
def vx_Met (l : Launch) (y : MethodName) (ws : List Cond) (rm : Room) (Pc : Array Value → State → Prop) (Qc : Array Value → State → Outcome → State → Prop) (XC : String → State → State → Prop) (mc ms : Nat) (free : Addr → Prop) : Prop :=
  MetFree l y (headSpec ws rm) Pc (fun _ _ _ _ _ => True) (vx_Q Qc XC mc ms free)
def vx_Post (XC : String → State → State → Prop) (mc ms : Nat) (free : Addr → Prop) : Pt → Array Value → Addr → Pt → Prop := fun A a q B =>
  ∃ (g : JFrame) (mk : MethodId) (t : State) (L : List Loc) (E : String) (ce : Cell), B.U.heap = t.heap ∧ B.U.vm = t.vm ∧ XC E (A.U.calling g mk a) t ∧ t.heap[q]? = some ce ∧ ce.vm = .none ∧ A.U.vm.findClass E = some ce.cls ∧ B.locs = A.locs ++ L ∧ (∀ z ∈ L, free z.base) ∧ B.cells = A.cells + mc ∧ B.slots = A.slots + ms
def vx_Back (l : Launch) (R : Room) (p : Program) (e : Env) (below : List Frame) (s : State) (sargs : Array Value) (y : MethodName) (len W9 : Nat)
    (Pre : Pt → Array Value → Prop) (Post : Pt → Array Value → Option Value → Pt → Prop) (PostX : Pt → Array Value → Addr → Pt → Prop) : Prop :=
  ∀ (m : MethodId) (meth : Method) (c : Code) (A : Pt) (g : JFrame) (ig : Instr) (mk : MethodId) (a : Array Value),
    Stand p l e R s m sargs below meth c A.U A.locs A.cells A.slots → g.method = m → g.locals.size = c.maxLocals → decode c.code g.pc = .ok (ig, len) →
    2 * g.monitorRoom + (g.stack.map fun v => v.category).sum ≤ W9 → A.U.methodNamed? y = some mk → Pre A a →
    (∃ (v : Option Value) (B : Pt), Stand p l e R s m sargs below meth c B.U B.locs B.cells B.slots ∧ Post A a v B ∧
      Steps p.tables e below (doInvoke e (A.U.setTop g) [] mk a).1 (B.U.setTop { g with pc := g.pc + len, stack := v.toList ++ g.stack })) ∨
    (∃ (q : Addr) (B : Pt), Stand p l e R s m sargs below meth c B.U B.locs B.cells B.slots ∧ PostX A a q B ∧
      Steps p.tables e below (doInvoke e (A.U.setTop g) [] mk a).1 ((B.U.setTop g).pushFrame (.throwing q)))
section Payer
variable {l : Launch} {R : Room} {p : Program} {e : Env} {below : List Frame} {s : State} {sargs : Array Value} {y : MethodName} {len W9 : Nat}
theorem vx_back {ws : List Cond} {rm : Room} {Pc : Array Value → State → Prop} {Qc : Array Value → State → Outcome → State → Prop} {XC : String → State → State → Prop} {mc ms : Nat} {free : Addr → Prop} {bytes : ByteArray} {maxL : Nat} {ret : Option FieldType}
    (hM : vx_Met l y ws rm Pc Qc XC mc ms free) (hblind : FrameBlind Pc) (hrc : rm.cells = mc) (hrs : rm.slots = ms)
    (hframes : rm.frames + 1 ≤ R.frames) (hlocals : W9 + (maxL + 11) + rm.locals ≤ R.locals)
    (hws : ∀ w ∈ ws, ∀ a' U, s.WarmedH U.vm → w.before a' U = true) (hcode : Cond.code y bytes maxL ret ∈ ws) (hinit : ∀ a' U, s.WarmedH U.vm → (Cond.initialized y.cls).before a' U = true) :
    vx_Back l R p e below s sargs y len W9 (PreOf R mc ms Pc) (PostOf Qc mc ms free) (vx_Post XC mc ms free) := by
  intro m meth c A g ig mk a X hg hsize hdg hW hn hp
  have h1 : (headSpec ws rm).pre.before a A.U = true := atoms_intro fun w hw => hws w hw _ _ X.warmed
  have h2 : (Cond.code y bytes maxL ret).before a A.U = true := hws _ hcode _ _ X.warmed
  have h3 : (Cond.initialized y.cls).before a A.U = true := hinit _ _ X.warmed
  have h4 : A.cells + (headSpec ws rm).room.cells ≤ R.cells := by rw [show (headSpec ws rm).room.cells = mc from hrc]; exact hp.1
  have h5 : A.slots + (headSpec ws rm).room.slots ≤ R.slots := by rw [show (headSpec ws rm).room.slots = ms from hrs]; exact hp.2.1
  have hPc : Pc a (A.U.calling g mk a) := hblind _ _ _ _ hp.2.2
  obtain ⟨U, Ls, c0, s0⟩ := A
  dsimp only [Pt.U, Pt.locs, Pt.cells, Pt.slots] at h1 h2 h3 h4 h5 X hn hPc ⊢
  obtain ⟨methY, cY, hmY, hcY, -, hlY, -, -, -, -⟩ := Cond.code_spec hn h2
  obtain ⟨kY, hkY, -⟩ := className_of_methodNamed hn
  have hinitY : kY.init = .initialized := Cond.initialized_spec (findClass_of_methodNamed hn) hkY h3
  have h : At U g.method c below := by rw [hg]; exact X.here
  have hlocals9 : W9 + (maxL + 11) + (headSpec ws rm).room.locals ≤ R.locals := hlocals
  have happ : (headSpec ws rm).appliesLoose y e.platform (U.calling g mk a) = true :=
    Spec.appliesLoose_calling (g := g) h hdg hn hkY hinitY
      (X.room_calling (g := g) (R' := (headSpec ws rm).room) hsize hmY hcY hframes (by rw [hlY]; omega) h4 h5) h1
  obtain ⟨mid, hmid⟩ := h.above
  have hfr : (U.setTop g).frames = (.java g :: mid) ++ below := by rw [State.frames_setTop' g h.top, hmid]; rfl
  obtain ⟨o, s₂, hsteps, -, hend, hq⟩ := Steps.callFree hM p X.admits X.cas X.clock (acts := []) hfr happ hPc trivial
  have hq' : vx_Q Qc XC mc ms free a (U.calling g mk a) o s₂ := hq
  rw [State.frames_setTop' g h.top] at hend
  obtain ⟨g₀, hg0⟩ := Option.isSome_iff_exists.mp h.top
  obtain ⟨r, hr⟩ := State.topJava?_eq_some.mp hg0
  have hr' : (({ U with heap := s₂.heap, slotsUsed := s₂.slotsUsed } : State).setVm s₂.vm).frames = .java g₀ :: r := hr
  rcases hq' with ⟨hqc, L, hfe, hL⟩ | ⟨q, rfl, E, ce, L, hx, hce, hcv, hcl, hW₂, hsm, hL⟩
  · obtain ⟨⟨v, rfl⟩, hW₂, e2, q2, q3, q4, q5, q6⟩ := id hfe
    have e3 : s₂ = ({ (U.calling g mk a).setFrames s₂.frames with heap := s₂.heap, slotsUsed := s₂.slotsUsed } : State).setVm s₂.vm := by
      have : s₂ = ({ s₂ with vm := (U.calling g mk a).vm } : State).setVm s₂.vm := rfl
      rw [e2] at this
      exact this
    obtain ⟨c₂, i₂, len₂, hc₂, hd₂, hf₂⟩ := hend
    have hW' : U.WarmedH s₂.vm := hW₂
    have hcc : c₂ = c := by
      have h1 : s₂.code? g.method = U.code? g.method := by
        rw [State.code?_eq, State.code?_eq, hW'.alike.method?]
      exact Option.some.inj (hc₂.symm.trans (h1.trans h.code))
    subst hcc
    have hlen : len₂ = len := by rw [hdg] at hd₂; cases hd₂; rfl
    subst hlen
    have hs₂ : s₂ = (({ U with heap := s₂.heap, slotsUsed := s₂.slotsUsed } : State).setVm s₂.vm).setTop { g with pc := g.pc + len₂, stack := v.toList ++ g.stack } := by
      refine e3.trans ?_
      rw [hf₂, State.calling_eq h.top, State.setFrames_setFrames, State.setTop_of_frames _ hr', hr]
      rfl
    have hsame : U.sameButNew ({ U with heap := s₂.heap, slotsUsed := s₂.slotsUsed } : State) L mc ms := by
      refine ⟨?_, q2, q3, q4, q5, q6⟩
      obtain ⟨t, ht, -⟩ := State.frames_cons hr
      show ({ U with heap := s₂.heap, slotsUsed := s₂.slotsUsed } : State) = { U.setFrames U.frames with heap := s₂.heap, slotsUsed := s₂.slotsUsed }
      rw [State.setFrames_self ht]
    subst hg
    refine Or.inl ⟨v, ⟨(({ U with heap := s₂.heap, slotsUsed := s₂.slotsUsed } : State).setVm s₂.vm), Ls ++ L, c0 + mc, s0 + ms⟩,
      ⟨X.admits, X.cas, X.clock, X.frames, X.room, X.hears, X.method, X.code, (X.here.setHeapUsed s₂.heap s₂.slotsUsed).setVm hW'.alike, X.tail, State.WarmedH.trans X.warmed hW', X.limits, X.bytes, X.same.trans (hsame.setVm s.vm)⟩,
      ⟨g, mk, s₂, L, rfl, rfl, hqc, rfl, hL, rfl, rfl⟩, ?_⟩
    show Steps p.tables e below _ ((({ U with heap := s₂.heap, slotsUsed := s₂.slotsUsed } : State).setVm s₂.vm).setTop { g with pc := g.pc + len₂, stack := v.toList ++ g.stack })
    rw [← hs₂]
    exact hsteps
  · obtain ⟨e2, q2, q3, q4, q5, q6⟩ := id hsm
    have e3 : s₂ = ({ (U.calling g mk a).setFrames s₂.frames with heap := s₂.heap, slotsUsed := s₂.slotsUsed } : State).setVm s₂.vm := by
      have : s₂ = ({ s₂ with vm := (U.calling g mk a).vm } : State).setVm s₂.vm := rfl
      rw [e2] at this
      exact this
    have hf₂ : s₂.frames = .throwing q :: .java g :: U.frames.tail := hend
    have hW' : U.WarmedH s₂.vm := hW₂
    have hs₂ : s₂ = ((({ U with heap := s₂.heap, slotsUsed := s₂.slotsUsed } : State).setVm s₂.vm).setTop g).pushFrame (.throwing q) := by
      refine e3.trans ?_
      rw [hf₂, State.calling_eq h.top, State.setFrames_setFrames, State.pushFrame, State.frames_setTop _ hr', State.setTop_of_frames _ hr', State.setFrames_setFrames, hr]
      rfl
    have hsame : U.sameButNew ({ U with heap := s₂.heap, slotsUsed := s₂.slotsUsed } : State) L mc ms := by
      refine ⟨?_, q2, q3, q4, q5, q6⟩
      obtain ⟨t, ht, -⟩ := State.frames_cons hr
      show ({ U with heap := s₂.heap, slotsUsed := s₂.slotsUsed } : State) = { U.setFrames U.frames with heap := s₂.heap, slotsUsed := s₂.slotsUsed }
      rw [State.setFrames_self ht]
    subst hg
    refine Or.inr ⟨q, ⟨(({ U with heap := s₂.heap, slotsUsed := s₂.slotsUsed } : State).setVm s₂.vm), Ls ++ L, c0 + mc, s0 + ms⟩,
      ⟨X.admits, X.cas, X.clock, X.frames, X.room, X.hears, X.method, X.code, (X.here.setHeapUsed s₂.heap s₂.slotsUsed).setVm hW'.alike, X.tail, State.WarmedH.trans X.warmed hW', X.limits, X.bytes, X.same.trans (hsame.setVm s.vm)⟩,
      ⟨g, mk, s₂, L, E, ce, rfl, rfl, hx, hce, hcv, hcl, rfl, hL, rfl, rfl⟩, ?_⟩
    show Steps p.tables e below _ (((({ U with heap := s₂.heap, slotsUsed := s₂.slotsUsed } : State).setVm s₂.vm).setTop g).pushFrame (.throwing q))
    rw [← hs₂]
    exact hsteps
end Payer
section Calls
variable {p : Program} {l : Launch} {e : Env} {R : Room} {s : State} {m : MethodId} {args : Array Value} {below : List Frame} {meth : Method} {c : Code} {T : State} {locs : List Loc} {cells slots : Nat}
theorem vx_callV (X : Stand p l e R s m args below meth c T locs cells slots) (hexec : p.tables.exec = Jvm.exec) {own C : String} {index : Nat} {y : MethodName} {bytes : ByteArray} {maxL : Nat} {ret : Option FieldType}
    (hown : s.vm.findClass own = some m.cls) (hlink : (Cond.methodLink own index y).before args s = true) (hinst : (Cond.instanceMethod y).before args s = true) (hsel : (Cond.selects C y y).before args s = true)
    (hcode : (Cond.code y bytes maxL ret).before args s = true) (hy : y.cls ≠ "java/lang/invoke/MethodHandle" ∧ y.cls ≠ "java/lang/invoke/VarHandle")
    {W9 : Nat} {Pre : Pt → Array Value → Prop} {Post : Pt → Array Value → Option Value → Pt → Prop} {PostX : Pt → Array Value → Addr → Pt → Prop} (hK : vx_Back l R p e below s args y 3 W9 Pre Post PostX)
    {b : Addr} {cellB : Cell} (hcell : T.heap[b]? = some cellB) (hobj : cellB.vm.isStatics = false) (hcls : s.vm.findClass C = some cellB.cls)
    {g : JFrame} (hg : g.method = m) (hsize : g.locals.size = c.maxLocals) {argsL rest : List Value} (hlen : ∀ sig, parseMethodDescriptor y.desc = some sig → argsL.length = sig.parameters.length)
    (hstack : g.stack = argsL.reverse ++ .ref b :: rest) (hW : 2 * g.monitorRoom + (rest.map fun v => v.category).sum ≤ W9) (hdg : decode c.code g.pc = .ok (.invokevirtual index, 3))
    (hpre : ∀ vm₁, s.WarmedH vm₁ → Pre ⟨T.setVm vm₁, locs, cells, slots⟩ (Value.ref b :: argsL).toArray) :
    (∃ (v : Option Value) (vm₁ : Vm) (B : Pt), s.WarmedH vm₁ ∧ Stand p l e R s m args below meth c B.U B.locs B.cells B.slots ∧ Post ⟨T.setVm vm₁, locs, cells, slots⟩ (Value.ref b :: argsL).toArray v B ∧
      ∀ target, Steps p.tables e below (B.U.setTop { g with pc := g.pc + 3, stack := v.toList ++ rest }) target → Steps p.tables e below (T.setTop g) target) ∨
    (∃ (q : Addr) (vm₁ : Vm) (B : Pt), s.WarmedH vm₁ ∧ Stand p l e R s m args below meth c B.U B.locs B.cells B.slots ∧ PostX ⟨T.setVm vm₁, locs, cells, slots⟩ (Value.ref b :: argsL).toArray q B ∧
      Steps p.tables e below (T.setTop g) ((B.U.setTop { g with stack := rest }).pushFrame (.throwing q))) := by
  obtain ⟨mk, methM, hnamed, hmethM, hstM, habM⟩ := Cond.instanceMethod_spec hinst
  obtain ⟨methM', cM, hmethM', -, -, -, -, -, -, hsigM⟩ := Cond.code_spec hnamed hcode
  cases hmethM.symm.trans hmethM'
  obtain ⟨c2, r2, m2, q1, q2, q3, q4, kP, hkP, hkPi⟩ := Cond.selects_spec hsel
  cases hcls.symm.trans q1
  cases (State.methodFound?_of_named hnamed hy).symm.trans q2
  cases hnamed.symm.trans q3
  have hselP : selectMethod e.platform s.vm cellB.cls mk = .method mk := by rw [Launch.admits_selectMethod X.admits]; exact q4
  obtain ⟨vm₁, X₁, hstep₁⟩ := X.invokevirtual hexec hown hlink hnamed hmethM hstM hkP hkPi hy (a := b) (cell := cellB) hcell
    (fun z h => by rw [h] at hobj; cases hobj) hselP hmethM habM hkP hkPi (g := g) hg (argsL := argsL) (rest := rest) (hlen _ hsigM) hstack hdg
  rcases hK m meth c ⟨T.setVm vm₁, locs, cells, slots⟩ { g with stack := rest } (.invokevirtual index) mk (Value.ref b :: argsL).toArray X₁ hg hsize hdg hW (X₁.named hnamed) (hpre vm₁ X₁.warmed) with ⟨v, B, X', hpost, hsteps⟩ | ⟨q, B, X', hpost, hsteps⟩
  · exact Or.inl ⟨v, vm₁, B, X₁.warmed, X', hpost, fun target h => hstep₁ _ fun acts => by rw [doInvoke_state]; exact hsteps.trans h⟩
  · exact Or.inr ⟨q, vm₁, B, X₁.warmed, X', hpost, hstep₁ _ fun acts => by rw [doInvoke_state]; exact hsteps⟩
theorem vx_callS (X : Stand p l e R s m args below meth c T locs cells slots) (hexec : p.tables.exec = Jvm.exec) {own : String} {index : Nat} {y : MethodName} {bytes : ByteArray} {maxL : Nat} {ret : Option FieldType}
    (hown : s.vm.findClass own = some m.cls) (hlink : (Cond.methodLink own index y).before args s = true) (hstat : (Cond.static y).before args s = true) (hinit : (Cond.initialized y.cls).before args s = true)
    (hcode : (Cond.code y bytes maxL ret).before args s = true) (hy : y.cls ≠ "java/lang/invoke/MethodHandle" ∧ y.cls ≠ "java/lang/invoke/VarHandle")
    {W9 : Nat} {Pre : Pt → Array Value → Prop} {Post : Pt → Array Value → Option Value → Pt → Prop} {PostX : Pt → Array Value → Addr → Pt → Prop} (hK : vx_Back l R p e below s args y 3 W9 Pre Post PostX)
    {g : JFrame} (hg : g.method = m) (hsize : g.locals.size = c.maxLocals) {argsL rest : List Value} (hlen : ∀ sig, parseMethodDescriptor y.desc = some sig → argsL.length = sig.parameters.length)
    (hstack : g.stack = argsL.reverse ++ rest) (hW : 2 * g.monitorRoom + (rest.map fun v => v.category).sum ≤ W9) (hdg : decode c.code g.pc = .ok (.invokestatic index, 3))
    (hpre : ∀ vm₁, s.WarmedH vm₁ → Pre ⟨T.setVm vm₁, locs, cells, slots⟩ argsL.toArray) :
    (∃ (v : Option Value) (vm₁ : Vm) (B : Pt), s.WarmedH vm₁ ∧ Stand p l e R s m args below meth c B.U B.locs B.cells B.slots ∧ Post ⟨T.setVm vm₁, locs, cells, slots⟩ argsL.toArray v B ∧
      ∀ target, Steps p.tables e below (B.U.setTop { g with pc := g.pc + 3, stack := v.toList ++ rest }) target → Steps p.tables e below (T.setTop g) target) ∨
    (∃ (q : Addr) (vm₁ : Vm) (B : Pt), s.WarmedH vm₁ ∧ Stand p l e R s m args below meth c B.U B.locs B.cells B.slots ∧ PostX ⟨T.setVm vm₁, locs, cells, slots⟩ argsL.toArray q B ∧
      Steps p.tables e below (T.setTop g) ((B.U.setTop { g with stack := rest }).pushFrame (.throwing q))) := by
  obtain ⟨mk, hnamed⟩ := Cond.code_named hcode
  obtain ⟨methM, cM, hmethM, -, -, -, -, -, -, hsigM⟩ := Cond.code_spec hnamed hcode
  have hstatic : methM.isStatic = true := Cond.static_spec hnamed hmethM hstat
  obtain ⟨kP, hkP, -⟩ := className_of_methodNamed hnamed
  have hinitP : kP.init = .initialized := Cond.initialized_spec (findClass_of_methodNamed hnamed) hkP hinit
  obtain ⟨vm₁, X₁, hstep₁⟩ := X.invokestatic hexec hown hlink hnamed hmethM hstatic hkP hinitP hy (g := g) hg (argsL := argsL) (rest := rest) (hlen _ hsigM) hstack hdg
  rcases hK m meth c ⟨T.setVm vm₁, locs, cells, slots⟩ { g with stack := rest } (.invokestatic index) mk argsL.toArray X₁ hg hsize hdg hW (X₁.named hnamed) (hpre vm₁ X₁.warmed) with ⟨v, B, X', hpost, hsteps⟩ | ⟨q, B, X', hpost, hsteps⟩
  · exact Or.inl ⟨v, vm₁, B, X₁.warmed, X', hpost, fun target h => hstep₁ _ fun acts => by rw [doInvoke_state]; exact hsteps.trans h⟩
  · exact Or.inr ⟨q, vm₁, B, X₁.warmed, X', hpost, hstep₁ _ fun acts => by rw [doInvoke_state]; exact hsteps⟩
end Calls
theorem vx_cls {s : State} {T : State} {vm₁ : Vm} {E : String} {k : ClassId} (hW : s.WarmedH vm₁) (h : (T.setVm vm₁).vm.findClass E = some k) : s.vm.findClass E = some k := by
  have h1 : vm₁.findClass E = some k := h
  rw [hW.alike.findClass] at h1
  exact h1
/-- the method's frame g, with q thrown over it -/
def vx_W (p : Program) (l : Launch) (e : Env) (R : Room) (s : State) (m : MethodId) (args : Array Value) (below : List Frame) (meth : Method) (c : Code) (H : Heap) (locs : List Loc) (cells slots : Nat) (Q : State → Prop) (g : JFrame) (q : Addr) : Prop :=
  ∀ T : State, T.heap = H → Stand p l e R s m args below meth c T locs cells slots → ∃ t, Steps p.tables e below ((T.setTop g).pushFrame (.throwing q)) t ∧ Q t
def vx_Run (p : Program) (l : Launch) (e : Env) (R : Room) (s : State) (m : MethodId) (args : Array Value) (below : List Frame) (meth : Method) (c : Code) (H : Heap) (locs : List Loc) (cells slots mc ms : Nat) (g : JFrame) (rest : List Value) (Qa : State → Outcome → State → Prop) (XC : String → State → State → Prop) (free : Addr → Prop) : Prop :=
  ∀ T : State, T.heap = H → Stand p l e R s m args below meth c T locs cells slots →
    (∃ (v : Option Value) (st₀ t T' : State) (L : List Loc), st₀.heap = H ∧ Stand p l e R s m args below meth c T' (locs ++ L) (cells + mc) (slots + ms) ∧ (∀ q ∈ L, free q.base) ∧ T'.heap = t.heap ∧ T'.vm = t.vm ∧ Qa st₀ (.returned v) t ∧
      Goes p e below T g T' { g with pc := g.pc + 3, stack := v.toList ++ rest }) ∨
    (∃ (q : Addr) (st₀ t T' : State) (L : List Loc) (E : String) (ce : Cell), st₀.heap = H ∧ Stand p l e R s m args below meth c T' (locs ++ L) (cells + mc) (slots + ms) ∧ (∀ z ∈ L, free z.base) ∧ T'.heap = t.heap ∧ T'.vm = t.vm ∧ XC E st₀ t ∧ t.heap[q]? = some ce ∧ ce.vm = .none ∧ s.vm.findClass E = some ce.cls ∧
      Steps p.tables e below (T.setTop g) ((T'.setTop { g with stack := rest }).pushFrame (.throwing q)))
def vx_X {S : Type} (px : S → Prop) (B : String → S → State → Prop) (A : Nat → Prop) : String → State → State → Prop := fun E st t => ∃ u : S, px u ∧ B E u t ∧ va_F A st t
section Runs
variable {p : Program} {l : Launch} {e : Env} {R : Room} {s : State} {m : MethodId} {args : Array Value} {below : List Frame} {meth : Method} {c : Code} {H : Heap} {locs : List Loc} {cells slots : Nat}
variable {y : MethodName} {bytes cc : ByteArray} {maxL nL mc ms n index : Nat} {ret : Option FieldType} {ws : List Cond} {rm : Room} {Pc : Array Value → State → Prop} {Qc : Array Value → State → Outcome → State → Prop} {XC : String → State → State → Prop} {free : Addr → Prop} {Ts : List Cond} {own C : String} {b : Addr} {As rest : List Value} {g : JFrame}
theorem vx_callBack (cb : CallB R s args own index y bytes maxL ret ws rm mc ms n) (hM : vx_Met l y ws rm Pc Qc XC mc ms free) (hbl : FrameBlind Pc) : vx_Back l R p e below s args y 3 8 (PreOf R mc ms Pc) (PostOf Qc mc ms free) (vx_Post XC mc ms free) := by
  obtain ⟨hrc, hrs, hfr, hlo, hws, hcw, -, hini, -⟩ := cb
  exact vx_back (bytes := bytes) (maxL := maxL) (ret := ret) hM hbl hrc hrs hfr hlo hws hcw (fun a' U hW => word_at hW (Or.inl (by first | rfl | simp [Cond.onTables, Cond.keeps, Cond.steady])) hini)
theorem vx_runV (S : CallFix p m c cc nL s args Ts own) (hM : vx_Met l y ws rm Pc Qc XC mc ms free) (cw : CallW R s args own C index y bytes maxL ret ws rm mc ms n) (hp : PreV s H C b Pc As)
    (hg : g.method = m) (hn : As.length = n) (hsize : g.locals.size = nL) (hstack : g.stack = As.reverse ++ .ref b :: rest) (hW : 2 * g.monitorRoom + (rest.map fun v => v.category).sum ≤ 8) (hdg : decode cc g.pc = .ok (.invokevirtual index, 3)) (hf : cells + mc ≤ R.cells ∧ slots + ms ≤ R.slots) :
    vx_Run p l e R s m args below meth c H locs cells slots mc ms g rest (Qc (Value.ref b :: As).toArray) XC free := by
  have hK : vx_Back l R p e below s args y 3 8 (PreOf R mc ms Pc) (PostOf Qc mc ms free) (vx_Post XC mc ms free) := vx_callBack cw.1 hM hp.1
  obtain ⟨⟨-, -, -, -, -, -, hcode, -, hy, hlen, hl⟩, hin, hse⟩ := cw
  obtain ⟨hx, hb, hml, ho, -⟩ := S
  obtain ⟨-, ⟨cellB, hcB, hoB, hclB⟩, hPc⟩ := hp
  intro T hT X
  rcases vx_callV X hx (C := C) (bytes := bytes) (maxL := maxL) (ret := ret) ho hl hin hse hcode hy hK (by rw [hT]; exact hcB) hoB hclB hg (hsize.trans hml.symm) (argsL := As) (rest := rest) (fun sig h => hn.trans (hlen sig h)) hstack hW (by rw [hb]; exact hdg)
    (fun vm₁ hW₁ => ⟨hf.1, hf.2, hPc (T.setVm vm₁) hT hW₁⟩) with ⟨v, vm₁, ⟨U', l2, c2, s2⟩, hW₁, X', ⟨g', mk, t, L, e1, e2, hq, h1, hL, h2, h3⟩, st⟩ | ⟨q, vm₁, ⟨U', l2, c2, s2⟩, hW₁, X', ⟨g', mk, t, L, E, ce, e1, e2, hq, hce, hcv, hcl, h1, hL, h2, h3⟩, st⟩
  · dsimp only [Pt.U, Pt.locs, Pt.cells, Pt.slots] at X' e1 e2 h1 h2 h3 st
    subst h1; subst h2; subst h3
    exact Or.inl ⟨v, (T.setVm vm₁).calling g' mk (Value.ref b :: As).toArray, t, U', L, hT, X', hL, e1, e2, hq, st⟩
  · dsimp only [Pt.U, Pt.locs, Pt.cells, Pt.slots] at X' e1 e2 h1 h2 h3 st hcl
    subst h1; subst h2; subst h3
    exact Or.inr ⟨q, (T.setVm vm₁).calling g' mk (Value.ref b :: As).toArray, t, U', L, E, ce, hT, X', hL, e1, e2, hq, hce, hcv, vx_cls hW₁ hcl, st⟩
theorem vx_runS (S : CallFix p m c cc nL s args Ts own) (hM : vx_Met l y ws rm Pc Qc XC mc ms free) (cw : CallB R s args own index y bytes maxL ret ws rm mc ms n ∧ (Cond.static y).before args s = true) (hp : PreS s H Pc As)
    (hg : g.method = m) (hn : As.length = n) (hsize : g.locals.size = nL) (hstack : g.stack = As.reverse ++ rest) (hW : 2 * g.monitorRoom + (rest.map fun v => v.category).sum ≤ 8) (hdg : decode cc g.pc = .ok (.invokestatic index, 3)) (hf : cells + mc ≤ R.cells ∧ slots + ms ≤ R.slots) :
    vx_Run p l e R s m args below meth c H locs cells slots mc ms g rest (Qc As.toArray) XC free := by
  have hK : vx_Back l R p e below s args y 3 8 (PreOf R mc ms Pc) (PostOf Qc mc ms free) (vx_Post XC mc ms free) := vx_callBack cw.1 hM hp.1
  obtain ⟨⟨-, -, -, -, -, -, hcode, hini, hy, hlen, hl⟩, hstt⟩ := cw
  obtain ⟨hx, hb, hml, ho, -⟩ := S
  intro T hT X
  rcases vx_callS X hx (bytes := bytes) (maxL := maxL) (ret := ret) ho hl hstt hini hcode hy hK hg (hsize.trans hml.symm) (argsL := As) (rest := rest) (fun sig h => hn.trans (hlen sig h)) hstack hW (by rw [hb]; exact hdg)
    (fun vm₁ hW₁ => ⟨hf.1, hf.2, hp.2 (T.setVm vm₁) hT hW₁⟩) with ⟨v, vm₁, ⟨U', l2, c2, s2⟩, hW₁, X', ⟨g', mk, t, L, e1, e2, hq, h1, hL, h2, h3⟩, st⟩ | ⟨q, vm₁, ⟨U', l2, c2, s2⟩, hW₁, X', ⟨g', mk, t, L, E, ce, e1, e2, hq, hce, hcv, hcl, h1, hL, h2, h3⟩, st⟩
  · dsimp only [Pt.U, Pt.locs, Pt.cells, Pt.slots] at X' e1 e2 h1 h2 h3 st
    subst h1; subst h2; subst h3
    exact Or.inl ⟨v, (T.setVm vm₁).calling g' mk As.toArray, t, U', L, hT, X', hL, e1, e2, hq, st⟩
  · dsimp only [Pt.U, Pt.locs, Pt.cells, Pt.slots] at X' e1 e2 h1 h2 h3 st hcl
    subst h1; subst h2; subst h3
    exact Or.inr ⟨q, (T.setVm vm₁).calling g' mk As.toArray, t, U', L, E, ce, hT, X', hL, e1, e2, hq, hce, hcv, vx_cls hW₁ hcl, st⟩
end Runs
section Rows
variable {p : Program} {l : Launch} {e : Env} {R : Room} {s : State} {m : MethodId} {args : Array Value} {below : List Frame} {meth : Method} {c : Code} {H : Heap} {locs : List Loc} {cells slots : Nat} {Q : State → Prop}
variable {mc ms : Nat} {free : Addr → Prop} {A0 A1 : Nat → Prop} {H0 : Heap} {a : Array Value} {pc : Nat} {ls : Array Slot} {st0 rest : List Value}
theorem vx_keep {st₀ t T' : State} {L : List Loc} (h0 : st₀.heap = H) (e1 : T'.heap = t.heap) (hS : va_S A0 H0 H locs) (hA : ∀ q, q < H.size → A1 q → A0 q) (hf : ∀ q, free q → A0 q) (hL : ∀ q ∈ L, free q.base) (hF : va_F A1 st₀ t) :
    H.size ≤ T'.heap.size ∧ (∀ q : Nat, q < H.size → ¬ A1 q → T'.heap[q]? = H[q]?) ∧ va_S A0 H0 T'.heap (locs ++ L) := by
  obtain ⟨hz, hk⟩ := hF
  rw [h0] at hz hk
  exact ⟨by rw [e1]; exact hz, fun q h1 h2 => by rw [e1]; exact hk q h1 h2,
    ⟨Nat.le_trans hS.1 (by rw [e1]; exact hz), fun q h1 h2 => by rw [e1, hk q (Nat.lt_of_lt_of_le h1 hS.1) (fun z => h2 (hA q (Nat.lt_of_lt_of_le h1 hS.1) z))]; exact hS.2.1 q h1 h2, fun q hq => by
      rcases List.mem_append.mp hq with h | h
      · exact hS.2.2 q h
      · exact hf _ (hL q h)⟩⟩
theorem vx_calli {S SX : Type} {post : Int32 → S → Prop} {px : SX → Prop} {B : S → State → Prop} {BX : String → SX → State → Prop} {AX : Nat → Prop} (hr : vx_Run p l e R s m args below meth c H locs cells slots mc ms (F0 m pc ls st0) rest (va_Qi post B A1 a) (vx_X px BX AX) free) (hS : va_S A0 H0 H locs) (hA : ∀ q, q < H.size → A1 q → A0 q) (hf : ∀ q, free q → A0 q) (hAX : ∀ q, q < H.size → AX q → A0 q)
    (kx : ∀ (E : String) (ce : Cell) (q9 : Addr) (u : SX) (t : State) (H1 : Heap) (locs1 : List Loc), t.heap = H1 → s.vm.Alike t.vm → px u → BX E u t → H.size ≤ H1.size → (∀ q : Nat, q < H.size → ¬ AX q → H1[q]? = H[q]?) → va_S A0 H0 H1 locs1 → H1[q9]? = some ce → ce.vm = .none → s.vm.findClass E = some ce.cls → vx_W p l e R s m args below meth c H1 locs1 (cells + mc) (slots + ms) Q (F0 m pc ls rest) q9)
    (kk : ∀ (r : Int32) (u : S) (t : State) (H1 : Heap) (locs1 : List Loc), t.heap = H1 → s.vm.Alike t.vm → post r u → B u t → H.size ≤ H1.size → (∀ q : Nat, q < H.size → ¬ A1 q → H1[q]? = H[q]?) → va_S A0 H0 H1 locs1 → W p l e R s m args below meth c H1 locs1 (cells + mc) (slots + ms) Q (F0 m (pc + 3) ls (.int r :: rest))) : W p l e R s m args below meth c H locs cells slots Q (F0 m pc ls st0) := by
  intro T hT X
  rcases hr T hT X with ⟨v, st₀, t, T', L, h0, X', hL, e1, e2, ⟨⟨r, u, hv, hp, hb⟩, hF⟩, st⟩ | ⟨q, st₀, t, T', L, E, ce, h0, X', hL, e1, e2, ⟨u, hp, hb, hF⟩, hce, hcv, hcl, st⟩
  · cases hv
    obtain ⟨k1, k2, k3⟩ := vx_keep h0 e1 hS hA hf hL hF
    obtain ⟨t2, a1, b1⟩ := kk r u t T'.heap (locs ++ L) e1.symm (by rw [← e2]; exact X'.warmed.alike) hp hb k1 k2 k3 T' rfl X'
    exact ⟨t2, st t2 a1, b1⟩
  · obtain ⟨k1, k2, k3⟩ := vx_keep h0 e1 hS hAX hf hL hF
    obtain ⟨t2, a1, b1⟩ := kx E ce q u t T'.heap (locs ++ L) e1.symm (by rw [← e2]; exact X'.warmed.alike) hp hb k1 k2 k3 (by rw [e1]; exact hce) hcv hcl T' rfl X'
    exact ⟨t2, st.trans a1, b1⟩
theorem vx_calll {S SX : Type} {post : Int64 → S → Prop} {px : SX → Prop} {B : S → State → Prop} {BX : String → SX → State → Prop} {AX : Nat → Prop} (hr : vx_Run p l e R s m args below meth c H locs cells slots mc ms (F0 m pc ls st0) rest (va_Ql post B A1 a) (vx_X px BX AX) free) (hS : va_S A0 H0 H locs) (hA : ∀ q, q < H.size → A1 q → A0 q) (hf : ∀ q, free q → A0 q) (hAX : ∀ q, q < H.size → AX q → A0 q)
    (kx : ∀ (E : String) (ce : Cell) (q9 : Addr) (u : SX) (t : State) (H1 : Heap) (locs1 : List Loc), t.heap = H1 → s.vm.Alike t.vm → px u → BX E u t → H.size ≤ H1.size → (∀ q : Nat, q < H.size → ¬ AX q → H1[q]? = H[q]?) → va_S A0 H0 H1 locs1 → H1[q9]? = some ce → ce.vm = .none → s.vm.findClass E = some ce.cls → vx_W p l e R s m args below meth c H1 locs1 (cells + mc) (slots + ms) Q (F0 m pc ls rest) q9)
    (kk : ∀ (r : Int64) (u : S) (t : State) (H1 : Heap) (locs1 : List Loc), t.heap = H1 → s.vm.Alike t.vm → post r u → B u t → H.size ≤ H1.size → (∀ q : Nat, q < H.size → ¬ A1 q → H1[q]? = H[q]?) → va_S A0 H0 H1 locs1 → W p l e R s m args below meth c H1 locs1 (cells + mc) (slots + ms) Q (F0 m (pc + 3) ls (.long r :: rest))) : W p l e R s m args below meth c H locs cells slots Q (F0 m pc ls st0) := by
  intro T hT X
  rcases hr T hT X with ⟨v, st₀, t, T', L, h0, X', hL, e1, e2, ⟨⟨r, u, hv, hp, hb⟩, hF⟩, st⟩ | ⟨q, st₀, t, T', L, E, ce, h0, X', hL, e1, e2, ⟨u, hp, hb, hF⟩, hce, hcv, hcl, st⟩
  · cases hv
    obtain ⟨k1, k2, k3⟩ := vx_keep h0 e1 hS hA hf hL hF
    obtain ⟨t2, a1, b1⟩ := kk r u t T'.heap (locs ++ L) e1.symm (by rw [← e2]; exact X'.warmed.alike) hp hb k1 k2 k3 T' rfl X'
    exact ⟨t2, st t2 a1, b1⟩
  · obtain ⟨k1, k2, k3⟩ := vx_keep h0 e1 hS hAX hf hL hF
    obtain ⟨t2, a1, b1⟩ := kx E ce q u t T'.heap (locs ++ L) e1.symm (by rw [← e2]; exact X'.warmed.alike) hp hb k1 k2 k3 (by rw [e1]; exact hce) hcv hcl T' rfl X'
    exact ⟨t2, st.trans a1, b1⟩
theorem vx_callf {S SX : Type} {post : UInt32 → S → Prop} {px : SX → Prop} {B : S → State → Prop} {BX : String → SX → State → Prop} {AX : Nat → Prop} (hr : vx_Run p l e R s m args below meth c H locs cells slots mc ms (F0 m pc ls st0) rest (va_Qf post B A1 a) (vx_X px BX AX) free) (hS : va_S A0 H0 H locs) (hA : ∀ q, q < H.size → A1 q → A0 q) (hf : ∀ q, free q → A0 q) (hAX : ∀ q, q < H.size → AX q → A0 q)
    (kx : ∀ (E : String) (ce : Cell) (q9 : Addr) (u : SX) (t : State) (H1 : Heap) (locs1 : List Loc), t.heap = H1 → s.vm.Alike t.vm → px u → BX E u t → H.size ≤ H1.size → (∀ q : Nat, q < H.size → ¬ AX q → H1[q]? = H[q]?) → va_S A0 H0 H1 locs1 → H1[q9]? = some ce → ce.vm = .none → s.vm.findClass E = some ce.cls → vx_W p l e R s m args below meth c H1 locs1 (cells + mc) (slots + ms) Q (F0 m pc ls rest) q9)
    (kk : ∀ (r : UInt32) (u : S) (t : State) (H1 : Heap) (locs1 : List Loc), t.heap = H1 → s.vm.Alike t.vm → post r u → B u t → H.size ≤ H1.size → (∀ q : Nat, q < H.size → ¬ A1 q → H1[q]? = H[q]?) → va_S A0 H0 H1 locs1 → W p l e R s m args below meth c H1 locs1 (cells + mc) (slots + ms) Q (F0 m (pc + 3) ls (.float r :: rest))) : W p l e R s m args below meth c H locs cells slots Q (F0 m pc ls st0) := by
  intro T hT X
  rcases hr T hT X with ⟨v, st₀, t, T', L, h0, X', hL, e1, e2, ⟨⟨r, u, hv, hp, hb⟩, hF⟩, st⟩ | ⟨q, st₀, t, T', L, E, ce, h0, X', hL, e1, e2, ⟨u, hp, hb, hF⟩, hce, hcv, hcl, st⟩
  · cases hv
    obtain ⟨k1, k2, k3⟩ := vx_keep h0 e1 hS hA hf hL hF
    obtain ⟨t2, a1, b1⟩ := kk r u t T'.heap (locs ++ L) e1.symm (by rw [← e2]; exact X'.warmed.alike) hp hb k1 k2 k3 T' rfl X'
    exact ⟨t2, st t2 a1, b1⟩
  · obtain ⟨k1, k2, k3⟩ := vx_keep h0 e1 hS hAX hf hL hF
    obtain ⟨t2, a1, b1⟩ := kx E ce q u t T'.heap (locs ++ L) e1.symm (by rw [← e2]; exact X'.warmed.alike) hp hb k1 k2 k3 (by rw [e1]; exact hce) hcv hcl T' rfl X'
    exact ⟨t2, st.trans a1, b1⟩
theorem vx_calld {S SX : Type} {post : UInt64 → S → Prop} {px : SX → Prop} {B : S → State → Prop} {BX : String → SX → State → Prop} {AX : Nat → Prop} (hr : vx_Run p l e R s m args below meth c H locs cells slots mc ms (F0 m pc ls st0) rest (va_Qd post B A1 a) (vx_X px BX AX) free) (hS : va_S A0 H0 H locs) (hA : ∀ q, q < H.size → A1 q → A0 q) (hf : ∀ q, free q → A0 q) (hAX : ∀ q, q < H.size → AX q → A0 q)
    (kx : ∀ (E : String) (ce : Cell) (q9 : Addr) (u : SX) (t : State) (H1 : Heap) (locs1 : List Loc), t.heap = H1 → s.vm.Alike t.vm → px u → BX E u t → H.size ≤ H1.size → (∀ q : Nat, q < H.size → ¬ AX q → H1[q]? = H[q]?) → va_S A0 H0 H1 locs1 → H1[q9]? = some ce → ce.vm = .none → s.vm.findClass E = some ce.cls → vx_W p l e R s m args below meth c H1 locs1 (cells + mc) (slots + ms) Q (F0 m pc ls rest) q9)
    (kk : ∀ (r : UInt64) (u : S) (t : State) (H1 : Heap) (locs1 : List Loc), t.heap = H1 → s.vm.Alike t.vm → post r u → B u t → H.size ≤ H1.size → (∀ q : Nat, q < H.size → ¬ A1 q → H1[q]? = H[q]?) → va_S A0 H0 H1 locs1 → W p l e R s m args below meth c H1 locs1 (cells + mc) (slots + ms) Q (F0 m (pc + 3) ls (.double r :: rest))) : W p l e R s m args below meth c H locs cells slots Q (F0 m pc ls st0) := by
  intro T hT X
  rcases hr T hT X with ⟨v, st₀, t, T', L, h0, X', hL, e1, e2, ⟨⟨r, u, hv, hp, hb⟩, hF⟩, st⟩ | ⟨q, st₀, t, T', L, E, ce, h0, X', hL, e1, e2, ⟨u, hp, hb, hF⟩, hce, hcv, hcl, st⟩
  · cases hv
    obtain ⟨k1, k2, k3⟩ := vx_keep h0 e1 hS hA hf hL hF
    obtain ⟨t2, a1, b1⟩ := kk r u t T'.heap (locs ++ L) e1.symm (by rw [← e2]; exact X'.warmed.alike) hp hb k1 k2 k3 T' rfl X'
    exact ⟨t2, st t2 a1, b1⟩
  · obtain ⟨k1, k2, k3⟩ := vx_keep h0 e1 hS hAX hf hL hF
    obtain ⟨t2, a1, b1⟩ := kx E ce q u t T'.heap (locs ++ L) e1.symm (by rw [← e2]; exact X'.warmed.alike) hp hb k1 k2 k3 (by rw [e1]; exact hce) hcv hcl T' rfl X'
    exact ⟨t2, st.trans a1, b1⟩
theorem vx_callv {S SX : Type} {post : S → Prop} {px : SX → Prop} {B : S → State → Prop} {BX : String → SX → State → Prop} {AX : Nat → Prop} (hr : vx_Run p l e R s m args below meth c H locs cells slots mc ms (F0 m pc ls st0) rest (va_Qv post B A1 a) (vx_X px BX AX) free) (hS : va_S A0 H0 H locs) (hA : ∀ q, q < H.size → A1 q → A0 q) (hf : ∀ q, free q → A0 q) (hAX : ∀ q, q < H.size → AX q → A0 q)
    (kx : ∀ (E : String) (ce : Cell) (q9 : Addr) (u : SX) (t : State) (H1 : Heap) (locs1 : List Loc), t.heap = H1 → s.vm.Alike t.vm → px u → BX E u t → H.size ≤ H1.size → (∀ q : Nat, q < H.size → ¬ AX q → H1[q]? = H[q]?) → va_S A0 H0 H1 locs1 → H1[q9]? = some ce → ce.vm = .none → s.vm.findClass E = some ce.cls → vx_W p l e R s m args below meth c H1 locs1 (cells + mc) (slots + ms) Q (F0 m pc ls rest) q9)
    (kk : ∀ (u : S) (t : State) (H1 : Heap) (locs1 : List Loc), t.heap = H1 → s.vm.Alike t.vm → post u → B u t → H.size ≤ H1.size → (∀ q : Nat, q < H.size → ¬ A1 q → H1[q]? = H[q]?) → va_S A0 H0 H1 locs1 → W p l e R s m args below meth c H1 locs1 (cells + mc) (slots + ms) Q (F0 m (pc + 3) ls (rest))) : W p l e R s m args below meth c H locs cells slots Q (F0 m pc ls st0) := by
  intro T hT X
  rcases hr T hT X with ⟨v, st₀, t, T', L, h0, X', hL, e1, e2, ⟨⟨u, hv, hp, hb⟩, hF⟩, st⟩ | ⟨q, st₀, t, T', L, E, ce, h0, X', hL, e1, e2, ⟨u, hp, hb, hF⟩, hce, hcv, hcl, st⟩
  · cases hv
    obtain ⟨k1, k2, k3⟩ := vx_keep h0 e1 hS hA hf hL hF
    obtain ⟨t2, a1, b1⟩ := kk u t T'.heap (locs ++ L) e1.symm (by rw [← e2]; exact X'.warmed.alike) hp hb k1 k2 k3 T' rfl X'
    exact ⟨t2, st t2 a1, b1⟩
  · obtain ⟨k1, k2, k3⟩ := vx_keep h0 e1 hS hAX hf hL hF
    obtain ⟨t2, a1, b1⟩ := kx E ce q u t T'.heap (locs ++ L) e1.symm (by rw [← e2]; exact X'.warmed.alike) hp hb k1 k2 k3 (by rw [e1]; exact hce) hcv hcl T' rfl X'
    exact ⟨t2, st.trans a1, b1⟩
/-- caught by the row x of this method's table; the rows ahead don't take it -/
theorem vx_catch {own name : String} {E : String} {ce : Cell} {q : Addr} (hown : s.vm.findClass own = some m.cls) (pre : List ExceptionTableEntry) (x : ExceptionTableEntry) (suf : List ExceptionTableEntry) (hsplit : c.exceptionTable.toList = pre ++ x :: suf)
    (hpass : ∀ z ∈ pre, covers z pc = false ∨ (z.catchType ≠ 0 ∧ ∃ nm : String, (Cond.classLink own z.catchType nm).before args s = true ∧ va_Nc E nm s)) (hx : covers x pc = true) (h0 : x.catchType ≠ 0)
    (hlink : (Cond.classLink own x.catchType name).before args s = true) (hcast : (Cond.castable E name).before args s = true) (hcell : H[q]? = some ce) (hv : ce.vm = .none) (hcl : s.vm.findClass E = some ce.cls)
    (kk : W p l e R s m args below meth c H locs cells slots Q (F0 m x.handlerPc ls [.ref q])) : vx_W p l e R s m args below meth c H locs cells slots Q (F0 m pc ls rest) q := by
  intro T hT X
  have hpl : e.platform.magicAccessors = ({} : Platform).magicAccessors := by rw [X.admits.platform]
  obtain ⟨c3, c4, hc3, hc4, hasg⟩ := Cond.castable_spec hcast
  cases Option.some.inj (hc3.symm.trans hcl)
  obtain ⟨c5, hc5, hcl5⟩ := Cond.classLink_spec hown hlink e.platform hpl
  cases Option.some.inj (hc4.symm.trans hc5)
  obtain ⟨vm', X', st⟩ := X.thenCaughtThrough q (g := F0 m pc ls rest) rfl (Steps.refl _) (by rw [hT]; exact hcell) (by rw [hv]; rfl) (by obtain ⟨k9, h9, -⟩ := Vm.findClass_spec hcl; exact ⟨k9, h9⟩) pre x suf hsplit
    (fun z hz => by
      rcases hpass z hz with h | ⟨hz0, nm, hl1, hn1⟩
      · exact Or.inl h
      · obtain ⟨c6, hc6, hcl6⟩ := Cond.classLink_spec hown hl1 e.platform hpl
        obtain ⟨a8, b8, h1, h2, h3⟩ := hn1
        cases Option.some.inj (h1.symm.trans hcl)
        cases Option.some.inj (h2.symm.trans hc6)
        exact Or.inr ⟨hz0, _, hcl6, h3⟩) hx (Or.inr ⟨h0, c4, hcl5, hasg⟩)
  obtain ⟨t, a1, b1⟩ := kk (T.setVm vm') hT X'
  exact ⟨t, st.trans a1, b1⟩
end Rows
section Ends
variable {p : Program} {l : Launch} {e : Env} {R : Room} {s : State} {m : MethodId} {args : Array Value} {below : List Frame} {meth : Method} {c : Code} {H : Heap} {locs : List Loc} {cells slots : Nat} {Q : State → Prop}
variable {mc ms : Nat} {free : Addr → Prop} {A0 A1 : Nat → Prop} {H0 : Heap} {a : Array Value} {ls : Array Slot} {st0 rest : List Value}
variable {Qc : Array Value → State → Outcome → State → Prop} {XC : String → State → State → Prop}
/-- what a body that may throw owes at its end -/
def vx_MQ (below : List Frame) (Qc : Array Value → State → Outcome → State → Prop) (XC : String → State → State → Prop) (a : Array Value) (s : State) (mc ms : Nat) (free : Addr → Prop) : State → Prop := fun t =>
  ∃ o, t.status = .running ∧ Ended t below o ∧ vx_Q Qc XC mc ms free a s o t
theorem vx_ret {g : JFrame} {mc ms : Nat} (k : W p l e R s m args below meth c H locs cells slots (MQ below Qc args s mc ms free) g) : W p l e R s m args below meth c H locs cells slots (vx_MQ below Qc XC args s mc ms free) g := by
  intro T hT X
  obtain ⟨t, a1, o, b1, b2, b3, b4⟩ := k T hT X
  exact ⟨t, a1, o, b1, b2, Or.inl ⟨b3, b4⟩⟩
/-- not caught here: it goes on to the caller -/
theorem vx_widen {g : JFrame} {q : Addr} {k n : Nat} (h1 : cells ≤ k) (h2 : slots ≤ n) (kk : vx_W p l e R s m args below meth c H locs k n Q g q) : vx_W p l e R s m args below meth c H locs cells slots Q g q := fun T hT X => kk T hT (stand_widen X h1 h2)
theorem vx_out {pc : Nat} {E : String} {ce : Cell} {q : Addr} {mc ms : Nat} (hout : ∀ x ∈ c.exceptionTable.toList, covers x pc = false) (hlocks : meth.locks = false) (hcell : H[q]? = some ce) (hv : ce.vm = .none) (hcl : s.vm.findClass E = some ce.cls)
    (hx : ∀ t : State, t.heap = H → s.vm.Alike t.vm → XC E s t) (hf : ∀ z ∈ locs, free z.base) (hc : cells ≤ mc) (hs : slots ≤ ms) :
    vx_W p l e R s m args below meth c H locs cells slots (vx_MQ below Qc XC args s mc ms free) (F0 m pc ls rest) q := by
  intro T hT X
  obtain ⟨st1, hrun, hend, hW, hsm⟩ := X.leaveThrown q (g := F0 m pc ls rest) rfl rfl rfl hout hlocks
  have hcell9 : (T.setFrames (.throwing q :: below)).heap[q]? = some ce := by
    show T.heap[q]? = some ce
    rw [hT]; exact hcell
  exact ⟨_, st1, .threw q, hrun, hend, Or.inr ⟨q, rfl, E, ce, locs, hx _ hT hW.alike, hcell9, hv, hcl, hW, hsm.mono hc hs, hf⟩⟩
theorem vx_frame {U : State} {k n : Nat} (h : s.sameButNew ({ U with vm := s.vm } : State) locs k n) : s.heap.size ≤ U.heap.size ∧ ∀ q : Nat, q < s.heap.size → (∀ z ∈ locs, z.base ≠ q) → U.heap[q]? = s.heap[q]? := by
  obtain ⟨-, h2, -, -, -, h6⟩ := h
  refine ⟨h2, fun q hq hz => ?_⟩
  obtain ⟨c9, e1, e2, e3, e4⟩ := h6 q _ (Array.getElem?_eq_getElem hq)
  have hs : c9.slots = (s.heap[q]).slots := Array.ext_getElem? fun i => e4 i fun hm => hz _ hm rfl
  have h9 : c9 = s.heap[q] := by
    rw [hs] at e2
    exact e2
  have e5 : U.heap[q]? = some c9 := e1
  rw [e5, h9, Array.getElem?_eq_getElem hq]
/-- the words of a throw but the four that speak of the heap -/
def vx_no (w : Cond) : Bool := decide (w ≠ .isRef (.static Bundle.tN "UNASSIGNED_STACK" Bundle.steD)) && decide (w ≠ .isRef (.static Bundle.tN "SUPPRESSED_SENTINEL" Bundle.listD)) && decide (w ≠ .laysStatic Bundle.tN "UNASSIGNED_STACK" Bundle.steD) && decide (w ≠ .laysStatic Bundle.tN "SUPPRESSED_SENTINEL" Bundle.listD)
def vx_at0 (own : String) (ic : Nat) (X : String) (names : List String) : List Cond := (Bundle.ownAtoms0 own ic X names).filter vx_no
def vx_atS (own : String) (ic : Nat) (X : String) (names : List String) : List Cond := (Bundle.ownAtoms own ic X names).filter vx_no
/-- a word that the tables alone decide, or a good one -/
def vx_ot (w : Cond) : Bool := w.onTables || goodWord w
theorem vx_ot_at {args a' : Array Value} {s U : State} {w : Cond} (hW : s.WarmedH U.vm) (hvm : s.vm = U.vm) (hg : vx_ot w = true) (h : w.before args s = true) : w.before a' U = true := by
  simp only [vx_ot, Bool.or_eq_true] at hg
  rcases hg with hg | hg
  · exact va_tabs hg hvm h
  · exact word_at hW (good_of_word hg) h
/-- a list's words: the good ones out of the method's own list, the others by premises of their own -/
theorem vx_hat {args : Array Value} {s : State} {L B : List Cond} (h1 : ∀ w ∈ L.filter goodWord, w.before args s = true) (h2 : ∀ w ∈ L.filter (fun w => !goodWord w), w ∈ B) (h3 : ∀ w ∈ B, w.before args s = true) : ∀ w ∈ L, w.before args s = true := by
  intro w hw
  by_cases g : goodWord w = true
  · exact h1 w (List.mem_filter.mpr ⟨hw, g⟩)
  · refine h3 w (h2 w (List.mem_filter.mpr ⟨hw, ?_⟩))
    show (!goodWord w) = true
    cases hgw : goodWord w
    · rfl
    · exact absurd hgw g
theorem vx_c {args : Array Value} {s : State} {w : Cond} {B : List Cond} (h : w.before args s = true) (t : ∀ w ∈ B, w.before args s = true) : ∀ w' ∈ w :: B, w'.before args s = true := fun w' h' => (List.mem_cons.mp h').elim (fun e => by rw [e]; exact h) (t w')
theorem vx_n {args : Array Value} {s : State} : ∀ w ∈ ([] : List Cond), w.before args s = true := fun _ h => nomatch h
theorem vx_own {args : Array Value} {s : State} {L : List Cond} (h1 : ∀ w ∈ L.filter vx_no, w.before args s = true)
    (hU : (Cond.isRef (.static Bundle.tN "UNASSIGNED_STACK" Bundle.steD)).before args s = true) (hN : (Cond.isRef (.static Bundle.tN "SUPPRESSED_SENTINEL" Bundle.listD)).before args s = true)
    (lU : (Cond.laysStatic Bundle.tN "UNASSIGNED_STACK" Bundle.steD).before args s = true) (lN : (Cond.laysStatic Bundle.tN "SUPPRESSED_SENTINEL" Bundle.listD).before args s = true) : ∀ w ∈ L, w.before args s = true := by
  intro w hw
  by_cases e1 : w = .isRef (.static Bundle.tN "UNASSIGNED_STACK" Bundle.steD)
  · rw [e1]; exact hU
  · by_cases e2 : w = .isRef (.static Bundle.tN "SUPPRESSED_SENTINEL" Bundle.listD)
    · rw [e2]; exact hN
    · by_cases e3 : w = .laysStatic Bundle.tN "UNASSIGNED_STACK" Bundle.steD
      · rw [e3]; exact lU
      · by_cases e4 : w = .laysStatic Bundle.tN "SUPPRESSED_SENTINEL" Bundle.listD
        · rw [e4]; exact lN
        · exact h1 w (List.mem_filter.mpr ⟨hw, by unfold vx_no; rw [decide_eq_true e1, decide_eq_true e2, decide_eq_true e3, decide_eq_true e4]; rfl⟩)
/-- where a static field lies, its class's statics cell in H -/
def vx_L (C n d : String) (A : Nat → Prop) (U : State) (H : Heap) : Prop := ∃ (c : ClassId) (k : Class) (i : Nat) (f : Field) (a : Nat) (cell : Cell), U.vm.findClass C = some c ∧ U.fieldFound? C n d = some (c, k, i, f) ∧ f.isStatic = true ∧ k.statics = some a ∧ H[a]? = some cell ∧ cell.vm.isStatics = true ∧ cell.cls = c ∧ f.slot < cell.slots.size ∧ k.staticTypes[f.slot]? = some f.type ∧ ¬ A a
theorem vx_L.moved {C n d : String} {A : Nat → Prop} {u U : State} {H : Heap} (hvm : u.vm.Alike U.vm) (h : vx_L C n d A u H) : vx_L C n d A U H := by
  obtain ⟨c, k, i, f, a, cell, h1, h2, h3, h4, h5, h6, h7, h8, h9, h10⟩ := h
  obtain ⟨k', hi', he⟩ := State.fieldFound?_setVm hvm h2
  exact ⟨c, k', i, f, a, cell, by rw [hvm.findClass]; exact h1, hi', h3, by rw [he]; exact h4, h5, h6, h7, h8, by rw [he]; exact h9, h10⟩
theorem vx_L.kept {C n d : String} {A : Nat → Prop} {U : State} {H H1 : Heap} (h : vx_L C n d A U H) (hq : ∀ a : Nat, a < H.size → ¬ A a → H1[a]? = H[a]?) : vx_L C n d A U H1 := by
  obtain ⟨c, k, i, f, a, cell, h1, h2, h3, h4, h5, h6, h7, h8, h9, h10⟩ := h
  exact ⟨c, k, i, f, a, cell, h1, h2, h3, h4, by rw [hq a (Array.getElem?_eq_some_iff.mp h5).1 h10]; exact h5, h6, h7, h8, h9, h10⟩
theorem vx_L.narrow {C n d : String} {A B : Nat → Prop} {U : State} {H : Heap} (h : vx_L C n d A U H) (hAB : ∀ q, B q → A q) : vx_L C n d B U H := by
  obtain ⟨c, k, i, f, a, cell, h1, h2, h3, h4, h5, h6, h7, h8, h9, h10⟩ := h
  exact ⟨c, k, i, f, a, cell, h1, h2, h3, h4, h5, h6, h7, h8, h9, fun z => h10 (hAB _ z)⟩
theorem vx_L.word {C n d : String} {A : Nat → Prop} {s : State} {args : Array Value} (h : vx_L C n d A s s.heap) : (Cond.laysStatic C n d).before args s = true := by
  obtain ⟨c, k, i, f, a, cell, h1, h2, h3, h4, h5, h6, h7, h8, h9, -⟩ := h
  show (Cond.laysStatic C n d).holds args s none s [] = true
  exact Cond.laysStatic_of h1 h2 h3 h4 h5 h6 h7 h8 h9
/-- .. and what it holds: null or some reference -/
def vx_Zq (C n d : String) (A : Nat → Prop) (U : State) (H : Heap) : Prop := va_Zq C n d A U H ∧ vx_L C n d A U H
theorem vx_Zq.moved {C n d : String} {A : Nat → Prop} {u U : State} {H : Heap} (hvm : u.vm.Alike U.vm) (h : vx_Zq C n d A u H) : vx_Zq C n d A U H := ⟨va_Zq.moved hvm h.1, vx_L.moved hvm h.2⟩
theorem vx_Zq.kept {C n d : String} {A : Nat → Prop} {U : State} {H H1 : Heap} (h : vx_Zq C n d A U H) (hq : ∀ a : Nat, a < H.size → ¬ A a → H1[a]? = H[a]?) : vx_Zq C n d A U H1 := ⟨va_Zq.kept h.1 hq, vx_L.kept h.2 hq⟩
theorem vx_Zq.narrow {C n d : String} {A B : Nat → Prop} {U : State} {H : Heap} (h : vx_Zq C n d A U H) (hAB : ∀ q, B q → A q) : vx_Zq C n d B U H := ⟨va_Zq.narrow h.1 hAB, vx_L.narrow h.2 hAB⟩
theorem vx_Zqof {args : Array Value} {s : State} {C n d : String} {A : Nat → Prop} (hl : (Cond.laysStatic C n d).before args s = true) (hini : (Cond.initialized C).before args s = true) (h : (Cond.isRef (.static C n d)).before args s = true) (hA : ∀ a : Nat, a < s.heap.size → ¬ A a) : vx_Zq C n d A s s.heap := by
  refine ⟨va_Zqof hl hini h hA, ?_⟩
  obtain ⟨c, k, i, f, a, cell, h1, h2, h3, h4, h5, h6, h7, h8, h9⟩ := Cond.laysStatic_spec hl
  exact ⟨c, k, i, f, a, cell, h1, h2, h3, h4, h5, h6, h7, h8, h9, hA a (Array.getElem?_eq_some_iff.mp h5).1⟩
theorem vx_isRef {C n d : String} {v : Value} {A : Nat → Prop} {s : State} {args : Array Value} (h : va_Z C n d v A s s.heap) (hv : v.isRef = true) : (Cond.isRef (.static C n d)).before args s = true := by
  obtain ⟨cf, kf, fi, f, a, cell, h1, h2, h3, h4, h5, h6, h7, -⟩ := h
  have he : (Term.static C n d).eval args s none [] s = some v := by
    simp [Term.eval, State.fieldNamed?, h1, h2, h4, h5, h6, h7]
  simp only [Cond.before, Cond.holds, Cond.value, he]
  cases v <;> simp_all [Value.isRef]
theorem vx_isRefq {C n d : String} {A : Nat → Prop} {s : State} {args : Array Value} (h : va_Zq C n d A s s.heap) : (Cond.isRef (.static C n d)).before args s = true := by
  rcases h with h | ⟨t, h⟩
  · exact vx_isRef h rfl
  · exact vx_isRef h rfl
/-- the same frame, seen from here: as if the method were called anew in this heap -/
theorem vx_rebase {T : State} (X : Stand p l e R s m args below meth c T locs cells slots) {R' : Room} (hf : R'.frames ≤ R.frames) (hl : R'.locals ≤ R.locals) (hc : cells + R'.cells ≤ R.cells) (hs : slots + R'.slots ≤ R.slots) :
    Stand p l e R' ((T.setVm s.vm).setFrames (.invoking m args :: below)) m args below meth c T [] 0 0 := by
  have htop : (T.setVm s.vm).topJava?.isSome := X.here.top
  have hF : ((T.setVm s.vm).setFrames (.invoking m args :: below)).frames = .invoking m args :: below := State.frames_setFrames _ (State.cur_lt_of_top htop)
  obtain ⟨g₀, hg0⟩ := Option.isSome_iff_exists.mp htop
  obtain ⟨r, hr⟩ := State.topJava?_eq_some.mp hg0
  have hl9 : e.platform.stackLimits (T.setVm s.vm).me = e.platform.stackLimits s.me := X.limits
  have hb9 : (T.setVm s.vm).me.stackBytes = s.me.stackBytes := X.bytes
  refine ⟨X.admits, X.cas, X.clock, hF, ?_, X.hears, X.method, X.code, X.here, X.tail, X.warmed, ?_, ?_, ?_⟩
  · have h := X.room
    have hU : ((T.setVm s.vm).setFrames (.invoking m args :: below)).localsInUse = s.localsInUse := by
      rw [State.localsInUse_invoking hF (meth := meth) (c := c) X.method X.code, State.localsInUse_invoking X.frames X.method X.code]
    simp only [State.hasRoom, Bool.and_eq_true, decide_eq_true_eq] at h ⊢
    obtain ⟨⟨⟨⟨h1, h2, h3, h4, h5, h6⟩, h7⟩, h8⟩, h9⟩ := h
    rw [X.frames, List.length_cons] at h2 h3
    have q1 := X.heapSize
    have q2 := X.used
    simp only [hF, hU, List.length_cons, State.stackLimits_setFrames, State.stackBytes_setFrames, hl9, hb9]
    refine ⟨⟨⟨⟨by omega, by omega, by omega, by omega, by omega, h6⟩, ?_⟩, ?_⟩, X.book⟩
    · show T.heap.size + R'.cells ≤ e.platform.maxCells
      omega
    · show T.slotsUsed + R'.slots ≤ e.platform.maxSlots
      omega
  · rw [State.stackLimits_setFrames]; rfl
  · rw [State.stackBytes_setFrames]; rfl
  · refine ⟨?_, Nat.le_refl _, Nat.le_refl _, ?_, ?_, fun a c9 h9 => ⟨c9, h9, rfl, rfl, fun _ _ => rfl⟩⟩
    · obtain ⟨t, ht, -⟩ := State.frames_cons hr
      show T.setVm s.vm = { ((T.setVm s.vm).setFrames (.invoking m args :: below)).setFrames (T.setVm s.vm).frames with heap := T.heap, slotsUsed := T.slotsUsed }
      rw [State.setFrames_setFrames, State.setFrames_self ht]
      rfl
    · show T.slotsUsed = T.slotsUsed + ((T.heap.toList.drop T.heap.size).map (·.slots.size)).sum
      rw [List.drop_eq_nil_of_le (Nat.le_of_eq Array.length_toList)]
      rfl
    · show ((T.heap.toList.drop T.heap.size).map (·.slots.size)).sum ≤ 0
      rw [List.drop_eq_nil_of_le (Nat.le_of_eq Array.length_toList)]
      exact Nat.le_refl _
/-- 'throw new E()': new; dup; invokespecial; athrow -/
theorem vx_throw0 {cc : ByteArray} {pc : Nat} (hexec : p.tables.exec = Jvm.exec) (hb : c.code = cc) (hl : l.stackTraces = false) {own cls : String} {names : List String} {ik ic mc ms : Nat} {A : Nat → Prop}
    (hown : s.vm.findClass own = some m.cls) (hcls : Bundle.fit cls = true) (hnames : ∀ n ∈ names, Bundle.fit n = true)
    (hk : (Cond.classLink own ik cls).before args s = true) (hini : (Cond.initialized cls).before args s = true) (hat : ∀ w ∈ vx_at0 own ic cls names, w.before args s = true)
    (hgood : ∀ w ∈ Cond.classLink own ik cls :: Cond.initialized cls :: vx_at0 own ic cls names, vx_ot w = true)
    (hU : vx_Zq Bundle.tN "UNASSIGNED_STACK" Bundle.steD A s s.heap) (hN : vx_Zq Bundle.tN "SUPPRESSED_SENTINEL" Bundle.listD A s s.heap) (hS : va_S A s.heap H locs) (hsize : ls.size = c.maxLocals)
    (d0 : decode cc pc = .ok (.new ik, 3)) (d3 : decode cc (pc + 3) = .ok (.dup, 1)) (d4 : decode cc (pc + 4) = .ok (.invokespecial ic, 3)) (d7 : decode cc (pc + 7) = .ok (.athrow, 1))
    (hout : ∀ x ∈ c.exceptionTable.toList, covers x (pc + 7) = false)
    (hRframes : names.length + 3 < R.frames) (hRlocals : (rest.map fun v => v.category).sum + (13 * (names.length + 1) + 42) ≤ R.locals) (hRcells : cells + 1 ≤ R.cells) (hRslots : slots + 6 ≤ R.slots) (hlocks : meth.locks = false)
    (hx : ∀ t : State, s.vm.Alike t.vm → H.size ≤ t.heap.size → (∀ q : Nat, q < H.size → t.heap[q]? = H[q]?) → XC cls s t)
    (hf : ∀ z ∈ locs, free z.base) (hc : cells + 1 ≤ mc) (hs : slots + 6 ≤ ms) :
    W p l e R s m args below meth c H locs cells slots (vx_MQ below Qc XC args s mc ms free) (F0 m pc ls rest) := by
  intro T hT X
  have htr : e.platform.stackTraces = false := (show e.platform.stackTraces = l.stackTraces by rw [X.admits.platform]).trans hl
  have Y := vx_rebase X (R' := { frames := R.frames, locals := R.locals, cells := 1, slots := 6 }) (Nat.le_refl _) (Nat.le_refl _) hRcells hRslots
  obtain ⟨s', hA⟩ : ∃ z, z = (T.setVm s.vm).setFrames (.invoking m args :: below) := ⟨_, rfl⟩
  rw [← hA] at Y
  have hvm : s'.vm = s.vm := by rw [hA]; rfl
  have hhp : s'.heap = H := by rw [hA]; exact hT
  have hW0 : s.WarmedH s'.vm := by rw [hvm]; exact State.WarmedH.refl s
  have hat' : ∀ w ∈ vx_at0 own ic cls names, w.before args s' = true := fun w hw => vx_ot_at hW0 hvm.symm (hgood w (List.mem_cons_of_mem _ (List.mem_cons_of_mem _ hw))) (hat w hw)
  have hk' : (Cond.classLink own ik cls).before args s' = true := vx_ot_at hW0 hvm.symm (hgood _ List.mem_cons_self) hk
  have hini' : (Cond.initialized cls).before args s' = true := vx_ot_at hW0 hvm.symm (hgood _ (List.mem_cons_of_mem _ List.mem_cons_self)) hini
  have hU' : vx_Zq Bundle.tN "UNASSIGNED_STACK" Bundle.steD A s' s'.heap := by rw [hhp]; exact vx_Zq.moved hW0.alike (hU.kept hS.2.1)
  have hN' : vx_Zq Bundle.tN "SUPPRESSED_SENTINEL" Bundle.listD A s' s'.heap := by rw [hhp]; exact vx_Zq.moved hW0.alike (hN.kept hS.2.1)
  have h : ∀ w ∈ Bundle.ownAtoms0 own ic cls names, w.before args s' = true := vx_own hat' (vx_isRefq hU'.1) (vx_isRefq hN'.1) hU'.2.word hN'.2.word
  have hown' : s'.vm.findClass own = some m.cls := by rw [hvm]; exact hown
  have hins : (Cond.instantiable cls 6).before args s' = true := h _ (by simp [Bundle.ownAtoms0])
  obtain ⟨vm₁, cX, kX, hfX, hkX, -, -, X₁, st1⟩ := Y.newCold hexec (own := own) (C := cls) (index := ik) (n := 6) hown' hk' hins hini'
    (g := F0 m pc ls rest) rfl (by rw [hb]; exact d0) (Nat.le_refl _) (Nat.le_refl _)
  generalize hT1 : (T.setVm vm₁).pushCell { cls := cX, slots := kX.instanceTypes.map defaultValue, vm := .none } = T1 at X₁ st1
  have hcat : (Value.ref T.heap.size).category = 1 := rfl
  have hcellA : T1.heap[T.heap.size]? = some (freshCell cX kX) := by rw [← hT1]; exact State.heap_pushCell_size _ _
  have d3' : decode c.code (pc + 3) = .ok (.dup, 1) := by rw [hb]; exact d3
  obtain ⟨U, hsteps, hrun, hend, hW, hsame, ce, hce, hO⟩ := X₁.ctorThrow0 hexec htr (own := own) (cls := cls) (names := names) (ic := ic) hown' hcls hnames h (fun x hx => nomatch hx) hfX hkX hcellA (by rw [hhp, hT]; exact Nat.le_refl _)
    (g := { method := m, pc := pc + 4, locals := ls, stack := .ref T.heap.size :: .ref T.heap.size :: rest, locked := none }) rfl hsize rfl rfl (rest := rest) rfl
    (by rw [hb]; exact d4) (by rw [hb]; exact d7) hout hRframes (by simp only [List.map_cons, List.sum_cons, hcat]; omega) hlocks
  obtain ⟨f1, f2⟩ := vx_frame hsame
  rw [hhp] at f1 f2
  have hWs : s.WarmedH U.vm := State.WarmedH.trans hW0 hW
  have hcl : s.vm.findClass cls = some ce.cls := by
    have h9 := hO.cls
    rw [hvm] at h9
    exact h9
  have hall : s.sameButNew ({ U with vm := s.vm } : State) locs mc ms := by
    subst hA
    obtain ⟨e1, e2⟩ := hsame
    rw [State.setFrames_setFrames] at e1
    have h2 : (T.setVm s.vm).sameButNew ({ U with vm := s.vm } : State) [] (0 + 1) (0 + 6) := ⟨e1, e2⟩
    have h3 := X.same.trans h2
    rw [List.append_nil] at h3
    exact h3.mono hc hs
  refine ⟨U, ?_, .threw T.heap.size, hrun, hend, Or.inr ⟨T.heap.size, rfl, cls, ce, locs, hx U hWs.alike f1 (fun q hq => f2 q hq (fun z hz => nomatch hz)), hce, hO.vm, hcl, hWs, hall, hf⟩⟩
  refine st1 _ ?_
  show Steps p.tables e below (T1.setTop { method := m, pc := pc + 3, locals := ls, stack := .ref T.heap.size :: rest, locked := none }) _
  jvm_step X₁.here [X₁.here.top, hexec, d3', Value.category]
  exact hsteps
/-- 'throw new E("text")': new; dup; ldc; invokespecial; athrow -/
theorem vx_throwS {cc : ByteArray} {pc : Nat} (hexec : p.tables.exec = Jvm.exec) (hb : c.code = cc) (hl : l.stackTraces = false) {own cls text : String} {names : List String} {ik is ic mc ms sa : Nat} {A : Nat → Prop}
    (hown : s.vm.findClass own = some m.cls) (hcls : Bundle.fit cls = true) (hnames : ∀ n ∈ names, Bundle.fit n = true)
    (hk : (Cond.classLink own ik cls).before args s = true) (hini : (Cond.initialized cls).before args s = true) (hstr : vk_R own is text sa s) (hat : ∀ w ∈ vx_atS own ic cls names, w.before args s = true)
    (hgood : ∀ w ∈ Cond.classLink own ik cls :: Cond.initialized cls :: vx_atS own ic cls names, vx_ot w = true)
    (hU : vx_Zq Bundle.tN "UNASSIGNED_STACK" Bundle.steD A s s.heap) (hN : vx_Zq Bundle.tN "SUPPRESSED_SENTINEL" Bundle.listD A s s.heap) (hS : va_S A s.heap H locs) (hsize : ls.size = c.maxLocals)
    (d0 : decode cc pc = .ok (.new ik, 3)) (d3 : decode cc (pc + 3) = .ok (.dup, 1)) (d4 : decode cc (pc + 4) = .ok (.ldc is, 2)) (d6 : decode cc (pc + 6) = .ok (.invokespecial ic, 3)) (d9 : decode cc (pc + 9) = .ok (.athrow, 1))
    (hout : ∀ x ∈ c.exceptionTable.toList, covers x (pc + 9) = false)
    (hRframes : names.length + 3 < R.frames) (hRlocals : (rest.map fun v => v.category).sum + (13 * (names.length + 1) + 43) ≤ R.locals) (hRcells : cells + 1 ≤ R.cells) (hRslots : slots + 6 ≤ R.slots) (hlocks : meth.locks = false)
    (hx : ∀ t : State, s.vm.Alike t.vm → H.size ≤ t.heap.size → (∀ q : Nat, q < H.size → t.heap[q]? = H[q]?) → XC cls s t)
    (hf : ∀ z ∈ locs, free z.base) (hc : cells + 1 ≤ mc) (hs : slots + 6 ≤ ms) :
    W p l e R s m args below meth c H locs cells slots (vx_MQ below Qc XC args s mc ms free) (F0 m pc ls rest) := by
  intro T hT X
  have htr : e.platform.stackTraces = false := (show e.platform.stackTraces = l.stackTraces by rw [X.admits.platform]).trans hl
  have Y := vx_rebase X (R' := { frames := R.frames, locals := R.locals, cells := 1, slots := 6 }) (Nat.le_refl _) (Nat.le_refl _) hRcells hRslots
  obtain ⟨s', hA⟩ : ∃ z, z = (T.setVm s.vm).setFrames (.invoking m args :: below) := ⟨_, rfl⟩
  rw [← hA] at Y
  have hvm : s'.vm = s.vm := by rw [hA]; rfl
  have hhp : s'.heap = H := by rw [hA]; exact hT
  have hW0 : s.WarmedH s'.vm := by rw [hvm]; exact State.WarmedH.refl s
  have hat' : ∀ w ∈ vx_atS own ic cls names, w.before args s' = true := fun w hw => vx_ot_at hW0 hvm.symm (hgood w (List.mem_cons_of_mem _ (List.mem_cons_of_mem _ hw))) (hat w hw)
  have hk' : (Cond.classLink own ik cls).before args s' = true := vx_ot_at hW0 hvm.symm (hgood _ List.mem_cons_self) hk
  have hini' : (Cond.initialized cls).before args s' = true := vx_ot_at hW0 hvm.symm (hgood _ (List.mem_cons_of_mem _ List.mem_cons_self)) hini
  have hU' : vx_Zq Bundle.tN "UNASSIGNED_STACK" Bundle.steD A s' s'.heap := by rw [hhp]; exact vx_Zq.moved hW0.alike (hU.kept hS.2.1)
  have hN' : vx_Zq Bundle.tN "SUPPRESSED_SENTINEL" Bundle.listD A s' s'.heap := by rw [hhp]; exact vx_Zq.moved hW0.alike (hN.kept hS.2.1)
  have h : ∀ w ∈ Bundle.ownAtoms own ic cls names, w.before args s' = true := vx_own hat' (vx_isRefq hU'.1) (vx_isRefq hN'.1) hU'.2.word hN'.2.word
  have hown' : s'.vm.findClass own = some m.cls := by rw [hvm]; exact hown
  have hins : (Cond.instantiable cls 6).before args s' = true := h _ (by simp [Bundle.ownAtoms])
  obtain ⟨vm₁, cX, kX, hfX, hkX, -, -, X₁, st1⟩ := Y.newCold hexec (own := own) (C := cls) (index := ik) (n := 6) hown' hk' hins hini'
    (g := F0 m pc ls rest) rfl (by rw [hb]; exact d0) (Nat.le_refl _) (Nat.le_refl _)
  generalize hT1 : (T.setVm vm₁).pushCell { cls := cX, slots := kX.instanceTypes.map defaultValue, vm := .none } = T1 at X₁ st1
  have hcat : (Value.ref T.heap.size).category = 1 := rfl
  have hcellA : T1.heap[T.heap.size]? = some (freshCell cX kX) := by rw [← hT1]; exact State.heap_pushCell_size _ _
  have d3' : decode c.code (pc + 3) = .ok (.dup, 1) := by rw [hb]; exact d3
  have d4' : decode c.code (pc + 4) = .ok (.ldc is, 2) := by rw [hb]; exact d4
  have hstr' : vk_R own is text sa s' := vk_R.warm hW0 hstr
  obtain ⟨U, hsteps, hrun, hend, hW, hsame, ce, hce, hO⟩ := X₁.ctorThrowS hexec htr (own := own) (cls := cls) (names := names) (ic := ic) hown' hcls hnames h (fun x hx => nomatch hx) hfX hkX hcellA (by rw [hhp, hT]; exact Nat.le_refl _) (msg := .ref sa) rfl
    (g := { method := m, pc := pc + 6, locals := ls, stack := .ref sa :: .ref T.heap.size :: .ref T.heap.size :: rest, locked := none }) rfl hsize rfl rfl (rest := rest) rfl
    (by rw [hb]; exact d6) (by rw [hb]; exact d9) hout hRframes (by simp only [List.map_cons, List.sum_cons, hcat]; omega) hlocks
  obtain ⟨f1, f2⟩ := vx_frame hsame
  rw [hhp] at f1 f2
  have hWs : s.WarmedH U.vm := State.WarmedH.trans hW0 hW
  have hcl : s.vm.findClass cls = some ce.cls := by
    have h9 := hO.cls
    rw [hvm] at h9
    exact h9
  have hall : s.sameButNew ({ U with vm := s.vm } : State) locs mc ms := by
    subst hA
    obtain ⟨e1, e2⟩ := hsame
    rw [State.setFrames_setFrames] at e1
    have h2 : (T.setVm s.vm).sameButNew ({ U with vm := s.vm } : State) [] (0 + 1) (0 + 6) := ⟨e1, e2⟩
    have h3 := X.same.trans h2
    rw [List.append_nil] at h3
    exact h3.mono hc hs
  refine ⟨U, ?_, .threw T.heap.size, hrun, hend, Or.inr ⟨T.heap.size, rfl, cls, ce, locs, hx U hWs.alike f1 (fun q hq => f2 q hq (fun z hz => nomatch hz)), hce, hO.vm, hcl, hWs, hall, hf⟩⟩
  refine st1 _ ?_
  show Steps p.tables e below (T1.setTop { method := m, pc := pc + 3, locals := ls, stack := .ref T.heap.size :: rest, locked := none }) _
  jvm_step X₁.here [X₁.here.top, hexec, d3', Value.category]
  exact X₁.ldcString hexec (own := own) (text := text) (index := is) (a := sa) hown' hstr'.1 hstr'.2
    (g := { method := m, pc := pc + 4, locals := ls, stack := .ref T.heap.size :: .ref T.heap.size :: rest, locked := none }) rfl d4' _ hsteps
/-- 'throw new E("text")', the text by a wide index -/
theorem vx_throwSW {cc : ByteArray} {pc : Nat} (hexec : p.tables.exec = Jvm.exec) (hb : c.code = cc) (hl : l.stackTraces = false) {own cls text : String} {names : List String} {ik is ic mc ms sa : Nat} {A : Nat → Prop}
    (hown : s.vm.findClass own = some m.cls) (hcls : Bundle.fit cls = true) (hnames : ∀ n ∈ names, Bundle.fit n = true)
    (hk : (Cond.classLink own ik cls).before args s = true) (hini : (Cond.initialized cls).before args s = true) (hstr : vk_R own is text sa s) (hat : ∀ w ∈ vx_atS own ic cls names, w.before args s = true)
    (hgood : ∀ w ∈ Cond.classLink own ik cls :: Cond.initialized cls :: vx_atS own ic cls names, vx_ot w = true)
    (hU : vx_Zq Bundle.tN "UNASSIGNED_STACK" Bundle.steD A s s.heap) (hN : vx_Zq Bundle.tN "SUPPRESSED_SENTINEL" Bundle.listD A s s.heap) (hS : va_S A s.heap H locs) (hsize : ls.size = c.maxLocals)
    (d0 : decode cc pc = .ok (.new ik, 3)) (d3 : decode cc (pc + 3) = .ok (.dup, 1)) (d4 : decode cc (pc + 4) = .ok (.ldc_w is, 3)) (d7 : decode cc (pc + 7) = .ok (.invokespecial ic, 3)) (d10 : decode cc (pc + 10) = .ok (.athrow, 1))
    (hout : ∀ x ∈ c.exceptionTable.toList, covers x (pc + 10) = false)
    (hRframes : names.length + 3 < R.frames) (hRlocals : (rest.map fun v => v.category).sum + (13 * (names.length + 1) + 43) ≤ R.locals) (hRcells : cells + 1 ≤ R.cells) (hRslots : slots + 6 ≤ R.slots) (hlocks : meth.locks = false)
    (hx : ∀ t : State, s.vm.Alike t.vm → H.size ≤ t.heap.size → (∀ q : Nat, q < H.size → t.heap[q]? = H[q]?) → XC cls s t)
    (hf : ∀ z ∈ locs, free z.base) (hc : cells + 1 ≤ mc) (hs : slots + 6 ≤ ms) :
    W p l e R s m args below meth c H locs cells slots (vx_MQ below Qc XC args s mc ms free) (F0 m pc ls rest) := by
  intro T hT X
  have htr : e.platform.stackTraces = false := (show e.platform.stackTraces = l.stackTraces by rw [X.admits.platform]).trans hl
  have Y := vx_rebase X (R' := { frames := R.frames, locals := R.locals, cells := 1, slots := 6 }) (Nat.le_refl _) (Nat.le_refl _) hRcells hRslots
  obtain ⟨s', hA⟩ : ∃ z, z = (T.setVm s.vm).setFrames (.invoking m args :: below) := ⟨_, rfl⟩
  rw [← hA] at Y
  have hvm : s'.vm = s.vm := by rw [hA]; rfl
  have hhp : s'.heap = H := by rw [hA]; exact hT
  have hW0 : s.WarmedH s'.vm := by rw [hvm]; exact State.WarmedH.refl s
  have hat' : ∀ w ∈ vx_atS own ic cls names, w.before args s' = true := fun w hw => vx_ot_at hW0 hvm.symm (hgood w (List.mem_cons_of_mem _ (List.mem_cons_of_mem _ hw))) (hat w hw)
  have hk' : (Cond.classLink own ik cls).before args s' = true := vx_ot_at hW0 hvm.symm (hgood _ List.mem_cons_self) hk
  have hini' : (Cond.initialized cls).before args s' = true := vx_ot_at hW0 hvm.symm (hgood _ (List.mem_cons_of_mem _ List.mem_cons_self)) hini
  have hU' : vx_Zq Bundle.tN "UNASSIGNED_STACK" Bundle.steD A s' s'.heap := by rw [hhp]; exact vx_Zq.moved hW0.alike (hU.kept hS.2.1)
  have hN' : vx_Zq Bundle.tN "SUPPRESSED_SENTINEL" Bundle.listD A s' s'.heap := by rw [hhp]; exact vx_Zq.moved hW0.alike (hN.kept hS.2.1)
  have h : ∀ w ∈ Bundle.ownAtoms own ic cls names, w.before args s' = true := vx_own hat' (vx_isRefq hU'.1) (vx_isRefq hN'.1) hU'.2.word hN'.2.word
  have hown' : s'.vm.findClass own = some m.cls := by rw [hvm]; exact hown
  have hins : (Cond.instantiable cls 6).before args s' = true := h _ (by simp [Bundle.ownAtoms])
  obtain ⟨vm₁, cX, kX, hfX, hkX, -, -, X₁, st1⟩ := Y.newCold hexec (own := own) (C := cls) (index := ik) (n := 6) hown' hk' hins hini'
    (g := F0 m pc ls rest) rfl (by rw [hb]; exact d0) (Nat.le_refl _) (Nat.le_refl _)
  generalize hT1 : (T.setVm vm₁).pushCell { cls := cX, slots := kX.instanceTypes.map defaultValue, vm := .none } = T1 at X₁ st1
  have hcat : (Value.ref T.heap.size).category = 1 := rfl
  have hcellA : T1.heap[T.heap.size]? = some (freshCell cX kX) := by rw [← hT1]; exact State.heap_pushCell_size _ _
  have d3' : decode c.code (pc + 3) = .ok (.dup, 1) := by rw [hb]; exact d3
  have d4' : decode c.code (pc + 4) = .ok (.ldc_w is, 3) := by rw [hb]; exact d4
  have hstr' : vk_R own is text sa s' := vk_R.warm hW0 hstr
  obtain ⟨U, hsteps, hrun, hend, hW, hsame, ce, hce, hO⟩ := X₁.ctorThrowS hexec htr (own := own) (cls := cls) (names := names) (ic := ic) hown' hcls hnames h (fun x hx => nomatch hx) hfX hkX hcellA (by rw [hhp, hT]; exact Nat.le_refl _) (msg := .ref sa) rfl
    (g := { method := m, pc := pc + 7, locals := ls, stack := .ref sa :: .ref T.heap.size :: .ref T.heap.size :: rest, locked := none }) rfl hsize rfl rfl (rest := rest) rfl
    (by rw [hb]; exact d7) (by rw [hb]; exact d10) hout hRframes (by simp only [List.map_cons, List.sum_cons, hcat]; omega) hlocks
  obtain ⟨f1, f2⟩ := vx_frame hsame
  rw [hhp] at f1 f2
  have hWs : s.WarmedH U.vm := State.WarmedH.trans hW0 hW
  have hcl : s.vm.findClass cls = some ce.cls := by
    have h9 := hO.cls
    rw [hvm] at h9
    exact h9
  have hall : s.sameButNew ({ U with vm := s.vm } : State) locs mc ms := by
    subst hA
    obtain ⟨e1, e2⟩ := hsame
    rw [State.setFrames_setFrames] at e1
    have h2 : (T.setVm s.vm).sameButNew ({ U with vm := s.vm } : State) [] (0 + 1) (0 + 6) := ⟨e1, e2⟩
    have h3 := X.same.trans h2
    rw [List.append_nil] at h3
    exact h3.mono hc hs
  refine ⟨U, ?_, .threw T.heap.size, hrun, hend, Or.inr ⟨T.heap.size, rfl, cls, ce, locs, hx U hWs.alike f1 (fun q hq => f2 q hq (fun z hz => nomatch hz)), hce, hO.vm, hcl, hWs, hall, hf⟩⟩
  refine st1 _ ?_
  show Steps p.tables e below (T1.setTop { method := m, pc := pc + 3, locals := ls, stack := .ref T.heap.size :: rest, locked := none }) _
  jvm_step X₁.here [X₁.here.top, hexec, d3', Value.category]
  exact X₁.ldcStringW hexec (own := own) (text := text) (index := is) (a := sa) hown' hstr'.1 hstr'.2
    (g := { method := m, pc := pc + 4, locals := ls, stack := .ref T.heap.size :: .ref T.heap.size :: rest, locked := none }) rfl d4' _ hsteps
end Ends
section Bodies
variable {l : Launch}
theorem vx_ofW {y : MethodName} {ws ws' : List Cond} {rm : Room} {Pc : Array Value → State → Prop} {Qc : Array Value → State → Outcome → State → Prop} {XC : String → State → State → Prop} {mc ms : Nat} {free : Addr → Prop} {cc : ByteArray} {maxL : Nat} {ret : Option FieldType}
    (hy : plainName y.cls = true) (hw : ws = Cond.code y cc maxL ret :: ws')
    (body : ∀ p e s m args below meth c s₁, BodyLoose p l y (headSpec ws rm) cc maxL ret e s m args below meth c s₁ → c.maxLocals = maxL → (∀ x ∈ c.exceptionTable.toList, False) → Pc args s →
      W p l e (headSpec ws rm).room s m args below meth c s.heap [] 0 0 (vx_MQ below Qc XC args s mc ms free) (entryFrame m args maxL)) : vx_Met l y ws rm Pc Qc XC mc ms free := by
  refine MetFree.of_bodyS (code := cc) (maxLocals := maxL) (ret := ret) hy ?_ ?_
  · intro args s m h hn
    obtain ⟨meth, c, h1, h2, h3, h4, h5, h6, -, -⟩ := Cond.code_spec hn (atoms_spec (ws := ws) h _ (by rw [hw]; exact List.mem_cons_self))
    exact ⟨meth, c, h1, h2, h3, h4, h5, h6⟩
  · intro p e s m args below meth c s₁ B hml hP _
    have hh0 : s₁.heap = s.heap := by rw [B.state]; rfl
    have ht : ∀ x ∈ c.exceptionTable.toList, False := by
      obtain ⟨meth9, c9, h1, h2, -, -, -, -, h7, -⟩ := Cond.code_spec B.named (atoms_spec (ws := ws) B.pre _ (by rw [hw]; exact List.mem_cons_self))
      cases Option.some.inj (h1.symm.trans B.method)
      cases Option.some.inj (h2.symm.trans (Stand.of_body B).code)
      intro x hx
      rw [Array.isEmpty_iff.mp h7] at hx
      cases hx
    obtain ⟨t, a1, o, b1, b2, b3⟩ := body p e s m args below meth c s₁ B hml ht hP s₁ hh0 (Stand.of_body B)
    exact ⟨t, o, a1, b1, b2, b3⟩
/-- the table of a body with handlers -/
theorem vx_table {p : Program} {x y : MethodName} {S : Spec} {cc bytes : ByteArray} {maxL maxL' : Nat} {ret ret' : Option FieldType} {e : Env} {s s₁ : State} {m : MethodId} {args : Array Value} {below : List Frame} {meth : Method} {c : Code} {hh : List (Nat × Nat × Nat × Nat)}
    (B : BodyLoose p l y S cc maxL ret e s m args below meth c s₁) (h : (Cond.codeWith y bytes maxL' ret' hh).before args s = true) : c.exceptionTable.toList = tableOf hh := by
  obtain ⟨m9, meth9, c9, hn9, h1, h2, -, -, h6, -⟩ := Cond.codeWith_spec h
  cases Option.some.inj (hn9.symm.trans B.named)
  cases Option.some.inj (h1.symm.trans B.method)
  cases Option.some.inj (h2.symm.trans (Stand.of_body B).code)
  rw [← h6, table_eq]
end Bodies
end VXA
/-! ===== END ===== -/
/-! ===== BEGIN a static call of a method with an exception table ===== -/
section VXS
variable {p : Program} {l : Launch} {e : Env} {R : Room} {s : State} {m : MethodId} {args : Array Value} {below : List Frame} {meth : Method} {c : Code} {T : State} {H : Heap} {locs : List Loc} {cells slots : Nat}
abbrev vx_CSW (R : Room) (s : State) (args : Array Value) (own : String) (index : Nat) (y : MethodName) (bytes : ByteArray) (maxL : Nat) (ret : Option FieldType) (hh : List (Nat × Nat × Nat × Nat)) (ws : List Cond) (rm : Room) (mc ms n : Nat) : Prop :=
  (rm.cells = mc ∧ rm.slots = ms ∧ rm.frames + 1 ≤ R.frames ∧ 8 + (maxL + 11) + rm.locals ≤ R.locals ∧ (∀ w ∈ ws, ∀ (a' : Array Value) (U : State), s.WarmedH U.vm → w.before a' U = true) ∧ Cond.codeWith y bytes maxL ret hh ∈ ws) ∧
  (Cond.codeWith y bytes maxL ret hh).before args s = true ∧ (Cond.initialized y.cls).before args s = true ∧ (y.cls ≠ "java/lang/invoke/MethodHandle" ∧ y.cls ≠ "java/lang/invoke/VarHandle") ∧
  (∀ sig, parseMethodDescriptor y.desc = some sig → n = sig.parameters.length) ∧ (Cond.methodLink own index y).before args s = true ∧ (Cond.static y).before args s = true
theorem vx_cwSW {own : String} {index maxL mc ms : Nat} {y : MethodName} {bytes : ByteArray} {ret : Option FieldType} {hh : List (Nat × Nat × Nat × Nat)} {Ts ws ws' : List Cond} {rm : Room} (n : Nat) (ht : ∀ w ∈ Ts, w.before args s = true) (hT : GoodIn Ts (va_wsS own index y ws)) (hw : ws = Cond.codeWith y bytes maxL ret hh :: ws') (hrc : rm.cells = mc) (hrs : rm.slots = ms)
    (hd : y.cls ≠ "java/lang/invoke/MethodHandle" ∧ y.cls ≠ "java/lang/invoke/VarHandle" ∧ (parseMethodDescriptor y.desc).map (fun d => d.parameters.length) = some n) (hR : rm.frames + 1 ≤ R.frames ∧ 8 + (maxL + 11) + rm.locals ≤ R.locals) :
    vx_CSW R s args own index y bytes maxL ret hh ws rm mc ms n := by
  have ok : ∀ w ∈ va_wsS own index y ws, w.before args s = true := fun w h => ht w (hT w h).1
  have hG : GoodIn Ts ws := fun w h => hT w (by unfold va_wsS; exact List.mem_append_right _ h)
  have hc : Cond.codeWith y bytes maxL ret hh ∈ ws := by rw [hw]; exact List.mem_cons_self
  refine ⟨⟨hrc, hrs, hR.1, hR.2, pay_in ht hG, hc⟩, ht _ (hG _ hc).1, ok _ (by simp [va_wsS]), ⟨hd.1, hd.2.1⟩, fun sig h => ?_, ok _ (by simp [va_wsS]), ok _ (by simp [va_wsS])⟩
  have h2 := hd.2.2
  rw [h] at h2
  exact (Option.some.inj h2).symm
theorem vx_callSW (X : Stand p l e R s m args below meth c T locs cells slots) (hexec : p.tables.exec = Jvm.exec) {own : String} {index : Nat} {y : MethodName} {bytes : ByteArray} {maxL : Nat} {ret : Option FieldType} {hh : List (Nat × Nat × Nat × Nat)}
    (hown : s.vm.findClass own = some m.cls) (hlink : (Cond.methodLink own index y).before args s = true) (hstat : (Cond.static y).before args s = true) (hinit : (Cond.initialized y.cls).before args s = true)
    (hcode : (Cond.codeWith y bytes maxL ret hh).before args s = true) (hy : y.cls ≠ "java/lang/invoke/MethodHandle" ∧ y.cls ≠ "java/lang/invoke/VarHandle")
    {W9 : Nat} {Pre : Pt → Array Value → Prop} {Post : Pt → Array Value → Option Value → Pt → Prop} (hK : Back l R p e below s args y 3 W9 Pre Post)
    {g : JFrame} (hg : g.method = m) (hsize : g.locals.size = c.maxLocals) {argsL rest : List Value} (hlen : ∀ sig, parseMethodDescriptor y.desc = some sig → argsL.length = sig.parameters.length)
    (hstack : g.stack = argsL.reverse ++ rest) (hW : 2 * g.monitorRoom + (rest.map fun v => v.category).sum ≤ W9) (hdg : decode c.code g.pc = .ok (.invokestatic index, 3))
    (hpre : ∀ vm₁, s.WarmedH vm₁ → Pre ⟨T.setVm vm₁, locs, cells, slots⟩ argsL.toArray) :
    ∃ (v : Option Value) (vm₁ : Vm) (B : Pt), s.WarmedH vm₁ ∧ Stand p l e R s m args below meth c B.U B.locs B.cells B.slots ∧ Post ⟨T.setVm vm₁, locs, cells, slots⟩ argsL.toArray v B ∧
      ∀ target, Steps p.tables e below (B.U.setTop { g with pc := g.pc + 3, stack := v.toList ++ rest }) target → Steps p.tables e below (T.setTop g) target := by
  obtain ⟨mk, methM, cM, hnamed, hmethM, -, -, -, -, -, -, hsigM⟩ := Cond.codeWith_spec hcode
  have hstatic : methM.isStatic = true := Cond.static_spec hnamed hmethM hstat
  obtain ⟨kP, hkP, -⟩ := className_of_methodNamed hnamed
  have hinitP : kP.init = .initialized := Cond.initialized_spec (findClass_of_methodNamed hnamed) hkP hinit
  obtain ⟨vm₁, X₁, hstep₁⟩ := X.invokestatic hexec hown hlink hnamed hmethM hstatic hkP hinitP hy (g := g) hg (argsL := argsL) (rest := rest) (hlen _ hsigM) hstack hdg
  obtain ⟨v, B, X', hpost, hsteps⟩ := hK m meth c ⟨T.setVm vm₁, locs, cells, slots⟩ { g with stack := rest } (.invokestatic index) mk argsL.toArray X₁ hg hsize hdg hW (X₁.named hnamed) (hpre vm₁ X₁.warmed)
  exact ⟨v, vm₁, B, X₁.warmed, X', hpost, fun target h => hstep₁ _ fun acts => by rw [doInvoke_state]; exact hsteps.trans h⟩
theorem vx_runSW {y : MethodName} {bytes cc : ByteArray} {maxL nL mc ms n index : Nat} {ret : Option FieldType} {hh : List (Nat × Nat × Nat × Nat)} {ws : List Cond} {rm : Room} {Pc : Array Value → State → Prop} {Qc : Array Value → State → Outcome → State → Prop} {free : Addr → Prop} {Ts : List Cond} {own : String} {As rest : List Value} {g : JFrame}
    (S : CallFix p m c cc nL s args Ts own) (hM : Met l y ws rm Pc Qc mc ms free) (cw : vx_CSW R s args own index y bytes maxL ret hh ws rm mc ms n) (hp : PreS s H Pc As)
    (hg : g.method = m) (hn : As.length = n) (hsize : g.locals.size = nL) (hstack : g.stack = As.reverse ++ rest) (hW : 2 * g.monitorRoom + (rest.map fun v => v.category).sum ≤ 8) (hdg : decode cc g.pc = .ok (.invokestatic index, 3)) (hf : cells + mc ≤ R.cells ∧ slots + ms ≤ R.slots) :
    va_Run p l e R s m args below meth c H locs cells slots mc ms g rest (Qc As.toArray) (free) := by
  obtain ⟨⟨hrc, hrs, hfr, hlo, hws, hcw⟩, hcode, hini, hy, hlen, hl, hstt⟩ := cw
  have hK : Back l R p e below s args y 3 8 (PreOf R mc ms Pc) (PostOf Qc mc ms free) := va_backW (hh := hh) (bytes := bytes) (maxL := maxL) (ret := ret) hM hp.1 hrc hrs hfr hlo hws hcw (fun a' U hW => word_at hW (Or.inl (by first | rfl | simp [Cond.onTables, Cond.keeps, Cond.steady])) hini)
  obtain ⟨hx, hb, hml, ho, -⟩ := S
  intro T hT X
  obtain ⟨v, vm₁, ⟨U', l2, c2, s2⟩, hW₁, X', ⟨g', mk, t, L, e1, e2, hq, h1, hL, h2, h3⟩, st⟩ := vx_callSW X hx (hh := hh) (bytes := bytes) (maxL := maxL) (ret := ret) ho hl hstt hini hcode hy hK hg (hsize.trans hml.symm) (argsL := As) (rest := rest) (fun sig h => hn.trans (hlen sig h)) hstack hW (by rw [hb]; exact hdg)
    (fun vm₁ hW₁ => ⟨hf.1, hf.2, hp.2 (T.setVm vm₁) hT hW₁⟩)
  dsimp only [Pt.U, Pt.locs, Pt.cells, Pt.slots] at X' e1 e2 h1 h2 h3 st
  subst h1; subst h2; subst h3
  exact ⟨v, (T.setVm vm₁).calling g' mk As.toArray, t, U', L, hT, X', hL, e1, e2, hq, st⟩
/-- not caught here, past rows that name other classes: it goes on to the caller -/
theorem vx_outP {p : Program} {l : Launch} {e : Env} {R : Room} {s : State} {m : MethodId} {args : Array Value} {below : List Frame} {meth : Method} {c : Code} {H : Heap} {locs : List Loc} {cells slots : Nat} {free : Addr → Prop} {ls : Array Slot} {rest : List Value} {Qc : Array Value → State → Outcome → State → Prop} {XC : String → State → State → Prop}
    {pc : Nat} {own E : String} {ce : Cell} {q : Addr} {mc ms : Nat} (hown : s.vm.findClass own = some m.cls) (hlocks : meth.locks = false)
    (hpass : ∀ z ∈ c.exceptionTable.toList, covers z pc = false ∨ (z.catchType ≠ 0 ∧ ∃ nm : String, (Cond.classLink own z.catchType nm).before args s = true ∧ va_Nc E nm s)) (hcell : H[q]? = some ce) (hv : ce.vm = .none) (hcl : s.vm.findClass E = some ce.cls)
    (hx : ∀ t : State, t.heap = H → s.vm.Alike t.vm → XC E s t) (hf : ∀ z ∈ locs, free z.base) (hc : cells ≤ mc) (hs : slots ≤ ms) :
    vx_W p l e R s m args below meth c H locs cells slots (vx_MQ below Qc XC args s mc ms free) (F0 m pc ls rest) q := by
  intro T hT X
  have hpl : e.platform.magicAccessors = ({} : Platform).magicAccessors := by rw [X.admits.platform]
  obtain ⟨vm', hW', X', st⟩ := X.outThrough hlocks q (g := F0 m pc ls rest) rfl rfl rfl (cell := ce) (by rw [hT]; exact hcell) (by rw [hv]; rfl)
    (by obtain ⟨k9, h9, -⟩ := Vm.findClass_spec hcl; exact ⟨k9, h9⟩) (fun z hz => by
      rcases hpass z hz with h | ⟨hz0, nm, hl1, hn1⟩
      · exact Or.inl h
      · obtain ⟨c6, hc6, hcl6⟩ := Cond.classLink_spec hown hl1 e.platform hpl
        obtain ⟨a8, b8, h1, h2, h3⟩ := hn1
        cases Option.some.inj (h1.symm.trans hcl)
        cases Option.some.inj (h2.symm.trans hc6)
        exact Or.inr ⟨hz0, _, hcl6, h3⟩)
  obtain ⟨g₀, hfr⟩ := X'.frames_eq
  have hcell9 : ((T.setVm vm').setFrames (.throwing q :: below)).heap[q]? = some ce := by
    show T.heap[q]? = some ce
    rw [hT]; exact hcell
  have hend : Ended ((T.setVm vm').setFrames (.throwing q :: below)) below (.threw q) := State.frames_setFrames _ (State.cur_lt_of_frames hfr)
  refine ⟨(T.setVm vm').setFrames (.throwing q :: below), ?_, .threw q, X'.here.running, hend, Or.inr ⟨q, rfl, E, ce, locs, hx _ hT (X'.ends _).1.alike, hcell9, hv, hcl, (X'.ends _).1, (X'.ends _).2.mono hc hs, hf⟩⟩
  rw [X.pushThrowing_eq]
  exact st
/-- a thing of a world lies in the heap -/
theorem vx_lt {D : va_G} {cl : List vw_C} {ws : va_W} {H1 : Heap} (h : va_P D cl ws H1) {k : Nat} {q : Nat × va_E} (hk : ws[k]? = some q) : q.1 < H1.size := (h k q hk).lt
end VXS
/-! ===== END ===== -/
/-! ===== BEGIN methods with a table of their own: called by a name, returning or throwing ===== -/
section VXH
/-! vx_backW, vx_callVX, vx_callSX, vx_callVW, vx_runVW, vx_runVX, vx_runSX, vx_ofWH follow the same proofs as their sisters above (Free/Laws.lean, Shelf42/LK1.lean); vx_outP calls Shelf42/NT130.lean (outThrough). -/
section
variable {l : Launch} {R : Room} {p : Program} {e : Env} {below : List Frame} {s : State} {sargs : Array Value} {y : MethodName} {len W9 : Nat}
theorem vx_backW {ws : List Cond} {rm : Room} {Pc : Array Value → State → Prop} {Qc : Array Value → State → Outcome → State → Prop} {XC : String → State → State → Prop} {mc ms : Nat} {free : Addr → Prop} {bytes : ByteArray} {maxL : Nat} {ret : Option FieldType} {hh : List (Nat × Nat × Nat × Nat)}
    (hM : vx_Met l y ws rm Pc Qc XC mc ms free) (hblind : FrameBlind Pc) (hrc : rm.cells = mc) (hrs : rm.slots = ms)
    (hframes : rm.frames + 1 ≤ R.frames) (hlocals : W9 + (maxL + 11) + rm.locals ≤ R.locals)
    (hws : ∀ w ∈ ws, ∀ a' U, s.WarmedH U.vm → w.before a' U = true) (hcode : Cond.codeWith y bytes maxL ret hh ∈ ws) (hinit : ∀ a' U, s.WarmedH U.vm → (Cond.initialized y.cls).before a' U = true) :
    vx_Back l R p e below s sargs y len W9 (PreOf R mc ms Pc) (PostOf Qc mc ms free) (vx_Post XC mc ms free) := by
  intro m meth c A g ig mk a X hg hsize hdg hW hn hp
  have h1 : (headSpec ws rm).pre.before a A.U = true := atoms_intro fun w hw => hws w hw _ _ X.warmed
  have h2 : (Cond.codeWith y bytes maxL ret hh).before a A.U = true := hws _ hcode _ _ X.warmed
  have h3 : (Cond.initialized y.cls).before a A.U = true := hinit _ _ X.warmed
  have h4 : A.cells + (headSpec ws rm).room.cells ≤ R.cells := by rw [show (headSpec ws rm).room.cells = mc from hrc]; exact hp.1
  have h5 : A.slots + (headSpec ws rm).room.slots ≤ R.slots := by rw [show (headSpec ws rm).room.slots = ms from hrs]; exact hp.2.1
  have hPc : Pc a (A.U.calling g mk a) := hblind _ _ _ _ hp.2.2
  obtain ⟨U, Ls, c0, s0⟩ := A
  dsimp only [Pt.U, Pt.locs, Pt.cells, Pt.slots] at h1 h2 h3 h4 h5 X hn hPc ⊢
  obtain ⟨m9, methY, cY, hn9, hmY, hcY, -, hlY, -⟩ := Cond.codeWith_spec h2
  cases Option.some.inj (hn9.symm.trans hn)
  obtain ⟨kY, hkY, -⟩ := className_of_methodNamed hn
  have hinitY : kY.init = .initialized := Cond.initialized_spec (findClass_of_methodNamed hn) hkY h3
  have h : At U g.method c below := by rw [hg]; exact X.here
  have hlocals9 : W9 + (maxL + 11) + (headSpec ws rm).room.locals ≤ R.locals := hlocals
  have happ : (headSpec ws rm).appliesLoose y e.platform (U.calling g mk a) = true :=
    Spec.appliesLoose_calling (g := g) h hdg hn hkY hinitY
      (X.room_calling (g := g) (R' := (headSpec ws rm).room) hsize hmY hcY hframes (by rw [hlY]; omega) h4 h5) h1
  obtain ⟨mid, hmid⟩ := h.above
  have hfr : (U.setTop g).frames = (.java g :: mid) ++ below := by rw [State.frames_setTop' g h.top, hmid]; rfl
  obtain ⟨o, s₂, hsteps, -, hend, hq⟩ := Steps.callFree hM p X.admits X.cas X.clock (acts := []) hfr happ hPc trivial
  have hq' : vx_Q Qc XC mc ms free a (U.calling g mk a) o s₂ := hq
  rw [State.frames_setTop' g h.top] at hend
  obtain ⟨g₀, hg0⟩ := Option.isSome_iff_exists.mp h.top
  obtain ⟨r, hr⟩ := State.topJava?_eq_some.mp hg0
  have hr' : (({ U with heap := s₂.heap, slotsUsed := s₂.slotsUsed } : State).setVm s₂.vm).frames = .java g₀ :: r := hr
  rcases hq' with ⟨hqc, L, hfe, hL⟩ | ⟨q, rfl, E, ce, L, hx, hce, hcv, hcl, hW₂, hsm, hL⟩
  · obtain ⟨⟨v, rfl⟩, hW₂, e2, q2, q3, q4, q5, q6⟩ := id hfe
    have e3 : s₂ = ({ (U.calling g mk a).setFrames s₂.frames with heap := s₂.heap, slotsUsed := s₂.slotsUsed } : State).setVm s₂.vm := by
      have : s₂ = ({ s₂ with vm := (U.calling g mk a).vm } : State).setVm s₂.vm := rfl
      rw [e2] at this
      exact this
    obtain ⟨c₂, i₂, len₂, hc₂, hd₂, hf₂⟩ := hend
    have hW' : U.WarmedH s₂.vm := hW₂
    have hcc : c₂ = c := by
      have h1 : s₂.code? g.method = U.code? g.method := by
        rw [State.code?_eq, State.code?_eq, hW'.alike.method?]
      exact Option.some.inj (hc₂.symm.trans (h1.trans h.code))
    subst hcc
    have hlen : len₂ = len := by rw [hdg] at hd₂; cases hd₂; rfl
    subst hlen
    have hs₂ : s₂ = (({ U with heap := s₂.heap, slotsUsed := s₂.slotsUsed } : State).setVm s₂.vm).setTop { g with pc := g.pc + len₂, stack := v.toList ++ g.stack } := by
      refine e3.trans ?_
      rw [hf₂, State.calling_eq h.top, State.setFrames_setFrames, State.setTop_of_frames _ hr', hr]
      rfl
    have hsame : U.sameButNew ({ U with heap := s₂.heap, slotsUsed := s₂.slotsUsed } : State) L mc ms := by
      refine ⟨?_, q2, q3, q4, q5, q6⟩
      obtain ⟨t, ht, -⟩ := State.frames_cons hr
      show ({ U with heap := s₂.heap, slotsUsed := s₂.slotsUsed } : State) = { U.setFrames U.frames with heap := s₂.heap, slotsUsed := s₂.slotsUsed }
      rw [State.setFrames_self ht]
    subst hg
    refine Or.inl ⟨v, ⟨(({ U with heap := s₂.heap, slotsUsed := s₂.slotsUsed } : State).setVm s₂.vm), Ls ++ L, c0 + mc, s0 + ms⟩,
      ⟨X.admits, X.cas, X.clock, X.frames, X.room, X.hears, X.method, X.code, (X.here.setHeapUsed s₂.heap s₂.slotsUsed).setVm hW'.alike, X.tail, State.WarmedH.trans X.warmed hW', X.limits, X.bytes, X.same.trans (hsame.setVm s.vm)⟩,
      ⟨g, mk, s₂, L, rfl, rfl, hqc, rfl, hL, rfl, rfl⟩, ?_⟩
    show Steps p.tables e below _ ((({ U with heap := s₂.heap, slotsUsed := s₂.slotsUsed } : State).setVm s₂.vm).setTop { g with pc := g.pc + len₂, stack := v.toList ++ g.stack })
    rw [← hs₂]
    exact hsteps
  · obtain ⟨e2, q2, q3, q4, q5, q6⟩ := id hsm
    have e3 : s₂ = ({ (U.calling g mk a).setFrames s₂.frames with heap := s₂.heap, slotsUsed := s₂.slotsUsed } : State).setVm s₂.vm := by
      have : s₂ = ({ s₂ with vm := (U.calling g mk a).vm } : State).setVm s₂.vm := rfl
      rw [e2] at this
      exact this
    have hf₂ : s₂.frames = .throwing q :: .java g :: U.frames.tail := hend
    have hW' : U.WarmedH s₂.vm := hW₂
    have hs₂ : s₂ = ((({ U with heap := s₂.heap, slotsUsed := s₂.slotsUsed } : State).setVm s₂.vm).setTop g).pushFrame (.throwing q) := by
      refine e3.trans ?_
      rw [hf₂, State.calling_eq h.top, State.setFrames_setFrames, State.pushFrame, State.frames_setTop _ hr', State.setTop_of_frames _ hr', State.setFrames_setFrames, hr]
      rfl
    have hsame : U.sameButNew ({ U with heap := s₂.heap, slotsUsed := s₂.slotsUsed } : State) L mc ms := by
      refine ⟨?_, q2, q3, q4, q5, q6⟩
      obtain ⟨t, ht, -⟩ := State.frames_cons hr
      show ({ U with heap := s₂.heap, slotsUsed := s₂.slotsUsed } : State) = { U.setFrames U.frames with heap := s₂.heap, slotsUsed := s₂.slotsUsed }
      rw [State.setFrames_self ht]
    subst hg
    refine Or.inr ⟨q, ⟨(({ U with heap := s₂.heap, slotsUsed := s₂.slotsUsed } : State).setVm s₂.vm), Ls ++ L, c0 + mc, s0 + ms⟩,
      ⟨X.admits, X.cas, X.clock, X.frames, X.room, X.hears, X.method, X.code, (X.here.setHeapUsed s₂.heap s₂.slotsUsed).setVm hW'.alike, X.tail, State.WarmedH.trans X.warmed hW', X.limits, X.bytes, X.same.trans (hsame.setVm s.vm)⟩,
      ⟨g, mk, s₂, L, E, ce, rfl, rfl, hx, hce, hcv, hcl, rfl, hL, rfl, rfl⟩, ?_⟩
    show Steps p.tables e below _ (((({ U with heap := s₂.heap, slotsUsed := s₂.slotsUsed } : State).setVm s₂.vm).setTop g).pushFrame (.throwing q))
    rw [← hs₂]
    exact hsteps
end
variable {p : Program} {l : Launch} {e : Env} {R : Room} {s : State} {m : MethodId} {args : Array Value} {below : List Frame} {meth : Method} {c : Code} {T : State} {H : Heap} {locs : List Loc} {cells slots : Nat}
theorem vx_callVX (X : Stand p l e R s m args below meth c T locs cells slots) (hexec : p.tables.exec = Jvm.exec) {own C : String} {index : Nat} {y : MethodName} {bytes : ByteArray} {maxL : Nat} {ret : Option FieldType} {hh : List (Nat × Nat × Nat × Nat)}
    (hown : s.vm.findClass own = some m.cls) (hlink : (Cond.methodLink own index y).before args s = true) (hinst : (Cond.instanceMethod y).before args s = true) (hsel : (Cond.selects C y y).before args s = true)
    (hcode : (Cond.codeWith y bytes maxL ret hh).before args s = true) (hy : y.cls ≠ "java/lang/invoke/MethodHandle" ∧ y.cls ≠ "java/lang/invoke/VarHandle")
    {W9 : Nat} {Pre : Pt → Array Value → Prop} {Post : Pt → Array Value → Option Value → Pt → Prop} {PostX : Pt → Array Value → Addr → Pt → Prop} (hK : vx_Back l R p e below s args y 3 W9 Pre Post PostX)
    {b : Addr} {cellB : Cell} (hcell : T.heap[b]? = some cellB) (hobj : cellB.vm.isStatics = false) (hcls : s.vm.findClass C = some cellB.cls)
    {g : JFrame} (hg : g.method = m) (hsize : g.locals.size = c.maxLocals) {argsL rest : List Value} (hlen : ∀ sig, parseMethodDescriptor y.desc = some sig → argsL.length = sig.parameters.length)
    (hstack : g.stack = argsL.reverse ++ .ref b :: rest) (hW : 2 * g.monitorRoom + (rest.map fun v => v.category).sum ≤ W9) (hdg : decode c.code g.pc = .ok (.invokevirtual index, 3))
    (hpre : ∀ vm₁, s.WarmedH vm₁ → Pre ⟨T.setVm vm₁, locs, cells, slots⟩ (Value.ref b :: argsL).toArray) :
    (∃ (v : Option Value) (vm₁ : Vm) (B : Pt), s.WarmedH vm₁ ∧ Stand p l e R s m args below meth c B.U B.locs B.cells B.slots ∧ Post ⟨T.setVm vm₁, locs, cells, slots⟩ (Value.ref b :: argsL).toArray v B ∧
      ∀ target, Steps p.tables e below (B.U.setTop { g with pc := g.pc + 3, stack := v.toList ++ rest }) target → Steps p.tables e below (T.setTop g) target) ∨
    (∃ (q : Addr) (vm₁ : Vm) (B : Pt), s.WarmedH vm₁ ∧ Stand p l e R s m args below meth c B.U B.locs B.cells B.slots ∧ PostX ⟨T.setVm vm₁, locs, cells, slots⟩ (Value.ref b :: argsL).toArray q B ∧
      Steps p.tables e below (T.setTop g) ((B.U.setTop { g with stack := rest }).pushFrame (.throwing q))) := by
  obtain ⟨mk, methM, hnamed, hmethM, hstM, habM⟩ := Cond.instanceMethod_spec hinst
  obtain ⟨m8, methM', cM, hn8, hmethM', -, -, -, -, -, -, hsigM⟩ := Cond.codeWith_spec hcode
  cases Option.some.inj (hn8.symm.trans hnamed)
  cases hmethM.symm.trans hmethM'
  obtain ⟨c2, r2, m2, q1, q2, q3, q4, kP, hkP, hkPi⟩ := Cond.selects_spec hsel
  cases hcls.symm.trans q1
  cases (State.methodFound?_of_named hnamed hy).symm.trans q2
  cases hnamed.symm.trans q3
  have hselP : selectMethod e.platform s.vm cellB.cls mk = .method mk := by rw [Launch.admits_selectMethod X.admits]; exact q4
  obtain ⟨vm₁, X₁, hstep₁⟩ := X.invokevirtual hexec hown hlink hnamed hmethM hstM hkP hkPi hy (a := b) (cell := cellB) hcell
    (fun z h => by rw [h] at hobj; cases hobj) hselP hmethM habM hkP hkPi (g := g) hg (argsL := argsL) (rest := rest) (hlen _ hsigM) hstack hdg
  rcases hK m meth c ⟨T.setVm vm₁, locs, cells, slots⟩ { g with stack := rest } (.invokevirtual index) mk (Value.ref b :: argsL).toArray X₁ hg hsize hdg hW (X₁.named hnamed) (hpre vm₁ X₁.warmed) with ⟨v, B, X', hpost, hsteps⟩ | ⟨q, B, X', hpost, hsteps⟩
  · exact Or.inl ⟨v, vm₁, B, X₁.warmed, X', hpost, fun target h => hstep₁ _ fun acts => by rw [doInvoke_state]; exact hsteps.trans h⟩
  · exact Or.inr ⟨q, vm₁, B, X₁.warmed, X', hpost, hstep₁ _ fun acts => by rw [doInvoke_state]; exact hsteps⟩
theorem vx_callSX (X : Stand p l e R s m args below meth c T locs cells slots) (hexec : p.tables.exec = Jvm.exec) {own : String} {index : Nat} {y : MethodName} {bytes : ByteArray} {maxL : Nat} {ret : Option FieldType} {hh : List (Nat × Nat × Nat × Nat)}
    (hown : s.vm.findClass own = some m.cls) (hlink : (Cond.methodLink own index y).before args s = true) (hstat : (Cond.static y).before args s = true) (hinit : (Cond.initialized y.cls).before args s = true)
    (hcode : (Cond.codeWith y bytes maxL ret hh).before args s = true) (hy : y.cls ≠ "java/lang/invoke/MethodHandle" ∧ y.cls ≠ "java/lang/invoke/VarHandle")
    {W9 : Nat} {Pre : Pt → Array Value → Prop} {Post : Pt → Array Value → Option Value → Pt → Prop} {PostX : Pt → Array Value → Addr → Pt → Prop} (hK : vx_Back l R p e below s args y 3 W9 Pre Post PostX)
    {g : JFrame} (hg : g.method = m) (hsize : g.locals.size = c.maxLocals) {argsL rest : List Value} (hlen : ∀ sig, parseMethodDescriptor y.desc = some sig → argsL.length = sig.parameters.length)
    (hstack : g.stack = argsL.reverse ++ rest) (hW : 2 * g.monitorRoom + (rest.map fun v => v.category).sum ≤ W9) (hdg : decode c.code g.pc = .ok (.invokestatic index, 3))
    (hpre : ∀ vm₁, s.WarmedH vm₁ → Pre ⟨T.setVm vm₁, locs, cells, slots⟩ argsL.toArray) :
    (∃ (v : Option Value) (vm₁ : Vm) (B : Pt), s.WarmedH vm₁ ∧ Stand p l e R s m args below meth c B.U B.locs B.cells B.slots ∧ Post ⟨T.setVm vm₁, locs, cells, slots⟩ argsL.toArray v B ∧
      ∀ target, Steps p.tables e below (B.U.setTop { g with pc := g.pc + 3, stack := v.toList ++ rest }) target → Steps p.tables e below (T.setTop g) target) ∨
    (∃ (q : Addr) (vm₁ : Vm) (B : Pt), s.WarmedH vm₁ ∧ Stand p l e R s m args below meth c B.U B.locs B.cells B.slots ∧ PostX ⟨T.setVm vm₁, locs, cells, slots⟩ argsL.toArray q B ∧
      Steps p.tables e below (T.setTop g) ((B.U.setTop { g with stack := rest }).pushFrame (.throwing q))) := by
  obtain ⟨mk, methM, cM, hnamed, hmethM, -, -, -, -, -, -, hsigM⟩ := Cond.codeWith_spec hcode
  have hstatic : methM.isStatic = true := Cond.static_spec hnamed hmethM hstat
  obtain ⟨kP, hkP, -⟩ := className_of_methodNamed hnamed
  have hinitP : kP.init = .initialized := Cond.initialized_spec (findClass_of_methodNamed hnamed) hkP hinit
  obtain ⟨vm₁, X₁, hstep₁⟩ := X.invokestatic hexec hown hlink hnamed hmethM hstatic hkP hinitP hy (g := g) hg (argsL := argsL) (rest := rest) (hlen _ hsigM) hstack hdg
  rcases hK m meth c ⟨T.setVm vm₁, locs, cells, slots⟩ { g with stack := rest } (.invokestatic index) mk argsL.toArray X₁ hg hsize hdg hW (X₁.named hnamed) (hpre vm₁ X₁.warmed) with ⟨v, B, X', hpost, hsteps⟩ | ⟨q, B, X', hpost, hsteps⟩
  · exact Or.inl ⟨v, vm₁, B, X₁.warmed, X', hpost, fun target h => hstep₁ _ fun acts => by rw [doInvoke_state]; exact hsteps.trans h⟩
  · exact Or.inr ⟨q, vm₁, B, X₁.warmed, X', hpost, hstep₁ _ fun acts => by rw [doInvoke_state]; exact hsteps⟩
theorem vx_callVW (X : Stand p l e R s m args below meth c T locs cells slots) (hexec : p.tables.exec = Jvm.exec) {own C : String} {index : Nat} {y : MethodName} {bytes : ByteArray} {maxL : Nat} {ret : Option FieldType} {hh : List (Nat × Nat × Nat × Nat)}
    (hown : s.vm.findClass own = some m.cls) (hlink : (Cond.methodLink own index y).before args s = true) (hinst : (Cond.instanceMethod y).before args s = true) (hsel : (Cond.selects C y y).before args s = true)
    (hcode : (Cond.codeWith y bytes maxL ret hh).before args s = true) (hy : y.cls ≠ "java/lang/invoke/MethodHandle" ∧ y.cls ≠ "java/lang/invoke/VarHandle")
    {W9 : Nat} {Pre : Pt → Array Value → Prop} {Post : Pt → Array Value → Option Value → Pt → Prop} (hK : Back l R p e below s args y 3 W9 Pre Post)
    {b : Addr} {cellB : Cell} (hcell : T.heap[b]? = some cellB) (hobj : cellB.vm.isStatics = false) (hcls : s.vm.findClass C = some cellB.cls)
    {g : JFrame} (hg : g.method = m) (hsize : g.locals.size = c.maxLocals) {argsL rest : List Value} (hlen : ∀ sig, parseMethodDescriptor y.desc = some sig → argsL.length = sig.parameters.length)
    (hstack : g.stack = argsL.reverse ++ .ref b :: rest) (hW : 2 * g.monitorRoom + (rest.map fun v => v.category).sum ≤ W9) (hdg : decode c.code g.pc = .ok (.invokevirtual index, 3))
    (hpre : ∀ vm₁, s.WarmedH vm₁ → Pre ⟨T.setVm vm₁, locs, cells, slots⟩ (Value.ref b :: argsL).toArray) :
    ∃ (v : Option Value) (vm₁ : Vm) (B : Pt), s.WarmedH vm₁ ∧ Stand p l e R s m args below meth c B.U B.locs B.cells B.slots ∧ Post ⟨T.setVm vm₁, locs, cells, slots⟩ (Value.ref b :: argsL).toArray v B ∧
      ∀ target, Steps p.tables e below (B.U.setTop { g with pc := g.pc + 3, stack := v.toList ++ rest }) target → Steps p.tables e below (T.setTop g) target := by
  obtain ⟨mk, methM, hnamed, hmethM, hstM, habM⟩ := Cond.instanceMethod_spec hinst
  obtain ⟨m8, methM', cM, hn8, hmethM', -, -, -, -, -, -, hsigM⟩ := Cond.codeWith_spec hcode
  cases Option.some.inj (hn8.symm.trans hnamed)
  cases hmethM.symm.trans hmethM'
  obtain ⟨c2, r2, m2, q1, q2, q3, q4, kP, hkP, hkPi⟩ := Cond.selects_spec hsel
  cases hcls.symm.trans q1
  cases (State.methodFound?_of_named hnamed hy).symm.trans q2
  cases hnamed.symm.trans q3
  have hselP : selectMethod e.platform s.vm cellB.cls mk = .method mk := by rw [Launch.admits_selectMethod X.admits]; exact q4
  obtain ⟨vm₁, X₁, hstep₁⟩ := X.invokevirtual hexec hown hlink hnamed hmethM hstM hkP hkPi hy (a := b) (cell := cellB) hcell
    (fun z h => by rw [h] at hobj; cases hobj) hselP hmethM habM hkP hkPi (g := g) hg (argsL := argsL) (rest := rest) (hlen _ hsigM) hstack hdg
  obtain ⟨v, B, X', hpost, hsteps⟩ := hK m meth c ⟨T.setVm vm₁, locs, cells, slots⟩ { g with stack := rest } (.invokevirtual index) mk (Value.ref b :: argsL).toArray X₁ hg hsize hdg hW (X₁.named hnamed) (hpre vm₁ X₁.warmed)
  exact ⟨v, vm₁, B, X₁.warmed, X', hpost, fun target h => hstep₁ _ fun acts => by rw [doInvoke_state]; exact hsteps.trans h⟩
abbrev vx_CVW (R : Room) (s : State) (args : Array Value) (own C : String) (index : Nat) (y : MethodName) (bytes : ByteArray) (maxL : Nat) (ret : Option FieldType) (hh : List (Nat × Nat × Nat × Nat)) (ws : List Cond) (rm : Room) (mc ms n : Nat) : Prop :=
  (rm.cells = mc ∧ rm.slots = ms ∧ rm.frames + 1 ≤ R.frames ∧ 8 + (maxL + 11) + rm.locals ≤ R.locals ∧ (∀ w ∈ ws, ∀ (a' : Array Value) (U : State), s.WarmedH U.vm → w.before a' U = true) ∧ Cond.codeWith y bytes maxL ret hh ∈ ws) ∧
  (Cond.codeWith y bytes maxL ret hh).before args s = true ∧ (Cond.initialized y.cls).before args s = true ∧ (y.cls ≠ "java/lang/invoke/MethodHandle" ∧ y.cls ≠ "java/lang/invoke/VarHandle") ∧
  (∀ sig, parseMethodDescriptor y.desc = some sig → n = sig.parameters.length) ∧ (Cond.methodLink own index y).before args s = true ∧ (Cond.instanceMethod y).before args s = true ∧ (Cond.selects C y y).before args s = true
theorem vx_cwVW {own C : String} {index maxL mc ms : Nat} {y : MethodName} {bytes : ByteArray} {ret : Option FieldType} {hh : List (Nat × Nat × Nat × Nat)} {Ts ws ws' : List Cond} {rm : Room} (n : Nat) (ht : ∀ w ∈ Ts, w.before args s = true) (hT : GoodIn Ts (wsV own index C y ws)) (hw : ws = Cond.codeWith y bytes maxL ret hh :: ws') (hrc : rm.cells = mc) (hrs : rm.slots = ms)
    (hd : y.cls = C ∧ y.cls ≠ "java/lang/invoke/MethodHandle" ∧ y.cls ≠ "java/lang/invoke/VarHandle" ∧ (parseMethodDescriptor y.desc).map (fun d => d.parameters.length) = some n) (hR : rm.frames + 1 ≤ R.frames ∧ 8 + (maxL + 11) + rm.locals ≤ R.locals) :
    vx_CVW R s args own C index y bytes maxL ret hh ws rm mc ms n := by
  obtain ⟨hC, hd⟩ := hd
  subst hC
  have ok : ∀ w ∈ wsV own index y.cls y ws, w.before args s = true := fun w h => ht w (hT w h).1
  have hG : GoodIn Ts ws := fun w h => hT w (by unfold wsV; exact List.mem_append_right _ h)
  have hc : Cond.codeWith y bytes maxL ret hh ∈ ws := by rw [hw]; exact List.mem_cons_self
  refine ⟨⟨hrc, hrs, hR.1, hR.2, pay_in ht hG, hc⟩, ht _ (hG _ hc).1, ok _ (by simp [wsV]), ⟨hd.1, hd.2.1⟩, fun sig h => ?_, ok _ (by simp [wsV]), ok _ (by simp [wsV]), ok _ (by simp [wsV])⟩
  have h2 := hd.2.2
  rw [h] at h2
  exact (Option.some.inj h2).symm
theorem vx_runVW {y : MethodName} {bytes cc : ByteArray} {maxL nL mc ms n index : Nat} {ret : Option FieldType} {hh : List (Nat × Nat × Nat × Nat)} {ws : List Cond} {rm : Room} {Pc : Array Value → State → Prop} {Qc : Array Value → State → Outcome → State → Prop} {free : Addr → Prop} {Ts : List Cond} {own C : String} {b : Addr} {As rest : List Value} {g : JFrame}
    (S : CallFix p m c cc nL s args Ts own) (hM : Met l y ws rm Pc Qc mc ms free) (cw : vx_CVW R s args own C index y bytes maxL ret hh ws rm mc ms n) (hp : PreV s H C b Pc As)
    (hg : g.method = m) (hn : As.length = n) (hsize : g.locals.size = nL) (hstack : g.stack = As.reverse ++ .ref b :: rest) (hW : 2 * g.monitorRoom + (rest.map fun v => v.category).sum ≤ 8) (hdg : decode cc g.pc = .ok (.invokevirtual index, 3)) (hf : cells + mc ≤ R.cells ∧ slots + ms ≤ R.slots) :
    va_Run p l e R s m args below meth c H locs cells slots mc ms g rest (Qc (Value.ref b :: As).toArray) free := by
  obtain ⟨⟨hrc, hrs, hfr, hlo, hws, hcw⟩, hcode, hini, hy, hlen, hl, hin, hse⟩ := cw
  have hK : Back l R p e below s args y 3 8 (PreOf R mc ms Pc) (PostOf Qc mc ms free) := va_backW (hh := hh) (bytes := bytes) (maxL := maxL) (ret := ret) hM hp.1 hrc hrs hfr hlo hws hcw (fun a' U hW => word_at hW (Or.inl (by first | rfl | simp [Cond.onTables, Cond.keeps, Cond.steady])) hini)
  obtain ⟨hx, hb, hml, ho, -⟩ := S
  obtain ⟨-, ⟨cellB, hcB, hoB, hclB⟩, hPc⟩ := hp
  intro T hT X
  obtain ⟨v, vm₁, ⟨U', l2, c2, s2⟩, hW₁, X', ⟨g', mk, t, L, e1, e2, hq, h1, hL, h2, h3⟩, st⟩ := vx_callVW X hx (C := C) (hh := hh) (bytes := bytes) (maxL := maxL) (ret := ret) ho hl hin hse hcode hy hK (by rw [hT]; exact hcB) hoB hclB hg (hsize.trans hml.symm) (argsL := As) (rest := rest) (fun sig h => hn.trans (hlen sig h)) hstack hW (by rw [hb]; exact hdg)
    (fun vm₁ hW₁ => ⟨hf.1, hf.2, hPc (T.setVm vm₁) hT hW₁⟩)
  dsimp only [Pt.U, Pt.locs, Pt.cells, Pt.slots] at X' e1 e2 h1 h2 h3 st
  subst h1; subst h2; subst h3
  exact ⟨v, (T.setVm vm₁).calling g' mk (Value.ref b :: As).toArray, t, U', L, hT, X', hL, e1, e2, hq, st⟩
section
variable {y : MethodName} {bytes cc : ByteArray} {maxL nL mc ms n index : Nat} {ret : Option FieldType} {ws : List Cond} {rm : Room} {Pc : Array Value → State → Prop} {Qc : Array Value → State → Outcome → State → Prop} {XC : String → State → State → Prop} {free : Addr → Prop} {Ts : List Cond} {own C : String} {b : Addr} {As rest : List Value} {g : JFrame}
theorem vx_runVX {hh : List (Nat × Nat × Nat × Nat)} (S : CallFix p m c cc nL s args Ts own) (hM : vx_Met l y ws rm Pc Qc XC mc ms free) (cw : vx_CVW R s args own C index y bytes maxL ret hh ws rm mc ms n) (hp : PreV s H C b Pc As)
    (hg : g.method = m) (hn : As.length = n) (hsize : g.locals.size = nL) (hstack : g.stack = As.reverse ++ .ref b :: rest) (hW : 2 * g.monitorRoom + (rest.map fun v => v.category).sum ≤ 8) (hdg : decode cc g.pc = .ok (.invokevirtual index, 3)) (hf : cells + mc ≤ R.cells ∧ slots + ms ≤ R.slots) :
    vx_Run p l e R s m args below meth c H locs cells slots mc ms g rest (Qc (Value.ref b :: As).toArray) XC free := by
  obtain ⟨⟨hrc, hrs, hfr, hlo, hws, hcw⟩, hcode, hini, hy, hlen, hl, hin, hse⟩ := cw
  have hK : vx_Back l R p e below s args y 3 8 (PreOf R mc ms Pc) (PostOf Qc mc ms free) (vx_Post XC mc ms free) := vx_backW (hh := hh) (bytes := bytes) (maxL := maxL) (ret := ret) hM hp.1 hrc hrs hfr hlo hws hcw (fun a' U hW => word_at hW (Or.inl (by first | rfl | simp [Cond.onTables, Cond.keeps, Cond.steady])) hini)
  obtain ⟨hx, hb, hml, ho, -⟩ := S
  obtain ⟨-, ⟨cellB, hcB, hoB, hclB⟩, hPc⟩ := hp
  intro T hT X
  rcases vx_callVX X hx (C := C) (hh := hh) (bytes := bytes) (maxL := maxL) (ret := ret) ho hl hin hse hcode hy hK (by rw [hT]; exact hcB) hoB hclB hg (hsize.trans hml.symm) (argsL := As) (rest := rest) (fun sig h => hn.trans (hlen sig h)) hstack hW (by rw [hb]; exact hdg)
    (fun vm₁ hW₁ => ⟨hf.1, hf.2, hPc (T.setVm vm₁) hT hW₁⟩) with ⟨v, vm₁, ⟨U', l2, c2, s2⟩, hW₁, X', ⟨g', mk, t, L, e1, e2, hq, h1, hL, h2, h3⟩, st⟩ | ⟨q, vm₁, ⟨U', l2, c2, s2⟩, hW₁, X', ⟨g', mk, t, L, E, ce, e1, e2, hq, hce, hcv, hcl, h1, hL, h2, h3⟩, st⟩
  · dsimp only [Pt.U, Pt.locs, Pt.cells, Pt.slots] at X' e1 e2 h1 h2 h3 st
    subst h1; subst h2; subst h3
    exact Or.inl ⟨v, (T.setVm vm₁).calling g' mk (Value.ref b :: As).toArray, t, U', L, hT, X', hL, e1, e2, hq, st⟩
  · dsimp only [Pt.U, Pt.locs, Pt.cells, Pt.slots] at X' e1 e2 h1 h2 h3 st hcl
    subst h1; subst h2; subst h3
    exact Or.inr ⟨q, (T.setVm vm₁).calling g' mk (Value.ref b :: As).toArray, t, U', L, E, ce, hT, X', hL, e1, e2, hq, hce, hcv, vx_cls hW₁ hcl, st⟩
theorem vx_runSX {hh : List (Nat × Nat × Nat × Nat)} (S : CallFix p m c cc nL s args Ts own) (hM : vx_Met l y ws rm Pc Qc XC mc ms free) (cw : vx_CSW R s args own index y bytes maxL ret hh ws rm mc ms n) (hp : PreS s H Pc As)
    (hg : g.method = m) (hn : As.length = n) (hsize : g.locals.size = nL) (hstack : g.stack = As.reverse ++ rest) (hW : 2 * g.monitorRoom + (rest.map fun v => v.category).sum ≤ 8) (hdg : decode cc g.pc = .ok (.invokestatic index, 3)) (hf : cells + mc ≤ R.cells ∧ slots + ms ≤ R.slots) :
    vx_Run p l e R s m args below meth c H locs cells slots mc ms g rest (Qc As.toArray) XC free := by
  obtain ⟨⟨hrc, hrs, hfr, hlo, hws, hcw⟩, hcode, hini, hy, hlen, hl, hstt⟩ := cw
  have hK : vx_Back l R p e below s args y 3 8 (PreOf R mc ms Pc) (PostOf Qc mc ms free) (vx_Post XC mc ms free) := vx_backW (hh := hh) (bytes := bytes) (maxL := maxL) (ret := ret) hM hp.1 hrc hrs hfr hlo hws hcw (fun a' U hW => word_at hW (Or.inl (by first | rfl | simp [Cond.onTables, Cond.keeps, Cond.steady])) hini)
  obtain ⟨hx, hb, hml, ho, -⟩ := S
  intro T hT X
  rcases vx_callSX X hx (hh := hh) (bytes := bytes) (maxL := maxL) (ret := ret) ho hl hstt hini hcode hy hK hg (hsize.trans hml.symm) (argsL := As) (rest := rest) (fun sig h => hn.trans (hlen sig h)) hstack hW (by rw [hb]; exact hdg)
    (fun vm₁ hW₁ => ⟨hf.1, hf.2, hp.2 (T.setVm vm₁) hT hW₁⟩) with ⟨v, vm₁, ⟨U', l2, c2, s2⟩, hW₁, X', ⟨g', mk, t, L, e1, e2, hq, h1, hL, h2, h3⟩, st⟩ | ⟨q, vm₁, ⟨U', l2, c2, s2⟩, hW₁, X', ⟨g', mk, t, L, E, ce, e1, e2, hq, hce, hcv, hcl, h1, hL, h2, h3⟩, st⟩
  · dsimp only [Pt.U, Pt.locs, Pt.cells, Pt.slots] at X' e1 e2 h1 h2 h3 st
    subst h1; subst h2; subst h3
    exact Or.inl ⟨v, (T.setVm vm₁).calling g' mk As.toArray, t, U', L, hT, X', hL, e1, e2, hq, st⟩
  · dsimp only [Pt.U, Pt.locs, Pt.cells, Pt.slots] at X' e1 e2 h1 h2 h3 st hcl
    subst h1; subst h2; subst h3
    exact Or.inr ⟨q, (T.setVm vm₁).calling g' mk As.toArray, t, U', L, E, ce, hT, X', hL, e1, e2, hq, hce, hcv, vx_cls hW₁ hcl, st⟩
end
end VXH
theorem vx_ofWH {l : Launch} {y : MethodName} {ws ws' : List Cond} {rm : Room} {Pc : Array Value → State → Prop} {Qc : Array Value → State → Outcome → State → Prop} {XC : String → State → State → Prop} {mc ms : Nat} {free : Addr → Prop} {cc : ByteArray} {maxL : Nat} {ret : Option FieldType} {hh : List (Nat × Nat × Nat × Nat)}
    (hy : plainName y.cls = true) (hw : ws = Cond.codeWith y cc maxL ret hh :: ws')
    (body : ∀ p e s m args below meth c s₁, BodyLoose p l y (headSpec ws rm) cc maxL ret e s m args below meth c s₁ → c.maxLocals = maxL → Pc args s →
      W p l e (headSpec ws rm).room s m args below meth c s.heap [] 0 0 (vx_MQ below Qc XC args s mc ms free) (entryFrame m args maxL)) : vx_Met l y ws rm Pc Qc XC mc ms free := by
  refine MetFree.of_bodyS (code := cc) (maxLocals := maxL) (ret := ret) hy ?_ ?_
  · intro args s m h hn
    obtain ⟨m9, meth, c, hn9, h1, h2, h3, h4, -, h5, h6, -⟩ := Cond.codeWith_spec (atoms_spec (ws := ws) h _ (by rw [hw]; exact List.mem_cons_self))
    cases hn.symm.trans hn9
    exact ⟨meth, c, h1, h2, h3, h4, h5, h6⟩
  · intro p e s m args below meth c s₁ B hml hP _
    have hh0 : s₁.heap = s.heap := by rw [B.state]; rfl
    obtain ⟨t, a1, o, b1, b2, b3⟩ := body p e s m args below meth c s₁ B hml hP s₁ hh0 (Stand.of_body B)
    exact ⟨t, o, a1, b1, b2, b3⟩
/-! ===== END ===== -/
end
section
/-! printed names, part 02.names -/
def RX0 : String := "SkewFind$Picture"
def TX0 : u_T := fun k => match k with
  | 0 => ("SkewFind$Picture", "width", "I", true)
  | 1 => ("SkewFind$Picture", "height", "I", true)
  | 2 => ("SkewFind$Picture", "middleX", "D", true)
  | 3 => ("SkewFind$Picture", "middleY", "D", true)
  | 4 => ("SkewFind$Picture", "bits", "[I", true)
  | _ => ("SkewFind$Picture", "oldBits", "[I", true)
def tyX0 : Nat → FieldType := fun k => match k with
  | 0 => .int
  | 1 => .int
  | 2 => .double
  | 3 => .double
  | 4 => .array .int
  | _ => .array .int
abbrev wsX00 : List Cond := u_ws RX0 TX0 6
theorem nmX0 : ∀ a, a < 6 → ∀ b, b < 6 → a ≠ b → (TX0 a).2.1 ≠ (TX0 b).2.1 := by decide +kernel
theorem tyX0_ok : ∀ k, k < 6 → parseFieldDescriptor (TX0 k).2.2.1 = some (tyX0 k) := by decide +kernel
abbrev cX0_init : ByteArray := prog_2_method_1_code
def yX0_init : MethodName := ⟨RX0, "<init>", "(II)V"⟩
abbrev cX0_has : ByteArray := prog_2_method_2_code
def yX0_has : MethodName := ⟨RX0, "has", "(II)Z"⟩
abbrev cX0_isOn : ByteArray := prog_2_method_3_code
def yX0_isOn : MethodName := ⟨RX0, "isOn", "(II)Z"⟩
abbrev cX0_rowBits : ByteArray := prog_2_method_4_code
def yX0_rowBits : MethodName := ⟨RX0, "rowBits", "(I)I"⟩
abbrev cX0_setRowBits : ByteArray := prog_2_method_5_code
def yX0_setRowBits : MethodName := ⟨RX0, "setRowBits", "(II)V"⟩
abbrev cX0_oldRowBits : ByteArray := prog_2_method_6_code
def yX0_oldRowBits : MethodName := ⟨RX0, "oldRowBits", "(I)I"⟩
abbrev cX0_fill : ByteArray := prog_2_method_7_code
def yX0_fill : MethodName := ⟨RX0, "fill", "(IIIZ)I"⟩
abbrev cX0_wipe : ByteArray := prog_2_method_8_code
def yX0_wipe : MethodName := ⟨RX0, "wipe", "()V"⟩
abbrev cX0_samplesOn : ByteArray := prog_2_method_9_code
def yX0_samplesOn : MethodName := ⟨RX0, "samplesOn", "()I"⟩
abbrev cX0_runEndBits : ByteArray := prog_2_method_10_code
def yX0_runEndBits : MethodName := ⟨RX0, "runEndBits", "(I)I"⟩
abbrev cX0_runEnds : ByteArray := prog_2_method_11_code
def yX0_runEnds : MethodName := ⟨RX0, "runEnds", "()I"⟩
abbrev cX0_turnByShears : ByteArray := prog_2_method_12_code
def yX0_turnByShears : MethodName := ⟨RX0, "turnByShears", "(I)V"⟩
abbrev cX0_turnBackByShears : ByteArray := prog_2_method_13_code
def yX0_turnBackByShears : MethodName := ⟨RX0, "turnBackByShears", "(I)V"⟩
abbrev cX0_shearAll : ByteArray := prog_2_method_14_code
def yX0_shearAll : MethodName := ⟨RX0, "shearAll", "(II)V"⟩
abbrev cX0_shearRows : ByteArray := prog_2_method_15_code
def yX0_shearRows : MethodName := ⟨RX0, "shearRows", "(DI)V"⟩
abbrev cX0_movedRight : ByteArray := prog_2_method_16_code
def yX0_movedRight : MethodName := ⟨RX0, "movedRight", "(II)I"⟩
abbrev cX0_shearColumns : ByteArray := prog_2_method_17_code
def yX0_shearColumns : MethodName := ⟨RX0, "shearColumns", "(DI)V"⟩
abbrev cX0_turnBySampling : ByteArray := prog_2_method_18_code
def yX0_turnBySampling : MethodName := ⟨RX0, "turnBySampling", "(I)V"⟩
abbrev cX0_sampledRow : ByteArray := prog_2_method_19_code
def yX0_sampledRow : MethodName := ⟨RX0, "sampledRow", "(IDD)I"⟩
abbrev cX0_keepOldBits : ByteArray := prog_2_method_20_code
def yX0_keepOldBits : MethodName := ⟨RX0, "keepOldBits", "()V"⟩
abbrev cX0_bitsOf : ByteArray := prog_2_method_21_code
def yX0_bitsOf : MethodName := ⟨RX0, "bitsOf", "(I)I"⟩
def RX1 : String := "SkewFind$Reckon"
def TX1 : u_T := fun k => match k with
  | _ => ("", "", "", false)
def tyX1 : Nat → FieldType := fun k => match k with
  | _ => .int
abbrev wsX10 : List Cond := u_ws RX1 TX1 0
theorem nmX1 : ∀ a, a < 0 → ∀ b, b < 0 → a ≠ b → (TX1 a).2.1 ≠ (TX1 b).2.1 := by decide +kernel
theorem tyX1_ok : ∀ k, k < 0 → parseFieldDescriptor (TX1 k).2.2.1 = some (tyX1 k) := by decide +kernel
abbrev cX1_radians : ByteArray := prog_3_method_2_code
def yX1_radians : MethodName := ⟨RX1, "radians", "(D)D"⟩
abbrev cX1_slope : ByteArray := prog_3_method_3_code
def yX1_slope : MethodName := ⟨RX1, "slope", "(D)D"⟩
abbrev cX1_sine : ByteArray := prog_3_method_4_code
def yX1_sine : MethodName := ⟨RX1, "sine", "(D)D"⟩
abbrev cX1_cosine : ByteArray := prog_3_method_5_code
def yX1_cosine : MethodName := ⟨RX1, "cosine", "(D)D"⟩
abbrev cX1_whole : ByteArray := prog_3_method_6_code
def yX1_whole : MethodName := ⟨RX1, "whole", "(D)I"⟩
abbrev cX1_wrapped : ByteArray := prog_3_method_7_code
def yX1_wrapped : MethodName := ⟨RX1, "wrapped", "(II)I"⟩
def RX2 : String := "SkewFind$Rows"
def TX2 : u_T := fun k => match k with
  | _ => ("SkewFind$Rows", "picture", "LSkewFind$Picture;", true)
def tyX2 : Nat → FieldType := fun k => match k with
  | _ => .object "SkewFind$Picture"
abbrev wsX20 : List Cond := u_ws RX2 TX2 1
theorem nmX2 : ∀ a, a < 1 → ∀ b, b < 1 → a ≠ b → (TX2 a).2.1 ≠ (TX2 b).2.1 := by decide +kernel
theorem tyX2_ok : ∀ k, k < 1 → parseFieldDescriptor (TX2 k).2.2.1 = some (tyX2 k) := by decide +kernel
abbrev cX2_init : ByteArray := prog_4_method_1_code
def yX2_init : MethodName := ⟨RX2, "<init>", "(LSkewFind$Picture;)V"⟩
abbrev cX2_beginsBand : ByteArray := prog_4_method_2_code
def yX2_beginsBand : MethodName := ⟨RX2, "beginsBand", "(I)Z"⟩
abbrev cX2_bandCount : ByteArray := prog_4_method_3_code
def yX2_bandCount : MethodName := ⟨RX2, "bandCount", "()I"⟩
abbrev cX2_firstOfBand : ByteArray := prog_4_method_4_code
def yX2_firstOfBand : MethodName := ⟨RX2, "firstOfBand", "(I)I"⟩
abbrev cX2_behindBand : ByteArray := prog_4_method_5_code
def yX2_behindBand : MethodName := ⟨RX2, "behindBand", "(I)I"⟩
abbrev cX2_samplesBetween : ByteArray := prog_4_method_6_code
def yX2_samplesBetween : MethodName := ⟨RX2, "samplesBetween", "(II)I"⟩
abbrev cX2_lowerMinusUpper : ByteArray := prog_4_method_7_code
def yX2_lowerMinusUpper : MethodName := ⟨RX2, "lowerMinusUpper", "()I"⟩
abbrev cX2_baseLineAt : ByteArray := prog_4_method_8_code
def yX2_baseLineAt : MethodName := ⟨RX2, "baseLineAt", "(ID)D"⟩
abbrev cX2_lowestOn : ByteArray := prog_4_method_9_code
def yX2_lowestOn : MethodName := ⟨RX2, "lowestOn", "(III)I"⟩
def RX3 : String := "SkewFind$Search"
def TX3 : u_T := fun k => match k with
  | 0 => ("SkewFind$Search", "picture", "LSkewFind$Picture;", true)
  | 1 => ("SkewFind$Search", "endsOnLine", "[I", true)
  | 2 => ("SkewFind$Search", "asked", "Z", false)
  | 3 => ("SkewFind$Search", "sureOfBest", "Z", false)
  | 4 => ("SkewFind$Search", "gridMean", "D", false)
  | 5 => ("SkewFind$Search", "best", "I", false)
  | _ => ("SkewFind$Search", "bestSum", "D", false)
def tyX3 : Nat → FieldType := fun k => match k with
  | 0 => .object "SkewFind$Picture"
  | 1 => .array .int
  | 2 => .boolean
  | 3 => .boolean
  | 4 => .double
  | 5 => .int
  | _ => .double
abbrev wsX30 : List Cond := u_ws RX3 TX3 7
theorem nmX3 : ∀ a, a < 7 → ∀ b, b < 7 → a ≠ b → (TX3 a).2.1 ≠ (TX3 b).2.1 := by decide +kernel
theorem tyX3_ok : ∀ k, k < 7 → parseFieldDescriptor (TX3 k).2.2.1 = some (tyX3 k) := by decide +kernel
abbrev cX3_init : ByteArray := prog_5_method_1_code
def yX3_init : MethodName := ⟨RX3, "<init>", "(LSkewFind$Picture;)V"⟩
abbrev cX3_forget : ByteArray := prog_5_method_2_code
def yX3_forget : MethodName := ⟨RX3, "forget", "()V"⟩
abbrev cX3_isAsked : ByteArray := prog_5_method_3_code
def yX3_isAsked : MethodName := ⟨RX3, "isAsked", "()Z"⟩
abbrev cX3_isSure : ByteArray := prog_5_method_4_code
def yX3_isSure : MethodName := ⟨RX3, "isSure", "()Z"⟩
abbrev cX3_meanOfGrid : ByteArray := prog_5_method_5_code
def yX3_meanOfGrid : MethodName := ⟨RX3, "meanOfGrid", "()D"⟩
abbrev cX3_find : ByteArray := prog_5_method_6_code
def yX3_find : MethodName := ⟨RX3, "find", "(I)I"⟩
abbrev cX3_tryGrid : ByteArray := prog_5_method_7_code
def yX3_tryGrid : MethodName := ⟨RX3, "tryGrid", "(I)V"⟩
abbrev cX3_tryBeside : ByteArray := prog_5_method_8_code
def yX3_tryBeside : MethodName := ⟨RX3, "tryBeside", "(II)V"⟩
abbrev cX3_take : ByteArray := prog_5_method_9_code
def yX3_take : MethodName := ⟨RX3, "take", "(ID)V"⟩
abbrev cX3_sumAt : ByteArray := prog_5_method_10_code
def yX3_sumAt : MethodName := ⟨RX3, "sumAt", "(I)D"⟩
abbrev cX3_countEnds : ByteArray := prog_5_method_11_code
def yX3_countEnds : MethodName := ⟨RX3, "countEnds", "(D)V"⟩
abbrev cX3_countOnLine : ByteArray := prog_5_method_12_code
def yX3_countOnLine : MethodName := ⟨RX3, "countOnLine", "(I)V"⟩
abbrev cX3_squaresOfCounts : ByteArray := prog_5_method_13_code
def yX3_squaresOfCounts : MethodName := ⟨RX3, "squaresOfCounts", "()I"⟩
def RX4 : String := "SkewFind$Window"
def TX4 : u_T := fun k => match k with
  | 0 => ("SkewFind$Window", "picture", "LSkewFind$Picture;", true)
  | 1 => ("SkewFind$Window", "left", "I", false)
  | 2 => ("SkewFind$Window", "upper", "I", false)
  | 3 => ("SkewFind$Window", "right", "I", false)
  | _ => ("SkewFind$Window", "lower", "I", false)
def tyX4 : Nat → FieldType := fun k => match k with
  | 0 => .object "SkewFind$Picture"
  | 1 => .int
  | 2 => .int
  | 3 => .int
  | _ => .int
abbrev wsX40 : List Cond := u_ws RX4 TX4 5
theorem nmX4 : ∀ a, a < 5 → ∀ b, b < 5 → a ≠ b → (TX4 a).2.1 ≠ (TX4 b).2.1 := by decide +kernel
theorem tyX4_ok : ∀ k, k < 5 → parseFieldDescriptor (TX4 k).2.2.1 = some (tyX4 k) := by decide +kernel
abbrev cX4_init : ByteArray := prog_6_method_1_code
def yX4_init : MethodName := ⟨RX4, "<init>", "(LSkewFind$Picture;)V"⟩
abbrev cX4_open : ByteArray := prog_6_method_2_code
def yX4_open : MethodName := ⟨RX4, "open", "()V"⟩
abbrev cX4_end : ByteArray := prog_6_method_3_code
def yX4_end : MethodName := ⟨RX4, "end", "(I)I"⟩
abbrev cX4_cropAt : ByteArray := prog_6_method_4_code
def yX4_cropAt : MethodName := ⟨RX4, "cropAt", "(I)I"⟩
abbrev cX4_cropLeft : ByteArray := prog_6_method_5_code
def yX4_cropLeft : MethodName := ⟨RX4, "cropLeft", "()V"⟩
abbrev cX4_cropUpper : ByteArray := prog_6_method_6_code
def yX4_cropUpper : MethodName := ⟨RX4, "cropUpper", "()V"⟩
abbrev cX4_cropRight : ByteArray := prog_6_method_7_code
def yX4_cropRight : MethodName := ⟨RX4, "cropRight", "()V"⟩
abbrev cX4_cropLower : ByteArray := prog_6_method_8_code
def yX4_cropLower : MethodName := ⟨RX4, "cropLower", "()V"⟩
abbrev cX4_columnIsEmpty : ByteArray := prog_6_method_9_code
def yX4_columnIsEmpty : MethodName := ⟨RX4, "columnIsEmpty", "(I)Z"⟩
def RX5 : String := "SkewFind"
def TX5 : u_T := fun k => match k with
  | 0 => ("SkewFind", "picture", "LSkewFind$Picture;", true)
  | 1 => ("SkewFind", "window", "LSkewFind$Window;", true)
  | 2 => ("SkewFind", "search", "LSkewFind$Search;", true)
  | 3 => ("SkewFind", "rows", "LSkewFind$Rows;", true)
  | 4 => ("SkewFind", "turns", "[I", true)
  | _ => ("SkewFind", "turnCount", "I", false)
def tyX5 : Nat → FieldType := fun k => match k with
  | 0 => .object "SkewFind$Picture"
  | 1 => .object "SkewFind$Window"
  | 2 => .object "SkewFind$Search"
  | 3 => .object "SkewFind$Rows"
  | 4 => .array .int
  | _ => .int
abbrev wsX50 : List Cond := u_ws RX5 TX5 6
theorem nmX5 : ∀ a, a < 6 → ∀ b, b < 6 → a ≠ b → (TX5 a).2.1 ≠ (TX5 b).2.1 := by decide +kernel
theorem tyX5_ok : ∀ k, k < 6 → parseFieldDescriptor (TX5 k).2.2.1 = some (tyX5 k) := by decide +kernel
abbrev cX5_init : ByteArray := prog_1_method_1_code
def yX5_init : MethodName := ⟨RX5, "<init>", "(II)V"⟩
abbrev cX5_put : ByteArray := prog_1_method_2_code
def yX5_put : MethodName := ⟨RX5, "put", "(IIIZ)I"⟩
abbrev cX5_at : ByteArray := prog_1_method_3_code
def yX5_at : MethodName := ⟨RX5, "at", "(II)Z"⟩
abbrev cX5_sum : ByteArray := prog_1_method_4_code
def yX5_sum : MethodName := ⟨RX5, "sum", "(I)D"⟩
abbrev cX5_angle : ByteArray := prog_1_method_5_code
def yX5_angle : MethodName := ⟨RX5, "angle", "(I)I"⟩
abbrev cX5_sure : ByteArray := prog_1_method_6_code
def yX5_sure : MethodName := ⟨RX5, "sure", "()Z"⟩
abbrev cX5_mean : ByteArray := prog_1_method_7_code
def yX5_mean : MethodName := ⟨RX5, "mean", "()D"⟩
abbrev cX5_turn : ByteArray := prog_1_method_8_code
def yX5_turn : MethodName := ⟨RX5, "turn", "(IZ)I"⟩
abbrev cX5_back : ByteArray := prog_1_method_9_code
def yX5_back : MethodName := ⟨RX5, "back", "()I"⟩
abbrev cX5_crop : ByteArray := prog_1_method_10_code
def yX5_crop : MethodName := ⟨RX5, "crop", "(I)I"⟩
abbrev cX5_size : ByteArray := prog_1_method_11_code
def yX5_size : MethodName := ⟨RX5, "size", "(I)I"⟩
abbrev cX5_bands : ByteArray := prog_1_method_12_code
def yX5_bands : MethodName := ⟨RX5, "bands", "()I"⟩
abbrev cX5_band : ByteArray := prog_1_method_13_code
def yX5_band : MethodName := ⟨RX5, "band", "(II)I"⟩
abbrev cX5_line : ByteArray := prog_1_method_14_code
def yX5_line : MethodName := ⟨RX5, "line", "(ID)I"⟩
abbrev cX5_upside : ByteArray := prog_1_method_15_code
def yX5_upside : MethodName := ⟨RX5, "upside", "()Z"⟩
abbrev cX5_told : ByteArray := prog_1_method_16_code
def yX5_told : MethodName := ⟨RX5, "told", "(I)I"⟩
abbrev cX5_clear : ByteArray := prog_1_method_17_code
def yX5_clear : MethodName := ⟨RX5, "clear", "()V"⟩
abbrev cX5_nearestSide : ByteArray := prog_1_method_18_code
def yX5_nearestSide : MethodName := ⟨RX5, "nearestSide", "(I)I"⟩
abbrev cX5_noteChange : ByteArray := prog_1_method_19_code
def yX5_noteChange : MethodName := ⟨RX5, "noteChange", "()V"⟩
abbrev cX5_checkSample : ByteArray := prog_1_method_20_code
def yX5_checkSample : MethodName := ⟨RX5, "checkSample", "(II)V"⟩
abbrev cX5_checkSide : ByteArray := prog_1_method_21_code
def yX5_checkSide : MethodName := ⟨RX5, "checkSide", "(I)V"⟩
abbrev cX5_checkBand : ByteArray := prog_1_method_22_code
def yX5_checkBand : MethodName := ⟨RX5, "checkBand", "(I)V"⟩
abbrev cX5_checkAngle : ByteArray := prog_1_method_23_code
def yX5_checkAngle : MethodName := ⟨RX5, "checkAngle", "(I)V"⟩
abbrev cX5_checkAsked : ByteArray := prog_1_method_24_code
def yX5_checkAsked : MethodName := ⟨RX5, "checkAsked", "()V"⟩
def RX6 : String := "SkewFindModel"
def TX6 : u_T := fun k => match k with
  | 0 => ("SkewFindModel", "code", "I", false)
  | 1 => ("SkewFindModel", "width", "I", true)
  | 2 => ("SkewFindModel", "height", "I", true)
  | 3 => ("SkewFindModel", "on", "[Z", true)
  | 4 => ("SkewFindModel", "next", "[Z", true)
  | 5 => ("SkewFindModel", "ends", "[I", true)
  | 6 => ("SkewFindModel", "isAsked", "Z", false)
  | 7 => ("SkewFindModel", "isSure", "Z", false)
  | 8 => ("SkewFindModel", "meanOf", "D", false)
  | 9 => ("SkewFindModel", "turns", "[I", true)
  | 10 => ("SkewFindModel", "turnCount", "I", false)
  | 11 => ("SkewFindModel", "lines", "[I", true)
  | 12 => ("SkewFindModel", "bandAt", "I", false)
  | _ => ("SkewFindModel", "bandRows", "I", false)
def tyX6 : Nat → FieldType := fun k => match k with
  | 0 => .int
  | 1 => .int
  | 2 => .int
  | 3 => .array .boolean
  | 4 => .array .boolean
  | 5 => .array .int
  | 6 => .boolean
  | 7 => .boolean
  | 8 => .double
  | 9 => .array .int
  | 10 => .int
  | 11 => .array .int
  | 12 => .int
  | _ => .int
abbrev wsX60 : List Cond := u_ws RX6 TX6 14
theorem nmX6 : ∀ a, a < 14 → ∀ b, b < 14 → a ≠ b → (TX6 a).2.1 ≠ (TX6 b).2.1 := by decide +kernel
theorem tyX6_ok : ∀ k, k < 14 → parseFieldDescriptor (TX6 k).2.2.1 = some (tyX6 k) := by decide +kernel
abbrev cX6_init : ByteArray := prog_8_method_1_code
def yX6_init : MethodName := ⟨RX6, "<init>", "(II)V"⟩
abbrev cX6_thrown : ByteArray := prog_8_method_2_code
def yX6_thrown : MethodName := ⟨RX6, "thrown", "()I"⟩
abbrev cX6_refuses : ByteArray := prog_8_method_3_code
def yX6_refuses : MethodName := ⟨RX6, "refuses", "(I)Z"⟩
abbrev cX6_whole : ByteArray := prog_8_method_4_code
def yX6_whole : MethodName := ⟨RX6, "whole", "()V"⟩
abbrev cX6_isOn : ByteArray := prog_8_method_5_code
def yX6_isOn : MethodName := ⟨RX6, "isOn", "(II)Z"⟩
abbrev cX6_isSample : ByteArray := prog_8_method_6_code
def yX6_isSample : MethodName := ⟨RX6, "isSample", "(II)Z"⟩
abbrev cX6_countOn : ByteArray := prog_8_method_7_code
def yX6_countOn : MethodName := ⟨RX6, "countOn", "()I"⟩
abbrev cX6_wholeOf : ByteArray := prog_8_method_8_code
def yX6_wholeOf : MethodName := ⟨RX6, "wholeOf", "(D)I"⟩
abbrev cX6_radians : ByteArray := prog_8_method_9_code
def yX6_radians : MethodName := ⟨RX6, "radians", "(D)D"⟩
abbrev cX6_slope : ByteArray := prog_8_method_10_code
def yX6_slope : MethodName := ⟨RX6, "slope", "(D)D"⟩
abbrev cX6_sine : ByteArray := prog_8_method_11_code
def yX6_sine : MethodName := ⟨RX6, "sine", "(D)D"⟩
abbrev cX6_cosine : ByteArray := prog_8_method_12_code
def yX6_cosine : MethodName := ⟨RX6, "cosine", "(D)D"⟩
abbrev cX6_put : ByteArray := prog_8_method_13_code
def yX6_put : MethodName := ⟨RX6, "put", "(IIIZ)I"⟩
abbrev cX6_at : ByteArray := prog_8_method_14_code
def yX6_at : MethodName := ⟨RX6, "at", "(II)Z"⟩
abbrev cX6_isEnd : ByteArray := prog_8_method_15_code
def yX6_isEnd : MethodName := ⟨RX6, "isEnd", "(II)Z"⟩
abbrev cX6_countEnds : ByteArray := prog_8_method_16_code
def yX6_countEnds : MethodName := ⟨RX6, "countEnds", "()I"⟩
abbrev cX6_sumOf : ByteArray := prog_8_method_17_code
def yX6_sumOf : MethodName := ⟨RX6, "sumOf", "(I)D"⟩
abbrev cX6_sum : ByteArray := prog_8_method_18_code
def yX6_sum : MethodName := ⟨RX6, "sum", "(I)D"⟩
abbrev cX6_stepOf : ByteArray := prog_8_method_19_code
def yX6_stepOf : MethodName := ⟨RX6, "stepOf", "(I)I"⟩
abbrev cX6_angle : ByteArray := prog_8_method_20_code
def yX6_angle : MethodName := ⟨RX6, "angle", "(I)I"⟩
abbrev cX6_sure : ByteArray := prog_8_method_21_code
def yX6_sure : MethodName := ⟨RX6, "sure", "()Z"⟩
abbrev cX6_mean : ByteArray := prog_8_method_22_code
def yX6_mean : MethodName := ⟨RX6, "mean", "()D"⟩
abbrev cX6_within : ByteArray := prog_8_method_23_code
def yX6_within : MethodName := ⟨RX6, "within", "(II)I"⟩
abbrev cX6_change : ByteArray := prog_8_method_24_code
def yX6_change : MethodName := ⟨RX6, "change", "()V"⟩
abbrev cX6_forget : ByteArray := prog_8_method_25_code
def yX6_forget : MethodName := ⟨RX6, "forget", "()V"⟩
abbrev cX6_shearRows : ByteArray := prog_8_method_26_code
def yX6_shearRows : MethodName := ⟨RX6, "shearRows", "(DI)V"⟩
abbrev cX6_shearColumns : ByteArray := prog_8_method_27_code
def yX6_shearColumns : MethodName := ⟨RX6, "shearColumns", "(DI)V"⟩
abbrev cX6_shear : ByteArray := prog_8_method_28_code
def yX6_shear : MethodName := ⟨RX6, "shear", "(II)V"⟩
abbrev cX6_sample : ByteArray := prog_8_method_29_code
def yX6_sample : MethodName := ⟨RX6, "sample", "(I)V"⟩
abbrev cX6_turn : ByteArray := prog_8_method_30_code
def yX6_turn : MethodName := ⟨RX6, "turn", "(IZ)I"⟩
abbrev cX6_back : ByteArray := prog_8_method_31_code
def yX6_back : MethodName := ⟨RX6, "back", "()I"⟩
abbrev cX6_isBare : ByteArray := prog_8_method_32_code
def yX6_isBare : MethodName := ⟨RX6, "isBare", "(II)Z"⟩
abbrev cX6_crop : ByteArray := prog_8_method_33_code
def yX6_crop : MethodName := ⟨RX6, "crop", "(I)I"⟩
abbrev cX6_size : ByteArray := prog_8_method_34_code
def yX6_size : MethodName := ⟨RX6, "size", "(I)I"⟩
abbrev cX6_goTo : ByteArray := prog_8_method_35_code
def yX6_goTo : MethodName := ⟨RX6, "goTo", "(I)Z"⟩
abbrev cX6_bands : ByteArray := prog_8_method_36_code
def yX6_bands : MethodName := ⟨RX6, "bands", "()I"⟩
abbrev cX6_onIn : ByteArray := prog_8_method_37_code
def yX6_onIn : MethodName := ⟨RX6, "onIn", "(II)I"⟩
abbrev cX6_band : ByteArray := prog_8_method_38_code
def yX6_band : MethodName := ⟨RX6, "band", "(II)I"⟩
abbrev cX6_line : ByteArray := prog_8_method_39_code
def yX6_line : MethodName := ⟨RX6, "line", "(ID)I"⟩
abbrev cX6_upside : ByteArray := prog_8_method_40_code
def yX6_upside : MethodName := ⟨RX6, "upside", "()Z"⟩
abbrev cX6_told : ByteArray := prog_8_method_41_code
def yX6_told : MethodName := ⟨RX6, "told", "(I)I"⟩
abbrev cX6_clear : ByteArray := prog_8_method_42_code
def yX6_clear : MethodName := ⟨RX6, "clear", "()V"⟩
def RJ6 : String := "java/lang/Integer"
def TJ6 : u_T := fun k => match k with
  | _ => ("", "", "", false)
def tyJ6 : Nat → FieldType := fun k => match k with
  | _ => .int
abbrev wsJ60 : List Cond := u_ws RJ6 TJ6 0
theorem nmJ6 : ∀ a, a < 0 → ∀ b, b < 0 → a ≠ b → (TJ6 a).2.1 ≠ (TJ6 b).2.1 := by decide +kernel
theorem tyJ6_ok : ∀ k, k < 0 → parseFieldDescriptor (TJ6 k).2.2.1 = some (tyJ6 k) := by decide +kernel
abbrev cJ6_bitCount_0f7a4 : ByteArray := prog_13_method_49_code
def yJ6_bitCount_0f7a4 : MethodName := ⟨RJ6, "bitCount", "(I)I"⟩
def RJ9 : String := "java/lang/Math"
def TJ9 : u_T := fun k => match k with
  | _ => ("", "", "", false)
def tyJ9 : Nat → FieldType := fun k => match k with
  | _ => .int
abbrev wsJ90 : List Cond := u_ws RJ9 TJ9 0
theorem nmJ9 : ∀ a, a < 0 → ∀ b, b < 0 → a ≠ b → (TJ9 a).2.1 ≠ (TJ9 b).2.1 := by decide +kernel
theorem tyJ9_ok : ∀ k, k < 0 → parseFieldDescriptor (TJ9 k).2.2.1 = some (tyJ9 k) := by decide +kernel
abbrev cJ9_floorMod_7cf53 : ByteArray := prog_14_method_50_code
def yJ9_floorMod_7cf53 : MethodName := ⟨RJ9, "floorMod", "(II)I"⟩
abbrev cJ9_abs_0f7a4 : ByteArray := prog_14_method_59_code
def yJ9_abs_0f7a4 : MethodName := ⟨RJ9, "abs", "(I)I"⟩
abbrev cJ9_max_7cf53 : ByteArray := prog_14_method_65_code
def yJ9_max_7cf53 : MethodName := ⟨RJ9, "max", "(II)I"⟩
abbrev cJ9_min_7cf53 : ByteArray := prog_14_method_69_code
def yJ9_min_7cf53 : MethodName := ⟨RJ9, "min", "(II)I"⟩
def RJ0 : String := "java/lang/String"
def TJ0 : u_T := fun k => match k with
  | _ => ("", "", "", false)
def tyJ0 : Nat → FieldType := fun k => match k with
  | _ => .int
abbrev wsJ00 : List Cond := u_ws RJ0 TJ0 0
theorem nmJ0 : ∀ a, a < 0 → ∀ b, b < 0 → a ≠ b → (TJ0 a).2.1 ≠ (TJ0 b).2.1 := by decide +kernel
theorem tyJ0_ok : ∀ k, k < 0 → parseFieldDescriptor (TJ0 k).2.2.1 = some (tyJ0 k) := by decide +kernel
def RL : String := "SkewFindLaw"
abbrev cL_cell : ByteArray := method_2_code
def yL_cell : MethodName := ⟨RL, "cell", "([II)I"⟩
abbrev cL_put : ByteArray := method_3_code
def yL_put : MethodName := ⟨RL, "put", "(LSkewFind;IIIZ[J)I"⟩
abbrev cL_at : ByteArray := method_4_code
def yL_at : MethodName := ⟨RL, "at", "(LSkewFind;II[J)I"⟩
abbrev cL_sum : ByteArray := method_5_code
def yL_sum : MethodName := ⟨RL, "sum", "(LSkewFind;I[D)I"⟩
abbrev cL_angle : ByteArray := method_6_code
def yL_angle : MethodName := ⟨RL, "angle", "(LSkewFind;I[J)I"⟩
abbrev cL_sure : ByteArray := method_7_code
def yL_sure : MethodName := ⟨RL, "sure", "(LSkewFind;[J)I"⟩
abbrev cL_mean : ByteArray := method_8_code
def yL_mean : MethodName := ⟨RL, "mean", "(LSkewFind;[D)I"⟩
abbrev cL_turn : ByteArray := method_9_code
def yL_turn : MethodName := ⟨RL, "turn", "(LSkewFind;IZ[J)I"⟩
abbrev cL_crop : ByteArray := method_10_code
def yL_crop : MethodName := ⟨RL, "crop", "(LSkewFind;I[J)I"⟩
abbrev cL_size : ByteArray := method_11_code
def yL_size : MethodName := ⟨RL, "size", "(LSkewFind;I[J)I"⟩
abbrev cL_band : ByteArray := method_12_code
def yL_band : MethodName := ⟨RL, "band", "(LSkewFind;II[J)I"⟩
abbrev cL_line : ByteArray := method_13_code
def yL_line : MethodName := ⟨RL, "line", "(LSkewFind;ID[J)I"⟩
abbrev cL_law : ByteArray := code
def yL_law : MethodName := ⟨RL, "law", "([I)Z"⟩
def wsX0_init : List Cond := .code yX0_init cX0_init 3 none :: ([.methodLink RX0 3 objectInit, .instanceMethod objectInit, .code objectInit ⟨#[0xb1]⟩ 1 none, .fieldLink RX0 9 "SkewFind$Picture" "width" "I", .fieldLink RX0 15 "SkewFind$Picture" "height" "I", .constantDouble RX0 18 (4611686018427387904), .fieldLink RX0 20 "SkewFind$Picture" "middleX" "D", .fieldLink RX0 24 "SkewFind$Picture" "middleY" "D", .arrayClass .int, .fieldLink RX0 27 "SkewFind$Picture" "bits" "[I", .fieldLink RX0 31 "SkewFind$Picture" "oldBits" "[I"] ++ wsX00)
def wsX0_has : List Cond := .code yX0_has cX0_has 3 (some .boolean) :: ([.fieldLink RX0 9 "SkewFind$Picture" "width" "I", .fieldLink RX0 15 "SkewFind$Picture" "height" "I"] ++ wsX00)
def wsX0_rowBits : List Cond := .code yX0_rowBits cX0_rowBits 2 (some .int) :: ([.fieldLink RX0 27 "SkewFind$Picture" "bits" "[I"] ++ wsX00)
def wsX0_isOn : List Cond := .code yX0_isOn cX0_isOn 3 (some .boolean) :: ([.methodLink RX0 34 yX0_has, .instanceMethod yX0_has, .selects RX0 yX0_has yX0_has, .initialized RX0, .code yX0_has cX0_has 3 (some .boolean), .fieldLink RX0 9 "SkewFind$Picture" "width" "I", .fieldLink RX0 15 "SkewFind$Picture" "height" "I", .methodLink RX0 38 yX0_rowBits, .instanceMethod yX0_rowBits, .selects RX0 yX0_rowBits yX0_rowBits, .code yX0_rowBits cX0_rowBits 2 (some .int), .fieldLink RX0 27 "SkewFind$Picture" "bits" "[I"] ++ wsX00)
def wsX0_setRowBits : List Cond := .code yX0_setRowBits cX0_setRowBits 3 none :: ([.fieldLink RX0 27 "SkewFind$Picture" "bits" "[I"] ++ wsX00)
def wsX0_oldRowBits : List Cond := .code yX0_oldRowBits cX0_oldRowBits 2 (some .int) :: ([.fieldLink RX0 31 "SkewFind$Picture" "oldBits" "[I"] ++ wsX00)
def wsX0_bitsOf : List Cond := .code yX0_bitsOf cX0_bitsOf 1 (some .int) :: ([])
def wsJ6_bitCount_0f7a4 : List Cond := .code yJ6_bitCount_0f7a4 cJ6_bitCount_0f7a4 1 (some .int) :: ([.constant RJ6 265 (1431655765), .constant RJ6 266 (858993459), .constant RJ6 267 (252645135)])
def wsX0_fill_r1 : List Cond := [Cond.fieldLink RX0 9 "SkewFind$Picture" "width" "I", Cond.methodLink RX0 42 Lib.Math.min.name, Cond.static Lib.Math.min.name, Cond.initialized "java/lang/Math", Cond.code Lib.Math.min.name Lib.Math.min.code 2 (some .int), Cond.methodLink RX0 34 yX0_has, Cond.instanceMethod yX0_has, Cond.selects RX0 yX0_has yX0_has, Cond.initialized RX0, Cond.code yX0_has cX0_has 3 (some .boolean), Cond.fieldLink RX0 15 "SkewFind$Picture" "height" "I", Cond.methodLink RX0 48 yX0_bitsOf, Cond.static yX0_bitsOf, Cond.code yX0_bitsOf cX0_bitsOf 1 (some .int), Cond.methodLink RX0 38 yX0_rowBits, Cond.instanceMethod yX0_rowBits, Cond.selects RX0 yX0_rowBits yX0_rowBits, Cond.code yX0_rowBits cX0_rowBits 2 (some .int), Cond.fieldLink RX0 27 "SkewFind$Picture" "bits" "[I", Cond.methodLink RX0 51 yX0_setRowBits, Cond.instanceMethod yX0_setRowBits, Cond.selects RX0 yX0_setRowBits yX0_setRowBits, Cond.code yX0_setRowBits cX0_setRowBits 3 none, Cond.methodLink RX0 55 yJ6_bitCount_0f7a4]
def wsX0_fill_r2 : List Cond := [Cond.static yJ6_bitCount_0f7a4, Cond.initialized RJ6, Cond.code yJ6_bitCount_0f7a4 cJ6_bitCount_0f7a4 1 (some .int), Cond.constant RJ6 265 (1431655765), Cond.constant RJ6 266 (858993459), Cond.constant RJ6 267 (252645135)]
def wsX0_fill : List Cond := .code yX0_fill cX0_fill 8 (some .int) :: ((wsX0_fill_r1 ++ wsX0_fill_r2) ++ wsX00)
def wsX0_wipe : List Cond := .code yX0_wipe cX0_wipe 2 none :: ([.fieldLink RX0 15 "SkewFind$Picture" "height" "I", .methodLink RX0 51 yX0_setRowBits, .instanceMethod yX0_setRowBits, .selects RX0 yX0_setRowBits yX0_setRowBits, .initialized RX0, .code yX0_setRowBits cX0_setRowBits 3 none, .fieldLink RX0 27 "SkewFind$Picture" "bits" "[I"] ++ wsX00)
def wsX0_samplesOn : List Cond := .code yX0_samplesOn cX0_samplesOn 3 (some .int) :: ([.fieldLink RX0 15 "SkewFind$Picture" "height" "I", .methodLink RX0 38 yX0_rowBits, .instanceMethod yX0_rowBits, .selects RX0 yX0_rowBits yX0_rowBits, .initialized RX0, .code yX0_rowBits cX0_rowBits 2 (some .int), .fieldLink RX0 27 "SkewFind$Picture" "bits" "[I", .methodLink RX0 55 yJ6_bitCount_0f7a4, .static yJ6_bitCount_0f7a4, .initialized RJ6, .code yJ6_bitCount_0f7a4 cJ6_bitCount_0f7a4 1 (some .int), .constant RJ6 265 (1431655765), .constant RJ6 266 (858993459), .constant RJ6 267 (252645135)] ++ wsX00)
def wsX0_runEndBits : List Cond := .code yX0_runEndBits cX0_runEndBits 3 (some .int) :: ([.methodLink RX0 38 yX0_rowBits, .instanceMethod yX0_rowBits, .selects RX0 yX0_rowBits yX0_rowBits, .initialized RX0, .code yX0_rowBits cX0_rowBits 2 (some .int), .fieldLink RX0 27 "SkewFind$Picture" "bits" "[I"] ++ wsX00)
def wsX0_runEnds : List Cond := .code yX0_runEnds cX0_runEnds 3 (some .int) :: ([.fieldLink RX0 15 "SkewFind$Picture" "height" "I", .methodLink RX0 60 yX0_runEndBits, .instanceMethod yX0_runEndBits, .selects RX0 yX0_runEndBits yX0_runEndBits, .initialized RX0, .code yX0_runEndBits cX0_runEndBits 3 (some .int), .methodLink RX0 38 yX0_rowBits, .instanceMethod yX0_rowBits, .selects RX0 yX0_rowBits yX0_rowBits, .code yX0_rowBits cX0_rowBits 2 (some .int), .fieldLink RX0 27 "SkewFind$Picture" "bits" "[I", .methodLink RX0 55 yJ6_bitCount_0f7a4, .static yJ6_bitCount_0f7a4, .initialized RJ6, .code yJ6_bitCount_0f7a4 cJ6_bitCount_0f7a4 1 (some .int), .constant RJ6 265 (1431655765), .constant RJ6 266 (858993459), .constant RJ6 267 (252645135)] ++ wsX00)
def wsX1_radians : List Cond := .code yX1_radians cX1_radians 2 (some .double) :: ([.constantDouble RX1 7 (4614256656552045848), .constantDouble RX1 9 (4670677016280825856)])
def wsX1_slope : List Cond := .code yX1_slope cX1_slope 6 (some .double) :: ([.constantDouble RX1 17 (4599676419421066581), .constantDouble RX1 19 (4593971859893063953), .constantDouble RX1 21 (4587938466106554908), .methodLink RX1 11 yX1_radians, .static yX1_radians, .initialized RX1, .code yX1_radians cX1_radians 2 (some .double), .constantDouble RX1 7 (4614256656552045848), .constantDouble RX1 9 (4670677016280825856)])
def wsX1_sine : List Cond := .code yX1_sine cX1_sine 6 (some .double) :: ([.constantDouble RX1 23 (13818544856648471893), .constantDouble RX1 25 (4575957461383581969), .constantDouble RX1 27 (13774824197408792602), .methodLink RX1 11 yX1_radians, .static yX1_radians, .initialized RX1, .code yX1_radians cX1_radians 2 (some .double), .constantDouble RX1 7 (4614256656552045848), .constantDouble RX1 9 (4670677016280825856)])
def wsX1_whole : List Cond := .code yX1_whole cX1_whole 5 (some .int) :: ([.constantDouble RX1 35 (4602678819172646912)])
def wsJ9_floorMod_7cf53 : List Cond := .code yJ9_floorMod_7cf53 cJ9_floorMod_7cf53 3 (some .int) :: ([])
def wsX1_wrapped : List Cond := .code yX1_wrapped cX1_wrapped 2 (some .int) :: ([.methodLink RX1 37 yJ9_floorMod_7cf53, .static yJ9_floorMod_7cf53, .initialized RJ9, .code yJ9_floorMod_7cf53 cJ9_floorMod_7cf53 3 (some .int)])
def wsX0_movedRight : List Cond := .code yX0_movedRight cX0_movedRight 4 (some .int) :: ([.fieldLink RX0 9 "SkewFind$Picture" "width" "I", .methodLink RX0 89 yX1_wrapped, .static yX1_wrapped, .initialized RX1, .code yX1_wrapped cX1_wrapped 2 (some .int), .methodLink RX1 37 yJ9_floorMod_7cf53, .static yJ9_floorMod_7cf53, .initialized RJ9, .code yJ9_floorMod_7cf53 cJ9_floorMod_7cf53 3 (some .int), .methodLink RX0 48 yX0_bitsOf, .static yX0_bitsOf, .initialized RX0, .code yX0_bitsOf cX0_bitsOf 1 (some .int)] ++ wsX00)
def wsX0_shearRows_r1 : List Cond := [Cond.fieldLink RX0 15 "SkewFind$Picture" "height" "I", Cond.fieldLink RX0 24 "SkewFind$Picture" "middleY" "D", Cond.methodLink RX0 82 yX1_whole, Cond.static yX1_whole, Cond.initialized RX1, Cond.code yX1_whole cX1_whole 5 (some .int), Cond.constantDouble RX1 35 (4602678819172646912), Cond.methodLink RX0 38 yX0_rowBits, Cond.instanceMethod yX0_rowBits, Cond.selects RX0 yX0_rowBits yX0_rowBits, Cond.initialized RX0, Cond.code yX0_rowBits cX0_rowBits 2 (some .int), Cond.fieldLink RX0 27 "SkewFind$Picture" "bits" "[I", Cond.methodLink RX0 86 yX0_movedRight, Cond.instanceMethod yX0_movedRight, Cond.selects RX0 yX0_movedRight yX0_movedRight, Cond.code yX0_movedRight cX0_movedRight 4 (some .int), Cond.fieldLink RX0 9 "SkewFind$Picture" "width" "I", Cond.methodLink RX0 89 yX1_wrapped, Cond.static yX1_wrapped, Cond.code yX1_wrapped cX1_wrapped 2 (some .int), Cond.methodLink RX1 37 yJ9_floorMod_7cf53, Cond.static yJ9_floorMod_7cf53, Cond.initialized RJ9]
def wsX0_shearRows_r2 : List Cond := [Cond.code yJ9_floorMod_7cf53 cJ9_floorMod_7cf53 3 (some .int), Cond.methodLink RX0 48 yX0_bitsOf, Cond.static yX0_bitsOf, Cond.code yX0_bitsOf cX0_bitsOf 1 (some .int), Cond.methodLink RX0 51 yX0_setRowBits, Cond.instanceMethod yX0_setRowBits, Cond.selects RX0 yX0_setRowBits yX0_setRowBits, Cond.code yX0_setRowBits cX0_setRowBits 3 none]
def wsX0_shearRows : List Cond := .code yX0_shearRows cX0_shearRows 6 none :: ((wsX0_shearRows_r1 ++ wsX0_shearRows_r2) ++ wsX00)
def wsX0_keepOldBits : List Cond := .code yX0_keepOldBits cX0_keepOldBits 2 none :: ([.fieldLink RX0 31 "SkewFind$Picture" "oldBits" "[I", .methodLink RX0 38 yX0_rowBits, .instanceMethod yX0_rowBits, .selects RX0 yX0_rowBits yX0_rowBits, .initialized RX0, .code yX0_rowBits cX0_rowBits 2 (some .int), .fieldLink RX0 27 "SkewFind$Picture" "bits" "[I"] ++ wsX00)
def wsX0_shearColumns_r1 : List Cond := [Cond.fieldLink RX0 9 "SkewFind$Picture" "width" "I", Cond.fieldLink RX0 20 "SkewFind$Picture" "middleX" "D", Cond.fieldLink RX0 15 "SkewFind$Picture" "height" "I", Cond.methodLink RX0 92 yX0_keepOldBits, Cond.instanceMethod yX0_keepOldBits, Cond.selects RX0 yX0_keepOldBits yX0_keepOldBits, Cond.initialized RX0, Cond.code yX0_keepOldBits cX0_keepOldBits 2 none, Cond.fieldLink RX0 31 "SkewFind$Picture" "oldBits" "[I", Cond.methodLink RX0 38 yX0_rowBits, Cond.instanceMethod yX0_rowBits, Cond.selects RX0 yX0_rowBits yX0_rowBits, Cond.code yX0_rowBits cX0_rowBits 2 (some .int), Cond.fieldLink RX0 27 "SkewFind$Picture" "bits" "[I", Cond.methodLink RX0 95 yX0_wipe, Cond.instanceMethod yX0_wipe, Cond.selects RX0 yX0_wipe yX0_wipe, Cond.code yX0_wipe cX0_wipe 2 none, Cond.methodLink RX0 51 yX0_setRowBits, Cond.instanceMethod yX0_setRowBits, Cond.selects RX0 yX0_setRowBits yX0_setRowBits, Cond.code yX0_setRowBits cX0_setRowBits 3 none, Cond.methodLink RX0 82 yX1_whole, Cond.static yX1_whole]
def wsX0_shearColumns_r2 : List Cond := [Cond.initialized RX1, Cond.code yX1_whole cX1_whole 5 (some .int), Cond.constantDouble RX1 35 (4602678819172646912), Cond.methodLink RX0 89 yX1_wrapped, Cond.static yX1_wrapped, Cond.code yX1_wrapped cX1_wrapped 2 (some .int), Cond.methodLink RX1 37 yJ9_floorMod_7cf53, Cond.static yJ9_floorMod_7cf53, Cond.initialized RJ9, Cond.code yJ9_floorMod_7cf53 cJ9_floorMod_7cf53 3 (some .int), Cond.methodLink RX0 98 yX0_oldRowBits, Cond.instanceMethod yX0_oldRowBits, Cond.selects RX0 yX0_oldRowBits yX0_oldRowBits, Cond.code yX0_oldRowBits cX0_oldRowBits 2 (some .int)]
def wsX0_shearColumns : List Cond := .code yX0_shearColumns cX0_shearColumns 8 none :: ((wsX0_shearColumns_r1 ++ wsX0_shearColumns_r2) ++ wsX00)
def wsX0_shearAll_r1 : List Cond := [Cond.constantDouble RX0 18 (4611686018427387904), Cond.methodLink RX0 66 yX1_slope, Cond.static yX1_slope, Cond.initialized RX1, Cond.code yX1_slope cX1_slope 6 (some .double), Cond.constantDouble RX1 17 (4599676419421066581), Cond.constantDouble RX1 19 (4593971859893063953), Cond.constantDouble RX1 21 (4587938466106554908), Cond.methodLink RX1 11 yX1_radians, Cond.static yX1_radians, Cond.code yX1_radians cX1_radians 2 (some .double), Cond.constantDouble RX1 7 (4614256656552045848), Cond.constantDouble RX1 9 (4670677016280825856), Cond.methodLink RX0 72 yX1_sine, Cond.static yX1_sine, Cond.code yX1_sine cX1_sine 6 (some .double), Cond.constantDouble RX1 23 (13818544856648471893), Cond.constantDouble RX1 25 (4575957461383581969), Cond.constantDouble RX1 27 (13774824197408792602), Cond.methodLink RX0 75 yX0_shearRows, Cond.instanceMethod yX0_shearRows, Cond.selects RX0 yX0_shearRows yX0_shearRows, Cond.initialized RX0, Cond.code yX0_shearRows cX0_shearRows 6 none]
def wsX0_shearAll_r2 : List Cond := [Cond.fieldLink RX0 15 "SkewFind$Picture" "height" "I", Cond.fieldLink RX0 24 "SkewFind$Picture" "middleY" "D", Cond.methodLink RX0 82 yX1_whole, Cond.static yX1_whole, Cond.code yX1_whole cX1_whole 5 (some .int), Cond.constantDouble RX1 35 (4602678819172646912), Cond.methodLink RX0 38 yX0_rowBits, Cond.instanceMethod yX0_rowBits, Cond.selects RX0 yX0_rowBits yX0_rowBits, Cond.code yX0_rowBits cX0_rowBits 2 (some .int), Cond.fieldLink RX0 27 "SkewFind$Picture" "bits" "[I", Cond.methodLink RX0 86 yX0_movedRight, Cond.instanceMethod yX0_movedRight, Cond.selects RX0 yX0_movedRight yX0_movedRight, Cond.code yX0_movedRight cX0_movedRight 4 (some .int), Cond.fieldLink RX0 9 "SkewFind$Picture" "width" "I", Cond.methodLink RX0 89 yX1_wrapped, Cond.static yX1_wrapped, Cond.code yX1_wrapped cX1_wrapped 2 (some .int), Cond.methodLink RX1 37 yJ9_floorMod_7cf53, Cond.static yJ9_floorMod_7cf53, Cond.initialized RJ9, Cond.code yJ9_floorMod_7cf53 cJ9_floorMod_7cf53 3 (some .int), Cond.methodLink RX0 48 yX0_bitsOf]
def wsX0_shearAll_r3 : List Cond := [Cond.static yX0_bitsOf, Cond.code yX0_bitsOf cX0_bitsOf 1 (some .int), Cond.methodLink RX0 51 yX0_setRowBits, Cond.instanceMethod yX0_setRowBits, Cond.selects RX0 yX0_setRowBits yX0_setRowBits, Cond.code yX0_setRowBits cX0_setRowBits 3 none, Cond.methodLink RX0 79 yX0_shearColumns, Cond.instanceMethod yX0_shearColumns, Cond.selects RX0 yX0_shearColumns yX0_shearColumns, Cond.code yX0_shearColumns cX0_shearColumns 8 none, Cond.fieldLink RX0 20 "SkewFind$Picture" "middleX" "D", Cond.methodLink RX0 92 yX0_keepOldBits, Cond.instanceMethod yX0_keepOldBits, Cond.selects RX0 yX0_keepOldBits yX0_keepOldBits, Cond.code yX0_keepOldBits cX0_keepOldBits 2 none, Cond.fieldLink RX0 31 "SkewFind$Picture" "oldBits" "[I", Cond.methodLink RX0 95 yX0_wipe, Cond.instanceMethod yX0_wipe, Cond.selects RX0 yX0_wipe yX0_wipe, Cond.code yX0_wipe cX0_wipe 2 none, Cond.methodLink RX0 98 yX0_oldRowBits, Cond.instanceMethod yX0_oldRowBits, Cond.selects RX0 yX0_oldRowBits yX0_oldRowBits, Cond.code yX0_oldRowBits cX0_oldRowBits 2 (some .int)]
def wsX0_shearAll : List Cond := .code yX0_shearAll cX0_shearAll 7 none :: ((wsX0_shearAll_r1 ++ (wsX0_shearAll_r2 ++ wsX0_shearAll_r3)) ++ wsX00)
def wsX0_turnByShears_r1 : List Cond := [Cond.methodLink RX0 63 yX0_shearAll, Cond.instanceMethod yX0_shearAll, Cond.selects RX0 yX0_shearAll yX0_shearAll, Cond.initialized RX0, Cond.code yX0_shearAll cX0_shearAll 7 none, Cond.constantDouble RX0 18 (4611686018427387904), Cond.methodLink RX0 66 yX1_slope, Cond.static yX1_slope, Cond.initialized RX1, Cond.code yX1_slope cX1_slope 6 (some .double), Cond.constantDouble RX1 17 (4599676419421066581), Cond.constantDouble RX1 19 (4593971859893063953), Cond.constantDouble RX1 21 (4587938466106554908), Cond.methodLink RX1 11 yX1_radians, Cond.static yX1_radians, Cond.code yX1_radians cX1_radians 2 (some .double), Cond.constantDouble RX1 7 (4614256656552045848), Cond.constantDouble RX1 9 (4670677016280825856), Cond.methodLink RX0 72 yX1_sine, Cond.static yX1_sine, Cond.code yX1_sine cX1_sine 6 (some .double), Cond.constantDouble RX1 23 (13818544856648471893), Cond.constantDouble RX1 25 (4575957461383581969), Cond.constantDouble RX1 27 (13774824197408792602)]
def wsX0_turnByShears_r2 : List Cond := [Cond.methodLink RX0 75 yX0_shearRows, Cond.instanceMethod yX0_shearRows, Cond.selects RX0 yX0_shearRows yX0_shearRows, Cond.code yX0_shearRows cX0_shearRows 6 none, Cond.fieldLink RX0 15 "SkewFind$Picture" "height" "I", Cond.fieldLink RX0 24 "SkewFind$Picture" "middleY" "D", Cond.methodLink RX0 82 yX1_whole, Cond.static yX1_whole, Cond.code yX1_whole cX1_whole 5 (some .int), Cond.constantDouble RX1 35 (4602678819172646912), Cond.methodLink RX0 38 yX0_rowBits, Cond.instanceMethod yX0_rowBits, Cond.selects RX0 yX0_rowBits yX0_rowBits, Cond.code yX0_rowBits cX0_rowBits 2 (some .int), Cond.fieldLink RX0 27 "SkewFind$Picture" "bits" "[I", Cond.methodLink RX0 86 yX0_movedRight, Cond.instanceMethod yX0_movedRight, Cond.selects RX0 yX0_movedRight yX0_movedRight, Cond.code yX0_movedRight cX0_movedRight 4 (some .int), Cond.fieldLink RX0 9 "SkewFind$Picture" "width" "I", Cond.methodLink RX0 89 yX1_wrapped, Cond.static yX1_wrapped, Cond.code yX1_wrapped cX1_wrapped 2 (some .int), Cond.methodLink RX1 37 yJ9_floorMod_7cf53]
def wsX0_turnByShears_r3 : List Cond := [Cond.static yJ9_floorMod_7cf53, Cond.initialized RJ9, Cond.code yJ9_floorMod_7cf53 cJ9_floorMod_7cf53 3 (some .int), Cond.methodLink RX0 48 yX0_bitsOf, Cond.static yX0_bitsOf, Cond.code yX0_bitsOf cX0_bitsOf 1 (some .int), Cond.methodLink RX0 51 yX0_setRowBits, Cond.instanceMethod yX0_setRowBits, Cond.selects RX0 yX0_setRowBits yX0_setRowBits, Cond.code yX0_setRowBits cX0_setRowBits 3 none, Cond.methodLink RX0 79 yX0_shearColumns, Cond.instanceMethod yX0_shearColumns, Cond.selects RX0 yX0_shearColumns yX0_shearColumns, Cond.code yX0_shearColumns cX0_shearColumns 8 none, Cond.fieldLink RX0 20 "SkewFind$Picture" "middleX" "D", Cond.methodLink RX0 92 yX0_keepOldBits, Cond.instanceMethod yX0_keepOldBits, Cond.selects RX0 yX0_keepOldBits yX0_keepOldBits, Cond.code yX0_keepOldBits cX0_keepOldBits 2 none, Cond.fieldLink RX0 31 "SkewFind$Picture" "oldBits" "[I", Cond.methodLink RX0 95 yX0_wipe, Cond.instanceMethod yX0_wipe, Cond.selects RX0 yX0_wipe yX0_wipe, Cond.code yX0_wipe cX0_wipe 2 none]
def wsX0_turnByShears_r4 : List Cond := [Cond.methodLink RX0 98 yX0_oldRowBits, Cond.instanceMethod yX0_oldRowBits, Cond.selects RX0 yX0_oldRowBits yX0_oldRowBits, Cond.code yX0_oldRowBits cX0_oldRowBits 2 (some .int)]
def wsX0_turnByShears : List Cond := .code yX0_turnByShears cX0_turnByShears 2 none :: ((wsX0_turnByShears_r1 ++ (wsX0_turnByShears_r2 ++ (wsX0_turnByShears_r3 ++ wsX0_turnByShears_r4))) ++ wsX00)
def wsX0_turnBackByShears_r1 : List Cond := [Cond.methodLink RX0 63 yX0_shearAll, Cond.instanceMethod yX0_shearAll, Cond.selects RX0 yX0_shearAll yX0_shearAll, Cond.initialized RX0, Cond.code yX0_shearAll cX0_shearAll 7 none, Cond.constantDouble RX0 18 (4611686018427387904), Cond.methodLink RX0 66 yX1_slope, Cond.static yX1_slope, Cond.initialized RX1, Cond.code yX1_slope cX1_slope 6 (some .double), Cond.constantDouble RX1 17 (4599676419421066581), Cond.constantDouble RX1 19 (4593971859893063953), Cond.constantDouble RX1 21 (4587938466106554908), Cond.methodLink RX1 11 yX1_radians, Cond.static yX1_radians, Cond.code yX1_radians cX1_radians 2 (some .double), Cond.constantDouble RX1 7 (4614256656552045848), Cond.constantDouble RX1 9 (4670677016280825856), Cond.methodLink RX0 72 yX1_sine, Cond.static yX1_sine, Cond.code yX1_sine cX1_sine 6 (some .double), Cond.constantDouble RX1 23 (13818544856648471893), Cond.constantDouble RX1 25 (4575957461383581969), Cond.constantDouble RX1 27 (13774824197408792602)]
def wsX0_turnBackByShears_r2 : List Cond := [Cond.methodLink RX0 75 yX0_shearRows, Cond.instanceMethod yX0_shearRows, Cond.selects RX0 yX0_shearRows yX0_shearRows, Cond.code yX0_shearRows cX0_shearRows 6 none, Cond.fieldLink RX0 15 "SkewFind$Picture" "height" "I", Cond.fieldLink RX0 24 "SkewFind$Picture" "middleY" "D", Cond.methodLink RX0 82 yX1_whole, Cond.static yX1_whole, Cond.code yX1_whole cX1_whole 5 (some .int), Cond.constantDouble RX1 35 (4602678819172646912), Cond.methodLink RX0 38 yX0_rowBits, Cond.instanceMethod yX0_rowBits, Cond.selects RX0 yX0_rowBits yX0_rowBits, Cond.code yX0_rowBits cX0_rowBits 2 (some .int), Cond.fieldLink RX0 27 "SkewFind$Picture" "bits" "[I", Cond.methodLink RX0 86 yX0_movedRight, Cond.instanceMethod yX0_movedRight, Cond.selects RX0 yX0_movedRight yX0_movedRight, Cond.code yX0_movedRight cX0_movedRight 4 (some .int), Cond.fieldLink RX0 9 "SkewFind$Picture" "width" "I", Cond.methodLink RX0 89 yX1_wrapped, Cond.static yX1_wrapped, Cond.code yX1_wrapped cX1_wrapped 2 (some .int), Cond.methodLink RX1 37 yJ9_floorMod_7cf53]
def wsX0_turnBackByShears_r3 : List Cond := [Cond.static yJ9_floorMod_7cf53, Cond.initialized RJ9, Cond.code yJ9_floorMod_7cf53 cJ9_floorMod_7cf53 3 (some .int), Cond.methodLink RX0 48 yX0_bitsOf, Cond.static yX0_bitsOf, Cond.code yX0_bitsOf cX0_bitsOf 1 (some .int), Cond.methodLink RX0 51 yX0_setRowBits, Cond.instanceMethod yX0_setRowBits, Cond.selects RX0 yX0_setRowBits yX0_setRowBits, Cond.code yX0_setRowBits cX0_setRowBits 3 none, Cond.methodLink RX0 79 yX0_shearColumns, Cond.instanceMethod yX0_shearColumns, Cond.selects RX0 yX0_shearColumns yX0_shearColumns, Cond.code yX0_shearColumns cX0_shearColumns 8 none, Cond.fieldLink RX0 20 "SkewFind$Picture" "middleX" "D", Cond.methodLink RX0 92 yX0_keepOldBits, Cond.instanceMethod yX0_keepOldBits, Cond.selects RX0 yX0_keepOldBits yX0_keepOldBits, Cond.code yX0_keepOldBits cX0_keepOldBits 2 none, Cond.fieldLink RX0 31 "SkewFind$Picture" "oldBits" "[I", Cond.methodLink RX0 95 yX0_wipe, Cond.instanceMethod yX0_wipe, Cond.selects RX0 yX0_wipe yX0_wipe, Cond.code yX0_wipe cX0_wipe 2 none]
def wsX0_turnBackByShears_r4 : List Cond := [Cond.methodLink RX0 98 yX0_oldRowBits, Cond.instanceMethod yX0_oldRowBits, Cond.selects RX0 yX0_oldRowBits yX0_oldRowBits, Cond.code yX0_oldRowBits cX0_oldRowBits 2 (some .int)]
def wsX0_turnBackByShears : List Cond := .code yX0_turnBackByShears cX0_turnBackByShears 2 none :: ((wsX0_turnBackByShears_r1 ++ (wsX0_turnBackByShears_r2 ++ (wsX0_turnBackByShears_r3 ++ wsX0_turnBackByShears_r4))) ++ wsX00)
def wsX1_cosine : List Cond := .code yX1_cosine cX1_cosine 6 (some .double) :: ([.constantDouble RX1 29 (13826050856027422720), .constantDouble RX1 31 (4586165620538955093), .constantDouble RX1 33 (13787419979223755799), .methodLink RX1 11 yX1_radians, .static yX1_radians, .initialized RX1, .code yX1_radians cX1_radians 2 (some .double), .constantDouble RX1 7 (4614256656552045848), .constantDouble RX1 9 (4670677016280825856)])
def wsX0_sampledRow : List Cond := .code yX0_sampledRow cX0_sampledRow 10 (some .int) :: ([.fieldLink RX0 9 "SkewFind$Picture" "width" "I", .fieldLink RX0 20 "SkewFind$Picture" "middleX" "D", .fieldLink RX0 24 "SkewFind$Picture" "middleY" "D", .methodLink RX0 82 yX1_whole, .static yX1_whole, .initialized RX1, .code yX1_whole cX1_whole 5 (some .int), .constantDouble RX1 35 (4602678819172646912), .methodLink RX0 34 yX0_has, .instanceMethod yX0_has, .selects RX0 yX0_has yX0_has, .initialized RX0, .code yX0_has cX0_has 3 (some .boolean), .fieldLink RX0 15 "SkewFind$Picture" "height" "I", .methodLink RX0 98 yX0_oldRowBits, .instanceMethod yX0_oldRowBits, .selects RX0 yX0_oldRowBits yX0_oldRowBits, .code yX0_oldRowBits cX0_oldRowBits 2 (some .int), .fieldLink RX0 31 "SkewFind$Picture" "oldBits" "[I"] ++ wsX00)
def wsX0_turnBySampling_r1 : List Cond := [Cond.fieldLink RX0 15 "SkewFind$Picture" "height" "I", Cond.methodLink RX0 72 yX1_sine, Cond.static yX1_sine, Cond.initialized RX1, Cond.code yX1_sine cX1_sine 6 (some .double), Cond.constantDouble RX1 23 (13818544856648471893), Cond.constantDouble RX1 25 (4575957461383581969), Cond.constantDouble RX1 27 (13774824197408792602), Cond.methodLink RX1 11 yX1_radians, Cond.static yX1_radians, Cond.code yX1_radians cX1_radians 2 (some .double), Cond.constantDouble RX1 7 (4614256656552045848), Cond.constantDouble RX1 9 (4670677016280825856), Cond.methodLink RX0 101 yX1_cosine, Cond.static yX1_cosine, Cond.code yX1_cosine cX1_cosine 6 (some .double), Cond.constantDouble RX1 29 (13826050856027422720), Cond.constantDouble RX1 31 (4586165620538955093), Cond.constantDouble RX1 33 (13787419979223755799), Cond.methodLink RX0 92 yX0_keepOldBits, Cond.instanceMethod yX0_keepOldBits, Cond.selects RX0 yX0_keepOldBits yX0_keepOldBits, Cond.initialized RX0, Cond.code yX0_keepOldBits cX0_keepOldBits 2 none]
def wsX0_turnBySampling_r2 : List Cond := [Cond.fieldLink RX0 31 "SkewFind$Picture" "oldBits" "[I", Cond.methodLink RX0 38 yX0_rowBits, Cond.instanceMethod yX0_rowBits, Cond.selects RX0 yX0_rowBits yX0_rowBits, Cond.code yX0_rowBits cX0_rowBits 2 (some .int), Cond.fieldLink RX0 27 "SkewFind$Picture" "bits" "[I", Cond.methodLink RX0 104 yX0_sampledRow, Cond.instanceMethod yX0_sampledRow, Cond.selects RX0 yX0_sampledRow yX0_sampledRow, Cond.code yX0_sampledRow cX0_sampledRow 10 (some .int), Cond.fieldLink RX0 9 "SkewFind$Picture" "width" "I", Cond.fieldLink RX0 20 "SkewFind$Picture" "middleX" "D", Cond.fieldLink RX0 24 "SkewFind$Picture" "middleY" "D", Cond.methodLink RX0 82 yX1_whole, Cond.static yX1_whole, Cond.code yX1_whole cX1_whole 5 (some .int), Cond.constantDouble RX1 35 (4602678819172646912), Cond.methodLink RX0 34 yX0_has, Cond.instanceMethod yX0_has, Cond.selects RX0 yX0_has yX0_has, Cond.code yX0_has cX0_has 3 (some .boolean), Cond.methodLink RX0 98 yX0_oldRowBits, Cond.instanceMethod yX0_oldRowBits, Cond.selects RX0 yX0_oldRowBits yX0_oldRowBits]
def wsX0_turnBySampling_r3 : List Cond := [Cond.code yX0_oldRowBits cX0_oldRowBits 2 (some .int), Cond.methodLink RX0 51 yX0_setRowBits, Cond.instanceMethod yX0_setRowBits, Cond.selects RX0 yX0_setRowBits yX0_setRowBits, Cond.code yX0_setRowBits cX0_setRowBits 3 none]
def wsX0_turnBySampling : List Cond := .code yX0_turnBySampling cX0_turnBySampling 7 none :: ((wsX0_turnBySampling_r1 ++ (wsX0_turnBySampling_r2 ++ wsX0_turnBySampling_r3)) ++ wsX00)
def wsX2_init : List Cond := .code yX2_init cX2_init 2 none :: ([.methodLink RX2 3 objectInit, .instanceMethod objectInit, .code objectInit ⟨#[0xb1]⟩ 1 none, .fieldLink RX2 9 "SkewFind$Rows" "picture" "LSkewFind$Picture;"] ++ wsX20)
def wsX2_beginsBand : List Cond := .code yX2_beginsBand cX2_beginsBand 2 (some .boolean) :: ([.fieldLink RX2 9 "SkewFind$Rows" "picture" "LSkewFind$Picture;", .methodLink RX2 15 yX0_rowBits, .instanceMethod yX0_rowBits, .selects RX0 yX0_rowBits yX0_rowBits, .initialized RX0, .code yX0_rowBits cX0_rowBits 2 (some .int), .fieldLink RX0 27 "SkewFind$Picture" "bits" "[I"] ++ wsX20 ++ wsX00)
def wsX2_bandCount : List Cond := .code yX2_bandCount cX2_bandCount 3 (some .int) :: ([.fieldLink RX2 9 "SkewFind$Rows" "picture" "LSkewFind$Picture;", .fieldLink RX2 21 "SkewFind$Picture" "height" "I", .methodLink RX2 25 yX2_beginsBand, .instanceMethod yX2_beginsBand, .selects RX2 yX2_beginsBand yX2_beginsBand, .initialized RX2, .code yX2_beginsBand cX2_beginsBand 2 (some .boolean), .methodLink RX2 15 yX0_rowBits, .instanceMethod yX0_rowBits, .selects RX0 yX0_rowBits yX0_rowBits, .initialized RX0, .code yX0_rowBits cX0_rowBits 2 (some .int), .fieldLink RX0 27 "SkewFind$Picture" "bits" "[I"] ++ wsX20 ++ wsX00)
def wsX2_firstOfBand : List Cond := .code yX2_firstOfBand cX2_firstOfBand 4 (some .int) :: ([.fieldLink RX2 9 "SkewFind$Rows" "picture" "LSkewFind$Picture;", .fieldLink RX2 21 "SkewFind$Picture" "height" "I", .methodLink RX2 25 yX2_beginsBand, .instanceMethod yX2_beginsBand, .selects RX2 yX2_beginsBand yX2_beginsBand, .initialized RX2, .code yX2_beginsBand cX2_beginsBand 2 (some .boolean), .methodLink RX2 15 yX0_rowBits, .instanceMethod yX0_rowBits, .selects RX0 yX0_rowBits yX0_rowBits, .initialized RX0, .code yX0_rowBits cX0_rowBits 2 (some .int), .fieldLink RX0 27 "SkewFind$Picture" "bits" "[I"] ++ wsX20 ++ wsX00)
def wsX2_behindBand : List Cond := .code yX2_behindBand cX2_behindBand 3 (some .int) :: ([.fieldLink RX2 9 "SkewFind$Rows" "picture" "LSkewFind$Picture;", .fieldLink RX2 21 "SkewFind$Picture" "height" "I", .methodLink RX2 15 yX0_rowBits, .instanceMethod yX0_rowBits, .selects RX0 yX0_rowBits yX0_rowBits, .initialized RX0, .code yX0_rowBits cX0_rowBits 2 (some .int), .fieldLink RX0 27 "SkewFind$Picture" "bits" "[I"] ++ wsX20 ++ wsX00)
def wsX2_samplesBetween : List Cond := .code yX2_samplesBetween cX2_samplesBetween 5 (some .int) :: ([.fieldLink RX2 9 "SkewFind$Rows" "picture" "LSkewFind$Picture;", .methodLink RX2 15 yX0_rowBits, .instanceMethod yX0_rowBits, .selects RX0 yX0_rowBits yX0_rowBits, .initialized RX0, .code yX0_rowBits cX0_rowBits 2 (some .int), .fieldLink RX0 27 "SkewFind$Picture" "bits" "[I", .methodLink RX2 29 yJ6_bitCount_0f7a4, .static yJ6_bitCount_0f7a4, .initialized RJ6, .code yJ6_bitCount_0f7a4 cJ6_bitCount_0f7a4 1 (some .int), .constant RJ6 265 (1431655765), .constant RJ6 266 (858993459), .constant RJ6 267 (252645135)] ++ wsX20 ++ wsX00)
def wsX2_lowerMinusUpper_r1 : List Cond := [Cond.fieldLink RX2 9 "SkewFind$Rows" "picture" "LSkewFind$Picture;", Cond.fieldLink RX2 21 "SkewFind$Picture" "height" "I", Cond.methodLink RX2 25 yX2_beginsBand, Cond.instanceMethod yX2_beginsBand, Cond.selects RX2 yX2_beginsBand yX2_beginsBand, Cond.initialized RX2, Cond.code yX2_beginsBand cX2_beginsBand 2 (some .boolean), Cond.methodLink RX2 15 yX0_rowBits, Cond.instanceMethod yX0_rowBits, Cond.selects RX0 yX0_rowBits yX0_rowBits, Cond.initialized RX0, Cond.code yX0_rowBits cX0_rowBits 2 (some .int), Cond.fieldLink RX0 27 "SkewFind$Picture" "bits" "[I", Cond.methodLink RX2 34 yX2_behindBand, Cond.instanceMethod yX2_behindBand, Cond.selects RX2 yX2_behindBand yX2_behindBand, Cond.code yX2_behindBand cX2_behindBand 3 (some .int), Cond.methodLink RX2 37 yX2_samplesBetween, Cond.instanceMethod yX2_samplesBetween, Cond.selects RX2 yX2_samplesBetween yX2_samplesBetween, Cond.code yX2_samplesBetween cX2_samplesBetween 5 (some .int), Cond.methodLink RX2 29 yJ6_bitCount_0f7a4, Cond.static yJ6_bitCount_0f7a4, Cond.initialized RJ6]
def wsX2_lowerMinusUpper_r2 : List Cond := [Cond.code yJ6_bitCount_0f7a4 cJ6_bitCount_0f7a4 1 (some .int), Cond.constant RJ6 265 (1431655765), Cond.constant RJ6 266 (858993459), Cond.constant RJ6 267 (252645135)]
def wsX2_lowerMinusUpper : List Cond := .code yX2_lowerMinusUpper cX2_lowerMinusUpper 5 (some .int) :: ((wsX2_lowerMinusUpper_r1 ++ wsX2_lowerMinusUpper_r2) ++ wsX20 ++ wsX00)
def wsX2_lowestOn : List Cond := .code yX2_lowestOn cX2_lowestOn 5 (some .int) :: ([.fieldLink RX2 9 "SkewFind$Rows" "picture" "LSkewFind$Picture;", .methodLink RX2 48 yX0_isOn, .instanceMethod yX0_isOn, .selects RX0 yX0_isOn yX0_isOn, .initialized RX0, .code yX0_isOn cX0_isOn 3 (some .boolean), .methodLink RX0 34 yX0_has, .instanceMethod yX0_has, .selects RX0 yX0_has yX0_has, .code yX0_has cX0_has 3 (some .boolean), .fieldLink RX0 9 "SkewFind$Picture" "width" "I", .fieldLink RX0 15 "SkewFind$Picture" "height" "I", .methodLink RX0 38 yX0_rowBits, .instanceMethod yX0_rowBits, .selects RX0 yX0_rowBits yX0_rowBits, .code yX0_rowBits cX0_rowBits 2 (some .int), .fieldLink RX0 27 "SkewFind$Picture" "bits" "[I"] ++ wsX20 ++ wsX00)
def wsX2_baseLineAt_r1 : List Cond := [Cond.fieldLink RX2 9 "SkewFind$Rows" "picture" "LSkewFind$Picture;", Cond.fieldLink RX2 41 "SkewFind$Picture" "width" "I", Cond.methodLink RX2 34 yX2_behindBand, Cond.instanceMethod yX2_behindBand, Cond.selects RX2 yX2_behindBand yX2_behindBand, Cond.initialized RX2, Cond.code yX2_behindBand cX2_behindBand 3 (some .int), Cond.fieldLink RX2 21 "SkewFind$Picture" "height" "I", Cond.methodLink RX2 15 yX0_rowBits, Cond.instanceMethod yX0_rowBits, Cond.selects RX0 yX0_rowBits yX0_rowBits, Cond.initialized RX0, Cond.code yX0_rowBits cX0_rowBits 2 (some .int), Cond.fieldLink RX0 27 "SkewFind$Picture" "bits" "[I", Cond.methodLink RX2 44 yX2_lowestOn, Cond.instanceMethod yX2_lowestOn, Cond.selects RX2 yX2_lowestOn yX2_lowestOn, Cond.code yX2_lowestOn cX2_lowestOn 5 (some .int), Cond.methodLink RX2 48 yX0_isOn, Cond.instanceMethod yX0_isOn, Cond.selects RX0 yX0_isOn yX0_isOn, Cond.code yX0_isOn cX0_isOn 3 (some .boolean), Cond.methodLink RX0 34 yX0_has, Cond.instanceMethod yX0_has]
def wsX2_baseLineAt_r2 : List Cond := [Cond.selects RX0 yX0_has yX0_has, Cond.code yX0_has cX0_has 3 (some .boolean), Cond.fieldLink RX0 9 "SkewFind$Picture" "width" "I", Cond.fieldLink RX0 15 "SkewFind$Picture" "height" "I", Cond.methodLink RX0 38 yX0_rowBits]
def wsX2_baseLineAt : List Cond := .code yX2_baseLineAt cX2_baseLineAt 13 (some .double) :: ((wsX2_baseLineAt_r1 ++ wsX2_baseLineAt_r2) ++ wsX20 ++ wsX00)
def wsX3_init : List Cond := .code yX3_init cX3_init 2 none :: ([.methodLink RX3 3 objectInit, .instanceMethod objectInit, .code objectInit ⟨#[0xb1]⟩ 1 none, .arrayClass .int, .fieldLink RX3 11 "SkewFind$Search" "endsOnLine" "[I", .fieldLink RX3 15 "SkewFind$Search" "asked" "Z", .fieldLink RX3 19 "SkewFind$Search" "sureOfBest" "Z", .fieldLink RX3 22 "SkewFind$Search" "gridMean" "D", .fieldLink RX3 26 "SkewFind$Search" "best" "I", .fieldLink RX3 30 "SkewFind$Search" "bestSum" "D", .fieldLink RX3 33 "SkewFind$Search" "picture" "LSkewFind$Picture;"] ++ wsX30)
def wsX3_forget : List Cond := .code yX3_forget cX3_forget 1 none :: ([.fieldLink RX3 15 "SkewFind$Search" "asked" "Z"] ++ wsX30)
def wsX3_isAsked : List Cond := .code yX3_isAsked cX3_isAsked 1 (some .boolean) :: ([.fieldLink RX3 15 "SkewFind$Search" "asked" "Z"] ++ wsX30)
def wsX3_isSure : List Cond := .code yX3_isSure cX3_isSure 1 (some .boolean) :: ([.fieldLink RX3 19 "SkewFind$Search" "sureOfBest" "Z"] ++ wsX30)
def wsX3_meanOfGrid : List Cond := .code yX3_meanOfGrid cX3_meanOfGrid 1 (some .double) :: ([.fieldLink RX3 22 "SkewFind$Search" "gridMean" "D"] ++ wsX30)
def wsX3_countOnLine : List Cond := .code yX3_countOnLine cX3_countOnLine 3 none :: ([.fieldLink RX3 11 "SkewFind$Search" "endsOnLine" "[I"] ++ wsX30)
def wsX3_countEnds : List Cond := .code yX3_countEnds cX3_countEnds 6 none :: ([.fieldLink RX3 11 "SkewFind$Search" "endsOnLine" "[I", .fieldLink RX3 33 "SkewFind$Search" "picture" "LSkewFind$Picture;", .fieldLink RX3 81 "SkewFind$Picture" "height" "I", .fieldLink RX3 88 "SkewFind$Picture" "width" "I", .methodLink RX3 84 yX0_runEndBits, .instanceMethod yX0_runEndBits, .selects RX0 yX0_runEndBits yX0_runEndBits, .initialized RX0, .code yX0_runEndBits cX0_runEndBits 3 (some .int), .methodLink RX0 38 yX0_rowBits, .instanceMethod yX0_rowBits, .selects RX0 yX0_rowBits yX0_rowBits, .code yX0_rowBits cX0_rowBits 2 (some .int), .fieldLink RX0 27 "SkewFind$Picture" "bits" "[I", .methodLink RX3 91 yX1_whole, .static yX1_whole, .initialized RX1, .code yX1_whole cX1_whole 5 (some .int), .constantDouble RX1 35 (4602678819172646912), .methodLink RX3 95 yX3_countOnLine, .instanceMethod yX3_countOnLine, .selects RX3 yX3_countOnLine yX3_countOnLine, .initialized RX3, .code yX3_countOnLine cX3_countOnLine 3 none] ++ wsX30 ++ wsX00)
def wsX3_squaresOfCounts : List Cond := .code yX3_squaresOfCounts cX3_squaresOfCounts 3 (some .int) :: ([.fieldLink RX3 11 "SkewFind$Search" "endsOnLine" "[I"] ++ wsX30)
def wsX3_sumAt_r1 : List Cond := [Cond.fieldLink RX3 33 "SkewFind$Search" "picture" "LSkewFind$Picture;", Cond.methodLink RX3 65 yX0_runEnds, Cond.instanceMethod yX0_runEnds, Cond.selects RX0 yX0_runEnds yX0_runEnds, Cond.initialized RX0, Cond.code yX0_runEnds cX0_runEnds 3 (some .int), Cond.fieldLink RX0 15 "SkewFind$Picture" "height" "I", Cond.methodLink RX0 60 yX0_runEndBits, Cond.instanceMethod yX0_runEndBits, Cond.selects RX0 yX0_runEndBits yX0_runEndBits, Cond.code yX0_runEndBits cX0_runEndBits 3 (some .int), Cond.methodLink RX0 38 yX0_rowBits, Cond.instanceMethod yX0_rowBits, Cond.selects RX0 yX0_rowBits yX0_rowBits, Cond.code yX0_rowBits cX0_rowBits 2 (some .int), Cond.fieldLink RX0 27 "SkewFind$Picture" "bits" "[I", Cond.methodLink RX0 55 yJ6_bitCount_0f7a4, Cond.static yJ6_bitCount_0f7a4, Cond.initialized RJ6, Cond.code yJ6_bitCount_0f7a4 cJ6_bitCount_0f7a4 1 (some .int), Cond.constant RJ6 265 (1431655765), Cond.constant RJ6 266 (858993459), Cond.constant RJ6 267 (252645135), Cond.methodLink RX3 68 yX1_slope]
def wsX3_sumAt_r2 : List Cond := [Cond.static yX1_slope, Cond.initialized RX1, Cond.code yX1_slope cX1_slope 6 (some .double), Cond.constantDouble RX1 17 (4599676419421066581), Cond.constantDouble RX1 19 (4593971859893063953), Cond.constantDouble RX1 21 (4587938466106554908), Cond.methodLink RX1 11 yX1_radians, Cond.static yX1_radians, Cond.code yX1_radians cX1_radians 2 (some .double), Cond.constantDouble RX1 7 (4614256656552045848), Cond.constantDouble RX1 9 (4670677016280825856), Cond.methodLink RX3 74 yX3_countEnds, Cond.instanceMethod yX3_countEnds, Cond.selects RX3 yX3_countEnds yX3_countEnds, Cond.initialized RX3, Cond.code yX3_countEnds cX3_countEnds 6 none, Cond.fieldLink RX3 11 "SkewFind$Search" "endsOnLine" "[I", Cond.fieldLink RX3 81 "SkewFind$Picture" "height" "I", Cond.fieldLink RX3 88 "SkewFind$Picture" "width" "I", Cond.methodLink RX3 84 yX0_runEndBits, Cond.methodLink RX3 91 yX1_whole, Cond.static yX1_whole, Cond.code yX1_whole cX1_whole 5 (some .int), Cond.constantDouble RX1 35 (4602678819172646912)]
def wsX3_sumAt_r3 : List Cond := [Cond.methodLink RX3 95 yX3_countOnLine, Cond.instanceMethod yX3_countOnLine, Cond.selects RX3 yX3_countOnLine yX3_countOnLine, Cond.code yX3_countOnLine cX3_countOnLine 3 none, Cond.methodLink RX3 78 yX3_squaresOfCounts, Cond.instanceMethod yX3_squaresOfCounts, Cond.selects RX3 yX3_squaresOfCounts yX3_squaresOfCounts, Cond.code yX3_squaresOfCounts cX3_squaresOfCounts 3 (some .int)]
def wsX3_sumAt : List Cond := .code yX3_sumAt cX3_sumAt 3 (some .double) :: ((wsX3_sumAt_r1 ++ (wsX3_sumAt_r2 ++ wsX3_sumAt_r3)) ++ wsX30 ++ wsX00)
def wsX3_take : List Cond := .code yX3_take cX3_take 4 none :: ([.fieldLink RX3 26 "SkewFind$Search" "best" "I", .fieldLink RX3 30 "SkewFind$Search" "bestSum" "D"] ++ wsX30)
def wsX3_tryGrid_r1 : List Cond := [Cond.fieldLink RX3 30 "SkewFind$Search" "bestSum" "D", Cond.fieldLink RX3 22 "SkewFind$Search" "gridMean" "D", Cond.methodLink RX3 57 yX3_sumAt, Cond.instanceMethod yX3_sumAt, Cond.selects RX3 yX3_sumAt yX3_sumAt, Cond.initialized RX3, Cond.code yX3_sumAt cX3_sumAt 3 (some .double), Cond.fieldLink RX3 33 "SkewFind$Search" "picture" "LSkewFind$Picture;", Cond.methodLink RX3 65 yX0_runEnds, Cond.instanceMethod yX0_runEnds, Cond.selects RX0 yX0_runEnds yX0_runEnds, Cond.initialized RX0, Cond.code yX0_runEnds cX0_runEnds 3 (some .int), Cond.fieldLink RX0 15 "SkewFind$Picture" "height" "I", Cond.methodLink RX0 60 yX0_runEndBits, Cond.instanceMethod yX0_runEndBits, Cond.selects RX0 yX0_runEndBits yX0_runEndBits, Cond.code yX0_runEndBits cX0_runEndBits 3 (some .int), Cond.methodLink RX0 38 yX0_rowBits, Cond.instanceMethod yX0_rowBits, Cond.selects RX0 yX0_rowBits yX0_rowBits, Cond.code yX0_rowBits cX0_rowBits 2 (some .int), Cond.fieldLink RX0 27 "SkewFind$Picture" "bits" "[I", Cond.methodLink RX0 55 yJ6_bitCount_0f7a4]
def wsX3_tryGrid_r2 : List Cond := [Cond.static yJ6_bitCount_0f7a4, Cond.initialized RJ6, Cond.code yJ6_bitCount_0f7a4 cJ6_bitCount_0f7a4 1 (some .int), Cond.constant RJ6 265 (1431655765), Cond.constant RJ6 266 (858993459), Cond.constant RJ6 267 (252645135), Cond.methodLink RX3 68 yX1_slope, Cond.static yX1_slope, Cond.initialized RX1, Cond.code yX1_slope cX1_slope 6 (some .double), Cond.constantDouble RX1 17 (4599676419421066581), Cond.constantDouble RX1 19 (4593971859893063953), Cond.constantDouble RX1 21 (4587938466106554908), Cond.methodLink RX1 11 yX1_radians, Cond.static yX1_radians, Cond.code yX1_radians cX1_radians 2 (some .double), Cond.constantDouble RX1 7 (4614256656552045848), Cond.constantDouble RX1 9 (4670677016280825856), Cond.methodLink RX3 74 yX3_countEnds, Cond.instanceMethod yX3_countEnds, Cond.selects RX3 yX3_countEnds yX3_countEnds, Cond.code yX3_countEnds cX3_countEnds 6 none, Cond.fieldLink RX3 11 "SkewFind$Search" "endsOnLine" "[I", Cond.fieldLink RX3 81 "SkewFind$Picture" "height" "I"]
def wsX3_tryGrid_r3 : List Cond := [Cond.fieldLink RX3 88 "SkewFind$Picture" "width" "I", Cond.methodLink RX3 84 yX0_runEndBits, Cond.methodLink RX3 91 yX1_whole, Cond.static yX1_whole, Cond.code yX1_whole cX1_whole 5 (some .int), Cond.constantDouble RX1 35 (4602678819172646912), Cond.methodLink RX3 95 yX3_countOnLine, Cond.instanceMethod yX3_countOnLine, Cond.selects RX3 yX3_countOnLine yX3_countOnLine, Cond.code yX3_countOnLine cX3_countOnLine 3 none, Cond.methodLink RX3 78 yX3_squaresOfCounts, Cond.instanceMethod yX3_squaresOfCounts, Cond.selects RX3 yX3_squaresOfCounts yX3_squaresOfCounts, Cond.code yX3_squaresOfCounts cX3_squaresOfCounts 3 (some .int), Cond.methodLink RX3 61 yX3_take, Cond.instanceMethod yX3_take, Cond.selects RX3 yX3_take yX3_take, Cond.code yX3_take cX3_take 4 none, Cond.fieldLink RX3 26 "SkewFind$Search" "best" "I"]
def wsX3_tryGrid : List Cond := .code yX3_tryGrid cX3_tryGrid 8 none :: ((wsX3_tryGrid_r1 ++ (wsX3_tryGrid_r2 ++ wsX3_tryGrid_r3)) ++ wsX30 ++ wsX00)
def wsX3_tryBeside_r1 : List Cond := [Cond.fieldLink RX3 26 "SkewFind$Search" "best" "I", Cond.fieldLink RX3 30 "SkewFind$Search" "bestSum" "D", Cond.methodLink RX3 57 yX3_sumAt, Cond.instanceMethod yX3_sumAt, Cond.selects RX3 yX3_sumAt yX3_sumAt, Cond.initialized RX3, Cond.code yX3_sumAt cX3_sumAt 3 (some .double), Cond.fieldLink RX3 33 "SkewFind$Search" "picture" "LSkewFind$Picture;", Cond.methodLink RX3 65 yX0_runEnds, Cond.instanceMethod yX0_runEnds, Cond.selects RX0 yX0_runEnds yX0_runEnds, Cond.initialized RX0, Cond.code yX0_runEnds cX0_runEnds 3 (some .int), Cond.fieldLink RX0 15 "SkewFind$Picture" "height" "I", Cond.methodLink RX0 60 yX0_runEndBits, Cond.instanceMethod yX0_runEndBits, Cond.selects RX0 yX0_runEndBits yX0_runEndBits, Cond.code yX0_runEndBits cX0_runEndBits 3 (some .int), Cond.methodLink RX0 38 yX0_rowBits, Cond.instanceMethod yX0_rowBits, Cond.selects RX0 yX0_rowBits yX0_rowBits, Cond.code yX0_rowBits cX0_rowBits 2 (some .int), Cond.fieldLink RX0 27 "SkewFind$Picture" "bits" "[I", Cond.methodLink RX0 55 yJ6_bitCount_0f7a4]
def wsX3_tryBeside_r2 : List Cond := [Cond.static yJ6_bitCount_0f7a4, Cond.initialized RJ6, Cond.code yJ6_bitCount_0f7a4 cJ6_bitCount_0f7a4 1 (some .int), Cond.constant RJ6 265 (1431655765), Cond.constant RJ6 266 (858993459), Cond.constant RJ6 267 (252645135), Cond.methodLink RX3 68 yX1_slope, Cond.static yX1_slope, Cond.initialized RX1, Cond.code yX1_slope cX1_slope 6 (some .double), Cond.constantDouble RX1 17 (4599676419421066581), Cond.constantDouble RX1 19 (4593971859893063953), Cond.constantDouble RX1 21 (4587938466106554908), Cond.methodLink RX1 11 yX1_radians, Cond.static yX1_radians, Cond.code yX1_radians cX1_radians 2 (some .double), Cond.constantDouble RX1 7 (4614256656552045848), Cond.constantDouble RX1 9 (4670677016280825856), Cond.methodLink RX3 74 yX3_countEnds, Cond.instanceMethod yX3_countEnds, Cond.selects RX3 yX3_countEnds yX3_countEnds, Cond.code yX3_countEnds cX3_countEnds 6 none, Cond.fieldLink RX3 11 "SkewFind$Search" "endsOnLine" "[I", Cond.fieldLink RX3 81 "SkewFind$Picture" "height" "I"]
def wsX3_tryBeside_r3 : List Cond := [Cond.fieldLink RX3 88 "SkewFind$Picture" "width" "I", Cond.methodLink RX3 84 yX0_runEndBits, Cond.methodLink RX3 91 yX1_whole, Cond.static yX1_whole, Cond.code yX1_whole cX1_whole 5 (some .int), Cond.constantDouble RX1 35 (4602678819172646912), Cond.methodLink RX3 95 yX3_countOnLine, Cond.instanceMethod yX3_countOnLine, Cond.selects RX3 yX3_countOnLine yX3_countOnLine, Cond.code yX3_countOnLine cX3_countOnLine 3 none, Cond.methodLink RX3 78 yX3_squaresOfCounts, Cond.instanceMethod yX3_squaresOfCounts, Cond.selects RX3 yX3_squaresOfCounts yX3_squaresOfCounts, Cond.code yX3_squaresOfCounts cX3_squaresOfCounts 3 (some .int), Cond.methodLink RX3 61 yX3_take, Cond.instanceMethod yX3_take, Cond.selects RX3 yX3_take yX3_take, Cond.code yX3_take cX3_take 4 none]
def wsX3_tryBeside : List Cond := .code yX3_tryBeside cX3_tryBeside 7 none :: ((wsX3_tryBeside_r1 ++ (wsX3_tryBeside_r2 ++ wsX3_tryBeside_r3)) ++ wsX30 ++ wsX00)
def wsX3_find_r1 : List Cond := [Cond.fieldLink RX3 15 "SkewFind$Search" "asked" "Z", Cond.fieldLink RX3 33 "SkewFind$Search" "picture" "LSkewFind$Picture;", Cond.fieldLink RX3 19 "SkewFind$Search" "sureOfBest" "Z", Cond.fieldLink RX3 22 "SkewFind$Search" "gridMean" "D", Cond.constant RX3 43 (100000), Cond.fieldLink RX3 48 "SkewFind$Search" "STEPS" "[I", Cond.fieldLink RX3 30 "SkewFind$Search" "bestSum" "D", Cond.constantDouble RX3 55 (4608308318706860032), Cond.fieldLink RX3 26 "SkewFind$Search" "best" "I", Cond.methodLink RX3 37 yX0_samplesOn, Cond.instanceMethod yX0_samplesOn, Cond.selects RX0 yX0_samplesOn yX0_samplesOn, Cond.initialized RX0, Cond.code yX0_samplesOn cX0_samplesOn 3 (some .int), Cond.fieldLink RX0 15 "SkewFind$Picture" "height" "I", Cond.methodLink RX0 38 yX0_rowBits, Cond.instanceMethod yX0_rowBits, Cond.selects RX0 yX0_rowBits yX0_rowBits, Cond.code yX0_rowBits cX0_rowBits 2 (some .int), Cond.fieldLink RX0 27 "SkewFind$Picture" "bits" "[I", Cond.methodLink RX0 55 yJ6_bitCount_0f7a4, Cond.static yJ6_bitCount_0f7a4, Cond.initialized RJ6, Cond.code yJ6_bitCount_0f7a4 cJ6_bitCount_0f7a4 1 (some .int)]
def wsX3_find_r2 : List Cond := [Cond.constant RJ6 265 (1431655765), Cond.constant RJ6 266 (858993459), Cond.constant RJ6 267 (252645135), Cond.methodLink RX3 44 yX3_tryGrid, Cond.instanceMethod yX3_tryGrid, Cond.selects RX3 yX3_tryGrid yX3_tryGrid, Cond.initialized RX3, Cond.code yX3_tryGrid cX3_tryGrid 8 none, Cond.methodLink RX3 57 yX3_sumAt, Cond.instanceMethod yX3_sumAt, Cond.selects RX3 yX3_sumAt yX3_sumAt, Cond.code yX3_sumAt cX3_sumAt 3 (some .double), Cond.methodLink RX3 65 yX0_runEnds, Cond.instanceMethod yX0_runEnds, Cond.selects RX0 yX0_runEnds yX0_runEnds, Cond.code yX0_runEnds cX0_runEnds 3 (some .int), Cond.methodLink RX0 60 yX0_runEndBits, Cond.instanceMethod yX0_runEndBits, Cond.selects RX0 yX0_runEndBits yX0_runEndBits, Cond.code yX0_runEndBits cX0_runEndBits 3 (some .int), Cond.methodLink RX3 68 yX1_slope, Cond.static yX1_slope, Cond.initialized RX1, Cond.code yX1_slope cX1_slope 6 (some .double)]
def wsX3_find_r3 : List Cond := [Cond.constantDouble RX1 17 (4599676419421066581), Cond.constantDouble RX1 19 (4593971859893063953), Cond.constantDouble RX1 21 (4587938466106554908), Cond.methodLink RX1 11 yX1_radians, Cond.static yX1_radians, Cond.code yX1_radians cX1_radians 2 (some .double), Cond.constantDouble RX1 7 (4614256656552045848), Cond.constantDouble RX1 9 (4670677016280825856), Cond.methodLink RX3 74 yX3_countEnds, Cond.instanceMethod yX3_countEnds, Cond.selects RX3 yX3_countEnds yX3_countEnds, Cond.code yX3_countEnds cX3_countEnds 6 none, Cond.fieldLink RX3 11 "SkewFind$Search" "endsOnLine" "[I", Cond.fieldLink RX3 81 "SkewFind$Picture" "height" "I", Cond.fieldLink RX3 88 "SkewFind$Picture" "width" "I", Cond.methodLink RX3 84 yX0_runEndBits, Cond.methodLink RX3 91 yX1_whole, Cond.static yX1_whole, Cond.code yX1_whole cX1_whole 5 (some .int), Cond.constantDouble RX1 35 (4602678819172646912), Cond.methodLink RX3 95 yX3_countOnLine, Cond.instanceMethod yX3_countOnLine, Cond.selects RX3 yX3_countOnLine yX3_countOnLine, Cond.code yX3_countOnLine cX3_countOnLine 3 none]
def wsX3_find_r4 : List Cond := [Cond.methodLink RX3 78 yX3_squaresOfCounts, Cond.instanceMethod yX3_squaresOfCounts, Cond.selects RX3 yX3_squaresOfCounts yX3_squaresOfCounts, Cond.code yX3_squaresOfCounts cX3_squaresOfCounts 3 (some .int), Cond.methodLink RX3 61 yX3_take, Cond.instanceMethod yX3_take, Cond.selects RX3 yX3_take yX3_take, Cond.code yX3_take cX3_take 4 none, Cond.methodLink RX3 51 yX3_tryBeside, Cond.instanceMethod yX3_tryBeside, Cond.selects RX3 yX3_tryBeside yX3_tryBeside, Cond.code yX3_tryBeside cX3_tryBeside 7 none]
def wsX3_find : List Cond := .code yX3_find cX3_find 3 (some .int) :: ((wsX3_find_r1 ++ (wsX3_find_r2 ++ (wsX3_find_r3 ++ wsX3_find_r4))) ++ wsX30 ++ wsX00)
def wsX4_open : List Cond := .code yX4_open cX4_open 1 none :: ([.fieldLink RX4 18 "SkewFind$Window" "left" "I", .fieldLink RX4 22 "SkewFind$Window" "upper" "I", .fieldLink RX4 9 "SkewFind$Window" "picture" "LSkewFind$Picture;", .fieldLink RX4 25 "SkewFind$Picture" "width" "I", .fieldLink RX4 30 "SkewFind$Window" "right" "I", .fieldLink RX4 33 "SkewFind$Picture" "height" "I", .fieldLink RX4 36 "SkewFind$Window" "lower" "I"] ++ wsX40 ++ wsX00)
def wsX4_init : List Cond := .code yX4_init cX4_init 2 none :: ([.methodLink RX4 3 objectInit, .instanceMethod objectInit, .code objectInit ⟨#[0xb1]⟩ 1 none, .fieldLink RX4 9 "SkewFind$Window" "picture" "LSkewFind$Picture;", .methodLink RX4 15 yX4_open, .instanceMethod yX4_open, .selects RX4 yX4_open yX4_open, .initialized RX4, .code yX4_open cX4_open 1 none, .fieldLink RX4 18 "SkewFind$Window" "left" "I", .fieldLink RX4 22 "SkewFind$Window" "upper" "I", .fieldLink RX4 25 "SkewFind$Picture" "width" "I", .fieldLink RX4 30 "SkewFind$Window" "right" "I", .fieldLink RX4 33 "SkewFind$Picture" "height" "I", .fieldLink RX4 36 "SkewFind$Window" "lower" "I"] ++ wsX40 ++ wsX00)
def wsX4_end : List Cond := .code yX4_end cX4_end 2 (some .int) :: ([.fieldLink RX4 18 "SkewFind$Window" "left" "I", .fieldLink RX4 22 "SkewFind$Window" "upper" "I", .fieldLink RX4 30 "SkewFind$Window" "right" "I", .fieldLink RX4 36 "SkewFind$Window" "lower" "I"] ++ wsX40)
def wsX4_columnIsEmpty : List Cond := .code yX4_columnIsEmpty cX4_columnIsEmpty 3 (some .boolean) :: ([.fieldLink RX4 9 "SkewFind$Window" "picture" "LSkewFind$Picture;", .fieldLink RX4 33 "SkewFind$Picture" "height" "I", .methodLink RX4 71 yX0_isOn, .instanceMethod yX0_isOn, .selects RX0 yX0_isOn yX0_isOn, .initialized RX0, .code yX0_isOn cX0_isOn 3 (some .boolean), .methodLink RX0 34 yX0_has, .instanceMethod yX0_has, .selects RX0 yX0_has yX0_has, .code yX0_has cX0_has 3 (some .boolean), .fieldLink RX0 9 "SkewFind$Picture" "width" "I", .fieldLink RX0 15 "SkewFind$Picture" "height" "I", .methodLink RX0 38 yX0_rowBits, .instanceMethod yX0_rowBits, .selects RX0 yX0_rowBits yX0_rowBits, .code yX0_rowBits cX0_rowBits 2 (some .int), .fieldLink RX0 27 "SkewFind$Picture" "bits" "[I"] ++ wsX40 ++ wsX00)
def wsX4_cropLeft_r1 : List Cond := [Cond.fieldLink RX4 18 "SkewFind$Window" "left" "I", Cond.fieldLink RX4 30 "SkewFind$Window" "right" "I", Cond.methodLink RX4 64 yX4_columnIsEmpty, Cond.instanceMethod yX4_columnIsEmpty, Cond.selects RX4 yX4_columnIsEmpty yX4_columnIsEmpty, Cond.initialized RX4, Cond.code yX4_columnIsEmpty cX4_columnIsEmpty 3 (some .boolean), Cond.fieldLink RX4 9 "SkewFind$Window" "picture" "LSkewFind$Picture;", Cond.fieldLink RX4 33 "SkewFind$Picture" "height" "I", Cond.methodLink RX4 71 yX0_isOn, Cond.instanceMethod yX0_isOn, Cond.selects RX0 yX0_isOn yX0_isOn, Cond.initialized RX0, Cond.code yX0_isOn cX0_isOn 3 (some .boolean), Cond.methodLink RX0 34 yX0_has, Cond.instanceMethod yX0_has, Cond.selects RX0 yX0_has yX0_has, Cond.code yX0_has cX0_has 3 (some .boolean), Cond.fieldLink RX0 9 "SkewFind$Picture" "width" "I", Cond.fieldLink RX0 15 "SkewFind$Picture" "height" "I", Cond.methodLink RX0 38 yX0_rowBits, Cond.instanceMethod yX0_rowBits, Cond.selects RX0 yX0_rowBits yX0_rowBits, Cond.code yX0_rowBits cX0_rowBits 2 (some .int)]
def wsX4_cropLeft_r2 : List Cond := [Cond.fieldLink RX0 27 "SkewFind$Picture" "bits" "[I"]
def wsX4_cropLeft : List Cond := .code yX4_cropLeft cX4_cropLeft 1 none :: ((wsX4_cropLeft_r1 ++ wsX4_cropLeft_r2) ++ wsX40 ++ wsX00)
def wsX4_cropUpper : List Cond := .code yX4_cropUpper cX4_cropUpper 1 none :: ([.fieldLink RX4 22 "SkewFind$Window" "upper" "I", .fieldLink RX4 36 "SkewFind$Window" "lower" "I", .fieldLink RX4 9 "SkewFind$Window" "picture" "LSkewFind$Picture;", .methodLink RX4 68 yX0_rowBits, .instanceMethod yX0_rowBits, .selects RX0 yX0_rowBits yX0_rowBits, .initialized RX0, .code yX0_rowBits cX0_rowBits 2 (some .int), .fieldLink RX0 27 "SkewFind$Picture" "bits" "[I"] ++ wsX40 ++ wsX00)
def wsX4_cropRight_r1 : List Cond := [Cond.fieldLink RX4 30 "SkewFind$Window" "right" "I", Cond.fieldLink RX4 18 "SkewFind$Window" "left" "I", Cond.methodLink RX4 64 yX4_columnIsEmpty, Cond.instanceMethod yX4_columnIsEmpty, Cond.selects RX4 yX4_columnIsEmpty yX4_columnIsEmpty, Cond.initialized RX4, Cond.code yX4_columnIsEmpty cX4_columnIsEmpty 3 (some .boolean), Cond.fieldLink RX4 9 "SkewFind$Window" "picture" "LSkewFind$Picture;", Cond.fieldLink RX4 33 "SkewFind$Picture" "height" "I", Cond.methodLink RX4 71 yX0_isOn, Cond.instanceMethod yX0_isOn, Cond.selects RX0 yX0_isOn yX0_isOn, Cond.initialized RX0, Cond.code yX0_isOn cX0_isOn 3 (some .boolean), Cond.methodLink RX0 34 yX0_has, Cond.instanceMethod yX0_has, Cond.selects RX0 yX0_has yX0_has, Cond.code yX0_has cX0_has 3 (some .boolean), Cond.fieldLink RX0 9 "SkewFind$Picture" "width" "I", Cond.fieldLink RX0 15 "SkewFind$Picture" "height" "I", Cond.methodLink RX0 38 yX0_rowBits, Cond.instanceMethod yX0_rowBits, Cond.selects RX0 yX0_rowBits yX0_rowBits, Cond.code yX0_rowBits cX0_rowBits 2 (some .int)]
def wsX4_cropRight_r2 : List Cond := [Cond.fieldLink RX0 27 "SkewFind$Picture" "bits" "[I"]
def wsX4_cropRight : List Cond := .code yX4_cropRight cX4_cropRight 1 none :: ((wsX4_cropRight_r1 ++ wsX4_cropRight_r2) ++ wsX40 ++ wsX00)
def wsX4_cropLower : List Cond := .code yX4_cropLower cX4_cropLower 1 none :: ([.fieldLink RX4 36 "SkewFind$Window" "lower" "I", .fieldLink RX4 22 "SkewFind$Window" "upper" "I", .fieldLink RX4 9 "SkewFind$Window" "picture" "LSkewFind$Picture;", .methodLink RX4 68 yX0_rowBits, .instanceMethod yX0_rowBits, .selects RX0 yX0_rowBits yX0_rowBits, .initialized RX0, .code yX0_rowBits cX0_rowBits 2 (some .int), .fieldLink RX0 27 "SkewFind$Picture" "bits" "[I"] ++ wsX40 ++ wsX00)
def wsX4_cropAt_r1 : List Cond := [Cond.fieldLink RX4 9 "SkewFind$Window" "picture" "LSkewFind$Picture;", Cond.methodLink RX4 59 Lib.Math.abs.name, Cond.static Lib.Math.abs.name, Cond.initialized "java/lang/Math", Cond.code Lib.Math.abs.name Lib.Math.abs.code 1 (some .int), Cond.methodLink RX4 39 yX0_samplesOn, Cond.instanceMethod yX0_samplesOn, Cond.selects RX0 yX0_samplesOn yX0_samplesOn, Cond.initialized RX0, Cond.code yX0_samplesOn cX0_samplesOn 3 (some .int), Cond.fieldLink RX0 15 "SkewFind$Picture" "height" "I", Cond.methodLink RX0 38 yX0_rowBits, Cond.instanceMethod yX0_rowBits, Cond.selects RX0 yX0_rowBits yX0_rowBits, Cond.code yX0_rowBits cX0_rowBits 2 (some .int), Cond.fieldLink RX0 27 "SkewFind$Picture" "bits" "[I", Cond.methodLink RX0 55 yJ6_bitCount_0f7a4, Cond.static yJ6_bitCount_0f7a4, Cond.initialized RJ6, Cond.code yJ6_bitCount_0f7a4 cJ6_bitCount_0f7a4 1 (some .int), Cond.constant RJ6 265 (1431655765), Cond.constant RJ6 266 (858993459), Cond.constant RJ6 267 (252645135), Cond.methodLink RX4 43 yX4_end]
def wsX4_cropAt_r2 : List Cond := [Cond.instanceMethod yX4_end, Cond.selects RX4 yX4_end yX4_end, Cond.initialized RX4, Cond.code yX4_end cX4_end 2 (some .int), Cond.fieldLink RX4 18 "SkewFind$Window" "left" "I", Cond.fieldLink RX4 22 "SkewFind$Window" "upper" "I", Cond.fieldLink RX4 30 "SkewFind$Window" "right" "I", Cond.fieldLink RX4 36 "SkewFind$Window" "lower" "I", Cond.methodLink RX4 47 yX4_cropLeft, Cond.instanceMethod yX4_cropLeft, Cond.selects RX4 yX4_cropLeft yX4_cropLeft, Cond.code yX4_cropLeft cX4_cropLeft 1 none, Cond.methodLink RX4 64 yX4_columnIsEmpty, Cond.instanceMethod yX4_columnIsEmpty, Cond.selects RX4 yX4_columnIsEmpty yX4_columnIsEmpty, Cond.code yX4_columnIsEmpty cX4_columnIsEmpty 3 (some .boolean), Cond.fieldLink RX4 33 "SkewFind$Picture" "height" "I", Cond.methodLink RX4 71 yX0_isOn, Cond.instanceMethod yX0_isOn, Cond.selects RX0 yX0_isOn yX0_isOn, Cond.code yX0_isOn cX0_isOn 3 (some .boolean), Cond.methodLink RX0 34 yX0_has, Cond.instanceMethod yX0_has, Cond.selects RX0 yX0_has yX0_has]
def wsX4_cropAt_r3 : List Cond := [Cond.code yX0_has cX0_has 3 (some .boolean), Cond.fieldLink RX0 9 "SkewFind$Picture" "width" "I", Cond.methodLink RX4 50 yX4_cropUpper, Cond.instanceMethod yX4_cropUpper, Cond.selects RX4 yX4_cropUpper yX4_cropUpper, Cond.code yX4_cropUpper cX4_cropUpper 1 none, Cond.methodLink RX4 68 yX0_rowBits, Cond.methodLink RX4 53 yX4_cropRight, Cond.instanceMethod yX4_cropRight, Cond.selects RX4 yX4_cropRight yX4_cropRight, Cond.code yX4_cropRight cX4_cropRight 1 none, Cond.methodLink RX4 56 yX4_cropLower, Cond.instanceMethod yX4_cropLower, Cond.selects RX4 yX4_cropLower yX4_cropLower, Cond.code yX4_cropLower cX4_cropLower 1 none]
def wsX4_cropAt : List Cond := .code yX4_cropAt cX4_cropAt 3 (some .int) :: ((wsX4_cropAt_r1 ++ (wsX4_cropAt_r2 ++ wsX4_cropAt_r3)) ++ wsX40 ++ wsX00)
def wsX5_nearestSide : List Cond := .code yX5_nearestSide cX5_nearestSide 1 (some .int) :: ([.methodLink RX5 174 Lib.Math.min.name, .static Lib.Math.min.name, .initialized "java/lang/Math", .code Lib.Math.min.name Lib.Math.min.code 2 (some .int), .methodLink RX5 179 Lib.Math.max.name, .static Lib.Math.max.name, .code Lib.Math.max.name Lib.Math.max.code 2 (some .int)])
def wsX5_init_r1 : List Cond := [Cond.methodLink RX5 1 objectInit, Cond.instanceMethod objectInit, Cond.code objectInit ⟨#[0xb1]⟩ 1 none, Cond.arrayClass .int, Cond.fieldLink RX5 9 "SkewFind" "turns" "[I", Cond.fieldLink RX5 13 "SkewFind" "turnCount" "I", Cond.classLink RX5 17 RX0, Cond.instantiable RX0 6, Cond.initialized RX0, Cond.fieldLink RX5 26 "SkewFind" "picture" "LSkewFind$Picture;", Cond.classLink RX5 30 RX4, Cond.instantiable RX4 5, Cond.initialized RX4, Cond.fieldLink RX5 35 "SkewFind" "window" "LSkewFind$Window;", Cond.classLink RX5 39 RX3, Cond.instantiable RX3 7, Cond.initialized RX3, Cond.fieldLink RX5 42 "SkewFind" "search" "LSkewFind$Search;", Cond.classLink RX5 46 RX2, Cond.instantiable RX2 1, Cond.initialized RX2, Cond.fieldLink RX5 49 "SkewFind" "rows" "LSkewFind$Rows;", Cond.methodLink RX5 19 yX5_nearestSide, Cond.static yX5_nearestSide]
def wsX5_init_r2 : List Cond := [Cond.initialized RX5, Cond.code yX5_nearestSide cX5_nearestSide 1 (some .int), Cond.methodLink RX5 174 Lib.Math.min.name, Cond.static Lib.Math.min.name, Cond.initialized "java/lang/Math", Cond.code Lib.Math.min.name Lib.Math.min.code 2 (some .int), Cond.methodLink RX5 179 Lib.Math.max.name, Cond.static Lib.Math.max.name, Cond.code Lib.Math.max.name Lib.Math.max.code 2 (some .int), Cond.methodLink RX5 23 yX0_init, Cond.instanceMethod yX0_init, Cond.code yX0_init cX0_init 3 none, Cond.methodLink RX0 3 objectInit, Cond.fieldLink RX0 9 "SkewFind$Picture" "width" "I", Cond.fieldLink RX0 15 "SkewFind$Picture" "height" "I", Cond.constantDouble RX0 18 (4611686018427387904), Cond.fieldLink RX0 20 "SkewFind$Picture" "middleX" "D", Cond.fieldLink RX0 24 "SkewFind$Picture" "middleY" "D", Cond.fieldLink RX0 27 "SkewFind$Picture" "bits" "[I", Cond.fieldLink RX0 31 "SkewFind$Picture" "oldBits" "[I", Cond.methodLink RX5 32 yX4_init, Cond.instanceMethod yX4_init, Cond.code yX4_init cX4_init 2 none, Cond.methodLink RX4 3 objectInit]
def wsX5_init_r3 : List Cond := [Cond.fieldLink RX4 9 "SkewFind$Window" "picture" "LSkewFind$Picture;", Cond.methodLink RX4 15 yX4_open, Cond.instanceMethod yX4_open, Cond.selects RX4 yX4_open yX4_open, Cond.code yX4_open cX4_open 1 none, Cond.fieldLink RX4 18 "SkewFind$Window" "left" "I", Cond.fieldLink RX4 22 "SkewFind$Window" "upper" "I", Cond.fieldLink RX4 25 "SkewFind$Picture" "width" "I", Cond.fieldLink RX4 30 "SkewFind$Window" "right" "I", Cond.fieldLink RX4 33 "SkewFind$Picture" "height" "I", Cond.fieldLink RX4 36 "SkewFind$Window" "lower" "I", Cond.methodLink RX5 41 yX3_init, Cond.instanceMethod yX3_init, Cond.code yX3_init cX3_init 2 none, Cond.methodLink RX3 3 objectInit, Cond.fieldLink RX3 11 "SkewFind$Search" "endsOnLine" "[I", Cond.fieldLink RX3 15 "SkewFind$Search" "asked" "Z", Cond.fieldLink RX3 19 "SkewFind$Search" "sureOfBest" "Z", Cond.fieldLink RX3 22 "SkewFind$Search" "gridMean" "D", Cond.fieldLink RX3 26 "SkewFind$Search" "best" "I", Cond.fieldLink RX3 30 "SkewFind$Search" "bestSum" "D", Cond.fieldLink RX3 33 "SkewFind$Search" "picture" "LSkewFind$Picture;", Cond.methodLink RX5 48 yX2_init, Cond.instanceMethod yX2_init]
def wsX5_init_r4 : List Cond := [Cond.code yX2_init cX2_init 2 none, Cond.methodLink RX2 3 objectInit, Cond.fieldLink RX2 9 "SkewFind$Rows" "picture" "LSkewFind$Picture;"]
def wsX5_init : List Cond := .code yX5_init cX5_init 3 none :: ((wsX5_init_r1 ++ (wsX5_init_r2 ++ (wsX5_init_r3 ++ wsX5_init_r4))) ++ wsX50 ++ wsX00 ++ wsX40 ++ wsX30 ++ wsX20)
def wsX5_checkSample : List Cond := .code yX5_checkSample cX5_checkSample 3 none :: ([.classLink RX5 191 "java/lang/IndexOutOfBoundsException", .initialized "java/lang/IndexOutOfBoundsException", .fieldLink RX5 26 "SkewFind" "picture" "LSkewFind$Picture;", .methodLink RX5 188 yX0_has, .instanceMethod yX0_has, .selects RX0 yX0_has yX0_has, .initialized RX0, .code yX0_has cX0_has 3 (some .boolean), .fieldLink RX0 9 "SkewFind$Picture" "width" "I", .fieldLink RX0 15 "SkewFind$Picture" "height" "I"] ++ wsX50 ++ wsX00 ++ (vx_atS RX5 195 "java/lang/IndexOutOfBoundsException" ["java/lang/RuntimeException", "java/lang/Exception"]).filter goodWord)
def wsX5_noteChange : List Cond := .code yX5_noteChange cX5_noteChange 1 none :: ([.fieldLink RX5 35 "SkewFind" "window" "LSkewFind$Window;", .fieldLink RX5 42 "SkewFind" "search" "LSkewFind$Search;", .methodLink RX5 182 yX4_open, .instanceMethod yX4_open, .selects RX4 yX4_open yX4_open, .initialized RX4, .code yX4_open cX4_open 1 none, .fieldLink RX4 18 "SkewFind$Window" "left" "I", .fieldLink RX4 22 "SkewFind$Window" "upper" "I", .fieldLink RX4 9 "SkewFind$Window" "picture" "LSkewFind$Picture;", .fieldLink RX4 25 "SkewFind$Picture" "width" "I", .fieldLink RX4 30 "SkewFind$Window" "right" "I", .fieldLink RX4 33 "SkewFind$Picture" "height" "I", .fieldLink RX4 36 "SkewFind$Window" "lower" "I", .methodLink RX5 185 yX3_forget, .instanceMethod yX3_forget, .selects RX3 yX3_forget yX3_forget, .initialized RX3, .code yX3_forget cX3_forget 1 none, .fieldLink RX3 15 "SkewFind$Search" "asked" "Z"] ++ wsX50 ++ wsX40 ++ wsX00 ++ wsX30)
def wsX5_put_r1 : List Cond := [Cond.classLink RX5 56 "java/lang/IllegalArgumentException", Cond.initialized "java/lang/IllegalArgumentException", Cond.fieldLink RX5 26 "SkewFind" "picture" "LSkewFind$Picture;", Cond.methodLink RX5 53 yX5_checkSample, Cond.instanceMethod yX5_checkSample, Cond.selects RX5 yX5_checkSample yX5_checkSample, Cond.initialized RX5, Cond.code yX5_checkSample cX5_checkSample 3 none, Cond.classLink RX5 191 "java/lang/IndexOutOfBoundsException", Cond.initialized "java/lang/IndexOutOfBoundsException", Cond.methodLink RX5 188 yX0_has, Cond.instanceMethod yX0_has, Cond.selects RX0 yX0_has yX0_has, Cond.initialized RX0, Cond.code yX0_has cX0_has 3 (some .boolean), Cond.fieldLink RX0 9 "SkewFind$Picture" "width" "I", Cond.fieldLink RX0 15 "SkewFind$Picture" "height" "I", Cond.methodLink RX5 63 yX0_fill, Cond.instanceMethod yX0_fill, Cond.selects RX0 yX0_fill yX0_fill, Cond.code yX0_fill cX0_fill 8 (some .int), Cond.methodLink RX0 42 Lib.Math.min.name, Cond.static Lib.Math.min.name, Cond.initialized "java/lang/Math"]
def wsX5_put_r2 : List Cond := [Cond.code Lib.Math.min.name Lib.Math.min.code 2 (some .int), Cond.methodLink RX0 34 yX0_has, Cond.methodLink RX0 48 yX0_bitsOf, Cond.static yX0_bitsOf, Cond.code yX0_bitsOf cX0_bitsOf 1 (some .int), Cond.methodLink RX0 38 yX0_rowBits, Cond.instanceMethod yX0_rowBits, Cond.selects RX0 yX0_rowBits yX0_rowBits, Cond.code yX0_rowBits cX0_rowBits 2 (some .int), Cond.fieldLink RX0 27 "SkewFind$Picture" "bits" "[I", Cond.methodLink RX0 51 yX0_setRowBits, Cond.instanceMethod yX0_setRowBits, Cond.selects RX0 yX0_setRowBits yX0_setRowBits, Cond.code yX0_setRowBits cX0_setRowBits 3 none, Cond.methodLink RX0 55 yJ6_bitCount_0f7a4, Cond.static yJ6_bitCount_0f7a4, Cond.initialized RJ6, Cond.code yJ6_bitCount_0f7a4 cJ6_bitCount_0f7a4 1 (some .int), Cond.constant RJ6 265 (1431655765), Cond.constant RJ6 266 (858993459), Cond.constant RJ6 267 (252645135), Cond.methodLink RX5 67 yX5_noteChange, Cond.instanceMethod yX5_noteChange, Cond.selects RX5 yX5_noteChange yX5_noteChange]
def wsX5_put_r3 : List Cond := [Cond.code yX5_noteChange cX5_noteChange 1 none, Cond.fieldLink RX5 35 "SkewFind" "window" "LSkewFind$Window;", Cond.fieldLink RX5 42 "SkewFind" "search" "LSkewFind$Search;", Cond.methodLink RX5 182 yX4_open, Cond.instanceMethod yX4_open, Cond.selects RX4 yX4_open yX4_open, Cond.initialized RX4, Cond.code yX4_open cX4_open 1 none, Cond.fieldLink RX4 18 "SkewFind$Window" "left" "I", Cond.fieldLink RX4 22 "SkewFind$Window" "upper" "I", Cond.fieldLink RX4 9 "SkewFind$Window" "picture" "LSkewFind$Picture;", Cond.fieldLink RX4 25 "SkewFind$Picture" "width" "I", Cond.fieldLink RX4 30 "SkewFind$Window" "right" "I", Cond.fieldLink RX4 33 "SkewFind$Picture" "height" "I", Cond.fieldLink RX4 36 "SkewFind$Window" "lower" "I", Cond.methodLink RX5 185 yX3_forget, Cond.instanceMethod yX3_forget, Cond.selects RX3 yX3_forget yX3_forget, Cond.initialized RX3, Cond.code yX3_forget cX3_forget 1 none, Cond.fieldLink RX3 15 "SkewFind$Search" "asked" "Z"]
def wsX5_put : List Cond := .code yX5_put cX5_put 6 (some .int) :: ((wsX5_put_r1 ++ (wsX5_put_r2 ++ wsX5_put_r3)) ++ wsX50 ++ wsX00 ++ wsX40 ++ wsX30 ++ (vx_atS RX5 60 "java/lang/IllegalArgumentException" ["java/lang/RuntimeException", "java/lang/Exception"]).filter goodWord ++ (vx_atS RX5 195 "java/lang/IndexOutOfBoundsException" ["java/lang/RuntimeException", "java/lang/Exception"]).filter goodWord)
def wsX5_at_r1 : List Cond := [Cond.fieldLink RX5 26 "SkewFind" "picture" "LSkewFind$Picture;", Cond.methodLink RX5 53 yX5_checkSample, Cond.instanceMethod yX5_checkSample, Cond.selects RX5 yX5_checkSample yX5_checkSample, Cond.initialized RX5, Cond.code yX5_checkSample cX5_checkSample 3 none, Cond.classLink RX5 191 "java/lang/IndexOutOfBoundsException", Cond.initialized "java/lang/IndexOutOfBoundsException", Cond.methodLink RX5 188 yX0_has, Cond.instanceMethod yX0_has, Cond.selects RX0 yX0_has yX0_has, Cond.initialized RX0, Cond.code yX0_has cX0_has 3 (some .boolean), Cond.fieldLink RX0 9 "SkewFind$Picture" "width" "I", Cond.fieldLink RX0 15 "SkewFind$Picture" "height" "I", Cond.methodLink RX5 70 yX0_isOn, Cond.instanceMethod yX0_isOn, Cond.selects RX0 yX0_isOn yX0_isOn, Cond.code yX0_isOn cX0_isOn 3 (some .boolean), Cond.methodLink RX0 34 yX0_has, Cond.methodLink RX0 38 yX0_rowBits, Cond.instanceMethod yX0_rowBits, Cond.selects RX0 yX0_rowBits yX0_rowBits, Cond.code yX0_rowBits cX0_rowBits 2 (some .int)]
def wsX5_at_r2 : List Cond := [Cond.fieldLink RX0 27 "SkewFind$Picture" "bits" "[I"]
def wsX5_at : List Cond := .code yX5_at cX5_at 3 (some .boolean) :: ((wsX5_at_r1 ++ wsX5_at_r2) ++ wsX50 ++ wsX00 ++ (vx_atS RX5 195 "java/lang/IndexOutOfBoundsException" ["java/lang/RuntimeException", "java/lang/Exception"]).filter goodWord)
def wsX5_checkAngle : List Cond := .code yX5_checkAngle cX5_checkAngle 1 none :: ([.classLink RX5 56 "java/lang/IllegalArgumentException", .initialized "java/lang/IllegalArgumentException"] ++ (vx_atS RX5 60 "java/lang/IllegalArgumentException" ["java/lang/RuntimeException", "java/lang/Exception"]).filter goodWord)
def wsX5_sum_r1 : List Cond := [Cond.fieldLink RX5 42 "SkewFind" "search" "LSkewFind$Search;", Cond.methodLink RX5 74 yX5_checkAngle, Cond.static yX5_checkAngle, Cond.initialized RX5, Cond.code yX5_checkAngle cX5_checkAngle 1 none, Cond.classLink RX5 56 "java/lang/IllegalArgumentException", Cond.initialized "java/lang/IllegalArgumentException", Cond.methodLink RX5 78 yX3_sumAt, Cond.instanceMethod yX3_sumAt, Cond.selects RX3 yX3_sumAt yX3_sumAt, Cond.initialized RX3, Cond.code yX3_sumAt cX3_sumAt 3 (some .double), Cond.fieldLink RX3 33 "SkewFind$Search" "picture" "LSkewFind$Picture;", Cond.methodLink RX3 65 yX0_runEnds, Cond.instanceMethod yX0_runEnds, Cond.selects RX0 yX0_runEnds yX0_runEnds, Cond.initialized RX0, Cond.code yX0_runEnds cX0_runEnds 3 (some .int), Cond.fieldLink RX0 15 "SkewFind$Picture" "height" "I", Cond.methodLink RX0 60 yX0_runEndBits, Cond.instanceMethod yX0_runEndBits, Cond.selects RX0 yX0_runEndBits yX0_runEndBits, Cond.code yX0_runEndBits cX0_runEndBits 3 (some .int), Cond.methodLink RX0 38 yX0_rowBits]
def wsX5_sum_r2 : List Cond := [Cond.instanceMethod yX0_rowBits, Cond.selects RX0 yX0_rowBits yX0_rowBits, Cond.code yX0_rowBits cX0_rowBits 2 (some .int), Cond.fieldLink RX0 27 "SkewFind$Picture" "bits" "[I", Cond.methodLink RX0 55 yJ6_bitCount_0f7a4, Cond.static yJ6_bitCount_0f7a4, Cond.initialized RJ6, Cond.code yJ6_bitCount_0f7a4 cJ6_bitCount_0f7a4 1 (some .int), Cond.constant RJ6 265 (1431655765), Cond.constant RJ6 266 (858993459), Cond.constant RJ6 267 (252645135), Cond.methodLink RX3 68 yX1_slope, Cond.static yX1_slope, Cond.initialized RX1, Cond.code yX1_slope cX1_slope 6 (some .double), Cond.constantDouble RX1 17 (4599676419421066581), Cond.constantDouble RX1 19 (4593971859893063953), Cond.constantDouble RX1 21 (4587938466106554908), Cond.methodLink RX1 11 yX1_radians, Cond.static yX1_radians, Cond.code yX1_radians cX1_radians 2 (some .double), Cond.constantDouble RX1 7 (4614256656552045848), Cond.constantDouble RX1 9 (4670677016280825856), Cond.methodLink RX3 74 yX3_countEnds]
def wsX5_sum_r3 : List Cond := [Cond.instanceMethod yX3_countEnds, Cond.selects RX3 yX3_countEnds yX3_countEnds, Cond.code yX3_countEnds cX3_countEnds 6 none, Cond.fieldLink RX3 11 "SkewFind$Search" "endsOnLine" "[I", Cond.fieldLink RX3 81 "SkewFind$Picture" "height" "I", Cond.fieldLink RX3 88 "SkewFind$Picture" "width" "I", Cond.methodLink RX3 84 yX0_runEndBits, Cond.methodLink RX3 91 yX1_whole, Cond.static yX1_whole, Cond.code yX1_whole cX1_whole 5 (some .int), Cond.constantDouble RX1 35 (4602678819172646912), Cond.methodLink RX3 95 yX3_countOnLine, Cond.instanceMethod yX3_countOnLine, Cond.selects RX3 yX3_countOnLine yX3_countOnLine, Cond.code yX3_countOnLine cX3_countOnLine 3 none, Cond.methodLink RX3 78 yX3_squaresOfCounts, Cond.instanceMethod yX3_squaresOfCounts, Cond.selects RX3 yX3_squaresOfCounts yX3_squaresOfCounts, Cond.code yX3_squaresOfCounts cX3_squaresOfCounts 3 (some .int)]
def wsX5_sum : List Cond := .code yX5_sum cX5_sum 2 (some .double) :: ((wsX5_sum_r1 ++ (wsX5_sum_r2 ++ wsX5_sum_r3)) ++ wsX50 ++ wsX30 ++ wsX00 ++ (vx_atS RX5 60 "java/lang/IllegalArgumentException" ["java/lang/RuntimeException", "java/lang/Exception"]).filter goodWord)
def wsX5_angle_r1 : List Cond := [Cond.classLink RX5 56 "java/lang/IllegalArgumentException", Cond.initialized "java/lang/IllegalArgumentException", Cond.fieldLink RX5 42 "SkewFind" "search" "LSkewFind$Search;", Cond.methodLink RX5 84 yX3_find, Cond.instanceMethod yX3_find, Cond.selects RX3 yX3_find yX3_find, Cond.initialized RX3, Cond.code yX3_find cX3_find 3 (some .int), Cond.fieldLink RX3 15 "SkewFind$Search" "asked" "Z", Cond.fieldLink RX3 33 "SkewFind$Search" "picture" "LSkewFind$Picture;", Cond.fieldLink RX3 19 "SkewFind$Search" "sureOfBest" "Z", Cond.fieldLink RX3 22 "SkewFind$Search" "gridMean" "D", Cond.constant RX3 43 (100000), Cond.fieldLink RX3 48 "SkewFind$Search" "STEPS" "[I", Cond.fieldLink RX3 30 "SkewFind$Search" "bestSum" "D", Cond.constantDouble RX3 55 (4608308318706860032), Cond.fieldLink RX3 26 "SkewFind$Search" "best" "I", Cond.methodLink RX3 37 yX0_samplesOn, Cond.instanceMethod yX0_samplesOn, Cond.selects RX0 yX0_samplesOn yX0_samplesOn, Cond.initialized RX0, Cond.code yX0_samplesOn cX0_samplesOn 3 (some .int), Cond.fieldLink RX0 15 "SkewFind$Picture" "height" "I", Cond.methodLink RX0 38 yX0_rowBits]
def wsX5_angle_r2 : List Cond := [Cond.instanceMethod yX0_rowBits, Cond.selects RX0 yX0_rowBits yX0_rowBits, Cond.code yX0_rowBits cX0_rowBits 2 (some .int), Cond.fieldLink RX0 27 "SkewFind$Picture" "bits" "[I", Cond.methodLink RX0 55 yJ6_bitCount_0f7a4, Cond.static yJ6_bitCount_0f7a4, Cond.initialized RJ6, Cond.code yJ6_bitCount_0f7a4 cJ6_bitCount_0f7a4 1 (some .int), Cond.constant RJ6 265 (1431655765), Cond.constant RJ6 266 (858993459), Cond.constant RJ6 267 (252645135), Cond.methodLink RX3 44 yX3_tryGrid, Cond.instanceMethod yX3_tryGrid, Cond.selects RX3 yX3_tryGrid yX3_tryGrid, Cond.code yX3_tryGrid cX3_tryGrid 8 none, Cond.methodLink RX3 57 yX3_sumAt, Cond.instanceMethod yX3_sumAt, Cond.selects RX3 yX3_sumAt yX3_sumAt, Cond.code yX3_sumAt cX3_sumAt 3 (some .double), Cond.methodLink RX3 65 yX0_runEnds, Cond.instanceMethod yX0_runEnds, Cond.selects RX0 yX0_runEnds yX0_runEnds, Cond.code yX0_runEnds cX0_runEnds 3 (some .int), Cond.methodLink RX0 60 yX0_runEndBits]
def wsX5_angle_r3 : List Cond := [Cond.instanceMethod yX0_runEndBits, Cond.selects RX0 yX0_runEndBits yX0_runEndBits, Cond.code yX0_runEndBits cX0_runEndBits 3 (some .int), Cond.methodLink RX3 68 yX1_slope, Cond.static yX1_slope, Cond.initialized RX1, Cond.code yX1_slope cX1_slope 6 (some .double), Cond.constantDouble RX1 17 (4599676419421066581), Cond.constantDouble RX1 19 (4593971859893063953), Cond.constantDouble RX1 21 (4587938466106554908), Cond.methodLink RX1 11 yX1_radians, Cond.static yX1_radians, Cond.code yX1_radians cX1_radians 2 (some .double), Cond.constantDouble RX1 7 (4614256656552045848), Cond.constantDouble RX1 9 (4670677016280825856), Cond.methodLink RX3 74 yX3_countEnds, Cond.instanceMethod yX3_countEnds, Cond.selects RX3 yX3_countEnds yX3_countEnds, Cond.code yX3_countEnds cX3_countEnds 6 none, Cond.fieldLink RX3 11 "SkewFind$Search" "endsOnLine" "[I", Cond.fieldLink RX3 81 "SkewFind$Picture" "height" "I", Cond.fieldLink RX3 88 "SkewFind$Picture" "width" "I", Cond.methodLink RX3 84 yX0_runEndBits, Cond.methodLink RX3 91 yX1_whole]
def wsX5_angle_r4 : List Cond := [Cond.static yX1_whole, Cond.code yX1_whole cX1_whole 5 (some .int), Cond.constantDouble RX1 35 (4602678819172646912), Cond.methodLink RX3 95 yX3_countOnLine, Cond.instanceMethod yX3_countOnLine, Cond.selects RX3 yX3_countOnLine yX3_countOnLine, Cond.code yX3_countOnLine cX3_countOnLine 3 none, Cond.methodLink RX3 78 yX3_squaresOfCounts, Cond.instanceMethod yX3_squaresOfCounts, Cond.selects RX3 yX3_squaresOfCounts yX3_squaresOfCounts, Cond.code yX3_squaresOfCounts cX3_squaresOfCounts 3 (some .int), Cond.methodLink RX3 61 yX3_take, Cond.instanceMethod yX3_take, Cond.selects RX3 yX3_take yX3_take, Cond.code yX3_take cX3_take 4 none, Cond.methodLink RX3 51 yX3_tryBeside, Cond.instanceMethod yX3_tryBeside, Cond.selects RX3 yX3_tryBeside yX3_tryBeside, Cond.code yX3_tryBeside cX3_tryBeside 7 none]
def wsX5_angle : List Cond := .code yX5_angle cX5_angle 2 (some .int) :: ((wsX5_angle_r1 ++ (wsX5_angle_r2 ++ (wsX5_angle_r3 ++ wsX5_angle_r4))) ++ wsX50 ++ wsX30 ++ wsX00 ++ (vx_atS RX5 60 "java/lang/IllegalArgumentException" ["java/lang/RuntimeException", "java/lang/Exception"]).filter goodWord)
def wsX5_checkAsked : List Cond := .code yX5_checkAsked cX5_checkAsked 1 none :: ([.classLink RX5 205 "java/lang/IllegalStateException", .initialized "java/lang/IllegalStateException", .fieldLink RX5 42 "SkewFind" "search" "LSkewFind$Search;", .methodLink RX5 202 yX3_isAsked, .instanceMethod yX3_isAsked, .selects RX3 yX3_isAsked yX3_isAsked, .initialized RX3, .code yX3_isAsked cX3_isAsked 1 (some .boolean), .fieldLink RX3 15 "SkewFind$Search" "asked" "Z"] ++ wsX50 ++ wsX30 ++ (vx_atS RX5 209 "java/lang/IllegalStateException" ["java/lang/RuntimeException", "java/lang/Exception"]).filter goodWord)
def wsX5_sure : List Cond := .code yX5_sure cX5_sure 1 (some .boolean) :: ([.fieldLink RX5 42 "SkewFind" "search" "LSkewFind$Search;", .methodLink RX5 87 yX5_checkAsked, .instanceMethod yX5_checkAsked, .selects RX5 yX5_checkAsked yX5_checkAsked, .initialized RX5, .code yX5_checkAsked cX5_checkAsked 1 none, .classLink RX5 205 "java/lang/IllegalStateException", .initialized "java/lang/IllegalStateException", .methodLink RX5 202 yX3_isAsked, .instanceMethod yX3_isAsked, .selects RX3 yX3_isAsked yX3_isAsked, .initialized RX3, .code yX3_isAsked cX3_isAsked 1 (some .boolean), .fieldLink RX3 15 "SkewFind$Search" "asked" "Z", .methodLink RX5 90 yX3_isSure, .instanceMethod yX3_isSure, .selects RX3 yX3_isSure yX3_isSure, .code yX3_isSure cX3_isSure 1 (some .boolean), .fieldLink RX3 19 "SkewFind$Search" "sureOfBest" "Z"] ++ wsX50 ++ wsX30 ++ (vx_atS RX5 209 "java/lang/IllegalStateException" ["java/lang/RuntimeException", "java/lang/Exception"]).filter goodWord)
def wsX5_mean : List Cond := .code yX5_mean cX5_mean 1 (some .double) :: ([.fieldLink RX5 42 "SkewFind" "search" "LSkewFind$Search;", .methodLink RX5 87 yX5_checkAsked, .instanceMethod yX5_checkAsked, .selects RX5 yX5_checkAsked yX5_checkAsked, .initialized RX5, .code yX5_checkAsked cX5_checkAsked 1 none, .classLink RX5 205 "java/lang/IllegalStateException", .initialized "java/lang/IllegalStateException", .methodLink RX5 202 yX3_isAsked, .instanceMethod yX3_isAsked, .selects RX3 yX3_isAsked yX3_isAsked, .initialized RX3, .code yX3_isAsked cX3_isAsked 1 (some .boolean), .fieldLink RX3 15 "SkewFind$Search" "asked" "Z", .methodLink RX5 94 yX3_meanOfGrid, .instanceMethod yX3_meanOfGrid, .selects RX3 yX3_meanOfGrid yX3_meanOfGrid, .code yX3_meanOfGrid cX3_meanOfGrid 1 (some .double), .fieldLink RX3 22 "SkewFind$Search" "gridMean" "D"] ++ wsX50 ++ wsX30 ++ (vx_atS RX5 209 "java/lang/IllegalStateException" ["java/lang/RuntimeException", "java/lang/Exception"]).filter goodWord)
def wsX5_turn_r1 : List Cond := [Cond.classLink RX5 104 "java/lang/UnsupportedOperationException", Cond.initialized "java/lang/UnsupportedOperationException", Cond.fieldLink RX5 13 "SkewFind" "turnCount" "I", Cond.fieldLink RX5 26 "SkewFind" "picture" "LSkewFind$Picture;", Cond.fieldLink RX5 9 "SkewFind" "turns" "[I", Cond.methodLink RX5 74 yX5_checkAngle, Cond.static yX5_checkAngle, Cond.initialized RX5, Cond.code yX5_checkAngle cX5_checkAngle 1 none, Cond.classLink RX5 56 "java/lang/IllegalArgumentException", Cond.initialized "java/lang/IllegalArgumentException", Cond.methodLink RX5 98 yX0_turnBySampling, Cond.instanceMethod yX0_turnBySampling, Cond.selects RX0 yX0_turnBySampling yX0_turnBySampling, Cond.initialized RX0, Cond.code yX0_turnBySampling cX0_turnBySampling 7 none, Cond.fieldLink RX0 15 "SkewFind$Picture" "height" "I", Cond.methodLink RX0 72 yX1_sine, Cond.static yX1_sine, Cond.initialized RX1, Cond.code yX1_sine cX1_sine 6 (some .double), Cond.constantDouble RX1 23 (13818544856648471893), Cond.constantDouble RX1 25 (4575957461383581969), Cond.constantDouble RX1 27 (13774824197408792602)]
def wsX5_turn_r2 : List Cond := [Cond.methodLink RX1 11 yX1_radians, Cond.static yX1_radians, Cond.code yX1_radians cX1_radians 2 (some .double), Cond.constantDouble RX1 7 (4614256656552045848), Cond.constantDouble RX1 9 (4670677016280825856), Cond.methodLink RX0 101 yX1_cosine, Cond.static yX1_cosine, Cond.code yX1_cosine cX1_cosine 6 (some .double), Cond.constantDouble RX1 29 (13826050856027422720), Cond.constantDouble RX1 31 (4586165620538955093), Cond.constantDouble RX1 33 (13787419979223755799), Cond.methodLink RX0 92 yX0_keepOldBits, Cond.instanceMethod yX0_keepOldBits, Cond.selects RX0 yX0_keepOldBits yX0_keepOldBits, Cond.code yX0_keepOldBits cX0_keepOldBits 2 none, Cond.fieldLink RX0 31 "SkewFind$Picture" "oldBits" "[I", Cond.methodLink RX0 38 yX0_rowBits, Cond.instanceMethod yX0_rowBits, Cond.selects RX0 yX0_rowBits yX0_rowBits, Cond.code yX0_rowBits cX0_rowBits 2 (some .int), Cond.fieldLink RX0 27 "SkewFind$Picture" "bits" "[I", Cond.methodLink RX0 104 yX0_sampledRow, Cond.instanceMethod yX0_sampledRow, Cond.selects RX0 yX0_sampledRow yX0_sampledRow]
def wsX5_turn_r3 : List Cond := [Cond.code yX0_sampledRow cX0_sampledRow 10 (some .int), Cond.fieldLink RX0 9 "SkewFind$Picture" "width" "I", Cond.fieldLink RX0 20 "SkewFind$Picture" "middleX" "D", Cond.fieldLink RX0 24 "SkewFind$Picture" "middleY" "D", Cond.methodLink RX0 82 yX1_whole, Cond.static yX1_whole, Cond.code yX1_whole cX1_whole 5 (some .int), Cond.constantDouble RX1 35 (4602678819172646912), Cond.methodLink RX0 34 yX0_has, Cond.instanceMethod yX0_has, Cond.selects RX0 yX0_has yX0_has, Cond.code yX0_has cX0_has 3 (some .boolean), Cond.methodLink RX0 98 yX0_oldRowBits, Cond.instanceMethod yX0_oldRowBits, Cond.selects RX0 yX0_oldRowBits yX0_oldRowBits, Cond.code yX0_oldRowBits cX0_oldRowBits 2 (some .int), Cond.methodLink RX0 51 yX0_setRowBits, Cond.instanceMethod yX0_setRowBits, Cond.selects RX0 yX0_setRowBits yX0_setRowBits, Cond.code yX0_setRowBits cX0_setRowBits 3 none, Cond.methodLink RX5 101 yX0_turnByShears, Cond.instanceMethod yX0_turnByShears, Cond.selects RX0 yX0_turnByShears yX0_turnByShears, Cond.code yX0_turnByShears cX0_turnByShears 2 none]
def wsX5_turn_r4 : List Cond := [Cond.methodLink RX0 63 yX0_shearAll, Cond.instanceMethod yX0_shearAll, Cond.selects RX0 yX0_shearAll yX0_shearAll, Cond.code yX0_shearAll cX0_shearAll 7 none, Cond.constantDouble RX0 18 (4611686018427387904), Cond.methodLink RX0 66 yX1_slope, Cond.static yX1_slope, Cond.code yX1_slope cX1_slope 6 (some .double), Cond.constantDouble RX1 17 (4599676419421066581), Cond.constantDouble RX1 19 (4593971859893063953), Cond.constantDouble RX1 21 (4587938466106554908), Cond.methodLink RX0 75 yX0_shearRows, Cond.instanceMethod yX0_shearRows, Cond.selects RX0 yX0_shearRows yX0_shearRows, Cond.code yX0_shearRows cX0_shearRows 6 none, Cond.methodLink RX0 86 yX0_movedRight, Cond.instanceMethod yX0_movedRight, Cond.selects RX0 yX0_movedRight yX0_movedRight, Cond.code yX0_movedRight cX0_movedRight 4 (some .int), Cond.methodLink RX0 89 yX1_wrapped, Cond.static yX1_wrapped, Cond.code yX1_wrapped cX1_wrapped 2 (some .int), Cond.methodLink RX1 37 yJ9_floorMod_7cf53, Cond.static yJ9_floorMod_7cf53]
def wsX5_turn_r5 : List Cond := [Cond.initialized RJ9, Cond.code yJ9_floorMod_7cf53 cJ9_floorMod_7cf53 3 (some .int), Cond.methodLink RX0 48 yX0_bitsOf, Cond.static yX0_bitsOf, Cond.code yX0_bitsOf cX0_bitsOf 1 (some .int), Cond.methodLink RX0 79 yX0_shearColumns, Cond.instanceMethod yX0_shearColumns, Cond.selects RX0 yX0_shearColumns yX0_shearColumns, Cond.code yX0_shearColumns cX0_shearColumns 8 none, Cond.methodLink RX0 95 yX0_wipe, Cond.instanceMethod yX0_wipe, Cond.selects RX0 yX0_wipe yX0_wipe, Cond.code yX0_wipe cX0_wipe 2 none, Cond.methodLink RX5 67 yX5_noteChange, Cond.instanceMethod yX5_noteChange, Cond.selects RX5 yX5_noteChange yX5_noteChange, Cond.code yX5_noteChange cX5_noteChange 1 none, Cond.fieldLink RX5 35 "SkewFind" "window" "LSkewFind$Window;", Cond.fieldLink RX5 42 "SkewFind" "search" "LSkewFind$Search;", Cond.methodLink RX5 182 yX4_open, Cond.instanceMethod yX4_open, Cond.selects RX4 yX4_open yX4_open, Cond.initialized RX4, Cond.code yX4_open cX4_open 1 none]
def wsX5_turn_r6 : List Cond := [Cond.fieldLink RX4 18 "SkewFind$Window" "left" "I", Cond.fieldLink RX4 22 "SkewFind$Window" "upper" "I", Cond.fieldLink RX4 9 "SkewFind$Window" "picture" "LSkewFind$Picture;", Cond.fieldLink RX4 25 "SkewFind$Picture" "width" "I", Cond.fieldLink RX4 30 "SkewFind$Window" "right" "I", Cond.fieldLink RX4 33 "SkewFind$Picture" "height" "I", Cond.fieldLink RX4 36 "SkewFind$Window" "lower" "I", Cond.methodLink RX5 185 yX3_forget, Cond.instanceMethod yX3_forget, Cond.selects RX3 yX3_forget yX3_forget, Cond.initialized RX3, Cond.code yX3_forget cX3_forget 1 none, Cond.fieldLink RX3 15 "SkewFind$Search" "asked" "Z", Cond.methodLink RX5 109 yX0_samplesOn, Cond.instanceMethod yX0_samplesOn, Cond.selects RX0 yX0_samplesOn yX0_samplesOn, Cond.code yX0_samplesOn cX0_samplesOn 3 (some .int), Cond.methodLink RX0 55 yJ6_bitCount_0f7a4, Cond.static yJ6_bitCount_0f7a4, Cond.initialized RJ6, Cond.code yJ6_bitCount_0f7a4 cJ6_bitCount_0f7a4 1 (some .int), Cond.constant RJ6 265 (1431655765), Cond.constant RJ6 266 (858993459), Cond.constant RJ6 267 (252645135)]
def wsX5_turn : List Cond := .code yX5_turn cX5_turn 3 (some .int) :: ((wsX5_turn_r1 ++ (wsX5_turn_r2 ++ (wsX5_turn_r3 ++ (wsX5_turn_r4 ++ (wsX5_turn_r5 ++ wsX5_turn_r6))))) ++ wsX50 ++ wsX00 ++ wsX40 ++ wsX30 ++ (vx_atS RX5 108 "java/lang/UnsupportedOperationException" ["java/lang/RuntimeException", "java/lang/Exception"]).filter goodWord ++ (vx_atS RX5 60 "java/lang/IllegalArgumentException" ["java/lang/RuntimeException", "java/lang/Exception"]).filter goodWord)
def wsX5_back_r1 : List Cond := [Cond.fieldLink RX5 13 "SkewFind" "turnCount" "I", Cond.fieldLink RX5 9 "SkewFind" "turns" "[I", Cond.fieldLink RX5 26 "SkewFind" "picture" "LSkewFind$Picture;", Cond.methodLink RX5 113 yX0_turnBackByShears, Cond.instanceMethod yX0_turnBackByShears, Cond.selects RX0 yX0_turnBackByShears yX0_turnBackByShears, Cond.initialized RX0, Cond.code yX0_turnBackByShears cX0_turnBackByShears 2 none, Cond.methodLink RX0 63 yX0_shearAll, Cond.instanceMethod yX0_shearAll, Cond.selects RX0 yX0_shearAll yX0_shearAll, Cond.code yX0_shearAll cX0_shearAll 7 none, Cond.constantDouble RX0 18 (4611686018427387904), Cond.methodLink RX0 66 yX1_slope, Cond.static yX1_slope, Cond.initialized RX1, Cond.code yX1_slope cX1_slope 6 (some .double), Cond.constantDouble RX1 17 (4599676419421066581), Cond.constantDouble RX1 19 (4593971859893063953), Cond.constantDouble RX1 21 (4587938466106554908), Cond.methodLink RX1 11 yX1_radians, Cond.static yX1_radians, Cond.code yX1_radians cX1_radians 2 (some .double), Cond.constantDouble RX1 7 (4614256656552045848)]
def wsX5_back_r2 : List Cond := [Cond.constantDouble RX1 9 (4670677016280825856), Cond.methodLink RX0 72 yX1_sine, Cond.static yX1_sine, Cond.code yX1_sine cX1_sine 6 (some .double), Cond.constantDouble RX1 23 (13818544856648471893), Cond.constantDouble RX1 25 (4575957461383581969), Cond.constantDouble RX1 27 (13774824197408792602), Cond.methodLink RX0 75 yX0_shearRows, Cond.instanceMethod yX0_shearRows, Cond.selects RX0 yX0_shearRows yX0_shearRows, Cond.code yX0_shearRows cX0_shearRows 6 none, Cond.fieldLink RX0 15 "SkewFind$Picture" "height" "I", Cond.fieldLink RX0 24 "SkewFind$Picture" "middleY" "D", Cond.methodLink RX0 82 yX1_whole, Cond.static yX1_whole, Cond.code yX1_whole cX1_whole 5 (some .int), Cond.constantDouble RX1 35 (4602678819172646912), Cond.methodLink RX0 38 yX0_rowBits, Cond.instanceMethod yX0_rowBits, Cond.selects RX0 yX0_rowBits yX0_rowBits, Cond.code yX0_rowBits cX0_rowBits 2 (some .int), Cond.fieldLink RX0 27 "SkewFind$Picture" "bits" "[I", Cond.methodLink RX0 86 yX0_movedRight, Cond.instanceMethod yX0_movedRight]
def wsX5_back_r3 : List Cond := [Cond.selects RX0 yX0_movedRight yX0_movedRight, Cond.code yX0_movedRight cX0_movedRight 4 (some .int), Cond.fieldLink RX0 9 "SkewFind$Picture" "width" "I", Cond.methodLink RX0 89 yX1_wrapped, Cond.static yX1_wrapped, Cond.code yX1_wrapped cX1_wrapped 2 (some .int), Cond.methodLink RX1 37 yJ9_floorMod_7cf53, Cond.static yJ9_floorMod_7cf53, Cond.initialized RJ9, Cond.code yJ9_floorMod_7cf53 cJ9_floorMod_7cf53 3 (some .int), Cond.methodLink RX0 48 yX0_bitsOf, Cond.static yX0_bitsOf, Cond.code yX0_bitsOf cX0_bitsOf 1 (some .int), Cond.methodLink RX0 51 yX0_setRowBits, Cond.instanceMethod yX0_setRowBits, Cond.selects RX0 yX0_setRowBits yX0_setRowBits, Cond.code yX0_setRowBits cX0_setRowBits 3 none, Cond.methodLink RX0 79 yX0_shearColumns, Cond.instanceMethod yX0_shearColumns, Cond.selects RX0 yX0_shearColumns yX0_shearColumns, Cond.code yX0_shearColumns cX0_shearColumns 8 none, Cond.fieldLink RX0 20 "SkewFind$Picture" "middleX" "D", Cond.methodLink RX0 92 yX0_keepOldBits, Cond.instanceMethod yX0_keepOldBits]
def wsX5_back_r4 : List Cond := [Cond.selects RX0 yX0_keepOldBits yX0_keepOldBits, Cond.code yX0_keepOldBits cX0_keepOldBits 2 none, Cond.fieldLink RX0 31 "SkewFind$Picture" "oldBits" "[I", Cond.methodLink RX0 95 yX0_wipe, Cond.instanceMethod yX0_wipe, Cond.selects RX0 yX0_wipe yX0_wipe, Cond.code yX0_wipe cX0_wipe 2 none, Cond.methodLink RX0 98 yX0_oldRowBits, Cond.instanceMethod yX0_oldRowBits, Cond.selects RX0 yX0_oldRowBits yX0_oldRowBits, Cond.code yX0_oldRowBits cX0_oldRowBits 2 (some .int), Cond.methodLink RX5 67 yX5_noteChange, Cond.instanceMethod yX5_noteChange, Cond.selects RX5 yX5_noteChange yX5_noteChange, Cond.initialized RX5, Cond.code yX5_noteChange cX5_noteChange 1 none, Cond.fieldLink RX5 35 "SkewFind" "window" "LSkewFind$Window;", Cond.fieldLink RX5 42 "SkewFind" "search" "LSkewFind$Search;", Cond.methodLink RX5 182 yX4_open, Cond.instanceMethod yX4_open, Cond.selects RX4 yX4_open yX4_open, Cond.initialized RX4, Cond.code yX4_open cX4_open 1 none, Cond.fieldLink RX4 18 "SkewFind$Window" "left" "I"]
def wsX5_back_r5 : List Cond := [Cond.fieldLink RX4 22 "SkewFind$Window" "upper" "I", Cond.fieldLink RX4 9 "SkewFind$Window" "picture" "LSkewFind$Picture;", Cond.fieldLink RX4 25 "SkewFind$Picture" "width" "I", Cond.fieldLink RX4 30 "SkewFind$Window" "right" "I", Cond.fieldLink RX4 33 "SkewFind$Picture" "height" "I", Cond.fieldLink RX4 36 "SkewFind$Window" "lower" "I", Cond.methodLink RX5 185 yX3_forget, Cond.instanceMethod yX3_forget, Cond.selects RX3 yX3_forget yX3_forget, Cond.initialized RX3, Cond.code yX3_forget cX3_forget 1 none, Cond.fieldLink RX3 15 "SkewFind$Search" "asked" "Z"]
def wsX5_back : List Cond := .code yX5_back cX5_back 2 (some .int) :: ((wsX5_back_r1 ++ (wsX5_back_r2 ++ (wsX5_back_r3 ++ (wsX5_back_r4 ++ wsX5_back_r5)))) ++ wsX50 ++ wsX00 ++ wsX40 ++ wsX30)
def wsX5_checkSide : List Cond := .code yX5_checkSide cX5_checkSide 1 none :: ([.classLink RX5 191 "java/lang/IndexOutOfBoundsException", .initialized "java/lang/IndexOutOfBoundsException"] ++ (vx_atS RX5 195 "java/lang/IndexOutOfBoundsException" ["java/lang/RuntimeException", "java/lang/Exception"]).filter goodWord)
def wsX5_crop_r1 : List Cond := [Cond.fieldLink RX5 35 "SkewFind" "window" "LSkewFind$Window;", Cond.methodLink RX5 116 yX5_checkSide, Cond.static yX5_checkSide, Cond.initialized RX5, Cond.code yX5_checkSide cX5_checkSide 1 none, Cond.classLink RX5 191 "java/lang/IndexOutOfBoundsException", Cond.initialized "java/lang/IndexOutOfBoundsException", Cond.methodLink RX5 119 yX4_cropAt, Cond.instanceMethod yX4_cropAt, Cond.selects RX4 yX4_cropAt yX4_cropAt, Cond.initialized RX4, Cond.code yX4_cropAt cX4_cropAt 3 (some .int), Cond.fieldLink RX4 9 "SkewFind$Window" "picture" "LSkewFind$Picture;", Cond.methodLink RX4 59 Lib.Math.abs.name, Cond.static Lib.Math.abs.name, Cond.initialized "java/lang/Math", Cond.code Lib.Math.abs.name Lib.Math.abs.code 1 (some .int), Cond.methodLink RX4 39 yX0_samplesOn, Cond.instanceMethod yX0_samplesOn, Cond.selects RX0 yX0_samplesOn yX0_samplesOn, Cond.initialized RX0, Cond.code yX0_samplesOn cX0_samplesOn 3 (some .int), Cond.fieldLink RX0 15 "SkewFind$Picture" "height" "I", Cond.methodLink RX0 38 yX0_rowBits]
def wsX5_crop_r2 : List Cond := [Cond.instanceMethod yX0_rowBits, Cond.selects RX0 yX0_rowBits yX0_rowBits, Cond.code yX0_rowBits cX0_rowBits 2 (some .int), Cond.fieldLink RX0 27 "SkewFind$Picture" "bits" "[I", Cond.methodLink RX0 55 yJ6_bitCount_0f7a4, Cond.static yJ6_bitCount_0f7a4, Cond.initialized RJ6, Cond.code yJ6_bitCount_0f7a4 cJ6_bitCount_0f7a4 1 (some .int), Cond.constant RJ6 265 (1431655765), Cond.constant RJ6 266 (858993459), Cond.constant RJ6 267 (252645135), Cond.methodLink RX4 43 yX4_end, Cond.instanceMethod yX4_end, Cond.selects RX4 yX4_end yX4_end, Cond.code yX4_end cX4_end 2 (some .int), Cond.fieldLink RX4 18 "SkewFind$Window" "left" "I", Cond.fieldLink RX4 22 "SkewFind$Window" "upper" "I", Cond.fieldLink RX4 30 "SkewFind$Window" "right" "I", Cond.fieldLink RX4 36 "SkewFind$Window" "lower" "I", Cond.methodLink RX4 47 yX4_cropLeft, Cond.instanceMethod yX4_cropLeft, Cond.selects RX4 yX4_cropLeft yX4_cropLeft, Cond.code yX4_cropLeft cX4_cropLeft 1 none, Cond.methodLink RX4 64 yX4_columnIsEmpty]
def wsX5_crop_r3 : List Cond := [Cond.instanceMethod yX4_columnIsEmpty, Cond.selects RX4 yX4_columnIsEmpty yX4_columnIsEmpty, Cond.code yX4_columnIsEmpty cX4_columnIsEmpty 3 (some .boolean), Cond.fieldLink RX4 33 "SkewFind$Picture" "height" "I", Cond.methodLink RX4 71 yX0_isOn, Cond.instanceMethod yX0_isOn, Cond.selects RX0 yX0_isOn yX0_isOn, Cond.code yX0_isOn cX0_isOn 3 (some .boolean), Cond.methodLink RX0 34 yX0_has, Cond.instanceMethod yX0_has, Cond.selects RX0 yX0_has yX0_has, Cond.code yX0_has cX0_has 3 (some .boolean), Cond.fieldLink RX0 9 "SkewFind$Picture" "width" "I", Cond.methodLink RX4 50 yX4_cropUpper, Cond.instanceMethod yX4_cropUpper, Cond.selects RX4 yX4_cropUpper yX4_cropUpper, Cond.code yX4_cropUpper cX4_cropUpper 1 none, Cond.methodLink RX4 68 yX0_rowBits, Cond.methodLink RX4 53 yX4_cropRight, Cond.instanceMethod yX4_cropRight, Cond.selects RX4 yX4_cropRight yX4_cropRight, Cond.code yX4_cropRight cX4_cropRight 1 none, Cond.methodLink RX4 56 yX4_cropLower, Cond.instanceMethod yX4_cropLower]
def wsX5_crop_r4 : List Cond := [Cond.selects RX4 yX4_cropLower yX4_cropLower, Cond.code yX4_cropLower cX4_cropLower 1 none]
def wsX5_crop : List Cond := .code yX5_crop cX5_crop 2 (some .int) :: ((wsX5_crop_r1 ++ (wsX5_crop_r2 ++ (wsX5_crop_r3 ++ wsX5_crop_r4))) ++ wsX50 ++ wsX40 ++ wsX00 ++ (vx_atS RX5 195 "java/lang/IndexOutOfBoundsException" ["java/lang/RuntimeException", "java/lang/Exception"]).filter goodWord)
def wsX5_size : List Cond := .code yX5_size cX5_size 2 (some .int) :: ([.fieldLink RX5 35 "SkewFind" "window" "LSkewFind$Window;", .methodLink RX5 116 yX5_checkSide, .static yX5_checkSide, .initialized RX5, .code yX5_checkSide cX5_checkSide 1 none, .classLink RX5 191 "java/lang/IndexOutOfBoundsException", .initialized "java/lang/IndexOutOfBoundsException", .methodLink RX5 122 yX4_end, .instanceMethod yX4_end, .selects RX4 yX4_end yX4_end, .initialized RX4, .code yX4_end cX4_end 2 (some .int), .fieldLink RX4 18 "SkewFind$Window" "left" "I", .fieldLink RX4 22 "SkewFind$Window" "upper" "I", .fieldLink RX4 30 "SkewFind$Window" "right" "I", .fieldLink RX4 36 "SkewFind$Window" "lower" "I"] ++ wsX50 ++ wsX40 ++ (vx_atS RX5 195 "java/lang/IndexOutOfBoundsException" ["java/lang/RuntimeException", "java/lang/Exception"]).filter goodWord)
def wsX5_bands : List Cond := .code yX5_bands cX5_bands 1 (some .int) :: ([.fieldLink RX5 49 "SkewFind" "rows" "LSkewFind$Rows;", .methodLink RX5 125 yX2_bandCount, .instanceMethod yX2_bandCount, .selects RX2 yX2_bandCount yX2_bandCount, .initialized RX2, .code yX2_bandCount cX2_bandCount 3 (some .int), .fieldLink RX2 9 "SkewFind$Rows" "picture" "LSkewFind$Picture;", .fieldLink RX2 21 "SkewFind$Picture" "height" "I", .methodLink RX2 25 yX2_beginsBand, .instanceMethod yX2_beginsBand, .selects RX2 yX2_beginsBand yX2_beginsBand, .code yX2_beginsBand cX2_beginsBand 2 (some .boolean), .methodLink RX2 15 yX0_rowBits, .instanceMethod yX0_rowBits, .selects RX0 yX0_rowBits yX0_rowBits, .initialized RX0, .code yX0_rowBits cX0_rowBits 2 (some .int), .fieldLink RX0 27 "SkewFind$Picture" "bits" "[I"] ++ wsX50 ++ wsX20 ++ wsX00)
def wsX5_checkBand : List Cond := .code yX5_checkBand cX5_checkBand 2 none :: ([.classLink RX5 191 "java/lang/IndexOutOfBoundsException", .initialized "java/lang/IndexOutOfBoundsException", .fieldLink RX5 49 "SkewFind" "rows" "LSkewFind$Rows;", .methodLink RX5 125 yX2_bandCount, .instanceMethod yX2_bandCount, .selects RX2 yX2_bandCount yX2_bandCount, .initialized RX2, .code yX2_bandCount cX2_bandCount 3 (some .int), .fieldLink RX2 9 "SkewFind$Rows" "picture" "LSkewFind$Picture;", .fieldLink RX2 21 "SkewFind$Picture" "height" "I", .methodLink RX2 25 yX2_beginsBand, .instanceMethod yX2_beginsBand, .selects RX2 yX2_beginsBand yX2_beginsBand, .code yX2_beginsBand cX2_beginsBand 2 (some .boolean), .methodLink RX2 15 yX0_rowBits, .instanceMethod yX0_rowBits, .selects RX0 yX0_rowBits yX0_rowBits, .initialized RX0, .code yX0_rowBits cX0_rowBits 2 (some .int), .fieldLink RX0 27 "SkewFind$Picture" "bits" "[I"] ++ wsX50 ++ wsX20 ++ wsX00 ++ (vx_atS RX5 195 "java/lang/IndexOutOfBoundsException" ["java/lang/RuntimeException", "java/lang/Exception"]).filter goodWord)
def wsX5_band_r1 : List Cond := [Cond.fieldLink RX5 49 "SkewFind" "rows" "LSkewFind$Rows;", Cond.methodLink RX5 128 yX5_checkBand, Cond.instanceMethod yX5_checkBand, Cond.selects RX5 yX5_checkBand yX5_checkBand, Cond.initialized RX5, Cond.code yX5_checkBand cX5_checkBand 2 none, Cond.classLink RX5 191 "java/lang/IndexOutOfBoundsException", Cond.initialized "java/lang/IndexOutOfBoundsException", Cond.methodLink RX5 125 yX2_bandCount, Cond.instanceMethod yX2_bandCount, Cond.selects RX2 yX2_bandCount yX2_bandCount, Cond.initialized RX2, Cond.code yX2_bandCount cX2_bandCount 3 (some .int), Cond.fieldLink RX2 9 "SkewFind$Rows" "picture" "LSkewFind$Picture;", Cond.fieldLink RX2 21 "SkewFind$Picture" "height" "I", Cond.methodLink RX2 25 yX2_beginsBand, Cond.instanceMethod yX2_beginsBand, Cond.selects RX2 yX2_beginsBand yX2_beginsBand, Cond.code yX2_beginsBand cX2_beginsBand 2 (some .boolean), Cond.methodLink RX2 15 yX0_rowBits, Cond.instanceMethod yX0_rowBits, Cond.selects RX0 yX0_rowBits yX0_rowBits, Cond.initialized RX0, Cond.code yX0_rowBits cX0_rowBits 2 (some .int)]
def wsX5_band_r2 : List Cond := [Cond.fieldLink RX0 27 "SkewFind$Picture" "bits" "[I", Cond.methodLink RX5 131 yX2_firstOfBand, Cond.instanceMethod yX2_firstOfBand, Cond.selects RX2 yX2_firstOfBand yX2_firstOfBand, Cond.code yX2_firstOfBand cX2_firstOfBand 4 (some .int), Cond.methodLink RX5 134 yX2_behindBand, Cond.instanceMethod yX2_behindBand, Cond.selects RX2 yX2_behindBand yX2_behindBand, Cond.code yX2_behindBand cX2_behindBand 3 (some .int), Cond.methodLink RX5 137 yX2_samplesBetween, Cond.instanceMethod yX2_samplesBetween, Cond.selects RX2 yX2_samplesBetween yX2_samplesBetween, Cond.code yX2_samplesBetween cX2_samplesBetween 5 (some .int), Cond.methodLink RX2 29 yJ6_bitCount_0f7a4, Cond.static yJ6_bitCount_0f7a4, Cond.initialized RJ6, Cond.code yJ6_bitCount_0f7a4 cJ6_bitCount_0f7a4 1 (some .int), Cond.constant RJ6 265 (1431655765), Cond.constant RJ6 266 (858993459), Cond.constant RJ6 267 (252645135)]
def wsX5_band : List Cond := .code yX5_band cX5_band 5 (some .int) :: ((wsX5_band_r1 ++ wsX5_band_r2) ++ wsX50 ++ wsX20 ++ wsX00 ++ (vx_atS RX5 195 "java/lang/IndexOutOfBoundsException" ["java/lang/RuntimeException", "java/lang/Exception"]).filter goodWord)
def wsX5_line_r1 : List Cond := [Cond.classLink RX5 56 "java/lang/IllegalArgumentException", Cond.initialized "java/lang/IllegalArgumentException", Cond.constantDouble RX5 141 (13875379345695965184), Cond.constantDouble RX5 143 (4652007308841189376), Cond.constantDouble RX5 147 (4625196817309499392), Cond.fieldLink RX5 49 "SkewFind" "rows" "LSkewFind$Rows;", Cond.methodLink RX5 128 yX5_checkBand, Cond.instanceMethod yX5_checkBand, Cond.selects RX5 yX5_checkBand yX5_checkBand, Cond.initialized RX5, Cond.code yX5_checkBand cX5_checkBand 2 none, Cond.classLink RX5 191 "java/lang/IndexOutOfBoundsException", Cond.initialized "java/lang/IndexOutOfBoundsException", Cond.methodLink RX5 125 yX2_bandCount, Cond.instanceMethod yX2_bandCount, Cond.selects RX2 yX2_bandCount yX2_bandCount, Cond.initialized RX2, Cond.code yX2_bandCount cX2_bandCount 3 (some .int), Cond.fieldLink RX2 9 "SkewFind$Rows" "picture" "LSkewFind$Picture;", Cond.fieldLink RX2 21 "SkewFind$Picture" "height" "I", Cond.methodLink RX2 25 yX2_beginsBand, Cond.instanceMethod yX2_beginsBand, Cond.selects RX2 yX2_beginsBand yX2_beginsBand, Cond.code yX2_beginsBand cX2_beginsBand 2 (some .boolean)]
def wsX5_line_r2 : List Cond := [Cond.methodLink RX2 15 yX0_rowBits, Cond.instanceMethod yX0_rowBits, Cond.selects RX0 yX0_rowBits yX0_rowBits, Cond.initialized RX0, Cond.code yX0_rowBits cX0_rowBits 2 (some .int), Cond.fieldLink RX0 27 "SkewFind$Picture" "bits" "[I", Cond.methodLink RX5 131 yX2_firstOfBand, Cond.instanceMethod yX2_firstOfBand, Cond.selects RX2 yX2_firstOfBand yX2_firstOfBand, Cond.code yX2_firstOfBand cX2_firstOfBand 4 (some .int), Cond.methodLink RX5 149 yX2_baseLineAt, Cond.instanceMethod yX2_baseLineAt, Cond.selects RX2 yX2_baseLineAt yX2_baseLineAt, Cond.code yX2_baseLineAt cX2_baseLineAt 13 (some .double), Cond.fieldLink RX2 41 "SkewFind$Picture" "width" "I", Cond.methodLink RX2 34 yX2_behindBand, Cond.instanceMethod yX2_behindBand, Cond.selects RX2 yX2_behindBand yX2_behindBand, Cond.code yX2_behindBand cX2_behindBand 3 (some .int), Cond.methodLink RX2 44 yX2_lowestOn, Cond.instanceMethod yX2_lowestOn, Cond.selects RX2 yX2_lowestOn yX2_lowestOn, Cond.code yX2_lowestOn cX2_lowestOn 5 (some .int), Cond.methodLink RX2 48 yX0_isOn]
def wsX5_line_r3 : List Cond := [Cond.instanceMethod yX0_isOn, Cond.selects RX0 yX0_isOn yX0_isOn, Cond.code yX0_isOn cX0_isOn 3 (some .boolean), Cond.methodLink RX0 34 yX0_has, Cond.instanceMethod yX0_has, Cond.selects RX0 yX0_has yX0_has, Cond.code yX0_has cX0_has 3 (some .boolean), Cond.fieldLink RX0 9 "SkewFind$Picture" "width" "I", Cond.fieldLink RX0 15 "SkewFind$Picture" "height" "I", Cond.methodLink RX0 38 yX0_rowBits, Cond.methodLink RX5 153 yX1_whole, Cond.static yX1_whole, Cond.initialized RX1, Cond.code yX1_whole cX1_whole 5 (some .int), Cond.constantDouble RX1 35 (4602678819172646912)]
def wsX5_line : List Cond := .code yX5_line cX5_line 4 (some .int) :: ((wsX5_line_r1 ++ (wsX5_line_r2 ++ wsX5_line_r3)) ++ wsX50 ++ wsX20 ++ wsX00 ++ (vx_atS RX5 60 "java/lang/IllegalArgumentException" ["java/lang/RuntimeException", "java/lang/Exception"]).filter goodWord ++ (vx_atS RX5 195 "java/lang/IndexOutOfBoundsException" ["java/lang/RuntimeException", "java/lang/Exception"]).filter goodWord)
def wsX5_upside_r1 : List Cond := [Cond.fieldLink RX5 49 "SkewFind" "rows" "LSkewFind$Rows;", Cond.methodLink RX5 159 yX2_lowerMinusUpper, Cond.instanceMethod yX2_lowerMinusUpper, Cond.selects RX2 yX2_lowerMinusUpper yX2_lowerMinusUpper, Cond.initialized RX2, Cond.code yX2_lowerMinusUpper cX2_lowerMinusUpper 5 (some .int), Cond.fieldLink RX2 9 "SkewFind$Rows" "picture" "LSkewFind$Picture;", Cond.fieldLink RX2 21 "SkewFind$Picture" "height" "I", Cond.methodLink RX2 25 yX2_beginsBand, Cond.instanceMethod yX2_beginsBand, Cond.selects RX2 yX2_beginsBand yX2_beginsBand, Cond.code yX2_beginsBand cX2_beginsBand 2 (some .boolean), Cond.methodLink RX2 15 yX0_rowBits, Cond.instanceMethod yX0_rowBits, Cond.selects RX0 yX0_rowBits yX0_rowBits, Cond.initialized RX0, Cond.code yX0_rowBits cX0_rowBits 2 (some .int), Cond.fieldLink RX0 27 "SkewFind$Picture" "bits" "[I", Cond.methodLink RX2 34 yX2_behindBand, Cond.instanceMethod yX2_behindBand, Cond.selects RX2 yX2_behindBand yX2_behindBand, Cond.code yX2_behindBand cX2_behindBand 3 (some .int), Cond.methodLink RX2 37 yX2_samplesBetween, Cond.instanceMethod yX2_samplesBetween]
def wsX5_upside_r2 : List Cond := [Cond.selects RX2 yX2_samplesBetween yX2_samplesBetween, Cond.code yX2_samplesBetween cX2_samplesBetween 5 (some .int), Cond.methodLink RX2 29 yJ6_bitCount_0f7a4, Cond.static yJ6_bitCount_0f7a4, Cond.initialized RJ6, Cond.code yJ6_bitCount_0f7a4 cJ6_bitCount_0f7a4 1 (some .int), Cond.constant RJ6 265 (1431655765), Cond.constant RJ6 266 (858993459), Cond.constant RJ6 267 (252645135)]
def wsX5_upside : List Cond := .code yX5_upside cX5_upside 1 (some .boolean) :: ((wsX5_upside_r1 ++ wsX5_upside_r2) ++ wsX50 ++ wsX20 ++ wsX00)
def wsX5_told_r1 : List Cond := [Cond.fieldLink RX5 26 "SkewFind" "picture" "LSkewFind$Picture;", Cond.fieldLink RX5 162 "SkewFind$Picture" "width" "I", Cond.fieldLink RX5 165 "SkewFind$Picture" "height" "I", Cond.fieldLink RX5 13 "SkewFind" "turnCount" "I", Cond.methodLink RX5 109 yX0_samplesOn, Cond.instanceMethod yX0_samplesOn, Cond.selects RX0 yX0_samplesOn yX0_samplesOn, Cond.initialized RX0, Cond.code yX0_samplesOn cX0_samplesOn 3 (some .int), Cond.fieldLink RX0 15 "SkewFind$Picture" "height" "I", Cond.methodLink RX0 38 yX0_rowBits, Cond.instanceMethod yX0_rowBits, Cond.selects RX0 yX0_rowBits yX0_rowBits, Cond.code yX0_rowBits cX0_rowBits 2 (some .int), Cond.fieldLink RX0 27 "SkewFind$Picture" "bits" "[I", Cond.methodLink RX0 55 yJ6_bitCount_0f7a4, Cond.static yJ6_bitCount_0f7a4, Cond.initialized RJ6, Cond.code yJ6_bitCount_0f7a4 cJ6_bitCount_0f7a4 1 (some .int), Cond.constant RJ6 265 (1431655765), Cond.constant RJ6 266 (858993459), Cond.constant RJ6 267 (252645135), Cond.methodLink RX5 168 yX0_runEnds, Cond.instanceMethod yX0_runEnds]
def wsX5_told_r2 : List Cond := [Cond.selects RX0 yX0_runEnds yX0_runEnds, Cond.code yX0_runEnds cX0_runEnds 3 (some .int), Cond.methodLink RX0 60 yX0_runEndBits, Cond.instanceMethod yX0_runEndBits, Cond.selects RX0 yX0_runEndBits yX0_runEndBits, Cond.code yX0_runEndBits cX0_runEndBits 3 (some .int)]
def wsX5_told : List Cond := .code yX5_told cX5_told 2 (some .int) :: ((wsX5_told_r1 ++ wsX5_told_r2) ++ wsX50 ++ wsX00)
def wsX5_clear_r1 : List Cond := [Cond.fieldLink RX5 26 "SkewFind" "picture" "LSkewFind$Picture;", Cond.fieldLink RX5 13 "SkewFind" "turnCount" "I", Cond.methodLink RX5 171 yX0_wipe, Cond.instanceMethod yX0_wipe, Cond.selects RX0 yX0_wipe yX0_wipe, Cond.initialized RX0, Cond.code yX0_wipe cX0_wipe 2 none, Cond.fieldLink RX0 15 "SkewFind$Picture" "height" "I", Cond.methodLink RX0 51 yX0_setRowBits, Cond.instanceMethod yX0_setRowBits, Cond.selects RX0 yX0_setRowBits yX0_setRowBits, Cond.code yX0_setRowBits cX0_setRowBits 3 none, Cond.fieldLink RX0 27 "SkewFind$Picture" "bits" "[I", Cond.methodLink RX5 67 yX5_noteChange, Cond.instanceMethod yX5_noteChange, Cond.selects RX5 yX5_noteChange yX5_noteChange, Cond.initialized RX5, Cond.code yX5_noteChange cX5_noteChange 1 none, Cond.fieldLink RX5 35 "SkewFind" "window" "LSkewFind$Window;", Cond.fieldLink RX5 42 "SkewFind" "search" "LSkewFind$Search;", Cond.methodLink RX5 182 yX4_open, Cond.instanceMethod yX4_open, Cond.selects RX4 yX4_open yX4_open, Cond.initialized RX4]
def wsX5_clear_r2 : List Cond := [Cond.code yX4_open cX4_open 1 none, Cond.fieldLink RX4 18 "SkewFind$Window" "left" "I", Cond.fieldLink RX4 22 "SkewFind$Window" "upper" "I", Cond.fieldLink RX4 9 "SkewFind$Window" "picture" "LSkewFind$Picture;", Cond.fieldLink RX4 25 "SkewFind$Picture" "width" "I", Cond.fieldLink RX4 30 "SkewFind$Window" "right" "I", Cond.fieldLink RX4 33 "SkewFind$Picture" "height" "I", Cond.fieldLink RX4 36 "SkewFind$Window" "lower" "I", Cond.methodLink RX5 185 yX3_forget, Cond.instanceMethod yX3_forget, Cond.selects RX3 yX3_forget yX3_forget, Cond.initialized RX3, Cond.code yX3_forget cX3_forget 1 none, Cond.fieldLink RX3 15 "SkewFind$Search" "asked" "Z"]
def wsX5_clear : List Cond := .code yX5_clear cX5_clear 1 none :: ((wsX5_clear_r1 ++ wsX5_clear_r2) ++ wsX50 ++ wsX00 ++ wsX40 ++ wsX30)
def wsX6_whole : List Cond := .code yX6_whole cX6_whole 1 none :: ([.fieldLink RX6 16 "SkewFindModel" "ends" "[I", .fieldLink RX6 26 "SkewFindModel" "width" "I", .fieldLink RX6 30 "SkewFindModel" "height" "I", .fieldLink RX6 39 "SkewFindModel" "isAsked" "Z"] ++ wsX60)
def wsX6_init : List Cond := .code yX6_init cX6_init 3 none :: ([.methodLink RX6 1 objectInit, .instanceMethod objectInit, .code objectInit ⟨#[0xb1]⟩ 1 none, .arrayClass .boolean, .fieldLink RX6 7 "SkewFindModel" "on" "[Z", .fieldLink RX6 13 "SkewFindModel" "next" "[Z", .arrayClass .int, .fieldLink RX6 16 "SkewFindModel" "ends" "[I", .fieldLink RX6 20 "SkewFindModel" "turns" "[I", .fieldLink RX6 23 "SkewFindModel" "lines" "[I", .fieldLink RX6 26 "SkewFindModel" "width" "I", .fieldLink RX6 30 "SkewFindModel" "height" "I", .methodLink RX6 33 yX6_whole, .instanceMethod yX6_whole, .selects RX6 yX6_whole yX6_whole, .initialized RX6, .code yX6_whole cX6_whole 1 none, .fieldLink RX6 39 "SkewFindModel" "isAsked" "Z"] ++ wsX60)
def wsX6_thrown : List Cond := .code yX6_thrown cX6_thrown 1 (some .int) :: ([.fieldLink RX6 36 "SkewFindModel" "code" "I"] ++ wsX60)
def wsX6_refuses : List Cond := .code yX6_refuses cX6_refuses 2 (some .boolean) :: ([.fieldLink RX6 36 "SkewFindModel" "code" "I"] ++ wsX60)
def wsX6_isOn : List Cond := .code yX6_isOn cX6_isOn 3 (some .boolean) :: ([.fieldLink RX6 26 "SkewFindModel" "width" "I", .fieldLink RX6 30 "SkewFindModel" "height" "I", .fieldLink RX6 7 "SkewFindModel" "on" "[Z"] ++ wsX60)
def wsX6_isSample : List Cond := .code yX6_isSample cX6_isSample 3 (some .boolean) :: ([.fieldLink RX6 26 "SkewFindModel" "width" "I", .fieldLink RX6 30 "SkewFindModel" "height" "I"] ++ wsX60)
def wsX6_countOn : List Cond := .code yX6_countOn cX6_countOn 3 (some .int) :: ([.fieldLink RX6 7 "SkewFindModel" "on" "[Z"] ++ wsX60)
def wsX6_wholeOf : List Cond := .code yX6_wholeOf cX6_wholeOf 5 (some .int) :: ([.constantDouble RX6 43 (4602678819172646912)])
def wsX6_radians : List Cond := .code yX6_radians cX6_radians 2 (some .double) :: ([.constantDouble RX6 45 (4614256656552045848), .constantDouble RX6 47 (4670677016280825856)])
def wsX6_slope : List Cond := .code yX6_slope cX6_slope 6 (some .double) :: ([.constantDouble RX6 53 (4599676419421066581), .constantDouble RX6 55 (4593971859893063953), .constantDouble RX6 57 (4587938466106554908), .methodLink RX6 49 yX6_radians, .static yX6_radians, .initialized RX6, .code yX6_radians cX6_radians 2 (some .double), .constantDouble RX6 45 (4614256656552045848), .constantDouble RX6 47 (4670677016280825856)])
def wsX6_sine : List Cond := .code yX6_sine cX6_sine 6 (some .double) :: ([.constantDouble RX6 59 (13818544856648471893), .constantDouble RX6 61 (4575957461383581969), .constantDouble RX6 63 (13774824197408792602), .methodLink RX6 49 yX6_radians, .static yX6_radians, .initialized RX6, .code yX6_radians cX6_radians 2 (some .double), .constantDouble RX6 45 (4614256656552045848), .constantDouble RX6 47 (4670677016280825856)])
def wsX6_cosine : List Cond := .code yX6_cosine cX6_cosine 6 (some .double) :: ([.constantDouble RX6 65 (13826050856027422720), .constantDouble RX6 67 (4586165620538955093), .constantDouble RX6 69 (13787419979223755799), .methodLink RX6 49 yX6_radians, .static yX6_radians, .initialized RX6, .code yX6_radians cX6_radians 2 (some .double), .constantDouble RX6 45 (4614256656552045848), .constantDouble RX6 47 (4670677016280825856)])
def wsX6_put : List Cond := .code yX6_put cX6_put 7 (some .int) :: ([.fieldLink RX6 26 "SkewFindModel" "width" "I", .fieldLink RX6 7 "SkewFindModel" "on" "[Z", .methodLink RX6 71 yX6_isSample, .instanceMethod yX6_isSample, .selects RX6 yX6_isSample yX6_isSample, .initialized RX6, .code yX6_isSample cX6_isSample 3 (some .boolean), .fieldLink RX6 30 "SkewFindModel" "height" "I", .methodLink RX6 75 yX6_refuses, .instanceMethod yX6_refuses, .selects RX6 yX6_refuses yX6_refuses, .code yX6_refuses cX6_refuses 2 (some .boolean), .fieldLink RX6 36 "SkewFindModel" "code" "I", .methodLink RX6 33 yX6_whole, .instanceMethod yX6_whole, .selects RX6 yX6_whole yX6_whole, .code yX6_whole cX6_whole 1 none, .fieldLink RX6 16 "SkewFindModel" "ends" "[I", .fieldLink RX6 39 "SkewFindModel" "isAsked" "Z"] ++ wsX60)
def wsX6_at : List Cond := .code yX6_at cX6_at 3 (some .boolean) :: ([.methodLink RX6 71 yX6_isSample, .instanceMethod yX6_isSample, .selects RX6 yX6_isSample yX6_isSample, .initialized RX6, .code yX6_isSample cX6_isSample 3 (some .boolean), .fieldLink RX6 26 "SkewFindModel" "width" "I", .fieldLink RX6 30 "SkewFindModel" "height" "I", .methodLink RX6 75 yX6_refuses, .instanceMethod yX6_refuses, .selects RX6 yX6_refuses yX6_refuses, .code yX6_refuses cX6_refuses 2 (some .boolean), .fieldLink RX6 36 "SkewFindModel" "code" "I", .methodLink RX6 79 yX6_isOn, .instanceMethod yX6_isOn, .selects RX6 yX6_isOn yX6_isOn, .code yX6_isOn cX6_isOn 3 (some .boolean), .fieldLink RX6 7 "SkewFindModel" "on" "[Z"] ++ wsX60)
def wsX6_isEnd : List Cond := .code yX6_isEnd cX6_isEnd 3 (some .boolean) :: ([.methodLink RX6 79 yX6_isOn, .instanceMethod yX6_isOn, .selects RX6 yX6_isOn yX6_isOn, .initialized RX6, .code yX6_isOn cX6_isOn 3 (some .boolean), .fieldLink RX6 26 "SkewFindModel" "width" "I", .fieldLink RX6 30 "SkewFindModel" "height" "I", .fieldLink RX6 7 "SkewFindModel" "on" "[Z"] ++ wsX60)
def wsX6_countEnds : List Cond := .code yX6_countEnds cX6_countEnds 4 (some .int) :: ([.fieldLink RX6 30 "SkewFindModel" "height" "I", .fieldLink RX6 26 "SkewFindModel" "width" "I", .methodLink RX6 82 yX6_isEnd, .instanceMethod yX6_isEnd, .selects RX6 yX6_isEnd yX6_isEnd, .initialized RX6, .code yX6_isEnd cX6_isEnd 3 (some .boolean), .methodLink RX6 79 yX6_isOn, .instanceMethod yX6_isOn, .selects RX6 yX6_isOn yX6_isOn, .code yX6_isOn cX6_isOn 3 (some .boolean), .fieldLink RX6 7 "SkewFindModel" "on" "[Z"] ++ wsX60)
def wsX6_sumOf_r1 : List Cond := [Cond.fieldLink RX6 23 "SkewFindModel" "lines" "[I", Cond.fieldLink RX6 30 "SkewFindModel" "height" "I", Cond.fieldLink RX6 26 "SkewFindModel" "width" "I", Cond.methodLink RX6 85 yX6_slope, Cond.static yX6_slope, Cond.initialized RX6, Cond.code yX6_slope cX6_slope 6 (some .double), Cond.constantDouble RX6 53 (4599676419421066581), Cond.constantDouble RX6 55 (4593971859893063953), Cond.constantDouble RX6 57 (4587938466106554908), Cond.methodLink RX6 49 yX6_radians, Cond.static yX6_radians, Cond.code yX6_radians cX6_radians 2 (some .double), Cond.constantDouble RX6 45 (4614256656552045848), Cond.constantDouble RX6 47 (4670677016280825856), Cond.methodLink RX6 88 yX6_countEnds, Cond.instanceMethod yX6_countEnds, Cond.selects RX6 yX6_countEnds yX6_countEnds, Cond.code yX6_countEnds cX6_countEnds 4 (some .int), Cond.methodLink RX6 82 yX6_isEnd, Cond.instanceMethod yX6_isEnd, Cond.selects RX6 yX6_isEnd yX6_isEnd, Cond.code yX6_isEnd cX6_isEnd 3 (some .boolean), Cond.methodLink RX6 79 yX6_isOn]
def wsX6_sumOf_r2 : List Cond := [Cond.instanceMethod yX6_isOn, Cond.selects RX6 yX6_isOn yX6_isOn, Cond.code yX6_isOn cX6_isOn 3 (some .boolean), Cond.fieldLink RX6 7 "SkewFindModel" "on" "[Z", Cond.methodLink RX6 92 yX6_wholeOf, Cond.static yX6_wholeOf, Cond.code yX6_wholeOf cX6_wholeOf 5 (some .int), Cond.constantDouble RX6 43 (4602678819172646912)]
def wsX6_sumOf : List Cond := .code yX6_sumOf cX6_sumOf 7 (some .double) :: ((wsX6_sumOf_r1 ++ wsX6_sumOf_r2) ++ wsX60)
def wsX6_sum_r1 : List Cond := [Cond.methodLink RX6 75 yX6_refuses, Cond.instanceMethod yX6_refuses, Cond.selects RX6 yX6_refuses yX6_refuses, Cond.initialized RX6, Cond.code yX6_refuses cX6_refuses 2 (some .boolean), Cond.fieldLink RX6 36 "SkewFindModel" "code" "I", Cond.methodLink RX6 96 yX6_sumOf, Cond.instanceMethod yX6_sumOf, Cond.selects RX6 yX6_sumOf yX6_sumOf, Cond.code yX6_sumOf cX6_sumOf 7 (some .double), Cond.fieldLink RX6 23 "SkewFindModel" "lines" "[I", Cond.fieldLink RX6 30 "SkewFindModel" "height" "I", Cond.fieldLink RX6 26 "SkewFindModel" "width" "I", Cond.methodLink RX6 85 yX6_slope, Cond.static yX6_slope, Cond.code yX6_slope cX6_slope 6 (some .double), Cond.constantDouble RX6 53 (4599676419421066581), Cond.constantDouble RX6 55 (4593971859893063953), Cond.constantDouble RX6 57 (4587938466106554908), Cond.methodLink RX6 49 yX6_radians, Cond.static yX6_radians, Cond.code yX6_radians cX6_radians 2 (some .double), Cond.constantDouble RX6 45 (4614256656552045848), Cond.constantDouble RX6 47 (4670677016280825856)]
def wsX6_sum_r2 : List Cond := [Cond.methodLink RX6 88 yX6_countEnds, Cond.instanceMethod yX6_countEnds, Cond.selects RX6 yX6_countEnds yX6_countEnds, Cond.code yX6_countEnds cX6_countEnds 4 (some .int), Cond.methodLink RX6 82 yX6_isEnd, Cond.instanceMethod yX6_isEnd, Cond.selects RX6 yX6_isEnd yX6_isEnd, Cond.code yX6_isEnd cX6_isEnd 3 (some .boolean), Cond.methodLink RX6 79 yX6_isOn, Cond.instanceMethod yX6_isOn, Cond.selects RX6 yX6_isOn yX6_isOn, Cond.code yX6_isOn cX6_isOn 3 (some .boolean), Cond.fieldLink RX6 7 "SkewFindModel" "on" "[Z", Cond.methodLink RX6 92 yX6_wholeOf, Cond.static yX6_wholeOf, Cond.code yX6_wholeOf cX6_wholeOf 5 (some .int), Cond.constantDouble RX6 43 (4602678819172646912)]
def wsX6_sum : List Cond := .code yX6_sum cX6_sum 2 (some .double) :: ((wsX6_sum_r1 ++ wsX6_sum_r2) ++ wsX60)
def wsX6_stepOf : List Cond := .code yX6_stepOf cX6_stepOf 1 (some .int) :: ([])
def wsX6_angle_r1 : List Cond := [Cond.fieldLink RX6 39 "SkewFindModel" "isAsked" "Z", Cond.fieldLink RX6 100 "SkewFindModel" "isSure" "Z", Cond.fieldLink RX6 103 "SkewFindModel" "meanOf" "D", Cond.constant RX6 110 (100000), Cond.constantDouble RX6 111 (13830554455654793216), Cond.constantDouble RX6 117 (4608308318706860032), Cond.methodLink RX6 75 yX6_refuses, Cond.instanceMethod yX6_refuses, Cond.selects RX6 yX6_refuses yX6_refuses, Cond.initialized RX6, Cond.code yX6_refuses cX6_refuses 2 (some .boolean), Cond.fieldLink RX6 36 "SkewFindModel" "code" "I", Cond.methodLink RX6 107 yX6_countOn, Cond.instanceMethod yX6_countOn, Cond.selects RX6 yX6_countOn yX6_countOn, Cond.code yX6_countOn cX6_countOn 3 (some .int), Cond.fieldLink RX6 7 "SkewFindModel" "on" "[Z", Cond.methodLink RX6 96 yX6_sumOf, Cond.instanceMethod yX6_sumOf, Cond.selects RX6 yX6_sumOf yX6_sumOf, Cond.code yX6_sumOf cX6_sumOf 7 (some .double), Cond.fieldLink RX6 23 "SkewFindModel" "lines" "[I", Cond.fieldLink RX6 30 "SkewFindModel" "height" "I", Cond.fieldLink RX6 26 "SkewFindModel" "width" "I"]
def wsX6_angle_r2 : List Cond := [Cond.methodLink RX6 85 yX6_slope, Cond.static yX6_slope, Cond.code yX6_slope cX6_slope 6 (some .double), Cond.constantDouble RX6 53 (4599676419421066581), Cond.constantDouble RX6 55 (4593971859893063953), Cond.constantDouble RX6 57 (4587938466106554908), Cond.methodLink RX6 49 yX6_radians, Cond.static yX6_radians, Cond.code yX6_radians cX6_radians 2 (some .double), Cond.constantDouble RX6 45 (4614256656552045848), Cond.constantDouble RX6 47 (4670677016280825856), Cond.methodLink RX6 88 yX6_countEnds, Cond.instanceMethod yX6_countEnds, Cond.selects RX6 yX6_countEnds yX6_countEnds, Cond.code yX6_countEnds cX6_countEnds 4 (some .int), Cond.methodLink RX6 82 yX6_isEnd, Cond.instanceMethod yX6_isEnd, Cond.selects RX6 yX6_isEnd yX6_isEnd, Cond.code yX6_isEnd cX6_isEnd 3 (some .boolean), Cond.methodLink RX6 79 yX6_isOn, Cond.instanceMethod yX6_isOn, Cond.selects RX6 yX6_isOn yX6_isOn, Cond.code yX6_isOn cX6_isOn 3 (some .boolean), Cond.methodLink RX6 92 yX6_wholeOf]
def wsX6_angle_r3 : List Cond := [Cond.static yX6_wholeOf, Cond.code yX6_wholeOf cX6_wholeOf 5 (some .int), Cond.constantDouble RX6 43 (4602678819172646912), Cond.methodLink RX6 113 yX6_stepOf, Cond.static yX6_stepOf, Cond.code yX6_stepOf cX6_stepOf 1 (some .int)]
def wsX6_angle : List Cond := .code yX6_angle cX6_angle 15 (some .int) :: ((wsX6_angle_r1 ++ (wsX6_angle_r2 ++ wsX6_angle_r3)) ++ wsX60)
def wsX6_sure : List Cond := .code yX6_sure cX6_sure 1 (some .boolean) :: ([.fieldLink RX6 39 "SkewFindModel" "isAsked" "Z", .fieldLink RX6 100 "SkewFindModel" "isSure" "Z", .methodLink RX6 75 yX6_refuses, .instanceMethod yX6_refuses, .selects RX6 yX6_refuses yX6_refuses, .initialized RX6, .code yX6_refuses cX6_refuses 2 (some .boolean), .fieldLink RX6 36 "SkewFindModel" "code" "I"] ++ wsX60)
def wsX6_mean : List Cond := .code yX6_mean cX6_mean 1 (some .double) :: ([.fieldLink RX6 39 "SkewFindModel" "isAsked" "Z", .fieldLink RX6 103 "SkewFindModel" "meanOf" "D", .methodLink RX6 75 yX6_refuses, .instanceMethod yX6_refuses, .selects RX6 yX6_refuses yX6_refuses, .initialized RX6, .code yX6_refuses cX6_refuses 2 (some .boolean), .fieldLink RX6 36 "SkewFindModel" "code" "I"] ++ wsX60)
def wsX6_within : List Cond := .code yX6_within cX6_within 3 (some .int) :: ([])
def wsX6_change : List Cond := .code yX6_change cX6_change 2 none :: ([.fieldLink RX6 7 "SkewFindModel" "on" "[Z", .fieldLink RX6 13 "SkewFindModel" "next" "[Z"] ++ wsX60)
def wsX6_forget : List Cond := .code yX6_forget cX6_forget 2 none :: ([.fieldLink RX6 13 "SkewFindModel" "next" "[Z"] ++ wsX60)
def wsX6_shearRows : List Cond := .code yX6_shearRows cX6_shearRows 9 none :: ([.fieldLink RX6 30 "SkewFindModel" "height" "I", .constantDouble RX6 119 (4611686018427387904), .fieldLink RX6 26 "SkewFindModel" "width" "I", .fieldLink RX6 13 "SkewFindModel" "next" "[Z", .fieldLink RX6 7 "SkewFindModel" "on" "[Z", .methodLink RX6 121 yX6_forget, .instanceMethod yX6_forget, .selects RX6 yX6_forget yX6_forget, .initialized RX6, .code yX6_forget cX6_forget 2 none, .methodLink RX6 92 yX6_wholeOf, .static yX6_wholeOf, .code yX6_wholeOf cX6_wholeOf 5 (some .int), .constantDouble RX6 43 (4602678819172646912), .methodLink RX6 124 yX6_within, .static yX6_within, .code yX6_within cX6_within 3 (some .int), .methodLink RX6 128 yX6_change, .instanceMethod yX6_change, .selects RX6 yX6_change yX6_change, .code yX6_change cX6_change 2 none] ++ wsX60)
def wsX6_shearColumns : List Cond := .code yX6_shearColumns cX6_shearColumns 9 none :: ([.fieldLink RX6 26 "SkewFindModel" "width" "I", .constantDouble RX6 119 (4611686018427387904), .fieldLink RX6 30 "SkewFindModel" "height" "I", .fieldLink RX6 13 "SkewFindModel" "next" "[Z", .fieldLink RX6 7 "SkewFindModel" "on" "[Z", .methodLink RX6 121 yX6_forget, .instanceMethod yX6_forget, .selects RX6 yX6_forget yX6_forget, .initialized RX6, .code yX6_forget cX6_forget 2 none, .methodLink RX6 92 yX6_wholeOf, .static yX6_wholeOf, .code yX6_wholeOf cX6_wholeOf 5 (some .int), .constantDouble RX6 43 (4602678819172646912), .methodLink RX6 124 yX6_within, .static yX6_within, .code yX6_within cX6_within 3 (some .int), .methodLink RX6 128 yX6_change, .instanceMethod yX6_change, .selects RX6 yX6_change yX6_change, .code yX6_change cX6_change 2 none] ++ wsX60)
def wsX6_shear_r1 : List Cond := [Cond.constantDouble RX6 119 (4611686018427387904), Cond.methodLink RX6 85 yX6_slope, Cond.static yX6_slope, Cond.initialized RX6, Cond.code yX6_slope cX6_slope 6 (some .double), Cond.constantDouble RX6 53 (4599676419421066581), Cond.constantDouble RX6 55 (4593971859893063953), Cond.constantDouble RX6 57 (4587938466106554908), Cond.methodLink RX6 49 yX6_radians, Cond.static yX6_radians, Cond.code yX6_radians cX6_radians 2 (some .double), Cond.constantDouble RX6 45 (4614256656552045848), Cond.constantDouble RX6 47 (4670677016280825856), Cond.methodLink RX6 131 yX6_shearRows, Cond.instanceMethod yX6_shearRows, Cond.selects RX6 yX6_shearRows yX6_shearRows, Cond.code yX6_shearRows cX6_shearRows 9 none, Cond.fieldLink RX6 30 "SkewFindModel" "height" "I", Cond.fieldLink RX6 26 "SkewFindModel" "width" "I", Cond.fieldLink RX6 13 "SkewFindModel" "next" "[Z", Cond.fieldLink RX6 7 "SkewFindModel" "on" "[Z", Cond.methodLink RX6 121 yX6_forget, Cond.instanceMethod yX6_forget, Cond.selects RX6 yX6_forget yX6_forget]
def wsX6_shear_r2 : List Cond := [Cond.code yX6_forget cX6_forget 2 none, Cond.methodLink RX6 92 yX6_wholeOf, Cond.static yX6_wholeOf, Cond.code yX6_wholeOf cX6_wholeOf 5 (some .int), Cond.constantDouble RX6 43 (4602678819172646912), Cond.methodLink RX6 124 yX6_within, Cond.static yX6_within, Cond.code yX6_within cX6_within 3 (some .int), Cond.methodLink RX6 128 yX6_change, Cond.instanceMethod yX6_change, Cond.selects RX6 yX6_change yX6_change, Cond.code yX6_change cX6_change 2 none, Cond.methodLink RX6 135 yX6_sine, Cond.static yX6_sine, Cond.code yX6_sine cX6_sine 6 (some .double), Cond.constantDouble RX6 59 (13818544856648471893), Cond.constantDouble RX6 61 (4575957461383581969), Cond.constantDouble RX6 63 (13774824197408792602), Cond.methodLink RX6 138 yX6_shearColumns, Cond.instanceMethod yX6_shearColumns, Cond.selects RX6 yX6_shearColumns yX6_shearColumns, Cond.code yX6_shearColumns cX6_shearColumns 9 none]
def wsX6_shear : List Cond := .code yX6_shear cX6_shear 5 none :: ((wsX6_shear_r1 ++ wsX6_shear_r2) ++ wsX60)
def wsX6_sample_r1 : List Cond := [Cond.fieldLink RX6 26 "SkewFindModel" "width" "I", Cond.constantDouble RX6 119 (4611686018427387904), Cond.fieldLink RX6 30 "SkewFindModel" "height" "I", Cond.fieldLink RX6 13 "SkewFindModel" "next" "[Z", Cond.methodLink RX6 135 yX6_sine, Cond.static yX6_sine, Cond.initialized RX6, Cond.code yX6_sine cX6_sine 6 (some .double), Cond.constantDouble RX6 59 (13818544856648471893), Cond.constantDouble RX6 61 (4575957461383581969), Cond.constantDouble RX6 63 (13774824197408792602), Cond.methodLink RX6 49 yX6_radians, Cond.static yX6_radians, Cond.code yX6_radians cX6_radians 2 (some .double), Cond.constantDouble RX6 45 (4614256656552045848), Cond.constantDouble RX6 47 (4670677016280825856), Cond.methodLink RX6 141 yX6_cosine, Cond.static yX6_cosine, Cond.code yX6_cosine cX6_cosine 6 (some .double), Cond.constantDouble RX6 65 (13826050856027422720), Cond.constantDouble RX6 67 (4586165620538955093), Cond.constantDouble RX6 69 (13787419979223755799), Cond.methodLink RX6 121 yX6_forget, Cond.instanceMethod yX6_forget]
def wsX6_sample_r2 : List Cond := [Cond.selects RX6 yX6_forget yX6_forget, Cond.code yX6_forget cX6_forget 2 none, Cond.methodLink RX6 92 yX6_wholeOf, Cond.static yX6_wholeOf, Cond.code yX6_wholeOf cX6_wholeOf 5 (some .int), Cond.constantDouble RX6 43 (4602678819172646912), Cond.methodLink RX6 79 yX6_isOn, Cond.instanceMethod yX6_isOn, Cond.selects RX6 yX6_isOn yX6_isOn, Cond.code yX6_isOn cX6_isOn 3 (some .boolean), Cond.fieldLink RX6 7 "SkewFindModel" "on" "[Z", Cond.methodLink RX6 128 yX6_change, Cond.instanceMethod yX6_change, Cond.selects RX6 yX6_change yX6_change, Cond.code yX6_change cX6_change 2 none]
def wsX6_sample : List Cond := .code yX6_sample cX6_sample 14 none :: ((wsX6_sample_r1 ++ wsX6_sample_r2) ++ wsX60)
def wsX6_turn_r1 : List Cond := [Cond.fieldLink RX6 144 "SkewFindModel" "turnCount" "I", Cond.fieldLink RX6 20 "SkewFindModel" "turns" "[I", Cond.methodLink RX6 75 yX6_refuses, Cond.instanceMethod yX6_refuses, Cond.selects RX6 yX6_refuses yX6_refuses, Cond.initialized RX6, Cond.code yX6_refuses cX6_refuses 2 (some .boolean), Cond.fieldLink RX6 36 "SkewFindModel" "code" "I", Cond.methodLink RX6 147 yX6_shear, Cond.instanceMethod yX6_shear, Cond.selects RX6 yX6_shear yX6_shear, Cond.code yX6_shear cX6_shear 5 none, Cond.constantDouble RX6 119 (4611686018427387904), Cond.methodLink RX6 85 yX6_slope, Cond.static yX6_slope, Cond.code yX6_slope cX6_slope 6 (some .double), Cond.constantDouble RX6 53 (4599676419421066581), Cond.constantDouble RX6 55 (4593971859893063953), Cond.constantDouble RX6 57 (4587938466106554908), Cond.methodLink RX6 49 yX6_radians, Cond.static yX6_radians, Cond.code yX6_radians cX6_radians 2 (some .double), Cond.constantDouble RX6 45 (4614256656552045848), Cond.constantDouble RX6 47 (4670677016280825856)]
def wsX6_turn_r2 : List Cond := [Cond.methodLink RX6 131 yX6_shearRows, Cond.instanceMethod yX6_shearRows, Cond.selects RX6 yX6_shearRows yX6_shearRows, Cond.code yX6_shearRows cX6_shearRows 9 none, Cond.fieldLink RX6 30 "SkewFindModel" "height" "I", Cond.fieldLink RX6 26 "SkewFindModel" "width" "I", Cond.fieldLink RX6 13 "SkewFindModel" "next" "[Z", Cond.fieldLink RX6 7 "SkewFindModel" "on" "[Z", Cond.methodLink RX6 121 yX6_forget, Cond.instanceMethod yX6_forget, Cond.selects RX6 yX6_forget yX6_forget, Cond.code yX6_forget cX6_forget 2 none, Cond.methodLink RX6 92 yX6_wholeOf, Cond.static yX6_wholeOf, Cond.code yX6_wholeOf cX6_wholeOf 5 (some .int), Cond.constantDouble RX6 43 (4602678819172646912), Cond.methodLink RX6 124 yX6_within, Cond.static yX6_within, Cond.code yX6_within cX6_within 3 (some .int), Cond.methodLink RX6 128 yX6_change, Cond.instanceMethod yX6_change, Cond.selects RX6 yX6_change yX6_change, Cond.code yX6_change cX6_change 2 none, Cond.methodLink RX6 135 yX6_sine]
def wsX6_turn_r3 : List Cond := [Cond.static yX6_sine, Cond.code yX6_sine cX6_sine 6 (some .double), Cond.constantDouble RX6 59 (13818544856648471893), Cond.constantDouble RX6 61 (4575957461383581969), Cond.constantDouble RX6 63 (13774824197408792602), Cond.methodLink RX6 138 yX6_shearColumns, Cond.instanceMethod yX6_shearColumns, Cond.selects RX6 yX6_shearColumns yX6_shearColumns, Cond.code yX6_shearColumns cX6_shearColumns 9 none, Cond.methodLink RX6 151 yX6_sample, Cond.instanceMethod yX6_sample, Cond.selects RX6 yX6_sample yX6_sample, Cond.code yX6_sample cX6_sample 14 none, Cond.methodLink RX6 141 yX6_cosine, Cond.static yX6_cosine, Cond.code yX6_cosine cX6_cosine 6 (some .double), Cond.constantDouble RX6 65 (13826050856027422720), Cond.constantDouble RX6 67 (4586165620538955093), Cond.constantDouble RX6 69 (13787419979223755799), Cond.methodLink RX6 79 yX6_isOn, Cond.instanceMethod yX6_isOn, Cond.selects RX6 yX6_isOn yX6_isOn, Cond.code yX6_isOn cX6_isOn 3 (some .boolean), Cond.methodLink RX6 33 yX6_whole]
def wsX6_turn_r4 : List Cond := [Cond.instanceMethod yX6_whole, Cond.selects RX6 yX6_whole yX6_whole, Cond.code yX6_whole cX6_whole 1 none, Cond.fieldLink RX6 16 "SkewFindModel" "ends" "[I", Cond.fieldLink RX6 39 "SkewFindModel" "isAsked" "Z", Cond.methodLink RX6 107 yX6_countOn, Cond.instanceMethod yX6_countOn, Cond.selects RX6 yX6_countOn yX6_countOn, Cond.code yX6_countOn cX6_countOn 3 (some .int)]
def wsX6_turn : List Cond := .code yX6_turn cX6_turn 3 (some .int) :: ((wsX6_turn_r1 ++ (wsX6_turn_r2 ++ (wsX6_turn_r3 ++ wsX6_turn_r4))) ++ wsX60)
def wsX6_back_r1 : List Cond := [Cond.fieldLink RX6 36 "SkewFindModel" "code" "I", Cond.fieldLink RX6 144 "SkewFindModel" "turnCount" "I", Cond.fieldLink RX6 20 "SkewFindModel" "turns" "[I", Cond.methodLink RX6 147 yX6_shear, Cond.instanceMethod yX6_shear, Cond.selects RX6 yX6_shear yX6_shear, Cond.initialized RX6, Cond.code yX6_shear cX6_shear 5 none, Cond.constantDouble RX6 119 (4611686018427387904), Cond.methodLink RX6 85 yX6_slope, Cond.static yX6_slope, Cond.code yX6_slope cX6_slope 6 (some .double), Cond.constantDouble RX6 53 (4599676419421066581), Cond.constantDouble RX6 55 (4593971859893063953), Cond.constantDouble RX6 57 (4587938466106554908), Cond.methodLink RX6 49 yX6_radians, Cond.static yX6_radians, Cond.code yX6_radians cX6_radians 2 (some .double), Cond.constantDouble RX6 45 (4614256656552045848), Cond.constantDouble RX6 47 (4670677016280825856), Cond.methodLink RX6 131 yX6_shearRows, Cond.instanceMethod yX6_shearRows, Cond.selects RX6 yX6_shearRows yX6_shearRows, Cond.code yX6_shearRows cX6_shearRows 9 none]
def wsX6_back_r2 : List Cond := [Cond.fieldLink RX6 30 "SkewFindModel" "height" "I", Cond.fieldLink RX6 26 "SkewFindModel" "width" "I", Cond.fieldLink RX6 13 "SkewFindModel" "next" "[Z", Cond.fieldLink RX6 7 "SkewFindModel" "on" "[Z", Cond.methodLink RX6 121 yX6_forget, Cond.instanceMethod yX6_forget, Cond.selects RX6 yX6_forget yX6_forget, Cond.code yX6_forget cX6_forget 2 none, Cond.methodLink RX6 92 yX6_wholeOf, Cond.static yX6_wholeOf, Cond.code yX6_wholeOf cX6_wholeOf 5 (some .int), Cond.constantDouble RX6 43 (4602678819172646912), Cond.methodLink RX6 124 yX6_within, Cond.static yX6_within, Cond.code yX6_within cX6_within 3 (some .int), Cond.methodLink RX6 128 yX6_change, Cond.instanceMethod yX6_change, Cond.selects RX6 yX6_change yX6_change, Cond.code yX6_change cX6_change 2 none, Cond.methodLink RX6 135 yX6_sine, Cond.static yX6_sine, Cond.code yX6_sine cX6_sine 6 (some .double), Cond.constantDouble RX6 59 (13818544856648471893), Cond.constantDouble RX6 61 (4575957461383581969)]
def wsX6_back_r3 : List Cond := [Cond.constantDouble RX6 63 (13774824197408792602), Cond.methodLink RX6 138 yX6_shearColumns, Cond.instanceMethod yX6_shearColumns, Cond.selects RX6 yX6_shearColumns yX6_shearColumns, Cond.code yX6_shearColumns cX6_shearColumns 9 none, Cond.methodLink RX6 33 yX6_whole, Cond.instanceMethod yX6_whole, Cond.selects RX6 yX6_whole yX6_whole, Cond.code yX6_whole cX6_whole 1 none, Cond.fieldLink RX6 16 "SkewFindModel" "ends" "[I", Cond.fieldLink RX6 39 "SkewFindModel" "isAsked" "Z"]
def wsX6_back : List Cond := .code yX6_back cX6_back 1 (some .int) :: ((wsX6_back_r1 ++ (wsX6_back_r2 ++ wsX6_back_r3)) ++ wsX60)
def wsX6_isBare : List Cond := .code yX6_isBare cX6_isBare 5 (some .boolean) :: ([.methodLink RX6 79 yX6_isOn, .instanceMethod yX6_isOn, .selects RX6 yX6_isOn yX6_isOn, .initialized RX6, .code yX6_isOn cX6_isOn 3 (some .boolean), .fieldLink RX6 26 "SkewFindModel" "width" "I", .fieldLink RX6 30 "SkewFindModel" "height" "I", .fieldLink RX6 7 "SkewFindModel" "on" "[Z"] ++ wsX60)
def wsX6_crop : List Cond := .code yX6_crop cX6_crop 4 (some .int) :: ([.fieldLink RX6 16 "SkewFindModel" "ends" "[I", .methodLink RX6 75 yX6_refuses, .instanceMethod yX6_refuses, .selects RX6 yX6_refuses yX6_refuses, .initialized RX6, .code yX6_refuses cX6_refuses 2 (some .boolean), .fieldLink RX6 36 "SkewFindModel" "code" "I", .methodLink RX6 107 yX6_countOn, .instanceMethod yX6_countOn, .selects RX6 yX6_countOn yX6_countOn, .code yX6_countOn cX6_countOn 3 (some .int), .fieldLink RX6 7 "SkewFindModel" "on" "[Z", .methodLink RX6 155 yX6_isBare, .instanceMethod yX6_isBare, .selects RX6 yX6_isBare yX6_isBare, .code yX6_isBare cX6_isBare 5 (some .boolean), .methodLink RX6 79 yX6_isOn, .instanceMethod yX6_isOn, .selects RX6 yX6_isOn yX6_isOn, .code yX6_isOn cX6_isOn 3 (some .boolean), .fieldLink RX6 26 "SkewFindModel" "width" "I", .fieldLink RX6 30 "SkewFindModel" "height" "I"] ++ wsX60)
def wsX6_size : List Cond := .code yX6_size cX6_size 2 (some .int) :: ([.fieldLink RX6 16 "SkewFindModel" "ends" "[I", .methodLink RX6 75 yX6_refuses, .instanceMethod yX6_refuses, .selects RX6 yX6_refuses yX6_refuses, .initialized RX6, .code yX6_refuses cX6_refuses 2 (some .boolean), .fieldLink RX6 36 "SkewFindModel" "code" "I"] ++ wsX60)
def wsX6_goTo : List Cond := .code yX6_goTo cX6_goTo 4 (some .boolean) :: ([.fieldLink RX6 30 "SkewFindModel" "height" "I", .fieldLink RX6 158 "SkewFindModel" "bandAt" "I", .fieldLink RX6 161 "SkewFindModel" "bandRows" "I", .methodLink RX6 155 yX6_isBare, .instanceMethod yX6_isBare, .selects RX6 yX6_isBare yX6_isBare, .initialized RX6, .code yX6_isBare cX6_isBare 5 (some .boolean), .methodLink RX6 79 yX6_isOn, .instanceMethod yX6_isOn, .selects RX6 yX6_isOn yX6_isOn, .code yX6_isOn cX6_isOn 3 (some .boolean), .fieldLink RX6 26 "SkewFindModel" "width" "I", .fieldLink RX6 7 "SkewFindModel" "on" "[Z"] ++ wsX60)
def wsX6_bands : List Cond := .code yX6_bands cX6_bands 2 (some .int) :: ([.fieldLink RX6 36 "SkewFindModel" "code" "I", .methodLink RX6 164 yX6_goTo, .instanceMethod yX6_goTo, .selects RX6 yX6_goTo yX6_goTo, .initialized RX6, .code yX6_goTo cX6_goTo 4 (some .boolean), .fieldLink RX6 30 "SkewFindModel" "height" "I", .fieldLink RX6 158 "SkewFindModel" "bandAt" "I", .fieldLink RX6 161 "SkewFindModel" "bandRows" "I", .methodLink RX6 155 yX6_isBare, .instanceMethod yX6_isBare, .selects RX6 yX6_isBare yX6_isBare, .code yX6_isBare cX6_isBare 5 (some .boolean), .methodLink RX6 79 yX6_isOn, .instanceMethod yX6_isOn, .selects RX6 yX6_isOn yX6_isOn, .code yX6_isOn cX6_isOn 3 (some .boolean), .fieldLink RX6 26 "SkewFindModel" "width" "I", .fieldLink RX6 7 "SkewFindModel" "on" "[Z"] ++ wsX60)
def wsX6_onIn : List Cond := .code yX6_onIn cX6_onIn 6 (some .int) :: ([.fieldLink RX6 26 "SkewFindModel" "width" "I", .methodLink RX6 79 yX6_isOn, .instanceMethod yX6_isOn, .selects RX6 yX6_isOn yX6_isOn, .initialized RX6, .code yX6_isOn cX6_isOn 3 (some .boolean), .fieldLink RX6 30 "SkewFindModel" "height" "I", .fieldLink RX6 7 "SkewFindModel" "on" "[Z"] ++ wsX60)
def wsX6_band_r1 : List Cond := [Cond.fieldLink RX6 158 "SkewFindModel" "bandAt" "I", Cond.fieldLink RX6 161 "SkewFindModel" "bandRows" "I", Cond.methodLink RX6 164 yX6_goTo, Cond.instanceMethod yX6_goTo, Cond.selects RX6 yX6_goTo yX6_goTo, Cond.initialized RX6, Cond.code yX6_goTo cX6_goTo 4 (some .boolean), Cond.fieldLink RX6 30 "SkewFindModel" "height" "I", Cond.methodLink RX6 155 yX6_isBare, Cond.instanceMethod yX6_isBare, Cond.selects RX6 yX6_isBare yX6_isBare, Cond.code yX6_isBare cX6_isBare 5 (some .boolean), Cond.methodLink RX6 79 yX6_isOn, Cond.instanceMethod yX6_isOn, Cond.selects RX6 yX6_isOn yX6_isOn, Cond.code yX6_isOn cX6_isOn 3 (some .boolean), Cond.fieldLink RX6 26 "SkewFindModel" "width" "I", Cond.fieldLink RX6 7 "SkewFindModel" "on" "[Z", Cond.methodLink RX6 75 yX6_refuses, Cond.instanceMethod yX6_refuses, Cond.selects RX6 yX6_refuses yX6_refuses, Cond.code yX6_refuses cX6_refuses 2 (some .boolean), Cond.fieldLink RX6 36 "SkewFindModel" "code" "I", Cond.methodLink RX6 167 yX6_onIn]
def wsX6_band_r2 : List Cond := [Cond.instanceMethod yX6_onIn, Cond.selects RX6 yX6_onIn yX6_onIn, Cond.code yX6_onIn cX6_onIn 6 (some .int)]
def wsX6_band : List Cond := .code yX6_band cX6_band 3 (some .int) :: ((wsX6_band_r1 ++ wsX6_band_r2) ++ wsX60)
def wsX6_line_r1 : List Cond := [Cond.constantDouble RX6 170 (13875379345695965184), Cond.constantDouble RX6 172 (4652007308841189376), Cond.fieldLink RX6 26 "SkewFindModel" "width" "I", Cond.fieldLink RX6 158 "SkewFindModel" "bandAt" "I", Cond.fieldLink RX6 161 "SkewFindModel" "bandRows" "I", Cond.constantDouble RX6 174 (4625196817309499392), Cond.methodLink RX6 164 yX6_goTo, Cond.instanceMethod yX6_goTo, Cond.selects RX6 yX6_goTo yX6_goTo, Cond.initialized RX6, Cond.code yX6_goTo cX6_goTo 4 (some .boolean), Cond.fieldLink RX6 30 "SkewFindModel" "height" "I", Cond.methodLink RX6 155 yX6_isBare, Cond.instanceMethod yX6_isBare, Cond.selects RX6 yX6_isBare yX6_isBare, Cond.code yX6_isBare cX6_isBare 5 (some .boolean), Cond.methodLink RX6 79 yX6_isOn, Cond.instanceMethod yX6_isOn, Cond.selects RX6 yX6_isOn yX6_isOn, Cond.code yX6_isOn cX6_isOn 3 (some .boolean), Cond.fieldLink RX6 7 "SkewFindModel" "on" "[Z", Cond.methodLink RX6 75 yX6_refuses, Cond.instanceMethod yX6_refuses, Cond.selects RX6 yX6_refuses yX6_refuses]
def wsX6_line_r2 : List Cond := [Cond.code yX6_refuses cX6_refuses 2 (some .boolean), Cond.fieldLink RX6 36 "SkewFindModel" "code" "I", Cond.methodLink RX6 92 yX6_wholeOf, Cond.static yX6_wholeOf, Cond.code yX6_wholeOf cX6_wholeOf 5 (some .int), Cond.constantDouble RX6 43 (4602678819172646912)]
def wsX6_line : List Cond := .code yX6_line cX6_line 12 (some .int) :: ((wsX6_line_r1 ++ wsX6_line_r2) ++ wsX60)
def wsX6_upside : List Cond := .code yX6_upside cX6_upside 5 (some .boolean) :: ([.fieldLink RX6 36 "SkewFindModel" "code" "I", .fieldLink RX6 161 "SkewFindModel" "bandRows" "I", .fieldLink RX6 158 "SkewFindModel" "bandAt" "I", .methodLink RX6 164 yX6_goTo, .instanceMethod yX6_goTo, .selects RX6 yX6_goTo yX6_goTo, .initialized RX6, .code yX6_goTo cX6_goTo 4 (some .boolean), .fieldLink RX6 30 "SkewFindModel" "height" "I", .methodLink RX6 155 yX6_isBare, .instanceMethod yX6_isBare, .selects RX6 yX6_isBare yX6_isBare, .code yX6_isBare cX6_isBare 5 (some .boolean), .methodLink RX6 79 yX6_isOn, .instanceMethod yX6_isOn, .selects RX6 yX6_isOn yX6_isOn, .code yX6_isOn cX6_isOn 3 (some .boolean), .fieldLink RX6 26 "SkewFindModel" "width" "I", .fieldLink RX6 7 "SkewFindModel" "on" "[Z", .methodLink RX6 167 yX6_onIn, .instanceMethod yX6_onIn, .selects RX6 yX6_onIn yX6_onIn, .code yX6_onIn cX6_onIn 6 (some .int)] ++ wsX60)
def wsX6_told : List Cond := .code yX6_told cX6_told 2 (some .int) :: ([.fieldLink RX6 36 "SkewFindModel" "code" "I", .fieldLink RX6 26 "SkewFindModel" "width" "I", .fieldLink RX6 30 "SkewFindModel" "height" "I", .fieldLink RX6 144 "SkewFindModel" "turnCount" "I", .methodLink RX6 107 yX6_countOn, .instanceMethod yX6_countOn, .selects RX6 yX6_countOn yX6_countOn, .initialized RX6, .code yX6_countOn cX6_countOn 3 (some .int), .fieldLink RX6 7 "SkewFindModel" "on" "[Z", .methodLink RX6 88 yX6_countEnds, .instanceMethod yX6_countEnds, .selects RX6 yX6_countEnds yX6_countEnds, .code yX6_countEnds cX6_countEnds 4 (some .int), .methodLink RX6 82 yX6_isEnd, .instanceMethod yX6_isEnd, .selects RX6 yX6_isEnd yX6_isEnd, .code yX6_isEnd cX6_isEnd 3 (some .boolean), .methodLink RX6 79 yX6_isOn, .instanceMethod yX6_isOn, .selects RX6 yX6_isOn yX6_isOn, .code yX6_isOn cX6_isOn 3 (some .boolean)] ++ wsX60)
def wsX6_clear : List Cond := .code yX6_clear cX6_clear 2 none :: ([.fieldLink RX6 36 "SkewFindModel" "code" "I", .fieldLink RX6 7 "SkewFindModel" "on" "[Z", .fieldLink RX6 144 "SkewFindModel" "turnCount" "I", .methodLink RX6 33 yX6_whole, .instanceMethod yX6_whole, .selects RX6 yX6_whole yX6_whole, .initialized RX6, .code yX6_whole cX6_whole 1 none, .fieldLink RX6 16 "SkewFindModel" "ends" "[I", .fieldLink RX6 26 "SkewFindModel" "width" "I", .fieldLink RX6 30 "SkewFindModel" "height" "I", .fieldLink RX6 39 "SkewFindModel" "isAsked" "Z"] ++ wsX60)
def wsJ9_abs_0f7a4 : List Cond := .code yJ9_abs_0f7a4 cJ9_abs_0f7a4 1 (some .int) :: ([])
def wsJ9_max_7cf53 : List Cond := .code yJ9_max_7cf53 cJ9_max_7cf53 2 (some .int) :: ([])
def wsJ9_min_7cf53 : List Cond := .code yJ9_min_7cf53 cJ9_min_7cf53 2 (some .int) :: ([])
def wsL_cell : List Cond := .code yL_cell cL_cell 2 (some .int) :: ([])
def wsL_put_r1 : List Cond := [Cond.classLink RL 13 "java/lang/IndexOutOfBoundsException", Cond.classLink RL 15 "java/lang/IllegalArgumentException", Cond.methodLink RL 7 yX5_put, Cond.instanceMethod yX5_put, Cond.selects RX5 yX5_put yX5_put, Cond.initialized RX5, Cond.code yX5_put cX5_put 6 (some .int), Cond.classLink RX5 56 "java/lang/IllegalArgumentException", Cond.initialized "java/lang/IllegalArgumentException", Cond.fieldLink RX5 26 "SkewFind" "picture" "LSkewFind$Picture;", Cond.methodLink RX5 53 yX5_checkSample, Cond.instanceMethod yX5_checkSample, Cond.selects RX5 yX5_checkSample yX5_checkSample, Cond.code yX5_checkSample cX5_checkSample 3 none, Cond.classLink RX5 191 "java/lang/IndexOutOfBoundsException", Cond.initialized "java/lang/IndexOutOfBoundsException", Cond.methodLink RX5 188 yX0_has, Cond.instanceMethod yX0_has, Cond.selects RX0 yX0_has yX0_has, Cond.initialized RX0, Cond.code yX0_has cX0_has 3 (some .boolean), Cond.fieldLink RX0 9 "SkewFind$Picture" "width" "I", Cond.fieldLink RX0 15 "SkewFind$Picture" "height" "I", Cond.methodLink RX5 63 yX0_fill]
def wsL_put_r2 : List Cond := [Cond.instanceMethod yX0_fill, Cond.selects RX0 yX0_fill yX0_fill, Cond.code yX0_fill cX0_fill 8 (some .int), Cond.methodLink RX0 42 Lib.Math.min.name, Cond.static Lib.Math.min.name, Cond.initialized "java/lang/Math", Cond.code Lib.Math.min.name Lib.Math.min.code 2 (some .int), Cond.methodLink RX0 34 yX0_has, Cond.methodLink RX0 48 yX0_bitsOf, Cond.static yX0_bitsOf, Cond.code yX0_bitsOf cX0_bitsOf 1 (some .int), Cond.methodLink RX0 38 yX0_rowBits, Cond.instanceMethod yX0_rowBits, Cond.selects RX0 yX0_rowBits yX0_rowBits, Cond.code yX0_rowBits cX0_rowBits 2 (some .int), Cond.fieldLink RX0 27 "SkewFind$Picture" "bits" "[I", Cond.methodLink RX0 51 yX0_setRowBits, Cond.instanceMethod yX0_setRowBits, Cond.selects RX0 yX0_setRowBits yX0_setRowBits, Cond.code yX0_setRowBits cX0_setRowBits 3 none, Cond.methodLink RX0 55 yJ6_bitCount_0f7a4, Cond.static yJ6_bitCount_0f7a4, Cond.initialized RJ6, Cond.code yJ6_bitCount_0f7a4 cJ6_bitCount_0f7a4 1 (some .int)]
def wsL_put_r3 : List Cond := [Cond.constant RJ6 265 (1431655765), Cond.constant RJ6 266 (858993459), Cond.constant RJ6 267 (252645135), Cond.methodLink RX5 67 yX5_noteChange, Cond.instanceMethod yX5_noteChange, Cond.selects RX5 yX5_noteChange yX5_noteChange, Cond.code yX5_noteChange cX5_noteChange 1 none, Cond.fieldLink RX5 35 "SkewFind" "window" "LSkewFind$Window;", Cond.fieldLink RX5 42 "SkewFind" "search" "LSkewFind$Search;", Cond.methodLink RX5 182 yX4_open, Cond.instanceMethod yX4_open, Cond.selects RX4 yX4_open yX4_open, Cond.initialized RX4, Cond.code yX4_open cX4_open 1 none, Cond.fieldLink RX4 18 "SkewFind$Window" "left" "I", Cond.fieldLink RX4 22 "SkewFind$Window" "upper" "I", Cond.fieldLink RX4 9 "SkewFind$Window" "picture" "LSkewFind$Picture;", Cond.fieldLink RX4 25 "SkewFind$Picture" "width" "I", Cond.fieldLink RX4 30 "SkewFind$Window" "right" "I", Cond.fieldLink RX4 33 "SkewFind$Picture" "height" "I", Cond.fieldLink RX4 36 "SkewFind$Window" "lower" "I", Cond.methodLink RX5 185 yX3_forget, Cond.instanceMethod yX3_forget, Cond.selects RX3 yX3_forget yX3_forget]
def wsL_put_r4 : List Cond := [Cond.initialized RX3, Cond.code yX3_forget cX3_forget 1 none, Cond.fieldLink RX3 15 "SkewFind$Search" "asked" "Z"]
def wsL_put : List Cond := .codeWith yL_put cL_put 7 (some .int) [(0, 14, 17, 13), (0, 14, 21, 15)] :: ((wsL_put_r1 ++ (wsL_put_r2 ++ (wsL_put_r3 ++ wsL_put_r4))) ++ wsX50 ++ wsX00 ++ wsX40 ++ wsX30 ++ (vx_atS RX5 60 "java/lang/IllegalArgumentException" ["java/lang/RuntimeException", "java/lang/Exception"]).filter goodWord ++ (vx_atS RX5 195 "java/lang/IndexOutOfBoundsException" ["java/lang/RuntimeException", "java/lang/Exception"]).filter goodWord)
def wsL_at_r1 : List Cond := [Cond.classLink RL 13 "java/lang/IndexOutOfBoundsException", Cond.methodLink RL 17 yX5_at, Cond.instanceMethod yX5_at, Cond.selects RX5 yX5_at yX5_at, Cond.initialized RX5, Cond.code yX5_at cX5_at 3 (some .boolean), Cond.fieldLink RX5 26 "SkewFind" "picture" "LSkewFind$Picture;", Cond.methodLink RX5 53 yX5_checkSample, Cond.instanceMethod yX5_checkSample, Cond.selects RX5 yX5_checkSample yX5_checkSample, Cond.code yX5_checkSample cX5_checkSample 3 none, Cond.classLink RX5 191 "java/lang/IndexOutOfBoundsException", Cond.initialized "java/lang/IndexOutOfBoundsException", Cond.methodLink RX5 188 yX0_has, Cond.instanceMethod yX0_has, Cond.selects RX0 yX0_has yX0_has, Cond.initialized RX0, Cond.code yX0_has cX0_has 3 (some .boolean), Cond.fieldLink RX0 9 "SkewFind$Picture" "width" "I", Cond.fieldLink RX0 15 "SkewFind$Picture" "height" "I", Cond.methodLink RX5 70 yX0_isOn, Cond.instanceMethod yX0_isOn, Cond.selects RX0 yX0_isOn yX0_isOn, Cond.code yX0_isOn cX0_isOn 3 (some .boolean)]
def wsL_at_r2 : List Cond := [Cond.methodLink RX0 34 yX0_has, Cond.methodLink RX0 38 yX0_rowBits, Cond.instanceMethod yX0_rowBits, Cond.selects RX0 yX0_rowBits yX0_rowBits, Cond.code yX0_rowBits cX0_rowBits 2 (some .int), Cond.fieldLink RX0 27 "SkewFind$Picture" "bits" "[I"]
def wsL_at : List Cond := .codeWith yL_at cL_at 5 (some .int) [(0, 17, 20, 13)] :: ((wsL_at_r1 ++ wsL_at_r2) ++ wsX50 ++ wsX00 ++ (vx_atS RX5 195 "java/lang/IndexOutOfBoundsException" ["java/lang/RuntimeException", "java/lang/Exception"]).filter goodWord)
def wsL_sum_r1 : List Cond := [Cond.classLink RL 15 "java/lang/IllegalArgumentException", Cond.methodLink RL 21 yX5_sum, Cond.instanceMethod yX5_sum, Cond.selects RX5 yX5_sum yX5_sum, Cond.initialized RX5, Cond.code yX5_sum cX5_sum 2 (some .double), Cond.fieldLink RX5 42 "SkewFind" "search" "LSkewFind$Search;", Cond.methodLink RX5 74 yX5_checkAngle, Cond.static yX5_checkAngle, Cond.code yX5_checkAngle cX5_checkAngle 1 none, Cond.classLink RX5 56 "java/lang/IllegalArgumentException", Cond.initialized "java/lang/IllegalArgumentException", Cond.methodLink RX5 78 yX3_sumAt, Cond.instanceMethod yX3_sumAt, Cond.selects RX3 yX3_sumAt yX3_sumAt, Cond.initialized RX3, Cond.code yX3_sumAt cX3_sumAt 3 (some .double), Cond.fieldLink RX3 33 "SkewFind$Search" "picture" "LSkewFind$Picture;", Cond.methodLink RX3 65 yX0_runEnds, Cond.instanceMethod yX0_runEnds, Cond.selects RX0 yX0_runEnds yX0_runEnds, Cond.initialized RX0, Cond.code yX0_runEnds cX0_runEnds 3 (some .int), Cond.fieldLink RX0 15 "SkewFind$Picture" "height" "I"]
def wsL_sum_r2 : List Cond := [Cond.methodLink RX0 60 yX0_runEndBits, Cond.instanceMethod yX0_runEndBits, Cond.selects RX0 yX0_runEndBits yX0_runEndBits, Cond.code yX0_runEndBits cX0_runEndBits 3 (some .int), Cond.methodLink RX0 38 yX0_rowBits, Cond.instanceMethod yX0_rowBits, Cond.selects RX0 yX0_rowBits yX0_rowBits, Cond.code yX0_rowBits cX0_rowBits 2 (some .int), Cond.fieldLink RX0 27 "SkewFind$Picture" "bits" "[I", Cond.methodLink RX0 55 yJ6_bitCount_0f7a4, Cond.static yJ6_bitCount_0f7a4, Cond.initialized RJ6, Cond.code yJ6_bitCount_0f7a4 cJ6_bitCount_0f7a4 1 (some .int), Cond.constant RJ6 265 (1431655765), Cond.constant RJ6 266 (858993459), Cond.constant RJ6 267 (252645135), Cond.methodLink RX3 68 yX1_slope, Cond.static yX1_slope, Cond.initialized RX1, Cond.code yX1_slope cX1_slope 6 (some .double), Cond.constantDouble RX1 17 (4599676419421066581), Cond.constantDouble RX1 19 (4593971859893063953), Cond.constantDouble RX1 21 (4587938466106554908), Cond.methodLink RX1 11 yX1_radians]
def wsL_sum_r3 : List Cond := [Cond.static yX1_radians, Cond.code yX1_radians cX1_radians 2 (some .double), Cond.constantDouble RX1 7 (4614256656552045848), Cond.constantDouble RX1 9 (4670677016280825856), Cond.methodLink RX3 74 yX3_countEnds, Cond.instanceMethod yX3_countEnds, Cond.selects RX3 yX3_countEnds yX3_countEnds, Cond.code yX3_countEnds cX3_countEnds 6 none, Cond.fieldLink RX3 11 "SkewFind$Search" "endsOnLine" "[I", Cond.fieldLink RX3 81 "SkewFind$Picture" "height" "I", Cond.fieldLink RX3 88 "SkewFind$Picture" "width" "I", Cond.methodLink RX3 84 yX0_runEndBits, Cond.methodLink RX3 91 yX1_whole, Cond.static yX1_whole, Cond.code yX1_whole cX1_whole 5 (some .int), Cond.constantDouble RX1 35 (4602678819172646912), Cond.methodLink RX3 95 yX3_countOnLine, Cond.instanceMethod yX3_countOnLine, Cond.selects RX3 yX3_countOnLine yX3_countOnLine, Cond.code yX3_countOnLine cX3_countOnLine 3 none, Cond.methodLink RX3 78 yX3_squaresOfCounts, Cond.instanceMethod yX3_squaresOfCounts, Cond.selects RX3 yX3_squaresOfCounts yX3_squaresOfCounts, Cond.code yX3_squaresOfCounts cX3_squaresOfCounts 3 (some .int)]
def wsL_sum : List Cond := .codeWith yL_sum cL_sum 4 (some .int) [(0, 8, 11, 15)] :: ((wsL_sum_r1 ++ (wsL_sum_r2 ++ wsL_sum_r3)) ++ wsX50 ++ wsX30 ++ wsX00 ++ (vx_atS RX5 60 "java/lang/IllegalArgumentException" ["java/lang/RuntimeException", "java/lang/Exception"]).filter goodWord)
def wsL_angle_r1 : List Cond := [Cond.classLink RL 15 "java/lang/IllegalArgumentException", Cond.methodLink RL 25 yX5_angle, Cond.instanceMethod yX5_angle, Cond.selects RX5 yX5_angle yX5_angle, Cond.initialized RX5, Cond.code yX5_angle cX5_angle 2 (some .int), Cond.classLink RX5 56 "java/lang/IllegalArgumentException", Cond.initialized "java/lang/IllegalArgumentException", Cond.fieldLink RX5 42 "SkewFind" "search" "LSkewFind$Search;", Cond.methodLink RX5 84 yX3_find, Cond.instanceMethod yX3_find, Cond.selects RX3 yX3_find yX3_find, Cond.initialized RX3, Cond.code yX3_find cX3_find 3 (some .int), Cond.fieldLink RX3 15 "SkewFind$Search" "asked" "Z", Cond.fieldLink RX3 33 "SkewFind$Search" "picture" "LSkewFind$Picture;", Cond.fieldLink RX3 19 "SkewFind$Search" "sureOfBest" "Z", Cond.fieldLink RX3 22 "SkewFind$Search" "gridMean" "D", Cond.constant RX3 43 (100000), Cond.fieldLink RX3 48 "SkewFind$Search" "STEPS" "[I", Cond.fieldLink RX3 30 "SkewFind$Search" "bestSum" "D", Cond.constantDouble RX3 55 (4608308318706860032), Cond.fieldLink RX3 26 "SkewFind$Search" "best" "I", Cond.methodLink RX3 37 yX0_samplesOn]
def wsL_angle_r2 : List Cond := [Cond.instanceMethod yX0_samplesOn, Cond.selects RX0 yX0_samplesOn yX0_samplesOn, Cond.initialized RX0, Cond.code yX0_samplesOn cX0_samplesOn 3 (some .int), Cond.fieldLink RX0 15 "SkewFind$Picture" "height" "I", Cond.methodLink RX0 38 yX0_rowBits, Cond.instanceMethod yX0_rowBits, Cond.selects RX0 yX0_rowBits yX0_rowBits, Cond.code yX0_rowBits cX0_rowBits 2 (some .int), Cond.fieldLink RX0 27 "SkewFind$Picture" "bits" "[I", Cond.methodLink RX0 55 yJ6_bitCount_0f7a4, Cond.static yJ6_bitCount_0f7a4, Cond.initialized RJ6, Cond.code yJ6_bitCount_0f7a4 cJ6_bitCount_0f7a4 1 (some .int), Cond.constant RJ6 265 (1431655765), Cond.constant RJ6 266 (858993459), Cond.constant RJ6 267 (252645135), Cond.methodLink RX3 44 yX3_tryGrid, Cond.instanceMethod yX3_tryGrid, Cond.selects RX3 yX3_tryGrid yX3_tryGrid, Cond.code yX3_tryGrid cX3_tryGrid 8 none, Cond.methodLink RX3 57 yX3_sumAt, Cond.instanceMethod yX3_sumAt, Cond.selects RX3 yX3_sumAt yX3_sumAt]
def wsL_angle_r3 : List Cond := [Cond.code yX3_sumAt cX3_sumAt 3 (some .double), Cond.methodLink RX3 65 yX0_runEnds, Cond.instanceMethod yX0_runEnds, Cond.selects RX0 yX0_runEnds yX0_runEnds, Cond.code yX0_runEnds cX0_runEnds 3 (some .int), Cond.methodLink RX0 60 yX0_runEndBits, Cond.instanceMethod yX0_runEndBits, Cond.selects RX0 yX0_runEndBits yX0_runEndBits, Cond.code yX0_runEndBits cX0_runEndBits 3 (some .int), Cond.methodLink RX3 68 yX1_slope, Cond.static yX1_slope, Cond.initialized RX1, Cond.code yX1_slope cX1_slope 6 (some .double), Cond.constantDouble RX1 17 (4599676419421066581), Cond.constantDouble RX1 19 (4593971859893063953), Cond.constantDouble RX1 21 (4587938466106554908), Cond.methodLink RX1 11 yX1_radians, Cond.static yX1_radians, Cond.code yX1_radians cX1_radians 2 (some .double), Cond.constantDouble RX1 7 (4614256656552045848), Cond.constantDouble RX1 9 (4670677016280825856), Cond.methodLink RX3 74 yX3_countEnds, Cond.instanceMethod yX3_countEnds, Cond.selects RX3 yX3_countEnds yX3_countEnds]
def wsL_angle_r4 : List Cond := [Cond.code yX3_countEnds cX3_countEnds 6 none, Cond.fieldLink RX3 11 "SkewFind$Search" "endsOnLine" "[I", Cond.fieldLink RX3 81 "SkewFind$Picture" "height" "I", Cond.fieldLink RX3 88 "SkewFind$Picture" "width" "I", Cond.methodLink RX3 84 yX0_runEndBits, Cond.methodLink RX3 91 yX1_whole, Cond.static yX1_whole, Cond.code yX1_whole cX1_whole 5 (some .int), Cond.constantDouble RX1 35 (4602678819172646912), Cond.methodLink RX3 95 yX3_countOnLine, Cond.instanceMethod yX3_countOnLine, Cond.selects RX3 yX3_countOnLine yX3_countOnLine, Cond.code yX3_countOnLine cX3_countOnLine 3 none, Cond.methodLink RX3 78 yX3_squaresOfCounts, Cond.instanceMethod yX3_squaresOfCounts, Cond.selects RX3 yX3_squaresOfCounts yX3_squaresOfCounts, Cond.code yX3_squaresOfCounts cX3_squaresOfCounts 3 (some .int), Cond.methodLink RX3 61 yX3_take, Cond.instanceMethod yX3_take, Cond.selects RX3 yX3_take yX3_take, Cond.code yX3_take cX3_take 4 none, Cond.methodLink RX3 51 yX3_tryBeside, Cond.instanceMethod yX3_tryBeside, Cond.selects RX3 yX3_tryBeside yX3_tryBeside]
def wsL_angle_r5 : List Cond := [Cond.code yX3_tryBeside cX3_tryBeside 7 none]
def wsL_angle : List Cond := .codeWith yL_angle cL_angle 4 (some .int) [(0, 9, 12, 15)] :: ((wsL_angle_r1 ++ (wsL_angle_r2 ++ (wsL_angle_r3 ++ (wsL_angle_r4 ++ wsL_angle_r5)))) ++ wsX50 ++ wsX30 ++ wsX00 ++ (vx_atS RX5 60 "java/lang/IllegalArgumentException" ["java/lang/RuntimeException", "java/lang/Exception"]).filter goodWord)
def wsL_sure : List Cond := .codeWith yL_sure cL_sure 3 (some .int) [(0, 15, 18, 33)] :: ([.classLink RL 33 "java/lang/IllegalStateException", .methodLink RL 29 yX5_sure, .instanceMethod yX5_sure, .selects RX5 yX5_sure yX5_sure, .initialized RX5, .code yX5_sure cX5_sure 1 (some .boolean), .fieldLink RX5 42 "SkewFind" "search" "LSkewFind$Search;", .methodLink RX5 87 yX5_checkAsked, .instanceMethod yX5_checkAsked, .selects RX5 yX5_checkAsked yX5_checkAsked, .code yX5_checkAsked cX5_checkAsked 1 none, .classLink RX5 205 "java/lang/IllegalStateException", .initialized "java/lang/IllegalStateException", .methodLink RX5 202 yX3_isAsked, .instanceMethod yX3_isAsked, .selects RX3 yX3_isAsked yX3_isAsked, .initialized RX3, .code yX3_isAsked cX3_isAsked 1 (some .boolean), .fieldLink RX3 15 "SkewFind$Search" "asked" "Z", .methodLink RX5 90 yX3_isSure, .instanceMethod yX3_isSure, .selects RX3 yX3_isSure yX3_isSure, .code yX3_isSure cX3_isSure 1 (some .boolean), .fieldLink RX3 19 "SkewFind$Search" "sureOfBest" "Z"] ++ wsX50 ++ wsX30 ++ (vx_atS RX5 209 "java/lang/IllegalStateException" ["java/lang/RuntimeException", "java/lang/Exception"]).filter goodWord)
def wsL_mean : List Cond := .codeWith yL_mean cL_mean 3 (some .int) [(0, 7, 10, 33)] :: ([.classLink RL 33 "java/lang/IllegalStateException", .methodLink RL 35 yX5_mean, .instanceMethod yX5_mean, .selects RX5 yX5_mean yX5_mean, .initialized RX5, .code yX5_mean cX5_mean 1 (some .double), .fieldLink RX5 42 "SkewFind" "search" "LSkewFind$Search;", .methodLink RX5 87 yX5_checkAsked, .instanceMethod yX5_checkAsked, .selects RX5 yX5_checkAsked yX5_checkAsked, .code yX5_checkAsked cX5_checkAsked 1 none, .classLink RX5 205 "java/lang/IllegalStateException", .initialized "java/lang/IllegalStateException", .methodLink RX5 202 yX3_isAsked, .instanceMethod yX3_isAsked, .selects RX3 yX3_isAsked yX3_isAsked, .initialized RX3, .code yX3_isAsked cX3_isAsked 1 (some .boolean), .fieldLink RX3 15 "SkewFind$Search" "asked" "Z", .methodLink RX5 94 yX3_meanOfGrid, .instanceMethod yX3_meanOfGrid, .selects RX3 yX3_meanOfGrid yX3_meanOfGrid, .code yX3_meanOfGrid cX3_meanOfGrid 1 (some .double), .fieldLink RX3 22 "SkewFind$Search" "gridMean" "D"] ++ wsX50 ++ wsX30 ++ (vx_atS RX5 209 "java/lang/IllegalStateException" ["java/lang/RuntimeException", "java/lang/Exception"]).filter goodWord)
def wsL_turn_r1 : List Cond := [Cond.classLink RL 15 "java/lang/IllegalArgumentException", Cond.classLink RL 43 "java/lang/UnsupportedOperationException", Cond.methodLink RL 39 yX5_turn, Cond.instanceMethod yX5_turn, Cond.selects RX5 yX5_turn yX5_turn, Cond.initialized RX5, Cond.code yX5_turn cX5_turn 3 (some .int), Cond.classLink RX5 104 "java/lang/UnsupportedOperationException", Cond.initialized "java/lang/UnsupportedOperationException", Cond.fieldLink RX5 13 "SkewFind" "turnCount" "I", Cond.fieldLink RX5 26 "SkewFind" "picture" "LSkewFind$Picture;", Cond.fieldLink RX5 9 "SkewFind" "turns" "[I", Cond.methodLink RX5 74 yX5_checkAngle, Cond.static yX5_checkAngle, Cond.code yX5_checkAngle cX5_checkAngle 1 none, Cond.classLink RX5 56 "java/lang/IllegalArgumentException", Cond.initialized "java/lang/IllegalArgumentException", Cond.methodLink RX5 98 yX0_turnBySampling, Cond.instanceMethod yX0_turnBySampling, Cond.selects RX0 yX0_turnBySampling yX0_turnBySampling, Cond.initialized RX0, Cond.code yX0_turnBySampling cX0_turnBySampling 7 none, Cond.fieldLink RX0 15 "SkewFind$Picture" "height" "I", Cond.methodLink RX0 72 yX1_sine]
def wsL_turn_r2 : List Cond := [Cond.static yX1_sine, Cond.initialized RX1, Cond.code yX1_sine cX1_sine 6 (some .double), Cond.constantDouble RX1 23 (13818544856648471893), Cond.constantDouble RX1 25 (4575957461383581969), Cond.constantDouble RX1 27 (13774824197408792602), Cond.methodLink RX1 11 yX1_radians, Cond.static yX1_radians, Cond.code yX1_radians cX1_radians 2 (some .double), Cond.constantDouble RX1 7 (4614256656552045848), Cond.constantDouble RX1 9 (4670677016280825856), Cond.methodLink RX0 101 yX1_cosine, Cond.static yX1_cosine, Cond.code yX1_cosine cX1_cosine 6 (some .double), Cond.constantDouble RX1 29 (13826050856027422720), Cond.constantDouble RX1 31 (4586165620538955093), Cond.constantDouble RX1 33 (13787419979223755799), Cond.methodLink RX0 92 yX0_keepOldBits, Cond.instanceMethod yX0_keepOldBits, Cond.selects RX0 yX0_keepOldBits yX0_keepOldBits, Cond.code yX0_keepOldBits cX0_keepOldBits 2 none, Cond.fieldLink RX0 31 "SkewFind$Picture" "oldBits" "[I", Cond.methodLink RX0 38 yX0_rowBits, Cond.instanceMethod yX0_rowBits]
def wsL_turn_r3 : List Cond := [Cond.selects RX0 yX0_rowBits yX0_rowBits, Cond.code yX0_rowBits cX0_rowBits 2 (some .int), Cond.fieldLink RX0 27 "SkewFind$Picture" "bits" "[I", Cond.methodLink RX0 104 yX0_sampledRow, Cond.instanceMethod yX0_sampledRow, Cond.selects RX0 yX0_sampledRow yX0_sampledRow, Cond.code yX0_sampledRow cX0_sampledRow 10 (some .int), Cond.fieldLink RX0 9 "SkewFind$Picture" "width" "I", Cond.fieldLink RX0 20 "SkewFind$Picture" "middleX" "D", Cond.fieldLink RX0 24 "SkewFind$Picture" "middleY" "D", Cond.methodLink RX0 82 yX1_whole, Cond.static yX1_whole, Cond.code yX1_whole cX1_whole 5 (some .int), Cond.constantDouble RX1 35 (4602678819172646912), Cond.methodLink RX0 34 yX0_has, Cond.instanceMethod yX0_has, Cond.selects RX0 yX0_has yX0_has, Cond.code yX0_has cX0_has 3 (some .boolean), Cond.methodLink RX0 98 yX0_oldRowBits, Cond.instanceMethod yX0_oldRowBits, Cond.selects RX0 yX0_oldRowBits yX0_oldRowBits, Cond.code yX0_oldRowBits cX0_oldRowBits 2 (some .int), Cond.methodLink RX0 51 yX0_setRowBits, Cond.instanceMethod yX0_setRowBits]
def wsL_turn_r4 : List Cond := [Cond.selects RX0 yX0_setRowBits yX0_setRowBits, Cond.code yX0_setRowBits cX0_setRowBits 3 none, Cond.methodLink RX5 101 yX0_turnByShears, Cond.instanceMethod yX0_turnByShears, Cond.selects RX0 yX0_turnByShears yX0_turnByShears, Cond.code yX0_turnByShears cX0_turnByShears 2 none, Cond.methodLink RX0 63 yX0_shearAll, Cond.instanceMethod yX0_shearAll, Cond.selects RX0 yX0_shearAll yX0_shearAll, Cond.code yX0_shearAll cX0_shearAll 7 none, Cond.constantDouble RX0 18 (4611686018427387904), Cond.methodLink RX0 66 yX1_slope, Cond.static yX1_slope, Cond.code yX1_slope cX1_slope 6 (some .double), Cond.constantDouble RX1 17 (4599676419421066581), Cond.constantDouble RX1 19 (4593971859893063953), Cond.constantDouble RX1 21 (4587938466106554908), Cond.methodLink RX0 75 yX0_shearRows, Cond.instanceMethod yX0_shearRows, Cond.selects RX0 yX0_shearRows yX0_shearRows, Cond.code yX0_shearRows cX0_shearRows 6 none, Cond.methodLink RX0 86 yX0_movedRight, Cond.instanceMethod yX0_movedRight, Cond.selects RX0 yX0_movedRight yX0_movedRight]
def wsL_turn_r5 : List Cond := [Cond.code yX0_movedRight cX0_movedRight 4 (some .int), Cond.methodLink RX0 89 yX1_wrapped, Cond.static yX1_wrapped, Cond.code yX1_wrapped cX1_wrapped 2 (some .int), Cond.methodLink RX1 37 yJ9_floorMod_7cf53, Cond.static yJ9_floorMod_7cf53, Cond.initialized RJ9, Cond.code yJ9_floorMod_7cf53 cJ9_floorMod_7cf53 3 (some .int), Cond.methodLink RX0 48 yX0_bitsOf, Cond.static yX0_bitsOf, Cond.code yX0_bitsOf cX0_bitsOf 1 (some .int), Cond.methodLink RX0 79 yX0_shearColumns, Cond.instanceMethod yX0_shearColumns, Cond.selects RX0 yX0_shearColumns yX0_shearColumns, Cond.code yX0_shearColumns cX0_shearColumns 8 none, Cond.methodLink RX0 95 yX0_wipe, Cond.instanceMethod yX0_wipe, Cond.selects RX0 yX0_wipe yX0_wipe, Cond.code yX0_wipe cX0_wipe 2 none, Cond.methodLink RX5 67 yX5_noteChange, Cond.instanceMethod yX5_noteChange, Cond.selects RX5 yX5_noteChange yX5_noteChange, Cond.code yX5_noteChange cX5_noteChange 1 none, Cond.fieldLink RX5 35 "SkewFind" "window" "LSkewFind$Window;"]
def wsL_turn_r6 : List Cond := [Cond.fieldLink RX5 42 "SkewFind" "search" "LSkewFind$Search;", Cond.methodLink RX5 182 yX4_open, Cond.instanceMethod yX4_open, Cond.selects RX4 yX4_open yX4_open, Cond.initialized RX4, Cond.code yX4_open cX4_open 1 none, Cond.fieldLink RX4 18 "SkewFind$Window" "left" "I", Cond.fieldLink RX4 22 "SkewFind$Window" "upper" "I", Cond.fieldLink RX4 9 "SkewFind$Window" "picture" "LSkewFind$Picture;", Cond.fieldLink RX4 25 "SkewFind$Picture" "width" "I", Cond.fieldLink RX4 30 "SkewFind$Window" "right" "I", Cond.fieldLink RX4 33 "SkewFind$Picture" "height" "I", Cond.fieldLink RX4 36 "SkewFind$Window" "lower" "I", Cond.methodLink RX5 185 yX3_forget, Cond.instanceMethod yX3_forget, Cond.selects RX3 yX3_forget yX3_forget, Cond.initialized RX3, Cond.code yX3_forget cX3_forget 1 none, Cond.fieldLink RX3 15 "SkewFind$Search" "asked" "Z", Cond.methodLink RX5 109 yX0_samplesOn, Cond.instanceMethod yX0_samplesOn, Cond.selects RX0 yX0_samplesOn yX0_samplesOn, Cond.code yX0_samplesOn cX0_samplesOn 3 (some .int), Cond.methodLink RX0 55 yJ6_bitCount_0f7a4]
def wsL_turn_r7 : List Cond := [Cond.static yJ6_bitCount_0f7a4, Cond.initialized RJ6, Cond.code yJ6_bitCount_0f7a4 cJ6_bitCount_0f7a4 1 (some .int), Cond.constant RJ6 265 (1431655765), Cond.constant RJ6 266 (858993459), Cond.constant RJ6 267 (252645135)]
def wsL_turn : List Cond := .codeWith yL_turn cL_turn 5 (some .int) [(0, 10, 13, 15), (0, 10, 17, 43)] :: ((wsL_turn_r1 ++ (wsL_turn_r2 ++ (wsL_turn_r3 ++ (wsL_turn_r4 ++ (wsL_turn_r5 ++ (wsL_turn_r6 ++ wsL_turn_r7)))))) ++ wsX50 ++ wsX00 ++ wsX40 ++ wsX30 ++ (vx_atS RX5 108 "java/lang/UnsupportedOperationException" ["java/lang/RuntimeException", "java/lang/Exception"]).filter goodWord ++ (vx_atS RX5 60 "java/lang/IllegalArgumentException" ["java/lang/RuntimeException", "java/lang/Exception"]).filter goodWord)
def wsL_crop_r1 : List Cond := [Cond.classLink RL 13 "java/lang/IndexOutOfBoundsException", Cond.methodLink RL 45 yX5_crop, Cond.instanceMethod yX5_crop, Cond.selects RX5 yX5_crop yX5_crop, Cond.initialized RX5, Cond.code yX5_crop cX5_crop 2 (some .int), Cond.fieldLink RX5 35 "SkewFind" "window" "LSkewFind$Window;", Cond.methodLink RX5 116 yX5_checkSide, Cond.static yX5_checkSide, Cond.code yX5_checkSide cX5_checkSide 1 none, Cond.classLink RX5 191 "java/lang/IndexOutOfBoundsException", Cond.initialized "java/lang/IndexOutOfBoundsException", Cond.methodLink RX5 119 yX4_cropAt, Cond.instanceMethod yX4_cropAt, Cond.selects RX4 yX4_cropAt yX4_cropAt, Cond.initialized RX4, Cond.code yX4_cropAt cX4_cropAt 3 (some .int), Cond.fieldLink RX4 9 "SkewFind$Window" "picture" "LSkewFind$Picture;", Cond.methodLink RX4 59 Lib.Math.abs.name, Cond.static Lib.Math.abs.name, Cond.initialized "java/lang/Math", Cond.code Lib.Math.abs.name Lib.Math.abs.code 1 (some .int), Cond.methodLink RX4 39 yX0_samplesOn, Cond.instanceMethod yX0_samplesOn]
def wsL_crop_r2 : List Cond := [Cond.selects RX0 yX0_samplesOn yX0_samplesOn, Cond.initialized RX0, Cond.code yX0_samplesOn cX0_samplesOn 3 (some .int), Cond.fieldLink RX0 15 "SkewFind$Picture" "height" "I", Cond.methodLink RX0 38 yX0_rowBits, Cond.instanceMethod yX0_rowBits, Cond.selects RX0 yX0_rowBits yX0_rowBits, Cond.code yX0_rowBits cX0_rowBits 2 (some .int), Cond.fieldLink RX0 27 "SkewFind$Picture" "bits" "[I", Cond.methodLink RX0 55 yJ6_bitCount_0f7a4, Cond.static yJ6_bitCount_0f7a4, Cond.initialized RJ6, Cond.code yJ6_bitCount_0f7a4 cJ6_bitCount_0f7a4 1 (some .int), Cond.constant RJ6 265 (1431655765), Cond.constant RJ6 266 (858993459), Cond.constant RJ6 267 (252645135), Cond.methodLink RX4 43 yX4_end, Cond.instanceMethod yX4_end, Cond.selects RX4 yX4_end yX4_end, Cond.code yX4_end cX4_end 2 (some .int), Cond.fieldLink RX4 18 "SkewFind$Window" "left" "I", Cond.fieldLink RX4 22 "SkewFind$Window" "upper" "I", Cond.fieldLink RX4 30 "SkewFind$Window" "right" "I", Cond.fieldLink RX4 36 "SkewFind$Window" "lower" "I"]
def wsL_crop_r3 : List Cond := [Cond.methodLink RX4 47 yX4_cropLeft, Cond.instanceMethod yX4_cropLeft, Cond.selects RX4 yX4_cropLeft yX4_cropLeft, Cond.code yX4_cropLeft cX4_cropLeft 1 none, Cond.methodLink RX4 64 yX4_columnIsEmpty, Cond.instanceMethod yX4_columnIsEmpty, Cond.selects RX4 yX4_columnIsEmpty yX4_columnIsEmpty, Cond.code yX4_columnIsEmpty cX4_columnIsEmpty 3 (some .boolean), Cond.fieldLink RX4 33 "SkewFind$Picture" "height" "I", Cond.methodLink RX4 71 yX0_isOn, Cond.instanceMethod yX0_isOn, Cond.selects RX0 yX0_isOn yX0_isOn, Cond.code yX0_isOn cX0_isOn 3 (some .boolean), Cond.methodLink RX0 34 yX0_has, Cond.instanceMethod yX0_has, Cond.selects RX0 yX0_has yX0_has, Cond.code yX0_has cX0_has 3 (some .boolean), Cond.fieldLink RX0 9 "SkewFind$Picture" "width" "I", Cond.methodLink RX4 50 yX4_cropUpper, Cond.instanceMethod yX4_cropUpper, Cond.selects RX4 yX4_cropUpper yX4_cropUpper, Cond.code yX4_cropUpper cX4_cropUpper 1 none, Cond.methodLink RX4 68 yX0_rowBits, Cond.methodLink RX4 53 yX4_cropRight]
def wsL_crop_r4 : List Cond := [Cond.instanceMethod yX4_cropRight, Cond.selects RX4 yX4_cropRight yX4_cropRight, Cond.code yX4_cropRight cX4_cropRight 1 none, Cond.methodLink RX4 56 yX4_cropLower, Cond.instanceMethod yX4_cropLower, Cond.selects RX4 yX4_cropLower yX4_cropLower, Cond.code yX4_cropLower cX4_cropLower 1 none]
def wsL_crop : List Cond := .codeWith yL_crop cL_crop 4 (some .int) [(0, 9, 12, 13)] :: ((wsL_crop_r1 ++ (wsL_crop_r2 ++ (wsL_crop_r3 ++ wsL_crop_r4))) ++ wsX50 ++ wsX40 ++ wsX00 ++ (vx_atS RX5 195 "java/lang/IndexOutOfBoundsException" ["java/lang/RuntimeException", "java/lang/Exception"]).filter goodWord)
def wsL_size : List Cond := .codeWith yL_size cL_size 4 (some .int) [(0, 9, 12, 13)] :: ([.classLink RL 13 "java/lang/IndexOutOfBoundsException", .methodLink RL 48 yX5_size, .instanceMethod yX5_size, .selects RX5 yX5_size yX5_size, .initialized RX5, .code yX5_size cX5_size 2 (some .int), .fieldLink RX5 35 "SkewFind" "window" "LSkewFind$Window;", .methodLink RX5 116 yX5_checkSide, .static yX5_checkSide, .code yX5_checkSide cX5_checkSide 1 none, .classLink RX5 191 "java/lang/IndexOutOfBoundsException", .initialized "java/lang/IndexOutOfBoundsException", .methodLink RX5 122 yX4_end, .instanceMethod yX4_end, .selects RX4 yX4_end yX4_end, .initialized RX4, .code yX4_end cX4_end 2 (some .int), .fieldLink RX4 18 "SkewFind$Window" "left" "I", .fieldLink RX4 22 "SkewFind$Window" "upper" "I", .fieldLink RX4 30 "SkewFind$Window" "right" "I", .fieldLink RX4 36 "SkewFind$Window" "lower" "I"] ++ wsX50 ++ wsX40 ++ (vx_atS RX5 195 "java/lang/IndexOutOfBoundsException" ["java/lang/RuntimeException", "java/lang/Exception"]).filter goodWord)
def wsL_band_r1 : List Cond := [Cond.classLink RL 13 "java/lang/IndexOutOfBoundsException", Cond.methodLink RL 51 yX5_band, Cond.instanceMethod yX5_band, Cond.selects RX5 yX5_band yX5_band, Cond.initialized RX5, Cond.code yX5_band cX5_band 5 (some .int), Cond.fieldLink RX5 49 "SkewFind" "rows" "LSkewFind$Rows;", Cond.methodLink RX5 128 yX5_checkBand, Cond.instanceMethod yX5_checkBand, Cond.selects RX5 yX5_checkBand yX5_checkBand, Cond.code yX5_checkBand cX5_checkBand 2 none, Cond.classLink RX5 191 "java/lang/IndexOutOfBoundsException", Cond.initialized "java/lang/IndexOutOfBoundsException", Cond.methodLink RX5 125 yX2_bandCount, Cond.instanceMethod yX2_bandCount, Cond.selects RX2 yX2_bandCount yX2_bandCount, Cond.initialized RX2, Cond.code yX2_bandCount cX2_bandCount 3 (some .int), Cond.fieldLink RX2 9 "SkewFind$Rows" "picture" "LSkewFind$Picture;", Cond.fieldLink RX2 21 "SkewFind$Picture" "height" "I", Cond.methodLink RX2 25 yX2_beginsBand, Cond.instanceMethod yX2_beginsBand, Cond.selects RX2 yX2_beginsBand yX2_beginsBand, Cond.code yX2_beginsBand cX2_beginsBand 2 (some .boolean)]
def wsL_band_r2 : List Cond := [Cond.methodLink RX2 15 yX0_rowBits, Cond.instanceMethod yX0_rowBits, Cond.selects RX0 yX0_rowBits yX0_rowBits, Cond.initialized RX0, Cond.code yX0_rowBits cX0_rowBits 2 (some .int), Cond.fieldLink RX0 27 "SkewFind$Picture" "bits" "[I", Cond.methodLink RX5 131 yX2_firstOfBand, Cond.instanceMethod yX2_firstOfBand, Cond.selects RX2 yX2_firstOfBand yX2_firstOfBand, Cond.code yX2_firstOfBand cX2_firstOfBand 4 (some .int), Cond.methodLink RX5 134 yX2_behindBand, Cond.instanceMethod yX2_behindBand, Cond.selects RX2 yX2_behindBand yX2_behindBand, Cond.code yX2_behindBand cX2_behindBand 3 (some .int), Cond.methodLink RX5 137 yX2_samplesBetween, Cond.instanceMethod yX2_samplesBetween, Cond.selects RX2 yX2_samplesBetween yX2_samplesBetween, Cond.code yX2_samplesBetween cX2_samplesBetween 5 (some .int), Cond.methodLink RX2 29 yJ6_bitCount_0f7a4, Cond.static yJ6_bitCount_0f7a4, Cond.initialized RJ6, Cond.code yJ6_bitCount_0f7a4 cJ6_bitCount_0f7a4 1 (some .int), Cond.constant RJ6 265 (1431655765), Cond.constant RJ6 266 (858993459)]
def wsL_band_r3 : List Cond := [Cond.constant RJ6 267 (252645135)]
def wsL_band : List Cond := .codeWith yL_band cL_band 5 (some .int) [(0, 10, 13, 13)] :: ((wsL_band_r1 ++ (wsL_band_r2 ++ wsL_band_r3)) ++ wsX50 ++ wsX20 ++ wsX00 ++ (vx_atS RX5 195 "java/lang/IndexOutOfBoundsException" ["java/lang/RuntimeException", "java/lang/Exception"]).filter goodWord)
def wsL_line_r1 : List Cond := [Cond.classLink RL 13 "java/lang/IndexOutOfBoundsException", Cond.classLink RL 15 "java/lang/IllegalArgumentException", Cond.methodLink RL 55 yX5_line, Cond.instanceMethod yX5_line, Cond.selects RX5 yX5_line yX5_line, Cond.initialized RX5, Cond.code yX5_line cX5_line 4 (some .int), Cond.classLink RX5 56 "java/lang/IllegalArgumentException", Cond.initialized "java/lang/IllegalArgumentException", Cond.constantDouble RX5 141 (13875379345695965184), Cond.constantDouble RX5 143 (4652007308841189376), Cond.constantDouble RX5 147 (4625196817309499392), Cond.fieldLink RX5 49 "SkewFind" "rows" "LSkewFind$Rows;", Cond.methodLink RX5 128 yX5_checkBand, Cond.instanceMethod yX5_checkBand, Cond.selects RX5 yX5_checkBand yX5_checkBand, Cond.code yX5_checkBand cX5_checkBand 2 none, Cond.classLink RX5 191 "java/lang/IndexOutOfBoundsException", Cond.initialized "java/lang/IndexOutOfBoundsException", Cond.methodLink RX5 125 yX2_bandCount, Cond.instanceMethod yX2_bandCount, Cond.selects RX2 yX2_bandCount yX2_bandCount, Cond.initialized RX2, Cond.code yX2_bandCount cX2_bandCount 3 (some .int)]
def wsL_line_r2 : List Cond := [Cond.fieldLink RX2 9 "SkewFind$Rows" "picture" "LSkewFind$Picture;", Cond.fieldLink RX2 21 "SkewFind$Picture" "height" "I", Cond.methodLink RX2 25 yX2_beginsBand, Cond.instanceMethod yX2_beginsBand, Cond.selects RX2 yX2_beginsBand yX2_beginsBand, Cond.code yX2_beginsBand cX2_beginsBand 2 (some .boolean), Cond.methodLink RX2 15 yX0_rowBits, Cond.instanceMethod yX0_rowBits, Cond.selects RX0 yX0_rowBits yX0_rowBits, Cond.initialized RX0, Cond.code yX0_rowBits cX0_rowBits 2 (some .int), Cond.fieldLink RX0 27 "SkewFind$Picture" "bits" "[I", Cond.methodLink RX5 131 yX2_firstOfBand, Cond.instanceMethod yX2_firstOfBand, Cond.selects RX2 yX2_firstOfBand yX2_firstOfBand, Cond.code yX2_firstOfBand cX2_firstOfBand 4 (some .int), Cond.methodLink RX5 149 yX2_baseLineAt, Cond.instanceMethod yX2_baseLineAt, Cond.selects RX2 yX2_baseLineAt yX2_baseLineAt, Cond.code yX2_baseLineAt cX2_baseLineAt 13 (some .double), Cond.fieldLink RX2 41 "SkewFind$Picture" "width" "I", Cond.methodLink RX2 34 yX2_behindBand, Cond.instanceMethod yX2_behindBand, Cond.selects RX2 yX2_behindBand yX2_behindBand]
def wsL_line_r3 : List Cond := [Cond.code yX2_behindBand cX2_behindBand 3 (some .int), Cond.methodLink RX2 44 yX2_lowestOn, Cond.instanceMethod yX2_lowestOn, Cond.selects RX2 yX2_lowestOn yX2_lowestOn, Cond.code yX2_lowestOn cX2_lowestOn 5 (some .int), Cond.methodLink RX2 48 yX0_isOn, Cond.instanceMethod yX0_isOn, Cond.selects RX0 yX0_isOn yX0_isOn, Cond.code yX0_isOn cX0_isOn 3 (some .boolean), Cond.methodLink RX0 34 yX0_has, Cond.instanceMethod yX0_has, Cond.selects RX0 yX0_has yX0_has, Cond.code yX0_has cX0_has 3 (some .boolean), Cond.fieldLink RX0 9 "SkewFind$Picture" "width" "I", Cond.fieldLink RX0 15 "SkewFind$Picture" "height" "I", Cond.methodLink RX0 38 yX0_rowBits, Cond.methodLink RX5 153 yX1_whole, Cond.static yX1_whole, Cond.initialized RX1, Cond.code yX1_whole cX1_whole 5 (some .int), Cond.constantDouble RX1 35 (4602678819172646912)]
def wsL_line : List Cond := .codeWith yL_line cL_line 6 (some .int) [(0, 11, 14, 13), (0, 11, 18, 15)] :: ((wsL_line_r1 ++ (wsL_line_r2 ++ wsL_line_r3)) ++ wsX50 ++ wsX20 ++ wsX00 ++ (vx_atS RX5 60 "java/lang/IllegalArgumentException" ["java/lang/RuntimeException", "java/lang/Exception"]).filter goodWord ++ (vx_atS RX5 195 "java/lang/IndexOutOfBoundsException" ["java/lang/RuntimeException", "java/lang/Exception"]).filter goodWord)
def wsL_law0_r1 : List Cond := [Cond.classLink RL 8 RX5, Cond.instantiable RX5 6, Cond.initialized RX5, Cond.classLink RL 68 RX6, Cond.instantiable RX6 14, Cond.initialized RX6, Cond.arrayClass .long, Cond.arrayClass .double, Cond.constantDouble RL 120 (4593671619917905920), Cond.methodLink RL 59 yL_cell, Cond.static yL_cell, Cond.initialized RL, Cond.code yL_cell cL_cell 2 (some .int), Cond.methodLink RL 65 yX5_init, Cond.instanceMethod yX5_init, Cond.code yX5_init cX5_init 3 none, Cond.methodLink RX5 1 objectInit, Cond.instanceMethod objectInit, Cond.code objectInit ⟨#[0xb1]⟩ 1 none, Cond.arrayClass .int, Cond.fieldLink RX5 9 "SkewFind" "turns" "[I", Cond.fieldLink RX5 13 "SkewFind" "turnCount" "I", Cond.classLink RX5 17 RX0, Cond.instantiable RX0 6]
def wsL_law0_r2 : List Cond := [Cond.initialized RX0, Cond.fieldLink RX5 26 "SkewFind" "picture" "LSkewFind$Picture;", Cond.classLink RX5 30 RX4, Cond.instantiable RX4 5, Cond.initialized RX4, Cond.fieldLink RX5 35 "SkewFind" "window" "LSkewFind$Window;", Cond.classLink RX5 39 RX3, Cond.instantiable RX3 7, Cond.initialized RX3, Cond.fieldLink RX5 42 "SkewFind" "search" "LSkewFind$Search;", Cond.classLink RX5 46 RX2, Cond.instantiable RX2 1, Cond.initialized RX2, Cond.fieldLink RX5 49 "SkewFind" "rows" "LSkewFind$Rows;", Cond.methodLink RX5 19 yX5_nearestSide, Cond.static yX5_nearestSide, Cond.code yX5_nearestSide cX5_nearestSide 1 (some .int), Cond.methodLink RX5 174 Lib.Math.min.name, Cond.static Lib.Math.min.name, Cond.initialized "java/lang/Math", Cond.code Lib.Math.min.name Lib.Math.min.code 2 (some .int), Cond.methodLink RX5 179 Lib.Math.max.name, Cond.static Lib.Math.max.name, Cond.code Lib.Math.max.name Lib.Math.max.code 2 (some .int)]
def wsL_law0_r3 : List Cond := [Cond.methodLink RX5 23 yX0_init, Cond.instanceMethod yX0_init, Cond.code yX0_init cX0_init 3 none, Cond.methodLink RX0 3 objectInit, Cond.fieldLink RX0 9 "SkewFind$Picture" "width" "I", Cond.fieldLink RX0 15 "SkewFind$Picture" "height" "I", Cond.constantDouble RX0 18 (4611686018427387904), Cond.fieldLink RX0 20 "SkewFind$Picture" "middleX" "D", Cond.fieldLink RX0 24 "SkewFind$Picture" "middleY" "D", Cond.fieldLink RX0 27 "SkewFind$Picture" "bits" "[I", Cond.fieldLink RX0 31 "SkewFind$Picture" "oldBits" "[I", Cond.methodLink RX5 32 yX4_init, Cond.instanceMethod yX4_init, Cond.code yX4_init cX4_init 2 none, Cond.methodLink RX4 3 objectInit, Cond.fieldLink RX4 9 "SkewFind$Window" "picture" "LSkewFind$Picture;", Cond.methodLink RX4 15 yX4_open, Cond.instanceMethod yX4_open, Cond.selects RX4 yX4_open yX4_open, Cond.code yX4_open cX4_open 1 none, Cond.fieldLink RX4 18 "SkewFind$Window" "left" "I", Cond.fieldLink RX4 22 "SkewFind$Window" "upper" "I", Cond.fieldLink RX4 25 "SkewFind$Picture" "width" "I", Cond.fieldLink RX4 30 "SkewFind$Window" "right" "I"]
def wsL_law0_r4 : List Cond := [Cond.fieldLink RX4 33 "SkewFind$Picture" "height" "I", Cond.fieldLink RX4 36 "SkewFind$Window" "lower" "I", Cond.methodLink RX5 41 yX3_init, Cond.instanceMethod yX3_init, Cond.code yX3_init cX3_init 2 none, Cond.methodLink RX3 3 objectInit, Cond.fieldLink RX3 11 "SkewFind$Search" "endsOnLine" "[I", Cond.fieldLink RX3 15 "SkewFind$Search" "asked" "Z", Cond.fieldLink RX3 19 "SkewFind$Search" "sureOfBest" "Z", Cond.fieldLink RX3 22 "SkewFind$Search" "gridMean" "D", Cond.fieldLink RX3 26 "SkewFind$Search" "best" "I", Cond.fieldLink RX3 30 "SkewFind$Search" "bestSum" "D", Cond.fieldLink RX3 33 "SkewFind$Search" "picture" "LSkewFind$Picture;", Cond.methodLink RX5 48 yX2_init, Cond.instanceMethod yX2_init, Cond.code yX2_init cX2_init 2 none, Cond.methodLink RX2 3 objectInit, Cond.fieldLink RX2 9 "SkewFind$Rows" "picture" "LSkewFind$Picture;", Cond.methodLink RL 70 yX6_init, Cond.instanceMethod yX6_init, Cond.code yX6_init cX6_init 3 none, Cond.methodLink RX6 1 objectInit, Cond.arrayClass .boolean, Cond.fieldLink RX6 7 "SkewFindModel" "on" "[Z"]
def wsL_law0_r5 : List Cond := [Cond.fieldLink RX6 13 "SkewFindModel" "next" "[Z", Cond.fieldLink RX6 16 "SkewFindModel" "ends" "[I", Cond.fieldLink RX6 20 "SkewFindModel" "turns" "[I", Cond.fieldLink RX6 23 "SkewFindModel" "lines" "[I", Cond.fieldLink RX6 26 "SkewFindModel" "width" "I", Cond.fieldLink RX6 30 "SkewFindModel" "height" "I", Cond.methodLink RX6 33 yX6_whole, Cond.instanceMethod yX6_whole, Cond.selects RX6 yX6_whole yX6_whole, Cond.code yX6_whole cX6_whole 1 none, Cond.fieldLink RX6 39 "SkewFindModel" "isAsked" "Z", Cond.methodLink RL 71 yL_put, Cond.static yL_put, Cond.codeWith yL_put cL_put 7 (some .int) [(0, 14, 17, 13), (0, 14, 21, 15)], Cond.classLink RL 13 "java/lang/IndexOutOfBoundsException", Cond.classLink RL 15 "java/lang/IllegalArgumentException", Cond.methodLink RL 7 yX5_put, Cond.instanceMethod yX5_put, Cond.selects RX5 yX5_put yX5_put, Cond.code yX5_put cX5_put 6 (some .int), Cond.classLink RX5 56 "java/lang/IllegalArgumentException", Cond.initialized "java/lang/IllegalArgumentException", Cond.methodLink RX5 53 yX5_checkSample, Cond.instanceMethod yX5_checkSample]
def wsL_law0_r6 : List Cond := [Cond.selects RX5 yX5_checkSample yX5_checkSample, Cond.code yX5_checkSample cX5_checkSample 3 none, Cond.classLink RX5 191 "java/lang/IndexOutOfBoundsException", Cond.initialized "java/lang/IndexOutOfBoundsException", Cond.methodLink RX5 188 yX0_has, Cond.instanceMethod yX0_has, Cond.selects RX0 yX0_has yX0_has, Cond.code yX0_has cX0_has 3 (some .boolean), Cond.methodLink RX5 63 yX0_fill, Cond.instanceMethod yX0_fill, Cond.selects RX0 yX0_fill yX0_fill, Cond.code yX0_fill cX0_fill 8 (some .int), Cond.methodLink RX0 42 Lib.Math.min.name, Cond.methodLink RX0 34 yX0_has, Cond.methodLink RX0 48 yX0_bitsOf, Cond.static yX0_bitsOf, Cond.code yX0_bitsOf cX0_bitsOf 1 (some .int), Cond.methodLink RX0 38 yX0_rowBits, Cond.instanceMethod yX0_rowBits, Cond.selects RX0 yX0_rowBits yX0_rowBits, Cond.code yX0_rowBits cX0_rowBits 2 (some .int), Cond.methodLink RX0 51 yX0_setRowBits, Cond.instanceMethod yX0_setRowBits, Cond.selects RX0 yX0_setRowBits yX0_setRowBits]
def wsL_law0_r7 : List Cond := [Cond.code yX0_setRowBits cX0_setRowBits 3 none, Cond.methodLink RX0 55 yJ6_bitCount_0f7a4, Cond.static yJ6_bitCount_0f7a4, Cond.initialized RJ6, Cond.code yJ6_bitCount_0f7a4 cJ6_bitCount_0f7a4 1 (some .int), Cond.constant RJ6 265 (1431655765), Cond.constant RJ6 266 (858993459), Cond.constant RJ6 267 (252645135), Cond.methodLink RX5 67 yX5_noteChange, Cond.instanceMethod yX5_noteChange, Cond.selects RX5 yX5_noteChange yX5_noteChange, Cond.code yX5_noteChange cX5_noteChange 1 none, Cond.methodLink RX5 182 yX4_open, Cond.methodLink RX5 185 yX3_forget, Cond.instanceMethod yX3_forget, Cond.selects RX3 yX3_forget yX3_forget, Cond.code yX3_forget cX3_forget 1 none, Cond.methodLink RL 74 yX6_put, Cond.instanceMethod yX6_put, Cond.selects RX6 yX6_put yX6_put, Cond.code yX6_put cX6_put 7 (some .int), Cond.methodLink RX6 71 yX6_isSample, Cond.instanceMethod yX6_isSample, Cond.selects RX6 yX6_isSample yX6_isSample]
def wsL_law0_r8 : List Cond := [Cond.code yX6_isSample cX6_isSample 3 (some .boolean), Cond.methodLink RX6 75 yX6_refuses, Cond.instanceMethod yX6_refuses, Cond.selects RX6 yX6_refuses yX6_refuses, Cond.code yX6_refuses cX6_refuses 2 (some .boolean), Cond.fieldLink RX6 36 "SkewFindModel" "code" "I", Cond.methodLink RL 75 yX6_thrown, Cond.instanceMethod yX6_thrown, Cond.selects RX6 yX6_thrown yX6_thrown, Cond.code yX6_thrown cX6_thrown 1 (some .int), Cond.methodLink RL 79 yL_at, Cond.static yL_at, Cond.codeWith yL_at cL_at 5 (some .int) [(0, 17, 20, 13)], Cond.methodLink RL 17 yX5_at, Cond.instanceMethod yX5_at, Cond.selects RX5 yX5_at yX5_at, Cond.code yX5_at cX5_at 3 (some .boolean), Cond.methodLink RX5 70 yX0_isOn, Cond.instanceMethod yX0_isOn, Cond.selects RX0 yX0_isOn yX0_isOn, Cond.code yX0_isOn cX0_isOn 3 (some .boolean), Cond.methodLink RL 82 yX6_at, Cond.instanceMethod yX6_at, Cond.selects RX6 yX6_at yX6_at]
def wsL_law0_r9 : List Cond := [Cond.code yX6_at cX6_at 3 (some .boolean), Cond.methodLink RX6 79 yX6_isOn, Cond.instanceMethod yX6_isOn, Cond.selects RX6 yX6_isOn yX6_isOn, Cond.code yX6_isOn cX6_isOn 3 (some .boolean), Cond.methodLink RL 83 yL_sum, Cond.static yL_sum, Cond.codeWith yL_sum cL_sum 4 (some .int) [(0, 8, 11, 15)], Cond.methodLink RL 21 yX5_sum, Cond.instanceMethod yX5_sum, Cond.selects RX5 yX5_sum yX5_sum, Cond.code yX5_sum cX5_sum 2 (some .double), Cond.methodLink RX5 74 yX5_checkAngle, Cond.static yX5_checkAngle, Cond.code yX5_checkAngle cX5_checkAngle 1 none, Cond.methodLink RX5 78 yX3_sumAt, Cond.instanceMethod yX3_sumAt, Cond.selects RX3 yX3_sumAt yX3_sumAt, Cond.code yX3_sumAt cX3_sumAt 3 (some .double), Cond.methodLink RX3 65 yX0_runEnds, Cond.instanceMethod yX0_runEnds, Cond.selects RX0 yX0_runEnds yX0_runEnds, Cond.code yX0_runEnds cX0_runEnds 3 (some .int), Cond.methodLink RX0 60 yX0_runEndBits]
def wsL_law0_r10 : List Cond := [Cond.instanceMethod yX0_runEndBits, Cond.selects RX0 yX0_runEndBits yX0_runEndBits, Cond.code yX0_runEndBits cX0_runEndBits 3 (some .int), Cond.methodLink RX3 68 yX1_slope, Cond.static yX1_slope, Cond.initialized RX1, Cond.code yX1_slope cX1_slope 6 (some .double), Cond.constantDouble RX1 17 (4599676419421066581), Cond.constantDouble RX1 19 (4593971859893063953), Cond.constantDouble RX1 21 (4587938466106554908), Cond.methodLink RX1 11 yX1_radians, Cond.static yX1_radians, Cond.code yX1_radians cX1_radians 2 (some .double), Cond.constantDouble RX1 7 (4614256656552045848), Cond.constantDouble RX1 9 (4670677016280825856), Cond.methodLink RX3 74 yX3_countEnds, Cond.instanceMethod yX3_countEnds, Cond.selects RX3 yX3_countEnds yX3_countEnds, Cond.code yX3_countEnds cX3_countEnds 6 none, Cond.fieldLink RX3 81 "SkewFind$Picture" "height" "I", Cond.fieldLink RX3 88 "SkewFind$Picture" "width" "I", Cond.methodLink RX3 84 yX0_runEndBits, Cond.methodLink RX3 91 yX1_whole, Cond.static yX1_whole]
def wsL_law0_r11 : List Cond := [Cond.code yX1_whole cX1_whole 5 (some .int), Cond.constantDouble RX1 35 (4602678819172646912), Cond.methodLink RX3 95 yX3_countOnLine, Cond.instanceMethod yX3_countOnLine, Cond.selects RX3 yX3_countOnLine yX3_countOnLine, Cond.code yX3_countOnLine cX3_countOnLine 3 none, Cond.methodLink RX3 78 yX3_squaresOfCounts, Cond.instanceMethod yX3_squaresOfCounts, Cond.selects RX3 yX3_squaresOfCounts yX3_squaresOfCounts, Cond.code yX3_squaresOfCounts cX3_squaresOfCounts 3 (some .int), Cond.methodLink RL 86 yX6_sum, Cond.instanceMethod yX6_sum, Cond.selects RX6 yX6_sum yX6_sum, Cond.code yX6_sum cX6_sum 2 (some .double), Cond.methodLink RX6 96 yX6_sumOf, Cond.instanceMethod yX6_sumOf, Cond.selects RX6 yX6_sumOf yX6_sumOf, Cond.code yX6_sumOf cX6_sumOf 7 (some .double), Cond.methodLink RX6 85 yX6_slope, Cond.static yX6_slope, Cond.code yX6_slope cX6_slope 6 (some .double), Cond.constantDouble RX6 53 (4599676419421066581), Cond.constantDouble RX6 55 (4593971859893063953), Cond.constantDouble RX6 57 (4587938466106554908)]
def wsL_law0_r12 : List Cond := [Cond.methodLink RX6 49 yX6_radians, Cond.static yX6_radians, Cond.code yX6_radians cX6_radians 2 (some .double), Cond.constantDouble RX6 45 (4614256656552045848), Cond.constantDouble RX6 47 (4670677016280825856), Cond.methodLink RX6 88 yX6_countEnds, Cond.instanceMethod yX6_countEnds, Cond.selects RX6 yX6_countEnds yX6_countEnds, Cond.code yX6_countEnds cX6_countEnds 4 (some .int), Cond.methodLink RX6 82 yX6_isEnd, Cond.instanceMethod yX6_isEnd, Cond.selects RX6 yX6_isEnd yX6_isEnd, Cond.code yX6_isEnd cX6_isEnd 3 (some .boolean), Cond.methodLink RX6 92 yX6_wholeOf, Cond.static yX6_wholeOf, Cond.code yX6_wholeOf cX6_wholeOf 5 (some .int), Cond.constantDouble RX6 43 (4602678819172646912), Cond.methodLink RL 87 yL_angle, Cond.static yL_angle, Cond.codeWith yL_angle cL_angle 4 (some .int) [(0, 9, 12, 15)], Cond.methodLink RL 25 yX5_angle, Cond.instanceMethod yX5_angle, Cond.selects RX5 yX5_angle yX5_angle, Cond.code yX5_angle cX5_angle 2 (some .int)]
def wsL_law0_r13 : List Cond := [Cond.methodLink RX5 84 yX3_find, Cond.instanceMethod yX3_find, Cond.selects RX3 yX3_find yX3_find, Cond.code yX3_find cX3_find 3 (some .int), Cond.constant RX3 43 (100000), Cond.fieldLink RX3 48 "SkewFind$Search" "STEPS" "[I", Cond.constantDouble RX3 55 (4608308318706860032), Cond.methodLink RX3 37 yX0_samplesOn, Cond.instanceMethod yX0_samplesOn, Cond.selects RX0 yX0_samplesOn yX0_samplesOn, Cond.code yX0_samplesOn cX0_samplesOn 3 (some .int), Cond.methodLink RX3 44 yX3_tryGrid, Cond.instanceMethod yX3_tryGrid, Cond.selects RX3 yX3_tryGrid yX3_tryGrid, Cond.code yX3_tryGrid cX3_tryGrid 8 none, Cond.methodLink RX3 57 yX3_sumAt, Cond.methodLink RX3 61 yX3_take, Cond.instanceMethod yX3_take, Cond.selects RX3 yX3_take yX3_take, Cond.code yX3_take cX3_take 4 none, Cond.methodLink RX3 51 yX3_tryBeside, Cond.instanceMethod yX3_tryBeside, Cond.selects RX3 yX3_tryBeside yX3_tryBeside, Cond.code yX3_tryBeside cX3_tryBeside 7 none]
def wsL_law0_r14 : List Cond := [Cond.methodLink RL 90 yX6_angle, Cond.instanceMethod yX6_angle, Cond.selects RX6 yX6_angle yX6_angle, Cond.code yX6_angle cX6_angle 15 (some .int), Cond.fieldLink RX6 100 "SkewFindModel" "isSure" "Z", Cond.fieldLink RX6 103 "SkewFindModel" "meanOf" "D", Cond.constant RX6 110 (100000), Cond.constantDouble RX6 111 (13830554455654793216), Cond.constantDouble RX6 117 (4608308318706860032), Cond.methodLink RX6 107 yX6_countOn, Cond.instanceMethod yX6_countOn, Cond.selects RX6 yX6_countOn yX6_countOn, Cond.code yX6_countOn cX6_countOn 3 (some .int), Cond.methodLink RX6 113 yX6_stepOf, Cond.static yX6_stepOf, Cond.code yX6_stepOf cX6_stepOf 1 (some .int), Cond.methodLink RL 91 yL_sure, Cond.static yL_sure, Cond.codeWith yL_sure cL_sure 3 (some .int) [(0, 15, 18, 33)], Cond.classLink RL 33 "java/lang/IllegalStateException", Cond.methodLink RL 29 yX5_sure, Cond.instanceMethod yX5_sure, Cond.selects RX5 yX5_sure yX5_sure, Cond.code yX5_sure cX5_sure 1 (some .boolean)]
def wsL_law0_r15 : List Cond := [Cond.methodLink RX5 87 yX5_checkAsked, Cond.instanceMethod yX5_checkAsked, Cond.selects RX5 yX5_checkAsked yX5_checkAsked, Cond.code yX5_checkAsked cX5_checkAsked 1 none, Cond.classLink RX5 205 "java/lang/IllegalStateException", Cond.initialized "java/lang/IllegalStateException", Cond.methodLink RX5 202 yX3_isAsked, Cond.instanceMethod yX3_isAsked, Cond.selects RX3 yX3_isAsked yX3_isAsked, Cond.code yX3_isAsked cX3_isAsked 1 (some .boolean), Cond.methodLink RX5 90 yX3_isSure, Cond.instanceMethod yX3_isSure, Cond.selects RX3 yX3_isSure yX3_isSure, Cond.code yX3_isSure cX3_isSure 1 (some .boolean), Cond.methodLink RL 94 yX6_sure, Cond.instanceMethod yX6_sure, Cond.selects RX6 yX6_sure yX6_sure, Cond.code yX6_sure cX6_sure 1 (some .boolean), Cond.methodLink RL 95 yL_mean, Cond.static yL_mean, Cond.codeWith yL_mean cL_mean 3 (some .int) [(0, 7, 10, 33)], Cond.methodLink RL 35 yX5_mean, Cond.instanceMethod yX5_mean, Cond.selects RX5 yX5_mean yX5_mean]
def wsL_law0_r16 : List Cond := [Cond.code yX5_mean cX5_mean 1 (some .double), Cond.methodLink RX5 94 yX3_meanOfGrid, Cond.instanceMethod yX3_meanOfGrid, Cond.selects RX3 yX3_meanOfGrid yX3_meanOfGrid, Cond.code yX3_meanOfGrid cX3_meanOfGrid 1 (some .double), Cond.methodLink RL 98 yX6_mean, Cond.instanceMethod yX6_mean, Cond.selects RX6 yX6_mean yX6_mean, Cond.code yX6_mean cX6_mean 1 (some .double), Cond.methodLink RL 99 yL_turn, Cond.static yL_turn, Cond.codeWith yL_turn cL_turn 5 (some .int) [(0, 10, 13, 15), (0, 10, 17, 43)], Cond.classLink RL 43 "java/lang/UnsupportedOperationException", Cond.methodLink RL 39 yX5_turn, Cond.instanceMethod yX5_turn, Cond.selects RX5 yX5_turn yX5_turn, Cond.code yX5_turn cX5_turn 3 (some .int), Cond.classLink RX5 104 "java/lang/UnsupportedOperationException", Cond.initialized "java/lang/UnsupportedOperationException", Cond.methodLink RX5 98 yX0_turnBySampling, Cond.instanceMethod yX0_turnBySampling, Cond.selects RX0 yX0_turnBySampling yX0_turnBySampling, Cond.code yX0_turnBySampling cX0_turnBySampling 7 none, Cond.methodLink RX0 72 yX1_sine]
def wsL_law0_r17 : List Cond := [Cond.static yX1_sine, Cond.code yX1_sine cX1_sine 6 (some .double), Cond.constantDouble RX1 23 (13818544856648471893), Cond.constantDouble RX1 25 (4575957461383581969), Cond.constantDouble RX1 27 (13774824197408792602), Cond.methodLink RX0 101 yX1_cosine, Cond.static yX1_cosine, Cond.code yX1_cosine cX1_cosine 6 (some .double), Cond.constantDouble RX1 29 (13826050856027422720), Cond.constantDouble RX1 31 (4586165620538955093), Cond.constantDouble RX1 33 (13787419979223755799), Cond.methodLink RX0 92 yX0_keepOldBits, Cond.instanceMethod yX0_keepOldBits, Cond.selects RX0 yX0_keepOldBits yX0_keepOldBits, Cond.code yX0_keepOldBits cX0_keepOldBits 2 none, Cond.methodLink RX0 104 yX0_sampledRow, Cond.instanceMethod yX0_sampledRow, Cond.selects RX0 yX0_sampledRow yX0_sampledRow, Cond.code yX0_sampledRow cX0_sampledRow 10 (some .int), Cond.methodLink RX0 82 yX1_whole, Cond.methodLink RX0 98 yX0_oldRowBits, Cond.instanceMethod yX0_oldRowBits, Cond.selects RX0 yX0_oldRowBits yX0_oldRowBits, Cond.code yX0_oldRowBits cX0_oldRowBits 2 (some .int)]
def wsL_law0_r18 : List Cond := [Cond.methodLink RX5 101 yX0_turnByShears, Cond.instanceMethod yX0_turnByShears, Cond.selects RX0 yX0_turnByShears yX0_turnByShears, Cond.code yX0_turnByShears cX0_turnByShears 2 none, Cond.methodLink RX0 63 yX0_shearAll, Cond.instanceMethod yX0_shearAll, Cond.selects RX0 yX0_shearAll yX0_shearAll, Cond.code yX0_shearAll cX0_shearAll 7 none, Cond.methodLink RX0 66 yX1_slope, Cond.methodLink RX0 75 yX0_shearRows, Cond.instanceMethod yX0_shearRows, Cond.selects RX0 yX0_shearRows yX0_shearRows, Cond.code yX0_shearRows cX0_shearRows 6 none, Cond.methodLink RX0 86 yX0_movedRight, Cond.instanceMethod yX0_movedRight, Cond.selects RX0 yX0_movedRight yX0_movedRight, Cond.code yX0_movedRight cX0_movedRight 4 (some .int), Cond.methodLink RX0 89 yX1_wrapped, Cond.static yX1_wrapped, Cond.code yX1_wrapped cX1_wrapped 2 (some .int), Cond.methodLink RX1 37 yJ9_floorMod_7cf53, Cond.static yJ9_floorMod_7cf53, Cond.initialized RJ9, Cond.code yJ9_floorMod_7cf53 cJ9_floorMod_7cf53 3 (some .int)]
def wsL_law0_r19 : List Cond := [Cond.methodLink RX0 79 yX0_shearColumns, Cond.instanceMethod yX0_shearColumns, Cond.selects RX0 yX0_shearColumns yX0_shearColumns, Cond.code yX0_shearColumns cX0_shearColumns 8 none, Cond.methodLink RX0 95 yX0_wipe, Cond.instanceMethod yX0_wipe, Cond.selects RX0 yX0_wipe yX0_wipe, Cond.code yX0_wipe cX0_wipe 2 none, Cond.methodLink RX5 109 yX0_samplesOn, Cond.methodLink RL 102 yX6_turn, Cond.instanceMethod yX6_turn, Cond.selects RX6 yX6_turn yX6_turn, Cond.code yX6_turn cX6_turn 3 (some .int), Cond.fieldLink RX6 144 "SkewFindModel" "turnCount" "I", Cond.methodLink RX6 147 yX6_shear, Cond.instanceMethod yX6_shear, Cond.selects RX6 yX6_shear yX6_shear, Cond.code yX6_shear cX6_shear 5 none, Cond.constantDouble RX6 119 (4611686018427387904), Cond.methodLink RX6 131 yX6_shearRows, Cond.instanceMethod yX6_shearRows, Cond.selects RX6 yX6_shearRows yX6_shearRows, Cond.code yX6_shearRows cX6_shearRows 9 none, Cond.methodLink RX6 121 yX6_forget]
def wsL_law0_r20 : List Cond := [Cond.instanceMethod yX6_forget, Cond.selects RX6 yX6_forget yX6_forget, Cond.code yX6_forget cX6_forget 2 none, Cond.methodLink RX6 124 yX6_within, Cond.static yX6_within, Cond.code yX6_within cX6_within 3 (some .int), Cond.methodLink RX6 128 yX6_change, Cond.instanceMethod yX6_change, Cond.selects RX6 yX6_change yX6_change, Cond.code yX6_change cX6_change 2 none, Cond.methodLink RX6 135 yX6_sine, Cond.static yX6_sine, Cond.code yX6_sine cX6_sine 6 (some .double), Cond.constantDouble RX6 59 (13818544856648471893), Cond.constantDouble RX6 61 (4575957461383581969), Cond.constantDouble RX6 63 (13774824197408792602), Cond.methodLink RX6 138 yX6_shearColumns, Cond.instanceMethod yX6_shearColumns, Cond.selects RX6 yX6_shearColumns yX6_shearColumns, Cond.code yX6_shearColumns cX6_shearColumns 9 none, Cond.methodLink RX6 151 yX6_sample, Cond.instanceMethod yX6_sample, Cond.selects RX6 yX6_sample yX6_sample, Cond.code yX6_sample cX6_sample 14 none]
def wsL_law0_r21 : List Cond := [Cond.methodLink RX6 141 yX6_cosine, Cond.static yX6_cosine, Cond.code yX6_cosine cX6_cosine 6 (some .double), Cond.constantDouble RX6 65 (13826050856027422720), Cond.constantDouble RX6 67 (4586165620538955093), Cond.constantDouble RX6 69 (13787419979223755799), Cond.methodLink RL 103 yX5_back, Cond.instanceMethod yX5_back, Cond.selects RX5 yX5_back yX5_back, Cond.code yX5_back cX5_back 2 (some .int), Cond.methodLink RX5 113 yX0_turnBackByShears, Cond.instanceMethod yX0_turnBackByShears, Cond.selects RX0 yX0_turnBackByShears yX0_turnBackByShears, Cond.code yX0_turnBackByShears cX0_turnBackByShears 2 none, Cond.methodLink RL 106 yX6_back, Cond.instanceMethod yX6_back, Cond.selects RX6 yX6_back yX6_back, Cond.code yX6_back cX6_back 1 (some .int), Cond.methodLink RL 107 yL_crop, Cond.static yL_crop, Cond.codeWith yL_crop cL_crop 4 (some .int) [(0, 9, 12, 13)], Cond.methodLink RL 45 yX5_crop, Cond.instanceMethod yX5_crop, Cond.selects RX5 yX5_crop yX5_crop]
def wsL_law0_r22 : List Cond := [Cond.code yX5_crop cX5_crop 2 (some .int), Cond.methodLink RX5 116 yX5_checkSide, Cond.static yX5_checkSide, Cond.code yX5_checkSide cX5_checkSide 1 none, Cond.methodLink RX5 119 yX4_cropAt, Cond.instanceMethod yX4_cropAt, Cond.selects RX4 yX4_cropAt yX4_cropAt, Cond.code yX4_cropAt cX4_cropAt 3 (some .int), Cond.methodLink RX4 59 Lib.Math.abs.name, Cond.static Lib.Math.abs.name, Cond.code Lib.Math.abs.name Lib.Math.abs.code 1 (some .int), Cond.methodLink RX4 39 yX0_samplesOn, Cond.methodLink RX4 43 yX4_end, Cond.instanceMethod yX4_end, Cond.selects RX4 yX4_end yX4_end, Cond.code yX4_end cX4_end 2 (some .int), Cond.methodLink RX4 47 yX4_cropLeft, Cond.instanceMethod yX4_cropLeft, Cond.selects RX4 yX4_cropLeft yX4_cropLeft, Cond.code yX4_cropLeft cX4_cropLeft 1 none, Cond.methodLink RX4 64 yX4_columnIsEmpty, Cond.instanceMethod yX4_columnIsEmpty, Cond.selects RX4 yX4_columnIsEmpty yX4_columnIsEmpty, Cond.code yX4_columnIsEmpty cX4_columnIsEmpty 3 (some .boolean)]
def wsL_law0_r23 : List Cond := [Cond.methodLink RX4 71 yX0_isOn, Cond.methodLink RX4 50 yX4_cropUpper, Cond.instanceMethod yX4_cropUpper, Cond.selects RX4 yX4_cropUpper yX4_cropUpper, Cond.code yX4_cropUpper cX4_cropUpper 1 none, Cond.methodLink RX4 68 yX0_rowBits, Cond.methodLink RX4 53 yX4_cropRight, Cond.instanceMethod yX4_cropRight, Cond.selects RX4 yX4_cropRight yX4_cropRight, Cond.code yX4_cropRight cX4_cropRight 1 none, Cond.methodLink RX4 56 yX4_cropLower, Cond.instanceMethod yX4_cropLower, Cond.selects RX4 yX4_cropLower yX4_cropLower, Cond.code yX4_cropLower cX4_cropLower 1 none, Cond.methodLink RL 109 yX6_crop, Cond.instanceMethod yX6_crop, Cond.selects RX6 yX6_crop yX6_crop, Cond.code yX6_crop cX6_crop 4 (some .int), Cond.methodLink RX6 155 yX6_isBare, Cond.instanceMethod yX6_isBare, Cond.selects RX6 yX6_isBare yX6_isBare, Cond.code yX6_isBare cX6_isBare 5 (some .boolean), Cond.methodLink RL 110 yL_size, Cond.static yL_size]
def wsL_law0_r24 : List Cond := [Cond.codeWith yL_size cL_size 4 (some .int) [(0, 9, 12, 13)], Cond.methodLink RL 48 yX5_size, Cond.instanceMethod yX5_size, Cond.selects RX5 yX5_size yX5_size, Cond.code yX5_size cX5_size 2 (some .int), Cond.methodLink RX5 122 yX4_end, Cond.methodLink RL 112 yX6_size, Cond.instanceMethod yX6_size, Cond.selects RX6 yX6_size yX6_size, Cond.code yX6_size cX6_size 2 (some .int), Cond.methodLink RL 113 yX5_bands, Cond.instanceMethod yX5_bands, Cond.selects RX5 yX5_bands yX5_bands, Cond.code yX5_bands cX5_bands 1 (some .int), Cond.methodLink RX5 125 yX2_bandCount, Cond.instanceMethod yX2_bandCount, Cond.selects RX2 yX2_bandCount yX2_bandCount, Cond.code yX2_bandCount cX2_bandCount 3 (some .int), Cond.fieldLink RX2 21 "SkewFind$Picture" "height" "I", Cond.methodLink RX2 25 yX2_beginsBand, Cond.instanceMethod yX2_beginsBand, Cond.selects RX2 yX2_beginsBand yX2_beginsBand, Cond.code yX2_beginsBand cX2_beginsBand 2 (some .boolean), Cond.methodLink RX2 15 yX0_rowBits]
def wsL_law0_r25 : List Cond := [Cond.methodLink RL 116 yX6_bands, Cond.instanceMethod yX6_bands, Cond.selects RX6 yX6_bands yX6_bands, Cond.code yX6_bands cX6_bands 2 (some .int), Cond.methodLink RX6 164 yX6_goTo, Cond.instanceMethod yX6_goTo, Cond.selects RX6 yX6_goTo yX6_goTo, Cond.code yX6_goTo cX6_goTo 4 (some .boolean), Cond.fieldLink RX6 158 "SkewFindModel" "bandAt" "I", Cond.fieldLink RX6 161 "SkewFindModel" "bandRows" "I", Cond.methodLink RL 117 yL_band, Cond.static yL_band, Cond.codeWith yL_band cL_band 5 (some .int) [(0, 10, 13, 13)], Cond.methodLink RL 51 yX5_band, Cond.instanceMethod yX5_band, Cond.selects RX5 yX5_band yX5_band, Cond.code yX5_band cX5_band 5 (some .int), Cond.methodLink RX5 128 yX5_checkBand, Cond.instanceMethod yX5_checkBand, Cond.selects RX5 yX5_checkBand yX5_checkBand, Cond.code yX5_checkBand cX5_checkBand 2 none, Cond.methodLink RX5 131 yX2_firstOfBand, Cond.instanceMethod yX2_firstOfBand, Cond.selects RX2 yX2_firstOfBand yX2_firstOfBand]
def wsL_law0_r26 : List Cond := [Cond.code yX2_firstOfBand cX2_firstOfBand 4 (some .int), Cond.methodLink RX5 134 yX2_behindBand, Cond.instanceMethod yX2_behindBand, Cond.selects RX2 yX2_behindBand yX2_behindBand, Cond.code yX2_behindBand cX2_behindBand 3 (some .int), Cond.methodLink RX5 137 yX2_samplesBetween, Cond.instanceMethod yX2_samplesBetween, Cond.selects RX2 yX2_samplesBetween yX2_samplesBetween, Cond.code yX2_samplesBetween cX2_samplesBetween 5 (some .int), Cond.methodLink RX2 29 yJ6_bitCount_0f7a4, Cond.methodLink RL 119 yX6_band, Cond.instanceMethod yX6_band, Cond.selects RX6 yX6_band yX6_band, Cond.code yX6_band cX6_band 3 (some .int), Cond.methodLink RX6 167 yX6_onIn, Cond.instanceMethod yX6_onIn, Cond.selects RX6 yX6_onIn yX6_onIn, Cond.code yX6_onIn cX6_onIn 6 (some .int), Cond.methodLink RL 122 yL_line, Cond.static yL_line, Cond.codeWith yL_line cL_line 6 (some .int) [(0, 11, 14, 13), (0, 11, 18, 15)], Cond.methodLink RL 55 yX5_line, Cond.instanceMethod yX5_line, Cond.selects RX5 yX5_line yX5_line]
def wsL_law0_r27 : List Cond := [Cond.code yX5_line cX5_line 4 (some .int), Cond.constantDouble RX5 141 (13875379345695965184), Cond.constantDouble RX5 143 (4652007308841189376), Cond.constantDouble RX5 147 (4625196817309499392), Cond.methodLink RX5 149 yX2_baseLineAt, Cond.instanceMethod yX2_baseLineAt, Cond.selects RX2 yX2_baseLineAt yX2_baseLineAt, Cond.code yX2_baseLineAt cX2_baseLineAt 13 (some .double), Cond.fieldLink RX2 41 "SkewFind$Picture" "width" "I", Cond.methodLink RX2 34 yX2_behindBand, Cond.methodLink RX2 44 yX2_lowestOn, Cond.instanceMethod yX2_lowestOn, Cond.selects RX2 yX2_lowestOn yX2_lowestOn, Cond.code yX2_lowestOn cX2_lowestOn 5 (some .int), Cond.methodLink RX2 48 yX0_isOn, Cond.methodLink RX5 153 yX1_whole, Cond.methodLink RL 125 yX6_line, Cond.instanceMethod yX6_line, Cond.selects RX6 yX6_line yX6_line, Cond.code yX6_line cX6_line 12 (some .int), Cond.constantDouble RX6 170 (13875379345695965184), Cond.constantDouble RX6 172 (4652007308841189376), Cond.constantDouble RX6 174 (4625196817309499392), Cond.methodLink RL 126 yX5_upside]
def wsL_law0_r28 : List Cond := [Cond.instanceMethod yX5_upside, Cond.selects RX5 yX5_upside yX5_upside, Cond.code yX5_upside cX5_upside 1 (some .boolean), Cond.methodLink RX5 159 yX2_lowerMinusUpper, Cond.instanceMethod yX2_lowerMinusUpper, Cond.selects RX2 yX2_lowerMinusUpper yX2_lowerMinusUpper, Cond.code yX2_lowerMinusUpper cX2_lowerMinusUpper 5 (some .int), Cond.methodLink RX2 37 yX2_samplesBetween, Cond.methodLink RL 129 yX6_upside, Cond.instanceMethod yX6_upside, Cond.selects RX6 yX6_upside yX6_upside, Cond.code yX6_upside cX6_upside 5 (some .boolean), Cond.methodLink RL 130 yX5_told, Cond.instanceMethod yX5_told, Cond.selects RX5 yX5_told yX5_told, Cond.code yX5_told cX5_told 2 (some .int), Cond.fieldLink RX5 162 "SkewFind$Picture" "width" "I", Cond.fieldLink RX5 165 "SkewFind$Picture" "height" "I", Cond.methodLink RX5 168 yX0_runEnds, Cond.methodLink RL 133 yX6_told, Cond.instanceMethod yX6_told, Cond.selects RX6 yX6_told yX6_told, Cond.code yX6_told cX6_told 2 (some .int), Cond.methodLink RL 134 yX5_clear]
def wsL_law0_r29 : List Cond := [Cond.instanceMethod yX5_clear, Cond.selects RX5 yX5_clear yX5_clear, Cond.code yX5_clear cX5_clear 1 none, Cond.methodLink RX5 171 yX0_wipe, Cond.methodLink RL 137 yX6_clear, Cond.instanceMethod yX6_clear, Cond.selects RX6 yX6_clear yX6_clear, Cond.code yX6_clear cX6_clear 2 none]
def wsL_law0 : List Cond := (wsL_law0_r1 ++ (wsL_law0_r2 ++ (wsL_law0_r3 ++ (wsL_law0_r4 ++ (wsL_law0_r5 ++ (wsL_law0_r6 ++ (wsL_law0_r7 ++ (wsL_law0_r8 ++ (wsL_law0_r9 ++ (wsL_law0_r10 ++ (wsL_law0_r11 ++ (wsL_law0_r12 ++ (wsL_law0_r13 ++ (wsL_law0_r14 ++ (wsL_law0_r15 ++ (wsL_law0_r16 ++ (wsL_law0_r17 ++ (wsL_law0_r18 ++ (wsL_law0_r19 ++ (wsL_law0_r20 ++ (wsL_law0_r21 ++ (wsL_law0_r22 ++ (wsL_law0_r23 ++ (wsL_law0_r24 ++ (wsL_law0_r25 ++ (wsL_law0_r26 ++ (wsL_law0_r27 ++ (wsL_law0_r28 ++ wsL_law0_r29)))))))))))))))))))))))))))) ++ wsX50 ++ wsX60 ++ wsX00 ++ wsX40 ++ wsX30 ++ wsX20 ++ ([] : List Cond)
def wsL_law : List Cond := wsL_law0 ++ (vx_atS RX5 60 "java/lang/IllegalArgumentException" ["java/lang/RuntimeException", "java/lang/Exception"]).filter goodWord ++ (vx_atS RX5 195 "java/lang/IndexOutOfBoundsException" ["java/lang/RuntimeException", "java/lang/Exception"]).filter goodWord ++ (vx_atS RX5 209 "java/lang/IllegalStateException" ["java/lang/RuntimeException", "java/lang/Exception"]).filter goodWord ++ (vx_atS RX5 108 "java/lang/UnsupportedOperationException" ["java/lang/RuntimeException", "java/lang/Exception"]).filter goodWord
abbrev vwCl : List vw_C := [(RX0, TX0, 6), (RX2, TX2, 1), (RX3, TX3, 7), (RX4, TX4, 5), (RX5, TX5, 6), (RX6, TX6, 14)]
end
section
/-! printed names, part 03.d01 -/
theorem dX0_init_0 : decode cX0_init 0 = .ok (.aload_n 0, 1) := by decide +kernel
theorem dX0_init_1 : decode cX0_init 1 = .ok (.invokespecial 3, 3) := by decide +kernel
theorem dX0_init_4 : decode cX0_init 4 = .ok (.aload_n 0, 1) := by decide +kernel
theorem dX0_init_5 : decode cX0_init 5 = .ok (.iload_n 1, 1) := by decide +kernel
theorem dX0_init_6 : decode cX0_init 6 = .ok (.putfield 9, 3) := by decide +kernel
theorem dX0_init_9 : decode cX0_init 9 = .ok (.aload_n 0, 1) := by decide +kernel
theorem dX0_init_10 : decode cX0_init 10 = .ok (.iload_n 2, 1) := by decide +kernel
theorem dX0_init_11 : decode cX0_init 11 = .ok (.putfield 15, 3) := by decide +kernel
theorem dX0_init_14 : decode cX0_init 14 = .ok (.aload_n 0, 1) := by decide +kernel
theorem dX0_init_15 : decode cX0_init 15 = .ok (.iload_n 1, 1) := by decide +kernel
theorem dX0_init_16 : decode cX0_init 16 = .ok (.iconst 1, 1) := by decide +kernel
theorem dX0_init_17 : decode cX0_init 17 = .ok (.isub, 1) := by decide +kernel
theorem dX0_init_18 : decode cX0_init 18 = .ok (.i2d, 1) := by decide +kernel
theorem dX0_init_19 : decode cX0_init 19 = .ok (.ldc2_w 18, 3) := by decide +kernel
theorem dX0_init_22 : decode cX0_init 22 = .ok (.ddiv, 1) := by decide +kernel
theorem dX0_init_23 : decode cX0_init 23 = .ok (.putfield 20, 3) := by decide +kernel
theorem dX0_init_26 : decode cX0_init 26 = .ok (.aload_n 0, 1) := by decide +kernel
theorem dX0_init_27 : decode cX0_init 27 = .ok (.iload_n 2, 1) := by decide +kernel
theorem dX0_init_28 : decode cX0_init 28 = .ok (.iconst 1, 1) := by decide +kernel
theorem dX0_init_29 : decode cX0_init 29 = .ok (.isub, 1) := by decide +kernel
theorem dX0_init_30 : decode cX0_init 30 = .ok (.i2d, 1) := by decide +kernel
theorem dX0_init_31 : decode cX0_init 31 = .ok (.ldc2_w 18, 3) := by decide +kernel
theorem dX0_init_34 : decode cX0_init 34 = .ok (.ddiv, 1) := by decide +kernel
theorem dX0_init_35 : decode cX0_init 35 = .ok (.putfield 24, 3) := by decide +kernel
theorem dX0_init_38 : decode cX0_init 38 = .ok (.aload_n 0, 1) := by decide +kernel
theorem dX0_init_39 : decode cX0_init 39 = .ok (.bipush 24, 2) := by decide +kernel
theorem dX0_init_41 : decode cX0_init 41 = .ok (.newarray .int, 2) := by decide +kernel
theorem dX0_init_43 : decode cX0_init 43 = .ok (.putfield 27, 3) := by decide +kernel
theorem dX0_init_46 : decode cX0_init 46 = .ok (.aload_n 0, 1) := by decide +kernel
theorem dX0_init_47 : decode cX0_init 47 = .ok (.bipush 24, 2) := by decide +kernel
theorem dX0_init_49 : decode cX0_init 49 = .ok (.newarray .int, 2) := by decide +kernel
theorem dX0_init_51 : decode cX0_init 51 = .ok (.putfield 31, 3) := by decide +kernel
theorem dX0_init_54 : decode cX0_init 54 = .ok (.return_, 1) := by decide +kernel
theorem dX0_has_0 : decode cX0_has 0 = .ok (.iload_n 1, 1) := by decide +kernel
theorem dX0_has_1 : decode cX0_has 1 = .ok (.ifCond .lt 27, 3) := by decide +kernel
theorem dX0_has_4 : decode cX0_has 4 = .ok (.iload_n 1, 1) := by decide +kernel
theorem dX0_has_5 : decode cX0_has 5 = .ok (.aload_n 0, 1) := by decide +kernel
theorem dX0_has_6 : decode cX0_has 6 = .ok (.getfield 9, 3) := by decide +kernel
theorem dX0_has_9 : decode cX0_has 9 = .ok (.if_icmp .ge 19, 3) := by decide +kernel
theorem dX0_has_12 : decode cX0_has 12 = .ok (.iload_n 2, 1) := by decide +kernel
theorem dX0_has_13 : decode cX0_has 13 = .ok (.ifCond .lt 15, 3) := by decide +kernel
theorem dX0_has_16 : decode cX0_has 16 = .ok (.iload_n 2, 1) := by decide +kernel
theorem dX0_has_17 : decode cX0_has 17 = .ok (.aload_n 0, 1) := by decide +kernel
theorem dX0_has_18 : decode cX0_has 18 = .ok (.getfield 15, 3) := by decide +kernel
theorem dX0_has_21 : decode cX0_has 21 = .ok (.if_icmp .ge 7, 3) := by decide +kernel
theorem dX0_has_24 : decode cX0_has 24 = .ok (.iconst 1, 1) := by decide +kernel
theorem dX0_has_25 : decode cX0_has 25 = .ok (.goto 4, 3) := by decide +kernel
theorem dX0_has_28 : decode cX0_has 28 = .ok (.iconst 0, 1) := by decide +kernel
theorem dX0_has_29 : decode cX0_has 29 = .ok (.ireturn, 1) := by decide +kernel
set_option maxRecDepth 20000 in
theorem ggX0_isOn_X0_has : GoodIn wsX0_isOn wsX0_has := goodIn_r _ [5, 6, 7, 13, 14, 15, 16, 17, 18] (by decide +kernel) (by decide +kernel)
set_option maxRecDepth 20000 in
theorem gX0_isOn_X0_has : GoodIn wsX0_isOn (wsV RX0 34 RX0 yX0_has wsX0_has) := goodIn_app (goodIn_of _ (by decide +kernel)) ggX0_isOn_X0_has
set_option maxRecDepth 20000 in
theorem ggX0_isOn_X0_rowBits : GoodIn wsX0_isOn wsX0_rowBits := goodIn_r _ [11, 12, 13, 14, 15, 16, 17, 18] (by decide +kernel) (by decide +kernel)
set_option maxRecDepth 20000 in
theorem gX0_isOn_X0_rowBits : GoodIn wsX0_isOn (wsV RX0 38 RX0 yX0_rowBits wsX0_rowBits) := goodIn_app (goodIn_of _ (by decide +kernel)) ggX0_isOn_X0_rowBits
theorem dX0_isOn_0 : decode cX0_isOn 0 = .ok (.aload_n 0, 1) := by decide +kernel
theorem dX0_isOn_1 : decode cX0_isOn 1 = .ok (.iload_n 1, 1) := by decide +kernel
theorem dX0_isOn_2 : decode cX0_isOn 2 = .ok (.iload_n 2, 1) := by decide +kernel
theorem dX0_isOn_3 : decode cX0_isOn 3 = .ok (.invokevirtual 34, 3) := by decide +kernel
theorem dX0_isOn_6 : decode cX0_isOn 6 = .ok (.ifCond .eq 19, 3) := by decide +kernel
theorem dX0_isOn_9 : decode cX0_isOn 9 = .ok (.aload_n 0, 1) := by decide +kernel
theorem dX0_isOn_10 : decode cX0_isOn 10 = .ok (.iload_n 2, 1) := by decide +kernel
theorem dX0_isOn_11 : decode cX0_isOn 11 = .ok (.invokevirtual 38, 3) := by decide +kernel
theorem dX0_isOn_14 : decode cX0_isOn 14 = .ok (.iload_n 1, 1) := by decide +kernel
theorem dX0_isOn_15 : decode cX0_isOn 15 = .ok (.iushr, 1) := by decide +kernel
theorem dX0_isOn_16 : decode cX0_isOn 16 = .ok (.iconst 1, 1) := by decide +kernel
theorem dX0_isOn_17 : decode cX0_isOn 17 = .ok (.iand, 1) := by decide +kernel
theorem dX0_isOn_18 : decode cX0_isOn 18 = .ok (.ifCond .eq 7, 3) := by decide +kernel
theorem dX0_isOn_21 : decode cX0_isOn 21 = .ok (.iconst 1, 1) := by decide +kernel
theorem dX0_isOn_22 : decode cX0_isOn 22 = .ok (.goto 4, 3) := by decide +kernel
theorem dX0_isOn_25 : decode cX0_isOn 25 = .ok (.iconst 0, 1) := by decide +kernel
theorem dX0_isOn_26 : decode cX0_isOn 26 = .ok (.ireturn, 1) := by decide +kernel
theorem dX0_rowBits_0 : decode cX0_rowBits 0 = .ok (.iload_n 1, 1) := by decide +kernel
theorem dX0_rowBits_1 : decode cX0_rowBits 1 = .ok (.ifCond .lt 21, 3) := by decide +kernel
theorem dX0_rowBits_4 : decode cX0_rowBits 4 = .ok (.iload_n 1, 1) := by decide +kernel
theorem dX0_rowBits_5 : decode cX0_rowBits 5 = .ok (.aload_n 0, 1) := by decide +kernel
theorem dX0_rowBits_6 : decode cX0_rowBits 6 = .ok (.getfield 27, 3) := by decide +kernel
theorem dX0_rowBits_9 : decode cX0_rowBits 9 = .ok (.arraylength, 1) := by decide +kernel
theorem dX0_rowBits_10 : decode cX0_rowBits 10 = .ok (.if_icmp .ge 12, 3) := by decide +kernel
theorem dX0_rowBits_13 : decode cX0_rowBits 13 = .ok (.aload_n 0, 1) := by decide +kernel
theorem dX0_rowBits_14 : decode cX0_rowBits 14 = .ok (.getfield 27, 3) := by decide +kernel
theorem dX0_rowBits_17 : decode cX0_rowBits 17 = .ok (.iload_n 1, 1) := by decide +kernel
theorem dX0_rowBits_18 : decode cX0_rowBits 18 = .ok (.iaload, 1) := by decide +kernel
theorem dX0_rowBits_19 : decode cX0_rowBits 19 = .ok (.goto 4, 3) := by decide +kernel
theorem dX0_rowBits_22 : decode cX0_rowBits 22 = .ok (.iconst 0, 1) := by decide +kernel
theorem dX0_rowBits_23 : decode cX0_rowBits 23 = .ok (.ireturn, 1) := by decide +kernel
theorem dX0_setRowBits_0 : decode cX0_setRowBits 0 = .ok (.iload_n 1, 1) := by decide +kernel
theorem dX0_setRowBits_1 : decode cX0_setRowBits 1 = .ok (.ifCond .lt 19, 3) := by decide +kernel
theorem dX0_setRowBits_4 : decode cX0_setRowBits 4 = .ok (.iload_n 1, 1) := by decide +kernel
theorem dX0_setRowBits_5 : decode cX0_setRowBits 5 = .ok (.aload_n 0, 1) := by decide +kernel
theorem dX0_setRowBits_6 : decode cX0_setRowBits 6 = .ok (.getfield 27, 3) := by decide +kernel
theorem dX0_setRowBits_9 : decode cX0_setRowBits 9 = .ok (.arraylength, 1) := by decide +kernel
theorem dX0_setRowBits_10 : decode cX0_setRowBits 10 = .ok (.if_icmp .ge 10, 3) := by decide +kernel
theorem dX0_setRowBits_13 : decode cX0_setRowBits 13 = .ok (.aload_n 0, 1) := by decide +kernel
theorem dX0_setRowBits_14 : decode cX0_setRowBits 14 = .ok (.getfield 27, 3) := by decide +kernel
theorem dX0_setRowBits_17 : decode cX0_setRowBits 17 = .ok (.iload_n 1, 1) := by decide +kernel
theorem dX0_setRowBits_18 : decode cX0_setRowBits 18 = .ok (.iload_n 2, 1) := by decide +kernel
theorem dX0_setRowBits_19 : decode cX0_setRowBits 19 = .ok (.iastore, 1) := by decide +kernel
theorem dX0_setRowBits_20 : decode cX0_setRowBits 20 = .ok (.return_, 1) := by decide +kernel
theorem dX0_oldRowBits_0 : decode cX0_oldRowBits 0 = .ok (.iload_n 1, 1) := by decide +kernel
theorem dX0_oldRowBits_1 : decode cX0_oldRowBits 1 = .ok (.ifCond .lt 21, 3) := by decide +kernel
theorem dX0_oldRowBits_4 : decode cX0_oldRowBits 4 = .ok (.iload_n 1, 1) := by decide +kernel
theorem dX0_oldRowBits_5 : decode cX0_oldRowBits 5 = .ok (.aload_n 0, 1) := by decide +kernel
theorem dX0_oldRowBits_6 : decode cX0_oldRowBits 6 = .ok (.getfield 31, 3) := by decide +kernel
theorem dX0_oldRowBits_9 : decode cX0_oldRowBits 9 = .ok (.arraylength, 1) := by decide +kernel
theorem dX0_oldRowBits_10 : decode cX0_oldRowBits 10 = .ok (.if_icmp .ge 12, 3) := by decide +kernel
theorem dX0_oldRowBits_13 : decode cX0_oldRowBits 13 = .ok (.aload_n 0, 1) := by decide +kernel
theorem dX0_oldRowBits_14 : decode cX0_oldRowBits 14 = .ok (.getfield 31, 3) := by decide +kernel
theorem dX0_oldRowBits_17 : decode cX0_oldRowBits 17 = .ok (.iload_n 1, 1) := by decide +kernel
theorem dX0_oldRowBits_18 : decode cX0_oldRowBits 18 = .ok (.iaload, 1) := by decide +kernel
theorem dX0_oldRowBits_19 : decode cX0_oldRowBits 19 = .ok (.goto 4, 3) := by decide +kernel
theorem dX0_oldRowBits_22 : decode cX0_oldRowBits 22 = .ok (.iconst 0, 1) := by decide +kernel
theorem dX0_oldRowBits_23 : decode cX0_oldRowBits 23 = .ok (.ireturn, 1) := by decide +kernel
set_option maxRecDepth 20000 in
theorem ggX0_fill_X0_has : GoodIn wsX0_fill wsX0_has := goodIn_r _ [10, 1, 11, 31, 32, 33, 34, 35, 36] (by decide +kernel) (by decide +kernel)
set_option maxRecDepth 20000 in
theorem gX0_fill_X0_has : GoodIn wsX0_fill (wsV RX0 34 RX0 yX0_has wsX0_has) := goodIn_app (goodIn_of _ (by decide +kernel)) ggX0_fill_X0_has
set_option maxRecDepth 20000 in
theorem ggX0_fill_X0_bitsOf : GoodIn wsX0_fill wsX0_bitsOf := goodIn_r _ [14] (by decide +kernel) (by decide +kernel)
set_option maxRecDepth 20000 in
theorem gX0_fill_X0_bitsOf : GoodIn wsX0_fill (va_wsS RX0 48 yX0_bitsOf wsX0_bitsOf) := goodIn_app (goodIn_of _ (by decide +kernel)) ggX0_fill_X0_bitsOf
set_option maxRecDepth 20000 in
theorem ggX0_fill_X0_rowBits : GoodIn wsX0_fill wsX0_rowBits := goodIn_r _ [18, 19, 31, 32, 33, 34, 35, 36] (by decide +kernel) (by decide +kernel)
set_option maxRecDepth 20000 in
theorem gX0_fill_X0_rowBits : GoodIn wsX0_fill (wsV RX0 38 RX0 yX0_rowBits wsX0_rowBits) := goodIn_app (goodIn_of _ (by decide +kernel)) ggX0_fill_X0_rowBits
set_option maxRecDepth 20000 in
theorem ggX0_fill_X0_setRowBits : GoodIn wsX0_fill wsX0_setRowBits := goodIn_r _ [23, 19, 31, 32, 33, 34, 35, 36] (by decide +kernel) (by decide +kernel)
set_option maxRecDepth 20000 in
theorem gX0_fill_X0_setRowBits : GoodIn wsX0_fill (wsV RX0 51 RX0 yX0_setRowBits wsX0_setRowBits) := goodIn_app (goodIn_of _ (by decide +kernel)) ggX0_fill_X0_setRowBits
set_option maxRecDepth 20000 in
theorem ggX0_fill_J6_bitCount_0f7a4 : GoodIn wsX0_fill wsJ6_bitCount_0f7a4 := goodIn_r _ [27, 28, 29, 30] (by decide +kernel) (by decide +kernel)
set_option maxRecDepth 20000 in
theorem gX0_fill_J6_bitCount_0f7a4 : GoodIn wsX0_fill (va_wsS RX0 55 yJ6_bitCount_0f7a4 wsJ6_bitCount_0f7a4) := goodIn_app (goodIn_of _ (by decide +kernel)) ggX0_fill_J6_bitCount_0f7a4
theorem dX0_fill_0 : decode cX0_fill 0 = .ok (.aload_n 0, 1) := by decide +kernel
theorem dX0_fill_1 : decode cX0_fill 1 = .ok (.iload_n 1, 1) := by decide +kernel
theorem dX0_fill_2 : decode cX0_fill 2 = .ok (.iload_n 2, 1) := by decide +kernel
theorem dX0_fill_3 : decode cX0_fill 3 = .ok (.invokevirtual 34, 3) := by decide +kernel
theorem dX0_fill_6 : decode cX0_fill 6 = .ok (.ifCond .eq 8, 3) := by decide +kernel
theorem dX0_fill_9 : decode cX0_fill 9 = .ok (.iload_n 3, 1) := by decide +kernel
theorem dX0_fill_10 : decode cX0_fill 10 = .ok (.iconst 1, 1) := by decide +kernel
theorem dX0_fill_11 : decode cX0_fill 11 = .ok (.if_icmp .ge 5, 3) := by decide +kernel
theorem dX0_fill_14 : decode cX0_fill 14 = .ok (.iconst 0, 1) := by decide +kernel
theorem dX0_fill_15 : decode cX0_fill 15 = .ok (.ireturn, 1) := by decide +kernel
theorem dX0_fill_16 : decode cX0_fill 16 = .ok (.iload_n 3, 1) := by decide +kernel
theorem dX0_fill_17 : decode cX0_fill 17 = .ok (.aload_n 0, 1) := by decide +kernel
theorem dX0_fill_18 : decode cX0_fill 18 = .ok (.getfield 9, 3) := by decide +kernel
theorem dX0_fill_21 : decode cX0_fill 21 = .ok (.iload_n 1, 1) := by decide +kernel
theorem dX0_fill_22 : decode cX0_fill 22 = .ok (.isub, 1) := by decide +kernel
theorem dX0_fill_23 : decode cX0_fill 23 = .ok (.invokestatic 42, 3) := by decide +kernel
theorem dX0_fill_26 : decode cX0_fill 26 = .ok (.invokestatic 48, 3) := by decide +kernel
theorem dX0_fill_29 : decode cX0_fill 29 = .ok (.iload_n 1, 1) := by decide +kernel
theorem dX0_fill_30 : decode cX0_fill 30 = .ok (.ishl, 1) := by decide +kernel
theorem dX0_fill_31 : decode cX0_fill 31 = .ok (.istore 5, 2) := by decide +kernel
theorem dX0_fill_33 : decode cX0_fill 33 = .ok (.aload_n 0, 1) := by decide +kernel
theorem dX0_fill_34 : decode cX0_fill 34 = .ok (.iload_n 2, 1) := by decide +kernel
theorem dX0_fill_35 : decode cX0_fill 35 = .ok (.invokevirtual 38, 3) := by decide +kernel
theorem dX0_fill_38 : decode cX0_fill 38 = .ok (.istore 6, 2) := by decide +kernel
theorem dX0_fill_40 : decode cX0_fill 40 = .ok (.iload 4, 2) := by decide +kernel
theorem dX0_fill_42 : decode cX0_fill 42 = .ok (.ifCond .eq 11, 3) := by decide +kernel
theorem dX0_fill_45 : decode cX0_fill 45 = .ok (.iload 6, 2) := by decide +kernel
theorem dX0_fill_47 : decode cX0_fill 47 = .ok (.iload 5, 2) := by decide +kernel
theorem dX0_fill_49 : decode cX0_fill 49 = .ok (.ior, 1) := by decide +kernel
theorem dX0_fill_50 : decode cX0_fill 50 = .ok (.goto 10, 3) := by decide +kernel
theorem dX0_fill_53 : decode cX0_fill 53 = .ok (.iload 6, 2) := by decide +kernel
theorem dX0_fill_55 : decode cX0_fill 55 = .ok (.iload 5, 2) := by decide +kernel
theorem dX0_fill_57 : decode cX0_fill 57 = .ok (.iconst (-1), 1) := by decide +kernel
theorem dX0_fill_58 : decode cX0_fill 58 = .ok (.ixor, 1) := by decide +kernel
theorem dX0_fill_59 : decode cX0_fill 59 = .ok (.iand, 1) := by decide +kernel
theorem dX0_fill_60 : decode cX0_fill 60 = .ok (.istore 7, 2) := by decide +kernel
theorem dX0_fill_62 : decode cX0_fill 62 = .ok (.aload_n 0, 1) := by decide +kernel
theorem dX0_fill_63 : decode cX0_fill 63 = .ok (.iload_n 2, 1) := by decide +kernel
theorem dX0_fill_64 : decode cX0_fill 64 = .ok (.iload 7, 2) := by decide +kernel
theorem dX0_fill_66 : decode cX0_fill 66 = .ok (.invokevirtual 51, 3) := by decide +kernel
theorem dX0_fill_69 : decode cX0_fill 69 = .ok (.iload 6, 2) := by decide +kernel
theorem dX0_fill_71 : decode cX0_fill 71 = .ok (.iload 7, 2) := by decide +kernel
theorem dX0_fill_73 : decode cX0_fill 73 = .ok (.ixor, 1) := by decide +kernel
theorem dX0_fill_74 : decode cX0_fill 74 = .ok (.invokestatic 55, 3) := by decide +kernel
theorem dX0_fill_77 : decode cX0_fill 77 = .ok (.ireturn, 1) := by decide +kernel
set_option maxRecDepth 20000 in
theorem ggX0_wipe_X0_setRowBits : GoodIn wsX0_wipe wsX0_setRowBits := goodIn_r _ [6, 7, 8, 9, 10, 11, 12, 13] (by decide +kernel) (by decide +kernel)
set_option maxRecDepth 20000 in
theorem gX0_wipe_X0_setRowBits : GoodIn wsX0_wipe (wsV RX0 51 RX0 yX0_setRowBits wsX0_setRowBits) := goodIn_app (goodIn_of _ (by decide +kernel)) ggX0_wipe_X0_setRowBits
theorem dX0_wipe_0 : decode cX0_wipe 0 = .ok (.iconst 0, 1) := by decide +kernel
theorem dX0_wipe_1 : decode cX0_wipe 1 = .ok (.istore_n 1, 1) := by decide +kernel
theorem dX0_wipe_2 : decode cX0_wipe 2 = .ok (.iload_n 1, 1) := by decide +kernel
theorem dX0_wipe_3 : decode cX0_wipe 3 = .ok (.aload_n 0, 1) := by decide +kernel
theorem dX0_wipe_4 : decode cX0_wipe 4 = .ok (.getfield 15, 3) := by decide +kernel
theorem dX0_wipe_7 : decode cX0_wipe 7 = .ok (.if_icmp .ge 15, 3) := by decide +kernel
theorem dX0_wipe_10 : decode cX0_wipe 10 = .ok (.aload_n 0, 1) := by decide +kernel
theorem dX0_wipe_11 : decode cX0_wipe 11 = .ok (.iload_n 1, 1) := by decide +kernel
theorem dX0_wipe_12 : decode cX0_wipe 12 = .ok (.iconst 0, 1) := by decide +kernel
theorem dX0_wipe_13 : decode cX0_wipe 13 = .ok (.invokevirtual 51, 3) := by decide +kernel
theorem dX0_wipe_16 : decode cX0_wipe 16 = .ok (.iinc 1 1, 3) := by decide +kernel
theorem dX0_wipe_19 : decode cX0_wipe 19 = .ok (.goto (-17), 3) := by decide +kernel
theorem dX0_wipe_22 : decode cX0_wipe 22 = .ok (.return_, 1) := by decide +kernel
set_option maxRecDepth 20000 in
theorem ggX0_samplesOn_X0_rowBits : GoodIn wsX0_samplesOn wsX0_rowBits := goodIn_r _ [6, 7, 15, 16, 17, 18, 19, 20] (by decide +kernel) (by decide +kernel)
set_option maxRecDepth 20000 in
theorem gX0_samplesOn_X0_rowBits : GoodIn wsX0_samplesOn (wsV RX0 38 RX0 yX0_rowBits wsX0_rowBits) := goodIn_app (goodIn_of _ (by decide +kernel)) ggX0_samplesOn_X0_rowBits
set_option maxRecDepth 20000 in
theorem ggX0_samplesOn_J6_bitCount_0f7a4 : GoodIn wsX0_samplesOn wsJ6_bitCount_0f7a4 := goodIn_r _ [11, 12, 13, 14] (by decide +kernel) (by decide +kernel)
set_option maxRecDepth 20000 in
theorem gX0_samplesOn_J6_bitCount_0f7a4 : GoodIn wsX0_samplesOn (va_wsS RX0 55 yJ6_bitCount_0f7a4 wsJ6_bitCount_0f7a4) := goodIn_app (goodIn_of _ (by decide +kernel)) ggX0_samplesOn_J6_bitCount_0f7a4
theorem dX0_samplesOn_0 : decode cX0_samplesOn 0 = .ok (.iconst 0, 1) := by decide +kernel
theorem dX0_samplesOn_1 : decode cX0_samplesOn 1 = .ok (.istore_n 1, 1) := by decide +kernel
theorem dX0_samplesOn_2 : decode cX0_samplesOn 2 = .ok (.iconst 0, 1) := by decide +kernel
theorem dX0_samplesOn_3 : decode cX0_samplesOn 3 = .ok (.istore_n 2, 1) := by decide +kernel
theorem dX0_samplesOn_4 : decode cX0_samplesOn 4 = .ok (.iload_n 2, 1) := by decide +kernel
theorem dX0_samplesOn_5 : decode cX0_samplesOn 5 = .ok (.aload_n 0, 1) := by decide +kernel
theorem dX0_samplesOn_6 : decode cX0_samplesOn 6 = .ok (.getfield 15, 3) := by decide +kernel
theorem dX0_samplesOn_9 : decode cX0_samplesOn 9 = .ok (.if_icmp .ge 20, 3) := by decide +kernel
theorem dX0_samplesOn_12 : decode cX0_samplesOn 12 = .ok (.iload_n 1, 1) := by decide +kernel
theorem dX0_samplesOn_13 : decode cX0_samplesOn 13 = .ok (.aload_n 0, 1) := by decide +kernel
theorem dX0_samplesOn_14 : decode cX0_samplesOn 14 = .ok (.iload_n 2, 1) := by decide +kernel
theorem dX0_samplesOn_15 : decode cX0_samplesOn 15 = .ok (.invokevirtual 38, 3) := by decide +kernel
theorem dX0_samplesOn_18 : decode cX0_samplesOn 18 = .ok (.invokestatic 55, 3) := by decide +kernel
theorem dX0_samplesOn_21 : decode cX0_samplesOn 21 = .ok (.iadd, 1) := by decide +kernel
theorem dX0_samplesOn_22 : decode cX0_samplesOn 22 = .ok (.istore_n 1, 1) := by decide +kernel
theorem dX0_samplesOn_23 : decode cX0_samplesOn 23 = .ok (.iinc 2 1, 3) := by decide +kernel
theorem dX0_samplesOn_26 : decode cX0_samplesOn 26 = .ok (.goto (-22), 3) := by decide +kernel
theorem dX0_samplesOn_29 : decode cX0_samplesOn 29 = .ok (.iload_n 1, 1) := by decide +kernel
theorem dX0_samplesOn_30 : decode cX0_samplesOn 30 = .ok (.ireturn, 1) := by decide +kernel
set_option maxRecDepth 20000 in
theorem ggX0_runEndBits_X0_rowBits : GoodIn wsX0_runEndBits wsX0_rowBits := goodIn_r _ [5, 6, 7, 8, 9, 10, 11, 12] (by decide +kernel) (by decide +kernel)
set_option maxRecDepth 20000 in
theorem gX0_runEndBits_X0_rowBits : GoodIn wsX0_runEndBits (wsV RX0 38 RX0 yX0_rowBits wsX0_rowBits) := goodIn_app (goodIn_of _ (by decide +kernel)) ggX0_runEndBits_X0_rowBits
theorem dX0_runEndBits_0 : decode cX0_runEndBits 0 = .ok (.aload_n 0, 1) := by decide +kernel
theorem dX0_runEndBits_1 : decode cX0_runEndBits 1 = .ok (.iload_n 1, 1) := by decide +kernel
theorem dX0_runEndBits_2 : decode cX0_runEndBits 2 = .ok (.invokevirtual 38, 3) := by decide +kernel
theorem dX0_runEndBits_5 : decode cX0_runEndBits 5 = .ok (.istore_n 2, 1) := by decide +kernel
theorem dX0_runEndBits_6 : decode cX0_runEndBits 6 = .ok (.iload_n 2, 1) := by decide +kernel
theorem dX0_runEndBits_7 : decode cX0_runEndBits 7 = .ok (.iload_n 2, 1) := by decide +kernel
theorem dX0_runEndBits_8 : decode cX0_runEndBits 8 = .ok (.iconst 1, 1) := by decide +kernel
theorem dX0_runEndBits_9 : decode cX0_runEndBits 9 = .ok (.iushr, 1) := by decide +kernel
theorem dX0_runEndBits_10 : decode cX0_runEndBits 10 = .ok (.iconst (-1), 1) := by decide +kernel
theorem dX0_runEndBits_11 : decode cX0_runEndBits 11 = .ok (.ixor, 1) := by decide +kernel
theorem dX0_runEndBits_12 : decode cX0_runEndBits 12 = .ok (.iand, 1) := by decide +kernel
theorem dX0_runEndBits_13 : decode cX0_runEndBits 13 = .ok (.ireturn, 1) := by decide +kernel
set_option maxRecDepth 20000 in
theorem ggX0_runEnds_X0_runEndBits : GoodIn wsX0_runEnds wsX0_runEndBits := goodIn_r _ [6, 7, 8, 9, 5, 10, 11, 19, 20, 21, 22, 23, 24] (by decide +kernel) (by decide +kernel)
set_option maxRecDepth 20000 in
theorem gX0_runEnds_X0_runEndBits : GoodIn wsX0_runEnds (wsV RX0 60 RX0 yX0_runEndBits wsX0_runEndBits) := goodIn_app (goodIn_of _ (by decide +kernel)) ggX0_runEnds_X0_runEndBits
set_option maxRecDepth 20000 in
theorem ggX0_runEnds_J6_bitCount_0f7a4 : GoodIn wsX0_runEnds wsJ6_bitCount_0f7a4 := goodIn_r _ [15, 16, 17, 18] (by decide +kernel) (by decide +kernel)
set_option maxRecDepth 20000 in
theorem gX0_runEnds_J6_bitCount_0f7a4 : GoodIn wsX0_runEnds (va_wsS RX0 55 yJ6_bitCount_0f7a4 wsJ6_bitCount_0f7a4) := goodIn_app (goodIn_of _ (by decide +kernel)) ggX0_runEnds_J6_bitCount_0f7a4
theorem dX0_runEnds_0 : decode cX0_runEnds 0 = .ok (.iconst 0, 1) := by decide +kernel
theorem dX0_runEnds_1 : decode cX0_runEnds 1 = .ok (.istore_n 1, 1) := by decide +kernel
theorem dX0_runEnds_2 : decode cX0_runEnds 2 = .ok (.iconst 0, 1) := by decide +kernel
theorem dX0_runEnds_3 : decode cX0_runEnds 3 = .ok (.istore_n 2, 1) := by decide +kernel
theorem dX0_runEnds_4 : decode cX0_runEnds 4 = .ok (.iload_n 2, 1) := by decide +kernel
theorem dX0_runEnds_5 : decode cX0_runEnds 5 = .ok (.aload_n 0, 1) := by decide +kernel
theorem dX0_runEnds_6 : decode cX0_runEnds 6 = .ok (.getfield 15, 3) := by decide +kernel
theorem dX0_runEnds_9 : decode cX0_runEnds 9 = .ok (.if_icmp .ge 20, 3) := by decide +kernel
theorem dX0_runEnds_12 : decode cX0_runEnds 12 = .ok (.iload_n 1, 1) := by decide +kernel
theorem dX0_runEnds_13 : decode cX0_runEnds 13 = .ok (.aload_n 0, 1) := by decide +kernel
theorem dX0_runEnds_14 : decode cX0_runEnds 14 = .ok (.iload_n 2, 1) := by decide +kernel
theorem dX0_runEnds_15 : decode cX0_runEnds 15 = .ok (.invokevirtual 60, 3) := by decide +kernel
theorem dX0_runEnds_18 : decode cX0_runEnds 18 = .ok (.invokestatic 55, 3) := by decide +kernel
theorem dX0_runEnds_21 : decode cX0_runEnds 21 = .ok (.iadd, 1) := by decide +kernel
theorem dX0_runEnds_22 : decode cX0_runEnds 22 = .ok (.istore_n 1, 1) := by decide +kernel
theorem dX0_runEnds_23 : decode cX0_runEnds 23 = .ok (.iinc 2 1, 3) := by decide +kernel
theorem dX0_runEnds_26 : decode cX0_runEnds 26 = .ok (.goto (-22), 3) := by decide +kernel
theorem dX0_runEnds_29 : decode cX0_runEnds 29 = .ok (.iload_n 1, 1) := by decide +kernel
theorem dX0_runEnds_30 : decode cX0_runEnds 30 = .ok (.ireturn, 1) := by decide +kernel
set_option maxRecDepth 20000 in
theorem ggX0_turnByShears_X0_shearAll : GoodIn wsX0_turnByShears wsX0_shearAll := goodIn_r _ [5, 6, 7, 8, 9, 10, 11, 12, 13, 14, 15, 16, 17, 18, 19, 20, 21, 22, 23, 24, 25, 26, 27, 4, 28, 29, 30, 31, 32, 33, 34, 35, 36, 37, 38, 39, 40, 41, 42, 43, 44, 45, 46, 47, 48, 49, 50, 51, 52, 53, 54, 55, 56, 57, 58, 59, 60, 61, 62, 63, 64, 65, 66, 67, 68, 69, 70, 71, 72, 73, 74, 75, 76, 77, 78, 79, 80, 81, 82] (by decide +kernel) (by decide +kernel)
set_option maxRecDepth 20000 in
theorem gX0_turnByShears_X0_shearAll : GoodIn wsX0_turnByShears (wsV RX0 63 RX0 yX0_shearAll wsX0_shearAll) := goodIn_app (goodIn_of _ (by decide +kernel)) ggX0_turnByShears_X0_shearAll
theorem dX0_turnByShears_0 : decode cX0_turnByShears 0 = .ok (.aload_n 0, 1) := by decide +kernel
theorem dX0_turnByShears_1 : decode cX0_turnByShears 1 = .ok (.iload_n 1, 1) := by decide +kernel
theorem dX0_turnByShears_2 : decode cX0_turnByShears 2 = .ok (.iconst 1, 1) := by decide +kernel
theorem dX0_turnByShears_3 : decode cX0_turnByShears 3 = .ok (.invokevirtual 63, 3) := by decide +kernel
theorem dX0_turnByShears_6 : decode cX0_turnByShears 6 = .ok (.return_, 1) := by decide +kernel
set_option maxRecDepth 20000 in
theorem ggX0_turnBackByShears_X0_shearAll : GoodIn wsX0_turnBackByShears wsX0_shearAll := goodIn_r _ [5, 6, 7, 8, 9, 10, 11, 12, 13, 14, 15, 16, 17, 18, 19, 20, 21, 22, 23, 24, 25, 26, 27, 4, 28, 29, 30, 31, 32, 33, 34, 35, 36, 37, 38, 39, 40, 41, 42, 43, 44, 45, 46, 47, 48, 49, 50, 51, 52, 53, 54, 55, 56, 57, 58, 59, 60, 61, 62, 63, 64, 65, 66, 67, 68, 69, 70, 71, 72, 73, 74, 75, 76, 77, 78, 79, 80, 81, 82] (by decide +kernel) (by decide +kernel)
set_option maxRecDepth 20000 in
theorem gX0_turnBackByShears_X0_shearAll : GoodIn wsX0_turnBackByShears (wsV RX0 63 RX0 yX0_shearAll wsX0_shearAll) := goodIn_app (goodIn_of _ (by decide +kernel)) ggX0_turnBackByShears_X0_shearAll
theorem dX0_turnBackByShears_0 : decode cX0_turnBackByShears 0 = .ok (.aload_n 0, 1) := by decide +kernel
theorem dX0_turnBackByShears_1 : decode cX0_turnBackByShears 1 = .ok (.iload_n 1, 1) := by decide +kernel
theorem dX0_turnBackByShears_2 : decode cX0_turnBackByShears 2 = .ok (.iconst (-1), 1) := by decide +kernel
theorem dX0_turnBackByShears_3 : decode cX0_turnBackByShears 3 = .ok (.invokevirtual 63, 3) := by decide +kernel
theorem dX0_turnBackByShears_6 : decode cX0_turnBackByShears 6 = .ok (.return_, 1) := by decide +kernel
set_option maxRecDepth 20000 in
theorem ggX0_shearAll_X1_slope : GoodIn wsX0_shearAll wsX1_slope := goodIn_r _ [5, 6, 7, 8, 9, 10, 4, 11, 12, 13] (by decide +kernel) (by decide +kernel)
set_option maxRecDepth 20000 in
theorem gX0_shearAll_X1_slope : GoodIn wsX0_shearAll (va_wsS RX0 66 yX1_slope wsX1_slope) := goodIn_app (goodIn_of _ (by decide +kernel)) ggX0_shearAll_X1_slope
set_option maxRecDepth 20000 in
theorem ggX0_shearAll_X1_sine : GoodIn wsX0_shearAll wsX1_sine := goodIn_r _ [16, 17, 18, 19, 9, 10, 4, 11, 12, 13] (by decide +kernel) (by decide +kernel)
set_option maxRecDepth 20000 in
theorem gX0_shearAll_X1_sine : GoodIn wsX0_shearAll (va_wsS RX0 72 yX1_sine wsX1_sine) := goodIn_app (goodIn_of _ (by decide +kernel)) ggX0_shearAll_X1_sine
set_option maxRecDepth 20000 in
theorem ggX0_shearAll_X0_shearRows : GoodIn wsX0_shearAll wsX0_shearRows := goodIn_r _ [24, 25, 26, 27, 28, 4, 29, 30, 31, 32, 33, 23, 34, 35, 36, 37, 38, 39, 40, 41, 42, 43, 44, 45, 46, 47, 48, 49, 50, 51, 52, 53, 54, 73, 74, 75, 76, 77, 78] (by decide +kernel) (by decide +kernel)
set_option maxRecDepth 20000 in
theorem gX0_shearAll_X0_shearRows : GoodIn wsX0_shearAll (wsV RX0 75 RX0 yX0_shearRows wsX0_shearRows) := goodIn_app (goodIn_of _ (by decide +kernel)) ggX0_shearAll_X0_shearRows
set_option maxRecDepth 20000 in
theorem ggX0_shearAll_X0_shearColumns : GoodIn wsX0_shearAll wsX0_shearColumns := goodIn_r _ [58, 40, 59, 25, 60, 61, 62, 23, 63, 64, 31, 32, 33, 34, 35, 65, 66, 67, 68, 51, 52, 53, 54, 27, 28, 4, 29, 30, 41, 42, 43, 44, 45, 46, 47, 69, 70, 71, 72, 73, 74, 75, 76, 77, 78] (by decide +kernel) (by decide +kernel)
set_option maxRecDepth 20000 in
theorem gX0_shearAll_X0_shearColumns : GoodIn wsX0_shearAll (wsV RX0 79 RX0 yX0_shearColumns wsX0_shearColumns) := goodIn_app (goodIn_of _ (by decide +kernel)) ggX0_shearAll_X0_shearColumns
theorem dX0_shearAll_0 : decode cX0_shearAll 0 = .ok (.iload_n 1, 1) := by decide +kernel
theorem dX0_shearAll_1 : decode cX0_shearAll 1 = .ok (.i2d, 1) := by decide +kernel
theorem dX0_shearAll_2 : decode cX0_shearAll 2 = .ok (.ldc2_w 18, 3) := by decide +kernel
theorem dX0_shearAll_5 : decode cX0_shearAll 5 = .ok (.ddiv, 1) := by decide +kernel
theorem dX0_shearAll_6 : decode cX0_shearAll 6 = .ok (.invokestatic 66, 3) := by decide +kernel
theorem dX0_shearAll_9 : decode cX0_shearAll 9 = .ok (.dstore_n 3, 1) := by decide +kernel
theorem dX0_shearAll_10 : decode cX0_shearAll 10 = .ok (.iload_n 1, 1) := by decide +kernel
theorem dX0_shearAll_11 : decode cX0_shearAll 11 = .ok (.i2d, 1) := by decide +kernel
theorem dX0_shearAll_12 : decode cX0_shearAll 12 = .ok (.invokestatic 72, 3) := by decide +kernel
theorem dX0_shearAll_15 : decode cX0_shearAll 15 = .ok (.dstore 5, 2) := by decide +kernel
theorem dX0_shearAll_17 : decode cX0_shearAll 17 = .ok (.aload_n 0, 1) := by decide +kernel
theorem dX0_shearAll_18 : decode cX0_shearAll 18 = .ok (.dload_n 3, 1) := by decide +kernel
theorem dX0_shearAll_19 : decode cX0_shearAll 19 = .ok (.iload_n 2, 1) := by decide +kernel
theorem dX0_shearAll_20 : decode cX0_shearAll 20 = .ok (.invokevirtual 75, 3) := by decide +kernel
theorem dX0_shearAll_23 : decode cX0_shearAll 23 = .ok (.aload_n 0, 1) := by decide +kernel
theorem dX0_shearAll_24 : decode cX0_shearAll 24 = .ok (.dload 5, 2) := by decide +kernel
theorem dX0_shearAll_26 : decode cX0_shearAll 26 = .ok (.iload_n 2, 1) := by decide +kernel
theorem dX0_shearAll_27 : decode cX0_shearAll 27 = .ok (.invokevirtual 79, 3) := by decide +kernel
theorem dX0_shearAll_30 : decode cX0_shearAll 30 = .ok (.aload_n 0, 1) := by decide +kernel
theorem dX0_shearAll_31 : decode cX0_shearAll 31 = .ok (.dload_n 3, 1) := by decide +kernel
theorem dX0_shearAll_32 : decode cX0_shearAll 32 = .ok (.iload_n 2, 1) := by decide +kernel
theorem dX0_shearAll_33 : decode cX0_shearAll 33 = .ok (.invokevirtual 75, 3) := by decide +kernel
theorem dX0_shearAll_36 : decode cX0_shearAll 36 = .ok (.return_, 1) := by decide +kernel
set_option maxRecDepth 20000 in
theorem ggX0_shearRows_X1_whole : GoodIn wsX0_shearRows wsX1_whole := goodIn_r _ [6, 7] (by decide +kernel) (by decide +kernel)
set_option maxRecDepth 20000 in
theorem gX0_shearRows_X1_whole : GoodIn wsX0_shearRows (va_wsS RX0 82 yX1_whole wsX1_whole) := goodIn_app (goodIn_of _ (by decide +kernel)) ggX0_shearRows_X1_whole
set_option maxRecDepth 20000 in
theorem ggX0_shearRows_X0_rowBits : GoodIn wsX0_shearRows wsX0_rowBits := goodIn_r _ [12, 13, 33, 34, 35, 36, 37, 38] (by decide +kernel) (by decide +kernel)
set_option maxRecDepth 20000 in
theorem gX0_shearRows_X0_rowBits : GoodIn wsX0_shearRows (wsV RX0 38 RX0 yX0_rowBits wsX0_rowBits) := goodIn_app (goodIn_of _ (by decide +kernel)) ggX0_shearRows_X0_rowBits
set_option maxRecDepth 20000 in
theorem ggX0_shearRows_X0_movedRight : GoodIn wsX0_shearRows wsX0_movedRight := goodIn_r _ [17, 18, 19, 20, 5, 21, 22, 23, 24, 25, 26, 27, 11, 28, 33, 34, 35, 36, 37, 38] (by decide +kernel) (by decide +kernel)
set_option maxRecDepth 20000 in
theorem gX0_shearRows_X0_movedRight : GoodIn wsX0_shearRows (wsV RX0 86 RX0 yX0_movedRight wsX0_movedRight) := goodIn_app (goodIn_of _ (by decide +kernel)) ggX0_shearRows_X0_movedRight
set_option maxRecDepth 20000 in
theorem ggX0_shearRows_X0_setRowBits : GoodIn wsX0_shearRows wsX0_setRowBits := goodIn_r _ [32, 13, 33, 34, 35, 36, 37, 38] (by decide +kernel) (by decide +kernel)
set_option maxRecDepth 20000 in
theorem gX0_shearRows_X0_setRowBits : GoodIn wsX0_shearRows (wsV RX0 51 RX0 yX0_setRowBits wsX0_setRowBits) := goodIn_app (goodIn_of _ (by decide +kernel)) ggX0_shearRows_X0_setRowBits
theorem dX0_shearRows_0 : decode cX0_shearRows 0 = .ok (.iconst 0, 1) := by decide +kernel
theorem dX0_shearRows_1 : decode cX0_shearRows 1 = .ok (.istore 4, 2) := by decide +kernel
theorem dX0_shearRows_3 : decode cX0_shearRows 3 = .ok (.iload 4, 2) := by decide +kernel
theorem dX0_shearRows_5 : decode cX0_shearRows 5 = .ok (.aload_n 0, 1) := by decide +kernel
theorem dX0_shearRows_6 : decode cX0_shearRows 6 = .ok (.getfield 15, 3) := by decide +kernel
theorem dX0_shearRows_9 : decode cX0_shearRows 9 = .ok (.if_icmp .ge 44, 3) := by decide +kernel
theorem dX0_shearRows_12 : decode cX0_shearRows 12 = .ok (.iload_n 3, 1) := by decide +kernel
theorem dX0_shearRows_13 : decode cX0_shearRows 13 = .ok (.aload_n 0, 1) := by decide +kernel
theorem dX0_shearRows_14 : decode cX0_shearRows 14 = .ok (.getfield 24, 3) := by decide +kernel
theorem dX0_shearRows_17 : decode cX0_shearRows 17 = .ok (.iload 4, 2) := by decide +kernel
theorem dX0_shearRows_19 : decode cX0_shearRows 19 = .ok (.i2d, 1) := by decide +kernel
theorem dX0_shearRows_20 : decode cX0_shearRows 20 = .ok (.dsub, 1) := by decide +kernel
theorem dX0_shearRows_21 : decode cX0_shearRows 21 = .ok (.dload_n 1, 1) := by decide +kernel
theorem dX0_shearRows_22 : decode cX0_shearRows 22 = .ok (.dmul, 1) := by decide +kernel
theorem dX0_shearRows_23 : decode cX0_shearRows 23 = .ok (.invokestatic 82, 3) := by decide +kernel
theorem dX0_shearRows_26 : decode cX0_shearRows 26 = .ok (.imul, 1) := by decide +kernel
theorem dX0_shearRows_27 : decode cX0_shearRows 27 = .ok (.istore 5, 2) := by decide +kernel
theorem dX0_shearRows_29 : decode cX0_shearRows 29 = .ok (.aload_n 0, 1) := by decide +kernel
theorem dX0_shearRows_30 : decode cX0_shearRows 30 = .ok (.iload 4, 2) := by decide +kernel
theorem dX0_shearRows_32 : decode cX0_shearRows 32 = .ok (.aload_n 0, 1) := by decide +kernel
theorem dX0_shearRows_33 : decode cX0_shearRows 33 = .ok (.aload_n 0, 1) := by decide +kernel
theorem dX0_shearRows_34 : decode cX0_shearRows 34 = .ok (.iload 4, 2) := by decide +kernel
theorem dX0_shearRows_36 : decode cX0_shearRows 36 = .ok (.invokevirtual 38, 3) := by decide +kernel
theorem dX0_shearRows_39 : decode cX0_shearRows 39 = .ok (.iload 5, 2) := by decide +kernel
theorem dX0_shearRows_41 : decode cX0_shearRows 41 = .ok (.invokevirtual 86, 3) := by decide +kernel
theorem dX0_shearRows_44 : decode cX0_shearRows 44 = .ok (.invokevirtual 51, 3) := by decide +kernel
theorem dX0_shearRows_47 : decode cX0_shearRows 47 = .ok (.iinc 4 1, 3) := by decide +kernel
theorem dX0_shearRows_50 : decode cX0_shearRows 50 = .ok (.goto (-47), 3) := by decide +kernel
theorem dX0_shearRows_53 : decode cX0_shearRows 53 = .ok (.return_, 1) := by decide +kernel
set_option maxRecDepth 20000 in
theorem ggX0_movedRight_X1_wrapped : GoodIn wsX0_movedRight wsX1_wrapped := goodIn_r _ [5, 6, 7, 8, 9] (by decide +kernel) (by decide +kernel)
set_option maxRecDepth 20000 in
theorem gX0_movedRight_X1_wrapped : GoodIn wsX0_movedRight (va_wsS RX0 89 yX1_wrapped wsX1_wrapped) := goodIn_app (goodIn_of _ (by decide +kernel)) ggX0_movedRight_X1_wrapped
set_option maxRecDepth 20000 in
theorem ggX0_movedRight_X0_bitsOf : GoodIn wsX0_movedRight wsX0_bitsOf := goodIn_r _ [13] (by decide +kernel) (by decide +kernel)
set_option maxRecDepth 20000 in
theorem gX0_movedRight_X0_bitsOf : GoodIn wsX0_movedRight (va_wsS RX0 48 yX0_bitsOf wsX0_bitsOf) := goodIn_app (goodIn_of _ (by decide +kernel)) ggX0_movedRight_X0_bitsOf
theorem dX0_movedRight_0 : decode cX0_movedRight 0 = .ok (.iload_n 2, 1) := by decide +kernel
theorem dX0_movedRight_1 : decode cX0_movedRight 1 = .ok (.aload_n 0, 1) := by decide +kernel
theorem dX0_movedRight_2 : decode cX0_movedRight 2 = .ok (.getfield 9, 3) := by decide +kernel
theorem dX0_movedRight_5 : decode cX0_movedRight 5 = .ok (.invokestatic 89, 3) := by decide +kernel
theorem dX0_movedRight_8 : decode cX0_movedRight 8 = .ok (.istore_n 3, 1) := by decide +kernel
theorem dX0_movedRight_9 : decode cX0_movedRight 9 = .ok (.iload_n 1, 1) := by decide +kernel
theorem dX0_movedRight_10 : decode cX0_movedRight 10 = .ok (.iload_n 3, 1) := by decide +kernel
theorem dX0_movedRight_11 : decode cX0_movedRight 11 = .ok (.ishl, 1) := by decide +kernel
theorem dX0_movedRight_12 : decode cX0_movedRight 12 = .ok (.iload_n 1, 1) := by decide +kernel
theorem dX0_movedRight_13 : decode cX0_movedRight 13 = .ok (.aload_n 0, 1) := by decide +kernel
theorem dX0_movedRight_14 : decode cX0_movedRight 14 = .ok (.getfield 9, 3) := by decide +kernel
theorem dX0_movedRight_17 : decode cX0_movedRight 17 = .ok (.iload_n 3, 1) := by decide +kernel
theorem dX0_movedRight_18 : decode cX0_movedRight 18 = .ok (.isub, 1) := by decide +kernel
theorem dX0_movedRight_19 : decode cX0_movedRight 19 = .ok (.iushr, 1) := by decide +kernel
theorem dX0_movedRight_20 : decode cX0_movedRight 20 = .ok (.ior, 1) := by decide +kernel
theorem dX0_movedRight_21 : decode cX0_movedRight 21 = .ok (.aload_n 0, 1) := by decide +kernel
theorem dX0_movedRight_22 : decode cX0_movedRight 22 = .ok (.getfield 9, 3) := by decide +kernel
theorem dX0_movedRight_25 : decode cX0_movedRight 25 = .ok (.invokestatic 48, 3) := by decide +kernel
theorem dX0_movedRight_28 : decode cX0_movedRight 28 = .ok (.iand, 1) := by decide +kernel
theorem dX0_movedRight_29 : decode cX0_movedRight 29 = .ok (.ireturn, 1) := by decide +kernel
set_option maxRecDepth 20000 in
theorem ggX0_shearColumns_X0_keepOldBits : GoodIn wsX0_shearColumns wsX0_keepOldBits := goodIn_r _ [8, 9, 10, 11, 12, 7, 13, 14, 39, 40, 41, 42, 43, 44] (by decide +kernel) (by decide +kernel)
set_option maxRecDepth 20000 in
theorem gX0_shearColumns_X0_keepOldBits : GoodIn wsX0_shearColumns (wsV RX0 92 RX0 yX0_keepOldBits wsX0_keepOldBits) := goodIn_app (goodIn_of _ (by decide +kernel)) ggX0_shearColumns_X0_keepOldBits
set_option maxRecDepth 20000 in
theorem ggX0_shearColumns_X0_wipe : GoodIn wsX0_shearColumns wsX0_wipe := goodIn_r _ [18, 3, 19, 20, 21, 7, 22, 14, 39, 40, 41, 42, 43, 44] (by decide +kernel) (by decide +kernel)
set_option maxRecDepth 20000 in
theorem gX0_shearColumns_X0_wipe : GoodIn wsX0_shearColumns (wsV RX0 95 RX0 yX0_wipe wsX0_wipe) := goodIn_app (goodIn_of _ (by decide +kernel)) ggX0_shearColumns_X0_wipe
set_option maxRecDepth 20000 in
theorem ggX0_shearColumns_X1_whole : GoodIn wsX0_shearColumns wsX1_whole := goodIn_r _ [26, 27] (by decide +kernel) (by decide +kernel)
set_option maxRecDepth 20000 in
theorem gX0_shearColumns_X1_whole : GoodIn wsX0_shearColumns (va_wsS RX0 82 yX1_whole wsX1_whole) := goodIn_app (goodIn_of _ (by decide +kernel)) ggX0_shearColumns_X1_whole
set_option maxRecDepth 20000 in
theorem ggX0_shearColumns_X1_wrapped : GoodIn wsX0_shearColumns wsX1_wrapped := goodIn_r _ [30, 31, 32, 33, 34] (by decide +kernel) (by decide +kernel)
set_option maxRecDepth 20000 in
theorem gX0_shearColumns_X1_wrapped : GoodIn wsX0_shearColumns (va_wsS RX0 89 yX1_wrapped wsX1_wrapped) := goodIn_app (goodIn_of _ (by decide +kernel)) ggX0_shearColumns_X1_wrapped
set_option maxRecDepth 20000 in
theorem ggX0_shearColumns_X0_rowBits : GoodIn wsX0_shearColumns wsX0_rowBits := goodIn_r _ [13, 14, 39, 40, 41, 42, 43, 44] (by decide +kernel) (by decide +kernel)
set_option maxRecDepth 20000 in
theorem gX0_shearColumns_X0_rowBits : GoodIn wsX0_shearColumns (wsV RX0 38 RX0 yX0_rowBits wsX0_rowBits) := goodIn_app (goodIn_of _ (by decide +kernel)) ggX0_shearColumns_X0_rowBits
set_option maxRecDepth 20000 in
theorem ggX0_shearColumns_X0_oldRowBits : GoodIn wsX0_shearColumns wsX0_oldRowBits := goodIn_r _ [38, 9, 39, 40, 41, 42, 43, 44] (by decide +kernel) (by decide +kernel)
set_option maxRecDepth 20000 in
theorem gX0_shearColumns_X0_oldRowBits : GoodIn wsX0_shearColumns (wsV RX0 98 RX0 yX0_oldRowBits wsX0_oldRowBits) := goodIn_app (goodIn_of _ (by decide +kernel)) ggX0_shearColumns_X0_oldRowBits
set_option maxRecDepth 20000 in
theorem ggX0_shearColumns_X0_setRowBits : GoodIn wsX0_shearColumns wsX0_setRowBits := goodIn_r _ [22, 14, 39, 40, 41, 42, 43, 44] (by decide +kernel) (by decide +kernel)
set_option maxRecDepth 20000 in
theorem gX0_shearColumns_X0_setRowBits : GoodIn wsX0_shearColumns (wsV RX0 51 RX0 yX0_setRowBits wsX0_setRowBits) := goodIn_app (goodIn_of _ (by decide +kernel)) ggX0_shearColumns_X0_setRowBits
theorem dX0_shearColumns_0 : decode cX0_shearColumns 0 = .ok (.aload_n 0, 1) := by decide +kernel
theorem dX0_shearColumns_1 : decode cX0_shearColumns 1 = .ok (.invokevirtual 92, 3) := by decide +kernel
theorem dX0_shearColumns_4 : decode cX0_shearColumns 4 = .ok (.aload_n 0, 1) := by decide +kernel
theorem dX0_shearColumns_5 : decode cX0_shearColumns 5 = .ok (.invokevirtual 95, 3) := by decide +kernel
theorem dX0_shearColumns_8 : decode cX0_shearColumns 8 = .ok (.iconst 0, 1) := by decide +kernel
theorem dX0_shearColumns_9 : decode cX0_shearColumns 9 = .ok (.istore 4, 2) := by decide +kernel
theorem dX0_shearColumns_11 : decode cX0_shearColumns 11 = .ok (.iload 4, 2) := by decide +kernel
theorem dX0_shearColumns_13 : decode cX0_shearColumns 13 = .ok (.aload_n 0, 1) := by decide +kernel
theorem dX0_shearColumns_14 : decode cX0_shearColumns 14 = .ok (.getfield 9, 3) := by decide +kernel
theorem dX0_shearColumns_17 : decode cX0_shearColumns 17 = .ok (.if_icmp .ge 82, 3) := by decide +kernel
theorem dX0_shearColumns_20 : decode cX0_shearColumns 20 = .ok (.iload_n 3, 1) := by decide +kernel
theorem dX0_shearColumns_21 : decode cX0_shearColumns 21 = .ok (.iload 4, 2) := by decide +kernel
theorem dX0_shearColumns_23 : decode cX0_shearColumns 23 = .ok (.i2d, 1) := by decide +kernel
theorem dX0_shearColumns_24 : decode cX0_shearColumns 24 = .ok (.aload_n 0, 1) := by decide +kernel
theorem dX0_shearColumns_25 : decode cX0_shearColumns 25 = .ok (.getfield 20, 3) := by decide +kernel
theorem dX0_shearColumns_28 : decode cX0_shearColumns 28 = .ok (.dsub, 1) := by decide +kernel
theorem dX0_shearColumns_29 : decode cX0_shearColumns 29 = .ok (.dload_n 1, 1) := by decide +kernel
theorem dX0_shearColumns_30 : decode cX0_shearColumns 30 = .ok (.dmul, 1) := by decide +kernel
theorem dX0_shearColumns_31 : decode cX0_shearColumns 31 = .ok (.invokestatic 82, 3) := by decide +kernel
theorem dX0_shearColumns_34 : decode cX0_shearColumns 34 = .ok (.imul, 1) := by decide +kernel
theorem dX0_shearColumns_35 : decode cX0_shearColumns 35 = .ok (.istore 5, 2) := by decide +kernel
theorem dX0_shearColumns_37 : decode cX0_shearColumns 37 = .ok (.iconst 0, 1) := by decide +kernel
theorem dX0_shearColumns_38 : decode cX0_shearColumns 38 = .ok (.istore 6, 2) := by decide +kernel
theorem dX0_shearColumns_40 : decode cX0_shearColumns 40 = .ok (.iload 6, 2) := by decide +kernel
theorem dX0_shearColumns_42 : decode cX0_shearColumns 42 = .ok (.aload_n 0, 1) := by decide +kernel
theorem dX0_shearColumns_43 : decode cX0_shearColumns 43 = .ok (.getfield 15, 3) := by decide +kernel
theorem dX0_shearColumns_46 : decode cX0_shearColumns 46 = .ok (.if_icmp .ge 47, 3) := by decide +kernel
theorem dX0_shearColumns_49 : decode cX0_shearColumns 49 = .ok (.iload 6, 2) := by decide +kernel
theorem dX0_shearColumns_51 : decode cX0_shearColumns 51 = .ok (.iload 5, 2) := by decide +kernel
theorem dX0_shearColumns_53 : decode cX0_shearColumns 53 = .ok (.iadd, 1) := by decide +kernel
theorem dX0_shearColumns_54 : decode cX0_shearColumns 54 = .ok (.aload_n 0, 1) := by decide +kernel
theorem dX0_shearColumns_55 : decode cX0_shearColumns 55 = .ok (.getfield 15, 3) := by decide +kernel
theorem dX0_shearColumns_58 : decode cX0_shearColumns 58 = .ok (.invokestatic 89, 3) := by decide +kernel
theorem dX0_shearColumns_61 : decode cX0_shearColumns 61 = .ok (.istore 7, 2) := by decide +kernel
theorem dX0_shearColumns_63 : decode cX0_shearColumns 63 = .ok (.aload_n 0, 1) := by decide +kernel
theorem dX0_shearColumns_64 : decode cX0_shearColumns 64 = .ok (.iload 7, 2) := by decide +kernel
theorem dX0_shearColumns_66 : decode cX0_shearColumns 66 = .ok (.aload_n 0, 1) := by decide +kernel
theorem dX0_shearColumns_67 : decode cX0_shearColumns 67 = .ok (.iload 7, 2) := by decide +kernel
theorem dX0_shearColumns_69 : decode cX0_shearColumns 69 = .ok (.invokevirtual 38, 3) := by decide +kernel
theorem dX0_shearColumns_72 : decode cX0_shearColumns 72 = .ok (.aload_n 0, 1) := by decide +kernel
theorem dX0_shearColumns_73 : decode cX0_shearColumns 73 = .ok (.iload 6, 2) := by decide +kernel
theorem dX0_shearColumns_75 : decode cX0_shearColumns 75 = .ok (.invokevirtual 98, 3) := by decide +kernel
theorem dX0_shearColumns_78 : decode cX0_shearColumns 78 = .ok (.iconst 1, 1) := by decide +kernel
theorem dX0_shearColumns_79 : decode cX0_shearColumns 79 = .ok (.iload 4, 2) := by decide +kernel
theorem dX0_shearColumns_81 : decode cX0_shearColumns 81 = .ok (.ishl, 1) := by decide +kernel
theorem dX0_shearColumns_82 : decode cX0_shearColumns 82 = .ok (.iand, 1) := by decide +kernel
theorem dX0_shearColumns_83 : decode cX0_shearColumns 83 = .ok (.ior, 1) := by decide +kernel
theorem dX0_shearColumns_84 : decode cX0_shearColumns 84 = .ok (.invokevirtual 51, 3) := by decide +kernel
theorem dX0_shearColumns_87 : decode cX0_shearColumns 87 = .ok (.iinc 6 1, 3) := by decide +kernel
theorem dX0_shearColumns_90 : decode cX0_shearColumns 90 = .ok (.goto (-50), 3) := by decide +kernel
theorem dX0_shearColumns_93 : decode cX0_shearColumns 93 = .ok (.iinc 4 1, 3) := by decide +kernel
theorem dX0_shearColumns_96 : decode cX0_shearColumns 96 = .ok (.goto (-85), 3) := by decide +kernel
theorem dX0_shearColumns_99 : decode cX0_shearColumns 99 = .ok (.return_, 1) := by decide +kernel
set_option maxRecDepth 20000 in
theorem ggX0_turnBySampling_X1_sine : GoodIn wsX0_turnBySampling wsX1_sine := goodIn_r _ [5, 6, 7, 8, 9, 10, 4, 11, 12, 13] (by decide +kernel) (by decide +kernel)
set_option maxRecDepth 20000 in
theorem gX0_turnBySampling_X1_sine : GoodIn wsX0_turnBySampling (va_wsS RX0 72 yX1_sine wsX1_sine) := goodIn_app (goodIn_of _ (by decide +kernel)) ggX0_turnBySampling_X1_sine
set_option maxRecDepth 20000 in
theorem ggX0_turnBySampling_X1_cosine : GoodIn wsX0_turnBySampling wsX1_cosine := goodIn_r _ [16, 17, 18, 19, 9, 10, 4, 11, 12, 13] (by decide +kernel) (by decide +kernel)
set_option maxRecDepth 20000 in
theorem gX0_turnBySampling_X1_cosine : GoodIn wsX0_turnBySampling (va_wsS RX0 101 yX1_cosine wsX1_cosine) := goodIn_app (goodIn_of _ (by decide +kernel)) ggX0_turnBySampling_X1_cosine
set_option maxRecDepth 20000 in
theorem ggX0_turnBySampling_X0_keepOldBits : GoodIn wsX0_turnBySampling wsX0_keepOldBits := goodIn_r _ [24, 25, 26, 27, 28, 23, 29, 30, 54, 55, 56, 57, 58, 59] (by decide +kernel) (by decide +kernel)
set_option maxRecDepth 20000 in
theorem gX0_turnBySampling_X0_keepOldBits : GoodIn wsX0_turnBySampling (wsV RX0 92 RX0 yX0_keepOldBits wsX0_keepOldBits) := goodIn_app (goodIn_of _ (by decide +kernel)) ggX0_turnBySampling_X0_keepOldBits
set_option maxRecDepth 20000 in
theorem ggX0_turnBySampling_X0_sampledRow : GoodIn wsX0_turnBySampling wsX0_sampledRow := goodIn_r _ [34, 35, 36, 37, 38, 39, 4, 40, 41, 42, 43, 44, 23, 45, 1, 46, 47, 48, 49, 25, 54, 55, 56, 57, 58, 59] (by decide +kernel) (by decide +kernel)
set_option maxRecDepth 20000 in
theorem gX0_turnBySampling_X0_sampledRow : GoodIn wsX0_turnBySampling (wsV RX0 104 RX0 yX0_sampledRow wsX0_sampledRow) := goodIn_app (goodIn_of _ (by decide +kernel)) ggX0_turnBySampling_X0_sampledRow
set_option maxRecDepth 20000 in
theorem ggX0_turnBySampling_X0_setRowBits : GoodIn wsX0_turnBySampling wsX0_setRowBits := goodIn_r _ [53, 30, 54, 55, 56, 57, 58, 59] (by decide +kernel) (by decide +kernel)
set_option maxRecDepth 20000 in
theorem gX0_turnBySampling_X0_setRowBits : GoodIn wsX0_turnBySampling (wsV RX0 51 RX0 yX0_setRowBits wsX0_setRowBits) := goodIn_app (goodIn_of _ (by decide +kernel)) ggX0_turnBySampling_X0_setRowBits
theorem dX0_turnBySampling_0 : decode cX0_turnBySampling 0 = .ok (.iload_n 1, 1) := by decide +kernel
theorem dX0_turnBySampling_1 : decode cX0_turnBySampling 1 = .ok (.i2d, 1) := by decide +kernel
theorem dX0_turnBySampling_2 : decode cX0_turnBySampling 2 = .ok (.invokestatic 72, 3) := by decide +kernel
theorem dX0_turnBySampling_5 : decode cX0_turnBySampling 5 = .ok (.dstore_n 2, 1) := by decide +kernel
theorem dX0_turnBySampling_6 : decode cX0_turnBySampling 6 = .ok (.iload_n 1, 1) := by decide +kernel
theorem dX0_turnBySampling_7 : decode cX0_turnBySampling 7 = .ok (.i2d, 1) := by decide +kernel
theorem dX0_turnBySampling_8 : decode cX0_turnBySampling 8 = .ok (.invokestatic 101, 3) := by decide +kernel
theorem dX0_turnBySampling_11 : decode cX0_turnBySampling 11 = .ok (.dstore 4, 2) := by decide +kernel
theorem dX0_turnBySampling_13 : decode cX0_turnBySampling 13 = .ok (.aload_n 0, 1) := by decide +kernel
theorem dX0_turnBySampling_14 : decode cX0_turnBySampling 14 = .ok (.invokevirtual 92, 3) := by decide +kernel
theorem dX0_turnBySampling_17 : decode cX0_turnBySampling 17 = .ok (.iconst 0, 1) := by decide +kernel
theorem dX0_turnBySampling_18 : decode cX0_turnBySampling 18 = .ok (.istore 6, 2) := by decide +kernel
theorem dX0_turnBySampling_20 : decode cX0_turnBySampling 20 = .ok (.iload 6, 2) := by decide +kernel
theorem dX0_turnBySampling_22 : decode cX0_turnBySampling 22 = .ok (.aload_n 0, 1) := by decide +kernel
theorem dX0_turnBySampling_23 : decode cX0_turnBySampling 23 = .ok (.getfield 15, 3) := by decide +kernel
theorem dX0_turnBySampling_26 : decode cX0_turnBySampling 26 = .ok (.if_icmp .ge 24, 3) := by decide +kernel
theorem dX0_turnBySampling_29 : decode cX0_turnBySampling 29 = .ok (.aload_n 0, 1) := by decide +kernel
theorem dX0_turnBySampling_30 : decode cX0_turnBySampling 30 = .ok (.iload 6, 2) := by decide +kernel
theorem dX0_turnBySampling_32 : decode cX0_turnBySampling 32 = .ok (.aload_n 0, 1) := by decide +kernel
theorem dX0_turnBySampling_33 : decode cX0_turnBySampling 33 = .ok (.iload 6, 2) := by decide +kernel
theorem dX0_turnBySampling_35 : decode cX0_turnBySampling 35 = .ok (.dload_n 2, 1) := by decide +kernel
theorem dX0_turnBySampling_36 : decode cX0_turnBySampling 36 = .ok (.dload 4, 2) := by decide +kernel
theorem dX0_turnBySampling_38 : decode cX0_turnBySampling 38 = .ok (.invokevirtual 104, 3) := by decide +kernel
theorem dX0_turnBySampling_41 : decode cX0_turnBySampling 41 = .ok (.invokevirtual 51, 3) := by decide +kernel
theorem dX0_turnBySampling_44 : decode cX0_turnBySampling 44 = .ok (.iinc 6 1, 3) := by decide +kernel
theorem dX0_turnBySampling_47 : decode cX0_turnBySampling 47 = .ok (.goto (-27), 3) := by decide +kernel
theorem dX0_turnBySampling_50 : decode cX0_turnBySampling 50 = .ok (.return_, 1) := by decide +kernel
set_option maxRecDepth 20000 in
theorem ggX0_sampledRow_X1_whole : GoodIn wsX0_sampledRow wsX1_whole := goodIn_r _ [7, 8] (by decide +kernel) (by decide +kernel)
set_option maxRecDepth 20000 in
theorem gX0_sampledRow_X1_whole : GoodIn wsX0_sampledRow (va_wsS RX0 82 yX1_whole wsX1_whole) := goodIn_app (goodIn_of _ (by decide +kernel)) ggX0_sampledRow_X1_whole
set_option maxRecDepth 20000 in
theorem ggX0_sampledRow_X0_has : GoodIn wsX0_sampledRow wsX0_has := goodIn_r _ [13, 1, 14, 20, 21, 22, 23, 24, 25] (by decide +kernel) (by decide +kernel)
set_option maxRecDepth 20000 in
theorem gX0_sampledRow_X0_has : GoodIn wsX0_sampledRow (wsV RX0 34 RX0 yX0_has wsX0_has) := goodIn_app (goodIn_of _ (by decide +kernel)) ggX0_sampledRow_X0_has
set_option maxRecDepth 20000 in
theorem ggX0_sampledRow_X0_oldRowBits : GoodIn wsX0_sampledRow wsX0_oldRowBits := goodIn_r _ [18, 19, 20, 21, 22, 23, 24, 25] (by decide +kernel) (by decide +kernel)
set_option maxRecDepth 20000 in
theorem gX0_sampledRow_X0_oldRowBits : GoodIn wsX0_sampledRow (wsV RX0 98 RX0 yX0_oldRowBits wsX0_oldRowBits) := goodIn_app (goodIn_of _ (by decide +kernel)) ggX0_sampledRow_X0_oldRowBits
theorem dX0_sampledRow_0 : decode cX0_sampledRow 0 = .ok (.iconst 0, 1) := by decide +kernel
theorem dX0_sampledRow_1 : decode cX0_sampledRow 1 = .ok (.istore 6, 2) := by decide +kernel
theorem dX0_sampledRow_3 : decode cX0_sampledRow 3 = .ok (.iconst 0, 1) := by decide +kernel
theorem dX0_sampledRow_4 : decode cX0_sampledRow 4 = .ok (.istore 7, 2) := by decide +kernel
theorem dX0_sampledRow_6 : decode cX0_sampledRow 6 = .ok (.iload 7, 2) := by decide +kernel
theorem dX0_sampledRow_8 : decode cX0_sampledRow 8 = .ok (.aload_n 0, 1) := by decide +kernel
theorem dX0_sampledRow_9 : decode cX0_sampledRow 9 = .ok (.getfield 9, 3) := by decide +kernel
theorem dX0_sampledRow_12 : decode cX0_sampledRow 12 = .ok (.if_icmp .ge 105, 3) := by decide +kernel
theorem dX0_sampledRow_15 : decode cX0_sampledRow 15 = .ok (.aload_n 0, 1) := by decide +kernel
theorem dX0_sampledRow_16 : decode cX0_sampledRow 16 = .ok (.getfield 20, 3) := by decide +kernel
theorem dX0_sampledRow_19 : decode cX0_sampledRow 19 = .ok (.iload 7, 2) := by decide +kernel
theorem dX0_sampledRow_21 : decode cX0_sampledRow 21 = .ok (.i2d, 1) := by decide +kernel
theorem dX0_sampledRow_22 : decode cX0_sampledRow 22 = .ok (.aload_n 0, 1) := by decide +kernel
theorem dX0_sampledRow_23 : decode cX0_sampledRow 23 = .ok (.getfield 20, 3) := by decide +kernel
theorem dX0_sampledRow_26 : decode cX0_sampledRow 26 = .ok (.dsub, 1) := by decide +kernel
theorem dX0_sampledRow_27 : decode cX0_sampledRow 27 = .ok (.dload 4, 2) := by decide +kernel
theorem dX0_sampledRow_29 : decode cX0_sampledRow 29 = .ok (.dmul, 1) := by decide +kernel
theorem dX0_sampledRow_30 : decode cX0_sampledRow 30 = .ok (.dadd, 1) := by decide +kernel
theorem dX0_sampledRow_31 : decode cX0_sampledRow 31 = .ok (.iload_n 1, 1) := by decide +kernel
theorem dX0_sampledRow_32 : decode cX0_sampledRow 32 = .ok (.i2d, 1) := by decide +kernel
theorem dX0_sampledRow_33 : decode cX0_sampledRow 33 = .ok (.aload_n 0, 1) := by decide +kernel
theorem dX0_sampledRow_34 : decode cX0_sampledRow 34 = .ok (.getfield 24, 3) := by decide +kernel
theorem dX0_sampledRow_37 : decode cX0_sampledRow 37 = .ok (.dsub, 1) := by decide +kernel
theorem dX0_sampledRow_38 : decode cX0_sampledRow 38 = .ok (.dload_n 2, 1) := by decide +kernel
theorem dX0_sampledRow_39 : decode cX0_sampledRow 39 = .ok (.dmul, 1) := by decide +kernel
theorem dX0_sampledRow_40 : decode cX0_sampledRow 40 = .ok (.dadd, 1) := by decide +kernel
theorem dX0_sampledRow_41 : decode cX0_sampledRow 41 = .ok (.invokestatic 82, 3) := by decide +kernel
theorem dX0_sampledRow_44 : decode cX0_sampledRow 44 = .ok (.istore 8, 2) := by decide +kernel
theorem dX0_sampledRow_46 : decode cX0_sampledRow 46 = .ok (.aload_n 0, 1) := by decide +kernel
theorem dX0_sampledRow_47 : decode cX0_sampledRow 47 = .ok (.getfield 24, 3) := by decide +kernel
theorem dX0_sampledRow_50 : decode cX0_sampledRow 50 = .ok (.iload 7, 2) := by decide +kernel
theorem dX0_sampledRow_52 : decode cX0_sampledRow 52 = .ok (.i2d, 1) := by decide +kernel
theorem dX0_sampledRow_53 : decode cX0_sampledRow 53 = .ok (.aload_n 0, 1) := by decide +kernel
theorem dX0_sampledRow_54 : decode cX0_sampledRow 54 = .ok (.getfield 20, 3) := by decide +kernel
theorem dX0_sampledRow_57 : decode cX0_sampledRow 57 = .ok (.dsub, 1) := by decide +kernel
theorem dX0_sampledRow_58 : decode cX0_sampledRow 58 = .ok (.dload_n 2, 1) := by decide +kernel
theorem dX0_sampledRow_59 : decode cX0_sampledRow 59 = .ok (.dmul, 1) := by decide +kernel
theorem dX0_sampledRow_60 : decode cX0_sampledRow 60 = .ok (.dsub, 1) := by decide +kernel
theorem dX0_sampledRow_61 : decode cX0_sampledRow 61 = .ok (.iload_n 1, 1) := by decide +kernel
theorem dX0_sampledRow_62 : decode cX0_sampledRow 62 = .ok (.i2d, 1) := by decide +kernel
theorem dX0_sampledRow_63 : decode cX0_sampledRow 63 = .ok (.aload_n 0, 1) := by decide +kernel
theorem dX0_sampledRow_64 : decode cX0_sampledRow 64 = .ok (.getfield 24, 3) := by decide +kernel
theorem dX0_sampledRow_67 : decode cX0_sampledRow 67 = .ok (.dsub, 1) := by decide +kernel
theorem dX0_sampledRow_68 : decode cX0_sampledRow 68 = .ok (.dload 4, 2) := by decide +kernel
theorem dX0_sampledRow_70 : decode cX0_sampledRow 70 = .ok (.dmul, 1) := by decide +kernel
theorem dX0_sampledRow_71 : decode cX0_sampledRow 71 = .ok (.dadd, 1) := by decide +kernel
theorem dX0_sampledRow_72 : decode cX0_sampledRow 72 = .ok (.invokestatic 82, 3) := by decide +kernel
theorem dX0_sampledRow_75 : decode cX0_sampledRow 75 = .ok (.istore 9, 2) := by decide +kernel
theorem dX0_sampledRow_77 : decode cX0_sampledRow 77 = .ok (.aload_n 0, 1) := by decide +kernel
theorem dX0_sampledRow_78 : decode cX0_sampledRow 78 = .ok (.iload 8, 2) := by decide +kernel
theorem dX0_sampledRow_80 : decode cX0_sampledRow 80 = .ok (.iload 9, 2) := by decide +kernel
theorem dX0_sampledRow_82 : decode cX0_sampledRow 82 = .ok (.invokevirtual 34, 3) := by decide +kernel
theorem dX0_sampledRow_85 : decode cX0_sampledRow 85 = .ok (.ifCond .eq 26, 3) := by decide +kernel
theorem dX0_sampledRow_88 : decode cX0_sampledRow 88 = .ok (.aload_n 0, 1) := by decide +kernel
theorem dX0_sampledRow_89 : decode cX0_sampledRow 89 = .ok (.iload 9, 2) := by decide +kernel
theorem dX0_sampledRow_91 : decode cX0_sampledRow 91 = .ok (.invokevirtual 98, 3) := by decide +kernel
theorem dX0_sampledRow_94 : decode cX0_sampledRow 94 = .ok (.iload 8, 2) := by decide +kernel
theorem dX0_sampledRow_96 : decode cX0_sampledRow 96 = .ok (.iushr, 1) := by decide +kernel
theorem dX0_sampledRow_97 : decode cX0_sampledRow 97 = .ok (.iconst 1, 1) := by decide +kernel
theorem dX0_sampledRow_98 : decode cX0_sampledRow 98 = .ok (.iand, 1) := by decide +kernel
theorem dX0_sampledRow_99 : decode cX0_sampledRow 99 = .ok (.ifCond .eq 12, 3) := by decide +kernel
theorem dX0_sampledRow_102 : decode cX0_sampledRow 102 = .ok (.iload 6, 2) := by decide +kernel
theorem dX0_sampledRow_104 : decode cX0_sampledRow 104 = .ok (.iconst 1, 1) := by decide +kernel
theorem dX0_sampledRow_105 : decode cX0_sampledRow 105 = .ok (.iload 7, 2) := by decide +kernel
theorem dX0_sampledRow_107 : decode cX0_sampledRow 107 = .ok (.ishl, 1) := by decide +kernel
theorem dX0_sampledRow_108 : decode cX0_sampledRow 108 = .ok (.ior, 1) := by decide +kernel
theorem dX0_sampledRow_109 : decode cX0_sampledRow 109 = .ok (.istore 6, 2) := by decide +kernel
theorem dX0_sampledRow_111 : decode cX0_sampledRow 111 = .ok (.iinc 7 1, 3) := by decide +kernel
theorem dX0_sampledRow_114 : decode cX0_sampledRow 114 = .ok (.goto (-108), 3) := by decide +kernel
theorem dX0_sampledRow_117 : decode cX0_sampledRow 117 = .ok (.iload 6, 2) := by decide +kernel
theorem dX0_sampledRow_119 : decode cX0_sampledRow 119 = .ok (.ireturn, 1) := by decide +kernel
set_option maxRecDepth 20000 in
theorem ggX0_keepOldBits_X0_rowBits : GoodIn wsX0_keepOldBits wsX0_rowBits := goodIn_r _ [6, 7, 8, 9, 10, 11, 12, 13] (by decide +kernel) (by decide +kernel)
set_option maxRecDepth 20000 in
theorem gX0_keepOldBits_X0_rowBits : GoodIn wsX0_keepOldBits (wsV RX0 38 RX0 yX0_rowBits wsX0_rowBits) := goodIn_app (goodIn_of _ (by decide +kernel)) ggX0_keepOldBits_X0_rowBits
theorem dX0_keepOldBits_0 : decode cX0_keepOldBits 0 = .ok (.iconst 0, 1) := by decide +kernel
theorem dX0_keepOldBits_1 : decode cX0_keepOldBits 1 = .ok (.istore_n 1, 1) := by decide +kernel
theorem dX0_keepOldBits_2 : decode cX0_keepOldBits 2 = .ok (.iload_n 1, 1) := by decide +kernel
theorem dX0_keepOldBits_3 : decode cX0_keepOldBits 3 = .ok (.aload_n 0, 1) := by decide +kernel
theorem dX0_keepOldBits_4 : decode cX0_keepOldBits 4 = .ok (.getfield 31, 3) := by decide +kernel
theorem dX0_keepOldBits_7 : decode cX0_keepOldBits 7 = .ok (.arraylength, 1) := by decide +kernel
theorem dX0_keepOldBits_8 : decode cX0_keepOldBits 8 = .ok (.if_icmp .ge 20, 3) := by decide +kernel
theorem dX0_keepOldBits_11 : decode cX0_keepOldBits 11 = .ok (.aload_n 0, 1) := by decide +kernel
theorem dX0_keepOldBits_12 : decode cX0_keepOldBits 12 = .ok (.getfield 31, 3) := by decide +kernel
theorem dX0_keepOldBits_15 : decode cX0_keepOldBits 15 = .ok (.iload_n 1, 1) := by decide +kernel
theorem dX0_keepOldBits_16 : decode cX0_keepOldBits 16 = .ok (.aload_n 0, 1) := by decide +kernel
theorem dX0_keepOldBits_17 : decode cX0_keepOldBits 17 = .ok (.iload_n 1, 1) := by decide +kernel
theorem dX0_keepOldBits_18 : decode cX0_keepOldBits 18 = .ok (.invokevirtual 38, 3) := by decide +kernel
theorem dX0_keepOldBits_21 : decode cX0_keepOldBits 21 = .ok (.iastore, 1) := by decide +kernel
theorem dX0_keepOldBits_22 : decode cX0_keepOldBits 22 = .ok (.iinc 1 1, 3) := by decide +kernel
theorem dX0_keepOldBits_25 : decode cX0_keepOldBits 25 = .ok (.goto (-23), 3) := by decide +kernel
theorem dX0_keepOldBits_28 : decode cX0_keepOldBits 28 = .ok (.return_, 1) := by decide +kernel
theorem dX0_bitsOf_0 : decode cX0_bitsOf 0 = .ok (.iconst 1, 1) := by decide +kernel
theorem dX0_bitsOf_1 : decode cX0_bitsOf 1 = .ok (.iload_n 0, 1) := by decide +kernel
theorem dX0_bitsOf_2 : decode cX0_bitsOf 2 = .ok (.ishl, 1) := by decide +kernel
theorem dX0_bitsOf_3 : decode cX0_bitsOf 3 = .ok (.iconst 1, 1) := by decide +kernel
theorem dX0_bitsOf_4 : decode cX0_bitsOf 4 = .ok (.isub, 1) := by decide +kernel
theorem dX0_bitsOf_5 : decode cX0_bitsOf 5 = .ok (.ireturn, 1) := by decide +kernel
theorem dX1_radians_0 : decode cX1_radians 0 = .ok (.dload_n 0, 1) := by decide +kernel
theorem dX1_radians_1 : decode cX1_radians 1 = .ok (.ldc2_w 7, 3) := by decide +kernel
theorem dX1_radians_4 : decode cX1_radians 4 = .ok (.dmul, 1) := by decide +kernel
theorem dX1_radians_5 : decode cX1_radians 5 = .ok (.ldc2_w 9, 3) := by decide +kernel
theorem dX1_radians_8 : decode cX1_radians 8 = .ok (.ddiv, 1) := by decide +kernel
theorem dX1_radians_9 : decode cX1_radians 9 = .ok (.dreturn, 1) := by decide +kernel
set_option maxRecDepth 20000 in
theorem ggX1_slope_X1_radians : GoodIn wsX1_slope wsX1_radians := goodIn_r _ [7, 8, 9] (by decide +kernel) (by decide +kernel)
set_option maxRecDepth 20000 in
theorem gX1_slope_X1_radians : GoodIn wsX1_slope (va_wsS RX1 11 yX1_radians wsX1_radians) := goodIn_app (goodIn_of _ (by decide +kernel)) ggX1_slope_X1_radians
theorem dX1_slope_0 : decode cX1_slope 0 = .ok (.dload_n 0, 1) := by decide +kernel
theorem dX1_slope_1 : decode cX1_slope 1 = .ok (.invokestatic 11, 3) := by decide +kernel
theorem dX1_slope_4 : decode cX1_slope 4 = .ok (.dstore_n 2, 1) := by decide +kernel
theorem dX1_slope_5 : decode cX1_slope 5 = .ok (.dload_n 2, 1) := by decide +kernel
theorem dX1_slope_6 : decode cX1_slope 6 = .ok (.dload_n 2, 1) := by decide +kernel
theorem dX1_slope_7 : decode cX1_slope 7 = .ok (.dmul, 1) := by decide +kernel
theorem dX1_slope_8 : decode cX1_slope 8 = .ok (.dstore 4, 2) := by decide +kernel
theorem dX1_slope_10 : decode cX1_slope 10 = .ok (.dload_n 2, 1) := by decide +kernel
theorem dX1_slope_11 : decode cX1_slope 11 = .ok (.dconst 1, 1) := by decide +kernel
theorem dX1_slope_12 : decode cX1_slope 12 = .ok (.dload 4, 2) := by decide +kernel
theorem dX1_slope_14 : decode cX1_slope 14 = .ok (.ldc2_w 17, 3) := by decide +kernel
theorem dX1_slope_17 : decode cX1_slope 17 = .ok (.dload 4, 2) := by decide +kernel
theorem dX1_slope_19 : decode cX1_slope 19 = .ok (.ldc2_w 19, 3) := by decide +kernel
theorem dX1_slope_22 : decode cX1_slope 22 = .ok (.dload 4, 2) := by decide +kernel
theorem dX1_slope_24 : decode cX1_slope 24 = .ok (.ldc2_w 21, 3) := by decide +kernel
theorem dX1_slope_27 : decode cX1_slope 27 = .ok (.dmul, 1) := by decide +kernel
theorem dX1_slope_28 : decode cX1_slope 28 = .ok (.dadd, 1) := by decide +kernel
theorem dX1_slope_29 : decode cX1_slope 29 = .ok (.dmul, 1) := by decide +kernel
theorem dX1_slope_30 : decode cX1_slope 30 = .ok (.dadd, 1) := by decide +kernel
theorem dX1_slope_31 : decode cX1_slope 31 = .ok (.dmul, 1) := by decide +kernel
theorem dX1_slope_32 : decode cX1_slope 32 = .ok (.dadd, 1) := by decide +kernel
theorem dX1_slope_33 : decode cX1_slope 33 = .ok (.dmul, 1) := by decide +kernel
theorem dX1_slope_34 : decode cX1_slope 34 = .ok (.dreturn, 1) := by decide +kernel
set_option maxRecDepth 20000 in
theorem ggX1_sine_X1_radians : GoodIn wsX1_sine wsX1_radians := goodIn_r _ [7, 8, 9] (by decide +kernel) (by decide +kernel)
set_option maxRecDepth 20000 in
theorem gX1_sine_X1_radians : GoodIn wsX1_sine (va_wsS RX1 11 yX1_radians wsX1_radians) := goodIn_app (goodIn_of _ (by decide +kernel)) ggX1_sine_X1_radians
theorem dX1_sine_0 : decode cX1_sine 0 = .ok (.dload_n 0, 1) := by decide +kernel
theorem dX1_sine_1 : decode cX1_sine 1 = .ok (.invokestatic 11, 3) := by decide +kernel
theorem dX1_sine_4 : decode cX1_sine 4 = .ok (.dstore_n 2, 1) := by decide +kernel
theorem dX1_sine_5 : decode cX1_sine 5 = .ok (.dload_n 2, 1) := by decide +kernel
theorem dX1_sine_6 : decode cX1_sine 6 = .ok (.dload_n 2, 1) := by decide +kernel
theorem dX1_sine_7 : decode cX1_sine 7 = .ok (.dmul, 1) := by decide +kernel
theorem dX1_sine_8 : decode cX1_sine 8 = .ok (.dstore 4, 2) := by decide +kernel
theorem dX1_sine_10 : decode cX1_sine 10 = .ok (.dload_n 2, 1) := by decide +kernel
theorem dX1_sine_11 : decode cX1_sine 11 = .ok (.dconst 1, 1) := by decide +kernel
theorem dX1_sine_12 : decode cX1_sine 12 = .ok (.dload 4, 2) := by decide +kernel
theorem dX1_sine_14 : decode cX1_sine 14 = .ok (.ldc2_w 23, 3) := by decide +kernel
theorem dX1_sine_17 : decode cX1_sine 17 = .ok (.dload 4, 2) := by decide +kernel
theorem dX1_sine_19 : decode cX1_sine 19 = .ok (.ldc2_w 25, 3) := by decide +kernel
theorem dX1_sine_22 : decode cX1_sine 22 = .ok (.dload 4, 2) := by decide +kernel
theorem dX1_sine_24 : decode cX1_sine 24 = .ok (.ldc2_w 27, 3) := by decide +kernel
theorem dX1_sine_27 : decode cX1_sine 27 = .ok (.dmul, 1) := by decide +kernel
theorem dX1_sine_28 : decode cX1_sine 28 = .ok (.dadd, 1) := by decide +kernel
theorem dX1_sine_29 : decode cX1_sine 29 = .ok (.dmul, 1) := by decide +kernel
theorem dX1_sine_30 : decode cX1_sine 30 = .ok (.dadd, 1) := by decide +kernel
theorem dX1_sine_31 : decode cX1_sine 31 = .ok (.dmul, 1) := by decide +kernel
theorem dX1_sine_32 : decode cX1_sine 32 = .ok (.dadd, 1) := by decide +kernel
theorem dX1_sine_33 : decode cX1_sine 33 = .ok (.dmul, 1) := by decide +kernel
theorem dX1_sine_34 : decode cX1_sine 34 = .ok (.dreturn, 1) := by decide +kernel
set_option maxRecDepth 20000 in
theorem ggX1_cosine_X1_radians : GoodIn wsX1_cosine wsX1_radians := goodIn_r _ [7, 8, 9] (by decide +kernel) (by decide +kernel)
set_option maxRecDepth 20000 in
theorem gX1_cosine_X1_radians : GoodIn wsX1_cosine (va_wsS RX1 11 yX1_radians wsX1_radians) := goodIn_app (goodIn_of _ (by decide +kernel)) ggX1_cosine_X1_radians
theorem dX1_cosine_0 : decode cX1_cosine 0 = .ok (.dload_n 0, 1) := by decide +kernel
theorem dX1_cosine_1 : decode cX1_cosine 1 = .ok (.invokestatic 11, 3) := by decide +kernel
theorem dX1_cosine_4 : decode cX1_cosine 4 = .ok (.dstore_n 2, 1) := by decide +kernel
theorem dX1_cosine_5 : decode cX1_cosine 5 = .ok (.dload_n 2, 1) := by decide +kernel
theorem dX1_cosine_6 : decode cX1_cosine 6 = .ok (.dload_n 2, 1) := by decide +kernel
theorem dX1_cosine_7 : decode cX1_cosine 7 = .ok (.dmul, 1) := by decide +kernel
theorem dX1_cosine_8 : decode cX1_cosine 8 = .ok (.dstore 4, 2) := by decide +kernel
theorem dX1_cosine_10 : decode cX1_cosine 10 = .ok (.dconst 1, 1) := by decide +kernel
theorem dX1_cosine_11 : decode cX1_cosine 11 = .ok (.dload 4, 2) := by decide +kernel
theorem dX1_cosine_13 : decode cX1_cosine 13 = .ok (.ldc2_w 29, 3) := by decide +kernel
theorem dX1_cosine_16 : decode cX1_cosine 16 = .ok (.dload 4, 2) := by decide +kernel
theorem dX1_cosine_18 : decode cX1_cosine 18 = .ok (.ldc2_w 31, 3) := by decide +kernel
theorem dX1_cosine_21 : decode cX1_cosine 21 = .ok (.dload 4, 2) := by decide +kernel
theorem dX1_cosine_23 : decode cX1_cosine 23 = .ok (.ldc2_w 33, 3) := by decide +kernel
theorem dX1_cosine_26 : decode cX1_cosine 26 = .ok (.dmul, 1) := by decide +kernel
theorem dX1_cosine_27 : decode cX1_cosine 27 = .ok (.dadd, 1) := by decide +kernel
theorem dX1_cosine_28 : decode cX1_cosine 28 = .ok (.dmul, 1) := by decide +kernel
theorem dX1_cosine_29 : decode cX1_cosine 29 = .ok (.dadd, 1) := by decide +kernel
theorem dX1_cosine_30 : decode cX1_cosine 30 = .ok (.dmul, 1) := by decide +kernel
theorem dX1_cosine_31 : decode cX1_cosine 31 = .ok (.dadd, 1) := by decide +kernel
theorem dX1_cosine_32 : decode cX1_cosine 32 = .ok (.dreturn, 1) := by decide +kernel
theorem dX1_whole_0 : decode cX1_whole 0 = .ok (.dload_n 0, 1) := by decide +kernel
theorem dX1_whole_1 : decode cX1_whole 1 = .ok (.ldc2_w 35, 3) := by decide +kernel
theorem dX1_whole_4 : decode cX1_whole 4 = .ok (.dadd, 1) := by decide +kernel
theorem dX1_whole_5 : decode cX1_whole 5 = .ok (.dstore_n 2, 1) := by decide +kernel
theorem dX1_whole_6 : decode cX1_whole 6 = .ok (.dload_n 2, 1) := by decide +kernel
theorem dX1_whole_7 : decode cX1_whole 7 = .ok (.d2i, 1) := by decide +kernel
theorem dX1_whole_8 : decode cX1_whole 8 = .ok (.istore 4, 2) := by decide +kernel
theorem dX1_whole_10 : decode cX1_whole 10 = .ok (.iload 4, 2) := by decide +kernel
theorem dX1_whole_12 : decode cX1_whole 12 = .ok (.i2d, 1) := by decide +kernel
theorem dX1_whole_13 : decode cX1_whole 13 = .ok (.dload_n 2, 1) := by decide +kernel
theorem dX1_whole_14 : decode cX1_whole 14 = .ok (.dcmp .l, 1) := by decide +kernel
theorem dX1_whole_15 : decode cX1_whole 15 = .ok (.ifCond .le 10, 3) := by decide +kernel
theorem dX1_whole_18 : decode cX1_whole 18 = .ok (.iload 4, 2) := by decide +kernel
theorem dX1_whole_20 : decode cX1_whole 20 = .ok (.iconst 1, 1) := by decide +kernel
theorem dX1_whole_21 : decode cX1_whole 21 = .ok (.isub, 1) := by decide +kernel
theorem dX1_whole_22 : decode cX1_whole 22 = .ok (.goto 5, 3) := by decide +kernel
theorem dX1_whole_25 : decode cX1_whole 25 = .ok (.iload 4, 2) := by decide +kernel
theorem dX1_whole_27 : decode cX1_whole 27 = .ok (.ireturn, 1) := by decide +kernel
set_option maxRecDepth 20000 in
theorem ggX1_wrapped_J9_floorMod_7cf53 : GoodIn wsX1_wrapped wsJ9_floorMod_7cf53 := goodIn_r _ [4] (by decide +kernel) (by decide +kernel)
set_option maxRecDepth 20000 in
theorem gX1_wrapped_J9_floorMod_7cf53 : GoodIn wsX1_wrapped (va_wsS RX1 37 yJ9_floorMod_7cf53 wsJ9_floorMod_7cf53) := goodIn_app (goodIn_of _ (by decide +kernel)) ggX1_wrapped_J9_floorMod_7cf53
theorem dX1_wrapped_0 : decode cX1_wrapped 0 = .ok (.iload_n 1, 1) := by decide +kernel
theorem dX1_wrapped_1 : decode cX1_wrapped 1 = .ok (.iconst 1, 1) := by decide +kernel
theorem dX1_wrapped_2 : decode cX1_wrapped 2 = .ok (.if_icmp .ge 7, 3) := by decide +kernel
theorem dX1_wrapped_5 : decode cX1_wrapped 5 = .ok (.iconst 0, 1) := by decide +kernel
theorem dX1_wrapped_6 : decode cX1_wrapped 6 = .ok (.goto 8, 3) := by decide +kernel
theorem dX1_wrapped_9 : decode cX1_wrapped 9 = .ok (.iload_n 0, 1) := by decide +kernel
theorem dX1_wrapped_10 : decode cX1_wrapped 10 = .ok (.iload_n 1, 1) := by decide +kernel
theorem dX1_wrapped_11 : decode cX1_wrapped 11 = .ok (.invokestatic 37, 3) := by decide +kernel
theorem dX1_wrapped_14 : decode cX1_wrapped 14 = .ok (.ireturn, 1) := by decide +kernel
theorem dJ6_bitCount_0f7a4_0 : decode cJ6_bitCount_0f7a4 0 = .ok (.iload_n 0, 1) := by decide +kernel
theorem dJ6_bitCount_0f7a4_1 : decode cJ6_bitCount_0f7a4 1 = .ok (.iload_n 0, 1) := by decide +kernel
theorem dJ6_bitCount_0f7a4_2 : decode cJ6_bitCount_0f7a4 2 = .ok (.iconst 1, 1) := by decide +kernel
theorem dJ6_bitCount_0f7a4_3 : decode cJ6_bitCount_0f7a4 3 = .ok (.iushr, 1) := by decide +kernel
theorem dJ6_bitCount_0f7a4_4 : decode cJ6_bitCount_0f7a4 4 = .ok (.ldc_w 265, 3) := by decide +kernel
theorem dJ6_bitCount_0f7a4_7 : decode cJ6_bitCount_0f7a4 7 = .ok (.iand, 1) := by decide +kernel
theorem dJ6_bitCount_0f7a4_8 : decode cJ6_bitCount_0f7a4 8 = .ok (.isub, 1) := by decide +kernel
theorem dJ6_bitCount_0f7a4_9 : decode cJ6_bitCount_0f7a4 9 = .ok (.istore_n 0, 1) := by decide +kernel
theorem dJ6_bitCount_0f7a4_10 : decode cJ6_bitCount_0f7a4 10 = .ok (.iload_n 0, 1) := by decide +kernel
theorem dJ6_bitCount_0f7a4_11 : decode cJ6_bitCount_0f7a4 11 = .ok (.ldc_w 266, 3) := by decide +kernel
theorem dJ6_bitCount_0f7a4_14 : decode cJ6_bitCount_0f7a4 14 = .ok (.iand, 1) := by decide +kernel
theorem dJ6_bitCount_0f7a4_15 : decode cJ6_bitCount_0f7a4 15 = .ok (.iload_n 0, 1) := by decide +kernel
theorem dJ6_bitCount_0f7a4_16 : decode cJ6_bitCount_0f7a4 16 = .ok (.iconst 2, 1) := by decide +kernel
theorem dJ6_bitCount_0f7a4_17 : decode cJ6_bitCount_0f7a4 17 = .ok (.iushr, 1) := by decide +kernel
theorem dJ6_bitCount_0f7a4_18 : decode cJ6_bitCount_0f7a4 18 = .ok (.ldc_w 266, 3) := by decide +kernel
theorem dJ6_bitCount_0f7a4_21 : decode cJ6_bitCount_0f7a4 21 = .ok (.iand, 1) := by decide +kernel
theorem dJ6_bitCount_0f7a4_22 : decode cJ6_bitCount_0f7a4 22 = .ok (.iadd, 1) := by decide +kernel
theorem dJ6_bitCount_0f7a4_23 : decode cJ6_bitCount_0f7a4 23 = .ok (.istore_n 0, 1) := by decide +kernel
theorem dJ6_bitCount_0f7a4_24 : decode cJ6_bitCount_0f7a4 24 = .ok (.iload_n 0, 1) := by decide +kernel
theorem dJ6_bitCount_0f7a4_25 : decode cJ6_bitCount_0f7a4 25 = .ok (.iload_n 0, 1) := by decide +kernel
theorem dJ6_bitCount_0f7a4_26 : decode cJ6_bitCount_0f7a4 26 = .ok (.iconst 4, 1) := by decide +kernel
theorem dJ6_bitCount_0f7a4_27 : decode cJ6_bitCount_0f7a4 27 = .ok (.iushr, 1) := by decide +kernel
theorem dJ6_bitCount_0f7a4_28 : decode cJ6_bitCount_0f7a4 28 = .ok (.iadd, 1) := by decide +kernel
theorem dJ6_bitCount_0f7a4_29 : decode cJ6_bitCount_0f7a4 29 = .ok (.ldc_w 267, 3) := by decide +kernel
theorem dJ6_bitCount_0f7a4_32 : decode cJ6_bitCount_0f7a4 32 = .ok (.iand, 1) := by decide +kernel
theorem dJ6_bitCount_0f7a4_33 : decode cJ6_bitCount_0f7a4 33 = .ok (.istore_n 0, 1) := by decide +kernel
theorem dJ6_bitCount_0f7a4_34 : decode cJ6_bitCount_0f7a4 34 = .ok (.iload_n 0, 1) := by decide +kernel
theorem dJ6_bitCount_0f7a4_35 : decode cJ6_bitCount_0f7a4 35 = .ok (.iload_n 0, 1) := by decide +kernel
theorem dJ6_bitCount_0f7a4_36 : decode cJ6_bitCount_0f7a4 36 = .ok (.bipush 8, 2) := by decide +kernel
theorem dJ6_bitCount_0f7a4_38 : decode cJ6_bitCount_0f7a4 38 = .ok (.iushr, 1) := by decide +kernel
theorem dJ6_bitCount_0f7a4_39 : decode cJ6_bitCount_0f7a4 39 = .ok (.iadd, 1) := by decide +kernel
theorem dJ6_bitCount_0f7a4_40 : decode cJ6_bitCount_0f7a4 40 = .ok (.istore_n 0, 1) := by decide +kernel
theorem dJ6_bitCount_0f7a4_41 : decode cJ6_bitCount_0f7a4 41 = .ok (.iload_n 0, 1) := by decide +kernel
theorem dJ6_bitCount_0f7a4_42 : decode cJ6_bitCount_0f7a4 42 = .ok (.iload_n 0, 1) := by decide +kernel
theorem dJ6_bitCount_0f7a4_43 : decode cJ6_bitCount_0f7a4 43 = .ok (.bipush 16, 2) := by decide +kernel
theorem dJ6_bitCount_0f7a4_45 : decode cJ6_bitCount_0f7a4 45 = .ok (.iushr, 1) := by decide +kernel
theorem dJ6_bitCount_0f7a4_46 : decode cJ6_bitCount_0f7a4 46 = .ok (.iadd, 1) := by decide +kernel
theorem dJ6_bitCount_0f7a4_47 : decode cJ6_bitCount_0f7a4 47 = .ok (.istore_n 0, 1) := by decide +kernel
theorem dJ6_bitCount_0f7a4_48 : decode cJ6_bitCount_0f7a4 48 = .ok (.iload_n 0, 1) := by decide +kernel
theorem dJ6_bitCount_0f7a4_49 : decode cJ6_bitCount_0f7a4 49 = .ok (.bipush 63, 2) := by decide +kernel
theorem dJ6_bitCount_0f7a4_51 : decode cJ6_bitCount_0f7a4 51 = .ok (.iand, 1) := by decide +kernel
theorem dJ6_bitCount_0f7a4_52 : decode cJ6_bitCount_0f7a4 52 = .ok (.ireturn, 1) := by decide +kernel
theorem dJ9_floorMod_7cf53_0 : decode cJ9_floorMod_7cf53 0 = .ok (.iload_n 0, 1) := by decide +kernel
theorem dJ9_floorMod_7cf53_1 : decode cJ9_floorMod_7cf53 1 = .ok (.iload_n 1, 1) := by decide +kernel
theorem dJ9_floorMod_7cf53_2 : decode cJ9_floorMod_7cf53 2 = .ok (.irem, 1) := by decide +kernel
theorem dJ9_floorMod_7cf53_3 : decode cJ9_floorMod_7cf53 3 = .ok (.istore_n 2, 1) := by decide +kernel
theorem dJ9_floorMod_7cf53_4 : decode cJ9_floorMod_7cf53 4 = .ok (.iload_n 0, 1) := by decide +kernel
theorem dJ9_floorMod_7cf53_5 : decode cJ9_floorMod_7cf53 5 = .ok (.iload_n 1, 1) := by decide +kernel
theorem dJ9_floorMod_7cf53_6 : decode cJ9_floorMod_7cf53 6 = .ok (.ixor, 1) := by decide +kernel
theorem dJ9_floorMod_7cf53_7 : decode cJ9_floorMod_7cf53 7 = .ok (.ifCond .ge 11, 3) := by decide +kernel
theorem dJ9_floorMod_7cf53_10 : decode cJ9_floorMod_7cf53 10 = .ok (.iload_n 2, 1) := by decide +kernel
theorem dJ9_floorMod_7cf53_11 : decode cJ9_floorMod_7cf53 11 = .ok (.ifCond .eq 7, 3) := by decide +kernel
theorem dJ9_floorMod_7cf53_14 : decode cJ9_floorMod_7cf53 14 = .ok (.iload_n 2, 1) := by decide +kernel
theorem dJ9_floorMod_7cf53_15 : decode cJ9_floorMod_7cf53 15 = .ok (.iload_n 1, 1) := by decide +kernel
theorem dJ9_floorMod_7cf53_16 : decode cJ9_floorMod_7cf53 16 = .ok (.iadd, 1) := by decide +kernel
theorem dJ9_floorMod_7cf53_17 : decode cJ9_floorMod_7cf53 17 = .ok (.ireturn, 1) := by decide +kernel
theorem dJ9_floorMod_7cf53_18 : decode cJ9_floorMod_7cf53 18 = .ok (.iload_n 2, 1) := by decide +kernel
theorem dJ9_floorMod_7cf53_19 : decode cJ9_floorMod_7cf53 19 = .ok (.ireturn, 1) := by decide +kernel
theorem dJ9_abs_0f7a4_0 : decode cJ9_abs_0f7a4 0 = .ok (.iload_n 0, 1) := by decide +kernel
theorem dJ9_abs_0f7a4_1 : decode cJ9_abs_0f7a4 1 = .ok (.ifCond .ge 8, 3) := by decide +kernel
theorem dJ9_abs_0f7a4_4 : decode cJ9_abs_0f7a4 4 = .ok (.iload_n 0, 1) := by decide +kernel
theorem dJ9_abs_0f7a4_5 : decode cJ9_abs_0f7a4 5 = .ok (.ineg, 1) := by decide +kernel
theorem dJ9_abs_0f7a4_6 : decode cJ9_abs_0f7a4 6 = .ok (.goto 4, 3) := by decide +kernel
theorem dJ9_abs_0f7a4_9 : decode cJ9_abs_0f7a4 9 = .ok (.iload_n 0, 1) := by decide +kernel
theorem dJ9_abs_0f7a4_10 : decode cJ9_abs_0f7a4 10 = .ok (.ireturn, 1) := by decide +kernel
theorem dJ9_max_7cf53_0 : decode cJ9_max_7cf53 0 = .ok (.iload_n 0, 1) := by decide +kernel
theorem dJ9_max_7cf53_1 : decode cJ9_max_7cf53 1 = .ok (.iload_n 1, 1) := by decide +kernel
theorem dJ9_max_7cf53_2 : decode cJ9_max_7cf53 2 = .ok (.if_icmp .lt 7, 3) := by decide +kernel
theorem dJ9_max_7cf53_5 : decode cJ9_max_7cf53 5 = .ok (.iload_n 0, 1) := by decide +kernel
theorem dJ9_max_7cf53_6 : decode cJ9_max_7cf53 6 = .ok (.goto 4, 3) := by decide +kernel
theorem dJ9_max_7cf53_9 : decode cJ9_max_7cf53 9 = .ok (.iload_n 1, 1) := by decide +kernel
theorem dJ9_max_7cf53_10 : decode cJ9_max_7cf53 10 = .ok (.ireturn, 1) := by decide +kernel
theorem dJ9_min_7cf53_0 : decode cJ9_min_7cf53 0 = .ok (.iload_n 0, 1) := by decide +kernel
theorem dJ9_min_7cf53_1 : decode cJ9_min_7cf53 1 = .ok (.iload_n 1, 1) := by decide +kernel
theorem dJ9_min_7cf53_2 : decode cJ9_min_7cf53 2 = .ok (.if_icmp .gt 7, 3) := by decide +kernel
theorem dJ9_min_7cf53_5 : decode cJ9_min_7cf53 5 = .ok (.iload_n 0, 1) := by decide +kernel
theorem dJ9_min_7cf53_6 : decode cJ9_min_7cf53 6 = .ok (.goto 4, 3) := by decide +kernel
theorem dJ9_min_7cf53_9 : decode cJ9_min_7cf53 9 = .ok (.iload_n 1, 1) := by decide +kernel
theorem dJ9_min_7cf53_10 : decode cJ9_min_7cf53 10 = .ok (.ireturn, 1) := by decide +kernel
end
section
/-! printed names, part 04.d2345 -/
theorem dX2_init_0 : decode cX2_init 0 = .ok (.aload_n 0, 1) := by decide +kernel
theorem dX2_init_1 : decode cX2_init 1 = .ok (.invokespecial 3, 3) := by decide +kernel
theorem dX2_init_4 : decode cX2_init 4 = .ok (.aload_n 0, 1) := by decide +kernel
theorem dX2_init_5 : decode cX2_init 5 = .ok (.aload_n 1, 1) := by decide +kernel
theorem dX2_init_6 : decode cX2_init 6 = .ok (.putfield 9, 3) := by decide +kernel
theorem dX2_init_9 : decode cX2_init 9 = .ok (.return_, 1) := by decide +kernel
set_option maxRecDepth 20000 in
theorem ggX2_beginsBand_X0_rowBits : GoodIn wsX2_beginsBand wsX0_rowBits := goodIn_r _ [6, 7, 9, 10, 11, 12, 13, 14] (by decide +kernel) (by decide +kernel)
set_option maxRecDepth 20000 in
theorem gX2_beginsBand_X0_rowBits : GoodIn wsX2_beginsBand (wsV RX2 15 RX0 yX0_rowBits wsX0_rowBits) := goodIn_app (goodIn_of _ (by decide +kernel)) ggX2_beginsBand_X0_rowBits
theorem dX2_beginsBand_0 : decode cX2_beginsBand 0 = .ok (.aload_n 0, 1) := by decide +kernel
theorem dX2_beginsBand_1 : decode cX2_beginsBand 1 = .ok (.getfield 9, 3) := by decide +kernel
theorem dX2_beginsBand_4 : decode cX2_beginsBand 4 = .ok (.iload_n 1, 1) := by decide +kernel
theorem dX2_beginsBand_5 : decode cX2_beginsBand 5 = .ok (.invokevirtual 15, 3) := by decide +kernel
theorem dX2_beginsBand_8 : decode cX2_beginsBand 8 = .ok (.ifCond .eq 20, 3) := by decide +kernel
theorem dX2_beginsBand_11 : decode cX2_beginsBand 11 = .ok (.aload_n 0, 1) := by decide +kernel
theorem dX2_beginsBand_12 : decode cX2_beginsBand 12 = .ok (.getfield 9, 3) := by decide +kernel
theorem dX2_beginsBand_15 : decode cX2_beginsBand 15 = .ok (.iload_n 1, 1) := by decide +kernel
theorem dX2_beginsBand_16 : decode cX2_beginsBand 16 = .ok (.iconst 1, 1) := by decide +kernel
theorem dX2_beginsBand_17 : decode cX2_beginsBand 17 = .ok (.isub, 1) := by decide +kernel
theorem dX2_beginsBand_18 : decode cX2_beginsBand 18 = .ok (.invokevirtual 15, 3) := by decide +kernel
theorem dX2_beginsBand_21 : decode cX2_beginsBand 21 = .ok (.ifCond .ne 7, 3) := by decide +kernel
theorem dX2_beginsBand_24 : decode cX2_beginsBand 24 = .ok (.iconst 1, 1) := by decide +kernel
theorem dX2_beginsBand_25 : decode cX2_beginsBand 25 = .ok (.goto 4, 3) := by decide +kernel
theorem dX2_beginsBand_28 : decode cX2_beginsBand 28 = .ok (.iconst 0, 1) := by decide +kernel
theorem dX2_beginsBand_29 : decode cX2_beginsBand 29 = .ok (.ireturn, 1) := by decide +kernel
set_option maxRecDepth 20000 in
theorem ggX2_bandCount_X2_beginsBand : GoodIn wsX2_bandCount wsX2_beginsBand := goodIn_r _ [7, 1, 8, 9, 10, 11, 12, 13, 14, 15, 16, 17, 18, 19, 20] (by decide +kernel) (by decide +kernel)
set_option maxRecDepth 20000 in
theorem gX2_bandCount_X2_beginsBand : GoodIn wsX2_bandCount (wsV RX2 25 RX2 yX2_beginsBand wsX2_beginsBand) := goodIn_app (goodIn_of _ (by decide +kernel)) ggX2_bandCount_X2_beginsBand
theorem dX2_bandCount_0 : decode cX2_bandCount 0 = .ok (.iconst 0, 1) := by decide +kernel
theorem dX2_bandCount_1 : decode cX2_bandCount 1 = .ok (.istore_n 1, 1) := by decide +kernel
theorem dX2_bandCount_2 : decode cX2_bandCount 2 = .ok (.iconst 0, 1) := by decide +kernel
theorem dX2_bandCount_3 : decode cX2_bandCount 3 = .ok (.istore_n 2, 1) := by decide +kernel
theorem dX2_bandCount_4 : decode cX2_bandCount 4 = .ok (.iload_n 2, 1) := by decide +kernel
theorem dX2_bandCount_5 : decode cX2_bandCount 5 = .ok (.aload_n 0, 1) := by decide +kernel
theorem dX2_bandCount_6 : decode cX2_bandCount 6 = .ok (.getfield 9, 3) := by decide +kernel
theorem dX2_bandCount_9 : decode cX2_bandCount 9 = .ok (.getfield 21, 3) := by decide +kernel
theorem dX2_bandCount_12 : decode cX2_bandCount 12 = .ok (.if_icmp .ge 20, 3) := by decide +kernel
theorem dX2_bandCount_15 : decode cX2_bandCount 15 = .ok (.aload_n 0, 1) := by decide +kernel
theorem dX2_bandCount_16 : decode cX2_bandCount 16 = .ok (.iload_n 2, 1) := by decide +kernel
theorem dX2_bandCount_17 : decode cX2_bandCount 17 = .ok (.invokevirtual 25, 3) := by decide +kernel
theorem dX2_bandCount_20 : decode cX2_bandCount 20 = .ok (.ifCond .eq 6, 3) := by decide +kernel
theorem dX2_bandCount_23 : decode cX2_bandCount 23 = .ok (.iinc 1 1, 3) := by decide +kernel
theorem dX2_bandCount_26 : decode cX2_bandCount 26 = .ok (.iinc 2 1, 3) := by decide +kernel
theorem dX2_bandCount_29 : decode cX2_bandCount 29 = .ok (.goto (-25), 3) := by decide +kernel
theorem dX2_bandCount_32 : decode cX2_bandCount 32 = .ok (.iload_n 1, 1) := by decide +kernel
theorem dX2_bandCount_33 : decode cX2_bandCount 33 = .ok (.ireturn, 1) := by decide +kernel
set_option maxRecDepth 20000 in
theorem ggX2_firstOfBand_X2_beginsBand : GoodIn wsX2_firstOfBand wsX2_beginsBand := goodIn_r _ [7, 1, 8, 9, 10, 11, 12, 13, 14, 15, 16, 17, 18, 19, 20] (by decide +kernel) (by decide +kernel)
set_option maxRecDepth 20000 in
theorem gX2_firstOfBand_X2_beginsBand : GoodIn wsX2_firstOfBand (wsV RX2 25 RX2 yX2_beginsBand wsX2_beginsBand) := goodIn_app (goodIn_of _ (by decide +kernel)) ggX2_firstOfBand_X2_beginsBand
theorem dX2_firstOfBand_0 : decode cX2_firstOfBand 0 = .ok (.iconst 0, 1) := by decide +kernel
theorem dX2_firstOfBand_1 : decode cX2_firstOfBand 1 = .ok (.istore_n 2, 1) := by decide +kernel
theorem dX2_firstOfBand_2 : decode cX2_firstOfBand 2 = .ok (.iconst 0, 1) := by decide +kernel
theorem dX2_firstOfBand_3 : decode cX2_firstOfBand 3 = .ok (.istore_n 3, 1) := by decide +kernel
theorem dX2_firstOfBand_4 : decode cX2_firstOfBand 4 = .ok (.iload_n 3, 1) := by decide +kernel
theorem dX2_firstOfBand_5 : decode cX2_firstOfBand 5 = .ok (.aload_n 0, 1) := by decide +kernel
theorem dX2_firstOfBand_6 : decode cX2_firstOfBand 6 = .ok (.getfield 9, 3) := by decide +kernel
theorem dX2_firstOfBand_9 : decode cX2_firstOfBand 9 = .ok (.getfield 21, 3) := by decide +kernel
theorem dX2_firstOfBand_12 : decode cX2_firstOfBand 12 = .ok (.if_icmp .ge 27, 3) := by decide +kernel
theorem dX2_firstOfBand_15 : decode cX2_firstOfBand 15 = .ok (.aload_n 0, 1) := by decide +kernel
theorem dX2_firstOfBand_16 : decode cX2_firstOfBand 16 = .ok (.iload_n 3, 1) := by decide +kernel
theorem dX2_firstOfBand_17 : decode cX2_firstOfBand 17 = .ok (.invokevirtual 25, 3) := by decide +kernel
theorem dX2_firstOfBand_20 : decode cX2_firstOfBand 20 = .ok (.ifCond .eq 13, 3) := by decide +kernel
theorem dX2_firstOfBand_23 : decode cX2_firstOfBand 23 = .ok (.iload_n 2, 1) := by decide +kernel
theorem dX2_firstOfBand_24 : decode cX2_firstOfBand 24 = .ok (.iload_n 1, 1) := by decide +kernel
theorem dX2_firstOfBand_25 : decode cX2_firstOfBand 25 = .ok (.if_icmp .ne 5, 3) := by decide +kernel
theorem dX2_firstOfBand_28 : decode cX2_firstOfBand 28 = .ok (.iload_n 3, 1) := by decide +kernel
theorem dX2_firstOfBand_29 : decode cX2_firstOfBand 29 = .ok (.ireturn, 1) := by decide +kernel
theorem dX2_firstOfBand_30 : decode cX2_firstOfBand 30 = .ok (.iinc 2 1, 3) := by decide +kernel
theorem dX2_firstOfBand_33 : decode cX2_firstOfBand 33 = .ok (.iinc 3 1, 3) := by decide +kernel
theorem dX2_firstOfBand_36 : decode cX2_firstOfBand 36 = .ok (.goto (-32), 3) := by decide +kernel
theorem dX2_firstOfBand_39 : decode cX2_firstOfBand 39 = .ok (.iconst (-1), 1) := by decide +kernel
theorem dX2_firstOfBand_40 : decode cX2_firstOfBand 40 = .ok (.ireturn, 1) := by decide +kernel
set_option maxRecDepth 20000 in
theorem ggX2_behindBand_X0_rowBits : GoodIn wsX2_behindBand wsX0_rowBits := goodIn_r _ [7, 8, 10, 11, 12, 13, 14, 15] (by decide +kernel) (by decide +kernel)
set_option maxRecDepth 20000 in
theorem gX2_behindBand_X0_rowBits : GoodIn wsX2_behindBand (wsV RX2 15 RX0 yX0_rowBits wsX0_rowBits) := goodIn_app (goodIn_of _ (by decide +kernel)) ggX2_behindBand_X0_rowBits
theorem dX2_behindBand_0 : decode cX2_behindBand 0 = .ok (.iload_n 1, 1) := by decide +kernel
theorem dX2_behindBand_1 : decode cX2_behindBand 1 = .ok (.istore_n 2, 1) := by decide +kernel
theorem dX2_behindBand_2 : decode cX2_behindBand 2 = .ok (.iload_n 2, 1) := by decide +kernel
theorem dX2_behindBand_3 : decode cX2_behindBand 3 = .ok (.aload_n 0, 1) := by decide +kernel
theorem dX2_behindBand_4 : decode cX2_behindBand 4 = .ok (.getfield 9, 3) := by decide +kernel
theorem dX2_behindBand_7 : decode cX2_behindBand 7 = .ok (.getfield 21, 3) := by decide +kernel
theorem dX2_behindBand_10 : decode cX2_behindBand 10 = .ok (.if_icmp .ge 20, 3) := by decide +kernel
theorem dX2_behindBand_13 : decode cX2_behindBand 13 = .ok (.aload_n 0, 1) := by decide +kernel
theorem dX2_behindBand_14 : decode cX2_behindBand 14 = .ok (.getfield 9, 3) := by decide +kernel
theorem dX2_behindBand_17 : decode cX2_behindBand 17 = .ok (.iload_n 2, 1) := by decide +kernel
theorem dX2_behindBand_18 : decode cX2_behindBand 18 = .ok (.invokevirtual 15, 3) := by decide +kernel
theorem dX2_behindBand_21 : decode cX2_behindBand 21 = .ok (.ifCond .eq 9, 3) := by decide +kernel
theorem dX2_behindBand_24 : decode cX2_behindBand 24 = .ok (.iinc 2 1, 3) := by decide +kernel
theorem dX2_behindBand_27 : decode cX2_behindBand 27 = .ok (.goto (-25), 3) := by decide +kernel
theorem dX2_behindBand_30 : decode cX2_behindBand 30 = .ok (.iload_n 2, 1) := by decide +kernel
theorem dX2_behindBand_31 : decode cX2_behindBand 31 = .ok (.ireturn, 1) := by decide +kernel
set_option maxRecDepth 20000 in
theorem ggX2_samplesBetween_X0_rowBits : GoodIn wsX2_samplesBetween wsX0_rowBits := goodIn_r _ [6, 7, 16, 17, 18, 19, 20, 21] (by decide +kernel) (by decide +kernel)
set_option maxRecDepth 20000 in
theorem gX2_samplesBetween_X0_rowBits : GoodIn wsX2_samplesBetween (wsV RX2 15 RX0 yX0_rowBits wsX0_rowBits) := goodIn_app (goodIn_of _ (by decide +kernel)) ggX2_samplesBetween_X0_rowBits
set_option maxRecDepth 20000 in
theorem ggX2_samplesBetween_J6_bitCount_0f7a4 : GoodIn wsX2_samplesBetween wsJ6_bitCount_0f7a4 := goodIn_r _ [11, 12, 13, 14] (by decide +kernel) (by decide +kernel)
set_option maxRecDepth 20000 in
theorem gX2_samplesBetween_J6_bitCount_0f7a4 : GoodIn wsX2_samplesBetween (va_wsS RX2 29 yJ6_bitCount_0f7a4 wsJ6_bitCount_0f7a4) := goodIn_app (goodIn_of _ (by decide +kernel)) ggX2_samplesBetween_J6_bitCount_0f7a4
theorem dX2_samplesBetween_0 : decode cX2_samplesBetween 0 = .ok (.iconst 0, 1) := by decide +kernel
theorem dX2_samplesBetween_1 : decode cX2_samplesBetween 1 = .ok (.istore_n 3, 1) := by decide +kernel
theorem dX2_samplesBetween_2 : decode cX2_samplesBetween 2 = .ok (.iload_n 1, 1) := by decide +kernel
theorem dX2_samplesBetween_3 : decode cX2_samplesBetween 3 = .ok (.istore 4, 2) := by decide +kernel
theorem dX2_samplesBetween_5 : decode cX2_samplesBetween 5 = .ok (.iload 4, 2) := by decide +kernel
theorem dX2_samplesBetween_7 : decode cX2_samplesBetween 7 = .ok (.iload_n 2, 1) := by decide +kernel
theorem dX2_samplesBetween_8 : decode cX2_samplesBetween 8 = .ok (.if_icmp .ge 24, 3) := by decide +kernel
theorem dX2_samplesBetween_11 : decode cX2_samplesBetween 11 = .ok (.iload_n 3, 1) := by decide +kernel
theorem dX2_samplesBetween_12 : decode cX2_samplesBetween 12 = .ok (.aload_n 0, 1) := by decide +kernel
theorem dX2_samplesBetween_13 : decode cX2_samplesBetween 13 = .ok (.getfield 9, 3) := by decide +kernel
theorem dX2_samplesBetween_16 : decode cX2_samplesBetween 16 = .ok (.iload 4, 2) := by decide +kernel
theorem dX2_samplesBetween_18 : decode cX2_samplesBetween 18 = .ok (.invokevirtual 15, 3) := by decide +kernel
theorem dX2_samplesBetween_21 : decode cX2_samplesBetween 21 = .ok (.invokestatic 29, 3) := by decide +kernel
theorem dX2_samplesBetween_24 : decode cX2_samplesBetween 24 = .ok (.iadd, 1) := by decide +kernel
theorem dX2_samplesBetween_25 : decode cX2_samplesBetween 25 = .ok (.istore_n 3, 1) := by decide +kernel
theorem dX2_samplesBetween_26 : decode cX2_samplesBetween 26 = .ok (.iinc 4 1, 3) := by decide +kernel
theorem dX2_samplesBetween_29 : decode cX2_samplesBetween 29 = .ok (.goto (-24), 3) := by decide +kernel
theorem dX2_samplesBetween_32 : decode cX2_samplesBetween 32 = .ok (.iload_n 3, 1) := by decide +kernel
theorem dX2_samplesBetween_33 : decode cX2_samplesBetween 33 = .ok (.ireturn, 1) := by decide +kernel
set_option maxRecDepth 20000 in
theorem ggX2_lowerMinusUpper_X2_beginsBand : GoodIn wsX2_lowerMinusUpper wsX2_beginsBand := goodIn_r _ [7, 1, 8, 9, 10, 11, 12, 13, 29, 30, 31, 32, 33, 34, 35] (by decide +kernel) (by decide +kernel)
set_option maxRecDepth 20000 in
theorem gX2_lowerMinusUpper_X2_beginsBand : GoodIn wsX2_lowerMinusUpper (wsV RX2 25 RX2 yX2_beginsBand wsX2_beginsBand) := goodIn_app (goodIn_of _ (by decide +kernel)) ggX2_lowerMinusUpper_X2_beginsBand
set_option maxRecDepth 20000 in
theorem ggX2_lowerMinusUpper_X2_behindBand : GoodIn wsX2_lowerMinusUpper wsX2_behindBand := goodIn_r _ [17, 1, 2, 8, 9, 10, 11, 12, 13, 29, 30, 31, 32, 33, 34, 35] (by decide +kernel) (by decide +kernel)
set_option maxRecDepth 20000 in
theorem gX2_lowerMinusUpper_X2_behindBand : GoodIn wsX2_lowerMinusUpper (wsV RX2 34 RX2 yX2_behindBand wsX2_behindBand) := goodIn_app (goodIn_of _ (by decide +kernel)) ggX2_lowerMinusUpper_X2_behindBand
set_option maxRecDepth 20000 in
theorem ggX2_lowerMinusUpper_X2_samplesBetween : GoodIn wsX2_lowerMinusUpper wsX2_samplesBetween := goodIn_r _ [21, 1, 8, 9, 10, 11, 12, 13, 22, 23, 24, 25, 26, 27, 28, 29, 30, 31, 32, 33, 34, 35] (by decide +kernel) (by decide +kernel)
set_option maxRecDepth 20000 in
theorem gX2_lowerMinusUpper_X2_samplesBetween : GoodIn wsX2_lowerMinusUpper (wsV RX2 37 RX2 yX2_samplesBetween wsX2_samplesBetween) := goodIn_app (goodIn_of _ (by decide +kernel)) ggX2_lowerMinusUpper_X2_samplesBetween
theorem dX2_lowerMinusUpper_0 : decode cX2_lowerMinusUpper 0 = .ok (.iconst 0, 1) := by decide +kernel
theorem dX2_lowerMinusUpper_1 : decode cX2_lowerMinusUpper 1 = .ok (.istore_n 1, 1) := by decide +kernel
theorem dX2_lowerMinusUpper_2 : decode cX2_lowerMinusUpper 2 = .ok (.iconst 0, 1) := by decide +kernel
theorem dX2_lowerMinusUpper_3 : decode cX2_lowerMinusUpper 3 = .ok (.istore_n 2, 1) := by decide +kernel
theorem dX2_lowerMinusUpper_4 : decode cX2_lowerMinusUpper 4 = .ok (.iload_n 2, 1) := by decide +kernel
theorem dX2_lowerMinusUpper_5 : decode cX2_lowerMinusUpper 5 = .ok (.aload_n 0, 1) := by decide +kernel
theorem dX2_lowerMinusUpper_6 : decode cX2_lowerMinusUpper 6 = .ok (.getfield 9, 3) := by decide +kernel
theorem dX2_lowerMinusUpper_9 : decode cX2_lowerMinusUpper 9 = .ok (.getfield 21, 3) := by decide +kernel
theorem dX2_lowerMinusUpper_12 : decode cX2_lowerMinusUpper 12 = .ok (.if_icmp .ge 54, 3) := by decide +kernel
theorem dX2_lowerMinusUpper_15 : decode cX2_lowerMinusUpper 15 = .ok (.aload_n 0, 1) := by decide +kernel
theorem dX2_lowerMinusUpper_16 : decode cX2_lowerMinusUpper 16 = .ok (.iload_n 2, 1) := by decide +kernel
theorem dX2_lowerMinusUpper_17 : decode cX2_lowerMinusUpper 17 = .ok (.invokevirtual 25, 3) := by decide +kernel
theorem dX2_lowerMinusUpper_20 : decode cX2_lowerMinusUpper 20 = .ok (.ifCond .eq 40, 3) := by decide +kernel
theorem dX2_lowerMinusUpper_23 : decode cX2_lowerMinusUpper 23 = .ok (.aload_n 0, 1) := by decide +kernel
theorem dX2_lowerMinusUpper_24 : decode cX2_lowerMinusUpper 24 = .ok (.iload_n 2, 1) := by decide +kernel
theorem dX2_lowerMinusUpper_25 : decode cX2_lowerMinusUpper 25 = .ok (.invokevirtual 34, 3) := by decide +kernel
theorem dX2_lowerMinusUpper_28 : decode cX2_lowerMinusUpper 28 = .ok (.istore_n 3, 1) := by decide +kernel
theorem dX2_lowerMinusUpper_29 : decode cX2_lowerMinusUpper 29 = .ok (.iload_n 3, 1) := by decide +kernel
theorem dX2_lowerMinusUpper_30 : decode cX2_lowerMinusUpper 30 = .ok (.iload_n 2, 1) := by decide +kernel
theorem dX2_lowerMinusUpper_31 : decode cX2_lowerMinusUpper 31 = .ok (.isub, 1) := by decide +kernel
theorem dX2_lowerMinusUpper_32 : decode cX2_lowerMinusUpper 32 = .ok (.iconst 2, 1) := by decide +kernel
theorem dX2_lowerMinusUpper_33 : decode cX2_lowerMinusUpper 33 = .ok (.idiv, 1) := by decide +kernel
theorem dX2_lowerMinusUpper_34 : decode cX2_lowerMinusUpper 34 = .ok (.istore 4, 2) := by decide +kernel
theorem dX2_lowerMinusUpper_36 : decode cX2_lowerMinusUpper 36 = .ok (.iload_n 1, 1) := by decide +kernel
theorem dX2_lowerMinusUpper_37 : decode cX2_lowerMinusUpper 37 = .ok (.aload_n 0, 1) := by decide +kernel
theorem dX2_lowerMinusUpper_38 : decode cX2_lowerMinusUpper 38 = .ok (.iload_n 3, 1) := by decide +kernel
theorem dX2_lowerMinusUpper_39 : decode cX2_lowerMinusUpper 39 = .ok (.iload 4, 2) := by decide +kernel
theorem dX2_lowerMinusUpper_41 : decode cX2_lowerMinusUpper 41 = .ok (.isub, 1) := by decide +kernel
theorem dX2_lowerMinusUpper_42 : decode cX2_lowerMinusUpper 42 = .ok (.iload_n 3, 1) := by decide +kernel
theorem dX2_lowerMinusUpper_43 : decode cX2_lowerMinusUpper 43 = .ok (.invokevirtual 37, 3) := by decide +kernel
theorem dX2_lowerMinusUpper_46 : decode cX2_lowerMinusUpper 46 = .ok (.iadd, 1) := by decide +kernel
theorem dX2_lowerMinusUpper_47 : decode cX2_lowerMinusUpper 47 = .ok (.istore_n 1, 1) := by decide +kernel
theorem dX2_lowerMinusUpper_48 : decode cX2_lowerMinusUpper 48 = .ok (.iload_n 1, 1) := by decide +kernel
theorem dX2_lowerMinusUpper_49 : decode cX2_lowerMinusUpper 49 = .ok (.aload_n 0, 1) := by decide +kernel
theorem dX2_lowerMinusUpper_50 : decode cX2_lowerMinusUpper 50 = .ok (.iload_n 2, 1) := by decide +kernel
theorem dX2_lowerMinusUpper_51 : decode cX2_lowerMinusUpper 51 = .ok (.iload_n 2, 1) := by decide +kernel
theorem dX2_lowerMinusUpper_52 : decode cX2_lowerMinusUpper 52 = .ok (.iload 4, 2) := by decide +kernel
theorem dX2_lowerMinusUpper_54 : decode cX2_lowerMinusUpper 54 = .ok (.iadd, 1) := by decide +kernel
theorem dX2_lowerMinusUpper_55 : decode cX2_lowerMinusUpper 55 = .ok (.invokevirtual 37, 3) := by decide +kernel
theorem dX2_lowerMinusUpper_58 : decode cX2_lowerMinusUpper 58 = .ok (.isub, 1) := by decide +kernel
theorem dX2_lowerMinusUpper_59 : decode cX2_lowerMinusUpper 59 = .ok (.istore_n 1, 1) := by decide +kernel
theorem dX2_lowerMinusUpper_60 : decode cX2_lowerMinusUpper 60 = .ok (.iinc 2 1, 3) := by decide +kernel
theorem dX2_lowerMinusUpper_63 : decode cX2_lowerMinusUpper 63 = .ok (.goto (-59), 3) := by decide +kernel
theorem dX2_lowerMinusUpper_66 : decode cX2_lowerMinusUpper 66 = .ok (.iload_n 1, 1) := by decide +kernel
theorem dX2_lowerMinusUpper_67 : decode cX2_lowerMinusUpper 67 = .ok (.ireturn, 1) := by decide +kernel
set_option maxRecDepth 20000 in
theorem ggX2_baseLineAt_X2_behindBand : GoodIn wsX2_baseLineAt wsX2_behindBand := goodIn_r _ [7, 1, 8, 9, 10, 11, 12, 13, 14, 30, 31, 32, 33, 34, 35, 36] (by decide +kernel) (by decide +kernel)
set_option maxRecDepth 20000 in
theorem gX2_baseLineAt_X2_behindBand : GoodIn wsX2_baseLineAt (wsV RX2 34 RX2 yX2_behindBand wsX2_behindBand) := goodIn_app (goodIn_of _ (by decide +kernel)) ggX2_baseLineAt_X2_behindBand
set_option maxRecDepth 20000 in
theorem ggX2_baseLineAt_X2_lowestOn : GoodIn wsX2_baseLineAt wsX2_lowestOn := goodIn_r _ [18, 1, 19, 20, 21, 12, 22, 23, 24, 25, 26, 27, 28, 29, 10, 11, 13, 14, 30, 31, 32, 33, 34, 35, 36] (by decide +kernel) (by decide +kernel)
set_option maxRecDepth 20000 in
theorem gX2_baseLineAt_X2_lowestOn : GoodIn wsX2_baseLineAt (wsV RX2 44 RX2 yX2_lowestOn wsX2_lowestOn) := goodIn_app (goodIn_of _ (by decide +kernel)) ggX2_baseLineAt_X2_lowestOn
theorem dX2_baseLineAt_0 : decode cX2_baseLineAt 0 = .ok (.aload_n 0, 1) := by decide +kernel
theorem dX2_baseLineAt_1 : decode cX2_baseLineAt 1 = .ok (.iload_n 1, 1) := by decide +kernel
theorem dX2_baseLineAt_2 : decode cX2_baseLineAt 2 = .ok (.invokevirtual 34, 3) := by decide +kernel
theorem dX2_baseLineAt_5 : decode cX2_baseLineAt 5 = .ok (.istore 4, 2) := by decide +kernel
theorem dX2_baseLineAt_7 : decode cX2_baseLineAt 7 = .ok (.iconst 0, 1) := by decide +kernel
theorem dX2_baseLineAt_8 : decode cX2_baseLineAt 8 = .ok (.istore 5, 2) := by decide +kernel
theorem dX2_baseLineAt_10 : decode cX2_baseLineAt 10 = .ok (.iconst 0, 1) := by decide +kernel
theorem dX2_baseLineAt_11 : decode cX2_baseLineAt 11 = .ok (.istore 6, 2) := by decide +kernel
theorem dX2_baseLineAt_13 : decode cX2_baseLineAt 13 = .ok (.iconst 0, 1) := by decide +kernel
theorem dX2_baseLineAt_14 : decode cX2_baseLineAt 14 = .ok (.istore 7, 2) := by decide +kernel
theorem dX2_baseLineAt_16 : decode cX2_baseLineAt 16 = .ok (.iconst 0, 1) := by decide +kernel
theorem dX2_baseLineAt_17 : decode cX2_baseLineAt 17 = .ok (.istore 8, 2) := by decide +kernel
theorem dX2_baseLineAt_19 : decode cX2_baseLineAt 19 = .ok (.iconst 0, 1) := by decide +kernel
theorem dX2_baseLineAt_20 : decode cX2_baseLineAt 20 = .ok (.istore 9, 2) := by decide +kernel
theorem dX2_baseLineAt_22 : decode cX2_baseLineAt 22 = .ok (.iconst 0, 1) := by decide +kernel
theorem dX2_baseLineAt_23 : decode cX2_baseLineAt 23 = .ok (.istore 10, 2) := by decide +kernel
theorem dX2_baseLineAt_25 : decode cX2_baseLineAt 25 = .ok (.iload 10, 2) := by decide +kernel
theorem dX2_baseLineAt_27 : decode cX2_baseLineAt 27 = .ok (.aload_n 0, 1) := by decide +kernel
theorem dX2_baseLineAt_28 : decode cX2_baseLineAt 28 = .ok (.getfield 9, 3) := by decide +kernel
theorem dX2_baseLineAt_31 : decode cX2_baseLineAt 31 = .ok (.getfield 41, 3) := by decide +kernel
theorem dX2_baseLineAt_34 : decode cX2_baseLineAt 34 = .ok (.if_icmp .ge 63, 3) := by decide +kernel
theorem dX2_baseLineAt_37 : decode cX2_baseLineAt 37 = .ok (.aload_n 0, 1) := by decide +kernel
theorem dX2_baseLineAt_38 : decode cX2_baseLineAt 38 = .ok (.iload 10, 2) := by decide +kernel
theorem dX2_baseLineAt_40 : decode cX2_baseLineAt 40 = .ok (.iload_n 1, 1) := by decide +kernel
theorem dX2_baseLineAt_41 : decode cX2_baseLineAt 41 = .ok (.iload 4, 2) := by decide +kernel
theorem dX2_baseLineAt_43 : decode cX2_baseLineAt 43 = .ok (.invokevirtual 44, 3) := by decide +kernel
theorem dX2_baseLineAt_46 : decode cX2_baseLineAt 46 = .ok (.istore 11, 2) := by decide +kernel
theorem dX2_baseLineAt_48 : decode cX2_baseLineAt 48 = .ok (.iload 11, 2) := by decide +kernel
theorem dX2_baseLineAt_50 : decode cX2_baseLineAt 50 = .ok (.iconst (-1), 1) := by decide +kernel
theorem dX2_baseLineAt_51 : decode cX2_baseLineAt 51 = .ok (.if_icmp .eq 40, 3) := by decide +kernel
theorem dX2_baseLineAt_54 : decode cX2_baseLineAt 54 = .ok (.iinc 5 1, 3) := by decide +kernel
theorem dX2_baseLineAt_57 : decode cX2_baseLineAt 57 = .ok (.iload 6, 2) := by decide +kernel
theorem dX2_baseLineAt_59 : decode cX2_baseLineAt 59 = .ok (.iload 10, 2) := by decide +kernel
theorem dX2_baseLineAt_61 : decode cX2_baseLineAt 61 = .ok (.iadd, 1) := by decide +kernel
theorem dX2_baseLineAt_62 : decode cX2_baseLineAt 62 = .ok (.istore 6, 2) := by decide +kernel
theorem dX2_baseLineAt_64 : decode cX2_baseLineAt 64 = .ok (.iload 7, 2) := by decide +kernel
theorem dX2_baseLineAt_66 : decode cX2_baseLineAt 66 = .ok (.iload 11, 2) := by decide +kernel
theorem dX2_baseLineAt_68 : decode cX2_baseLineAt 68 = .ok (.iadd, 1) := by decide +kernel
theorem dX2_baseLineAt_69 : decode cX2_baseLineAt 69 = .ok (.istore 7, 2) := by decide +kernel
theorem dX2_baseLineAt_71 : decode cX2_baseLineAt 71 = .ok (.iload 8, 2) := by decide +kernel
theorem dX2_baseLineAt_73 : decode cX2_baseLineAt 73 = .ok (.iload 10, 2) := by decide +kernel
theorem dX2_baseLineAt_75 : decode cX2_baseLineAt 75 = .ok (.iload 10, 2) := by decide +kernel
theorem dX2_baseLineAt_77 : decode cX2_baseLineAt 77 = .ok (.imul, 1) := by decide +kernel
theorem dX2_baseLineAt_78 : decode cX2_baseLineAt 78 = .ok (.iadd, 1) := by decide +kernel
theorem dX2_baseLineAt_79 : decode cX2_baseLineAt 79 = .ok (.istore 8, 2) := by decide +kernel
theorem dX2_baseLineAt_81 : decode cX2_baseLineAt 81 = .ok (.iload 9, 2) := by decide +kernel
theorem dX2_baseLineAt_83 : decode cX2_baseLineAt 83 = .ok (.iload 10, 2) := by decide +kernel
theorem dX2_baseLineAt_85 : decode cX2_baseLineAt 85 = .ok (.iload 11, 2) := by decide +kernel
theorem dX2_baseLineAt_87 : decode cX2_baseLineAt 87 = .ok (.imul, 1) := by decide +kernel
theorem dX2_baseLineAt_88 : decode cX2_baseLineAt 88 = .ok (.iadd, 1) := by decide +kernel
theorem dX2_baseLineAt_89 : decode cX2_baseLineAt 89 = .ok (.istore 9, 2) := by decide +kernel
theorem dX2_baseLineAt_91 : decode cX2_baseLineAt 91 = .ok (.iinc 10 1, 3) := by decide +kernel
theorem dX2_baseLineAt_94 : decode cX2_baseLineAt 94 = .ok (.goto (-69), 3) := by decide +kernel
theorem dX2_baseLineAt_97 : decode cX2_baseLineAt 97 = .ok (.iload 5, 2) := by decide +kernel
theorem dX2_baseLineAt_99 : decode cX2_baseLineAt 99 = .ok (.ifCond .ne 5, 3) := by decide +kernel
theorem dX2_baseLineAt_102 : decode cX2_baseLineAt 102 = .ok (.dconst 0, 1) := by decide +kernel
theorem dX2_baseLineAt_103 : decode cX2_baseLineAt 103 = .ok (.dreturn, 1) := by decide +kernel
theorem dX2_baseLineAt_104 : decode cX2_baseLineAt 104 = .ok (.iload 5, 2) := by decide +kernel
theorem dX2_baseLineAt_106 : decode cX2_baseLineAt 106 = .ok (.iload 8, 2) := by decide +kernel
theorem dX2_baseLineAt_108 : decode cX2_baseLineAt 108 = .ok (.imul, 1) := by decide +kernel
theorem dX2_baseLineAt_109 : decode cX2_baseLineAt 109 = .ok (.iload 6, 2) := by decide +kernel
theorem dX2_baseLineAt_111 : decode cX2_baseLineAt 111 = .ok (.iload 6, 2) := by decide +kernel
theorem dX2_baseLineAt_113 : decode cX2_baseLineAt 113 = .ok (.imul, 1) := by decide +kernel
theorem dX2_baseLineAt_114 : decode cX2_baseLineAt 114 = .ok (.isub, 1) := by decide +kernel
theorem dX2_baseLineAt_115 : decode cX2_baseLineAt 115 = .ok (.istore 10, 2) := by decide +kernel
theorem dX2_baseLineAt_117 : decode cX2_baseLineAt 117 = .ok (.iload 10, 2) := by decide +kernel
theorem dX2_baseLineAt_119 : decode cX2_baseLineAt 119 = .ok (.ifCond .ne 11, 3) := by decide +kernel
theorem dX2_baseLineAt_122 : decode cX2_baseLineAt 122 = .ok (.iload 7, 2) := by decide +kernel
theorem dX2_baseLineAt_124 : decode cX2_baseLineAt 124 = .ok (.i2d, 1) := by decide +kernel
theorem dX2_baseLineAt_125 : decode cX2_baseLineAt 125 = .ok (.iload 5, 2) := by decide +kernel
theorem dX2_baseLineAt_127 : decode cX2_baseLineAt 127 = .ok (.i2d, 1) := by decide +kernel
theorem dX2_baseLineAt_128 : decode cX2_baseLineAt 128 = .ok (.ddiv, 1) := by decide +kernel
theorem dX2_baseLineAt_129 : decode cX2_baseLineAt 129 = .ok (.dreturn, 1) := by decide +kernel
theorem dX2_baseLineAt_130 : decode cX2_baseLineAt 130 = .ok (.iload 5, 2) := by decide +kernel
theorem dX2_baseLineAt_132 : decode cX2_baseLineAt 132 = .ok (.iload 9, 2) := by decide +kernel
theorem dX2_baseLineAt_134 : decode cX2_baseLineAt 134 = .ok (.imul, 1) := by decide +kernel
theorem dX2_baseLineAt_135 : decode cX2_baseLineAt 135 = .ok (.iload 6, 2) := by decide +kernel
theorem dX2_baseLineAt_137 : decode cX2_baseLineAt 137 = .ok (.iload 7, 2) := by decide +kernel
theorem dX2_baseLineAt_139 : decode cX2_baseLineAt 139 = .ok (.imul, 1) := by decide +kernel
theorem dX2_baseLineAt_140 : decode cX2_baseLineAt 140 = .ok (.isub, 1) := by decide +kernel
theorem dX2_baseLineAt_141 : decode cX2_baseLineAt 141 = .ok (.i2d, 1) := by decide +kernel
theorem dX2_baseLineAt_142 : decode cX2_baseLineAt 142 = .ok (.iload 10, 2) := by decide +kernel
theorem dX2_baseLineAt_144 : decode cX2_baseLineAt 144 = .ok (.i2d, 1) := by decide +kernel
theorem dX2_baseLineAt_145 : decode cX2_baseLineAt 145 = .ok (.ddiv, 1) := by decide +kernel
theorem dX2_baseLineAt_146 : decode cX2_baseLineAt 146 = .ok (.dstore 11, 2) := by decide +kernel
theorem dX2_baseLineAt_148 : decode cX2_baseLineAt 148 = .ok (.dload 11, 2) := by decide +kernel
theorem dX2_baseLineAt_150 : decode cX2_baseLineAt 150 = .ok (.dload_n 2, 1) := by decide +kernel
theorem dX2_baseLineAt_151 : decode cX2_baseLineAt 151 = .ok (.dmul, 1) := by decide +kernel
theorem dX2_baseLineAt_152 : decode cX2_baseLineAt 152 = .ok (.iload 7, 2) := by decide +kernel
theorem dX2_baseLineAt_154 : decode cX2_baseLineAt 154 = .ok (.i2d, 1) := by decide +kernel
theorem dX2_baseLineAt_155 : decode cX2_baseLineAt 155 = .ok (.dload 11, 2) := by decide +kernel
theorem dX2_baseLineAt_157 : decode cX2_baseLineAt 157 = .ok (.iload 6, 2) := by decide +kernel
theorem dX2_baseLineAt_159 : decode cX2_baseLineAt 159 = .ok (.i2d, 1) := by decide +kernel
theorem dX2_baseLineAt_160 : decode cX2_baseLineAt 160 = .ok (.dmul, 1) := by decide +kernel
theorem dX2_baseLineAt_161 : decode cX2_baseLineAt 161 = .ok (.dsub, 1) := by decide +kernel
theorem dX2_baseLineAt_162 : decode cX2_baseLineAt 162 = .ok (.iload 5, 2) := by decide +kernel
theorem dX2_baseLineAt_164 : decode cX2_baseLineAt 164 = .ok (.i2d, 1) := by decide +kernel
theorem dX2_baseLineAt_165 : decode cX2_baseLineAt 165 = .ok (.ddiv, 1) := by decide +kernel
theorem dX2_baseLineAt_166 : decode cX2_baseLineAt 166 = .ok (.dadd, 1) := by decide +kernel
theorem dX2_baseLineAt_167 : decode cX2_baseLineAt 167 = .ok (.dreturn, 1) := by decide +kernel
set_option maxRecDepth 20000 in
theorem ggX2_lowestOn_X0_isOn : GoodIn wsX2_lowestOn wsX0_isOn := goodIn_r _ [6, 7, 8, 9, 5, 10, 11, 12, 13, 14, 15, 16, 17, 19, 20, 21, 22, 23, 24] (by decide +kernel) (by decide +kernel)
set_option maxRecDepth 20000 in
theorem gX2_lowestOn_X0_isOn : GoodIn wsX2_lowestOn (wsV RX2 48 RX0 yX0_isOn wsX0_isOn) := goodIn_app (goodIn_of _ (by decide +kernel)) ggX2_lowestOn_X0_isOn
theorem dX2_lowestOn_0 : decode cX2_lowestOn 0 = .ok (.iload_n 3, 1) := by decide +kernel
theorem dX2_lowestOn_1 : decode cX2_lowestOn 1 = .ok (.iconst 1, 1) := by decide +kernel
theorem dX2_lowestOn_2 : decode cX2_lowestOn 2 = .ok (.isub, 1) := by decide +kernel
theorem dX2_lowestOn_3 : decode cX2_lowestOn 3 = .ok (.istore 4, 2) := by decide +kernel
theorem dX2_lowestOn_5 : decode cX2_lowestOn 5 = .ok (.iload 4, 2) := by decide +kernel
theorem dX2_lowestOn_7 : decode cX2_lowestOn 7 = .ok (.iload_n 2, 1) := by decide +kernel
theorem dX2_lowestOn_8 : decode cX2_lowestOn 8 = .ok (.if_icmp .lt 25, 3) := by decide +kernel
theorem dX2_lowestOn_11 : decode cX2_lowestOn 11 = .ok (.aload_n 0, 1) := by decide +kernel
theorem dX2_lowestOn_12 : decode cX2_lowestOn 12 = .ok (.getfield 9, 3) := by decide +kernel
theorem dX2_lowestOn_15 : decode cX2_lowestOn 15 = .ok (.iload_n 1, 1) := by decide +kernel
theorem dX2_lowestOn_16 : decode cX2_lowestOn 16 = .ok (.iload 4, 2) := by decide +kernel
theorem dX2_lowestOn_18 : decode cX2_lowestOn 18 = .ok (.invokevirtual 48, 3) := by decide +kernel
theorem dX2_lowestOn_21 : decode cX2_lowestOn 21 = .ok (.ifCond .eq 6, 3) := by decide +kernel
theorem dX2_lowestOn_24 : decode cX2_lowestOn 24 = .ok (.iload 4, 2) := by decide +kernel
theorem dX2_lowestOn_26 : decode cX2_lowestOn 26 = .ok (.ireturn, 1) := by decide +kernel
theorem dX2_lowestOn_27 : decode cX2_lowestOn 27 = .ok (.iinc 4 (-1), 3) := by decide +kernel
theorem dX2_lowestOn_30 : decode cX2_lowestOn 30 = .ok (.goto (-25), 3) := by decide +kernel
theorem dX2_lowestOn_33 : decode cX2_lowestOn 33 = .ok (.iconst (-1), 1) := by decide +kernel
theorem dX2_lowestOn_34 : decode cX2_lowestOn 34 = .ok (.ireturn, 1) := by decide +kernel
theorem dX3_init_0 : decode cX3_init 0 = .ok (.aload_n 0, 1) := by decide +kernel
theorem dX3_init_1 : decode cX3_init 1 = .ok (.invokespecial 3, 3) := by decide +kernel
theorem dX3_init_4 : decode cX3_init 4 = .ok (.aload_n 0, 1) := by decide +kernel
theorem dX3_init_5 : decode cX3_init 5 = .ok (.bipush 48, 2) := by decide +kernel
theorem dX3_init_7 : decode cX3_init 7 = .ok (.newarray .int, 2) := by decide +kernel
theorem dX3_init_9 : decode cX3_init 9 = .ok (.putfield 11, 3) := by decide +kernel
theorem dX3_init_12 : decode cX3_init 12 = .ok (.aload_n 0, 1) := by decide +kernel
theorem dX3_init_13 : decode cX3_init 13 = .ok (.iconst 0, 1) := by decide +kernel
theorem dX3_init_14 : decode cX3_init 14 = .ok (.putfield 15, 3) := by decide +kernel
theorem dX3_init_17 : decode cX3_init 17 = .ok (.aload_n 0, 1) := by decide +kernel
theorem dX3_init_18 : decode cX3_init 18 = .ok (.iconst 0, 1) := by decide +kernel
theorem dX3_init_19 : decode cX3_init 19 = .ok (.putfield 19, 3) := by decide +kernel
theorem dX3_init_22 : decode cX3_init 22 = .ok (.aload_n 0, 1) := by decide +kernel
theorem dX3_init_23 : decode cX3_init 23 = .ok (.dconst 0, 1) := by decide +kernel
theorem dX3_init_24 : decode cX3_init 24 = .ok (.putfield 22, 3) := by decide +kernel
theorem dX3_init_27 : decode cX3_init 27 = .ok (.aload_n 0, 1) := by decide +kernel
theorem dX3_init_28 : decode cX3_init 28 = .ok (.iconst 0, 1) := by decide +kernel
theorem dX3_init_29 : decode cX3_init 29 = .ok (.putfield 26, 3) := by decide +kernel
theorem dX3_init_32 : decode cX3_init 32 = .ok (.aload_n 0, 1) := by decide +kernel
theorem dX3_init_33 : decode cX3_init 33 = .ok (.dconst 0, 1) := by decide +kernel
theorem dX3_init_34 : decode cX3_init 34 = .ok (.putfield 30, 3) := by decide +kernel
theorem dX3_init_37 : decode cX3_init 37 = .ok (.aload_n 0, 1) := by decide +kernel
theorem dX3_init_38 : decode cX3_init 38 = .ok (.aload_n 1, 1) := by decide +kernel
theorem dX3_init_39 : decode cX3_init 39 = .ok (.putfield 33, 3) := by decide +kernel
theorem dX3_init_42 : decode cX3_init 42 = .ok (.return_, 1) := by decide +kernel
theorem dX3_forget_0 : decode cX3_forget 0 = .ok (.aload_n 0, 1) := by decide +kernel
theorem dX3_forget_1 : decode cX3_forget 1 = .ok (.iconst 0, 1) := by decide +kernel
theorem dX3_forget_2 : decode cX3_forget 2 = .ok (.putfield 15, 3) := by decide +kernel
theorem dX3_forget_5 : decode cX3_forget 5 = .ok (.return_, 1) := by decide +kernel
theorem dX3_isAsked_0 : decode cX3_isAsked 0 = .ok (.aload_n 0, 1) := by decide +kernel
theorem dX3_isAsked_1 : decode cX3_isAsked 1 = .ok (.getfield 15, 3) := by decide +kernel
theorem dX3_isAsked_4 : decode cX3_isAsked 4 = .ok (.ireturn, 1) := by decide +kernel
theorem dX3_isSure_0 : decode cX3_isSure 0 = .ok (.aload_n 0, 1) := by decide +kernel
theorem dX3_isSure_1 : decode cX3_isSure 1 = .ok (.getfield 19, 3) := by decide +kernel
theorem dX3_isSure_4 : decode cX3_isSure 4 = .ok (.ireturn, 1) := by decide +kernel
theorem dX3_meanOfGrid_0 : decode cX3_meanOfGrid 0 = .ok (.aload_n 0, 1) := by decide +kernel
theorem dX3_meanOfGrid_1 : decode cX3_meanOfGrid 1 = .ok (.getfield 22, 3) := by decide +kernel
theorem dX3_meanOfGrid_4 : decode cX3_meanOfGrid 4 = .ok (.dreturn, 1) := by decide +kernel
set_option maxRecDepth 20000 in
theorem ggX3_find_X0_samplesOn : GoodIn wsX3_find wsX0_samplesOn := goodIn_r _ [14, 15, 16, 17, 18, 13, 19, 20, 21, 22, 23, 24, 25, 26, 27, 92, 93, 94, 95, 96, 97] (by decide +kernel) (by decide +kernel)
set_option maxRecDepth 20000 in
theorem gX3_find_X0_samplesOn : GoodIn wsX3_find (wsV RX3 37 RX0 yX0_samplesOn wsX0_samplesOn) := goodIn_app (goodIn_of _ (by decide +kernel)) ggX3_find_X0_samplesOn
set_option maxRecDepth 20000 in
theorem ggX3_find_X3_tryGrid : GoodIn wsX3_find wsX3_tryGrid := goodIn_r _ [32, 7, 4, 33, 34, 35, 31, 36, 2, 37, 38, 39, 13, 40, 15, 41, 42, 43, 44, 16, 17, 18, 19, 20, 21, 22, 23, 24, 25, 26, 27, 45, 46, 47, 48, 49, 50, 51, 52, 53, 54, 55, 56, 57, 58, 59, 60, 61, 62, 63, 64, 65, 66, 67, 68, 69, 70, 71, 72, 73, 74, 75, 76, 77, 78, 79, 80, 9, 85, 86, 87, 88, 89, 90, 91, 92, 93, 94, 95, 96, 97] (by decide +kernel) (by decide +kernel)
set_option maxRecDepth 20000 in
theorem gX3_find_X3_tryGrid : GoodIn wsX3_find (wsV RX3 44 RX3 yX3_tryGrid wsX3_tryGrid) := goodIn_app (goodIn_of _ (by decide +kernel)) ggX3_find_X3_tryGrid
set_option maxRecDepth 20000 in
theorem ggX3_find_X3_tryBeside : GoodIn wsX3_find wsX3_tryBeside := goodIn_r _ [84, 9, 7, 33, 34, 35, 31, 36, 2, 37, 38, 39, 13, 40, 15, 41, 42, 43, 44, 16, 17, 18, 19, 20, 21, 22, 23, 24, 25, 26, 27, 45, 46, 47, 48, 49, 50, 51, 52, 53, 54, 55, 56, 57, 58, 59, 60, 61, 62, 63, 64, 65, 66, 67, 68, 69, 70, 71, 72, 73, 74, 75, 76, 77, 78, 79, 80, 85, 86, 87, 88, 89, 90, 91, 92, 93, 94, 95, 96, 97] (by decide +kernel) (by decide +kernel)
set_option maxRecDepth 20000 in
theorem gX3_find_X3_tryBeside : GoodIn wsX3_find (wsV RX3 51 RX3 yX3_tryBeside wsX3_tryBeside) := goodIn_app (goodIn_of _ (by decide +kernel)) ggX3_find_X3_tryBeside
theorem dX3_find_0 : decode cX3_find 0 = .ok (.aload_n 0, 1) := by decide +kernel
theorem dX3_find_1 : decode cX3_find 1 = .ok (.iconst 1, 1) := by decide +kernel
theorem dX3_find_2 : decode cX3_find 2 = .ok (.putfield 15, 3) := by decide +kernel
theorem dX3_find_5 : decode cX3_find 5 = .ok (.aload_n 0, 1) := by decide +kernel
theorem dX3_find_6 : decode cX3_find 6 = .ok (.getfield 33, 3) := by decide +kernel
theorem dX3_find_9 : decode cX3_find 9 = .ok (.invokevirtual 37, 3) := by decide +kernel
theorem dX3_find_12 : decode cX3_find 12 = .ok (.ifCond .ne 16, 3) := by decide +kernel
theorem dX3_find_15 : decode cX3_find 15 = .ok (.aload_n 0, 1) := by decide +kernel
theorem dX3_find_16 : decode cX3_find 16 = .ok (.iconst 0, 1) := by decide +kernel
theorem dX3_find_17 : decode cX3_find 17 = .ok (.putfield 19, 3) := by decide +kernel
theorem dX3_find_20 : decode cX3_find 20 = .ok (.aload_n 0, 1) := by decide +kernel
theorem dX3_find_21 : decode cX3_find 21 = .ok (.dconst 0, 1) := by decide +kernel
theorem dX3_find_22 : decode cX3_find 22 = .ok (.putfield 22, 3) := by decide +kernel
theorem dX3_find_25 : decode cX3_find 25 = .ok (.ldc 43, 2) := by decide +kernel
theorem dX3_find_27 : decode cX3_find 27 = .ok (.ireturn, 1) := by decide +kernel
theorem dX3_find_28 : decode cX3_find 28 = .ok (.aload_n 0, 1) := by decide +kernel
theorem dX3_find_29 : decode cX3_find 29 = .ok (.iload_n 1, 1) := by decide +kernel
theorem dX3_find_30 : decode cX3_find 30 = .ok (.invokevirtual 44, 3) := by decide +kernel
theorem dX3_find_33 : decode cX3_find 33 = .ok (.iconst 0, 1) := by decide +kernel
theorem dX3_find_34 : decode cX3_find 34 = .ok (.istore_n 2, 1) := by decide +kernel
theorem dX3_find_35 : decode cX3_find 35 = .ok (.iload_n 2, 1) := by decide +kernel
theorem dX3_find_36 : decode cX3_find 36 = .ok (.getstatic 48, 3) := by decide +kernel
theorem dX3_find_39 : decode cX3_find 39 = .ok (.arraylength, 1) := by decide +kernel
theorem dX3_find_40 : decode cX3_find 40 = .ok (.if_icmp .ge 19, 3) := by decide +kernel
theorem dX3_find_43 : decode cX3_find 43 = .ok (.aload_n 0, 1) := by decide +kernel
theorem dX3_find_44 : decode cX3_find 44 = .ok (.getstatic 48, 3) := by decide +kernel
theorem dX3_find_47 : decode cX3_find 47 = .ok (.iload_n 2, 1) := by decide +kernel
theorem dX3_find_48 : decode cX3_find 48 = .ok (.iaload, 1) := by decide +kernel
theorem dX3_find_49 : decode cX3_find 49 = .ok (.iload_n 1, 1) := by decide +kernel
theorem dX3_find_50 : decode cX3_find 50 = .ok (.invokevirtual 51, 3) := by decide +kernel
theorem dX3_find_53 : decode cX3_find 53 = .ok (.iinc 2 1, 3) := by decide +kernel
theorem dX3_find_56 : decode cX3_find 56 = .ok (.goto (-21), 3) := by decide +kernel
theorem dX3_find_59 : decode cX3_find 59 = .ok (.aload_n 0, 1) := by decide +kernel
theorem dX3_find_60 : decode cX3_find 60 = .ok (.aload_n 0, 1) := by decide +kernel
theorem dX3_find_61 : decode cX3_find 61 = .ok (.getfield 30, 3) := by decide +kernel
theorem dX3_find_64 : decode cX3_find 64 = .ok (.ldc2_w 55, 3) := by decide +kernel
theorem dX3_find_67 : decode cX3_find 67 = .ok (.aload_n 0, 1) := by decide +kernel
theorem dX3_find_68 : decode cX3_find 68 = .ok (.getfield 22, 3) := by decide +kernel
theorem dX3_find_71 : decode cX3_find 71 = .ok (.dmul, 1) := by decide +kernel
theorem dX3_find_72 : decode cX3_find 72 = .ok (.dcmp .l, 1) := by decide +kernel
theorem dX3_find_73 : decode cX3_find 73 = .ok (.ifCond .lt 7, 3) := by decide +kernel
theorem dX3_find_76 : decode cX3_find 76 = .ok (.iconst 1, 1) := by decide +kernel
theorem dX3_find_77 : decode cX3_find 77 = .ok (.goto 4, 3) := by decide +kernel
theorem dX3_find_80 : decode cX3_find 80 = .ok (.iconst 0, 1) := by decide +kernel
theorem dX3_find_81 : decode cX3_find 81 = .ok (.putfield 19, 3) := by decide +kernel
theorem dX3_find_84 : decode cX3_find 84 = .ok (.aload_n 0, 1) := by decide +kernel
theorem dX3_find_85 : decode cX3_find 85 = .ok (.getfield 26, 3) := by decide +kernel
theorem dX3_find_88 : decode cX3_find 88 = .ok (.ireturn, 1) := by decide +kernel
set_option maxRecDepth 20000 in
theorem ggX3_tryGrid_X3_sumAt : GoodIn wsX3_tryGrid wsX3_sumAt := goodIn_r _ [7, 8, 9, 10, 11, 12, 13, 14, 15, 16, 17, 18, 19, 20, 21, 22, 23, 24, 25, 26, 27, 28, 29, 30, 31, 32, 33, 34, 35, 36, 37, 38, 39, 40, 41, 42, 43, 44, 45, 6, 46, 47, 48, 49, 50, 51, 52, 53, 54, 55, 56, 57, 58, 59, 60, 61, 62, 68, 69, 70, 71, 72, 73, 74, 75, 76, 77, 78, 79, 80] (by decide +kernel) (by decide +kernel)
set_option maxRecDepth 20000 in
theorem gX3_tryGrid_X3_sumAt : GoodIn wsX3_tryGrid (wsV RX3 57 RX3 yX3_sumAt wsX3_sumAt) := goodIn_app (goodIn_of _ (by decide +kernel)) ggX3_tryGrid_X3_sumAt
set_option maxRecDepth 20000 in
theorem ggX3_tryGrid_X3_take : GoodIn wsX3_tryGrid wsX3_take := goodIn_r _ [66, 67, 1, 68, 69, 70, 71, 72, 73, 74] (by decide +kernel) (by decide +kernel)
set_option maxRecDepth 20000 in
theorem gX3_tryGrid_X3_take : GoodIn wsX3_tryGrid (wsV RX3 61 RX3 yX3_take wsX3_take) := goodIn_app (goodIn_of _ (by decide +kernel)) ggX3_tryGrid_X3_take
theorem dX3_tryGrid_0 : decode cX3_tryGrid 0 = .ok (.dconst 0, 1) := by decide +kernel
theorem dX3_tryGrid_1 : decode cX3_tryGrid 1 = .ok (.dstore_n 2, 1) := by decide +kernel
theorem dX3_tryGrid_2 : decode cX3_tryGrid 2 = .ok (.iconst 0, 1) := by decide +kernel
theorem dX3_tryGrid_3 : decode cX3_tryGrid 3 = .ok (.istore 4, 2) := by decide +kernel
theorem dX3_tryGrid_5 : decode cX3_tryGrid 5 = .ok (.iload_n 1, 1) := by decide +kernel
theorem dX3_tryGrid_6 : decode cX3_tryGrid 6 = .ok (.ineg, 1) := by decide +kernel
theorem dX3_tryGrid_7 : decode cX3_tryGrid 7 = .ok (.istore 5, 2) := by decide +kernel
theorem dX3_tryGrid_9 : decode cX3_tryGrid 9 = .ok (.iload 5, 2) := by decide +kernel
theorem dX3_tryGrid_11 : decode cX3_tryGrid 11 = .ok (.iload_n 1, 1) := by decide +kernel
theorem dX3_tryGrid_12 : decode cX3_tryGrid 12 = .ok (.if_icmp .gt 48, 3) := by decide +kernel
theorem dX3_tryGrid_15 : decode cX3_tryGrid 15 = .ok (.aload_n 0, 1) := by decide +kernel
theorem dX3_tryGrid_16 : decode cX3_tryGrid 16 = .ok (.iload 5, 2) := by decide +kernel
theorem dX3_tryGrid_18 : decode cX3_tryGrid 18 = .ok (.invokevirtual 57, 3) := by decide +kernel
theorem dX3_tryGrid_21 : decode cX3_tryGrid 21 = .ok (.dstore 6, 2) := by decide +kernel
theorem dX3_tryGrid_23 : decode cX3_tryGrid 23 = .ok (.iload 4, 2) := by decide +kernel
theorem dX3_tryGrid_25 : decode cX3_tryGrid 25 = .ok (.ifCond .eq 13, 3) := by decide +kernel
theorem dX3_tryGrid_28 : decode cX3_tryGrid 28 = .ok (.dload 6, 2) := by decide +kernel
theorem dX3_tryGrid_30 : decode cX3_tryGrid 30 = .ok (.aload_n 0, 1) := by decide +kernel
theorem dX3_tryGrid_31 : decode cX3_tryGrid 31 = .ok (.getfield 30, 3) := by decide +kernel
theorem dX3_tryGrid_34 : decode cX3_tryGrid 34 = .ok (.dcmp .l, 1) := by decide +kernel
theorem dX3_tryGrid_35 : decode cX3_tryGrid 35 = .ok (.ifCond .le 11, 3) := by decide +kernel
theorem dX3_tryGrid_38 : decode cX3_tryGrid 38 = .ok (.aload_n 0, 1) := by decide +kernel
theorem dX3_tryGrid_39 : decode cX3_tryGrid 39 = .ok (.iload 5, 2) := by decide +kernel
theorem dX3_tryGrid_41 : decode cX3_tryGrid 41 = .ok (.dload 6, 2) := by decide +kernel
theorem dX3_tryGrid_43 : decode cX3_tryGrid 43 = .ok (.invokevirtual 61, 3) := by decide +kernel
theorem dX3_tryGrid_46 : decode cX3_tryGrid 46 = .ok (.dload_n 2, 1) := by decide +kernel
theorem dX3_tryGrid_47 : decode cX3_tryGrid 47 = .ok (.dload 6, 2) := by decide +kernel
theorem dX3_tryGrid_49 : decode cX3_tryGrid 49 = .ok (.dadd, 1) := by decide +kernel
theorem dX3_tryGrid_50 : decode cX3_tryGrid 50 = .ok (.dstore_n 2, 1) := by decide +kernel
theorem dX3_tryGrid_51 : decode cX3_tryGrid 51 = .ok (.iinc 4 1, 3) := by decide +kernel
theorem dX3_tryGrid_54 : decode cX3_tryGrid 54 = .ok (.iinc 5 100, 3) := by decide +kernel
theorem dX3_tryGrid_57 : decode cX3_tryGrid 57 = .ok (.goto (-48), 3) := by decide +kernel
theorem dX3_tryGrid_60 : decode cX3_tryGrid 60 = .ok (.aload_n 0, 1) := by decide +kernel
theorem dX3_tryGrid_61 : decode cX3_tryGrid 61 = .ok (.iload 4, 2) := by decide +kernel
theorem dX3_tryGrid_63 : decode cX3_tryGrid 63 = .ok (.ifCond .le 11, 3) := by decide +kernel
theorem dX3_tryGrid_66 : decode cX3_tryGrid 66 = .ok (.dload_n 2, 1) := by decide +kernel
theorem dX3_tryGrid_67 : decode cX3_tryGrid 67 = .ok (.iload 4, 2) := by decide +kernel
theorem dX3_tryGrid_69 : decode cX3_tryGrid 69 = .ok (.i2d, 1) := by decide +kernel
theorem dX3_tryGrid_70 : decode cX3_tryGrid 70 = .ok (.ddiv, 1) := by decide +kernel
theorem dX3_tryGrid_71 : decode cX3_tryGrid 71 = .ok (.goto 4, 3) := by decide +kernel
theorem dX3_tryGrid_74 : decode cX3_tryGrid 74 = .ok (.dconst 0, 1) := by decide +kernel
theorem dX3_tryGrid_75 : decode cX3_tryGrid 75 = .ok (.putfield 22, 3) := by decide +kernel
theorem dX3_tryGrid_78 : decode cX3_tryGrid 78 = .ok (.return_, 1) := by decide +kernel
set_option maxRecDepth 20000 in
theorem ggX3_tryBeside_X3_sumAt : GoodIn wsX3_tryBeside wsX3_sumAt := goodIn_r _ [7, 8, 9, 10, 11, 12, 13, 14, 15, 16, 17, 18, 19, 20, 21, 22, 23, 24, 25, 26, 27, 28, 29, 30, 31, 32, 33, 34, 35, 36, 37, 38, 39, 40, 41, 42, 43, 44, 45, 6, 46, 47, 48, 49, 50, 51, 52, 53, 54, 55, 56, 57, 58, 59, 60, 61, 62, 67, 68, 69, 70, 71, 72, 73, 74, 75, 76, 77, 78, 79] (by decide +kernel) (by decide +kernel)
set_option maxRecDepth 20000 in
theorem gX3_tryBeside_X3_sumAt : GoodIn wsX3_tryBeside (wsV RX3 57 RX3 yX3_sumAt wsX3_sumAt) := goodIn_app (goodIn_of _ (by decide +kernel)) ggX3_tryBeside_X3_sumAt
set_option maxRecDepth 20000 in
theorem ggX3_tryBeside_X3_take : GoodIn wsX3_tryBeside wsX3_take := goodIn_r _ [66, 1, 2, 67, 68, 69, 70, 71, 72, 73] (by decide +kernel) (by decide +kernel)
set_option maxRecDepth 20000 in
theorem gX3_tryBeside_X3_take : GoodIn wsX3_tryBeside (wsV RX3 61 RX3 yX3_take wsX3_take) := goodIn_app (goodIn_of _ (by decide +kernel)) ggX3_tryBeside_X3_take
theorem dX3_tryBeside_0 : decode cX3_tryBeside 0 = .ok (.aload_n 0, 1) := by decide +kernel
theorem dX3_tryBeside_1 : decode cX3_tryBeside 1 = .ok (.getfield 26, 3) := by decide +kernel
theorem dX3_tryBeside_4 : decode cX3_tryBeside 4 = .ok (.iload_n 1, 1) := by decide +kernel
theorem dX3_tryBeside_5 : decode cX3_tryBeside 5 = .ok (.isub, 1) := by decide +kernel
theorem dX3_tryBeside_6 : decode cX3_tryBeside 6 = .ok (.istore_n 3, 1) := by decide +kernel
theorem dX3_tryBeside_7 : decode cX3_tryBeside 7 = .ok (.aload_n 0, 1) := by decide +kernel
theorem dX3_tryBeside_8 : decode cX3_tryBeside 8 = .ok (.getfield 26, 3) := by decide +kernel
theorem dX3_tryBeside_11 : decode cX3_tryBeside 11 = .ok (.iload_n 1, 1) := by decide +kernel
theorem dX3_tryBeside_12 : decode cX3_tryBeside 12 = .ok (.iadd, 1) := by decide +kernel
theorem dX3_tryBeside_13 : decode cX3_tryBeside 13 = .ok (.istore 4, 2) := by decide +kernel
theorem dX3_tryBeside_15 : decode cX3_tryBeside 15 = .ok (.iload_n 3, 1) := by decide +kernel
theorem dX3_tryBeside_16 : decode cX3_tryBeside 16 = .ok (.iload_n 2, 1) := by decide +kernel
theorem dX3_tryBeside_17 : decode cX3_tryBeside 17 = .ok (.ineg, 1) := by decide +kernel
theorem dX3_tryBeside_18 : decode cX3_tryBeside 18 = .ok (.if_icmp .lt 27, 3) := by decide +kernel
theorem dX3_tryBeside_21 : decode cX3_tryBeside 21 = .ok (.aload_n 0, 1) := by decide +kernel
theorem dX3_tryBeside_22 : decode cX3_tryBeside 22 = .ok (.iload_n 3, 1) := by decide +kernel
theorem dX3_tryBeside_23 : decode cX3_tryBeside 23 = .ok (.invokevirtual 57, 3) := by decide +kernel
theorem dX3_tryBeside_26 : decode cX3_tryBeside 26 = .ok (.dstore 5, 2) := by decide +kernel
theorem dX3_tryBeside_28 : decode cX3_tryBeside 28 = .ok (.dload 5, 2) := by decide +kernel
theorem dX3_tryBeside_30 : decode cX3_tryBeside 30 = .ok (.aload_n 0, 1) := by decide +kernel
theorem dX3_tryBeside_31 : decode cX3_tryBeside 31 = .ok (.getfield 30, 3) := by decide +kernel
theorem dX3_tryBeside_34 : decode cX3_tryBeside 34 = .ok (.dcmp .l, 1) := by decide +kernel
theorem dX3_tryBeside_35 : decode cX3_tryBeside 35 = .ok (.ifCond .lt 10, 3) := by decide +kernel
theorem dX3_tryBeside_38 : decode cX3_tryBeside 38 = .ok (.aload_n 0, 1) := by decide +kernel
theorem dX3_tryBeside_39 : decode cX3_tryBeside 39 = .ok (.iload_n 3, 1) := by decide +kernel
theorem dX3_tryBeside_40 : decode cX3_tryBeside 40 = .ok (.dload 5, 2) := by decide +kernel
theorem dX3_tryBeside_42 : decode cX3_tryBeside 42 = .ok (.invokevirtual 61, 3) := by decide +kernel
theorem dX3_tryBeside_45 : decode cX3_tryBeside 45 = .ok (.iload 4, 2) := by decide +kernel
theorem dX3_tryBeside_47 : decode cX3_tryBeside 47 = .ok (.iload_n 2, 1) := by decide +kernel
theorem dX3_tryBeside_48 : decode cX3_tryBeside 48 = .ok (.if_icmp .gt 29, 3) := by decide +kernel
theorem dX3_tryBeside_51 : decode cX3_tryBeside 51 = .ok (.aload_n 0, 1) := by decide +kernel
theorem dX3_tryBeside_52 : decode cX3_tryBeside 52 = .ok (.iload 4, 2) := by decide +kernel
theorem dX3_tryBeside_54 : decode cX3_tryBeside 54 = .ok (.invokevirtual 57, 3) := by decide +kernel
theorem dX3_tryBeside_57 : decode cX3_tryBeside 57 = .ok (.dstore 5, 2) := by decide +kernel
theorem dX3_tryBeside_59 : decode cX3_tryBeside 59 = .ok (.dload 5, 2) := by decide +kernel
theorem dX3_tryBeside_61 : decode cX3_tryBeside 61 = .ok (.aload_n 0, 1) := by decide +kernel
theorem dX3_tryBeside_62 : decode cX3_tryBeside 62 = .ok (.getfield 30, 3) := by decide +kernel
theorem dX3_tryBeside_65 : decode cX3_tryBeside 65 = .ok (.dcmp .l, 1) := by decide +kernel
theorem dX3_tryBeside_66 : decode cX3_tryBeside 66 = .ok (.ifCond .le 11, 3) := by decide +kernel
theorem dX3_tryBeside_69 : decode cX3_tryBeside 69 = .ok (.aload_n 0, 1) := by decide +kernel
theorem dX3_tryBeside_70 : decode cX3_tryBeside 70 = .ok (.iload 4, 2) := by decide +kernel
theorem dX3_tryBeside_72 : decode cX3_tryBeside 72 = .ok (.dload 5, 2) := by decide +kernel
theorem dX3_tryBeside_74 : decode cX3_tryBeside 74 = .ok (.invokevirtual 61, 3) := by decide +kernel
theorem dX3_tryBeside_77 : decode cX3_tryBeside 77 = .ok (.return_, 1) := by decide +kernel
theorem dX3_take_0 : decode cX3_take 0 = .ok (.aload_n 0, 1) := by decide +kernel
theorem dX3_take_1 : decode cX3_take 1 = .ok (.iload_n 1, 1) := by decide +kernel
theorem dX3_take_2 : decode cX3_take 2 = .ok (.putfield 26, 3) := by decide +kernel
theorem dX3_take_5 : decode cX3_take 5 = .ok (.aload_n 0, 1) := by decide +kernel
theorem dX3_take_6 : decode cX3_take 6 = .ok (.dload_n 2, 1) := by decide +kernel
theorem dX3_take_7 : decode cX3_take 7 = .ok (.putfield 30, 3) := by decide +kernel
theorem dX3_take_10 : decode cX3_take 10 = .ok (.return_, 1) := by decide +kernel
set_option maxRecDepth 20000 in
theorem ggX3_sumAt_X0_runEnds : GoodIn wsX3_sumAt wsX0_runEnds := goodIn_r _ [6, 7, 8, 9, 10, 5, 11, 12, 13, 14, 15, 16, 17, 18, 19, 20, 21, 22, 23, 64, 65, 66, 67, 68, 69] (by decide +kernel) (by decide +kernel)
set_option maxRecDepth 20000 in
theorem gX3_sumAt_X0_runEnds : GoodIn wsX3_sumAt (wsV RX3 65 RX0 yX0_runEnds wsX0_runEnds) := goodIn_app (goodIn_of _ (by decide +kernel)) ggX3_sumAt_X0_runEnds
set_option maxRecDepth 20000 in
theorem ggX3_sumAt_X1_slope : GoodIn wsX3_sumAt wsX1_slope := goodIn_r _ [27, 28, 29, 30, 31, 32, 26, 33, 34, 35] (by decide +kernel) (by decide +kernel)
set_option maxRecDepth 20000 in
theorem gX3_sumAt_X1_slope : GoodIn wsX3_sumAt (va_wsS RX3 68 yX1_slope wsX1_slope) := goodIn_app (goodIn_of _ (by decide +kernel)) ggX3_sumAt_X1_slope
set_option maxRecDepth 20000 in
theorem ggX3_sumAt_X3_countEnds : GoodIn wsX3_sumAt wsX3_countEnds := goodIn_r _ [40, 41, 1, 42, 43, 44, 9, 10, 5, 11, 12, 13, 14, 15, 16, 45, 46, 26, 47, 48, 49, 50, 51, 39, 52, 57, 58, 59, 60, 61, 62, 63, 64, 65, 66, 67, 68, 69] (by decide +kernel) (by decide +kernel)
set_option maxRecDepth 20000 in
theorem gX3_sumAt_X3_countEnds : GoodIn wsX3_sumAt (wsV RX3 74 RX3 yX3_countEnds wsX3_countEnds) := goodIn_app (goodIn_of _ (by decide +kernel)) ggX3_sumAt_X3_countEnds
set_option maxRecDepth 20000 in
theorem ggX3_sumAt_X3_squaresOfCounts : GoodIn wsX3_sumAt wsX3_squaresOfCounts := goodIn_r _ [56, 41, 57, 58, 59, 60, 61, 62, 63] (by decide +kernel) (by decide +kernel)
set_option maxRecDepth 20000 in
theorem gX3_sumAt_X3_squaresOfCounts : GoodIn wsX3_sumAt (wsV RX3 78 RX3 yX3_squaresOfCounts wsX3_squaresOfCounts) := goodIn_app (goodIn_of _ (by decide +kernel)) ggX3_sumAt_X3_squaresOfCounts
theorem dX3_sumAt_0 : decode cX3_sumAt 0 = .ok (.aload_n 0, 1) := by decide +kernel
theorem dX3_sumAt_1 : decode cX3_sumAt 1 = .ok (.getfield 33, 3) := by decide +kernel
theorem dX3_sumAt_4 : decode cX3_sumAt 4 = .ok (.invokevirtual 65, 3) := by decide +kernel
theorem dX3_sumAt_7 : decode cX3_sumAt 7 = .ok (.istore_n 2, 1) := by decide +kernel
theorem dX3_sumAt_8 : decode cX3_sumAt 8 = .ok (.iload_n 2, 1) := by decide +kernel
theorem dX3_sumAt_9 : decode cX3_sumAt 9 = .ok (.ifCond .ne 5, 3) := by decide +kernel
theorem dX3_sumAt_12 : decode cX3_sumAt 12 = .ok (.dconst 0, 1) := by decide +kernel
theorem dX3_sumAt_13 : decode cX3_sumAt 13 = .ok (.dreturn, 1) := by decide +kernel
theorem dX3_sumAt_14 : decode cX3_sumAt 14 = .ok (.aload_n 0, 1) := by decide +kernel
theorem dX3_sumAt_15 : decode cX3_sumAt 15 = .ok (.iload_n 1, 1) := by decide +kernel
theorem dX3_sumAt_16 : decode cX3_sumAt 16 = .ok (.i2d, 1) := by decide +kernel
theorem dX3_sumAt_17 : decode cX3_sumAt 17 = .ok (.invokestatic 68, 3) := by decide +kernel
theorem dX3_sumAt_20 : decode cX3_sumAt 20 = .ok (.invokevirtual 74, 3) := by decide +kernel
theorem dX3_sumAt_23 : decode cX3_sumAt 23 = .ok (.aload_n 0, 1) := by decide +kernel
theorem dX3_sumAt_24 : decode cX3_sumAt 24 = .ok (.invokevirtual 78, 3) := by decide +kernel
theorem dX3_sumAt_27 : decode cX3_sumAt 27 = .ok (.i2d, 1) := by decide +kernel
theorem dX3_sumAt_28 : decode cX3_sumAt 28 = .ok (.iload_n 2, 1) := by decide +kernel
theorem dX3_sumAt_29 : decode cX3_sumAt 29 = .ok (.i2d, 1) := by decide +kernel
theorem dX3_sumAt_30 : decode cX3_sumAt 30 = .ok (.ddiv, 1) := by decide +kernel
theorem dX3_sumAt_31 : decode cX3_sumAt 31 = .ok (.dreturn, 1) := by decide +kernel
set_option maxRecDepth 20000 in
theorem ggX3_countEnds_X0_runEndBits : GoodIn wsX3_countEnds wsX0_runEndBits := goodIn_r _ [9, 10, 11, 12, 8, 13, 14, 32, 33, 34, 35, 36, 37] (by decide +kernel) (by decide +kernel)
set_option maxRecDepth 20000 in
theorem gX3_countEnds_X0_runEndBits : GoodIn wsX3_countEnds (wsV RX3 84 RX0 yX0_runEndBits wsX0_runEndBits) := goodIn_app (goodIn_of _ (by decide +kernel)) ggX3_countEnds_X0_runEndBits
set_option maxRecDepth 20000 in
theorem ggX3_countEnds_X1_whole : GoodIn wsX3_countEnds wsX1_whole := goodIn_r _ [18, 19] (by decide +kernel) (by decide +kernel)
set_option maxRecDepth 20000 in
theorem gX3_countEnds_X1_whole : GoodIn wsX3_countEnds (va_wsS RX3 91 yX1_whole wsX1_whole) := goodIn_app (goodIn_of _ (by decide +kernel)) ggX3_countEnds_X1_whole
set_option maxRecDepth 20000 in
theorem ggX3_countEnds_X3_countOnLine : GoodIn wsX3_countEnds wsX3_countOnLine := goodIn_r _ [24, 1, 25, 26, 27, 28, 29, 30, 31] (by decide +kernel) (by decide +kernel)
set_option maxRecDepth 20000 in
theorem gX3_countEnds_X3_countOnLine : GoodIn wsX3_countEnds (wsV RX3 95 RX3 yX3_countOnLine wsX3_countOnLine) := goodIn_app (goodIn_of _ (by decide +kernel)) ggX3_countEnds_X3_countOnLine
theorem dX3_countEnds_0 : decode cX3_countEnds 0 = .ok (.iconst 0, 1) := by decide +kernel
theorem dX3_countEnds_1 : decode cX3_countEnds 1 = .ok (.istore_n 3, 1) := by decide +kernel
theorem dX3_countEnds_2 : decode cX3_countEnds 2 = .ok (.iload_n 3, 1) := by decide +kernel
theorem dX3_countEnds_3 : decode cX3_countEnds 3 = .ok (.aload_n 0, 1) := by decide +kernel
theorem dX3_countEnds_4 : decode cX3_countEnds 4 = .ok (.getfield 11, 3) := by decide +kernel
theorem dX3_countEnds_7 : decode cX3_countEnds 7 = .ok (.arraylength, 1) := by decide +kernel
theorem dX3_countEnds_8 : decode cX3_countEnds 8 = .ok (.if_icmp .ge 16, 3) := by decide +kernel
theorem dX3_countEnds_11 : decode cX3_countEnds 11 = .ok (.aload_n 0, 1) := by decide +kernel
theorem dX3_countEnds_12 : decode cX3_countEnds 12 = .ok (.getfield 11, 3) := by decide +kernel
theorem dX3_countEnds_15 : decode cX3_countEnds 15 = .ok (.iload_n 3, 1) := by decide +kernel
theorem dX3_countEnds_16 : decode cX3_countEnds 16 = .ok (.iconst 0, 1) := by decide +kernel
theorem dX3_countEnds_17 : decode cX3_countEnds 17 = .ok (.iastore, 1) := by decide +kernel
theorem dX3_countEnds_18 : decode cX3_countEnds 18 = .ok (.iinc 3 1, 3) := by decide +kernel
theorem dX3_countEnds_21 : decode cX3_countEnds 21 = .ok (.goto (-19), 3) := by decide +kernel
theorem dX3_countEnds_24 : decode cX3_countEnds 24 = .ok (.iconst 0, 1) := by decide +kernel
theorem dX3_countEnds_25 : decode cX3_countEnds 25 = .ok (.istore_n 3, 1) := by decide +kernel
theorem dX3_countEnds_26 : decode cX3_countEnds 26 = .ok (.iload_n 3, 1) := by decide +kernel
theorem dX3_countEnds_27 : decode cX3_countEnds 27 = .ok (.aload_n 0, 1) := by decide +kernel
theorem dX3_countEnds_28 : decode cX3_countEnds 28 = .ok (.getfield 33, 3) := by decide +kernel
theorem dX3_countEnds_31 : decode cX3_countEnds 31 = .ok (.getfield 81, 3) := by decide +kernel
theorem dX3_countEnds_34 : decode cX3_countEnds 34 = .ok (.if_icmp .ge 73, 3) := by decide +kernel
theorem dX3_countEnds_37 : decode cX3_countEnds 37 = .ok (.aload_n 0, 1) := by decide +kernel
theorem dX3_countEnds_38 : decode cX3_countEnds 38 = .ok (.getfield 33, 3) := by decide +kernel
theorem dX3_countEnds_41 : decode cX3_countEnds 41 = .ok (.iload_n 3, 1) := by decide +kernel
theorem dX3_countEnds_42 : decode cX3_countEnds 42 = .ok (.invokevirtual 84, 3) := by decide +kernel
theorem dX3_countEnds_45 : decode cX3_countEnds 45 = .ok (.istore 4, 2) := by decide +kernel
theorem dX3_countEnds_47 : decode cX3_countEnds 47 = .ok (.iconst 0, 1) := by decide +kernel
theorem dX3_countEnds_48 : decode cX3_countEnds 48 = .ok (.istore 5, 2) := by decide +kernel
theorem dX3_countEnds_50 : decode cX3_countEnds 50 = .ok (.iload 5, 2) := by decide +kernel
theorem dX3_countEnds_52 : decode cX3_countEnds 52 = .ok (.aload_n 0, 1) := by decide +kernel
theorem dX3_countEnds_53 : decode cX3_countEnds 53 = .ok (.getfield 33, 3) := by decide +kernel
theorem dX3_countEnds_56 : decode cX3_countEnds 56 = .ok (.getfield 88, 3) := by decide +kernel
theorem dX3_countEnds_59 : decode cX3_countEnds 59 = .ok (.if_icmp .ge 42, 3) := by decide +kernel
theorem dX3_countEnds_62 : decode cX3_countEnds 62 = .ok (.iload 4, 2) := by decide +kernel
theorem dX3_countEnds_64 : decode cX3_countEnds 64 = .ok (.iload 5, 2) := by decide +kernel
theorem dX3_countEnds_66 : decode cX3_countEnds 66 = .ok (.iushr, 1) := by decide +kernel
theorem dX3_countEnds_67 : decode cX3_countEnds 67 = .ok (.ifCond .eq 34, 3) := by decide +kernel
theorem dX3_countEnds_70 : decode cX3_countEnds 70 = .ok (.iload 4, 2) := by decide +kernel
theorem dX3_countEnds_72 : decode cX3_countEnds 72 = .ok (.iload 5, 2) := by decide +kernel
theorem dX3_countEnds_74 : decode cX3_countEnds 74 = .ok (.iushr, 1) := by decide +kernel
theorem dX3_countEnds_75 : decode cX3_countEnds 75 = .ok (.iconst 1, 1) := by decide +kernel
theorem dX3_countEnds_76 : decode cX3_countEnds 76 = .ok (.iand, 1) := by decide +kernel
theorem dX3_countEnds_77 : decode cX3_countEnds 77 = .ok (.ifCond .eq 18, 3) := by decide +kernel
theorem dX3_countEnds_80 : decode cX3_countEnds 80 = .ok (.aload_n 0, 1) := by decide +kernel
theorem dX3_countEnds_81 : decode cX3_countEnds 81 = .ok (.iload_n 3, 1) := by decide +kernel
theorem dX3_countEnds_82 : decode cX3_countEnds 82 = .ok (.i2d, 1) := by decide +kernel
theorem dX3_countEnds_83 : decode cX3_countEnds 83 = .ok (.iload 5, 2) := by decide +kernel
theorem dX3_countEnds_85 : decode cX3_countEnds 85 = .ok (.i2d, 1) := by decide +kernel
theorem dX3_countEnds_86 : decode cX3_countEnds 86 = .ok (.dload_n 1, 1) := by decide +kernel
theorem dX3_countEnds_87 : decode cX3_countEnds 87 = .ok (.dmul, 1) := by decide +kernel
theorem dX3_countEnds_88 : decode cX3_countEnds 88 = .ok (.dsub, 1) := by decide +kernel
theorem dX3_countEnds_89 : decode cX3_countEnds 89 = .ok (.invokestatic 91, 3) := by decide +kernel
theorem dX3_countEnds_92 : decode cX3_countEnds 92 = .ok (.invokevirtual 95, 3) := by decide +kernel
theorem dX3_countEnds_95 : decode cX3_countEnds 95 = .ok (.iinc 5 1, 3) := by decide +kernel
theorem dX3_countEnds_98 : decode cX3_countEnds 98 = .ok (.goto (-48), 3) := by decide +kernel
theorem dX3_countEnds_101 : decode cX3_countEnds 101 = .ok (.iinc 3 1, 3) := by decide +kernel
theorem dX3_countEnds_104 : decode cX3_countEnds 104 = .ok (.goto (-78), 3) := by decide +kernel
theorem dX3_countEnds_107 : decode cX3_countEnds 107 = .ok (.return_, 1) := by decide +kernel
theorem dX3_countOnLine_0 : decode cX3_countOnLine 0 = .ok (.iload_n 1, 1) := by decide +kernel
theorem dX3_countOnLine_1 : decode cX3_countOnLine 1 = .ok (.bipush 12, 2) := by decide +kernel
theorem dX3_countOnLine_3 : decode cX3_countOnLine 3 = .ok (.iadd, 1) := by decide +kernel
theorem dX3_countOnLine_4 : decode cX3_countOnLine 4 = .ok (.istore_n 2, 1) := by decide +kernel
theorem dX3_countOnLine_5 : decode cX3_countOnLine 5 = .ok (.iload_n 2, 1) := by decide +kernel
theorem dX3_countOnLine_6 : decode cX3_countOnLine 6 = .ok (.ifCond .lt 22, 3) := by decide +kernel
theorem dX3_countOnLine_9 : decode cX3_countOnLine 9 = .ok (.iload_n 2, 1) := by decide +kernel
theorem dX3_countOnLine_10 : decode cX3_countOnLine 10 = .ok (.aload_n 0, 1) := by decide +kernel
theorem dX3_countOnLine_11 : decode cX3_countOnLine 11 = .ok (.getfield 11, 3) := by decide +kernel
theorem dX3_countOnLine_14 : decode cX3_countOnLine 14 = .ok (.arraylength, 1) := by decide +kernel
theorem dX3_countOnLine_15 : decode cX3_countOnLine 15 = .ok (.if_icmp .ge 13, 3) := by decide +kernel
theorem dX3_countOnLine_18 : decode cX3_countOnLine 18 = .ok (.aload_n 0, 1) := by decide +kernel
theorem dX3_countOnLine_19 : decode cX3_countOnLine 19 = .ok (.getfield 11, 3) := by decide +kernel
theorem dX3_countOnLine_22 : decode cX3_countOnLine 22 = .ok (.iload_n 2, 1) := by decide +kernel
theorem dX3_countOnLine_23 : decode cX3_countOnLine 23 = .ok (.dup2, 1) := by decide +kernel
theorem dX3_countOnLine_24 : decode cX3_countOnLine 24 = .ok (.iaload, 1) := by decide +kernel
theorem dX3_countOnLine_25 : decode cX3_countOnLine 25 = .ok (.iconst 1, 1) := by decide +kernel
theorem dX3_countOnLine_26 : decode cX3_countOnLine 26 = .ok (.iadd, 1) := by decide +kernel
theorem dX3_countOnLine_27 : decode cX3_countOnLine 27 = .ok (.iastore, 1) := by decide +kernel
theorem dX3_countOnLine_28 : decode cX3_countOnLine 28 = .ok (.return_, 1) := by decide +kernel
theorem dX3_squaresOfCounts_0 : decode cX3_squaresOfCounts 0 = .ok (.iconst 0, 1) := by decide +kernel
theorem dX3_squaresOfCounts_1 : decode cX3_squaresOfCounts 1 = .ok (.istore_n 1, 1) := by decide +kernel
theorem dX3_squaresOfCounts_2 : decode cX3_squaresOfCounts 2 = .ok (.iconst 0, 1) := by decide +kernel
theorem dX3_squaresOfCounts_3 : decode cX3_squaresOfCounts 3 = .ok (.istore_n 2, 1) := by decide +kernel
theorem dX3_squaresOfCounts_4 : decode cX3_squaresOfCounts 4 = .ok (.iload_n 2, 1) := by decide +kernel
theorem dX3_squaresOfCounts_5 : decode cX3_squaresOfCounts 5 = .ok (.aload_n 0, 1) := by decide +kernel
theorem dX3_squaresOfCounts_6 : decode cX3_squaresOfCounts 6 = .ok (.getfield 11, 3) := by decide +kernel
theorem dX3_squaresOfCounts_9 : decode cX3_squaresOfCounts 9 = .ok (.arraylength, 1) := by decide +kernel
theorem dX3_squaresOfCounts_10 : decode cX3_squaresOfCounts 10 = .ok (.if_icmp .ge 25, 3) := by decide +kernel
theorem dX3_squaresOfCounts_13 : decode cX3_squaresOfCounts 13 = .ok (.iload_n 1, 1) := by decide +kernel
theorem dX3_squaresOfCounts_14 : decode cX3_squaresOfCounts 14 = .ok (.aload_n 0, 1) := by decide +kernel
theorem dX3_squaresOfCounts_15 : decode cX3_squaresOfCounts 15 = .ok (.getfield 11, 3) := by decide +kernel
theorem dX3_squaresOfCounts_18 : decode cX3_squaresOfCounts 18 = .ok (.iload_n 2, 1) := by decide +kernel
theorem dX3_squaresOfCounts_19 : decode cX3_squaresOfCounts 19 = .ok (.iaload, 1) := by decide +kernel
theorem dX3_squaresOfCounts_20 : decode cX3_squaresOfCounts 20 = .ok (.aload_n 0, 1) := by decide +kernel
theorem dX3_squaresOfCounts_21 : decode cX3_squaresOfCounts 21 = .ok (.getfield 11, 3) := by decide +kernel
theorem dX3_squaresOfCounts_24 : decode cX3_squaresOfCounts 24 = .ok (.iload_n 2, 1) := by decide +kernel
theorem dX3_squaresOfCounts_25 : decode cX3_squaresOfCounts 25 = .ok (.iaload, 1) := by decide +kernel
theorem dX3_squaresOfCounts_26 : decode cX3_squaresOfCounts 26 = .ok (.imul, 1) := by decide +kernel
theorem dX3_squaresOfCounts_27 : decode cX3_squaresOfCounts 27 = .ok (.iadd, 1) := by decide +kernel
theorem dX3_squaresOfCounts_28 : decode cX3_squaresOfCounts 28 = .ok (.istore_n 1, 1) := by decide +kernel
theorem dX3_squaresOfCounts_29 : decode cX3_squaresOfCounts 29 = .ok (.iinc 2 1, 3) := by decide +kernel
theorem dX3_squaresOfCounts_32 : decode cX3_squaresOfCounts 32 = .ok (.goto (-28), 3) := by decide +kernel
theorem dX3_squaresOfCounts_35 : decode cX3_squaresOfCounts 35 = .ok (.iload_n 1, 1) := by decide +kernel
theorem dX3_squaresOfCounts_36 : decode cX3_squaresOfCounts 36 = .ok (.ireturn, 1) := by decide +kernel
set_option maxRecDepth 20000 in
theorem ggX4_init_X4_open : GoodIn wsX4_init wsX4_open := goodIn_r _ [9, 10, 11, 4, 12, 13, 14, 15, 16, 17, 18, 19, 20, 21, 22, 23, 24, 25, 26] (by decide +kernel) (by decide +kernel)
set_option maxRecDepth 20000 in
theorem gX4_init_X4_open : GoodIn wsX4_init (wsV RX4 15 RX4 yX4_open wsX4_open) := goodIn_app (goodIn_of _ (by decide +kernel)) ggX4_init_X4_open
theorem dX4_init_0 : decode cX4_init 0 = .ok (.aload_n 0, 1) := by decide +kernel
theorem dX4_init_1 : decode cX4_init 1 = .ok (.invokespecial 3, 3) := by decide +kernel
theorem dX4_init_4 : decode cX4_init 4 = .ok (.aload_n 0, 1) := by decide +kernel
theorem dX4_init_5 : decode cX4_init 5 = .ok (.aload_n 1, 1) := by decide +kernel
theorem dX4_init_6 : decode cX4_init 6 = .ok (.putfield 9, 3) := by decide +kernel
theorem dX4_init_9 : decode cX4_init 9 = .ok (.aload_n 0, 1) := by decide +kernel
theorem dX4_init_10 : decode cX4_init 10 = .ok (.invokevirtual 15, 3) := by decide +kernel
theorem dX4_init_13 : decode cX4_init 13 = .ok (.return_, 1) := by decide +kernel
theorem dX4_open_0 : decode cX4_open 0 = .ok (.aload_n 0, 1) := by decide +kernel
theorem dX4_open_1 : decode cX4_open 1 = .ok (.iconst 0, 1) := by decide +kernel
theorem dX4_open_2 : decode cX4_open 2 = .ok (.putfield 18, 3) := by decide +kernel
theorem dX4_open_5 : decode cX4_open 5 = .ok (.aload_n 0, 1) := by decide +kernel
theorem dX4_open_6 : decode cX4_open 6 = .ok (.iconst 0, 1) := by decide +kernel
theorem dX4_open_7 : decode cX4_open 7 = .ok (.putfield 22, 3) := by decide +kernel
theorem dX4_open_10 : decode cX4_open 10 = .ok (.aload_n 0, 1) := by decide +kernel
theorem dX4_open_11 : decode cX4_open 11 = .ok (.aload_n 0, 1) := by decide +kernel
theorem dX4_open_12 : decode cX4_open 12 = .ok (.getfield 9, 3) := by decide +kernel
theorem dX4_open_15 : decode cX4_open 15 = .ok (.getfield 25, 3) := by decide +kernel
theorem dX4_open_18 : decode cX4_open 18 = .ok (.putfield 30, 3) := by decide +kernel
theorem dX4_open_21 : decode cX4_open 21 = .ok (.aload_n 0, 1) := by decide +kernel
theorem dX4_open_22 : decode cX4_open 22 = .ok (.aload_n 0, 1) := by decide +kernel
theorem dX4_open_23 : decode cX4_open 23 = .ok (.getfield 9, 3) := by decide +kernel
theorem dX4_open_26 : decode cX4_open 26 = .ok (.getfield 33, 3) := by decide +kernel
theorem dX4_open_29 : decode cX4_open 29 = .ok (.putfield 36, 3) := by decide +kernel
theorem dX4_open_32 : decode cX4_open 32 = .ok (.return_, 1) := by decide +kernel
theorem dX4_end_0 : decode cX4_end 0 = .ok (.iload_n 1, 1) := by decide +kernel
theorem dX4_end_1 : decode cX4_end 1 = .ok (.tableswitch 42 0 2 #[27, 32, 37], 27) := by decide +kernel
theorem dX4_end_28 : decode cX4_end 28 = .ok (.aload_n 0, 1) := by decide +kernel
theorem dX4_end_29 : decode cX4_end 29 = .ok (.getfield 18, 3) := by decide +kernel
theorem dX4_end_32 : decode cX4_end 32 = .ok (.ireturn, 1) := by decide +kernel
theorem dX4_end_33 : decode cX4_end 33 = .ok (.aload_n 0, 1) := by decide +kernel
theorem dX4_end_34 : decode cX4_end 34 = .ok (.getfield 22, 3) := by decide +kernel
theorem dX4_end_37 : decode cX4_end 37 = .ok (.ireturn, 1) := by decide +kernel
theorem dX4_end_38 : decode cX4_end 38 = .ok (.aload_n 0, 1) := by decide +kernel
theorem dX4_end_39 : decode cX4_end 39 = .ok (.getfield 30, 3) := by decide +kernel
theorem dX4_end_42 : decode cX4_end 42 = .ok (.ireturn, 1) := by decide +kernel
theorem dX4_end_43 : decode cX4_end 43 = .ok (.aload_n 0, 1) := by decide +kernel
theorem dX4_end_44 : decode cX4_end 44 = .ok (.getfield 36, 3) := by decide +kernel
theorem dX4_end_47 : decode cX4_end 47 = .ok (.ireturn, 1) := by decide +kernel
set_option maxRecDepth 20000 in
theorem ggX4_cropAt_X0_samplesOn : GoodIn wsX4_cropAt wsX0_samplesOn := goodIn_r _ [10, 11, 12, 13, 14, 9, 15, 16, 17, 18, 19, 20, 21, 22, 23, 69, 70, 71, 72, 73, 74] (by decide +kernel) (by decide +kernel)
set_option maxRecDepth 20000 in
theorem gX4_cropAt_X0_samplesOn : GoodIn wsX4_cropAt (wsV RX4 39 RX0 yX0_samplesOn wsX0_samplesOn) := goodIn_app (goodIn_of _ (by decide +kernel)) ggX4_cropAt_X0_samplesOn
set_option maxRecDepth 20000 in
theorem ggX4_cropAt_X4_end : GoodIn wsX4_cropAt wsX4_end := goodIn_r _ [28, 29, 30, 31, 32, 64, 65, 66, 67, 68] (by decide +kernel) (by decide +kernel)
set_option maxRecDepth 20000 in
theorem gX4_cropAt_X4_end : GoodIn wsX4_cropAt (wsV RX4 43 RX4 yX4_end wsX4_end) := goodIn_app (goodIn_of _ (by decide +kernel)) ggX4_cropAt_X4_end
set_option maxRecDepth 20000 in
theorem ggX4_cropAt_X4_cropLeft : GoodIn wsX4_cropAt wsX4_cropLeft := goodIn_r _ [36, 29, 31, 37, 38, 39, 27, 40, 1, 41, 42, 43, 44, 9, 45, 46, 47, 48, 49, 50, 11, 12, 13, 14, 15, 16, 64, 65, 66, 67, 68, 69, 70, 71, 72, 73, 74] (by decide +kernel) (by decide +kernel)
set_option maxRecDepth 20000 in
theorem gX4_cropAt_X4_cropLeft : GoodIn wsX4_cropAt (wsV RX4 47 RX4 yX4_cropLeft wsX4_cropLeft) := goodIn_app (goodIn_of _ (by decide +kernel)) ggX4_cropAt_X4_cropLeft
set_option maxRecDepth 20000 in
theorem ggX4_cropAt_X4_cropUpper : GoodIn wsX4_cropAt wsX4_cropUpper := goodIn_r _ [54, 30, 32, 1, 55, 13, 14, 9, 15, 16, 64, 65, 66, 67, 68, 69, 70, 71, 72, 73, 74] (by decide +kernel) (by decide +kernel)
set_option maxRecDepth 20000 in
theorem gX4_cropAt_X4_cropUpper : GoodIn wsX4_cropAt (wsV RX4 50 RX4 yX4_cropUpper wsX4_cropUpper) := goodIn_app (goodIn_of _ (by decide +kernel)) ggX4_cropAt_X4_cropUpper
set_option maxRecDepth 20000 in
theorem ggX4_cropAt_X4_cropRight : GoodIn wsX4_cropAt wsX4_cropRight := goodIn_r _ [59, 31, 29, 37, 38, 39, 27, 40, 1, 41, 42, 43, 44, 9, 45, 46, 47, 48, 49, 50, 11, 12, 13, 14, 15, 16, 64, 65, 66, 67, 68, 69, 70, 71, 72, 73, 74] (by decide +kernel) (by decide +kernel)
set_option maxRecDepth 20000 in
theorem gX4_cropAt_X4_cropRight : GoodIn wsX4_cropAt (wsV RX4 53 RX4 yX4_cropRight wsX4_cropRight) := goodIn_app (goodIn_of _ (by decide +kernel)) ggX4_cropAt_X4_cropRight
set_option maxRecDepth 20000 in
theorem ggX4_cropAt_X4_cropLower : GoodIn wsX4_cropAt wsX4_cropLower := goodIn_r _ [63, 32, 30, 1, 55, 13, 14, 9, 15, 16, 64, 65, 66, 67, 68, 69, 70, 71, 72, 73, 74] (by decide +kernel) (by decide +kernel)
set_option maxRecDepth 20000 in
theorem gX4_cropAt_X4_cropLower : GoodIn wsX4_cropAt (wsV RX4 56 RX4 yX4_cropLower wsX4_cropLower) := goodIn_app (goodIn_of _ (by decide +kernel)) ggX4_cropAt_X4_cropLower
theorem dX4_cropAt_0 : decode cX4_cropAt 0 = .ok (.aload_n 0, 1) := by decide +kernel
theorem dX4_cropAt_1 : decode cX4_cropAt 1 = .ok (.getfield 9, 3) := by decide +kernel
theorem dX4_cropAt_4 : decode cX4_cropAt 4 = .ok (.invokevirtual 39, 3) := by decide +kernel
theorem dX4_cropAt_7 : decode cX4_cropAt 7 = .ok (.ifCond .ne 5, 3) := by decide +kernel
theorem dX4_cropAt_10 : decode cX4_cropAt 10 = .ok (.iconst 0, 1) := by decide +kernel
theorem dX4_cropAt_11 : decode cX4_cropAt 11 = .ok (.ireturn, 1) := by decide +kernel
theorem dX4_cropAt_12 : decode cX4_cropAt 12 = .ok (.aload_n 0, 1) := by decide +kernel
theorem dX4_cropAt_13 : decode cX4_cropAt 13 = .ok (.iload_n 1, 1) := by decide +kernel
theorem dX4_cropAt_14 : decode cX4_cropAt 14 = .ok (.invokevirtual 43, 3) := by decide +kernel
theorem dX4_cropAt_17 : decode cX4_cropAt 17 = .ok (.istore_n 2, 1) := by decide +kernel
theorem dX4_cropAt_18 : decode cX4_cropAt 18 = .ok (.iload_n 1, 1) := by decide +kernel
theorem dX4_cropAt_19 : decode cX4_cropAt 19 = .ok (.tableswitch 46 0 2 #[25, 32, 39], 25) := by decide +kernel
theorem dX4_cropAt_44 : decode cX4_cropAt 44 = .ok (.aload_n 0, 1) := by decide +kernel
theorem dX4_cropAt_45 : decode cX4_cropAt 45 = .ok (.invokevirtual 47, 3) := by decide +kernel
theorem dX4_cropAt_48 : decode cX4_cropAt 48 = .ok (.goto 21, 3) := by decide +kernel
theorem dX4_cropAt_51 : decode cX4_cropAt 51 = .ok (.aload_n 0, 1) := by decide +kernel
theorem dX4_cropAt_52 : decode cX4_cropAt 52 = .ok (.invokevirtual 50, 3) := by decide +kernel
theorem dX4_cropAt_55 : decode cX4_cropAt 55 = .ok (.goto 14, 3) := by decide +kernel
theorem dX4_cropAt_58 : decode cX4_cropAt 58 = .ok (.aload_n 0, 1) := by decide +kernel
theorem dX4_cropAt_59 : decode cX4_cropAt 59 = .ok (.invokevirtual 53, 3) := by decide +kernel
theorem dX4_cropAt_62 : decode cX4_cropAt 62 = .ok (.goto 7, 3) := by decide +kernel
theorem dX4_cropAt_65 : decode cX4_cropAt 65 = .ok (.aload_n 0, 1) := by decide +kernel
theorem dX4_cropAt_66 : decode cX4_cropAt 66 = .ok (.invokevirtual 56, 3) := by decide +kernel
theorem dX4_cropAt_69 : decode cX4_cropAt 69 = .ok (.aload_n 0, 1) := by decide +kernel
theorem dX4_cropAt_70 : decode cX4_cropAt 70 = .ok (.iload_n 1, 1) := by decide +kernel
theorem dX4_cropAt_71 : decode cX4_cropAt 71 = .ok (.invokevirtual 43, 3) := by decide +kernel
theorem dX4_cropAt_74 : decode cX4_cropAt 74 = .ok (.iload_n 2, 1) := by decide +kernel
theorem dX4_cropAt_75 : decode cX4_cropAt 75 = .ok (.isub, 1) := by decide +kernel
theorem dX4_cropAt_76 : decode cX4_cropAt 76 = .ok (.invokestatic 59, 3) := by decide +kernel
theorem dX4_cropAt_79 : decode cX4_cropAt 79 = .ok (.ireturn, 1) := by decide +kernel
set_option maxRecDepth 20000 in
theorem ggX4_cropLeft_X4_columnIsEmpty : GoodIn wsX4_cropLeft wsX4_columnIsEmpty := goodIn_r _ [7, 8, 9, 10, 11, 12, 13, 14, 15, 16, 17, 18, 19, 20, 21, 22, 23, 24, 25, 26, 27, 28, 29, 30, 31, 32, 33, 34, 35, 36] (by decide +kernel) (by decide +kernel)
set_option maxRecDepth 20000 in
theorem gX4_cropLeft_X4_columnIsEmpty : GoodIn wsX4_cropLeft (wsV RX4 64 RX4 yX4_columnIsEmpty wsX4_columnIsEmpty) := goodIn_app (goodIn_of _ (by decide +kernel)) ggX4_cropLeft_X4_columnIsEmpty
theorem dX4_cropLeft_0 : decode cX4_cropLeft 0 = .ok (.aload_n 0, 1) := by decide +kernel
theorem dX4_cropLeft_1 : decode cX4_cropLeft 1 = .ok (.getfield 18, 3) := by decide +kernel
theorem dX4_cropLeft_4 : decode cX4_cropLeft 4 = .ok (.aload_n 0, 1) := by decide +kernel
theorem dX4_cropLeft_5 : decode cX4_cropLeft 5 = .ok (.getfield 30, 3) := by decide +kernel
theorem dX4_cropLeft_8 : decode cX4_cropLeft 8 = .ok (.if_icmp .ge 27, 3) := by decide +kernel
theorem dX4_cropLeft_11 : decode cX4_cropLeft 11 = .ok (.aload_n 0, 1) := by decide +kernel
theorem dX4_cropLeft_12 : decode cX4_cropLeft 12 = .ok (.aload_n 0, 1) := by decide +kernel
theorem dX4_cropLeft_13 : decode cX4_cropLeft 13 = .ok (.getfield 18, 3) := by decide +kernel
theorem dX4_cropLeft_16 : decode cX4_cropLeft 16 = .ok (.invokevirtual 64, 3) := by decide +kernel
theorem dX4_cropLeft_19 : decode cX4_cropLeft 19 = .ok (.ifCond .eq 16, 3) := by decide +kernel
theorem dX4_cropLeft_22 : decode cX4_cropLeft 22 = .ok (.aload_n 0, 1) := by decide +kernel
theorem dX4_cropLeft_23 : decode cX4_cropLeft 23 = .ok (.dup, 1) := by decide +kernel
theorem dX4_cropLeft_24 : decode cX4_cropLeft 24 = .ok (.getfield 18, 3) := by decide +kernel
theorem dX4_cropLeft_27 : decode cX4_cropLeft 27 = .ok (.iconst 1, 1) := by decide +kernel
theorem dX4_cropLeft_28 : decode cX4_cropLeft 28 = .ok (.iadd, 1) := by decide +kernel
theorem dX4_cropLeft_29 : decode cX4_cropLeft 29 = .ok (.putfield 18, 3) := by decide +kernel
theorem dX4_cropLeft_32 : decode cX4_cropLeft 32 = .ok (.goto (-32), 3) := by decide +kernel
theorem dX4_cropLeft_35 : decode cX4_cropLeft 35 = .ok (.return_, 1) := by decide +kernel
set_option maxRecDepth 20000 in
theorem ggX4_cropUpper_X0_rowBits : GoodIn wsX4_cropUpper wsX0_rowBits := goodIn_r _ [8, 9, 15, 16, 17, 18, 19, 20] (by decide +kernel) (by decide +kernel)
set_option maxRecDepth 20000 in
theorem gX4_cropUpper_X0_rowBits : GoodIn wsX4_cropUpper (wsV RX4 68 RX0 yX0_rowBits wsX0_rowBits) := goodIn_app (goodIn_of _ (by decide +kernel)) ggX4_cropUpper_X0_rowBits
theorem dX4_cropUpper_0 : decode cX4_cropUpper 0 = .ok (.aload_n 0, 1) := by decide +kernel
theorem dX4_cropUpper_1 : decode cX4_cropUpper 1 = .ok (.getfield 22, 3) := by decide +kernel
theorem dX4_cropUpper_4 : decode cX4_cropUpper 4 = .ok (.aload_n 0, 1) := by decide +kernel
theorem dX4_cropUpper_5 : decode cX4_cropUpper 5 = .ok (.getfield 36, 3) := by decide +kernel
theorem dX4_cropUpper_8 : decode cX4_cropUpper 8 = .ok (.if_icmp .ge 30, 3) := by decide +kernel
theorem dX4_cropUpper_11 : decode cX4_cropUpper 11 = .ok (.aload_n 0, 1) := by decide +kernel
theorem dX4_cropUpper_12 : decode cX4_cropUpper 12 = .ok (.getfield 9, 3) := by decide +kernel
theorem dX4_cropUpper_15 : decode cX4_cropUpper 15 = .ok (.aload_n 0, 1) := by decide +kernel
theorem dX4_cropUpper_16 : decode cX4_cropUpper 16 = .ok (.getfield 22, 3) := by decide +kernel
theorem dX4_cropUpper_19 : decode cX4_cropUpper 19 = .ok (.invokevirtual 68, 3) := by decide +kernel
theorem dX4_cropUpper_22 : decode cX4_cropUpper 22 = .ok (.ifCond .ne 16, 3) := by decide +kernel
theorem dX4_cropUpper_25 : decode cX4_cropUpper 25 = .ok (.aload_n 0, 1) := by decide +kernel
theorem dX4_cropUpper_26 : decode cX4_cropUpper 26 = .ok (.dup, 1) := by decide +kernel
theorem dX4_cropUpper_27 : decode cX4_cropUpper 27 = .ok (.getfield 22, 3) := by decide +kernel
theorem dX4_cropUpper_30 : decode cX4_cropUpper 30 = .ok (.iconst 1, 1) := by decide +kernel
theorem dX4_cropUpper_31 : decode cX4_cropUpper 31 = .ok (.iadd, 1) := by decide +kernel
theorem dX4_cropUpper_32 : decode cX4_cropUpper 32 = .ok (.putfield 22, 3) := by decide +kernel
theorem dX4_cropUpper_35 : decode cX4_cropUpper 35 = .ok (.goto (-35), 3) := by decide +kernel
theorem dX4_cropUpper_38 : decode cX4_cropUpper 38 = .ok (.return_, 1) := by decide +kernel
set_option maxRecDepth 20000 in
theorem ggX4_cropRight_X4_columnIsEmpty : GoodIn wsX4_cropRight wsX4_columnIsEmpty := goodIn_r _ [7, 8, 9, 10, 11, 12, 13, 14, 15, 16, 17, 18, 19, 20, 21, 22, 23, 24, 25, 26, 27, 28, 29, 30, 31, 32, 33, 34, 35, 36] (by decide +kernel) (by decide +kernel)
set_option maxRecDepth 20000 in
theorem gX4_cropRight_X4_columnIsEmpty : GoodIn wsX4_cropRight (wsV RX4 64 RX4 yX4_columnIsEmpty wsX4_columnIsEmpty) := goodIn_app (goodIn_of _ (by decide +kernel)) ggX4_cropRight_X4_columnIsEmpty
theorem dX4_cropRight_0 : decode cX4_cropRight 0 = .ok (.aload_n 0, 1) := by decide +kernel
theorem dX4_cropRight_1 : decode cX4_cropRight 1 = .ok (.getfield 30, 3) := by decide +kernel
theorem dX4_cropRight_4 : decode cX4_cropRight 4 = .ok (.aload_n 0, 1) := by decide +kernel
theorem dX4_cropRight_5 : decode cX4_cropRight 5 = .ok (.getfield 18, 3) := by decide +kernel
theorem dX4_cropRight_8 : decode cX4_cropRight 8 = .ok (.if_icmp .le 29, 3) := by decide +kernel
theorem dX4_cropRight_11 : decode cX4_cropRight 11 = .ok (.aload_n 0, 1) := by decide +kernel
theorem dX4_cropRight_12 : decode cX4_cropRight 12 = .ok (.aload_n 0, 1) := by decide +kernel
theorem dX4_cropRight_13 : decode cX4_cropRight 13 = .ok (.getfield 30, 3) := by decide +kernel
theorem dX4_cropRight_16 : decode cX4_cropRight 16 = .ok (.iconst 1, 1) := by decide +kernel
theorem dX4_cropRight_17 : decode cX4_cropRight 17 = .ok (.isub, 1) := by decide +kernel
theorem dX4_cropRight_18 : decode cX4_cropRight 18 = .ok (.invokevirtual 64, 3) := by decide +kernel
theorem dX4_cropRight_21 : decode cX4_cropRight 21 = .ok (.ifCond .eq 16, 3) := by decide +kernel
theorem dX4_cropRight_24 : decode cX4_cropRight 24 = .ok (.aload_n 0, 1) := by decide +kernel
theorem dX4_cropRight_25 : decode cX4_cropRight 25 = .ok (.dup, 1) := by decide +kernel
theorem dX4_cropRight_26 : decode cX4_cropRight 26 = .ok (.getfield 30, 3) := by decide +kernel
theorem dX4_cropRight_29 : decode cX4_cropRight 29 = .ok (.iconst 1, 1) := by decide +kernel
theorem dX4_cropRight_30 : decode cX4_cropRight 30 = .ok (.isub, 1) := by decide +kernel
theorem dX4_cropRight_31 : decode cX4_cropRight 31 = .ok (.putfield 30, 3) := by decide +kernel
theorem dX4_cropRight_34 : decode cX4_cropRight 34 = .ok (.goto (-34), 3) := by decide +kernel
theorem dX4_cropRight_37 : decode cX4_cropRight 37 = .ok (.return_, 1) := by decide +kernel
set_option maxRecDepth 20000 in
theorem ggX4_cropLower_X0_rowBits : GoodIn wsX4_cropLower wsX0_rowBits := goodIn_r _ [8, 9, 15, 16, 17, 18, 19, 20] (by decide +kernel) (by decide +kernel)
set_option maxRecDepth 20000 in
theorem gX4_cropLower_X0_rowBits : GoodIn wsX4_cropLower (wsV RX4 68 RX0 yX0_rowBits wsX0_rowBits) := goodIn_app (goodIn_of _ (by decide +kernel)) ggX4_cropLower_X0_rowBits
theorem dX4_cropLower_0 : decode cX4_cropLower 0 = .ok (.aload_n 0, 1) := by decide +kernel
theorem dX4_cropLower_1 : decode cX4_cropLower 1 = .ok (.getfield 36, 3) := by decide +kernel
theorem dX4_cropLower_4 : decode cX4_cropLower 4 = .ok (.aload_n 0, 1) := by decide +kernel
theorem dX4_cropLower_5 : decode cX4_cropLower 5 = .ok (.getfield 22, 3) := by decide +kernel
theorem dX4_cropLower_8 : decode cX4_cropLower 8 = .ok (.if_icmp .le 32, 3) := by decide +kernel
theorem dX4_cropLower_11 : decode cX4_cropLower 11 = .ok (.aload_n 0, 1) := by decide +kernel
theorem dX4_cropLower_12 : decode cX4_cropLower 12 = .ok (.getfield 9, 3) := by decide +kernel
theorem dX4_cropLower_15 : decode cX4_cropLower 15 = .ok (.aload_n 0, 1) := by decide +kernel
theorem dX4_cropLower_16 : decode cX4_cropLower 16 = .ok (.getfield 36, 3) := by decide +kernel
theorem dX4_cropLower_19 : decode cX4_cropLower 19 = .ok (.iconst 1, 1) := by decide +kernel
theorem dX4_cropLower_20 : decode cX4_cropLower 20 = .ok (.isub, 1) := by decide +kernel
theorem dX4_cropLower_21 : decode cX4_cropLower 21 = .ok (.invokevirtual 68, 3) := by decide +kernel
theorem dX4_cropLower_24 : decode cX4_cropLower 24 = .ok (.ifCond .ne 16, 3) := by decide +kernel
theorem dX4_cropLower_27 : decode cX4_cropLower 27 = .ok (.aload_n 0, 1) := by decide +kernel
theorem dX4_cropLower_28 : decode cX4_cropLower 28 = .ok (.dup, 1) := by decide +kernel
theorem dX4_cropLower_29 : decode cX4_cropLower 29 = .ok (.getfield 36, 3) := by decide +kernel
theorem dX4_cropLower_32 : decode cX4_cropLower 32 = .ok (.iconst 1, 1) := by decide +kernel
theorem dX4_cropLower_33 : decode cX4_cropLower 33 = .ok (.isub, 1) := by decide +kernel
theorem dX4_cropLower_34 : decode cX4_cropLower 34 = .ok (.putfield 36, 3) := by decide +kernel
theorem dX4_cropLower_37 : decode cX4_cropLower 37 = .ok (.goto (-37), 3) := by decide +kernel
theorem dX4_cropLower_40 : decode cX4_cropLower 40 = .ok (.return_, 1) := by decide +kernel
set_option maxRecDepth 20000 in
theorem ggX4_columnIsEmpty_X0_isOn : GoodIn wsX4_columnIsEmpty wsX0_isOn := goodIn_r _ [7, 8, 9, 10, 6, 11, 12, 13, 14, 15, 16, 17, 18, 24, 25, 26, 27, 28, 29] (by decide +kernel) (by decide +kernel)
set_option maxRecDepth 20000 in
theorem gX4_columnIsEmpty_X0_isOn : GoodIn wsX4_columnIsEmpty (wsV RX4 71 RX0 yX0_isOn wsX0_isOn) := goodIn_app (goodIn_of _ (by decide +kernel)) ggX4_columnIsEmpty_X0_isOn
theorem dX4_columnIsEmpty_0 : decode cX4_columnIsEmpty 0 = .ok (.iconst 0, 1) := by decide +kernel
theorem dX4_columnIsEmpty_1 : decode cX4_columnIsEmpty 1 = .ok (.istore_n 2, 1) := by decide +kernel
theorem dX4_columnIsEmpty_2 : decode cX4_columnIsEmpty 2 = .ok (.iload_n 2, 1) := by decide +kernel
theorem dX4_columnIsEmpty_3 : decode cX4_columnIsEmpty 3 = .ok (.aload_n 0, 1) := by decide +kernel
theorem dX4_columnIsEmpty_4 : decode cX4_columnIsEmpty 4 = .ok (.getfield 9, 3) := by decide +kernel
theorem dX4_columnIsEmpty_7 : decode cX4_columnIsEmpty 7 = .ok (.getfield 33, 3) := by decide +kernel
theorem dX4_columnIsEmpty_10 : decode cX4_columnIsEmpty 10 = .ok (.if_icmp .ge 23, 3) := by decide +kernel
theorem dX4_columnIsEmpty_13 : decode cX4_columnIsEmpty 13 = .ok (.aload_n 0, 1) := by decide +kernel
theorem dX4_columnIsEmpty_14 : decode cX4_columnIsEmpty 14 = .ok (.getfield 9, 3) := by decide +kernel
theorem dX4_columnIsEmpty_17 : decode cX4_columnIsEmpty 17 = .ok (.iload_n 1, 1) := by decide +kernel
theorem dX4_columnIsEmpty_18 : decode cX4_columnIsEmpty 18 = .ok (.iload_n 2, 1) := by decide +kernel
theorem dX4_columnIsEmpty_19 : decode cX4_columnIsEmpty 19 = .ok (.invokevirtual 71, 3) := by decide +kernel
theorem dX4_columnIsEmpty_22 : decode cX4_columnIsEmpty 22 = .ok (.ifCond .eq 5, 3) := by decide +kernel
theorem dX4_columnIsEmpty_25 : decode cX4_columnIsEmpty 25 = .ok (.iconst 0, 1) := by decide +kernel
theorem dX4_columnIsEmpty_26 : decode cX4_columnIsEmpty 26 = .ok (.ireturn, 1) := by decide +kernel
theorem dX4_columnIsEmpty_27 : decode cX4_columnIsEmpty 27 = .ok (.iinc 2 1, 3) := by decide +kernel
theorem dX4_columnIsEmpty_30 : decode cX4_columnIsEmpty 30 = .ok (.goto (-28), 3) := by decide +kernel
theorem dX4_columnIsEmpty_33 : decode cX4_columnIsEmpty 33 = .ok (.iconst 1, 1) := by decide +kernel
theorem dX4_columnIsEmpty_34 : decode cX4_columnIsEmpty 34 = .ok (.ireturn, 1) := by decide +kernel
set_option maxRecDepth 20000 in
theorem ggX5_init_X5_nearestSide : GoodIn wsX5_init wsX5_nearestSide := goodIn_r _ [26, 27, 28, 29, 30, 31, 32, 33] (by decide +kernel) (by decide +kernel)
set_option maxRecDepth 20000 in
theorem gX5_init_X5_nearestSide : GoodIn wsX5_init (va_wsS RX5 19 yX5_nearestSide wsX5_nearestSide) := goodIn_app (goodIn_of _ (by decide +kernel)) ggX5_init_X5_nearestSide
set_option maxRecDepth 20000 in
theorem ggX5_init_X0_init : GoodIn wsX5_init wsX0_init := goodIn_r _ [36, 37, 2, 3, 38, 39, 40, 41, 42, 4, 43, 44, 82, 83, 84, 85, 86, 87] (by decide +kernel) (by decide +kernel)
set_option maxRecDepth 20000 in
theorem gX5_init_X0_init : GoodIn wsX5_init (wsX0_init) := ggX5_init_X0_init
set_option maxRecDepth 20000 in
theorem ggX5_init_X4_init : GoodIn wsX5_init wsX4_init := goodIn_r _ [47, 48, 2, 3, 49, 50, 51, 52, 13, 53, 54, 55, 56, 57, 58, 59, 88, 89, 90, 91, 92, 82, 83, 84, 85, 86, 87] (by decide +kernel) (by decide +kernel)
set_option maxRecDepth 20000 in
theorem gX5_init_X4_init : GoodIn wsX5_init (wsX4_init) := ggX5_init_X4_init
set_option maxRecDepth 20000 in
theorem ggX5_init_X3_init : GoodIn wsX5_init wsX3_init := goodIn_r _ [62, 63, 2, 3, 4, 64, 65, 66, 67, 68, 69, 70, 93, 94, 95, 96, 97, 98, 99] (by decide +kernel) (by decide +kernel)
set_option maxRecDepth 20000 in
theorem gX5_init_X3_init : GoodIn wsX5_init (wsX3_init) := ggX5_init_X3_init
set_option maxRecDepth 20000 in
theorem ggX5_init_X2_init : GoodIn wsX5_init wsX2_init := goodIn_r _ [73, 74, 2, 3, 75, 100] (by decide +kernel) (by decide +kernel)
set_option maxRecDepth 20000 in
theorem gX5_init_X2_init : GoodIn wsX5_init (wsX2_init) := ggX5_init_X2_init
theorem dX5_init_0 : decode cX5_init 0 = .ok (.aload_n 0, 1) := by decide +kernel
theorem dX5_init_1 : decode cX5_init 1 = .ok (.invokespecial 1, 3) := by decide +kernel
theorem dX5_init_4 : decode cX5_init 4 = .ok (.aload_n 0, 1) := by decide +kernel
theorem dX5_init_5 : decode cX5_init 5 = .ok (.bipush 16, 2) := by decide +kernel
theorem dX5_init_7 : decode cX5_init 7 = .ok (.newarray .int, 2) := by decide +kernel
theorem dX5_init_9 : decode cX5_init 9 = .ok (.putfield 9, 3) := by decide +kernel
theorem dX5_init_12 : decode cX5_init 12 = .ok (.aload_n 0, 1) := by decide +kernel
theorem dX5_init_13 : decode cX5_init 13 = .ok (.iconst 0, 1) := by decide +kernel
theorem dX5_init_14 : decode cX5_init 14 = .ok (.putfield 13, 3) := by decide +kernel
theorem dX5_init_17 : decode cX5_init 17 = .ok (.aload_n 0, 1) := by decide +kernel
theorem dX5_init_18 : decode cX5_init 18 = .ok (.new 17, 3) := by decide +kernel
theorem dX5_init_21 : decode cX5_init 21 = .ok (.dup, 1) := by decide +kernel
theorem dX5_init_22 : decode cX5_init 22 = .ok (.iload_n 1, 1) := by decide +kernel
theorem dX5_init_23 : decode cX5_init 23 = .ok (.invokestatic 19, 3) := by decide +kernel
theorem dX5_init_26 : decode cX5_init 26 = .ok (.iload_n 2, 1) := by decide +kernel
theorem dX5_init_27 : decode cX5_init 27 = .ok (.invokestatic 19, 3) := by decide +kernel
theorem dX5_init_30 : decode cX5_init 30 = .ok (.invokespecial 23, 3) := by decide +kernel
theorem dX5_init_33 : decode cX5_init 33 = .ok (.putfield 26, 3) := by decide +kernel
theorem dX5_init_36 : decode cX5_init 36 = .ok (.aload_n 0, 1) := by decide +kernel
theorem dX5_init_37 : decode cX5_init 37 = .ok (.new 30, 3) := by decide +kernel
theorem dX5_init_40 : decode cX5_init 40 = .ok (.dup, 1) := by decide +kernel
theorem dX5_init_41 : decode cX5_init 41 = .ok (.aload_n 0, 1) := by decide +kernel
theorem dX5_init_42 : decode cX5_init 42 = .ok (.getfield 26, 3) := by decide +kernel
theorem dX5_init_45 : decode cX5_init 45 = .ok (.invokespecial 32, 3) := by decide +kernel
theorem dX5_init_48 : decode cX5_init 48 = .ok (.putfield 35, 3) := by decide +kernel
theorem dX5_init_51 : decode cX5_init 51 = .ok (.aload_n 0, 1) := by decide +kernel
theorem dX5_init_52 : decode cX5_init 52 = .ok (.new 39, 3) := by decide +kernel
theorem dX5_init_55 : decode cX5_init 55 = .ok (.dup, 1) := by decide +kernel
theorem dX5_init_56 : decode cX5_init 56 = .ok (.aload_n 0, 1) := by decide +kernel
theorem dX5_init_57 : decode cX5_init 57 = .ok (.getfield 26, 3) := by decide +kernel
theorem dX5_init_60 : decode cX5_init 60 = .ok (.invokespecial 41, 3) := by decide +kernel
theorem dX5_init_63 : decode cX5_init 63 = .ok (.putfield 42, 3) := by decide +kernel
theorem dX5_init_66 : decode cX5_init 66 = .ok (.aload_n 0, 1) := by decide +kernel
theorem dX5_init_67 : decode cX5_init 67 = .ok (.new 46, 3) := by decide +kernel
theorem dX5_init_70 : decode cX5_init 70 = .ok (.dup, 1) := by decide +kernel
theorem dX5_init_71 : decode cX5_init 71 = .ok (.aload_n 0, 1) := by decide +kernel
theorem dX5_init_72 : decode cX5_init 72 = .ok (.getfield 26, 3) := by decide +kernel
theorem dX5_init_75 : decode cX5_init 75 = .ok (.invokespecial 48, 3) := by decide +kernel
theorem dX5_init_78 : decode cX5_init 78 = .ok (.putfield 49, 3) := by decide +kernel
theorem dX5_init_81 : decode cX5_init 81 = .ok (.return_, 1) := by decide +kernel
set_option maxRecDepth 20000 in
theorem ggX5_put_X5_checkSample : GoodIn wsX5_put wsX5_checkSample := goodIn_ca (goodIn_r _ [8, 9, 10, 3, 11, 12, 13, 14, 15, 16, 17, 70, 71, 72, 73, 74, 75, 76, 77, 78, 79, 80, 81] (by decide +kernel) (by decide +kernel)) (goodIn_sub (fun _ h => List.mem_cons_of_mem _ (List.mem_append_right _ h)) (by decide +kernel))
set_option maxRecDepth 20000 in
theorem gX5_put_X5_checkSample : GoodIn wsX5_put (wsV RX5 53 RX5 yX5_checkSample wsX5_checkSample) := goodIn_app (goodIn_of _ (by decide +kernel)) ggX5_put_X5_checkSample
set_option maxRecDepth 20000 in
theorem ggX5_put_X0_fill : GoodIn wsX5_put wsX0_fill := goodIn_r _ [21, 16, 22, 23, 24, 25, 26, 12, 13, 14, 15, 17, 27, 28, 29, 30, 31, 32, 33, 34, 35, 36, 37, 38, 39, 40, 41, 42, 43, 44, 45, 76, 77, 78, 79, 80, 81] (by decide +kernel) (by decide +kernel)
set_option maxRecDepth 20000 in
theorem gX5_put_X0_fill : GoodIn wsX5_put (wsV RX5 63 RX0 yX0_fill wsX0_fill) := goodIn_app (goodIn_of _ (by decide +kernel)) ggX5_put_X0_fill
set_option maxRecDepth 20000 in
theorem ggX5_put_X5_noteChange : GoodIn wsX5_put wsX5_noteChange := goodIn_r _ [49, 50, 51, 52, 53, 54, 55, 56, 57, 58, 59, 60, 61, 62, 63, 64, 65, 66, 67, 68, 69, 70, 71, 72, 73, 74, 75, 82, 83, 84, 85, 86, 76, 77, 78, 79, 80, 81, 87, 88, 89, 90, 91, 92, 93] (by decide +kernel) (by decide +kernel)
set_option maxRecDepth 20000 in
theorem gX5_put_X5_noteChange : GoodIn wsX5_put (wsV RX5 67 RX5 yX5_noteChange wsX5_noteChange) := goodIn_app (goodIn_of _ (by decide +kernel)) ggX5_put_X5_noteChange
theorem dX5_put_0 : decode cX5_put 0 = .ok (.aload_n 0, 1) := by decide +kernel
theorem dX5_put_1 : decode cX5_put 1 = .ok (.iload_n 1, 1) := by decide +kernel
theorem dX5_put_2 : decode cX5_put 2 = .ok (.iload_n 2, 1) := by decide +kernel
theorem dX5_put_3 : decode cX5_put 3 = .ok (.invokevirtual 53, 3) := by decide +kernel
theorem dX5_put_6 : decode cX5_put 6 = .ok (.iload_n 3, 1) := by decide +kernel
theorem dX5_put_7 : decode cX5_put 7 = .ok (.iconst 1, 1) := by decide +kernel
theorem dX5_put_8 : decode cX5_put 8 = .ok (.if_icmp .ge 13, 3) := by decide +kernel
theorem dX5_put_11 : decode cX5_put 11 = .ok (.new 56, 3) := by decide +kernel
theorem dX5_put_14 : decode cX5_put 14 = .ok (.dup, 1) := by decide +kernel
theorem dX5_put_15 : decode cX5_put 15 = .ok (.ldc 58, 2) := by decide +kernel
theorem dX5_put_17 : decode cX5_put 17 = .ok (.invokespecial 60, 3) := by decide +kernel
theorem dX5_put_20 : decode cX5_put 20 = .ok (.athrow, 1) := by decide +kernel
theorem dX5_put_21 : decode cX5_put 21 = .ok (.aload_n 0, 1) := by decide +kernel
theorem dX5_put_22 : decode cX5_put 22 = .ok (.getfield 26, 3) := by decide +kernel
theorem dX5_put_25 : decode cX5_put 25 = .ok (.iload_n 1, 1) := by decide +kernel
theorem dX5_put_26 : decode cX5_put 26 = .ok (.iload_n 2, 1) := by decide +kernel
theorem dX5_put_27 : decode cX5_put 27 = .ok (.iload_n 3, 1) := by decide +kernel
theorem dX5_put_28 : decode cX5_put 28 = .ok (.iload 4, 2) := by decide +kernel
theorem dX5_put_30 : decode cX5_put 30 = .ok (.invokevirtual 63, 3) := by decide +kernel
theorem dX5_put_33 : decode cX5_put 33 = .ok (.istore 5, 2) := by decide +kernel
theorem dX5_put_35 : decode cX5_put 35 = .ok (.iload 5, 2) := by decide +kernel
theorem dX5_put_37 : decode cX5_put 37 = .ok (.ifCond .le 7, 3) := by decide +kernel
theorem dX5_put_40 : decode cX5_put 40 = .ok (.aload_n 0, 1) := by decide +kernel
theorem dX5_put_41 : decode cX5_put 41 = .ok (.invokevirtual 67, 3) := by decide +kernel
theorem dX5_put_44 : decode cX5_put 44 = .ok (.iload 5, 2) := by decide +kernel
theorem dX5_put_46 : decode cX5_put 46 = .ok (.ireturn, 1) := by decide +kernel
set_option maxRecDepth 20000 in
theorem ggX5_at_X5_checkSample : GoodIn wsX5_at wsX5_checkSample := goodIn_ca (goodIn_r _ [6, 7, 8, 1, 9, 10, 11, 12, 13, 14, 15, 26, 27, 28, 29, 30, 31, 32, 33, 34, 35, 36, 37] (by decide +kernel) (by decide +kernel)) (goodIn_sub (fun _ h => List.mem_cons_of_mem _ (List.mem_append_right _ h)) (by decide +kernel))
set_option maxRecDepth 20000 in
theorem gX5_at_X5_checkSample : GoodIn wsX5_at (wsV RX5 53 RX5 yX5_checkSample wsX5_checkSample) := goodIn_app (goodIn_of _ (by decide +kernel)) ggX5_at_X5_checkSample
set_option maxRecDepth 20000 in
theorem ggX5_at_X0_isOn : GoodIn wsX5_at wsX0_isOn := goodIn_r _ [19, 20, 10, 11, 12, 13, 14, 15, 21, 22, 23, 24, 25, 32, 33, 34, 35, 36, 37] (by decide +kernel) (by decide +kernel)
set_option maxRecDepth 20000 in
theorem gX5_at_X0_isOn : GoodIn wsX5_at (wsV RX5 70 RX0 yX0_isOn wsX0_isOn) := goodIn_app (goodIn_of _ (by decide +kernel)) ggX5_at_X0_isOn
theorem dX5_at_0 : decode cX5_at 0 = .ok (.aload_n 0, 1) := by decide +kernel
theorem dX5_at_1 : decode cX5_at 1 = .ok (.iload_n 1, 1) := by decide +kernel
theorem dX5_at_2 : decode cX5_at 2 = .ok (.iload_n 2, 1) := by decide +kernel
theorem dX5_at_3 : decode cX5_at 3 = .ok (.invokevirtual 53, 3) := by decide +kernel
theorem dX5_at_6 : decode cX5_at 6 = .ok (.aload_n 0, 1) := by decide +kernel
theorem dX5_at_7 : decode cX5_at 7 = .ok (.getfield 26, 3) := by decide +kernel
theorem dX5_at_10 : decode cX5_at 10 = .ok (.iload_n 1, 1) := by decide +kernel
theorem dX5_at_11 : decode cX5_at 11 = .ok (.iload_n 2, 1) := by decide +kernel
theorem dX5_at_12 : decode cX5_at 12 = .ok (.invokevirtual 70, 3) := by decide +kernel
theorem dX5_at_15 : decode cX5_at 15 = .ok (.ireturn, 1) := by decide +kernel
set_option maxRecDepth 20000 in
theorem ggX5_sum_X5_checkAngle : GoodIn wsX5_sum wsX5_checkAngle := goodIn_ca (goodIn_r _ [5, 6, 7] (by decide +kernel) (by decide +kernel)) (goodIn_sub (fun _ h => List.mem_cons_of_mem _ (List.mem_append_right _ h)) (by decide +kernel))
set_option maxRecDepth 20000 in
theorem gX5_sum_X5_checkAngle : GoodIn wsX5_sum (va_wsS RX5 74 yX5_checkAngle wsX5_checkAngle) := goodIn_app (goodIn_of _ (by decide +kernel)) ggX5_sum_X5_checkAngle
set_option maxRecDepth 20000 in
theorem ggX5_sum_X3_sumAt : GoodIn wsX5_sum wsX3_sumAt := goodIn_r _ [12, 13, 14, 15, 16, 17, 18, 19, 20, 21, 22, 23, 24, 25, 26, 27, 28, 29, 30, 31, 32, 33, 34, 35, 36, 37, 38, 39, 40, 41, 42, 43, 44, 45, 46, 47, 48, 49, 50, 11, 51, 52, 53, 54, 55, 56, 57, 58, 59, 60, 61, 62, 63, 64, 65, 66, 67, 74, 75, 76, 77, 78, 79, 80, 81, 82, 83, 84, 85, 86] (by decide +kernel) (by decide +kernel)
set_option maxRecDepth 20000 in
theorem gX5_sum_X3_sumAt : GoodIn wsX5_sum (wsV RX5 78 RX3 yX3_sumAt wsX3_sumAt) := goodIn_app (goodIn_of _ (by decide +kernel)) ggX5_sum_X3_sumAt
theorem dX5_sum_0 : decode cX5_sum 0 = .ok (.iload_n 1, 1) := by decide +kernel
theorem dX5_sum_1 : decode cX5_sum 1 = .ok (.invokestatic 74, 3) := by decide +kernel
theorem dX5_sum_4 : decode cX5_sum 4 = .ok (.aload_n 0, 1) := by decide +kernel
theorem dX5_sum_5 : decode cX5_sum 5 = .ok (.getfield 42, 3) := by decide +kernel
theorem dX5_sum_8 : decode cX5_sum 8 = .ok (.iload_n 1, 1) := by decide +kernel
theorem dX5_sum_9 : decode cX5_sum 9 = .ok (.invokevirtual 78, 3) := by decide +kernel
theorem dX5_sum_12 : decode cX5_sum 12 = .ok (.dreturn, 1) := by decide +kernel
set_option maxRecDepth 20000 in
theorem ggX5_angle_X3_find : GoodIn wsX5_angle wsX3_find := goodIn_r _ [8, 9, 10, 11, 12, 13, 14, 15, 16, 17, 18, 19, 20, 21, 22, 23, 24, 25, 26, 27, 28, 29, 30, 31, 32, 33, 34, 35, 36, 37, 38, 7, 39, 40, 41, 42, 43, 44, 45, 46, 47, 48, 49, 50, 51, 52, 53, 54, 55, 56, 57, 58, 59, 60, 61, 62, 63, 64, 65, 66, 67, 68, 69, 70, 71, 72, 73, 74, 75, 76, 77, 78, 79, 80, 81, 82, 83, 84, 85, 86, 87, 88, 89, 90, 91, 98, 99, 100, 101, 102, 103, 104, 105, 106, 107, 108, 109, 110] (by decide +kernel) (by decide +kernel)
set_option maxRecDepth 20000 in
theorem gX5_angle_X3_find : GoodIn wsX5_angle (wsV RX5 84 RX3 yX3_find wsX3_find) := goodIn_app (goodIn_of _ (by decide +kernel)) ggX5_angle_X3_find
theorem dX5_angle_0 : decode cX5_angle 0 = .ok (.iload_n 1, 1) := by decide +kernel
theorem dX5_angle_1 : decode cX5_angle 1 = .ok (.ifCond .lt 10, 3) := by decide +kernel
theorem dX5_angle_4 : decode cX5_angle 4 = .ok (.iload_n 1, 1) := by decide +kernel
theorem dX5_angle_5 : decode cX5_angle 5 = .ok (.sipush 2000, 3) := by decide +kernel
theorem dX5_angle_8 : decode cX5_angle 8 = .ok (.if_icmp .le 13, 3) := by decide +kernel
theorem dX5_angle_11 : decode cX5_angle 11 = .ok (.new 56, 3) := by decide +kernel
theorem dX5_angle_14 : decode cX5_angle 14 = .ok (.dup, 1) := by decide +kernel
theorem dX5_angle_15 : decode cX5_angle 15 = .ok (.ldc 82, 2) := by decide +kernel
theorem dX5_angle_17 : decode cX5_angle 17 = .ok (.invokespecial 60, 3) := by decide +kernel
theorem dX5_angle_20 : decode cX5_angle 20 = .ok (.athrow, 1) := by decide +kernel
theorem dX5_angle_21 : decode cX5_angle 21 = .ok (.aload_n 0, 1) := by decide +kernel
theorem dX5_angle_22 : decode cX5_angle 22 = .ok (.getfield 42, 3) := by decide +kernel
theorem dX5_angle_25 : decode cX5_angle 25 = .ok (.iload_n 1, 1) := by decide +kernel
theorem dX5_angle_26 : decode cX5_angle 26 = .ok (.invokevirtual 84, 3) := by decide +kernel
theorem dX5_angle_29 : decode cX5_angle 29 = .ok (.ireturn, 1) := by decide +kernel
set_option maxRecDepth 20000 in
theorem ggX5_sure_X5_checkAsked : GoodIn wsX5_sure wsX5_checkAsked := goodIn_ca (goodIn_r _ [6, 7, 8, 1, 9, 10, 11, 12, 13, 14, 20, 21, 22, 23, 24, 25, 26, 27, 28, 29, 30, 31, 32] (by decide +kernel) (by decide +kernel)) (goodIn_sub (fun _ h => List.mem_cons_of_mem _ (List.mem_append_right _ h)) (by decide +kernel))
set_option maxRecDepth 20000 in
theorem gX5_sure_X5_checkAsked : GoodIn wsX5_sure (wsV RX5 87 RX5 yX5_checkAsked wsX5_checkAsked) := goodIn_app (goodIn_of _ (by decide +kernel)) ggX5_sure_X5_checkAsked
set_option maxRecDepth 20000 in
theorem ggX5_sure_X3_isSure : GoodIn wsX5_sure wsX3_isSure := goodIn_r _ [18, 19, 26, 27, 28, 29, 30, 31, 32] (by decide +kernel) (by decide +kernel)
set_option maxRecDepth 20000 in
theorem gX5_sure_X3_isSure : GoodIn wsX5_sure (wsV RX5 90 RX3 yX3_isSure wsX3_isSure) := goodIn_app (goodIn_of _ (by decide +kernel)) ggX5_sure_X3_isSure
theorem dX5_sure_0 : decode cX5_sure 0 = .ok (.aload_n 0, 1) := by decide +kernel
theorem dX5_sure_1 : decode cX5_sure 1 = .ok (.invokevirtual 87, 3) := by decide +kernel
theorem dX5_sure_4 : decode cX5_sure 4 = .ok (.aload_n 0, 1) := by decide +kernel
theorem dX5_sure_5 : decode cX5_sure 5 = .ok (.getfield 42, 3) := by decide +kernel
theorem dX5_sure_8 : decode cX5_sure 8 = .ok (.invokevirtual 90, 3) := by decide +kernel
theorem dX5_sure_11 : decode cX5_sure 11 = .ok (.ireturn, 1) := by decide +kernel
set_option maxRecDepth 20000 in
theorem ggX5_mean_X5_checkAsked : GoodIn wsX5_mean wsX5_checkAsked := goodIn_ca (goodIn_r _ [6, 7, 8, 1, 9, 10, 11, 12, 13, 14, 20, 21, 22, 23, 24, 25, 26, 27, 28, 29, 30, 31, 32] (by decide +kernel) (by decide +kernel)) (goodIn_sub (fun _ h => List.mem_cons_of_mem _ (List.mem_append_right _ h)) (by decide +kernel))
set_option maxRecDepth 20000 in
theorem gX5_mean_X5_checkAsked : GoodIn wsX5_mean (wsV RX5 87 RX5 yX5_checkAsked wsX5_checkAsked) := goodIn_app (goodIn_of _ (by decide +kernel)) ggX5_mean_X5_checkAsked
set_option maxRecDepth 20000 in
theorem ggX5_mean_X3_meanOfGrid : GoodIn wsX5_mean wsX3_meanOfGrid := goodIn_r _ [18, 19, 26, 27, 28, 29, 30, 31, 32] (by decide +kernel) (by decide +kernel)
set_option maxRecDepth 20000 in
theorem gX5_mean_X3_meanOfGrid : GoodIn wsX5_mean (wsV RX5 94 RX3 yX3_meanOfGrid wsX3_meanOfGrid) := goodIn_app (goodIn_of _ (by decide +kernel)) ggX5_mean_X3_meanOfGrid
theorem dX5_mean_0 : decode cX5_mean 0 = .ok (.aload_n 0, 1) := by decide +kernel
theorem dX5_mean_1 : decode cX5_mean 1 = .ok (.invokevirtual 87, 3) := by decide +kernel
theorem dX5_mean_4 : decode cX5_mean 4 = .ok (.aload_n 0, 1) := by decide +kernel
theorem dX5_mean_5 : decode cX5_mean 5 = .ok (.getfield 42, 3) := by decide +kernel
theorem dX5_mean_8 : decode cX5_mean 8 = .ok (.invokevirtual 94, 3) := by decide +kernel
theorem dX5_mean_11 : decode cX5_mean 11 = .ok (.dreturn, 1) := by decide +kernel
set_option maxRecDepth 20000 in
theorem ggX5_turn_X5_checkAngle : GoodIn wsX5_turn wsX5_checkAngle := goodIn_ca (goodIn_r _ [9, 10, 11] (by decide +kernel) (by decide +kernel)) (goodIn_sub (fun _ h => List.mem_cons_of_mem _ (List.mem_append_right _ h)) (by decide +kernel))
set_option maxRecDepth 20000 in
theorem gX5_turn_X5_checkAngle : GoodIn wsX5_turn (va_wsS RX5 74 yX5_checkAngle wsX5_checkAngle) := goodIn_app (goodIn_of _ (by decide +kernel)) ggX5_turn_X5_checkAngle
set_option maxRecDepth 20000 in
theorem ggX5_turn_X0_turnBySampling : GoodIn wsX5_turn wsX0_turnBySampling := goodIn_r _ [16, 17, 18, 19, 20, 21, 22, 23, 24, 25, 26, 27, 28, 29, 30, 31, 32, 33, 34, 35, 36, 37, 38, 15, 39, 40, 41, 42, 43, 44, 45, 46, 47, 48, 49, 50, 51, 52, 53, 54, 55, 56, 57, 58, 59, 60, 61, 62, 63, 64, 65, 66, 67, 68, 151, 152, 153, 154, 155, 156] (by decide +kernel) (by decide +kernel)
set_option maxRecDepth 20000 in
theorem gX5_turn_X0_turnBySampling : GoodIn wsX5_turn (wsV RX5 98 RX0 yX0_turnBySampling wsX0_turnBySampling) := goodIn_app (goodIn_of _ (by decide +kernel)) ggX5_turn_X0_turnBySampling
set_option maxRecDepth 20000 in
theorem ggX5_turn_X0_turnByShears : GoodIn wsX5_turn wsX0_turnByShears := goodIn_r _ [72, 73, 74, 75, 15, 76, 77, 78, 79, 20, 80, 81, 82, 83, 25, 26, 27, 28, 29, 18, 19, 21, 22, 23, 24, 84, 85, 86, 87, 17, 52, 53, 54, 55, 56, 41, 42, 43, 44, 45, 88, 89, 90, 91, 50, 92, 93, 94, 95, 96, 97, 98, 99, 100, 101, 65, 66, 67, 68, 102, 103, 104, 105, 51, 36, 37, 38, 39, 40, 106, 107, 108, 109, 61, 62, 63, 64, 151, 152, 153, 154, 155, 156] (by decide +kernel) (by decide +kernel)
set_option maxRecDepth 20000 in
theorem gX5_turn_X0_turnByShears : GoodIn wsX5_turn (wsV RX5 101 RX0 yX0_turnByShears wsX0_turnByShears) := goodIn_app (goodIn_of _ (by decide +kernel)) ggX5_turn_X0_turnByShears
set_option maxRecDepth 20000 in
theorem ggX5_turn_X5_noteChange : GoodIn wsX5_turn wsX5_noteChange := goodIn_r _ [113, 114, 115, 116, 117, 118, 119, 120, 121, 122, 123, 124, 125, 126, 127, 128, 129, 130, 131, 132, 133, 145, 146, 147, 148, 149, 150, 157, 158, 159, 160, 161, 151, 152, 153, 154, 155, 156, 162, 163, 164, 165, 166, 167, 168] (by decide +kernel) (by decide +kernel)
set_option maxRecDepth 20000 in
theorem gX5_turn_X5_noteChange : GoodIn wsX5_turn (wsV RX5 67 RX5 yX5_noteChange wsX5_noteChange) := goodIn_app (goodIn_of _ (by decide +kernel)) ggX5_turn_X5_noteChange
set_option maxRecDepth 20000 in
theorem ggX5_turn_X0_samplesOn : GoodIn wsX5_turn wsX0_samplesOn := goodIn_r _ [137, 17, 41, 42, 43, 15, 44, 45, 138, 139, 140, 141, 142, 143, 144, 151, 152, 153, 154, 155, 156] (by decide +kernel) (by decide +kernel)
set_option maxRecDepth 20000 in
theorem gX5_turn_X0_samplesOn : GoodIn wsX5_turn (wsV RX5 109 RX0 yX0_samplesOn wsX0_samplesOn) := goodIn_app (goodIn_of _ (by decide +kernel)) ggX5_turn_X0_samplesOn
theorem dX5_turn_0 : decode cX5_turn 0 = .ok (.iload_n 1, 1) := by decide +kernel
theorem dX5_turn_1 : decode cX5_turn 1 = .ok (.invokestatic 74, 3) := by decide +kernel
theorem dX5_turn_4 : decode cX5_turn 4 = .ok (.iload_n 2, 1) := by decide +kernel
theorem dX5_turn_5 : decode cX5_turn 5 = .ok (.ifCond .ne 19, 3) := by decide +kernel
theorem dX5_turn_8 : decode cX5_turn 8 = .ok (.aload_n 0, 1) := by decide +kernel
theorem dX5_turn_9 : decode cX5_turn 9 = .ok (.iconst 0, 1) := by decide +kernel
theorem dX5_turn_10 : decode cX5_turn 10 = .ok (.putfield 13, 3) := by decide +kernel
theorem dX5_turn_13 : decode cX5_turn 13 = .ok (.aload_n 0, 1) := by decide +kernel
theorem dX5_turn_14 : decode cX5_turn 14 = .ok (.getfield 26, 3) := by decide +kernel
theorem dX5_turn_17 : decode cX5_turn 17 = .ok (.iload_n 1, 1) := by decide +kernel
theorem dX5_turn_18 : decode cX5_turn 18 = .ok (.invokevirtual 98, 3) := by decide +kernel
theorem dX5_turn_21 : decode cX5_turn 21 = .ok (.goto 63, 3) := by decide +kernel
theorem dX5_turn_24 : decode cX5_turn 24 = .ok (.aload_n 0, 1) := by decide +kernel
theorem dX5_turn_25 : decode cX5_turn 25 = .ok (.getfield 13, 3) := by decide +kernel
theorem dX5_turn_28 : decode cX5_turn 28 = .ok (.ifCond .lt 46, 3) := by decide +kernel
theorem dX5_turn_31 : decode cX5_turn 31 = .ok (.aload_n 0, 1) := by decide +kernel
theorem dX5_turn_32 : decode cX5_turn 32 = .ok (.getfield 13, 3) := by decide +kernel
theorem dX5_turn_35 : decode cX5_turn 35 = .ok (.aload_n 0, 1) := by decide +kernel
theorem dX5_turn_36 : decode cX5_turn 36 = .ok (.getfield 9, 3) := by decide +kernel
theorem dX5_turn_39 : decode cX5_turn 39 = .ok (.arraylength, 1) := by decide +kernel
theorem dX5_turn_40 : decode cX5_turn 40 = .ok (.if_icmp .ge 34, 3) := by decide +kernel
theorem dX5_turn_43 : decode cX5_turn 43 = .ok (.aload_n 0, 1) := by decide +kernel
theorem dX5_turn_44 : decode cX5_turn 44 = .ok (.getfield 9, 3) := by decide +kernel
theorem dX5_turn_47 : decode cX5_turn 47 = .ok (.aload_n 0, 1) := by decide +kernel
theorem dX5_turn_48 : decode cX5_turn 48 = .ok (.getfield 13, 3) := by decide +kernel
theorem dX5_turn_51 : decode cX5_turn 51 = .ok (.iload_n 1, 1) := by decide +kernel
theorem dX5_turn_52 : decode cX5_turn 52 = .ok (.iastore, 1) := by decide +kernel
theorem dX5_turn_53 : decode cX5_turn 53 = .ok (.aload_n 0, 1) := by decide +kernel
theorem dX5_turn_54 : decode cX5_turn 54 = .ok (.dup, 1) := by decide +kernel
theorem dX5_turn_55 : decode cX5_turn 55 = .ok (.getfield 13, 3) := by decide +kernel
theorem dX5_turn_58 : decode cX5_turn 58 = .ok (.iconst 1, 1) := by decide +kernel
theorem dX5_turn_59 : decode cX5_turn 59 = .ok (.iadd, 1) := by decide +kernel
theorem dX5_turn_60 : decode cX5_turn 60 = .ok (.putfield 13, 3) := by decide +kernel
theorem dX5_turn_63 : decode cX5_turn 63 = .ok (.aload_n 0, 1) := by decide +kernel
theorem dX5_turn_64 : decode cX5_turn 64 = .ok (.getfield 26, 3) := by decide +kernel
theorem dX5_turn_67 : decode cX5_turn 67 = .ok (.iload_n 1, 1) := by decide +kernel
theorem dX5_turn_68 : decode cX5_turn 68 = .ok (.invokevirtual 101, 3) := by decide +kernel
theorem dX5_turn_71 : decode cX5_turn 71 = .ok (.goto 13, 3) := by decide +kernel
theorem dX5_turn_74 : decode cX5_turn 74 = .ok (.new 104, 3) := by decide +kernel
theorem dX5_turn_77 : decode cX5_turn 77 = .ok (.dup, 1) := by decide +kernel
theorem dX5_turn_78 : decode cX5_turn 78 = .ok (.ldc 106, 2) := by decide +kernel
theorem dX5_turn_80 : decode cX5_turn 80 = .ok (.invokespecial 108, 3) := by decide +kernel
theorem dX5_turn_83 : decode cX5_turn 83 = .ok (.athrow, 1) := by decide +kernel
theorem dX5_turn_84 : decode cX5_turn 84 = .ok (.aload_n 0, 1) := by decide +kernel
theorem dX5_turn_85 : decode cX5_turn 85 = .ok (.invokevirtual 67, 3) := by decide +kernel
theorem dX5_turn_88 : decode cX5_turn 88 = .ok (.aload_n 0, 1) := by decide +kernel
theorem dX5_turn_89 : decode cX5_turn 89 = .ok (.getfield 26, 3) := by decide +kernel
theorem dX5_turn_92 : decode cX5_turn 92 = .ok (.invokevirtual 109, 3) := by decide +kernel
theorem dX5_turn_95 : decode cX5_turn 95 = .ok (.ireturn, 1) := by decide +kernel
set_option maxRecDepth 20000 in
theorem ggX5_back_X0_turnBackByShears : GoodIn wsX5_back wsX0_turnBackByShears := goodIn_r _ [8, 9, 10, 11, 7, 12, 13, 14, 15, 16, 17, 18, 19, 20, 21, 22, 23, 24, 25, 26, 27, 28, 29, 30, 31, 32, 33, 34, 35, 36, 37, 38, 39, 40, 41, 42, 43, 44, 45, 46, 47, 48, 49, 50, 51, 52, 53, 54, 55, 56, 57, 58, 59, 60, 61, 62, 63, 64, 65, 66, 67, 68, 69, 70, 71, 72, 73, 74, 75, 76, 77, 78, 79, 80, 81, 82, 83, 115, 116, 117, 118, 119, 120] (by decide +kernel) (by decide +kernel)
set_option maxRecDepth 20000 in
theorem gX5_back_X0_turnBackByShears : GoodIn wsX5_back (wsV RX5 113 RX0 yX0_turnBackByShears wsX0_turnBackByShears) := goodIn_app (goodIn_of _ (by decide +kernel)) ggX5_back_X0_turnBackByShears
set_option maxRecDepth 20000 in
theorem ggX5_back_X5_noteChange : GoodIn wsX5_back wsX5_noteChange := goodIn_r _ [88, 89, 90, 91, 92, 93, 94, 95, 96, 97, 98, 99, 100, 101, 102, 103, 104, 105, 106, 107, 108, 109, 110, 111, 112, 113, 114, 121, 122, 123, 124, 125, 115, 116, 117, 118, 119, 120, 126, 127, 128, 129, 130, 131, 132] (by decide +kernel) (by decide +kernel)
set_option maxRecDepth 20000 in
theorem gX5_back_X5_noteChange : GoodIn wsX5_back (wsV RX5 67 RX5 yX5_noteChange wsX5_noteChange) := goodIn_app (goodIn_of _ (by decide +kernel)) ggX5_back_X5_noteChange
theorem dX5_back_0 : decode cX5_back 0 = .ok (.aload_n 0, 1) := by decide +kernel
theorem dX5_back_1 : decode cX5_back 1 = .ok (.getfield 13, 3) := by decide +kernel
theorem dX5_back_4 : decode cX5_back 4 = .ok (.iconst 1, 1) := by decide +kernel
theorem dX5_back_5 : decode cX5_back 5 = .ok (.isub, 1) := by decide +kernel
theorem dX5_back_6 : decode cX5_back 6 = .ok (.istore_n 1, 1) := by decide +kernel
theorem dX5_back_7 : decode cX5_back 7 = .ok (.iload_n 1, 1) := by decide +kernel
theorem dX5_back_8 : decode cX5_back 8 = .ok (.ifCond .lt 12, 3) := by decide +kernel
theorem dX5_back_11 : decode cX5_back 11 = .ok (.iload_n 1, 1) := by decide +kernel
theorem dX5_back_12 : decode cX5_back 12 = .ok (.aload_n 0, 1) := by decide +kernel
theorem dX5_back_13 : decode cX5_back 13 = .ok (.getfield 9, 3) := by decide +kernel
theorem dX5_back_16 : decode cX5_back 16 = .ok (.arraylength, 1) := by decide +kernel
theorem dX5_back_17 : decode cX5_back 17 = .ok (.if_icmp .lt 5, 3) := by decide +kernel
theorem dX5_back_20 : decode cX5_back 20 = .ok (.iconst (-1), 1) := by decide +kernel
theorem dX5_back_21 : decode cX5_back 21 = .ok (.ireturn, 1) := by decide +kernel
theorem dX5_back_22 : decode cX5_back 22 = .ok (.aload_n 0, 1) := by decide +kernel
theorem dX5_back_23 : decode cX5_back 23 = .ok (.getfield 26, 3) := by decide +kernel
theorem dX5_back_26 : decode cX5_back 26 = .ok (.aload_n 0, 1) := by decide +kernel
theorem dX5_back_27 : decode cX5_back 27 = .ok (.getfield 9, 3) := by decide +kernel
theorem dX5_back_30 : decode cX5_back 30 = .ok (.iload_n 1, 1) := by decide +kernel
theorem dX5_back_31 : decode cX5_back 31 = .ok (.iaload, 1) := by decide +kernel
theorem dX5_back_32 : decode cX5_back 32 = .ok (.invokevirtual 113, 3) := by decide +kernel
theorem dX5_back_35 : decode cX5_back 35 = .ok (.aload_n 0, 1) := by decide +kernel
theorem dX5_back_36 : decode cX5_back 36 = .ok (.iload_n 1, 1) := by decide +kernel
theorem dX5_back_37 : decode cX5_back 37 = .ok (.putfield 13, 3) := by decide +kernel
theorem dX5_back_40 : decode cX5_back 40 = .ok (.aload_n 0, 1) := by decide +kernel
theorem dX5_back_41 : decode cX5_back 41 = .ok (.invokevirtual 67, 3) := by decide +kernel
theorem dX5_back_44 : decode cX5_back 44 = .ok (.aload_n 0, 1) := by decide +kernel
theorem dX5_back_45 : decode cX5_back 45 = .ok (.getfield 13, 3) := by decide +kernel
theorem dX5_back_48 : decode cX5_back 48 = .ok (.ireturn, 1) := by decide +kernel
set_option maxRecDepth 20000 in
theorem ggX5_crop_X5_checkSide : GoodIn wsX5_crop wsX5_checkSide := goodIn_ca (goodIn_r _ [5, 6, 7] (by decide +kernel) (by decide +kernel)) (goodIn_sub (fun _ h => List.mem_cons_of_mem _ (List.mem_append_right _ h)) (by decide +kernel))
set_option maxRecDepth 20000 in
theorem gX5_crop_X5_checkSide : GoodIn wsX5_crop (va_wsS RX5 116 yX5_checkSide wsX5_checkSide) := goodIn_app (goodIn_of _ (by decide +kernel)) ggX5_crop_X5_checkSide
set_option maxRecDepth 20000 in
theorem ggX5_crop_X4_cropAt : GoodIn wsX5_crop wsX4_cropAt := goodIn_r _ [12, 13, 14, 15, 16, 17, 18, 19, 20, 21, 22, 23, 24, 25, 26, 27, 28, 29, 30, 31, 32, 33, 34, 35, 36, 37, 38, 11, 39, 40, 41, 42, 43, 44, 45, 46, 47, 48, 49, 50, 51, 52, 53, 54, 55, 56, 57, 58, 59, 60, 61, 62, 63, 64, 65, 66, 67, 68, 69, 70, 71, 72, 73, 74, 81, 82, 83, 84, 85, 86, 87, 88, 89, 90, 91] (by decide +kernel) (by decide +kernel)
set_option maxRecDepth 20000 in
theorem gX5_crop_X4_cropAt : GoodIn wsX5_crop (wsV RX5 119 RX4 yX4_cropAt wsX4_cropAt) := goodIn_app (goodIn_of _ (by decide +kernel)) ggX5_crop_X4_cropAt
theorem dX5_crop_0 : decode cX5_crop 0 = .ok (.iload_n 1, 1) := by decide +kernel
theorem dX5_crop_1 : decode cX5_crop 1 = .ok (.invokestatic 116, 3) := by decide +kernel
theorem dX5_crop_4 : decode cX5_crop 4 = .ok (.aload_n 0, 1) := by decide +kernel
theorem dX5_crop_5 : decode cX5_crop 5 = .ok (.getfield 35, 3) := by decide +kernel
theorem dX5_crop_8 : decode cX5_crop 8 = .ok (.iload_n 1, 1) := by decide +kernel
theorem dX5_crop_9 : decode cX5_crop 9 = .ok (.invokevirtual 119, 3) := by decide +kernel
theorem dX5_crop_12 : decode cX5_crop 12 = .ok (.ireturn, 1) := by decide +kernel
set_option maxRecDepth 20000 in
theorem ggX5_size_X5_checkSide : GoodIn wsX5_size wsX5_checkSide := goodIn_ca (goodIn_r _ [5, 6, 7] (by decide +kernel) (by decide +kernel)) (goodIn_sub (fun _ h => List.mem_cons_of_mem _ (List.mem_append_right _ h)) (by decide +kernel))
set_option maxRecDepth 20000 in
theorem gX5_size_X5_checkSide : GoodIn wsX5_size (va_wsS RX5 116 yX5_checkSide wsX5_checkSide) := goodIn_app (goodIn_of _ (by decide +kernel)) ggX5_size_X5_checkSide
set_option maxRecDepth 20000 in
theorem ggX5_size_X4_end : GoodIn wsX5_size wsX4_end := goodIn_r _ [12, 13, 14, 15, 16, 23, 24, 25, 26, 27] (by decide +kernel) (by decide +kernel)
set_option maxRecDepth 20000 in
theorem gX5_size_X4_end : GoodIn wsX5_size (wsV RX5 122 RX4 yX4_end wsX4_end) := goodIn_app (goodIn_of _ (by decide +kernel)) ggX5_size_X4_end
theorem dX5_size_0 : decode cX5_size 0 = .ok (.iload_n 1, 1) := by decide +kernel
theorem dX5_size_1 : decode cX5_size 1 = .ok (.invokestatic 116, 3) := by decide +kernel
theorem dX5_size_4 : decode cX5_size 4 = .ok (.aload_n 0, 1) := by decide +kernel
theorem dX5_size_5 : decode cX5_size 5 = .ok (.getfield 35, 3) := by decide +kernel
theorem dX5_size_8 : decode cX5_size 8 = .ok (.iload_n 1, 1) := by decide +kernel
theorem dX5_size_9 : decode cX5_size 9 = .ok (.invokevirtual 122, 3) := by decide +kernel
theorem dX5_size_12 : decode cX5_size 12 = .ok (.ireturn, 1) := by decide +kernel
set_option maxRecDepth 20000 in
theorem ggX5_bands_X2_bandCount : GoodIn wsX5_bands wsX2_bandCount := goodIn_r _ [6, 7, 8, 9, 10, 11, 5, 12, 13, 14, 15, 16, 17, 18, 25, 26, 27, 28, 29, 30, 31] (by decide +kernel) (by decide +kernel)
set_option maxRecDepth 20000 in
theorem gX5_bands_X2_bandCount : GoodIn wsX5_bands (wsV RX5 125 RX2 yX2_bandCount wsX2_bandCount) := goodIn_app (goodIn_of _ (by decide +kernel)) ggX5_bands_X2_bandCount
theorem dX5_bands_0 : decode cX5_bands 0 = .ok (.aload_n 0, 1) := by decide +kernel
theorem dX5_bands_1 : decode cX5_bands 1 = .ok (.getfield 49, 3) := by decide +kernel
theorem dX5_bands_4 : decode cX5_bands 4 = .ok (.invokevirtual 125, 3) := by decide +kernel
theorem dX5_bands_7 : decode cX5_bands 7 = .ok (.ireturn, 1) := by decide +kernel
set_option maxRecDepth 20000 in
theorem ggX5_band_X5_checkBand : GoodIn wsX5_band wsX5_checkBand := goodIn_ca (goodIn_r _ [6, 7, 8, 1, 9, 10, 11, 12, 13, 14, 15, 16, 17, 18, 19, 20, 21, 22, 23, 24, 25, 45, 46, 47, 48, 49, 50, 51, 52, 53, 54, 55, 56, 57] (by decide +kernel) (by decide +kernel)) (goodIn_sub (fun _ h => List.mem_cons_of_mem _ (List.mem_append_right _ h)) (by decide +kernel))
set_option maxRecDepth 20000 in
theorem gX5_band_X5_checkBand : GoodIn wsX5_band (wsV RX5 128 RX5 yX5_checkBand wsX5_checkBand) := goodIn_app (goodIn_of _ (by decide +kernel)) ggX5_band_X5_checkBand
set_option maxRecDepth 20000 in
theorem ggX5_band_X2_firstOfBand : GoodIn wsX5_band wsX2_firstOfBand := goodIn_r _ [29, 14, 15, 16, 17, 18, 12, 19, 20, 21, 22, 23, 24, 25, 51, 52, 53, 54, 55, 56, 57] (by decide +kernel) (by decide +kernel)
set_option maxRecDepth 20000 in
theorem gX5_band_X2_firstOfBand : GoodIn wsX5_band (wsV RX5 131 RX2 yX2_firstOfBand wsX2_firstOfBand) := goodIn_app (goodIn_of _ (by decide +kernel)) ggX5_band_X2_firstOfBand
set_option maxRecDepth 20000 in
theorem ggX5_band_X2_behindBand : GoodIn wsX5_band wsX2_behindBand := goodIn_r _ [33, 14, 15, 20, 21, 22, 23, 24, 25, 51, 52, 53, 54, 55, 56, 57] (by decide +kernel) (by decide +kernel)
set_option maxRecDepth 20000 in
theorem gX5_band_X2_behindBand : GoodIn wsX5_band (wsV RX5 134 RX2 yX2_behindBand wsX2_behindBand) := goodIn_app (goodIn_of _ (by decide +kernel)) ggX5_band_X2_behindBand
set_option maxRecDepth 20000 in
theorem ggX5_band_X2_samplesBetween : GoodIn wsX5_band wsX2_samplesBetween := goodIn_r _ [37, 14, 20, 21, 22, 23, 24, 25, 38, 39, 40, 41, 42, 43, 44, 51, 52, 53, 54, 55, 56, 57] (by decide +kernel) (by decide +kernel)
set_option maxRecDepth 20000 in
theorem gX5_band_X2_samplesBetween : GoodIn wsX5_band (wsV RX5 137 RX2 yX2_samplesBetween wsX2_samplesBetween) := goodIn_app (goodIn_of _ (by decide +kernel)) ggX5_band_X2_samplesBetween
theorem dX5_band_0 : decode cX5_band 0 = .ok (.aload_n 0, 1) := by decide +kernel
theorem dX5_band_1 : decode cX5_band 1 = .ok (.iload_n 1, 1) := by decide +kernel
theorem dX5_band_2 : decode cX5_band 2 = .ok (.invokevirtual 128, 3) := by decide +kernel
theorem dX5_band_5 : decode cX5_band 5 = .ok (.aload_n 0, 1) := by decide +kernel
theorem dX5_band_6 : decode cX5_band 6 = .ok (.getfield 49, 3) := by decide +kernel
theorem dX5_band_9 : decode cX5_band 9 = .ok (.iload_n 1, 1) := by decide +kernel
theorem dX5_band_10 : decode cX5_band 10 = .ok (.invokevirtual 131, 3) := by decide +kernel
theorem dX5_band_13 : decode cX5_band 13 = .ok (.istore_n 3, 1) := by decide +kernel
theorem dX5_band_14 : decode cX5_band 14 = .ok (.aload_n 0, 1) := by decide +kernel
theorem dX5_band_15 : decode cX5_band 15 = .ok (.getfield 49, 3) := by decide +kernel
theorem dX5_band_18 : decode cX5_band 18 = .ok (.iload_n 3, 1) := by decide +kernel
theorem dX5_band_19 : decode cX5_band 19 = .ok (.invokevirtual 134, 3) := by decide +kernel
theorem dX5_band_22 : decode cX5_band 22 = .ok (.istore 4, 2) := by decide +kernel
theorem dX5_band_24 : decode cX5_band 24 = .ok (.iload_n 2, 1) := by decide +kernel
theorem dX5_band_25 : decode cX5_band 25 = .ok (.tableswitch 45 0 2 #[27, 29, 34], 27) := by decide +kernel
theorem dX5_band_52 : decode cX5_band 52 = .ok (.iload_n 3, 1) := by decide +kernel
theorem dX5_band_53 : decode cX5_band 53 = .ok (.ireturn, 1) := by decide +kernel
theorem dX5_band_54 : decode cX5_band 54 = .ok (.iload 4, 2) := by decide +kernel
theorem dX5_band_56 : decode cX5_band 56 = .ok (.iload_n 3, 1) := by decide +kernel
theorem dX5_band_57 : decode cX5_band 57 = .ok (.isub, 1) := by decide +kernel
theorem dX5_band_58 : decode cX5_band 58 = .ok (.ireturn, 1) := by decide +kernel
theorem dX5_band_59 : decode cX5_band 59 = .ok (.aload_n 0, 1) := by decide +kernel
theorem dX5_band_60 : decode cX5_band 60 = .ok (.getfield 49, 3) := by decide +kernel
theorem dX5_band_63 : decode cX5_band 63 = .ok (.iload_n 3, 1) := by decide +kernel
theorem dX5_band_64 : decode cX5_band 64 = .ok (.iload 4, 2) := by decide +kernel
theorem dX5_band_66 : decode cX5_band 66 = .ok (.invokevirtual 137, 3) := by decide +kernel
theorem dX5_band_69 : decode cX5_band 69 = .ok (.ireturn, 1) := by decide +kernel
theorem dX5_band_70 : decode cX5_band 70 = .ok (.iconst (-1), 1) := by decide +kernel
theorem dX5_band_71 : decode cX5_band 71 = .ok (.ireturn, 1) := by decide +kernel
set_option maxRecDepth 20000 in
theorem ggX5_line_X5_checkBand : GoodIn wsX5_line wsX5_checkBand := goodIn_ca (goodIn_r _ [11, 12, 13, 6, 14, 15, 16, 17, 18, 19, 20, 21, 22, 23, 24, 25, 26, 27, 28, 29, 30, 64, 65, 66, 67, 68, 69, 70, 71, 72, 73, 74, 75, 76] (by decide +kernel) (by decide +kernel)) (goodIn_sub (fun _ h => List.mem_cons_of_mem _ (List.mem_append_right _ h)) (by decide +kernel))
set_option maxRecDepth 20000 in
theorem gX5_line_X5_checkBand : GoodIn wsX5_line (wsV RX5 128 RX5 yX5_checkBand wsX5_checkBand) := goodIn_app (goodIn_of _ (by decide +kernel)) ggX5_line_X5_checkBand
set_option maxRecDepth 20000 in
theorem ggX5_line_X2_firstOfBand : GoodIn wsX5_line wsX2_firstOfBand := goodIn_r _ [34, 19, 20, 21, 22, 23, 17, 24, 25, 26, 27, 28, 29, 30, 70, 71, 72, 73, 74, 75, 76] (by decide +kernel) (by decide +kernel)
set_option maxRecDepth 20000 in
theorem gX5_line_X2_firstOfBand : GoodIn wsX5_line (wsV RX5 131 RX2 yX2_firstOfBand wsX2_firstOfBand) := goodIn_app (goodIn_of _ (by decide +kernel)) ggX5_line_X2_firstOfBand
set_option maxRecDepth 20000 in
theorem ggX5_line_X2_baseLineAt : GoodIn wsX5_line wsX2_baseLineAt := goodIn_r _ [38, 19, 39, 40, 41, 42, 17, 43, 20, 25, 26, 27, 28, 29, 30, 44, 45, 46, 47, 48, 49, 50, 51, 52, 53, 54, 55, 56, 57, 58, 70, 71, 72, 73, 74, 75, 76] (by decide +kernel) (by decide +kernel)
set_option maxRecDepth 20000 in
theorem gX5_line_X2_baseLineAt : GoodIn wsX5_line (wsV RX5 149 RX2 yX2_baseLineAt wsX2_baseLineAt) := goodIn_app (goodIn_of _ (by decide +kernel)) ggX5_line_X2_baseLineAt
set_option maxRecDepth 20000 in
theorem ggX5_line_X1_whole : GoodIn wsX5_line wsX1_whole := goodIn_r _ [62, 63] (by decide +kernel) (by decide +kernel)
set_option maxRecDepth 20000 in
theorem gX5_line_X1_whole : GoodIn wsX5_line (va_wsS RX5 153 yX1_whole wsX1_whole) := goodIn_app (goodIn_of _ (by decide +kernel)) ggX5_line_X1_whole
theorem dX5_line_0 : decode cX5_line 0 = .ok (.aload_n 0, 1) := by decide +kernel
theorem dX5_line_1 : decode cX5_line 1 = .ok (.iload_n 1, 1) := by decide +kernel
theorem dX5_line_2 : decode cX5_line 2 = .ok (.invokevirtual 128, 3) := by decide +kernel
theorem dX5_line_5 : decode cX5_line 5 = .ok (.dload_n 2, 1) := by decide +kernel
theorem dX5_line_6 : decode cX5_line 6 = .ok (.ldc2_w 141, 3) := by decide +kernel
theorem dX5_line_9 : decode cX5_line 9 = .ok (.dcmp .l, 1) := by decide +kernel
theorem dX5_line_10 : decode cX5_line 10 = .ok (.ifCond .lt 11, 3) := by decide +kernel
theorem dX5_line_13 : decode cX5_line 13 = .ok (.dload_n 2, 1) := by decide +kernel
theorem dX5_line_14 : decode cX5_line 14 = .ok (.ldc2_w 143, 3) := by decide +kernel
theorem dX5_line_17 : decode cX5_line 17 = .ok (.dcmp .g, 1) := by decide +kernel
theorem dX5_line_18 : decode cX5_line 18 = .ok (.ifCond .le 13, 3) := by decide +kernel
theorem dX5_line_21 : decode cX5_line 21 = .ok (.new 56, 3) := by decide +kernel
theorem dX5_line_24 : decode cX5_line 24 = .ok (.dup, 1) := by decide +kernel
theorem dX5_line_25 : decode cX5_line 25 = .ok (.ldc 145, 2) := by decide +kernel
theorem dX5_line_27 : decode cX5_line 27 = .ok (.invokespecial 60, 3) := by decide +kernel
theorem dX5_line_30 : decode cX5_line 30 = .ok (.athrow, 1) := by decide +kernel
theorem dX5_line_31 : decode cX5_line 31 = .ok (.ldc2_w 147, 3) := by decide +kernel
theorem dX5_line_34 : decode cX5_line 34 = .ok (.aload_n 0, 1) := by decide +kernel
theorem dX5_line_35 : decode cX5_line 35 = .ok (.getfield 49, 3) := by decide +kernel
theorem dX5_line_38 : decode cX5_line 38 = .ok (.aload_n 0, 1) := by decide +kernel
theorem dX5_line_39 : decode cX5_line 39 = .ok (.getfield 49, 3) := by decide +kernel
theorem dX5_line_42 : decode cX5_line 42 = .ok (.iload_n 1, 1) := by decide +kernel
theorem dX5_line_43 : decode cX5_line 43 = .ok (.invokevirtual 131, 3) := by decide +kernel
theorem dX5_line_46 : decode cX5_line 46 = .ok (.dload_n 2, 1) := by decide +kernel
theorem dX5_line_47 : decode cX5_line 47 = .ok (.invokevirtual 149, 3) := by decide +kernel
theorem dX5_line_50 : decode cX5_line 50 = .ok (.dmul, 1) := by decide +kernel
theorem dX5_line_51 : decode cX5_line 51 = .ok (.invokestatic 153, 3) := by decide +kernel
theorem dX5_line_54 : decode cX5_line 54 = .ok (.ireturn, 1) := by decide +kernel
set_option maxRecDepth 20000 in
theorem ggX5_upside_X2_lowerMinusUpper : GoodIn wsX5_upside wsX2_lowerMinusUpper := goodIn_r _ [6, 7, 8, 9, 10, 11, 5, 12, 13, 14, 15, 16, 17, 18, 19, 20, 21, 22, 23, 24, 25, 26, 27, 28, 29, 30, 31, 32, 33, 40, 41, 42, 43, 44, 45, 46] (by decide +kernel) (by decide +kernel)
set_option maxRecDepth 20000 in
theorem gX5_upside_X2_lowerMinusUpper : GoodIn wsX5_upside (wsV RX5 159 RX2 yX2_lowerMinusUpper wsX2_lowerMinusUpper) := goodIn_app (goodIn_of _ (by decide +kernel)) ggX5_upside_X2_lowerMinusUpper
theorem dX5_upside_0 : decode cX5_upside 0 = .ok (.aload_n 0, 1) := by decide +kernel
theorem dX5_upside_1 : decode cX5_upside 1 = .ok (.getfield 49, 3) := by decide +kernel
theorem dX5_upside_4 : decode cX5_upside 4 = .ok (.invokevirtual 159, 3) := by decide +kernel
theorem dX5_upside_7 : decode cX5_upside 7 = .ok (.ifCond .le 7, 3) := by decide +kernel
theorem dX5_upside_10 : decode cX5_upside 10 = .ok (.iconst 1, 1) := by decide +kernel
theorem dX5_upside_11 : decode cX5_upside 11 = .ok (.goto 4, 3) := by decide +kernel
theorem dX5_upside_14 : decode cX5_upside 14 = .ok (.iconst 0, 1) := by decide +kernel
theorem dX5_upside_15 : decode cX5_upside 15 = .ok (.ireturn, 1) := by decide +kernel
set_option maxRecDepth 20000 in
theorem ggX5_told_X0_samplesOn : GoodIn wsX5_told wsX0_samplesOn := goodIn_r _ [9, 10, 11, 12, 13, 8, 14, 15, 16, 17, 18, 19, 20, 21, 22, 37, 38, 39, 40, 41, 42] (by decide +kernel) (by decide +kernel)
set_option maxRecDepth 20000 in
theorem gX5_told_X0_samplesOn : GoodIn wsX5_told (wsV RX5 109 RX0 yX0_samplesOn wsX0_samplesOn) := goodIn_app (goodIn_of _ (by decide +kernel)) ggX5_told_X0_samplesOn
set_option maxRecDepth 20000 in
theorem ggX5_told_X0_runEnds : GoodIn wsX5_told wsX0_runEnds := goodIn_r _ [26, 10, 27, 28, 29, 8, 30, 11, 12, 13, 14, 15, 16, 17, 18, 19, 20, 21, 22, 37, 38, 39, 40, 41, 42] (by decide +kernel) (by decide +kernel)
set_option maxRecDepth 20000 in
theorem gX5_told_X0_runEnds : GoodIn wsX5_told (wsV RX5 168 RX0 yX0_runEnds wsX0_runEnds) := goodIn_app (goodIn_of _ (by decide +kernel)) ggX5_told_X0_runEnds
theorem dX5_told_0 : decode cX5_told 0 = .ok (.iload_n 1, 1) := by decide +kernel
theorem dX5_told_1 : decode cX5_told 1 = .ok (.tableswitch 72 0 4 #[35, 43, 51, 59, 67], 35) := by decide +kernel
theorem dX5_told_36 : decode cX5_told 36 = .ok (.aload_n 0, 1) := by decide +kernel
theorem dX5_told_37 : decode cX5_told 37 = .ok (.getfield 26, 3) := by decide +kernel
theorem dX5_told_40 : decode cX5_told 40 = .ok (.getfield 162, 3) := by decide +kernel
theorem dX5_told_43 : decode cX5_told 43 = .ok (.ireturn, 1) := by decide +kernel
theorem dX5_told_44 : decode cX5_told 44 = .ok (.aload_n 0, 1) := by decide +kernel
theorem dX5_told_45 : decode cX5_told 45 = .ok (.getfield 26, 3) := by decide +kernel
theorem dX5_told_48 : decode cX5_told 48 = .ok (.getfield 165, 3) := by decide +kernel
theorem dX5_told_51 : decode cX5_told 51 = .ok (.ireturn, 1) := by decide +kernel
theorem dX5_told_52 : decode cX5_told 52 = .ok (.aload_n 0, 1) := by decide +kernel
theorem dX5_told_53 : decode cX5_told 53 = .ok (.getfield 26, 3) := by decide +kernel
theorem dX5_told_56 : decode cX5_told 56 = .ok (.invokevirtual 109, 3) := by decide +kernel
theorem dX5_told_59 : decode cX5_told 59 = .ok (.ireturn, 1) := by decide +kernel
theorem dX5_told_60 : decode cX5_told 60 = .ok (.aload_n 0, 1) := by decide +kernel
theorem dX5_told_61 : decode cX5_told 61 = .ok (.getfield 26, 3) := by decide +kernel
theorem dX5_told_64 : decode cX5_told 64 = .ok (.invokevirtual 168, 3) := by decide +kernel
theorem dX5_told_67 : decode cX5_told 67 = .ok (.ireturn, 1) := by decide +kernel
theorem dX5_told_68 : decode cX5_told 68 = .ok (.aload_n 0, 1) := by decide +kernel
theorem dX5_told_69 : decode cX5_told 69 = .ok (.getfield 13, 3) := by decide +kernel
theorem dX5_told_72 : decode cX5_told 72 = .ok (.ireturn, 1) := by decide +kernel
theorem dX5_told_73 : decode cX5_told 73 = .ok (.iconst (-1), 1) := by decide +kernel
theorem dX5_told_74 : decode cX5_told 74 = .ok (.ireturn, 1) := by decide +kernel
set_option maxRecDepth 20000 in
theorem ggX5_clear_X0_wipe : GoodIn wsX5_clear wsX0_wipe := goodIn_r _ [7, 8, 9, 10, 11, 6, 12, 13, 45, 46, 47, 48, 49, 50] (by decide +kernel) (by decide +kernel)
set_option maxRecDepth 20000 in
theorem gX5_clear_X0_wipe : GoodIn wsX5_clear (wsV RX5 171 RX0 yX0_wipe wsX0_wipe) := goodIn_app (goodIn_of _ (by decide +kernel)) ggX5_clear_X0_wipe
set_option maxRecDepth 20000 in
theorem ggX5_clear_X5_noteChange : GoodIn wsX5_clear wsX5_noteChange := goodIn_r _ [18, 19, 20, 21, 22, 23, 24, 25, 26, 27, 28, 29, 30, 31, 32, 33, 34, 35, 36, 37, 38, 39, 40, 41, 42, 43, 44, 51, 52, 53, 54, 55, 45, 46, 47, 48, 49, 50, 56, 57, 58, 59, 60, 61, 62] (by decide +kernel) (by decide +kernel)
set_option maxRecDepth 20000 in
theorem gX5_clear_X5_noteChange : GoodIn wsX5_clear (wsV RX5 67 RX5 yX5_noteChange wsX5_noteChange) := goodIn_app (goodIn_of _ (by decide +kernel)) ggX5_clear_X5_noteChange
theorem dX5_clear_0 : decode cX5_clear 0 = .ok (.aload_n 0, 1) := by decide +kernel
theorem dX5_clear_1 : decode cX5_clear 1 = .ok (.getfield 26, 3) := by decide +kernel
theorem dX5_clear_4 : decode cX5_clear 4 = .ok (.invokevirtual 171, 3) := by decide +kernel
theorem dX5_clear_7 : decode cX5_clear 7 = .ok (.aload_n 0, 1) := by decide +kernel
theorem dX5_clear_8 : decode cX5_clear 8 = .ok (.iconst 0, 1) := by decide +kernel
theorem dX5_clear_9 : decode cX5_clear 9 = .ok (.putfield 13, 3) := by decide +kernel
theorem dX5_clear_12 : decode cX5_clear 12 = .ok (.aload_n 0, 1) := by decide +kernel
theorem dX5_clear_13 : decode cX5_clear 13 = .ok (.invokevirtual 67, 3) := by decide +kernel
theorem dX5_clear_16 : decode cX5_clear 16 = .ok (.return_, 1) := by decide +kernel
theorem dX5_nearestSide_0 : decode cX5_nearestSide 0 = .ok (.iconst 1, 1) := by decide +kernel
theorem dX5_nearestSide_1 : decode cX5_nearestSide 1 = .ok (.bipush 24, 2) := by decide +kernel
theorem dX5_nearestSide_3 : decode cX5_nearestSide 3 = .ok (.iload_n 0, 1) := by decide +kernel
theorem dX5_nearestSide_4 : decode cX5_nearestSide 4 = .ok (.invokestatic 174, 3) := by decide +kernel
theorem dX5_nearestSide_7 : decode cX5_nearestSide 7 = .ok (.invokestatic 179, 3) := by decide +kernel
theorem dX5_nearestSide_10 : decode cX5_nearestSide 10 = .ok (.ireturn, 1) := by decide +kernel
set_option maxRecDepth 20000 in
theorem ggX5_noteChange_X4_open : GoodIn wsX5_noteChange wsX4_open := goodIn_r _ [7, 8, 9, 10, 11, 12, 13, 14, 27, 28, 29, 30, 31, 32, 33, 34, 35, 36, 37] (by decide +kernel) (by decide +kernel)
set_option maxRecDepth 20000 in
theorem gX5_noteChange_X4_open : GoodIn wsX5_noteChange (wsV RX5 182 RX4 yX4_open wsX4_open) := goodIn_app (goodIn_of _ (by decide +kernel)) ggX5_noteChange_X4_open
set_option maxRecDepth 20000 in
theorem ggX5_noteChange_X3_forget : GoodIn wsX5_noteChange wsX3_forget := goodIn_r _ [19, 20, 38, 39, 40, 41, 42, 43, 44] (by decide +kernel) (by decide +kernel)
set_option maxRecDepth 20000 in
theorem gX5_noteChange_X3_forget : GoodIn wsX5_noteChange (wsV RX5 185 RX3 yX3_forget wsX3_forget) := goodIn_app (goodIn_of _ (by decide +kernel)) ggX5_noteChange_X3_forget
theorem dX5_noteChange_0 : decode cX5_noteChange 0 = .ok (.aload_n 0, 1) := by decide +kernel
theorem dX5_noteChange_1 : decode cX5_noteChange 1 = .ok (.getfield 35, 3) := by decide +kernel
theorem dX5_noteChange_4 : decode cX5_noteChange 4 = .ok (.invokevirtual 182, 3) := by decide +kernel
theorem dX5_noteChange_7 : decode cX5_noteChange 7 = .ok (.aload_n 0, 1) := by decide +kernel
theorem dX5_noteChange_8 : decode cX5_noteChange 8 = .ok (.getfield 42, 3) := by decide +kernel
theorem dX5_noteChange_11 : decode cX5_noteChange 11 = .ok (.invokevirtual 185, 3) := by decide +kernel
theorem dX5_noteChange_14 : decode cX5_noteChange 14 = .ok (.return_, 1) := by decide +kernel
set_option maxRecDepth 20000 in
theorem ggX5_checkSample_X0_has : GoodIn wsX5_checkSample wsX0_has := goodIn_r _ [8, 9, 10, 17, 18, 19, 20, 21, 22] (by decide +kernel) (by decide +kernel)
set_option maxRecDepth 20000 in
theorem gX5_checkSample_X0_has : GoodIn wsX5_checkSample (wsV RX5 188 RX0 yX0_has wsX0_has) := goodIn_app (goodIn_of _ (by decide +kernel)) ggX5_checkSample_X0_has
theorem dX5_checkSample_0 : decode cX5_checkSample 0 = .ok (.aload_n 0, 1) := by decide +kernel
theorem dX5_checkSample_1 : decode cX5_checkSample 1 = .ok (.getfield 26, 3) := by decide +kernel
theorem dX5_checkSample_4 : decode cX5_checkSample 4 = .ok (.iload_n 1, 1) := by decide +kernel
theorem dX5_checkSample_5 : decode cX5_checkSample 5 = .ok (.iload_n 2, 1) := by decide +kernel
theorem dX5_checkSample_6 : decode cX5_checkSample 6 = .ok (.invokevirtual 188, 3) := by decide +kernel
theorem dX5_checkSample_9 : decode cX5_checkSample 9 = .ok (.ifCond .ne 13, 3) := by decide +kernel
theorem dX5_checkSample_12 : decode cX5_checkSample 12 = .ok (.new 191, 3) := by decide +kernel
theorem dX5_checkSample_15 : decode cX5_checkSample 15 = .ok (.dup, 1) := by decide +kernel
theorem dX5_checkSample_16 : decode cX5_checkSample 16 = .ok (.ldc 193, 2) := by decide +kernel
theorem dX5_checkSample_18 : decode cX5_checkSample 18 = .ok (.invokespecial 195, 3) := by decide +kernel
theorem dX5_checkSample_21 : decode cX5_checkSample 21 = .ok (.athrow, 1) := by decide +kernel
theorem dX5_checkSample_22 : decode cX5_checkSample 22 = .ok (.return_, 1) := by decide +kernel
theorem dX5_checkSide_0 : decode cX5_checkSide 0 = .ok (.iload_n 0, 1) := by decide +kernel
theorem dX5_checkSide_1 : decode cX5_checkSide 1 = .ok (.ifCond .lt 8, 3) := by decide +kernel
theorem dX5_checkSide_4 : decode cX5_checkSide 4 = .ok (.iload_n 0, 1) := by decide +kernel
theorem dX5_checkSide_5 : decode cX5_checkSide 5 = .ok (.iconst 3, 1) := by decide +kernel
theorem dX5_checkSide_6 : decode cX5_checkSide 6 = .ok (.if_icmp .le 13, 3) := by decide +kernel
theorem dX5_checkSide_9 : decode cX5_checkSide 9 = .ok (.new 191, 3) := by decide +kernel
theorem dX5_checkSide_12 : decode cX5_checkSide 12 = .ok (.dup, 1) := by decide +kernel
theorem dX5_checkSide_13 : decode cX5_checkSide 13 = .ok (.ldc 196, 2) := by decide +kernel
theorem dX5_checkSide_15 : decode cX5_checkSide 15 = .ok (.invokespecial 195, 3) := by decide +kernel
theorem dX5_checkSide_18 : decode cX5_checkSide 18 = .ok (.athrow, 1) := by decide +kernel
theorem dX5_checkSide_19 : decode cX5_checkSide 19 = .ok (.return_, 1) := by decide +kernel
set_option maxRecDepth 20000 in
theorem ggX5_checkBand_X2_bandCount : GoodIn wsX5_checkBand wsX2_bandCount := goodIn_r _ [8, 9, 10, 11, 12, 13, 7, 14, 15, 16, 17, 18, 19, 20, 27, 28, 29, 30, 31, 32, 33] (by decide +kernel) (by decide +kernel)
set_option maxRecDepth 20000 in
theorem gX5_checkBand_X2_bandCount : GoodIn wsX5_checkBand (wsV RX5 125 RX2 yX2_bandCount wsX2_bandCount) := goodIn_app (goodIn_of _ (by decide +kernel)) ggX5_checkBand_X2_bandCount
theorem dX5_checkBand_0 : decode cX5_checkBand 0 = .ok (.iload_n 1, 1) := by decide +kernel
theorem dX5_checkBand_1 : decode cX5_checkBand 1 = .ok (.ifCond .lt 14, 3) := by decide +kernel
theorem dX5_checkBand_4 : decode cX5_checkBand 4 = .ok (.iload_n 1, 1) := by decide +kernel
theorem dX5_checkBand_5 : decode cX5_checkBand 5 = .ok (.aload_n 0, 1) := by decide +kernel
theorem dX5_checkBand_6 : decode cX5_checkBand 6 = .ok (.getfield 49, 3) := by decide +kernel
theorem dX5_checkBand_9 : decode cX5_checkBand 9 = .ok (.invokevirtual 125, 3) := by decide +kernel
theorem dX5_checkBand_12 : decode cX5_checkBand 12 = .ok (.if_icmp .lt 13, 3) := by decide +kernel
theorem dX5_checkBand_15 : decode cX5_checkBand 15 = .ok (.new 191, 3) := by decide +kernel
theorem dX5_checkBand_18 : decode cX5_checkBand 18 = .ok (.dup, 1) := by decide +kernel
theorem dX5_checkBand_19 : decode cX5_checkBand 19 = .ok (.ldc 198, 2) := by decide +kernel
theorem dX5_checkBand_21 : decode cX5_checkBand 21 = .ok (.invokespecial 195, 3) := by decide +kernel
theorem dX5_checkBand_24 : decode cX5_checkBand 24 = .ok (.athrow, 1) := by decide +kernel
theorem dX5_checkBand_25 : decode cX5_checkBand 25 = .ok (.return_, 1) := by decide +kernel
theorem dX5_checkAngle_0 : decode cX5_checkAngle 0 = .ok (.iload_n 0, 1) := by decide +kernel
theorem dX5_checkAngle_1 : decode cX5_checkAngle 1 = .ok (.sipush (-2000), 3) := by decide +kernel
theorem dX5_checkAngle_4 : decode cX5_checkAngle 4 = .ok (.if_icmp .lt 10, 3) := by decide +kernel
theorem dX5_checkAngle_7 : decode cX5_checkAngle 7 = .ok (.iload_n 0, 1) := by decide +kernel
theorem dX5_checkAngle_8 : decode cX5_checkAngle 8 = .ok (.sipush 2000, 3) := by decide +kernel
theorem dX5_checkAngle_11 : decode cX5_checkAngle 11 = .ok (.if_icmp .le 13, 3) := by decide +kernel
theorem dX5_checkAngle_14 : decode cX5_checkAngle 14 = .ok (.new 56, 3) := by decide +kernel
theorem dX5_checkAngle_17 : decode cX5_checkAngle 17 = .ok (.dup, 1) := by decide +kernel
theorem dX5_checkAngle_18 : decode cX5_checkAngle 18 = .ok (.ldc 200, 2) := by decide +kernel
theorem dX5_checkAngle_20 : decode cX5_checkAngle 20 = .ok (.invokespecial 60, 3) := by decide +kernel
theorem dX5_checkAngle_23 : decode cX5_checkAngle 23 = .ok (.athrow, 1) := by decide +kernel
theorem dX5_checkAngle_24 : decode cX5_checkAngle 24 = .ok (.return_, 1) := by decide +kernel
set_option maxRecDepth 20000 in
theorem ggX5_checkAsked_X3_isAsked : GoodIn wsX5_checkAsked wsX3_isAsked := goodIn_r _ [8, 9, 16, 17, 18, 19, 20, 21, 22] (by decide +kernel) (by decide +kernel)
set_option maxRecDepth 20000 in
theorem gX5_checkAsked_X3_isAsked : GoodIn wsX5_checkAsked (wsV RX5 202 RX3 yX3_isAsked wsX3_isAsked) := goodIn_app (goodIn_of _ (by decide +kernel)) ggX5_checkAsked_X3_isAsked
theorem dX5_checkAsked_0 : decode cX5_checkAsked 0 = .ok (.aload_n 0, 1) := by decide +kernel
theorem dX5_checkAsked_1 : decode cX5_checkAsked 1 = .ok (.getfield 42, 3) := by decide +kernel
theorem dX5_checkAsked_4 : decode cX5_checkAsked 4 = .ok (.invokevirtual 202, 3) := by decide +kernel
theorem dX5_checkAsked_7 : decode cX5_checkAsked 7 = .ok (.ifCond .ne 13, 3) := by decide +kernel
theorem dX5_checkAsked_10 : decode cX5_checkAsked 10 = .ok (.new 205, 3) := by decide +kernel
theorem dX5_checkAsked_13 : decode cX5_checkAsked 13 = .ok (.dup, 1) := by decide +kernel
theorem dX5_checkAsked_14 : decode cX5_checkAsked 14 = .ok (.ldc 207, 2) := by decide +kernel
theorem dX5_checkAsked_16 : decode cX5_checkAsked 16 = .ok (.invokespecial 209, 3) := by decide +kernel
theorem dX5_checkAsked_19 : decode cX5_checkAsked 19 = .ok (.athrow, 1) := by decide +kernel
theorem dX5_checkAsked_20 : decode cX5_checkAsked 20 = .ok (.return_, 1) := by decide +kernel
end
section
/-! printed names, part 05.d6 -/
set_option maxRecDepth 20000 in
theorem ggX6_init_X6_whole : GoodIn wsX6_init wsX6_whole := goodIn_r _ [17, 8, 11, 12, 18, 19, 20, 21, 22, 23, 24, 25, 26, 27, 28, 29, 30, 31, 32] (by decide +kernel) (by decide +kernel)
set_option maxRecDepth 20000 in
theorem gX6_init_X6_whole : GoodIn wsX6_init (wsV RX6 33 RX6 yX6_whole wsX6_whole) := goodIn_app (goodIn_of _ (by decide +kernel)) ggX6_init_X6_whole
theorem dX6_init_0 : decode cX6_init 0 = .ok (.aload_n 0, 1) := by decide +kernel
theorem dX6_init_1 : decode cX6_init 1 = .ok (.invokespecial 1, 3) := by decide +kernel
theorem dX6_init_4 : decode cX6_init 4 = .ok (.aload_n 0, 1) := by decide +kernel
theorem dX6_init_5 : decode cX6_init 5 = .ok (.sipush 576, 3) := by decide +kernel
theorem dX6_init_8 : decode cX6_init 8 = .ok (.newarray .boolean, 2) := by decide +kernel
theorem dX6_init_10 : decode cX6_init 10 = .ok (.putfield 7, 3) := by decide +kernel
theorem dX6_init_13 : decode cX6_init 13 = .ok (.aload_n 0, 1) := by decide +kernel
theorem dX6_init_14 : decode cX6_init 14 = .ok (.sipush 576, 3) := by decide +kernel
theorem dX6_init_17 : decode cX6_init 17 = .ok (.newarray .boolean, 2) := by decide +kernel
theorem dX6_init_19 : decode cX6_init 19 = .ok (.putfield 13, 3) := by decide +kernel
theorem dX6_init_22 : decode cX6_init 22 = .ok (.aload_n 0, 1) := by decide +kernel
theorem dX6_init_23 : decode cX6_init 23 = .ok (.iconst 4, 1) := by decide +kernel
theorem dX6_init_24 : decode cX6_init 24 = .ok (.newarray .int, 2) := by decide +kernel
theorem dX6_init_26 : decode cX6_init 26 = .ok (.putfield 16, 3) := by decide +kernel
theorem dX6_init_29 : decode cX6_init 29 = .ok (.aload_n 0, 1) := by decide +kernel
theorem dX6_init_30 : decode cX6_init 30 = .ok (.bipush 16, 2) := by decide +kernel
theorem dX6_init_32 : decode cX6_init 32 = .ok (.newarray .int, 2) := by decide +kernel
theorem dX6_init_34 : decode cX6_init 34 = .ok (.putfield 20, 3) := by decide +kernel
theorem dX6_init_37 : decode cX6_init 37 = .ok (.aload_n 0, 1) := by decide +kernel
theorem dX6_init_38 : decode cX6_init 38 = .ok (.bipush 104, 2) := by decide +kernel
theorem dX6_init_40 : decode cX6_init 40 = .ok (.newarray .int, 2) := by decide +kernel
theorem dX6_init_42 : decode cX6_init 42 = .ok (.putfield 23, 3) := by decide +kernel
theorem dX6_init_45 : decode cX6_init 45 = .ok (.aload_n 0, 1) := by decide +kernel
theorem dX6_init_46 : decode cX6_init 46 = .ok (.iload_n 1, 1) := by decide +kernel
theorem dX6_init_47 : decode cX6_init 47 = .ok (.iconst 1, 1) := by decide +kernel
theorem dX6_init_48 : decode cX6_init 48 = .ok (.if_icmp .ge 7, 3) := by decide +kernel
theorem dX6_init_51 : decode cX6_init 51 = .ok (.iconst 1, 1) := by decide +kernel
theorem dX6_init_52 : decode cX6_init 52 = .ok (.goto 15, 3) := by decide +kernel
theorem dX6_init_55 : decode cX6_init 55 = .ok (.iload_n 1, 1) := by decide +kernel
theorem dX6_init_56 : decode cX6_init 56 = .ok (.bipush 24, 2) := by decide +kernel
theorem dX6_init_58 : decode cX6_init 58 = .ok (.if_icmp .le 8, 3) := by decide +kernel
theorem dX6_init_61 : decode cX6_init 61 = .ok (.bipush 24, 2) := by decide +kernel
theorem dX6_init_63 : decode cX6_init 63 = .ok (.goto 4, 3) := by decide +kernel
theorem dX6_init_66 : decode cX6_init 66 = .ok (.iload_n 1, 1) := by decide +kernel
theorem dX6_init_67 : decode cX6_init 67 = .ok (.putfield 26, 3) := by decide +kernel
theorem dX6_init_70 : decode cX6_init 70 = .ok (.aload_n 0, 1) := by decide +kernel
theorem dX6_init_71 : decode cX6_init 71 = .ok (.iload_n 2, 1) := by decide +kernel
theorem dX6_init_72 : decode cX6_init 72 = .ok (.iconst 1, 1) := by decide +kernel
theorem dX6_init_73 : decode cX6_init 73 = .ok (.if_icmp .ge 7, 3) := by decide +kernel
theorem dX6_init_76 : decode cX6_init 76 = .ok (.iconst 1, 1) := by decide +kernel
theorem dX6_init_77 : decode cX6_init 77 = .ok (.goto 15, 3) := by decide +kernel
theorem dX6_init_80 : decode cX6_init 80 = .ok (.iload_n 2, 1) := by decide +kernel
theorem dX6_init_81 : decode cX6_init 81 = .ok (.bipush 24, 2) := by decide +kernel
theorem dX6_init_83 : decode cX6_init 83 = .ok (.if_icmp .le 8, 3) := by decide +kernel
theorem dX6_init_86 : decode cX6_init 86 = .ok (.bipush 24, 2) := by decide +kernel
theorem dX6_init_88 : decode cX6_init 88 = .ok (.goto 4, 3) := by decide +kernel
theorem dX6_init_91 : decode cX6_init 91 = .ok (.iload_n 2, 1) := by decide +kernel
theorem dX6_init_92 : decode cX6_init 92 = .ok (.putfield 30, 3) := by decide +kernel
theorem dX6_init_95 : decode cX6_init 95 = .ok (.aload_n 0, 1) := by decide +kernel
theorem dX6_init_96 : decode cX6_init 96 = .ok (.invokevirtual 33, 3) := by decide +kernel
theorem dX6_init_99 : decode cX6_init 99 = .ok (.return_, 1) := by decide +kernel
theorem dX6_thrown_0 : decode cX6_thrown 0 = .ok (.aload_n 0, 1) := by decide +kernel
theorem dX6_thrown_1 : decode cX6_thrown 1 = .ok (.getfield 36, 3) := by decide +kernel
theorem dX6_thrown_4 : decode cX6_thrown 4 = .ok (.ireturn, 1) := by decide +kernel
theorem dX6_refuses_0 : decode cX6_refuses 0 = .ok (.aload_n 0, 1) := by decide +kernel
theorem dX6_refuses_1 : decode cX6_refuses 1 = .ok (.iload_n 1, 1) := by decide +kernel
theorem dX6_refuses_2 : decode cX6_refuses 2 = .ok (.putfield 36, 3) := by decide +kernel
theorem dX6_refuses_5 : decode cX6_refuses 5 = .ok (.iload_n 1, 1) := by decide +kernel
theorem dX6_refuses_6 : decode cX6_refuses 6 = .ok (.ifCond .le 7, 3) := by decide +kernel
theorem dX6_refuses_9 : decode cX6_refuses 9 = .ok (.iconst 1, 1) := by decide +kernel
theorem dX6_refuses_10 : decode cX6_refuses 10 = .ok (.goto 4, 3) := by decide +kernel
theorem dX6_refuses_13 : decode cX6_refuses 13 = .ok (.iconst 0, 1) := by decide +kernel
theorem dX6_refuses_14 : decode cX6_refuses 14 = .ok (.ireturn, 1) := by decide +kernel
theorem dX6_whole_0 : decode cX6_whole 0 = .ok (.aload_n 0, 1) := by decide +kernel
theorem dX6_whole_1 : decode cX6_whole 1 = .ok (.getfield 16, 3) := by decide +kernel
theorem dX6_whole_4 : decode cX6_whole 4 = .ok (.iconst 0, 1) := by decide +kernel
theorem dX6_whole_5 : decode cX6_whole 5 = .ok (.iconst 0, 1) := by decide +kernel
theorem dX6_whole_6 : decode cX6_whole 6 = .ok (.iastore, 1) := by decide +kernel
theorem dX6_whole_7 : decode cX6_whole 7 = .ok (.aload_n 0, 1) := by decide +kernel
theorem dX6_whole_8 : decode cX6_whole 8 = .ok (.getfield 16, 3) := by decide +kernel
theorem dX6_whole_11 : decode cX6_whole 11 = .ok (.iconst 1, 1) := by decide +kernel
theorem dX6_whole_12 : decode cX6_whole 12 = .ok (.iconst 0, 1) := by decide +kernel
theorem dX6_whole_13 : decode cX6_whole 13 = .ok (.iastore, 1) := by decide +kernel
theorem dX6_whole_14 : decode cX6_whole 14 = .ok (.aload_n 0, 1) := by decide +kernel
theorem dX6_whole_15 : decode cX6_whole 15 = .ok (.getfield 16, 3) := by decide +kernel
theorem dX6_whole_18 : decode cX6_whole 18 = .ok (.iconst 2, 1) := by decide +kernel
theorem dX6_whole_19 : decode cX6_whole 19 = .ok (.aload_n 0, 1) := by decide +kernel
theorem dX6_whole_20 : decode cX6_whole 20 = .ok (.getfield 26, 3) := by decide +kernel
theorem dX6_whole_23 : decode cX6_whole 23 = .ok (.iastore, 1) := by decide +kernel
theorem dX6_whole_24 : decode cX6_whole 24 = .ok (.aload_n 0, 1) := by decide +kernel
theorem dX6_whole_25 : decode cX6_whole 25 = .ok (.getfield 16, 3) := by decide +kernel
theorem dX6_whole_28 : decode cX6_whole 28 = .ok (.iconst 3, 1) := by decide +kernel
theorem dX6_whole_29 : decode cX6_whole 29 = .ok (.aload_n 0, 1) := by decide +kernel
theorem dX6_whole_30 : decode cX6_whole 30 = .ok (.getfield 30, 3) := by decide +kernel
theorem dX6_whole_33 : decode cX6_whole 33 = .ok (.iastore, 1) := by decide +kernel
theorem dX6_whole_34 : decode cX6_whole 34 = .ok (.aload_n 0, 1) := by decide +kernel
theorem dX6_whole_35 : decode cX6_whole 35 = .ok (.iconst 0, 1) := by decide +kernel
theorem dX6_whole_36 : decode cX6_whole 36 = .ok (.putfield 39, 3) := by decide +kernel
theorem dX6_whole_39 : decode cX6_whole 39 = .ok (.return_, 1) := by decide +kernel
theorem dX6_isOn_0 : decode cX6_isOn 0 = .ok (.iload_n 1, 1) := by decide +kernel
theorem dX6_isOn_1 : decode cX6_isOn 1 = .ok (.ifCond .lt 41, 3) := by decide +kernel
theorem dX6_isOn_4 : decode cX6_isOn 4 = .ok (.iload_n 1, 1) := by decide +kernel
theorem dX6_isOn_5 : decode cX6_isOn 5 = .ok (.aload_n 0, 1) := by decide +kernel
theorem dX6_isOn_6 : decode cX6_isOn 6 = .ok (.getfield 26, 3) := by decide +kernel
theorem dX6_isOn_9 : decode cX6_isOn 9 = .ok (.if_icmp .ge 33, 3) := by decide +kernel
theorem dX6_isOn_12 : decode cX6_isOn 12 = .ok (.iload_n 2, 1) := by decide +kernel
theorem dX6_isOn_13 : decode cX6_isOn 13 = .ok (.ifCond .lt 29, 3) := by decide +kernel
theorem dX6_isOn_16 : decode cX6_isOn 16 = .ok (.iload_n 2, 1) := by decide +kernel
theorem dX6_isOn_17 : decode cX6_isOn 17 = .ok (.aload_n 0, 1) := by decide +kernel
theorem dX6_isOn_18 : decode cX6_isOn 18 = .ok (.getfield 30, 3) := by decide +kernel
theorem dX6_isOn_21 : decode cX6_isOn 21 = .ok (.if_icmp .ge 21, 3) := by decide +kernel
theorem dX6_isOn_24 : decode cX6_isOn 24 = .ok (.aload_n 0, 1) := by decide +kernel
theorem dX6_isOn_25 : decode cX6_isOn 25 = .ok (.getfield 7, 3) := by decide +kernel
theorem dX6_isOn_28 : decode cX6_isOn 28 = .ok (.bipush 24, 2) := by decide +kernel
theorem dX6_isOn_30 : decode cX6_isOn 30 = .ok (.iload_n 2, 1) := by decide +kernel
theorem dX6_isOn_31 : decode cX6_isOn 31 = .ok (.imul, 1) := by decide +kernel
theorem dX6_isOn_32 : decode cX6_isOn 32 = .ok (.iload_n 1, 1) := by decide +kernel
theorem dX6_isOn_33 : decode cX6_isOn 33 = .ok (.iadd, 1) := by decide +kernel
theorem dX6_isOn_34 : decode cX6_isOn 34 = .ok (.baload, 1) := by decide +kernel
theorem dX6_isOn_35 : decode cX6_isOn 35 = .ok (.ifCond .eq 7, 3) := by decide +kernel
theorem dX6_isOn_38 : decode cX6_isOn 38 = .ok (.iconst 1, 1) := by decide +kernel
theorem dX6_isOn_39 : decode cX6_isOn 39 = .ok (.goto 4, 3) := by decide +kernel
theorem dX6_isOn_42 : decode cX6_isOn 42 = .ok (.iconst 0, 1) := by decide +kernel
theorem dX6_isOn_43 : decode cX6_isOn 43 = .ok (.ireturn, 1) := by decide +kernel
theorem dX6_isSample_0 : decode cX6_isSample 0 = .ok (.iload_n 1, 1) := by decide +kernel
theorem dX6_isSample_1 : decode cX6_isSample 1 = .ok (.ifCond .lt 27, 3) := by decide +kernel
theorem dX6_isSample_4 : decode cX6_isSample 4 = .ok (.iload_n 1, 1) := by decide +kernel
theorem dX6_isSample_5 : decode cX6_isSample 5 = .ok (.aload_n 0, 1) := by decide +kernel
theorem dX6_isSample_6 : decode cX6_isSample 6 = .ok (.getfield 26, 3) := by decide +kernel
theorem dX6_isSample_9 : decode cX6_isSample 9 = .ok (.if_icmp .ge 19, 3) := by decide +kernel
theorem dX6_isSample_12 : decode cX6_isSample 12 = .ok (.iload_n 2, 1) := by decide +kernel
theorem dX6_isSample_13 : decode cX6_isSample 13 = .ok (.ifCond .lt 15, 3) := by decide +kernel
theorem dX6_isSample_16 : decode cX6_isSample 16 = .ok (.iload_n 2, 1) := by decide +kernel
theorem dX6_isSample_17 : decode cX6_isSample 17 = .ok (.aload_n 0, 1) := by decide +kernel
theorem dX6_isSample_18 : decode cX6_isSample 18 = .ok (.getfield 30, 3) := by decide +kernel
theorem dX6_isSample_21 : decode cX6_isSample 21 = .ok (.if_icmp .ge 7, 3) := by decide +kernel
theorem dX6_isSample_24 : decode cX6_isSample 24 = .ok (.iconst 1, 1) := by decide +kernel
theorem dX6_isSample_25 : decode cX6_isSample 25 = .ok (.goto 4, 3) := by decide +kernel
theorem dX6_isSample_28 : decode cX6_isSample 28 = .ok (.iconst 0, 1) := by decide +kernel
theorem dX6_isSample_29 : decode cX6_isSample 29 = .ok (.ireturn, 1) := by decide +kernel
theorem dX6_countOn_0 : decode cX6_countOn 0 = .ok (.iconst 0, 1) := by decide +kernel
theorem dX6_countOn_1 : decode cX6_countOn 1 = .ok (.istore_n 1, 1) := by decide +kernel
theorem dX6_countOn_2 : decode cX6_countOn 2 = .ok (.iconst 0, 1) := by decide +kernel
theorem dX6_countOn_3 : decode cX6_countOn 3 = .ok (.istore_n 2, 1) := by decide +kernel
theorem dX6_countOn_4 : decode cX6_countOn 4 = .ok (.iload_n 2, 1) := by decide +kernel
theorem dX6_countOn_5 : decode cX6_countOn 5 = .ok (.sipush 576, 3) := by decide +kernel
theorem dX6_countOn_8 : decode cX6_countOn 8 = .ok (.if_icmp .ge 26, 3) := by decide +kernel
theorem dX6_countOn_11 : decode cX6_countOn 11 = .ok (.iload_n 1, 1) := by decide +kernel
theorem dX6_countOn_12 : decode cX6_countOn 12 = .ok (.aload_n 0, 1) := by decide +kernel
theorem dX6_countOn_13 : decode cX6_countOn 13 = .ok (.getfield 7, 3) := by decide +kernel
theorem dX6_countOn_16 : decode cX6_countOn 16 = .ok (.iload_n 2, 1) := by decide +kernel
theorem dX6_countOn_17 : decode cX6_countOn 17 = .ok (.baload, 1) := by decide +kernel
theorem dX6_countOn_18 : decode cX6_countOn 18 = .ok (.ifCond .eq 7, 3) := by decide +kernel
theorem dX6_countOn_21 : decode cX6_countOn 21 = .ok (.iconst 1, 1) := by decide +kernel
theorem dX6_countOn_22 : decode cX6_countOn 22 = .ok (.goto 4, 3) := by decide +kernel
theorem dX6_countOn_25 : decode cX6_countOn 25 = .ok (.iconst 0, 1) := by decide +kernel
theorem dX6_countOn_26 : decode cX6_countOn 26 = .ok (.iadd, 1) := by decide +kernel
theorem dX6_countOn_27 : decode cX6_countOn 27 = .ok (.istore_n 1, 1) := by decide +kernel
theorem dX6_countOn_28 : decode cX6_countOn 28 = .ok (.iinc 2 1, 3) := by decide +kernel
theorem dX6_countOn_31 : decode cX6_countOn 31 = .ok (.goto (-27), 3) := by decide +kernel
theorem dX6_countOn_34 : decode cX6_countOn 34 = .ok (.iload_n 1, 1) := by decide +kernel
theorem dX6_countOn_35 : decode cX6_countOn 35 = .ok (.ireturn, 1) := by decide +kernel
theorem dX6_wholeOf_0 : decode cX6_wholeOf 0 = .ok (.dload_n 0, 1) := by decide +kernel
theorem dX6_wholeOf_1 : decode cX6_wholeOf 1 = .ok (.ldc2_w 43, 3) := by decide +kernel
theorem dX6_wholeOf_4 : decode cX6_wholeOf 4 = .ok (.dadd, 1) := by decide +kernel
theorem dX6_wholeOf_5 : decode cX6_wholeOf 5 = .ok (.dstore_n 2, 1) := by decide +kernel
theorem dX6_wholeOf_6 : decode cX6_wholeOf 6 = .ok (.dload_n 2, 1) := by decide +kernel
theorem dX6_wholeOf_7 : decode cX6_wholeOf 7 = .ok (.d2i, 1) := by decide +kernel
theorem dX6_wholeOf_8 : decode cX6_wholeOf 8 = .ok (.istore 4, 2) := by decide +kernel
theorem dX6_wholeOf_10 : decode cX6_wholeOf 10 = .ok (.iload 4, 2) := by decide +kernel
theorem dX6_wholeOf_12 : decode cX6_wholeOf 12 = .ok (.i2d, 1) := by decide +kernel
theorem dX6_wholeOf_13 : decode cX6_wholeOf 13 = .ok (.dload_n 2, 1) := by decide +kernel
theorem dX6_wholeOf_14 : decode cX6_wholeOf 14 = .ok (.dcmp .l, 1) := by decide +kernel
theorem dX6_wholeOf_15 : decode cX6_wholeOf 15 = .ok (.ifCond .le 10, 3) := by decide +kernel
theorem dX6_wholeOf_18 : decode cX6_wholeOf 18 = .ok (.iload 4, 2) := by decide +kernel
theorem dX6_wholeOf_20 : decode cX6_wholeOf 20 = .ok (.iconst 1, 1) := by decide +kernel
theorem dX6_wholeOf_21 : decode cX6_wholeOf 21 = .ok (.isub, 1) := by decide +kernel
theorem dX6_wholeOf_22 : decode cX6_wholeOf 22 = .ok (.goto 5, 3) := by decide +kernel
theorem dX6_wholeOf_25 : decode cX6_wholeOf 25 = .ok (.iload 4, 2) := by decide +kernel
theorem dX6_wholeOf_27 : decode cX6_wholeOf 27 = .ok (.ireturn, 1) := by decide +kernel
theorem dX6_radians_0 : decode cX6_radians 0 = .ok (.dload_n 0, 1) := by decide +kernel
theorem dX6_radians_1 : decode cX6_radians 1 = .ok (.ldc2_w 45, 3) := by decide +kernel
theorem dX6_radians_4 : decode cX6_radians 4 = .ok (.dmul, 1) := by decide +kernel
theorem dX6_radians_5 : decode cX6_radians 5 = .ok (.ldc2_w 47, 3) := by decide +kernel
theorem dX6_radians_8 : decode cX6_radians 8 = .ok (.ddiv, 1) := by decide +kernel
theorem dX6_radians_9 : decode cX6_radians 9 = .ok (.dreturn, 1) := by decide +kernel
set_option maxRecDepth 20000 in
theorem ggX6_slope_X6_radians : GoodIn wsX6_slope wsX6_radians := goodIn_r _ [7, 8, 9] (by decide +kernel) (by decide +kernel)
set_option maxRecDepth 20000 in
theorem gX6_slope_X6_radians : GoodIn wsX6_slope (va_wsS RX6 49 yX6_radians wsX6_radians) := goodIn_app (goodIn_of _ (by decide +kernel)) ggX6_slope_X6_radians
theorem dX6_slope_0 : decode cX6_slope 0 = .ok (.dload_n 0, 1) := by decide +kernel
theorem dX6_slope_1 : decode cX6_slope 1 = .ok (.invokestatic 49, 3) := by decide +kernel
theorem dX6_slope_4 : decode cX6_slope 4 = .ok (.dstore_n 2, 1) := by decide +kernel
theorem dX6_slope_5 : decode cX6_slope 5 = .ok (.dload_n 2, 1) := by decide +kernel
theorem dX6_slope_6 : decode cX6_slope 6 = .ok (.dload_n 2, 1) := by decide +kernel
theorem dX6_slope_7 : decode cX6_slope 7 = .ok (.dmul, 1) := by decide +kernel
theorem dX6_slope_8 : decode cX6_slope 8 = .ok (.dstore 4, 2) := by decide +kernel
theorem dX6_slope_10 : decode cX6_slope 10 = .ok (.dload_n 2, 1) := by decide +kernel
theorem dX6_slope_11 : decode cX6_slope 11 = .ok (.dconst 1, 1) := by decide +kernel
theorem dX6_slope_12 : decode cX6_slope 12 = .ok (.dload 4, 2) := by decide +kernel
theorem dX6_slope_14 : decode cX6_slope 14 = .ok (.ldc2_w 53, 3) := by decide +kernel
theorem dX6_slope_17 : decode cX6_slope 17 = .ok (.dload 4, 2) := by decide +kernel
theorem dX6_slope_19 : decode cX6_slope 19 = .ok (.ldc2_w 55, 3) := by decide +kernel
theorem dX6_slope_22 : decode cX6_slope 22 = .ok (.dload 4, 2) := by decide +kernel
theorem dX6_slope_24 : decode cX6_slope 24 = .ok (.ldc2_w 57, 3) := by decide +kernel
theorem dX6_slope_27 : decode cX6_slope 27 = .ok (.dmul, 1) := by decide +kernel
theorem dX6_slope_28 : decode cX6_slope 28 = .ok (.dadd, 1) := by decide +kernel
theorem dX6_slope_29 : decode cX6_slope 29 = .ok (.dmul, 1) := by decide +kernel
theorem dX6_slope_30 : decode cX6_slope 30 = .ok (.dadd, 1) := by decide +kernel
theorem dX6_slope_31 : decode cX6_slope 31 = .ok (.dmul, 1) := by decide +kernel
theorem dX6_slope_32 : decode cX6_slope 32 = .ok (.dadd, 1) := by decide +kernel
theorem dX6_slope_33 : decode cX6_slope 33 = .ok (.dmul, 1) := by decide +kernel
theorem dX6_slope_34 : decode cX6_slope 34 = .ok (.dreturn, 1) := by decide +kernel
set_option maxRecDepth 20000 in
theorem ggX6_sine_X6_radians : GoodIn wsX6_sine wsX6_radians := goodIn_r _ [7, 8, 9] (by decide +kernel) (by decide +kernel)
set_option maxRecDepth 20000 in
theorem gX6_sine_X6_radians : GoodIn wsX6_sine (va_wsS RX6 49 yX6_radians wsX6_radians) := goodIn_app (goodIn_of _ (by decide +kernel)) ggX6_sine_X6_radians
theorem dX6_sine_0 : decode cX6_sine 0 = .ok (.dload_n 0, 1) := by decide +kernel
theorem dX6_sine_1 : decode cX6_sine 1 = .ok (.invokestatic 49, 3) := by decide +kernel
theorem dX6_sine_4 : decode cX6_sine 4 = .ok (.dstore_n 2, 1) := by decide +kernel
theorem dX6_sine_5 : decode cX6_sine 5 = .ok (.dload_n 2, 1) := by decide +kernel
theorem dX6_sine_6 : decode cX6_sine 6 = .ok (.dload_n 2, 1) := by decide +kernel
theorem dX6_sine_7 : decode cX6_sine 7 = .ok (.dmul, 1) := by decide +kernel
theorem dX6_sine_8 : decode cX6_sine 8 = .ok (.dstore 4, 2) := by decide +kernel
theorem dX6_sine_10 : decode cX6_sine 10 = .ok (.dload_n 2, 1) := by decide +kernel
theorem dX6_sine_11 : decode cX6_sine 11 = .ok (.dconst 1, 1) := by decide +kernel
theorem dX6_sine_12 : decode cX6_sine 12 = .ok (.dload 4, 2) := by decide +kernel
theorem dX6_sine_14 : decode cX6_sine 14 = .ok (.ldc2_w 59, 3) := by decide +kernel
theorem dX6_sine_17 : decode cX6_sine 17 = .ok (.dload 4, 2) := by decide +kernel
theorem dX6_sine_19 : decode cX6_sine 19 = .ok (.ldc2_w 61, 3) := by decide +kernel
theorem dX6_sine_22 : decode cX6_sine 22 = .ok (.dload 4, 2) := by decide +kernel
theorem dX6_sine_24 : decode cX6_sine 24 = .ok (.ldc2_w 63, 3) := by decide +kernel
theorem dX6_sine_27 : decode cX6_sine 27 = .ok (.dmul, 1) := by decide +kernel
theorem dX6_sine_28 : decode cX6_sine 28 = .ok (.dadd, 1) := by decide +kernel
theorem dX6_sine_29 : decode cX6_sine 29 = .ok (.dmul, 1) := by decide +kernel
theorem dX6_sine_30 : decode cX6_sine 30 = .ok (.dadd, 1) := by decide +kernel
theorem dX6_sine_31 : decode cX6_sine 31 = .ok (.dmul, 1) := by decide +kernel
theorem dX6_sine_32 : decode cX6_sine 32 = .ok (.dadd, 1) := by decide +kernel
theorem dX6_sine_33 : decode cX6_sine 33 = .ok (.dmul, 1) := by decide +kernel
theorem dX6_sine_34 : decode cX6_sine 34 = .ok (.dreturn, 1) := by decide +kernel
set_option maxRecDepth 20000 in
theorem ggX6_cosine_X6_radians : GoodIn wsX6_cosine wsX6_radians := goodIn_r _ [7, 8, 9] (by decide +kernel) (by decide +kernel)
set_option maxRecDepth 20000 in
theorem gX6_cosine_X6_radians : GoodIn wsX6_cosine (va_wsS RX6 49 yX6_radians wsX6_radians) := goodIn_app (goodIn_of _ (by decide +kernel)) ggX6_cosine_X6_radians
theorem dX6_cosine_0 : decode cX6_cosine 0 = .ok (.dload_n 0, 1) := by decide +kernel
theorem dX6_cosine_1 : decode cX6_cosine 1 = .ok (.invokestatic 49, 3) := by decide +kernel
theorem dX6_cosine_4 : decode cX6_cosine 4 = .ok (.dstore_n 2, 1) := by decide +kernel
theorem dX6_cosine_5 : decode cX6_cosine 5 = .ok (.dload_n 2, 1) := by decide +kernel
theorem dX6_cosine_6 : decode cX6_cosine 6 = .ok (.dload_n 2, 1) := by decide +kernel
theorem dX6_cosine_7 : decode cX6_cosine 7 = .ok (.dmul, 1) := by decide +kernel
theorem dX6_cosine_8 : decode cX6_cosine 8 = .ok (.dstore 4, 2) := by decide +kernel
theorem dX6_cosine_10 : decode cX6_cosine 10 = .ok (.dconst 1, 1) := by decide +kernel
theorem dX6_cosine_11 : decode cX6_cosine 11 = .ok (.dload 4, 2) := by decide +kernel
theorem dX6_cosine_13 : decode cX6_cosine 13 = .ok (.ldc2_w 65, 3) := by decide +kernel
theorem dX6_cosine_16 : decode cX6_cosine 16 = .ok (.dload 4, 2) := by decide +kernel
theorem dX6_cosine_18 : decode cX6_cosine 18 = .ok (.ldc2_w 67, 3) := by decide +kernel
theorem dX6_cosine_21 : decode cX6_cosine 21 = .ok (.dload 4, 2) := by decide +kernel
theorem dX6_cosine_23 : decode cX6_cosine 23 = .ok (.ldc2_w 69, 3) := by decide +kernel
theorem dX6_cosine_26 : decode cX6_cosine 26 = .ok (.dmul, 1) := by decide +kernel
theorem dX6_cosine_27 : decode cX6_cosine 27 = .ok (.dadd, 1) := by decide +kernel
theorem dX6_cosine_28 : decode cX6_cosine 28 = .ok (.dmul, 1) := by decide +kernel
theorem dX6_cosine_29 : decode cX6_cosine 29 = .ok (.dadd, 1) := by decide +kernel
theorem dX6_cosine_30 : decode cX6_cosine 30 = .ok (.dmul, 1) := by decide +kernel
theorem dX6_cosine_31 : decode cX6_cosine 31 = .ok (.dadd, 1) := by decide +kernel
theorem dX6_cosine_32 : decode cX6_cosine 32 = .ok (.dreturn, 1) := by decide +kernel
set_option maxRecDepth 20000 in
theorem ggX6_put_X6_isSample : GoodIn wsX6_put wsX6_isSample := goodIn_r _ [7, 1, 8, 20, 21, 22, 23, 24, 25, 26, 27, 28, 29, 30, 31, 32, 33] (by decide +kernel) (by decide +kernel)
set_option maxRecDepth 20000 in
theorem gX6_put_X6_isSample : GoodIn wsX6_put (wsV RX6 71 RX6 yX6_isSample wsX6_isSample) := goodIn_app (goodIn_of _ (by decide +kernel)) ggX6_put_X6_isSample
set_option maxRecDepth 20000 in
theorem ggX6_put_X6_refuses : GoodIn wsX6_put wsX6_refuses := goodIn_r _ [12, 13, 20, 21, 22, 23, 24, 25, 26, 27, 28, 29, 30, 31, 32, 33] (by decide +kernel) (by decide +kernel)
set_option maxRecDepth 20000 in
theorem gX6_put_X6_refuses : GoodIn wsX6_put (wsV RX6 75 RX6 yX6_refuses wsX6_refuses) := goodIn_app (goodIn_of _ (by decide +kernel)) ggX6_put_X6_refuses
set_option maxRecDepth 20000 in
theorem ggX6_put_X6_whole : GoodIn wsX6_put wsX6_whole := goodIn_r _ [17, 18, 1, 8, 19, 20, 21, 22, 23, 24, 25, 26, 27, 28, 29, 30, 31, 32, 33] (by decide +kernel) (by decide +kernel)
set_option maxRecDepth 20000 in
theorem gX6_put_X6_whole : GoodIn wsX6_put (wsV RX6 33 RX6 yX6_whole wsX6_whole) := goodIn_app (goodIn_of _ (by decide +kernel)) ggX6_put_X6_whole
theorem dX6_put_0 : decode cX6_put 0 = .ok (.aload_n 0, 1) := by decide +kernel
theorem dX6_put_1 : decode cX6_put 1 = .ok (.aload_n 0, 1) := by decide +kernel
theorem dX6_put_2 : decode cX6_put 2 = .ok (.iload_n 1, 1) := by decide +kernel
theorem dX6_put_3 : decode cX6_put 3 = .ok (.iload_n 2, 1) := by decide +kernel
theorem dX6_put_4 : decode cX6_put 4 = .ok (.invokevirtual 71, 3) := by decide +kernel
theorem dX6_put_7 : decode cX6_put 7 = .ok (.ifCond .ne 7, 3) := by decide +kernel
theorem dX6_put_10 : decode cX6_put 10 = .ok (.iconst 1, 1) := by decide +kernel
theorem dX6_put_11 : decode cX6_put 11 = .ok (.goto 13, 3) := by decide +kernel
theorem dX6_put_14 : decode cX6_put 14 = .ok (.iload_n 3, 1) := by decide +kernel
theorem dX6_put_15 : decode cX6_put 15 = .ok (.iconst 1, 1) := by decide +kernel
theorem dX6_put_16 : decode cX6_put 16 = .ok (.if_icmp .ge 7, 3) := by decide +kernel
theorem dX6_put_19 : decode cX6_put 19 = .ok (.iconst 2, 1) := by decide +kernel
theorem dX6_put_20 : decode cX6_put 20 = .ok (.goto 4, 3) := by decide +kernel
theorem dX6_put_23 : decode cX6_put 23 = .ok (.iconst 0, 1) := by decide +kernel
theorem dX6_put_24 : decode cX6_put 24 = .ok (.invokevirtual 75, 3) := by decide +kernel
theorem dX6_put_27 : decode cX6_put 27 = .ok (.ifCond .eq 5, 3) := by decide +kernel
theorem dX6_put_30 : decode cX6_put 30 = .ok (.iconst 0, 1) := by decide +kernel
theorem dX6_put_31 : decode cX6_put 31 = .ok (.ireturn, 1) := by decide +kernel
theorem dX6_put_32 : decode cX6_put 32 = .ok (.iconst 0, 1) := by decide +kernel
theorem dX6_put_33 : decode cX6_put 33 = .ok (.istore 5, 2) := by decide +kernel
theorem dX6_put_35 : decode cX6_put 35 = .ok (.iload_n 1, 1) := by decide +kernel
theorem dX6_put_36 : decode cX6_put 36 = .ok (.istore 6, 2) := by decide +kernel
theorem dX6_put_38 : decode cX6_put 38 = .ok (.iload 6, 2) := by decide +kernel
theorem dX6_put_40 : decode cX6_put 40 = .ok (.aload_n 0, 1) := by decide +kernel
theorem dX6_put_41 : decode cX6_put 41 = .ok (.getfield 26, 3) := by decide +kernel
theorem dX6_put_44 : decode cX6_put 44 = .ok (.if_icmp .ge 58, 3) := by decide +kernel
theorem dX6_put_47 : decode cX6_put 47 = .ok (.iload 6, 2) := by decide +kernel
theorem dX6_put_49 : decode cX6_put 49 = .ok (.iload_n 1, 1) := by decide +kernel
theorem dX6_put_50 : decode cX6_put 50 = .ok (.isub, 1) := by decide +kernel
theorem dX6_put_51 : decode cX6_put 51 = .ok (.iload_n 3, 1) := by decide +kernel
theorem dX6_put_52 : decode cX6_put 52 = .ok (.if_icmp .ge 50, 3) := by decide +kernel
theorem dX6_put_55 : decode cX6_put 55 = .ok (.iload 5, 2) := by decide +kernel
theorem dX6_put_57 : decode cX6_put 57 = .ok (.aload_n 0, 1) := by decide +kernel
theorem dX6_put_58 : decode cX6_put 58 = .ok (.getfield 7, 3) := by decide +kernel
theorem dX6_put_61 : decode cX6_put 61 = .ok (.bipush 24, 2) := by decide +kernel
theorem dX6_put_63 : decode cX6_put 63 = .ok (.iload_n 2, 1) := by decide +kernel
theorem dX6_put_64 : decode cX6_put 64 = .ok (.imul, 1) := by decide +kernel
theorem dX6_put_65 : decode cX6_put 65 = .ok (.iload 6, 2) := by decide +kernel
theorem dX6_put_67 : decode cX6_put 67 = .ok (.iadd, 1) := by decide +kernel
theorem dX6_put_68 : decode cX6_put 68 = .ok (.baload, 1) := by decide +kernel
theorem dX6_put_69 : decode cX6_put 69 = .ok (.iload 4, 2) := by decide +kernel
theorem dX6_put_71 : decode cX6_put 71 = .ok (.if_icmp .eq 7, 3) := by decide +kernel
theorem dX6_put_74 : decode cX6_put 74 = .ok (.iconst 1, 1) := by decide +kernel
theorem dX6_put_75 : decode cX6_put 75 = .ok (.goto 4, 3) := by decide +kernel
theorem dX6_put_78 : decode cX6_put 78 = .ok (.iconst 0, 1) := by decide +kernel
theorem dX6_put_79 : decode cX6_put 79 = .ok (.iadd, 1) := by decide +kernel
theorem dX6_put_80 : decode cX6_put 80 = .ok (.istore 5, 2) := by decide +kernel
theorem dX6_put_82 : decode cX6_put 82 = .ok (.aload_n 0, 1) := by decide +kernel
theorem dX6_put_83 : decode cX6_put 83 = .ok (.getfield 7, 3) := by decide +kernel
theorem dX6_put_86 : decode cX6_put 86 = .ok (.bipush 24, 2) := by decide +kernel
theorem dX6_put_88 : decode cX6_put 88 = .ok (.iload_n 2, 1) := by decide +kernel
theorem dX6_put_89 : decode cX6_put 89 = .ok (.imul, 1) := by decide +kernel
theorem dX6_put_90 : decode cX6_put 90 = .ok (.iload 6, 2) := by decide +kernel
theorem dX6_put_92 : decode cX6_put 92 = .ok (.iadd, 1) := by decide +kernel
theorem dX6_put_93 : decode cX6_put 93 = .ok (.iload 4, 2) := by decide +kernel
theorem dX6_put_95 : decode cX6_put 95 = .ok (.bastore, 1) := by decide +kernel
theorem dX6_put_96 : decode cX6_put 96 = .ok (.iinc 6 1, 3) := by decide +kernel
theorem dX6_put_99 : decode cX6_put 99 = .ok (.goto (-61), 3) := by decide +kernel
theorem dX6_put_102 : decode cX6_put 102 = .ok (.iload 5, 2) := by decide +kernel
theorem dX6_put_104 : decode cX6_put 104 = .ok (.ifCond .le 7, 3) := by decide +kernel
theorem dX6_put_107 : decode cX6_put 107 = .ok (.aload_n 0, 1) := by decide +kernel
theorem dX6_put_108 : decode cX6_put 108 = .ok (.invokevirtual 33, 3) := by decide +kernel
theorem dX6_put_111 : decode cX6_put 111 = .ok (.iload 5, 2) := by decide +kernel
theorem dX6_put_113 : decode cX6_put 113 = .ok (.ireturn, 1) := by decide +kernel
set_option maxRecDepth 20000 in
theorem ggX6_at_X6_isSample : GoodIn wsX6_at wsX6_isSample := goodIn_r _ [5, 6, 7, 18, 19, 20, 21, 22, 23, 24, 25, 26, 27, 28, 29, 30, 31] (by decide +kernel) (by decide +kernel)
set_option maxRecDepth 20000 in
theorem gX6_at_X6_isSample : GoodIn wsX6_at (wsV RX6 71 RX6 yX6_isSample wsX6_isSample) := goodIn_app (goodIn_of _ (by decide +kernel)) ggX6_at_X6_isSample
set_option maxRecDepth 20000 in
theorem ggX6_at_X6_refuses : GoodIn wsX6_at wsX6_refuses := goodIn_r _ [11, 12, 18, 19, 20, 21, 22, 23, 24, 25, 26, 27, 28, 29, 30, 31] (by decide +kernel) (by decide +kernel)
set_option maxRecDepth 20000 in
theorem gX6_at_X6_refuses : GoodIn wsX6_at (wsV RX6 75 RX6 yX6_refuses wsX6_refuses) := goodIn_app (goodIn_of _ (by decide +kernel)) ggX6_at_X6_refuses
set_option maxRecDepth 20000 in
theorem ggX6_at_X6_isOn : GoodIn wsX6_at wsX6_isOn := goodIn_r _ [16, 6, 7, 17, 18, 19, 20, 21, 22, 23, 24, 25, 26, 27, 28, 29, 30, 31] (by decide +kernel) (by decide +kernel)
set_option maxRecDepth 20000 in
theorem gX6_at_X6_isOn : GoodIn wsX6_at (wsV RX6 79 RX6 yX6_isOn wsX6_isOn) := goodIn_app (goodIn_of _ (by decide +kernel)) ggX6_at_X6_isOn
theorem dX6_at_0 : decode cX6_at 0 = .ok (.aload_n 0, 1) := by decide +kernel
theorem dX6_at_1 : decode cX6_at 1 = .ok (.aload_n 0, 1) := by decide +kernel
theorem dX6_at_2 : decode cX6_at 2 = .ok (.iload_n 1, 1) := by decide +kernel
theorem dX6_at_3 : decode cX6_at 3 = .ok (.iload_n 2, 1) := by decide +kernel
theorem dX6_at_4 : decode cX6_at 4 = .ok (.invokevirtual 71, 3) := by decide +kernel
theorem dX6_at_7 : decode cX6_at 7 = .ok (.ifCond .eq 7, 3) := by decide +kernel
theorem dX6_at_10 : decode cX6_at 10 = .ok (.iconst 0, 1) := by decide +kernel
theorem dX6_at_11 : decode cX6_at 11 = .ok (.goto 4, 3) := by decide +kernel
theorem dX6_at_14 : decode cX6_at 14 = .ok (.iconst 1, 1) := by decide +kernel
theorem dX6_at_15 : decode cX6_at 15 = .ok (.invokevirtual 75, 3) := by decide +kernel
theorem dX6_at_18 : decode cX6_at 18 = .ok (.ifCond .ne 16, 3) := by decide +kernel
theorem dX6_at_21 : decode cX6_at 21 = .ok (.aload_n 0, 1) := by decide +kernel
theorem dX6_at_22 : decode cX6_at 22 = .ok (.iload_n 1, 1) := by decide +kernel
theorem dX6_at_23 : decode cX6_at 23 = .ok (.iload_n 2, 1) := by decide +kernel
theorem dX6_at_24 : decode cX6_at 24 = .ok (.invokevirtual 79, 3) := by decide +kernel
theorem dX6_at_27 : decode cX6_at 27 = .ok (.ifCond .eq 7, 3) := by decide +kernel
theorem dX6_at_30 : decode cX6_at 30 = .ok (.iconst 1, 1) := by decide +kernel
theorem dX6_at_31 : decode cX6_at 31 = .ok (.goto 4, 3) := by decide +kernel
theorem dX6_at_34 : decode cX6_at 34 = .ok (.iconst 0, 1) := by decide +kernel
theorem dX6_at_35 : decode cX6_at 35 = .ok (.ireturn, 1) := by decide +kernel
set_option maxRecDepth 20000 in
theorem ggX6_isEnd_X6_isOn : GoodIn wsX6_isEnd wsX6_isOn := goodIn_r _ [5, 6, 7, 8, 9, 10, 11, 12, 13, 14, 15, 16, 17, 18, 19, 20, 21, 22] (by decide +kernel) (by decide +kernel)
set_option maxRecDepth 20000 in
theorem gX6_isEnd_X6_isOn : GoodIn wsX6_isEnd (wsV RX6 79 RX6 yX6_isOn wsX6_isOn) := goodIn_app (goodIn_of _ (by decide +kernel)) ggX6_isEnd_X6_isOn
theorem dX6_isEnd_0 : decode cX6_isEnd 0 = .ok (.aload_n 0, 1) := by decide +kernel
theorem dX6_isEnd_1 : decode cX6_isEnd 1 = .ok (.iload_n 1, 1) := by decide +kernel
theorem dX6_isEnd_2 : decode cX6_isEnd 2 = .ok (.iload_n 2, 1) := by decide +kernel
theorem dX6_isEnd_3 : decode cX6_isEnd 3 = .ok (.invokevirtual 79, 3) := by decide +kernel
theorem dX6_isEnd_6 : decode cX6_isEnd 6 = .ok (.ifCond .eq 18, 3) := by decide +kernel
theorem dX6_isEnd_9 : decode cX6_isEnd 9 = .ok (.aload_n 0, 1) := by decide +kernel
theorem dX6_isEnd_10 : decode cX6_isEnd 10 = .ok (.iload_n 1, 1) := by decide +kernel
theorem dX6_isEnd_11 : decode cX6_isEnd 11 = .ok (.iconst 1, 1) := by decide +kernel
theorem dX6_isEnd_12 : decode cX6_isEnd 12 = .ok (.iadd, 1) := by decide +kernel
theorem dX6_isEnd_13 : decode cX6_isEnd 13 = .ok (.iload_n 2, 1) := by decide +kernel
theorem dX6_isEnd_14 : decode cX6_isEnd 14 = .ok (.invokevirtual 79, 3) := by decide +kernel
theorem dX6_isEnd_17 : decode cX6_isEnd 17 = .ok (.ifCond .ne 7, 3) := by decide +kernel
theorem dX6_isEnd_20 : decode cX6_isEnd 20 = .ok (.iconst 1, 1) := by decide +kernel
theorem dX6_isEnd_21 : decode cX6_isEnd 21 = .ok (.goto 4, 3) := by decide +kernel
theorem dX6_isEnd_24 : decode cX6_isEnd 24 = .ok (.iconst 0, 1) := by decide +kernel
theorem dX6_isEnd_25 : decode cX6_isEnd 25 = .ok (.ireturn, 1) := by decide +kernel
set_option maxRecDepth 20000 in
theorem ggX6_countEnds_X6_isEnd : GoodIn wsX6_countEnds wsX6_isEnd := goodIn_r _ [7, 8, 9, 10, 6, 11, 2, 1, 12, 13, 14, 15, 16, 17, 18, 19, 20, 21, 22, 23, 24, 25, 26] (by decide +kernel) (by decide +kernel)
set_option maxRecDepth 20000 in
theorem gX6_countEnds_X6_isEnd : GoodIn wsX6_countEnds (wsV RX6 82 RX6 yX6_isEnd wsX6_isEnd) := goodIn_app (goodIn_of _ (by decide +kernel)) ggX6_countEnds_X6_isEnd
theorem dX6_countEnds_0 : decode cX6_countEnds 0 = .ok (.iconst 0, 1) := by decide +kernel
theorem dX6_countEnds_1 : decode cX6_countEnds 1 = .ok (.istore_n 1, 1) := by decide +kernel
theorem dX6_countEnds_2 : decode cX6_countEnds 2 = .ok (.iconst 0, 1) := by decide +kernel
theorem dX6_countEnds_3 : decode cX6_countEnds 3 = .ok (.istore_n 2, 1) := by decide +kernel
theorem dX6_countEnds_4 : decode cX6_countEnds 4 = .ok (.iload_n 2, 1) := by decide +kernel
theorem dX6_countEnds_5 : decode cX6_countEnds 5 = .ok (.aload_n 0, 1) := by decide +kernel
theorem dX6_countEnds_6 : decode cX6_countEnds 6 = .ok (.getfield 30, 3) := by decide +kernel
theorem dX6_countEnds_9 : decode cX6_countEnds 9 = .ok (.if_icmp .ge 42, 3) := by decide +kernel
theorem dX6_countEnds_12 : decode cX6_countEnds 12 = .ok (.iconst 0, 1) := by decide +kernel
theorem dX6_countEnds_13 : decode cX6_countEnds 13 = .ok (.istore_n 3, 1) := by decide +kernel
theorem dX6_countEnds_14 : decode cX6_countEnds 14 = .ok (.iload_n 3, 1) := by decide +kernel
theorem dX6_countEnds_15 : decode cX6_countEnds 15 = .ok (.aload_n 0, 1) := by decide +kernel
theorem dX6_countEnds_16 : decode cX6_countEnds 16 = .ok (.getfield 26, 3) := by decide +kernel
theorem dX6_countEnds_19 : decode cX6_countEnds 19 = .ok (.if_icmp .ge 26, 3) := by decide +kernel
theorem dX6_countEnds_22 : decode cX6_countEnds 22 = .ok (.iload_n 1, 1) := by decide +kernel
theorem dX6_countEnds_23 : decode cX6_countEnds 23 = .ok (.aload_n 0, 1) := by decide +kernel
theorem dX6_countEnds_24 : decode cX6_countEnds 24 = .ok (.iload_n 3, 1) := by decide +kernel
theorem dX6_countEnds_25 : decode cX6_countEnds 25 = .ok (.iload_n 2, 1) := by decide +kernel
theorem dX6_countEnds_26 : decode cX6_countEnds 26 = .ok (.invokevirtual 82, 3) := by decide +kernel
theorem dX6_countEnds_29 : decode cX6_countEnds 29 = .ok (.ifCond .eq 7, 3) := by decide +kernel
theorem dX6_countEnds_32 : decode cX6_countEnds 32 = .ok (.iconst 1, 1) := by decide +kernel
theorem dX6_countEnds_33 : decode cX6_countEnds 33 = .ok (.goto 4, 3) := by decide +kernel
theorem dX6_countEnds_36 : decode cX6_countEnds 36 = .ok (.iconst 0, 1) := by decide +kernel
theorem dX6_countEnds_37 : decode cX6_countEnds 37 = .ok (.iadd, 1) := by decide +kernel
theorem dX6_countEnds_38 : decode cX6_countEnds 38 = .ok (.istore_n 1, 1) := by decide +kernel
theorem dX6_countEnds_39 : decode cX6_countEnds 39 = .ok (.iinc 3 1, 3) := by decide +kernel
theorem dX6_countEnds_42 : decode cX6_countEnds 42 = .ok (.goto (-28), 3) := by decide +kernel
theorem dX6_countEnds_45 : decode cX6_countEnds 45 = .ok (.iinc 2 1, 3) := by decide +kernel
theorem dX6_countEnds_48 : decode cX6_countEnds 48 = .ok (.goto (-44), 3) := by decide +kernel
theorem dX6_countEnds_51 : decode cX6_countEnds 51 = .ok (.iload_n 1, 1) := by decide +kernel
theorem dX6_countEnds_52 : decode cX6_countEnds 52 = .ok (.ireturn, 1) := by decide +kernel
set_option maxRecDepth 20000 in
theorem ggX6_sumOf_X6_slope : GoodIn wsX6_sumOf wsX6_slope := goodIn_r _ [7, 8, 9, 10, 11, 12, 6, 13, 14, 15] (by decide +kernel) (by decide +kernel)
set_option maxRecDepth 20000 in
theorem gX6_sumOf_X6_slope : GoodIn wsX6_sumOf (va_wsS RX6 85 yX6_slope wsX6_slope) := goodIn_app (goodIn_of _ (by decide +kernel)) ggX6_sumOf_X6_slope
set_option maxRecDepth 20000 in
theorem ggX6_sumOf_X6_countEnds : GoodIn wsX6_sumOf wsX6_countEnds := goodIn_r _ [19, 2, 3, 20, 21, 22, 6, 23, 24, 25, 26, 27, 28, 33, 34, 35, 36, 37, 38, 39, 40, 41, 42, 43, 44, 45, 46] (by decide +kernel) (by decide +kernel)
set_option maxRecDepth 20000 in
theorem gX6_sumOf_X6_countEnds : GoodIn wsX6_sumOf (wsV RX6 88 RX6 yX6_countEnds wsX6_countEnds) := goodIn_app (goodIn_of _ (by decide +kernel)) ggX6_sumOf_X6_countEnds
set_option maxRecDepth 20000 in
theorem ggX6_sumOf_X6_isEnd : GoodIn wsX6_sumOf wsX6_isEnd := goodIn_r _ [23, 24, 25, 26, 6, 27, 3, 2, 28, 33, 34, 35, 36, 37, 38, 39, 40, 41, 42, 43, 44, 45, 46] (by decide +kernel) (by decide +kernel)
set_option maxRecDepth 20000 in
theorem gX6_sumOf_X6_isEnd : GoodIn wsX6_sumOf (wsV RX6 82 RX6 yX6_isEnd wsX6_isEnd) := goodIn_app (goodIn_of _ (by decide +kernel)) ggX6_sumOf_X6_isEnd
set_option maxRecDepth 20000 in
theorem ggX6_sumOf_X6_wholeOf : GoodIn wsX6_sumOf wsX6_wholeOf := goodIn_r _ [31, 32] (by decide +kernel) (by decide +kernel)
set_option maxRecDepth 20000 in
theorem gX6_sumOf_X6_wholeOf : GoodIn wsX6_sumOf (va_wsS RX6 92 yX6_wholeOf wsX6_wholeOf) := goodIn_app (goodIn_of _ (by decide +kernel)) ggX6_sumOf_X6_wholeOf
theorem dX6_sumOf_0 : decode cX6_sumOf 0 = .ok (.iload_n 1, 1) := by decide +kernel
theorem dX6_sumOf_1 : decode cX6_sumOf 1 = .ok (.i2d, 1) := by decide +kernel
theorem dX6_sumOf_2 : decode cX6_sumOf 2 = .ok (.invokestatic 85, 3) := by decide +kernel
theorem dX6_sumOf_5 : decode cX6_sumOf 5 = .ok (.dstore_n 2, 1) := by decide +kernel
theorem dX6_sumOf_6 : decode cX6_sumOf 6 = .ok (.aload_n 0, 1) := by decide +kernel
theorem dX6_sumOf_7 : decode cX6_sumOf 7 = .ok (.invokevirtual 88, 3) := by decide +kernel
theorem dX6_sumOf_10 : decode cX6_sumOf 10 = .ok (.istore 4, 2) := by decide +kernel
theorem dX6_sumOf_12 : decode cX6_sumOf 12 = .ok (.iload 4, 2) := by decide +kernel
theorem dX6_sumOf_14 : decode cX6_sumOf 14 = .ok (.ifCond .ne 5, 3) := by decide +kernel
theorem dX6_sumOf_17 : decode cX6_sumOf 17 = .ok (.dconst 0, 1) := by decide +kernel
theorem dX6_sumOf_18 : decode cX6_sumOf 18 = .ok (.dreturn, 1) := by decide +kernel
theorem dX6_sumOf_19 : decode cX6_sumOf 19 = .ok (.iconst 0, 1) := by decide +kernel
theorem dX6_sumOf_20 : decode cX6_sumOf 20 = .ok (.istore 5, 2) := by decide +kernel
theorem dX6_sumOf_22 : decode cX6_sumOf 22 = .ok (.iload 5, 2) := by decide +kernel
theorem dX6_sumOf_24 : decode cX6_sumOf 24 = .ok (.bipush 104, 2) := by decide +kernel
theorem dX6_sumOf_26 : decode cX6_sumOf 26 = .ok (.if_icmp .ge 17, 3) := by decide +kernel
theorem dX6_sumOf_29 : decode cX6_sumOf 29 = .ok (.aload_n 0, 1) := by decide +kernel
theorem dX6_sumOf_30 : decode cX6_sumOf 30 = .ok (.getfield 23, 3) := by decide +kernel
theorem dX6_sumOf_33 : decode cX6_sumOf 33 = .ok (.iload 5, 2) := by decide +kernel
theorem dX6_sumOf_35 : decode cX6_sumOf 35 = .ok (.iconst 0, 1) := by decide +kernel
theorem dX6_sumOf_36 : decode cX6_sumOf 36 = .ok (.iastore, 1) := by decide +kernel
theorem dX6_sumOf_37 : decode cX6_sumOf 37 = .ok (.iinc 5 1, 3) := by decide +kernel
theorem dX6_sumOf_40 : decode cX6_sumOf 40 = .ok (.goto (-18), 3) := by decide +kernel
theorem dX6_sumOf_43 : decode cX6_sumOf 43 = .ok (.iconst 0, 1) := by decide +kernel
theorem dX6_sumOf_44 : decode cX6_sumOf 44 = .ok (.istore 5, 2) := by decide +kernel
theorem dX6_sumOf_46 : decode cX6_sumOf 46 = .ok (.iload 5, 2) := by decide +kernel
theorem dX6_sumOf_48 : decode cX6_sumOf 48 = .ok (.aload_n 0, 1) := by decide +kernel
theorem dX6_sumOf_49 : decode cX6_sumOf 49 = .ok (.getfield 30, 3) := by decide +kernel
theorem dX6_sumOf_52 : decode cX6_sumOf 52 = .ok (.if_icmp .ge 62, 3) := by decide +kernel
theorem dX6_sumOf_55 : decode cX6_sumOf 55 = .ok (.iconst 0, 1) := by decide +kernel
theorem dX6_sumOf_56 : decode cX6_sumOf 56 = .ok (.istore 6, 2) := by decide +kernel
theorem dX6_sumOf_58 : decode cX6_sumOf 58 = .ok (.iload 6, 2) := by decide +kernel
theorem dX6_sumOf_60 : decode cX6_sumOf 60 = .ok (.aload_n 0, 1) := by decide +kernel
theorem dX6_sumOf_61 : decode cX6_sumOf 61 = .ok (.getfield 26, 3) := by decide +kernel
theorem dX6_sumOf_64 : decode cX6_sumOf 64 = .ok (.if_icmp .ge 44, 3) := by decide +kernel
theorem dX6_sumOf_67 : decode cX6_sumOf 67 = .ok (.aload_n 0, 1) := by decide +kernel
theorem dX6_sumOf_68 : decode cX6_sumOf 68 = .ok (.iload 6, 2) := by decide +kernel
theorem dX6_sumOf_70 : decode cX6_sumOf 70 = .ok (.iload 5, 2) := by decide +kernel
theorem dX6_sumOf_72 : decode cX6_sumOf 72 = .ok (.invokevirtual 82, 3) := by decide +kernel
theorem dX6_sumOf_75 : decode cX6_sumOf 75 = .ok (.ifCond .eq 27, 3) := by decide +kernel
theorem dX6_sumOf_78 : decode cX6_sumOf 78 = .ok (.aload_n 0, 1) := by decide +kernel
theorem dX6_sumOf_79 : decode cX6_sumOf 79 = .ok (.getfield 23, 3) := by decide +kernel
theorem dX6_sumOf_82 : decode cX6_sumOf 82 = .ok (.iload 5, 2) := by decide +kernel
theorem dX6_sumOf_84 : decode cX6_sumOf 84 = .ok (.i2d, 1) := by decide +kernel
theorem dX6_sumOf_85 : decode cX6_sumOf 85 = .ok (.iload 6, 2) := by decide +kernel
theorem dX6_sumOf_87 : decode cX6_sumOf 87 = .ok (.i2d, 1) := by decide +kernel
theorem dX6_sumOf_88 : decode cX6_sumOf 88 = .ok (.dload_n 2, 1) := by decide +kernel
theorem dX6_sumOf_89 : decode cX6_sumOf 89 = .ok (.dmul, 1) := by decide +kernel
theorem dX6_sumOf_90 : decode cX6_sumOf 90 = .ok (.dsub, 1) := by decide +kernel
theorem dX6_sumOf_91 : decode cX6_sumOf 91 = .ok (.invokestatic 92, 3) := by decide +kernel
theorem dX6_sumOf_94 : decode cX6_sumOf 94 = .ok (.bipush 40, 2) := by decide +kernel
theorem dX6_sumOf_96 : decode cX6_sumOf 96 = .ok (.iadd, 1) := by decide +kernel
theorem dX6_sumOf_97 : decode cX6_sumOf 97 = .ok (.dup2, 1) := by decide +kernel
theorem dX6_sumOf_98 : decode cX6_sumOf 98 = .ok (.iaload, 1) := by decide +kernel
theorem dX6_sumOf_99 : decode cX6_sumOf 99 = .ok (.iconst 1, 1) := by decide +kernel
theorem dX6_sumOf_100 : decode cX6_sumOf 100 = .ok (.iadd, 1) := by decide +kernel
theorem dX6_sumOf_101 : decode cX6_sumOf 101 = .ok (.iastore, 1) := by decide +kernel
theorem dX6_sumOf_102 : decode cX6_sumOf 102 = .ok (.iinc 6 1, 3) := by decide +kernel
theorem dX6_sumOf_105 : decode cX6_sumOf 105 = .ok (.goto (-47), 3) := by decide +kernel
theorem dX6_sumOf_108 : decode cX6_sumOf 108 = .ok (.iinc 5 1, 3) := by decide +kernel
theorem dX6_sumOf_111 : decode cX6_sumOf 111 = .ok (.goto (-65), 3) := by decide +kernel
theorem dX6_sumOf_114 : decode cX6_sumOf 114 = .ok (.iconst 0, 1) := by decide +kernel
theorem dX6_sumOf_115 : decode cX6_sumOf 115 = .ok (.istore 5, 2) := by decide +kernel
theorem dX6_sumOf_117 : decode cX6_sumOf 117 = .ok (.iconst 0, 1) := by decide +kernel
theorem dX6_sumOf_118 : decode cX6_sumOf 118 = .ok (.istore 6, 2) := by decide +kernel
theorem dX6_sumOf_120 : decode cX6_sumOf 120 = .ok (.iload 6, 2) := by decide +kernel
theorem dX6_sumOf_122 : decode cX6_sumOf 122 = .ok (.bipush 104, 2) := by decide +kernel
theorem dX6_sumOf_124 : decode cX6_sumOf 124 = .ok (.if_icmp .ge 29, 3) := by decide +kernel
theorem dX6_sumOf_127 : decode cX6_sumOf 127 = .ok (.iload 5, 2) := by decide +kernel
theorem dX6_sumOf_129 : decode cX6_sumOf 129 = .ok (.aload_n 0, 1) := by decide +kernel
theorem dX6_sumOf_130 : decode cX6_sumOf 130 = .ok (.getfield 23, 3) := by decide +kernel
theorem dX6_sumOf_133 : decode cX6_sumOf 133 = .ok (.iload 6, 2) := by decide +kernel
theorem dX6_sumOf_135 : decode cX6_sumOf 135 = .ok (.iaload, 1) := by decide +kernel
theorem dX6_sumOf_136 : decode cX6_sumOf 136 = .ok (.aload_n 0, 1) := by decide +kernel
theorem dX6_sumOf_137 : decode cX6_sumOf 137 = .ok (.getfield 23, 3) := by decide +kernel
theorem dX6_sumOf_140 : decode cX6_sumOf 140 = .ok (.iload 6, 2) := by decide +kernel
theorem dX6_sumOf_142 : decode cX6_sumOf 142 = .ok (.iaload, 1) := by decide +kernel
theorem dX6_sumOf_143 : decode cX6_sumOf 143 = .ok (.imul, 1) := by decide +kernel
theorem dX6_sumOf_144 : decode cX6_sumOf 144 = .ok (.iadd, 1) := by decide +kernel
theorem dX6_sumOf_145 : decode cX6_sumOf 145 = .ok (.istore 5, 2) := by decide +kernel
theorem dX6_sumOf_147 : decode cX6_sumOf 147 = .ok (.iinc 6 1, 3) := by decide +kernel
theorem dX6_sumOf_150 : decode cX6_sumOf 150 = .ok (.goto (-30), 3) := by decide +kernel
theorem dX6_sumOf_153 : decode cX6_sumOf 153 = .ok (.iload 5, 2) := by decide +kernel
theorem dX6_sumOf_155 : decode cX6_sumOf 155 = .ok (.i2d, 1) := by decide +kernel
theorem dX6_sumOf_156 : decode cX6_sumOf 156 = .ok (.iload 4, 2) := by decide +kernel
theorem dX6_sumOf_158 : decode cX6_sumOf 158 = .ok (.i2d, 1) := by decide +kernel
theorem dX6_sumOf_159 : decode cX6_sumOf 159 = .ok (.ddiv, 1) := by decide +kernel
theorem dX6_sumOf_160 : decode cX6_sumOf 160 = .ok (.dreturn, 1) := by decide +kernel
set_option maxRecDepth 20000 in
theorem ggX6_sum_X6_refuses : GoodIn wsX6_sum wsX6_refuses := goodIn_r _ [5, 6, 42, 43, 44, 45, 46, 47, 48, 49, 50, 51, 52, 53, 54, 55] (by decide +kernel) (by decide +kernel)
set_option maxRecDepth 20000 in
theorem gX6_sum_X6_refuses : GoodIn wsX6_sum (wsV RX6 75 RX6 yX6_refuses wsX6_refuses) := goodIn_app (goodIn_of _ (by decide +kernel)) ggX6_sum_X6_refuses
set_option maxRecDepth 20000 in
theorem ggX6_sum_X6_sumOf : GoodIn wsX6_sum wsX6_sumOf := goodIn_r _ [10, 11, 12, 13, 14, 15, 4, 16, 17, 18, 19, 20, 21, 22, 23, 24, 25, 26, 27, 28, 29, 30, 31, 32, 33, 34, 35, 36, 37, 38, 39, 40, 41, 42, 43, 44, 45, 46, 47, 48, 49, 50, 51, 52, 53, 54, 55] (by decide +kernel) (by decide +kernel)
set_option maxRecDepth 20000 in
theorem gX6_sum_X6_sumOf : GoodIn wsX6_sum (wsV RX6 96 RX6 yX6_sumOf wsX6_sumOf) := goodIn_app (goodIn_of _ (by decide +kernel)) ggX6_sum_X6_sumOf
theorem dX6_sum_0 : decode cX6_sum 0 = .ok (.aload_n 0, 1) := by decide +kernel
theorem dX6_sum_1 : decode cX6_sum 1 = .ok (.iload_n 1, 1) := by decide +kernel
theorem dX6_sum_2 : decode cX6_sum 2 = .ok (.sipush (-2000), 3) := by decide +kernel
theorem dX6_sum_5 : decode cX6_sum 5 = .ok (.if_icmp .lt 10, 3) := by decide +kernel
theorem dX6_sum_8 : decode cX6_sum 8 = .ok (.iload_n 1, 1) := by decide +kernel
theorem dX6_sum_9 : decode cX6_sum 9 = .ok (.sipush 2000, 3) := by decide +kernel
theorem dX6_sum_12 : decode cX6_sum 12 = .ok (.if_icmp .le 7, 3) := by decide +kernel
theorem dX6_sum_15 : decode cX6_sum 15 = .ok (.iconst 1, 1) := by decide +kernel
theorem dX6_sum_16 : decode cX6_sum 16 = .ok (.goto 4, 3) := by decide +kernel
theorem dX6_sum_19 : decode cX6_sum 19 = .ok (.iconst 0, 1) := by decide +kernel
theorem dX6_sum_20 : decode cX6_sum 20 = .ok (.invokevirtual 75, 3) := by decide +kernel
theorem dX6_sum_23 : decode cX6_sum 23 = .ok (.ifCond .eq 7, 3) := by decide +kernel
theorem dX6_sum_26 : decode cX6_sum 26 = .ok (.dconst 0, 1) := by decide +kernel
theorem dX6_sum_27 : decode cX6_sum 27 = .ok (.goto 8, 3) := by decide +kernel
theorem dX6_sum_30 : decode cX6_sum 30 = .ok (.aload_n 0, 1) := by decide +kernel
theorem dX6_sum_31 : decode cX6_sum 31 = .ok (.iload_n 1, 1) := by decide +kernel
theorem dX6_sum_32 : decode cX6_sum 32 = .ok (.invokevirtual 96, 3) := by decide +kernel
theorem dX6_sum_35 : decode cX6_sum 35 = .ok (.dreturn, 1) := by decide +kernel
theorem dX6_stepOf_0 : decode cX6_stepOf 0 = .ok (.iload_n 0, 1) := by decide +kernel
theorem dX6_stepOf_1 : decode cX6_stepOf 1 = .ok (.tableswitch 49 0 4 #[35, 38, 41, 44, 47], 35) := by decide +kernel
theorem dX6_stepOf_36 : decode cX6_stepOf 36 = .ok (.bipush 50, 2) := by decide +kernel
theorem dX6_stepOf_38 : decode cX6_stepOf 38 = .ok (.ireturn, 1) := by decide +kernel
theorem dX6_stepOf_39 : decode cX6_stepOf 39 = .ok (.bipush 25, 2) := by decide +kernel
theorem dX6_stepOf_41 : decode cX6_stepOf 41 = .ok (.ireturn, 1) := by decide +kernel
theorem dX6_stepOf_42 : decode cX6_stepOf 42 = .ok (.bipush 12, 2) := by decide +kernel
theorem dX6_stepOf_44 : decode cX6_stepOf 44 = .ok (.ireturn, 1) := by decide +kernel
theorem dX6_stepOf_45 : decode cX6_stepOf 45 = .ok (.bipush 6, 2) := by decide +kernel
theorem dX6_stepOf_47 : decode cX6_stepOf 47 = .ok (.ireturn, 1) := by decide +kernel
theorem dX6_stepOf_48 : decode cX6_stepOf 48 = .ok (.iconst 3, 1) := by decide +kernel
theorem dX6_stepOf_49 : decode cX6_stepOf 49 = .ok (.ireturn, 1) := by decide +kernel
theorem dX6_stepOf_50 : decode cX6_stepOf 50 = .ok (.iconst 1, 1) := by decide +kernel
theorem dX6_stepOf_51 : decode cX6_stepOf 51 = .ok (.ireturn, 1) := by decide +kernel
set_option maxRecDepth 20000 in
theorem ggX6_angle_X6_refuses : GoodIn wsX6_angle wsX6_refuses := goodIn_r _ [11, 12, 55, 56, 57, 58, 59, 60, 61, 62, 63, 64, 65, 66, 67, 68] (by decide +kernel) (by decide +kernel)
set_option maxRecDepth 20000 in
theorem gX6_angle_X6_refuses : GoodIn wsX6_angle (wsV RX6 75 RX6 yX6_refuses wsX6_refuses) := goodIn_app (goodIn_of _ (by decide +kernel)) ggX6_angle_X6_refuses
set_option maxRecDepth 20000 in
theorem ggX6_angle_X6_countOn : GoodIn wsX6_angle wsX6_countOn := goodIn_r _ [16, 17, 55, 56, 57, 58, 59, 60, 61, 62, 63, 64, 65, 66, 67, 68] (by decide +kernel) (by decide +kernel)
set_option maxRecDepth 20000 in
theorem gX6_angle_X6_countOn : GoodIn wsX6_angle (wsV RX6 107 RX6 yX6_countOn wsX6_countOn) := goodIn_app (goodIn_of _ (by decide +kernel)) ggX6_angle_X6_countOn
set_option maxRecDepth 20000 in
theorem ggX6_angle_X6_sumOf : GoodIn wsX6_angle wsX6_sumOf := goodIn_r _ [21, 22, 23, 24, 25, 26, 10, 27, 28, 29, 30, 31, 32, 33, 34, 35, 36, 37, 38, 39, 40, 41, 42, 43, 44, 45, 46, 47, 17, 48, 49, 50, 51, 55, 56, 57, 58, 59, 60, 61, 62, 63, 64, 65, 66, 67, 68] (by decide +kernel) (by decide +kernel)
set_option maxRecDepth 20000 in
theorem gX6_angle_X6_sumOf : GoodIn wsX6_angle (wsV RX6 96 RX6 yX6_sumOf wsX6_sumOf) := goodIn_app (goodIn_of _ (by decide +kernel)) ggX6_angle_X6_sumOf
set_option maxRecDepth 20000 in
theorem ggX6_angle_X6_stepOf : GoodIn wsX6_angle wsX6_stepOf := goodIn_r _ [54] (by decide +kernel) (by decide +kernel)
set_option maxRecDepth 20000 in
theorem gX6_angle_X6_stepOf : GoodIn wsX6_angle (va_wsS RX6 113 yX6_stepOf wsX6_stepOf) := goodIn_app (goodIn_of _ (by decide +kernel)) ggX6_angle_X6_stepOf
theorem dX6_angle_0 : decode cX6_angle 0 = .ok (.aload_n 0, 1) := by decide +kernel
theorem dX6_angle_1 : decode cX6_angle 1 = .ok (.iload_n 1, 1) := by decide +kernel
theorem dX6_angle_2 : decode cX6_angle 2 = .ok (.ifCond .lt 10, 3) := by decide +kernel
theorem dX6_angle_5 : decode cX6_angle 5 = .ok (.iload_n 1, 1) := by decide +kernel
theorem dX6_angle_6 : decode cX6_angle 6 = .ok (.sipush 2000, 3) := by decide +kernel
theorem dX6_angle_9 : decode cX6_angle 9 = .ok (.if_icmp .le 7, 3) := by decide +kernel
theorem dX6_angle_12 : decode cX6_angle 12 = .ok (.iconst 1, 1) := by decide +kernel
theorem dX6_angle_13 : decode cX6_angle 13 = .ok (.goto 4, 3) := by decide +kernel
theorem dX6_angle_16 : decode cX6_angle 16 = .ok (.iconst 0, 1) := by decide +kernel
theorem dX6_angle_17 : decode cX6_angle 17 = .ok (.invokevirtual 75, 3) := by decide +kernel
theorem dX6_angle_20 : decode cX6_angle 20 = .ok (.ifCond .eq 5, 3) := by decide +kernel
theorem dX6_angle_23 : decode cX6_angle 23 = .ok (.iconst 0, 1) := by decide +kernel
theorem dX6_angle_24 : decode cX6_angle 24 = .ok (.ireturn, 1) := by decide +kernel
theorem dX6_angle_25 : decode cX6_angle 25 = .ok (.aload_n 0, 1) := by decide +kernel
theorem dX6_angle_26 : decode cX6_angle 26 = .ok (.iconst 1, 1) := by decide +kernel
theorem dX6_angle_27 : decode cX6_angle 27 = .ok (.putfield 39, 3) := by decide +kernel
theorem dX6_angle_30 : decode cX6_angle 30 = .ok (.aload_n 0, 1) := by decide +kernel
theorem dX6_angle_31 : decode cX6_angle 31 = .ok (.iconst 0, 1) := by decide +kernel
theorem dX6_angle_32 : decode cX6_angle 32 = .ok (.putfield 100, 3) := by decide +kernel
theorem dX6_angle_35 : decode cX6_angle 35 = .ok (.aload_n 0, 1) := by decide +kernel
theorem dX6_angle_36 : decode cX6_angle 36 = .ok (.dconst 0, 1) := by decide +kernel
theorem dX6_angle_37 : decode cX6_angle 37 = .ok (.putfield 103, 3) := by decide +kernel
theorem dX6_angle_40 : decode cX6_angle 40 = .ok (.aload_n 0, 1) := by decide +kernel
theorem dX6_angle_41 : decode cX6_angle 41 = .ok (.invokevirtual 107, 3) := by decide +kernel
theorem dX6_angle_44 : decode cX6_angle 44 = .ok (.ifCond .ne 6, 3) := by decide +kernel
theorem dX6_angle_47 : decode cX6_angle 47 = .ok (.ldc 110, 2) := by decide +kernel
theorem dX6_angle_49 : decode cX6_angle 49 = .ok (.ireturn, 1) := by decide +kernel
theorem dX6_angle_50 : decode cX6_angle 50 = .ok (.iload_n 1, 1) := by decide +kernel
theorem dX6_angle_51 : decode cX6_angle 51 = .ok (.ineg, 1) := by decide +kernel
theorem dX6_angle_52 : decode cX6_angle 52 = .ok (.istore_n 2, 1) := by decide +kernel
theorem dX6_angle_53 : decode cX6_angle 53 = .ok (.ldc2_w 111, 3) := by decide +kernel
theorem dX6_angle_56 : decode cX6_angle 56 = .ok (.dstore_n 3, 1) := by decide +kernel
theorem dX6_angle_57 : decode cX6_angle 57 = .ok (.dconst 0, 1) := by decide +kernel
theorem dX6_angle_58 : decode cX6_angle 58 = .ok (.dstore 5, 2) := by decide +kernel
theorem dX6_angle_60 : decode cX6_angle 60 = .ok (.iconst 0, 1) := by decide +kernel
theorem dX6_angle_61 : decode cX6_angle 61 = .ok (.istore 7, 2) := by decide +kernel
theorem dX6_angle_63 : decode cX6_angle 63 = .ok (.iload_n 1, 1) := by decide +kernel
theorem dX6_angle_64 : decode cX6_angle 64 = .ok (.ineg, 1) := by decide +kernel
theorem dX6_angle_65 : decode cX6_angle 65 = .ok (.istore 8, 2) := by decide +kernel
theorem dX6_angle_67 : decode cX6_angle 67 = .ok (.iload 8, 2) := by decide +kernel
theorem dX6_angle_69 : decode cX6_angle 69 = .ok (.iload_n 1, 1) := by decide +kernel
theorem dX6_angle_70 : decode cX6_angle 70 = .ok (.if_icmp .gt 40, 3) := by decide +kernel
theorem dX6_angle_73 : decode cX6_angle 73 = .ok (.aload_n 0, 1) := by decide +kernel
theorem dX6_angle_74 : decode cX6_angle 74 = .ok (.iload 8, 2) := by decide +kernel
theorem dX6_angle_76 : decode cX6_angle 76 = .ok (.invokevirtual 96, 3) := by decide +kernel
theorem dX6_angle_79 : decode cX6_angle 79 = .ok (.dstore 9, 2) := by decide +kernel
theorem dX6_angle_81 : decode cX6_angle 81 = .ok (.dload 5, 2) := by decide +kernel
theorem dX6_angle_83 : decode cX6_angle 83 = .ok (.dload 9, 2) := by decide +kernel
theorem dX6_angle_85 : decode cX6_angle 85 = .ok (.dadd, 1) := by decide +kernel
theorem dX6_angle_86 : decode cX6_angle 86 = .ok (.dstore 5, 2) := by decide +kernel
theorem dX6_angle_88 : decode cX6_angle 88 = .ok (.iinc 7 1, 3) := by decide +kernel
theorem dX6_angle_91 : decode cX6_angle 91 = .ok (.dload 9, 2) := by decide +kernel
theorem dX6_angle_93 : decode cX6_angle 93 = .ok (.dload_n 3, 1) := by decide +kernel
theorem dX6_angle_94 : decode cX6_angle 94 = .ok (.dcmp .l, 1) := by decide +kernel
theorem dX6_angle_95 : decode cX6_angle 95 = .ok (.ifCond .le 9, 3) := by decide +kernel
theorem dX6_angle_98 : decode cX6_angle 98 = .ok (.dload 9, 2) := by decide +kernel
theorem dX6_angle_100 : decode cX6_angle 100 = .ok (.dstore_n 3, 1) := by decide +kernel
theorem dX6_angle_101 : decode cX6_angle 101 = .ok (.iload 8, 2) := by decide +kernel
theorem dX6_angle_103 : decode cX6_angle 103 = .ok (.istore_n 2, 1) := by decide +kernel
theorem dX6_angle_104 : decode cX6_angle 104 = .ok (.iinc 8 100, 3) := by decide +kernel
theorem dX6_angle_107 : decode cX6_angle 107 = .ok (.goto (-40), 3) := by decide +kernel
theorem dX6_angle_110 : decode cX6_angle 110 = .ok (.aload_n 0, 1) := by decide +kernel
theorem dX6_angle_111 : decode cX6_angle 111 = .ok (.dload 5, 2) := by decide +kernel
theorem dX6_angle_113 : decode cX6_angle 113 = .ok (.iload 7, 2) := by decide +kernel
theorem dX6_angle_115 : decode cX6_angle 115 = .ok (.i2d, 1) := by decide +kernel
theorem dX6_angle_116 : decode cX6_angle 116 = .ok (.ddiv, 1) := by decide +kernel
theorem dX6_angle_117 : decode cX6_angle 117 = .ok (.putfield 103, 3) := by decide +kernel
theorem dX6_angle_120 : decode cX6_angle 120 = .ok (.iconst 0, 1) := by decide +kernel
theorem dX6_angle_121 : decode cX6_angle 121 = .ok (.istore 8, 2) := by decide +kernel
theorem dX6_angle_123 : decode cX6_angle 123 = .ok (.iload 8, 2) := by decide +kernel
theorem dX6_angle_125 : decode cX6_angle 125 = .ok (.bipush 6, 2) := by decide +kernel
theorem dX6_angle_127 : decode cX6_angle 127 = .ok (.if_icmp .ge 104, 3) := by decide +kernel
theorem dX6_angle_130 : decode cX6_angle 130 = .ok (.iload 8, 2) := by decide +kernel
theorem dX6_angle_132 : decode cX6_angle 132 = .ok (.invokestatic 113, 3) := by decide +kernel
theorem dX6_angle_135 : decode cX6_angle 135 = .ok (.istore 9, 2) := by decide +kernel
theorem dX6_angle_137 : decode cX6_angle 137 = .ok (.iload_n 2, 1) := by decide +kernel
theorem dX6_angle_138 : decode cX6_angle 138 = .ok (.istore 10, 2) := by decide +kernel
theorem dX6_angle_140 : decode cX6_angle 140 = .ok (.iload 10, 2) := by decide +kernel
theorem dX6_angle_142 : decode cX6_angle 142 = .ok (.iload 9, 2) := by decide +kernel
theorem dX6_angle_144 : decode cX6_angle 144 = .ok (.isub, 1) := by decide +kernel
theorem dX6_angle_145 : decode cX6_angle 145 = .ok (.iload_n 1, 1) := by decide +kernel
theorem dX6_angle_146 : decode cX6_angle 146 = .ok (.ineg, 1) := by decide +kernel
theorem dX6_angle_147 : decode cX6_angle 147 = .ok (.if_icmp .lt 15, 3) := by decide +kernel
theorem dX6_angle_150 : decode cX6_angle 150 = .ok (.aload_n 0, 1) := by decide +kernel
theorem dX6_angle_151 : decode cX6_angle 151 = .ok (.iload 10, 2) := by decide +kernel
theorem dX6_angle_153 : decode cX6_angle 153 = .ok (.iload 9, 2) := by decide +kernel
theorem dX6_angle_155 : decode cX6_angle 155 = .ok (.isub, 1) := by decide +kernel
theorem dX6_angle_156 : decode cX6_angle 156 = .ok (.invokevirtual 96, 3) := by decide +kernel
theorem dX6_angle_159 : decode cX6_angle 159 = .ok (.goto 6, 3) := by decide +kernel
theorem dX6_angle_162 : decode cX6_angle 162 = .ok (.ldc2_w 111, 3) := by decide +kernel
theorem dX6_angle_165 : decode cX6_angle 165 = .ok (.dstore 11, 2) := by decide +kernel
theorem dX6_angle_167 : decode cX6_angle 167 = .ok (.iload 10, 2) := by decide +kernel
theorem dX6_angle_169 : decode cX6_angle 169 = .ok (.iload 9, 2) := by decide +kernel
theorem dX6_angle_171 : decode cX6_angle 171 = .ok (.iadd, 1) := by decide +kernel
theorem dX6_angle_172 : decode cX6_angle 172 = .ok (.iload_n 1, 1) := by decide +kernel
theorem dX6_angle_173 : decode cX6_angle 173 = .ok (.if_icmp .gt 15, 3) := by decide +kernel
theorem dX6_angle_176 : decode cX6_angle 176 = .ok (.aload_n 0, 1) := by decide +kernel
theorem dX6_angle_177 : decode cX6_angle 177 = .ok (.iload 10, 2) := by decide +kernel
theorem dX6_angle_179 : decode cX6_angle 179 = .ok (.iload 9, 2) := by decide +kernel
theorem dX6_angle_181 : decode cX6_angle 181 = .ok (.iadd, 1) := by decide +kernel
theorem dX6_angle_182 : decode cX6_angle 182 = .ok (.invokevirtual 96, 3) := by decide +kernel
theorem dX6_angle_185 : decode cX6_angle 185 = .ok (.goto 6, 3) := by decide +kernel
theorem dX6_angle_188 : decode cX6_angle 188 = .ok (.ldc2_w 111, 3) := by decide +kernel
theorem dX6_angle_191 : decode cX6_angle 191 = .ok (.dstore 13, 2) := by decide +kernel
theorem dX6_angle_193 : decode cX6_angle 193 = .ok (.dload 11, 2) := by decide +kernel
theorem dX6_angle_195 : decode cX6_angle 195 = .ok (.dload_n 3, 1) := by decide +kernel
theorem dX6_angle_196 : decode cX6_angle 196 = .ok (.dcmp .l, 1) := by decide +kernel
theorem dX6_angle_197 : decode cX6_angle 197 = .ok (.ifCond .lt 12, 3) := by decide +kernel
theorem dX6_angle_200 : decode cX6_angle 200 = .ok (.iload 10, 2) := by decide +kernel
theorem dX6_angle_202 : decode cX6_angle 202 = .ok (.iload 9, 2) := by decide +kernel
theorem dX6_angle_204 : decode cX6_angle 204 = .ok (.isub, 1) := by decide +kernel
theorem dX6_angle_205 : decode cX6_angle 205 = .ok (.istore_n 2, 1) := by decide +kernel
theorem dX6_angle_206 : decode cX6_angle 206 = .ok (.dload 11, 2) := by decide +kernel
theorem dX6_angle_208 : decode cX6_angle 208 = .ok (.dstore_n 3, 1) := by decide +kernel
theorem dX6_angle_209 : decode cX6_angle 209 = .ok (.dload 13, 2) := by decide +kernel
theorem dX6_angle_211 : decode cX6_angle 211 = .ok (.dload_n 3, 1) := by decide +kernel
theorem dX6_angle_212 : decode cX6_angle 212 = .ok (.dcmp .l, 1) := by decide +kernel
theorem dX6_angle_213 : decode cX6_angle 213 = .ok (.ifCond .le 12, 3) := by decide +kernel
theorem dX6_angle_216 : decode cX6_angle 216 = .ok (.iload 10, 2) := by decide +kernel
theorem dX6_angle_218 : decode cX6_angle 218 = .ok (.iload 9, 2) := by decide +kernel
theorem dX6_angle_220 : decode cX6_angle 220 = .ok (.iadd, 1) := by decide +kernel
theorem dX6_angle_221 : decode cX6_angle 221 = .ok (.istore_n 2, 1) := by decide +kernel
theorem dX6_angle_222 : decode cX6_angle 222 = .ok (.dload 13, 2) := by decide +kernel
theorem dX6_angle_224 : decode cX6_angle 224 = .ok (.dstore_n 3, 1) := by decide +kernel
theorem dX6_angle_225 : decode cX6_angle 225 = .ok (.iinc 8 1, 3) := by decide +kernel
theorem dX6_angle_228 : decode cX6_angle 228 = .ok (.goto (-105), 3) := by decide +kernel
theorem dX6_angle_231 : decode cX6_angle 231 = .ok (.aload_n 0, 1) := by decide +kernel
theorem dX6_angle_232 : decode cX6_angle 232 = .ok (.dload_n 3, 1) := by decide +kernel
theorem dX6_angle_233 : decode cX6_angle 233 = .ok (.ldc2_w 117, 3) := by decide +kernel
theorem dX6_angle_236 : decode cX6_angle 236 = .ok (.aload_n 0, 1) := by decide +kernel
theorem dX6_angle_237 : decode cX6_angle 237 = .ok (.getfield 103, 3) := by decide +kernel
theorem dX6_angle_240 : decode cX6_angle 240 = .ok (.dmul, 1) := by decide +kernel
theorem dX6_angle_241 : decode cX6_angle 241 = .ok (.dcmp .l, 1) := by decide +kernel
theorem dX6_angle_242 : decode cX6_angle 242 = .ok (.ifCond .lt 7, 3) := by decide +kernel
theorem dX6_angle_245 : decode cX6_angle 245 = .ok (.iconst 1, 1) := by decide +kernel
theorem dX6_angle_246 : decode cX6_angle 246 = .ok (.goto 4, 3) := by decide +kernel
theorem dX6_angle_249 : decode cX6_angle 249 = .ok (.iconst 0, 1) := by decide +kernel
theorem dX6_angle_250 : decode cX6_angle 250 = .ok (.putfield 100, 3) := by decide +kernel
theorem dX6_angle_253 : decode cX6_angle 253 = .ok (.iload_n 2, 1) := by decide +kernel
theorem dX6_angle_254 : decode cX6_angle 254 = .ok (.ireturn, 1) := by decide +kernel
set_option maxRecDepth 20000 in
theorem ggX6_sure_X6_refuses : GoodIn wsX6_sure wsX6_refuses := goodIn_r _ [7, 8, 9, 10, 11, 12, 13, 14, 15, 16, 17, 18, 19, 20, 21, 22] (by decide +kernel) (by decide +kernel)
set_option maxRecDepth 20000 in
theorem gX6_sure_X6_refuses : GoodIn wsX6_sure (wsV RX6 75 RX6 yX6_refuses wsX6_refuses) := goodIn_app (goodIn_of _ (by decide +kernel)) ggX6_sure_X6_refuses
theorem dX6_sure_0 : decode cX6_sure 0 = .ok (.aload_n 0, 1) := by decide +kernel
theorem dX6_sure_1 : decode cX6_sure 1 = .ok (.aload_n 0, 1) := by decide +kernel
theorem dX6_sure_2 : decode cX6_sure 2 = .ok (.getfield 39, 3) := by decide +kernel
theorem dX6_sure_5 : decode cX6_sure 5 = .ok (.ifCond .eq 7, 3) := by decide +kernel
theorem dX6_sure_8 : decode cX6_sure 8 = .ok (.iconst 0, 1) := by decide +kernel
theorem dX6_sure_9 : decode cX6_sure 9 = .ok (.goto 4, 3) := by decide +kernel
theorem dX6_sure_12 : decode cX6_sure 12 = .ok (.iconst 1, 1) := by decide +kernel
theorem dX6_sure_13 : decode cX6_sure 13 = .ok (.invokevirtual 75, 3) := by decide +kernel
theorem dX6_sure_16 : decode cX6_sure 16 = .ok (.ifCond .ne 14, 3) := by decide +kernel
theorem dX6_sure_19 : decode cX6_sure 19 = .ok (.aload_n 0, 1) := by decide +kernel
theorem dX6_sure_20 : decode cX6_sure 20 = .ok (.getfield 100, 3) := by decide +kernel
theorem dX6_sure_23 : decode cX6_sure 23 = .ok (.ifCond .eq 7, 3) := by decide +kernel
theorem dX6_sure_26 : decode cX6_sure 26 = .ok (.iconst 1, 1) := by decide +kernel
theorem dX6_sure_27 : decode cX6_sure 27 = .ok (.goto 4, 3) := by decide +kernel
theorem dX6_sure_30 : decode cX6_sure 30 = .ok (.iconst 0, 1) := by decide +kernel
theorem dX6_sure_31 : decode cX6_sure 31 = .ok (.ireturn, 1) := by decide +kernel
set_option maxRecDepth 20000 in
theorem ggX6_mean_X6_refuses : GoodIn wsX6_mean wsX6_refuses := goodIn_r _ [7, 8, 9, 10, 11, 12, 13, 14, 15, 16, 17, 18, 19, 20, 21, 22] (by decide +kernel) (by decide +kernel)
set_option maxRecDepth 20000 in
theorem gX6_mean_X6_refuses : GoodIn wsX6_mean (wsV RX6 75 RX6 yX6_refuses wsX6_refuses) := goodIn_app (goodIn_of _ (by decide +kernel)) ggX6_mean_X6_refuses
theorem dX6_mean_0 : decode cX6_mean 0 = .ok (.aload_n 0, 1) := by decide +kernel
theorem dX6_mean_1 : decode cX6_mean 1 = .ok (.aload_n 0, 1) := by decide +kernel
theorem dX6_mean_2 : decode cX6_mean 2 = .ok (.getfield 39, 3) := by decide +kernel
theorem dX6_mean_5 : decode cX6_mean 5 = .ok (.ifCond .eq 7, 3) := by decide +kernel
theorem dX6_mean_8 : decode cX6_mean 8 = .ok (.iconst 0, 1) := by decide +kernel
theorem dX6_mean_9 : decode cX6_mean 9 = .ok (.goto 4, 3) := by decide +kernel
theorem dX6_mean_12 : decode cX6_mean 12 = .ok (.iconst 1, 1) := by decide +kernel
theorem dX6_mean_13 : decode cX6_mean 13 = .ok (.invokevirtual 75, 3) := by decide +kernel
theorem dX6_mean_16 : decode cX6_mean 16 = .ok (.ifCond .eq 7, 3) := by decide +kernel
theorem dX6_mean_19 : decode cX6_mean 19 = .ok (.dconst 0, 1) := by decide +kernel
theorem dX6_mean_20 : decode cX6_mean 20 = .ok (.goto 7, 3) := by decide +kernel
theorem dX6_mean_23 : decode cX6_mean 23 = .ok (.aload_n 0, 1) := by decide +kernel
theorem dX6_mean_24 : decode cX6_mean 24 = .ok (.getfield 103, 3) := by decide +kernel
theorem dX6_mean_27 : decode cX6_mean 27 = .ok (.dreturn, 1) := by decide +kernel
theorem dX6_within_0 : decode cX6_within 0 = .ok (.iload_n 0, 1) := by decide +kernel
theorem dX6_within_1 : decode cX6_within 1 = .ok (.iload_n 1, 1) := by decide +kernel
theorem dX6_within_2 : decode cX6_within 2 = .ok (.irem, 1) := by decide +kernel
theorem dX6_within_3 : decode cX6_within 3 = .ok (.istore_n 2, 1) := by decide +kernel
theorem dX6_within_4 : decode cX6_within 4 = .ok (.iload_n 2, 1) := by decide +kernel
theorem dX6_within_5 : decode cX6_within 5 = .ok (.ifCond .ge 9, 3) := by decide +kernel
theorem dX6_within_8 : decode cX6_within 8 = .ok (.iload_n 2, 1) := by decide +kernel
theorem dX6_within_9 : decode cX6_within 9 = .ok (.iload_n 1, 1) := by decide +kernel
theorem dX6_within_10 : decode cX6_within 10 = .ok (.iadd, 1) := by decide +kernel
theorem dX6_within_11 : decode cX6_within 11 = .ok (.goto 4, 3) := by decide +kernel
theorem dX6_within_14 : decode cX6_within 14 = .ok (.iload_n 2, 1) := by decide +kernel
theorem dX6_within_15 : decode cX6_within 15 = .ok (.ireturn, 1) := by decide +kernel
theorem dX6_change_0 : decode cX6_change 0 = .ok (.iconst 0, 1) := by decide +kernel
theorem dX6_change_1 : decode cX6_change 1 = .ok (.istore_n 1, 1) := by decide +kernel
theorem dX6_change_2 : decode cX6_change 2 = .ok (.iload_n 1, 1) := by decide +kernel
theorem dX6_change_3 : decode cX6_change 3 = .ok (.sipush 576, 3) := by decide +kernel
theorem dX6_change_6 : decode cX6_change 6 = .ok (.if_icmp .ge 21, 3) := by decide +kernel
theorem dX6_change_9 : decode cX6_change 9 = .ok (.aload_n 0, 1) := by decide +kernel
theorem dX6_change_10 : decode cX6_change 10 = .ok (.getfield 7, 3) := by decide +kernel
theorem dX6_change_13 : decode cX6_change 13 = .ok (.iload_n 1, 1) := by decide +kernel
theorem dX6_change_14 : decode cX6_change 14 = .ok (.aload_n 0, 1) := by decide +kernel
theorem dX6_change_15 : decode cX6_change 15 = .ok (.getfield 13, 3) := by decide +kernel
theorem dX6_change_18 : decode cX6_change 18 = .ok (.iload_n 1, 1) := by decide +kernel
theorem dX6_change_19 : decode cX6_change 19 = .ok (.baload, 1) := by decide +kernel
theorem dX6_change_20 : decode cX6_change 20 = .ok (.bastore, 1) := by decide +kernel
theorem dX6_change_21 : decode cX6_change 21 = .ok (.iinc 1 1, 3) := by decide +kernel
theorem dX6_change_24 : decode cX6_change 24 = .ok (.goto (-22), 3) := by decide +kernel
theorem dX6_change_27 : decode cX6_change 27 = .ok (.return_, 1) := by decide +kernel
theorem dX6_forget_0 : decode cX6_forget 0 = .ok (.iconst 0, 1) := by decide +kernel
theorem dX6_forget_1 : decode cX6_forget 1 = .ok (.istore_n 1, 1) := by decide +kernel
theorem dX6_forget_2 : decode cX6_forget 2 = .ok (.iload_n 1, 1) := by decide +kernel
theorem dX6_forget_3 : decode cX6_forget 3 = .ok (.sipush 576, 3) := by decide +kernel
theorem dX6_forget_6 : decode cX6_forget 6 = .ok (.if_icmp .ge 16, 3) := by decide +kernel
theorem dX6_forget_9 : decode cX6_forget 9 = .ok (.aload_n 0, 1) := by decide +kernel
theorem dX6_forget_10 : decode cX6_forget 10 = .ok (.getfield 13, 3) := by decide +kernel
theorem dX6_forget_13 : decode cX6_forget 13 = .ok (.iload_n 1, 1) := by decide +kernel
theorem dX6_forget_14 : decode cX6_forget 14 = .ok (.iconst 0, 1) := by decide +kernel
theorem dX6_forget_15 : decode cX6_forget 15 = .ok (.bastore, 1) := by decide +kernel
theorem dX6_forget_16 : decode cX6_forget 16 = .ok (.iinc 1 1, 3) := by decide +kernel
theorem dX6_forget_19 : decode cX6_forget 19 = .ok (.goto (-17), 3) := by decide +kernel
theorem dX6_forget_22 : decode cX6_forget 22 = .ok (.return_, 1) := by decide +kernel
set_option maxRecDepth 20000 in
theorem ggX6_shearRows_X6_forget : GoodIn wsX6_shearRows wsX6_forget := goodIn_r _ [10, 4, 22, 23, 24, 25, 26, 27, 28, 29, 30, 31, 32, 33, 34, 35] (by decide +kernel) (by decide +kernel)
set_option maxRecDepth 20000 in
theorem gX6_shearRows_X6_forget : GoodIn wsX6_shearRows (wsV RX6 121 RX6 yX6_forget wsX6_forget) := goodIn_app (goodIn_of _ (by decide +kernel)) ggX6_shearRows_X6_forget
set_option maxRecDepth 20000 in
theorem ggX6_shearRows_X6_wholeOf : GoodIn wsX6_shearRows wsX6_wholeOf := goodIn_r _ [13, 14] (by decide +kernel) (by decide +kernel)
set_option maxRecDepth 20000 in
theorem gX6_shearRows_X6_wholeOf : GoodIn wsX6_shearRows (va_wsS RX6 92 yX6_wholeOf wsX6_wholeOf) := goodIn_app (goodIn_of _ (by decide +kernel)) ggX6_shearRows_X6_wholeOf
set_option maxRecDepth 20000 in
theorem ggX6_shearRows_X6_within : GoodIn wsX6_shearRows wsX6_within := goodIn_r _ [17] (by decide +kernel) (by decide +kernel)
set_option maxRecDepth 20000 in
theorem gX6_shearRows_X6_within : GoodIn wsX6_shearRows (va_wsS RX6 124 yX6_within wsX6_within) := goodIn_app (goodIn_of _ (by decide +kernel)) ggX6_shearRows_X6_within
set_option maxRecDepth 20000 in
theorem ggX6_shearRows_X6_change : GoodIn wsX6_shearRows wsX6_change := goodIn_r _ [21, 5, 4, 22, 23, 24, 25, 26, 27, 28, 29, 30, 31, 32, 33, 34, 35] (by decide +kernel) (by decide +kernel)
set_option maxRecDepth 20000 in
theorem gX6_shearRows_X6_change : GoodIn wsX6_shearRows (wsV RX6 128 RX6 yX6_change wsX6_change) := goodIn_app (goodIn_of _ (by decide +kernel)) ggX6_shearRows_X6_change
theorem dX6_shearRows_0 : decode cX6_shearRows 0 = .ok (.aload_n 0, 1) := by decide +kernel
theorem dX6_shearRows_1 : decode cX6_shearRows 1 = .ok (.getfield 30, 3) := by decide +kernel
theorem dX6_shearRows_4 : decode cX6_shearRows 4 = .ok (.iconst 1, 1) := by decide +kernel
theorem dX6_shearRows_5 : decode cX6_shearRows 5 = .ok (.isub, 1) := by decide +kernel
theorem dX6_shearRows_6 : decode cX6_shearRows 6 = .ok (.i2d, 1) := by decide +kernel
theorem dX6_shearRows_7 : decode cX6_shearRows 7 = .ok (.ldc2_w 119, 3) := by decide +kernel
theorem dX6_shearRows_10 : decode cX6_shearRows 10 = .ok (.ddiv, 1) := by decide +kernel
theorem dX6_shearRows_11 : decode cX6_shearRows 11 = .ok (.dstore 4, 2) := by decide +kernel
theorem dX6_shearRows_13 : decode cX6_shearRows 13 = .ok (.aload_n 0, 1) := by decide +kernel
theorem dX6_shearRows_14 : decode cX6_shearRows 14 = .ok (.invokevirtual 121, 3) := by decide +kernel
theorem dX6_shearRows_17 : decode cX6_shearRows 17 = .ok (.iconst 0, 1) := by decide +kernel
theorem dX6_shearRows_18 : decode cX6_shearRows 18 = .ok (.istore 6, 2) := by decide +kernel
theorem dX6_shearRows_20 : decode cX6_shearRows 20 = .ok (.iload 6, 2) := by decide +kernel
theorem dX6_shearRows_22 : decode cX6_shearRows 22 = .ok (.aload_n 0, 1) := by decide +kernel
theorem dX6_shearRows_23 : decode cX6_shearRows 23 = .ok (.getfield 30, 3) := by decide +kernel
theorem dX6_shearRows_26 : decode cX6_shearRows 26 = .ok (.if_icmp .ge 78, 3) := by decide +kernel
theorem dX6_shearRows_29 : decode cX6_shearRows 29 = .ok (.iload_n 3, 1) := by decide +kernel
theorem dX6_shearRows_30 : decode cX6_shearRows 30 = .ok (.dload 4, 2) := by decide +kernel
theorem dX6_shearRows_32 : decode cX6_shearRows 32 = .ok (.iload 6, 2) := by decide +kernel
theorem dX6_shearRows_34 : decode cX6_shearRows 34 = .ok (.i2d, 1) := by decide +kernel
theorem dX6_shearRows_35 : decode cX6_shearRows 35 = .ok (.dsub, 1) := by decide +kernel
theorem dX6_shearRows_36 : decode cX6_shearRows 36 = .ok (.dload_n 1, 1) := by decide +kernel
theorem dX6_shearRows_37 : decode cX6_shearRows 37 = .ok (.dmul, 1) := by decide +kernel
theorem dX6_shearRows_38 : decode cX6_shearRows 38 = .ok (.invokestatic 92, 3) := by decide +kernel
theorem dX6_shearRows_41 : decode cX6_shearRows 41 = .ok (.imul, 1) := by decide +kernel
theorem dX6_shearRows_42 : decode cX6_shearRows 42 = .ok (.istore 7, 2) := by decide +kernel
theorem dX6_shearRows_44 : decode cX6_shearRows 44 = .ok (.iconst 0, 1) := by decide +kernel
theorem dX6_shearRows_45 : decode cX6_shearRows 45 = .ok (.istore 8, 2) := by decide +kernel
theorem dX6_shearRows_47 : decode cX6_shearRows 47 = .ok (.iload 8, 2) := by decide +kernel
theorem dX6_shearRows_49 : decode cX6_shearRows 49 = .ok (.aload_n 0, 1) := by decide +kernel
theorem dX6_shearRows_50 : decode cX6_shearRows 50 = .ok (.getfield 26, 3) := by decide +kernel
theorem dX6_shearRows_53 : decode cX6_shearRows 53 = .ok (.if_icmp .ge 45, 3) := by decide +kernel
theorem dX6_shearRows_56 : decode cX6_shearRows 56 = .ok (.aload_n 0, 1) := by decide +kernel
theorem dX6_shearRows_57 : decode cX6_shearRows 57 = .ok (.getfield 13, 3) := by decide +kernel
theorem dX6_shearRows_60 : decode cX6_shearRows 60 = .ok (.bipush 24, 2) := by decide +kernel
theorem dX6_shearRows_62 : decode cX6_shearRows 62 = .ok (.iload 6, 2) := by decide +kernel
theorem dX6_shearRows_64 : decode cX6_shearRows 64 = .ok (.imul, 1) := by decide +kernel
theorem dX6_shearRows_65 : decode cX6_shearRows 65 = .ok (.iload 8, 2) := by decide +kernel
theorem dX6_shearRows_67 : decode cX6_shearRows 67 = .ok (.iload 7, 2) := by decide +kernel
theorem dX6_shearRows_69 : decode cX6_shearRows 69 = .ok (.iadd, 1) := by decide +kernel
theorem dX6_shearRows_70 : decode cX6_shearRows 70 = .ok (.aload_n 0, 1) := by decide +kernel
theorem dX6_shearRows_71 : decode cX6_shearRows 71 = .ok (.getfield 26, 3) := by decide +kernel
theorem dX6_shearRows_74 : decode cX6_shearRows 74 = .ok (.invokestatic 124, 3) := by decide +kernel
theorem dX6_shearRows_77 : decode cX6_shearRows 77 = .ok (.iadd, 1) := by decide +kernel
theorem dX6_shearRows_78 : decode cX6_shearRows 78 = .ok (.aload_n 0, 1) := by decide +kernel
theorem dX6_shearRows_79 : decode cX6_shearRows 79 = .ok (.getfield 7, 3) := by decide +kernel
theorem dX6_shearRows_82 : decode cX6_shearRows 82 = .ok (.bipush 24, 2) := by decide +kernel
theorem dX6_shearRows_84 : decode cX6_shearRows 84 = .ok (.iload 6, 2) := by decide +kernel
theorem dX6_shearRows_86 : decode cX6_shearRows 86 = .ok (.imul, 1) := by decide +kernel
theorem dX6_shearRows_87 : decode cX6_shearRows 87 = .ok (.iload 8, 2) := by decide +kernel
theorem dX6_shearRows_89 : decode cX6_shearRows 89 = .ok (.iadd, 1) := by decide +kernel
theorem dX6_shearRows_90 : decode cX6_shearRows 90 = .ok (.baload, 1) := by decide +kernel
theorem dX6_shearRows_91 : decode cX6_shearRows 91 = .ok (.bastore, 1) := by decide +kernel
theorem dX6_shearRows_92 : decode cX6_shearRows 92 = .ok (.iinc 8 1, 3) := by decide +kernel
theorem dX6_shearRows_95 : decode cX6_shearRows 95 = .ok (.goto (-48), 3) := by decide +kernel
theorem dX6_shearRows_98 : decode cX6_shearRows 98 = .ok (.iinc 6 1, 3) := by decide +kernel
theorem dX6_shearRows_101 : decode cX6_shearRows 101 = .ok (.goto (-81), 3) := by decide +kernel
theorem dX6_shearRows_104 : decode cX6_shearRows 104 = .ok (.aload_n 0, 1) := by decide +kernel
theorem dX6_shearRows_105 : decode cX6_shearRows 105 = .ok (.invokevirtual 128, 3) := by decide +kernel
theorem dX6_shearRows_108 : decode cX6_shearRows 108 = .ok (.return_, 1) := by decide +kernel
set_option maxRecDepth 20000 in
theorem ggX6_shearColumns_X6_forget : GoodIn wsX6_shearColumns wsX6_forget := goodIn_r _ [10, 4, 22, 23, 24, 25, 26, 27, 28, 29, 30, 31, 32, 33, 34, 35] (by decide +kernel) (by decide +kernel)
set_option maxRecDepth 20000 in
theorem gX6_shearColumns_X6_forget : GoodIn wsX6_shearColumns (wsV RX6 121 RX6 yX6_forget wsX6_forget) := goodIn_app (goodIn_of _ (by decide +kernel)) ggX6_shearColumns_X6_forget
set_option maxRecDepth 20000 in
theorem ggX6_shearColumns_X6_wholeOf : GoodIn wsX6_shearColumns wsX6_wholeOf := goodIn_r _ [13, 14] (by decide +kernel) (by decide +kernel)
set_option maxRecDepth 20000 in
theorem gX6_shearColumns_X6_wholeOf : GoodIn wsX6_shearColumns (va_wsS RX6 92 yX6_wholeOf wsX6_wholeOf) := goodIn_app (goodIn_of _ (by decide +kernel)) ggX6_shearColumns_X6_wholeOf
set_option maxRecDepth 20000 in
theorem ggX6_shearColumns_X6_within : GoodIn wsX6_shearColumns wsX6_within := goodIn_r _ [17] (by decide +kernel) (by decide +kernel)
set_option maxRecDepth 20000 in
theorem gX6_shearColumns_X6_within : GoodIn wsX6_shearColumns (va_wsS RX6 124 yX6_within wsX6_within) := goodIn_app (goodIn_of _ (by decide +kernel)) ggX6_shearColumns_X6_within
set_option maxRecDepth 20000 in
theorem ggX6_shearColumns_X6_change : GoodIn wsX6_shearColumns wsX6_change := goodIn_r _ [21, 5, 4, 22, 23, 24, 25, 26, 27, 28, 29, 30, 31, 32, 33, 34, 35] (by decide +kernel) (by decide +kernel)
set_option maxRecDepth 20000 in
theorem gX6_shearColumns_X6_change : GoodIn wsX6_shearColumns (wsV RX6 128 RX6 yX6_change wsX6_change) := goodIn_app (goodIn_of _ (by decide +kernel)) ggX6_shearColumns_X6_change
theorem dX6_shearColumns_0 : decode cX6_shearColumns 0 = .ok (.aload_n 0, 1) := by decide +kernel
theorem dX6_shearColumns_1 : decode cX6_shearColumns 1 = .ok (.getfield 26, 3) := by decide +kernel
theorem dX6_shearColumns_4 : decode cX6_shearColumns 4 = .ok (.iconst 1, 1) := by decide +kernel
theorem dX6_shearColumns_5 : decode cX6_shearColumns 5 = .ok (.isub, 1) := by decide +kernel
theorem dX6_shearColumns_6 : decode cX6_shearColumns 6 = .ok (.i2d, 1) := by decide +kernel
theorem dX6_shearColumns_7 : decode cX6_shearColumns 7 = .ok (.ldc2_w 119, 3) := by decide +kernel
theorem dX6_shearColumns_10 : decode cX6_shearColumns 10 = .ok (.ddiv, 1) := by decide +kernel
theorem dX6_shearColumns_11 : decode cX6_shearColumns 11 = .ok (.dstore 4, 2) := by decide +kernel
theorem dX6_shearColumns_13 : decode cX6_shearColumns 13 = .ok (.aload_n 0, 1) := by decide +kernel
theorem dX6_shearColumns_14 : decode cX6_shearColumns 14 = .ok (.invokevirtual 121, 3) := by decide +kernel
theorem dX6_shearColumns_17 : decode cX6_shearColumns 17 = .ok (.iconst 0, 1) := by decide +kernel
theorem dX6_shearColumns_18 : decode cX6_shearColumns 18 = .ok (.istore 6, 2) := by decide +kernel
theorem dX6_shearColumns_20 : decode cX6_shearColumns 20 = .ok (.iload 6, 2) := by decide +kernel
theorem dX6_shearColumns_22 : decode cX6_shearColumns 22 = .ok (.aload_n 0, 1) := by decide +kernel
theorem dX6_shearColumns_23 : decode cX6_shearColumns 23 = .ok (.getfield 26, 3) := by decide +kernel
theorem dX6_shearColumns_26 : decode cX6_shearColumns 26 = .ok (.if_icmp .ge 78, 3) := by decide +kernel
theorem dX6_shearColumns_29 : decode cX6_shearColumns 29 = .ok (.iload_n 3, 1) := by decide +kernel
theorem dX6_shearColumns_30 : decode cX6_shearColumns 30 = .ok (.iload 6, 2) := by decide +kernel
theorem dX6_shearColumns_32 : decode cX6_shearColumns 32 = .ok (.i2d, 1) := by decide +kernel
theorem dX6_shearColumns_33 : decode cX6_shearColumns 33 = .ok (.dload 4, 2) := by decide +kernel
theorem dX6_shearColumns_35 : decode cX6_shearColumns 35 = .ok (.dsub, 1) := by decide +kernel
theorem dX6_shearColumns_36 : decode cX6_shearColumns 36 = .ok (.dload_n 1, 1) := by decide +kernel
theorem dX6_shearColumns_37 : decode cX6_shearColumns 37 = .ok (.dmul, 1) := by decide +kernel
theorem dX6_shearColumns_38 : decode cX6_shearColumns 38 = .ok (.invokestatic 92, 3) := by decide +kernel
theorem dX6_shearColumns_41 : decode cX6_shearColumns 41 = .ok (.imul, 1) := by decide +kernel
theorem dX6_shearColumns_42 : decode cX6_shearColumns 42 = .ok (.istore 7, 2) := by decide +kernel
theorem dX6_shearColumns_44 : decode cX6_shearColumns 44 = .ok (.iconst 0, 1) := by decide +kernel
theorem dX6_shearColumns_45 : decode cX6_shearColumns 45 = .ok (.istore 8, 2) := by decide +kernel
theorem dX6_shearColumns_47 : decode cX6_shearColumns 47 = .ok (.iload 8, 2) := by decide +kernel
theorem dX6_shearColumns_49 : decode cX6_shearColumns 49 = .ok (.aload_n 0, 1) := by decide +kernel
theorem dX6_shearColumns_50 : decode cX6_shearColumns 50 = .ok (.getfield 30, 3) := by decide +kernel
theorem dX6_shearColumns_53 : decode cX6_shearColumns 53 = .ok (.if_icmp .ge 45, 3) := by decide +kernel
theorem dX6_shearColumns_56 : decode cX6_shearColumns 56 = .ok (.aload_n 0, 1) := by decide +kernel
theorem dX6_shearColumns_57 : decode cX6_shearColumns 57 = .ok (.getfield 13, 3) := by decide +kernel
theorem dX6_shearColumns_60 : decode cX6_shearColumns 60 = .ok (.bipush 24, 2) := by decide +kernel
theorem dX6_shearColumns_62 : decode cX6_shearColumns 62 = .ok (.iload 8, 2) := by decide +kernel
theorem dX6_shearColumns_64 : decode cX6_shearColumns 64 = .ok (.iload 7, 2) := by decide +kernel
theorem dX6_shearColumns_66 : decode cX6_shearColumns 66 = .ok (.iadd, 1) := by decide +kernel
theorem dX6_shearColumns_67 : decode cX6_shearColumns 67 = .ok (.aload_n 0, 1) := by decide +kernel
theorem dX6_shearColumns_68 : decode cX6_shearColumns 68 = .ok (.getfield 30, 3) := by decide +kernel
theorem dX6_shearColumns_71 : decode cX6_shearColumns 71 = .ok (.invokestatic 124, 3) := by decide +kernel
theorem dX6_shearColumns_74 : decode cX6_shearColumns 74 = .ok (.imul, 1) := by decide +kernel
theorem dX6_shearColumns_75 : decode cX6_shearColumns 75 = .ok (.iload 6, 2) := by decide +kernel
theorem dX6_shearColumns_77 : decode cX6_shearColumns 77 = .ok (.iadd, 1) := by decide +kernel
theorem dX6_shearColumns_78 : decode cX6_shearColumns 78 = .ok (.aload_n 0, 1) := by decide +kernel
theorem dX6_shearColumns_79 : decode cX6_shearColumns 79 = .ok (.getfield 7, 3) := by decide +kernel
theorem dX6_shearColumns_82 : decode cX6_shearColumns 82 = .ok (.bipush 24, 2) := by decide +kernel
theorem dX6_shearColumns_84 : decode cX6_shearColumns 84 = .ok (.iload 8, 2) := by decide +kernel
theorem dX6_shearColumns_86 : decode cX6_shearColumns 86 = .ok (.imul, 1) := by decide +kernel
theorem dX6_shearColumns_87 : decode cX6_shearColumns 87 = .ok (.iload 6, 2) := by decide +kernel
theorem dX6_shearColumns_89 : decode cX6_shearColumns 89 = .ok (.iadd, 1) := by decide +kernel
theorem dX6_shearColumns_90 : decode cX6_shearColumns 90 = .ok (.baload, 1) := by decide +kernel
theorem dX6_shearColumns_91 : decode cX6_shearColumns 91 = .ok (.bastore, 1) := by decide +kernel
theorem dX6_shearColumns_92 : decode cX6_shearColumns 92 = .ok (.iinc 8 1, 3) := by decide +kernel
theorem dX6_shearColumns_95 : decode cX6_shearColumns 95 = .ok (.goto (-48), 3) := by decide +kernel
theorem dX6_shearColumns_98 : decode cX6_shearColumns 98 = .ok (.iinc 6 1, 3) := by decide +kernel
theorem dX6_shearColumns_101 : decode cX6_shearColumns 101 = .ok (.goto (-81), 3) := by decide +kernel
theorem dX6_shearColumns_104 : decode cX6_shearColumns 104 = .ok (.aload_n 0, 1) := by decide +kernel
theorem dX6_shearColumns_105 : decode cX6_shearColumns 105 = .ok (.invokevirtual 128, 3) := by decide +kernel
theorem dX6_shearColumns_108 : decode cX6_shearColumns 108 = .ok (.return_, 1) := by decide +kernel
set_option maxRecDepth 20000 in
theorem ggX6_shear_X6_slope : GoodIn wsX6_shear wsX6_slope := goodIn_r _ [5, 6, 7, 8, 9, 10, 4, 11, 12, 13] (by decide +kernel) (by decide +kernel)
set_option maxRecDepth 20000 in
theorem gX6_shear_X6_slope : GoodIn wsX6_shear (va_wsS RX6 85 yX6_slope wsX6_slope) := goodIn_app (goodIn_of _ (by decide +kernel)) ggX6_shear_X6_slope
set_option maxRecDepth 20000 in
theorem ggX6_shear_X6_shearRows : GoodIn wsX6_shear wsX6_shearRows := goodIn_r _ [17, 18, 1, 19, 20, 21, 22, 23, 24, 4, 25, 26, 27, 28, 29, 30, 31, 32, 33, 34, 35, 36, 47, 48, 49, 50, 51, 52, 53, 54, 55, 56, 57, 58, 59, 60] (by decide +kernel) (by decide +kernel)
set_option maxRecDepth 20000 in
theorem gX6_shear_X6_shearRows : GoodIn wsX6_shear (wsV RX6 131 RX6 yX6_shearRows wsX6_shearRows) := goodIn_app (goodIn_of _ (by decide +kernel)) ggX6_shear_X6_shearRows
set_option maxRecDepth 20000 in
theorem ggX6_shear_X6_sine : GoodIn wsX6_shear wsX6_sine := goodIn_r _ [39, 40, 41, 42, 9, 10, 4, 11, 12, 13] (by decide +kernel) (by decide +kernel)
set_option maxRecDepth 20000 in
theorem gX6_shear_X6_sine : GoodIn wsX6_shear (va_wsS RX6 135 yX6_sine wsX6_sine) := goodIn_app (goodIn_of _ (by decide +kernel)) ggX6_shear_X6_sine
set_option maxRecDepth 20000 in
theorem ggX6_shear_X6_shearColumns : GoodIn wsX6_shear wsX6_shearColumns := goodIn_r _ [46, 19, 1, 18, 20, 21, 22, 23, 24, 4, 25, 26, 27, 28, 29, 30, 31, 32, 33, 34, 35, 36, 47, 48, 49, 50, 51, 52, 53, 54, 55, 56, 57, 58, 59, 60] (by decide +kernel) (by decide +kernel)
set_option maxRecDepth 20000 in
theorem gX6_shear_X6_shearColumns : GoodIn wsX6_shear (wsV RX6 138 RX6 yX6_shearColumns wsX6_shearColumns) := goodIn_app (goodIn_of _ (by decide +kernel)) ggX6_shear_X6_shearColumns
theorem dX6_shear_0 : decode cX6_shear 0 = .ok (.iload_n 1, 1) := by decide +kernel
theorem dX6_shear_1 : decode cX6_shear 1 = .ok (.i2d, 1) := by decide +kernel
theorem dX6_shear_2 : decode cX6_shear 2 = .ok (.ldc2_w 119, 3) := by decide +kernel
theorem dX6_shear_5 : decode cX6_shear 5 = .ok (.ddiv, 1) := by decide +kernel
theorem dX6_shear_6 : decode cX6_shear 6 = .ok (.invokestatic 85, 3) := by decide +kernel
theorem dX6_shear_9 : decode cX6_shear 9 = .ok (.dstore_n 3, 1) := by decide +kernel
theorem dX6_shear_10 : decode cX6_shear 10 = .ok (.aload_n 0, 1) := by decide +kernel
theorem dX6_shear_11 : decode cX6_shear 11 = .ok (.dload_n 3, 1) := by decide +kernel
theorem dX6_shear_12 : decode cX6_shear 12 = .ok (.iload_n 2, 1) := by decide +kernel
theorem dX6_shear_13 : decode cX6_shear 13 = .ok (.invokevirtual 131, 3) := by decide +kernel
theorem dX6_shear_16 : decode cX6_shear 16 = .ok (.aload_n 0, 1) := by decide +kernel
theorem dX6_shear_17 : decode cX6_shear 17 = .ok (.iload_n 1, 1) := by decide +kernel
theorem dX6_shear_18 : decode cX6_shear 18 = .ok (.i2d, 1) := by decide +kernel
theorem dX6_shear_19 : decode cX6_shear 19 = .ok (.invokestatic 135, 3) := by decide +kernel
theorem dX6_shear_22 : decode cX6_shear 22 = .ok (.iload_n 2, 1) := by decide +kernel
theorem dX6_shear_23 : decode cX6_shear 23 = .ok (.invokevirtual 138, 3) := by decide +kernel
theorem dX6_shear_26 : decode cX6_shear 26 = .ok (.aload_n 0, 1) := by decide +kernel
theorem dX6_shear_27 : decode cX6_shear 27 = .ok (.dload_n 3, 1) := by decide +kernel
theorem dX6_shear_28 : decode cX6_shear 28 = .ok (.iload_n 2, 1) := by decide +kernel
theorem dX6_shear_29 : decode cX6_shear 29 = .ok (.invokevirtual 131, 3) := by decide +kernel
theorem dX6_shear_32 : decode cX6_shear 32 = .ok (.return_, 1) := by decide +kernel
set_option maxRecDepth 20000 in
theorem ggX6_sample_X6_sine : GoodIn wsX6_sample wsX6_sine := goodIn_r _ [8, 9, 10, 11, 12, 13, 7, 14, 15, 16] (by decide +kernel) (by decide +kernel)
set_option maxRecDepth 20000 in
theorem gX6_sample_X6_sine : GoodIn wsX6_sample (va_wsS RX6 135 yX6_sine wsX6_sine) := goodIn_app (goodIn_of _ (by decide +kernel)) ggX6_sample_X6_sine
set_option maxRecDepth 20000 in
theorem ggX6_sample_X6_cosine : GoodIn wsX6_sample wsX6_cosine := goodIn_r _ [19, 20, 21, 22, 12, 13, 7, 14, 15, 16] (by decide +kernel) (by decide +kernel)
set_option maxRecDepth 20000 in
theorem gX6_sample_X6_cosine : GoodIn wsX6_sample (va_wsS RX6 141 yX6_cosine wsX6_cosine) := goodIn_app (goodIn_of _ (by decide +kernel)) ggX6_sample_X6_cosine
set_option maxRecDepth 20000 in
theorem ggX6_sample_X6_forget : GoodIn wsX6_sample wsX6_forget := goodIn_r _ [26, 4, 40, 41, 42, 43, 44, 45, 46, 47, 48, 49, 50, 51, 52, 53] (by decide +kernel) (by decide +kernel)
set_option maxRecDepth 20000 in
theorem gX6_sample_X6_forget : GoodIn wsX6_sample (wsV RX6 121 RX6 yX6_forget wsX6_forget) := goodIn_app (goodIn_of _ (by decide +kernel)) ggX6_sample_X6_forget
set_option maxRecDepth 20000 in
theorem ggX6_sample_X6_wholeOf : GoodIn wsX6_sample wsX6_wholeOf := goodIn_r _ [29, 30] (by decide +kernel) (by decide +kernel)
set_option maxRecDepth 20000 in
theorem gX6_sample_X6_wholeOf : GoodIn wsX6_sample (va_wsS RX6 92 yX6_wholeOf wsX6_wholeOf) := goodIn_app (goodIn_of _ (by decide +kernel)) ggX6_sample_X6_wholeOf
set_option maxRecDepth 20000 in
theorem ggX6_sample_X6_isOn : GoodIn wsX6_sample wsX6_isOn := goodIn_r _ [34, 1, 3, 35, 40, 41, 42, 43, 44, 45, 46, 47, 48, 49, 50, 51, 52, 53] (by decide +kernel) (by decide +kernel)
set_option maxRecDepth 20000 in
theorem gX6_sample_X6_isOn : GoodIn wsX6_sample (wsV RX6 79 RX6 yX6_isOn wsX6_isOn) := goodIn_app (goodIn_of _ (by decide +kernel)) ggX6_sample_X6_isOn
set_option maxRecDepth 20000 in
theorem ggX6_sample_X6_change : GoodIn wsX6_sample wsX6_change := goodIn_r _ [39, 35, 4, 40, 41, 42, 43, 44, 45, 46, 47, 48, 49, 50, 51, 52, 53] (by decide +kernel) (by decide +kernel)
set_option maxRecDepth 20000 in
theorem gX6_sample_X6_change : GoodIn wsX6_sample (wsV RX6 128 RX6 yX6_change wsX6_change) := goodIn_app (goodIn_of _ (by decide +kernel)) ggX6_sample_X6_change
theorem dX6_sample_0 : decode cX6_sample 0 = .ok (.aload_n 0, 1) := by decide +kernel
theorem dX6_sample_1 : decode cX6_sample 1 = .ok (.getfield 26, 3) := by decide +kernel
theorem dX6_sample_4 : decode cX6_sample 4 = .ok (.iconst 1, 1) := by decide +kernel
theorem dX6_sample_5 : decode cX6_sample 5 = .ok (.isub, 1) := by decide +kernel
theorem dX6_sample_6 : decode cX6_sample 6 = .ok (.i2d, 1) := by decide +kernel
theorem dX6_sample_7 : decode cX6_sample 7 = .ok (.ldc2_w 119, 3) := by decide +kernel
theorem dX6_sample_10 : decode cX6_sample 10 = .ok (.ddiv, 1) := by decide +kernel
theorem dX6_sample_11 : decode cX6_sample 11 = .ok (.dstore_n 2, 1) := by decide +kernel
theorem dX6_sample_12 : decode cX6_sample 12 = .ok (.aload_n 0, 1) := by decide +kernel
theorem dX6_sample_13 : decode cX6_sample 13 = .ok (.getfield 30, 3) := by decide +kernel
theorem dX6_sample_16 : decode cX6_sample 16 = .ok (.iconst 1, 1) := by decide +kernel
theorem dX6_sample_17 : decode cX6_sample 17 = .ok (.isub, 1) := by decide +kernel
theorem dX6_sample_18 : decode cX6_sample 18 = .ok (.i2d, 1) := by decide +kernel
theorem dX6_sample_19 : decode cX6_sample 19 = .ok (.ldc2_w 119, 3) := by decide +kernel
theorem dX6_sample_22 : decode cX6_sample 22 = .ok (.ddiv, 1) := by decide +kernel
theorem dX6_sample_23 : decode cX6_sample 23 = .ok (.dstore 4, 2) := by decide +kernel
theorem dX6_sample_25 : decode cX6_sample 25 = .ok (.iload_n 1, 1) := by decide +kernel
theorem dX6_sample_26 : decode cX6_sample 26 = .ok (.i2d, 1) := by decide +kernel
theorem dX6_sample_27 : decode cX6_sample 27 = .ok (.invokestatic 135, 3) := by decide +kernel
theorem dX6_sample_30 : decode cX6_sample 30 = .ok (.dstore 6, 2) := by decide +kernel
theorem dX6_sample_32 : decode cX6_sample 32 = .ok (.iload_n 1, 1) := by decide +kernel
theorem dX6_sample_33 : decode cX6_sample 33 = .ok (.i2d, 1) := by decide +kernel
theorem dX6_sample_34 : decode cX6_sample 34 = .ok (.invokestatic 141, 3) := by decide +kernel
theorem dX6_sample_37 : decode cX6_sample 37 = .ok (.dstore 8, 2) := by decide +kernel
theorem dX6_sample_39 : decode cX6_sample 39 = .ok (.aload_n 0, 1) := by decide +kernel
theorem dX6_sample_40 : decode cX6_sample 40 = .ok (.invokevirtual 121, 3) := by decide +kernel
theorem dX6_sample_43 : decode cX6_sample 43 = .ok (.iconst 0, 1) := by decide +kernel
theorem dX6_sample_44 : decode cX6_sample 44 = .ok (.istore 10, 2) := by decide +kernel
theorem dX6_sample_46 : decode cX6_sample 46 = .ok (.iload 10, 2) := by decide +kernel
theorem dX6_sample_48 : decode cX6_sample 48 = .ok (.aload_n 0, 1) := by decide +kernel
theorem dX6_sample_49 : decode cX6_sample 49 = .ok (.getfield 30, 3) := by decide +kernel
theorem dX6_sample_52 : decode cX6_sample 52 = .ok (.if_icmp .ge 99, 3) := by decide +kernel
theorem dX6_sample_55 : decode cX6_sample 55 = .ok (.iconst 0, 1) := by decide +kernel
theorem dX6_sample_56 : decode cX6_sample 56 = .ok (.istore 11, 2) := by decide +kernel
theorem dX6_sample_58 : decode cX6_sample 58 = .ok (.iload 11, 2) := by decide +kernel
theorem dX6_sample_60 : decode cX6_sample 60 = .ok (.aload_n 0, 1) := by decide +kernel
theorem dX6_sample_61 : decode cX6_sample 61 = .ok (.getfield 26, 3) := by decide +kernel
theorem dX6_sample_64 : decode cX6_sample 64 = .ok (.if_icmp .ge 81, 3) := by decide +kernel
theorem dX6_sample_67 : decode cX6_sample 67 = .ok (.dload_n 2, 1) := by decide +kernel
theorem dX6_sample_68 : decode cX6_sample 68 = .ok (.iload 11, 2) := by decide +kernel
theorem dX6_sample_70 : decode cX6_sample 70 = .ok (.i2d, 1) := by decide +kernel
theorem dX6_sample_71 : decode cX6_sample 71 = .ok (.dload_n 2, 1) := by decide +kernel
theorem dX6_sample_72 : decode cX6_sample 72 = .ok (.dsub, 1) := by decide +kernel
theorem dX6_sample_73 : decode cX6_sample 73 = .ok (.dload 8, 2) := by decide +kernel
theorem dX6_sample_75 : decode cX6_sample 75 = .ok (.dmul, 1) := by decide +kernel
theorem dX6_sample_76 : decode cX6_sample 76 = .ok (.dadd, 1) := by decide +kernel
theorem dX6_sample_77 : decode cX6_sample 77 = .ok (.iload 10, 2) := by decide +kernel
theorem dX6_sample_79 : decode cX6_sample 79 = .ok (.i2d, 1) := by decide +kernel
theorem dX6_sample_80 : decode cX6_sample 80 = .ok (.dload 4, 2) := by decide +kernel
theorem dX6_sample_82 : decode cX6_sample 82 = .ok (.dsub, 1) := by decide +kernel
theorem dX6_sample_83 : decode cX6_sample 83 = .ok (.dload 6, 2) := by decide +kernel
theorem dX6_sample_85 : decode cX6_sample 85 = .ok (.dmul, 1) := by decide +kernel
theorem dX6_sample_86 : decode cX6_sample 86 = .ok (.dadd, 1) := by decide +kernel
theorem dX6_sample_87 : decode cX6_sample 87 = .ok (.invokestatic 92, 3) := by decide +kernel
theorem dX6_sample_90 : decode cX6_sample 90 = .ok (.istore 12, 2) := by decide +kernel
theorem dX6_sample_92 : decode cX6_sample 92 = .ok (.dload 4, 2) := by decide +kernel
theorem dX6_sample_94 : decode cX6_sample 94 = .ok (.iload 11, 2) := by decide +kernel
theorem dX6_sample_96 : decode cX6_sample 96 = .ok (.i2d, 1) := by decide +kernel
theorem dX6_sample_97 : decode cX6_sample 97 = .ok (.dload_n 2, 1) := by decide +kernel
theorem dX6_sample_98 : decode cX6_sample 98 = .ok (.dsub, 1) := by decide +kernel
theorem dX6_sample_99 : decode cX6_sample 99 = .ok (.dload 6, 2) := by decide +kernel
theorem dX6_sample_101 : decode cX6_sample 101 = .ok (.dmul, 1) := by decide +kernel
theorem dX6_sample_102 : decode cX6_sample 102 = .ok (.dsub, 1) := by decide +kernel
theorem dX6_sample_103 : decode cX6_sample 103 = .ok (.iload 10, 2) := by decide +kernel
theorem dX6_sample_105 : decode cX6_sample 105 = .ok (.i2d, 1) := by decide +kernel
theorem dX6_sample_106 : decode cX6_sample 106 = .ok (.dload 4, 2) := by decide +kernel
theorem dX6_sample_108 : decode cX6_sample 108 = .ok (.dsub, 1) := by decide +kernel
theorem dX6_sample_109 : decode cX6_sample 109 = .ok (.dload 8, 2) := by decide +kernel
theorem dX6_sample_111 : decode cX6_sample 111 = .ok (.dmul, 1) := by decide +kernel
theorem dX6_sample_112 : decode cX6_sample 112 = .ok (.dadd, 1) := by decide +kernel
theorem dX6_sample_113 : decode cX6_sample 113 = .ok (.invokestatic 92, 3) := by decide +kernel
theorem dX6_sample_116 : decode cX6_sample 116 = .ok (.istore 13, 2) := by decide +kernel
theorem dX6_sample_118 : decode cX6_sample 118 = .ok (.aload_n 0, 1) := by decide +kernel
theorem dX6_sample_119 : decode cX6_sample 119 = .ok (.getfield 13, 3) := by decide +kernel
theorem dX6_sample_122 : decode cX6_sample 122 = .ok (.bipush 24, 2) := by decide +kernel
theorem dX6_sample_124 : decode cX6_sample 124 = .ok (.iload 10, 2) := by decide +kernel
theorem dX6_sample_126 : decode cX6_sample 126 = .ok (.imul, 1) := by decide +kernel
theorem dX6_sample_127 : decode cX6_sample 127 = .ok (.iload 11, 2) := by decide +kernel
theorem dX6_sample_129 : decode cX6_sample 129 = .ok (.iadd, 1) := by decide +kernel
theorem dX6_sample_130 : decode cX6_sample 130 = .ok (.aload_n 0, 1) := by decide +kernel
theorem dX6_sample_131 : decode cX6_sample 131 = .ok (.iload 12, 2) := by decide +kernel
theorem dX6_sample_133 : decode cX6_sample 133 = .ok (.iload 13, 2) := by decide +kernel
theorem dX6_sample_135 : decode cX6_sample 135 = .ok (.invokevirtual 79, 3) := by decide +kernel
theorem dX6_sample_138 : decode cX6_sample 138 = .ok (.bastore, 1) := by decide +kernel
theorem dX6_sample_139 : decode cX6_sample 139 = .ok (.iinc 11 1, 3) := by decide +kernel
theorem dX6_sample_142 : decode cX6_sample 142 = .ok (.goto (-84), 3) := by decide +kernel
theorem dX6_sample_145 : decode cX6_sample 145 = .ok (.iinc 10 1, 3) := by decide +kernel
theorem dX6_sample_148 : decode cX6_sample 148 = .ok (.goto (-102), 3) := by decide +kernel
theorem dX6_sample_151 : decode cX6_sample 151 = .ok (.aload_n 0, 1) := by decide +kernel
theorem dX6_sample_152 : decode cX6_sample 152 = .ok (.invokevirtual 128, 3) := by decide +kernel
theorem dX6_sample_155 : decode cX6_sample 155 = .ok (.return_, 1) := by decide +kernel
set_option maxRecDepth 20000 in
theorem ggX6_turn_X6_refuses : GoodIn wsX6_turn wsX6_refuses := goodIn_r _ [7, 8, 82, 83, 84, 85, 86, 87, 88, 89, 90, 91, 92, 93, 94, 95] (by decide +kernel) (by decide +kernel)
set_option maxRecDepth 20000 in
theorem gX6_turn_X6_refuses : GoodIn wsX6_turn (wsV RX6 75 RX6 yX6_refuses wsX6_refuses) := goodIn_app (goodIn_of _ (by decide +kernel)) ggX6_turn_X6_refuses
set_option maxRecDepth 20000 in
theorem ggX6_turn_X6_shear : GoodIn wsX6_turn wsX6_shear := goodIn_r _ [12, 13, 14, 15, 6, 16, 17, 18, 19, 20, 21, 22, 23, 24, 25, 26, 27, 28, 29, 30, 31, 32, 33, 34, 35, 36, 37, 38, 39, 40, 41, 42, 43, 44, 45, 46, 47, 48, 49, 50, 51, 52, 53, 54, 55, 56, 57, 82, 83, 84, 85, 86, 87, 88, 89, 90, 91, 92, 93, 94, 95] (by decide +kernel) (by decide +kernel)
set_option maxRecDepth 20000 in
theorem gX6_turn_X6_shear : GoodIn wsX6_turn (wsV RX6 147 RX6 yX6_shear wsX6_shear) := goodIn_app (goodIn_of _ (by decide +kernel)) ggX6_turn_X6_shear
set_option maxRecDepth 20000 in
theorem ggX6_turn_X6_sample : GoodIn wsX6_turn wsX6_sample := goodIn_r _ [61, 30, 13, 29, 31, 48, 49, 6, 50, 51, 52, 53, 20, 21, 22, 23, 24, 62, 63, 64, 65, 66, 67, 33, 34, 35, 36, 37, 38, 39, 40, 68, 69, 70, 71, 32, 44, 45, 46, 47, 82, 83, 84, 85, 86, 87, 88, 89, 90, 91, 92, 93, 94, 95] (by decide +kernel) (by decide +kernel)
set_option maxRecDepth 20000 in
theorem gX6_turn_X6_sample : GoodIn wsX6_turn (wsV RX6 151 RX6 yX6_sample wsX6_sample) := goodIn_app (goodIn_of _ (by decide +kernel)) ggX6_turn_X6_sample
set_option maxRecDepth 20000 in
theorem ggX6_turn_X6_whole : GoodIn wsX6_turn wsX6_whole := goodIn_r _ [75, 76, 30, 29, 77, 82, 83, 84, 85, 86, 87, 88, 89, 90, 91, 92, 93, 94, 95] (by decide +kernel) (by decide +kernel)
set_option maxRecDepth 20000 in
theorem gX6_turn_X6_whole : GoodIn wsX6_turn (wsV RX6 33 RX6 yX6_whole wsX6_whole) := goodIn_app (goodIn_of _ (by decide +kernel)) ggX6_turn_X6_whole
set_option maxRecDepth 20000 in
theorem ggX6_turn_X6_countOn : GoodIn wsX6_turn wsX6_countOn := goodIn_r _ [81, 32, 82, 83, 84, 85, 86, 87, 88, 89, 90, 91, 92, 93, 94, 95] (by decide +kernel) (by decide +kernel)
set_option maxRecDepth 20000 in
theorem gX6_turn_X6_countOn : GoodIn wsX6_turn (wsV RX6 107 RX6 yX6_countOn wsX6_countOn) := goodIn_app (goodIn_of _ (by decide +kernel)) ggX6_turn_X6_countOn
theorem dX6_turn_0 : decode cX6_turn 0 = .ok (.aload_n 0, 1) := by decide +kernel
theorem dX6_turn_1 : decode cX6_turn 1 = .ok (.iload_n 1, 1) := by decide +kernel
theorem dX6_turn_2 : decode cX6_turn 2 = .ok (.sipush (-2000), 3) := by decide +kernel
theorem dX6_turn_5 : decode cX6_turn 5 = .ok (.if_icmp .lt 10, 3) := by decide +kernel
theorem dX6_turn_8 : decode cX6_turn 8 = .ok (.iload_n 1, 1) := by decide +kernel
theorem dX6_turn_9 : decode cX6_turn 9 = .ok (.sipush 2000, 3) := by decide +kernel
theorem dX6_turn_12 : decode cX6_turn 12 = .ok (.if_icmp .le 7, 3) := by decide +kernel
theorem dX6_turn_15 : decode cX6_turn 15 = .ok (.iconst 1, 1) := by decide +kernel
theorem dX6_turn_16 : decode cX6_turn 16 = .ok (.goto 21, 3) := by decide +kernel
theorem dX6_turn_19 : decode cX6_turn 19 = .ok (.iload_n 2, 1) := by decide +kernel
theorem dX6_turn_20 : decode cX6_turn 20 = .ok (.ifCond .eq 16, 3) := by decide +kernel
theorem dX6_turn_23 : decode cX6_turn 23 = .ok (.aload_n 0, 1) := by decide +kernel
theorem dX6_turn_24 : decode cX6_turn 24 = .ok (.getfield 144, 3) := by decide +kernel
theorem dX6_turn_27 : decode cX6_turn 27 = .ok (.bipush 16, 2) := by decide +kernel
theorem dX6_turn_29 : decode cX6_turn 29 = .ok (.if_icmp .ne 7, 3) := by decide +kernel
theorem dX6_turn_32 : decode cX6_turn 32 = .ok (.iconst 2, 1) := by decide +kernel
theorem dX6_turn_33 : decode cX6_turn 33 = .ok (.goto 4, 3) := by decide +kernel
theorem dX6_turn_36 : decode cX6_turn 36 = .ok (.iconst 0, 1) := by decide +kernel
theorem dX6_turn_37 : decode cX6_turn 37 = .ok (.invokevirtual 75, 3) := by decide +kernel
theorem dX6_turn_40 : decode cX6_turn 40 = .ok (.ifCond .eq 5, 3) := by decide +kernel
theorem dX6_turn_43 : decode cX6_turn 43 = .ok (.iconst 0, 1) := by decide +kernel
theorem dX6_turn_44 : decode cX6_turn 44 = .ok (.ireturn, 1) := by decide +kernel
theorem dX6_turn_45 : decode cX6_turn 45 = .ok (.iload_n 2, 1) := by decide +kernel
theorem dX6_turn_46 : decode cX6_turn 46 = .ok (.ifCond .eq 32, 3) := by decide +kernel
theorem dX6_turn_49 : decode cX6_turn 49 = .ok (.aload_n 0, 1) := by decide +kernel
theorem dX6_turn_50 : decode cX6_turn 50 = .ok (.iload_n 1, 1) := by decide +kernel
theorem dX6_turn_51 : decode cX6_turn 51 = .ok (.iconst 1, 1) := by decide +kernel
theorem dX6_turn_52 : decode cX6_turn 52 = .ok (.invokevirtual 147, 3) := by decide +kernel
theorem dX6_turn_55 : decode cX6_turn 55 = .ok (.aload_n 0, 1) := by decide +kernel
theorem dX6_turn_56 : decode cX6_turn 56 = .ok (.getfield 20, 3) := by decide +kernel
theorem dX6_turn_59 : decode cX6_turn 59 = .ok (.aload_n 0, 1) := by decide +kernel
theorem dX6_turn_60 : decode cX6_turn 60 = .ok (.getfield 144, 3) := by decide +kernel
theorem dX6_turn_63 : decode cX6_turn 63 = .ok (.iload_n 1, 1) := by decide +kernel
theorem dX6_turn_64 : decode cX6_turn 64 = .ok (.iastore, 1) := by decide +kernel
theorem dX6_turn_65 : decode cX6_turn 65 = .ok (.aload_n 0, 1) := by decide +kernel
theorem dX6_turn_66 : decode cX6_turn 66 = .ok (.dup, 1) := by decide +kernel
theorem dX6_turn_67 : decode cX6_turn 67 = .ok (.getfield 144, 3) := by decide +kernel
theorem dX6_turn_70 : decode cX6_turn 70 = .ok (.iconst 1, 1) := by decide +kernel
theorem dX6_turn_71 : decode cX6_turn 71 = .ok (.iadd, 1) := by decide +kernel
theorem dX6_turn_72 : decode cX6_turn 72 = .ok (.putfield 144, 3) := by decide +kernel
theorem dX6_turn_75 : decode cX6_turn 75 = .ok (.goto 13, 3) := by decide +kernel
theorem dX6_turn_78 : decode cX6_turn 78 = .ok (.aload_n 0, 1) := by decide +kernel
theorem dX6_turn_79 : decode cX6_turn 79 = .ok (.iload_n 1, 1) := by decide +kernel
theorem dX6_turn_80 : decode cX6_turn 80 = .ok (.invokevirtual 151, 3) := by decide +kernel
theorem dX6_turn_83 : decode cX6_turn 83 = .ok (.aload_n 0, 1) := by decide +kernel
theorem dX6_turn_84 : decode cX6_turn 84 = .ok (.iconst 0, 1) := by decide +kernel
theorem dX6_turn_85 : decode cX6_turn 85 = .ok (.putfield 144, 3) := by decide +kernel
theorem dX6_turn_88 : decode cX6_turn 88 = .ok (.aload_n 0, 1) := by decide +kernel
theorem dX6_turn_89 : decode cX6_turn 89 = .ok (.invokevirtual 33, 3) := by decide +kernel
theorem dX6_turn_92 : decode cX6_turn 92 = .ok (.aload_n 0, 1) := by decide +kernel
theorem dX6_turn_93 : decode cX6_turn 93 = .ok (.invokevirtual 107, 3) := by decide +kernel
theorem dX6_turn_96 : decode cX6_turn 96 = .ok (.ireturn, 1) := by decide +kernel
set_option maxRecDepth 20000 in
theorem ggX6_back_X6_shear : GoodIn wsX6_back wsX6_shear := goodIn_r _ [8, 9, 10, 11, 7, 12, 13, 14, 15, 16, 17, 18, 19, 20, 21, 22, 23, 24, 25, 26, 27, 28, 29, 30, 31, 32, 33, 34, 35, 36, 37, 38, 39, 40, 41, 42, 43, 44, 45, 46, 47, 48, 49, 50, 51, 52, 53, 60, 61, 62, 63, 64, 65, 66, 67, 68, 69, 70, 71, 72, 73] (by decide +kernel) (by decide +kernel)
set_option maxRecDepth 20000 in
theorem gX6_back_X6_shear : GoodIn wsX6_back (wsV RX6 147 RX6 yX6_shear wsX6_shear) := goodIn_app (goodIn_of _ (by decide +kernel)) ggX6_back_X6_shear
set_option maxRecDepth 20000 in
theorem ggX6_back_X6_whole : GoodIn wsX6_back wsX6_whole := goodIn_r _ [57, 58, 26, 25, 59, 60, 61, 62, 63, 64, 65, 66, 67, 68, 69, 70, 71, 72, 73] (by decide +kernel) (by decide +kernel)
set_option maxRecDepth 20000 in
theorem gX6_back_X6_whole : GoodIn wsX6_back (wsV RX6 33 RX6 yX6_whole wsX6_whole) := goodIn_app (goodIn_of _ (by decide +kernel)) ggX6_back_X6_whole
theorem dX6_back_0 : decode cX6_back 0 = .ok (.aload_n 0, 1) := by decide +kernel
theorem dX6_back_1 : decode cX6_back 1 = .ok (.iconst 0, 1) := by decide +kernel
theorem dX6_back_2 : decode cX6_back 2 = .ok (.putfield 36, 3) := by decide +kernel
theorem dX6_back_5 : decode cX6_back 5 = .ok (.aload_n 0, 1) := by decide +kernel
theorem dX6_back_6 : decode cX6_back 6 = .ok (.getfield 144, 3) := by decide +kernel
theorem dX6_back_9 : decode cX6_back 9 = .ok (.ifCond .ne 5, 3) := by decide +kernel
theorem dX6_back_12 : decode cX6_back 12 = .ok (.iconst (-1), 1) := by decide +kernel
theorem dX6_back_13 : decode cX6_back 13 = .ok (.ireturn, 1) := by decide +kernel
theorem dX6_back_14 : decode cX6_back 14 = .ok (.aload_n 0, 1) := by decide +kernel
theorem dX6_back_15 : decode cX6_back 15 = .ok (.dup, 1) := by decide +kernel
theorem dX6_back_16 : decode cX6_back 16 = .ok (.getfield 144, 3) := by decide +kernel
theorem dX6_back_19 : decode cX6_back 19 = .ok (.iconst 1, 1) := by decide +kernel
theorem dX6_back_20 : decode cX6_back 20 = .ok (.isub, 1) := by decide +kernel
theorem dX6_back_21 : decode cX6_back 21 = .ok (.putfield 144, 3) := by decide +kernel
theorem dX6_back_24 : decode cX6_back 24 = .ok (.aload_n 0, 1) := by decide +kernel
theorem dX6_back_25 : decode cX6_back 25 = .ok (.aload_n 0, 1) := by decide +kernel
theorem dX6_back_26 : decode cX6_back 26 = .ok (.getfield 20, 3) := by decide +kernel
theorem dX6_back_29 : decode cX6_back 29 = .ok (.aload_n 0, 1) := by decide +kernel
theorem dX6_back_30 : decode cX6_back 30 = .ok (.getfield 144, 3) := by decide +kernel
theorem dX6_back_33 : decode cX6_back 33 = .ok (.iaload, 1) := by decide +kernel
theorem dX6_back_34 : decode cX6_back 34 = .ok (.iconst (-1), 1) := by decide +kernel
theorem dX6_back_35 : decode cX6_back 35 = .ok (.invokevirtual 147, 3) := by decide +kernel
theorem dX6_back_38 : decode cX6_back 38 = .ok (.aload_n 0, 1) := by decide +kernel
theorem dX6_back_39 : decode cX6_back 39 = .ok (.invokevirtual 33, 3) := by decide +kernel
theorem dX6_back_42 : decode cX6_back 42 = .ok (.aload_n 0, 1) := by decide +kernel
theorem dX6_back_43 : decode cX6_back 43 = .ok (.getfield 144, 3) := by decide +kernel
theorem dX6_back_46 : decode cX6_back 46 = .ok (.ireturn, 1) := by decide +kernel
set_option maxRecDepth 20000 in
theorem ggX6_isBare_X6_isOn : GoodIn wsX6_isBare wsX6_isOn := goodIn_r _ [5, 6, 7, 8, 9, 10, 11, 12, 13, 14, 15, 16, 17, 18, 19, 20, 21, 22] (by decide +kernel) (by decide +kernel)
set_option maxRecDepth 20000 in
theorem gX6_isBare_X6_isOn : GoodIn wsX6_isBare (wsV RX6 79 RX6 yX6_isOn wsX6_isOn) := goodIn_app (goodIn_of _ (by decide +kernel)) ggX6_isBare_X6_isOn
theorem dX6_isBare_0 : decode cX6_isBare 0 = .ok (.iconst 1, 1) := by decide +kernel
theorem dX6_isBare_1 : decode cX6_isBare 1 = .ok (.istore_n 3, 1) := by decide +kernel
theorem dX6_isBare_2 : decode cX6_isBare 2 = .ok (.iconst 0, 1) := by decide +kernel
theorem dX6_isBare_3 : decode cX6_isBare 3 = .ok (.istore 4, 2) := by decide +kernel
theorem dX6_isBare_5 : decode cX6_isBare 5 = .ok (.iload 4, 2) := by decide +kernel
theorem dX6_isBare_7 : decode cX6_isBare 7 = .ok (.bipush 24, 2) := by decide +kernel
theorem dX6_isBare_9 : decode cX6_isBare 9 = .ok (.if_icmp .ge 48, 3) := by decide +kernel
theorem dX6_isBare_12 : decode cX6_isBare 12 = .ok (.iload_n 3, 1) := by decide +kernel
theorem dX6_isBare_13 : decode cX6_isBare 13 = .ok (.ifCond .eq 36, 3) := by decide +kernel
theorem dX6_isBare_16 : decode cX6_isBare 16 = .ok (.iload_n 1, 1) := by decide +kernel
theorem dX6_isBare_17 : decode cX6_isBare 17 = .ok (.iconst 2, 1) := by decide +kernel
theorem dX6_isBare_18 : decode cX6_isBare 18 = .ok (.irem, 1) := by decide +kernel
theorem dX6_isBare_19 : decode cX6_isBare 19 = .ok (.ifCond .ne 16, 3) := by decide +kernel
theorem dX6_isBare_22 : decode cX6_isBare 22 = .ok (.aload_n 0, 1) := by decide +kernel
theorem dX6_isBare_23 : decode cX6_isBare 23 = .ok (.iload_n 2, 1) := by decide +kernel
theorem dX6_isBare_24 : decode cX6_isBare 24 = .ok (.iload 4, 2) := by decide +kernel
theorem dX6_isBare_26 : decode cX6_isBare 26 = .ok (.invokevirtual 79, 3) := by decide +kernel
theorem dX6_isBare_29 : decode cX6_isBare 29 = .ok (.ifCond .eq 16, 3) := by decide +kernel
theorem dX6_isBare_32 : decode cX6_isBare 32 = .ok (.goto 17, 3) := by decide +kernel
theorem dX6_isBare_35 : decode cX6_isBare 35 = .ok (.aload_n 0, 1) := by decide +kernel
theorem dX6_isBare_36 : decode cX6_isBare 36 = .ok (.iload 4, 2) := by decide +kernel
theorem dX6_isBare_38 : decode cX6_isBare 38 = .ok (.iload_n 2, 1) := by decide +kernel
theorem dX6_isBare_39 : decode cX6_isBare 39 = .ok (.invokevirtual 79, 3) := by decide +kernel
theorem dX6_isBare_42 : decode cX6_isBare 42 = .ok (.ifCond .ne 7, 3) := by decide +kernel
theorem dX6_isBare_45 : decode cX6_isBare 45 = .ok (.iconst 1, 1) := by decide +kernel
theorem dX6_isBare_46 : decode cX6_isBare 46 = .ok (.goto 4, 3) := by decide +kernel
theorem dX6_isBare_49 : decode cX6_isBare 49 = .ok (.iconst 0, 1) := by decide +kernel
theorem dX6_isBare_50 : decode cX6_isBare 50 = .ok (.istore_n 3, 1) := by decide +kernel
theorem dX6_isBare_51 : decode cX6_isBare 51 = .ok (.iinc 4 1, 3) := by decide +kernel
theorem dX6_isBare_54 : decode cX6_isBare 54 = .ok (.goto (-49), 3) := by decide +kernel
theorem dX6_isBare_57 : decode cX6_isBare 57 = .ok (.iload_n 3, 1) := by decide +kernel
theorem dX6_isBare_58 : decode cX6_isBare 58 = .ok (.ireturn, 1) := by decide +kernel
set_option maxRecDepth 20000 in
theorem ggX6_crop_X6_refuses : GoodIn wsX6_crop wsX6_refuses := goodIn_r _ [6, 7, 23, 24, 25, 26, 27, 28, 29, 30, 31, 32, 33, 34, 35, 36] (by decide +kernel) (by decide +kernel)
set_option maxRecDepth 20000 in
theorem gX6_crop_X6_refuses : GoodIn wsX6_crop (wsV RX6 75 RX6 yX6_refuses wsX6_refuses) := goodIn_app (goodIn_of _ (by decide +kernel)) ggX6_crop_X6_refuses
set_option maxRecDepth 20000 in
theorem ggX6_crop_X6_countOn : GoodIn wsX6_crop wsX6_countOn := goodIn_r _ [11, 12, 23, 24, 25, 26, 27, 28, 29, 30, 31, 32, 33, 34, 35, 36] (by decide +kernel) (by decide +kernel)
set_option maxRecDepth 20000 in
theorem gX6_crop_X6_countOn : GoodIn wsX6_crop (wsV RX6 107 RX6 yX6_countOn wsX6_countOn) := goodIn_app (goodIn_of _ (by decide +kernel)) ggX6_crop_X6_countOn
set_option maxRecDepth 20000 in
theorem ggX6_crop_X6_isBare : GoodIn wsX6_crop wsX6_isBare := goodIn_r _ [16, 17, 18, 19, 5, 20, 21, 22, 12, 23, 24, 25, 26, 27, 28, 29, 30, 31, 32, 33, 34, 35, 36] (by decide +kernel) (by decide +kernel)
set_option maxRecDepth 20000 in
theorem gX6_crop_X6_isBare : GoodIn wsX6_crop (wsV RX6 155 RX6 yX6_isBare wsX6_isBare) := goodIn_app (goodIn_of _ (by decide +kernel)) ggX6_crop_X6_isBare
theorem dX6_crop_0 : decode cX6_crop 0 = .ok (.aload_n 0, 1) := by decide +kernel
theorem dX6_crop_1 : decode cX6_crop 1 = .ok (.iload_n 1, 1) := by decide +kernel
theorem dX6_crop_2 : decode cX6_crop 2 = .ok (.ifCond .lt 8, 3) := by decide +kernel
theorem dX6_crop_5 : decode cX6_crop 5 = .ok (.iload_n 1, 1) := by decide +kernel
theorem dX6_crop_6 : decode cX6_crop 6 = .ok (.iconst 3, 1) := by decide +kernel
theorem dX6_crop_7 : decode cX6_crop 7 = .ok (.if_icmp .le 7, 3) := by decide +kernel
theorem dX6_crop_10 : decode cX6_crop 10 = .ok (.iconst 1, 1) := by decide +kernel
theorem dX6_crop_11 : decode cX6_crop 11 = .ok (.goto 4, 3) := by decide +kernel
theorem dX6_crop_14 : decode cX6_crop 14 = .ok (.iconst 0, 1) := by decide +kernel
theorem dX6_crop_15 : decode cX6_crop 15 = .ok (.invokevirtual 75, 3) := by decide +kernel
theorem dX6_crop_18 : decode cX6_crop 18 = .ok (.ifCond .eq 5, 3) := by decide +kernel
theorem dX6_crop_21 : decode cX6_crop 21 = .ok (.iconst 0, 1) := by decide +kernel
theorem dX6_crop_22 : decode cX6_crop 22 = .ok (.ireturn, 1) := by decide +kernel
theorem dX6_crop_23 : decode cX6_crop 23 = .ok (.iconst 0, 1) := by decide +kernel
theorem dX6_crop_24 : decode cX6_crop 24 = .ok (.istore_n 2, 1) := by decide +kernel
theorem dX6_crop_25 : decode cX6_crop 25 = .ok (.aload_n 0, 1) := by decide +kernel
theorem dX6_crop_26 : decode cX6_crop 26 = .ok (.invokevirtual 107, 3) := by decide +kernel
theorem dX6_crop_29 : decode cX6_crop 29 = .ok (.ifCond .le 7, 3) := by decide +kernel
theorem dX6_crop_32 : decode cX6_crop 32 = .ok (.iconst 1, 1) := by decide +kernel
theorem dX6_crop_33 : decode cX6_crop 33 = .ok (.goto 4, 3) := by decide +kernel
theorem dX6_crop_36 : decode cX6_crop 36 = .ok (.iconst 0, 1) := by decide +kernel
theorem dX6_crop_37 : decode cX6_crop 37 = .ok (.istore_n 3, 1) := by decide +kernel
theorem dX6_crop_38 : decode cX6_crop 38 = .ok (.iload_n 3, 1) := by decide +kernel
theorem dX6_crop_39 : decode cX6_crop 39 = .ok (.ifCond .eq 58, 3) := by decide +kernel
theorem dX6_crop_42 : decode cX6_crop 42 = .ok (.aload_n 0, 1) := by decide +kernel
theorem dX6_crop_43 : decode cX6_crop 43 = .ok (.iload_n 1, 1) := by decide +kernel
theorem dX6_crop_44 : decode cX6_crop 44 = .ok (.iload_n 1, 1) := by decide +kernel
theorem dX6_crop_45 : decode cX6_crop 45 = .ok (.iconst 2, 1) := by decide +kernel
theorem dX6_crop_46 : decode cX6_crop 46 = .ok (.if_icmp .ge 12, 3) := by decide +kernel
theorem dX6_crop_49 : decode cX6_crop 49 = .ok (.aload_n 0, 1) := by decide +kernel
theorem dX6_crop_50 : decode cX6_crop 50 = .ok (.getfield 16, 3) := by decide +kernel
theorem dX6_crop_53 : decode cX6_crop 53 = .ok (.iload_n 1, 1) := by decide +kernel
theorem dX6_crop_54 : decode cX6_crop 54 = .ok (.iaload, 1) := by decide +kernel
theorem dX6_crop_55 : decode cX6_crop 55 = .ok (.goto 11, 3) := by decide +kernel
theorem dX6_crop_58 : decode cX6_crop 58 = .ok (.aload_n 0, 1) := by decide +kernel
theorem dX6_crop_59 : decode cX6_crop 59 = .ok (.getfield 16, 3) := by decide +kernel
theorem dX6_crop_62 : decode cX6_crop 62 = .ok (.iload_n 1, 1) := by decide +kernel
theorem dX6_crop_63 : decode cX6_crop 63 = .ok (.iaload, 1) := by decide +kernel
theorem dX6_crop_64 : decode cX6_crop 64 = .ok (.iconst 1, 1) := by decide +kernel
theorem dX6_crop_65 : decode cX6_crop 65 = .ok (.isub, 1) := by decide +kernel
theorem dX6_crop_66 : decode cX6_crop 66 = .ok (.invokevirtual 155, 3) := by decide +kernel
theorem dX6_crop_69 : decode cX6_crop 69 = .ok (.ifCond .eq 28, 3) := by decide +kernel
theorem dX6_crop_72 : decode cX6_crop 72 = .ok (.aload_n 0, 1) := by decide +kernel
theorem dX6_crop_73 : decode cX6_crop 73 = .ok (.getfield 16, 3) := by decide +kernel
theorem dX6_crop_76 : decode cX6_crop 76 = .ok (.iload_n 1, 1) := by decide +kernel
theorem dX6_crop_77 : decode cX6_crop 77 = .ok (.dup2, 1) := by decide +kernel
theorem dX6_crop_78 : decode cX6_crop 78 = .ok (.iaload, 1) := by decide +kernel
theorem dX6_crop_79 : decode cX6_crop 79 = .ok (.iload_n 1, 1) := by decide +kernel
theorem dX6_crop_80 : decode cX6_crop 80 = .ok (.iconst 2, 1) := by decide +kernel
theorem dX6_crop_81 : decode cX6_crop 81 = .ok (.if_icmp .ge 7, 3) := by decide +kernel
theorem dX6_crop_84 : decode cX6_crop 84 = .ok (.iconst 1, 1) := by decide +kernel
theorem dX6_crop_85 : decode cX6_crop 85 = .ok (.goto 4, 3) := by decide +kernel
theorem dX6_crop_88 : decode cX6_crop 88 = .ok (.iconst (-1), 1) := by decide +kernel
theorem dX6_crop_89 : decode cX6_crop 89 = .ok (.iadd, 1) := by decide +kernel
theorem dX6_crop_90 : decode cX6_crop 90 = .ok (.iastore, 1) := by decide +kernel
theorem dX6_crop_91 : decode cX6_crop 91 = .ok (.iinc 2 1, 3) := by decide +kernel
theorem dX6_crop_94 : decode cX6_crop 94 = .ok (.goto (-56), 3) := by decide +kernel
theorem dX6_crop_97 : decode cX6_crop 97 = .ok (.iload_n 2, 1) := by decide +kernel
theorem dX6_crop_98 : decode cX6_crop 98 = .ok (.ireturn, 1) := by decide +kernel
set_option maxRecDepth 20000 in
theorem ggX6_size_X6_refuses : GoodIn wsX6_size wsX6_refuses := goodIn_r _ [6, 7, 8, 9, 10, 11, 12, 13, 14, 15, 16, 17, 18, 19, 20, 21] (by decide +kernel) (by decide +kernel)
set_option maxRecDepth 20000 in
theorem gX6_size_X6_refuses : GoodIn wsX6_size (wsV RX6 75 RX6 yX6_refuses wsX6_refuses) := goodIn_app (goodIn_of _ (by decide +kernel)) ggX6_size_X6_refuses
theorem dX6_size_0 : decode cX6_size 0 = .ok (.aload_n 0, 1) := by decide +kernel
theorem dX6_size_1 : decode cX6_size 1 = .ok (.iload_n 1, 1) := by decide +kernel
theorem dX6_size_2 : decode cX6_size 2 = .ok (.ifCond .lt 8, 3) := by decide +kernel
theorem dX6_size_5 : decode cX6_size 5 = .ok (.iload_n 1, 1) := by decide +kernel
theorem dX6_size_6 : decode cX6_size 6 = .ok (.iconst 3, 1) := by decide +kernel
theorem dX6_size_7 : decode cX6_size 7 = .ok (.if_icmp .le 7, 3) := by decide +kernel
theorem dX6_size_10 : decode cX6_size 10 = .ok (.iconst 1, 1) := by decide +kernel
theorem dX6_size_11 : decode cX6_size 11 = .ok (.goto 4, 3) := by decide +kernel
theorem dX6_size_14 : decode cX6_size 14 = .ok (.iconst 0, 1) := by decide +kernel
theorem dX6_size_15 : decode cX6_size 15 = .ok (.invokevirtual 75, 3) := by decide +kernel
theorem dX6_size_18 : decode cX6_size 18 = .ok (.ifCond .eq 7, 3) := by decide +kernel
theorem dX6_size_21 : decode cX6_size 21 = .ok (.iconst 0, 1) := by decide +kernel
theorem dX6_size_22 : decode cX6_size 22 = .ok (.goto 9, 3) := by decide +kernel
theorem dX6_size_25 : decode cX6_size 25 = .ok (.aload_n 0, 1) := by decide +kernel
theorem dX6_size_26 : decode cX6_size 26 = .ok (.getfield 16, 3) := by decide +kernel
theorem dX6_size_29 : decode cX6_size 29 = .ok (.iload_n 1, 1) := by decide +kernel
theorem dX6_size_30 : decode cX6_size 30 = .ok (.iaload, 1) := by decide +kernel
theorem dX6_size_31 : decode cX6_size 31 = .ok (.ireturn, 1) := by decide +kernel
set_option maxRecDepth 20000 in
theorem ggX6_goTo_X6_isBare : GoodIn wsX6_goTo wsX6_isBare := goodIn_r _ [8, 9, 10, 11, 7, 12, 13, 1, 14, 15, 16, 17, 18, 19, 20, 21, 22, 23, 24, 25, 26, 27, 28] (by decide +kernel) (by decide +kernel)
set_option maxRecDepth 20000 in
theorem gX6_goTo_X6_isBare : GoodIn wsX6_goTo (wsV RX6 155 RX6 yX6_isBare wsX6_isBare) := goodIn_app (goodIn_of _ (by decide +kernel)) ggX6_goTo_X6_isBare
theorem dX6_goTo_0 : decode cX6_goTo 0 = .ok (.iconst (-1), 1) := by decide +kernel
theorem dX6_goTo_1 : decode cX6_goTo 1 = .ok (.istore_n 2, 1) := by decide +kernel
theorem dX6_goTo_2 : decode cX6_goTo 2 = .ok (.iconst 0, 1) := by decide +kernel
theorem dX6_goTo_3 : decode cX6_goTo 3 = .ok (.istore_n 3, 1) := by decide +kernel
theorem dX6_goTo_4 : decode cX6_goTo 4 = .ok (.iload_n 3, 1) := by decide +kernel
theorem dX6_goTo_5 : decode cX6_goTo 5 = .ok (.aload_n 0, 1) := by decide +kernel
theorem dX6_goTo_6 : decode cX6_goTo 6 = .ok (.getfield 30, 3) := by decide +kernel
theorem dX6_goTo_9 : decode cX6_goTo 9 = .ok (.if_icmp .ge 93, 3) := by decide +kernel
theorem dX6_goTo_12 : decode cX6_goTo 12 = .ok (.aload_n 0, 1) := by decide +kernel
theorem dX6_goTo_13 : decode cX6_goTo 13 = .ok (.iconst 1, 1) := by decide +kernel
theorem dX6_goTo_14 : decode cX6_goTo 14 = .ok (.iload_n 3, 1) := by decide +kernel
theorem dX6_goTo_15 : decode cX6_goTo 15 = .ok (.invokevirtual 155, 3) := by decide +kernel
theorem dX6_goTo_18 : decode cX6_goTo 18 = .ok (.ifCond .ne 78, 3) := by decide +kernel
theorem dX6_goTo_21 : decode cX6_goTo 21 = .ok (.iload_n 3, 1) := by decide +kernel
theorem dX6_goTo_22 : decode cX6_goTo 22 = .ok (.ifCond .eq 14, 3) := by decide +kernel
theorem dX6_goTo_25 : decode cX6_goTo 25 = .ok (.aload_n 0, 1) := by decide +kernel
theorem dX6_goTo_26 : decode cX6_goTo 26 = .ok (.iconst 1, 1) := by decide +kernel
theorem dX6_goTo_27 : decode cX6_goTo 27 = .ok (.iload_n 3, 1) := by decide +kernel
theorem dX6_goTo_28 : decode cX6_goTo 28 = .ok (.iconst 1, 1) := by decide +kernel
theorem dX6_goTo_29 : decode cX6_goTo 29 = .ok (.isub, 1) := by decide +kernel
theorem dX6_goTo_30 : decode cX6_goTo 30 = .ok (.invokevirtual 155, 3) := by decide +kernel
theorem dX6_goTo_33 : decode cX6_goTo 33 = .ok (.ifCond .eq 63, 3) := by decide +kernel
theorem dX6_goTo_36 : decode cX6_goTo 36 = .ok (.iinc 2 1, 3) := by decide +kernel
theorem dX6_goTo_39 : decode cX6_goTo 39 = .ok (.iload_n 2, 1) := by decide +kernel
theorem dX6_goTo_40 : decode cX6_goTo 40 = .ok (.iload_n 1, 1) := by decide +kernel
theorem dX6_goTo_41 : decode cX6_goTo 41 = .ok (.if_icmp .ne 55, 3) := by decide +kernel
theorem dX6_goTo_44 : decode cX6_goTo 44 = .ok (.aload_n 0, 1) := by decide +kernel
theorem dX6_goTo_45 : decode cX6_goTo 45 = .ok (.iload_n 3, 1) := by decide +kernel
theorem dX6_goTo_46 : decode cX6_goTo 46 = .ok (.putfield 158, 3) := by decide +kernel
theorem dX6_goTo_49 : decode cX6_goTo 49 = .ok (.aload_n 0, 1) := by decide +kernel
theorem dX6_goTo_50 : decode cX6_goTo 50 = .ok (.iconst 0, 1) := by decide +kernel
theorem dX6_goTo_51 : decode cX6_goTo 51 = .ok (.putfield 161, 3) := by decide +kernel
theorem dX6_goTo_54 : decode cX6_goTo 54 = .ok (.iload_n 3, 1) := by decide +kernel
theorem dX6_goTo_55 : decode cX6_goTo 55 = .ok (.aload_n 0, 1) := by decide +kernel
theorem dX6_goTo_56 : decode cX6_goTo 56 = .ok (.getfield 161, 3) := by decide +kernel
theorem dX6_goTo_59 : decode cX6_goTo 59 = .ok (.iadd, 1) := by decide +kernel
theorem dX6_goTo_60 : decode cX6_goTo 60 = .ok (.aload_n 0, 1) := by decide +kernel
theorem dX6_goTo_61 : decode cX6_goTo 61 = .ok (.getfield 30, 3) := by decide +kernel
theorem dX6_goTo_64 : decode cX6_goTo 64 = .ok (.if_icmp .ge 30, 3) := by decide +kernel
theorem dX6_goTo_67 : decode cX6_goTo 67 = .ok (.aload_n 0, 1) := by decide +kernel
theorem dX6_goTo_68 : decode cX6_goTo 68 = .ok (.iconst 1, 1) := by decide +kernel
theorem dX6_goTo_69 : decode cX6_goTo 69 = .ok (.iload_n 3, 1) := by decide +kernel
theorem dX6_goTo_70 : decode cX6_goTo 70 = .ok (.aload_n 0, 1) := by decide +kernel
theorem dX6_goTo_71 : decode cX6_goTo 71 = .ok (.getfield 161, 3) := by decide +kernel
theorem dX6_goTo_74 : decode cX6_goTo 74 = .ok (.iadd, 1) := by decide +kernel
theorem dX6_goTo_75 : decode cX6_goTo 75 = .ok (.invokevirtual 155, 3) := by decide +kernel
theorem dX6_goTo_78 : decode cX6_goTo 78 = .ok (.ifCond .ne 16, 3) := by decide +kernel
theorem dX6_goTo_81 : decode cX6_goTo 81 = .ok (.aload_n 0, 1) := by decide +kernel
theorem dX6_goTo_82 : decode cX6_goTo 82 = .ok (.dup, 1) := by decide +kernel
theorem dX6_goTo_83 : decode cX6_goTo 83 = .ok (.getfield 161, 3) := by decide +kernel
theorem dX6_goTo_86 : decode cX6_goTo 86 = .ok (.iconst 1, 1) := by decide +kernel
theorem dX6_goTo_87 : decode cX6_goTo 87 = .ok (.iadd, 1) := by decide +kernel
theorem dX6_goTo_88 : decode cX6_goTo 88 = .ok (.putfield 161, 3) := by decide +kernel
theorem dX6_goTo_91 : decode cX6_goTo 91 = .ok (.goto (-37), 3) := by decide +kernel
theorem dX6_goTo_94 : decode cX6_goTo 94 = .ok (.iconst 1, 1) := by decide +kernel
theorem dX6_goTo_95 : decode cX6_goTo 95 = .ok (.ireturn, 1) := by decide +kernel
theorem dX6_goTo_96 : decode cX6_goTo 96 = .ok (.iinc 3 1, 3) := by decide +kernel
theorem dX6_goTo_99 : decode cX6_goTo 99 = .ok (.goto (-95), 3) := by decide +kernel
theorem dX6_goTo_102 : decode cX6_goTo 102 = .ok (.iconst 0, 1) := by decide +kernel
theorem dX6_goTo_103 : decode cX6_goTo 103 = .ok (.ireturn, 1) := by decide +kernel
set_option maxRecDepth 20000 in
theorem ggX6_bands_X6_goTo : GoodIn wsX6_bands wsX6_goTo := goodIn_r _ [6, 7, 8, 9, 10, 11, 12, 5, 13, 14, 15, 16, 17, 18, 19, 20, 21, 22, 23, 24, 25, 26, 27, 28, 29, 30, 31, 32, 33] (by decide +kernel) (by decide +kernel)
set_option maxRecDepth 20000 in
theorem gX6_bands_X6_goTo : GoodIn wsX6_bands (wsV RX6 164 RX6 yX6_goTo wsX6_goTo) := goodIn_app (goodIn_of _ (by decide +kernel)) ggX6_bands_X6_goTo
theorem dX6_bands_0 : decode cX6_bands 0 = .ok (.aload_n 0, 1) := by decide +kernel
theorem dX6_bands_1 : decode cX6_bands 1 = .ok (.iconst 0, 1) := by decide +kernel
theorem dX6_bands_2 : decode cX6_bands 2 = .ok (.putfield 36, 3) := by decide +kernel
theorem dX6_bands_5 : decode cX6_bands 5 = .ok (.iconst 0, 1) := by decide +kernel
theorem dX6_bands_6 : decode cX6_bands 6 = .ok (.istore_n 1, 1) := by decide +kernel
theorem dX6_bands_7 : decode cX6_bands 7 = .ok (.aload_n 0, 1) := by decide +kernel
theorem dX6_bands_8 : decode cX6_bands 8 = .ok (.iload_n 1, 1) := by decide +kernel
theorem dX6_bands_9 : decode cX6_bands 9 = .ok (.invokevirtual 164, 3) := by decide +kernel
theorem dX6_bands_12 : decode cX6_bands 12 = .ok (.ifCond .eq 9, 3) := by decide +kernel
theorem dX6_bands_15 : decode cX6_bands 15 = .ok (.iinc 1 1, 3) := by decide +kernel
theorem dX6_bands_18 : decode cX6_bands 18 = .ok (.goto (-11), 3) := by decide +kernel
theorem dX6_bands_21 : decode cX6_bands 21 = .ok (.iload_n 1, 1) := by decide +kernel
theorem dX6_bands_22 : decode cX6_bands 22 = .ok (.ireturn, 1) := by decide +kernel
set_option maxRecDepth 20000 in
theorem ggX6_onIn_X6_isOn : GoodIn wsX6_onIn wsX6_isOn := goodIn_r _ [6, 1, 7, 8, 9, 10, 11, 12, 13, 14, 15, 16, 17, 18, 19, 20, 21, 22] (by decide +kernel) (by decide +kernel)
set_option maxRecDepth 20000 in
theorem gX6_onIn_X6_isOn : GoodIn wsX6_onIn (wsV RX6 79 RX6 yX6_isOn wsX6_isOn) := goodIn_app (goodIn_of _ (by decide +kernel)) ggX6_onIn_X6_isOn
theorem dX6_onIn_0 : decode cX6_onIn 0 = .ok (.iconst 0, 1) := by decide +kernel
theorem dX6_onIn_1 : decode cX6_onIn 1 = .ok (.istore_n 3, 1) := by decide +kernel
theorem dX6_onIn_2 : decode cX6_onIn 2 = .ok (.iload_n 1, 1) := by decide +kernel
theorem dX6_onIn_3 : decode cX6_onIn 3 = .ok (.istore 4, 2) := by decide +kernel
theorem dX6_onIn_5 : decode cX6_onIn 5 = .ok (.iload 4, 2) := by decide +kernel
theorem dX6_onIn_7 : decode cX6_onIn 7 = .ok (.iload_n 1, 1) := by decide +kernel
theorem dX6_onIn_8 : decode cX6_onIn 8 = .ok (.iload_n 2, 1) := by decide +kernel
theorem dX6_onIn_9 : decode cX6_onIn 9 = .ok (.iadd, 1) := by decide +kernel
theorem dX6_onIn_10 : decode cX6_onIn 10 = .ok (.if_icmp .ge 46, 3) := by decide +kernel
theorem dX6_onIn_13 : decode cX6_onIn 13 = .ok (.iconst 0, 1) := by decide +kernel
theorem dX6_onIn_14 : decode cX6_onIn 14 = .ok (.istore 5, 2) := by decide +kernel
theorem dX6_onIn_16 : decode cX6_onIn 16 = .ok (.iload 5, 2) := by decide +kernel
theorem dX6_onIn_18 : decode cX6_onIn 18 = .ok (.aload_n 0, 1) := by decide +kernel
theorem dX6_onIn_19 : decode cX6_onIn 19 = .ok (.getfield 26, 3) := by decide +kernel
theorem dX6_onIn_22 : decode cX6_onIn 22 = .ok (.if_icmp .ge 28, 3) := by decide +kernel
theorem dX6_onIn_25 : decode cX6_onIn 25 = .ok (.iload_n 3, 1) := by decide +kernel
theorem dX6_onIn_26 : decode cX6_onIn 26 = .ok (.aload_n 0, 1) := by decide +kernel
theorem dX6_onIn_27 : decode cX6_onIn 27 = .ok (.iload 5, 2) := by decide +kernel
theorem dX6_onIn_29 : decode cX6_onIn 29 = .ok (.iload 4, 2) := by decide +kernel
theorem dX6_onIn_31 : decode cX6_onIn 31 = .ok (.invokevirtual 79, 3) := by decide +kernel
theorem dX6_onIn_34 : decode cX6_onIn 34 = .ok (.ifCond .eq 7, 3) := by decide +kernel
theorem dX6_onIn_37 : decode cX6_onIn 37 = .ok (.iconst 1, 1) := by decide +kernel
theorem dX6_onIn_38 : decode cX6_onIn 38 = .ok (.goto 4, 3) := by decide +kernel
theorem dX6_onIn_41 : decode cX6_onIn 41 = .ok (.iconst 0, 1) := by decide +kernel
theorem dX6_onIn_42 : decode cX6_onIn 42 = .ok (.iadd, 1) := by decide +kernel
theorem dX6_onIn_43 : decode cX6_onIn 43 = .ok (.istore_n 3, 1) := by decide +kernel
theorem dX6_onIn_44 : decode cX6_onIn 44 = .ok (.iinc 5 1, 3) := by decide +kernel
theorem dX6_onIn_47 : decode cX6_onIn 47 = .ok (.goto (-31), 3) := by decide +kernel
theorem dX6_onIn_50 : decode cX6_onIn 50 = .ok (.iinc 4 1, 3) := by decide +kernel
theorem dX6_onIn_53 : decode cX6_onIn 53 = .ok (.goto (-48), 3) := by decide +kernel
theorem dX6_onIn_56 : decode cX6_onIn 56 = .ok (.iload_n 3, 1) := by decide +kernel
theorem dX6_onIn_57 : decode cX6_onIn 57 = .ok (.ireturn, 1) := by decide +kernel
set_option maxRecDepth 20000 in
theorem ggX6_band_X6_goTo : GoodIn wsX6_band wsX6_goTo := goodIn_r _ [7, 8, 1, 2, 9, 10, 11, 6, 12, 13, 14, 15, 16, 17, 18, 28, 29, 30, 31, 32, 33, 34, 35, 36, 37, 38, 39, 40, 41] (by decide +kernel) (by decide +kernel)
set_option maxRecDepth 20000 in
theorem gX6_band_X6_goTo : GoodIn wsX6_band (wsV RX6 164 RX6 yX6_goTo wsX6_goTo) := goodIn_app (goodIn_of _ (by decide +kernel)) ggX6_band_X6_goTo
set_option maxRecDepth 20000 in
theorem ggX6_band_X6_refuses : GoodIn wsX6_band wsX6_refuses := goodIn_r _ [22, 23, 28, 29, 30, 31, 32, 33, 34, 35, 36, 37, 38, 39, 40, 41] (by decide +kernel) (by decide +kernel)
set_option maxRecDepth 20000 in
theorem gX6_band_X6_refuses : GoodIn wsX6_band (wsV RX6 75 RX6 yX6_refuses wsX6_refuses) := goodIn_app (goodIn_of _ (by decide +kernel)) ggX6_band_X6_refuses
set_option maxRecDepth 20000 in
theorem ggX6_band_X6_onIn : GoodIn wsX6_band wsX6_onIn := goodIn_r _ [27, 17, 13, 14, 15, 6, 16, 8, 18, 28, 29, 30, 31, 32, 33, 34, 35, 36, 37, 38, 39, 40, 41] (by decide +kernel) (by decide +kernel)
set_option maxRecDepth 20000 in
theorem gX6_band_X6_onIn : GoodIn wsX6_band (wsV RX6 167 RX6 yX6_onIn wsX6_onIn) := goodIn_app (goodIn_of _ (by decide +kernel)) ggX6_band_X6_onIn
theorem dX6_band_0 : decode cX6_band 0 = .ok (.aload_n 0, 1) := by decide +kernel
theorem dX6_band_1 : decode cX6_band 1 = .ok (.aload_n 0, 1) := by decide +kernel
theorem dX6_band_2 : decode cX6_band 2 = .ok (.iload_n 1, 1) := by decide +kernel
theorem dX6_band_3 : decode cX6_band 3 = .ok (.invokevirtual 164, 3) := by decide +kernel
theorem dX6_band_6 : decode cX6_band 6 = .ok (.ifCond .eq 7, 3) := by decide +kernel
theorem dX6_band_9 : decode cX6_band 9 = .ok (.iconst 0, 1) := by decide +kernel
theorem dX6_band_10 : decode cX6_band 10 = .ok (.goto 4, 3) := by decide +kernel
theorem dX6_band_13 : decode cX6_band 13 = .ok (.iconst 1, 1) := by decide +kernel
theorem dX6_band_14 : decode cX6_band 14 = .ok (.invokevirtual 75, 3) := by decide +kernel
theorem dX6_band_17 : decode cX6_band 17 = .ok (.ifCond .eq 5, 3) := by decide +kernel
theorem dX6_band_20 : decode cX6_band 20 = .ok (.iconst 0, 1) := by decide +kernel
theorem dX6_band_21 : decode cX6_band 21 = .ok (.ireturn, 1) := by decide +kernel
theorem dX6_band_22 : decode cX6_band 22 = .ok (.iload_n 2, 1) := by decide +kernel
theorem dX6_band_23 : decode cX6_band 23 = .ok (.ifCond .ne 10, 3) := by decide +kernel
theorem dX6_band_26 : decode cX6_band 26 = .ok (.aload_n 0, 1) := by decide +kernel
theorem dX6_band_27 : decode cX6_band 27 = .ok (.getfield 158, 3) := by decide +kernel
theorem dX6_band_30 : decode cX6_band 30 = .ok (.goto 36, 3) := by decide +kernel
theorem dX6_band_33 : decode cX6_band 33 = .ok (.iload_n 2, 1) := by decide +kernel
theorem dX6_band_34 : decode cX6_band 34 = .ok (.iconst 1, 1) := by decide +kernel
theorem dX6_band_35 : decode cX6_band 35 = .ok (.if_icmp .ne 10, 3) := by decide +kernel
theorem dX6_band_38 : decode cX6_band 38 = .ok (.aload_n 0, 1) := by decide +kernel
theorem dX6_band_39 : decode cX6_band 39 = .ok (.getfield 161, 3) := by decide +kernel
theorem dX6_band_42 : decode cX6_band 42 = .ok (.goto 24, 3) := by decide +kernel
theorem dX6_band_45 : decode cX6_band 45 = .ok (.iload_n 2, 1) := by decide +kernel
theorem dX6_band_46 : decode cX6_band 46 = .ok (.iconst 2, 1) := by decide +kernel
theorem dX6_band_47 : decode cX6_band 47 = .ok (.if_icmp .ne 18, 3) := by decide +kernel
theorem dX6_band_50 : decode cX6_band 50 = .ok (.aload_n 0, 1) := by decide +kernel
theorem dX6_band_51 : decode cX6_band 51 = .ok (.aload_n 0, 1) := by decide +kernel
theorem dX6_band_52 : decode cX6_band 52 = .ok (.getfield 158, 3) := by decide +kernel
theorem dX6_band_55 : decode cX6_band 55 = .ok (.aload_n 0, 1) := by decide +kernel
theorem dX6_band_56 : decode cX6_band 56 = .ok (.getfield 161, 3) := by decide +kernel
theorem dX6_band_59 : decode cX6_band 59 = .ok (.invokevirtual 167, 3) := by decide +kernel
theorem dX6_band_62 : decode cX6_band 62 = .ok (.goto 4, 3) := by decide +kernel
theorem dX6_band_65 : decode cX6_band 65 = .ok (.iconst (-1), 1) := by decide +kernel
theorem dX6_band_66 : decode cX6_band 66 = .ok (.ireturn, 1) := by decide +kernel
set_option maxRecDepth 20000 in
theorem ggX6_line_X6_goTo : GoodIn wsX6_line wsX6_goTo := goodIn_r _ [11, 12, 4, 5, 13, 14, 15, 10, 16, 17, 18, 19, 20, 3, 21, 31, 32, 33, 34, 35, 36, 37, 38, 39, 40, 41, 42, 43, 44] (by decide +kernel) (by decide +kernel)
set_option maxRecDepth 20000 in
theorem gX6_line_X6_goTo : GoodIn wsX6_line (wsV RX6 164 RX6 yX6_goTo wsX6_goTo) := goodIn_app (goodIn_of _ (by decide +kernel)) ggX6_line_X6_goTo
set_option maxRecDepth 20000 in
theorem ggX6_line_X6_refuses : GoodIn wsX6_line wsX6_refuses := goodIn_r _ [25, 26, 31, 32, 33, 34, 35, 36, 37, 38, 39, 40, 41, 42, 43, 44] (by decide +kernel) (by decide +kernel)
set_option maxRecDepth 20000 in
theorem gX6_line_X6_refuses : GoodIn wsX6_line (wsV RX6 75 RX6 yX6_refuses wsX6_refuses) := goodIn_app (goodIn_of _ (by decide +kernel)) ggX6_line_X6_refuses
set_option maxRecDepth 20000 in
theorem ggX6_line_X6_isOn : GoodIn wsX6_line wsX6_isOn := goodIn_r _ [20, 3, 12, 21, 31, 32, 33, 34, 35, 36, 37, 38, 39, 40, 41, 42, 43, 44] (by decide +kernel) (by decide +kernel)
set_option maxRecDepth 20000 in
theorem gX6_line_X6_isOn : GoodIn wsX6_line (wsV RX6 79 RX6 yX6_isOn wsX6_isOn) := goodIn_app (goodIn_of _ (by decide +kernel)) ggX6_line_X6_isOn
set_option maxRecDepth 20000 in
theorem ggX6_line_X6_wholeOf : GoodIn wsX6_line wsX6_wholeOf := goodIn_r _ [29, 30] (by decide +kernel) (by decide +kernel)
set_option maxRecDepth 20000 in
theorem gX6_line_X6_wholeOf : GoodIn wsX6_line (va_wsS RX6 92 yX6_wholeOf wsX6_wholeOf) := goodIn_app (goodIn_of _ (by decide +kernel)) ggX6_line_X6_wholeOf
theorem dX6_line_0 : decode cX6_line 0 = .ok (.aload_n 0, 1) := by decide +kernel
theorem dX6_line_1 : decode cX6_line 1 = .ok (.aload_n 0, 1) := by decide +kernel
theorem dX6_line_2 : decode cX6_line 2 = .ok (.iload_n 1, 1) := by decide +kernel
theorem dX6_line_3 : decode cX6_line 3 = .ok (.invokevirtual 164, 3) := by decide +kernel
theorem dX6_line_6 : decode cX6_line 6 = .ok (.ifCond .ne 7, 3) := by decide +kernel
theorem dX6_line_9 : decode cX6_line 9 = .ok (.iconst 1, 1) := by decide +kernel
theorem dX6_line_10 : decode cX6_line 10 = .ok (.goto 24, 3) := by decide +kernel
theorem dX6_line_13 : decode cX6_line 13 = .ok (.dload_n 2, 1) := by decide +kernel
theorem dX6_line_14 : decode cX6_line 14 = .ok (.ldc2_w 170, 3) := by decide +kernel
theorem dX6_line_17 : decode cX6_line 17 = .ok (.dcmp .l, 1) := by decide +kernel
theorem dX6_line_18 : decode cX6_line 18 = .ok (.ifCond .lt 11, 3) := by decide +kernel
theorem dX6_line_21 : decode cX6_line 21 = .ok (.dload_n 2, 1) := by decide +kernel
theorem dX6_line_22 : decode cX6_line 22 = .ok (.ldc2_w 172, 3) := by decide +kernel
theorem dX6_line_25 : decode cX6_line 25 = .ok (.dcmp .g, 1) := by decide +kernel
theorem dX6_line_26 : decode cX6_line 26 = .ok (.ifCond .le 7, 3) := by decide +kernel
theorem dX6_line_29 : decode cX6_line 29 = .ok (.iconst 2, 1) := by decide +kernel
theorem dX6_line_30 : decode cX6_line 30 = .ok (.goto 4, 3) := by decide +kernel
theorem dX6_line_33 : decode cX6_line 33 = .ok (.iconst 0, 1) := by decide +kernel
theorem dX6_line_34 : decode cX6_line 34 = .ok (.invokevirtual 75, 3) := by decide +kernel
theorem dX6_line_37 : decode cX6_line 37 = .ok (.ifCond .eq 5, 3) := by decide +kernel
theorem dX6_line_40 : decode cX6_line 40 = .ok (.iconst 0, 1) := by decide +kernel
theorem dX6_line_41 : decode cX6_line 41 = .ok (.ireturn, 1) := by decide +kernel
theorem dX6_line_42 : decode cX6_line 42 = .ok (.iconst 0, 1) := by decide +kernel
theorem dX6_line_43 : decode cX6_line 43 = .ok (.istore 4, 2) := by decide +kernel
theorem dX6_line_45 : decode cX6_line 45 = .ok (.iconst 0, 1) := by decide +kernel
theorem dX6_line_46 : decode cX6_line 46 = .ok (.istore 5, 2) := by decide +kernel
theorem dX6_line_48 : decode cX6_line 48 = .ok (.iconst 0, 1) := by decide +kernel
theorem dX6_line_49 : decode cX6_line 49 = .ok (.istore 6, 2) := by decide +kernel
theorem dX6_line_51 : decode cX6_line 51 = .ok (.iconst 0, 1) := by decide +kernel
theorem dX6_line_52 : decode cX6_line 52 = .ok (.istore 7, 2) := by decide +kernel
theorem dX6_line_54 : decode cX6_line 54 = .ok (.iconst 0, 1) := by decide +kernel
theorem dX6_line_55 : decode cX6_line 55 = .ok (.istore 8, 2) := by decide +kernel
theorem dX6_line_57 : decode cX6_line 57 = .ok (.iconst 0, 1) := by decide +kernel
theorem dX6_line_58 : decode cX6_line 58 = .ok (.istore 9, 2) := by decide +kernel
theorem dX6_line_60 : decode cX6_line 60 = .ok (.iload 9, 2) := by decide +kernel
theorem dX6_line_62 : decode cX6_line 62 = .ok (.aload_n 0, 1) := by decide +kernel
theorem dX6_line_63 : decode cX6_line 63 = .ok (.getfield 26, 3) := by decide +kernel
theorem dX6_line_66 : decode cX6_line 66 = .ok (.if_icmp .ge 100, 3) := by decide +kernel
theorem dX6_line_69 : decode cX6_line 69 = .ok (.iconst (-1), 1) := by decide +kernel
theorem dX6_line_70 : decode cX6_line 70 = .ok (.istore 10, 2) := by decide +kernel
theorem dX6_line_72 : decode cX6_line 72 = .ok (.aload_n 0, 1) := by decide +kernel
theorem dX6_line_73 : decode cX6_line 73 = .ok (.getfield 158, 3) := by decide +kernel
theorem dX6_line_76 : decode cX6_line 76 = .ok (.istore 11, 2) := by decide +kernel
theorem dX6_line_78 : decode cX6_line 78 = .ok (.iload 11, 2) := by decide +kernel
theorem dX6_line_80 : decode cX6_line 80 = .ok (.aload_n 0, 1) := by decide +kernel
theorem dX6_line_81 : decode cX6_line 81 = .ok (.getfield 158, 3) := by decide +kernel
theorem dX6_line_84 : decode cX6_line 84 = .ok (.aload_n 0, 1) := by decide +kernel
theorem dX6_line_85 : decode cX6_line 85 = .ok (.getfield 161, 3) := by decide +kernel
theorem dX6_line_88 : decode cX6_line 88 = .ok (.iadd, 1) := by decide +kernel
theorem dX6_line_89 : decode cX6_line 89 = .ok (.if_icmp .ge 29, 3) := by decide +kernel
theorem dX6_line_92 : decode cX6_line 92 = .ok (.aload_n 0, 1) := by decide +kernel
theorem dX6_line_93 : decode cX6_line 93 = .ok (.iload 9, 2) := by decide +kernel
theorem dX6_line_95 : decode cX6_line 95 = .ok (.iload 11, 2) := by decide +kernel
theorem dX6_line_97 : decode cX6_line 97 = .ok (.invokevirtual 79, 3) := by decide +kernel
theorem dX6_line_100 : decode cX6_line 100 = .ok (.ifCond .eq 8, 3) := by decide +kernel
theorem dX6_line_103 : decode cX6_line 103 = .ok (.iload 11, 2) := by decide +kernel
theorem dX6_line_105 : decode cX6_line 105 = .ok (.goto 5, 3) := by decide +kernel
theorem dX6_line_108 : decode cX6_line 108 = .ok (.iload 10, 2) := by decide +kernel
theorem dX6_line_110 : decode cX6_line 110 = .ok (.istore 10, 2) := by decide +kernel
theorem dX6_line_112 : decode cX6_line 112 = .ok (.iinc 11 1, 3) := by decide +kernel
theorem dX6_line_115 : decode cX6_line 115 = .ok (.goto (-37), 3) := by decide +kernel
theorem dX6_line_118 : decode cX6_line 118 = .ok (.iload 10, 2) := by decide +kernel
theorem dX6_line_120 : decode cX6_line 120 = .ok (.ifCond .lt 40, 3) := by decide +kernel
theorem dX6_line_123 : decode cX6_line 123 = .ok (.iinc 4 1, 3) := by decide +kernel
theorem dX6_line_126 : decode cX6_line 126 = .ok (.iload 5, 2) := by decide +kernel
theorem dX6_line_128 : decode cX6_line 128 = .ok (.iload 9, 2) := by decide +kernel
theorem dX6_line_130 : decode cX6_line 130 = .ok (.iadd, 1) := by decide +kernel
theorem dX6_line_131 : decode cX6_line 131 = .ok (.istore 5, 2) := by decide +kernel
theorem dX6_line_133 : decode cX6_line 133 = .ok (.iload 6, 2) := by decide +kernel
theorem dX6_line_135 : decode cX6_line 135 = .ok (.iload 10, 2) := by decide +kernel
theorem dX6_line_137 : decode cX6_line 137 = .ok (.iadd, 1) := by decide +kernel
theorem dX6_line_138 : decode cX6_line 138 = .ok (.istore 6, 2) := by decide +kernel
theorem dX6_line_140 : decode cX6_line 140 = .ok (.iload 7, 2) := by decide +kernel
theorem dX6_line_142 : decode cX6_line 142 = .ok (.iload 9, 2) := by decide +kernel
theorem dX6_line_144 : decode cX6_line 144 = .ok (.iload 9, 2) := by decide +kernel
theorem dX6_line_146 : decode cX6_line 146 = .ok (.imul, 1) := by decide +kernel
theorem dX6_line_147 : decode cX6_line 147 = .ok (.iadd, 1) := by decide +kernel
theorem dX6_line_148 : decode cX6_line 148 = .ok (.istore 7, 2) := by decide +kernel
theorem dX6_line_150 : decode cX6_line 150 = .ok (.iload 8, 2) := by decide +kernel
theorem dX6_line_152 : decode cX6_line 152 = .ok (.iload 9, 2) := by decide +kernel
theorem dX6_line_154 : decode cX6_line 154 = .ok (.iload 10, 2) := by decide +kernel
theorem dX6_line_156 : decode cX6_line 156 = .ok (.imul, 1) := by decide +kernel
theorem dX6_line_157 : decode cX6_line 157 = .ok (.iadd, 1) := by decide +kernel
theorem dX6_line_158 : decode cX6_line 158 = .ok (.istore 8, 2) := by decide +kernel
theorem dX6_line_160 : decode cX6_line 160 = .ok (.iinc 9 1, 3) := by decide +kernel
theorem dX6_line_163 : decode cX6_line 163 = .ok (.goto (-103), 3) := by decide +kernel
theorem dX6_line_166 : decode cX6_line 166 = .ok (.iload 4, 2) := by decide +kernel
theorem dX6_line_168 : decode cX6_line 168 = .ok (.iload 7, 2) := by decide +kernel
theorem dX6_line_170 : decode cX6_line 170 = .ok (.imul, 1) := by decide +kernel
theorem dX6_line_171 : decode cX6_line 171 = .ok (.iload 5, 2) := by decide +kernel
theorem dX6_line_173 : decode cX6_line 173 = .ok (.iload 5, 2) := by decide +kernel
theorem dX6_line_175 : decode cX6_line 175 = .ok (.imul, 1) := by decide +kernel
theorem dX6_line_176 : decode cX6_line 176 = .ok (.isub, 1) := by decide +kernel
theorem dX6_line_177 : decode cX6_line 177 = .ok (.istore 9, 2) := by decide +kernel
theorem dX6_line_179 : decode cX6_line 179 = .ok (.iload 9, 2) := by decide +kernel
theorem dX6_line_181 : decode cX6_line 181 = .ok (.ifCond .ne 18, 3) := by decide +kernel
theorem dX6_line_184 : decode cX6_line 184 = .ok (.ldc2_w 174, 3) := by decide +kernel
theorem dX6_line_187 : decode cX6_line 187 = .ok (.iload 6, 2) := by decide +kernel
theorem dX6_line_189 : decode cX6_line 189 = .ok (.i2d, 1) := by decide +kernel
theorem dX6_line_190 : decode cX6_line 190 = .ok (.iload 4, 2) := by decide +kernel
theorem dX6_line_192 : decode cX6_line 192 = .ok (.i2d, 1) := by decide +kernel
theorem dX6_line_193 : decode cX6_line 193 = .ok (.ddiv, 1) := by decide +kernel
theorem dX6_line_194 : decode cX6_line 194 = .ok (.dmul, 1) := by decide +kernel
theorem dX6_line_195 : decode cX6_line 195 = .ok (.invokestatic 92, 3) := by decide +kernel
theorem dX6_line_198 : decode cX6_line 198 = .ok (.ireturn, 1) := by decide +kernel
theorem dX6_line_199 : decode cX6_line 199 = .ok (.iload 4, 2) := by decide +kernel
theorem dX6_line_201 : decode cX6_line 201 = .ok (.iload 8, 2) := by decide +kernel
theorem dX6_line_203 : decode cX6_line 203 = .ok (.imul, 1) := by decide +kernel
theorem dX6_line_204 : decode cX6_line 204 = .ok (.iload 5, 2) := by decide +kernel
theorem dX6_line_206 : decode cX6_line 206 = .ok (.iload 6, 2) := by decide +kernel
theorem dX6_line_208 : decode cX6_line 208 = .ok (.imul, 1) := by decide +kernel
theorem dX6_line_209 : decode cX6_line 209 = .ok (.isub, 1) := by decide +kernel
theorem dX6_line_210 : decode cX6_line 210 = .ok (.i2d, 1) := by decide +kernel
theorem dX6_line_211 : decode cX6_line 211 = .ok (.iload 9, 2) := by decide +kernel
theorem dX6_line_213 : decode cX6_line 213 = .ok (.i2d, 1) := by decide +kernel
theorem dX6_line_214 : decode cX6_line 214 = .ok (.ddiv, 1) := by decide +kernel
theorem dX6_line_215 : decode cX6_line 215 = .ok (.dstore 10, 2) := by decide +kernel
theorem dX6_line_217 : decode cX6_line 217 = .ok (.ldc2_w 174, 3) := by decide +kernel
theorem dX6_line_220 : decode cX6_line 220 = .ok (.dload 10, 2) := by decide +kernel
theorem dX6_line_222 : decode cX6_line 222 = .ok (.dload_n 2, 1) := by decide +kernel
theorem dX6_line_223 : decode cX6_line 223 = .ok (.dmul, 1) := by decide +kernel
theorem dX6_line_224 : decode cX6_line 224 = .ok (.iload 6, 2) := by decide +kernel
theorem dX6_line_226 : decode cX6_line 226 = .ok (.i2d, 1) := by decide +kernel
theorem dX6_line_227 : decode cX6_line 227 = .ok (.dload 10, 2) := by decide +kernel
theorem dX6_line_229 : decode cX6_line 229 = .ok (.iload 5, 2) := by decide +kernel
theorem dX6_line_231 : decode cX6_line 231 = .ok (.i2d, 1) := by decide +kernel
theorem dX6_line_232 : decode cX6_line 232 = .ok (.dmul, 1) := by decide +kernel
theorem dX6_line_233 : decode cX6_line 233 = .ok (.dsub, 1) := by decide +kernel
theorem dX6_line_234 : decode cX6_line 234 = .ok (.iload 4, 2) := by decide +kernel
theorem dX6_line_236 : decode cX6_line 236 = .ok (.i2d, 1) := by decide +kernel
theorem dX6_line_237 : decode cX6_line 237 = .ok (.ddiv, 1) := by decide +kernel
theorem dX6_line_238 : decode cX6_line 238 = .ok (.dadd, 1) := by decide +kernel
theorem dX6_line_239 : decode cX6_line 239 = .ok (.dmul, 1) := by decide +kernel
theorem dX6_line_240 : decode cX6_line 240 = .ok (.invokestatic 92, 3) := by decide +kernel
theorem dX6_line_243 : decode cX6_line 243 = .ok (.ireturn, 1) := by decide +kernel
set_option maxRecDepth 20000 in
theorem ggX6_upside_X6_goTo : GoodIn wsX6_upside wsX6_goTo := goodIn_r _ [8, 9, 3, 2, 10, 11, 12, 7, 13, 14, 15, 16, 17, 18, 19, 24, 25, 26, 27, 28, 29, 30, 31, 32, 33, 34, 35, 36, 37] (by decide +kernel) (by decide +kernel)
set_option maxRecDepth 20000 in
theorem gX6_upside_X6_goTo : GoodIn wsX6_upside (wsV RX6 164 RX6 yX6_goTo wsX6_goTo) := goodIn_app (goodIn_of _ (by decide +kernel)) ggX6_upside_X6_goTo
set_option maxRecDepth 20000 in
theorem ggX6_upside_X6_onIn : GoodIn wsX6_upside wsX6_onIn := goodIn_r _ [23, 18, 14, 15, 16, 7, 17, 9, 19, 24, 25, 26, 27, 28, 29, 30, 31, 32, 33, 34, 35, 36, 37] (by decide +kernel) (by decide +kernel)
set_option maxRecDepth 20000 in
theorem gX6_upside_X6_onIn : GoodIn wsX6_upside (wsV RX6 167 RX6 yX6_onIn wsX6_onIn) := goodIn_app (goodIn_of _ (by decide +kernel)) ggX6_upside_X6_onIn
theorem dX6_upside_0 : decode cX6_upside 0 = .ok (.aload_n 0, 1) := by decide +kernel
theorem dX6_upside_1 : decode cX6_upside 1 = .ok (.iconst 0, 1) := by decide +kernel
theorem dX6_upside_2 : decode cX6_upside 2 = .ok (.putfield 36, 3) := by decide +kernel
theorem dX6_upside_5 : decode cX6_upside 5 = .ok (.iconst 0, 1) := by decide +kernel
theorem dX6_upside_6 : decode cX6_upside 6 = .ok (.istore_n 1, 1) := by decide +kernel
theorem dX6_upside_7 : decode cX6_upside 7 = .ok (.iconst 0, 1) := by decide +kernel
theorem dX6_upside_8 : decode cX6_upside 8 = .ok (.istore_n 2, 1) := by decide +kernel
theorem dX6_upside_9 : decode cX6_upside 9 = .ok (.iconst 0, 1) := by decide +kernel
theorem dX6_upside_10 : decode cX6_upside 10 = .ok (.istore_n 3, 1) := by decide +kernel
theorem dX6_upside_11 : decode cX6_upside 11 = .ok (.aload_n 0, 1) := by decide +kernel
theorem dX6_upside_12 : decode cX6_upside 12 = .ok (.iload_n 3, 1) := by decide +kernel
theorem dX6_upside_13 : decode cX6_upside 13 = .ok (.invokevirtual 164, 3) := by decide +kernel
theorem dX6_upside_16 : decode cX6_upside 16 = .ok (.ifCond .eq 51, 3) := by decide +kernel
theorem dX6_upside_19 : decode cX6_upside 19 = .ok (.aload_n 0, 1) := by decide +kernel
theorem dX6_upside_20 : decode cX6_upside 20 = .ok (.getfield 161, 3) := by decide +kernel
theorem dX6_upside_23 : decode cX6_upside 23 = .ok (.iconst 2, 1) := by decide +kernel
theorem dX6_upside_24 : decode cX6_upside 24 = .ok (.idiv, 1) := by decide +kernel
theorem dX6_upside_25 : decode cX6_upside 25 = .ok (.istore 4, 2) := by decide +kernel
theorem dX6_upside_27 : decode cX6_upside 27 = .ok (.iload_n 1, 1) := by decide +kernel
theorem dX6_upside_28 : decode cX6_upside 28 = .ok (.aload_n 0, 1) := by decide +kernel
theorem dX6_upside_29 : decode cX6_upside 29 = .ok (.aload_n 0, 1) := by decide +kernel
theorem dX6_upside_30 : decode cX6_upside 30 = .ok (.getfield 158, 3) := by decide +kernel
theorem dX6_upside_33 : decode cX6_upside 33 = .ok (.iload 4, 2) := by decide +kernel
theorem dX6_upside_35 : decode cX6_upside 35 = .ok (.invokevirtual 167, 3) := by decide +kernel
theorem dX6_upside_38 : decode cX6_upside 38 = .ok (.iadd, 1) := by decide +kernel
theorem dX6_upside_39 : decode cX6_upside 39 = .ok (.istore_n 1, 1) := by decide +kernel
theorem dX6_upside_40 : decode cX6_upside 40 = .ok (.iload_n 2, 1) := by decide +kernel
theorem dX6_upside_41 : decode cX6_upside 41 = .ok (.aload_n 0, 1) := by decide +kernel
theorem dX6_upside_42 : decode cX6_upside 42 = .ok (.aload_n 0, 1) := by decide +kernel
theorem dX6_upside_43 : decode cX6_upside 43 = .ok (.getfield 158, 3) := by decide +kernel
theorem dX6_upside_46 : decode cX6_upside 46 = .ok (.aload_n 0, 1) := by decide +kernel
theorem dX6_upside_47 : decode cX6_upside 47 = .ok (.getfield 161, 3) := by decide +kernel
theorem dX6_upside_50 : decode cX6_upside 50 = .ok (.iadd, 1) := by decide +kernel
theorem dX6_upside_51 : decode cX6_upside 51 = .ok (.iload 4, 2) := by decide +kernel
theorem dX6_upside_53 : decode cX6_upside 53 = .ok (.isub, 1) := by decide +kernel
theorem dX6_upside_54 : decode cX6_upside 54 = .ok (.iload 4, 2) := by decide +kernel
theorem dX6_upside_56 : decode cX6_upside 56 = .ok (.invokevirtual 167, 3) := by decide +kernel
theorem dX6_upside_59 : decode cX6_upside 59 = .ok (.iadd, 1) := by decide +kernel
theorem dX6_upside_60 : decode cX6_upside 60 = .ok (.istore_n 2, 1) := by decide +kernel
theorem dX6_upside_61 : decode cX6_upside 61 = .ok (.iinc 3 1, 3) := by decide +kernel
theorem dX6_upside_64 : decode cX6_upside 64 = .ok (.goto (-53), 3) := by decide +kernel
theorem dX6_upside_67 : decode cX6_upside 67 = .ok (.iload_n 2, 1) := by decide +kernel
theorem dX6_upside_68 : decode cX6_upside 68 = .ok (.iload_n 1, 1) := by decide +kernel
theorem dX6_upside_69 : decode cX6_upside 69 = .ok (.if_icmp .le 7, 3) := by decide +kernel
theorem dX6_upside_72 : decode cX6_upside 72 = .ok (.iconst 1, 1) := by decide +kernel
theorem dX6_upside_73 : decode cX6_upside 73 = .ok (.goto 4, 3) := by decide +kernel
theorem dX6_upside_76 : decode cX6_upside 76 = .ok (.iconst 0, 1) := by decide +kernel
theorem dX6_upside_77 : decode cX6_upside 77 = .ok (.ireturn, 1) := by decide +kernel
set_option maxRecDepth 20000 in
theorem ggX6_told_X6_countOn : GoodIn wsX6_told wsX6_countOn := goodIn_r _ [9, 10, 23, 24, 25, 26, 27, 28, 29, 30, 31, 32, 33, 34, 35, 36] (by decide +kernel) (by decide +kernel)
set_option maxRecDepth 20000 in
theorem gX6_told_X6_countOn : GoodIn wsX6_told (wsV RX6 107 RX6 yX6_countOn wsX6_countOn) := goodIn_app (goodIn_of _ (by decide +kernel)) ggX6_told_X6_countOn
set_option maxRecDepth 20000 in
theorem ggX6_told_X6_countEnds : GoodIn wsX6_told wsX6_countEnds := goodIn_r _ [14, 3, 2, 15, 16, 17, 8, 18, 19, 20, 21, 22, 10, 23, 24, 25, 26, 27, 28, 29, 30, 31, 32, 33, 34, 35, 36] (by decide +kernel) (by decide +kernel)
set_option maxRecDepth 20000 in
theorem gX6_told_X6_countEnds : GoodIn wsX6_told (wsV RX6 88 RX6 yX6_countEnds wsX6_countEnds) := goodIn_app (goodIn_of _ (by decide +kernel)) ggX6_told_X6_countEnds
theorem dX6_told_0 : decode cX6_told 0 = .ok (.aload_n 0, 1) := by decide +kernel
theorem dX6_told_1 : decode cX6_told 1 = .ok (.iconst 0, 1) := by decide +kernel
theorem dX6_told_2 : decode cX6_told 2 = .ok (.putfield 36, 3) := by decide +kernel
theorem dX6_told_5 : decode cX6_told 5 = .ok (.iload_n 1, 1) := by decide +kernel
theorem dX6_told_6 : decode cX6_told 6 = .ok (.tableswitch 59 0 4 #[34, 39, 44, 49, 54], 34) := by decide +kernel
theorem dX6_told_40 : decode cX6_told 40 = .ok (.aload_n 0, 1) := by decide +kernel
theorem dX6_told_41 : decode cX6_told 41 = .ok (.getfield 26, 3) := by decide +kernel
theorem dX6_told_44 : decode cX6_told 44 = .ok (.ireturn, 1) := by decide +kernel
theorem dX6_told_45 : decode cX6_told 45 = .ok (.aload_n 0, 1) := by decide +kernel
theorem dX6_told_46 : decode cX6_told 46 = .ok (.getfield 30, 3) := by decide +kernel
theorem dX6_told_49 : decode cX6_told 49 = .ok (.ireturn, 1) := by decide +kernel
theorem dX6_told_50 : decode cX6_told 50 = .ok (.aload_n 0, 1) := by decide +kernel
theorem dX6_told_51 : decode cX6_told 51 = .ok (.invokevirtual 107, 3) := by decide +kernel
theorem dX6_told_54 : decode cX6_told 54 = .ok (.ireturn, 1) := by decide +kernel
theorem dX6_told_55 : decode cX6_told 55 = .ok (.aload_n 0, 1) := by decide +kernel
theorem dX6_told_56 : decode cX6_told 56 = .ok (.invokevirtual 88, 3) := by decide +kernel
theorem dX6_told_59 : decode cX6_told 59 = .ok (.ireturn, 1) := by decide +kernel
theorem dX6_told_60 : decode cX6_told 60 = .ok (.aload_n 0, 1) := by decide +kernel
theorem dX6_told_61 : decode cX6_told 61 = .ok (.getfield 144, 3) := by decide +kernel
theorem dX6_told_64 : decode cX6_told 64 = .ok (.ireturn, 1) := by decide +kernel
theorem dX6_told_65 : decode cX6_told 65 = .ok (.iconst (-1), 1) := by decide +kernel
theorem dX6_told_66 : decode cX6_told 66 = .ok (.ireturn, 1) := by decide +kernel
set_option maxRecDepth 20000 in
theorem ggX6_clear_X6_whole : GoodIn wsX6_clear wsX6_whole := goodIn_r _ [8, 9, 10, 11, 12, 13, 14, 15, 16, 17, 18, 19, 20, 21, 22, 23, 24, 25, 26] (by decide +kernel) (by decide +kernel)
set_option maxRecDepth 20000 in
theorem gX6_clear_X6_whole : GoodIn wsX6_clear (wsV RX6 33 RX6 yX6_whole wsX6_whole) := goodIn_app (goodIn_of _ (by decide +kernel)) ggX6_clear_X6_whole
theorem dX6_clear_0 : decode cX6_clear 0 = .ok (.aload_n 0, 1) := by decide +kernel
theorem dX6_clear_1 : decode cX6_clear 1 = .ok (.iconst 0, 1) := by decide +kernel
theorem dX6_clear_2 : decode cX6_clear 2 = .ok (.putfield 36, 3) := by decide +kernel
theorem dX6_clear_5 : decode cX6_clear 5 = .ok (.iconst 0, 1) := by decide +kernel
theorem dX6_clear_6 : decode cX6_clear 6 = .ok (.istore_n 1, 1) := by decide +kernel
theorem dX6_clear_7 : decode cX6_clear 7 = .ok (.iload_n 1, 1) := by decide +kernel
theorem dX6_clear_8 : decode cX6_clear 8 = .ok (.sipush 576, 3) := by decide +kernel
theorem dX6_clear_11 : decode cX6_clear 11 = .ok (.if_icmp .ge 16, 3) := by decide +kernel
theorem dX6_clear_14 : decode cX6_clear 14 = .ok (.aload_n 0, 1) := by decide +kernel
theorem dX6_clear_15 : decode cX6_clear 15 = .ok (.getfield 7, 3) := by decide +kernel
theorem dX6_clear_18 : decode cX6_clear 18 = .ok (.iload_n 1, 1) := by decide +kernel
theorem dX6_clear_19 : decode cX6_clear 19 = .ok (.iconst 0, 1) := by decide +kernel
theorem dX6_clear_20 : decode cX6_clear 20 = .ok (.bastore, 1) := by decide +kernel
theorem dX6_clear_21 : decode cX6_clear 21 = .ok (.iinc 1 1, 3) := by decide +kernel
theorem dX6_clear_24 : decode cX6_clear 24 = .ok (.goto (-17), 3) := by decide +kernel
theorem dX6_clear_27 : decode cX6_clear 27 = .ok (.aload_n 0, 1) := by decide +kernel
theorem dX6_clear_28 : decode cX6_clear 28 = .ok (.iconst 0, 1) := by decide +kernel
theorem dX6_clear_29 : decode cX6_clear 29 = .ok (.putfield 144, 3) := by decide +kernel
theorem dX6_clear_32 : decode cX6_clear 32 = .ok (.aload_n 0, 1) := by decide +kernel
theorem dX6_clear_33 : decode cX6_clear 33 = .ok (.invokevirtual 33, 3) := by decide +kernel
theorem dX6_clear_36 : decode cX6_clear 36 = .ok (.return_, 1) := by decide +kernel
end
section
/-! MY OWN FORM OF CONTRACT: arguments and cells before, answer and cells behind, both written out; no cell is made. -/
abbrev kTy (cI cZ cJ cD : ClassId) : List (ClassId × FieldType) := [(cI, .int), (cZ, .boolean), (cJ, .long), (cD, .double)]
abbrev kPc (G : va_G) (tys : List (ClassId × FieldType)) (as : List Value) (w0 : va_W) (sz : Nat) : Array Value → State → Prop :=
  va_Pc as (fun U => U.heap.size = sz ∧ va_P G vwCl w0 U.heap ∧ va_K G vwCl tys U ∧ va_D (fun _ => True) w0)
abbrev kB (G : va_G) (tys : List (ClassId × FieldType)) (w0 w1 : va_W) (sz : Nat) : Unit → State → Prop :=
  fun _ t => va_P G vwCl w1 t.heap ∧ va_K G vwCl tys t ∧ va_D (va_A w0 sz) w1
/-- answers an int (a boolean as 0 or 1) -/
def Ci (l : Launch) (G : va_G) (tys : List (ClassId × FieldType)) (y : MethodName) (ws : List Cond) (rm : Room) (as : List Value) (w0 : va_W) (r : Int32) (w1 : va_W) : Prop :=
  ∀ sz : Nat, Met l y ws rm (kPc G tys as w0 sz) (va_Qi (fun r' (_ : Unit) => r' = r) (kB G tys w0 w1 sz) (va_A w0 sz)) rm.cells rm.slots (va_A w0 sz)
/-- answers a double -/
def Cd (l : Launch) (G : va_G) (tys : List (ClassId × FieldType)) (y : MethodName) (ws : List Cond) (rm : Room) (as : List Value) (w0 : va_W) (r : UInt64) (w1 : va_W) : Prop :=
  ∀ sz : Nat, Met l y ws rm (kPc G tys as w0 sz) (va_Qd (fun r' (_ : Unit) => r' = r) (kB G tys w0 w1 sz) (va_A w0 sz)) rm.cells rm.slots (va_A w0 sz)
/-- answers nothing -/
def Cv (l : Launch) (G : va_G) (tys : List (ClassId × FieldType)) (y : MethodName) (ws : List Cond) (rm : Room) (as : List Value) (w0 : va_W) (w1 : va_W) : Prop :=
  ∀ sz : Nat, Met l y ws rm (kPc G tys as w0 sz) (va_Qv (fun (_ : Unit) => True) (kB G tys w0 w1 sz) (va_A w0 sz)) rm.cells rm.slots (va_A w0 sz)
theorem kBlind (G : va_G) (tys : List (ClassId × FieldType)) (as : List Value) (w0 : va_W) (sz : Nat) : FrameBlind (kPc G tys as w0 sz) := by
  intro a U g mk q
  obtain ⟨q0, q1, qP, qK, qD⟩ := q
  exact ⟨q0, q1, qP, va_K.moved (u := U) (U := U.calling g mk a) (Vm.Alike.refl U.vm) qK, qD⟩
/-- the places of a call's cells among the caller's: which are handed over, which stay, and the order behind it -/
def kPl (w w0 wr w1 w' : va_W) (isC isR pm : List Nat) : Prop :=
  isC.map (fun i => w[i]?) = w0.map some ∧ isR.map (fun i => w[i]?) = wr.map some ∧ va_nd isR = true ∧ (∀ i ∈ isR, i ∉ isC) ∧ va_nd isC = true ∧ va_nd pm = true ∧ pm.map (fun i => (wr ++ w1)[i]?) = w'.map some
theorem va_P.subm {D : va_G} {cl : List vw_C} {ws ws' : va_W} {H : Heap} (h : va_P D cl ws H) (is : List Nat) (hs : is.map (fun i => ws[i]?) = ws'.map some) : va_P D cl ws' H := by
  refine h.sub is ?_
  have h2 : (is.map (fun i => ws[i]?)).filterMap id = (ws'.map some).filterMap id := by rw [hs]
  simpa [List.filterMap_map, Function.comp_def] using h2
/-- as Met.ofW, for a class that has natives, where the method itself is none -/
theorem kOfW {l : Launch} {y : MethodName} {ws ws' : List Cond} {rm : Room} {Pc : Array Value → State → Prop} {Qc : Array Value → State → Outcome → State → Prop} {mc ms : Nat} {free : Addr → Prop} {cc : ByteArray} {maxL : Nat} {ret : Option FieldType}
    (hy : plainFor y = true) (hw : ws = Cond.code y cc maxL ret :: ws')
    (body : ∀ p e s m args below meth c s₁, BodyLoose p l y (headSpec ws rm) cc maxL ret e s m args below meth c s₁ → c.maxLocals = maxL → Pc args s →
      W p l e (headSpec ws rm).room s m args below meth c s.heap [] 0 0 (MQ below Qc args s mc ms free) (entryFrame m args maxL)) : Met l y ws rm Pc Qc mc ms free := by
  refine MetFree.of_bodySF (code := cc) (maxLocals := maxL) (ret := ret) hy ?_ ?_
  · intro args s m h hn
    obtain ⟨meth, c, h1, h2, h3, h4, h5, h6, -, -⟩ := Cond.code_spec hn (atoms_spec (ws := ws) h _ (by rw [hw]; exact List.mem_cons_self))
    exact ⟨meth, c, h1, h2, h3, h4, h5, h6⟩
  · intro p e s m args below meth c s₁ B hml hP _
    have hh0 : s₁.heap = s.heap := by rw [B.state]; rfl
    obtain ⟨t, a1, o, b1, b2, b3⟩ := body p e s m args below meth c s₁ B hml hP s₁ hh0 (Stand.of_body B)
    exact ⟨t, o, a1, b1, b2, ⟨b3.1, b3.2⟩⟩
section KC
variable {p : Program} {l : Launch} {e : Env} {R : Room} {s : State} {m : MethodId} {args : Array Value} {below : List Frame} {meth : Method} {c : Code} {H : Heap} {locs : List Loc} {cells slots : Nat} {Q : State → Prop}
  {G : va_G} {tys : List (ClassId × FieldType)} {y : MethodName} {ws ws' Ts : List Cond} {rm : Room} {as As : List Value} {w0 w1 w wr w' : va_W} {ri : Int32} {rd : UInt64} {cc bytes : ByteArray} {maxL nL index n : Nat} {lv : List (Nat × Value)}
  {own C : String} {ret : Option FieldType} {b : Addr} {rest st0 : List Value} {pc : Nat} {ls : Array Slot} {A : Nat → Prop}
theorem Ci.of (ty : FieldType) (hna : narrow ty (.int ri) = .int ri) (h0 : rm.cells = 0) (h1 : rm.slots = 0) (hy : plainFor y = true) (hw : ws = Cond.code y cc maxL (some ty) :: ws') (hn : (lg_sl as).length ≤ maxL) (hlv : lv_args 0 as = lv)
    (body : ∀ (p : Program) (e : Env) (s : State) (m : MethodId) (args : Array Value) (below : List Frame) (meth : Method) (c : Code) (A : Nat → Prop) (Q : State → Prop),
      p.tables.exec = Jvm.exec → c.code = cc → c.maxLocals = maxL → (∀ w ∈ ws, w.before args s = true) → s.vm.findClass y.cls = some m.cls → (∀ q : Nat, s.heap.size ≤ q → A q) → va_K G vwCl tys s → va_P G vwCl w0 s.heap → va_D A w0 → va_S A s.heap s.heap [] →
      (∀ (H : Heap) (locs : List Loc) (pc : Nat) (ls : Array Slot) (w : va_W) (v : Int32), decode cc pc = .ok (.ireturn, 1) → va_P G vwCl w H → va_D A w → va_S A s.heap H locs → v = ri → w = w1 → W p l e rm s m args below meth c H locs 0 0 Q (F0 m pc ls [.int v])) →
      ∀ ls : Array Slot, lv_has ls maxL lv → W p l e rm s m args below meth c s.heap [] 0 0 Q (F0 m 0 ls [])) : Ci l G tys y ws rm as w0 ri w1 := by
  obtain ⟨fr0, ce0, sl0, lo0⟩ := rm
  subst h0 h1
  intro sz
  refine kOfW (cc := cc) (maxL := maxL) (ret := some ty) hy hw ?_
  intro p e s m args below meth c s₁ B hml hv
  obtain ⟨rfl, hsz, hP, hK, hD0⟩ := hv
  subst hsz
  have hD := hD0.self (sz := s.heap.size)
  have hA : ∀ q : Nat, s.heap.size ≤ q → va_A w0 s.heap.size q := fun q h => Or.inr h
  have hl := lv_entry as (n := maxL) hn
  rw [hlv] at hl
  rw [lg_entry_eq]
  refine body p e s m as.toArray below meth c (va_A w0 s.heap.size) _ B.exec B.bytes hml (atoms_spec (ws := ws) B.pre) (findClass_of_methodNamed B.named) hA hK hP hD va_S.rf ?_ _ hl
  intro H locs pc ls w v hdg hP2 hD2 hS2 hv hw2
  subst hv hw2
  exact W.zret B.exec B.bytes B.returns hna (fun t ht hW => ⟨⟨_, (), rfl, rfl, by rw [ht]; exact hP2, va_K.moved hW.alike hK, hD2⟩, hS2.F ht⟩) hS2.2.2 hdg B.notSynchronized
theorem Cd.of (h0 : rm.cells = 0) (h1 : rm.slots = 0) (hy : plainFor y = true) (hw : ws = Cond.code y cc maxL (some .double) :: ws') (hn : (lg_sl as).length ≤ maxL) (hlv : lv_args 0 as = lv)
    (body : ∀ (p : Program) (e : Env) (s : State) (m : MethodId) (args : Array Value) (below : List Frame) (meth : Method) (c : Code) (A : Nat → Prop) (Q : State → Prop),
      p.tables.exec = Jvm.exec → c.code = cc → c.maxLocals = maxL → (∀ w ∈ ws, w.before args s = true) → s.vm.findClass y.cls = some m.cls → (∀ q : Nat, s.heap.size ≤ q → A q) → va_K G vwCl tys s → va_P G vwCl w0 s.heap → va_D A w0 → va_S A s.heap s.heap [] →
      (∀ (H : Heap) (locs : List Loc) (pc : Nat) (ls : Array Slot) (w : va_W) (v : UInt64), decode cc pc = .ok (.dreturn, 1) → va_P G vwCl w H → va_D A w → va_S A s.heap H locs → v = rd → w = w1 → W p l e rm s m args below meth c H locs 0 0 Q (F0 m pc ls [.double v])) →
      ∀ ls : Array Slot, lv_has ls maxL lv → W p l e rm s m args below meth c s.heap [] 0 0 Q (F0 m 0 ls [])) : Cd l G tys y ws rm as w0 rd w1 := by
  obtain ⟨fr0, ce0, sl0, lo0⟩ := rm
  subst h0 h1
  intro sz
  refine kOfW (cc := cc) (maxL := maxL) (ret := some .double) hy hw ?_
  intro p e s m args below meth c s₁ B hml hv
  obtain ⟨rfl, hsz, hP, hK, hD0⟩ := hv
  subst hsz
  have hD := hD0.self (sz := s.heap.size)
  have hA : ∀ q : Nat, s.heap.size ≤ q → va_A w0 s.heap.size q := fun q h => Or.inr h
  have hl := lv_entry as (n := maxL) hn
  rw [hlv] at hl
  rw [lg_entry_eq]
  refine body p e s m as.toArray below meth c (va_A w0 s.heap.size) _ B.exec B.bytes hml (atoms_spec (ws := ws) B.pre) (findClass_of_methodNamed B.named) hA hK hP hD va_S.rf ?_ _ hl
  intro H locs pc ls w v hdg hP2 hD2 hS2 hv hw2
  subst hv hw2
  have hlocks := B.notSynchronized
  exact W.dret B.exec B.bytes B.returns (fun t ht hW => ⟨⟨_, (), rfl, rfl, by rw [ht]; exact hP2, va_K.moved hW.alike hK, hD2⟩, hS2.F ht⟩) hS2.2.2 hdg
theorem Cv.of (h0 : rm.cells = 0) (h1 : rm.slots = 0) (hy : plainFor y = true) (hw : ws = Cond.code y cc maxL none :: ws') (hn : (lg_sl as).length ≤ maxL) (hlv : lv_args 0 as = lv)
    (body : ∀ (p : Program) (e : Env) (s : State) (m : MethodId) (args : Array Value) (below : List Frame) (meth : Method) (c : Code) (A : Nat → Prop) (Q : State → Prop),
      p.tables.exec = Jvm.exec → c.code = cc → c.maxLocals = maxL → (∀ w ∈ ws, w.before args s = true) → s.vm.findClass y.cls = some m.cls → (∀ q : Nat, s.heap.size ≤ q → A q) → va_K G vwCl tys s → va_P G vwCl w0 s.heap → va_D A w0 → va_S A s.heap s.heap [] →
      (∀ (H : Heap) (locs : List Loc) (pc : Nat) (ls : Array Slot) (w : va_W), decode cc pc = .ok (.return_, 1) → va_P G vwCl w H → va_D A w → va_S A s.heap H locs → w = w1 → W p l e rm s m args below meth c H locs 0 0 Q (F0 m pc ls [])) →
      ∀ ls : Array Slot, lv_has ls maxL lv → W p l e rm s m args below meth c s.heap [] 0 0 Q (F0 m 0 ls [])) : Cv l G tys y ws rm as w0 w1 := by
  obtain ⟨fr0, ce0, sl0, lo0⟩ := rm
  subst h0 h1
  intro sz
  refine kOfW (cc := cc) (maxL := maxL) (ret := none) hy hw ?_
  intro p e s m args below meth c s₁ B hml hv
  obtain ⟨rfl, hsz, hP, hK, hD0⟩ := hv
  subst hsz
  have hD := hD0.self (sz := s.heap.size)
  have hA : ∀ q : Nat, s.heap.size ≤ q → va_A w0 s.heap.size q := fun q h => Or.inr h
  have hl := lv_entry as (n := maxL) hn
  rw [hlv] at hl
  rw [lg_entry_eq]
  refine body p e s m as.toArray below meth c (va_A w0 s.heap.size) _ B.exec B.bytes hml (atoms_spec (ws := ws) B.pre) (findClass_of_methodNamed B.named) hA hK hP hD va_S.rf ?_ _ hl
  intro H locs pc ls w hdg hP2 hD2 hS2 hw2
  subst hw2
  have hlocks := B.notSynchronized
  exact W.vret B.exec B.bytes B.returns (fun t ht hW => ⟨⟨(), rfl, trivial, by rw [ht]; exact hP2, va_K.moved hW.alike hK, hD2⟩, hS2.F ht⟩) hS2.2.2 hdg
theorem kJoin {H1 : Heap} {isC isR pm : List Nat} (hpl : kPl w w0 wr w1 w' isC isR pm) (hP : va_P G vwCl w H) (hD : va_D A w) (hS : va_S A s.heap H locs) (hA : ∀ q : Nat, s.heap.size ≤ q → A q)
    (hk : ∀ q : Nat, q < H.size → ¬ va_A w0 H.size q → H1[q]? = H[q]?) (hP1 : va_P G vwCl w1 H1) (hD1 : va_D (va_A w0 H.size) w1) : va_P G vwCl w' H1 ∧ va_D A w' := by
  obtain ⟨h1, h2, h3, h4, h5, h6, h7⟩ := hpl
  obtain ⟨a, b⟩ := va_join hP hD isC isR h1 h2 h3 h4 hk (va_free hD hS hA isC h1) hP1 hD1
  exact ⟨a.subm pm h7, b.sub pm h6 h7⟩
theorem kVi (hc : Ci l G tys y ws rm (.ref b :: As) w0 ri w1) (S : CallFix p m c cc nL s args Ts own) (cw : CallW R s args own C index y bytes maxL ret ws rm rm.cells rm.slots n)
    (hK : va_K G vwCl tys s) (hP : va_P G vwCl w H) (hD : va_D A w) (hS : va_S A s.heap H locs) (hA : ∀ q : Nat, s.heap.size ≤ q → A q) {isC isR pm : List Nat} (hpl : kPl w w0 wr w1 w' isC isR pm)
    (ci q0 : Nat) {T : u_T} {N : Nat} {fs : List Value} (hcl : vwCl[ci]? = some (C, T, N)) (he : w[q0]? = some (b, .inr (ci, fs)))
    (hn : As.length = n) (hsize : ls.size = nL) (hst : st0 = As.reverse ++ .ref b :: rest) (hW : (rest.map fun v => v.category).sum ≤ 8) (hdg : decode cc pc = .ok (.invokevirtual index, 3)) (hf : cells ≤ R.cells ∧ slots ≤ R.slots)
    (h0 : rm.cells = 0) (h1 : rm.slots = 0) (kk : ∀ (H1 : Heap) (locs1 : List Loc), va_P G vwCl w' H1 → va_D A w' → va_S A s.heap H1 locs1 → W p l e R s m args below meth c H1 locs1 cells slots Q (F0 m (pc + 3) ls (.int ri :: rest))) :
    W p l e R s m args below meth c H locs cells slots Q (F0 m pc ls st0) := by
  obtain ⟨fr0, ce0, sl0, lo0⟩ := rm
  subst h0 h1
  have hF := va_free hD hS hA isC hpl.1
  have hPc := hP.subm isC hpl.1
  have hDc := hD.sub isC hpl.2.2.2.2.1 hpl.1
  refine va_calli (va_runV (As := As) (rest := rest) S (hc H.size) cw ⟨kBlind _ _ _ _ _, va_recv hK hP hcl he, fun U hU hW => ⟨rfl, by rw [hU], by rw [hU]; exact hPc, va_K.moved hW.alike hK, hDc.weaken (fun _ _ _ _ => trivial)⟩⟩ rfl hn hsize hst (lv_room hW) hdg hf) hS (fun q _ h => hF q h) hF (fun r u t H1 locs1 ht hvm hw hB hz1 hk1 hS1 => ?_)
  subst hw
  obtain ⟨hP1, -, hD1⟩ := hB
  rw [ht] at hP1
  obtain ⟨hP2, hD2⟩ := kJoin hpl hP hD hS hA hk1 hP1 hD1
  exact kk H1 locs1 hP2 hD2 hS1
theorem kVd (hc : Cd l G tys y ws rm (.ref b :: As) w0 rd w1) (S : CallFix p m c cc nL s args Ts own) (cw : CallW R s args own C index y bytes maxL ret ws rm rm.cells rm.slots n)
    (hK : va_K G vwCl tys s) (hP : va_P G vwCl w H) (hD : va_D A w) (hS : va_S A s.heap H locs) (hA : ∀ q : Nat, s.heap.size ≤ q → A q) {isC isR pm : List Nat} (hpl : kPl w w0 wr w1 w' isC isR pm)
    (ci q0 : Nat) {T : u_T} {N : Nat} {fs : List Value} (hcl : vwCl[ci]? = some (C, T, N)) (he : w[q0]? = some (b, .inr (ci, fs)))
    (hn : As.length = n) (hsize : ls.size = nL) (hst : st0 = As.reverse ++ .ref b :: rest) (hW : (rest.map fun v => v.category).sum ≤ 8) (hdg : decode cc pc = .ok (.invokevirtual index, 3)) (hf : cells ≤ R.cells ∧ slots ≤ R.slots)
    (h0 : rm.cells = 0) (h1 : rm.slots = 0) (kk : ∀ (H1 : Heap) (locs1 : List Loc), va_P G vwCl w' H1 → va_D A w' → va_S A s.heap H1 locs1 → W p l e R s m args below meth c H1 locs1 cells slots Q (F0 m (pc + 3) ls (.double rd :: rest))) :
    W p l e R s m args below meth c H locs cells slots Q (F0 m pc ls st0) := by
  obtain ⟨fr0, ce0, sl0, lo0⟩ := rm
  subst h0 h1
  have hF := va_free hD hS hA isC hpl.1
  have hPc := hP.subm isC hpl.1
  have hDc := hD.sub isC hpl.2.2.2.2.1 hpl.1
  refine va_calld (va_runV (As := As) (rest := rest) S (hc H.size) cw ⟨kBlind _ _ _ _ _, va_recv hK hP hcl he, fun U hU hW => ⟨rfl, by rw [hU], by rw [hU]; exact hPc, va_K.moved hW.alike hK, hDc.weaken (fun _ _ _ _ => trivial)⟩⟩ rfl hn hsize hst (lv_room hW) hdg hf) hS (fun q _ h => hF q h) hF (fun r u t H1 locs1 ht hvm hw hB hz1 hk1 hS1 => ?_)
  subst hw
  obtain ⟨hP1, -, hD1⟩ := hB
  rw [ht] at hP1
  obtain ⟨hP2, hD2⟩ := kJoin hpl hP hD hS hA hk1 hP1 hD1
  exact kk H1 locs1 hP2 hD2 hS1
theorem kVv (hc : Cv l G tys y ws rm (.ref b :: As) w0 w1) (S : CallFix p m c cc nL s args Ts own) (cw : CallW R s args own C index y bytes maxL ret ws rm rm.cells rm.slots n)
    (hK : va_K G vwCl tys s) (hP : va_P G vwCl w H) (hD : va_D A w) (hS : va_S A s.heap H locs) (hA : ∀ q : Nat, s.heap.size ≤ q → A q) {isC isR pm : List Nat} (hpl : kPl w w0 wr w1 w' isC isR pm)
    (ci q0 : Nat) {T : u_T} {N : Nat} {fs : List Value} (hcl : vwCl[ci]? = some (C, T, N)) (he : w[q0]? = some (b, .inr (ci, fs)))
    (hn : As.length = n) (hsize : ls.size = nL) (hst : st0 = As.reverse ++ .ref b :: rest) (hW : (rest.map fun v => v.category).sum ≤ 8) (hdg : decode cc pc = .ok (.invokevirtual index, 3)) (hf : cells ≤ R.cells ∧ slots ≤ R.slots)
    (h0 : rm.cells = 0) (h1 : rm.slots = 0) (kk : ∀ (H1 : Heap) (locs1 : List Loc), va_P G vwCl w' H1 → va_D A w' → va_S A s.heap H1 locs1 → W p l e R s m args below meth c H1 locs1 cells slots Q (F0 m (pc + 3) ls rest)) :
    W p l e R s m args below meth c H locs cells slots Q (F0 m pc ls st0) := by
  obtain ⟨fr0, ce0, sl0, lo0⟩ := rm
  subst h0 h1
  have hF := va_free hD hS hA isC hpl.1
  have hPc := hP.subm isC hpl.1
  have hDc := hD.sub isC hpl.2.2.2.2.1 hpl.1
  refine va_callv (va_runV (As := As) (rest := rest) S (hc H.size) cw ⟨kBlind _ _ _ _ _, va_recv hK hP hcl he, fun U hU hW => ⟨rfl, by rw [hU], by rw [hU]; exact hPc, va_K.moved hW.alike hK, hDc.weaken (fun _ _ _ _ => trivial)⟩⟩ rfl hn hsize hst (lv_room hW) hdg hf) hS (fun q _ h => hF q h) hF (fun u t H1 locs1 ht hvm hw hB hz1 hk1 hS1 => ?_)
  obtain ⟨hP1, -, hD1⟩ := hB
  rw [ht] at hP1
  obtain ⟨hP2, hD2⟩ := kJoin hpl hP hD hS hA hk1 hP1 hD1
  exact kk H1 locs1 hP2 hD2 hS1
/-- a static callee: no cells of its own -/
theorem kSi (hc : Ci l G tys y ws rm As [] ri []) (S : CallFix p m c cc nL s args Ts own) (cw : CallB R s args own index y bytes maxL ret ws rm rm.cells rm.slots n ∧ (Cond.static y).before args s = true)
    (hK : va_K G vwCl tys s) (hP : va_P G vwCl w H) (hD : va_D A w) (hS : va_S A s.heap H locs) (hA : ∀ q : Nat, s.heap.size ≤ q → A q)
    (hn : As.length = n) (hsize : ls.size = nL) (hst : st0 = As.reverse ++ rest) (hW : (rest.map fun v => v.category).sum ≤ 8) (hdg : decode cc pc = .ok (.invokestatic index, 3)) (hf : cells ≤ R.cells ∧ slots ≤ R.slots)
    (h0 : rm.cells = 0) (h1 : rm.slots = 0) (kk : ∀ (H1 : Heap) (locs1 : List Loc), va_P G vwCl w H1 → va_D A w → va_S A s.heap H1 locs1 → W p l e R s m args below meth c H1 locs1 cells slots Q (F0 m (pc + 3) ls (.int ri :: rest))) :
    W p l e R s m args below meth c H locs cells slots Q (F0 m pc ls st0) := by
  obtain ⟨fr0, ce0, sl0, lo0⟩ := rm
  subst h0 h1
  have hF := va_free (wc := []) hD hS hA [] rfl
  refine va_calli (va_runS (As := As) (rest := rest) S (hc H.size) cw ⟨kBlind _ _ _ _ _, fun U hU hW => ⟨rfl, by rw [hU], fun k q h => by simp at h, va_K.moved hW.alike hK, ⟨fun i j p q h => by simp at h, fun k q h => by simp at h⟩⟩⟩ rfl hn hsize hst (lv_room hW) hdg hf) hS (fun q _ h => hF q h) hF (fun r u t H1 locs1 ht hvm hw hB hz1 hk1 hS1 => ?_)
  subst hw
  refine kk H1 locs1 (hP.kept fun k q hq => hk1 q.1 ((hP k q hq).lt) ?_) hD hS1
  rintro (⟨k2, e2, h2⟩ | h2)
  · simp at h2
  · have := (hP k q hq).lt
    omega
theorem kSd (hc : Cd l G tys y ws rm As [] rd []) (S : CallFix p m c cc nL s args Ts own) (cw : CallB R s args own index y bytes maxL ret ws rm rm.cells rm.slots n ∧ (Cond.static y).before args s = true)
    (hK : va_K G vwCl tys s) (hP : va_P G vwCl w H) (hD : va_D A w) (hS : va_S A s.heap H locs) (hA : ∀ q : Nat, s.heap.size ≤ q → A q)
    (hn : As.length = n) (hsize : ls.size = nL) (hst : st0 = As.reverse ++ rest) (hW : (rest.map fun v => v.category).sum ≤ 8) (hdg : decode cc pc = .ok (.invokestatic index, 3)) (hf : cells ≤ R.cells ∧ slots ≤ R.slots)
    (h0 : rm.cells = 0) (h1 : rm.slots = 0) (kk : ∀ (H1 : Heap) (locs1 : List Loc), va_P G vwCl w H1 → va_D A w → va_S A s.heap H1 locs1 → W p l e R s m args below meth c H1 locs1 cells slots Q (F0 m (pc + 3) ls (.double rd :: rest))) :
    W p l e R s m args below meth c H locs cells slots Q (F0 m pc ls st0) := by
  obtain ⟨fr0, ce0, sl0, lo0⟩ := rm
  subst h0 h1
  have hF := va_free (wc := []) hD hS hA [] rfl
  refine va_calld (va_runS (As := As) (rest := rest) S (hc H.size) cw ⟨kBlind _ _ _ _ _, fun U hU hW => ⟨rfl, by rw [hU], fun k q h => by simp at h, va_K.moved hW.alike hK, ⟨fun i j p q h => by simp at h, fun k q h => by simp at h⟩⟩⟩ rfl hn hsize hst (lv_room hW) hdg hf) hS (fun q _ h => hF q h) hF (fun r u t H1 locs1 ht hvm hw hB hz1 hk1 hS1 => ?_)
  subst hw
  refine kk H1 locs1 (hP.kept fun k q hq => hk1 q.1 ((hP k q hq).lt) ?_) hD hS1
  rintro (⟨k2, e2, h2⟩ | h2)
  · simp at h2
  · have := (hP k q hq).lt
    omega
theorem kTopI {x z : Int32} (h : x = z) (kk : W p l e R s m args below meth c H locs cells slots Q (F0 m pc ls (.int z :: rest))) : W p l e R s m args below meth c H locs cells slots Q (F0 m pc ls (.int x :: rest)) := by rw [h]; exact kk
theorem kTopD {x z : UInt64} (h : x = z) (kk : W p l e R s m args below meth c H locs cells slots Q (F0 m pc ls (.double z :: rest))) : W p l e R s m args below meth c H locs cells slots Q (F0 m pc ls (.double x :: rest)) := by rw [h]; exact kk
theorem kGe {a n : Nat} (ha : a < 2 ^ 31) (hn : n < 2 ^ 31) (hexec : p.tables.exec = Jvm.exec) (hb : c.code = cc) {off : Int} {tgt : Nat} (hdg : decode cc pc = .ok (.if_icmp .ge off, 3)) (ht : (pc : Int) + off = (tgt : Int))
    (kt : n ≤ a → W p l e R s m args below meth c H locs cells slots Q (F0 m tgt ls rest)) (kf : a < n → W p l e R s m args below meth c H locs cells slots Q (F0 m (pc + 3) ls rest)) : W p l e R s m args below meth c H locs cells slots Q (F0 m pc ls (.int (nI n) :: .int (nI a) :: rest)) :=
  lv_icmp_ge hexec hb hdg ht (fun h => kt ((nI_leI hn ha).mp h)) (fun h => kf (Nat.lt_of_not_le fun q => h ((nI_leI hn ha).mpr q)))
end KC
end
section
/-! WORDS OF MY OWN for what the methods answer; rows on them -/
def b2i (b : Bool) : Int32 := if b then 1 else 0
theorem nar_b2i (b : Bool) : narrow .boolean (.int (b2i b)) = .int (b2i b) := by cases b <;> decide +kernel
theorem b2i_eq0 (b : Bool) : b2i b = 0 ↔ b = false := by cases b <;> decide
theorem b2i_t : b2i true = 1 := rfl
theorem b2i_f : b2i false = 0 := rfl
section KD
variable {p : Program} {l : Launch} {e : Env} {R : Room} {s : State} {m : MethodId} {args : Array Value} {below : List Frame} {meth : Method} {c : Code} {H : Heap} {locs : List Loc} {cells slots : Nat} {Q : State → Prop}
  {cc : ByteArray} {rest : List Value} {pc : Nat} {ls : Array Slot}
theorem kIfEqB {b : Bool} (hexec : p.tables.exec = Jvm.exec) (hb : c.code = cc) {off : Int} {tgt : Nat} (hdg : decode cc pc = .ok (.ifCond .eq off, 3)) (ht : (pc : Int) + off = (tgt : Int))
    (kt : b = false → W p l e R s m args below meth c H locs cells slots Q (F0 m tgt ls rest)) (kf : b = true → W p l e R s m args below meth c H locs cells slots Q (F0 m (pc + 3) ls rest)) : W p l e R s m args below meth c H locs cells slots Q (F0 m pc ls (.int (b2i b) :: rest)) :=
  lv_if_eq hexec hb hdg ht (fun h => kt ((b2i_eq0 b).mp h)) (fun h => kf (by cases b <;> simp_all [b2i]))
theorem kIfNeB {b : Bool} (hexec : p.tables.exec = Jvm.exec) (hb : c.code = cc) {off : Int} {tgt : Nat} (hdg : decode cc pc = .ok (.ifCond .ne off, 3)) (ht : (pc : Int) + off = (tgt : Int))
    (kt : b = true → W p l e R s m args below meth c H locs cells slots Q (F0 m tgt ls rest)) (kf : b = false → W p l e R s m args below meth c H locs cells slots Q (F0 m (pc + 3) ls rest)) : W p l e R s m args below meth c H locs cells slots Q (F0 m pc ls (.int (b2i b) :: rest)) :=
  lv_if_ne hexec hb hdg ht (fun h => kt (by cases b <;> simp_all [b2i])) (fun h => kf ((b2i_eq0 b).mp h))
end KD
theorem kSw3 {x : Int32} (h0 : ¬ x = 0) (h1 : ¬ x = 1) (h2 : ¬ x = 2) : x.toInt < 0 ∨ 2 < x.toInt := by
  have a0 : x.toInt ≠ 0 := fun h => h0 (Int32.toInt.inj (by rw [h]; rfl))
  have a1 : x.toInt ≠ 1 := fun h => h1 (Int32.toInt.inj (by rw [h]; rfl))
  have a2 : x.toInt ≠ 2 := fun h => h2 (Int32.toInt.inj (by rw [h]; rfl))
  omega
theorem kSw5 {x : Int32} (h0 : ¬ x = 0) (h1 : ¬ x = 1) (h2 : ¬ x = 2) (h3 : ¬ x = 3) (h4 : ¬ x = 4) : x.toInt < 0 ∨ 4 < x.toInt := by
  have a3 : x.toInt ≠ 3 := fun h => h3 (Int32.toInt.inj (by rw [h]; rfl))
  have a4 : x.toInt ≠ 4 := fun h => h4 (Int32.toInt.inj (by rw [h]; rfl))
  have := kSw3 h0 h1 h2
  omega
def sUshr (x y : Int32) : Int32 := (x.toUInt32 >>> (y.toUInt32 &&& Int32.toUInt32 31)).toInt32
def sumI (f : Nat → Int32) : Nat → Int32
  | 0 => 0
  | n + 1 => sumI f n + f n
def mapN (f : Nat → Int32 → Int32) (B : Nat → Int32) (i : Nat) : Nat → Int32 := fun k => if k < i then f k (B k) else B k
theorem mapN_0 (f : Nat → Int32 → Int32) (B : Nat → Int32) : mapN f B 0 = B := by funext k; simp [mapN]
theorem mapN_at (f : Nat → Int32 → Int32) (B : Nat → Int32) (i : Nat) : mapN f B i i = B i := by simp [mapN]
theorem mapN_s (f : Nat → Int32 → Int32) (B : Nat → Int32) (i : Nat) : upd (mapN f B i) i (f i (B i)) = mapN f B (i + 1) := by
  funext k
  unfold upd mapN
  by_cases h : k = i
  · subst h; simp
  · have h2 : k < i + 1 ↔ k < i := by omega
    simp [h, h2]
def midF (w : Nat) : UInt64 := FP.ddiv (FP.i2d (nI w - 1)) 4611686018427387904
/-! the picture -/
def hasB (w h : Nat) (x y : Int32) : Bool := if x < 0 then false else if nI w ≤ x then false else if y < 0 then false else if nI h ≤ y then false else true
def rowF (B : Nat → Int32) (y : Int32) : Int32 := if y < 0 then 0 else if nI 24 ≤ y then 0 else B y.toNatClampNeg
def setF (B : Nat → Int32) (y v : Int32) : Nat → Int32 := if y < 0 then B else if nI 24 ≤ y then B else upd B y.toNatClampNeg v
theorem rowF_nI (B : Nat → Int32) {i : Nat} (h : i < 24) : rowF B (nI i) = B i := by
  unfold rowF
  rw [if_neg (nI_pos (by omega)), if_neg (nI_ge h (by omega)), nI_clamp (by omega)]
theorem setF_nI (B : Nat → Int32) (v : Int32) {i : Nat} (h : i < 24) : setF B (nI i) v = upd B i v := by
  unfold setF
  rw [if_neg (nI_pos (by omega)), if_neg (nI_ge h (by omega)), nI_clamp (by omega)]
def isOnB (w h : Nat) (B : Nat → Int32) (x y : Int32) : Bool := if hasB w h x y = true then (if sUshr (rowF B y) x &&& 1 = 0 then false else true) else false
def bitsOfF (k : Int32) : Int32 := 1 <<< (k &&& 31) - 1
theorem vp_in_24 {y : Int32} (h0 : ¬ y < 0) (h1 : ¬ nI 24 ≤ y) : vp_in y 24 := by
  rcases pk_ix y (n := 24) (by omega) with h | h | ⟨j, hj, rfl⟩
  · exact absurd h h0
  · exact absurd h h1
  · exact vp_in_nI hj (by omega)
def pc1 (x : Int32) : Int32 := x - (sUshr x 1 &&& 1431655765)
def pc2 (x : Int32) : Int32 := (x &&& 858993459) + (sUshr x 2 &&& 858993459)
def pc3 (x : Int32) : Int32 := (x + sUshr x 4) &&& 252645135
def pc4 (x : Int32) : Int32 := x + sUshr x 8
def pc5 (x : Int32) : Int32 := x + sUshr x 16
def popc (x : Int32) : Int32 := pc5 (pc4 (pc3 (pc2 (pc1 x)))) &&& 63
def endsF (r : Int32) : Int32 := r &&& (sUshr r 1 ^^^ (-1))
def floorF (x y : Int32) : Int32 := if 0 ≤ x ^^^ y then x - x / y * y else if x - x / y * y = 0 then x - x / y * y else (x - x / y * y) + y
def wrapF (x y : Int32) : Int32 := if 1 ≤ y then floorF x y else 0
def movF (w : Nat) (r b : Int32) : Int32 := ((r <<< (wrapF b (nI w) &&& 31)) ||| sUshr r (nI w - wrapF b (nI w))) &&& bitsOfF (nI w)
def minF (x y : Int32) : Int32 := if y < x then y else x
def reachF (w : Nat) (x n : Int32) : Int32 := bitsOfF (minF n (nI w - x)) <<< (x &&& 31)
def paintF (on : Int32) (b r : Int32) : Int32 := if on = 0 then b &&& (r ^^^ (-1)) else b ||| r
def fillOk (w h : Nat) (x y n : Int32) : Bool := if hasB w h x y = false then false else if 1 ≤ n then true else false
def fillN (w h : Nat) (B : Nat → Int32) (x y n on : Int32) : Int32 := if fillOk w h x y n = false then 0 else popc (rowF B y ^^^ paintF on (rowF B y) (reachF w x n))
def fillB (w h : Nat) (B : Nat → Int32) (x y n on : Int32) : Nat → Int32 := if fillOk w h x y n = false then B else setF B y (paintF on (rowF B y) (reachF w x n))
def cntOn (B : Nat → Int32) (h : Nat) : Int32 := sumI (fun y => popc (B y)) h
def cntEnds (B : Nat → Int32) (h : Nat) : Int32 := sumI (fun y => popc (endsF (B y))) h
theorem hs_J6_bitCount_0f7a4 : yJ6_bitCount_0f7a4.cls ≠ "java/lang/invoke/MethodHandle" ∧ yJ6_bitCount_0f7a4.cls ≠ "java/lang/invoke/VarHandle" ∧ (parseMethodDescriptor yJ6_bitCount_0f7a4.desc).map (fun d => d.parameters.length) = some 1 := by decide +kernel
theorem hs_J9_floorMod_7cf53 : yJ9_floorMod_7cf53.cls ≠ "java/lang/invoke/MethodHandle" ∧ yJ9_floorMod_7cf53.cls ≠ "java/lang/invoke/VarHandle" ∧ (parseMethodDescriptor yJ9_floorMod_7cf53.desc).map (fun d => d.parameters.length) = some 2 := by decide +kernel
theorem hs_L_angle : yL_angle.cls ≠ "java/lang/invoke/MethodHandle" ∧ yL_angle.cls ≠ "java/lang/invoke/VarHandle" ∧ (parseMethodDescriptor yL_angle.desc).map (fun d => d.parameters.length) = some 3 := by decide +kernel
theorem hs_L_at : yL_at.cls ≠ "java/lang/invoke/MethodHandle" ∧ yL_at.cls ≠ "java/lang/invoke/VarHandle" ∧ (parseMethodDescriptor yL_at.desc).map (fun d => d.parameters.length) = some 4 := by decide +kernel
theorem hs_L_band : yL_band.cls ≠ "java/lang/invoke/MethodHandle" ∧ yL_band.cls ≠ "java/lang/invoke/VarHandle" ∧ (parseMethodDescriptor yL_band.desc).map (fun d => d.parameters.length) = some 4 := by decide +kernel
theorem hs_L_cell : yL_cell.cls ≠ "java/lang/invoke/MethodHandle" ∧ yL_cell.cls ≠ "java/lang/invoke/VarHandle" ∧ (parseMethodDescriptor yL_cell.desc).map (fun d => d.parameters.length) = some 2 := by decide +kernel
theorem hs_L_crop : yL_crop.cls ≠ "java/lang/invoke/MethodHandle" ∧ yL_crop.cls ≠ "java/lang/invoke/VarHandle" ∧ (parseMethodDescriptor yL_crop.desc).map (fun d => d.parameters.length) = some 3 := by decide +kernel
theorem hs_L_line : yL_line.cls ≠ "java/lang/invoke/MethodHandle" ∧ yL_line.cls ≠ "java/lang/invoke/VarHandle" ∧ (parseMethodDescriptor yL_line.desc).map (fun d => d.parameters.length) = some 4 := by decide +kernel
theorem hs_L_mean : yL_mean.cls ≠ "java/lang/invoke/MethodHandle" ∧ yL_mean.cls ≠ "java/lang/invoke/VarHandle" ∧ (parseMethodDescriptor yL_mean.desc).map (fun d => d.parameters.length) = some 2 := by decide +kernel
theorem hs_L_put : yL_put.cls ≠ "java/lang/invoke/MethodHandle" ∧ yL_put.cls ≠ "java/lang/invoke/VarHandle" ∧ (parseMethodDescriptor yL_put.desc).map (fun d => d.parameters.length) = some 6 := by decide +kernel
theorem hs_L_size : yL_size.cls ≠ "java/lang/invoke/MethodHandle" ∧ yL_size.cls ≠ "java/lang/invoke/VarHandle" ∧ (parseMethodDescriptor yL_size.desc).map (fun d => d.parameters.length) = some 3 := by decide +kernel
theorem hs_L_sum : yL_sum.cls ≠ "java/lang/invoke/MethodHandle" ∧ yL_sum.cls ≠ "java/lang/invoke/VarHandle" ∧ (parseMethodDescriptor yL_sum.desc).map (fun d => d.parameters.length) = some 3 := by decide +kernel
theorem hs_L_sure : yL_sure.cls ≠ "java/lang/invoke/MethodHandle" ∧ yL_sure.cls ≠ "java/lang/invoke/VarHandle" ∧ (parseMethodDescriptor yL_sure.desc).map (fun d => d.parameters.length) = some 2 := by decide +kernel
theorem hs_L_turn : yL_turn.cls ≠ "java/lang/invoke/MethodHandle" ∧ yL_turn.cls ≠ "java/lang/invoke/VarHandle" ∧ (parseMethodDescriptor yL_turn.desc).map (fun d => d.parameters.length) = some 4 := by decide +kernel
theorem hs_X0_bitsOf : yX0_bitsOf.cls ≠ "java/lang/invoke/MethodHandle" ∧ yX0_bitsOf.cls ≠ "java/lang/invoke/VarHandle" ∧ (parseMethodDescriptor yX0_bitsOf.desc).map (fun d => d.parameters.length) = some 1 := by decide +kernel
theorem hd_X0_fill : yX0_fill.cls = RX0 ∧ yX0_fill.cls ≠ "java/lang/invoke/MethodHandle" ∧ yX0_fill.cls ≠ "java/lang/invoke/VarHandle" ∧ (parseMethodDescriptor yX0_fill.desc).map (fun d => d.parameters.length) = some 4 := by decide +kernel
theorem hd_X0_has : yX0_has.cls = RX0 ∧ yX0_has.cls ≠ "java/lang/invoke/MethodHandle" ∧ yX0_has.cls ≠ "java/lang/invoke/VarHandle" ∧ (parseMethodDescriptor yX0_has.desc).map (fun d => d.parameters.length) = some 2 := by decide +kernel
theorem hd_X0_isOn : yX0_isOn.cls = RX0 ∧ yX0_isOn.cls ≠ "java/lang/invoke/MethodHandle" ∧ yX0_isOn.cls ≠ "java/lang/invoke/VarHandle" ∧ (parseMethodDescriptor yX0_isOn.desc).map (fun d => d.parameters.length) = some 2 := by decide +kernel
theorem hd_X0_keepOldBits : yX0_keepOldBits.cls = RX0 ∧ yX0_keepOldBits.cls ≠ "java/lang/invoke/MethodHandle" ∧ yX0_keepOldBits.cls ≠ "java/lang/invoke/VarHandle" ∧ (parseMethodDescriptor yX0_keepOldBits.desc).map (fun d => d.parameters.length) = some 0 := by decide +kernel
theorem hd_X0_movedRight : yX0_movedRight.cls = RX0 ∧ yX0_movedRight.cls ≠ "java/lang/invoke/MethodHandle" ∧ yX0_movedRight.cls ≠ "java/lang/invoke/VarHandle" ∧ (parseMethodDescriptor yX0_movedRight.desc).map (fun d => d.parameters.length) = some 2 := by decide +kernel
theorem hd_X0_oldRowBits : yX0_oldRowBits.cls = RX0 ∧ yX0_oldRowBits.cls ≠ "java/lang/invoke/MethodHandle" ∧ yX0_oldRowBits.cls ≠ "java/lang/invoke/VarHandle" ∧ (parseMethodDescriptor yX0_oldRowBits.desc).map (fun d => d.parameters.length) = some 1 := by decide +kernel
theorem hd_X0_rowBits : yX0_rowBits.cls = RX0 ∧ yX0_rowBits.cls ≠ "java/lang/invoke/MethodHandle" ∧ yX0_rowBits.cls ≠ "java/lang/invoke/VarHandle" ∧ (parseMethodDescriptor yX0_rowBits.desc).map (fun d => d.parameters.length) = some 1 := by decide +kernel
theorem hd_X0_runEndBits : yX0_runEndBits.cls = RX0 ∧ yX0_runEndBits.cls ≠ "java/lang/invoke/MethodHandle" ∧ yX0_runEndBits.cls ≠ "java/lang/invoke/VarHandle" ∧ (parseMethodDescriptor yX0_runEndBits.desc).map (fun d => d.parameters.length) = some 1 := by decide +kernel
theorem hd_X0_runEnds : yX0_runEnds.cls = RX0 ∧ yX0_runEnds.cls ≠ "java/lang/invoke/MethodHandle" ∧ yX0_runEnds.cls ≠ "java/lang/invoke/VarHandle" ∧ (parseMethodDescriptor yX0_runEnds.desc).map (fun d => d.parameters.length) = some 0 := by decide +kernel
theorem hd_X0_sampledRow : yX0_sampledRow.cls = RX0 ∧ yX0_sampledRow.cls ≠ "java/lang/invoke/MethodHandle" ∧ yX0_sampledRow.cls ≠ "java/lang/invoke/VarHandle" ∧ (parseMethodDescriptor yX0_sampledRow.desc).map (fun d => d.parameters.length) = some 3 := by decide +kernel
theorem hd_X0_samplesOn : yX0_samplesOn.cls = RX0 ∧ yX0_samplesOn.cls ≠ "java/lang/invoke/MethodHandle" ∧ yX0_samplesOn.cls ≠ "java/lang/invoke/VarHandle" ∧ (parseMethodDescriptor yX0_samplesOn.desc).map (fun d => d.parameters.length) = some 0 := by decide +kernel
theorem hd_X0_setRowBits : yX0_setRowBits.cls = RX0 ∧ yX0_setRowBits.cls ≠ "java/lang/invoke/MethodHandle" ∧ yX0_setRowBits.cls ≠ "java/lang/invoke/VarHandle" ∧ (parseMethodDescriptor yX0_setRowBits.desc).map (fun d => d.parameters.length) = some 2 := by decide +kernel
theorem hd_X0_shearAll : yX0_shearAll.cls = RX0 ∧ yX0_shearAll.cls ≠ "java/lang/invoke/MethodHandle" ∧ yX0_shearAll.cls ≠ "java/lang/invoke/VarHandle" ∧ (parseMethodDescriptor yX0_shearAll.desc).map (fun d => d.parameters.length) = some 2 := by decide +kernel
theorem hd_X0_shearColumns : yX0_shearColumns.cls = RX0 ∧ yX0_shearColumns.cls ≠ "java/lang/invoke/MethodHandle" ∧ yX0_shearColumns.cls ≠ "java/lang/invoke/VarHandle" ∧ (parseMethodDescriptor yX0_shearColumns.desc).map (fun d => d.parameters.length) = some 2 := by decide +kernel
theorem hd_X0_shearRows : yX0_shearRows.cls = RX0 ∧ yX0_shearRows.cls ≠ "java/lang/invoke/MethodHandle" ∧ yX0_shearRows.cls ≠ "java/lang/invoke/VarHandle" ∧ (parseMethodDescriptor yX0_shearRows.desc).map (fun d => d.parameters.length) = some 2 := by decide +kernel
theorem hd_X0_turnBackByShears : yX0_turnBackByShears.cls = RX0 ∧ yX0_turnBackByShears.cls ≠ "java/lang/invoke/MethodHandle" ∧ yX0_turnBackByShears.cls ≠ "java/lang/invoke/VarHandle" ∧ (parseMethodDescriptor yX0_turnBackByShears.desc).map (fun d => d.parameters.length) = some 1 := by decide +kernel
theorem hd_X0_turnBySampling : yX0_turnBySampling.cls = RX0 ∧ yX0_turnBySampling.cls ≠ "java/lang/invoke/MethodHandle" ∧ yX0_turnBySampling.cls ≠ "java/lang/invoke/VarHandle" ∧ (parseMethodDescriptor yX0_turnBySampling.desc).map (fun d => d.parameters.length) = some 1 := by decide +kernel
theorem hd_X0_turnByShears : yX0_turnByShears.cls = RX0 ∧ yX0_turnByShears.cls ≠ "java/lang/invoke/MethodHandle" ∧ yX0_turnByShears.cls ≠ "java/lang/invoke/VarHandle" ∧ (parseMethodDescriptor yX0_turnByShears.desc).map (fun d => d.parameters.length) = some 1 := by decide +kernel
theorem hd_X0_wipe : yX0_wipe.cls = RX0 ∧ yX0_wipe.cls ≠ "java/lang/invoke/MethodHandle" ∧ yX0_wipe.cls ≠ "java/lang/invoke/VarHandle" ∧ (parseMethodDescriptor yX0_wipe.desc).map (fun d => d.parameters.length) = some 0 := by decide +kernel
theorem hs_X1_cosine : yX1_cosine.cls ≠ "java/lang/invoke/MethodHandle" ∧ yX1_cosine.cls ≠ "java/lang/invoke/VarHandle" ∧ (parseMethodDescriptor yX1_cosine.desc).map (fun d => d.parameters.length) = some 1 := by decide +kernel
theorem hs_X1_radians : yX1_radians.cls ≠ "java/lang/invoke/MethodHandle" ∧ yX1_radians.cls ≠ "java/lang/invoke/VarHandle" ∧ (parseMethodDescriptor yX1_radians.desc).map (fun d => d.parameters.length) = some 1 := by decide +kernel
theorem hs_X1_sine : yX1_sine.cls ≠ "java/lang/invoke/MethodHandle" ∧ yX1_sine.cls ≠ "java/lang/invoke/VarHandle" ∧ (parseMethodDescriptor yX1_sine.desc).map (fun d => d.parameters.length) = some 1 := by decide +kernel
theorem hs_X1_slope : yX1_slope.cls ≠ "java/lang/invoke/MethodHandle" ∧ yX1_slope.cls ≠ "java/lang/invoke/VarHandle" ∧ (parseMethodDescriptor yX1_slope.desc).map (fun d => d.parameters.length) = some 1 := by decide +kernel
theorem hs_X1_whole : yX1_whole.cls ≠ "java/lang/invoke/MethodHandle" ∧ yX1_whole.cls ≠ "java/lang/invoke/VarHandle" ∧ (parseMethodDescriptor yX1_whole.desc).map (fun d => d.parameters.length) = some 1 := by decide +kernel
theorem hs_X1_wrapped : yX1_wrapped.cls ≠ "java/lang/invoke/MethodHandle" ∧ yX1_wrapped.cls ≠ "java/lang/invoke/VarHandle" ∧ (parseMethodDescriptor yX1_wrapped.desc).map (fun d => d.parameters.length) = some 2 := by decide +kernel
theorem hd_X2_bandCount : yX2_bandCount.cls = RX2 ∧ yX2_bandCount.cls ≠ "java/lang/invoke/MethodHandle" ∧ yX2_bandCount.cls ≠ "java/lang/invoke/VarHandle" ∧ (parseMethodDescriptor yX2_bandCount.desc).map (fun d => d.parameters.length) = some 0 := by decide +kernel
theorem hd_X2_baseLineAt : yX2_baseLineAt.cls = RX2 ∧ yX2_baseLineAt.cls ≠ "java/lang/invoke/MethodHandle" ∧ yX2_baseLineAt.cls ≠ "java/lang/invoke/VarHandle" ∧ (parseMethodDescriptor yX2_baseLineAt.desc).map (fun d => d.parameters.length) = some 2 := by decide +kernel
theorem hd_X2_beginsBand : yX2_beginsBand.cls = RX2 ∧ yX2_beginsBand.cls ≠ "java/lang/invoke/MethodHandle" ∧ yX2_beginsBand.cls ≠ "java/lang/invoke/VarHandle" ∧ (parseMethodDescriptor yX2_beginsBand.desc).map (fun d => d.parameters.length) = some 1 := by decide +kernel
theorem hd_X2_behindBand : yX2_behindBand.cls = RX2 ∧ yX2_behindBand.cls ≠ "java/lang/invoke/MethodHandle" ∧ yX2_behindBand.cls ≠ "java/lang/invoke/VarHandle" ∧ (parseMethodDescriptor yX2_behindBand.desc).map (fun d => d.parameters.length) = some 1 := by decide +kernel
theorem hd_X2_firstOfBand : yX2_firstOfBand.cls = RX2 ∧ yX2_firstOfBand.cls ≠ "java/lang/invoke/MethodHandle" ∧ yX2_firstOfBand.cls ≠ "java/lang/invoke/VarHandle" ∧ (parseMethodDescriptor yX2_firstOfBand.desc).map (fun d => d.parameters.length) = some 1 := by decide +kernel
theorem hd_X2_lowerMinusUpper : yX2_lowerMinusUpper.cls = RX2 ∧ yX2_lowerMinusUpper.cls ≠ "java/lang/invoke/MethodHandle" ∧ yX2_lowerMinusUpper.cls ≠ "java/lang/invoke/VarHandle" ∧ (parseMethodDescriptor yX2_lowerMinusUpper.desc).map (fun d => d.parameters.length) = some 0 := by decide +kernel
theorem hd_X2_lowestOn : yX2_lowestOn.cls = RX2 ∧ yX2_lowestOn.cls ≠ "java/lang/invoke/MethodHandle" ∧ yX2_lowestOn.cls ≠ "java/lang/invoke/VarHandle" ∧ (parseMethodDescriptor yX2_lowestOn.desc).map (fun d => d.parameters.length) = some 3 := by decide +kernel
theorem hd_X2_samplesBetween : yX2_samplesBetween.cls = RX2 ∧ yX2_samplesBetween.cls ≠ "java/lang/invoke/MethodHandle" ∧ yX2_samplesBetween.cls ≠ "java/lang/invoke/VarHandle" ∧ (parseMethodDescriptor yX2_samplesBetween.desc).map (fun d => d.parameters.length) = some 2 := by decide +kernel
theorem hd_X3_countEnds : yX3_countEnds.cls = RX3 ∧ yX3_countEnds.cls ≠ "java/lang/invoke/MethodHandle" ∧ yX3_countEnds.cls ≠ "java/lang/invoke/VarHandle" ∧ (parseMethodDescriptor yX3_countEnds.desc).map (fun d => d.parameters.length) = some 1 := by decide +kernel
theorem hd_X3_countOnLine : yX3_countOnLine.cls = RX3 ∧ yX3_countOnLine.cls ≠ "java/lang/invoke/MethodHandle" ∧ yX3_countOnLine.cls ≠ "java/lang/invoke/VarHandle" ∧ (parseMethodDescriptor yX3_countOnLine.desc).map (fun d => d.parameters.length) = some 1 := by decide +kernel
theorem hd_X3_find : yX3_find.cls = RX3 ∧ yX3_find.cls ≠ "java/lang/invoke/MethodHandle" ∧ yX3_find.cls ≠ "java/lang/invoke/VarHandle" ∧ (parseMethodDescriptor yX3_find.desc).map (fun d => d.parameters.length) = some 1 := by decide +kernel
theorem hd_X3_forget : yX3_forget.cls = RX3 ∧ yX3_forget.cls ≠ "java/lang/invoke/MethodHandle" ∧ yX3_forget.cls ≠ "java/lang/invoke/VarHandle" ∧ (parseMethodDescriptor yX3_forget.desc).map (fun d => d.parameters.length) = some 0 := by decide +kernel
theorem hd_X3_isAsked : yX3_isAsked.cls = RX3 ∧ yX3_isAsked.cls ≠ "java/lang/invoke/MethodHandle" ∧ yX3_isAsked.cls ≠ "java/lang/invoke/VarHandle" ∧ (parseMethodDescriptor yX3_isAsked.desc).map (fun d => d.parameters.length) = some 0 := by decide +kernel
theorem hd_X3_isSure : yX3_isSure.cls = RX3 ∧ yX3_isSure.cls ≠ "java/lang/invoke/MethodHandle" ∧ yX3_isSure.cls ≠ "java/lang/invoke/VarHandle" ∧ (parseMethodDescriptor yX3_isSure.desc).map (fun d => d.parameters.length) = some 0 := by decide +kernel
theorem hd_X3_meanOfGrid : yX3_meanOfGrid.cls = RX3 ∧ yX3_meanOfGrid.cls ≠ "java/lang/invoke/MethodHandle" ∧ yX3_meanOfGrid.cls ≠ "java/lang/invoke/VarHandle" ∧ (parseMethodDescriptor yX3_meanOfGrid.desc).map (fun d => d.parameters.length) = some 0 := by decide +kernel
theorem hd_X3_squaresOfCounts : yX3_squaresOfCounts.cls = RX3 ∧ yX3_squaresOfCounts.cls ≠ "java/lang/invoke/MethodHandle" ∧ yX3_squaresOfCounts.cls ≠ "java/lang/invoke/VarHandle" ∧ (parseMethodDescriptor yX3_squaresOfCounts.desc).map (fun d => d.parameters.length) = some 0 := by decide +kernel
theorem hd_X3_sumAt : yX3_sumAt.cls = RX3 ∧ yX3_sumAt.cls ≠ "java/lang/invoke/MethodHandle" ∧ yX3_sumAt.cls ≠ "java/lang/invoke/VarHandle" ∧ (parseMethodDescriptor yX3_sumAt.desc).map (fun d => d.parameters.length) = some 1 := by decide +kernel
theorem hd_X3_take : yX3_take.cls = RX3 ∧ yX3_take.cls ≠ "java/lang/invoke/MethodHandle" ∧ yX3_take.cls ≠ "java/lang/invoke/VarHandle" ∧ (parseMethodDescriptor yX3_take.desc).map (fun d => d.parameters.length) = some 2 := by decide +kernel
theorem hd_X3_tryBeside : yX3_tryBeside.cls = RX3 ∧ yX3_tryBeside.cls ≠ "java/lang/invoke/MethodHandle" ∧ yX3_tryBeside.cls ≠ "java/lang/invoke/VarHandle" ∧ (parseMethodDescriptor yX3_tryBeside.desc).map (fun d => d.parameters.length) = some 2 := by decide +kernel
theorem hd_X3_tryGrid : yX3_tryGrid.cls = RX3 ∧ yX3_tryGrid.cls ≠ "java/lang/invoke/MethodHandle" ∧ yX3_tryGrid.cls ≠ "java/lang/invoke/VarHandle" ∧ (parseMethodDescriptor yX3_tryGrid.desc).map (fun d => d.parameters.length) = some 1 := by decide +kernel
theorem hd_X4_columnIsEmpty : yX4_columnIsEmpty.cls = RX4 ∧ yX4_columnIsEmpty.cls ≠ "java/lang/invoke/MethodHandle" ∧ yX4_columnIsEmpty.cls ≠ "java/lang/invoke/VarHandle" ∧ (parseMethodDescriptor yX4_columnIsEmpty.desc).map (fun d => d.parameters.length) = some 1 := by decide +kernel
theorem hd_X4_cropAt : yX4_cropAt.cls = RX4 ∧ yX4_cropAt.cls ≠ "java/lang/invoke/MethodHandle" ∧ yX4_cropAt.cls ≠ "java/lang/invoke/VarHandle" ∧ (parseMethodDescriptor yX4_cropAt.desc).map (fun d => d.parameters.length) = some 1 := by decide +kernel
theorem hd_X4_cropLeft : yX4_cropLeft.cls = RX4 ∧ yX4_cropLeft.cls ≠ "java/lang/invoke/MethodHandle" ∧ yX4_cropLeft.cls ≠ "java/lang/invoke/VarHandle" ∧ (parseMethodDescriptor yX4_cropLeft.desc).map (fun d => d.parameters.length) = some 0 := by decide +kernel
theorem hd_X4_cropLower : yX4_cropLower.cls = RX4 ∧ yX4_cropLower.cls ≠ "java/lang/invoke/MethodHandle" ∧ yX4_cropLower.cls ≠ "java/lang/invoke/VarHandle" ∧ (parseMethodDescriptor yX4_cropLower.desc).map (fun d => d.parameters.length) = some 0 := by decide +kernel
theorem hd_X4_cropRight : yX4_cropRight.cls = RX4 ∧ yX4_cropRight.cls ≠ "java/lang/invoke/MethodHandle" ∧ yX4_cropRight.cls ≠ "java/lang/invoke/VarHandle" ∧ (parseMethodDescriptor yX4_cropRight.desc).map (fun d => d.parameters.length) = some 0 := by decide +kernel
theorem hd_X4_cropUpper : yX4_cropUpper.cls = RX4 ∧ yX4_cropUpper.cls ≠ "java/lang/invoke/MethodHandle" ∧ yX4_cropUpper.cls ≠ "java/lang/invoke/VarHandle" ∧ (parseMethodDescriptor yX4_cropUpper.desc).map (fun d => d.parameters.length) = some 0 := by decide +kernel
theorem hd_X4_end : yX4_end.cls = RX4 ∧ yX4_end.cls ≠ "java/lang/invoke/MethodHandle" ∧ yX4_end.cls ≠ "java/lang/invoke/VarHandle" ∧ (parseMethodDescriptor yX4_end.desc).map (fun d => d.parameters.length) = some 1 := by decide +kernel
theorem hd_X4_open : yX4_open.cls = RX4 ∧ yX4_open.cls ≠ "java/lang/invoke/MethodHandle" ∧ yX4_open.cls ≠ "java/lang/invoke/VarHandle" ∧ (parseMethodDescriptor yX4_open.desc).map (fun d => d.parameters.length) = some 0 := by decide +kernel
theorem hd_X5_angle : yX5_angle.cls = RX5 ∧ yX5_angle.cls ≠ "java/lang/invoke/MethodHandle" ∧ yX5_angle.cls ≠ "java/lang/invoke/VarHandle" ∧ (parseMethodDescriptor yX5_angle.desc).map (fun d => d.parameters.length) = some 1 := by decide +kernel
theorem hd_X5_at : yX5_at.cls = RX5 ∧ yX5_at.cls ≠ "java/lang/invoke/MethodHandle" ∧ yX5_at.cls ≠ "java/lang/invoke/VarHandle" ∧ (parseMethodDescriptor yX5_at.desc).map (fun d => d.parameters.length) = some 2 := by decide +kernel
theorem hd_X5_back : yX5_back.cls = RX5 ∧ yX5_back.cls ≠ "java/lang/invoke/MethodHandle" ∧ yX5_back.cls ≠ "java/lang/invoke/VarHandle" ∧ (parseMethodDescriptor yX5_back.desc).map (fun d => d.parameters.length) = some 0 := by decide +kernel
theorem hd_X5_band : yX5_band.cls = RX5 ∧ yX5_band.cls ≠ "java/lang/invoke/MethodHandle" ∧ yX5_band.cls ≠ "java/lang/invoke/VarHandle" ∧ (parseMethodDescriptor yX5_band.desc).map (fun d => d.parameters.length) = some 2 := by decide +kernel
theorem hd_X5_bands : yX5_bands.cls = RX5 ∧ yX5_bands.cls ≠ "java/lang/invoke/MethodHandle" ∧ yX5_bands.cls ≠ "java/lang/invoke/VarHandle" ∧ (parseMethodDescriptor yX5_bands.desc).map (fun d => d.parameters.length) = some 0 := by decide +kernel
theorem hs_X5_checkAngle : yX5_checkAngle.cls ≠ "java/lang/invoke/MethodHandle" ∧ yX5_checkAngle.cls ≠ "java/lang/invoke/VarHandle" ∧ (parseMethodDescriptor yX5_checkAngle.desc).map (fun d => d.parameters.length) = some 1 := by decide +kernel
theorem hd_X5_checkAsked : yX5_checkAsked.cls = RX5 ∧ yX5_checkAsked.cls ≠ "java/lang/invoke/MethodHandle" ∧ yX5_checkAsked.cls ≠ "java/lang/invoke/VarHandle" ∧ (parseMethodDescriptor yX5_checkAsked.desc).map (fun d => d.parameters.length) = some 0 := by decide +kernel
theorem hd_X5_checkBand : yX5_checkBand.cls = RX5 ∧ yX5_checkBand.cls ≠ "java/lang/invoke/MethodHandle" ∧ yX5_checkBand.cls ≠ "java/lang/invoke/VarHandle" ∧ (parseMethodDescriptor yX5_checkBand.desc).map (fun d => d.parameters.length) = some 1 := by decide +kernel
theorem hd_X5_checkSample : yX5_checkSample.cls = RX5 ∧ yX5_checkSample.cls ≠ "java/lang/invoke/MethodHandle" ∧ yX5_checkSample.cls ≠ "java/lang/invoke/VarHandle" ∧ (parseMethodDescriptor yX5_checkSample.desc).map (fun d => d.parameters.length) = some 2 := by decide +kernel
theorem hs_X5_checkSide : yX5_checkSide.cls ≠ "java/lang/invoke/MethodHandle" ∧ yX5_checkSide.cls ≠ "java/lang/invoke/VarHandle" ∧ (parseMethodDescriptor yX5_checkSide.desc).map (fun d => d.parameters.length) = some 1 := by decide +kernel
theorem hd_X5_clear : yX5_clear.cls = RX5 ∧ yX5_clear.cls ≠ "java/lang/invoke/MethodHandle" ∧ yX5_clear.cls ≠ "java/lang/invoke/VarHandle" ∧ (parseMethodDescriptor yX5_clear.desc).map (fun d => d.parameters.length) = some 0 := by decide +kernel
theorem hd_X5_crop : yX5_crop.cls = RX5 ∧ yX5_crop.cls ≠ "java/lang/invoke/MethodHandle" ∧ yX5_crop.cls ≠ "java/lang/invoke/VarHandle" ∧ (parseMethodDescriptor yX5_crop.desc).map (fun d => d.parameters.length) = some 1 := by decide +kernel
theorem hd_X5_line : yX5_line.cls = RX5 ∧ yX5_line.cls ≠ "java/lang/invoke/MethodHandle" ∧ yX5_line.cls ≠ "java/lang/invoke/VarHandle" ∧ (parseMethodDescriptor yX5_line.desc).map (fun d => d.parameters.length) = some 2 := by decide +kernel
theorem hd_X5_mean : yX5_mean.cls = RX5 ∧ yX5_mean.cls ≠ "java/lang/invoke/MethodHandle" ∧ yX5_mean.cls ≠ "java/lang/invoke/VarHandle" ∧ (parseMethodDescriptor yX5_mean.desc).map (fun d => d.parameters.length) = some 0 := by decide +kernel
theorem hs_X5_nearestSide : yX5_nearestSide.cls ≠ "java/lang/invoke/MethodHandle" ∧ yX5_nearestSide.cls ≠ "java/lang/invoke/VarHandle" ∧ (parseMethodDescriptor yX5_nearestSide.desc).map (fun d => d.parameters.length) = some 1 := by decide +kernel
theorem hd_X5_noteChange : yX5_noteChange.cls = RX5 ∧ yX5_noteChange.cls ≠ "java/lang/invoke/MethodHandle" ∧ yX5_noteChange.cls ≠ "java/lang/invoke/VarHandle" ∧ (parseMethodDescriptor yX5_noteChange.desc).map (fun d => d.parameters.length) = some 0 := by decide +kernel
theorem hd_X5_put : yX5_put.cls = RX5 ∧ yX5_put.cls ≠ "java/lang/invoke/MethodHandle" ∧ yX5_put.cls ≠ "java/lang/invoke/VarHandle" ∧ (parseMethodDescriptor yX5_put.desc).map (fun d => d.parameters.length) = some 4 := by decide +kernel
theorem hd_X5_size : yX5_size.cls = RX5 ∧ yX5_size.cls ≠ "java/lang/invoke/MethodHandle" ∧ yX5_size.cls ≠ "java/lang/invoke/VarHandle" ∧ (parseMethodDescriptor yX5_size.desc).map (fun d => d.parameters.length) = some 1 := by decide +kernel
theorem hd_X5_sum : yX5_sum.cls = RX5 ∧ yX5_sum.cls ≠ "java/lang/invoke/MethodHandle" ∧ yX5_sum.cls ≠ "java/lang/invoke/VarHandle" ∧ (parseMethodDescriptor yX5_sum.desc).map (fun d => d.parameters.length) = some 1 := by decide +kernel
theorem hd_X5_sure : yX5_sure.cls = RX5 ∧ yX5_sure.cls ≠ "java/lang/invoke/MethodHandle" ∧ yX5_sure.cls ≠ "java/lang/invoke/VarHandle" ∧ (parseMethodDescriptor yX5_sure.desc).map (fun d => d.parameters.length) = some 0 := by decide +kernel
theorem hd_X5_told : yX5_told.cls = RX5 ∧ yX5_told.cls ≠ "java/lang/invoke/MethodHandle" ∧ yX5_told.cls ≠ "java/lang/invoke/VarHandle" ∧ (parseMethodDescriptor yX5_told.desc).map (fun d => d.parameters.length) = some 1 := by decide +kernel
theorem hd_X5_turn : yX5_turn.cls = RX5 ∧ yX5_turn.cls ≠ "java/lang/invoke/MethodHandle" ∧ yX5_turn.cls ≠ "java/lang/invoke/VarHandle" ∧ (parseMethodDescriptor yX5_turn.desc).map (fun d => d.parameters.length) = some 2 := by decide +kernel
theorem hd_X5_upside : yX5_upside.cls = RX5 ∧ yX5_upside.cls ≠ "java/lang/invoke/MethodHandle" ∧ yX5_upside.cls ≠ "java/lang/invoke/VarHandle" ∧ (parseMethodDescriptor yX5_upside.desc).map (fun d => d.parameters.length) = some 0 := by decide +kernel
theorem hd_X6_angle : yX6_angle.cls = RX6 ∧ yX6_angle.cls ≠ "java/lang/invoke/MethodHandle" ∧ yX6_angle.cls ≠ "java/lang/invoke/VarHandle" ∧ (parseMethodDescriptor yX6_angle.desc).map (fun d => d.parameters.length) = some 1 := by decide +kernel
theorem hd_X6_at : yX6_at.cls = RX6 ∧ yX6_at.cls ≠ "java/lang/invoke/MethodHandle" ∧ yX6_at.cls ≠ "java/lang/invoke/VarHandle" ∧ (parseMethodDescriptor yX6_at.desc).map (fun d => d.parameters.length) = some 2 := by decide +kernel
theorem hd_X6_back : yX6_back.cls = RX6 ∧ yX6_back.cls ≠ "java/lang/invoke/MethodHandle" ∧ yX6_back.cls ≠ "java/lang/invoke/VarHandle" ∧ (parseMethodDescriptor yX6_back.desc).map (fun d => d.parameters.length) = some 0 := by decide +kernel
theorem hd_X6_band : yX6_band.cls = RX6 ∧ yX6_band.cls ≠ "java/lang/invoke/MethodHandle" ∧ yX6_band.cls ≠ "java/lang/invoke/VarHandle" ∧ (parseMethodDescriptor yX6_band.desc).map (fun d => d.parameters.length) = some 2 := by decide +kernel
theorem hd_X6_bands : yX6_bands.cls = RX6 ∧ yX6_bands.cls ≠ "java/lang/invoke/MethodHandle" ∧ yX6_bands.cls ≠ "java/lang/invoke/VarHandle" ∧ (parseMethodDescriptor yX6_bands.desc).map (fun d => d.parameters.length) = some 0 := by decide +kernel
theorem hd_X6_change : yX6_change.cls = RX6 ∧ yX6_change.cls ≠ "java/lang/invoke/MethodHandle" ∧ yX6_change.cls ≠ "java/lang/invoke/VarHandle" ∧ (parseMethodDescriptor yX6_change.desc).map (fun d => d.parameters.length) = some 0 := by decide +kernel
theorem hd_X6_clear : yX6_clear.cls = RX6 ∧ yX6_clear.cls ≠ "java/lang/invoke/MethodHandle" ∧ yX6_clear.cls ≠ "java/lang/invoke/VarHandle" ∧ (parseMethodDescriptor yX6_clear.desc).map (fun d => d.parameters.length) = some 0 := by decide +kernel
theorem hs_X6_cosine : yX6_cosine.cls ≠ "java/lang/invoke/MethodHandle" ∧ yX6_cosine.cls ≠ "java/lang/invoke/VarHandle" ∧ (parseMethodDescriptor yX6_cosine.desc).map (fun d => d.parameters.length) = some 1 := by decide +kernel
theorem hd_X6_countEnds : yX6_countEnds.cls = RX6 ∧ yX6_countEnds.cls ≠ "java/lang/invoke/MethodHandle" ∧ yX6_countEnds.cls ≠ "java/lang/invoke/VarHandle" ∧ (parseMethodDescriptor yX6_countEnds.desc).map (fun d => d.parameters.length) = some 0 := by decide +kernel
theorem hd_X6_countOn : yX6_countOn.cls = RX6 ∧ yX6_countOn.cls ≠ "java/lang/invoke/MethodHandle" ∧ yX6_countOn.cls ≠ "java/lang/invoke/VarHandle" ∧ (parseMethodDescriptor yX6_countOn.desc).map (fun d => d.parameters.length) = some 0 := by decide +kernel
theorem hd_X6_crop : yX6_crop.cls = RX6 ∧ yX6_crop.cls ≠ "java/lang/invoke/MethodHandle" ∧ yX6_crop.cls ≠ "java/lang/invoke/VarHandle" ∧ (parseMethodDescriptor yX6_crop.desc).map (fun d => d.parameters.length) = some 1 := by decide +kernel
theorem hd_X6_forget : yX6_forget.cls = RX6 ∧ yX6_forget.cls ≠ "java/lang/invoke/MethodHandle" ∧ yX6_forget.cls ≠ "java/lang/invoke/VarHandle" ∧ (parseMethodDescriptor yX6_forget.desc).map (fun d => d.parameters.length) = some 0 := by decide +kernel
theorem hd_X6_goTo : yX6_goTo.cls = RX6 ∧ yX6_goTo.cls ≠ "java/lang/invoke/MethodHandle" ∧ yX6_goTo.cls ≠ "java/lang/invoke/VarHandle" ∧ (parseMethodDescriptor yX6_goTo.desc).map (fun d => d.parameters.length) = some 1 := by decide +kernel
theorem hd_X6_isBare : yX6_isBare.cls = RX6 ∧ yX6_isBare.cls ≠ "java/lang/invoke/MethodHandle" ∧ yX6_isBare.cls ≠ "java/lang/invoke/VarHandle" ∧ (parseMethodDescriptor yX6_isBare.desc).map (fun d => d.parameters.length) = some 2 := by decide +kernel
theorem hd_X6_isEnd : yX6_isEnd.cls = RX6 ∧ yX6_isEnd.cls ≠ "java/lang/invoke/MethodHandle" ∧ yX6_isEnd.cls ≠ "java/lang/invoke/VarHandle" ∧ (parseMethodDescriptor yX6_isEnd.desc).map (fun d => d.parameters.length) = some 2 := by decide +kernel
theorem hd_X6_isOn : yX6_isOn.cls = RX6 ∧ yX6_isOn.cls ≠ "java/lang/invoke/MethodHandle" ∧ yX6_isOn.cls ≠ "java/lang/invoke/VarHandle" ∧ (parseMethodDescriptor yX6_isOn.desc).map (fun d => d.parameters.length) = some 2 := by decide +kernel
theorem hd_X6_isSample : yX6_isSample.cls = RX6 ∧ yX6_isSample.cls ≠ "java/lang/invoke/MethodHandle" ∧ yX6_isSample.cls ≠ "java/lang/invoke/VarHandle" ∧ (parseMethodDescriptor yX6_isSample.desc).map (fun d => d.parameters.length) = some 2 := by decide +kernel
theorem hd_X6_line : yX6_line.cls = RX6 ∧ yX6_line.cls ≠ "java/lang/invoke/MethodHandle" ∧ yX6_line.cls ≠ "java/lang/invoke/VarHandle" ∧ (parseMethodDescriptor yX6_line.desc).map (fun d => d.parameters.length) = some 2 := by decide +kernel
theorem hd_X6_mean : yX6_mean.cls = RX6 ∧ yX6_mean.cls ≠ "java/lang/invoke/MethodHandle" ∧ yX6_mean.cls ≠ "java/lang/invoke/VarHandle" ∧ (parseMethodDescriptor yX6_mean.desc).map (fun d => d.parameters.length) = some 0 := by decide +kernel
theorem hd_X6_onIn : yX6_onIn.cls = RX6 ∧ yX6_onIn.cls ≠ "java/lang/invoke/MethodHandle" ∧ yX6_onIn.cls ≠ "java/lang/invoke/VarHandle" ∧ (parseMethodDescriptor yX6_onIn.desc).map (fun d => d.parameters.length) = some 2 := by decide +kernel
theorem hd_X6_put : yX6_put.cls = RX6 ∧ yX6_put.cls ≠ "java/lang/invoke/MethodHandle" ∧ yX6_put.cls ≠ "java/lang/invoke/VarHandle" ∧ (parseMethodDescriptor yX6_put.desc).map (fun d => d.parameters.length) = some 4 := by decide +kernel
theorem hs_X6_radians : yX6_radians.cls ≠ "java/lang/invoke/MethodHandle" ∧ yX6_radians.cls ≠ "java/lang/invoke/VarHandle" ∧ (parseMethodDescriptor yX6_radians.desc).map (fun d => d.parameters.length) = some 1 := by decide +kernel
theorem hd_X6_refuses : yX6_refuses.cls = RX6 ∧ yX6_refuses.cls ≠ "java/lang/invoke/MethodHandle" ∧ yX6_refuses.cls ≠ "java/lang/invoke/VarHandle" ∧ (parseMethodDescriptor yX6_refuses.desc).map (fun d => d.parameters.length) = some 1 := by decide +kernel
theorem hd_X6_sample : yX6_sample.cls = RX6 ∧ yX6_sample.cls ≠ "java/lang/invoke/MethodHandle" ∧ yX6_sample.cls ≠ "java/lang/invoke/VarHandle" ∧ (parseMethodDescriptor yX6_sample.desc).map (fun d => d.parameters.length) = some 1 := by decide +kernel
theorem hd_X6_shear : yX6_shear.cls = RX6 ∧ yX6_shear.cls ≠ "java/lang/invoke/MethodHandle" ∧ yX6_shear.cls ≠ "java/lang/invoke/VarHandle" ∧ (parseMethodDescriptor yX6_shear.desc).map (fun d => d.parameters.length) = some 2 := by decide +kernel
theorem hd_X6_shearColumns : yX6_shearColumns.cls = RX6 ∧ yX6_shearColumns.cls ≠ "java/lang/invoke/MethodHandle" ∧ yX6_shearColumns.cls ≠ "java/lang/invoke/VarHandle" ∧ (parseMethodDescriptor yX6_shearColumns.desc).map (fun d => d.parameters.length) = some 2 := by decide +kernel
theorem hd_X6_shearRows : yX6_shearRows.cls = RX6 ∧ yX6_shearRows.cls ≠ "java/lang/invoke/MethodHandle" ∧ yX6_shearRows.cls ≠ "java/lang/invoke/VarHandle" ∧ (parseMethodDescriptor yX6_shearRows.desc).map (fun d => d.parameters.length) = some 2 := by decide +kernel
theorem hs_X6_sine : yX6_sine.cls ≠ "java/lang/invoke/MethodHandle" ∧ yX6_sine.cls ≠ "java/lang/invoke/VarHandle" ∧ (parseMethodDescriptor yX6_sine.desc).map (fun d => d.parameters.length) = some 1 := by decide +kernel
theorem hd_X6_size : yX6_size.cls = RX6 ∧ yX6_size.cls ≠ "java/lang/invoke/MethodHandle" ∧ yX6_size.cls ≠ "java/lang/invoke/VarHandle" ∧ (parseMethodDescriptor yX6_size.desc).map (fun d => d.parameters.length) = some 1 := by decide +kernel
theorem hs_X6_slope : yX6_slope.cls ≠ "java/lang/invoke/MethodHandle" ∧ yX6_slope.cls ≠ "java/lang/invoke/VarHandle" ∧ (parseMethodDescriptor yX6_slope.desc).map (fun d => d.parameters.length) = some 1 := by decide +kernel
theorem hs_X6_stepOf : yX6_stepOf.cls ≠ "java/lang/invoke/MethodHandle" ∧ yX6_stepOf.cls ≠ "java/lang/invoke/VarHandle" ∧ (parseMethodDescriptor yX6_stepOf.desc).map (fun d => d.parameters.length) = some 1 := by decide +kernel
theorem hd_X6_sum : yX6_sum.cls = RX6 ∧ yX6_sum.cls ≠ "java/lang/invoke/MethodHandle" ∧ yX6_sum.cls ≠ "java/lang/invoke/VarHandle" ∧ (parseMethodDescriptor yX6_sum.desc).map (fun d => d.parameters.length) = some 1 := by decide +kernel
theorem hd_X6_sumOf : yX6_sumOf.cls = RX6 ∧ yX6_sumOf.cls ≠ "java/lang/invoke/MethodHandle" ∧ yX6_sumOf.cls ≠ "java/lang/invoke/VarHandle" ∧ (parseMethodDescriptor yX6_sumOf.desc).map (fun d => d.parameters.length) = some 1 := by decide +kernel
theorem hd_X6_sure : yX6_sure.cls = RX6 ∧ yX6_sure.cls ≠ "java/lang/invoke/MethodHandle" ∧ yX6_sure.cls ≠ "java/lang/invoke/VarHandle" ∧ (parseMethodDescriptor yX6_sure.desc).map (fun d => d.parameters.length) = some 0 := by decide +kernel
theorem hd_X6_thrown : yX6_thrown.cls = RX6 ∧ yX6_thrown.cls ≠ "java/lang/invoke/MethodHandle" ∧ yX6_thrown.cls ≠ "java/lang/invoke/VarHandle" ∧ (parseMethodDescriptor yX6_thrown.desc).map (fun d => d.parameters.length) = some 0 := by decide +kernel
theorem hd_X6_told : yX6_told.cls = RX6 ∧ yX6_told.cls ≠ "java/lang/invoke/MethodHandle" ∧ yX6_told.cls ≠ "java/lang/invoke/VarHandle" ∧ (parseMethodDescriptor yX6_told.desc).map (fun d => d.parameters.length) = some 1 := by decide +kernel
theorem hd_X6_turn : yX6_turn.cls = RX6 ∧ yX6_turn.cls ≠ "java/lang/invoke/MethodHandle" ∧ yX6_turn.cls ≠ "java/lang/invoke/VarHandle" ∧ (parseMethodDescriptor yX6_turn.desc).map (fun d => d.parameters.length) = some 2 := by decide +kernel
theorem hd_X6_upside : yX6_upside.cls = RX6 ∧ yX6_upside.cls ≠ "java/lang/invoke/MethodHandle" ∧ yX6_upside.cls ≠ "java/lang/invoke/VarHandle" ∧ (parseMethodDescriptor yX6_upside.desc).map (fun d => d.parameters.length) = some 0 := by decide +kernel
theorem hd_X6_whole : yX6_whole.cls = RX6 ∧ yX6_whole.cls ≠ "java/lang/invoke/MethodHandle" ∧ yX6_whole.cls ≠ "java/lang/invoke/VarHandle" ∧ (parseMethodDescriptor yX6_whole.desc).map (fun d => d.parameters.length) = some 0 := by decide +kernel
theorem hs_X6_wholeOf : yX6_wholeOf.cls ≠ "java/lang/invoke/MethodHandle" ∧ yX6_wholeOf.cls ≠ "java/lang/invoke/VarHandle" ∧ (parseMethodDescriptor yX6_wholeOf.desc).map (fun d => d.parameters.length) = some 1 := by decide +kernel
theorem hs_X6_within : yX6_within.cls ≠ "java/lang/invoke/MethodHandle" ∧ yX6_within.cls ≠ "java/lang/invoke/VarHandle" ∧ (parseMethodDescriptor yX6_within.desc).map (fun d => d.parameters.length) = some 2 := by decide +kernel
end
section
/-! DOUBLES IN BOUNDS: Iv a b x: x is a number, a / 65536 ≤ x ≤ b / 65536 -/
def fIv (a b : Int) (x : UInt64) : Prop := Jvm.FP.Core.val64 x ≠ .nan ∧ a * (Jvm.FP.Core.one64 : Int) ≤ 65536 * Jvm.FP.Core.zval Jvm.FP.Core.b64 (Jvm.FP.Core.val64 x) ∧ 65536 * Jvm.FP.Core.zval Jvm.FP.Core.b64 (Jvm.FP.Core.val64 x) ≤ b * (Jvm.FP.Core.one64 : Int) ∧ a.natAbs < 2 ^ 53 ∧ b.natAbs < 2 ^ 53
theorem fOnePos : (0 : Int) < (Jvm.FP.Core.one64 : Int) := by have := Jvm.FP.Core.one64_pos; omega
theorem fTop : ((2 ^ 53 : Nat) : Int) * (Jvm.FP.Core.one64 : Int) < 65536 * ((Jvm.FP.Core.b64.tails * 2 ^ (Jvm.FP.Core.b64.exps - 2) : Nat) : Int) := by decide +kernel
theorem f16 : 65536 * 2 ^ 1058 = Jvm.FP.Core.one64 := by decide +kernel
/-- a whole number of 65536ths is a double -/
theorem fV (n : Int) (h : n.natAbs < 2 ^ 53) : ∃ V, Jvm.FP.Core.fits Jvm.FP.Core.b64 V ∧ V ≠ .nan ∧ 65536 * Jvm.FP.Core.zval Jvm.FP.Core.b64 V = n * (Jvm.FP.Core.one64 : Int) ∧ (0 ≤ n → 65536 * Jvm.FP.Core.zmag Jvm.FP.Core.b64 V = n.natAbs * Jvm.FP.Core.one64) := by
  obtain ⟨c', q', e1, e2⟩ := Jvm.FP.Core.round_exact Jvm.FP.Core.good_b64 (decide (n < 0)) (c := n.natAbs) (q := -16) h (by decide +kernel) (by decide +kernel)
  have e3 : Jvm.FP.Core.inUnits n.natAbs (-16) Jvm.FP.Core.b64.qmin = n.natAbs * 2 ^ 1058 := by
    unfold Jvm.FP.Core.inUnits
    rw [show ((-16 : Int) - Jvm.FP.Core.b64.qmin).toNat = 1058 by decide +kernel]
  have e4 : 65536 * Jvm.FP.Core.inUnits c' q' Jvm.FP.Core.b64.qmin = n.natAbs * Jvm.FP.Core.one64 := by
    rw [e2, e3, ← f16]
    generalize (2 : Nat) ^ 1058 = z
    rw [← Nat.mul_assoc, Nat.mul_comm 65536, Nat.mul_assoc]
  refine ⟨Jvm.FP.Core.round Jvm.FP.Core.b64 (.fin (decide (n < 0)) n.natAbs (-16)), Jvm.FP.Core.round_fits Jvm.FP.Core.good_b64 _, ?_, ?_, ?_⟩
  · rw [e1]; exact Jvm.FP.Core.Datum.noConfusion
  · exact (by
      rw [e1]
      show 65536 * Jvm.FP.Core.signed (decide (n < 0)) (Jvm.FP.Core.inUnits c' q' Jvm.FP.Core.b64.qmin) = _
      generalize Jvm.FP.Core.inUnits c' q' Jvm.FP.Core.b64.qmin = z at e4 ⊢
      generalize Jvm.FP.Core.one64 = o at e4 ⊢
      have e5 : (65536 : Int) * (z : Int) = (n.natAbs : Int) * (o : Int) := by
        have q := congrArg (fun k : Nat => (k : Int)) e4
        simp only [Int.natCast_mul] at q
        exact q
      by_cases hn : n < 0
      · have h1 : (n.natAbs : Int) = -n := by omega
        rw [h1] at e5
        simp only [hn, decide_true, Jvm.FP.Core.signed, if_true]
        rw [Int.mul_neg, e5, Int.neg_mul, Int.neg_neg]
      · have h1 : (n.natAbs : Int) = n := by omega
        rw [h1] at e5
        simp only [hn, decide_false, Jvm.FP.Core.signed]
        exact e5)
  · intro hn
    rw [e1]
    show 65536 * Jvm.FP.Core.inUnits c' q' Jvm.FP.Core.b64.qmin = _
    exact e4
theorem fIv.fin {a b : Int} {x : UInt64} (h : fIv a b x) : Jvm.FP.Core.DFin x := by
  obtain ⟨h1, h2, h3, h4, h5⟩ := h
  have ht := fTop
  have ho := fOnePos
  unfold Jvm.FP.Core.DFin
  cases hv : Jvm.FP.Core.val64 x with
  | nan => exact absurd hv h1
  | fin s c q => exact ⟨s, c, q, rfl⟩
  | inf s =>
    rw [hv] at h2 h3
    have e1 : Jvm.FP.Core.zval Jvm.FP.Core.b64 (.inf s) = Jvm.FP.Core.signed s (Jvm.FP.Core.b64.tails * 2 ^ (Jvm.FP.Core.b64.exps - 2)) := rfl
    rw [e1] at h2 h3
    generalize (Jvm.FP.Core.b64.tails * 2 ^ (Jvm.FP.Core.b64.exps - 2) : Nat) = z at *
    generalize (Jvm.FP.Core.one64 : Int) = o at *
    exfalso
    have hb : b * o ≤ ((2 ^ 53 : Nat) : Int) * o := Int.mul_le_mul_of_nonneg_right (by omega) (by omega)
    have ha : -((2 ^ 53 : Nat) : Int) * o ≤ a * o := Int.mul_le_mul_of_nonneg_right (by omega) (by omega)
    rw [Int.neg_mul] at ha
    cases s <;> simp only [Jvm.FP.Core.signed, if_true, Bool.false_eq_true, if_false] at h2 h3 <;> omega
theorem fIv.notNaN {a b : Int} {x : UInt64} (h : fIv a b x) : Jvm.FP.Core.dIsNaN x = false := h.fin.notNaN
theorem fIv.n64 {a b : Int} {x : UInt64} (h : fIv a b x) : vf_n64 x := by
  have h1 := (Jvm.FP.Core.ne_nan x).mp h.1
  unfold vf_n64
  rw [UInt64.le_iff_toNat_le, Jvm.FP.Core.mask_toNat]
  exact h1
theorem fIv.weak {a b a' b' : Int} {x : UInt64} (h : fIv a b x) (h1 : a' ≤ a) (h2 : b ≤ b') (h3 : a'.natAbs < 2 ^ 53) (h4 : b'.natAbs < 2 ^ 53) : fIv a' b' x := by
  have ho := fOnePos
  exact ⟨h.1, Int.le_trans (Int.mul_le_mul_of_nonneg_right h1 (by omega)) h.2.1, Int.le_trans h.2.2.1 (Int.mul_le_mul_of_nonneg_right h2 (by omega)), h3, h4⟩
theorem fSum {a b c d : Int} {X Y : Jvm.FP.Core.Datum} {r : UInt64} (fx : Jvm.FP.Core.fits Jvm.FP.Core.b64 X) (fy : Jvm.FP.Core.fits Jvm.FP.Core.b64 Y) (hX : ∃ s c q, X = .fin s c q) (hY : ∃ s c q, Y = .fin s c q) (hr : Jvm.FP.Core.val64 r = Jvm.FP.Core.round Jvm.FP.Core.b64 (Jvm.FP.Core.exactSum X Y))
    (x1 : a * (Jvm.FP.Core.one64 : Int) ≤ 65536 * Jvm.FP.Core.zval Jvm.FP.Core.b64 X) (x2 : 65536 * Jvm.FP.Core.zval Jvm.FP.Core.b64 X ≤ b * (Jvm.FP.Core.one64 : Int)) (y1 : c * (Jvm.FP.Core.one64 : Int) ≤ 65536 * Jvm.FP.Core.zval Jvm.FP.Core.b64 Y) (y2 : 65536 * Jvm.FP.Core.zval Jvm.FP.Core.b64 Y ≤ d * (Jvm.FP.Core.one64 : Int))
    (h1 : (a + c).natAbs < 2 ^ 53) (h2 : (b + d).natAbs < 2 ^ 53) : fIv (a + c) (b + d) r := by
  obtain ⟨V, v1, v2, v3, -⟩ := fV (a + c) h1
  obtain ⟨U, u1, u2, u3, -⟩ := fV (b + d) h2
  have g1 := Jvm.FP.Core.sum_ge Jvm.FP.Core.good_b64 hX hY fx fy v1 v2 (by rw [Int.add_mul] at v3; omega)
  have g2 := Jvm.FP.Core.sum_le Jvm.FP.Core.good_b64 hX hY fx fy u1 u2 (by rw [Int.add_mul] at u3; omega)
  rw [← hr] at g1 g2
  refine ⟨?_, by omega, by omega, h1, h2⟩
  rw [hr]
  obtain ⟨s, c, q, rfl⟩ := hX
  obtain ⟨t, d, z, rfl⟩ := hY
  exact Jvm.FP.Core.roundRatio_ne_nan _ _ _ _ _
theorem fIv.add {a b c d : Int} {x y : UInt64} (hx : fIv a b x) (hy : fIv c d y) (h1 : (a + c).natAbs < 2 ^ 53) (h2 : (b + d).natAbs < 2 ^ 53) : fIv (a + c) (b + d) (FP.dadd x y) :=
  fSum (Jvm.FP.Core.val64_fits x) (Jvm.FP.Core.val64_fits y) hx.fin hy.fin (Jvm.FP.Core.val64_dadd x y) hx.2.1 hx.2.2.1 hy.2.1 hy.2.2.1 h1 h2
theorem fIv.sub {a b c d : Int} {x y : UInt64} (hx : fIv a b x) (hy : fIv c d y) (h1 : (a + -d).natAbs < 2 ^ 53) (h2 : (b + -c).natAbs < 2 ^ 53) : fIv (a + -d) (b + -c) (FP.dsub x y) := by
  refine fSum (Jvm.FP.Core.val64_fits x) (Jvm.FP.Core.negate_fits (Jvm.FP.Core.val64_fits y)) hx.fin ?_ (Jvm.FP.Core.val64_dsub x y) hx.2.1 hx.2.2.1 ?_ ?_ h1 h2
  · obtain ⟨s, c, q, h⟩ := hy.fin
    exact ⟨!s, c, q, by rw [h]; rfl⟩
  · have := hy.2.2.1
    rw [Jvm.FP.Core.zval_negate, Int.neg_mul, Int.mul_neg]
    omega
  · have := hy.2.1
    rw [Jvm.FP.Core.zval_negate, Int.neg_mul, Int.mul_neg]
    omega
theorem fAbs {n : Int} {x : UInt64} (h : fIv (-n) n x) : 65536 * Jvm.FP.Core.zmag Jvm.FP.Core.b64 (Jvm.FP.Core.val64 x) ≤ n.natAbs * Jvm.FP.Core.one64 ∧ 0 ≤ n := by
  obtain ⟨-, h1, h2, -⟩ := h
  have ho := fOnePos
  unfold Jvm.FP.Core.zval at h1 h2
  generalize Jvm.FP.Core.sgn (Jvm.FP.Core.val64 x) = s at *
  generalize Jvm.FP.Core.zmag Jvm.FP.Core.b64 (Jvm.FP.Core.val64 x) = z at *
  generalize Jvm.FP.Core.one64 = o at *
  have hn : 0 ≤ n := by
    rcases Int.lt_or_le n 0 with q | q
    · have : n * (o : Int) < 0 := Int.mul_neg_of_neg_of_pos q ho
      rw [Int.neg_mul] at h1
      omega
    · exact q
  refine ⟨?_, hn⟩
  have e : (n.natAbs : Int) = n := by omega
  have : ((65536 * z : Nat) : Int) ≤ ((n.natAbs * o : Nat) : Int) := by
    rw [Int.natCast_mul, Int.natCast_mul, e]
    rw [Int.neg_mul] at h1
    cases s <;> simp only [Jvm.FP.Core.signed, if_true, Bool.false_eq_true, if_false] at h1 h2 <;> omega
  exact_mod_cast this
theorem fSigned (s : Bool) {z k : Nat} (h : z ≤ k) : -(k : Int) ≤ Jvm.FP.Core.signed s z ∧ Jvm.FP.Core.signed s z ≤ (k : Int) := by
  cases s <;> simp only [Jvm.FP.Core.signed, if_true, Bool.false_eq_true, if_false] <;> omega
theorem fIv.mul {n m k : Int} {x y : UInt64} (hx : fIv (-n) n x) (hy : fIv (-m) m y) (hk : n * m ≤ k * 65536) (h1 : k.natAbs < 2 ^ 53) : fIv (-k) k (FP.dmul x y) := by
  obtain ⟨ax, n0⟩ := fAbs hx
  obtain ⟨ay, m0⟩ := fAbs hy
  have k0 : 0 ≤ k := by have := Int.mul_nonneg n0 m0; omega
  obtain ⟨V, v1, v2, -, v3⟩ := fV k h1
  have v3 := v3 k0
  obtain ⟨s, c, q, e1⟩ := hx.fin
  obtain ⟨t, d, r, e2⟩ := hy.fin
  have fx := Jvm.FP.Core.val64_fits x
  have fy := Jvm.FP.Core.val64_fits y
  rw [e1] at ax fx
  rw [e2] at ay fy
  obtain ⟨p1, p2, p3⟩ := Jvm.FP.Core.product_units fx fy
  have hv : Jvm.FP.Core.val64 (FP.dmul x y) = Jvm.FP.Core.roundRatio Jvm.FP.Core.b64 (s != t) (c * d) 1 (q + r) := by
    have := Jvm.FP.Core.val64_dmul x y
    rw [e1, e2, p1] at this
    exact this
  have hle := Jvm.FP.Core.zmag_roundRatio_le Jvm.FP.Core.good_b64 (s := s != t) (A := c * d) (B := 1) (e := q + r) (e0 := 2 * Jvm.FP.Core.b64.qmin) (by decide) v1 v2 (by decide +kernel) p2 (by
    rw [p3, Nat.mul_one, show (Jvm.FP.Core.b64.qmin - 2 * Jvm.FP.Core.b64.qmin).toNat = (-Jvm.FP.Core.b64.qmin).toNat by decide +kernel, Jvm.FP.Core.pow_qmin64]
    generalize Jvm.FP.Core.zmag Jvm.FP.Core.b64 (.fin s c q) = zx at *
    generalize Jvm.FP.Core.zmag Jvm.FP.Core.b64 (.fin t d r) = zy at *
    generalize Jvm.FP.Core.zmag Jvm.FP.Core.b64 V = zv at *
    generalize Jvm.FP.Core.one64 = o at *
    have g1 := Nat.mul_le_mul ax ay
    have g2 : n.natAbs * m.natAbs ≤ k.natAbs * 65536 := by
      have : ((n.natAbs * m.natAbs : Nat) : Int) ≤ ((k.natAbs * 65536 : Nat) : Int) := by
        rw [Int.natCast_mul, Int.natCast_mul, show (n.natAbs : Int) = n by omega, show (m.natAbs : Int) = m by omega, show (k.natAbs : Int) = k by omega]
        exact hk
      exact_mod_cast this
    have g3 := Nat.mul_le_mul_right (o * o) g2
    have g4 : 65536 * (65536 * (zx * zy)) ≤ 65536 * (65536 * (zv * o)) := by
      calc 65536 * (65536 * (zx * zy)) = 65536 * zx * (65536 * zy) := by ac_rfl
        _ ≤ n.natAbs * o * (m.natAbs * o) := g1
        _ = n.natAbs * m.natAbs * (o * o) := by ac_rfl
        _ ≤ k.natAbs * 65536 * (o * o) := g3
        _ = 65536 * ((k.natAbs * o) * o) := by ac_rfl
        _ = 65536 * (65536 * (zv * o)) := by rw [← v3]; ac_rfl
    omega)
  rw [← hv] at hle
  refine ⟨?_, ?_, ?_, by rw [Int.natAbs_neg]; exact h1, h1⟩
  · rw [hv]; exact Jvm.FP.Core.roundRatio_ne_nan _ _ _ _ _
  all_goals
    unfold Jvm.FP.Core.zval
    have hs := fSigned (Jvm.FP.Core.sgn (Jvm.FP.Core.val64 (FP.dmul x y))) hle
    have v4 : (65536 : Int) * (Jvm.FP.Core.zmag Jvm.FP.Core.b64 V : Int) = k * (Jvm.FP.Core.one64 : Int) := by
      have : ((65536 * Jvm.FP.Core.zmag Jvm.FP.Core.b64 V : Nat) : Int) = ((k.natAbs * Jvm.FP.Core.one64 : Nat) : Int) := by rw [v3]
      rw [Int.natCast_mul, Int.natCast_mul, show (k.natAbs : Int) = k by omega] at this
      exact this
    try rw [Int.neg_mul]
    omega
theorem fIv.i2d (v : Int32) : fIv (65536 * v.toInt) (65536 * v.toInt) (FP.i2d v) := by
  have h := Jvm.FP.Core.DInt_zval (Jvm.FP.Core.i2d_int v)
  have h2 := Jvm.FP.Core.DInt_ne_nan (Jvm.FP.Core.i2d_int v)
  have h3 := Jvm.FP.Core.int32_abs v
  refine ⟨h2, ?_, ?_, by omega, by omega⟩
  · show _ ≤ 65536 * Jvm.FP.Core.zval Jvm.FP.Core.b64 (Jvm.FP.Core.val64 (Jvm.FP.Core.i2d v))
    rw [h, Int.mul_assoc]; exact Int.le_refl _
  · show 65536 * Jvm.FP.Core.zval Jvm.FP.Core.b64 (Jvm.FP.Core.val64 (Jvm.FP.Core.i2d v)) ≤ _
    rw [h, Int.mul_assoc]; exact Int.le_refl _
theorem fIv.div {n L M k : Int} {x y : UInt64} (hx : fIv (-n) n x) (hy : fIv L M y) (hL : 0 < L) (hk : n * 65536 ≤ k * L) (h1 : k.natAbs < 2 ^ 53) : fIv (-k) k (FP.ddiv x y) := by
  obtain ⟨ax, n0⟩ := fAbs hx
  have ho := fOnePos
  have k0 : 0 ≤ k := by
    rcases Int.lt_or_le k 0 with q | q
    · have := Int.mul_neg_of_neg_of_pos q hL
      omega
    · exact q
  obtain ⟨V, v1, v2, -, v3⟩ := fV k h1
  have v3 := v3 k0
  obtain ⟨s, c, q, e1⟩ := hx.fin
  obtain ⟨t, d, r, e2⟩ := hy.fin
  have fx := Jvm.FP.Core.val64_fits x
  have fy := Jvm.FP.Core.val64_fits y
  have y1 := hy.2.1
  rw [e1] at ax fx
  rw [e2] at y1 fy
  have ay : L.natAbs * Jvm.FP.Core.one64 ≤ 65536 * Jvm.FP.Core.zmag Jvm.FP.Core.b64 (.fin t d r) := by
    have e0 : Jvm.FP.Core.zval Jvm.FP.Core.b64 (.fin t d r) = Jvm.FP.Core.signed t (Jvm.FP.Core.zmag Jvm.FP.Core.b64 (.fin t d r)) := rfl
    rw [e0] at y1
    generalize Jvm.FP.Core.zmag Jvm.FP.Core.b64 (.fin t d r) = z at *
    generalize Jvm.FP.Core.one64 = o at *
    have e : (L.natAbs : Int) = L := by omega
    have h0 : 0 < L * (o : Int) := Int.mul_pos hL ho
    have : ((L.natAbs * o : Nat) : Int) ≤ ((65536 * z : Nat) : Int) := by
      rw [Int.natCast_mul, Int.natCast_mul, e]
      cases t <;> simp only [Jvm.FP.Core.signed, if_true, Bool.false_eq_true, if_false] at y1 <;> omega
    exact_mod_cast this
  have hd0 : d ≠ 0 := by
    rintro rfl
    have e0 : Jvm.FP.Core.zmag Jvm.FP.Core.b64 (.fin t 0 r) = 0 := by show Jvm.FP.Core.inUnits 0 r _ = 0; unfold Jvm.FP.Core.inUnits; exact Nat.zero_mul _
    rw [e0] at ay
    have h2 : 0 < L.natAbs := by omega
    have := Nat.mul_pos h2 Jvm.FP.Core.one64_pos
    omega
  have hv : Jvm.FP.Core.val64 (FP.ddiv x y) = Jvm.FP.Core.roundRatio Jvm.FP.Core.b64 (s != t) c d (q - r) := by
    have := Jvm.FP.Core.val64_ddiv x y
    rw [e1, e2] at this
    rw [show Jvm.FP.Core.val64 (FP.ddiv x y) = Jvm.FP.Core.quotient Jvm.FP.Core.b64 (.fin s c q) (.fin t d r) from this]
    show (if d = 0 then _ else _) = _
    rw [if_neg hd0]
  have hq := fx.2.1
  have hr := fy.2.1
  have hq0 : Jvm.FP.Core.b64.qmin = -1074 := Jvm.FP.Core.qmin_b64
  have hle := Jvm.FP.Core.zmag_roundRatio_le Jvm.FP.Core.good_b64 (s := s != t) (A := c) (B := d) (e := q - r) (e0 := 2 * Jvm.FP.Core.b64.qmin - r) (Nat.pos_of_ne_zero hd0) v1 v2 (by omega) (by omega) (by
    have z1 : Jvm.FP.Core.inUnits c (q - r) (2 * Jvm.FP.Core.b64.qmin - r) = Jvm.FP.Core.zmag Jvm.FP.Core.b64 (.fin s c q) * Jvm.FP.Core.one64 := by
      show _ = Jvm.FP.Core.inUnits c q Jvm.FP.Core.b64.qmin * _
      unfold Jvm.FP.Core.inUnits
      rw [← Jvm.FP.Core.pow_qmin64, Nat.mul_assoc, ← Nat.pow_add]
      congr 2
      omega
    have z2 : 2 ^ (Jvm.FP.Core.b64.qmin - (2 * Jvm.FP.Core.b64.qmin - r)).toNat * d = Jvm.FP.Core.zmag Jvm.FP.Core.b64 (.fin t d r) := by
      show _ = Jvm.FP.Core.inUnits d r Jvm.FP.Core.b64.qmin
      unfold Jvm.FP.Core.inUnits
      rw [Nat.mul_comm]
      congr 2
      omega
    rw [z1, Nat.mul_assoc, z2]
    generalize Jvm.FP.Core.zmag Jvm.FP.Core.b64 (.fin s c q) = zx at *
    generalize Jvm.FP.Core.zmag Jvm.FP.Core.b64 (.fin t d r) = zy at *
    generalize Jvm.FP.Core.zmag Jvm.FP.Core.b64 V = zv at *
    generalize Jvm.FP.Core.one64 = o at *
    have g2 : n.natAbs * 65536 ≤ k.natAbs * L.natAbs := by
      have : ((n.natAbs * 65536 : Nat) : Int) ≤ ((k.natAbs * L.natAbs : Nat) : Int) := by
        rw [Int.natCast_mul, Int.natCast_mul, show (n.natAbs : Int) = n by omega, show (L.natAbs : Int) = L by omega, show (k.natAbs : Int) = k by omega]
        exact hk
      exact_mod_cast this
    have g4 : 65536 * (65536 * (zx * o)) ≤ 65536 * (65536 * (zv * zy)) := by
      calc 65536 * (65536 * (zx * o)) = 65536 * (65536 * zx * o) := by ac_rfl
        _ ≤ 65536 * (n.natAbs * o * o) := Nat.mul_le_mul_left _ (Nat.mul_le_mul_right _ ax)
        _ = n.natAbs * 65536 * (o * o) := by ac_rfl
        _ ≤ k.natAbs * L.natAbs * (o * o) := Nat.mul_le_mul_right _ g2
        _ = k.natAbs * o * (L.natAbs * o) := by ac_rfl
        _ ≤ k.natAbs * o * (65536 * zy) := Nat.mul_le_mul_left _ ay
        _ = 65536 * (65536 * (zv * zy)) := by rw [← v3]; ac_rfl
    omega)
  rw [← hv] at hle
  refine ⟨?_, ?_, ?_, by rw [Int.natAbs_neg]; exact h1, h1⟩
  · rw [hv]; exact Jvm.FP.Core.roundRatio_ne_nan _ _ _ _ _
  all_goals
    unfold Jvm.FP.Core.zval
    have hs := fSigned (Jvm.FP.Core.sgn (Jvm.FP.Core.val64 (FP.ddiv x y))) hle
    have v4 : (65536 : Int) * (Jvm.FP.Core.zmag Jvm.FP.Core.b64 V : Int) = k * (Jvm.FP.Core.one64 : Int) := by
      have : ((65536 * Jvm.FP.Core.zmag Jvm.FP.Core.b64 V : Nat) : Int) = ((k.natAbs * Jvm.FP.Core.one64 : Nat) : Int) := by rw [v3]
      rw [Int.natCast_mul, Int.natCast_mul, show (k.natAbs : Int) = k by omega] at this
      exact this
    try rw [Int.neg_mul]
    omega
def wholeF (v : UInt64) : Int32 := if Op.cmpValue (FP.dcmp (FP.i2d (FP.d2i (FP.dadd v 4602678819172646912))) (FP.dadd v 4602678819172646912)) .l ≤ 0 then FP.d2i (FP.dadd v 4602678819172646912) else FP.d2i (FP.dadd v 4602678819172646912) - 1
theorem fHalf : fIv 32768 32768 4602678819172646912 := by unfold fIv; decide +kernel
theorem fIvN {i k : Nat} (h : i ≤ k) (hk : k < 2 ^ 31) : fIv 0 (65536 * (k : Int)) (FP.i2d (nI i)) := by
  have h1 := fIv.i2d (nI i)
  rw [nI_toInt (by omega)] at h1
  exact h1.weak (by omega) (by omega) (by decide) (by omega)
theorem fIv.i2d_in {v : Int32} {k : Int} (h1 : -k ≤ v.toInt) (h2 : v.toInt ≤ k) (hk : k < 2 ^ 31) : fIv (-(65536 * k)) (65536 * k) (FP.i2d v) :=
  (fIv.i2d v).weak (by omega) (by omega) (by omega) (by omega)
theorem cmpL_le (a b : Int) : Op.cmpValue (some (compare a b)) .l ≤ 0 ↔ a ≤ b := by
  have h := Jvm.FP.Core.cmpInt_l_le (some (compare a b))
  rcases Int.lt_trichotomy a b with q | q | q
  · rw [(Jvm.FP.Core.compare_lt_iff a b).mpr q]; exact ⟨fun _ => by omega, fun _ => by decide⟩
  · rw [(Jvm.FP.Core.compare_eq_iff a b).mpr q]; exact ⟨fun _ => by omega, fun _ => by decide⟩
  · rw [(Jvm.FP.Core.compare_gt_iff a b).mpr q]; exact ⟨fun z => absurd z (by decide), fun _ => by omega⟩
theorem cmpL_lt0 (a b : Int) : Op.cmpValue (some (compare a b)) .l < 0 ↔ a < b := by
  rcases Int.lt_trichotomy a b with q | q | q
  · rw [(Jvm.FP.Core.compare_lt_iff a b).mpr q]; exact ⟨fun _ => by omega, fun _ => by decide⟩
  · rw [(Jvm.FP.Core.compare_eq_iff a b).mpr q]; exact ⟨fun z => absurd z (by decide), fun _ => by omega⟩
  · rw [(Jvm.FP.Core.compare_gt_iff a b).mpr q]; exact ⟨fun z => absurd z (by decide), fun _ => by omega⟩
theorem cmpG_le (a b : Int) : Op.cmpValue (some (compare a b)) .g ≤ 0 ↔ a ≤ b := by
  rcases Int.lt_trichotomy a b with q | q | q
  · rw [(Jvm.FP.Core.compare_lt_iff a b).mpr q]; exact ⟨fun _ => by omega, fun _ => by decide⟩
  · rw [(Jvm.FP.Core.compare_eq_iff a b).mpr q]; exact ⟨fun _ => by omega, fun _ => by decide⟩
  · rw [(Jvm.FP.Core.compare_gt_iff a b).mpr q]; exact ⟨fun z => absurd z (by decide), fun _ => by omega⟩
theorem fWhole {v : UInt64} {lo hi : Int} (hr : fIv lo hi (FP.dadd v 4602678819172646912)) (h1 : -(2 ^ 46) < lo) (h2 : hi < 2 ^ 46) :
    lo < 65536 * ((wholeF v).toInt + 1) ∧ 65536 * (wholeF v).toInt ≤ hi := by
  have ho := fOnePos
  unfold wholeF
  generalize FP.dadd v 4602678819172646912 = r at *
  have hd := Jvm.FP.Core.d2i_val hr.1
  have hn2 := Jvm.FP.Core.DInt_ne_nan (Jvm.FP.Core.i2d_int (FP.d2i r))
  have hz2 := Jvm.FP.Core.DInt_zval (Jvm.FP.Core.i2d_int (FP.d2i r))
  have hc := Jvm.FP.Core.dcmp_zval hn2 hr.1
  rw [show FP.dcmp (FP.i2d (FP.d2i r)) r = Jvm.FP.Core.dcmp (Jvm.FP.Core.i2d (FP.d2i r)) r from rfl, hc, hz2]
  obtain ⟨-, g1, g2, -, -⟩ := hr
  rw [show FP.d2i r = Jvm.FP.Core.d2i r from rfl] at *
  generalize Jvm.FP.Core.d2i r = cut at *
  unfold Jvm.FP.Core.zval at *
  generalize Jvm.FP.Core.sgn (Jvm.FP.Core.val64 r) = s at *
  generalize Jvm.FP.Core.zmag Jvm.FP.Core.b64 (Jvm.FP.Core.val64 r) = z at *
  have hdiv := Nat.div_add_mod z Jvm.FP.Core.one64
  have hmod := Nat.mod_lt z Jvm.FP.Core.one64_pos
  generalize hq : z / Jvm.FP.Core.one64 = q at *
  generalize z % Jvm.FP.Core.one64 = t at *
  generalize Jvm.FP.Core.one64 = o at *
  have hzi : (z : Int) = (o : Int) * (q : Int) + (t : Int) := by
    rw [← Int.natCast_mul, ← Int.natCast_add, hdiv]
  have hq30 : (q : Int) ≤ 2 ^ 30 := by
    rcases Int.lt_or_le (2 ^ 30 : Int) (q : Int) with w | w
    · exfalso
      have e1 : (2 ^ 30 : Int) * (o : Int) ≤ (q : Int) * (o : Int) := Int.mul_le_mul_of_nonneg_right (by omega) (by omega)
      have e2 : hi * (o : Int) ≤ 2 ^ 46 * (o : Int) := Int.mul_le_mul_of_nonneg_right (by omega) (by omega)
      have e3 : -(2 ^ 46) * (o : Int) ≤ lo * (o : Int) := Int.mul_le_mul_of_nonneg_right (by omega) (by omega)
      have e4 : (2 ^ 30 + 1 : Int) * (o : Int) ≤ (q : Int) * (o : Int) := Int.mul_le_mul_of_nonneg_right (by omega) (by omega)
      rw [Int.mul_comm (o : Int) (q : Int)] at hzi
      cases s <;> simp only [Jvm.FP.Core.signed, if_true, Bool.false_eq_true, if_false] at g1 g2 <;> omega
    · exact w
  have hcut : cut.toInt = Jvm.FP.Core.signed s q := by
    rw [hd]
    cases s <;> simp only [Jvm.FP.Core.signed, if_true, Bool.false_eq_true, if_false] <;> omega
  have hsub : (cut - 1).toInt = cut.toInt - 1 := by
    rw [Int32.toInt_sub, show (1 : Int32).toInt = 1 from rfl]
    rw [hcut]
    have : -2 ^ 31 ≤ Jvm.FP.Core.signed s q - 1 ∧ Jvm.FP.Core.signed s q - 1 < 2 ^ 31 := by
      cases s <;> simp only [Jvm.FP.Core.signed, if_true, Bool.false_eq_true, if_false] <;> omega
    exact Int.bmod_eq_of_le (by omega) (by omega)
  have key : ∃ w : Int, (if Op.cmpValue (some (compare (cut.toInt * (o : Int)) (Jvm.FP.Core.signed s z))) .l ≤ 0 then cut else cut - 1).toInt = w ∧ w * (o : Int) ≤ Jvm.FP.Core.signed s z ∧ Jvm.FP.Core.signed s z < (w + 1) * (o : Int) := by
    by_cases hle : cut.toInt * (o : Int) ≤ Jvm.FP.Core.signed s z
    · rw [if_pos ((cmpL_le _ _).mpr hle)]
      refine ⟨_, rfl, hle, ?_⟩
      rw [Int.add_mul, Int.one_mul, hcut]
      rw [hcut] at hle
      cases s <;> simp only [Jvm.FP.Core.signed, if_true, Bool.false_eq_true, if_false] at hle ⊢
      · rw [Int.mul_comm (o : Int) (q : Int)] at hzi; omega
      · rw [Int.mul_comm (o : Int) (q : Int)] at hzi; rw [Int.neg_mul] at hle ⊢; omega
    · rw [if_neg (fun h => hle ((cmpL_le _ _).mp h))]
      refine ⟨_, rfl, ?_, ?_⟩
      · rw [hsub, Int.sub_mul, Int.one_mul, hcut]
        rw [hcut] at hle
        cases s <;> simp only [Jvm.FP.Core.signed, if_true, Bool.false_eq_true, if_false] at hle ⊢
        · rw [Int.mul_comm (o : Int) (q : Int)] at hzi; omega
        · rw [Int.mul_comm (o : Int) (q : Int)] at hzi; rw [Int.neg_mul] at hle ⊢; omega
      · rw [hsub, Int.sub_add_cancel]; omega
  obtain ⟨w, k1, k2, k3⟩ := key
  rw [k1]
  generalize Jvm.FP.Core.signed s z = y at *
  constructor
  · have : lo * (o : Int) < 65536 * (w + 1) * (o : Int) := by rw [Int.mul_assoc]; omega
    exact Int.lt_of_mul_lt_mul_right this (by omega)
  · have : 65536 * w * (o : Int) ≤ hi * (o : Int) := by rw [Int.mul_assoc]; omega
    exact Int.le_of_mul_le_mul_right this (by omega)
theorem fAdd {a b c d lo hi : Int} {x y : UInt64} (hx : fIv a b x) (hy : fIv c d y) (e1 : a + c = lo) (e2 : b + d = hi) (h1 : lo.natAbs < 2 ^ 53) (h2 : hi.natAbs < 2 ^ 53) : fIv lo hi (FP.dadd x y) := by
  subst e1 e2; exact hx.add hy h1 h2
theorem fSub {a b c d lo hi : Int} {x y : UInt64} (hx : fIv a b x) (hy : fIv c d y) (e1 : a - d = lo) (e2 : b - c = hi) (h1 : lo.natAbs < 2 ^ 53) (h2 : hi.natAbs < 2 ^ 53) : fIv lo hi (FP.dsub x y) := by
  subst e1 e2; exact hx.sub hy h1 h2
end
section
/-! the document's functions of an angle, in its own order of operations -/
def radF (a : UInt64) : UInt64 := FP.ddiv (FP.dmul a 4614256656552045848) 4670677016280825856
def polF (a b c : UInt64) (q : UInt64) : UInt64 := FP.dadd FP.dconst1 (FP.dmul q (FP.dadd a (FP.dmul q (FP.dadd b (FP.dmul q c)))))
def slopeF (a : UInt64) : UInt64 := FP.dmul (radF a) (polF 4599676419421066581 4593971859893063953 4587938466106554908 (FP.dmul (radF a) (radF a)))
def sineF (a : UInt64) : UInt64 := FP.dmul (radF a) (polF 13818544856648471893 4575957461383581969 13774824197408792602 (FP.dmul (radF a) (radF a)))
def cosF (a : UInt64) : UInt64 := polF 13826050856027422720 4586165620538955093 13787419979223755799 (FP.dmul (radF a) (radF a))
theorem fc_dconst0 : fIv 0 0 FP.dconst0 := by unfold fIv; decide +kernel
theorem fc_dconst1 : fIv 65536 65536 FP.dconst1 := by unfold fIv; decide +kernel
theorem fMid : ∀ w, w < 25 → fIv (-32768) 753664 (midF w) := by unfold fIv midF; decide +kernel
theorem fc_13774824197408792602 : fIv (-14) (-13) 13774824197408792602 := by unfold fIv; decide +kernel
theorem fc_13787419979223755799 : fIv (-92) (-91) 13787419979223755799 := by unfold fIv; decide +kernel
theorem fc_13818544856648471893 : fIv (-10923) (-10922) 13818544856648471893 := by unfold fIv; decide +kernel
theorem fc_13826050856027422720 : fIv (-32768) (-32768) 13826050856027422720 := by unfold fIv; decide +kernel
theorem fc_4575957461383581969 : fIv (546) (547) 4575957461383581969 := by unfold fIv; decide +kernel
theorem fc_4586165620538955093 : fIv (2730) (2731) 4586165620538955093 := by unfold fIv; decide +kernel
theorem fc_4587938466106554908 : fIv (3536) (3537) 4587938466106554908 := by unfold fIv; decide +kernel
theorem fc_4593971859893063953 : fIv (8738) (8739) 4593971859893063953 := by unfold fIv; decide +kernel
theorem fc_4599676419421066581 : fIv (21845) (21846) 4599676419421066581 := by unfold fIv; decide +kernel
theorem fc_4614256656552045848 : fIv (205887) (205888) 4614256656552045848 := by unfold fIv; decide +kernel
theorem fc_4670677016280825856 : fIv (1179648000) (1179648000) 4670677016280825856 := by unfold fIv; decide +kernel
theorem fRad {a : UInt64} (ha : fIv (-131072000) 131072000 a) : fIv (-22877) (22877) (radF a) := by
  have h1 : fIv (-411776000) (411776000) (FP.dmul a 4614256656552045848) := fIv.mul (n := 131072000) (m := 205888) (k := 411776000) ha (fc_4614256656552045848.weak (by decide +kernel) (by decide +kernel) (by decide +kernel) (by decide +kernel)) (by decide +kernel) (by decide +kernel)
  have h2 : fIv (-22877) (22877) (FP.ddiv (FP.dmul a 4614256656552045848) 4670677016280825856) := fIv.div (n := 411776000) (L := 1179648000) (k := 22877) h1 fc_4670677016280825856 (by decide +kernel) (by decide +kernel) (by decide +kernel)
  exact h2
theorem fSlope {a : UInt64} (ha : fIv (-131072000) 131072000 a) : fIv (-23855) (23855) (slopeF a) := by
  have h1 : fIv (-411776000) (411776000) (FP.dmul a 4614256656552045848) := fIv.mul (n := 131072000) (m := 205888) (k := 411776000) ha (fc_4614256656552045848.weak (by decide +kernel) (by decide +kernel) (by decide +kernel) (by decide +kernel)) (by decide +kernel) (by decide +kernel)
  have h2 : fIv (-22877) (22877) (FP.ddiv (FP.dmul a 4614256656552045848) 4670677016280825856) := fIv.div (n := 411776000) (L := 1179648000) (k := 22877) h1 fc_4670677016280825856 (by decide +kernel) (by decide +kernel) (by decide +kernel)
  have h3 : fIv (-7986) (7986) (FP.dmul (FP.ddiv (FP.dmul a 4614256656552045848) 4670677016280825856) (FP.ddiv (FP.dmul a 4614256656552045848) 4670677016280825856)) := fIv.mul (n := 22877) (m := 22877) (k := 7986) h2 h2 (by decide +kernel) (by decide +kernel)
  have h4 : fIv (-432) (432) (FP.dmul (FP.dmul (FP.ddiv (FP.dmul a 4614256656552045848) 4670677016280825856) (FP.ddiv (FP.dmul a 4614256656552045848) 4670677016280825856)) 4587938466106554908) := fIv.mul (n := 7986) (m := 3537) (k := 432) h3 (fc_4587938466106554908.weak (by decide +kernel) (by decide +kernel) (by decide +kernel) (by decide +kernel)) (by decide +kernel) (by decide +kernel)
  have h5 : fIv (8306) (9171) (FP.dadd 4593971859893063953 (FP.dmul (FP.dmul (FP.ddiv (FP.dmul a 4614256656552045848) 4670677016280825856) (FP.ddiv (FP.dmul a 4614256656552045848) 4670677016280825856)) 4587938466106554908)) := fAdd fc_4593971859893063953 h4 (by decide +kernel) (by decide +kernel) (by decide +kernel) (by decide +kernel)
  have h6 : fIv (-1118) (1118) (FP.dmul (FP.dmul (FP.ddiv (FP.dmul a 4614256656552045848) 4670677016280825856) (FP.ddiv (FP.dmul a 4614256656552045848) 4670677016280825856)) (FP.dadd 4593971859893063953 (FP.dmul (FP.dmul (FP.ddiv (FP.dmul a 4614256656552045848) 4670677016280825856) (FP.ddiv (FP.dmul a 4614256656552045848) 4670677016280825856)) 4587938466106554908))) := fIv.mul (n := 7986) (m := 9171) (k := 1118) h3 (h5.weak (by decide +kernel) (by decide +kernel) (by decide +kernel) (by decide +kernel)) (by decide +kernel) (by decide +kernel)
  have h7 : fIv (20727) (22964) (FP.dadd 4599676419421066581 (FP.dmul (FP.dmul (FP.ddiv (FP.dmul a 4614256656552045848) 4670677016280825856) (FP.ddiv (FP.dmul a 4614256656552045848) 4670677016280825856)) (FP.dadd 4593971859893063953 (FP.dmul (FP.dmul (FP.ddiv (FP.dmul a 4614256656552045848) 4670677016280825856) (FP.ddiv (FP.dmul a 4614256656552045848) 4670677016280825856)) 4587938466106554908)))) := fAdd fc_4599676419421066581 h6 (by decide +kernel) (by decide +kernel) (by decide +kernel) (by decide +kernel)
  have h8 : fIv (-2799) (2799) (FP.dmul (FP.dmul (FP.ddiv (FP.dmul a 4614256656552045848) 4670677016280825856) (FP.ddiv (FP.dmul a 4614256656552045848) 4670677016280825856)) (FP.dadd 4599676419421066581 (FP.dmul (FP.dmul (FP.ddiv (FP.dmul a 4614256656552045848) 4670677016280825856) (FP.ddiv (FP.dmul a 4614256656552045848) 4670677016280825856)) (FP.dadd 4593971859893063953 (FP.dmul (FP.dmul (FP.ddiv (FP.dmul a 4614256656552045848) 4670677016280825856) (FP.ddiv (FP.dmul a 4614256656552045848) 4670677016280825856)) 4587938466106554908))))) := fIv.mul (n := 7986) (m := 22964) (k := 2799) h3 (h7.weak (by decide +kernel) (by decide +kernel) (by decide +kernel) (by decide +kernel)) (by decide +kernel) (by decide +kernel)
  have h9 : fIv (62737) (68335) (FP.dadd FP.dconst1 (FP.dmul (FP.dmul (FP.ddiv (FP.dmul a 4614256656552045848) 4670677016280825856) (FP.ddiv (FP.dmul a 4614256656552045848) 4670677016280825856)) (FP.dadd 4599676419421066581 (FP.dmul (FP.dmul (FP.ddiv (FP.dmul a 4614256656552045848) 4670677016280825856) (FP.ddiv (FP.dmul a 4614256656552045848) 4670677016280825856)) (FP.dadd 4593971859893063953 (FP.dmul (FP.dmul (FP.ddiv (FP.dmul a 4614256656552045848) 4670677016280825856) (FP.ddiv (FP.dmul a 4614256656552045848) 4670677016280825856)) 4587938466106554908)))))) := fAdd fc_dconst1 h8 (by decide +kernel) (by decide +kernel) (by decide +kernel) (by decide +kernel)
  have h10 : fIv (-23855) (23855) (FP.dmul (FP.ddiv (FP.dmul a 4614256656552045848) 4670677016280825856) (FP.dadd FP.dconst1 (FP.dmul (FP.dmul (FP.ddiv (FP.dmul a 4614256656552045848) 4670677016280825856) (FP.ddiv (FP.dmul a 4614256656552045848) 4670677016280825856)) (FP.dadd 4599676419421066581 (FP.dmul (FP.dmul (FP.ddiv (FP.dmul a 4614256656552045848) 4670677016280825856) (FP.ddiv (FP.dmul a 4614256656552045848) 4670677016280825856)) (FP.dadd 4593971859893063953 (FP.dmul (FP.dmul (FP.ddiv (FP.dmul a 4614256656552045848) 4670677016280825856) (FP.ddiv (FP.dmul a 4614256656552045848) 4670677016280825856)) 4587938466106554908))))))) := fIv.mul (n := 22877) (m := 68335) (k := 23855) h2 (h9.weak (by decide +kernel) (by decide +kernel) (by decide +kernel) (by decide +kernel)) (by decide +kernel) (by decide +kernel)
  exact h10
theorem fSine {a : UInt64} (ha : fIv (-131072000) 131072000 a) : fIv (-23345) (23345) (sineF a) := by
  have h1 : fIv (-411776000) (411776000) (FP.dmul a 4614256656552045848) := fIv.mul (n := 131072000) (m := 205888) (k := 411776000) ha (fc_4614256656552045848.weak (by decide +kernel) (by decide +kernel) (by decide +kernel) (by decide +kernel)) (by decide +kernel) (by decide +kernel)
  have h2 : fIv (-22877) (22877) (FP.ddiv (FP.dmul a 4614256656552045848) 4670677016280825856) := fIv.div (n := 411776000) (L := 1179648000) (k := 22877) h1 fc_4670677016280825856 (by decide +kernel) (by decide +kernel) (by decide +kernel)
  have h3 : fIv (-7986) (7986) (FP.dmul (FP.ddiv (FP.dmul a 4614256656552045848) 4670677016280825856) (FP.ddiv (FP.dmul a 4614256656552045848) 4670677016280825856)) := fIv.mul (n := 22877) (m := 22877) (k := 7986) h2 h2 (by decide +kernel) (by decide +kernel)
  have h4 : fIv (-2) (2) (FP.dmul (FP.dmul (FP.ddiv (FP.dmul a 4614256656552045848) 4670677016280825856) (FP.ddiv (FP.dmul a 4614256656552045848) 4670677016280825856)) 13774824197408792602) := fIv.mul (n := 7986) (m := 14) (k := 2) h3 (fc_13774824197408792602.weak (by decide +kernel) (by decide +kernel) (by decide +kernel) (by decide +kernel)) (by decide +kernel) (by decide +kernel)
  have h5 : fIv (544) (549) (FP.dadd 4575957461383581969 (FP.dmul (FP.dmul (FP.ddiv (FP.dmul a 4614256656552045848) 4670677016280825856) (FP.ddiv (FP.dmul a 4614256656552045848) 4670677016280825856)) 13774824197408792602)) := fAdd fc_4575957461383581969 h4 (by decide +kernel) (by decide +kernel) (by decide +kernel) (by decide +kernel)
  have h6 : fIv (-67) (67) (FP.dmul (FP.dmul (FP.ddiv (FP.dmul a 4614256656552045848) 4670677016280825856) (FP.ddiv (FP.dmul a 4614256656552045848) 4670677016280825856)) (FP.dadd 4575957461383581969 (FP.dmul (FP.dmul (FP.ddiv (FP.dmul a 4614256656552045848) 4670677016280825856) (FP.ddiv (FP.dmul a 4614256656552045848) 4670677016280825856)) 13774824197408792602))) := fIv.mul (n := 7986) (m := 549) (k := 67) h3 (h5.weak (by decide +kernel) (by decide +kernel) (by decide +kernel) (by decide +kernel)) (by decide +kernel) (by decide +kernel)
  have h7 : fIv (-10990) (-10855) (FP.dadd 13818544856648471893 (FP.dmul (FP.dmul (FP.ddiv (FP.dmul a 4614256656552045848) 4670677016280825856) (FP.ddiv (FP.dmul a 4614256656552045848) 4670677016280825856)) (FP.dadd 4575957461383581969 (FP.dmul (FP.dmul (FP.ddiv (FP.dmul a 4614256656552045848) 4670677016280825856) (FP.ddiv (FP.dmul a 4614256656552045848) 4670677016280825856)) 13774824197408792602)))) := fAdd fc_13818544856648471893 h6 (by decide +kernel) (by decide +kernel) (by decide +kernel) (by decide +kernel)
  have h8 : fIv (-1340) (1340) (FP.dmul (FP.dmul (FP.ddiv (FP.dmul a 4614256656552045848) 4670677016280825856) (FP.ddiv (FP.dmul a 4614256656552045848) 4670677016280825856)) (FP.dadd 13818544856648471893 (FP.dmul (FP.dmul (FP.ddiv (FP.dmul a 4614256656552045848) 4670677016280825856) (FP.ddiv (FP.dmul a 4614256656552045848) 4670677016280825856)) (FP.dadd 4575957461383581969 (FP.dmul (FP.dmul (FP.ddiv (FP.dmul a 4614256656552045848) 4670677016280825856) (FP.ddiv (FP.dmul a 4614256656552045848) 4670677016280825856)) 13774824197408792602))))) := fIv.mul (n := 7986) (m := 10990) (k := 1340) h3 (h7.weak (by decide +kernel) (by decide +kernel) (by decide +kernel) (by decide +kernel)) (by decide +kernel) (by decide +kernel)
  have h9 : fIv (64196) (66876) (FP.dadd FP.dconst1 (FP.dmul (FP.dmul (FP.ddiv (FP.dmul a 4614256656552045848) 4670677016280825856) (FP.ddiv (FP.dmul a 4614256656552045848) 4670677016280825856)) (FP.dadd 13818544856648471893 (FP.dmul (FP.dmul (FP.ddiv (FP.dmul a 4614256656552045848) 4670677016280825856) (FP.ddiv (FP.dmul a 4614256656552045848) 4670677016280825856)) (FP.dadd 4575957461383581969 (FP.dmul (FP.dmul (FP.ddiv (FP.dmul a 4614256656552045848) 4670677016280825856) (FP.ddiv (FP.dmul a 4614256656552045848) 4670677016280825856)) 13774824197408792602)))))) := fAdd fc_dconst1 h8 (by decide +kernel) (by decide +kernel) (by decide +kernel) (by decide +kernel)
  have h10 : fIv (-23345) (23345) (FP.dmul (FP.ddiv (FP.dmul a 4614256656552045848) 4670677016280825856) (FP.dadd FP.dconst1 (FP.dmul (FP.dmul (FP.ddiv (FP.dmul a 4614256656552045848) 4670677016280825856) (FP.ddiv (FP.dmul a 4614256656552045848) 4670677016280825856)) (FP.dadd 13818544856648471893 (FP.dmul (FP.dmul (FP.ddiv (FP.dmul a 4614256656552045848) 4670677016280825856) (FP.ddiv (FP.dmul a 4614256656552045848) 4670677016280825856)) (FP.dadd 4575957461383581969 (FP.dmul (FP.dmul (FP.ddiv (FP.dmul a 4614256656552045848) 4670677016280825856) (FP.ddiv (FP.dmul a 4614256656552045848) 4670677016280825856)) 13774824197408792602))))))) := fIv.mul (n := 22877) (m := 66876) (k := 23345) h2 (h9.weak (by decide +kernel) (by decide +kernel) (by decide +kernel) (by decide +kernel)) (by decide +kernel) (by decide +kernel)
  exact h10
theorem fCos {a : UInt64} (ha : fIv (-131072000) 131072000 a) : fIv (61502) (69570) (cosF a) := by
  have h1 : fIv (-411776000) (411776000) (FP.dmul a 4614256656552045848) := fIv.mul (n := 131072000) (m := 205888) (k := 411776000) ha (fc_4614256656552045848.weak (by decide +kernel) (by decide +kernel) (by decide +kernel) (by decide +kernel)) (by decide +kernel) (by decide +kernel)
  have h2 : fIv (-22877) (22877) (FP.ddiv (FP.dmul a 4614256656552045848) 4670677016280825856) := fIv.div (n := 411776000) (L := 1179648000) (k := 22877) h1 fc_4670677016280825856 (by decide +kernel) (by decide +kernel) (by decide +kernel)
  have h3 : fIv (-7986) (7986) (FP.dmul (FP.ddiv (FP.dmul a 4614256656552045848) 4670677016280825856) (FP.ddiv (FP.dmul a 4614256656552045848) 4670677016280825856)) := fIv.mul (n := 22877) (m := 22877) (k := 7986) h2 h2 (by decide +kernel) (by decide +kernel)
  have h4 : fIv (-12) (12) (FP.dmul (FP.dmul (FP.ddiv (FP.dmul a 4614256656552045848) 4670677016280825856) (FP.ddiv (FP.dmul a 4614256656552045848) 4670677016280825856)) 13787419979223755799) := fIv.mul (n := 7986) (m := 92) (k := 12) h3 (fc_13787419979223755799.weak (by decide +kernel) (by decide +kernel) (by decide +kernel) (by decide +kernel)) (by decide +kernel) (by decide +kernel)
  have h5 : fIv (2718) (2743) (FP.dadd 4586165620538955093 (FP.dmul (FP.dmul (FP.ddiv (FP.dmul a 4614256656552045848) 4670677016280825856) (FP.ddiv (FP.dmul a 4614256656552045848) 4670677016280825856)) 13787419979223755799)) := fAdd fc_4586165620538955093 h4 (by decide +kernel) (by decide +kernel) (by decide +kernel) (by decide +kernel)
  have h6 : fIv (-335) (335) (FP.dmul (FP.dmul (FP.ddiv (FP.dmul a 4614256656552045848) 4670677016280825856) (FP.ddiv (FP.dmul a 4614256656552045848) 4670677016280825856)) (FP.dadd 4586165620538955093 (FP.dmul (FP.dmul (FP.ddiv (FP.dmul a 4614256656552045848) 4670677016280825856) (FP.ddiv (FP.dmul a 4614256656552045848) 4670677016280825856)) 13787419979223755799))) := fIv.mul (n := 7986) (m := 2743) (k := 335) h3 (h5.weak (by decide +kernel) (by decide +kernel) (by decide +kernel) (by decide +kernel)) (by decide +kernel) (by decide +kernel)
  have h7 : fIv (-33103) (-32433) (FP.dadd 13826050856027422720 (FP.dmul (FP.dmul (FP.ddiv (FP.dmul a 4614256656552045848) 4670677016280825856) (FP.ddiv (FP.dmul a 4614256656552045848) 4670677016280825856)) (FP.dadd 4586165620538955093 (FP.dmul (FP.dmul (FP.ddiv (FP.dmul a 4614256656552045848) 4670677016280825856) (FP.ddiv (FP.dmul a 4614256656552045848) 4670677016280825856)) 13787419979223755799)))) := fAdd fc_13826050856027422720 h6 (by decide +kernel) (by decide +kernel) (by decide +kernel) (by decide +kernel)
  have h8 : fIv (-4034) (4034) (FP.dmul (FP.dmul (FP.ddiv (FP.dmul a 4614256656552045848) 4670677016280825856) (FP.ddiv (FP.dmul a 4614256656552045848) 4670677016280825856)) (FP.dadd 13826050856027422720 (FP.dmul (FP.dmul (FP.ddiv (FP.dmul a 4614256656552045848) 4670677016280825856) (FP.ddiv (FP.dmul a 4614256656552045848) 4670677016280825856)) (FP.dadd 4586165620538955093 (FP.dmul (FP.dmul (FP.ddiv (FP.dmul a 4614256656552045848) 4670677016280825856) (FP.ddiv (FP.dmul a 4614256656552045848) 4670677016280825856)) 13787419979223755799))))) := fIv.mul (n := 7986) (m := 33103) (k := 4034) h3 (h7.weak (by decide +kernel) (by decide +kernel) (by decide +kernel) (by decide +kernel)) (by decide +kernel) (by decide +kernel)
  have h9 : fIv (61502) (69570) (FP.dadd FP.dconst1 (FP.dmul (FP.dmul (FP.ddiv (FP.dmul a 4614256656552045848) 4670677016280825856) (FP.ddiv (FP.dmul a 4614256656552045848) 4670677016280825856)) (FP.dadd 13826050856027422720 (FP.dmul (FP.dmul (FP.ddiv (FP.dmul a 4614256656552045848) 4670677016280825856) (FP.ddiv (FP.dmul a 4614256656552045848) 4670677016280825856)) (FP.dadd 4586165620538955093 (FP.dmul (FP.dmul (FP.ddiv (FP.dmul a 4614256656552045848) 4670677016280825856) (FP.ddiv (FP.dmul a 4614256656552045848) 4670677016280825856)) 13787419979223755799)))))) := fAdd fc_dconst1 h8 (by decide +kernel) (by decide +kernel) (by decide +kernel) (by decide +kernel)
  exact h9
theorem wd_kX1_radians_c7 : Cond.constantDouble RX1 7 (4614256656552045848) ∈ wsX1_radians := by decide +kernel
theorem wd_kX1_radians_c9 : Cond.constantDouble RX1 9 (4670677016280825856) ∈ wsX1_radians := by decide +kernel
abbrev rmX1_radians : Room := { frames := 0, cells := 0, slots := 0, locals := 0 }
set_option maxRecDepth 100000 in
set_option maxHeartbeats 4000000 in
theorem kX1_radians (l : Launch) (G : va_G) (cI cZ cJ cD : ClassId) (a : UInt64) (ha : fIv (-131072000) 131072000 a) : Cd l G (kTy cI cZ cJ cD) yX1_radians wsX1_radians rmX1_radians [.double a] [] (radF a) [] := by
  refine Cd.of rfl rfl (cc := cX1_radians) (maxL := 2) (plainFor_of_name (by decide)) rfl (Nat.le_of_ble_eq_true rfl) rfl ?_
  intro p e s m args below meth c A Q hx hb hml hts hown hA hK hP hD hS hend ls hl
  refine lv_dload_n hx hb dX1_radians_0 rfl (lv_at hl 0 rfl) ?_
  refine lv_ldc2d (v := 4614256656552045848) hx hb hown (hts _ wd_kX1_radians_c7) dX1_radians_1 ?_
  have b1 : fIv (-411776000) (411776000) (FP.dmul a 4614256656552045848) := fIv.mul (n := 131072000) (m := 205888) (k := 411776000) ha (fc_4614256656552045848.weak (by decide +kernel) (by decide +kernel) (by decide +kernel) (by decide +kernel)) (by decide +kernel) (by decide +kernel)
  refine lv_dmul hx hb dX1_radians_4 b1.n64 ?_
  refine lv_ldc2d (v := 4670677016280825856) hx hb hown (hts _ wd_kX1_radians_c9) dX1_radians_5 ?_
  have b2 : fIv (-22877) (22877) (FP.ddiv (FP.dmul a 4614256656552045848) 4670677016280825856) := fIv.div (n := 411776000) (L := 1179648000) (k := 22877) b1 fc_4670677016280825856 (by decide +kernel) (by decide +kernel) (by decide +kernel)
  refine lv_ddiv hx hb dX1_radians_8 b2.n64 ?_
  exact hend _ _ _ _ _ _ dX1_radians_9 hP hD hS rfl rfl
theorem wd_kX1_slope_c17 : Cond.constantDouble RX1 17 (4599676419421066581) ∈ wsX1_slope := by decide +kernel
theorem wd_kX1_slope_c19 : Cond.constantDouble RX1 19 (4593971859893063953) ∈ wsX1_slope := by decide +kernel
theorem wd_kX1_slope_c21 : Cond.constantDouble RX1 21 (4587938466106554908) ∈ wsX1_slope := by decide +kernel
abbrev rmX1_slope : Room := { frames := 1, cells := 0, slots := 0, locals := 21 }
set_option maxRecDepth 100000 in
set_option maxHeartbeats 4000000 in
theorem kX1_slope (l : Launch) (G : va_G) (cI cZ cJ cD : ClassId) (a : UInt64) (ha : fIv (-131072000) 131072000 a) : Cd l G (kTy cI cZ cJ cD) yX1_slope wsX1_slope rmX1_slope [.double a] [] (slopeF a) [] := by
  refine Cd.of rfl rfl (cc := cX1_slope) (maxL := 6) (plainFor_of_name (by decide)) rfl (Nat.le_of_ble_eq_true rfl) rfl ?_
  intro p e s m args below meth c A Q hx hb hml hts hown hA hK hP hD hS hend ls hl
  refine lv_dload_n hx hb dX1_slope_0 rfl (lv_at hl 0 rfl) ?_
  refine kSd (rest := []) (kX1_radians l G cI cZ cJ cD a ha) ⟨hx, hb, hml, hown, hts⟩ (va_cwS 1 hts gX1_slope_X1_radians rfl rfl rfl hs_X1_radians ⟨Nat.le_of_ble_eq_true rfl, Nat.le_of_ble_eq_true rfl⟩) hK hP hD hS hA rfl hl.1 rfl (Nat.le_of_ble_eq_true rfl) dX1_slope_1 ⟨Nat.le_of_ble_eq_true rfl, Nat.le_of_ble_eq_true rfl⟩ rfl rfl (fun H locs hP hD hS => ?_)
  have b1 : fIv (-22877) (22877) (radF a) := fRad ha
  refine lv_dstore_n (lv' := [(2, .double (radF a)), (0, .double a)]) hx hb dX1_slope_4 rfl hl (by decide) rfl (fun ls hl => ?_)
  refine lv_dload_n hx hb dX1_slope_5 rfl (lv_at hl 0 rfl) ?_
  refine lv_dload_n hx hb dX1_slope_6 rfl (lv_at hl 0 rfl) ?_
  have b2 : fIv (-7986) (7986) (FP.dmul (radF a) (radF a)) := fIv.mul (n := 22877) (m := 22877) (k := 7986) b1 b1 (by decide +kernel) (by decide +kernel)
  refine lv_dmul hx hb dX1_slope_7 b2.n64 ?_
  refine lv_dstore (lv' := [(4, .double (FP.dmul (radF a) (radF a))), (2, .double (radF a)), (0, .double a)]) hx hb dX1_slope_8 hl (by decide) rfl (fun ls hl => ?_)
  refine lv_dload_n hx hb dX1_slope_10 rfl (lv_at hl 1 rfl) ?_
  refine lv_dconst1 hx hb dX1_slope_11 ?_
  refine lv_dload hx hb dX1_slope_12 (lv_at hl 0 rfl) ?_
  refine lv_ldc2d (v := 4599676419421066581) hx hb hown (hts _ wd_kX1_slope_c17) dX1_slope_14 ?_
  refine lv_dload hx hb dX1_slope_17 (lv_at hl 0 rfl) ?_
  refine lv_ldc2d (v := 4593971859893063953) hx hb hown (hts _ wd_kX1_slope_c19) dX1_slope_19 ?_
  refine lv_dload hx hb dX1_slope_22 (lv_at hl 0 rfl) ?_
  refine lv_ldc2d (v := 4587938466106554908) hx hb hown (hts _ wd_kX1_slope_c21) dX1_slope_24 ?_
  have b3 : fIv (-432) (432) (FP.dmul (FP.dmul (radF a) (radF a)) 4587938466106554908) := fIv.mul (n := 7986) (m := 3537) (k := 432) b2 (fc_4587938466106554908.weak (by decide +kernel) (by decide +kernel) (by decide +kernel) (by decide +kernel)) (by decide +kernel) (by decide +kernel)
  refine lv_dmul hx hb dX1_slope_27 b3.n64 ?_
  have b4 : fIv (8306) (9171) (FP.dadd 4593971859893063953 (FP.dmul (FP.dmul (radF a) (radF a)) 4587938466106554908)) := fAdd fc_4593971859893063953 b3 (by decide +kernel) (by decide +kernel) (by decide +kernel) (by decide +kernel)
  refine lv_dadd hx hb dX1_slope_28 b4.n64 ?_
  have b5 : fIv (-1118) (1118) (FP.dmul (FP.dmul (radF a) (radF a)) (FP.dadd 4593971859893063953 (FP.dmul (FP.dmul (radF a) (radF a)) 4587938466106554908))) := fIv.mul (n := 7986) (m := 9171) (k := 1118) b2 (b4.weak (by decide +kernel) (by decide +kernel) (by decide +kernel) (by decide +kernel)) (by decide +kernel) (by decide +kernel)
  refine lv_dmul hx hb dX1_slope_29 b5.n64 ?_
  have b6 : fIv (20727) (22964) (FP.dadd 4599676419421066581 (FP.dmul (FP.dmul (radF a) (radF a)) (FP.dadd 4593971859893063953 (FP.dmul (FP.dmul (radF a) (radF a)) 4587938466106554908)))) := fAdd fc_4599676419421066581 b5 (by decide +kernel) (by decide +kernel) (by decide +kernel) (by decide +kernel)
  refine lv_dadd hx hb dX1_slope_30 b6.n64 ?_
  have b7 : fIv (-2799) (2799) (FP.dmul (FP.dmul (radF a) (radF a)) (FP.dadd 4599676419421066581 (FP.dmul (FP.dmul (radF a) (radF a)) (FP.dadd 4593971859893063953 (FP.dmul (FP.dmul (radF a) (radF a)) 4587938466106554908))))) := fIv.mul (n := 7986) (m := 22964) (k := 2799) b2 (b6.weak (by decide +kernel) (by decide +kernel) (by decide +kernel) (by decide +kernel)) (by decide +kernel) (by decide +kernel)
  refine lv_dmul hx hb dX1_slope_31 b7.n64 ?_
  have b8 : fIv (62737) (68335) (FP.dadd FP.dconst1 (FP.dmul (FP.dmul (radF a) (radF a)) (FP.dadd 4599676419421066581 (FP.dmul (FP.dmul (radF a) (radF a)) (FP.dadd 4593971859893063953 (FP.dmul (FP.dmul (radF a) (radF a)) 4587938466106554908)))))) := fAdd fc_dconst1 b7 (by decide +kernel) (by decide +kernel) (by decide +kernel) (by decide +kernel)
  refine lv_dadd hx hb dX1_slope_32 b8.n64 ?_
  have b9 : fIv (-23855) (23855) (FP.dmul (radF a) (FP.dadd FP.dconst1 (FP.dmul (FP.dmul (radF a) (radF a)) (FP.dadd 4599676419421066581 (FP.dmul (FP.dmul (radF a) (radF a)) (FP.dadd 4593971859893063953 (FP.dmul (FP.dmul (radF a) (radF a)) 4587938466106554908))))))) := fIv.mul (n := 22877) (m := 68335) (k := 23855) b1 (b8.weak (by decide +kernel) (by decide +kernel) (by decide +kernel) (by decide +kernel)) (by decide +kernel) (by decide +kernel)
  refine lv_dmul hx hb dX1_slope_33 b9.n64 ?_
  exact hend _ _ _ _ _ _ dX1_slope_34 hP hD hS rfl rfl
theorem wd_kX1_sine_c23 : Cond.constantDouble RX1 23 (13818544856648471893) ∈ wsX1_sine := by decide +kernel
theorem wd_kX1_sine_c25 : Cond.constantDouble RX1 25 (4575957461383581969) ∈ wsX1_sine := by decide +kernel
theorem wd_kX1_sine_c27 : Cond.constantDouble RX1 27 (13774824197408792602) ∈ wsX1_sine := by decide +kernel
abbrev rmX1_sine : Room := { frames := 1, cells := 0, slots := 0, locals := 21 }
set_option maxRecDepth 100000 in
set_option maxHeartbeats 4000000 in
theorem kX1_sine (l : Launch) (G : va_G) (cI cZ cJ cD : ClassId) (a : UInt64) (ha : fIv (-131072000) 131072000 a) : Cd l G (kTy cI cZ cJ cD) yX1_sine wsX1_sine rmX1_sine [.double a] [] (sineF a) [] := by
  refine Cd.of rfl rfl (cc := cX1_sine) (maxL := 6) (plainFor_of_name (by decide)) rfl (Nat.le_of_ble_eq_true rfl) rfl ?_
  intro p e s m args below meth c A Q hx hb hml hts hown hA hK hP hD hS hend ls hl
  refine lv_dload_n hx hb dX1_sine_0 rfl (lv_at hl 0 rfl) ?_
  refine kSd (rest := []) (kX1_radians l G cI cZ cJ cD a ha) ⟨hx, hb, hml, hown, hts⟩ (va_cwS 1 hts gX1_sine_X1_radians rfl rfl rfl hs_X1_radians ⟨Nat.le_of_ble_eq_true rfl, Nat.le_of_ble_eq_true rfl⟩) hK hP hD hS hA rfl hl.1 rfl (Nat.le_of_ble_eq_true rfl) dX1_sine_1 ⟨Nat.le_of_ble_eq_true rfl, Nat.le_of_ble_eq_true rfl⟩ rfl rfl (fun H locs hP hD hS => ?_)
  have b1 : fIv (-22877) (22877) (radF a) := fRad ha
  refine lv_dstore_n (lv' := [(2, .double (radF a)), (0, .double a)]) hx hb dX1_sine_4 rfl hl (by decide) rfl (fun ls hl => ?_)
  refine lv_dload_n hx hb dX1_sine_5 rfl (lv_at hl 0 rfl) ?_
  refine lv_dload_n hx hb dX1_sine_6 rfl (lv_at hl 0 rfl) ?_
  have b2 : fIv (-7986) (7986) (FP.dmul (radF a) (radF a)) := fIv.mul (n := 22877) (m := 22877) (k := 7986) b1 b1 (by decide +kernel) (by decide +kernel)
  refine lv_dmul hx hb dX1_sine_7 b2.n64 ?_
  refine lv_dstore (lv' := [(4, .double (FP.dmul (radF a) (radF a))), (2, .double (radF a)), (0, .double a)]) hx hb dX1_sine_8 hl (by decide) rfl (fun ls hl => ?_)
  refine lv_dload_n hx hb dX1_sine_10 rfl (lv_at hl 1 rfl) ?_
  refine lv_dconst1 hx hb dX1_sine_11 ?_
  refine lv_dload hx hb dX1_sine_12 (lv_at hl 0 rfl) ?_
  refine lv_ldc2d (v := 13818544856648471893) hx hb hown (hts _ wd_kX1_sine_c23) dX1_sine_14 ?_
  refine lv_dload hx hb dX1_sine_17 (lv_at hl 0 rfl) ?_
  refine lv_ldc2d (v := 4575957461383581969) hx hb hown (hts _ wd_kX1_sine_c25) dX1_sine_19 ?_
  refine lv_dload hx hb dX1_sine_22 (lv_at hl 0 rfl) ?_
  refine lv_ldc2d (v := 13774824197408792602) hx hb hown (hts _ wd_kX1_sine_c27) dX1_sine_24 ?_
  have b3 : fIv (-2) (2) (FP.dmul (FP.dmul (radF a) (radF a)) 13774824197408792602) := fIv.mul (n := 7986) (m := 14) (k := 2) b2 (fc_13774824197408792602.weak (by decide +kernel) (by decide +kernel) (by decide +kernel) (by decide +kernel)) (by decide +kernel) (by decide +kernel)
  refine lv_dmul hx hb dX1_sine_27 b3.n64 ?_
  have b4 : fIv (544) (549) (FP.dadd 4575957461383581969 (FP.dmul (FP.dmul (radF a) (radF a)) 13774824197408792602)) := fAdd fc_4575957461383581969 b3 (by decide +kernel) (by decide +kernel) (by decide +kernel) (by decide +kernel)
  refine lv_dadd hx hb dX1_sine_28 b4.n64 ?_
  have b5 : fIv (-67) (67) (FP.dmul (FP.dmul (radF a) (radF a)) (FP.dadd 4575957461383581969 (FP.dmul (FP.dmul (radF a) (radF a)) 13774824197408792602))) := fIv.mul (n := 7986) (m := 549) (k := 67) b2 (b4.weak (by decide +kernel) (by decide +kernel) (by decide +kernel) (by decide +kernel)) (by decide +kernel) (by decide +kernel)
  refine lv_dmul hx hb dX1_sine_29 b5.n64 ?_
  have b6 : fIv (-10990) (-10855) (FP.dadd 13818544856648471893 (FP.dmul (FP.dmul (radF a) (radF a)) (FP.dadd 4575957461383581969 (FP.dmul (FP.dmul (radF a) (radF a)) 13774824197408792602)))) := fAdd fc_13818544856648471893 b5 (by decide +kernel) (by decide +kernel) (by decide +kernel) (by decide +kernel)
  refine lv_dadd hx hb dX1_sine_30 b6.n64 ?_
  have b7 : fIv (-1340) (1340) (FP.dmul (FP.dmul (radF a) (radF a)) (FP.dadd 13818544856648471893 (FP.dmul (FP.dmul (radF a) (radF a)) (FP.dadd 4575957461383581969 (FP.dmul (FP.dmul (radF a) (radF a)) 13774824197408792602))))) := fIv.mul (n := 7986) (m := 10990) (k := 1340) b2 (b6.weak (by decide +kernel) (by decide +kernel) (by decide +kernel) (by decide +kernel)) (by decide +kernel) (by decide +kernel)
  refine lv_dmul hx hb dX1_sine_31 b7.n64 ?_
  have b8 : fIv (64196) (66876) (FP.dadd FP.dconst1 (FP.dmul (FP.dmul (radF a) (radF a)) (FP.dadd 13818544856648471893 (FP.dmul (FP.dmul (radF a) (radF a)) (FP.dadd 4575957461383581969 (FP.dmul (FP.dmul (radF a) (radF a)) 13774824197408792602)))))) := fAdd fc_dconst1 b7 (by decide +kernel) (by decide +kernel) (by decide +kernel) (by decide +kernel)
  refine lv_dadd hx hb dX1_sine_32 b8.n64 ?_
  have b9 : fIv (-23345) (23345) (FP.dmul (radF a) (FP.dadd FP.dconst1 (FP.dmul (FP.dmul (radF a) (radF a)) (FP.dadd 13818544856648471893 (FP.dmul (FP.dmul (radF a) (radF a)) (FP.dadd 4575957461383581969 (FP.dmul (FP.dmul (radF a) (radF a)) 13774824197408792602))))))) := fIv.mul (n := 22877) (m := 66876) (k := 23345) b1 (b8.weak (by decide +kernel) (by decide +kernel) (by decide +kernel) (by decide +kernel)) (by decide +kernel) (by decide +kernel)
  refine lv_dmul hx hb dX1_sine_33 b9.n64 ?_
  exact hend _ _ _ _ _ _ dX1_sine_34 hP hD hS rfl rfl
theorem wd_kX1_cosine_c29 : Cond.constantDouble RX1 29 (13826050856027422720) ∈ wsX1_cosine := by decide +kernel
theorem wd_kX1_cosine_c31 : Cond.constantDouble RX1 31 (4586165620538955093) ∈ wsX1_cosine := by decide +kernel
theorem wd_kX1_cosine_c33 : Cond.constantDouble RX1 33 (13787419979223755799) ∈ wsX1_cosine := by decide +kernel
abbrev rmX1_cosine : Room := { frames := 1, cells := 0, slots := 0, locals := 21 }
set_option maxRecDepth 100000 in
set_option maxHeartbeats 4000000 in
theorem kX1_cosine (l : Launch) (G : va_G) (cI cZ cJ cD : ClassId) (a : UInt64) (ha : fIv (-131072000) 131072000 a) : Cd l G (kTy cI cZ cJ cD) yX1_cosine wsX1_cosine rmX1_cosine [.double a] [] (cosF a) [] := by
  refine Cd.of rfl rfl (cc := cX1_cosine) (maxL := 6) (plainFor_of_name (by decide)) rfl (Nat.le_of_ble_eq_true rfl) rfl ?_
  intro p e s m args below meth c A Q hx hb hml hts hown hA hK hP hD hS hend ls hl
  refine lv_dload_n hx hb dX1_cosine_0 rfl (lv_at hl 0 rfl) ?_
  refine kSd (rest := []) (kX1_radians l G cI cZ cJ cD a ha) ⟨hx, hb, hml, hown, hts⟩ (va_cwS 1 hts gX1_cosine_X1_radians rfl rfl rfl hs_X1_radians ⟨Nat.le_of_ble_eq_true rfl, Nat.le_of_ble_eq_true rfl⟩) hK hP hD hS hA rfl hl.1 rfl (Nat.le_of_ble_eq_true rfl) dX1_cosine_1 ⟨Nat.le_of_ble_eq_true rfl, Nat.le_of_ble_eq_true rfl⟩ rfl rfl (fun H locs hP hD hS => ?_)
  have b1 : fIv (-22877) (22877) (radF a) := fRad ha
  refine lv_dstore_n (lv' := [(2, .double (radF a)), (0, .double a)]) hx hb dX1_cosine_4 rfl hl (by decide) rfl (fun ls hl => ?_)
  refine lv_dload_n hx hb dX1_cosine_5 rfl (lv_at hl 0 rfl) ?_
  refine lv_dload_n hx hb dX1_cosine_6 rfl (lv_at hl 0 rfl) ?_
  have b2 : fIv (-7986) (7986) (FP.dmul (radF a) (radF a)) := fIv.mul (n := 22877) (m := 22877) (k := 7986) b1 b1 (by decide +kernel) (by decide +kernel)
  refine lv_dmul hx hb dX1_cosine_7 b2.n64 ?_
  refine lv_dstore (lv' := [(4, .double (FP.dmul (radF a) (radF a))), (2, .double (radF a)), (0, .double a)]) hx hb dX1_cosine_8 hl (by decide) rfl (fun ls hl => ?_)
  refine lv_dconst1 hx hb dX1_cosine_10 ?_
  refine lv_dload hx hb dX1_cosine_11 (lv_at hl 0 rfl) ?_
  refine lv_ldc2d (v := 13826050856027422720) hx hb hown (hts _ wd_kX1_cosine_c29) dX1_cosine_13 ?_
  refine lv_dload hx hb dX1_cosine_16 (lv_at hl 0 rfl) ?_
  refine lv_ldc2d (v := 4586165620538955093) hx hb hown (hts _ wd_kX1_cosine_c31) dX1_cosine_18 ?_
  refine lv_dload hx hb dX1_cosine_21 (lv_at hl 0 rfl) ?_
  refine lv_ldc2d (v := 13787419979223755799) hx hb hown (hts _ wd_kX1_cosine_c33) dX1_cosine_23 ?_
  have b3 : fIv (-12) (12) (FP.dmul (FP.dmul (radF a) (radF a)) 13787419979223755799) := fIv.mul (n := 7986) (m := 92) (k := 12) b2 (fc_13787419979223755799.weak (by decide +kernel) (by decide +kernel) (by decide +kernel) (by decide +kernel)) (by decide +kernel) (by decide +kernel)
  refine lv_dmul hx hb dX1_cosine_26 b3.n64 ?_
  have b4 : fIv (2718) (2743) (FP.dadd 4586165620538955093 (FP.dmul (FP.dmul (radF a) (radF a)) 13787419979223755799)) := fAdd fc_4586165620538955093 b3 (by decide +kernel) (by decide +kernel) (by decide +kernel) (by decide +kernel)
  refine lv_dadd hx hb dX1_cosine_27 b4.n64 ?_
  have b5 : fIv (-335) (335) (FP.dmul (FP.dmul (radF a) (radF a)) (FP.dadd 4586165620538955093 (FP.dmul (FP.dmul (radF a) (radF a)) 13787419979223755799))) := fIv.mul (n := 7986) (m := 2743) (k := 335) b2 (b4.weak (by decide +kernel) (by decide +kernel) (by decide +kernel) (by decide +kernel)) (by decide +kernel) (by decide +kernel)
  refine lv_dmul hx hb dX1_cosine_28 b5.n64 ?_
  have b6 : fIv (-33103) (-32433) (FP.dadd 13826050856027422720 (FP.dmul (FP.dmul (radF a) (radF a)) (FP.dadd 4586165620538955093 (FP.dmul (FP.dmul (radF a) (radF a)) 13787419979223755799)))) := fAdd fc_13826050856027422720 b5 (by decide +kernel) (by decide +kernel) (by decide +kernel) (by decide +kernel)
  refine lv_dadd hx hb dX1_cosine_29 b6.n64 ?_
  have b7 : fIv (-4034) (4034) (FP.dmul (FP.dmul (radF a) (radF a)) (FP.dadd 13826050856027422720 (FP.dmul (FP.dmul (radF a) (radF a)) (FP.dadd 4586165620538955093 (FP.dmul (FP.dmul (radF a) (radF a)) 13787419979223755799))))) := fIv.mul (n := 7986) (m := 33103) (k := 4034) b2 (b6.weak (by decide +kernel) (by decide +kernel) (by decide +kernel) (by decide +kernel)) (by decide +kernel) (by decide +kernel)
  refine lv_dmul hx hb dX1_cosine_30 b7.n64 ?_
  have b8 : fIv (61502) (69570) (FP.dadd FP.dconst1 (FP.dmul (FP.dmul (radF a) (radF a)) (FP.dadd 13826050856027422720 (FP.dmul (FP.dmul (radF a) (radF a)) (FP.dadd 4586165620538955093 (FP.dmul (FP.dmul (radF a) (radF a)) 13787419979223755799)))))) := fAdd fc_dconst1 b7 (by decide +kernel) (by decide +kernel) (by decide +kernel) (by decide +kernel)
  refine lv_dadd hx hb dX1_cosine_31 b8.n64 ?_
  exact hend _ _ _ _ _ _ dX1_cosine_32 hP hD hS rfl rfl
theorem wd_kX1_whole_c35 : Cond.constantDouble RX1 35 (4602678819172646912) ∈ wsX1_whole := by decide +kernel
abbrev rmX1_whole : Room := { frames := 0, cells := 0, slots := 0, locals := 0 }
set_option maxRecDepth 100000 in
set_option maxHeartbeats 4000000 in
theorem kX1_whole (l : Launch) (G : va_G) (cI cZ cJ cD : ClassId) (v : UInt64) (lo hi : Int) (hr : fIv lo hi (FP.dadd v 4602678819172646912)) : Ci l G (kTy cI cZ cJ cD) yX1_whole wsX1_whole rmX1_whole [.double v] [] (wholeF v) [] := by
  refine Ci.of .int rfl rfl rfl (cc := cX1_whole) (maxL := 5) (plainFor_of_name (by decide)) rfl (Nat.le_of_ble_eq_true rfl) rfl ?_
  intro p e s m args below meth c A Q hx hb hml hts hown hA hK hP hD hS hend ls hl
  refine lv_dload_n hx hb dX1_whole_0 rfl (lv_at hl 0 rfl) ?_
  refine lv_ldc2d (v := 4602678819172646912) hx hb hown (hts _ wd_kX1_whole_c35) dX1_whole_1 ?_
  refine lv_dadd hx hb dX1_whole_4 hr.n64 ?_
  refine lv_dstore_n (lv' := [(2, .double (FP.dadd v 4602678819172646912)), (0, .double v)]) hx hb dX1_whole_5 rfl hl (by decide) rfl (fun ls hl => ?_)
  refine lv_dload_n hx hb dX1_whole_6 rfl (lv_at hl 0 rfl) ?_
  refine lv_d2i hx hb dX1_whole_7 ?_
  refine lv_istore (lv' := [(4, .int (FP.d2i (FP.dadd v 4602678819172646912))), (2, .double (FP.dadd v 4602678819172646912)), (0, .double v)]) hx hb dX1_whole_8 hl (by decide) rfl (fun ls hl => ?_)
  refine lv_iload hx hb dX1_whole_10 (lv_at hl 0 rfl) ?_
  refine lv_i2d hx hb dX1_whole_12 ?_
  refine lv_dload_n hx hb dX1_whole_13 rfl (lv_at hl 1 rfl) ?_
  refine lv_dcmp hx hb dX1_whole_14 ?_
  refine lv_if_le (tgt := 25) hx hb dX1_whole_15 (by decide) (fun c_15 => ?_) (fun c_15 => ?_)
  · refine lv_iload hx hb dX1_whole_25 (lv_at hl 0 rfl) ?_
    exact hend _ _ _ _ _ _ dX1_whole_27 hP hD hS (by first | rfl | (simp only [wholeF, c_15, ↓reduceIte]; done) | (simp [wholeF, c_15]; done)) rfl
  · refine lv_iload hx hb dX1_whole_18 (lv_at hl 0 rfl) ?_
    refine lv_iconst (v := 1) hx hb dX1_whole_20 (by decide) ?_
    refine lv_isub hx hb dX1_whole_21 ?_
    refine lv_goto (tgt := 27) hx hb dX1_whole_22 (by decide) ?_
    exact hend _ _ _ _ _ _ dX1_whole_27 hP hD hS (by first | rfl | (simp only [wholeF, c_15, ↓reduceIte]; done) | (simp [wholeF, c_15]; done)) rfl
/-! shears and sampling of rows of bits -/
def shrF (w h : Nat) (t : UInt64) (dir : Int32) (k : Nat) (r : Int32) : Int32 := movF w r (dir * wholeF (FP.dmul (FP.dsub (midF h) (FP.i2d (nI k))) t))
def colN (h : Nat) (O : Nat → Int32) (x : Nat) (dn : Int32) (B : Nat → Int32) : Nat → Nat → Int32
  | 0 => B
  | j + 1 => setF (colN h O x dn B j) (wrapF (nI j + dn) (nI h)) (rowF (colN h O x dn B j) (wrapF (nI j + dn) (nI h)) ||| (rowF O (nI j) &&& (1 <<< (nI x &&& 31))))
def colsN (w h : Nat) (O : Nat → Int32) (s : UInt64) (dir : Int32) (B : Nat → Int32) : Nat → Nat → Int32
  | 0 => B
  | i + 1 => colN h O i (dir * wholeF (FP.dmul (FP.dsub (FP.i2d (nI i)) (midF w)) s)) (colsN w h O s dir B i) h
def frX (w h : Nat) (s c : UInt64) (x y : Nat) : Int32 := wholeF (FP.dadd (FP.dadd (midF w) (FP.dmul (FP.dsub (FP.i2d (nI x)) (midF w)) c)) (FP.dmul (FP.dsub (FP.i2d (nI y)) (midF h)) s))
def frY (w h : Nat) (s c : UInt64) (x y : Nat) : Int32 := wholeF (FP.dadd (FP.dsub (midF h) (FP.dmul (FP.dsub (FP.i2d (nI x)) (midF w)) s)) (FP.dmul (FP.dsub (FP.i2d (nI y)) (midF h)) c))
def smpB (w h : Nat) (O : Nat → Int32) (s c : UInt64) (x y : Nat) : Bool := if hasB w h (frX w h s c x y) (frY w h s c x y) = false then false else if sUshr (rowF O (frY w h s c x y)) (frX w h s c x y) &&& 1 = 0 then false else true
def smpN (w h : Nat) (O : Nat → Int32) (s c : UInt64) (y : Nat) : Nat → Int32
  | 0 => 0
  | x + 1 => if smpB w h O s c x y = true then smpN w h O s c y x ||| (1 <<< (nI x &&& 31)) else smpN w h O s c y x
def keepN (B O : Nat → Int32) : Nat → Int32 := mapN (fun k _ => B k) O 24
def wipeN (B : Nat → Int32) (h : Nat) : Nat → Int32 := mapN (fun _ _ => 0) B h
def shrR (w h : Nat) (t : UInt64) (dir : Int32) (B : Nat → Int32) : Nat → Int32 := mapN (shrF w h t dir) B h
def shrC (w h : Nat) (s : UInt64) (dir : Int32) (B O : Nat → Int32) : Nat → Int32 := colsN w h (keepN B O) s dir (wipeN B h) w
def angT (a : Int32) : UInt64 := slopeF (FP.ddiv (FP.i2d a) 4611686018427387904)
def angS (a : Int32) : UInt64 := sineF (FP.i2d a)
def angC (a : Int32) : UInt64 := cosF (FP.i2d a)
def shrAB (w h : Nat) (a dir : Int32) (B O : Nat → Int32) : Nat → Int32 := shrR w h (angT a) dir (shrC w h (angS a) dir (shrR w h (angT a) dir B) O)
def shrAO (w h : Nat) (a dir : Int32) (B O : Nat → Int32) : Nat → Int32 := keepN (shrR w h (angT a) dir B) O
def smpR (w h : Nat) (a : Int32) (B O : Nat → Int32) : Nat → Int32 := mapN (fun k _ => smpN w h (keepN B O) (angS a) (angC a) k w) B h
end
section
theorem wd_kJ6_bitCount_0f7a4_c265 : Cond.constant RJ6 265 (1431655765) ∈ wsJ6_bitCount_0f7a4 := by decide +kernel
theorem wd_kJ6_bitCount_0f7a4_c266 : Cond.constant RJ6 266 (858993459) ∈ wsJ6_bitCount_0f7a4 := by decide +kernel
theorem wd_kJ6_bitCount_0f7a4_c267 : Cond.constant RJ6 267 (252645135) ∈ wsJ6_bitCount_0f7a4 := by decide +kernel
abbrev rmJ6_bitCount_0f7a4 : Room := { frames := 0, cells := 0, slots := 0, locals := 0 }
set_option maxRecDepth 100000 in
set_option maxHeartbeats 4000000 in
theorem kJ6_bitCount_0f7a4 (l : Launch) (G : va_G) (cI cZ cJ cD : ClassId) (x : Int32) : Ci l G (kTy cI cZ cJ cD) yJ6_bitCount_0f7a4 wsJ6_bitCount_0f7a4 rmJ6_bitCount_0f7a4 [.int x] [] (popc x) [] := by
  refine Ci.of .int rfl rfl rfl (cc := cJ6_bitCount_0f7a4) (maxL := 1) (by decide +kernel) rfl (Nat.le_of_ble_eq_true rfl) rfl ?_
  intro p e s m args below meth c A Q hx hb hml hts hown hA hK hP hD hS hend ls hl
  refine lv_iload_n hx hb dJ6_bitCount_0f7a4_0 rfl (lv_at hl 0 rfl) ?_
  refine lv_iload_n hx hb dJ6_bitCount_0f7a4_1 rfl (lv_at hl 0 rfl) ?_
  refine lv_iconst (v := 1) hx hb dJ6_bitCount_0f7a4_2 (by decide) ?_
  refine lv_iushr (v := sUshr x 1) hx hb dJ6_bitCount_0f7a4_3 rfl ?_
  refine lv_ldcw (v := 1431655765) hx hb hown (hts _ wd_kJ6_bitCount_0f7a4_c265) dJ6_bitCount_0f7a4_4 ?_
  refine lv_iand hx hb dJ6_bitCount_0f7a4_7 ?_
  refine lv_isub hx hb dJ6_bitCount_0f7a4_8 ?_
  refine kTopI (z := pc1 x) rfl ?_
  refine lv_istore_n (lv' := [(0, .int (pc1 x))]) hx hb dJ6_bitCount_0f7a4_9 rfl hl (by decide) rfl (fun ls hl => ?_)
  refine lv_iload_n hx hb dJ6_bitCount_0f7a4_10 rfl (lv_at hl 0 rfl) ?_
  refine lv_ldcw (v := 858993459) hx hb hown (hts _ wd_kJ6_bitCount_0f7a4_c266) dJ6_bitCount_0f7a4_11 ?_
  refine lv_iand hx hb dJ6_bitCount_0f7a4_14 ?_
  refine lv_iload_n hx hb dJ6_bitCount_0f7a4_15 rfl (lv_at hl 0 rfl) ?_
  refine lv_iconst (v := 2) hx hb dJ6_bitCount_0f7a4_16 (by decide) ?_
  refine lv_iushr (v := sUshr (pc1 x) 2) hx hb dJ6_bitCount_0f7a4_17 rfl ?_
  refine lv_ldcw (v := 858993459) hx hb hown (hts _ wd_kJ6_bitCount_0f7a4_c266) dJ6_bitCount_0f7a4_18 ?_
  refine lv_iand hx hb dJ6_bitCount_0f7a4_21 ?_
  refine lv_iadd hx hb dJ6_bitCount_0f7a4_22 ?_
  refine kTopI (z := pc2 (pc1 x)) rfl ?_
  refine lv_istore_n (lv' := [(0, .int (pc2 (pc1 x)))]) hx hb dJ6_bitCount_0f7a4_23 rfl hl (by decide) rfl (fun ls hl => ?_)
  refine lv_iload_n hx hb dJ6_bitCount_0f7a4_24 rfl (lv_at hl 0 rfl) ?_
  refine lv_iload_n hx hb dJ6_bitCount_0f7a4_25 rfl (lv_at hl 0 rfl) ?_
  refine lv_iconst (v := 4) hx hb dJ6_bitCount_0f7a4_26 (by decide) ?_
  refine lv_iushr (v := sUshr (pc2 (pc1 x)) 4) hx hb dJ6_bitCount_0f7a4_27 rfl ?_
  refine lv_iadd hx hb dJ6_bitCount_0f7a4_28 ?_
  refine lv_ldcw (v := 252645135) hx hb hown (hts _ wd_kJ6_bitCount_0f7a4_c267) dJ6_bitCount_0f7a4_29 ?_
  refine lv_iand hx hb dJ6_bitCount_0f7a4_32 ?_
  refine kTopI (z := pc3 (pc2 (pc1 x))) rfl ?_
  refine lv_istore_n (lv' := [(0, .int (pc3 (pc2 (pc1 x))))]) hx hb dJ6_bitCount_0f7a4_33 rfl hl (by decide) rfl (fun ls hl => ?_)
  refine lv_iload_n hx hb dJ6_bitCount_0f7a4_34 rfl (lv_at hl 0 rfl) ?_
  refine lv_iload_n hx hb dJ6_bitCount_0f7a4_35 rfl (lv_at hl 0 rfl) ?_
  refine lv_bipush (v := 8) hx hb dJ6_bitCount_0f7a4_36 (by decide) ?_
  refine lv_iushr (v := sUshr (pc3 (pc2 (pc1 x))) 8) hx hb dJ6_bitCount_0f7a4_38 rfl ?_
  refine lv_iadd hx hb dJ6_bitCount_0f7a4_39 ?_
  refine kTopI (z := pc4 (pc3 (pc2 (pc1 x)))) rfl ?_
  refine lv_istore_n (lv' := [(0, .int (pc4 (pc3 (pc2 (pc1 x)))))]) hx hb dJ6_bitCount_0f7a4_40 rfl hl (by decide) rfl (fun ls hl => ?_)
  refine lv_iload_n hx hb dJ6_bitCount_0f7a4_41 rfl (lv_at hl 0 rfl) ?_
  refine lv_iload_n hx hb dJ6_bitCount_0f7a4_42 rfl (lv_at hl 0 rfl) ?_
  refine lv_bipush (v := 16) hx hb dJ6_bitCount_0f7a4_43 (by decide) ?_
  refine lv_iushr (v := sUshr (pc4 (pc3 (pc2 (pc1 x)))) 16) hx hb dJ6_bitCount_0f7a4_45 rfl ?_
  refine lv_iadd hx hb dJ6_bitCount_0f7a4_46 ?_
  refine kTopI (z := pc5 (pc4 (pc3 (pc2 (pc1 x))))) rfl ?_
  refine lv_istore_n (lv' := [(0, .int (pc5 (pc4 (pc3 (pc2 (pc1 x))))))]) hx hb dJ6_bitCount_0f7a4_47 rfl hl (by decide) rfl (fun ls hl => ?_)
  refine lv_iload_n hx hb dJ6_bitCount_0f7a4_48 rfl (lv_at hl 0 rfl) ?_
  refine lv_bipush (v := 63) hx hb dJ6_bitCount_0f7a4_49 (by decide) ?_
  refine lv_iand hx hb dJ6_bitCount_0f7a4_51 ?_
  exact hend _ _ _ _ _ _ dJ6_bitCount_0f7a4_52 hP hD hS rfl rfl
abbrev rmJ9_floorMod_7cf53 : Room := { frames := 0, cells := 0, slots := 0, locals := 0 }
set_option maxRecDepth 100000 in
set_option maxHeartbeats 4000000 in
theorem kJ9_floorMod_7cf53 (l : Launch) (G : va_G) (cI cZ cJ cD : ClassId) (x y : Int32) (hy : ¬ y = 0) : Ci l G (kTy cI cZ cJ cD) yJ9_floorMod_7cf53 wsJ9_floorMod_7cf53 rmJ9_floorMod_7cf53 [.int x, .int y] [] (floorF x y) [] := by
  refine Ci.of .int rfl rfl rfl (cc := cJ9_floorMod_7cf53) (maxL := 3) (by decide +kernel) rfl (Nat.le_of_ble_eq_true rfl) rfl ?_
  intro p e s m args below meth c A Q hx hb hml hts hown hA hK hP hD hS hend ls hl
  refine lv_iload_n hx hb dJ9_floorMod_7cf53_0 rfl (lv_at hl 0 rfl) ?_
  refine lv_iload_n hx hb dJ9_floorMod_7cf53_1 rfl (lv_at hl 1 rfl) ?_
  refine lv_irem hx hb dJ9_floorMod_7cf53_2 hy ?_
  refine lv_istore_n (lv' := [(2, .int (x - x / y * y)), (0, .int x), (1, .int y)]) hx hb dJ9_floorMod_7cf53_3 rfl hl (by decide) rfl (fun ls hl => ?_)
  refine lv_iload_n hx hb dJ9_floorMod_7cf53_4 rfl (lv_at hl 1 rfl) ?_
  refine lv_iload_n hx hb dJ9_floorMod_7cf53_5 rfl (lv_at hl 2 rfl) ?_
  refine lv_ixor hx hb dJ9_floorMod_7cf53_6 ?_
  refine lv_if_ge (tgt := 18) hx hb dJ9_floorMod_7cf53_7 (by decide) (fun c_7 => ?_) (fun c_7 => ?_)
  · refine lv_iload_n hx hb dJ9_floorMod_7cf53_18 rfl (lv_at hl 0 rfl) ?_
    exact hend _ _ _ _ _ _ dJ9_floorMod_7cf53_19 hP hD hS (by first | rfl | (simp only [floorF, c_7, ↓reduceIte]; done) | (simp [floorF, c_7]; done)) rfl
  · refine lv_iload_n hx hb dJ9_floorMod_7cf53_10 rfl (lv_at hl 0 rfl) ?_
    refine lv_if_eq (tgt := 18) hx hb dJ9_floorMod_7cf53_11 (by decide) (fun c_11 => ?_) (fun c_11 => ?_)
    · refine lv_iload_n hx hb dJ9_floorMod_7cf53_18 rfl (lv_at hl 0 rfl) ?_
      exact hend _ _ _ _ _ _ dJ9_floorMod_7cf53_19 hP hD hS (by first | rfl | (simp only [floorF, c_7, c_11, ↓reduceIte]; done) | (simp [floorF, c_7, c_11]; done)) rfl
    · refine lv_iload_n hx hb dJ9_floorMod_7cf53_14 rfl (lv_at hl 0 rfl) ?_
      refine lv_iload_n hx hb dJ9_floorMod_7cf53_15 rfl (lv_at hl 2 rfl) ?_
      refine lv_iadd hx hb dJ9_floorMod_7cf53_16 ?_
      exact hend _ _ _ _ _ _ dJ9_floorMod_7cf53_17 hP hD hS (by first | rfl | (simp only [floorF, c_7, c_11, ↓reduceIte]; done) | (simp [floorF, c_7, c_11]; done)) rfl
abbrev rmX1_wrapped : Room := { frames := 1, cells := 0, slots := 0, locals := 22 }
set_option maxRecDepth 100000 in
set_option maxHeartbeats 4000000 in
theorem kX1_wrapped (l : Launch) (G : va_G) (cI cZ cJ cD : ClassId) (x y : Int32) : Ci l G (kTy cI cZ cJ cD) yX1_wrapped wsX1_wrapped rmX1_wrapped [.int x, .int y] [] (wrapF x y) [] := by
  refine Ci.of .int rfl rfl rfl (cc := cX1_wrapped) (maxL := 2) (plainFor_of_name (by decide)) rfl (Nat.le_of_ble_eq_true rfl) rfl ?_
  intro p e s m args below meth c A Q hx hb hml hts hown hA hK hP hD hS hend ls hl
  refine lv_iload_n hx hb dX1_wrapped_0 rfl (lv_at hl 1 rfl) ?_
  refine lv_iconst (v := 1) hx hb dX1_wrapped_1 (by decide) ?_
  refine lv_icmp_ge (tgt := 9) hx hb dX1_wrapped_2 (by decide) (fun c_2 => ?_) (fun c_2 => ?_)
  · refine lv_iload_n hx hb dX1_wrapped_9 rfl (lv_at hl 0 rfl) ?_
    refine lv_iload_n hx hb dX1_wrapped_10 rfl (lv_at hl 1 rfl) ?_
    refine kSi (rest := []) (kJ9_floorMod_7cf53 l G cI cZ cJ cD x y (by rintro rfl; exact absurd c_2 (by decide))) ⟨hx, hb, hml, hown, hts⟩ (va_cwS 2 hts gX1_wrapped_J9_floorMod_7cf53 rfl rfl rfl hs_J9_floorMod_7cf53 ⟨Nat.le_of_ble_eq_true rfl, Nat.le_of_ble_eq_true rfl⟩) hK hP hD hS hA rfl hl.1 rfl (Nat.le_of_ble_eq_true rfl) dX1_wrapped_11 ⟨Nat.le_of_ble_eq_true rfl, Nat.le_of_ble_eq_true rfl⟩ rfl rfl (fun H locs hP hD hS => ?_)
    exact hend _ _ _ _ _ _ dX1_wrapped_14 hP hD hS (by first | rfl | (simp only [wrapF, c_2, ↓reduceIte]; done) | (simp [wrapF, c_2]; done)) rfl
  · refine lv_iconst (v := 0) hx hb dX1_wrapped_5 (by decide) ?_
    refine lv_goto (tgt := 14) hx hb dX1_wrapped_6 (by decide) ?_
    exact hend _ _ _ _ _ _ dX1_wrapped_14 hP hD hS (by first | rfl | (simp only [wrapF, c_2, ↓reduceIte]; done) | (simp [wrapF, c_2]; done)) rfl
abbrev rmX0_bitsOf : Room := { frames := 0, cells := 0, slots := 0, locals := 0 }
set_option maxRecDepth 100000 in
set_option maxHeartbeats 4000000 in
theorem kX0_bitsOf (l : Launch) (G : va_G) (cI cZ cJ cD : ClassId) (x : Int32) : Ci l G (kTy cI cZ cJ cD) yX0_bitsOf wsX0_bitsOf rmX0_bitsOf [.int x] [] (bitsOfF x) [] := by
  refine Ci.of .int rfl rfl rfl (cc := cX0_bitsOf) (maxL := 1) (plainFor_of_name (by decide)) rfl (Nat.le_of_ble_eq_true rfl) rfl ?_
  intro p e s m args below meth c A Q hx hb hml hts hown hA hK hP hD hS hend ls hl
  refine lv_iconst (v := 1) hx hb dX0_bitsOf_0 (by decide) ?_
  refine lv_iload_n hx hb dX0_bitsOf_1 rfl (lv_at hl 0 rfl) ?_
  refine lv_ishl hx hb dX0_bitsOf_2 ?_
  refine lv_iconst (v := 1) hx hb dX0_bitsOf_3 (by decide) ?_
  refine lv_isub hx hb dX0_bitsOf_4 ?_
  exact hend _ _ _ _ _ _ dX0_bitsOf_5 hP hD hS rfl rfl
theorem in_kX0_has_X0 : ∀ w ∈ u_ws RX0 TX0 6, w ∈ wsX0_has := by decide +kernel
theorem fl_kX0_has_9 : Cond.fieldLink RX0 9 "SkewFind$Picture" "width" "I" ∈ wsX0_has := by decide +kernel
theorem fl_kX0_has_15 : Cond.fieldLink RX0 15 "SkewFind$Picture" "height" "I" ∈ wsX0_has := by decide +kernel
abbrev rmX0_has : Room := { frames := 0, cells := 0, slots := 0, locals := 0 }
set_option maxRecDepth 100000 in
set_option maxHeartbeats 4000000 in
theorem kX0_has (l : Launch) (G : va_G) (cI cZ cJ cD : ClassId) (h0 q1 q2 w h : Nat) (hw : w ≤ 24) (hh : h ≤ 24) (B O : Nat → Int32) (x y : Int32) : Ci l G (kTy cI cZ cJ cD) yX0_has wsX0_has rmX0_has [.ref h0, .int x, .int y] [(h0, .inr (0, [.int (nI w), .int (nI h), .double (midF w), .double (midF h), .ref q1, .ref q2])), (q1, .inl (cI, 24, .inl B)), (q2, .inl (cI, 24, .inl O))] (b2i (hasB w h x y)) [(h0, .inr (0, [.int (nI w), .int (nI h), .double (midF w), .double (midF h), .ref q1, .ref q2])), (q1, .inl (cI, 24, .inl B)), (q2, .inl (cI, 24, .inl O))] := by
  refine Ci.of .boolean (nar_b2i _) rfl rfl (cc := cX0_has) (maxL := 3) (plainFor_of_name (by decide)) rfl (Nat.le_of_ble_eq_true rfl) rfl ?_
  intro p e s m args below meth c A Q hx hb hml hts hown hA hK hP hD hS hend ls hl
  refine lv_iload_n hx hb dX0_has_0 rfl (lv_at hl 1 rfl) ?_
  refine lv_if_lt (tgt := 28) hx hb dX0_has_1 (by decide) (fun c_1 => ?_) (fun c_1 => ?_)
  · refine lv_iconst (v := 0) hx hb dX0_has_28 (by decide) ?_
    exact hend _ _ _ _ _ _ dX0_has_29 hP hD hS (by first | rfl | (simp only [hasB, b2i_t, b2i_f, c_1, ↓reduceIte]; done) | (simp [hasB, b2i_t, b2i_f, c_1]; done)) rfl
  · refine lv_iload_n hx hb dX0_has_4 rfl (lv_at hl 1 rfl) ?_
    refine lv_aload_n hx hb dX0_has_5 rfl (lv_at hl 0 rfl) ?_
    refine va_get (D := G) (ci := 0) (v := .int (nI w)) (C := RX0) (T := TX0) (N := 6) hx hb hts in_kX0_has_X0 hown hK hP 0 rfl rfl 0 (by decide) (hts _ fl_kX0_has_9) (fun _ h9 => h9) rfl dX0_has_6 ?_
    refine lv_icmp_ge (tgt := 28) hx hb dX0_has_9 (by decide) (fun c_9 => ?_) (fun c_9 => ?_)
    · refine lv_iconst (v := 0) hx hb dX0_has_28 (by decide) ?_
      exact hend _ _ _ _ _ _ dX0_has_29 hP hD hS (by first | rfl | (simp only [hasB, b2i_t, b2i_f, c_1, c_9, ↓reduceIte]; done) | (simp [hasB, b2i_t, b2i_f, c_1, c_9]; done)) rfl
    · refine lv_iload_n hx hb dX0_has_12 rfl (lv_at hl 2 rfl) ?_
      refine lv_if_lt (tgt := 28) hx hb dX0_has_13 (by decide) (fun c_13 => ?_) (fun c_13 => ?_)
      · refine lv_iconst (v := 0) hx hb dX0_has_28 (by decide) ?_
        exact hend _ _ _ _ _ _ dX0_has_29 hP hD hS (by first | rfl | (simp only [hasB, b2i_t, b2i_f, c_1, c_9, c_13, ↓reduceIte]; done) | (simp [hasB, b2i_t, b2i_f, c_1, c_9, c_13]; done)) rfl
      · refine lv_iload_n hx hb dX0_has_16 rfl (lv_at hl 2 rfl) ?_
        refine lv_aload_n hx hb dX0_has_17 rfl (lv_at hl 0 rfl) ?_
        refine va_get (D := G) (ci := 0) (v := .int (nI h)) (C := RX0) (T := TX0) (N := 6) hx hb hts in_kX0_has_X0 hown hK hP 0 rfl rfl 1 (by decide) (hts _ fl_kX0_has_15) (fun _ h9 => h9) rfl dX0_has_18 ?_
        refine lv_icmp_ge (tgt := 28) hx hb dX0_has_21 (by decide) (fun c_21 => ?_) (fun c_21 => ?_)
        · refine lv_iconst (v := 0) hx hb dX0_has_28 (by decide) ?_
          exact hend _ _ _ _ _ _ dX0_has_29 hP hD hS (by first | rfl | (simp only [hasB, b2i_t, b2i_f, c_1, c_9, c_13, c_21, ↓reduceIte]; done) | (simp [hasB, b2i_t, b2i_f, c_1, c_9, c_13, c_21]; done)) rfl
        · refine lv_iconst (v := 1) hx hb dX0_has_24 (by decide) ?_
          refine lv_goto (tgt := 29) hx hb dX0_has_25 (by decide) ?_
          exact hend _ _ _ _ _ _ dX0_has_29 hP hD hS (by first | rfl | (simp only [hasB, b2i_t, b2i_f, c_1, c_9, c_13, c_21, ↓reduceIte]; done) | (simp [hasB, b2i_t, b2i_f, c_1, c_9, c_13, c_21]; done)) rfl
theorem in_kX0_rowBits_X0 : ∀ w ∈ u_ws RX0 TX0 6, w ∈ wsX0_rowBits := by decide +kernel
theorem fl_kX0_rowBits_27 : Cond.fieldLink RX0 27 "SkewFind$Picture" "bits" "[I" ∈ wsX0_rowBits := by decide +kernel
abbrev rmX0_rowBits : Room := { frames := 0, cells := 0, slots := 0, locals := 0 }
set_option maxRecDepth 100000 in
set_option maxHeartbeats 4000000 in
theorem kX0_rowBits (l : Launch) (G : va_G) (cI cZ cJ cD : ClassId) (h0 q1 q2 w h : Nat) (hw : w ≤ 24) (hh : h ≤ 24) (B O : Nat → Int32) (y : Int32) : Ci l G (kTy cI cZ cJ cD) yX0_rowBits wsX0_rowBits rmX0_rowBits [.ref h0, .int y] [(h0, .inr (0, [.int (nI w), .int (nI h), .double (midF w), .double (midF h), .ref q1, .ref q2])), (q1, .inl (cI, 24, .inl B)), (q2, .inl (cI, 24, .inl O))] (rowF B y) [(h0, .inr (0, [.int (nI w), .int (nI h), .double (midF w), .double (midF h), .ref q1, .ref q2])), (q1, .inl (cI, 24, .inl B)), (q2, .inl (cI, 24, .inl O))] := by
  refine Ci.of .int rfl rfl rfl (cc := cX0_rowBits) (maxL := 2) (plainFor_of_name (by decide)) rfl (Nat.le_of_ble_eq_true rfl) rfl ?_
  intro p e s m args below meth c A Q hx hb hml hts hown hA hK hP hD hS hend ls hl
  refine lv_iload_n hx hb dX0_rowBits_0 rfl (lv_at hl 1 rfl) ?_
  refine lv_if_lt (tgt := 22) hx hb dX0_rowBits_1 (by decide) (fun c_1 => ?_) (fun c_1 => ?_)
  · refine lv_iconst (v := 0) hx hb dX0_rowBits_22 (by decide) ?_
    exact hend _ _ _ _ _ _ dX0_rowBits_23 hP hD hS (by first | rfl | (simp only [rowF, c_1, ↓reduceIte]; done) | (simp [rowF, c_1]; done)) rfl
  · refine lv_iload_n hx hb dX0_rowBits_4 rfl (lv_at hl 1 rfl) ?_
    refine lv_aload_n hx hb dX0_rowBits_5 rfl (lv_at hl 0 rfl) ?_
    refine va_get (D := G) (ci := 0) (v := .ref q1) (C := RX0) (T := TX0) (N := 6) hx hb hts in_kX0_rowBits_X0 hown hK hP 0 rfl rfl 4 (by decide) (hts _ fl_kX0_rowBits_27) (fun _ h9 => h9) rfl dX0_rowBits_6 ?_
    refine va_alen (v := nI 24) hx hb hK hP 1 0 rfl rfl rfl dX0_rowBits_9 ?_
    refine lv_icmp_ge (tgt := 22) hx hb dX0_rowBits_10 (by decide) (fun c_10 => ?_) (fun c_10 => ?_)
    · refine lv_iconst (v := 0) hx hb dX0_rowBits_22 (by decide) ?_
      exact hend _ _ _ _ _ _ dX0_rowBits_23 hP hD hS (by first | rfl | (simp only [rowF, c_1, c_10, ↓reduceIte]; done) | (simp [rowF, c_1, c_10]; done)) rfl
    · refine lv_aload_n hx hb dX0_rowBits_13 rfl (lv_at hl 0 rfl) ?_
      refine va_get (D := G) (ci := 0) (v := .ref q1) (C := RX0) (T := TX0) (N := 6) hx hb hts in_kX0_rowBits_X0 hown hK hP 0 rfl rfl 4 (by decide) (hts _ fl_kX0_rowBits_27) (fun _ h9 => h9) rfl dX0_rowBits_14 ?_
      refine lv_iload_n hx hb dX0_rowBits_17 rfl (lv_at hl 1 rfl) ?_
      refine va_iald hx hb hK hP 1 0 rfl rfl (vp_in_24 c_1 c_10) dX0_rowBits_18 ?_
      refine lv_goto (tgt := 23) hx hb dX0_rowBits_19 (by decide) ?_
      exact hend _ _ _ _ _ _ dX0_rowBits_23 hP hD hS (by first | rfl | (simp only [rowF, c_1, c_10, ↓reduceIte]; done) | (simp [rowF, c_1, c_10]; done)) rfl
theorem in_kX0_oldRowBits_X0 : ∀ w ∈ u_ws RX0 TX0 6, w ∈ wsX0_oldRowBits := by decide +kernel
theorem fl_kX0_oldRowBits_31 : Cond.fieldLink RX0 31 "SkewFind$Picture" "oldBits" "[I" ∈ wsX0_oldRowBits := by decide +kernel
abbrev rmX0_oldRowBits : Room := { frames := 0, cells := 0, slots := 0, locals := 0 }
set_option maxRecDepth 100000 in
set_option maxHeartbeats 4000000 in
theorem kX0_oldRowBits (l : Launch) (G : va_G) (cI cZ cJ cD : ClassId) (h0 q1 q2 w h : Nat) (hw : w ≤ 24) (hh : h ≤ 24) (B O : Nat → Int32) (y : Int32) : Ci l G (kTy cI cZ cJ cD) yX0_oldRowBits wsX0_oldRowBits rmX0_oldRowBits [.ref h0, .int y] [(h0, .inr (0, [.int (nI w), .int (nI h), .double (midF w), .double (midF h), .ref q1, .ref q2])), (q1, .inl (cI, 24, .inl B)), (q2, .inl (cI, 24, .inl O))] (rowF O y) [(h0, .inr (0, [.int (nI w), .int (nI h), .double (midF w), .double (midF h), .ref q1, .ref q2])), (q1, .inl (cI, 24, .inl B)), (q2, .inl (cI, 24, .inl O))] := by
  refine Ci.of .int rfl rfl rfl (cc := cX0_oldRowBits) (maxL := 2) (plainFor_of_name (by decide)) rfl (Nat.le_of_ble_eq_true rfl) rfl ?_
  intro p e s m args below meth c A Q hx hb hml hts hown hA hK hP hD hS hend ls hl
  refine lv_iload_n hx hb dX0_oldRowBits_0 rfl (lv_at hl 1 rfl) ?_
  refine lv_if_lt (tgt := 22) hx hb dX0_oldRowBits_1 (by decide) (fun c_1 => ?_) (fun c_1 => ?_)
  · refine lv_iconst (v := 0) hx hb dX0_oldRowBits_22 (by decide) ?_
    exact hend _ _ _ _ _ _ dX0_oldRowBits_23 hP hD hS (by first | rfl | (simp only [rowF, c_1, ↓reduceIte]; done) | (simp [rowF, c_1]; done)) rfl
  · refine lv_iload_n hx hb dX0_oldRowBits_4 rfl (lv_at hl 1 rfl) ?_
    refine lv_aload_n hx hb dX0_oldRowBits_5 rfl (lv_at hl 0 rfl) ?_
    refine va_get (D := G) (ci := 0) (v := .ref q2) (C := RX0) (T := TX0) (N := 6) hx hb hts in_kX0_oldRowBits_X0 hown hK hP 0 rfl rfl 5 (by decide) (hts _ fl_kX0_oldRowBits_31) (fun _ h9 => h9) rfl dX0_oldRowBits_6 ?_
    refine va_alen (v := nI 24) hx hb hK hP 2 0 rfl rfl rfl dX0_oldRowBits_9 ?_
    refine lv_icmp_ge (tgt := 22) hx hb dX0_oldRowBits_10 (by decide) (fun c_10 => ?_) (fun c_10 => ?_)
    · refine lv_iconst (v := 0) hx hb dX0_oldRowBits_22 (by decide) ?_
      exact hend _ _ _ _ _ _ dX0_oldRowBits_23 hP hD hS (by first | rfl | (simp only [rowF, c_1, c_10, ↓reduceIte]; done) | (simp [rowF, c_1, c_10]; done)) rfl
    · refine lv_aload_n hx hb dX0_oldRowBits_13 rfl (lv_at hl 0 rfl) ?_
      refine va_get (D := G) (ci := 0) (v := .ref q2) (C := RX0) (T := TX0) (N := 6) hx hb hts in_kX0_oldRowBits_X0 hown hK hP 0 rfl rfl 5 (by decide) (hts _ fl_kX0_oldRowBits_31) (fun _ h9 => h9) rfl dX0_oldRowBits_14 ?_
      refine lv_iload_n hx hb dX0_oldRowBits_17 rfl (lv_at hl 1 rfl) ?_
      refine va_iald hx hb hK hP 2 0 rfl rfl (vp_in_24 c_1 c_10) dX0_oldRowBits_18 ?_
      refine lv_goto (tgt := 23) hx hb dX0_oldRowBits_19 (by decide) ?_
      exact hend _ _ _ _ _ _ dX0_oldRowBits_23 hP hD hS (by first | rfl | (simp only [rowF, c_1, c_10, ↓reduceIte]; done) | (simp [rowF, c_1, c_10]; done)) rfl
theorem in_kX0_setRowBits_X0 : ∀ w ∈ u_ws RX0 TX0 6, w ∈ wsX0_setRowBits := by decide +kernel
theorem fl_kX0_setRowBits_27 : Cond.fieldLink RX0 27 "SkewFind$Picture" "bits" "[I" ∈ wsX0_setRowBits := by decide +kernel
abbrev rmX0_setRowBits : Room := { frames := 0, cells := 0, slots := 0, locals := 0 }
set_option maxRecDepth 100000 in
set_option maxHeartbeats 4000000 in
theorem kX0_setRowBits (l : Launch) (G : va_G) (cI cZ cJ cD : ClassId) (h0 q1 q2 w h : Nat) (hw : w ≤ 24) (hh : h ≤ 24) (B O : Nat → Int32) (y v : Int32) : Cv l G (kTy cI cZ cJ cD) yX0_setRowBits wsX0_setRowBits rmX0_setRowBits [.ref h0, .int y, .int v] [(h0, .inr (0, [.int (nI w), .int (nI h), .double (midF w), .double (midF h), .ref q1, .ref q2])), (q1, .inl (cI, 24, .inl B)), (q2, .inl (cI, 24, .inl O))] [(h0, .inr (0, [.int (nI w), .int (nI h), .double (midF w), .double (midF h), .ref q1, .ref q2])), (q1, .inl (cI, 24, .inl (setF B y v))), (q2, .inl (cI, 24, .inl O))] := by
  refine Cv.of rfl rfl (cc := cX0_setRowBits) (maxL := 3) (plainFor_of_name (by decide)) rfl (Nat.le_of_ble_eq_true rfl) rfl ?_
  intro p e s m args below meth c A Q hx hb hml hts hown hA hK hP hD hS hend ls hl
  refine lv_iload_n hx hb dX0_setRowBits_0 rfl (lv_at hl 1 rfl) ?_
  refine lv_if_lt (tgt := 20) hx hb dX0_setRowBits_1 (by decide) (fun c_1 => ?_) (fun c_1 => ?_)
  · exact hend _ _ _ _ _ dX0_setRowBits_20 hP hD hS (by first | rfl | (simp only [setF, c_1, ↓reduceIte]; done) | (simp [setF, c_1]; done))
  · refine lv_iload_n hx hb dX0_setRowBits_4 rfl (lv_at hl 1 rfl) ?_
    refine lv_aload_n hx hb dX0_setRowBits_5 rfl (lv_at hl 0 rfl) ?_
    refine va_get (D := G) (ci := 0) (v := .ref q1) (C := RX0) (T := TX0) (N := 6) hx hb hts in_kX0_setRowBits_X0 hown hK hP 0 rfl rfl 4 (by decide) (hts _ fl_kX0_setRowBits_27) (fun _ h9 => h9) rfl dX0_setRowBits_6 ?_
    refine va_alen (v := nI 24) hx hb hK hP 1 0 rfl rfl rfl dX0_setRowBits_9 ?_
    refine lv_icmp_ge (tgt := 20) hx hb dX0_setRowBits_10 (by decide) (fun c_10 => ?_) (fun c_10 => ?_)
    · exact hend _ _ _ _ _ dX0_setRowBits_20 hP hD hS (by first | rfl | (simp only [setF, c_1, c_10, ↓reduceIte]; done) | (simp [setF, c_1, c_10]; done))
    · refine lv_aload_n hx hb dX0_setRowBits_13 rfl (lv_at hl 0 rfl) ?_
      refine va_get (D := G) (ci := 0) (v := .ref q1) (C := RX0) (T := TX0) (N := 6) hx hb hts in_kX0_setRowBits_X0 hown hK hP 0 rfl rfl 4 (by decide) (hts _ fl_kX0_setRowBits_27) (fun _ h9 => h9) rfl dX0_setRowBits_14 ?_
      refine lv_iload_n hx hb dX0_setRowBits_17 rfl (lv_at hl 1 rfl) ?_
      refine lv_iload_n hx hb dX0_setRowBits_18 rfl (lv_at hl 2 rfl) ?_
      refine va_iast hx hb hK hP hD hS 1 0 rfl rfl (vp_in_24 c_1 c_10) dX0_setRowBits_19 (fun H locs (hP : va_P G vwCl [(h0, .inr (0, [.int (nI w), .int (nI h), .double (midF w), .double (midF h), .ref q1, .ref q2])), (q1, .inl (cI, 24, .inl (upd B y.toNatClampNeg v))), (q2, .inl (cI, 24, .inl O))] H) (hD : va_D A [(h0, .inr (0, [.int (nI w), .int (nI h), .double (midF w), .double (midF h), .ref q1, .ref q2])), (q1, .inl (cI, 24, .inl (upd B y.toNatClampNeg v))), (q2, .inl (cI, 24, .inl O))]) hS => ?_)
      exact hend _ _ _ _ _ dX0_setRowBits_20 hP hD hS (by first | rfl | (simp only [setF, c_1, c_10, ↓reduceIte]; done) | (simp [setF, c_1, c_10]; done))
abbrev rmX0_isOn : Room := { frames := 1, cells := 0, slots := 0, locals := 22 }
set_option maxRecDepth 100000 in
set_option maxHeartbeats 4000000 in
theorem kX0_isOn (l : Launch) (G : va_G) (cI cZ cJ cD : ClassId) (h0 q1 q2 w h : Nat) (hw : w ≤ 24) (hh : h ≤ 24) (B O : Nat → Int32) (x y : Int32) : Ci l G (kTy cI cZ cJ cD) yX0_isOn wsX0_isOn rmX0_isOn [.ref h0, .int x, .int y] [(h0, .inr (0, [.int (nI w), .int (nI h), .double (midF w), .double (midF h), .ref q1, .ref q2])), (q1, .inl (cI, 24, .inl B)), (q2, .inl (cI, 24, .inl O))] (b2i (isOnB w h B x y)) [(h0, .inr (0, [.int (nI w), .int (nI h), .double (midF w), .double (midF h), .ref q1, .ref q2])), (q1, .inl (cI, 24, .inl B)), (q2, .inl (cI, 24, .inl O))] := by
  refine Ci.of .boolean (nar_b2i _) rfl rfl (cc := cX0_isOn) (maxL := 3) (plainFor_of_name (by decide)) rfl (Nat.le_of_ble_eq_true rfl) rfl ?_
  intro p e s m args below meth c A Q hx hb hml hts hown hA hK hP hD hS hend ls hl
  refine lv_aload_n hx hb dX0_isOn_0 rfl (lv_at hl 0 rfl) ?_
  refine lv_iload_n hx hb dX0_isOn_1 rfl (lv_at hl 1 rfl) ?_
  refine lv_iload_n hx hb dX0_isOn_2 rfl (lv_at hl 2 rfl) ?_
  refine kVi (w' := [(h0, .inr (0, [.int (nI w), .int (nI h), .double (midF w), .double (midF h), .ref q1, .ref q2])), (q1, .inl (cI, 24, .inl B)), (q2, .inl (cI, 24, .inl O))]) (wr := []) (isC := [0, 1, 2]) (isR := []) (pm := [0, 1, 2]) (rest := []) (kX0_has l G cI cZ cJ cD h0 q1 q2 w h hw hh B O x y) ⟨hx, hb, hml, hown, hts⟩ (cwV 2 hts gX0_isOn_X0_has rfl rfl rfl hd_X0_has ⟨Nat.le_of_ble_eq_true rfl, Nat.le_of_ble_eq_true rfl⟩) hK hP hD hS hA ⟨rfl, rfl, rfl, by decide, rfl, rfl, rfl⟩ 0 0 rfl rfl rfl hl.1 rfl (Nat.le_of_ble_eq_true rfl) dX0_isOn_3 ⟨Nat.le_of_ble_eq_true rfl, Nat.le_of_ble_eq_true rfl⟩ rfl rfl (fun H locs hP hD hS => ?_)
  refine kIfEqB (tgt := 25) hx hb dX0_isOn_6 (by decide) (fun c_6 => ?_) (fun c_6 => ?_)
  · refine lv_iconst (v := 0) hx hb dX0_isOn_25 (by decide) ?_
    exact hend _ _ _ _ _ _ dX0_isOn_26 hP hD hS (by first | rfl | (simp only [isOnB, b2i_t, b2i_f, c_6, ↓reduceIte]; done) | (simp [isOnB, b2i_t, b2i_f, c_6]; done)) rfl
  · refine lv_aload_n hx hb dX0_isOn_9 rfl (lv_at hl 0 rfl) ?_
    refine lv_iload_n hx hb dX0_isOn_10 rfl (lv_at hl 2 rfl) ?_
    refine kVi (w' := [(h0, .inr (0, [.int (nI w), .int (nI h), .double (midF w), .double (midF h), .ref q1, .ref q2])), (q1, .inl (cI, 24, .inl B)), (q2, .inl (cI, 24, .inl O))]) (wr := []) (isC := [0, 1, 2]) (isR := []) (pm := [0, 1, 2]) (rest := []) (kX0_rowBits l G cI cZ cJ cD h0 q1 q2 w h hw hh B O y) ⟨hx, hb, hml, hown, hts⟩ (cwV 1 hts gX0_isOn_X0_rowBits rfl rfl rfl hd_X0_rowBits ⟨Nat.le_of_ble_eq_true rfl, Nat.le_of_ble_eq_true rfl⟩) hK hP hD hS hA ⟨rfl, rfl, rfl, by decide, rfl, rfl, rfl⟩ 0 0 rfl rfl rfl hl.1 rfl (Nat.le_of_ble_eq_true rfl) dX0_isOn_11 ⟨Nat.le_of_ble_eq_true rfl, Nat.le_of_ble_eq_true rfl⟩ rfl rfl (fun H locs hP hD hS => ?_)
    refine lv_iload_n hx hb dX0_isOn_14 rfl (lv_at hl 1 rfl) ?_
    refine lv_iushr (v := sUshr (rowF B y) x) hx hb dX0_isOn_15 rfl ?_
    refine lv_iconst (v := 1) hx hb dX0_isOn_16 (by decide) ?_
    refine lv_iand hx hb dX0_isOn_17 ?_
    refine lv_if_eq (tgt := 25) hx hb dX0_isOn_18 (by decide) (fun c_18 => ?_) (fun c_18 => ?_)
    · refine lv_iconst (v := 0) hx hb dX0_isOn_25 (by decide) ?_
      exact hend _ _ _ _ _ _ dX0_isOn_26 hP hD hS (by first | rfl | (simp only [isOnB, b2i_t, b2i_f, c_6, c_18, ↓reduceIte]; done) | (simp [isOnB, b2i_t, b2i_f, c_6, c_18]; done)) rfl
    · refine lv_iconst (v := 1) hx hb dX0_isOn_21 (by decide) ?_
      refine lv_goto (tgt := 26) hx hb dX0_isOn_22 (by decide) ?_
      exact hend _ _ _ _ _ _ dX0_isOn_26 hP hD hS (by first | rfl | (simp only [isOnB, b2i_t, b2i_f, c_6, c_18, ↓reduceIte]; done) | (simp [isOnB, b2i_t, b2i_f, c_6, c_18]; done)) rfl
theorem in_kX0_wipe_X0 : ∀ w ∈ u_ws RX0 TX0 6, w ∈ wsX0_wipe := by decide +kernel
theorem fl_kX0_wipe_15 : Cond.fieldLink RX0 15 "SkewFind$Picture" "height" "I" ∈ wsX0_wipe := by decide +kernel
abbrev rmX0_wipe : Room := { frames := 1, cells := 0, slots := 0, locals := 22 }
set_option maxRecDepth 100000 in
set_option maxHeartbeats 4000000 in
theorem kX0_wipe (l : Launch) (G : va_G) (cI cZ cJ cD : ClassId) (h0 q1 q2 w h : Nat) (hw : w ≤ 24) (hh : h ≤ 24) (B O : Nat → Int32)  : Cv l G (kTy cI cZ cJ cD) yX0_wipe wsX0_wipe rmX0_wipe [.ref h0] [(h0, .inr (0, [.int (nI w), .int (nI h), .double (midF w), .double (midF h), .ref q1, .ref q2])), (q1, .inl (cI, 24, .inl B)), (q2, .inl (cI, 24, .inl O))] [(h0, .inr (0, [.int (nI w), .int (nI h), .double (midF w), .double (midF h), .ref q1, .ref q2])), (q1, .inl (cI, 24, .inl (mapN (fun _ _ => 0) B h))), (q2, .inl (cI, 24, .inl O))] := by
  refine Cv.of rfl rfl (cc := cX0_wipe) (maxL := 2) (plainFor_of_name (by decide)) rfl (Nat.le_of_ble_eq_true rfl) rfl ?_
  intro p e s m args below meth c A Q hx hb hml hts hown hA hK hP hD hS hend ls hl
  refine lv_iconst (v := 0) hx hb dX0_wipe_0 (by decide) ?_
  refine lv_istore_n (lv' := [(1, .int 0), (0, .ref h0)]) hx hb dX0_wipe_1 rfl hl (by decide) rfl (fun ls hl => ?_)
  have K2 : ∀ (n2 : Nat) (i : Nat), h - i < n2 → (i ≤ h) → ∀ (H : Heap) (locs : List Loc), va_P G vwCl [(h0, .inr (0, [.int (nI w), .int (nI h), .double (midF w), .double (midF h), .ref q1, .ref q2])), (q1, .inl (cI, 24, .inl (mapN (fun _ _ => 0) B i))), (q2, .inl (cI, 24, .inl O))] H → va_D A [(h0, .inr (0, [.int (nI w), .int (nI h), .double (midF w), .double (midF h), .ref q1, .ref q2])), (q1, .inl (cI, 24, .inl (mapN (fun _ _ => 0) B i))), (q2, .inl (cI, 24, .inl O))] → va_S A s.heap H locs → ∀ ls : Array Slot, lv_has ls 2 [(0, .ref h0), (1, .int (nI i))] → W p l e rmX0_wipe s m args below meth c H locs 0 0 Q (F0 m 2 ls []) := by
    intro n2
    induction n2 with
    | zero => intro i hn; exact absurd hn (by omega)
    | succ n2 ih2 =>
      intro i hn2 hi H locs hP hD hS ls hl
      refine lv_iload_n hx hb dX0_wipe_2 rfl (lv_at hl 1 rfl) ?_
      refine lv_aload_n hx hb dX0_wipe_3 rfl (lv_at hl 0 rfl) ?_
      refine va_get (D := G) (ci := 0) (v := .int (nI h)) (C := RX0) (T := TX0) (N := 6) hx hb hts in_kX0_wipe_X0 hown hK hP 0 rfl rfl 1 (by decide) (hts _ fl_kX0_wipe_15) (fun _ h9 => h9) rfl dX0_wipe_4 ?_
      refine kGe (by omega) (by omega) (tgt := 22) hx hb dX0_wipe_7 (by decide) (fun c_7 => ?_) (fun c_7 => ?_)
      · have e9 : h = i := by omega
        subst e9
        exact hend _ _ _ _ _ dX0_wipe_22 hP hD hS rfl
      · refine lv_aload_n hx hb dX0_wipe_10 rfl (lv_at hl 0 rfl) ?_
        refine lv_iload_n hx hb dX0_wipe_11 rfl (lv_at hl 1 rfl) ?_
        refine lv_iconst (v := 0) hx hb dX0_wipe_12 (by decide) ?_
        refine kVv (w' := [(h0, .inr (0, [.int (nI w), .int (nI h), .double (midF w), .double (midF h), .ref q1, .ref q2])), (q1, .inl (cI, 24, .inl (setF (mapN (fun _ _ => 0) B i) (nI i) 0))), (q2, .inl (cI, 24, .inl O))]) (wr := []) (isC := [0, 1, 2]) (isR := []) (pm := [0, 1, 2]) (rest := []) (kX0_setRowBits l G cI cZ cJ cD h0 q1 q2 w h hw hh (mapN (fun _ _ => 0) B i) O (nI i) 0) ⟨hx, hb, hml, hown, hts⟩ (cwV 2 hts gX0_wipe_X0_setRowBits rfl rfl rfl hd_X0_setRowBits ⟨Nat.le_of_ble_eq_true rfl, Nat.le_of_ble_eq_true rfl⟩) hK hP hD hS hA ⟨rfl, rfl, rfl, by decide, rfl, rfl, rfl⟩ 0 0 rfl rfl rfl hl.1 rfl (Nat.le_of_ble_eq_true rfl) dX0_wipe_13 ⟨Nat.le_of_ble_eq_true rfl, Nat.le_of_ble_eq_true rfl⟩ rfl rfl (fun H locs hP hD hS => ?_)
        have hE : setF (mapN (fun _ _ => 0) B i) (nI i) 0 = upd (mapN (fun _ _ => 0) B i) i 0 := setF_nI _ _ (by omega)
        rw [hE] at hP hD
        have hE : upd (mapN (fun _ _ => 0) B i) i 0 = mapN (fun _ _ => 0) B (i + 1) := mapN_s (fun _ _ => 0) B i
        rw [hE] at hP hD
        refine lv_iinc (v := nI (i + 1)) (lv' := [(1, .int (nI (i + 1))), (0, .ref h0)]) hx hb dX0_wipe_16 hl (k := 1) rfl (nI_1 _) (by decide) rfl (fun ls hl => ?_)
        refine lv_goto (tgt := 2) hx hb dX0_wipe_19 (by decide) ?_
        exact ih2 (i + 1) (by omega) (by omega) _ _ hP hD hS _ (lv_sub hl [1, 0] rfl)
  rw [← mapN_0 (fun _ _ => 0) B] at hP hD
  exact K2 (h - 0 + 1) 0 (by omega) (by omega) _ _ hP hD hS _ (lv_sub hl [1, 0] rfl)
theorem in_kX0_samplesOn_X0 : ∀ w ∈ u_ws RX0 TX0 6, w ∈ wsX0_samplesOn := by decide +kernel
theorem fl_kX0_samplesOn_15 : Cond.fieldLink RX0 15 "SkewFind$Picture" "height" "I" ∈ wsX0_samplesOn := by decide +kernel
abbrev rmX0_samplesOn : Room := { frames := 1, cells := 0, slots := 0, locals := 21 }
set_option maxRecDepth 100000 in
set_option maxHeartbeats 4000000 in
theorem kX0_samplesOn (l : Launch) (G : va_G) (cI cZ cJ cD : ClassId) (h0 q1 q2 w h : Nat) (hw : w ≤ 24) (hh : h ≤ 24) (B O : Nat → Int32)  : Ci l G (kTy cI cZ cJ cD) yX0_samplesOn wsX0_samplesOn rmX0_samplesOn [.ref h0] [(h0, .inr (0, [.int (nI w), .int (nI h), .double (midF w), .double (midF h), .ref q1, .ref q2])), (q1, .inl (cI, 24, .inl B)), (q2, .inl (cI, 24, .inl O))] (cntOn B h) [(h0, .inr (0, [.int (nI w), .int (nI h), .double (midF w), .double (midF h), .ref q1, .ref q2])), (q1, .inl (cI, 24, .inl B)), (q2, .inl (cI, 24, .inl O))] := by
  refine Ci.of .int rfl rfl rfl (cc := cX0_samplesOn) (maxL := 3) (plainFor_of_name (by decide)) rfl (Nat.le_of_ble_eq_true rfl) rfl ?_
  intro p e s m args below meth c A Q hx hb hml hts hown hA hK hP hD hS hend ls hl
  refine lv_iconst (v := 0) hx hb dX0_samplesOn_0 (by decide) ?_
  refine lv_istore_n (lv' := [(1, .int 0), (0, .ref h0)]) hx hb dX0_samplesOn_1 rfl hl (by decide) rfl (fun ls hl => ?_)
  refine lv_iconst (v := 0) hx hb dX0_samplesOn_2 (by decide) ?_
  refine lv_istore_n (lv' := [(2, .int 0), (1, .int 0), (0, .ref h0)]) hx hb dX0_samplesOn_3 rfl hl (by decide) rfl (fun ls hl => ?_)
  have K4 : ∀ (n4 : Nat) (i : Nat), h - i < n4 → (i ≤ h) → ∀ (H : Heap) (locs : List Loc), va_P G vwCl [(h0, .inr (0, [.int (nI w), .int (nI h), .double (midF w), .double (midF h), .ref q1, .ref q2])), (q1, .inl (cI, 24, .inl B)), (q2, .inl (cI, 24, .inl O))] H → va_D A [(h0, .inr (0, [.int (nI w), .int (nI h), .double (midF w), .double (midF h), .ref q1, .ref q2])), (q1, .inl (cI, 24, .inl B)), (q2, .inl (cI, 24, .inl O))] → va_S A s.heap H locs → ∀ ls : Array Slot, lv_has ls 3 [(0, .ref h0), (1, .int (sumI (fun y => popc (B y)) i)), (2, .int (nI i))] → W p l e rmX0_samplesOn s m args below meth c H locs 0 0 Q (F0 m 4 ls []) := by
    intro n4
    induction n4 with
    | zero => intro i hn; exact absurd hn (by omega)
    | succ n4 ih4 =>
      intro i hn4 hi H locs hP hD hS ls hl
      refine lv_iload_n hx hb dX0_samplesOn_4 rfl (lv_at hl 2 rfl) ?_
      refine lv_aload_n hx hb dX0_samplesOn_5 rfl (lv_at hl 0 rfl) ?_
      refine va_get (D := G) (ci := 0) (v := .int (nI h)) (C := RX0) (T := TX0) (N := 6) hx hb hts in_kX0_samplesOn_X0 hown hK hP 0 rfl rfl 1 (by decide) (hts _ fl_kX0_samplesOn_15) (fun _ h9 => h9) rfl dX0_samplesOn_6 ?_
      refine kGe (by omega) (by omega) (tgt := 29) hx hb dX0_samplesOn_9 (by decide) (fun c_9 => ?_) (fun c_9 => ?_)
      · have e9 : h = i := by omega
        subst e9
        refine lv_iload_n hx hb dX0_samplesOn_29 rfl (lv_at hl 1 rfl) ?_
        exact hend _ _ _ _ _ _ dX0_samplesOn_30 hP hD hS rfl rfl
      · refine lv_iload_n hx hb dX0_samplesOn_12 rfl (lv_at hl 1 rfl) ?_
        refine lv_aload_n hx hb dX0_samplesOn_13 rfl (lv_at hl 0 rfl) ?_
        refine lv_iload_n hx hb dX0_samplesOn_14 rfl (lv_at hl 2 rfl) ?_
        refine kVi (w' := [(h0, .inr (0, [.int (nI w), .int (nI h), .double (midF w), .double (midF h), .ref q1, .ref q2])), (q1, .inl (cI, 24, .inl B)), (q2, .inl (cI, 24, .inl O))]) (wr := []) (isC := [0, 1, 2]) (isR := []) (pm := [0, 1, 2]) (rest := [.int (sumI (fun y => popc (B y)) i)]) (kX0_rowBits l G cI cZ cJ cD h0 q1 q2 w h hw hh B O (nI i)) ⟨hx, hb, hml, hown, hts⟩ (cwV 1 hts gX0_samplesOn_X0_rowBits rfl rfl rfl hd_X0_rowBits ⟨Nat.le_of_ble_eq_true rfl, Nat.le_of_ble_eq_true rfl⟩) hK hP hD hS hA ⟨rfl, rfl, rfl, by decide, rfl, rfl, rfl⟩ 0 0 rfl rfl rfl hl.1 rfl (Nat.le_of_ble_eq_true rfl) dX0_samplesOn_15 ⟨Nat.le_of_ble_eq_true rfl, Nat.le_of_ble_eq_true rfl⟩ rfl rfl (fun H locs hP hD hS => ?_)
        refine kTopI (z := B i) (rowF_nI _ (by omega)) ?_
        refine kSi (rest := [.int (sumI (fun y => popc (B y)) i)]) (kJ6_bitCount_0f7a4 l G cI cZ cJ cD (B i)) ⟨hx, hb, hml, hown, hts⟩ (va_cwS 1 hts gX0_samplesOn_J6_bitCount_0f7a4 rfl rfl rfl hs_J6_bitCount_0f7a4 ⟨Nat.le_of_ble_eq_true rfl, Nat.le_of_ble_eq_true rfl⟩) hK hP hD hS hA rfl hl.1 rfl (Nat.le_of_ble_eq_true rfl) dX0_samplesOn_18 ⟨Nat.le_of_ble_eq_true rfl, Nat.le_of_ble_eq_true rfl⟩ rfl rfl (fun H locs hP hD hS => ?_)
        refine lv_iadd hx hb dX0_samplesOn_21 ?_
        refine lv_istore_n (lv' := [(1, .int ((sumI (fun y => popc (B y)) i) + (popc (B i)))), (0, .ref h0), (2, .int (nI i))]) hx hb dX0_samplesOn_22 rfl hl (by decide) rfl (fun ls hl => ?_)
        refine lv_iinc (v := nI (i + 1)) (lv' := [(2, .int (nI (i + 1))), (1, .int ((sumI (fun y => popc (B y)) i) + (popc (B i)))), (0, .ref h0)]) hx hb dX0_samplesOn_23 hl (k := 2) rfl (nI_1 _) (by decide) rfl (fun ls hl => ?_)
        refine lv_goto (tgt := 4) hx hb dX0_samplesOn_26 (by decide) ?_
        exact ih4 (i + 1) (by omega) (by omega) _ _ hP hD hS _ (lv_sub hl [2, 1, 0] rfl)
  exact K4 (h - 0 + 1) 0 (by omega) (by omega) _ _ hP hD hS _ (lv_sub hl [2, 1, 0] rfl)
abbrev rmX0_runEndBits : Room := { frames := 1, cells := 0, slots := 0, locals := 21 }
set_option maxRecDepth 100000 in
set_option maxHeartbeats 4000000 in
theorem kX0_runEndBits (l : Launch) (G : va_G) (cI cZ cJ cD : ClassId) (h0 q1 q2 w h : Nat) (hw : w ≤ 24) (hh : h ≤ 24) (B O : Nat → Int32) (y : Int32) : Ci l G (kTy cI cZ cJ cD) yX0_runEndBits wsX0_runEndBits rmX0_runEndBits [.ref h0, .int y] [(h0, .inr (0, [.int (nI w), .int (nI h), .double (midF w), .double (midF h), .ref q1, .ref q2])), (q1, .inl (cI, 24, .inl B)), (q2, .inl (cI, 24, .inl O))] (endsF (rowF B y)) [(h0, .inr (0, [.int (nI w), .int (nI h), .double (midF w), .double (midF h), .ref q1, .ref q2])), (q1, .inl (cI, 24, .inl B)), (q2, .inl (cI, 24, .inl O))] := by
  refine Ci.of .int rfl rfl rfl (cc := cX0_runEndBits) (maxL := 3) (plainFor_of_name (by decide)) rfl (Nat.le_of_ble_eq_true rfl) rfl ?_
  intro p e s m args below meth c A Q hx hb hml hts hown hA hK hP hD hS hend ls hl
  refine lv_aload_n hx hb dX0_runEndBits_0 rfl (lv_at hl 0 rfl) ?_
  refine lv_iload_n hx hb dX0_runEndBits_1 rfl (lv_at hl 1 rfl) ?_
  refine kVi (w' := [(h0, .inr (0, [.int (nI w), .int (nI h), .double (midF w), .double (midF h), .ref q1, .ref q2])), (q1, .inl (cI, 24, .inl B)), (q2, .inl (cI, 24, .inl O))]) (wr := []) (isC := [0, 1, 2]) (isR := []) (pm := [0, 1, 2]) (rest := []) (kX0_rowBits l G cI cZ cJ cD h0 q1 q2 w h hw hh B O y) ⟨hx, hb, hml, hown, hts⟩ (cwV 1 hts gX0_runEndBits_X0_rowBits rfl rfl rfl hd_X0_rowBits ⟨Nat.le_of_ble_eq_true rfl, Nat.le_of_ble_eq_true rfl⟩) hK hP hD hS hA ⟨rfl, rfl, rfl, by decide, rfl, rfl, rfl⟩ 0 0 rfl rfl rfl hl.1 rfl (Nat.le_of_ble_eq_true rfl) dX0_runEndBits_2 ⟨Nat.le_of_ble_eq_true rfl, Nat.le_of_ble_eq_true rfl⟩ rfl rfl (fun H locs hP hD hS => ?_)
  refine lv_istore_n (lv' := [(2, .int (rowF B y)), (0, .ref h0), (1, .int y)]) hx hb dX0_runEndBits_5 rfl hl (by decide) rfl (fun ls hl => ?_)
  refine lv_iload_n hx hb dX0_runEndBits_6 rfl (lv_at hl 0 rfl) ?_
  refine lv_iload_n hx hb dX0_runEndBits_7 rfl (lv_at hl 0 rfl) ?_
  refine lv_iconst (v := 1) hx hb dX0_runEndBits_8 (by decide) ?_
  refine lv_iushr (v := sUshr (rowF B y) 1) hx hb dX0_runEndBits_9 rfl ?_
  refine lv_iconst (v := (-1)) hx hb dX0_runEndBits_10 (by decide) ?_
  refine lv_ixor hx hb dX0_runEndBits_11 ?_
  refine lv_iand hx hb dX0_runEndBits_12 ?_
  exact hend _ _ _ _ _ _ dX0_runEndBits_13 hP hD hS rfl rfl
theorem in_kX0_runEnds_X0 : ∀ w ∈ u_ws RX0 TX0 6, w ∈ wsX0_runEnds := by decide +kernel
theorem fl_kX0_runEnds_15 : Cond.fieldLink RX0 15 "SkewFind$Picture" "height" "I" ∈ wsX0_runEnds := by decide +kernel
abbrev rmX0_runEnds : Room := { frames := 2, cells := 0, slots := 0, locals := 43 }
set_option maxRecDepth 100000 in
set_option maxHeartbeats 4000000 in
theorem kX0_runEnds (l : Launch) (G : va_G) (cI cZ cJ cD : ClassId) (h0 q1 q2 w h : Nat) (hw : w ≤ 24) (hh : h ≤ 24) (B O : Nat → Int32)  : Ci l G (kTy cI cZ cJ cD) yX0_runEnds wsX0_runEnds rmX0_runEnds [.ref h0] [(h0, .inr (0, [.int (nI w), .int (nI h), .double (midF w), .double (midF h), .ref q1, .ref q2])), (q1, .inl (cI, 24, .inl B)), (q2, .inl (cI, 24, .inl O))] (cntEnds B h) [(h0, .inr (0, [.int (nI w), .int (nI h), .double (midF w), .double (midF h), .ref q1, .ref q2])), (q1, .inl (cI, 24, .inl B)), (q2, .inl (cI, 24, .inl O))] := by
  refine Ci.of .int rfl rfl rfl (cc := cX0_runEnds) (maxL := 3) (plainFor_of_name (by decide)) rfl (Nat.le_of_ble_eq_true rfl) rfl ?_
  intro p e s m args below meth c A Q hx hb hml hts hown hA hK hP hD hS hend ls hl
  refine lv_iconst (v := 0) hx hb dX0_runEnds_0 (by decide) ?_
  refine lv_istore_n (lv' := [(1, .int 0), (0, .ref h0)]) hx hb dX0_runEnds_1 rfl hl (by decide) rfl (fun ls hl => ?_)
  refine lv_iconst (v := 0) hx hb dX0_runEnds_2 (by decide) ?_
  refine lv_istore_n (lv' := [(2, .int 0), (1, .int 0), (0, .ref h0)]) hx hb dX0_runEnds_3 rfl hl (by decide) rfl (fun ls hl => ?_)
  have K4 : ∀ (n4 : Nat) (i : Nat), h - i < n4 → (i ≤ h) → ∀ (H : Heap) (locs : List Loc), va_P G vwCl [(h0, .inr (0, [.int (nI w), .int (nI h), .double (midF w), .double (midF h), .ref q1, .ref q2])), (q1, .inl (cI, 24, .inl B)), (q2, .inl (cI, 24, .inl O))] H → va_D A [(h0, .inr (0, [.int (nI w), .int (nI h), .double (midF w), .double (midF h), .ref q1, .ref q2])), (q1, .inl (cI, 24, .inl B)), (q2, .inl (cI, 24, .inl O))] → va_S A s.heap H locs → ∀ ls : Array Slot, lv_has ls 3 [(0, .ref h0), (1, .int (sumI (fun y => popc (endsF (B y))) i)), (2, .int (nI i))] → W p l e rmX0_runEnds s m args below meth c H locs 0 0 Q (F0 m 4 ls []) := by
    intro n4
    induction n4 with
    | zero => intro i hn; exact absurd hn (by omega)
    | succ n4 ih4 =>
      intro i hn4 hi H locs hP hD hS ls hl
      refine lv_iload_n hx hb dX0_runEnds_4 rfl (lv_at hl 2 rfl) ?_
      refine lv_aload_n hx hb dX0_runEnds_5 rfl (lv_at hl 0 rfl) ?_
      refine va_get (D := G) (ci := 0) (v := .int (nI h)) (C := RX0) (T := TX0) (N := 6) hx hb hts in_kX0_runEnds_X0 hown hK hP 0 rfl rfl 1 (by decide) (hts _ fl_kX0_runEnds_15) (fun _ h9 => h9) rfl dX0_runEnds_6 ?_
      refine kGe (by omega) (by omega) (tgt := 29) hx hb dX0_runEnds_9 (by decide) (fun c_9 => ?_) (fun c_9 => ?_)
      · have e9 : h = i := by omega
        subst e9
        refine lv_iload_n hx hb dX0_runEnds_29 rfl (lv_at hl 1 rfl) ?_
        exact hend _ _ _ _ _ _ dX0_runEnds_30 hP hD hS rfl rfl
      · refine lv_iload_n hx hb dX0_runEnds_12 rfl (lv_at hl 1 rfl) ?_
        refine lv_aload_n hx hb dX0_runEnds_13 rfl (lv_at hl 0 rfl) ?_
        refine lv_iload_n hx hb dX0_runEnds_14 rfl (lv_at hl 2 rfl) ?_
        refine kVi (w' := [(h0, .inr (0, [.int (nI w), .int (nI h), .double (midF w), .double (midF h), .ref q1, .ref q2])), (q1, .inl (cI, 24, .inl B)), (q2, .inl (cI, 24, .inl O))]) (wr := []) (isC := [0, 1, 2]) (isR := []) (pm := [0, 1, 2]) (rest := [.int (sumI (fun y => popc (endsF (B y))) i)]) (kX0_runEndBits l G cI cZ cJ cD h0 q1 q2 w h hw hh B O (nI i)) ⟨hx, hb, hml, hown, hts⟩ (cwV 1 hts gX0_runEnds_X0_runEndBits rfl rfl rfl hd_X0_runEndBits ⟨Nat.le_of_ble_eq_true rfl, Nat.le_of_ble_eq_true rfl⟩) hK hP hD hS hA ⟨rfl, rfl, rfl, by decide, rfl, rfl, rfl⟩ 0 0 rfl rfl rfl hl.1 rfl (Nat.le_of_ble_eq_true rfl) dX0_runEnds_15 ⟨Nat.le_of_ble_eq_true rfl, Nat.le_of_ble_eq_true rfl⟩ rfl rfl (fun H locs hP hD hS => ?_)
        refine kTopI (z := endsF (B i)) (congrArg endsF (rowF_nI B (by omega))) ?_
        refine kSi (rest := [.int (sumI (fun y => popc (endsF (B y))) i)]) (kJ6_bitCount_0f7a4 l G cI cZ cJ cD (endsF (B i))) ⟨hx, hb, hml, hown, hts⟩ (va_cwS 1 hts gX0_runEnds_J6_bitCount_0f7a4 rfl rfl rfl hs_J6_bitCount_0f7a4 ⟨Nat.le_of_ble_eq_true rfl, Nat.le_of_ble_eq_true rfl⟩) hK hP hD hS hA rfl hl.1 rfl (Nat.le_of_ble_eq_true rfl) dX0_runEnds_18 ⟨Nat.le_of_ble_eq_true rfl, Nat.le_of_ble_eq_true rfl⟩ rfl rfl (fun H locs hP hD hS => ?_)
        refine lv_iadd hx hb dX0_runEnds_21 ?_
        refine lv_istore_n (lv' := [(1, .int ((sumI (fun y => popc (endsF (B y))) i) + (popc (endsF (B i))))), (0, .ref h0), (2, .int (nI i))]) hx hb dX0_runEnds_22 rfl hl (by decide) rfl (fun ls hl => ?_)
        refine lv_iinc (v := nI (i + 1)) (lv' := [(2, .int (nI (i + 1))), (1, .int ((sumI (fun y => popc (endsF (B y))) i) + (popc (endsF (B i))))), (0, .ref h0)]) hx hb dX0_runEnds_23 hl (k := 2) rfl (nI_1 _) (by decide) rfl (fun ls hl => ?_)
        refine lv_goto (tgt := 4) hx hb dX0_runEnds_26 (by decide) ?_
        exact ih4 (i + 1) (by omega) (by omega) _ _ hP hD hS _ (lv_sub hl [2, 1, 0] rfl)
  exact K4 (h - 0 + 1) 0 (by omega) (by omega) _ _ hP hD hS _ (lv_sub hl [2, 1, 0] rfl)
theorem in_kX0_movedRight_X0 : ∀ w ∈ u_ws RX0 TX0 6, w ∈ wsX0_movedRight := by decide +kernel
theorem fl_kX0_movedRight_9 : Cond.fieldLink RX0 9 "SkewFind$Picture" "width" "I" ∈ wsX0_movedRight := by decide +kernel
abbrev rmX0_movedRight : Room := { frames := 2, cells := 0, slots := 0, locals := 43 }
set_option maxRecDepth 100000 in
set_option maxHeartbeats 4000000 in
theorem kX0_movedRight (l : Launch) (G : va_G) (cI cZ cJ cD : ClassId) (h0 q1 q2 w h : Nat) (hw : w ≤ 24) (hh : h ≤ 24) (B O : Nat → Int32) (r b : Int32) : Ci l G (kTy cI cZ cJ cD) yX0_movedRight wsX0_movedRight rmX0_movedRight [.ref h0, .int r, .int b] [(h0, .inr (0, [.int (nI w), .int (nI h), .double (midF w), .double (midF h), .ref q1, .ref q2])), (q1, .inl (cI, 24, .inl B)), (q2, .inl (cI, 24, .inl O))] (movF w r b) [(h0, .inr (0, [.int (nI w), .int (nI h), .double (midF w), .double (midF h), .ref q1, .ref q2])), (q1, .inl (cI, 24, .inl B)), (q2, .inl (cI, 24, .inl O))] := by
  refine Ci.of .int rfl rfl rfl (cc := cX0_movedRight) (maxL := 4) (plainFor_of_name (by decide)) rfl (Nat.le_of_ble_eq_true rfl) rfl ?_
  intro p e s m args below meth c A Q hx hb hml hts hown hA hK hP hD hS hend ls hl
  refine lv_iload_n hx hb dX0_movedRight_0 rfl (lv_at hl 2 rfl) ?_
  refine lv_aload_n hx hb dX0_movedRight_1 rfl (lv_at hl 0 rfl) ?_
  refine va_get (D := G) (ci := 0) (v := .int (nI w)) (C := RX0) (T := TX0) (N := 6) hx hb hts in_kX0_movedRight_X0 hown hK hP 0 rfl rfl 0 (by decide) (hts _ fl_kX0_movedRight_9) (fun _ h9 => h9) rfl dX0_movedRight_2 ?_
  refine kSi (rest := []) (kX1_wrapped l G cI cZ cJ cD b (nI w)) ⟨hx, hb, hml, hown, hts⟩ (va_cwS 2 hts gX0_movedRight_X1_wrapped rfl rfl rfl hs_X1_wrapped ⟨Nat.le_of_ble_eq_true rfl, Nat.le_of_ble_eq_true rfl⟩) hK hP hD hS hA rfl hl.1 rfl (Nat.le_of_ble_eq_true rfl) dX0_movedRight_5 ⟨Nat.le_of_ble_eq_true rfl, Nat.le_of_ble_eq_true rfl⟩ rfl rfl (fun H locs hP hD hS => ?_)
  refine lv_istore_n (lv' := [(3, .int (wrapF b (nI w))), (0, .ref h0), (1, .int r), (2, .int b)]) hx hb dX0_movedRight_8 rfl hl (by decide) rfl (fun ls hl => ?_)
  refine lv_iload_n hx hb dX0_movedRight_9 rfl (lv_at hl 2 rfl) ?_
  refine lv_iload_n hx hb dX0_movedRight_10 rfl (lv_at hl 0 rfl) ?_
  refine lv_ishl hx hb dX0_movedRight_11 ?_
  refine lv_iload_n hx hb dX0_movedRight_12 rfl (lv_at hl 2 rfl) ?_
  refine lv_aload_n hx hb dX0_movedRight_13 rfl (lv_at hl 1 rfl) ?_
  refine va_get (D := G) (ci := 0) (v := .int (nI w)) (C := RX0) (T := TX0) (N := 6) hx hb hts in_kX0_movedRight_X0 hown hK hP 0 rfl rfl 0 (by decide) (hts _ fl_kX0_movedRight_9) (fun _ h9 => h9) rfl dX0_movedRight_14 ?_
  refine lv_iload_n hx hb dX0_movedRight_17 rfl (lv_at hl 0 rfl) ?_
  refine lv_isub hx hb dX0_movedRight_18 ?_
  refine lv_iushr (v := sUshr r ((nI w) - (wrapF b (nI w)))) hx hb dX0_movedRight_19 rfl ?_
  refine lv_ior hx hb dX0_movedRight_20 ?_
  refine lv_aload_n hx hb dX0_movedRight_21 rfl (lv_at hl 1 rfl) ?_
  refine va_get (D := G) (ci := 0) (v := .int (nI w)) (C := RX0) (T := TX0) (N := 6) hx hb hts in_kX0_movedRight_X0 hown hK hP 0 rfl rfl 0 (by decide) (hts _ fl_kX0_movedRight_9) (fun _ h9 => h9) rfl dX0_movedRight_22 ?_
  refine kSi (rest := [.int ((r <<< ((wrapF b (nI w)) &&& 31)) ||| (sUshr r ((nI w) - (wrapF b (nI w)))))]) (kX0_bitsOf l G cI cZ cJ cD (nI w)) ⟨hx, hb, hml, hown, hts⟩ (va_cwS 1 hts gX0_movedRight_X0_bitsOf rfl rfl rfl hs_X0_bitsOf ⟨Nat.le_of_ble_eq_true rfl, Nat.le_of_ble_eq_true rfl⟩) hK hP hD hS hA rfl hl.1 rfl (Nat.le_of_ble_eq_true rfl) dX0_movedRight_25 ⟨Nat.le_of_ble_eq_true rfl, Nat.le_of_ble_eq_true rfl⟩ rfl rfl (fun H locs hP hD hS => ?_)
  refine lv_iand hx hb dX0_movedRight_28 ?_
  exact hend _ _ _ _ _ _ dX0_movedRight_29 hP hD hS rfl rfl
theorem in_kX0_fill_X0 : ∀ w ∈ u_ws RX0 TX0 6, w ∈ wsX0_fill := by decide +kernel
theorem fl_kX0_fill_9 : Cond.fieldLink RX0 9 "SkewFind$Picture" "width" "I" ∈ wsX0_fill := by decide +kernel
theorem wd_kX0_fill_mmin42 : Cond.methodLink RX0 42 Lib.Math.min.name ∈ wsX0_fill := by decide +kernel
theorem wd_kX0_fill_msmin : Cond.static Lib.Math.min.name ∈ wsX0_fill := by decide +kernel
theorem wd_kX0_fill_mi : Cond.initialized "java/lang/Math" ∈ wsX0_fill := by decide +kernel
theorem wd_kX0_fill_mcmin : Cond.code Lib.Math.min.name Lib.Math.min.code 2 (some .int) ∈ wsX0_fill := by decide +kernel
abbrev rmX0_fill : Room := { frames := 1, cells := 0, slots := 0, locals := 24 }
set_option maxRecDepth 100000 in
set_option maxHeartbeats 4000000 in
theorem kX0_fill (l : Launch) (G : va_G) (cI cZ cJ cD : ClassId) (h0 q1 q2 w h : Nat) (hw : w ≤ 24) (hh : h ≤ 24) (B O : Nat → Int32) (x y n on : Int32) : Ci l G (kTy cI cZ cJ cD) yX0_fill wsX0_fill rmX0_fill [.ref h0, .int x, .int y, .int n, .int on] [(h0, .inr (0, [.int (nI w), .int (nI h), .double (midF w), .double (midF h), .ref q1, .ref q2])), (q1, .inl (cI, 24, .inl B)), (q2, .inl (cI, 24, .inl O))] (fillN w h B x y n on) [(h0, .inr (0, [.int (nI w), .int (nI h), .double (midF w), .double (midF h), .ref q1, .ref q2])), (q1, .inl (cI, 24, .inl (fillB w h B x y n on))), (q2, .inl (cI, 24, .inl O))] := by
  refine Ci.of .int rfl rfl rfl (cc := cX0_fill) (maxL := 8) (plainFor_of_name (by decide)) rfl (Nat.le_of_ble_eq_true rfl) rfl ?_
  intro p e s m args below meth c A Q hx hb hml hts hown hA hK hP hD hS hend ls hl
  refine lv_aload_n hx hb dX0_fill_0 rfl (lv_at hl 0 rfl) ?_
  refine lv_iload_n hx hb dX0_fill_1 rfl (lv_at hl 1 rfl) ?_
  refine lv_iload_n hx hb dX0_fill_2 rfl (lv_at hl 2 rfl) ?_
  refine kVi (w' := [(h0, .inr (0, [.int (nI w), .int (nI h), .double (midF w), .double (midF h), .ref q1, .ref q2])), (q1, .inl (cI, 24, .inl B)), (q2, .inl (cI, 24, .inl O))]) (wr := []) (isC := [0, 1, 2]) (isR := []) (pm := [0, 1, 2]) (rest := []) (kX0_has l G cI cZ cJ cD h0 q1 q2 w h hw hh B O x y) ⟨hx, hb, hml, hown, hts⟩ (cwV 2 hts gX0_fill_X0_has rfl rfl rfl hd_X0_has ⟨Nat.le_of_ble_eq_true rfl, Nat.le_of_ble_eq_true rfl⟩) hK hP hD hS hA ⟨rfl, rfl, rfl, by decide, rfl, rfl, rfl⟩ 0 0 rfl rfl rfl hl.1 rfl (Nat.le_of_ble_eq_true rfl) dX0_fill_3 ⟨Nat.le_of_ble_eq_true rfl, Nat.le_of_ble_eq_true rfl⟩ rfl rfl (fun H locs hP hD hS => ?_)
  refine kIfEqB (tgt := 14) hx hb dX0_fill_6 (by decide) (fun c_6 => ?_) (fun c_6 => ?_)
  · refine lv_iconst (v := 0) hx hb dX0_fill_14 (by decide) ?_
    exact hend _ _ _ _ _ _ dX0_fill_15 hP hD hS (by first | rfl | (simp only [fillN, fillB, fillOk, reachF, paintF, minF, c_6, ↓reduceIte]; done) | (simp [fillN, fillB, fillOk, reachF, paintF, minF, c_6]; done)) (by first | rfl | (simp only [fillN, fillB, fillOk, reachF, paintF, minF, c_6, ↓reduceIte]; done) | (simp [fillN, fillB, fillOk, reachF, paintF, minF, c_6]; done))
  · refine lv_iload_n hx hb dX0_fill_9 rfl (lv_at hl 3 rfl) ?_
    refine lv_iconst (v := 1) hx hb dX0_fill_10 (by decide) ?_
    refine lv_icmp_ge (tgt := 16) hx hb dX0_fill_11 (by decide) (fun c_11 => ?_) (fun c_11 => ?_)
    · refine lv_iload_n hx hb dX0_fill_16 rfl (lv_at hl 3 rfl) ?_
      refine lv_aload_n hx hb dX0_fill_17 rfl (lv_at hl 0 rfl) ?_
      refine va_get (D := G) (ci := 0) (v := .int (nI w)) (C := RX0) (T := TX0) (N := 6) hx hb hts in_kX0_fill_X0 hown hK hP 0 rfl rfl 0 (by decide) (hts _ fl_kX0_fill_9) (fun _ h9 => h9) rfl dX0_fill_18 ?_
      refine lv_iload_n hx hb dX0_fill_21 rfl (lv_at hl 1 rfl) ?_
      refine lv_isub hx hb dX0_fill_22 ?_
      refine va_mmin hx hb (hml.trans hl.1.symm) hown (hts _ wd_kX0_fill_mmin42) (hts _ wd_kX0_fill_msmin) (hts _ wd_kX0_fill_mi) (hts _ wd_kX0_fill_mcmin) (Nat.le_of_ble_eq_true rfl) (Nat.le_of_ble_eq_true rfl) (Nat.le_of_ble_eq_true rfl) (Nat.le_of_ble_eq_true rfl) dX0_fill_23 ?_
      refine kSi (rest := []) (kX0_bitsOf l G cI cZ cJ cD (if (nI w) - x < n then (nI w) - x else n)) ⟨hx, hb, hml, hown, hts⟩ (va_cwS 1 hts gX0_fill_X0_bitsOf rfl rfl rfl hs_X0_bitsOf ⟨Nat.le_of_ble_eq_true rfl, Nat.le_of_ble_eq_true rfl⟩) hK hP hD hS hA rfl hl.1 rfl (Nat.le_of_ble_eq_true rfl) dX0_fill_26 ⟨Nat.le_of_ble_eq_true rfl, Nat.le_of_ble_eq_true rfl⟩ rfl rfl (fun H locs hP hD hS => ?_)
      refine lv_iload_n hx hb dX0_fill_29 rfl (lv_at hl 1 rfl) ?_
      refine lv_ishl hx hb dX0_fill_30 ?_
      refine lv_istore (lv' := [(5, .int ((bitsOfF (if (nI w) - x < n then (nI w) - x else n)) <<< (x &&& 31))), (0, .ref h0), (1, .int x), (2, .int y), (3, .int n), (4, .int on)]) hx hb dX0_fill_31 hl (by decide) rfl (fun ls hl => ?_)
      refine lv_aload_n hx hb dX0_fill_33 rfl (lv_at hl 1 rfl) ?_
      refine lv_iload_n hx hb dX0_fill_34 rfl (lv_at hl 3 rfl) ?_
      refine kVi (w' := [(h0, .inr (0, [.int (nI w), .int (nI h), .double (midF w), .double (midF h), .ref q1, .ref q2])), (q1, .inl (cI, 24, .inl B)), (q2, .inl (cI, 24, .inl O))]) (wr := []) (isC := [0, 1, 2]) (isR := []) (pm := [0, 1, 2]) (rest := []) (kX0_rowBits l G cI cZ cJ cD h0 q1 q2 w h hw hh B O y) ⟨hx, hb, hml, hown, hts⟩ (cwV 1 hts gX0_fill_X0_rowBits rfl rfl rfl hd_X0_rowBits ⟨Nat.le_of_ble_eq_true rfl, Nat.le_of_ble_eq_true rfl⟩) hK hP hD hS hA ⟨rfl, rfl, rfl, by decide, rfl, rfl, rfl⟩ 0 0 rfl rfl rfl hl.1 rfl (Nat.le_of_ble_eq_true rfl) dX0_fill_35 ⟨Nat.le_of_ble_eq_true rfl, Nat.le_of_ble_eq_true rfl⟩ rfl rfl (fun H locs hP hD hS => ?_)
      refine lv_istore (lv' := [(6, .int (rowF B y)), (5, .int ((bitsOfF (if (nI w) - x < n then (nI w) - x else n)) <<< (x &&& 31))), (0, .ref h0), (1, .int x), (2, .int y), (3, .int n), (4, .int on)]) hx hb dX0_fill_38 hl (by decide) rfl (fun ls hl => ?_)
      refine lv_iload hx hb dX0_fill_40 (lv_at hl 6 rfl) ?_
      refine lv_if_eq (tgt := 53) hx hb dX0_fill_42 (by decide) (fun c_42 => ?_) (fun c_42 => ?_)
      · refine lv_iload hx hb dX0_fill_53 (lv_at hl 0 rfl) ?_
        refine lv_iload hx hb dX0_fill_55 (lv_at hl 1 rfl) ?_
        refine lv_iconst (v := (-1)) hx hb dX0_fill_57 (by decide) ?_
        refine lv_ixor hx hb dX0_fill_58 ?_
        refine lv_iand hx hb dX0_fill_59 ?_
        refine lv_istore (lv' := [(7, .int ((rowF B y) &&& (((bitsOfF (if (nI w) - x < n then (nI w) - x else n)) <<< (x &&& 31)) ^^^ ((-1))))), (6, .int (rowF B y)), (5, .int ((bitsOfF (if (nI w) - x < n then (nI w) - x else n)) <<< (x &&& 31))), (0, .ref h0), (1, .int x), (2, .int y), (3, .int n), (4, .int on)]) hx hb dX0_fill_60 hl (by decide) rfl (fun ls hl => ?_)
        refine lv_aload_n hx hb dX0_fill_62 rfl (lv_at hl 3 rfl) ?_
        refine lv_iload_n hx hb dX0_fill_63 rfl (lv_at hl 5 rfl) ?_
        refine lv_iload hx hb dX0_fill_64 (lv_at hl 0 rfl) ?_
        refine kVv (w' := [(h0, .inr (0, [.int (nI w), .int (nI h), .double (midF w), .double (midF h), .ref q1, .ref q2])), (q1, .inl (cI, 24, .inl (setF B y ((rowF B y) &&& (((bitsOfF (if (nI w) - x < n then (nI w) - x else n)) <<< (x &&& 31)) ^^^ ((-1))))))), (q2, .inl (cI, 24, .inl O))]) (wr := []) (isC := [0, 1, 2]) (isR := []) (pm := [0, 1, 2]) (rest := []) (kX0_setRowBits l G cI cZ cJ cD h0 q1 q2 w h hw hh B O y ((rowF B y) &&& (((bitsOfF (if (nI w) - x < n then (nI w) - x else n)) <<< (x &&& 31)) ^^^ ((-1))))) ⟨hx, hb, hml, hown, hts⟩ (cwV 2 hts gX0_fill_X0_setRowBits rfl rfl rfl hd_X0_setRowBits ⟨Nat.le_of_ble_eq_true rfl, Nat.le_of_ble_eq_true rfl⟩) hK hP hD hS hA ⟨rfl, rfl, rfl, by decide, rfl, rfl, rfl⟩ 0 0 rfl rfl rfl hl.1 rfl (Nat.le_of_ble_eq_true rfl) dX0_fill_66 ⟨Nat.le_of_ble_eq_true rfl, Nat.le_of_ble_eq_true rfl⟩ rfl rfl (fun H locs hP hD hS => ?_)
        refine lv_iload hx hb dX0_fill_69 (lv_at hl 1 rfl) ?_
        refine lv_iload hx hb dX0_fill_71 (lv_at hl 0 rfl) ?_
        refine lv_ixor hx hb dX0_fill_73 ?_
        refine kSi (rest := []) (kJ6_bitCount_0f7a4 l G cI cZ cJ cD ((rowF B y) ^^^ ((rowF B y) &&& (((bitsOfF (if (nI w) - x < n then (nI w) - x else n)) <<< (x &&& 31)) ^^^ ((-1)))))) ⟨hx, hb, hml, hown, hts⟩ (va_cwS 1 hts gX0_fill_J6_bitCount_0f7a4 rfl rfl rfl hs_J6_bitCount_0f7a4 ⟨Nat.le_of_ble_eq_true rfl, Nat.le_of_ble_eq_true rfl⟩) hK hP hD hS hA rfl hl.1 rfl (Nat.le_of_ble_eq_true rfl) dX0_fill_74 ⟨Nat.le_of_ble_eq_true rfl, Nat.le_of_ble_eq_true rfl⟩ rfl rfl (fun H locs hP hD hS => ?_)
        exact hend _ _ _ _ _ _ dX0_fill_77 hP hD hS (by first | rfl | (simp only [fillN, fillB, fillOk, reachF, paintF, minF, c_6, c_11, c_42, ↓reduceIte]; done) | (simp [fillN, fillB, fillOk, reachF, paintF, minF, c_6, c_11, c_42]; done)) (by first | rfl | (simp only [fillN, fillB, fillOk, reachF, paintF, minF, c_6, c_11, c_42, ↓reduceIte]; done) | (simp [fillN, fillB, fillOk, reachF, paintF, minF, c_6, c_11, c_42]; done))
      · refine lv_iload hx hb dX0_fill_45 (lv_at hl 0 rfl) ?_
        refine lv_iload hx hb dX0_fill_47 (lv_at hl 1 rfl) ?_
        refine lv_ior hx hb dX0_fill_49 ?_
        refine lv_goto (tgt := 60) hx hb dX0_fill_50 (by decide) ?_
        refine lv_istore (lv' := [(7, .int ((rowF B y) ||| ((bitsOfF (if (nI w) - x < n then (nI w) - x else n)) <<< (x &&& 31)))), (6, .int (rowF B y)), (5, .int ((bitsOfF (if (nI w) - x < n then (nI w) - x else n)) <<< (x &&& 31))), (0, .ref h0), (1, .int x), (2, .int y), (3, .int n), (4, .int on)]) hx hb dX0_fill_60 hl (by decide) rfl (fun ls hl => ?_)
        refine lv_aload_n hx hb dX0_fill_62 rfl (lv_at hl 3 rfl) ?_
        refine lv_iload_n hx hb dX0_fill_63 rfl (lv_at hl 5 rfl) ?_
        refine lv_iload hx hb dX0_fill_64 (lv_at hl 0 rfl) ?_
        refine kVv (w' := [(h0, .inr (0, [.int (nI w), .int (nI h), .double (midF w), .double (midF h), .ref q1, .ref q2])), (q1, .inl (cI, 24, .inl (setF B y ((rowF B y) ||| ((bitsOfF (if (nI w) - x < n then (nI w) - x else n)) <<< (x &&& 31)))))), (q2, .inl (cI, 24, .inl O))]) (wr := []) (isC := [0, 1, 2]) (isR := []) (pm := [0, 1, 2]) (rest := []) (kX0_setRowBits l G cI cZ cJ cD h0 q1 q2 w h hw hh B O y ((rowF B y) ||| ((bitsOfF (if (nI w) - x < n then (nI w) - x else n)) <<< (x &&& 31)))) ⟨hx, hb, hml, hown, hts⟩ (cwV 2 hts gX0_fill_X0_setRowBits rfl rfl rfl hd_X0_setRowBits ⟨Nat.le_of_ble_eq_true rfl, Nat.le_of_ble_eq_true rfl⟩) hK hP hD hS hA ⟨rfl, rfl, rfl, by decide, rfl, rfl, rfl⟩ 0 0 rfl rfl rfl hl.1 rfl (Nat.le_of_ble_eq_true rfl) dX0_fill_66 ⟨Nat.le_of_ble_eq_true rfl, Nat.le_of_ble_eq_true rfl⟩ rfl rfl (fun H locs hP hD hS => ?_)
        refine lv_iload hx hb dX0_fill_69 (lv_at hl 1 rfl) ?_
        refine lv_iload hx hb dX0_fill_71 (lv_at hl 0 rfl) ?_
        refine lv_ixor hx hb dX0_fill_73 ?_
        refine kSi (rest := []) (kJ6_bitCount_0f7a4 l G cI cZ cJ cD ((rowF B y) ^^^ ((rowF B y) ||| ((bitsOfF (if (nI w) - x < n then (nI w) - x else n)) <<< (x &&& 31))))) ⟨hx, hb, hml, hown, hts⟩ (va_cwS 1 hts gX0_fill_J6_bitCount_0f7a4 rfl rfl rfl hs_J6_bitCount_0f7a4 ⟨Nat.le_of_ble_eq_true rfl, Nat.le_of_ble_eq_true rfl⟩) hK hP hD hS hA rfl hl.1 rfl (Nat.le_of_ble_eq_true rfl) dX0_fill_74 ⟨Nat.le_of_ble_eq_true rfl, Nat.le_of_ble_eq_true rfl⟩ rfl rfl (fun H locs hP hD hS => ?_)
        exact hend _ _ _ _ _ _ dX0_fill_77 hP hD hS (by first | rfl | (simp only [fillN, fillB, fillOk, reachF, paintF, minF, c_6, c_11, c_42, ↓reduceIte]; done) | (simp [fillN, fillB, fillOk, reachF, paintF, minF, c_6, c_11, c_42]; done)) (by first | rfl | (simp only [fillN, fillB, fillOk, reachF, paintF, minF, c_6, c_11, c_42, ↓reduceIte]; done) | (simp [fillN, fillB, fillOk, reachF, paintF, minF, c_6, c_11, c_42]; done))
    · refine lv_iconst (v := 0) hx hb dX0_fill_14 (by decide) ?_
      exact hend _ _ _ _ _ _ dX0_fill_15 hP hD hS (by first | rfl | (simp only [fillN, fillB, fillOk, reachF, paintF, minF, c_6, c_11, ↓reduceIte]; done) | (simp [fillN, fillB, fillOk, reachF, paintF, minF, c_6, c_11]; done)) (by first | rfl | (simp only [fillN, fillB, fillOk, reachF, paintF, minF, c_6, c_11, ↓reduceIte]; done) | (simp [fillN, fillB, fillOk, reachF, paintF, minF, c_6, c_11]; done))
theorem in_kX0_keepOldBits_X0 : ∀ w ∈ u_ws RX0 TX0 6, w ∈ wsX0_keepOldBits := by decide +kernel
theorem fl_kX0_keepOldBits_31 : Cond.fieldLink RX0 31 "SkewFind$Picture" "oldBits" "[I" ∈ wsX0_keepOldBits := by decide +kernel
abbrev rmX0_keepOldBits : Room := { frames := 1, cells := 0, slots := 0, locals := 21 }
set_option maxRecDepth 100000 in
set_option maxHeartbeats 4000000 in
theorem kX0_keepOldBits (l : Launch) (G : va_G) (cI cZ cJ cD : ClassId) (h0 q1 q2 w h : Nat) (hw : w ≤ 24) (hh : h ≤ 24) (B O : Nat → Int32)  : Cv l G (kTy cI cZ cJ cD) yX0_keepOldBits wsX0_keepOldBits rmX0_keepOldBits [.ref h0] [(h0, .inr (0, [.int (nI w), .int (nI h), .double (midF w), .double (midF h), .ref q1, .ref q2])), (q1, .inl (cI, 24, .inl B)), (q2, .inl (cI, 24, .inl O))] [(h0, .inr (0, [.int (nI w), .int (nI h), .double (midF w), .double (midF h), .ref q1, .ref q2])), (q1, .inl (cI, 24, .inl B)), (q2, .inl (cI, 24, .inl (mapN (fun k _ => B k) O 24)))] := by
  refine Cv.of rfl rfl (cc := cX0_keepOldBits) (maxL := 2) (plainFor_of_name (by decide)) rfl (Nat.le_of_ble_eq_true rfl) rfl ?_
  intro p e s m args below meth c A Q hx hb hml hts hown hA hK hP hD hS hend ls hl
  refine lv_iconst (v := 0) hx hb dX0_keepOldBits_0 (by decide) ?_
  refine lv_istore_n (lv' := [(1, .int 0), (0, .ref h0)]) hx hb dX0_keepOldBits_1 rfl hl (by decide) rfl (fun ls hl => ?_)
  have K2 : ∀ (n2 : Nat) (i : Nat), 24 - i < n2 → (i ≤ 24) → ∀ (H : Heap) (locs : List Loc), va_P G vwCl [(h0, .inr (0, [.int (nI w), .int (nI h), .double (midF w), .double (midF h), .ref q1, .ref q2])), (q1, .inl (cI, 24, .inl B)), (q2, .inl (cI, 24, .inl (mapN (fun k _ => B k) O i)))] H → va_D A [(h0, .inr (0, [.int (nI w), .int (nI h), .double (midF w), .double (midF h), .ref q1, .ref q2])), (q1, .inl (cI, 24, .inl B)), (q2, .inl (cI, 24, .inl (mapN (fun k _ => B k) O i)))] → va_S A s.heap H locs → ∀ ls : Array Slot, lv_has ls 2 [(0, .ref h0), (1, .int (nI i))] → W p l e rmX0_keepOldBits s m args below meth c H locs 0 0 Q (F0 m 2 ls []) := by
    intro n2
    induction n2 with
    | zero => intro i hn; exact absurd hn (by omega)
    | succ n2 ih2 =>
      intro i hn2 hi H locs hP hD hS ls hl
      refine lv_iload_n hx hb dX0_keepOldBits_2 rfl (lv_at hl 1 rfl) ?_
      refine lv_aload_n hx hb dX0_keepOldBits_3 rfl (lv_at hl 0 rfl) ?_
      refine va_get (D := G) (ci := 0) (v := .ref q2) (C := RX0) (T := TX0) (N := 6) hx hb hts in_kX0_keepOldBits_X0 hown hK hP 0 rfl rfl 5 (by decide) (hts _ fl_kX0_keepOldBits_31) (fun _ h9 => h9) rfl dX0_keepOldBits_4 ?_
      refine va_alen (v := nI 24) hx hb hK hP 2 0 rfl rfl rfl dX0_keepOldBits_7 ?_
      refine kGe (by omega) (by omega) (tgt := 28) hx hb dX0_keepOldBits_8 (by decide) (fun c_8 => ?_) (fun c_8 => ?_)
      · have e9 : 24 = i := by omega
        subst e9
        exact hend _ _ _ _ _ dX0_keepOldBits_28 hP hD hS rfl
      · refine lv_aload_n hx hb dX0_keepOldBits_11 rfl (lv_at hl 0 rfl) ?_
        refine va_get (D := G) (ci := 0) (v := .ref q2) (C := RX0) (T := TX0) (N := 6) hx hb hts in_kX0_keepOldBits_X0 hown hK hP 0 rfl rfl 5 (by decide) (hts _ fl_kX0_keepOldBits_31) (fun _ h9 => h9) rfl dX0_keepOldBits_12 ?_
        refine lv_iload_n hx hb dX0_keepOldBits_15 rfl (lv_at hl 1 rfl) ?_
        refine lv_aload_n hx hb dX0_keepOldBits_16 rfl (lv_at hl 0 rfl) ?_
        refine lv_iload_n hx hb dX0_keepOldBits_17 rfl (lv_at hl 1 rfl) ?_
        refine kVi (w' := [(h0, .inr (0, [.int (nI w), .int (nI h), .double (midF w), .double (midF h), .ref q1, .ref q2])), (q1, .inl (cI, 24, .inl B)), (q2, .inl (cI, 24, .inl (mapN (fun k _ => B k) O i)))]) (wr := []) (isC := [0, 1, 2]) (isR := []) (pm := [0, 1, 2]) (rest := [.int (nI i), .ref q2]) (kX0_rowBits l G cI cZ cJ cD h0 q1 q2 w h hw hh B (mapN (fun k _ => B k) O i) (nI i)) ⟨hx, hb, hml, hown, hts⟩ (cwV 1 hts gX0_keepOldBits_X0_rowBits rfl rfl rfl hd_X0_rowBits ⟨Nat.le_of_ble_eq_true rfl, Nat.le_of_ble_eq_true rfl⟩) hK hP hD hS hA ⟨rfl, rfl, rfl, by decide, rfl, rfl, rfl⟩ 0 0 rfl rfl rfl hl.1 rfl (Nat.le_of_ble_eq_true rfl) dX0_keepOldBits_18 ⟨Nat.le_of_ble_eq_true rfl, Nat.le_of_ble_eq_true rfl⟩ rfl rfl (fun H locs hP hD hS => ?_)
        refine kTopI (z := B i) (rowF_nI _ (by omega)) ?_
        refine va_iast hx hb hK hP hD hS 2 0 rfl rfl (vp_in_nI (by omega) (by omega)) dX0_keepOldBits_21 (fun H locs (hP : va_P G vwCl [(h0, .inr (0, [.int (nI w), .int (nI h), .double (midF w), .double (midF h), .ref q1, .ref q2])), (q1, .inl (cI, 24, .inl B)), (q2, .inl (cI, 24, .inl (upd (mapN (fun k _ => B k) O i) (nI i).toNatClampNeg (B i))))] H) (hD : va_D A [(h0, .inr (0, [.int (nI w), .int (nI h), .double (midF w), .double (midF h), .ref q1, .ref q2])), (q1, .inl (cI, 24, .inl B)), (q2, .inl (cI, 24, .inl (upd (mapN (fun k _ => B k) O i) (nI i).toNatClampNeg (B i))))]) hS => ?_)
        rw [nI_clamp (n := i) (by omega)] at hP hD
        have hE : upd (mapN (fun k _ => B k) O i) i (B i) = mapN (fun k _ => B k) O (i + 1) := mapN_s (fun k _ => B k) O i
        rw [hE] at hP hD
        refine lv_iinc (v := nI (i + 1)) (lv' := [(1, .int (nI (i + 1))), (0, .ref h0)]) hx hb dX0_keepOldBits_22 hl (k := 1) rfl (nI_1 _) (by decide) rfl (fun ls hl => ?_)
        refine lv_goto (tgt := 2) hx hb dX0_keepOldBits_25 (by decide) ?_
        exact ih2 (i + 1) (by omega) (by omega) _ _ hP hD hS _ (lv_sub hl [1, 0] rfl)
  rw [← mapN_0 (fun k _ => B k) O] at hP hD
  exact K2 (24 - 0 + 1) 0 (by omega) (by omega) _ _ hP hD hS _ (lv_sub hl [1, 0] rfl)
end
section
theorem smpN_t (w h : Nat) (O : Nat → Int32) (s c : UInt64) (y x : Nat) (e : smpB w h O s c x y = true) : smpN w h O s c y (x + 1) = smpN w h O s c y x ||| (1 <<< (nI x &&& 31)) := by simp only [smpN, e, if_true]
theorem smpN_f (w h : Nat) (O : Nat → Int32) (s c : UInt64) (y x : Nat) (e : smpB w h O s c x y = false) : smpN w h O s c y (x + 1) = smpN w h O s c y x := by simp only [smpN, e, Bool.false_eq_true, if_false]
theorem smpB_t {w h : Nat} {O : Nat → Int32} {s c : UInt64} {x y : Nat} (h1 : hasB w h (frX w h s c x y) (frY w h s c x y) = true) (h2 : ¬ sUshr (rowF O (frY w h s c x y)) (frX w h s c x y) &&& 1 = 0) : smpB w h O s c x y = true := by simp [smpB, h1, h2]
theorem smpB_f1 {w h : Nat} {O : Nat → Int32} {s c : UInt64} {x y : Nat} (h1 : hasB w h (frX w h s c x y) (frY w h s c x y) = false) : smpB w h O s c x y = false := by simp [smpB, h1]
theorem smpB_f2 {w h : Nat} {O : Nat → Int32} {s c : UInt64} {x y : Nat} (h1 : hasB w h (frX w h s c x y) (frY w h s c x y) = true) (h2 : sUshr (rowF O (frY w h s c x y)) (frX w h s c x y) &&& 1 = 0) : smpB w h O s c x y = false := by simp [smpB, h1, h2]
theorem fc_4611686018427387904 : fIv (131072) (131072) 4611686018427387904 := by unfold fIv; decide +kernel
theorem in_kX0_shearRows_X0 : ∀ w ∈ u_ws RX0 TX0 6, w ∈ wsX0_shearRows := by decide +kernel
theorem fl_kX0_shearRows_15 : Cond.fieldLink RX0 15 "SkewFind$Picture" "height" "I" ∈ wsX0_shearRows := by decide +kernel
theorem fl_kX0_shearRows_24 : Cond.fieldLink RX0 24 "SkewFind$Picture" "middleY" "D" ∈ wsX0_shearRows := by decide +kernel
abbrev rmX0_shearRows : Room := { frames := 3, cells := 0, slots := 0, locals := 66 }
set_option maxRecDepth 100000 in
set_option maxHeartbeats 4000000 in
theorem kX0_shearRows (l : Launch) (G : va_G) (cI cZ cJ cD : ClassId) (h0 q1 q2 w h : Nat) (hw : w ≤ 24) (hh : h ≤ 24) (B O : Nat → Int32) (t : UInt64) (ht : fIv (-23855) 23855 t) (dir : Int32) : Cv l G (kTy cI cZ cJ cD) yX0_shearRows wsX0_shearRows rmX0_shearRows [.ref h0, .double t, .int dir] [(h0, .inr (0, [.int (nI w), .int (nI h), .double (midF w), .double (midF h), .ref q1, .ref q2])), (q1, .inl (cI, 24, .inl B)), (q2, .inl (cI, 24, .inl O))] [(h0, .inr (0, [.int (nI w), .int (nI h), .double (midF w), .double (midF h), .ref q1, .ref q2])), (q1, .inl (cI, 24, .inl (shrR w h t dir B))), (q2, .inl (cI, 24, .inl O))] := by
  refine Cv.of rfl rfl (cc := cX0_shearRows) (maxL := 6) (plainFor_of_name (by decide)) rfl (Nat.le_of_ble_eq_true rfl) rfl ?_
  intro p e s m args below meth c A Q hx hb hml hts hown hA hK hP hD hS hend ls hl
  refine lv_iconst (v := 0) hx hb dX0_shearRows_0 (by decide) ?_
  refine lv_istore (lv' := [(4, .int 0), (0, .ref h0), (1, .double t), (3, .int dir)]) hx hb dX0_shearRows_1 hl (by decide) rfl (fun ls hl => ?_)
  have K3 : ∀ (n3 : Nat) (i : Nat), h - i < n3 → (i ≤ h) → ∀ (H : Heap) (locs : List Loc), va_P G vwCl [(h0, .inr (0, [.int (nI w), .int (nI h), .double (midF w), .double (midF h), .ref q1, .ref q2])), (q1, .inl (cI, 24, .inl (mapN (shrF w h t dir) B i))), (q2, .inl (cI, 24, .inl O))] H → va_D A [(h0, .inr (0, [.int (nI w), .int (nI h), .double (midF w), .double (midF h), .ref q1, .ref q2])), (q1, .inl (cI, 24, .inl (mapN (shrF w h t dir) B i))), (q2, .inl (cI, 24, .inl O))] → va_S A s.heap H locs → ∀ ls : Array Slot, lv_has ls 6 [(0, .ref h0), (1, .double t), (3, .int dir), (4, .int (nI i))] → W p l e rmX0_shearRows s m args below meth c H locs 0 0 Q (F0 m 3 ls []) := by
    intro n3
    induction n3 with
    | zero => intro i hn; exact absurd hn (by omega)
    | succ n3 ih3 =>
      intro i hn3 hi H locs hP hD hS ls hl
      refine lv_iload hx hb dX0_shearRows_3 (lv_at hl 3 rfl) ?_
      refine lv_aload_n hx hb dX0_shearRows_5 rfl (lv_at hl 0 rfl) ?_
      refine va_get (D := G) (ci := 0) (v := .int (nI h)) (C := RX0) (T := TX0) (N := 6) hx hb hts in_kX0_shearRows_X0 hown hK hP 0 rfl rfl 1 (by decide) (hts _ fl_kX0_shearRows_15) (fun _ h9 => h9) rfl dX0_shearRows_6 ?_
      refine kGe (by omega) (by omega) (tgt := 53) hx hb dX0_shearRows_9 (by decide) (fun c_9 => ?_) (fun c_9 => ?_)
      · have e9 : h = i := by omega
        subst e9
        exact hend _ _ _ _ _ dX0_shearRows_53 hP hD hS rfl
      · refine lv_iload_n hx hb dX0_shearRows_12 rfl (lv_at hl 2 rfl) ?_
        refine lv_aload_n hx hb dX0_shearRows_13 rfl (lv_at hl 0 rfl) ?_
        refine va_get (D := G) (ci := 0) (v := .double (midF h)) (C := RX0) (T := TX0) (N := 6) hx hb hts in_kX0_shearRows_X0 hown hK hP 0 rfl rfl 3 (by decide) (hts _ fl_kX0_shearRows_24) (fun _ h9 => h9) rfl dX0_shearRows_14 ?_
        refine lv_iload hx hb dX0_shearRows_17 (lv_at hl 3 rfl) ?_
        refine lv_i2d hx hb dX0_shearRows_19 ?_
        have b1 : fIv (-32768) (753664) (midF h) := fMid h (by omega)
        have b2 : fIv (0) (1572864) (FP.i2d (nI i)) := fIvN (k := 24) (by omega) (by omega)
        have b3 : fIv (-1605632) (753664) (FP.dsub (midF h) (FP.i2d (nI i))) := fSub b1 b2 (by decide +kernel) (by decide +kernel) (by decide +kernel) (by decide +kernel)
        refine lv_dsub hx hb dX0_shearRows_20 b3.n64 ?_
        refine lv_dload_n hx hb dX0_shearRows_21 rfl (lv_at hl 1 rfl) ?_
        have b4 : fIv (-584448) (584448) (FP.dmul (FP.dsub (midF h) (FP.i2d (nI i))) t) := fIv.mul (n := 1605632) (m := 23855) (k := 584448) (b3.weak (by decide +kernel) (by decide +kernel) (by decide +kernel) (by decide +kernel)) ht (by decide +kernel) (by decide +kernel)
        refine lv_dmul hx hb dX0_shearRows_22 b4.n64 ?_
        have b5 : fIv (-551680) (617216) (FP.dadd (FP.dmul (FP.dsub (midF h) (FP.i2d (nI i))) t) 4602678819172646912) := fAdd b4 fHalf (by decide +kernel) (by decide +kernel) (by decide +kernel) (by decide +kernel)
        refine kSi (rest := [.int dir]) (kX1_whole l G cI cZ cJ cD (FP.dmul (FP.dsub (midF h) (FP.i2d (nI i))) t) (-551680) (617216) b5) ⟨hx, hb, hml, hown, hts⟩ (va_cwS 1 hts gX0_shearRows_X1_whole rfl rfl rfl hs_X1_whole ⟨Nat.le_of_ble_eq_true rfl, Nat.le_of_ble_eq_true rfl⟩) hK hP hD hS hA rfl hl.1 rfl (Nat.le_of_ble_eq_true rfl) dX0_shearRows_23 ⟨Nat.le_of_ble_eq_true rfl, Nat.le_of_ble_eq_true rfl⟩ rfl rfl (fun H locs hP hD hS => ?_)
        refine lv_imul hx hb dX0_shearRows_26 ?_
        refine lv_istore (lv' := [(5, .int (dir * (wholeF (FP.dmul (FP.dsub (midF h) (FP.i2d (nI i))) t)))), (0, .ref h0), (1, .double t), (3, .int dir), (4, .int (nI i))]) hx hb dX0_shearRows_27 hl (by decide) rfl (fun ls hl => ?_)
        refine lv_aload_n hx hb dX0_shearRows_29 rfl (lv_at hl 1 rfl) ?_
        refine lv_iload hx hb dX0_shearRows_30 (lv_at hl 4 rfl) ?_
        refine lv_aload_n hx hb dX0_shearRows_32 rfl (lv_at hl 1 rfl) ?_
        refine lv_aload_n hx hb dX0_shearRows_33 rfl (lv_at hl 1 rfl) ?_
        refine lv_iload hx hb dX0_shearRows_34 (lv_at hl 4 rfl) ?_
        refine kVi (w' := [(h0, .inr (0, [.int (nI w), .int (nI h), .double (midF w), .double (midF h), .ref q1, .ref q2])), (q1, .inl (cI, 24, .inl (mapN (shrF w h t dir) B i))), (q2, .inl (cI, 24, .inl O))]) (wr := []) (isC := [0, 1, 2]) (isR := []) (pm := [0, 1, 2]) (rest := [.ref h0, .int (nI i), .ref h0]) (kX0_rowBits l G cI cZ cJ cD h0 q1 q2 w h hw hh (mapN (shrF w h t dir) B i) O (nI i)) ⟨hx, hb, hml, hown, hts⟩ (cwV 1 hts gX0_shearRows_X0_rowBits rfl rfl rfl hd_X0_rowBits ⟨Nat.le_of_ble_eq_true rfl, Nat.le_of_ble_eq_true rfl⟩) hK hP hD hS hA ⟨rfl, rfl, rfl, by decide, rfl, rfl, rfl⟩ 0 0 rfl rfl rfl hl.1 rfl (Nat.le_of_ble_eq_true rfl) dX0_shearRows_36 ⟨Nat.le_of_ble_eq_true rfl, Nat.le_of_ble_eq_true rfl⟩ rfl rfl (fun H locs hP hD hS => ?_)
        refine kTopI (z := B i) ((rowF_nI _ (by omega)).trans (mapN_at _ _ _)) ?_
        refine lv_iload hx hb dX0_shearRows_39 (lv_at hl 0 rfl) ?_
        refine kVi (w' := [(h0, .inr (0, [.int (nI w), .int (nI h), .double (midF w), .double (midF h), .ref q1, .ref q2])), (q1, .inl (cI, 24, .inl (mapN (shrF w h t dir) B i))), (q2, .inl (cI, 24, .inl O))]) (wr := []) (isC := [0, 1, 2]) (isR := []) (pm := [0, 1, 2]) (rest := [.int (nI i), .ref h0]) (kX0_movedRight l G cI cZ cJ cD h0 q1 q2 w h hw hh (mapN (shrF w h t dir) B i) O (B i) (dir * (wholeF (FP.dmul (FP.dsub (midF h) (FP.i2d (nI i))) t)))) ⟨hx, hb, hml, hown, hts⟩ (cwV 2 hts gX0_shearRows_X0_movedRight rfl rfl rfl hd_X0_movedRight ⟨Nat.le_of_ble_eq_true rfl, Nat.le_of_ble_eq_true rfl⟩) hK hP hD hS hA ⟨rfl, rfl, rfl, by decide, rfl, rfl, rfl⟩ 0 0 rfl rfl rfl hl.1 rfl (Nat.le_of_ble_eq_true rfl) dX0_shearRows_41 ⟨Nat.le_of_ble_eq_true rfl, Nat.le_of_ble_eq_true rfl⟩ rfl rfl (fun H locs hP hD hS => ?_)
        refine kVv (w' := [(h0, .inr (0, [.int (nI w), .int (nI h), .double (midF w), .double (midF h), .ref q1, .ref q2])), (q1, .inl (cI, 24, .inl (setF (mapN (shrF w h t dir) B i) (nI i) (movF w (B i) (dir * (wholeF (FP.dmul (FP.dsub (midF h) (FP.i2d (nI i))) t))))))), (q2, .inl (cI, 24, .inl O))]) (wr := []) (isC := [0, 1, 2]) (isR := []) (pm := [0, 1, 2]) (rest := []) (kX0_setRowBits l G cI cZ cJ cD h0 q1 q2 w h hw hh (mapN (shrF w h t dir) B i) O (nI i) (movF w (B i) (dir * (wholeF (FP.dmul (FP.dsub (midF h) (FP.i2d (nI i))) t))))) ⟨hx, hb, hml, hown, hts⟩ (cwV 2 hts gX0_shearRows_X0_setRowBits rfl rfl rfl hd_X0_setRowBits ⟨Nat.le_of_ble_eq_true rfl, Nat.le_of_ble_eq_true rfl⟩) hK hP hD hS hA ⟨rfl, rfl, rfl, by decide, rfl, rfl, rfl⟩ 0 0 rfl rfl rfl hl.1 rfl (Nat.le_of_ble_eq_true rfl) dX0_shearRows_44 ⟨Nat.le_of_ble_eq_true rfl, Nat.le_of_ble_eq_true rfl⟩ rfl rfl (fun H locs hP hD hS => ?_)
        have hE : setF (mapN (shrF w h t dir) B i) (nI i) (movF w (B i) (dir * (wholeF (FP.dmul (FP.dsub (midF h) (FP.i2d (nI i))) t)))) = upd (mapN (shrF w h t dir) B i) i (shrF w h t dir i (B i)) := setF_nI _ _ (by omega)
        rw [hE] at hP hD
        have hE : upd (mapN (shrF w h t dir) B i) i (shrF w h t dir i (B i)) = mapN (shrF w h t dir) B (i + 1) := mapN_s _ _ _
        rw [hE] at hP hD
        refine lv_iinc (v := nI (i + 1)) (lv' := [(4, .int (nI (i + 1))), (5, .int (dir * (wholeF (FP.dmul (FP.dsub (midF h) (FP.i2d (nI i))) t)))), (0, .ref h0), (1, .double t), (3, .int dir)]) hx hb dX0_shearRows_47 hl (k := 4) rfl (nI_1 _) (by decide) rfl (fun ls hl => ?_)
        refine lv_goto (tgt := 3) hx hb dX0_shearRows_50 (by decide) ?_
        exact ih3 (i + 1) (by omega) (by omega) _ _ hP hD hS _ (lv_sub hl [2, 3, 4, 0] rfl)
  rw [← mapN_0 (shrF w h t dir) B] at hP hD
  exact K3 (h - 0 + 1) 0 (by omega) (by omega) _ _ hP hD hS _ (lv_sub hl [1, 2, 3, 0] rfl)
theorem in_kX0_shearColumns_X0 : ∀ w ∈ u_ws RX0 TX0 6, w ∈ wsX0_shearColumns := by decide +kernel
theorem fl_kX0_shearColumns_9 : Cond.fieldLink RX0 9 "SkewFind$Picture" "width" "I" ∈ wsX0_shearColumns := by decide +kernel
theorem fl_kX0_shearColumns_20 : Cond.fieldLink RX0 20 "SkewFind$Picture" "middleX" "D" ∈ wsX0_shearColumns := by decide +kernel
theorem fl_kX0_shearColumns_15 : Cond.fieldLink RX0 15 "SkewFind$Picture" "height" "I" ∈ wsX0_shearColumns := by decide +kernel
abbrev rmX0_shearColumns : Room := { frames := 2, cells := 0, slots := 0, locals := 43 }
set_option maxRecDepth 100000 in
set_option maxHeartbeats 4000000 in
theorem kX0_shearColumns (l : Launch) (G : va_G) (cI cZ cJ cD : ClassId) (h0 q1 q2 w h : Nat) (hw : w ≤ 24) (hh : h ≤ 24) (B O : Nat → Int32) (s0 : UInt64) (hs : fIv (-23855) 23855 s0) (dir : Int32) : Cv l G (kTy cI cZ cJ cD) yX0_shearColumns wsX0_shearColumns rmX0_shearColumns [.ref h0, .double s0, .int dir] [(h0, .inr (0, [.int (nI w), .int (nI h), .double (midF w), .double (midF h), .ref q1, .ref q2])), (q1, .inl (cI, 24, .inl B)), (q2, .inl (cI, 24, .inl O))] [(h0, .inr (0, [.int (nI w), .int (nI h), .double (midF w), .double (midF h), .ref q1, .ref q2])), (q1, .inl (cI, 24, .inl (shrC w h s0 dir B O))), (q2, .inl (cI, 24, .inl (keepN B O)))] := by
  refine Cv.of rfl rfl (cc := cX0_shearColumns) (maxL := 8) (plainFor_of_name (by decide)) rfl (Nat.le_of_ble_eq_true rfl) rfl ?_
  intro p e s m args below meth c A Q hx hb hml hts hown hA hK hP hD hS hend ls hl
  refine lv_aload_n hx hb dX0_shearColumns_0 rfl (lv_at hl 0 rfl) ?_
  refine kVv (w' := [(h0, .inr (0, [.int (nI w), .int (nI h), .double (midF w), .double (midF h), .ref q1, .ref q2])), (q1, .inl (cI, 24, .inl B)), (q2, .inl (cI, 24, .inl (mapN (fun k _ => B k) O 24)))]) (wr := []) (isC := [0, 1, 2]) (isR := []) (pm := [0, 1, 2]) (rest := []) (kX0_keepOldBits l G cI cZ cJ cD h0 q1 q2 w h hw hh B O ) ⟨hx, hb, hml, hown, hts⟩ (cwV 0 hts gX0_shearColumns_X0_keepOldBits rfl rfl rfl hd_X0_keepOldBits ⟨Nat.le_of_ble_eq_true rfl, Nat.le_of_ble_eq_true rfl⟩) hK hP hD hS hA ⟨rfl, rfl, rfl, by decide, rfl, rfl, rfl⟩ 0 0 rfl rfl rfl hl.1 rfl (Nat.le_of_ble_eq_true rfl) dX0_shearColumns_1 ⟨Nat.le_of_ble_eq_true rfl, Nat.le_of_ble_eq_true rfl⟩ rfl rfl (fun H locs hP hD hS => ?_)
  refine lv_aload_n hx hb dX0_shearColumns_4 rfl (lv_at hl 0 rfl) ?_
  refine kVv (w' := [(h0, .inr (0, [.int (nI w), .int (nI h), .double (midF w), .double (midF h), .ref q1, .ref q2])), (q1, .inl (cI, 24, .inl (mapN (fun _ _ => 0) B h))), (q2, .inl (cI, 24, .inl (mapN (fun k _ => B k) O 24)))]) (wr := []) (isC := [0, 1, 2]) (isR := []) (pm := [0, 1, 2]) (rest := []) (kX0_wipe l G cI cZ cJ cD h0 q1 q2 w h hw hh B (mapN (fun k _ => B k) O 24) ) ⟨hx, hb, hml, hown, hts⟩ (cwV 0 hts gX0_shearColumns_X0_wipe rfl rfl rfl hd_X0_wipe ⟨Nat.le_of_ble_eq_true rfl, Nat.le_of_ble_eq_true rfl⟩) hK hP hD hS hA ⟨rfl, rfl, rfl, by decide, rfl, rfl, rfl⟩ 0 0 rfl rfl rfl hl.1 rfl (Nat.le_of_ble_eq_true rfl) dX0_shearColumns_5 ⟨Nat.le_of_ble_eq_true rfl, Nat.le_of_ble_eq_true rfl⟩ rfl rfl (fun H locs hP hD hS => ?_)
  refine lv_iconst (v := 0) hx hb dX0_shearColumns_8 (by decide) ?_
  refine lv_istore (lv' := [(4, .int 0), (0, .ref h0), (1, .double s0), (3, .int dir)]) hx hb dX0_shearColumns_9 hl (by decide) rfl (fun ls hl => ?_)
  have K11 : ∀ (n11 : Nat) (i : Nat), w - i < n11 → (i ≤ w) → ∀ (H : Heap) (locs : List Loc), va_P G vwCl [(h0, .inr (0, [.int (nI w), .int (nI h), .double (midF w), .double (midF h), .ref q1, .ref q2])), (q1, .inl (cI, 24, .inl (colsN w h (keepN B O) s0 dir (wipeN B h) i))), (q2, .inl (cI, 24, .inl (keepN B O)))] H → va_D A [(h0, .inr (0, [.int (nI w), .int (nI h), .double (midF w), .double (midF h), .ref q1, .ref q2])), (q1, .inl (cI, 24, .inl (colsN w h (keepN B O) s0 dir (wipeN B h) i))), (q2, .inl (cI, 24, .inl (keepN B O)))] → va_S A s.heap H locs → ∀ ls : Array Slot, lv_has ls 8 [(0, .ref h0), (1, .double s0), (3, .int dir), (4, .int (nI i))] → W p l e rmX0_shearColumns s m args below meth c H locs 0 0 Q (F0 m 11 ls []) := by
    intro n11
    induction n11 with
    | zero => intro i hn; exact absurd hn (by omega)
    | succ n11 ih11 =>
      intro i hn11 hi H locs hP hD hS ls hl
      refine lv_iload hx hb dX0_shearColumns_11 (lv_at hl 3 rfl) ?_
      refine lv_aload_n hx hb dX0_shearColumns_13 rfl (lv_at hl 0 rfl) ?_
      refine va_get (D := G) (ci := 0) (v := .int (nI w)) (C := RX0) (T := TX0) (N := 6) hx hb hts in_kX0_shearColumns_X0 hown hK hP 0 rfl rfl 0 (by decide) (hts _ fl_kX0_shearColumns_9) (fun _ h9 => h9) rfl dX0_shearColumns_14 ?_
      refine kGe (by omega) (by omega) (tgt := 99) hx hb dX0_shearColumns_17 (by decide) (fun c_17 => ?_) (fun c_17 => ?_)
      · have e9 : w = i := by omega
        subst e9
        exact hend _ _ _ _ _ dX0_shearColumns_99 hP hD hS rfl
      · refine lv_iload_n hx hb dX0_shearColumns_20 rfl (lv_at hl 2 rfl) ?_
        refine lv_iload hx hb dX0_shearColumns_21 (lv_at hl 3 rfl) ?_
        refine lv_i2d hx hb dX0_shearColumns_23 ?_
        refine lv_aload_n hx hb dX0_shearColumns_24 rfl (lv_at hl 0 rfl) ?_
        refine va_get (D := G) (ci := 0) (v := .double (midF w)) (C := RX0) (T := TX0) (N := 6) hx hb hts in_kX0_shearColumns_X0 hown hK hP 0 rfl rfl 2 (by decide) (hts _ fl_kX0_shearColumns_20) (fun _ h9 => h9) rfl dX0_shearColumns_25 ?_
        have b1 : fIv (0) (1572864) (FP.i2d (nI i)) := fIvN (k := 24) (by omega) (by omega)
        have b2 : fIv (-32768) (753664) (midF w) := fMid w (by omega)
        have b3 : fIv (-753664) (1605632) (FP.dsub (FP.i2d (nI i)) (midF w)) := fSub b1 b2 (by decide +kernel) (by decide +kernel) (by decide +kernel) (by decide +kernel)
        refine lv_dsub hx hb dX0_shearColumns_28 b3.n64 ?_
        refine lv_dload_n hx hb dX0_shearColumns_29 rfl (lv_at hl 1 rfl) ?_
        have b4 : fIv (-584448) (584448) (FP.dmul (FP.dsub (FP.i2d (nI i)) (midF w)) s0) := fIv.mul (n := 1605632) (m := 23855) (k := 584448) (b3.weak (by decide +kernel) (by decide +kernel) (by decide +kernel) (by decide +kernel)) hs (by decide +kernel) (by decide +kernel)
        refine lv_dmul hx hb dX0_shearColumns_30 b4.n64 ?_
        have b5 : fIv (-551680) (617216) (FP.dadd (FP.dmul (FP.dsub (FP.i2d (nI i)) (midF w)) s0) 4602678819172646912) := fAdd b4 fHalf (by decide +kernel) (by decide +kernel) (by decide +kernel) (by decide +kernel)
        refine kSi (rest := [.int dir]) (kX1_whole l G cI cZ cJ cD (FP.dmul (FP.dsub (FP.i2d (nI i)) (midF w)) s0) (-551680) (617216) b5) ⟨hx, hb, hml, hown, hts⟩ (va_cwS 1 hts gX0_shearColumns_X1_whole rfl rfl rfl hs_X1_whole ⟨Nat.le_of_ble_eq_true rfl, Nat.le_of_ble_eq_true rfl⟩) hK hP hD hS hA rfl hl.1 rfl (Nat.le_of_ble_eq_true rfl) dX0_shearColumns_31 ⟨Nat.le_of_ble_eq_true rfl, Nat.le_of_ble_eq_true rfl⟩ rfl rfl (fun H locs hP hD hS => ?_)
        refine lv_imul hx hb dX0_shearColumns_34 ?_
        refine lv_istore (lv' := [(5, .int (dir * (wholeF (FP.dmul (FP.dsub (FP.i2d (nI i)) (midF w)) s0)))), (0, .ref h0), (1, .double s0), (3, .int dir), (4, .int (nI i))]) hx hb dX0_shearColumns_35 hl (by decide) rfl (fun ls hl => ?_)
        refine lv_iconst (v := 0) hx hb dX0_shearColumns_37 (by decide) ?_
        refine lv_istore (lv' := [(6, .int 0), (5, .int (dir * (wholeF (FP.dmul (FP.dsub (FP.i2d (nI i)) (midF w)) s0)))), (0, .ref h0), (1, .double s0), (3, .int dir), (4, .int (nI i))]) hx hb dX0_shearColumns_38 hl (by decide) rfl (fun ls hl => ?_)
        have K40 : ∀ (n40 : Nat) (j : Nat), h - j < n40 → (j ≤ h) → ∀ (H : Heap) (locs : List Loc), va_P G vwCl [(h0, .inr (0, [.int (nI w), .int (nI h), .double (midF w), .double (midF h), .ref q1, .ref q2])), (q1, .inl (cI, 24, .inl (colN h (keepN B O) i (dir * wholeF (FP.dmul (FP.dsub (FP.i2d (nI i)) (midF w)) s0)) (colsN w h (keepN B O) s0 dir (wipeN B h) i) j))), (q2, .inl (cI, 24, .inl (keepN B O)))] H → va_D A [(h0, .inr (0, [.int (nI w), .int (nI h), .double (midF w), .double (midF h), .ref q1, .ref q2])), (q1, .inl (cI, 24, .inl (colN h (keepN B O) i (dir * wholeF (FP.dmul (FP.dsub (FP.i2d (nI i)) (midF w)) s0)) (colsN w h (keepN B O) s0 dir (wipeN B h) i) j))), (q2, .inl (cI, 24, .inl (keepN B O)))] → va_S A s.heap H locs → ∀ ls : Array Slot, lv_has ls 8 [(0, .ref h0), (1, .double s0), (3, .int dir), (4, .int (nI i)), (5, .int (dir * wholeF (FP.dmul (FP.dsub (FP.i2d (nI i)) (midF w)) s0))), (6, .int (nI j))] → W p l e rmX0_shearColumns s m args below meth c H locs 0 0 Q (F0 m 40 ls []) := by
          intro n40
          induction n40 with
          | zero => intro j hn; exact absurd hn (by omega)
          | succ n40 ih40 =>
            intro j hn40 hj H locs hP hD hS ls hl
            refine lv_iload hx hb dX0_shearColumns_40 (lv_at hl 5 rfl) ?_
            refine lv_aload_n hx hb dX0_shearColumns_42 rfl (lv_at hl 0 rfl) ?_
            refine va_get (D := G) (ci := 0) (v := .int (nI h)) (C := RX0) (T := TX0) (N := 6) hx hb hts in_kX0_shearColumns_X0 hown hK hP 0 rfl rfl 1 (by decide) (hts _ fl_kX0_shearColumns_15) (fun _ h9 => h9) rfl dX0_shearColumns_43 ?_
            refine kGe (by omega) (by omega) (tgt := 93) hx hb dX0_shearColumns_46 (by decide) (fun c_46 => ?_) (fun c_46 => ?_)
            · have e9 : h = j := by omega
              subst e9
              refine lv_iinc (v := nI (i + 1)) (lv' := [(4, .int (nI (i + 1))), (0, .ref h0), (1, .double s0), (3, .int dir), (5, .int (dir * wholeF (FP.dmul (FP.dsub (FP.i2d (nI i)) (midF w)) s0))), (6, .int (nI h))]) hx hb dX0_shearColumns_93 hl (k := 3) rfl (nI_1 _) (by decide) rfl (fun ls hl => ?_)
              refine lv_goto (tgt := 11) hx hb dX0_shearColumns_96 (by decide) ?_
              exact ih11 (i + 1) (by omega) (by omega) _ _ hP hD hS _ (lv_sub hl [1, 2, 3, 0] rfl)
            · refine lv_iload hx hb dX0_shearColumns_49 (lv_at hl 5 rfl) ?_
              refine lv_iload hx hb dX0_shearColumns_51 (lv_at hl 4 rfl) ?_
              refine lv_iadd hx hb dX0_shearColumns_53 ?_
              refine lv_aload_n hx hb dX0_shearColumns_54 rfl (lv_at hl 0 rfl) ?_
              refine va_get (D := G) (ci := 0) (v := .int (nI h)) (C := RX0) (T := TX0) (N := 6) hx hb hts in_kX0_shearColumns_X0 hown hK hP 0 rfl rfl 1 (by decide) (hts _ fl_kX0_shearColumns_15) (fun _ h9 => h9) rfl dX0_shearColumns_55 ?_
              refine kSi (rest := []) (kX1_wrapped l G cI cZ cJ cD ((nI j) + (dir * wholeF (FP.dmul (FP.dsub (FP.i2d (nI i)) (midF w)) s0))) (nI h)) ⟨hx, hb, hml, hown, hts⟩ (va_cwS 2 hts gX0_shearColumns_X1_wrapped rfl rfl rfl hs_X1_wrapped ⟨Nat.le_of_ble_eq_true rfl, Nat.le_of_ble_eq_true rfl⟩) hK hP hD hS hA rfl hl.1 rfl (Nat.le_of_ble_eq_true rfl) dX0_shearColumns_58 ⟨Nat.le_of_ble_eq_true rfl, Nat.le_of_ble_eq_true rfl⟩ rfl rfl (fun H locs hP hD hS => ?_)
              refine lv_istore (lv' := [(7, .int (wrapF ((nI j) + (dir * wholeF (FP.dmul (FP.dsub (FP.i2d (nI i)) (midF w)) s0))) (nI h))), (0, .ref h0), (1, .double s0), (3, .int dir), (4, .int (nI i)), (5, .int (dir * wholeF (FP.dmul (FP.dsub (FP.i2d (nI i)) (midF w)) s0))), (6, .int (nI j))]) hx hb dX0_shearColumns_61 hl (by decide) rfl (fun ls hl => ?_)
              refine lv_aload_n hx hb dX0_shearColumns_63 rfl (lv_at hl 1 rfl) ?_
              refine lv_iload hx hb dX0_shearColumns_64 (lv_at hl 0 rfl) ?_
              refine lv_aload_n hx hb dX0_shearColumns_66 rfl (lv_at hl 1 rfl) ?_
              refine lv_iload hx hb dX0_shearColumns_67 (lv_at hl 0 rfl) ?_
              refine kVi (w' := [(h0, .inr (0, [.int (nI w), .int (nI h), .double (midF w), .double (midF h), .ref q1, .ref q2])), (q1, .inl (cI, 24, .inl (colN h (keepN B O) i (dir * wholeF (FP.dmul (FP.dsub (FP.i2d (nI i)) (midF w)) s0)) (colsN w h (keepN B O) s0 dir (wipeN B h) i) j))), (q2, .inl (cI, 24, .inl (keepN B O)))]) (wr := []) (isC := [0, 1, 2]) (isR := []) (pm := [0, 1, 2]) (rest := [.int (wrapF ((nI j) + (dir * wholeF (FP.dmul (FP.dsub (FP.i2d (nI i)) (midF w)) s0))) (nI h)), .ref h0]) (kX0_rowBits l G cI cZ cJ cD h0 q1 q2 w h hw hh (colN h (keepN B O) i (dir * wholeF (FP.dmul (FP.dsub (FP.i2d (nI i)) (midF w)) s0)) (colsN w h (keepN B O) s0 dir (wipeN B h) i) j) (keepN B O) (wrapF ((nI j) + (dir * wholeF (FP.dmul (FP.dsub (FP.i2d (nI i)) (midF w)) s0))) (nI h))) ⟨hx, hb, hml, hown, hts⟩ (cwV 1 hts gX0_shearColumns_X0_rowBits rfl rfl rfl hd_X0_rowBits ⟨Nat.le_of_ble_eq_true rfl, Nat.le_of_ble_eq_true rfl⟩) hK hP hD hS hA ⟨rfl, rfl, rfl, by decide, rfl, rfl, rfl⟩ 0 0 rfl rfl rfl hl.1 rfl (Nat.le_of_ble_eq_true rfl) dX0_shearColumns_69 ⟨Nat.le_of_ble_eq_true rfl, Nat.le_of_ble_eq_true rfl⟩ rfl rfl (fun H locs hP hD hS => ?_)
              refine lv_aload_n hx hb dX0_shearColumns_72 rfl (lv_at hl 1 rfl) ?_
              refine lv_iload hx hb dX0_shearColumns_73 (lv_at hl 6 rfl) ?_
              refine kVi (w' := [(h0, .inr (0, [.int (nI w), .int (nI h), .double (midF w), .double (midF h), .ref q1, .ref q2])), (q1, .inl (cI, 24, .inl (colN h (keepN B O) i (dir * wholeF (FP.dmul (FP.dsub (FP.i2d (nI i)) (midF w)) s0)) (colsN w h (keepN B O) s0 dir (wipeN B h) i) j))), (q2, .inl (cI, 24, .inl (keepN B O)))]) (wr := []) (isC := [0, 1, 2]) (isR := []) (pm := [0, 1, 2]) (rest := [.int (rowF (colN h (keepN B O) i (dir * wholeF (FP.dmul (FP.dsub (FP.i2d (nI i)) (midF w)) s0)) (colsN w h (keepN B O) s0 dir (wipeN B h) i) j) (wrapF ((nI j) + (dir * wholeF (FP.dmul (FP.dsub (FP.i2d (nI i)) (midF w)) s0))) (nI h))), .int (wrapF ((nI j) + (dir * wholeF (FP.dmul (FP.dsub (FP.i2d (nI i)) (midF w)) s0))) (nI h)), .ref h0]) (kX0_oldRowBits l G cI cZ cJ cD h0 q1 q2 w h hw hh (colN h (keepN B O) i (dir * wholeF (FP.dmul (FP.dsub (FP.i2d (nI i)) (midF w)) s0)) (colsN w h (keepN B O) s0 dir (wipeN B h) i) j) (keepN B O) (nI j)) ⟨hx, hb, hml, hown, hts⟩ (cwV 1 hts gX0_shearColumns_X0_oldRowBits rfl rfl rfl hd_X0_oldRowBits ⟨Nat.le_of_ble_eq_true rfl, Nat.le_of_ble_eq_true rfl⟩) hK hP hD hS hA ⟨rfl, rfl, rfl, by decide, rfl, rfl, rfl⟩ 0 0 rfl rfl rfl hl.1 rfl (Nat.le_of_ble_eq_true rfl) dX0_shearColumns_75 ⟨Nat.le_of_ble_eq_true rfl, Nat.le_of_ble_eq_true rfl⟩ rfl rfl (fun H locs hP hD hS => ?_)
              refine lv_iconst (v := 1) hx hb dX0_shearColumns_78 (by decide) ?_
              refine lv_iload hx hb dX0_shearColumns_79 (lv_at hl 4 rfl) ?_
              refine lv_ishl hx hb dX0_shearColumns_81 ?_
              refine lv_iand hx hb dX0_shearColumns_82 ?_
              refine lv_ior hx hb dX0_shearColumns_83 ?_
              refine kVv (w' := [(h0, .inr (0, [.int (nI w), .int (nI h), .double (midF w), .double (midF h), .ref q1, .ref q2])), (q1, .inl (cI, 24, .inl (setF (colN h (keepN B O) i (dir * wholeF (FP.dmul (FP.dsub (FP.i2d (nI i)) (midF w)) s0)) (colsN w h (keepN B O) s0 dir (wipeN B h) i) j) (wrapF ((nI j) + (dir * wholeF (FP.dmul (FP.dsub (FP.i2d (nI i)) (midF w)) s0))) (nI h)) ((rowF (colN h (keepN B O) i (dir * wholeF (FP.dmul (FP.dsub (FP.i2d (nI i)) (midF w)) s0)) (colsN w h (keepN B O) s0 dir (wipeN B h) i) j) (wrapF ((nI j) + (dir * wholeF (FP.dmul (FP.dsub (FP.i2d (nI i)) (midF w)) s0))) (nI h))) ||| ((rowF (keepN B O) (nI j)) &&& (1 <<< ((nI i) &&& 31))))))), (q2, .inl (cI, 24, .inl (keepN B O)))]) (wr := []) (isC := [0, 1, 2]) (isR := []) (pm := [0, 1, 2]) (rest := []) (kX0_setRowBits l G cI cZ cJ cD h0 q1 q2 w h hw hh (colN h (keepN B O) i (dir * wholeF (FP.dmul (FP.dsub (FP.i2d (nI i)) (midF w)) s0)) (colsN w h (keepN B O) s0 dir (wipeN B h) i) j) (keepN B O) (wrapF ((nI j) + (dir * wholeF (FP.dmul (FP.dsub (FP.i2d (nI i)) (midF w)) s0))) (nI h)) ((rowF (colN h (keepN B O) i (dir * wholeF (FP.dmul (FP.dsub (FP.i2d (nI i)) (midF w)) s0)) (colsN w h (keepN B O) s0 dir (wipeN B h) i) j) (wrapF ((nI j) + (dir * wholeF (FP.dmul (FP.dsub (FP.i2d (nI i)) (midF w)) s0))) (nI h))) ||| ((rowF (keepN B O) (nI j)) &&& (1 <<< ((nI i) &&& 31))))) ⟨hx, hb, hml, hown, hts⟩ (cwV 2 hts gX0_shearColumns_X0_setRowBits rfl rfl rfl hd_X0_setRowBits ⟨Nat.le_of_ble_eq_true rfl, Nat.le_of_ble_eq_true rfl⟩) hK hP hD hS hA ⟨rfl, rfl, rfl, by decide, rfl, rfl, rfl⟩ 0 0 rfl rfl rfl hl.1 rfl (Nat.le_of_ble_eq_true rfl) dX0_shearColumns_84 ⟨Nat.le_of_ble_eq_true rfl, Nat.le_of_ble_eq_true rfl⟩ rfl rfl (fun H locs hP hD hS => ?_)
              refine lv_iinc (v := nI (j + 1)) (lv' := [(6, .int (nI (j + 1))), (7, .int (wrapF ((nI j) + (dir * wholeF (FP.dmul (FP.dsub (FP.i2d (nI i)) (midF w)) s0))) (nI h))), (0, .ref h0), (1, .double s0), (3, .int dir), (4, .int (nI i)), (5, .int (dir * wholeF (FP.dmul (FP.dsub (FP.i2d (nI i)) (midF w)) s0)))]) hx hb dX0_shearColumns_87 hl (k := 6) rfl (nI_1 _) (by decide) rfl (fun ls hl => ?_)
              refine lv_goto (tgt := 40) hx hb dX0_shearColumns_90 (by decide) ?_
              exact ih40 (j + 1) (by omega) (by omega) _ _ hP hD hS _ (lv_sub hl [2, 3, 4, 5, 6, 0] rfl)
        exact K40 (h - 0 + 1) 0 (by omega) (by omega) _ _ hP hD hS _ (lv_sub hl [2, 3, 4, 5, 1, 0] rfl)
  exact K11 (w - 0 + 1) 0 (by omega) (by omega) _ _ hP hD hS _ (lv_sub hl [1, 2, 3, 0] rfl)
theorem in_kX0_sampledRow_X0 : ∀ w ∈ u_ws RX0 TX0 6, w ∈ wsX0_sampledRow := by decide +kernel
theorem fl_kX0_sampledRow_9 : Cond.fieldLink RX0 9 "SkewFind$Picture" "width" "I" ∈ wsX0_sampledRow := by decide +kernel
theorem fl_kX0_sampledRow_20 : Cond.fieldLink RX0 20 "SkewFind$Picture" "middleX" "D" ∈ wsX0_sampledRow := by decide +kernel
theorem fl_kX0_sampledRow_24 : Cond.fieldLink RX0 24 "SkewFind$Picture" "middleY" "D" ∈ wsX0_sampledRow := by decide +kernel
abbrev rmX0_sampledRow : Room := { frames := 1, cells := 0, slots := 0, locals := 24 }
set_option maxRecDepth 100000 in
set_option maxHeartbeats 4000000 in
theorem kX0_sampledRow (l : Launch) (G : va_G) (cI cZ cJ cD : ClassId) (h0 q1 q2 w h : Nat) (hw : w ≤ 24) (hh : h ≤ 24) (B O : Nat → Int32) (y : Nat) (hy : y ≤ 24) (s0 : UInt64) (hs : fIv (-23855) 23855 s0) (c0 : UInt64) (hc : fIv (61502) 69570 c0) : Ci l G (kTy cI cZ cJ cD) yX0_sampledRow wsX0_sampledRow rmX0_sampledRow [.ref h0, .int (nI y), .double s0, .double c0] [(h0, .inr (0, [.int (nI w), .int (nI h), .double (midF w), .double (midF h), .ref q1, .ref q2])), (q1, .inl (cI, 24, .inl B)), (q2, .inl (cI, 24, .inl O))] (smpN w h O s0 c0 y w) [(h0, .inr (0, [.int (nI w), .int (nI h), .double (midF w), .double (midF h), .ref q1, .ref q2])), (q1, .inl (cI, 24, .inl B)), (q2, .inl (cI, 24, .inl O))] := by
  refine Ci.of .int rfl rfl rfl (cc := cX0_sampledRow) (maxL := 10) (plainFor_of_name (by decide)) rfl (Nat.le_of_ble_eq_true rfl) rfl ?_
  intro p e s m args below meth c A Q hx hb hml hts hown hA hK hP hD hS hend ls hl
  refine lv_iconst (v := 0) hx hb dX0_sampledRow_0 (by decide) ?_
  refine lv_istore (lv' := [(6, .int 0), (0, .ref h0), (1, .int (nI y)), (2, .double s0), (4, .double c0)]) hx hb dX0_sampledRow_1 hl (by decide) rfl (fun ls hl => ?_)
  refine lv_iconst (v := 0) hx hb dX0_sampledRow_3 (by decide) ?_
  refine lv_istore (lv' := [(7, .int 0), (6, .int 0), (0, .ref h0), (1, .int (nI y)), (2, .double s0), (4, .double c0)]) hx hb dX0_sampledRow_4 hl (by decide) rfl (fun ls hl => ?_)
  have K6 : ∀ (n6 : Nat) (x : Nat), w - x < n6 → (x ≤ w) → ∀ (H : Heap) (locs : List Loc), va_P G vwCl [(h0, .inr (0, [.int (nI w), .int (nI h), .double (midF w), .double (midF h), .ref q1, .ref q2])), (q1, .inl (cI, 24, .inl B)), (q2, .inl (cI, 24, .inl O))] H → va_D A [(h0, .inr (0, [.int (nI w), .int (nI h), .double (midF w), .double (midF h), .ref q1, .ref q2])), (q1, .inl (cI, 24, .inl B)), (q2, .inl (cI, 24, .inl O))] → va_S A s.heap H locs → ∀ ls : Array Slot, lv_has ls 10 [(0, .ref h0), (1, .int (nI y)), (2, .double s0), (4, .double c0), (6, .int (smpN w h O s0 c0 y x)), (7, .int (nI x))] → W p l e rmX0_sampledRow s m args below meth c H locs 0 0 Q (F0 m 6 ls []) := by
    intro n6
    induction n6 with
    | zero => intro x hn; exact absurd hn (by omega)
    | succ n6 ih6 =>
      intro x hn6 hx2 H locs hP hD hS ls hl
      refine lv_iload hx hb dX0_sampledRow_6 (lv_at hl 5 rfl) ?_
      refine lv_aload_n hx hb dX0_sampledRow_8 rfl (lv_at hl 0 rfl) ?_
      refine va_get (D := G) (ci := 0) (v := .int (nI w)) (C := RX0) (T := TX0) (N := 6) hx hb hts in_kX0_sampledRow_X0 hown hK hP 0 rfl rfl 0 (by decide) (hts _ fl_kX0_sampledRow_9) (fun _ h9 => h9) rfl dX0_sampledRow_9 ?_
      refine kGe (by omega) (by omega) (tgt := 117) hx hb dX0_sampledRow_12 (by decide) (fun c_12 => ?_) (fun c_12 => ?_)
      · have e9 : w = x := by omega
        subst e9
        refine lv_iload hx hb dX0_sampledRow_117 (lv_at hl 4 rfl) ?_
        exact hend _ _ _ _ _ _ dX0_sampledRow_119 hP hD hS rfl rfl
      · refine lv_aload_n hx hb dX0_sampledRow_15 rfl (lv_at hl 0 rfl) ?_
        refine va_get (D := G) (ci := 0) (v := .double (midF w)) (C := RX0) (T := TX0) (N := 6) hx hb hts in_kX0_sampledRow_X0 hown hK hP 0 rfl rfl 2 (by decide) (hts _ fl_kX0_sampledRow_20) (fun _ h9 => h9) rfl dX0_sampledRow_16 ?_
        refine lv_iload hx hb dX0_sampledRow_19 (lv_at hl 5 rfl) ?_
        refine lv_i2d hx hb dX0_sampledRow_21 ?_
        refine lv_aload_n hx hb dX0_sampledRow_22 rfl (lv_at hl 0 rfl) ?_
        refine va_get (D := G) (ci := 0) (v := .double (midF w)) (C := RX0) (T := TX0) (N := 6) hx hb hts in_kX0_sampledRow_X0 hown hK hP 0 rfl rfl 2 (by decide) (hts _ fl_kX0_sampledRow_20) (fun _ h9 => h9) rfl dX0_sampledRow_23 ?_
        have b1 : fIv (0) (1572864) (FP.i2d (nI x)) := fIvN (k := 24) (by omega) (by omega)
        have b2 : fIv (-32768) (753664) (midF w) := fMid w (by omega)
        have b3 : fIv (-753664) (1605632) (FP.dsub (FP.i2d (nI x)) (midF w)) := fSub b1 b2 (by decide +kernel) (by decide +kernel) (by decide +kernel) (by decide +kernel)
        refine lv_dsub hx hb dX0_sampledRow_26 b3.n64 ?_
        refine lv_dload hx hb dX0_sampledRow_27 (lv_at hl 3 rfl) ?_
        have b4 : fIv (-1704465) (1704465) (FP.dmul (FP.dsub (FP.i2d (nI x)) (midF w)) c0) := fIv.mul (n := 1605632) (m := 69570) (k := 1704465) (b3.weak (by decide +kernel) (by decide +kernel) (by decide +kernel) (by decide +kernel)) (hc.weak (by decide +kernel) (by decide +kernel) (by decide +kernel) (by decide +kernel)) (by decide +kernel) (by decide +kernel)
        refine lv_dmul hx hb dX0_sampledRow_29 b4.n64 ?_
        have b5 : fIv (-1737233) (2458129) (FP.dadd (midF w) (FP.dmul (FP.dsub (FP.i2d (nI x)) (midF w)) c0)) := fAdd b2 b4 (by decide +kernel) (by decide +kernel) (by decide +kernel) (by decide +kernel)
        refine lv_dadd hx hb dX0_sampledRow_30 b5.n64 ?_
        refine lv_iload_n hx hb dX0_sampledRow_31 rfl (lv_at hl 1 rfl) ?_
        refine lv_i2d hx hb dX0_sampledRow_32 ?_
        refine lv_aload_n hx hb dX0_sampledRow_33 rfl (lv_at hl 0 rfl) ?_
        refine va_get (D := G) (ci := 0) (v := .double (midF h)) (C := RX0) (T := TX0) (N := 6) hx hb hts in_kX0_sampledRow_X0 hown hK hP 0 rfl rfl 3 (by decide) (hts _ fl_kX0_sampledRow_24) (fun _ h9 => h9) rfl dX0_sampledRow_34 ?_
        have b6 : fIv (0) (1572864) (FP.i2d (nI y)) := fIvN (k := 24) (by omega) (by omega)
        have b7 : fIv (-32768) (753664) (midF h) := fMid h (by omega)
        have b8 : fIv (-753664) (1605632) (FP.dsub (FP.i2d (nI y)) (midF h)) := fSub b6 b7 (by decide +kernel) (by decide +kernel) (by decide +kernel) (by decide +kernel)
        refine lv_dsub hx hb dX0_sampledRow_37 b8.n64 ?_
        refine lv_dload_n hx hb dX0_sampledRow_38 rfl (lv_at hl 2 rfl) ?_
        have b9 : fIv (-584448) (584448) (FP.dmul (FP.dsub (FP.i2d (nI y)) (midF h)) s0) := fIv.mul (n := 1605632) (m := 23855) (k := 584448) (b8.weak (by decide +kernel) (by decide +kernel) (by decide +kernel) (by decide +kernel)) hs (by decide +kernel) (by decide +kernel)
        refine lv_dmul hx hb dX0_sampledRow_39 b9.n64 ?_
        have b10 : fIv (-2321681) (3042577) (FP.dadd (FP.dadd (midF w) (FP.dmul (FP.dsub (FP.i2d (nI x)) (midF w)) c0)) (FP.dmul (FP.dsub (FP.i2d (nI y)) (midF h)) s0)) := fAdd b5 b9 (by decide +kernel) (by decide +kernel) (by decide +kernel) (by decide +kernel)
        refine lv_dadd hx hb dX0_sampledRow_40 b10.n64 ?_
        have b11 : fIv (-2288913) (3075345) (FP.dadd (FP.dadd (FP.dadd (midF w) (FP.dmul (FP.dsub (FP.i2d (nI x)) (midF w)) c0)) (FP.dmul (FP.dsub (FP.i2d (nI y)) (midF h)) s0)) 4602678819172646912) := fAdd b10 fHalf (by decide +kernel) (by decide +kernel) (by decide +kernel) (by decide +kernel)
        refine kSi (rest := []) (kX1_whole l G cI cZ cJ cD (FP.dadd (FP.dadd (midF w) (FP.dmul (FP.dsub (FP.i2d (nI x)) (midF w)) c0)) (FP.dmul (FP.dsub (FP.i2d (nI y)) (midF h)) s0)) (-2288913) (3075345) b11) ⟨hx, hb, hml, hown, hts⟩ (va_cwS 1 hts gX0_sampledRow_X1_whole rfl rfl rfl hs_X1_whole ⟨Nat.le_of_ble_eq_true rfl, Nat.le_of_ble_eq_true rfl⟩) hK hP hD hS hA rfl hl.1 rfl (Nat.le_of_ble_eq_true rfl) dX0_sampledRow_41 ⟨Nat.le_of_ble_eq_true rfl, Nat.le_of_ble_eq_true rfl⟩ rfl rfl (fun H locs hP hD hS => ?_)
        refine lv_istore (lv' := [(8, .int (wholeF (FP.dadd (FP.dadd (midF w) (FP.dmul (FP.dsub (FP.i2d (nI x)) (midF w)) c0)) (FP.dmul (FP.dsub (FP.i2d (nI y)) (midF h)) s0)))), (0, .ref h0), (1, .int (nI y)), (2, .double s0), (4, .double c0), (6, .int (smpN w h O s0 c0 y x)), (7, .int (nI x))]) hx hb dX0_sampledRow_44 hl (by decide) rfl (fun ls hl => ?_)
        refine lv_aload_n hx hb dX0_sampledRow_46 rfl (lv_at hl 1 rfl) ?_
        refine va_get (D := G) (ci := 0) (v := .double (midF h)) (C := RX0) (T := TX0) (N := 6) hx hb hts in_kX0_sampledRow_X0 hown hK hP 0 rfl rfl 3 (by decide) (hts _ fl_kX0_sampledRow_24) (fun _ h9 => h9) rfl dX0_sampledRow_47 ?_
        refine lv_iload hx hb dX0_sampledRow_50 (lv_at hl 6 rfl) ?_
        refine lv_i2d hx hb dX0_sampledRow_52 ?_
        refine lv_aload_n hx hb dX0_sampledRow_53 rfl (lv_at hl 1 rfl) ?_
        refine va_get (D := G) (ci := 0) (v := .double (midF w)) (C := RX0) (T := TX0) (N := 6) hx hb hts in_kX0_sampledRow_X0 hown hK hP 0 rfl rfl 2 (by decide) (hts _ fl_kX0_sampledRow_20) (fun _ h9 => h9) rfl dX0_sampledRow_54 ?_
        refine lv_dsub hx hb dX0_sampledRow_57 b3.n64 ?_
        refine lv_dload_n hx hb dX0_sampledRow_58 rfl (lv_at hl 3 rfl) ?_
        have b12 : fIv (-584448) (584448) (FP.dmul (FP.dsub (FP.i2d (nI x)) (midF w)) s0) := fIv.mul (n := 1605632) (m := 23855) (k := 584448) (b3.weak (by decide +kernel) (by decide +kernel) (by decide +kernel) (by decide +kernel)) hs (by decide +kernel) (by decide +kernel)
        refine lv_dmul hx hb dX0_sampledRow_59 b12.n64 ?_
        have b13 : fIv (-617216) (1338112) (FP.dsub (midF h) (FP.dmul (FP.dsub (FP.i2d (nI x)) (midF w)) s0)) := fSub b7 b12 (by decide +kernel) (by decide +kernel) (by decide +kernel) (by decide +kernel)
        refine lv_dsub hx hb dX0_sampledRow_60 b13.n64 ?_
        refine lv_iload_n hx hb dX0_sampledRow_61 rfl (lv_at hl 2 rfl) ?_
        refine lv_i2d hx hb dX0_sampledRow_62 ?_
        refine lv_aload_n hx hb dX0_sampledRow_63 rfl (lv_at hl 1 rfl) ?_
        refine va_get (D := G) (ci := 0) (v := .double (midF h)) (C := RX0) (T := TX0) (N := 6) hx hb hts in_kX0_sampledRow_X0 hown hK hP 0 rfl rfl 3 (by decide) (hts _ fl_kX0_sampledRow_24) (fun _ h9 => h9) rfl dX0_sampledRow_64 ?_
        refine lv_dsub hx hb dX0_sampledRow_67 b8.n64 ?_
        refine lv_dload hx hb dX0_sampledRow_68 (lv_at hl 4 rfl) ?_
        have b14 : fIv (-1704465) (1704465) (FP.dmul (FP.dsub (FP.i2d (nI y)) (midF h)) c0) := fIv.mul (n := 1605632) (m := 69570) (k := 1704465) (b8.weak (by decide +kernel) (by decide +kernel) (by decide +kernel) (by decide +kernel)) (hc.weak (by decide +kernel) (by decide +kernel) (by decide +kernel) (by decide +kernel)) (by decide +kernel) (by decide +kernel)
        refine lv_dmul hx hb dX0_sampledRow_70 b14.n64 ?_
        have b15 : fIv (-2321681) (3042577) (FP.dadd (FP.dsub (midF h) (FP.dmul (FP.dsub (FP.i2d (nI x)) (midF w)) s0)) (FP.dmul (FP.dsub (FP.i2d (nI y)) (midF h)) c0)) := fAdd b13 b14 (by decide +kernel) (by decide +kernel) (by decide +kernel) (by decide +kernel)
        refine lv_dadd hx hb dX0_sampledRow_71 b15.n64 ?_
        have b16 : fIv (-2288913) (3075345) (FP.dadd (FP.dadd (FP.dsub (midF h) (FP.dmul (FP.dsub (FP.i2d (nI x)) (midF w)) s0)) (FP.dmul (FP.dsub (FP.i2d (nI y)) (midF h)) c0)) 4602678819172646912) := fAdd b15 fHalf (by decide +kernel) (by decide +kernel) (by decide +kernel) (by decide +kernel)
        refine kSi (rest := []) (kX1_whole l G cI cZ cJ cD (FP.dadd (FP.dsub (midF h) (FP.dmul (FP.dsub (FP.i2d (nI x)) (midF w)) s0)) (FP.dmul (FP.dsub (FP.i2d (nI y)) (midF h)) c0)) (-2288913) (3075345) b16) ⟨hx, hb, hml, hown, hts⟩ (va_cwS 1 hts gX0_sampledRow_X1_whole rfl rfl rfl hs_X1_whole ⟨Nat.le_of_ble_eq_true rfl, Nat.le_of_ble_eq_true rfl⟩) hK hP hD hS hA rfl hl.1 rfl (Nat.le_of_ble_eq_true rfl) dX0_sampledRow_72 ⟨Nat.le_of_ble_eq_true rfl, Nat.le_of_ble_eq_true rfl⟩ rfl rfl (fun H locs hP hD hS => ?_)
        refine lv_istore (lv' := [(9, .int (wholeF (FP.dadd (FP.dsub (midF h) (FP.dmul (FP.dsub (FP.i2d (nI x)) (midF w)) s0)) (FP.dmul (FP.dsub (FP.i2d (nI y)) (midF h)) c0)))), (8, .int (wholeF (FP.dadd (FP.dadd (midF w) (FP.dmul (FP.dsub (FP.i2d (nI x)) (midF w)) c0)) (FP.dmul (FP.dsub (FP.i2d (nI y)) (midF h)) s0)))), (0, .ref h0), (1, .int (nI y)), (2, .double s0), (4, .double c0), (6, .int (smpN w h O s0 c0 y x)), (7, .int (nI x))]) hx hb dX0_sampledRow_75 hl (by decide) rfl (fun ls hl => ?_)
        refine lv_aload_n hx hb dX0_sampledRow_77 rfl (lv_at hl 2 rfl) ?_
        refine lv_iload hx hb dX0_sampledRow_78 (lv_at hl 1 rfl) ?_
        refine lv_iload hx hb dX0_sampledRow_80 (lv_at hl 0 rfl) ?_
        refine kVi (w' := [(h0, .inr (0, [.int (nI w), .int (nI h), .double (midF w), .double (midF h), .ref q1, .ref q2])), (q1, .inl (cI, 24, .inl B)), (q2, .inl (cI, 24, .inl O))]) (wr := []) (isC := [0, 1, 2]) (isR := []) (pm := [0, 1, 2]) (rest := []) (kX0_has l G cI cZ cJ cD h0 q1 q2 w h hw hh B O (wholeF (FP.dadd (FP.dadd (midF w) (FP.dmul (FP.dsub (FP.i2d (nI x)) (midF w)) c0)) (FP.dmul (FP.dsub (FP.i2d (nI y)) (midF h)) s0))) (wholeF (FP.dadd (FP.dsub (midF h) (FP.dmul (FP.dsub (FP.i2d (nI x)) (midF w)) s0)) (FP.dmul (FP.dsub (FP.i2d (nI y)) (midF h)) c0)))) ⟨hx, hb, hml, hown, hts⟩ (cwV 2 hts gX0_sampledRow_X0_has rfl rfl rfl hd_X0_has ⟨Nat.le_of_ble_eq_true rfl, Nat.le_of_ble_eq_true rfl⟩) hK hP hD hS hA ⟨rfl, rfl, rfl, by decide, rfl, rfl, rfl⟩ 0 0 rfl rfl rfl hl.1 rfl (Nat.le_of_ble_eq_true rfl) dX0_sampledRow_82 ⟨Nat.le_of_ble_eq_true rfl, Nat.le_of_ble_eq_true rfl⟩ rfl rfl (fun H locs hP hD hS => ?_)
        refine kIfEqB (tgt := 111) hx hb dX0_sampledRow_85 (by decide) (fun c_85 => ?_) (fun c_85 => ?_)
        · have hE : smpN w h O s0 c0 y x = smpN w h O s0 c0 y (x + 1) := (smpN_f w h O s0 c0 y x (smpB_f1 c_85)).symm
          rw [hE] at hl
          refine lv_iinc (v := nI (x + 1)) (lv' := [(7, .int (nI (x + 1))), (9, .int (wholeF (FP.dadd (FP.dsub (midF h) (FP.dmul (FP.dsub (FP.i2d (nI x)) (midF w)) s0)) (FP.dmul (FP.dsub (FP.i2d (nI y)) (midF h)) c0)))), (8, .int (wholeF (FP.dadd (FP.dadd (midF w) (FP.dmul (FP.dsub (FP.i2d (nI x)) (midF w)) c0)) (FP.dmul (FP.dsub (FP.i2d (nI y)) (midF h)) s0)))), (0, .ref h0), (1, .int (nI y)), (2, .double s0), (4, .double c0), (6, .int (smpN w h O s0 c0 y (x + 1)))]) hx hb dX0_sampledRow_111 hl (k := 7) rfl (nI_1 _) (by decide) rfl (fun ls hl => ?_)
          refine lv_goto (tgt := 6) hx hb dX0_sampledRow_114 (by decide) ?_
          exact ih6 (x + 1) (by omega) (by omega) _ _ hP hD hS _ (lv_sub hl [3, 4, 5, 6, 7, 0] rfl)
        · refine lv_aload_n hx hb dX0_sampledRow_88 rfl (lv_at hl 2 rfl) ?_
          refine lv_iload hx hb dX0_sampledRow_89 (lv_at hl 0 rfl) ?_
          refine kVi (w' := [(h0, .inr (0, [.int (nI w), .int (nI h), .double (midF w), .double (midF h), .ref q1, .ref q2])), (q1, .inl (cI, 24, .inl B)), (q2, .inl (cI, 24, .inl O))]) (wr := []) (isC := [0, 1, 2]) (isR := []) (pm := [0, 1, 2]) (rest := []) (kX0_oldRowBits l G cI cZ cJ cD h0 q1 q2 w h hw hh B O (wholeF (FP.dadd (FP.dsub (midF h) (FP.dmul (FP.dsub (FP.i2d (nI x)) (midF w)) s0)) (FP.dmul (FP.dsub (FP.i2d (nI y)) (midF h)) c0)))) ⟨hx, hb, hml, hown, hts⟩ (cwV 1 hts gX0_sampledRow_X0_oldRowBits rfl rfl rfl hd_X0_oldRowBits ⟨Nat.le_of_ble_eq_true rfl, Nat.le_of_ble_eq_true rfl⟩) hK hP hD hS hA ⟨rfl, rfl, rfl, by decide, rfl, rfl, rfl⟩ 0 0 rfl rfl rfl hl.1 rfl (Nat.le_of_ble_eq_true rfl) dX0_sampledRow_91 ⟨Nat.le_of_ble_eq_true rfl, Nat.le_of_ble_eq_true rfl⟩ rfl rfl (fun H locs hP hD hS => ?_)
          refine lv_iload hx hb dX0_sampledRow_94 (lv_at hl 1 rfl) ?_
          refine lv_iushr (v := sUshr (rowF O (wholeF (FP.dadd (FP.dsub (midF h) (FP.dmul (FP.dsub (FP.i2d (nI x)) (midF w)) s0)) (FP.dmul (FP.dsub (FP.i2d (nI y)) (midF h)) c0)))) (wholeF (FP.dadd (FP.dadd (midF w) (FP.dmul (FP.dsub (FP.i2d (nI x)) (midF w)) c0)) (FP.dmul (FP.dsub (FP.i2d (nI y)) (midF h)) s0)))) hx hb dX0_sampledRow_96 rfl ?_
          refine lv_iconst (v := 1) hx hb dX0_sampledRow_97 (by decide) ?_
          refine lv_iand hx hb dX0_sampledRow_98 ?_
          refine lv_if_eq (tgt := 111) hx hb dX0_sampledRow_99 (by decide) (fun c_99 => ?_) (fun c_99 => ?_)
          · have hE : smpN w h O s0 c0 y x = smpN w h O s0 c0 y (x + 1) := (smpN_f w h O s0 c0 y x (smpB_f2 c_85 c_99)).symm
            rw [hE] at hl
            refine lv_iinc (v := nI (x + 1)) (lv' := [(7, .int (nI (x + 1))), (9, .int (wholeF (FP.dadd (FP.dsub (midF h) (FP.dmul (FP.dsub (FP.i2d (nI x)) (midF w)) s0)) (FP.dmul (FP.dsub (FP.i2d (nI y)) (midF h)) c0)))), (8, .int (wholeF (FP.dadd (FP.dadd (midF w) (FP.dmul (FP.dsub (FP.i2d (nI x)) (midF w)) c0)) (FP.dmul (FP.dsub (FP.i2d (nI y)) (midF h)) s0)))), (0, .ref h0), (1, .int (nI y)), (2, .double s0), (4, .double c0), (6, .int (smpN w h O s0 c0 y (x + 1)))]) hx hb dX0_sampledRow_111 hl (k := 7) rfl (nI_1 _) (by decide) rfl (fun ls hl => ?_)
            refine lv_goto (tgt := 6) hx hb dX0_sampledRow_114 (by decide) ?_
            exact ih6 (x + 1) (by omega) (by omega) _ _ hP hD hS _ (lv_sub hl [3, 4, 5, 6, 7, 0] rfl)
          · refine lv_iload hx hb dX0_sampledRow_102 (lv_at hl 6 rfl) ?_
            refine lv_iconst (v := 1) hx hb dX0_sampledRow_104 (by decide) ?_
            refine lv_iload hx hb dX0_sampledRow_105 (lv_at hl 7 rfl) ?_
            refine lv_ishl hx hb dX0_sampledRow_107 ?_
            refine lv_ior hx hb dX0_sampledRow_108 ?_
            refine lv_istore (lv' := [(6, .int ((smpN w h O s0 c0 y x) ||| (1 <<< ((nI x) &&& 31)))), (9, .int (wholeF (FP.dadd (FP.dsub (midF h) (FP.dmul (FP.dsub (FP.i2d (nI x)) (midF w)) s0)) (FP.dmul (FP.dsub (FP.i2d (nI y)) (midF h)) c0)))), (8, .int (wholeF (FP.dadd (FP.dadd (midF w) (FP.dmul (FP.dsub (FP.i2d (nI x)) (midF w)) c0)) (FP.dmul (FP.dsub (FP.i2d (nI y)) (midF h)) s0)))), (0, .ref h0), (1, .int (nI y)), (2, .double s0), (4, .double c0), (7, .int (nI x))]) hx hb dX0_sampledRow_109 hl (by decide) rfl (fun ls hl => ?_)
            have hE : (smpN w h O s0 c0 y x) ||| (1 <<< ((nI x) &&& 31)) = smpN w h O s0 c0 y (x + 1) := (smpN_t w h O s0 c0 y x (smpB_t c_85 c_99)).symm
            rw [hE] at hl
            refine lv_iinc (v := nI (x + 1)) (lv' := [(7, .int (nI (x + 1))), (6, .int (smpN w h O s0 c0 y (x + 1))), (9, .int (wholeF (FP.dadd (FP.dsub (midF h) (FP.dmul (FP.dsub (FP.i2d (nI x)) (midF w)) s0)) (FP.dmul (FP.dsub (FP.i2d (nI y)) (midF h)) c0)))), (8, .int (wholeF (FP.dadd (FP.dadd (midF w) (FP.dmul (FP.dsub (FP.i2d (nI x)) (midF w)) c0)) (FP.dmul (FP.dsub (FP.i2d (nI y)) (midF h)) s0)))), (0, .ref h0), (1, .int (nI y)), (2, .double s0), (4, .double c0)]) hx hb dX0_sampledRow_111 hl (k := 7) rfl (nI_1 _) (by decide) rfl (fun ls hl => ?_)
            refine lv_goto (tgt := 6) hx hb dX0_sampledRow_114 (by decide) ?_
            exact ih6 (x + 1) (by omega) (by omega) _ _ hP hD hS _ (lv_sub hl [4, 5, 6, 7, 1, 0] rfl)
  exact K6 (w - 0 + 1) 0 (by omega) (by omega) _ _ hP hD hS _ (lv_sub hl [2, 3, 4, 5, 1, 0] rfl)
theorem in_kX0_turnBySampling_X0 : ∀ w ∈ u_ws RX0 TX0 6, w ∈ wsX0_turnBySampling := by decide +kernel
theorem fl_kX0_turnBySampling_15 : Cond.fieldLink RX0 15 "SkewFind$Picture" "height" "I" ∈ wsX0_turnBySampling := by decide +kernel
abbrev rmX0_turnBySampling : Room := { frames := 2, cells := 0, slots := 0, locals := 53 }
set_option maxRecDepth 100000 in
set_option maxHeartbeats 4000000 in
theorem kX0_turnBySampling (l : Launch) (G : va_G) (cI cZ cJ cD : ClassId) (h0 q1 q2 w h : Nat) (hw : w ≤ 24) (hh : h ≤ 24) (B O : Nat → Int32) (a : Int32) (ha1 : -2000 ≤ a.toInt) (ha2 : a.toInt ≤ 2000) : Cv l G (kTy cI cZ cJ cD) yX0_turnBySampling wsX0_turnBySampling rmX0_turnBySampling [.ref h0, .int a] [(h0, .inr (0, [.int (nI w), .int (nI h), .double (midF w), .double (midF h), .ref q1, .ref q2])), (q1, .inl (cI, 24, .inl B)), (q2, .inl (cI, 24, .inl O))] [(h0, .inr (0, [.int (nI w), .int (nI h), .double (midF w), .double (midF h), .ref q1, .ref q2])), (q1, .inl (cI, 24, .inl (smpR w h a B O))), (q2, .inl (cI, 24, .inl (keepN B O)))] := by
  refine Cv.of rfl rfl (cc := cX0_turnBySampling) (maxL := 7) (plainFor_of_name (by decide)) rfl (Nat.le_of_ble_eq_true rfl) rfl ?_
  intro p e s m args below meth c A Q hx hb hml hts hown hA hK hP hD hS hend ls hl
  refine lv_iload_n hx hb dX0_turnBySampling_0 rfl (lv_at hl 1 rfl) ?_
  refine lv_i2d hx hb dX0_turnBySampling_1 ?_
  have b1 : fIv (-131072000) (131072000) (FP.i2d a) := fIv.i2d_in (k := 2000) ha1 ha2 (by decide)
  refine kSd (rest := []) (kX1_sine l G cI cZ cJ cD (FP.i2d a) b1) ⟨hx, hb, hml, hown, hts⟩ (va_cwS 1 hts gX0_turnBySampling_X1_sine rfl rfl rfl hs_X1_sine ⟨Nat.le_of_ble_eq_true rfl, Nat.le_of_ble_eq_true rfl⟩) hK hP hD hS hA rfl hl.1 rfl (Nat.le_of_ble_eq_true rfl) dX0_turnBySampling_2 ⟨Nat.le_of_ble_eq_true rfl, Nat.le_of_ble_eq_true rfl⟩ rfl rfl (fun H locs hP hD hS => ?_)
  have b2 : fIv (-23345) (23345) (sineF (FP.i2d a)) := fSine b1
  refine lv_dstore_n (lv' := [(2, .double (sineF (FP.i2d a))), (0, .ref h0), (1, .int a)]) hx hb dX0_turnBySampling_5 rfl hl (by decide) rfl (fun ls hl => ?_)
  refine lv_iload_n hx hb dX0_turnBySampling_6 rfl (lv_at hl 2 rfl) ?_
  refine lv_i2d hx hb dX0_turnBySampling_7 ?_
  refine kSd (rest := []) (kX1_cosine l G cI cZ cJ cD (FP.i2d a) b1) ⟨hx, hb, hml, hown, hts⟩ (va_cwS 1 hts gX0_turnBySampling_X1_cosine rfl rfl rfl hs_X1_cosine ⟨Nat.le_of_ble_eq_true rfl, Nat.le_of_ble_eq_true rfl⟩) hK hP hD hS hA rfl hl.1 rfl (Nat.le_of_ble_eq_true rfl) dX0_turnBySampling_8 ⟨Nat.le_of_ble_eq_true rfl, Nat.le_of_ble_eq_true rfl⟩ rfl rfl (fun H locs hP hD hS => ?_)
  have b3 : fIv (61502) (69570) (cosF (FP.i2d a)) := fCos b1
  refine lv_dstore (lv' := [(4, .double (cosF (FP.i2d a))), (2, .double (sineF (FP.i2d a))), (0, .ref h0), (1, .int a)]) hx hb dX0_turnBySampling_11 hl (by decide) rfl (fun ls hl => ?_)
  refine lv_aload_n hx hb dX0_turnBySampling_13 rfl (lv_at hl 2 rfl) ?_
  refine kVv (w' := [(h0, .inr (0, [.int (nI w), .int (nI h), .double (midF w), .double (midF h), .ref q1, .ref q2])), (q1, .inl (cI, 24, .inl B)), (q2, .inl (cI, 24, .inl (mapN (fun k _ => B k) O 24)))]) (wr := []) (isC := [0, 1, 2]) (isR := []) (pm := [0, 1, 2]) (rest := []) (kX0_keepOldBits l G cI cZ cJ cD h0 q1 q2 w h hw hh B O ) ⟨hx, hb, hml, hown, hts⟩ (cwV 0 hts gX0_turnBySampling_X0_keepOldBits rfl rfl rfl hd_X0_keepOldBits ⟨Nat.le_of_ble_eq_true rfl, Nat.le_of_ble_eq_true rfl⟩) hK hP hD hS hA ⟨rfl, rfl, rfl, by decide, rfl, rfl, rfl⟩ 0 0 rfl rfl rfl hl.1 rfl (Nat.le_of_ble_eq_true rfl) dX0_turnBySampling_14 ⟨Nat.le_of_ble_eq_true rfl, Nat.le_of_ble_eq_true rfl⟩ rfl rfl (fun H locs hP hD hS => ?_)
  refine lv_iconst (v := 0) hx hb dX0_turnBySampling_17 (by decide) ?_
  refine lv_istore (lv' := [(6, .int 0), (4, .double (cosF (FP.i2d a))), (2, .double (sineF (FP.i2d a))), (0, .ref h0), (1, .int a)]) hx hb dX0_turnBySampling_18 hl (by decide) rfl (fun ls hl => ?_)
  have K20 : ∀ (n20 : Nat) (i : Nat), h - i < n20 → (i ≤ h) → ∀ (H : Heap) (locs : List Loc), va_P G vwCl [(h0, .inr (0, [.int (nI w), .int (nI h), .double (midF w), .double (midF h), .ref q1, .ref q2])), (q1, .inl (cI, 24, .inl (mapN (fun k _ => smpN w h (keepN B O) (angS a) (angC a) k w) B i))), (q2, .inl (cI, 24, .inl (keepN B O)))] H → va_D A [(h0, .inr (0, [.int (nI w), .int (nI h), .double (midF w), .double (midF h), .ref q1, .ref q2])), (q1, .inl (cI, 24, .inl (mapN (fun k _ => smpN w h (keepN B O) (angS a) (angC a) k w) B i))), (q2, .inl (cI, 24, .inl (keepN B O)))] → va_S A s.heap H locs → ∀ ls : Array Slot, lv_has ls 7 [(0, .ref h0), (1, .int a), (2, .double (sineF (FP.i2d a))), (4, .double (cosF (FP.i2d a))), (6, .int (nI i))] → W p l e rmX0_turnBySampling s m args below meth c H locs 0 0 Q (F0 m 20 ls []) := by
    intro n20
    induction n20 with
    | zero => intro i hn; exact absurd hn (by omega)
    | succ n20 ih20 =>
      intro i hn20 hi H locs hP hD hS ls hl
      refine lv_iload hx hb dX0_turnBySampling_20 (lv_at hl 4 rfl) ?_
      refine lv_aload_n hx hb dX0_turnBySampling_22 rfl (lv_at hl 0 rfl) ?_
      refine va_get (D := G) (ci := 0) (v := .int (nI h)) (C := RX0) (T := TX0) (N := 6) hx hb hts in_kX0_turnBySampling_X0 hown hK hP 0 rfl rfl 1 (by decide) (hts _ fl_kX0_turnBySampling_15) (fun _ h9 => h9) rfl dX0_turnBySampling_23 ?_
      refine kGe (by omega) (by omega) (tgt := 50) hx hb dX0_turnBySampling_26 (by decide) (fun c_26 => ?_) (fun c_26 => ?_)
      · have e9 : h = i := by omega
        subst e9
        exact hend _ _ _ _ _ dX0_turnBySampling_50 hP hD hS rfl
      · refine lv_aload_n hx hb dX0_turnBySampling_29 rfl (lv_at hl 0 rfl) ?_
        refine lv_iload hx hb dX0_turnBySampling_30 (lv_at hl 4 rfl) ?_
        refine lv_aload_n hx hb dX0_turnBySampling_32 rfl (lv_at hl 0 rfl) ?_
        refine lv_iload hx hb dX0_turnBySampling_33 (lv_at hl 4 rfl) ?_
        refine lv_dload_n hx hb dX0_turnBySampling_35 rfl (lv_at hl 2 rfl) ?_
        refine lv_dload hx hb dX0_turnBySampling_36 (lv_at hl 3 rfl) ?_
        refine kVi (w' := [(h0, .inr (0, [.int (nI w), .int (nI h), .double (midF w), .double (midF h), .ref q1, .ref q2])), (q1, .inl (cI, 24, .inl (mapN (fun k _ => smpN w h (keepN B O) (angS a) (angC a) k w) B i))), (q2, .inl (cI, 24, .inl (keepN B O)))]) (wr := []) (isC := [0, 1, 2]) (isR := []) (pm := [0, 1, 2]) (rest := [.int (nI i), .ref h0]) (kX0_sampledRow l G cI cZ cJ cD h0 q1 q2 w h hw hh (mapN (fun k _ => smpN w h (keepN B O) (angS a) (angC a) k w) B i) (keepN B O) i (by omega) (sineF (FP.i2d a)) ((b2.weak (by decide +kernel) (by decide +kernel) (by decide +kernel) (by decide +kernel))) (cosF (FP.i2d a)) b3) ⟨hx, hb, hml, hown, hts⟩ (cwV 3 hts gX0_turnBySampling_X0_sampledRow rfl rfl rfl hd_X0_sampledRow ⟨Nat.le_of_ble_eq_true rfl, Nat.le_of_ble_eq_true rfl⟩) hK hP hD hS hA ⟨rfl, rfl, rfl, by decide, rfl, rfl, rfl⟩ 0 0 rfl rfl rfl hl.1 rfl (Nat.le_of_ble_eq_true rfl) dX0_turnBySampling_38 ⟨Nat.le_of_ble_eq_true rfl, Nat.le_of_ble_eq_true rfl⟩ rfl rfl (fun H locs hP hD hS => ?_)
        refine kVv (w' := [(h0, .inr (0, [.int (nI w), .int (nI h), .double (midF w), .double (midF h), .ref q1, .ref q2])), (q1, .inl (cI, 24, .inl (setF (mapN (fun k _ => smpN w h (keepN B O) (angS a) (angC a) k w) B i) (nI i) (smpN w h (keepN B O) (sineF (FP.i2d a)) (cosF (FP.i2d a)) i w)))), (q2, .inl (cI, 24, .inl (keepN B O)))]) (wr := []) (isC := [0, 1, 2]) (isR := []) (pm := [0, 1, 2]) (rest := []) (kX0_setRowBits l G cI cZ cJ cD h0 q1 q2 w h hw hh (mapN (fun k _ => smpN w h (keepN B O) (angS a) (angC a) k w) B i) (keepN B O) (nI i) (smpN w h (keepN B O) (sineF (FP.i2d a)) (cosF (FP.i2d a)) i w)) ⟨hx, hb, hml, hown, hts⟩ (cwV 2 hts gX0_turnBySampling_X0_setRowBits rfl rfl rfl hd_X0_setRowBits ⟨Nat.le_of_ble_eq_true rfl, Nat.le_of_ble_eq_true rfl⟩) hK hP hD hS hA ⟨rfl, rfl, rfl, by decide, rfl, rfl, rfl⟩ 0 0 rfl rfl rfl hl.1 rfl (Nat.le_of_ble_eq_true rfl) dX0_turnBySampling_41 ⟨Nat.le_of_ble_eq_true rfl, Nat.le_of_ble_eq_true rfl⟩ rfl rfl (fun H locs hP hD hS => ?_)
        have hE : setF (mapN (fun k _ => smpN w h (keepN B O) (angS a) (angC a) k w) B i) (nI i) (smpN w h (keepN B O) (sineF (FP.i2d a)) (cosF (FP.i2d a)) i w) = upd (mapN (fun k _ => smpN w h (keepN B O) (angS a) (angC a) k w) B i) i (smpN w h (keepN B O) (angS a) (angC a) i w) := setF_nI _ _ (by omega)
        rw [hE] at hP hD
        have hE : upd (mapN (fun k _ => smpN w h (keepN B O) (angS a) (angC a) k w) B i) i (smpN w h (keepN B O) (angS a) (angC a) i w) = mapN (fun k _ => smpN w h (keepN B O) (angS a) (angC a) k w) B (i + 1) := mapN_s (fun k _ => smpN w h (keepN B O) (angS a) (angC a) k w) B i
        rw [hE] at hP hD
        refine lv_iinc (v := nI (i + 1)) (lv' := [(6, .int (nI (i + 1))), (0, .ref h0), (1, .int a), (2, .double (sineF (FP.i2d a))), (4, .double (cosF (FP.i2d a)))]) hx hb dX0_turnBySampling_44 hl (k := 4) rfl (nI_1 _) (by decide) rfl (fun ls hl => ?_)
        refine lv_goto (tgt := 20) hx hb dX0_turnBySampling_47 (by decide) ?_
        exact ih20 (i + 1) (by omega) (by omega) _ _ hP hD hS _ (lv_sub hl [1, 2, 3, 4, 0] rfl)
  exact K20 (h - 0 + 1) 0 (by omega) (by omega) _ _ (by rw [mapN_0]; exact hP) (by rw [mapN_0]; exact hD) hS _ (lv_sub hl [3, 4, 2, 1, 0] rfl)
theorem wd_kX0_shearAll_c18 : Cond.constantDouble RX0 18 (4611686018427387904) ∈ wsX0_shearAll := by decide +kernel
abbrev rmX0_shearAll : Room := { frames := 4, cells := 0, slots := 0, locals := 91 }
set_option maxRecDepth 100000 in
set_option maxHeartbeats 4000000 in
theorem kX0_shearAll (l : Launch) (G : va_G) (cI cZ cJ cD : ClassId) (h0 q1 q2 w h : Nat) (hw : w ≤ 24) (hh : h ≤ 24) (B O : Nat → Int32) (a : Int32) (ha1 : -2000 ≤ a.toInt) (ha2 : a.toInt ≤ 2000) (dir : Int32) : Cv l G (kTy cI cZ cJ cD) yX0_shearAll wsX0_shearAll rmX0_shearAll [.ref h0, .int a, .int dir] [(h0, .inr (0, [.int (nI w), .int (nI h), .double (midF w), .double (midF h), .ref q1, .ref q2])), (q1, .inl (cI, 24, .inl B)), (q2, .inl (cI, 24, .inl O))] [(h0, .inr (0, [.int (nI w), .int (nI h), .double (midF w), .double (midF h), .ref q1, .ref q2])), (q1, .inl (cI, 24, .inl (shrAB w h a dir B O))), (q2, .inl (cI, 24, .inl (shrAO w h a dir B O)))] := by
  refine Cv.of rfl rfl (cc := cX0_shearAll) (maxL := 7) (plainFor_of_name (by decide)) rfl (Nat.le_of_ble_eq_true rfl) rfl ?_
  intro p e s m args below meth c A Q hx hb hml hts hown hA hK hP hD hS hend ls hl
  refine lv_iload_n hx hb dX0_shearAll_0 rfl (lv_at hl 1 rfl) ?_
  refine lv_i2d hx hb dX0_shearAll_1 ?_
  refine lv_ldc2d (v := 4611686018427387904) hx hb hown (hts _ wd_kX0_shearAll_c18) dX0_shearAll_2 ?_
  have b1 : fIv (-131072000) (131072000) (FP.i2d a) := fIv.i2d_in (k := 2000) ha1 ha2 (by decide)
  have b2 : fIv (-65536000) (65536000) (FP.ddiv (FP.i2d a) 4611686018427387904) := fIv.div (n := 131072000) (L := 131072) (k := 65536000) b1 fc_4611686018427387904 (by decide +kernel) (by decide +kernel) (by decide +kernel)
  refine lv_ddiv hx hb dX0_shearAll_5 b2.n64 ?_
  refine kSd (rest := []) (kX1_slope l G cI cZ cJ cD (FP.ddiv (FP.i2d a) 4611686018427387904) ((b2.weak (by decide +kernel) (by decide +kernel) (by decide +kernel) (by decide +kernel)))) ⟨hx, hb, hml, hown, hts⟩ (va_cwS 1 hts gX0_shearAll_X1_slope rfl rfl rfl hs_X1_slope ⟨Nat.le_of_ble_eq_true rfl, Nat.le_of_ble_eq_true rfl⟩) hK hP hD hS hA rfl hl.1 rfl (Nat.le_of_ble_eq_true rfl) dX0_shearAll_6 ⟨Nat.le_of_ble_eq_true rfl, Nat.le_of_ble_eq_true rfl⟩ rfl rfl (fun H locs hP hD hS => ?_)
  have b3 : fIv (-23855) (23855) (slopeF (FP.ddiv (FP.i2d a) 4611686018427387904)) := fSlope ((b2.weak (by decide +kernel) (by decide +kernel) (by decide +kernel) (by decide +kernel)))
  refine lv_dstore_n (lv' := [(3, .double (slopeF (FP.ddiv (FP.i2d a) 4611686018427387904))), (0, .ref h0), (1, .int a), (2, .int dir)]) hx hb dX0_shearAll_9 rfl hl (by decide) rfl (fun ls hl => ?_)
  refine lv_iload_n hx hb dX0_shearAll_10 rfl (lv_at hl 2 rfl) ?_
  refine lv_i2d hx hb dX0_shearAll_11 ?_
  refine kSd (rest := []) (kX1_sine l G cI cZ cJ cD (FP.i2d a) b1) ⟨hx, hb, hml, hown, hts⟩ (va_cwS 1 hts gX0_shearAll_X1_sine rfl rfl rfl hs_X1_sine ⟨Nat.le_of_ble_eq_true rfl, Nat.le_of_ble_eq_true rfl⟩) hK hP hD hS hA rfl hl.1 rfl (Nat.le_of_ble_eq_true rfl) dX0_shearAll_12 ⟨Nat.le_of_ble_eq_true rfl, Nat.le_of_ble_eq_true rfl⟩ rfl rfl (fun H locs hP hD hS => ?_)
  have b4 : fIv (-23345) (23345) (sineF (FP.i2d a)) := fSine b1
  refine lv_dstore (lv' := [(5, .double (sineF (FP.i2d a))), (3, .double (slopeF (FP.ddiv (FP.i2d a) 4611686018427387904))), (0, .ref h0), (1, .int a), (2, .int dir)]) hx hb dX0_shearAll_15 hl (by decide) rfl (fun ls hl => ?_)
  refine lv_aload_n hx hb dX0_shearAll_17 rfl (lv_at hl 2 rfl) ?_
  refine lv_dload_n hx hb dX0_shearAll_18 rfl (lv_at hl 1 rfl) ?_
  refine lv_iload_n hx hb dX0_shearAll_19 rfl (lv_at hl 4 rfl) ?_
  refine kVv (w' := [(h0, .inr (0, [.int (nI w), .int (nI h), .double (midF w), .double (midF h), .ref q1, .ref q2])), (q1, .inl (cI, 24, .inl (shrR w h (slopeF (FP.ddiv (FP.i2d a) 4611686018427387904)) dir B))), (q2, .inl (cI, 24, .inl O))]) (wr := []) (isC := [0, 1, 2]) (isR := []) (pm := [0, 1, 2]) (rest := []) (kX0_shearRows l G cI cZ cJ cD h0 q1 q2 w h hw hh B O (slopeF (FP.ddiv (FP.i2d a) 4611686018427387904)) b3 dir) ⟨hx, hb, hml, hown, hts⟩ (cwV 2 hts gX0_shearAll_X0_shearRows rfl rfl rfl hd_X0_shearRows ⟨Nat.le_of_ble_eq_true rfl, Nat.le_of_ble_eq_true rfl⟩) hK hP hD hS hA ⟨rfl, rfl, rfl, by decide, rfl, rfl, rfl⟩ 0 0 rfl rfl rfl hl.1 rfl (Nat.le_of_ble_eq_true rfl) dX0_shearAll_20 ⟨Nat.le_of_ble_eq_true rfl, Nat.le_of_ble_eq_true rfl⟩ rfl rfl (fun H locs hP hD hS => ?_)
  refine lv_aload_n hx hb dX0_shearAll_23 rfl (lv_at hl 2 rfl) ?_
  refine lv_dload hx hb dX0_shearAll_24 (lv_at hl 0 rfl) ?_
  refine lv_iload_n hx hb dX0_shearAll_26 rfl (lv_at hl 4 rfl) ?_
  refine kVv (w' := [(h0, .inr (0, [.int (nI w), .int (nI h), .double (midF w), .double (midF h), .ref q1, .ref q2])), (q1, .inl (cI, 24, .inl (shrC w h (sineF (FP.i2d a)) dir (shrR w h (slopeF (FP.ddiv (FP.i2d a) 4611686018427387904)) dir B) O))), (q2, .inl (cI, 24, .inl (keepN (shrR w h (slopeF (FP.ddiv (FP.i2d a) 4611686018427387904)) dir B) O)))]) (wr := []) (isC := [0, 1, 2]) (isR := []) (pm := [0, 1, 2]) (rest := []) (kX0_shearColumns l G cI cZ cJ cD h0 q1 q2 w h hw hh (shrR w h (slopeF (FP.ddiv (FP.i2d a) 4611686018427387904)) dir B) O (sineF (FP.i2d a)) ((b4.weak (by decide +kernel) (by decide +kernel) (by decide +kernel) (by decide +kernel))) dir) ⟨hx, hb, hml, hown, hts⟩ (cwV 2 hts gX0_shearAll_X0_shearColumns rfl rfl rfl hd_X0_shearColumns ⟨Nat.le_of_ble_eq_true rfl, Nat.le_of_ble_eq_true rfl⟩) hK hP hD hS hA ⟨rfl, rfl, rfl, by decide, rfl, rfl, rfl⟩ 0 0 rfl rfl rfl hl.1 rfl (Nat.le_of_ble_eq_true rfl) dX0_shearAll_27 ⟨Nat.le_of_ble_eq_true rfl, Nat.le_of_ble_eq_true rfl⟩ rfl rfl (fun H locs hP hD hS => ?_)
  refine lv_aload_n hx hb dX0_shearAll_30 rfl (lv_at hl 2 rfl) ?_
  refine lv_dload_n hx hb dX0_shearAll_31 rfl (lv_at hl 1 rfl) ?_
  refine lv_iload_n hx hb dX0_shearAll_32 rfl (lv_at hl 4 rfl) ?_
  refine kVv (w' := [(h0, .inr (0, [.int (nI w), .int (nI h), .double (midF w), .double (midF h), .ref q1, .ref q2])), (q1, .inl (cI, 24, .inl (shrR w h (slopeF (FP.ddiv (FP.i2d a) 4611686018427387904)) dir (shrC w h (sineF (FP.i2d a)) dir (shrR w h (slopeF (FP.ddiv (FP.i2d a) 4611686018427387904)) dir B) O)))), (q2, .inl (cI, 24, .inl (keepN (shrR w h (slopeF (FP.ddiv (FP.i2d a) 4611686018427387904)) dir B) O)))]) (wr := []) (isC := [0, 1, 2]) (isR := []) (pm := [0, 1, 2]) (rest := []) (kX0_shearRows l G cI cZ cJ cD h0 q1 q2 w h hw hh (shrC w h (sineF (FP.i2d a)) dir (shrR w h (slopeF (FP.ddiv (FP.i2d a) 4611686018427387904)) dir B) O) (keepN (shrR w h (slopeF (FP.ddiv (FP.i2d a) 4611686018427387904)) dir B) O) (slopeF (FP.ddiv (FP.i2d a) 4611686018427387904)) b3 dir) ⟨hx, hb, hml, hown, hts⟩ (cwV 2 hts gX0_shearAll_X0_shearRows rfl rfl rfl hd_X0_shearRows ⟨Nat.le_of_ble_eq_true rfl, Nat.le_of_ble_eq_true rfl⟩) hK hP hD hS hA ⟨rfl, rfl, rfl, by decide, rfl, rfl, rfl⟩ 0 0 rfl rfl rfl hl.1 rfl (Nat.le_of_ble_eq_true rfl) dX0_shearAll_33 ⟨Nat.le_of_ble_eq_true rfl, Nat.le_of_ble_eq_true rfl⟩ rfl rfl (fun H locs hP hD hS => ?_)
  exact hend _ _ _ _ _ dX0_shearAll_36 hP hD hS rfl
abbrev rmX0_turnByShears : Room := { frames := 5, cells := 0, slots := 0, locals := 117 }
set_option maxRecDepth 100000 in
set_option maxHeartbeats 4000000 in
theorem kX0_turnByShears (l : Launch) (G : va_G) (cI cZ cJ cD : ClassId) (h0 q1 q2 w h : Nat) (hw : w ≤ 24) (hh : h ≤ 24) (B O : Nat → Int32) (a : Int32) (ha1 : -2000 ≤ a.toInt) (ha2 : a.toInt ≤ 2000) : Cv l G (kTy cI cZ cJ cD) yX0_turnByShears wsX0_turnByShears rmX0_turnByShears [.ref h0, .int a] [(h0, .inr (0, [.int (nI w), .int (nI h), .double (midF w), .double (midF h), .ref q1, .ref q2])), (q1, .inl (cI, 24, .inl B)), (q2, .inl (cI, 24, .inl O))] [(h0, .inr (0, [.int (nI w), .int (nI h), .double (midF w), .double (midF h), .ref q1, .ref q2])), (q1, .inl (cI, 24, .inl (shrAB w h a 1 B O))), (q2, .inl (cI, 24, .inl (shrAO w h a 1 B O)))] := by
  refine Cv.of rfl rfl (cc := cX0_turnByShears) (maxL := 2) (plainFor_of_name (by decide)) rfl (Nat.le_of_ble_eq_true rfl) rfl ?_
  intro p e s m args below meth c A Q hx hb hml hts hown hA hK hP hD hS hend ls hl
  refine lv_aload_n hx hb dX0_turnByShears_0 rfl (lv_at hl 0 rfl) ?_
  refine lv_iload_n hx hb dX0_turnByShears_1 rfl (lv_at hl 1 rfl) ?_
  refine lv_iconst (v := 1) hx hb dX0_turnByShears_2 (by decide) ?_
  refine kVv (w' := [(h0, .inr (0, [.int (nI w), .int (nI h), .double (midF w), .double (midF h), .ref q1, .ref q2])), (q1, .inl (cI, 24, .inl (shrAB w h a 1 B O))), (q2, .inl (cI, 24, .inl (shrAO w h a 1 B O)))]) (wr := []) (isC := [0, 1, 2]) (isR := []) (pm := [0, 1, 2]) (rest := []) (kX0_shearAll l G cI cZ cJ cD h0 q1 q2 w h hw hh B O a ha1 ha2 1) ⟨hx, hb, hml, hown, hts⟩ (cwV 2 hts gX0_turnByShears_X0_shearAll rfl rfl rfl hd_X0_shearAll ⟨Nat.le_of_ble_eq_true rfl, Nat.le_of_ble_eq_true rfl⟩) hK hP hD hS hA ⟨rfl, rfl, rfl, by decide, rfl, rfl, rfl⟩ 0 0 rfl rfl rfl hl.1 rfl (Nat.le_of_ble_eq_true rfl) dX0_turnByShears_3 ⟨Nat.le_of_ble_eq_true rfl, Nat.le_of_ble_eq_true rfl⟩ rfl rfl (fun H locs hP hD hS => ?_)
  exact hend _ _ _ _ _ dX0_turnByShears_6 hP hD hS rfl
abbrev rmX0_turnBackByShears : Room := { frames := 5, cells := 0, slots := 0, locals := 117 }
set_option maxRecDepth 100000 in
set_option maxHeartbeats 4000000 in
theorem kX0_turnBackByShears (l : Launch) (G : va_G) (cI cZ cJ cD : ClassId) (h0 q1 q2 w h : Nat) (hw : w ≤ 24) (hh : h ≤ 24) (B O : Nat → Int32) (a : Int32) (ha1 : -2000 ≤ a.toInt) (ha2 : a.toInt ≤ 2000) : Cv l G (kTy cI cZ cJ cD) yX0_turnBackByShears wsX0_turnBackByShears rmX0_turnBackByShears [.ref h0, .int a] [(h0, .inr (0, [.int (nI w), .int (nI h), .double (midF w), .double (midF h), .ref q1, .ref q2])), (q1, .inl (cI, 24, .inl B)), (q2, .inl (cI, 24, .inl O))] [(h0, .inr (0, [.int (nI w), .int (nI h), .double (midF w), .double (midF h), .ref q1, .ref q2])), (q1, .inl (cI, 24, .inl (shrAB w h a (-1) B O))), (q2, .inl (cI, 24, .inl (shrAO w h a (-1) B O)))] := by
  refine Cv.of rfl rfl (cc := cX0_turnBackByShears) (maxL := 2) (plainFor_of_name (by decide)) rfl (Nat.le_of_ble_eq_true rfl) rfl ?_
  intro p e s m args below meth c A Q hx hb hml hts hown hA hK hP hD hS hend ls hl
  refine lv_aload_n hx hb dX0_turnBackByShears_0 rfl (lv_at hl 0 rfl) ?_
  refine lv_iload_n hx hb dX0_turnBackByShears_1 rfl (lv_at hl 1 rfl) ?_
  refine lv_iconst (v := (-1)) hx hb dX0_turnBackByShears_2 (by decide) ?_
  refine kVv (w' := [(h0, .inr (0, [.int (nI w), .int (nI h), .double (midF w), .double (midF h), .ref q1, .ref q2])), (q1, .inl (cI, 24, .inl (shrAB w h a ((-1)) B O))), (q2, .inl (cI, 24, .inl (shrAO w h a ((-1)) B O)))]) (wr := []) (isC := [0, 1, 2]) (isR := []) (pm := [0, 1, 2]) (rest := []) (kX0_shearAll l G cI cZ cJ cD h0 q1 q2 w h hw hh B O a ha1 ha2 ((-1))) ⟨hx, hb, hml, hown, hts⟩ (cwV 2 hts gX0_turnBackByShears_X0_shearAll rfl rfl rfl hd_X0_shearAll ⟨Nat.le_of_ble_eq_true rfl, Nat.le_of_ble_eq_true rfl⟩) hK hP hD hS hA ⟨rfl, rfl, rfl, by decide, rfl, rfl, rfl⟩ 0 0 rfl rfl rfl hl.1 rfl (Nat.le_of_ble_eq_true rfl) dX0_turnBackByShears_3 ⟨Nat.le_of_ble_eq_true rfl, Nat.le_of_ble_eq_true rfl⟩ rfl rfl (fun H locs hP hD hS => ?_)
  exact hend _ _ _ _ _ dX0_turnBackByShears_6 hP hD hS rfl
end
section
theorem zz_dummy : True := trivial
end
