section
-- ===== PART A: goes FIRST, ahead of the names: the tables' words, and 'selects' of the private methods out of them =====
/-- a private method of a class that the tables say can be made, by its rows of tables_1 -/
def lw_okq (q : MethodName × Nat) : Prop := (q.1.cls ≠ "java/lang/invoke/MethodHandle" ∧ q.1.cls ≠ "java/lang/invoke/VarHandle") ∧ Cond.instantiable q.1.cls q.2 ∈ tables_1 ∧ Cond.privateMethod q.1 ∈ tables_1 ∧ Cond.instanceMethod q.1 ∈ tables_1
theorem lw_p0 : lw_okq (⟨"CallBook", "side", "(Z)LCallBook$Side;"⟩, 9) := ⟨⟨by decide +kernel, by decide +kernel⟩, List.mem_of_getElem? (i := 23) (by decide +kernel), List.mem_of_getElem? (i := 142) (by decide +kernel), List.mem_of_getElem? (i := 143) (by decide +kernel)⟩
theorem lw_p1 : lw_okq (⟨"CallBook", "astrayInLine", "(Z)I"⟩, 9) := ⟨⟨by decide +kernel, by decide +kernel⟩, List.mem_of_getElem? (i := 23) (by decide +kernel), List.mem_of_getElem? (i := 185) (by decide +kernel), List.mem_of_getElem? (i := 186) (by decide +kernel)⟩
theorem lw_p2 : lw_okq (⟨"CallBook", "couldTrade", "(LCallBook$Order;)Z"⟩, 9) := ⟨⟨by decide +kernel, by decide +kernel⟩, List.mem_of_getElem? (i := 23) (by decide +kernel), List.mem_of_getElem? (i := 209) (by decide +kernel), List.mem_of_getElem? (i := 210) (by decide +kernel)⟩
theorem lw_p3 : lw_okq (⟨"CallBook", "astrayOutOfLine", "()I"⟩, 9) := ⟨⟨by decide +kernel, by decide +kernel⟩, List.mem_of_getElem? (i := 23) (by decide +kernel), List.mem_of_getElem? (i := 227) (by decide +kernel), List.mem_of_getElem? (i := 228) (by decide +kernel)⟩
theorem lw_p4 : lw_okq (⟨"java/lang/Throwable", "fillInStackTrace", "(I)Ljava/lang/Throwable;"⟩, 6) := ⟨⟨by decide +kernel, by decide +kernel⟩, List.mem_of_getElem? (i := 291) (by decide +kernel), List.mem_of_getElem? (i := 289) (by decide +kernel), List.mem_of_getElem? (i := 290) (by decide +kernel)⟩
theorem lw_p5 : lw_okq (⟨"java/util/ArrayList", "add", "(Ljava/lang/Object;[Ljava/lang/Object;I)V"⟩, 3) := ⟨⟨by decide +kernel, by decide +kernel⟩, List.mem_of_getElem? (i := 31) (by decide +kernel), List.mem_of_getElem? (i := 396) (by decide +kernel), List.mem_of_getElem? (i := 397) (by decide +kernel)⟩
theorem lw_p6 : lw_okq (⟨"java/util/ArrayList", "grow", "()[Ljava/lang/Object;"⟩, 3) := ⟨⟨by decide +kernel, by decide +kernel⟩, List.mem_of_getElem? (i := 31) (by decide +kernel), List.mem_of_getElem? (i := 400) (by decide +kernel), List.mem_of_getElem? (i := 401) (by decide +kernel)⟩
theorem lw_p7 : lw_okq (⟨"java/util/ArrayList", "grow", "(I)[Ljava/lang/Object;"⟩, 3) := ⟨⟨by decide +kernel, by decide +kernel⟩, List.mem_of_getElem? (i := 31) (by decide +kernel), List.mem_of_getElem? (i := 404) (by decide +kernel), List.mem_of_getElem? (i := 405) (by decide +kernel)⟩
theorem lw_p8 : lw_okq (⟨"CallBook", "come", "(LCallBook$Order;)V"⟩, 9) := ⟨⟨by decide +kernel, by decide +kernel⟩, List.mem_of_getElem? (i := 23) (by decide +kernel), List.mem_of_getElem? (i := 447) (by decide +kernel), List.mem_of_getElem? (i := 448) (by decide +kernel)⟩
theorem lw_p9 : lw_okq (⟨"CallBook", "rest", "(LCallBook$Order;)V"⟩, 9) := ⟨⟨by decide +kernel, by decide +kernel⟩, List.mem_of_getElem? (i := 23) (by decide +kernel), List.mem_of_getElem? (i := 451) (by decide +kernel), List.mem_of_getElem? (i := 452) (by decide +kernel)⟩
theorem lw_p10 : lw_okq (⟨"java/util/ArrayList", "rangeCheckForAdd", "(I)V"⟩, 3) := ⟨⟨by decide +kernel, by decide +kernel⟩, List.mem_of_getElem? (i := 31) (by decide +kernel), List.mem_of_getElem? (i := 466) (by decide +kernel), List.mem_of_getElem? (i := 467) (by decide +kernel)⟩
theorem lw_p11 : lw_okq (⟨"CallBook", "couldGoWhole", "(LCallBook$Order;)Z"⟩, 9) := ⟨⟨by decide +kernel, by decide +kernel⟩, List.mem_of_getElem? (i := 23) (by decide +kernel), List.mem_of_getElem? (i := 471) (by decide +kernel), List.mem_of_getElem? (i := 472) (by decide +kernel)⟩
theorem lw_p12 : lw_okq (⟨"CallBook", "isBeyondBand", "(I)Z"⟩, 9) := ⟨⟨by decide +kernel, by decide +kernel⟩, List.mem_of_getElem? (i := 23) (by decide +kernel), List.mem_of_getElem? (i := 475) (by decide +kernel), List.mem_of_getElem? (i := 476) (by decide +kernel)⟩
theorem lw_p13 : lw_okq (⟨"CallBook", "meet", "(LCallBook$Order;)V"⟩, 9) := ⟨⟨by decide +kernel, by decide +kernel⟩, List.mem_of_getElem? (i := 23) (by decide +kernel), List.mem_of_getElem? (i := 479) (by decide +kernel), List.mem_of_getElem? (i := 480) (by decide +kernel)⟩
theorem lw_p14 : lw_okq (⟨"CallBook", "tradeWithShown", "(LCallBook$Order;LCallBook$Order;)V"⟩, 9) := ⟨⟨by decide +kernel, by decide +kernel⟩, List.mem_of_getElem? (i := 23) (by decide +kernel), List.mem_of_getElem? (i := 483) (by decide +kernel), List.mem_of_getElem? (i := 484) (by decide +kernel)⟩
theorem lw_p15 : lw_okq (⟨"CallBook", "exchange", "(LCallBook$Order;LCallBook$Order;II)V"⟩, 9) := ⟨⟨by decide +kernel, by decide +kernel⟩, List.mem_of_getElem? (i := 23) (by decide +kernel), List.mem_of_getElem? (i := 488) (by decide +kernel), List.mem_of_getElem? (i := 489) (by decide +kernel)⟩
def lw_privs_1 : List (MethodName × Nat) := [(⟨"CallBook", "side", "(Z)LCallBook$Side;"⟩, 9), (⟨"CallBook", "astrayInLine", "(Z)I"⟩, 9), (⟨"CallBook", "couldTrade", "(LCallBook$Order;)Z"⟩, 9), (⟨"CallBook", "astrayOutOfLine", "()I"⟩, 9), (⟨"java/lang/Throwable", "fillInStackTrace", "(I)Ljava/lang/Throwable;"⟩, 6), (⟨"java/util/ArrayList", "add", "(Ljava/lang/Object;[Ljava/lang/Object;I)V"⟩, 3), (⟨"java/util/ArrayList", "grow", "()[Ljava/lang/Object;"⟩, 3), (⟨"java/util/ArrayList", "grow", "(I)[Ljava/lang/Object;"⟩, 3), (⟨"CallBook", "come", "(LCallBook$Order;)V"⟩, 9), (⟨"CallBook", "rest", "(LCallBook$Order;)V"⟩, 9), (⟨"java/util/ArrayList", "rangeCheckForAdd", "(I)V"⟩, 3), (⟨"CallBook", "couldGoWhole", "(LCallBook$Order;)Z"⟩, 9), (⟨"CallBook", "isBeyondBand", "(I)Z"⟩, 9), (⟨"CallBook", "meet", "(LCallBook$Order;)V"⟩, 9), (⟨"CallBook", "tradeWithShown", "(LCallBook$Order;LCallBook$Order;)V"⟩, 9), (⟨"CallBook", "exchange", "(LCallBook$Order;LCallBook$Order;II)V"⟩, 9)]
theorem lw_r1 : ∀ q ∈ lw_privs_1, lw_okq q := List.forall_mem_cons.mpr ⟨lw_p0, List.forall_mem_cons.mpr ⟨lw_p1, List.forall_mem_cons.mpr ⟨lw_p2, List.forall_mem_cons.mpr ⟨lw_p3, List.forall_mem_cons.mpr ⟨lw_p4, List.forall_mem_cons.mpr ⟨lw_p5, List.forall_mem_cons.mpr ⟨lw_p6, List.forall_mem_cons.mpr ⟨lw_p7, List.forall_mem_cons.mpr ⟨lw_p8, List.forall_mem_cons.mpr ⟨lw_p9, List.forall_mem_cons.mpr ⟨lw_p10, List.forall_mem_cons.mpr ⟨lw_p11, List.forall_mem_cons.mpr ⟨lw_p12, List.forall_mem_cons.mpr ⟨lw_p13, List.forall_mem_cons.mpr ⟨lw_p14, List.forall_mem_cons.mpr ⟨lw_p15, fun _ h => absurd h List.not_mem_nil⟩⟩⟩⟩⟩⟩⟩⟩⟩⟩⟩⟩⟩⟩⟩⟩
theorem lw_p16 : lw_okq (⟨"CallBook", "finish", "(LCallBook$Order;)V"⟩, 9) := ⟨⟨by decide +kernel, by decide +kernel⟩, List.mem_of_getElem? (i := 23) (by decide +kernel), List.mem_of_getElem? (i := 524) (by decide +kernel), List.mem_of_getElem? (i := 525) (by decide +kernel)⟩
theorem lw_p17 : lw_okq (⟨"java/util/ArrayList", "fastRemove", "([Ljava/lang/Object;I)V"⟩, 3) := ⟨⟨by decide +kernel, by decide +kernel⟩, List.mem_of_getElem? (i := 31) (by decide +kernel), List.mem_of_getElem? (i := 536) (by decide +kernel), List.mem_of_getElem? (i := 537) (by decide +kernel)⟩
theorem lw_p18 : lw_okq (⟨"CallBook", "known", "(I)LCallBook$Order;"⟩, 9) := ⟨⟨by decide +kernel, by decide +kernel⟩, List.mem_of_getElem? (i := 23) (by decide +kernel), List.mem_of_getElem? (i := 547) (by decide +kernel), List.mem_of_getElem? (i := 548) (by decide +kernel)⟩
theorem lw_p19 : lw_okq (⟨"CallBook$Auction", "weigh", "(IJJI)V"⟩, 3) := ⟨⟨by decide +kernel, by decide +kernel⟩, List.mem_of_getElem? (i := 87) (by decide +kernel), List.mem_of_getElem? (i := 587) (by decide +kernel), List.mem_of_getElem? (i := 588) (by decide +kernel)⟩
theorem lw_p20 : lw_okq (⟨"CallBook$Auction", "isBetter", "(IJJI)Z"⟩, 3) := ⟨⟨by decide +kernel, by decide +kernel⟩, List.mem_of_getElem? (i := 87) (by decide +kernel), List.mem_of_getElem? (i := 594) (by decide +kernel), List.mem_of_getElem? (i := 595) (by decide +kernel)⟩
theorem lw_p21 : lw_okq (⟨"CallBook", "tradeAtOnePrice", "(IJ)V"⟩, 9) := ⟨⟨by decide +kernel, by decide +kernel⟩, List.mem_of_getElem? (i := 23) (by decide +kernel), List.mem_of_getElem? (i := 602) (by decide +kernel), List.mem_of_getElem? (i := 603) (by decide +kernel)⟩
theorem lw_p22 : lw_okq (⟨"CallBook", "finishIfNothingLeft", "(LCallBook$Order;)V"⟩, 9) := ⟨⟨by decide +kernel, by decide +kernel⟩, List.mem_of_getElem? (i := 23) (by decide +kernel), List.mem_of_getElem? (i := 607) (by decide +kernel), List.mem_of_getElem? (i := 608) (by decide +kernel)⟩
theorem lw_p23 : lw_okq (⟨"CallBook", "startGoingOn", "(LCallBook$Order;)V"⟩, 9) := ⟨⟨by decide +kernel, by decide +kernel⟩, List.mem_of_getElem? (i := 23) (by decide +kernel), List.mem_of_getElem? (i := 611) (by decide +kernel), List.mem_of_getElem? (i := 612) (by decide +kernel)⟩
theorem lw_p24 : lw_okq (⟨"CallBookModel", "comes", "(I)Z"⟩, 26) := ⟨⟨by decide +kernel, by decide +kernel⟩, List.mem_of_getElem? (i := 643) (by decide +kernel), List.mem_of_getElem? (i := 746) (by decide +kernel), List.mem_of_getElem? (i := 747) (by decide +kernel)⟩
theorem lw_p25 : lw_okq (⟨"CallBookModel", "isCovered", "(I)Z"⟩, 26) := ⟨⟨by decide +kernel, by decide +kernel⟩, List.mem_of_getElem? (i := 643) (by decide +kernel), List.mem_of_getElem? (i := 750) (by decide +kernel), List.mem_of_getElem? (i := 751) (by decide +kernel)⟩
theorem lw_p26 : lw_okq (⟨"CallBookModel", "rests", "(I)Z"⟩, 26) := ⟨⟨by decide +kernel, by decide +kernel⟩, List.mem_of_getElem? (i := 643) (by decide +kernel), List.mem_of_getElem? (i := 754) (by decide +kernel), List.mem_of_getElem? (i := 755) (by decide +kernel)⟩
theorem lw_p27 : lw_okq (⟨"CallBookModel", "takes", "(II)Z"⟩, 26) := ⟨⟨by decide +kernel, by decide +kernel⟩, List.mem_of_getElem? (i := 643) (by decide +kernel), List.mem_of_getElem? (i := 758) (by decide +kernel), List.mem_of_getElem? (i := 759) (by decide +kernel)⟩
theorem lw_p28 : lw_okq (⟨"CallBookModel", "isCut", "(II)Z"⟩, 26) := ⟨⟨by decide +kernel, by decide +kernel⟩, List.mem_of_getElem? (i := 643) (by decide +kernel), List.mem_of_getElem? (i := 762) (by decide +kernel), List.mem_of_getElem? (i := 763) (by decide +kernel)⟩
theorem lw_p29 : lw_okq (⟨"CallBookModel", "isBeyond", "(I)Z"⟩, 26) := ⟨⟨by decide +kernel, by decide +kernel⟩, List.mem_of_getElem? (i := 643) (by decide +kernel), List.mem_of_getElem? (i := 766) (by decide +kernel), List.mem_of_getElem? (i := 767) (by decide +kernel)⟩
theorem lw_p30 : lw_okq (⟨"CallBookModel", "isBefore", "(II)Z"⟩, 26) := ⟨⟨by decide +kernel, by decide +kernel⟩, List.mem_of_getElem? (i := 643) (by decide +kernel), List.mem_of_getElem? (i := 773) (by decide +kernel), List.mem_of_getElem? (i := 774) (by decide +kernel)⟩
theorem lw_p31 : lw_okq (⟨"CallBookModel", "meet", "(I)V"⟩, 26) := ⟨⟨by decide +kernel, by decide +kernel⟩, List.mem_of_getElem? (i := 643) (by decide +kernel), List.mem_of_getElem? (i := 777) (by decide +kernel), List.mem_of_getElem? (i := 778) (by decide +kernel)⟩
def lw_privs_2 : List (MethodName × Nat) := [(⟨"CallBook", "finish", "(LCallBook$Order;)V"⟩, 9), (⟨"java/util/ArrayList", "fastRemove", "([Ljava/lang/Object;I)V"⟩, 3), (⟨"CallBook", "known", "(I)LCallBook$Order;"⟩, 9), (⟨"CallBook$Auction", "weigh", "(IJJI)V"⟩, 3), (⟨"CallBook$Auction", "isBetter", "(IJJI)Z"⟩, 3), (⟨"CallBook", "tradeAtOnePrice", "(IJ)V"⟩, 9), (⟨"CallBook", "finishIfNothingLeft", "(LCallBook$Order;)V"⟩, 9), (⟨"CallBook", "startGoingOn", "(LCallBook$Order;)V"⟩, 9), (⟨"CallBookModel", "comes", "(I)Z"⟩, 26), (⟨"CallBookModel", "isCovered", "(I)Z"⟩, 26), (⟨"CallBookModel", "rests", "(I)Z"⟩, 26), (⟨"CallBookModel", "takes", "(II)Z"⟩, 26), (⟨"CallBookModel", "isCut", "(II)Z"⟩, 26), (⟨"CallBookModel", "isBeyond", "(I)Z"⟩, 26), (⟨"CallBookModel", "isBefore", "(II)Z"⟩, 26), (⟨"CallBookModel", "meet", "(I)V"⟩, 26)]
theorem lw_r2 : ∀ q ∈ lw_privs_2, lw_okq q := List.forall_mem_cons.mpr ⟨lw_p16, List.forall_mem_cons.mpr ⟨lw_p17, List.forall_mem_cons.mpr ⟨lw_p18, List.forall_mem_cons.mpr ⟨lw_p19, List.forall_mem_cons.mpr ⟨lw_p20, List.forall_mem_cons.mpr ⟨lw_p21, List.forall_mem_cons.mpr ⟨lw_p22, List.forall_mem_cons.mpr ⟨lw_p23, List.forall_mem_cons.mpr ⟨lw_p24, List.forall_mem_cons.mpr ⟨lw_p25, List.forall_mem_cons.mpr ⟨lw_p26, List.forall_mem_cons.mpr ⟨lw_p27, List.forall_mem_cons.mpr ⟨lw_p28, List.forall_mem_cons.mpr ⟨lw_p29, List.forall_mem_cons.mpr ⟨lw_p30, List.forall_mem_cons.mpr ⟨lw_p31, fun _ h => absurd h List.not_mem_nil⟩⟩⟩⟩⟩⟩⟩⟩⟩⟩⟩⟩⟩⟩⟩⟩
theorem lw_p32 : lw_okq (⟨"CallBookModel", "firstOf", "(Z)I"⟩, 26) := ⟨⟨by decide +kernel, by decide +kernel⟩, List.mem_of_getElem? (i := 643) (by decide +kernel), List.mem_of_getElem? (i := 781) (by decide +kernel), List.mem_of_getElem? (i := 782) (by decide +kernel)⟩
theorem lw_p33 : lw_okq (⟨"CallBookModel", "deal", "(IIII)V"⟩, 26) := ⟨⟨by decide +kernel, by decide +kernel⟩, List.mem_of_getElem? (i := 643) (by decide +kernel), List.mem_of_getElem? (i := 785) (by decide +kernel), List.mem_of_getElem? (i := 786) (by decide +kernel)⟩
theorem lw_p34 : lw_okq (⟨"CallBookModel", "end", "(I)V"⟩, 26) := ⟨⟨by decide +kernel, by decide +kernel⟩, List.mem_of_getElem? (i := 643) (by decide +kernel), List.mem_of_getElem? (i := 789) (by decide +kernel), List.mem_of_getElem? (i := 790) (by decide +kernel)⟩
theorem lw_p35 : lw_okq (⟨"CallBookModel", "comeToRest", "(I)V"⟩, 26) := ⟨⟨by decide +kernel, by decide +kernel⟩, List.mem_of_getElem? (i := 643) (by decide +kernel), List.mem_of_getElem? (i := 793) (by decide +kernel), List.mem_of_getElem? (i := 794) (by decide +kernel)⟩
theorem lw_p36 : lw_okq (⟨"CallBookModel", "show", "(I)V"⟩, 26) := ⟨⟨by decide +kernel, by decide +kernel⟩, List.mem_of_getElem? (i := 643) (by decide +kernel), List.mem_of_getElem? (i := 797) (by decide +kernel), List.mem_of_getElem? (i := 798) (by decide +kernel)⟩
theorem lw_p37 : lw_okq (⟨"CallBookModel", "isOrder", "(I)Z"⟩, 26) := ⟨⟨by decide +kernel, by decide +kernel⟩, List.mem_of_getElem? (i := 643) (by decide +kernel), List.mem_of_getElem? (i := 805) (by decide +kernel), List.mem_of_getElem? (i := 806) (by decide +kernel)⟩
theorem lw_p38 : lw_okq (⟨"CallBookModel", "clear", "()V"⟩, 26) := ⟨⟨by decide +kernel, by decide +kernel⟩, List.mem_of_getElem? (i := 643) (by decide +kernel), List.mem_of_getElem? (i := 821) (by decide +kernel), List.mem_of_getElem? (i := 822) (by decide +kernel)⟩
theorem lw_p39 : lw_okq (⟨"CallBookModel", "sumUp", "()V"⟩, 26) := ⟨⟨by decide +kernel, by decide +kernel⟩, List.mem_of_getElem? (i := 643) (by decide +kernel), List.mem_of_getElem? (i := 825) (by decide +kernel), List.mem_of_getElem? (i := 826) (by decide +kernel)⟩
def lw_privs_3 : List (MethodName × Nat) := [(⟨"CallBookModel", "firstOf", "(Z)I"⟩, 26), (⟨"CallBookModel", "deal", "(IIII)V"⟩, 26), (⟨"CallBookModel", "end", "(I)V"⟩, 26), (⟨"CallBookModel", "comeToRest", "(I)V"⟩, 26), (⟨"CallBookModel", "show", "(I)V"⟩, 26), (⟨"CallBookModel", "isOrder", "(I)Z"⟩, 26), (⟨"CallBookModel", "clear", "()V"⟩, 26), (⟨"CallBookModel", "sumUp", "()V"⟩, 26)]
theorem lw_r3 : ∀ q ∈ lw_privs_3, lw_okq q := List.forall_mem_cons.mpr ⟨lw_p32, List.forall_mem_cons.mpr ⟨lw_p33, List.forall_mem_cons.mpr ⟨lw_p34, List.forall_mem_cons.mpr ⟨lw_p35, List.forall_mem_cons.mpr ⟨lw_p36, List.forall_mem_cons.mpr ⟨lw_p37, List.forall_mem_cons.mpr ⟨lw_p38, List.forall_mem_cons.mpr ⟨lw_p39, fun _ h => absurd h List.not_mem_nil⟩⟩⟩⟩⟩⟩⟩⟩
def lw_privs : List (MethodName × Nat) := lw_privs_1 ++ (lw_privs_2 ++ (lw_privs_3))
def lw_tbl : List Cond := k2_sels lw_privs ++ tables_1
theorem lw_privs_ok : ∀ q ∈ lw_privs, lw_okq q := by
  show ∀ q ∈ lw_privs_1 ++ (lw_privs_2 ++ (lw_privs_3)), lw_okq q
  exact List.forall_mem_append.mpr ⟨lw_r1, List.forall_mem_append.mpr ⟨lw_r2, lw_r3⟩⟩
end
section
/-! The words: one list for every method -/
def GG : List Cond := lw_tbl.filter goodWord
theorem gw (i : Nat) {w : Cond} (h : lw_tbl[i]? = some w) (hg : goodWord w = true) : w ∈ GG := List.mem_filter.mpr ⟨List.mem_of_getElem? h, hg⟩
theorem g0 : Cond.selects "CallBook" ⟨"CallBook", "side", "(Z)LCallBook$Side;"⟩ ⟨"CallBook", "side", "(Z)LCallBook$Side;"⟩ ∈ GG := gw 0 (by decide +kernel) rfl
theorem g1 : Cond.selects "CallBook" ⟨"CallBook", "astrayInLine", "(Z)I"⟩ ⟨"CallBook", "astrayInLine", "(Z)I"⟩ ∈ GG := gw 1 (by decide +kernel) rfl
theorem g2 : Cond.selects "CallBook" ⟨"CallBook", "couldTrade", "(LCallBook$Order;)Z"⟩ ⟨"CallBook", "couldTrade", "(LCallBook$Order;)Z"⟩ ∈ GG := gw 2 (by decide +kernel) rfl
theorem g3 : Cond.selects "CallBook" ⟨"CallBook", "astrayOutOfLine", "()I"⟩ ⟨"CallBook", "astrayOutOfLine", "()I"⟩ ∈ GG := gw 3 (by decide +kernel) rfl
theorem g4 : Cond.selects "java/lang/Throwable" ⟨"java/lang/Throwable", "fillInStackTrace", "(I)Ljava/lang/Throwable;"⟩ ⟨"java/lang/Throwable", "fillInStackTrace", "(I)Ljava/lang/Throwable;"⟩ ∈ GG := gw 4 (by decide +kernel) rfl
theorem g5 : Cond.selects "java/util/ArrayList" ⟨"java/util/ArrayList", "add", "(Ljava/lang/Object;[Ljava/lang/Object;I)V"⟩ ⟨"java/util/ArrayList", "add", "(Ljava/lang/Object;[Ljava/lang/Object;I)V"⟩ ∈ GG := gw 5 (by decide +kernel) rfl
theorem g6 : Cond.selects "java/util/ArrayList" ⟨"java/util/ArrayList", "grow", "()[Ljava/lang/Object;"⟩ ⟨"java/util/ArrayList", "grow", "()[Ljava/lang/Object;"⟩ ∈ GG := gw 6 (by decide +kernel) rfl
theorem g7 : Cond.selects "java/util/ArrayList" ⟨"java/util/ArrayList", "grow", "(I)[Ljava/lang/Object;"⟩ ⟨"java/util/ArrayList", "grow", "(I)[Ljava/lang/Object;"⟩ ∈ GG := gw 7 (by decide +kernel) rfl
theorem g8 : Cond.selects "CallBook" ⟨"CallBook", "come", "(LCallBook$Order;)V"⟩ ⟨"CallBook", "come", "(LCallBook$Order;)V"⟩ ∈ GG := gw 8 (by decide +kernel) rfl
theorem g9 : Cond.selects "CallBook" ⟨"CallBook", "rest", "(LCallBook$Order;)V"⟩ ⟨"CallBook", "rest", "(LCallBook$Order;)V"⟩ ∈ GG := gw 9 (by decide +kernel) rfl
theorem g10 : Cond.selects "java/util/ArrayList" ⟨"java/util/ArrayList", "rangeCheckForAdd", "(I)V"⟩ ⟨"java/util/ArrayList", "rangeCheckForAdd", "(I)V"⟩ ∈ GG := gw 10 (by decide +kernel) rfl
theorem g11 : Cond.selects "CallBook" ⟨"CallBook", "couldGoWhole", "(LCallBook$Order;)Z"⟩ ⟨"CallBook", "couldGoWhole", "(LCallBook$Order;)Z"⟩ ∈ GG := gw 11 (by decide +kernel) rfl
theorem g12 : Cond.selects "CallBook" ⟨"CallBook", "isBeyondBand", "(I)Z"⟩ ⟨"CallBook", "isBeyondBand", "(I)Z"⟩ ∈ GG := gw 12 (by decide +kernel) rfl
theorem g13 : Cond.selects "CallBook" ⟨"CallBook", "meet", "(LCallBook$Order;)V"⟩ ⟨"CallBook", "meet", "(LCallBook$Order;)V"⟩ ∈ GG := gw 13 (by decide +kernel) rfl
theorem g14 : Cond.selects "CallBook" ⟨"CallBook", "tradeWithShown", "(LCallBook$Order;LCallBook$Order;)V"⟩ ⟨"CallBook", "tradeWithShown", "(LCallBook$Order;LCallBook$Order;)V"⟩ ∈ GG := gw 14 (by decide +kernel) rfl
theorem g15 : Cond.selects "CallBook" ⟨"CallBook", "exchange", "(LCallBook$Order;LCallBook$Order;II)V"⟩ ⟨"CallBook", "exchange", "(LCallBook$Order;LCallBook$Order;II)V"⟩ ∈ GG := gw 15 (by decide +kernel) rfl
theorem g16 : Cond.selects "CallBook" ⟨"CallBook", "finish", "(LCallBook$Order;)V"⟩ ⟨"CallBook", "finish", "(LCallBook$Order;)V"⟩ ∈ GG := gw 16 (by decide +kernel) rfl
theorem g17 : Cond.selects "java/util/ArrayList" ⟨"java/util/ArrayList", "fastRemove", "([Ljava/lang/Object;I)V"⟩ ⟨"java/util/ArrayList", "fastRemove", "([Ljava/lang/Object;I)V"⟩ ∈ GG := gw 17 (by decide +kernel) rfl
theorem g18 : Cond.selects "CallBook" ⟨"CallBook", "known", "(I)LCallBook$Order;"⟩ ⟨"CallBook", "known", "(I)LCallBook$Order;"⟩ ∈ GG := gw 18 (by decide +kernel) rfl
theorem g19 : Cond.selects "CallBook$Auction" ⟨"CallBook$Auction", "weigh", "(IJJI)V"⟩ ⟨"CallBook$Auction", "weigh", "(IJJI)V"⟩ ∈ GG := gw 19 (by decide +kernel) rfl
theorem g20 : Cond.selects "CallBook$Auction" ⟨"CallBook$Auction", "isBetter", "(IJJI)Z"⟩ ⟨"CallBook$Auction", "isBetter", "(IJJI)Z"⟩ ∈ GG := gw 20 (by decide +kernel) rfl
theorem g21 : Cond.selects "CallBook" ⟨"CallBook", "tradeAtOnePrice", "(IJ)V"⟩ ⟨"CallBook", "tradeAtOnePrice", "(IJ)V"⟩ ∈ GG := gw 21 (by decide +kernel) rfl
theorem g22 : Cond.selects "CallBook" ⟨"CallBook", "finishIfNothingLeft", "(LCallBook$Order;)V"⟩ ⟨"CallBook", "finishIfNothingLeft", "(LCallBook$Order;)V"⟩ ∈ GG := gw 22 (by decide +kernel) rfl
theorem g23 : Cond.selects "CallBook" ⟨"CallBook", "startGoingOn", "(LCallBook$Order;)V"⟩ ⟨"CallBook", "startGoingOn", "(LCallBook$Order;)V"⟩ ∈ GG := gw 23 (by decide +kernel) rfl
theorem g24 : Cond.selects "CallBookModel" ⟨"CallBookModel", "comes", "(I)Z"⟩ ⟨"CallBookModel", "comes", "(I)Z"⟩ ∈ GG := gw 24 (by decide +kernel) rfl
theorem g25 : Cond.selects "CallBookModel" ⟨"CallBookModel", "isCovered", "(I)Z"⟩ ⟨"CallBookModel", "isCovered", "(I)Z"⟩ ∈ GG := gw 25 (by decide +kernel) rfl
theorem g26 : Cond.selects "CallBookModel" ⟨"CallBookModel", "rests", "(I)Z"⟩ ⟨"CallBookModel", "rests", "(I)Z"⟩ ∈ GG := gw 26 (by decide +kernel) rfl
theorem g27 : Cond.selects "CallBookModel" ⟨"CallBookModel", "takes", "(II)Z"⟩ ⟨"CallBookModel", "takes", "(II)Z"⟩ ∈ GG := gw 27 (by decide +kernel) rfl
theorem g28 : Cond.selects "CallBookModel" ⟨"CallBookModel", "isCut", "(II)Z"⟩ ⟨"CallBookModel", "isCut", "(II)Z"⟩ ∈ GG := gw 28 (by decide +kernel) rfl
theorem g29 : Cond.selects "CallBookModel" ⟨"CallBookModel", "isBeyond", "(I)Z"⟩ ⟨"CallBookModel", "isBeyond", "(I)Z"⟩ ∈ GG := gw 29 (by decide +kernel) rfl
theorem g30 : Cond.selects "CallBookModel" ⟨"CallBookModel", "isBefore", "(II)Z"⟩ ⟨"CallBookModel", "isBefore", "(II)Z"⟩ ∈ GG := gw 30 (by decide +kernel) rfl
theorem g31 : Cond.selects "CallBookModel" ⟨"CallBookModel", "meet", "(I)V"⟩ ⟨"CallBookModel", "meet", "(I)V"⟩ ∈ GG := gw 31 (by decide +kernel) rfl
theorem g32 : Cond.selects "CallBookModel" ⟨"CallBookModel", "firstOf", "(Z)I"⟩ ⟨"CallBookModel", "firstOf", "(Z)I"⟩ ∈ GG := gw 32 (by decide +kernel) rfl
theorem g33 : Cond.selects "CallBookModel" ⟨"CallBookModel", "deal", "(IIII)V"⟩ ⟨"CallBookModel", "deal", "(IIII)V"⟩ ∈ GG := gw 33 (by decide +kernel) rfl
theorem g34 : Cond.selects "CallBookModel" ⟨"CallBookModel", "end", "(I)V"⟩ ⟨"CallBookModel", "end", "(I)V"⟩ ∈ GG := gw 34 (by decide +kernel) rfl
theorem g35 : Cond.selects "CallBookModel" ⟨"CallBookModel", "comeToRest", "(I)V"⟩ ⟨"CallBookModel", "comeToRest", "(I)V"⟩ ∈ GG := gw 35 (by decide +kernel) rfl
theorem g36 : Cond.selects "CallBookModel" ⟨"CallBookModel", "show", "(I)V"⟩ ⟨"CallBookModel", "show", "(I)V"⟩ ∈ GG := gw 36 (by decide +kernel) rfl
theorem g37 : Cond.selects "CallBookModel" ⟨"CallBookModel", "isOrder", "(I)Z"⟩ ⟨"CallBookModel", "isOrder", "(I)Z"⟩ ∈ GG := gw 37 (by decide +kernel) rfl
theorem g38 : Cond.selects "CallBookModel" ⟨"CallBookModel", "clear", "()V"⟩ ⟨"CallBookModel", "clear", "()V"⟩ ∈ GG := gw 38 (by decide +kernel) rfl
theorem g39 : Cond.selects "CallBookModel" ⟨"CallBookModel", "sumUp", "()V"⟩ ⟨"CallBookModel", "sumUp", "()V"⟩ ∈ GG := gw 39 (by decide +kernel) rfl
theorem g40 : Cond.initialized "CallBookLaw" ∈ GG := gw 40 (by decide +kernel) rfl
theorem g41 : Cond.initialized "CallBook" ∈ GG := gw 41 (by decide +kernel) rfl
theorem g42 : Cond.initialized "java/util/AbstractCollection" ∈ GG := gw 42 (by decide +kernel) rfl
theorem g43 : Cond.initialized "java/util/AbstractList" ∈ GG := gw 43 (by decide +kernel) rfl
theorem g44 : Cond.initialized "java/util/ArrayList" ∈ GG := gw 44 (by decide +kernel) rfl
theorem g45 : Cond.initialized "CallBook$Side" ∈ GG := gw 45 (by decide +kernel) rfl
theorem g46 : Cond.initialized "CallBook$TradeLog" ∈ GG := gw 46 (by decide +kernel) rfl
theorem g47 : Cond.initialized "CallBook$Auction" ∈ GG := gw 47 (by decide +kernel) rfl
theorem g48 : Cond.initialized "CallBookModel" ∈ GG := gw 48 (by decide +kernel) rfl
theorem g49 : Cond.initialized "java/lang/Throwable" ∈ GG := gw 49 (by decide +kernel) rfl
theorem g50 : Cond.initialized "java/lang/Exception" ∈ GG := gw 50 (by decide +kernel) rfl
theorem g51 : Cond.initialized "java/lang/RuntimeException" ∈ GG := gw 51 (by decide +kernel) rfl
theorem g52 : Cond.initialized "java/lang/IllegalArgumentException" ∈ GG := gw 52 (by decide +kernel) rfl
theorem g53 : Cond.initialized "java/lang/IllegalStateException" ∈ GG := gw 53 (by decide +kernel) rfl
theorem g54 : Cond.initialized "CallBook$Order" ∈ GG := gw 54 (by decide +kernel) rfl
theorem g55 : Cond.initialized "jdk/internal/util/ArraysSupport" ∈ GG := gw 55 (by decide +kernel) rfl
theorem g56 : Cond.initialized "java/lang/Math" ∈ GG := gw 56 (by decide +kernel) rfl
theorem g57 : Cond.initialized "java/util/Arrays" ∈ GG := gw 57 (by decide +kernel) rfl
theorem g58 : Cond.initialized "java/lang/System" ∈ GG := gw 58 (by decide +kernel) rfl
theorem g59 : Cond.initialized "java/util/Objects" ∈ GG := gw 59 (by decide +kernel) rfl
theorem g60 : Cond.initialized "jdk/internal/util/Preconditions" ∈ GG := gw 60 (by decide +kernel) rfl
theorem g61 : Cond.initialized "CallBook$Trade" ∈ GG := gw 61 (by decide +kernel) rfl
theorem g62 : Cond.classLink "CallBookLaw" 8 "CallBook" ∈ GG := gw 62 (by decide +kernel) rfl
theorem g63 : Cond.instantiable "CallBook" 9 ∈ GG := gw 63 (by decide +kernel) rfl
theorem g64 : Cond.methodLink "CallBookLaw" 47 ⟨"CallBook", "<init>", "()V"⟩ ∈ GG := gw 64 (by decide +kernel) rfl
theorem g65 : Cond.instanceMethod ⟨"CallBook", "<init>", "()V"⟩ ∈ GG := gw 65 (by decide +kernel) rfl
theorem g66 : Cond.code ⟨"CallBook", "<init>", "()V"⟩ prog_1_method_1_code 1 none ∈ GG := gw 66 (by decide +kernel) rfl
theorem g67 : Cond.methodLink "CallBook" 1 ⟨"java/lang/Object", "<init>", "()V"⟩ ∈ GG := gw 67 (by decide +kernel) rfl
theorem g68 : Cond.instanceMethod ⟨"java/lang/Object", "<init>", "()V"⟩ ∈ GG := gw 68 (by decide +kernel) rfl
theorem g69 : Cond.code ⟨"java/lang/Object", "<init>", "()V"⟩ object_method_1_code 1 none ∈ GG := gw 69 (by decide +kernel) rfl
theorem g70 : Cond.classLink "CallBook" 7 "java/util/ArrayList" ∈ GG := gw 70 (by decide +kernel) rfl
theorem g71 : Cond.instantiable "java/util/ArrayList" 3 ∈ GG := gw 71 (by decide +kernel) rfl
theorem g72 : Cond.methodLink "CallBook" 9 ⟨"java/util/ArrayList", "<init>", "()V"⟩ ∈ GG := gw 72 (by decide +kernel) rfl
theorem g73 : Cond.instanceMethod ⟨"java/util/ArrayList", "<init>", "()V"⟩ ∈ GG := gw 73 (by decide +kernel) rfl
theorem g74 : Cond.code ⟨"java/util/ArrayList", "<init>", "()V"⟩ prog_21_method_2_code 1 none ∈ GG := gw 74 (by decide +kernel) rfl
theorem g75 : Cond.methodLink "java/util/ArrayList" 1 ⟨"java/util/AbstractList", "<init>", "()V"⟩ ∈ GG := gw 75 (by decide +kernel) rfl
theorem g76 : Cond.instanceMethod ⟨"java/util/AbstractList", "<init>", "()V"⟩ ∈ GG := gw 76 (by decide +kernel) rfl
theorem g77 : Cond.code ⟨"java/util/AbstractList", "<init>", "()V"⟩ prog_20_method_1_code 1 none ∈ GG := gw 77 (by decide +kernel) rfl
theorem g78 : Cond.methodLink "java/util/AbstractList" 1 ⟨"java/util/AbstractCollection", "<init>", "()V"⟩ ∈ GG := gw 78 (by decide +kernel) rfl
theorem g79 : Cond.instanceMethod ⟨"java/util/AbstractCollection", "<init>", "()V"⟩ ∈ GG := gw 79 (by decide +kernel) rfl
theorem g80 : Cond.code ⟨"java/util/AbstractCollection", "<init>", "()V"⟩ prog_19_method_1_code 1 none ∈ GG := gw 80 (by decide +kernel) rfl
theorem g81 : Cond.methodLink "java/util/AbstractCollection" 1 ⟨"java/lang/Object", "<init>", "()V"⟩ ∈ GG := gw 81 (by decide +kernel) rfl
theorem g82 : Cond.fieldLink "java/util/ArrayList" 39 "java/util/ArrayList" "DEFAULTCAPACITY_EMPTY_ELEMENTDATA" "[Ljava/lang/Object;" ∈ GG := gw 82 (by decide +kernel) rfl
theorem g84 : Cond.fieldLink "java/util/ArrayList" 9 "java/util/ArrayList" "elementData" "[Ljava/lang/Object;" ∈ GG := gw 84 (by decide +kernel) rfl
theorem g85 : Cond.fieldLink "java/util/ArrayList" 48 "java/util/ArrayList" "size" "I" ∈ GG := gw 85 (by decide +kernel) rfl
theorem g86 : Cond.fieldLink "java/util/AbstractList" 7 "java/util/AbstractList" "modCount" "I" ∈ GG := gw 86 (by decide +kernel) rfl
theorem g87 : Cond.fieldLink "java/util/ArrayList" 63 "java/util/ArrayList" "modCount" "I" ∈ GG := gw 87 (by decide +kernel) rfl
theorem g88 : Cond.sameField "java/util/ArrayList" "java/util/AbstractList" "modCount" "I" ∈ GG := gw 88 (by decide +kernel) rfl
theorem g89 : Cond.lays "java/util/ArrayList" "java/util/ArrayList" "elementData" "[Ljava/lang/Object;" ∈ GG := gw 89 (by decide +kernel) rfl
theorem g91 : Cond.lays "java/util/ArrayList" "java/util/ArrayList" "size" "I" ∈ GG := gw 91 (by decide +kernel) rfl
theorem g93 : Cond.lays "java/util/ArrayList" "java/util/AbstractList" "modCount" "I" ∈ GG := gw 93 (by decide +kernel) rfl
theorem g96 : Cond.classLink "CallBook" 16 "CallBook$Side" ∈ GG := gw 96 (by decide +kernel) rfl
theorem g97 : Cond.instantiable "CallBook$Side" 1 ∈ GG := gw 97 (by decide +kernel) rfl
theorem g98 : Cond.methodLink "CallBook" 18 ⟨"CallBook$Side", "<init>", "()V"⟩ ∈ GG := gw 98 (by decide +kernel) rfl
theorem g99 : Cond.instanceMethod ⟨"CallBook$Side", "<init>", "()V"⟩ ∈ GG := gw 99 (by decide +kernel) rfl
theorem g100 : Cond.code ⟨"CallBook$Side", "<init>", "()V"⟩ prog_4_method_1_code 1 none ∈ GG := gw 100 (by decide +kernel) rfl
theorem g101 : Cond.methodLink "CallBook$Side" 3 ⟨"java/lang/Object", "<init>", "()V"⟩ ∈ GG := gw 101 (by decide +kernel) rfl
theorem g102 : Cond.classLink "CallBook$Side" 9 "java/util/ArrayList" ∈ GG := gw 102 (by decide +kernel) rfl
theorem g103 : Cond.methodLink "CallBook$Side" 11 ⟨"java/util/ArrayList", "<init>", "()V"⟩ ∈ GG := gw 103 (by decide +kernel) rfl
theorem g104 : Cond.fieldLink "CallBook$Side" 12 "CallBook$Side" "line" "Ljava/util/ArrayList;" ∈ GG := gw 104 (by decide +kernel) rfl
theorem g105 : Cond.fieldLink "CallBook" 145 "CallBook$Side" "line" "Ljava/util/ArrayList;" ∈ GG := gw 105 (by decide +kernel) rfl
theorem g106 : Cond.laysFinal "CallBook$Side" "CallBook$Side" "line" "Ljava/util/ArrayList;" ∈ GG := gw 106 (by decide +kernel) rfl
theorem g109 : Cond.classLink "CallBook" 26 "CallBook$TradeLog" ∈ GG := gw 109 (by decide +kernel) rfl
theorem g110 : Cond.instantiable "CallBook$TradeLog" 2 ∈ GG := gw 110 (by decide +kernel) rfl
theorem g111 : Cond.methodLink "CallBook" 28 ⟨"CallBook$TradeLog", "<init>", "()V"⟩ ∈ GG := gw 111 (by decide +kernel) rfl
theorem g112 : Cond.instanceMethod ⟨"CallBook$TradeLog", "<init>", "()V"⟩ ∈ GG := gw 112 (by decide +kernel) rfl
theorem g113 : Cond.code ⟨"CallBook$TradeLog", "<init>", "()V"⟩ prog_6_method_1_code 1 none ∈ GG := gw 113 (by decide +kernel) rfl
theorem g114 : Cond.methodLink "CallBook$TradeLog" 3 ⟨"java/lang/Object", "<init>", "()V"⟩ ∈ GG := gw 114 (by decide +kernel) rfl
theorem g115 : Cond.classLink "CallBook$TradeLog" 9 "java/util/ArrayList" ∈ GG := gw 115 (by decide +kernel) rfl
theorem g116 : Cond.methodLink "CallBook$TradeLog" 11 ⟨"java/util/ArrayList", "<init>", "()V"⟩ ∈ GG := gw 116 (by decide +kernel) rfl
theorem g117 : Cond.fieldLink "CallBook$TradeLog" 12 "CallBook$TradeLog" "kept" "Ljava/util/ArrayList;" ∈ GG := gw 117 (by decide +kernel) rfl
theorem g118 : Cond.fieldLink "CallBook" 183 "CallBook$TradeLog" "kept" "Ljava/util/ArrayList;" ∈ GG := gw 118 (by decide +kernel) rfl
theorem g119 : Cond.fieldLink "CallBook$TradeLog" 18 "CallBook$TradeLog" "total" "J" ∈ GG := gw 119 (by decide +kernel) rfl
theorem g120 : Cond.fieldLink "CallBook" 186 "CallBook$TradeLog" "total" "J" ∈ GG := gw 120 (by decide +kernel) rfl
theorem g121 : Cond.laysFinal "CallBook$TradeLog" "CallBook$TradeLog" "kept" "Ljava/util/ArrayList;" ∈ GG := gw 121 (by decide +kernel) rfl
theorem g123 : Cond.lays "CallBook$TradeLog" "CallBook$TradeLog" "total" "J" ∈ GG := gw 123 (by decide +kernel) rfl
theorem g126 : Cond.classLink "CallBook" 33 "CallBook$Auction" ∈ GG := gw 126 (by decide +kernel) rfl
theorem g127 : Cond.instantiable "CallBook$Auction" 3 ∈ GG := gw 127 (by decide +kernel) rfl
theorem g129 : Cond.instanceMethod ⟨"CallBook$Auction", "<init>", "()V"⟩ ∈ GG := gw 129 (by decide +kernel) rfl
theorem g130 : Cond.code ⟨"CallBook$Auction", "<init>", "()V"⟩ prog_2_method_1_code 1 none ∈ GG := gw 130 (by decide +kernel) rfl
theorem g131 : Cond.methodLink "CallBook$Auction" 3 ⟨"java/lang/Object", "<init>", "()V"⟩ ∈ GG := gw 131 (by decide +kernel) rfl
theorem g132 : Cond.fieldLink "CallBook$Auction" 9 "CallBook$Auction" "price" "I" ∈ GG := gw 132 (by decide +kernel) rfl
theorem g133 : Cond.fieldLink "CallBook" 156 "CallBook$Auction" "price" "I" ∈ GG := gw 133 (by decide +kernel) rfl
theorem g134 : Cond.fieldLink "CallBook$Auction" 15 "CallBook$Auction" "volume" "J" ∈ GG := gw 134 (by decide +kernel) rfl
theorem g135 : Cond.fieldLink "CallBook" 152 "CallBook$Auction" "volume" "J" ∈ GG := gw 135 (by decide +kernel) rfl
theorem g136 : Cond.fieldLink "CallBook$Auction" 19 "CallBook$Auction" "surplus" "J" ∈ GG := gw 136 (by decide +kernel) rfl
theorem g137 : Cond.fieldLink "CallBook" 164 "CallBook$Auction" "surplus" "J" ∈ GG := gw 137 (by decide +kernel) rfl
theorem g138 : Cond.lays "CallBook$Auction" "CallBook$Auction" "price" "I" ∈ GG := gw 138 (by decide +kernel) rfl
theorem g140 : Cond.lays "CallBook$Auction" "CallBook$Auction" "volume" "J" ∈ GG := gw 140 (by decide +kernel) rfl
theorem g142 : Cond.lays "CallBook$Auction" "CallBook$Auction" "surplus" "J" ∈ GG := gw 142 (by decide +kernel) rfl
theorem g145 : Cond.fieldLink "CallBook" 10 "CallBook" "orders" "Ljava/util/ArrayList;" ∈ GG := gw 145 (by decide +kernel) rfl
theorem g146 : Cond.fieldLink "CallBook" 19 "CallBook" "buyers" "LCallBook$Side;" ∈ GG := gw 146 (by decide +kernel) rfl
theorem g147 : Cond.fieldLink "CallBook" 23 "CallBook" "sellers" "LCallBook$Side;" ∈ GG := gw 147 (by decide +kernel) rfl
theorem g148 : Cond.fieldLink "CallBook" 29 "CallBook" "trades" "LCallBook$TradeLog;" ∈ GG := gw 148 (by decide +kernel) rfl
theorem g149 : Cond.fieldLink "CallBook" 36 "CallBook" "auction" "LCallBook$Auction;" ∈ GG := gw 149 (by decide +kernel) rfl
theorem g150 : Cond.fieldLink "CallBook" 40 "CallBook" "phase" "I" ∈ GG := gw 150 (by decide +kernel) rfl
theorem g151 : Cond.fieldLink "CallBook" 44 "CallBook" "referencePrice" "I" ∈ GG := gw 151 (by decide +kernel) rfl
theorem g152 : Cond.fieldLink "CallBook" 47 "CallBook" "bandWidth" "I" ∈ GG := gw 152 (by decide +kernel) rfl
theorem g153 : Cond.fieldLink "CallBook" 50 "CallBook" "nextRank" "I" ∈ GG := gw 153 (by decide +kernel) rfl
theorem g154 : Cond.laysFinal "CallBook" "CallBook" "orders" "Ljava/util/ArrayList;" ∈ GG := gw 154 (by decide +kernel) rfl
theorem g156 : Cond.laysFinal "CallBook" "CallBook" "buyers" "LCallBook$Side;" ∈ GG := gw 156 (by decide +kernel) rfl
theorem g158 : Cond.laysFinal "CallBook" "CallBook" "sellers" "LCallBook$Side;" ∈ GG := gw 158 (by decide +kernel) rfl
theorem g160 : Cond.laysFinal "CallBook" "CallBook" "trades" "LCallBook$TradeLog;" ∈ GG := gw 160 (by decide +kernel) rfl
theorem g162 : Cond.laysFinal "CallBook" "CallBook" "auction" "LCallBook$Auction;" ∈ GG := gw 162 (by decide +kernel) rfl
theorem g164 : Cond.lays "CallBook" "CallBook" "phase" "I" ∈ GG := gw 164 (by decide +kernel) rfl
theorem g166 : Cond.lays "CallBook" "CallBook" "referencePrice" "I" ∈ GG := gw 166 (by decide +kernel) rfl
theorem g168 : Cond.lays "CallBook" "CallBook" "bandWidth" "I" ∈ GG := gw 168 (by decide +kernel) rfl
theorem g170 : Cond.lays "CallBook" "CallBook" "nextRank" "I" ∈ GG := gw 170 (by decide +kernel) rfl
theorem g173 : Cond.methodLink "CallBookLaw" 76 ⟨"CallBook", "call", "()I"⟩ ∈ GG := gw 173 (by decide +kernel) rfl
theorem g174 : Cond.instanceMethod ⟨"CallBook", "call", "()I"⟩ ∈ GG := gw 174 (by decide +kernel) rfl
theorem g175 : Cond.selects "CallBook" ⟨"CallBook", "call", "()I"⟩ ⟨"CallBook", "call", "()I"⟩ ∈ GG := gw 175 (by decide +kernel) rfl
theorem g176 : Cond.code ⟨"CallBook", "call", "()I"⟩ prog_1_method_7_code 2 (some FieldType.int) ∈ GG := gw 176 (by decide +kernel) rfl
theorem g177 : Cond.methodLink "CallBookLaw" 90 ⟨"CallBook", "at", "(ZI)I"⟩ ∈ GG := gw 177 (by decide +kernel) rfl
theorem g178 : Cond.instanceMethod ⟨"CallBook", "at", "(ZI)I"⟩ ∈ GG := gw 178 (by decide +kernel) rfl
theorem g179 : Cond.selects "CallBook" ⟨"CallBook", "at", "(ZI)I"⟩ ⟨"CallBook", "at", "(ZI)I"⟩ ∈ GG := gw 179 (by decide +kernel) rfl
theorem g180 : Cond.code ⟨"CallBook", "at", "(ZI)I"⟩ prog_1_method_11_code 4 (some FieldType.int) ∈ GG := gw 180 (by decide +kernel) rfl
theorem g181 : Cond.methodLink "CallBook" 138 ⟨"CallBook", "side", "(Z)LCallBook$Side;"⟩ ∈ GG := gw 181 (by decide +kernel) rfl
theorem g183 : Cond.instanceMethod ⟨"CallBook", "side", "(Z)LCallBook$Side;"⟩ ∈ GG := gw 183 (by decide +kernel) rfl
theorem g184 : Cond.code ⟨"CallBook", "side", "(Z)LCallBook$Side;"⟩ prog_1_method_23_code 2 (some (FieldType.object "CallBook$Side")) ∈ GG := gw 184 (by decide +kernel) rfl
theorem g185 : Cond.methodLink "CallBook" 76 ⟨"java/util/ArrayList", "size", "()I"⟩ ∈ GG := gw 185 (by decide +kernel) rfl
theorem g186 : Cond.instanceMethod ⟨"java/util/ArrayList", "size", "()I"⟩ ∈ GG := gw 186 (by decide +kernel) rfl
theorem g187 : Cond.selects "java/util/ArrayList" ⟨"java/util/ArrayList", "size", "()I"⟩ ⟨"java/util/ArrayList", "size", "()I"⟩ ∈ GG := gw 187 (by decide +kernel) rfl
theorem g188 : Cond.code ⟨"java/util/ArrayList", "size", "()I"⟩ prog_21_method_8_code 1 (some FieldType.int) ∈ GG := gw 188 (by decide +kernel) rfl
theorem g189 : Cond.methodLink "CallBook" 117 ⟨"java/util/ArrayList", "get", "(I)Ljava/lang/Object;"⟩ ∈ GG := gw 189 (by decide +kernel) rfl
theorem g190 : Cond.instanceMethod ⟨"java/util/ArrayList", "get", "(I)Ljava/lang/Object;"⟩ ∈ GG := gw 190 (by decide +kernel) rfl
theorem g191 : Cond.selects "java/util/ArrayList" ⟨"java/util/ArrayList", "get", "(I)Ljava/lang/Object;"⟩ ⟨"java/util/ArrayList", "get", "(I)Ljava/lang/Object;"⟩ ∈ GG := gw 191 (by decide +kernel) rfl
theorem g192 : Cond.code ⟨"java/util/ArrayList", "get", "(I)Ljava/lang/Object;"⟩ prog_21_method_20_code 2 (some (FieldType.object "java/lang/Object")) ∈ GG := gw 192 (by decide +kernel) rfl
theorem g193 : Cond.methodLink "java/util/ArrayList" 118 ⟨"java/util/Objects", "checkIndex", "(II)I"⟩ ∈ GG := gw 193 (by decide +kernel) rfl
theorem g194 : Cond.static ⟨"java/util/Objects", "checkIndex", "(II)I"⟩ ∈ GG := gw 194 (by decide +kernel) rfl
theorem g195 : Cond.code ⟨"java/util/Objects", "checkIndex", "(II)I"⟩ prog_25_method_17_code 2 (some FieldType.int) ∈ GG := gw 195 (by decide +kernel) rfl
theorem g196 : Cond.methodLink "java/util/Objects" 105 ⟨"jdk/internal/util/Preconditions", "checkIndex", "(IILjava/util/function/BiFunction;)I"⟩ ∈ GG := gw 196 (by decide +kernel) rfl
theorem g197 : Cond.static ⟨"jdk/internal/util/Preconditions", "checkIndex", "(IILjava/util/function/BiFunction;)I"⟩ ∈ GG := gw 197 (by decide +kernel) rfl
theorem g198 : Cond.code ⟨"jdk/internal/util/Preconditions", "checkIndex", "(IILjava/util/function/BiFunction;)I"⟩ prog_29_method_11_code 3 (some FieldType.int) ∈ GG := gw 198 (by decide +kernel) rfl
theorem g199 : Cond.methodLink "java/util/ArrayList" 123 ⟨"java/util/ArrayList", "elementData", "(I)Ljava/lang/Object;"⟩ ∈ GG := gw 199 (by decide +kernel) rfl
theorem g200 : Cond.instanceMethod ⟨"java/util/ArrayList", "elementData", "(I)Ljava/lang/Object;"⟩ ∈ GG := gw 200 (by decide +kernel) rfl
theorem g201 : Cond.selects "java/util/ArrayList" ⟨"java/util/ArrayList", "elementData", "(I)Ljava/lang/Object;"⟩ ⟨"java/util/ArrayList", "elementData", "(I)Ljava/lang/Object;"⟩ ∈ GG := gw 201 (by decide +kernel) rfl
theorem g202 : Cond.code ⟨"java/util/ArrayList", "elementData", "(I)Ljava/lang/Object;"⟩ prog_21_method_18_code 2 (some (FieldType.object "java/lang/Object")) ∈ GG := gw 202 (by decide +kernel) rfl
theorem g203 : Cond.classLink "CallBook" 83 "CallBook$Order" ∈ GG := gw 203 (by decide +kernel) rfl
theorem g204 : Cond.methodLink "CallBookLaw" 99 ⟨"CallBook", "trade", "(II)I"⟩ ∈ GG := gw 204 (by decide +kernel) rfl
theorem g205 : Cond.instanceMethod ⟨"CallBook", "trade", "(II)I"⟩ ∈ GG := gw 205 (by decide +kernel) rfl
theorem g206 : Cond.selects "CallBook" ⟨"CallBook", "trade", "(II)I"⟩ ⟨"CallBook", "trade", "(II)I"⟩ ∈ GG := gw 206 (by decide +kernel) rfl
theorem g207 : Cond.code ⟨"CallBook", "trade", "(II)I"⟩ prog_1_method_13_code 3 (some FieldType.int) ∈ GG := gw 207 (by decide +kernel) rfl
theorem g208 : Cond.methodLink "CallBook" 179 ⟨"CallBook$TradeLog", "tell", "(II)I"⟩ ∈ GG := gw 208 (by decide +kernel) rfl
theorem g209 : Cond.instanceMethod ⟨"CallBook$TradeLog", "tell", "(II)I"⟩ ∈ GG := gw 209 (by decide +kernel) rfl
theorem g210 : Cond.selects "CallBook$TradeLog" ⟨"CallBook$TradeLog", "tell", "(II)I"⟩ ⟨"CallBook$TradeLog", "tell", "(II)I"⟩ ∈ GG := gw 210 (by decide +kernel) rfl
theorem g211 : Cond.code ⟨"CallBook$TradeLog", "tell", "(II)I"⟩ prog_6_method_3_code 4 (some FieldType.int) ∈ GG := gw 211 (by decide +kernel) rfl
theorem g212 : Cond.methodLink "CallBook$TradeLog" 22 ⟨"java/util/ArrayList", "size", "()I"⟩ ∈ GG := gw 212 (by decide +kernel) rfl
theorem g213 : Cond.methodLink "CallBook$TradeLog" 36 ⟨"java/util/ArrayList", "get", "(I)Ljava/lang/Object;"⟩ ∈ GG := gw 213 (by decide +kernel) rfl
theorem g214 : Cond.classLink "CallBook$TradeLog" 27 "CallBook$Trade" ∈ GG := gw 214 (by decide +kernel) rfl
theorem g215 : Cond.methodLink "CallBookLaw" 103 ⟨"CallBook", "told", "(I)J"⟩ ∈ GG := gw 215 (by decide +kernel) rfl
theorem g216 : Cond.instanceMethod ⟨"CallBook", "told", "(I)J"⟩ ∈ GG := gw 216 (by decide +kernel) rfl
theorem g217 : Cond.selects "CallBook" ⟨"CallBook", "told", "(I)J"⟩ ⟨"CallBook", "told", "(I)J"⟩ ∈ GG := gw 217 (by decide +kernel) rfl
theorem g218 : Cond.code ⟨"CallBook", "told", "(I)J"⟩ prog_1_method_14_code 2 (some FieldType.long) ∈ GG := gw 218 (by decide +kernel) rfl
theorem g219 : Cond.constantLong "CallBook" 189 (-1) ∈ GG := gw 219 (by decide +kernel) rfl
theorem g220 : Cond.methodLink "CallBookLaw" 107 ⟨"CallBook", "astray", "()I"⟩ ∈ GG := gw 220 (by decide +kernel) rfl
theorem g221 : Cond.instanceMethod ⟨"CallBook", "astray", "()I"⟩ ∈ GG := gw 221 (by decide +kernel) rfl
theorem g222 : Cond.selects "CallBook" ⟨"CallBook", "astray", "()I"⟩ ⟨"CallBook", "astray", "()I"⟩ ∈ GG := gw 222 (by decide +kernel) rfl
theorem g223 : Cond.code ⟨"CallBook", "astray", "()I"⟩ prog_1_method_15_code 1 (some FieldType.int) ∈ GG := gw 223 (by decide +kernel) rfl
theorem g224 : Cond.methodLink "CallBook" 191 ⟨"CallBook", "astrayInLine", "(Z)I"⟩ ∈ GG := gw 224 (by decide +kernel) rfl
theorem g226 : Cond.instanceMethod ⟨"CallBook", "astrayInLine", "(Z)I"⟩ ∈ GG := gw 226 (by decide +kernel) rfl
theorem g227 : Cond.code ⟨"CallBook", "astrayInLine", "(Z)I"⟩ prog_1_method_35_code 7 (some FieldType.int) ∈ GG := gw 227 (by decide +kernel) rfl
theorem g228 : Cond.methodLink "CallBook" 256 ⟨"CallBook$Order", "standsBefore", "(LCallBook$Order;)Z"⟩ ∈ GG := gw 228 (by decide +kernel) rfl
theorem g229 : Cond.instanceMethod ⟨"CallBook$Order", "standsBefore", "(LCallBook$Order;)Z"⟩ ∈ GG := gw 229 (by decide +kernel) rfl
theorem g230 : Cond.selects "CallBook$Order" ⟨"CallBook$Order", "standsBefore", "(LCallBook$Order;)Z"⟩ ⟨"CallBook$Order", "standsBefore", "(LCallBook$Order;)Z"⟩ ∈ GG := gw 230 (by decide +kernel) rfl
theorem g231 : Cond.code ⟨"CallBook$Order", "standsBefore", "(LCallBook$Order;)Z"⟩ prog_3_method_8_code 2 (some FieldType.boolean) ∈ GG := gw 231 (by decide +kernel) rfl
theorem g232 : Cond.methodLink "CallBook" 259 ⟨"CallBook$Order", "isWrongAtRest", "()Z"⟩ ∈ GG := gw 232 (by decide +kernel) rfl
theorem g233 : Cond.instanceMethod ⟨"CallBook$Order", "isWrongAtRest", "()Z"⟩ ∈ GG := gw 233 (by decide +kernel) rfl
theorem g234 : Cond.selects "CallBook$Order" ⟨"CallBook$Order", "isWrongAtRest", "()Z"⟩ ⟨"CallBook$Order", "isWrongAtRest", "()Z"⟩ ∈ GG := gw 234 (by decide +kernel) rfl
theorem g235 : Cond.code ⟨"CallBook$Order", "isWrongAtRest", "()Z"⟩ prog_3_method_9_code 2 (some FieldType.boolean) ∈ GG := gw 235 (by decide +kernel) rfl
theorem g236 : Cond.methodLink "CallBook$Order" 49 ⟨"CallBook$Order", "mayShow", "()I"⟩ ∈ GG := gw 236 (by decide +kernel) rfl
theorem g237 : Cond.instanceMethod ⟨"CallBook$Order", "mayShow", "()I"⟩ ∈ GG := gw 237 (by decide +kernel) rfl
theorem g238 : Cond.selects "CallBook$Order" ⟨"CallBook$Order", "mayShow", "()I"⟩ ⟨"CallBook$Order", "mayShow", "()I"⟩ ∈ GG := gw 238 (by decide +kernel) rfl
theorem g239 : Cond.code ⟨"CallBook$Order", "mayShow", "()I"⟩ prog_3_method_6_code 1 (some FieldType.int) ∈ GG := gw 239 (by decide +kernel) rfl
theorem g240 : Cond.methodLink "CallBook$Order" 40 ⟨"java/lang/Math", "min", "(II)I"⟩ ∈ GG := gw 240 (by decide +kernel) rfl
theorem g241 : Cond.static ⟨"java/lang/Math", "min", "(II)I"⟩ ∈ GG := gw 241 (by decide +kernel) rfl
theorem g242 : Cond.code ⟨"java/lang/Math", "min", "(II)I"⟩ prog_15_method_69_code 2 (some FieldType.int) ∈ GG := gw 242 (by decide +kernel) rfl
theorem g243 : Cond.methodLink "CallBook$Order" 53 ⟨"CallBook$Order", "rests", "()Z"⟩ ∈ GG := gw 243 (by decide +kernel) rfl
theorem g244 : Cond.instanceMethod ⟨"CallBook$Order", "rests", "()Z"⟩ ∈ GG := gw 244 (by decide +kernel) rfl
theorem g245 : Cond.selects "CallBook$Order" ⟨"CallBook$Order", "rests", "()Z"⟩ ⟨"CallBook$Order", "rests", "()Z"⟩ ∈ GG := gw 245 (by decide +kernel) rfl
theorem g246 : Cond.code ⟨"CallBook$Order", "rests", "()Z"⟩ prog_3_method_5_code 1 (some FieldType.boolean) ∈ GG := gw 246 (by decide +kernel) rfl
theorem g247 : Cond.constant "CallBook$Order" 57 100000 ∈ GG := gw 247 (by decide +kernel) rfl
theorem g248 : Cond.methodLink "CallBook" 262 ⟨"CallBook", "couldTrade", "(LCallBook$Order;)Z"⟩ ∈ GG := gw 248 (by decide +kernel) rfl
theorem g250 : Cond.instanceMethod ⟨"CallBook", "couldTrade", "(LCallBook$Order;)Z"⟩ ∈ GG := gw 250 (by decide +kernel) rfl
theorem g251 : Cond.code ⟨"CallBook", "couldTrade", "(LCallBook$Order;)Z"⟩ prog_1_method_36_code 3 (some FieldType.boolean) ∈ GG := gw 251 (by decide +kernel) rfl
theorem g252 : Cond.methodLink "CallBook" 221 ⟨"CallBook$Side", "first", "()LCallBook$Order;"⟩ ∈ GG := gw 252 (by decide +kernel) rfl
theorem g253 : Cond.instanceMethod ⟨"CallBook$Side", "first", "()LCallBook$Order;"⟩ ∈ GG := gw 253 (by decide +kernel) rfl
theorem g254 : Cond.selects "CallBook$Side" ⟨"CallBook$Side", "first", "()LCallBook$Order;"⟩ ⟨"CallBook$Side", "first", "()LCallBook$Order;"⟩ ∈ GG := gw 254 (by decide +kernel) rfl
theorem g255 : Cond.code ⟨"CallBook$Side", "first", "()LCallBook$Order;"⟩ prog_4_method_2_code 1 (some (FieldType.object "CallBook$Order")) ∈ GG := gw 255 (by decide +kernel) rfl
theorem g256 : Cond.methodLink "CallBook$Side" 18 ⟨"java/util/ArrayList", "isEmpty", "()Z"⟩ ∈ GG := gw 256 (by decide +kernel) rfl
theorem g257 : Cond.instanceMethod ⟨"java/util/ArrayList", "isEmpty", "()Z"⟩ ∈ GG := gw 257 (by decide +kernel) rfl
theorem g258 : Cond.selects "java/util/ArrayList" ⟨"java/util/ArrayList", "isEmpty", "()Z"⟩ ⟨"java/util/ArrayList", "isEmpty", "()Z"⟩ ∈ GG := gw 258 (by decide +kernel) rfl
theorem g259 : Cond.code ⟨"java/util/ArrayList", "isEmpty", "()Z"⟩ prog_21_method_9_code 1 (some FieldType.boolean) ∈ GG := gw 259 (by decide +kernel) rfl
theorem g260 : Cond.methodLink "CallBook$Side" 22 ⟨"java/util/ArrayList", "get", "(I)Ljava/lang/Object;"⟩ ∈ GG := gw 260 (by decide +kernel) rfl
theorem g261 : Cond.classLink "CallBook$Side" 26 "CallBook$Order" ∈ GG := gw 261 (by decide +kernel) rfl
theorem g262 : Cond.methodLink "CallBook" 215 ⟨"CallBook$Order", "takes", "(I)Z"⟩ ∈ GG := gw 262 (by decide +kernel) rfl
theorem g263 : Cond.instanceMethod ⟨"CallBook$Order", "takes", "(I)Z"⟩ ∈ GG := gw 263 (by decide +kernel) rfl
theorem g264 : Cond.selects "CallBook$Order" ⟨"CallBook$Order", "takes", "(I)Z"⟩ ⟨"CallBook$Order", "takes", "(I)Z"⟩ ∈ GG := gw 264 (by decide +kernel) rfl
theorem g265 : Cond.code ⟨"CallBook$Order", "takes", "(I)Z"⟩ prog_3_method_7_code 2 (some FieldType.boolean) ∈ GG := gw 265 (by decide +kernel) rfl
theorem g266 : Cond.methodLink "CallBook" 195 ⟨"CallBook", "astrayOutOfLine", "()I"⟩ ∈ GG := gw 266 (by decide +kernel) rfl
theorem g268 : Cond.instanceMethod ⟨"CallBook", "astrayOutOfLine", "()I"⟩ ∈ GG := gw 268 (by decide +kernel) rfl
theorem g269 : Cond.code ⟨"CallBook", "astrayOutOfLine", "()I"⟩ prog_1_method_37_code 5 (some FieldType.int) ∈ GG := gw 269 (by decide +kernel) rfl
theorem g270 : Cond.methodLink "CallBook" 107 ⟨"CallBook$Order", "rests", "()Z"⟩ ∈ GG := gw 270 (by decide +kernel) rfl
theorem g271 : Cond.methodLink "CallBook" 199 ⟨"java/lang/Math", "abs", "(I)I"⟩ ∈ GG := gw 271 (by decide +kernel) rfl
theorem g272 : Cond.static ⟨"java/lang/Math", "abs", "(I)I"⟩ ∈ GG := gw 272 (by decide +kernel) rfl
theorem g273 : Cond.code ⟨"java/lang/Math", "abs", "(I)I"⟩ prog_15_method_59_code 1 (some FieldType.int) ∈ GG := gw 273 (by decide +kernel) rfl
theorem g274 : Cond.methodLink "CallBookLaw" 51 ⟨"CallBookLaw", "place", "(LCallBook;IZIIII[J)I"⟩ ∈ GG := gw 274 (by decide +kernel) rfl
theorem g275 : Cond.static ⟨"CallBookLaw", "place", "(LCallBook;IZIIII[J)I"⟩ ∈ GG := gw 275 (by decide +kernel) rfl
theorem g276 : Cond.codeWith ⟨"CallBookLaw", "place", "(LCallBook;IZIIII[J)I"⟩ method_3_code 9 (some FieldType.int) [(0, 18, 21, 13), (0, 18, 25, 15)] ∈ GG := gw 276 (by decide +kernel) rfl
theorem g277 : Cond.classLink "CallBookLaw" 13 "java/lang/IllegalArgumentException" ∈ GG := gw 277 (by decide +kernel) rfl
theorem g278 : Cond.classLink "CallBookLaw" 15 "java/lang/IllegalStateException" ∈ GG := gw 278 (by decide +kernel) rfl
theorem g279 : Cond.methodLink "CallBookLaw" 7 ⟨"CallBook", "place", "(IZIIII)I"⟩ ∈ GG := gw 279 (by decide +kernel) rfl
theorem g280 : Cond.instanceMethod ⟨"CallBook", "place", "(IZIIII)I"⟩ ∈ GG := gw 280 (by decide +kernel) rfl
theorem g281 : Cond.selects "CallBook" ⟨"CallBook", "place", "(IZIIII)I"⟩ ⟨"CallBook", "place", "(IZIIII)I"⟩ ∈ GG := gw 281 (by decide +kernel) rfl
theorem g282 : Cond.code ⟨"CallBook", "place", "(IZIIII)I"⟩ prog_1_method_2_code 9 (some FieldType.int) ∈ GG := gw 282 (by decide +kernel) rfl
theorem g283 : Cond.methodLink "CallBook" 53 ⟨"CallBook", "isOwner", "(I)Z"⟩ ∈ GG := gw 283 (by decide +kernel) rfl
theorem g284 : Cond.static ⟨"CallBook", "isOwner", "(I)Z"⟩ ∈ GG := gw 284 (by decide +kernel) rfl
theorem g285 : Cond.code ⟨"CallBook", "isOwner", "(I)Z"⟩ prog_1_method_16_code 1 (some FieldType.boolean) ∈ GG := gw 285 (by decide +kernel) rfl
theorem g286 : Cond.methodLink "CallBook" 57 ⟨"CallBook", "isPriceOrMarket", "(I)Z"⟩ ∈ GG := gw 286 (by decide +kernel) rfl
theorem g287 : Cond.static ⟨"CallBook", "isPriceOrMarket", "(I)Z"⟩ ∈ GG := gw 287 (by decide +kernel) rfl
theorem g288 : Cond.code ⟨"CallBook", "isPriceOrMarket", "(I)Z"⟩ prog_1_method_17_code 1 (some FieldType.boolean) ∈ GG := gw 288 (by decide +kernel) rfl
theorem g289 : Cond.methodLink "CallBook" 60 ⟨"CallBook", "isQuantity", "(I)Z"⟩ ∈ GG := gw 289 (by decide +kernel) rfl
theorem g290 : Cond.static ⟨"CallBook", "isQuantity", "(I)Z"⟩ ∈ GG := gw 290 (by decide +kernel) rfl
theorem g291 : Cond.code ⟨"CallBook", "isQuantity", "(I)Z"⟩ prog_1_method_18_code 1 (some FieldType.boolean) ∈ GG := gw 291 (by decide +kernel) rfl
theorem g292 : Cond.constant "CallBook" 198 100000 ∈ GG := gw 292 (by decide +kernel) rfl
theorem g293 : Cond.classLink "CallBook" 63 "java/lang/IllegalArgumentException" ∈ GG := gw 293 (by decide +kernel) rfl
theorem g294 : Cond.instantiable "java/lang/IllegalArgumentException" 6 ∈ GG := gw 294 (by decide +kernel) rfl
theorem g302 : Cond.selects "java/lang/IllegalArgumentException" ⟨"java/lang/Throwable", "fillInStackTrace", "(I)Ljava/lang/Throwable;"⟩ ⟨"java/lang/Throwable", "fillInStackTrace", "(I)Ljava/lang/Throwable;"⟩ ∈ GG := gw 302 (by decide +kernel) rfl
theorem g303 : Cond.selects "java/lang/IllegalArgumentException" ⟨"java/lang/Throwable", "fillInStackTrace", "()Ljava/lang/Throwable;"⟩ ⟨"java/lang/Throwable", "fillInStackTrace", "()Ljava/lang/Throwable;"⟩ ∈ GG := gw 303 (by decide +kernel) rfl
theorem g304 : Cond.lays "java/lang/IllegalArgumentException" "java/lang/Throwable" "cause" "Ljava/lang/Throwable;" ∈ GG := gw 304 (by decide +kernel) rfl
theorem g305 : Cond.lays "java/lang/Throwable" "java/lang/Throwable" "cause" "Ljava/lang/Throwable;" ∈ GG := gw 305 (by decide +kernel) rfl
theorem g306 : Cond.lays "java/lang/IllegalArgumentException" "java/lang/Throwable" "stackTrace" "[Ljava/lang/StackTraceElement;" ∈ GG := gw 306 (by decide +kernel) rfl
theorem g307 : Cond.lays "java/lang/Throwable" "java/lang/Throwable" "stackTrace" "[Ljava/lang/StackTraceElement;" ∈ GG := gw 307 (by decide +kernel) rfl
theorem g308 : Cond.lays "java/lang/IllegalArgumentException" "java/lang/Throwable" "suppressedExceptions" "Ljava/util/List;" ∈ GG := gw 308 (by decide +kernel) rfl
theorem g309 : Cond.lays "java/lang/Throwable" "java/lang/Throwable" "suppressedExceptions" "Ljava/util/List;" ∈ GG := gw 309 (by decide +kernel) rfl
theorem g310 : Cond.lays "java/lang/IllegalArgumentException" "java/lang/Throwable" "detailMessage" "Ljava/lang/String;" ∈ GG := gw 310 (by decide +kernel) rfl
theorem g311 : Cond.lays "java/lang/Throwable" "java/lang/Throwable" "detailMessage" "Ljava/lang/String;" ∈ GG := gw 311 (by decide +kernel) rfl
theorem g312 : Cond.lays "java/lang/IllegalArgumentException" "java/lang/Throwable" "backtrace" "Ljava/lang/Object;" ∈ GG := gw 312 (by decide +kernel) rfl
theorem g313 : Cond.lays "java/lang/Throwable" "java/lang/Throwable" "backtrace" "Ljava/lang/Object;" ∈ GG := gw 313 (by decide +kernel) rfl
theorem g314 : Cond.fieldLink "java/lang/Throwable" 198 "java/lang/Throwable" "backtrace" "Ljava/lang/Object;" ∈ GG := gw 314 (by decide +kernel) rfl
theorem g316 : Cond.instanceMethod ⟨"java/lang/Throwable", "<init>", "()V"⟩ ∈ GG := gw 316 (by decide +kernel) rfl
theorem g317 : Cond.code ⟨"java/lang/Throwable", "<init>", "()V"⟩ prog_18_method_1_code 1 none ∈ GG := gw 317 (by decide +kernel) rfl
theorem g318 : Cond.methodLink "java/lang/Throwable" 1 ⟨"java/lang/Object", "<init>", "()V"⟩ ∈ GG := gw 318 (by decide +kernel) rfl
theorem g319 : Cond.fieldLink "java/lang/Throwable" 13 "java/lang/Throwable" "UNASSIGNED_STACK" "[Ljava/lang/StackTraceElement;" ∈ GG := gw 319 (by decide +kernel) rfl
theorem g321 : Cond.fieldLink "java/lang/Throwable" 20 "java/lang/Throwable" "SUPPRESSED_SENTINEL" "Ljava/util/List;" ∈ GG := gw 321 (by decide +kernel) rfl
theorem g323 : Cond.methodLink "java/lang/Throwable" 27 ⟨"java/lang/Throwable", "fillInStackTrace", "()Ljava/lang/Throwable;"⟩ ∈ GG := gw 323 (by decide +kernel) rfl
theorem g324 : Cond.instanceMethod ⟨"java/lang/Throwable", "fillInStackTrace", "()Ljava/lang/Throwable;"⟩ ∈ GG := gw 324 (by decide +kernel) rfl
theorem g325 : Cond.sameMethod "java/lang/Throwable" "java/lang/Throwable" "fillInStackTrace" "()Ljava/lang/Throwable;" ∈ GG := gw 325 (by decide +kernel) rfl
theorem g326 : Cond.selects "java/lang/IllegalStateException" ⟨"java/lang/Throwable", "fillInStackTrace", "()Ljava/lang/Throwable;"⟩ ⟨"java/lang/Throwable", "fillInStackTrace", "()Ljava/lang/Throwable;"⟩ ∈ GG := gw 326 (by decide +kernel) rfl
theorem g328 : Cond.methodLink "java/lang/Throwable" 202 ⟨"java/lang/Throwable", "fillInStackTrace", "(I)Ljava/lang/Throwable;"⟩ ∈ GG := gw 328 (by decide +kernel) rfl
theorem g330 : Cond.instanceMethod ⟨"java/lang/Throwable", "fillInStackTrace", "(I)Ljava/lang/Throwable;"⟩ ∈ GG := gw 330 (by decide +kernel) rfl
theorem g331 : Cond.instantiable "java/lang/Throwable" 6 ∈ GG := gw 331 (by decide +kernel) rfl
theorem g333 : Cond.methodLink "CallBook" 65 ⟨"java/lang/IllegalArgumentException", "<init>", "()V"⟩ ∈ GG := gw 333 (by decide +kernel) rfl
theorem g334 : Cond.instanceMethod ⟨"java/lang/IllegalArgumentException", "<init>", "()V"⟩ ∈ GG := gw 334 (by decide +kernel) rfl
theorem g335 : Cond.code ⟨"java/lang/IllegalArgumentException", "<init>", "()V"⟩ prog_12_method_1_code 1 none ∈ GG := gw 335 (by decide +kernel) rfl
theorem g336 : Cond.methodLink "java/lang/IllegalArgumentException" 1 ⟨"java/lang/RuntimeException", "<init>", "()V"⟩ ∈ GG := gw 336 (by decide +kernel) rfl
theorem g337 : Cond.instanceMethod ⟨"java/lang/RuntimeException", "<init>", "()V"⟩ ∈ GG := gw 337 (by decide +kernel) rfl
theorem g338 : Cond.code ⟨"java/lang/RuntimeException", "<init>", "()V"⟩ prog_16_method_1_code 1 none ∈ GG := gw 338 (by decide +kernel) rfl
theorem g339 : Cond.methodLink "java/lang/RuntimeException" 1 ⟨"java/lang/Exception", "<init>", "()V"⟩ ∈ GG := gw 339 (by decide +kernel) rfl
theorem g340 : Cond.instanceMethod ⟨"java/lang/Exception", "<init>", "()V"⟩ ∈ GG := gw 340 (by decide +kernel) rfl
theorem g341 : Cond.code ⟨"java/lang/Exception", "<init>", "()V"⟩ prog_11_method_1_code 1 none ∈ GG := gw 341 (by decide +kernel) rfl
theorem g342 : Cond.methodLink "java/lang/Exception" 1 ⟨"java/lang/Throwable", "<init>", "()V"⟩ ∈ GG := gw 342 (by decide +kernel) rfl
theorem g343 : Cond.fieldLink "java/lang/Throwable" 198 "java/lang/Throwable" "backtrace" "Ljava/lang/Object;" ∈ GG := gw 343 (by decide +kernel) rfl
theorem g344 : Cond.fieldLink "java/lang/Throwable" 7 "java/lang/Throwable" "cause" "Ljava/lang/Throwable;" ∈ GG := gw 344 (by decide +kernel) rfl
theorem g345 : Cond.fieldLink "java/lang/Throwable" 17 "java/lang/Throwable" "stackTrace" "[Ljava/lang/StackTraceElement;" ∈ GG := gw 345 (by decide +kernel) rfl
theorem g346 : Cond.fieldLink "java/lang/Throwable" 24 "java/lang/Throwable" "suppressedExceptions" "Ljava/util/List;" ∈ GG := gw 346 (by decide +kernel) rfl
theorem g351 : Cond.lays "java/lang/IllegalArgumentException" "java/lang/Throwable" "depth" "I" ∈ GG := gw 351 (by decide +kernel) rfl
theorem g355 : Cond.methodLink "CallBook" 66 ⟨"CallBook", "isPeak", "(I)Z"⟩ ∈ GG := gw 355 (by decide +kernel) rfl
theorem g356 : Cond.static ⟨"CallBook", "isPeak", "(I)Z"⟩ ∈ GG := gw 356 (by decide +kernel) rfl
theorem g357 : Cond.code ⟨"CallBook", "isPeak", "(I)Z"⟩ prog_1_method_19_code 1 (some FieldType.boolean) ∈ GG := gw 357 (by decide +kernel) rfl
theorem g358 : Cond.methodLink "CallBook" 69 ⟨"CallBook", "fitsPeak", "(II)Z"⟩ ∈ GG := gw 358 (by decide +kernel) rfl
theorem g359 : Cond.static ⟨"CallBook", "fitsPeak", "(II)Z"⟩ ∈ GG := gw 359 (by decide +kernel) rfl
theorem g360 : Cond.code ⟨"CallBook", "fitsPeak", "(II)Z"⟩ prog_1_method_21_code 2 (some FieldType.boolean) ∈ GG := gw 360 (by decide +kernel) rfl
theorem g361 : Cond.methodLink "CallBook" 73 ⟨"CallBook", "isLife", "(I)Z"⟩ ∈ GG := gw 361 (by decide +kernel) rfl
theorem g362 : Cond.static ⟨"CallBook", "isLife", "(I)Z"⟩ ∈ GG := gw 362 (by decide +kernel) rfl
theorem g363 : Cond.code ⟨"CallBook", "isLife", "(I)Z"⟩ prog_1_method_20_code 1 (some FieldType.boolean) ∈ GG := gw 363 (by decide +kernel) rfl
theorem g364 : Cond.classLink "CallBook" 80 "java/lang/IllegalStateException" ∈ GG := gw 364 (by decide +kernel) rfl
theorem g365 : Cond.instantiable "java/lang/IllegalStateException" 6 ∈ GG := gw 365 (by decide +kernel) rfl
theorem g367 : Cond.selects "java/lang/IllegalStateException" ⟨"java/lang/Throwable", "fillInStackTrace", "(I)Ljava/lang/Throwable;"⟩ ⟨"java/lang/Throwable", "fillInStackTrace", "(I)Ljava/lang/Throwable;"⟩ ∈ GG := gw 367 (by decide +kernel) rfl
theorem g368 : Cond.lays "java/lang/IllegalStateException" "java/lang/Throwable" "cause" "Ljava/lang/Throwable;" ∈ GG := gw 368 (by decide +kernel) rfl
theorem g369 : Cond.lays "java/lang/IllegalStateException" "java/lang/Throwable" "stackTrace" "[Ljava/lang/StackTraceElement;" ∈ GG := gw 369 (by decide +kernel) rfl
theorem g370 : Cond.lays "java/lang/IllegalStateException" "java/lang/Throwable" "suppressedExceptions" "Ljava/util/List;" ∈ GG := gw 370 (by decide +kernel) rfl
theorem g371 : Cond.lays "java/lang/IllegalStateException" "java/lang/Throwable" "detailMessage" "Ljava/lang/String;" ∈ GG := gw 371 (by decide +kernel) rfl
theorem g372 : Cond.lays "java/lang/IllegalStateException" "java/lang/Throwable" "backtrace" "Ljava/lang/Object;" ∈ GG := gw 372 (by decide +kernel) rfl
theorem g373 : Cond.methodLink "CallBook" 82 ⟨"java/lang/IllegalStateException", "<init>", "()V"⟩ ∈ GG := gw 373 (by decide +kernel) rfl
theorem g374 : Cond.instanceMethod ⟨"java/lang/IllegalStateException", "<init>", "()V"⟩ ∈ GG := gw 374 (by decide +kernel) rfl
theorem g375 : Cond.code ⟨"java/lang/IllegalStateException", "<init>", "()V"⟩ prog_13_method_1_code 1 none ∈ GG := gw 375 (by decide +kernel) rfl
theorem g376 : Cond.methodLink "java/lang/IllegalStateException" 1 ⟨"java/lang/RuntimeException", "<init>", "()V"⟩ ∈ GG := gw 376 (by decide +kernel) rfl
theorem g377 : Cond.lays "java/lang/IllegalStateException" "java/lang/Throwable" "depth" "I" ∈ GG := gw 377 (by decide +kernel) rfl
theorem g379 : Cond.instantiable "CallBook$Order" 10 ∈ GG := gw 379 (by decide +kernel) rfl
theorem g380 : Cond.methodLink "CallBook" 85 ⟨"CallBook$Order", "<init>", "(IIZII)V"⟩ ∈ GG := gw 380 (by decide +kernel) rfl
theorem g381 : Cond.instanceMethod ⟨"CallBook$Order", "<init>", "(IIZII)V"⟩ ∈ GG := gw 381 (by decide +kernel) rfl
theorem g382 : Cond.code ⟨"CallBook$Order", "<init>", "(IIZII)V"⟩ prog_3_method_1_code 6 none ∈ GG := gw 382 (by decide +kernel) rfl
theorem g383 : Cond.methodLink "CallBook$Order" 3 ⟨"java/lang/Object", "<init>", "()V"⟩ ∈ GG := gw 383 (by decide +kernel) rfl
theorem g384 : Cond.fieldLink "CallBook$Order" 9 "CallBook$Order" "number" "I" ∈ GG := gw 384 (by decide +kernel) rfl
theorem g385 : Cond.fieldLink "CallBook" 100 "CallBook$Order" "number" "I" ∈ GG := gw 385 (by decide +kernel) rfl
theorem g386 : Cond.fieldLink "CallBook$Order" 15 "CallBook$Order" "owner" "I" ∈ GG := gw 386 (by decide +kernel) rfl
theorem g387 : Cond.fieldLink "CallBook" 121 "CallBook$Order" "owner" "I" ∈ GG := gw 387 (by decide +kernel) rfl
theorem g388 : Cond.fieldLink "CallBook$Order" 18 "CallBook$Order" "buys" "Z" ∈ GG := gw 388 (by decide +kernel) rfl
theorem g389 : Cond.fieldLink "CallBook" 134 "CallBook$Order" "buys" "Z" ∈ GG := gw 389 (by decide +kernel) rfl
theorem g390 : Cond.fieldLink "CallBook$Order" 22 "CallBook$Order" "peak" "I" ∈ GG := gw 390 (by decide +kernel) rfl
theorem g391 : Cond.fieldLink "CallBook" 124 "CallBook$Order" "peak" "I" ∈ GG := gw 391 (by decide +kernel) rfl
theorem g392 : Cond.fieldLink "CallBook$Order" 25 "CallBook$Order" "life" "I" ∈ GG := gw 392 (by decide +kernel) rfl
theorem g393 : Cond.fieldLink "CallBook" 173 "CallBook$Order" "life" "I" ∈ GG := gw 393 (by decide +kernel) rfl
theorem g394 : Cond.fieldLink "CallBook$Order" 31 "CallBook$Order" "price" "I" ∈ GG := gw 394 (by decide +kernel) rfl
theorem g395 : Cond.fieldLink "CallBook" 127 "CallBook$Order" "price" "I" ∈ GG := gw 395 (by decide +kernel) rfl
theorem g396 : Cond.fieldLink "CallBook$Order" 34 "CallBook$Order" "left" "I" ∈ GG := gw 396 (by decide +kernel) rfl
theorem g397 : Cond.fieldLink "CallBook$Auction" 42 "CallBook$Order" "left" "I" ∈ GG := gw 397 (by decide +kernel) rfl
theorem g398 : Cond.fieldLink "CallBook" 111 "CallBook$Order" "left" "I" ∈ GG := gw 398 (by decide +kernel) rfl
theorem g399 : Cond.fieldLink "CallBook$Order" 37 "CallBook$Order" "shown" "I" ∈ GG := gw 399 (by decide +kernel) rfl
theorem g400 : Cond.fieldLink "CallBook" 167 "CallBook$Order" "shown" "I" ∈ GG := gw 400 (by decide +kernel) rfl
theorem g401 : Cond.fieldLink "CallBook$Order" 28 "CallBook$Order" "rank" "I" ∈ GG := gw 401 (by decide +kernel) rfl
theorem g402 : Cond.fieldLink "CallBook$Side" 28 "CallBook$Order" "rank" "I" ∈ GG := gw 402 (by decide +kernel) rfl
theorem g403 : Cond.fieldLink "CallBook" 170 "CallBook$Order" "rank" "I" ∈ GG := gw 403 (by decide +kernel) rfl
theorem g404 : Cond.fieldLink "CallBook$Order" 46 "CallBook$Order" "traded" "I" ∈ GG := gw 404 (by decide +kernel) rfl
theorem g405 : Cond.fieldLink "CallBook" 176 "CallBook$Order" "traded" "I" ∈ GG := gw 405 (by decide +kernel) rfl
theorem g406 : Cond.laysFinal "CallBook$Order" "CallBook$Order" "number" "I" ∈ GG := gw 406 (by decide +kernel) rfl
theorem g408 : Cond.laysFinal "CallBook$Order" "CallBook$Order" "owner" "I" ∈ GG := gw 408 (by decide +kernel) rfl
theorem g410 : Cond.laysFinal "CallBook$Order" "CallBook$Order" "buys" "Z" ∈ GG := gw 410 (by decide +kernel) rfl
theorem g412 : Cond.laysFinal "CallBook$Order" "CallBook$Order" "peak" "I" ∈ GG := gw 412 (by decide +kernel) rfl
theorem g414 : Cond.laysFinal "CallBook$Order" "CallBook$Order" "life" "I" ∈ GG := gw 414 (by decide +kernel) rfl
theorem g416 : Cond.lays "CallBook$Order" "CallBook$Order" "price" "I" ∈ GG := gw 416 (by decide +kernel) rfl
theorem g418 : Cond.lays "CallBook$Order" "CallBook$Order" "left" "I" ∈ GG := gw 418 (by decide +kernel) rfl
theorem g420 : Cond.lays "CallBook$Order" "CallBook$Order" "shown" "I" ∈ GG := gw 420 (by decide +kernel) rfl
theorem g422 : Cond.lays "CallBook$Order" "CallBook$Order" "rank" "I" ∈ GG := gw 422 (by decide +kernel) rfl
theorem g424 : Cond.lays "CallBook$Order" "CallBook$Order" "traded" "I" ∈ GG := gw 424 (by decide +kernel) rfl
theorem g427 : Cond.methodLink "CallBook" 88 ⟨"CallBook$Order", "ask", "(II)V"⟩ ∈ GG := gw 427 (by decide +kernel) rfl
theorem g428 : Cond.instanceMethod ⟨"CallBook$Order", "ask", "(II)V"⟩ ∈ GG := gw 428 (by decide +kernel) rfl
theorem g429 : Cond.selects "CallBook$Order" ⟨"CallBook$Order", "ask", "(II)V"⟩ ⟨"CallBook$Order", "ask", "(II)V"⟩ ∈ GG := gw 429 (by decide +kernel) rfl
theorem g430 : Cond.code ⟨"CallBook$Order", "ask", "(II)V"⟩ prog_3_method_2_code 3 none ∈ GG := gw 430 (by decide +kernel) rfl
theorem g431 : Cond.methodLink "CallBook" 92 ⟨"java/util/ArrayList", "add", "(Ljava/lang/Object;)Z"⟩ ∈ GG := gw 431 (by decide +kernel) rfl
theorem g432 : Cond.instanceMethod ⟨"java/util/ArrayList", "add", "(Ljava/lang/Object;)Z"⟩ ∈ GG := gw 432 (by decide +kernel) rfl
theorem g433 : Cond.selects "java/util/ArrayList" ⟨"java/util/ArrayList", "add", "(Ljava/lang/Object;)Z"⟩ ⟨"java/util/ArrayList", "add", "(Ljava/lang/Object;)Z"⟩ ∈ GG := gw 433 (by decide +kernel) rfl
theorem g434 : Cond.code ⟨"java/util/ArrayList", "add", "(Ljava/lang/Object;)Z"⟩ prog_21_method_25_code 2 (some FieldType.boolean) ∈ GG := gw 434 (by decide +kernel) rfl
theorem g435 : Cond.methodLink "java/util/ArrayList" 131 ⟨"java/util/ArrayList", "add", "(Ljava/lang/Object;[Ljava/lang/Object;I)V"⟩ ∈ GG := gw 435 (by decide +kernel) rfl
theorem g437 : Cond.instanceMethod ⟨"java/util/ArrayList", "add", "(Ljava/lang/Object;[Ljava/lang/Object;I)V"⟩ ∈ GG := gw 437 (by decide +kernel) rfl
theorem g438 : Cond.code ⟨"java/util/ArrayList", "add", "(Ljava/lang/Object;[Ljava/lang/Object;I)V"⟩ prog_21_method_24_code 4 none ∈ GG := gw 438 (by decide +kernel) rfl
theorem g439 : Cond.methodLink "java/util/ArrayList" 129 ⟨"java/util/ArrayList", "grow", "()[Ljava/lang/Object;"⟩ ∈ GG := gw 439 (by decide +kernel) rfl
theorem g441 : Cond.instanceMethod ⟨"java/util/ArrayList", "grow", "()[Ljava/lang/Object;"⟩ ∈ GG := gw 441 (by decide +kernel) rfl
theorem g442 : Cond.code ⟨"java/util/ArrayList", "grow", "()[Ljava/lang/Object;"⟩ prog_21_method_7_code 1 (some (FieldType.array (FieldType.object "java/lang/Object"))) ∈ GG := gw 442 (by decide +kernel) rfl
theorem g443 : Cond.methodLink "java/util/ArrayList" 69 ⟨"java/util/ArrayList", "grow", "(I)[Ljava/lang/Object;"⟩ ∈ GG := gw 443 (by decide +kernel) rfl
theorem g445 : Cond.instanceMethod ⟨"java/util/ArrayList", "grow", "(I)[Ljava/lang/Object;"⟩ ∈ GG := gw 445 (by decide +kernel) rfl
theorem g446 : Cond.code ⟨"java/util/ArrayList", "grow", "(I)[Ljava/lang/Object;"⟩ prog_21_method_6_code 4 (some (FieldType.array (FieldType.object "java/lang/Object"))) ∈ GG := gw 446 (by decide +kernel) rfl
theorem g447 : Cond.methodLink "java/util/ArrayList" 73 ⟨"jdk/internal/util/ArraysSupport", "newLength", "(III)I"⟩ ∈ GG := gw 447 (by decide +kernel) rfl
theorem g448 : Cond.static ⟨"jdk/internal/util/ArraysSupport", "newLength", "(III)I"⟩ ∈ GG := gw 448 (by decide +kernel) rfl
theorem g449 : Cond.code ⟨"jdk/internal/util/ArraysSupport", "newLength", "(III)I"⟩ prog_28_method_27_code 4 (some FieldType.int) ∈ GG := gw 449 (by decide +kernel) rfl
theorem g450 : Cond.methodLink "jdk/internal/util/ArraysSupport" 194 ⟨"java/lang/Math", "max", "(II)I"⟩ ∈ GG := gw 450 (by decide +kernel) rfl
theorem g451 : Cond.static ⟨"java/lang/Math", "max", "(II)I"⟩ ∈ GG := gw 451 (by decide +kernel) rfl
theorem g452 : Cond.code ⟨"java/lang/Math", "max", "(II)I"⟩ prog_15_method_65_code 2 (some FieldType.int) ∈ GG := gw 452 (by decide +kernel) rfl
theorem g453 : Cond.constant "jdk/internal/util/ArraysSupport" 200 2147483639 ∈ GG := gw 453 (by decide +kernel) rfl
theorem g454 : Cond.methodLink "jdk/internal/util/ArraysSupport" 201 ⟨"jdk/internal/util/ArraysSupport", "hugeLength", "(II)I"⟩ ∈ GG := gw 454 (by decide +kernel) rfl
theorem g455 : Cond.static ⟨"jdk/internal/util/ArraysSupport", "hugeLength", "(II)I"⟩ ∈ GG := gw 455 (by decide +kernel) rfl
theorem g456 : Cond.code ⟨"jdk/internal/util/ArraysSupport", "hugeLength", "(II)I"⟩ prog_28_method_28_code 3 (some FieldType.int) ∈ GG := gw 456 (by decide +kernel) rfl
theorem g457 : Cond.methodLink "java/util/ArrayList" 66 ⟨"java/util/Arrays", "copyOf", "([Ljava/lang/Object;I)[Ljava/lang/Object;"⟩ ∈ GG := gw 457 (by decide +kernel) rfl
theorem g458 : Cond.static ⟨"java/util/Arrays", "copyOf", "([Ljava/lang/Object;I)[Ljava/lang/Object;"⟩ ∈ GG := gw 458 (by decide +kernel) rfl
theorem g459 : Cond.code ⟨"java/util/Arrays", "copyOf", "([Ljava/lang/Object;I)[Ljava/lang/Object;"⟩ prog_22_method_119_code 2 (some (FieldType.array (FieldType.object "java/lang/Object"))) ∈ GG := gw 459 (by decide +kernel) rfl
theorem g460 : Cond.methodLink "java/util/Arrays" 86 ⟨"java/lang/Object", "getClass", "()Ljava/lang/Class;"⟩ ∈ GG := gw 460 (by decide +kernel) rfl
theorem g461 : Cond.instanceMethod ⟨"java/lang/Object", "getClass", "()Ljava/lang/Class;"⟩ ∈ GG := gw 461 (by decide +kernel) rfl
theorem g462 : Cond.sameMethod "java/lang/Object" "java/lang/Object" "getClass" "()Ljava/lang/Class;" ∈ GG := gw 462 (by decide +kernel) rfl
theorem g463 : Cond.selects "CallBook" ⟨"java/lang/Object", "getClass", "()Ljava/lang/Class;"⟩ ⟨"java/lang/Object", "getClass", "()Ljava/lang/Class;"⟩ ∈ GG := gw 463 (by decide +kernel) rfl
theorem g464 : Cond.selects "CallBook$Auction" ⟨"java/lang/Object", "getClass", "()Ljava/lang/Class;"⟩ ⟨"java/lang/Object", "getClass", "()Ljava/lang/Class;"⟩ ∈ GG := gw 464 (by decide +kernel) rfl
theorem g465 : Cond.selects "CallBook$Order" ⟨"java/lang/Object", "getClass", "()Ljava/lang/Class;"⟩ ⟨"java/lang/Object", "getClass", "()Ljava/lang/Class;"⟩ ∈ GG := gw 465 (by decide +kernel) rfl
theorem g466 : Cond.selects "CallBook$Side" ⟨"java/lang/Object", "getClass", "()Ljava/lang/Class;"⟩ ⟨"java/lang/Object", "getClass", "()Ljava/lang/Class;"⟩ ∈ GG := gw 466 (by decide +kernel) rfl
theorem g467 : Cond.selects "CallBook$Trade" ⟨"java/lang/Object", "getClass", "()Ljava/lang/Class;"⟩ ⟨"java/lang/Object", "getClass", "()Ljava/lang/Class;"⟩ ∈ GG := gw 467 (by decide +kernel) rfl
theorem g468 : Cond.selects "CallBook$TradeLog" ⟨"java/lang/Object", "getClass", "()Ljava/lang/Class;"⟩ ⟨"java/lang/Object", "getClass", "()Ljava/lang/Class;"⟩ ∈ GG := gw 468 (by decide +kernel) rfl
theorem g469 : Cond.selects "CallBookModel" ⟨"java/lang/Object", "getClass", "()Ljava/lang/Class;"⟩ ⟨"java/lang/Object", "getClass", "()Ljava/lang/Class;"⟩ ∈ GG := gw 469 (by decide +kernel) rfl
theorem g470 : Cond.selects "java/lang/IllegalArgumentException" ⟨"java/lang/Object", "getClass", "()Ljava/lang/Class;"⟩ ⟨"java/lang/Object", "getClass", "()Ljava/lang/Class;"⟩ ∈ GG := gw 470 (by decide +kernel) rfl
theorem g471 : Cond.selects "java/lang/IllegalStateException" ⟨"java/lang/Object", "getClass", "()Ljava/lang/Class;"⟩ ⟨"java/lang/Object", "getClass", "()Ljava/lang/Class;"⟩ ∈ GG := gw 471 (by decide +kernel) rfl
theorem g472 : Cond.selects "java/util/ArrayList" ⟨"java/lang/Object", "getClass", "()Ljava/lang/Class;"⟩ ⟨"java/lang/Object", "getClass", "()Ljava/lang/Class;"⟩ ∈ GG := gw 472 (by decide +kernel) rfl
theorem g474 : Cond.methodLink "java/util/Arrays" 300 ⟨"java/util/Arrays", "copyOf", "([Ljava/lang/Object;ILjava/lang/Class;)[Ljava/lang/Object;"⟩ ∈ GG := gw 474 (by decide +kernel) rfl
theorem g475 : Cond.static ⟨"java/util/Arrays", "copyOf", "([Ljava/lang/Object;ILjava/lang/Class;)[Ljava/lang/Object;"⟩ ∈ GG := gw 475 (by decide +kernel) rfl
theorem g476 : Cond.code ⟨"java/util/Arrays", "copyOf", "([Ljava/lang/Object;ILjava/lang/Class;)[Ljava/lang/Object;"⟩ prog_22_method_120_code 4 (some (FieldType.array (FieldType.object "java/lang/Object"))) ∈ GG := gw 476 (by decide +kernel) rfl
theorem g477 : Cond.classLink "java/util/Arrays" 110 "[Ljava/lang/Object;" ∈ GG := gw 477 (by decide +kernel) rfl
theorem g479 : Cond.classLink "java/util/Arrays" 2 "java/lang/Object" ∈ GG := gw 479 (by decide +kernel) rfl
theorem g480 : Cond.methodLink "java/util/Arrays" 304 ⟨"java/lang/Math", "min", "(II)I"⟩ ∈ GG := gw 480 (by decide +kernel) rfl
theorem g481 : Cond.methodLink "java/util/Arrays" 150 ⟨"java/lang/System", "arraycopy", "(Ljava/lang/Object;ILjava/lang/Object;II)V"⟩ ∈ GG := gw 481 (by decide +kernel) rfl
theorem g482 : Cond.static ⟨"java/lang/System", "arraycopy", "(Ljava/lang/Object;ILjava/lang/Object;II)V"⟩ ∈ GG := gw 482 (by decide +kernel) rfl
theorem g484 : Cond.methodLink "java/util/ArrayList" 79 ⟨"java/lang/Math", "max", "(II)I"⟩ ∈ GG := gw 484 (by decide +kernel) rfl
theorem g485 : Cond.classLink "java/util/ArrayList" 7 "java/lang/Object" ∈ GG := gw 485 (by decide +kernel) rfl
theorem g486 : Cond.methodLink "CallBook" 96 ⟨"CallBook", "come", "(LCallBook$Order;)V"⟩ ∈ GG := gw 486 (by decide +kernel) rfl
theorem g488 : Cond.instanceMethod ⟨"CallBook", "come", "(LCallBook$Order;)V"⟩ ∈ GG := gw 488 (by decide +kernel) rfl
theorem g489 : Cond.code ⟨"CallBook", "come", "(LCallBook$Order;)V"⟩ prog_1_method_25_code 3 none ∈ GG := gw 489 (by decide +kernel) rfl
theorem g490 : Cond.methodLink "CallBook" 205 ⟨"CallBook", "rest", "(LCallBook$Order;)V"⟩ ∈ GG := gw 490 (by decide +kernel) rfl
theorem g492 : Cond.instanceMethod ⟨"CallBook", "rest", "(LCallBook$Order;)V"⟩ ∈ GG := gw 492 (by decide +kernel) rfl
theorem g493 : Cond.code ⟨"CallBook", "rest", "(LCallBook$Order;)V"⟩ prog_1_method_32_code 2 none ∈ GG := gw 493 (by decide +kernel) rfl
theorem g494 : Cond.methodLink "CallBook" 249 ⟨"CallBook$Order", "mayShow", "()I"⟩ ∈ GG := gw 494 (by decide +kernel) rfl
theorem g495 : Cond.methodLink "CallBook" 252 ⟨"CallBook$Side", "enter", "(LCallBook$Order;I)V"⟩ ∈ GG := gw 495 (by decide +kernel) rfl
theorem g496 : Cond.instanceMethod ⟨"CallBook$Side", "enter", "(LCallBook$Order;I)V"⟩ ∈ GG := gw 496 (by decide +kernel) rfl
theorem g497 : Cond.selects "CallBook$Side" ⟨"CallBook$Side", "enter", "(LCallBook$Order;I)V"⟩ ⟨"CallBook$Side", "enter", "(LCallBook$Order;I)V"⟩ ∈ GG := gw 497 (by decide +kernel) rfl
theorem g498 : Cond.code ⟨"CallBook$Side", "enter", "(LCallBook$Order;I)V"⟩ prog_4_method_3_code 4 none ∈ GG := gw 498 (by decide +kernel) rfl
theorem g499 : Cond.methodLink "CallBook$Side" 32 ⟨"java/util/ArrayList", "size", "()I"⟩ ∈ GG := gw 499 (by decide +kernel) rfl
theorem g500 : Cond.methodLink "CallBook$Side" 36 ⟨"CallBook$Order", "standsBefore", "(LCallBook$Order;)Z"⟩ ∈ GG := gw 500 (by decide +kernel) rfl
theorem g501 : Cond.methodLink "CallBook$Side" 40 ⟨"java/util/ArrayList", "add", "(ILjava/lang/Object;)V"⟩ ∈ GG := gw 501 (by decide +kernel) rfl
theorem g502 : Cond.instanceMethod ⟨"java/util/ArrayList", "add", "(ILjava/lang/Object;)V"⟩ ∈ GG := gw 502 (by decide +kernel) rfl
theorem g503 : Cond.selects "java/util/ArrayList" ⟨"java/util/ArrayList", "add", "(ILjava/lang/Object;)V"⟩ ⟨"java/util/ArrayList", "add", "(ILjava/lang/Object;)V"⟩ ∈ GG := gw 503 (by decide +kernel) rfl
theorem g504 : Cond.code ⟨"java/util/ArrayList", "add", "(ILjava/lang/Object;)V"⟩ prog_21_method_26_code 5 none ∈ GG := gw 504 (by decide +kernel) rfl
theorem g505 : Cond.methodLink "java/util/ArrayList" 135 ⟨"java/util/ArrayList", "rangeCheckForAdd", "(I)V"⟩ ∈ GG := gw 505 (by decide +kernel) rfl
theorem g507 : Cond.instanceMethod ⟨"java/util/ArrayList", "rangeCheckForAdd", "(I)V"⟩ ∈ GG := gw 507 (by decide +kernel) rfl
theorem g508 : Cond.code ⟨"java/util/ArrayList", "rangeCheckForAdd", "(I)V"⟩ prog_21_method_45_code 2 none ∈ GG := gw 508 (by decide +kernel) rfl
theorem g509 : Cond.methodLink "java/util/ArrayList" 112 ⟨"java/lang/System", "arraycopy", "(Ljava/lang/Object;ILjava/lang/Object;II)V"⟩ ∈ GG := gw 509 (by decide +kernel) rfl
theorem g510 : Cond.methodLink "CallBook" 208 ⟨"CallBook", "couldGoWhole", "(LCallBook$Order;)Z"⟩ ∈ GG := gw 510 (by decide +kernel) rfl
theorem g512 : Cond.instanceMethod ⟨"CallBook", "couldGoWhole", "(LCallBook$Order;)Z"⟩ ∈ GG := gw 512 (by decide +kernel) rfl
theorem g513 : Cond.code ⟨"CallBook", "couldGoWhole", "(LCallBook$Order;)Z"⟩ prog_1_method_26_code 7 (some FieldType.boolean) ∈ GG := gw 513 (by decide +kernel) rfl
theorem g514 : Cond.methodLink "CallBook" 218 ⟨"CallBook", "isBeyondBand", "(I)Z"⟩ ∈ GG := gw 514 (by decide +kernel) rfl
theorem g516 : Cond.instanceMethod ⟨"CallBook", "isBeyondBand", "(I)Z"⟩ ∈ GG := gw 516 (by decide +kernel) rfl
theorem g517 : Cond.code ⟨"CallBook", "isBeyondBand", "(I)Z"⟩ prog_1_method_24_code 2 (some FieldType.boolean) ∈ GG := gw 517 (by decide +kernel) rfl
theorem g518 : Cond.methodLink "CallBook" 212 ⟨"CallBook", "meet", "(LCallBook$Order;)V"⟩ ∈ GG := gw 518 (by decide +kernel) rfl
theorem g520 : Cond.instanceMethod ⟨"CallBook", "meet", "(LCallBook$Order;)V"⟩ ∈ GG := gw 520 (by decide +kernel) rfl
theorem g521 : Cond.code ⟨"CallBook", "meet", "(LCallBook$Order;)V"⟩ prog_1_method_27_code 5 none ∈ GG := gw 521 (by decide +kernel) rfl
theorem g522 : Cond.methodLink "CallBook" 225 ⟨"CallBook", "tradeWithShown", "(LCallBook$Order;LCallBook$Order;)V"⟩ ∈ GG := gw 522 (by decide +kernel) rfl
theorem g524 : Cond.instanceMethod ⟨"CallBook", "tradeWithShown", "(LCallBook$Order;LCallBook$Order;)V"⟩ ∈ GG := gw 524 (by decide +kernel) rfl
theorem g525 : Cond.code ⟨"CallBook", "tradeWithShown", "(LCallBook$Order;LCallBook$Order;)V"⟩ prog_1_method_28_code 4 none ∈ GG := gw 525 (by decide +kernel) rfl
theorem g526 : Cond.methodLink "CallBook" 229 ⟨"java/lang/Math", "min", "(II)I"⟩ ∈ GG := gw 526 (by decide +kernel) rfl
theorem g527 : Cond.methodLink "CallBook" 232 ⟨"CallBook", "exchange", "(LCallBook$Order;LCallBook$Order;II)V"⟩ ∈ GG := gw 527 (by decide +kernel) rfl
theorem g529 : Cond.instanceMethod ⟨"CallBook", "exchange", "(LCallBook$Order;LCallBook$Order;II)V"⟩ ∈ GG := gw 529 (by decide +kernel) rfl
theorem g530 : Cond.code ⟨"CallBook", "exchange", "(LCallBook$Order;LCallBook$Order;II)V"⟩ prog_1_method_30_code 5 none ∈ GG := gw 530 (by decide +kernel) rfl
theorem g531 : Cond.methodLink "CallBook" 242 ⟨"CallBook$Order", "give", "(I)V"⟩ ∈ GG := gw 531 (by decide +kernel) rfl
theorem g532 : Cond.instanceMethod ⟨"CallBook$Order", "give", "(I)V"⟩ ∈ GG := gw 532 (by decide +kernel) rfl
theorem g533 : Cond.selects "CallBook$Order" ⟨"CallBook$Order", "give", "(I)V"⟩ ⟨"CallBook$Order", "give", "(I)V"⟩ ∈ GG := gw 533 (by decide +kernel) rfl
theorem g534 : Cond.code ⟨"CallBook$Order", "give", "(I)V"⟩ prog_3_method_4_code 2 none ∈ GG := gw 534 (by decide +kernel) rfl
theorem g535 : Cond.methodLink "CallBook" 245 ⟨"CallBook$TradeLog", "keep", "(IIII)V"⟩ ∈ GG := gw 535 (by decide +kernel) rfl
theorem g536 : Cond.instanceMethod ⟨"CallBook$TradeLog", "keep", "(IIII)V"⟩ ∈ GG := gw 536 (by decide +kernel) rfl
theorem g537 : Cond.selects "CallBook$TradeLog" ⟨"CallBook$TradeLog", "keep", "(IIII)V"⟩ ⟨"CallBook$TradeLog", "keep", "(IIII)V"⟩ ∈ GG := gw 537 (by decide +kernel) rfl
theorem g538 : Cond.code ⟨"CallBook$TradeLog", "keep", "(IIII)V"⟩ prog_6_method_2_code 5 none ∈ GG := gw 538 (by decide +kernel) rfl
theorem g539 : Cond.constant "CallBook$TradeLog" 26 32768 ∈ GG := gw 539 (by decide +kernel) rfl
theorem g540 : Cond.instantiable "CallBook$Trade" 4 ∈ GG := gw 540 (by decide +kernel) rfl
theorem g541 : Cond.methodLink "CallBook$TradeLog" 29 ⟨"CallBook$Trade", "<init>", "(IIII)V"⟩ ∈ GG := gw 541 (by decide +kernel) rfl
theorem g542 : Cond.instanceMethod ⟨"CallBook$Trade", "<init>", "(IIII)V"⟩ ∈ GG := gw 542 (by decide +kernel) rfl
theorem g543 : Cond.code ⟨"CallBook$Trade", "<init>", "(IIII)V"⟩ prog_5_method_1_code 5 none ∈ GG := gw 543 (by decide +kernel) rfl
theorem g544 : Cond.methodLink "CallBook$Trade" 1 ⟨"java/lang/Object", "<init>", "()V"⟩ ∈ GG := gw 544 (by decide +kernel) rfl
theorem g545 : Cond.fieldLink "CallBook$Trade" 7 "CallBook$Trade" "buyer" "I" ∈ GG := gw 545 (by decide +kernel) rfl
theorem g546 : Cond.fieldLink "CallBook$TradeLog" 40 "CallBook$Trade" "buyer" "I" ∈ GG := gw 546 (by decide +kernel) rfl
theorem g547 : Cond.fieldLink "CallBook$Trade" 13 "CallBook$Trade" "seller" "I" ∈ GG := gw 547 (by decide +kernel) rfl
theorem g548 : Cond.fieldLink "CallBook$TradeLog" 44 "CallBook$Trade" "seller" "I" ∈ GG := gw 548 (by decide +kernel) rfl
theorem g549 : Cond.fieldLink "CallBook$Trade" 16 "CallBook$Trade" "price" "I" ∈ GG := gw 549 (by decide +kernel) rfl
theorem g550 : Cond.fieldLink "CallBook$TradeLog" 47 "CallBook$Trade" "price" "I" ∈ GG := gw 550 (by decide +kernel) rfl
theorem g551 : Cond.fieldLink "CallBook$Trade" 19 "CallBook$Trade" "quantity" "I" ∈ GG := gw 551 (by decide +kernel) rfl
theorem g552 : Cond.fieldLink "CallBook$TradeLog" 50 "CallBook$Trade" "quantity" "I" ∈ GG := gw 552 (by decide +kernel) rfl
theorem g553 : Cond.laysFinal "CallBook$Trade" "CallBook$Trade" "buyer" "I" ∈ GG := gw 553 (by decide +kernel) rfl
theorem g555 : Cond.laysFinal "CallBook$Trade" "CallBook$Trade" "seller" "I" ∈ GG := gw 555 (by decide +kernel) rfl
theorem g557 : Cond.laysFinal "CallBook$Trade" "CallBook$Trade" "price" "I" ∈ GG := gw 557 (by decide +kernel) rfl
theorem g559 : Cond.laysFinal "CallBook$Trade" "CallBook$Trade" "quantity" "I" ∈ GG := gw 559 (by decide +kernel) rfl
theorem g562 : Cond.methodLink "CallBook$TradeLog" 32 ⟨"java/util/ArrayList", "add", "(Ljava/lang/Object;)Z"⟩ ∈ GG := gw 562 (by decide +kernel) rfl
theorem g563 : Cond.methodLink "CallBook" 114 ⟨"CallBook", "finish", "(LCallBook$Order;)V"⟩ ∈ GG := gw 563 (by decide +kernel) rfl
theorem g565 : Cond.instanceMethod ⟨"CallBook", "finish", "(LCallBook$Order;)V"⟩ ∈ GG := gw 565 (by decide +kernel) rfl
theorem g566 : Cond.code ⟨"CallBook", "finish", "(LCallBook$Order;)V"⟩ prog_1_method_33_code 2 none ∈ GG := gw 566 (by decide +kernel) rfl
theorem g567 : Cond.methodLink "CallBook" 142 ⟨"CallBook$Side", "leave", "(LCallBook$Order;)V"⟩ ∈ GG := gw 567 (by decide +kernel) rfl
theorem g568 : Cond.instanceMethod ⟨"CallBook$Side", "leave", "(LCallBook$Order;)V"⟩ ∈ GG := gw 568 (by decide +kernel) rfl
theorem g569 : Cond.selects "CallBook$Side" ⟨"CallBook$Side", "leave", "(LCallBook$Order;)V"⟩ ⟨"CallBook$Side", "leave", "(LCallBook$Order;)V"⟩ ∈ GG := gw 569 (by decide +kernel) rfl
theorem g570 : Cond.code ⟨"CallBook$Side", "leave", "(LCallBook$Order;)V"⟩ prog_4_method_4_code 3 none ∈ GG := gw 570 (by decide +kernel) rfl
theorem g571 : Cond.methodLink "CallBook$Side" 44 ⟨"java/util/ArrayList", "remove", "(I)Ljava/lang/Object;"⟩ ∈ GG := gw 571 (by decide +kernel) rfl
theorem g572 : Cond.instanceMethod ⟨"java/util/ArrayList", "remove", "(I)Ljava/lang/Object;"⟩ ∈ GG := gw 572 (by decide +kernel) rfl
theorem g573 : Cond.selects "java/util/ArrayList" ⟨"java/util/ArrayList", "remove", "(I)Ljava/lang/Object;"⟩ ⟨"java/util/ArrayList", "remove", "(I)Ljava/lang/Object;"⟩ ∈ GG := gw 573 (by decide +kernel) rfl
theorem g574 : Cond.code ⟨"java/util/ArrayList", "remove", "(I)Ljava/lang/Object;"⟩ prog_21_method_29_code 4 (some (FieldType.object "java/lang/Object")) ∈ GG := gw 574 (by decide +kernel) rfl
theorem g575 : Cond.methodLink "java/util/ArrayList" 144 ⟨"java/util/ArrayList", "fastRemove", "([Ljava/lang/Object;I)V"⟩ ∈ GG := gw 575 (by decide +kernel) rfl
theorem g577 : Cond.instanceMethod ⟨"java/util/ArrayList", "fastRemove", "([Ljava/lang/Object;I)V"⟩ ∈ GG := gw 577 (by decide +kernel) rfl
theorem g578 : Cond.code ⟨"java/util/ArrayList", "fastRemove", "([Ljava/lang/Object;I)V"⟩ prog_21_method_39_code 4 none ∈ GG := gw 578 (by decide +kernel) rfl
theorem g579 : Cond.methodLink "CallBookLaw" 61 ⟨"CallBookLaw", "cancel", "(LCallBook;I[J)I"⟩ ∈ GG := gw 579 (by decide +kernel) rfl
theorem g580 : Cond.static ⟨"CallBookLaw", "cancel", "(LCallBook;I[J)I"⟩ ∈ GG := gw 580 (by decide +kernel) rfl
theorem g581 : Cond.codeWith ⟨"CallBookLaw", "cancel", "(LCallBook;I[J)I"⟩ method_4_code 4 (some FieldType.int) [(0, 9, 12, 13), (0, 9, 15, 15)] ∈ GG := gw 581 (by decide +kernel) rfl
theorem g582 : Cond.methodLink "CallBookLaw" 17 ⟨"CallBook", "cancel", "(I)I"⟩ ∈ GG := gw 582 (by decide +kernel) rfl
theorem g583 : Cond.instanceMethod ⟨"CallBook", "cancel", "(I)I"⟩ ∈ GG := gw 583 (by decide +kernel) rfl
theorem g584 : Cond.selects "CallBook" ⟨"CallBook", "cancel", "(I)I"⟩ ⟨"CallBook", "cancel", "(I)I"⟩ ∈ GG := gw 584 (by decide +kernel) rfl
theorem g585 : Cond.code ⟨"CallBook", "cancel", "(I)I"⟩ prog_1_method_3_code 4 (some FieldType.int) ∈ GG := gw 585 (by decide +kernel) rfl
theorem g586 : Cond.methodLink "CallBook" 103 ⟨"CallBook", "known", "(I)LCallBook$Order;"⟩ ∈ GG := gw 586 (by decide +kernel) rfl
theorem g588 : Cond.instanceMethod ⟨"CallBook", "known", "(I)LCallBook$Order;"⟩ ∈ GG := gw 588 (by decide +kernel) rfl
theorem g589 : Cond.code ⟨"CallBook", "known", "(I)LCallBook$Order;"⟩ prog_1_method_22_code 2 (some (FieldType.object "CallBook$Order")) ∈ GG := gw 589 (by decide +kernel) rfl
theorem g590 : Cond.methodLink "CallBookLaw" 65 ⟨"CallBookLaw", "cancelAll", "(LCallBook;I[J)I"⟩ ∈ GG := gw 590 (by decide +kernel) rfl
theorem g591 : Cond.static ⟨"CallBookLaw", "cancelAll", "(LCallBook;I[J)I"⟩ ∈ GG := gw 591 (by decide +kernel) rfl
theorem g592 : Cond.codeWith ⟨"CallBookLaw", "cancelAll", "(LCallBook;I[J)I"⟩ method_5_code 4 (some FieldType.int) [(0, 9, 12, 13)] ∈ GG := gw 592 (by decide +kernel) rfl
theorem g593 : Cond.methodLink "CallBookLaw" 21 ⟨"CallBook", "cancelAll", "(I)I"⟩ ∈ GG := gw 593 (by decide +kernel) rfl
theorem g594 : Cond.instanceMethod ⟨"CallBook", "cancelAll", "(I)I"⟩ ∈ GG := gw 594 (by decide +kernel) rfl
theorem g595 : Cond.selects "CallBook" ⟨"CallBook", "cancelAll", "(I)I"⟩ ⟨"CallBook", "cancelAll", "(I)I"⟩ ∈ GG := gw 595 (by decide +kernel) rfl
theorem g596 : Cond.code ⟨"CallBook", "cancelAll", "(I)I"⟩ prog_1_method_4_code 5 (some FieldType.int) ∈ GG := gw 596 (by decide +kernel) rfl
theorem g597 : Cond.methodLink "CallBookLaw" 68 ⟨"CallBookLaw", "amend", "(LCallBook;III[J)I"⟩ ∈ GG := gw 597 (by decide +kernel) rfl
theorem g598 : Cond.static ⟨"CallBookLaw", "amend", "(LCallBook;III[J)I"⟩ ∈ GG := gw 598 (by decide +kernel) rfl
theorem g599 : Cond.codeWith ⟨"CallBookLaw", "amend", "(LCallBook;III[J)I"⟩ method_6_code 6 (some FieldType.int) [(0, 19, 22, 13), (0, 19, 26, 15)] ∈ GG := gw 599 (by decide +kernel) rfl
theorem g600 : Cond.methodLink "CallBookLaw" 24 ⟨"CallBook", "amend", "(III)Z"⟩ ∈ GG := gw 600 (by decide +kernel) rfl
theorem g601 : Cond.instanceMethod ⟨"CallBook", "amend", "(III)Z"⟩ ∈ GG := gw 601 (by decide +kernel) rfl
theorem g602 : Cond.selects "CallBook" ⟨"CallBook", "amend", "(III)Z"⟩ ⟨"CallBook", "amend", "(III)Z"⟩ ∈ GG := gw 602 (by decide +kernel) rfl
theorem g603 : Cond.code ⟨"CallBook", "amend", "(III)Z"⟩ prog_1_method_5_code 5 (some FieldType.boolean) ∈ GG := gw 603 (by decide +kernel) rfl
theorem g604 : Cond.methodLink "CallBook" 130 ⟨"CallBook$Order", "lessen", "(I)V"⟩ ∈ GG := gw 604 (by decide +kernel) rfl
theorem g605 : Cond.instanceMethod ⟨"CallBook$Order", "lessen", "(I)V"⟩ ∈ GG := gw 605 (by decide +kernel) rfl
theorem g606 : Cond.selects "CallBook$Order" ⟨"CallBook$Order", "lessen", "(I)V"⟩ ⟨"CallBook$Order", "lessen", "(I)V"⟩ ∈ GG := gw 606 (by decide +kernel) rfl
theorem g607 : Cond.code ⟨"CallBook$Order", "lessen", "(I)V"⟩ prog_3_method_3_code 2 none ∈ GG := gw 607 (by decide +kernel) rfl
theorem g608 : Cond.methodLink "CallBookLaw" 72 ⟨"CallBookLaw", "open", "(LCallBook;[J)I"⟩ ∈ GG := gw 608 (by decide +kernel) rfl
theorem g609 : Cond.static ⟨"CallBookLaw", "open", "(LCallBook;[J)I"⟩ ∈ GG := gw 609 (by decide +kernel) rfl
theorem g610 : Cond.codeWith ⟨"CallBookLaw", "open", "(LCallBook;[J)I"⟩ method_7_code 3 (some FieldType.int) [(0, 7, 10, 15)] ∈ GG := gw 610 (by decide +kernel) rfl
theorem g611 : Cond.methodLink "CallBookLaw" 28 ⟨"CallBook", "open", "()J"⟩ ∈ GG := gw 611 (by decide +kernel) rfl
theorem g612 : Cond.instanceMethod ⟨"CallBook", "open", "()J"⟩ ∈ GG := gw 612 (by decide +kernel) rfl
theorem g613 : Cond.selects "CallBook" ⟨"CallBook", "open", "()J"⟩ ⟨"CallBook", "open", "()J"⟩ ∈ GG := gw 613 (by decide +kernel) rfl
theorem g614 : Cond.code ⟨"CallBook", "open", "()J"⟩ prog_1_method_6_code 2 (some FieldType.long) ∈ GG := gw 614 (by decide +kernel) rfl
theorem g615 : Cond.methodLink "CallBook" 148 ⟨"CallBook$Auction", "workOut", "(Ljava/util/ArrayList;Ljava/util/ArrayList;I)V"⟩ ∈ GG := gw 615 (by decide +kernel) rfl
theorem g616 : Cond.instanceMethod ⟨"CallBook$Auction", "workOut", "(Ljava/util/ArrayList;Ljava/util/ArrayList;I)V"⟩ ∈ GG := gw 616 (by decide +kernel) rfl
theorem g617 : Cond.selects "CallBook$Auction" ⟨"CallBook$Auction", "workOut", "(Ljava/util/ArrayList;Ljava/util/ArrayList;I)V"⟩ ⟨"CallBook$Auction", "workOut", "(Ljava/util/ArrayList;Ljava/util/ArrayList;I)V"⟩ ∈ GG := gw 617 (by decide +kernel) rfl
theorem g618 : Cond.code ⟨"CallBook$Auction", "workOut", "(Ljava/util/ArrayList;Ljava/util/ArrayList;I)V"⟩ prog_2_method_2_code 11 none ∈ GG := gw 618 (by decide +kernel) rfl
theorem g619 : Cond.methodLink "CallBook$Auction" 22 ⟨"java/util/ArrayList", "size", "()I"⟩ ∈ GG := gw 619 (by decide +kernel) rfl
theorem g620 : Cond.methodLink "CallBook$Auction" 28 ⟨"CallBook$Auction", "leftOf", "(Ljava/util/ArrayList;)J"⟩ ∈ GG := gw 620 (by decide +kernel) rfl
theorem g621 : Cond.static ⟨"CallBook$Auction", "leftOf", "(Ljava/util/ArrayList;)J"⟩ ∈ GG := gw 621 (by decide +kernel) rfl
theorem g622 : Cond.code ⟨"CallBook$Auction", "leftOf", "(Ljava/util/ArrayList;)J"⟩ prog_2_method_3_code 4 (some FieldType.long) ∈ GG := gw 622 (by decide +kernel) rfl
theorem g623 : Cond.methodLink "CallBook$Auction" 32 ⟨"java/util/ArrayList", "get", "(I)Ljava/lang/Object;"⟩ ∈ GG := gw 623 (by decide +kernel) rfl
theorem g624 : Cond.classLink "CallBook$Auction" 36 "CallBook$Order" ∈ GG := gw 624 (by decide +kernel) rfl
theorem g625 : Cond.methodLink "CallBook$Auction" 38 ⟨"CallBook$Order", "takes", "(I)Z"⟩ ∈ GG := gw 625 (by decide +kernel) rfl
theorem g626 : Cond.methodLink "CallBook$Auction" 45 ⟨"CallBook$Auction", "weigh", "(IJJI)V"⟩ ∈ GG := gw 626 (by decide +kernel) rfl
theorem g628 : Cond.instanceMethod ⟨"CallBook$Auction", "weigh", "(IJJI)V"⟩ ∈ GG := gw 628 (by decide +kernel) rfl
theorem g629 : Cond.code ⟨"CallBook$Auction", "weigh", "(IJJI)V"⟩ prog_2_method_4_code 11 none ∈ GG := gw 629 (by decide +kernel) rfl
theorem g630 : Cond.methodLink "CallBook$Auction" 49 ⟨"java/lang/Math", "min", "(JJ)J"⟩ ∈ GG := gw 630 (by decide +kernel) rfl
theorem g631 : Cond.static ⟨"java/lang/Math", "min", "(JJ)J"⟩ ∈ GG := gw 631 (by decide +kernel) rfl
theorem g632 : Cond.code ⟨"java/lang/Math", "min", "(JJ)J"⟩ prog_15_method_70_code 4 (some FieldType.long) ∈ GG := gw 632 (by decide +kernel) rfl
theorem g633 : Cond.methodLink "CallBook$Auction" 55 ⟨"CallBook$Auction", "isBetter", "(IJJI)Z"⟩ ∈ GG := gw 633 (by decide +kernel) rfl
theorem g635 : Cond.instanceMethod ⟨"CallBook$Auction", "isBetter", "(IJJI)Z"⟩ ∈ GG := gw 635 (by decide +kernel) rfl
theorem g636 : Cond.code ⟨"CallBook$Auction", "isBetter", "(IJJI)Z"⟩ prog_2_method_5_code 7 (some FieldType.boolean) ∈ GG := gw 636 (by decide +kernel) rfl
theorem g637 : Cond.methodLink "CallBook$Auction" 59 ⟨"java/lang/Math", "abs", "(J)J"⟩ ∈ GG := gw 637 (by decide +kernel) rfl
theorem g638 : Cond.static ⟨"java/lang/Math", "abs", "(J)J"⟩ ∈ GG := gw 638 (by decide +kernel) rfl
theorem g639 : Cond.code ⟨"java/lang/Math", "abs", "(J)J"⟩ prog_15_method_61_code 2 (some FieldType.long) ∈ GG := gw 639 (by decide +kernel) rfl
theorem g640 : Cond.methodLink "CallBook$Auction" 63 ⟨"java/lang/Math", "abs", "(I)I"⟩ ∈ GG := gw 640 (by decide +kernel) rfl
theorem g641 : Cond.methodLink "CallBook" 157 ⟨"CallBook", "tradeAtOnePrice", "(IJ)V"⟩ ∈ GG := gw 641 (by decide +kernel) rfl
theorem g643 : Cond.instanceMethod ⟨"CallBook", "tradeAtOnePrice", "(IJ)V"⟩ ∈ GG := gw 643 (by decide +kernel) rfl
theorem g644 : Cond.code ⟨"CallBook", "tradeAtOnePrice", "(IJ)V"⟩ prog_1_method_29_code 10 none ∈ GG := gw 644 (by decide +kernel) rfl
theorem g645 : Cond.methodLink "CallBook" 236 ⟨"java/lang/Math", "min", "(JJ)J"⟩ ∈ GG := gw 645 (by decide +kernel) rfl
theorem g646 : Cond.methodLink "CallBook" 239 ⟨"CallBook", "finishIfNothingLeft", "(LCallBook$Order;)V"⟩ ∈ GG := gw 646 (by decide +kernel) rfl
theorem g648 : Cond.instanceMethod ⟨"CallBook", "finishIfNothingLeft", "(LCallBook$Order;)V"⟩ ∈ GG := gw 648 (by decide +kernel) rfl
theorem g649 : Cond.code ⟨"CallBook", "finishIfNothingLeft", "(LCallBook$Order;)V"⟩ prog_1_method_34_code 2 none ∈ GG := gw 649 (by decide +kernel) rfl
theorem g650 : Cond.methodLink "CallBook" 161 ⟨"CallBook", "startGoingOn", "(LCallBook$Order;)V"⟩ ∈ GG := gw 650 (by decide +kernel) rfl
theorem g652 : Cond.instanceMethod ⟨"CallBook", "startGoingOn", "(LCallBook$Order;)V"⟩ ∈ GG := gw 652 (by decide +kernel) rfl
theorem g653 : Cond.code ⟨"CallBook", "startGoingOn", "(LCallBook$Order;)V"⟩ prog_1_method_31_code 2 none ∈ GG := gw 653 (by decide +kernel) rfl
theorem g654 : Cond.methodLink "CallBookLaw" 80 ⟨"CallBookLaw", "band", "(LCallBook;II[J)I"⟩ ∈ GG := gw 654 (by decide +kernel) rfl
theorem g655 : Cond.static ⟨"CallBookLaw", "band", "(LCallBook;II[J)I"⟩ ∈ GG := gw 655 (by decide +kernel) rfl
theorem g656 : Cond.codeWith ⟨"CallBookLaw", "band", "(LCallBook;II[J)I"⟩ method_8_code 5 (some FieldType.int) [(0, 10, 13, 13)] ∈ GG := gw 656 (by decide +kernel) rfl
theorem g657 : Cond.methodLink "CallBookLaw" 32 ⟨"CallBook", "band", "(II)I"⟩ ∈ GG := gw 657 (by decide +kernel) rfl
theorem g658 : Cond.instanceMethod ⟨"CallBook", "band", "(II)I"⟩ ∈ GG := gw 658 (by decide +kernel) rfl
theorem g659 : Cond.selects "CallBook" ⟨"CallBook", "band", "(II)I"⟩ ⟨"CallBook", "band", "(II)I"⟩ ∈ GG := gw 659 (by decide +kernel) rfl
theorem g660 : Cond.code ⟨"CallBook", "band", "(II)I"⟩ prog_1_method_8_code 4 (some FieldType.int) ∈ GG := gw 660 (by decide +kernel) rfl
theorem g661 : Cond.methodLink "CallBookLaw" 84 ⟨"CallBookLaw", "clearing", "(LCallBook;I[J)I"⟩ ∈ GG := gw 661 (by decide +kernel) rfl
theorem g662 : Cond.static ⟨"CallBookLaw", "clearing", "(LCallBook;I[J)I"⟩ ∈ GG := gw 662 (by decide +kernel) rfl
theorem g663 : Cond.codeWith ⟨"CallBookLaw", "clearing", "(LCallBook;I[J)I"⟩ method_9_code 4 (some FieldType.int) [(0, 8, 11, 13)] ∈ GG := gw 663 (by decide +kernel) rfl
theorem g664 : Cond.methodLink "CallBookLaw" 36 ⟨"CallBook", "clearing", "(I)J"⟩ ∈ GG := gw 664 (by decide +kernel) rfl
theorem g665 : Cond.instanceMethod ⟨"CallBook", "clearing", "(I)J"⟩ ∈ GG := gw 665 (by decide +kernel) rfl
theorem g666 : Cond.selects "CallBook" ⟨"CallBook", "clearing", "(I)J"⟩ ⟨"CallBook", "clearing", "(I)J"⟩ ∈ GG := gw 666 (by decide +kernel) rfl
theorem g667 : Cond.code ⟨"CallBook", "clearing", "(I)J"⟩ prog_1_method_9_code 2 (some FieldType.long) ∈ GG := gw 667 (by decide +kernel) rfl
theorem g668 : Cond.methodLink "CallBookLaw" 87 ⟨"CallBookLaw", "order", "(LCallBook;II[J)I"⟩ ∈ GG := gw 668 (by decide +kernel) rfl
theorem g669 : Cond.static ⟨"CallBookLaw", "order", "(LCallBook;II[J)I"⟩ ∈ GG := gw 669 (by decide +kernel) rfl
theorem g670 : Cond.codeWith ⟨"CallBookLaw", "order", "(LCallBook;II[J)I"⟩ method_10_code 5 (some FieldType.int) [(0, 10, 13, 13)] ∈ GG := gw 670 (by decide +kernel) rfl
theorem g671 : Cond.methodLink "CallBookLaw" 40 ⟨"CallBook", "order", "(II)I"⟩ ∈ GG := gw 671 (by decide +kernel) rfl
theorem g672 : Cond.instanceMethod ⟨"CallBook", "order", "(II)I"⟩ ∈ GG := gw 672 (by decide +kernel) rfl
theorem g673 : Cond.selects "CallBook" ⟨"CallBook", "order", "(II)I"⟩ ⟨"CallBook", "order", "(II)I"⟩ ∈ GG := gw 673 (by decide +kernel) rfl
theorem g674 : Cond.code ⟨"CallBook", "order", "(II)I"⟩ prog_1_method_10_code 4 (some FieldType.int) ∈ GG := gw 674 (by decide +kernel) rfl
theorem g675 : Cond.methodLink "CallBookLaw" 95 ⟨"CallBookLaw", "depth", "(LCallBook;ZIZ[J)I"⟩ ∈ GG := gw 675 (by decide +kernel) rfl
theorem g676 : Cond.static ⟨"CallBookLaw", "depth", "(LCallBook;ZIZ[J)I"⟩ ∈ GG := gw 676 (by decide +kernel) rfl
theorem g677 : Cond.codeWith ⟨"CallBookLaw", "depth", "(LCallBook;ZIZ[J)I"⟩ method_11_code 6 (some FieldType.int) [(0, 11, 14, 13)] ∈ GG := gw 677 (by decide +kernel) rfl
theorem g678 : Cond.methodLink "CallBookLaw" 43 ⟨"CallBook", "depth", "(ZIZ)J"⟩ ∈ GG := gw 678 (by decide +kernel) rfl
theorem g679 : Cond.instanceMethod ⟨"CallBook", "depth", "(ZIZ)J"⟩ ∈ GG := gw 679 (by decide +kernel) rfl
theorem g680 : Cond.selects "CallBook" ⟨"CallBook", "depth", "(ZIZ)J"⟩ ⟨"CallBook", "depth", "(ZIZ)J"⟩ ∈ GG := gw 680 (by decide +kernel) rfl
theorem g681 : Cond.code ⟨"CallBook", "depth", "(ZIZ)J"⟩ prog_1_method_12_code 9 (some FieldType.long) ∈ GG := gw 681 (by decide +kernel) rfl
theorem g682 : Cond.classLink "CallBookLaw" 48 "CallBookModel" ∈ GG := gw 682 (by decide +kernel) rfl
theorem g683 : Cond.instantiable "CallBookModel" 26 ∈ GG := gw 683 (by decide +kernel) rfl
theorem g684 : Cond.methodLink "CallBookLaw" 50 ⟨"CallBookModel", "<init>", "()V"⟩ ∈ GG := gw 684 (by decide +kernel) rfl
theorem g685 : Cond.instanceMethod ⟨"CallBookModel", "<init>", "()V"⟩ ∈ GG := gw 685 (by decide +kernel) rfl
theorem g686 : Cond.code ⟨"CallBookModel", "<init>", "()V"⟩ prog_8_method_1_code 1 none ∈ GG := gw 686 (by decide +kernel) rfl
theorem g687 : Cond.methodLink "CallBookModel" 1 ⟨"java/lang/Object", "<init>", "()V"⟩ ∈ GG := gw 687 (by decide +kernel) rfl
theorem g688 : Cond.fieldLink "CallBookModel" 61 "CallBookModel" "code" "I" ∈ GG := gw 688 (by decide +kernel) rfl
theorem g689 : Cond.fieldLink "CallBookModel" 113 "CallBookModel" "phase" "I" ∈ GG := gw 689 (by decide +kernel) rfl
theorem g690 : Cond.fieldLink "CallBookModel" 7 "CallBookModel" "reference" "I" ∈ GG := gw 690 (by decide +kernel) rfl
theorem g691 : Cond.fieldLink "CallBookModel" 93 "CallBookModel" "band" "I" ∈ GG := gw 691 (by decide +kernel) rfl
theorem g692 : Cond.fieldLink "CallBookModel" 79 "CallBookModel" "ranks" "I" ∈ GG := gw 692 (by decide +kernel) rfl
theorem g693 : Cond.fieldLink "CallBookModel" 64 "CallBookModel" "orders" "I" ∈ GG := gw 693 (by decide +kernel) rfl
theorem g694 : Cond.fieldLink "CallBookModel" 13 "CallBookModel" "owners" "[I" ∈ GG := gw 694 (by decide +kernel) rfl
theorem g695 : Cond.fieldLink "CallBookModel" 17 "CallBookModel" "buyers" "[Z" ∈ GG := gw 695 (by decide +kernel) rfl
theorem g696 : Cond.fieldLink "CallBookModel" 21 "CallBookModel" "prices" "[I" ∈ GG := gw 696 (by decide +kernel) rfl
theorem g697 : Cond.fieldLink "CallBookModel" 24 "CallBookModel" "lefts" "[I" ∈ GG := gw 697 (by decide +kernel) rfl
theorem g698 : Cond.fieldLink "CallBookModel" 27 "CallBookModel" "showns" "[I" ∈ GG := gw 698 (by decide +kernel) rfl
theorem g699 : Cond.fieldLink "CallBookModel" 30 "CallBookModel" "ranked" "[I" ∈ GG := gw 699 (by decide +kernel) rfl
theorem g700 : Cond.fieldLink "CallBookModel" 33 "CallBookModel" "lives" "[I" ∈ GG := gw 700 (by decide +kernel) rfl
theorem g701 : Cond.fieldLink "CallBookModel" 36 "CallBookModel" "traded" "[I" ∈ GG := gw 701 (by decide +kernel) rfl
theorem g702 : Cond.fieldLink "CallBookModel" 39 "CallBookModel" "peaks" "[I" ∈ GG := gw 702 (by decide +kernel) rfl
theorem g703 : Cond.fieldLink "CallBookModel" 86 "CallBookModel" "trades" "I" ∈ GG := gw 703 (by decide +kernel) rfl
theorem g704 : Cond.fieldLink "CallBookModel" 42 "CallBookModel" "tradeBuyer" "[I" ∈ GG := gw 704 (by decide +kernel) rfl
theorem g705 : Cond.fieldLink "CallBookModel" 45 "CallBookModel" "tradeSeller" "[I" ∈ GG := gw 705 (by decide +kernel) rfl
theorem g706 : Cond.fieldLink "CallBookModel" 48 "CallBookModel" "tradePrice" "[I" ∈ GG := gw 706 (by decide +kernel) rfl
theorem g707 : Cond.fieldLink "CallBookModel" 51 "CallBookModel" "tradeQuantity" "[I" ∈ GG := gw 707 (by decide +kernel) rfl
theorem g708 : Cond.fieldLink "CallBookModel" 89 "CallBookModel" "all" "J" ∈ GG := gw 708 (by decide +kernel) rfl
theorem g709 : Cond.fieldLink "CallBookModel" 54 "CallBookModel" "wanted" "[J" ∈ GG := gw 709 (by decide +kernel) rfl
theorem g710 : Cond.fieldLink "CallBookModel" 58 "CallBookModel" "offered" "[J" ∈ GG := gw 710 (by decide +kernel) rfl
theorem g711 : Cond.fieldLink "CallBookModel" 145 "CallBookModel" "bestPrice" "I" ∈ GG := gw 711 (by decide +kernel) rfl
theorem g712 : Cond.fieldLink "CallBookModel" 148 "CallBookModel" "bestVolume" "J" ∈ GG := gw 712 (by decide +kernel) rfl
theorem g713 : Cond.fieldLink "CallBookModel" 151 "CallBookModel" "bestSurplus" "J" ∈ GG := gw 713 (by decide +kernel) rfl
theorem g714 : Cond.lays "CallBookModel" "CallBookModel" "code" "I" ∈ GG := gw 714 (by decide +kernel) rfl
theorem g716 : Cond.lays "CallBookModel" "CallBookModel" "phase" "I" ∈ GG := gw 716 (by decide +kernel) rfl
theorem g718 : Cond.lays "CallBookModel" "CallBookModel" "reference" "I" ∈ GG := gw 718 (by decide +kernel) rfl
theorem g720 : Cond.lays "CallBookModel" "CallBookModel" "band" "I" ∈ GG := gw 720 (by decide +kernel) rfl
theorem g722 : Cond.lays "CallBookModel" "CallBookModel" "ranks" "I" ∈ GG := gw 722 (by decide +kernel) rfl
theorem g724 : Cond.lays "CallBookModel" "CallBookModel" "orders" "I" ∈ GG := gw 724 (by decide +kernel) rfl
theorem g726 : Cond.laysFinal "CallBookModel" "CallBookModel" "owners" "[I" ∈ GG := gw 726 (by decide +kernel) rfl
theorem g728 : Cond.laysFinal "CallBookModel" "CallBookModel" "buyers" "[Z" ∈ GG := gw 728 (by decide +kernel) rfl
theorem g730 : Cond.laysFinal "CallBookModel" "CallBookModel" "prices" "[I" ∈ GG := gw 730 (by decide +kernel) rfl
theorem g732 : Cond.laysFinal "CallBookModel" "CallBookModel" "lefts" "[I" ∈ GG := gw 732 (by decide +kernel) rfl
theorem g734 : Cond.laysFinal "CallBookModel" "CallBookModel" "showns" "[I" ∈ GG := gw 734 (by decide +kernel) rfl
theorem g736 : Cond.laysFinal "CallBookModel" "CallBookModel" "ranked" "[I" ∈ GG := gw 736 (by decide +kernel) rfl
theorem g738 : Cond.laysFinal "CallBookModel" "CallBookModel" "lives" "[I" ∈ GG := gw 738 (by decide +kernel) rfl
theorem g740 : Cond.laysFinal "CallBookModel" "CallBookModel" "traded" "[I" ∈ GG := gw 740 (by decide +kernel) rfl
theorem g742 : Cond.laysFinal "CallBookModel" "CallBookModel" "peaks" "[I" ∈ GG := gw 742 (by decide +kernel) rfl
theorem g744 : Cond.lays "CallBookModel" "CallBookModel" "trades" "I" ∈ GG := gw 744 (by decide +kernel) rfl
theorem g746 : Cond.laysFinal "CallBookModel" "CallBookModel" "tradeBuyer" "[I" ∈ GG := gw 746 (by decide +kernel) rfl
theorem g748 : Cond.laysFinal "CallBookModel" "CallBookModel" "tradeSeller" "[I" ∈ GG := gw 748 (by decide +kernel) rfl
theorem g750 : Cond.laysFinal "CallBookModel" "CallBookModel" "tradePrice" "[I" ∈ GG := gw 750 (by decide +kernel) rfl
theorem g752 : Cond.laysFinal "CallBookModel" "CallBookModel" "tradeQuantity" "[I" ∈ GG := gw 752 (by decide +kernel) rfl
theorem g754 : Cond.lays "CallBookModel" "CallBookModel" "all" "J" ∈ GG := gw 754 (by decide +kernel) rfl
theorem g756 : Cond.laysFinal "CallBookModel" "CallBookModel" "wanted" "[J" ∈ GG := gw 756 (by decide +kernel) rfl
theorem g758 : Cond.laysFinal "CallBookModel" "CallBookModel" "offered" "[J" ∈ GG := gw 758 (by decide +kernel) rfl
theorem g760 : Cond.lays "CallBookModel" "CallBookModel" "bestPrice" "I" ∈ GG := gw 760 (by decide +kernel) rfl
theorem g762 : Cond.lays "CallBookModel" "CallBookModel" "bestVolume" "J" ∈ GG := gw 762 (by decide +kernel) rfl
theorem g764 : Cond.lays "CallBookModel" "CallBookModel" "bestSurplus" "J" ∈ GG := gw 764 (by decide +kernel) rfl
theorem g767 : Cond.arrayClass FieldType.int ∈ GG := gw 767 (by decide +kernel) rfl
theorem g768 : Cond.arrayClass FieldType.boolean ∈ GG := gw 768 (by decide +kernel) rfl
theorem g769 : Cond.arrayClass FieldType.long ∈ GG := gw 769 (by decide +kernel) rfl
theorem g770 : Cond.methodLink "CallBookLaw" 57 ⟨"CallBookModel", "thrown", "()I"⟩ ∈ GG := gw 770 (by decide +kernel) rfl
theorem g771 : Cond.instanceMethod ⟨"CallBookModel", "thrown", "()I"⟩ ∈ GG := gw 771 (by decide +kernel) rfl
theorem g772 : Cond.selects "CallBookModel" ⟨"CallBookModel", "thrown", "()I"⟩ ⟨"CallBookModel", "thrown", "()I"⟩ ∈ GG := gw 772 (by decide +kernel) rfl
theorem g773 : Cond.code ⟨"CallBookModel", "thrown", "()I"⟩ prog_8_method_2_code 1 (some FieldType.int) ∈ GG := gw 773 (by decide +kernel) rfl
theorem g774 : Cond.methodLink "CallBookLaw" 56 ⟨"CallBookModel", "place", "(IZIIII)I"⟩ ∈ GG := gw 774 (by decide +kernel) rfl
theorem g775 : Cond.instanceMethod ⟨"CallBookModel", "place", "(IZIIII)I"⟩ ∈ GG := gw 775 (by decide +kernel) rfl
theorem g776 : Cond.selects "CallBookModel" ⟨"CallBookModel", "place", "(IZIIII)I"⟩ ⟨"CallBookModel", "place", "(IZIIII)I"⟩ ∈ GG := gw 776 (by decide +kernel) rfl
theorem g777 : Cond.code ⟨"CallBookModel", "place", "(IZIIII)I"⟩ prog_8_method_20_code 10 (some FieldType.int) ∈ GG := gw 777 (by decide +kernel) rfl
theorem g778 : Cond.methodLink "CallBookModel" 67 ⟨"CallBookModel", "in", "(III)Z"⟩ ∈ GG := gw 778 (by decide +kernel) rfl
theorem g779 : Cond.static ⟨"CallBookModel", "in", "(III)Z"⟩ ∈ GG := gw 779 (by decide +kernel) rfl
theorem g780 : Cond.code ⟨"CallBookModel", "in", "(III)Z"⟩ prog_8_method_3_code 3 (some FieldType.boolean) ∈ GG := gw 780 (by decide +kernel) rfl
theorem g781 : Cond.constant "CallBookModel" 132 100000 ∈ GG := gw 781 (by decide +kernel) rfl
theorem g782 : Cond.methodLink "CallBookModel" 133 ⟨"CallBookModel", "fitsPeak", "(II)Z"⟩ ∈ GG := gw 782 (by decide +kernel) rfl
theorem g783 : Cond.static ⟨"CallBookModel", "fitsPeak", "(II)Z"⟩ ∈ GG := gw 783 (by decide +kernel) rfl
theorem g784 : Cond.code ⟨"CallBookModel", "fitsPeak", "(II)Z"⟩ prog_8_method_19_code 2 (some FieldType.boolean) ∈ GG := gw 784 (by decide +kernel) rfl
theorem g785 : Cond.methodLink "CallBookModel" 136 ⟨"CallBookModel", "comes", "(I)Z"⟩ ∈ GG := gw 785 (by decide +kernel) rfl
theorem g787 : Cond.instanceMethod ⟨"CallBookModel", "comes", "(I)Z"⟩ ∈ GG := gw 787 (by decide +kernel) rfl
theorem g788 : Cond.code ⟨"CallBookModel", "comes", "(I)Z"⟩ prog_8_method_18_code 2 (some FieldType.boolean) ∈ GG := gw 788 (by decide +kernel) rfl
theorem g789 : Cond.methodLink "CallBookModel" 126 ⟨"CallBookModel", "isCovered", "(I)Z"⟩ ∈ GG := gw 789 (by decide +kernel) rfl
theorem g791 : Cond.instanceMethod ⟨"CallBookModel", "isCovered", "(I)Z"⟩ ∈ GG := gw 791 (by decide +kernel) rfl
theorem g792 : Cond.code ⟨"CallBookModel", "isCovered", "(I)Z"⟩ prog_8_method_15_code 6 (some FieldType.boolean) ∈ GG := gw 792 (by decide +kernel) rfl
theorem g793 : Cond.methodLink "CallBookModel" 71 ⟨"CallBookModel", "rests", "(I)Z"⟩ ∈ GG := gw 793 (by decide +kernel) rfl
theorem g795 : Cond.instanceMethod ⟨"CallBookModel", "rests", "(I)Z"⟩ ∈ GG := gw 795 (by decide +kernel) rfl
theorem g796 : Cond.code ⟨"CallBookModel", "rests", "(I)Z"⟩ prog_8_method_7_code 2 (some FieldType.boolean) ∈ GG := gw 796 (by decide +kernel) rfl
theorem g797 : Cond.methodLink "CallBookModel" 100 ⟨"CallBookModel", "takes", "(II)Z"⟩ ∈ GG := gw 797 (by decide +kernel) rfl
theorem g799 : Cond.instanceMethod ⟨"CallBookModel", "takes", "(II)Z"⟩ ∈ GG := gw 799 (by decide +kernel) rfl
theorem g800 : Cond.code ⟨"CallBookModel", "takes", "(II)Z"⟩ prog_8_method_13_code 3 (some FieldType.boolean) ∈ GG := gw 800 (by decide +kernel) rfl
theorem g801 : Cond.methodLink "CallBookModel" 103 ⟨"CallBookModel", "isCut", "(II)Z"⟩ ∈ GG := gw 801 (by decide +kernel) rfl
theorem g803 : Cond.instanceMethod ⟨"CallBookModel", "isCut", "(II)Z"⟩ ∈ GG := gw 803 (by decide +kernel) rfl
theorem g804 : Cond.code ⟨"CallBookModel", "isCut", "(II)Z"⟩ prog_8_method_16_code 5 (some FieldType.boolean) ∈ GG := gw 804 (by decide +kernel) rfl
theorem g805 : Cond.methodLink "CallBookModel" 106 ⟨"CallBookModel", "isBeyond", "(I)Z"⟩ ∈ GG := gw 805 (by decide +kernel) rfl
theorem g807 : Cond.instanceMethod ⟨"CallBookModel", "isBeyond", "(I)Z"⟩ ∈ GG := gw 807 (by decide +kernel) rfl
theorem g808 : Cond.code ⟨"CallBookModel", "isBeyond", "(I)Z"⟩ prog_8_method_14_code 2 (some FieldType.boolean) ∈ GG := gw 808 (by decide +kernel) rfl
theorem g809 : Cond.methodLink "CallBookModel" 96 ⟨"CallBookModel", "abs", "(J)J"⟩ ∈ GG := gw 809 (by decide +kernel) rfl
theorem g810 : Cond.static ⟨"CallBookModel", "abs", "(J)J"⟩ ∈ GG := gw 810 (by decide +kernel) rfl
theorem g811 : Cond.code ⟨"CallBookModel", "abs", "(J)J"⟩ prog_8_method_4_code 2 (some FieldType.long) ∈ GG := gw 811 (by decide +kernel) rfl
theorem g812 : Cond.methodLink "CallBookModel" 75 ⟨"CallBookModel", "isBefore", "(II)Z"⟩ ∈ GG := gw 812 (by decide +kernel) rfl
theorem g814 : Cond.instanceMethod ⟨"CallBookModel", "isBefore", "(II)Z"⟩ ∈ GG := gw 814 (by decide +kernel) rfl
theorem g815 : Cond.code ⟨"CallBookModel", "isBefore", "(II)Z"⟩ prog_8_method_6_code 4 (some FieldType.boolean) ∈ GG := gw 815 (by decide +kernel) rfl
theorem g816 : Cond.methodLink "CallBookModel" 129 ⟨"CallBookModel", "meet", "(I)V"⟩ ∈ GG := gw 816 (by decide +kernel) rfl
theorem g818 : Cond.instanceMethod ⟨"CallBookModel", "meet", "(I)V"⟩ ∈ GG := gw 818 (by decide +kernel) rfl
theorem g819 : Cond.code ⟨"CallBookModel", "meet", "(I)V"⟩ prog_8_method_17_code 5 none ∈ GG := gw 819 (by decide +kernel) rfl
theorem g820 : Cond.methodLink "CallBookModel" 109 ⟨"CallBookModel", "firstOf", "(Z)I"⟩ ∈ GG := gw 820 (by decide +kernel) rfl
theorem g822 : Cond.instanceMethod ⟨"CallBookModel", "firstOf", "(Z)I"⟩ ∈ GG := gw 822 (by decide +kernel) rfl
theorem g823 : Cond.code ⟨"CallBookModel", "firstOf", "(Z)I"⟩ prog_8_method_8_code 5 (some FieldType.int) ∈ GG := gw 823 (by decide +kernel) rfl
theorem g824 : Cond.methodLink "CallBookModel" 116 ⟨"CallBookModel", "deal", "(IIII)V"⟩ ∈ GG := gw 824 (by decide +kernel) rfl
theorem g826 : Cond.instanceMethod ⟨"CallBookModel", "deal", "(IIII)V"⟩ ∈ GG := gw 826 (by decide +kernel) rfl
theorem g827 : Cond.code ⟨"CallBookModel", "deal", "(IIII)V"⟩ prog_8_method_12_code 5 none ∈ GG := gw 827 (by decide +kernel) rfl
theorem g828 : Cond.methodLink "CallBookModel" 120 ⟨"CallBookModel", "end", "(I)V"⟩ ∈ GG := gw 828 (by decide +kernel) rfl
theorem g830 : Cond.instanceMethod ⟨"CallBookModel", "end", "(I)V"⟩ ∈ GG := gw 830 (by decide +kernel) rfl
theorem g831 : Cond.code ⟨"CallBookModel", "end", "(I)V"⟩ prog_8_method_11_code 2 none ∈ GG := gw 831 (by decide +kernel) rfl
theorem g832 : Cond.methodLink "CallBookModel" 123 ⟨"CallBookModel", "comeToRest", "(I)V"⟩ ∈ GG := gw 832 (by decide +kernel) rfl
theorem g834 : Cond.instanceMethod ⟨"CallBookModel", "comeToRest", "(I)V"⟩ ∈ GG := gw 834 (by decide +kernel) rfl
theorem g835 : Cond.code ⟨"CallBookModel", "comeToRest", "(I)V"⟩ prog_8_method_10_code 2 none ∈ GG := gw 835 (by decide +kernel) rfl
theorem g836 : Cond.methodLink "CallBookModel" 82 ⟨"CallBookModel", "show", "(I)V"⟩ ∈ GG := gw 836 (by decide +kernel) rfl
theorem g838 : Cond.instanceMethod ⟨"CallBookModel", "show", "(I)V"⟩ ∈ GG := gw 838 (by decide +kernel) rfl
theorem g839 : Cond.code ⟨"CallBookModel", "show", "(I)V"⟩ prog_8_method_9_code 2 none ∈ GG := gw 839 (by decide +kernel) rfl
theorem g840 : Cond.methodLink "CallBookLaw" 64 ⟨"CallBookModel", "cancel", "(I)I"⟩ ∈ GG := gw 840 (by decide +kernel) rfl
theorem g841 : Cond.instanceMethod ⟨"CallBookModel", "cancel", "(I)I"⟩ ∈ GG := gw 841 (by decide +kernel) rfl
theorem g842 : Cond.selects "CallBookModel" ⟨"CallBookModel", "cancel", "(I)I"⟩ ⟨"CallBookModel", "cancel", "(I)I"⟩ ∈ GG := gw 842 (by decide +kernel) rfl
theorem g843 : Cond.code ⟨"CallBookModel", "cancel", "(I)I"⟩ prog_8_method_21_code 3 (some FieldType.int) ∈ GG := gw 843 (by decide +kernel) rfl
theorem g844 : Cond.methodLink "CallBookModel" 139 ⟨"CallBookModel", "isOrder", "(I)Z"⟩ ∈ GG := gw 844 (by decide +kernel) rfl
theorem g846 : Cond.instanceMethod ⟨"CallBookModel", "isOrder", "(I)Z"⟩ ∈ GG := gw 846 (by decide +kernel) rfl
theorem g847 : Cond.code ⟨"CallBookModel", "isOrder", "(I)Z"⟩ prog_8_method_5_code 2 (some FieldType.boolean) ∈ GG := gw 847 (by decide +kernel) rfl
theorem g848 : Cond.methodLink "CallBookLaw" 67 ⟨"CallBookModel", "cancelAll", "(I)I"⟩ ∈ GG := gw 848 (by decide +kernel) rfl
theorem g849 : Cond.instanceMethod ⟨"CallBookModel", "cancelAll", "(I)I"⟩ ∈ GG := gw 849 (by decide +kernel) rfl
theorem g850 : Cond.selects "CallBookModel" ⟨"CallBookModel", "cancelAll", "(I)I"⟩ ⟨"CallBookModel", "cancelAll", "(I)I"⟩ ∈ GG := gw 850 (by decide +kernel) rfl
theorem g851 : Cond.code ⟨"CallBookModel", "cancelAll", "(I)I"⟩ prog_8_method_22_code 4 (some FieldType.int) ∈ GG := gw 851 (by decide +kernel) rfl
theorem g852 : Cond.methodLink "CallBookLaw" 71 ⟨"CallBookModel", "amend", "(III)Z"⟩ ∈ GG := gw 852 (by decide +kernel) rfl
theorem g853 : Cond.instanceMethod ⟨"CallBookModel", "amend", "(III)Z"⟩ ∈ GG := gw 853 (by decide +kernel) rfl
theorem g854 : Cond.selects "CallBookModel" ⟨"CallBookModel", "amend", "(III)Z"⟩ ⟨"CallBookModel", "amend", "(III)Z"⟩ ∈ GG := gw 854 (by decide +kernel) rfl
theorem g855 : Cond.code ⟨"CallBookModel", "amend", "(III)Z"⟩ prog_8_method_23_code 4 (some FieldType.boolean) ∈ GG := gw 855 (by decide +kernel) rfl
theorem g856 : Cond.methodLink "CallBookLaw" 75 ⟨"CallBookModel", "open", "()J"⟩ ∈ GG := gw 856 (by decide +kernel) rfl
theorem g857 : Cond.instanceMethod ⟨"CallBookModel", "open", "()J"⟩ ∈ GG := gw 857 (by decide +kernel) rfl
theorem g858 : Cond.selects "CallBookModel" ⟨"CallBookModel", "open", "()J"⟩ ⟨"CallBookModel", "open", "()J"⟩ ∈ GG := gw 858 (by decide +kernel) rfl
theorem g859 : Cond.code ⟨"CallBookModel", "open", "()J"⟩ prog_8_method_26_code 8 (some FieldType.long) ∈ GG := gw 859 (by decide +kernel) rfl
theorem g860 : Cond.methodLink "CallBookModel" 154 ⟨"CallBookModel", "clear", "()V"⟩ ∈ GG := gw 860 (by decide +kernel) rfl
theorem g862 : Cond.instanceMethod ⟨"CallBookModel", "clear", "()V"⟩ ∈ GG := gw 862 (by decide +kernel) rfl
theorem g863 : Cond.code ⟨"CallBookModel", "clear", "()V"⟩ prog_8_method_25_code 8 none ∈ GG := gw 863 (by decide +kernel) rfl
theorem g864 : Cond.methodLink "CallBookModel" 142 ⟨"CallBookModel", "sumUp", "()V"⟩ ∈ GG := gw 864 (by decide +kernel) rfl
theorem g866 : Cond.instanceMethod ⟨"CallBookModel", "sumUp", "()V"⟩ ∈ GG := gw 866 (by decide +kernel) rfl
theorem g867 : Cond.code ⟨"CallBookModel", "sumUp", "()V"⟩ prog_8_method_24_code 3 none ∈ GG := gw 867 (by decide +kernel) rfl
theorem g868 : Cond.methodLink "CallBookLaw" 79 ⟨"CallBookModel", "call", "()I"⟩ ∈ GG := gw 868 (by decide +kernel) rfl
theorem g869 : Cond.instanceMethod ⟨"CallBookModel", "call", "()I"⟩ ∈ GG := gw 869 (by decide +kernel) rfl
theorem g870 : Cond.selects "CallBookModel" ⟨"CallBookModel", "call", "()I"⟩ ⟨"CallBookModel", "call", "()I"⟩ ∈ GG := gw 870 (by decide +kernel) rfl
theorem g871 : Cond.code ⟨"CallBookModel", "call", "()I"⟩ prog_8_method_27_code 2 (some FieldType.int) ∈ GG := gw 871 (by decide +kernel) rfl
theorem g872 : Cond.methodLink "CallBookLaw" 83 ⟨"CallBookModel", "band", "(II)I"⟩ ∈ GG := gw 872 (by decide +kernel) rfl
theorem g873 : Cond.instanceMethod ⟨"CallBookModel", "band", "(II)I"⟩ ∈ GG := gw 873 (by decide +kernel) rfl
theorem g874 : Cond.selects "CallBookModel" ⟨"CallBookModel", "band", "(II)I"⟩ ⟨"CallBookModel", "band", "(II)I"⟩ ∈ GG := gw 874 (by decide +kernel) rfl
theorem g875 : Cond.code ⟨"CallBookModel", "band", "(II)I"⟩ prog_8_method_28_code 4 (some FieldType.int) ∈ GG := gw 875 (by decide +kernel) rfl
theorem g876 : Cond.methodLink "CallBookLaw" 86 ⟨"CallBookModel", "clearing", "(I)J"⟩ ∈ GG := gw 876 (by decide +kernel) rfl
theorem g877 : Cond.instanceMethod ⟨"CallBookModel", "clearing", "(I)J"⟩ ∈ GG := gw 877 (by decide +kernel) rfl
theorem g878 : Cond.selects "CallBookModel" ⟨"CallBookModel", "clearing", "(I)J"⟩ ⟨"CallBookModel", "clearing", "(I)J"⟩ ∈ GG := gw 878 (by decide +kernel) rfl
theorem g879 : Cond.code ⟨"CallBookModel", "clearing", "(I)J"⟩ prog_8_method_29_code 2 (some FieldType.long) ∈ GG := gw 879 (by decide +kernel) rfl
theorem g880 : Cond.methodLink "CallBookLaw" 89 ⟨"CallBookModel", "order", "(II)I"⟩ ∈ GG := gw 880 (by decide +kernel) rfl
theorem g881 : Cond.instanceMethod ⟨"CallBookModel", "order", "(II)I"⟩ ∈ GG := gw 881 (by decide +kernel) rfl
theorem g882 : Cond.selects "CallBookModel" ⟨"CallBookModel", "order", "(II)I"⟩ ⟨"CallBookModel", "order", "(II)I"⟩ ∈ GG := gw 882 (by decide +kernel) rfl
theorem g883 : Cond.code ⟨"CallBookModel", "order", "(II)I"⟩ prog_8_method_30_code 3 (some FieldType.int) ∈ GG := gw 883 (by decide +kernel) rfl
theorem g884 : Cond.methodLink "CallBookLaw" 94 ⟨"CallBookModel", "at", "(ZI)I"⟩ ∈ GG := gw 884 (by decide +kernel) rfl
theorem g885 : Cond.instanceMethod ⟨"CallBookModel", "at", "(ZI)I"⟩ ∈ GG := gw 885 (by decide +kernel) rfl
theorem g886 : Cond.selects "CallBookModel" ⟨"CallBookModel", "at", "(ZI)I"⟩ ⟨"CallBookModel", "at", "(ZI)I"⟩ ∈ GG := gw 886 (by decide +kernel) rfl
theorem g887 : Cond.code ⟨"CallBookModel", "at", "(ZI)I"⟩ prog_8_method_31_code 7 (some FieldType.int) ∈ GG := gw 887 (by decide +kernel) rfl
theorem g888 : Cond.methodLink "CallBookLaw" 98 ⟨"CallBookModel", "depth", "(ZIZ)J"⟩ ∈ GG := gw 888 (by decide +kernel) rfl
theorem g889 : Cond.instanceMethod ⟨"CallBookModel", "depth", "(ZIZ)J"⟩ ∈ GG := gw 889 (by decide +kernel) rfl
theorem g890 : Cond.selects "CallBookModel" ⟨"CallBookModel", "depth", "(ZIZ)J"⟩ ⟨"CallBookModel", "depth", "(ZIZ)J"⟩ ∈ GG := gw 890 (by decide +kernel) rfl
theorem g891 : Cond.code ⟨"CallBookModel", "depth", "(ZIZ)J"⟩ prog_8_method_32_code 8 (some FieldType.long) ∈ GG := gw 891 (by decide +kernel) rfl
theorem g892 : Cond.methodLink "CallBookLaw" 102 ⟨"CallBookModel", "trade", "(II)I"⟩ ∈ GG := gw 892 (by decide +kernel) rfl
theorem g893 : Cond.instanceMethod ⟨"CallBookModel", "trade", "(II)I"⟩ ∈ GG := gw 893 (by decide +kernel) rfl
theorem g894 : Cond.selects "CallBookModel" ⟨"CallBookModel", "trade", "(II)I"⟩ ⟨"CallBookModel", "trade", "(II)I"⟩ ∈ GG := gw 894 (by decide +kernel) rfl
theorem g895 : Cond.code ⟨"CallBookModel", "trade", "(II)I"⟩ prog_8_method_33_code 3 (some FieldType.int) ∈ GG := gw 895 (by decide +kernel) rfl
theorem g896 : Cond.methodLink "CallBookLaw" 106 ⟨"CallBookModel", "told", "(I)J"⟩ ∈ GG := gw 896 (by decide +kernel) rfl
theorem g897 : Cond.instanceMethod ⟨"CallBookModel", "told", "(I)J"⟩ ∈ GG := gw 897 (by decide +kernel) rfl
theorem g898 : Cond.selects "CallBookModel" ⟨"CallBookModel", "told", "(I)J"⟩ ⟨"CallBookModel", "told", "(I)J"⟩ ∈ GG := gw 898 (by decide +kernel) rfl
theorem g899 : Cond.code ⟨"CallBookModel", "told", "(I)J"⟩ prog_8_method_34_code 5 (some FieldType.long) ∈ GG := gw 899 (by decide +kernel) rfl
theorem g900 : Cond.constantLong "CallBookModel" 157 (-1) ∈ GG := gw 900 (by decide +kernel) rfl
theorem g901 : Cond.methodLink "CallBookLaw" 110 ⟨"CallBookModel", "astray", "()I"⟩ ∈ GG := gw 901 (by decide +kernel) rfl
theorem g902 : Cond.instanceMethod ⟨"CallBookModel", "astray", "()I"⟩ ∈ GG := gw 902 (by decide +kernel) rfl
theorem g903 : Cond.selects "CallBookModel" ⟨"CallBookModel", "astray", "()I"⟩ ⟨"CallBookModel", "astray", "()I"⟩ ∈ GG := gw 903 (by decide +kernel) rfl
theorem g904 : Cond.code ⟨"CallBookModel", "astray", "()I"⟩ prog_8_method_35_code 1 (some FieldType.int) ∈ GG := gw 904 (by decide +kernel) rfl
theorem g905 : Cond.sameMethod "java/lang/Throwable" "java/lang/Throwable" "fillInStackTrace" "(I)Ljava/lang/Throwable;" ∈ GG := gw 905 (by decide +kernel) rfl
theorem g908 : Cond.sameMethod "[Ljava/lang/Object;" "java/lang/Object" "getClass" "()Ljava/lang/Class;" ∈ GG := gw 908 (by decide +kernel) rfl
theorem g909 : Cond.selects "[Ljava/lang/Object;" ⟨"java/lang/Object", "getClass", "()Ljava/lang/Class;"⟩ ⟨"java/lang/Object", "getClass", "()Ljava/lang/Class;"⟩ ∈ GG := gw 909 (by decide +kernel) rfl
end
section
/-! The classes whose objects the world holds -/
def R_AL : String := "java/util/ArrayList"
def T_AL : u_T := fun k => match k with
  | 0 => ("java/util/AbstractList", "modCount", "I", false)
  | 1 => ("java/util/ArrayList", "elementData", "[Ljava/lang/Object;", false)
  | _ => ("java/util/ArrayList", "size", "I", false)
def t_AL : Nat → FieldType := fun k => match k with
  | 0 => .int
  | 1 => .array (.object "java/lang/Object")
  | _ => .int
theorem n_AL : ∀ a, a < 3 → ∀ b, b < 3 → a ≠ b → (T_AL a).2.1 ≠ (T_AL b).2.1 := by decide +kernel
theorem tk_AL : ∀ k, k < 3 → parseFieldDescriptor (T_AL k).2.2.1 = some (t_AL k) := by decide +kernel
theorem uw_AL : ∀ w ∈ u_ws "java/util/ArrayList" T_AL 3, w ∈ GG := by
  intro w hw
  obtain ⟨k, hk, rfl⟩ := List.mem_map.mp hw
  have hk := List.mem_range.mp hk
  match k, hk with
  | 0, _ => exact g93
  | 1, _ => exact g89
  | 2, _ => exact g91
  | k + 3, hk => exact absurd hk (by omega)
def R_A : String := "CallBook$Auction"
def T_A : u_T := fun k => match k with
  | 0 => ("CallBook$Auction", "price", "I", false)
  | 1 => ("CallBook$Auction", "volume", "J", false)
  | _ => ("CallBook$Auction", "surplus", "J", false)
def t_A : Nat → FieldType := fun k => match k with
  | 0 => .int
  | 1 => .long
  | _ => .long
theorem n_A : ∀ a, a < 3 → ∀ b, b < 3 → a ≠ b → (T_A a).2.1 ≠ (T_A b).2.1 := by decide +kernel
theorem tk_A : ∀ k, k < 3 → parseFieldDescriptor (T_A k).2.2.1 = some (t_A k) := by decide +kernel
theorem uw_A : ∀ w ∈ u_ws "CallBook$Auction" T_A 3, w ∈ GG := by
  intro w hw
  obtain ⟨k, hk, rfl⟩ := List.mem_map.mp hw
  have hk := List.mem_range.mp hk
  match k, hk with
  | 0, _ => exact g138
  | 1, _ => exact g140
  | 2, _ => exact g142
  | k + 3, hk => exact absurd hk (by omega)
def R_O : String := "CallBook$Order"
def T_O : u_T := fun k => match k with
  | 0 => ("CallBook$Order", "number", "I", true)
  | 1 => ("CallBook$Order", "owner", "I", true)
  | 2 => ("CallBook$Order", "buys", "Z", true)
  | 3 => ("CallBook$Order", "peak", "I", true)
  | 4 => ("CallBook$Order", "life", "I", true)
  | 5 => ("CallBook$Order", "price", "I", false)
  | 6 => ("CallBook$Order", "left", "I", false)
  | 7 => ("CallBook$Order", "shown", "I", false)
  | 8 => ("CallBook$Order", "rank", "I", false)
  | _ => ("CallBook$Order", "traded", "I", false)
def t_O : Nat → FieldType := fun k => match k with
  | 0 => .int
  | 1 => .int
  | 2 => .boolean
  | 3 => .int
  | 4 => .int
  | 5 => .int
  | 6 => .int
  | 7 => .int
  | 8 => .int
  | _ => .int
theorem n_O : ∀ a, a < 10 → ∀ b, b < 10 → a ≠ b → (T_O a).2.1 ≠ (T_O b).2.1 := by decide +kernel
theorem tk_O : ∀ k, k < 10 → parseFieldDescriptor (T_O k).2.2.1 = some (t_O k) := by decide +kernel
theorem uw_O : ∀ w ∈ u_ws "CallBook$Order" T_O 10, w ∈ GG := by
  intro w hw
  obtain ⟨k, hk, rfl⟩ := List.mem_map.mp hw
  have hk := List.mem_range.mp hk
  match k, hk with
  | 0, _ => exact g406
  | 1, _ => exact g408
  | 2, _ => exact g410
  | 3, _ => exact g412
  | 4, _ => exact g414
  | 5, _ => exact g416
  | 6, _ => exact g418
  | 7, _ => exact g420
  | 8, _ => exact g422
  | 9, _ => exact g424
  | k + 10, hk => exact absurd hk (by omega)
def R_S : String := "CallBook$Side"
def T_S : u_T := fun k => match k with
  | _ => ("CallBook$Side", "line", "Ljava/util/ArrayList;", true)
def t_S : Nat → FieldType := fun k => match k with
  | _ => .object "java/util/ArrayList"
theorem n_S : ∀ a, a < 1 → ∀ b, b < 1 → a ≠ b → (T_S a).2.1 ≠ (T_S b).2.1 := by decide +kernel
theorem tk_S : ∀ k, k < 1 → parseFieldDescriptor (T_S k).2.2.1 = some (t_S k) := by decide +kernel
theorem uw_S : ∀ w ∈ u_ws "CallBook$Side" T_S 1, w ∈ GG := by
  intro w hw
  obtain ⟨k, hk, rfl⟩ := List.mem_map.mp hw
  have hk := List.mem_range.mp hk
  match k, hk with
  | 0, _ => exact g106
  | k + 1, hk => exact absurd hk (by omega)
def R_R : String := "CallBook$Trade"
def T_R : u_T := fun k => match k with
  | 0 => ("CallBook$Trade", "buyer", "I", true)
  | 1 => ("CallBook$Trade", "seller", "I", true)
  | 2 => ("CallBook$Trade", "price", "I", true)
  | _ => ("CallBook$Trade", "quantity", "I", true)
def t_R : Nat → FieldType := fun k => match k with
  | 0 => .int
  | 1 => .int
  | 2 => .int
  | _ => .int
theorem n_R : ∀ a, a < 4 → ∀ b, b < 4 → a ≠ b → (T_R a).2.1 ≠ (T_R b).2.1 := by decide +kernel
theorem tk_R : ∀ k, k < 4 → parseFieldDescriptor (T_R k).2.2.1 = some (t_R k) := by decide +kernel
theorem uw_R : ∀ w ∈ u_ws "CallBook$Trade" T_R 4, w ∈ GG := by
  intro w hw
  obtain ⟨k, hk, rfl⟩ := List.mem_map.mp hw
  have hk := List.mem_range.mp hk
  match k, hk with
  | 0, _ => exact g553
  | 1, _ => exact g555
  | 2, _ => exact g557
  | 3, _ => exact g559
  | k + 4, hk => exact absurd hk (by omega)
def R_G : String := "CallBook$TradeLog"
def T_G : u_T := fun k => match k with
  | 0 => ("CallBook$TradeLog", "kept", "Ljava/util/ArrayList;", true)
  | _ => ("CallBook$TradeLog", "total", "J", false)
def t_G : Nat → FieldType := fun k => match k with
  | 0 => .object "java/util/ArrayList"
  | _ => .long
theorem n_G : ∀ a, a < 2 → ∀ b, b < 2 → a ≠ b → (T_G a).2.1 ≠ (T_G b).2.1 := by decide +kernel
theorem tk_G : ∀ k, k < 2 → parseFieldDescriptor (T_G k).2.2.1 = some (t_G k) := by decide +kernel
theorem uw_G : ∀ w ∈ u_ws "CallBook$TradeLog" T_G 2, w ∈ GG := by
  intro w hw
  obtain ⟨k, hk, rfl⟩ := List.mem_map.mp hw
  have hk := List.mem_range.mp hk
  match k, hk with
  | 0, _ => exact g121
  | 1, _ => exact g123
  | k + 2, hk => exact absurd hk (by omega)
def R_B : String := "CallBook"
def T_B : u_T := fun k => match k with
  | 0 => ("CallBook", "orders", "Ljava/util/ArrayList;", true)
  | 1 => ("CallBook", "buyers", "LCallBook$Side;", true)
  | 2 => ("CallBook", "sellers", "LCallBook$Side;", true)
  | 3 => ("CallBook", "trades", "LCallBook$TradeLog;", true)
  | 4 => ("CallBook", "auction", "LCallBook$Auction;", true)
  | 5 => ("CallBook", "phase", "I", false)
  | 6 => ("CallBook", "referencePrice", "I", false)
  | 7 => ("CallBook", "bandWidth", "I", false)
  | _ => ("CallBook", "nextRank", "I", false)
def t_B : Nat → FieldType := fun k => match k with
  | 0 => .object "java/util/ArrayList"
  | 1 => .object "CallBook$Side"
  | 2 => .object "CallBook$Side"
  | 3 => .object "CallBook$TradeLog"
  | 4 => .object "CallBook$Auction"
  | 5 => .int
  | 6 => .int
  | 7 => .int
  | _ => .int
theorem n_B : ∀ a, a < 9 → ∀ b, b < 9 → a ≠ b → (T_B a).2.1 ≠ (T_B b).2.1 := by decide +kernel
theorem tk_B : ∀ k, k < 9 → parseFieldDescriptor (T_B k).2.2.1 = some (t_B k) := by decide +kernel
theorem uw_B : ∀ w ∈ u_ws "CallBook" T_B 9, w ∈ GG := by
  intro w hw
  obtain ⟨k, hk, rfl⟩ := List.mem_map.mp hw
  have hk := List.mem_range.mp hk
  match k, hk with
  | 0, _ => exact g154
  | 1, _ => exact g156
  | 2, _ => exact g158
  | 3, _ => exact g160
  | 4, _ => exact g162
  | 5, _ => exact g164
  | 6, _ => exact g166
  | 7, _ => exact g168
  | 8, _ => exact g170
  | k + 9, hk => exact absurd hk (by omega)
def R_M : String := "CallBookModel"
def T_M : u_T := fun k => match k with
  | 0 => ("CallBookModel", "code", "I", false)
  | 1 => ("CallBookModel", "phase", "I", false)
  | 2 => ("CallBookModel", "reference", "I", false)
  | 3 => ("CallBookModel", "band", "I", false)
  | 4 => ("CallBookModel", "ranks", "I", false)
  | 5 => ("CallBookModel", "orders", "I", false)
  | 6 => ("CallBookModel", "owners", "[I", true)
  | 7 => ("CallBookModel", "buyers", "[Z", true)
  | 8 => ("CallBookModel", "prices", "[I", true)
  | 9 => ("CallBookModel", "lefts", "[I", true)
  | 10 => ("CallBookModel", "showns", "[I", true)
  | 11 => ("CallBookModel", "ranked", "[I", true)
  | 12 => ("CallBookModel", "lives", "[I", true)
  | 13 => ("CallBookModel", "traded", "[I", true)
  | 14 => ("CallBookModel", "peaks", "[I", true)
  | 15 => ("CallBookModel", "trades", "I", false)
  | 16 => ("CallBookModel", "tradeBuyer", "[I", true)
  | 17 => ("CallBookModel", "tradeSeller", "[I", true)
  | 18 => ("CallBookModel", "tradePrice", "[I", true)
  | 19 => ("CallBookModel", "tradeQuantity", "[I", true)
  | 20 => ("CallBookModel", "all", "J", false)
  | 21 => ("CallBookModel", "wanted", "[J", true)
  | 22 => ("CallBookModel", "offered", "[J", true)
  | 23 => ("CallBookModel", "bestPrice", "I", false)
  | 24 => ("CallBookModel", "bestVolume", "J", false)
  | _ => ("CallBookModel", "bestSurplus", "J", false)
def t_M : Nat → FieldType := fun k => match k with
  | 0 => .int
  | 1 => .int
  | 2 => .int
  | 3 => .int
  | 4 => .int
  | 5 => .int
  | 6 => .array (.int)
  | 7 => .array (.boolean)
  | 8 => .array (.int)
  | 9 => .array (.int)
  | 10 => .array (.int)
  | 11 => .array (.int)
  | 12 => .array (.int)
  | 13 => .array (.int)
  | 14 => .array (.int)
  | 15 => .int
  | 16 => .array (.int)
  | 17 => .array (.int)
  | 18 => .array (.int)
  | 19 => .array (.int)
  | 20 => .long
  | 21 => .array (.long)
  | 22 => .array (.long)
  | 23 => .int
  | 24 => .long
  | _ => .long
theorem n_M : ∀ a, a < 26 → ∀ b, b < 26 → a ≠ b → (T_M a).2.1 ≠ (T_M b).2.1 := by decide +kernel
theorem tk_M : ∀ k, k < 26 → parseFieldDescriptor (T_M k).2.2.1 = some (t_M k) := by decide +kernel
theorem uw_M : ∀ w ∈ u_ws "CallBookModel" T_M 26, w ∈ GG := by
  intro w hw
  obtain ⟨k, hk, rfl⟩ := List.mem_map.mp hw
  have hk := List.mem_range.mp hk
  match k, hk with
  | 0, _ => exact g714
  | 1, _ => exact g716
  | 2, _ => exact g718
  | 3, _ => exact g720
  | 4, _ => exact g722
  | 5, _ => exact g724
  | 6, _ => exact g726
  | 7, _ => exact g728
  | 8, _ => exact g730
  | 9, _ => exact g732
  | 10, _ => exact g734
  | 11, _ => exact g736
  | 12, _ => exact g738
  | 13, _ => exact g740
  | 14, _ => exact g742
  | 15, _ => exact g744
  | 16, _ => exact g746
  | 17, _ => exact g748
  | 18, _ => exact g750
  | 19, _ => exact g752
  | 20, _ => exact g754
  | 21, _ => exact g756
  | 22, _ => exact g758
  | 23, _ => exact g760
  | 24, _ => exact g762
  | 25, _ => exact g764
  | k + 26, hk => exact absurd hk (by omega)
abbrev vwCl : List vw_C := [("java/util/ArrayList", T_AL, 3), ("CallBook$Auction", T_A, 3), ("CallBook$Order", T_O, 10), ("CallBook$Side", T_S, 1), ("CallBook$Trade", T_R, 4), ("CallBook$TradeLog", T_G, 2), ("CallBook", T_B, 9), ("CallBookModel", T_M, 26)]
abbrev b_B_init : ByteArray := prog_1_method_1_code
abbrev y_B_init : MethodName := ⟨"CallBook", "<init>", "()V"⟩
abbrev w_B_init : List Cond := .code y_B_init b_B_init 1 none :: GG
abbrev b_AL_init : ByteArray := prog_21_method_2_code
abbrev y_AL_init : MethodName := ⟨"java/util/ArrayList", "<init>", "()V"⟩
abbrev w_AL_init : List Cond := .code y_AL_init b_AL_init 1 none :: GG
abbrev b_AbL_init : ByteArray := prog_20_method_1_code
abbrev y_AbL_init : MethodName := ⟨"java/util/AbstractList", "<init>", "()V"⟩
abbrev w_AbL_init : List Cond := .code y_AbL_init b_AbL_init 1 none :: GG
abbrev b_AbC_init : ByteArray := prog_19_method_1_code
abbrev y_AbC_init : MethodName := ⟨"java/util/AbstractCollection", "<init>", "()V"⟩
abbrev w_AbC_init : List Cond := .code y_AbC_init b_AbC_init 1 none :: GG
abbrev b_S_init : ByteArray := prog_4_method_1_code
abbrev y_S_init : MethodName := ⟨"CallBook$Side", "<init>", "()V"⟩
abbrev w_S_init : List Cond := .code y_S_init b_S_init 1 none :: GG
abbrev b_G_init : ByteArray := prog_6_method_1_code
abbrev y_G_init : MethodName := ⟨"CallBook$TradeLog", "<init>", "()V"⟩
abbrev w_G_init : List Cond := .code y_G_init b_G_init 1 none :: GG
abbrev b_A_init : ByteArray := prog_2_method_1_code
abbrev y_A_init : MethodName := ⟨"CallBook$Auction", "<init>", "()V"⟩
abbrev w_A_init : List Cond := .code y_A_init b_A_init 1 none :: GG
abbrev b_B_call : ByteArray := prog_1_method_7_code
abbrev y_B_call : MethodName := ⟨"CallBook", "call", "()I"⟩
abbrev w_B_call : List Cond := .code y_B_call b_B_call 2 (some FieldType.int) :: GG
abbrev b_B_at : ByteArray := prog_1_method_11_code
abbrev y_B_at : MethodName := ⟨"CallBook", "at", "(ZI)I"⟩
abbrev w_B_at : List Cond := .code y_B_at b_B_at 4 (some FieldType.int) :: GG
abbrev b_B_side : ByteArray := prog_1_method_23_code
abbrev y_B_side : MethodName := ⟨"CallBook", "side", "(Z)LCallBook$Side;"⟩
abbrev w_B_side : List Cond := .code y_B_side b_B_side 2 (some (FieldType.object "CallBook$Side")) :: GG
abbrev b_AL_size : ByteArray := prog_21_method_8_code
abbrev y_AL_size : MethodName := ⟨"java/util/ArrayList", "size", "()I"⟩
abbrev w_AL_size : List Cond := .code y_AL_size b_AL_size 1 (some FieldType.int) :: GG
abbrev b_AL_get : ByteArray := prog_21_method_20_code
abbrev y_AL_get : MethodName := ⟨"java/util/ArrayList", "get", "(I)Ljava/lang/Object;"⟩
abbrev w_AL_get : List Cond := .code y_AL_get b_AL_get 2 (some (FieldType.object "java/lang/Object")) :: GG
abbrev b_Ob_checkIndex : ByteArray := prog_25_method_17_code
abbrev y_Ob_checkIndex : MethodName := ⟨"java/util/Objects", "checkIndex", "(II)I"⟩
abbrev w_Ob_checkIndex : List Cond := .code y_Ob_checkIndex b_Ob_checkIndex 2 (some FieldType.int) :: GG
abbrev b_Pc_checkIndex : ByteArray := prog_29_method_11_code
abbrev y_Pc_checkIndex : MethodName := ⟨"jdk/internal/util/Preconditions", "checkIndex", "(IILjava/util/function/BiFunction;)I"⟩
abbrev w_Pc_checkIndex : List Cond := .code y_Pc_checkIndex b_Pc_checkIndex 3 (some FieldType.int) :: GG
abbrev b_AL_elementData : ByteArray := prog_21_method_18_code
abbrev y_AL_elementData : MethodName := ⟨"java/util/ArrayList", "elementData", "(I)Ljava/lang/Object;"⟩
abbrev w_AL_elementData : List Cond := .code y_AL_elementData b_AL_elementData 2 (some (FieldType.object "java/lang/Object")) :: GG
abbrev b_B_trade : ByteArray := prog_1_method_13_code
abbrev y_B_trade : MethodName := ⟨"CallBook", "trade", "(II)I"⟩
abbrev w_B_trade : List Cond := .code y_B_trade b_B_trade 3 (some FieldType.int) :: GG
abbrev b_G_tell : ByteArray := prog_6_method_3_code
abbrev y_G_tell : MethodName := ⟨"CallBook$TradeLog", "tell", "(II)I"⟩
abbrev w_G_tell : List Cond := .code y_G_tell b_G_tell 4 (some FieldType.int) :: GG
abbrev b_B_told : ByteArray := prog_1_method_14_code
abbrev y_B_told : MethodName := ⟨"CallBook", "told", "(I)J"⟩
abbrev w_B_told : List Cond := .code y_B_told b_B_told 2 (some FieldType.long) :: GG
abbrev b_B_astray : ByteArray := prog_1_method_15_code
abbrev y_B_astray : MethodName := ⟨"CallBook", "astray", "()I"⟩
abbrev w_B_astray : List Cond := .code y_B_astray b_B_astray 1 (some FieldType.int) :: GG
abbrev b_B_astrayInLine : ByteArray := prog_1_method_35_code
abbrev y_B_astrayInLine : MethodName := ⟨"CallBook", "astrayInLine", "(Z)I"⟩
abbrev w_B_astrayInLine : List Cond := .code y_B_astrayInLine b_B_astrayInLine 7 (some FieldType.int) :: GG
abbrev b_O_standsBefore : ByteArray := prog_3_method_8_code
abbrev y_O_standsBefore : MethodName := ⟨"CallBook$Order", "standsBefore", "(LCallBook$Order;)Z"⟩
abbrev w_O_standsBefore : List Cond := .code y_O_standsBefore b_O_standsBefore 2 (some FieldType.boolean) :: GG
abbrev b_O_isWrongAtRest : ByteArray := prog_3_method_9_code
abbrev y_O_isWrongAtRest : MethodName := ⟨"CallBook$Order", "isWrongAtRest", "()Z"⟩
abbrev w_O_isWrongAtRest : List Cond := .code y_O_isWrongAtRest b_O_isWrongAtRest 2 (some FieldType.boolean) :: GG
abbrev b_O_mayShow : ByteArray := prog_3_method_6_code
abbrev y_O_mayShow : MethodName := ⟨"CallBook$Order", "mayShow", "()I"⟩
abbrev w_O_mayShow : List Cond := .code y_O_mayShow b_O_mayShow 1 (some FieldType.int) :: GG
abbrev b_Ma_min : ByteArray := prog_15_method_69_code
abbrev y_Ma_min : MethodName := ⟨"java/lang/Math", "min", "(II)I"⟩
abbrev w_Ma_min : List Cond := .code y_Ma_min b_Ma_min 2 (some FieldType.int) :: GG
abbrev b_O_rests : ByteArray := prog_3_method_5_code
abbrev y_O_rests : MethodName := ⟨"CallBook$Order", "rests", "()Z"⟩
abbrev w_O_rests : List Cond := .code y_O_rests b_O_rests 1 (some FieldType.boolean) :: GG
abbrev b_B_couldTrade : ByteArray := prog_1_method_36_code
abbrev y_B_couldTrade : MethodName := ⟨"CallBook", "couldTrade", "(LCallBook$Order;)Z"⟩
abbrev w_B_couldTrade : List Cond := .code y_B_couldTrade b_B_couldTrade 3 (some FieldType.boolean) :: GG
abbrev b_S_first : ByteArray := prog_4_method_2_code
abbrev y_S_first : MethodName := ⟨"CallBook$Side", "first", "()LCallBook$Order;"⟩
abbrev w_S_first : List Cond := .code y_S_first b_S_first 1 (some (FieldType.object "CallBook$Order")) :: GG
abbrev b_AL_isEmpty : ByteArray := prog_21_method_9_code
abbrev y_AL_isEmpty : MethodName := ⟨"java/util/ArrayList", "isEmpty", "()Z"⟩
abbrev w_AL_isEmpty : List Cond := .code y_AL_isEmpty b_AL_isEmpty 1 (some FieldType.boolean) :: GG
abbrev b_O_takes : ByteArray := prog_3_method_7_code
abbrev y_O_takes : MethodName := ⟨"CallBook$Order", "takes", "(I)Z"⟩
abbrev w_O_takes : List Cond := .code y_O_takes b_O_takes 2 (some FieldType.boolean) :: GG
abbrev b_B_astrayOutOfLine : ByteArray := prog_1_method_37_code
abbrev y_B_astrayOutOfLine : MethodName := ⟨"CallBook", "astrayOutOfLine", "()I"⟩
abbrev w_B_astrayOutOfLine : List Cond := .code y_B_astrayOutOfLine b_B_astrayOutOfLine 5 (some FieldType.int) :: GG
abbrev b_Ma_abs : ByteArray := prog_15_method_59_code
abbrev y_Ma_abs : MethodName := ⟨"java/lang/Math", "abs", "(I)I"⟩
abbrev w_Ma_abs : List Cond := .code y_Ma_abs b_Ma_abs 1 (some FieldType.int) :: GG
abbrev b_L_place : ByteArray := method_3_code
abbrev y_L_place : MethodName := ⟨"CallBookLaw", "place", "(LCallBook;IZIIII[J)I"⟩
abbrev w_L_place : List Cond := .codeWith y_L_place b_L_place 9 (some FieldType.int) [(0, 18, 21, 13), (0, 18, 25, 15)] :: GG
abbrev b_B_place : ByteArray := prog_1_method_2_code
abbrev y_B_place : MethodName := ⟨"CallBook", "place", "(IZIIII)I"⟩
abbrev w_B_place : List Cond := .code y_B_place b_B_place 9 (some FieldType.int) :: GG
abbrev b_B_isOwner : ByteArray := prog_1_method_16_code
abbrev y_B_isOwner : MethodName := ⟨"CallBook", "isOwner", "(I)Z"⟩
abbrev w_B_isOwner : List Cond := .code y_B_isOwner b_B_isOwner 1 (some FieldType.boolean) :: GG
abbrev b_B_isPriceOrMarket : ByteArray := prog_1_method_17_code
abbrev y_B_isPriceOrMarket : MethodName := ⟨"CallBook", "isPriceOrMarket", "(I)Z"⟩
abbrev w_B_isPriceOrMarket : List Cond := .code y_B_isPriceOrMarket b_B_isPriceOrMarket 1 (some FieldType.boolean) :: GG
abbrev b_B_isQuantity : ByteArray := prog_1_method_18_code
abbrev y_B_isQuantity : MethodName := ⟨"CallBook", "isQuantity", "(I)Z"⟩
abbrev w_B_isQuantity : List Cond := .code y_B_isQuantity b_B_isQuantity 1 (some FieldType.boolean) :: GG
abbrev b_B_isPeak : ByteArray := prog_1_method_19_code
abbrev y_B_isPeak : MethodName := ⟨"CallBook", "isPeak", "(I)Z"⟩
abbrev w_B_isPeak : List Cond := .code y_B_isPeak b_B_isPeak 1 (some FieldType.boolean) :: GG
abbrev b_B_fitsPeak : ByteArray := prog_1_method_21_code
abbrev y_B_fitsPeak : MethodName := ⟨"CallBook", "fitsPeak", "(II)Z"⟩
abbrev w_B_fitsPeak : List Cond := .code y_B_fitsPeak b_B_fitsPeak 2 (some FieldType.boolean) :: GG
abbrev b_B_isLife : ByteArray := prog_1_method_20_code
abbrev y_B_isLife : MethodName := ⟨"CallBook", "isLife", "(I)Z"⟩
abbrev w_B_isLife : List Cond := .code y_B_isLife b_B_isLife 1 (some FieldType.boolean) :: GG
abbrev b_O_init : ByteArray := prog_3_method_1_code
abbrev y_O_init : MethodName := ⟨"CallBook$Order", "<init>", "(IIZII)V"⟩
abbrev w_O_init : List Cond := .code y_O_init b_O_init 6 none :: GG
abbrev b_O_ask : ByteArray := prog_3_method_2_code
abbrev y_O_ask : MethodName := ⟨"CallBook$Order", "ask", "(II)V"⟩
abbrev w_O_ask : List Cond := .code y_O_ask b_O_ask 3 none :: GG
abbrev b_AL_add : ByteArray := prog_21_method_25_code
abbrev y_AL_add : MethodName := ⟨"java/util/ArrayList", "add", "(Ljava/lang/Object;)Z"⟩
abbrev w_AL_add : List Cond := .code y_AL_add b_AL_add 2 (some FieldType.boolean) :: GG
abbrev b_AL_add2 : ByteArray := prog_21_method_24_code
abbrev y_AL_add2 : MethodName := ⟨"java/util/ArrayList", "add", "(Ljava/lang/Object;[Ljava/lang/Object;I)V"⟩
abbrev w_AL_add2 : List Cond := .code y_AL_add2 b_AL_add2 4 none :: GG
abbrev b_AL_grow : ByteArray := prog_21_method_7_code
abbrev y_AL_grow : MethodName := ⟨"java/util/ArrayList", "grow", "()[Ljava/lang/Object;"⟩
abbrev w_AL_grow : List Cond := .code y_AL_grow b_AL_grow 1 (some (FieldType.array (FieldType.object "java/lang/Object"))) :: GG
abbrev b_AL_grow2 : ByteArray := prog_21_method_6_code
abbrev y_AL_grow2 : MethodName := ⟨"java/util/ArrayList", "grow", "(I)[Ljava/lang/Object;"⟩
abbrev w_AL_grow2 : List Cond := .code y_AL_grow2 b_AL_grow2 4 (some (FieldType.array (FieldType.object "java/lang/Object"))) :: GG
abbrev b_As_newLength : ByteArray := prog_28_method_27_code
abbrev y_As_newLength : MethodName := ⟨"jdk/internal/util/ArraysSupport", "newLength", "(III)I"⟩
abbrev w_As_newLength : List Cond := .code y_As_newLength b_As_newLength 4 (some FieldType.int) :: GG
abbrev b_Ma_max : ByteArray := prog_15_method_65_code
abbrev y_Ma_max : MethodName := ⟨"java/lang/Math", "max", "(II)I"⟩
abbrev w_Ma_max : List Cond := .code y_Ma_max b_Ma_max 2 (some FieldType.int) :: GG
abbrev b_As_hugeLength : ByteArray := prog_28_method_28_code
abbrev y_As_hugeLength : MethodName := ⟨"jdk/internal/util/ArraysSupport", "hugeLength", "(II)I"⟩
abbrev w_As_hugeLength : List Cond := .code y_As_hugeLength b_As_hugeLength 3 (some FieldType.int) :: GG
abbrev b_Ar_copyOf : ByteArray := prog_22_method_119_code
abbrev y_Ar_copyOf : MethodName := ⟨"java/util/Arrays", "copyOf", "([Ljava/lang/Object;I)[Ljava/lang/Object;"⟩
abbrev w_Ar_copyOf : List Cond := .code y_Ar_copyOf b_Ar_copyOf 2 (some (FieldType.array (FieldType.object "java/lang/Object"))) :: GG
abbrev b_Ar_copyOf2 : ByteArray := prog_22_method_120_code
abbrev y_Ar_copyOf2 : MethodName := ⟨"java/util/Arrays", "copyOf", "([Ljava/lang/Object;ILjava/lang/Class;)[Ljava/lang/Object;"⟩
abbrev w_Ar_copyOf2 : List Cond := .code y_Ar_copyOf2 b_Ar_copyOf2 4 (some (FieldType.array (FieldType.object "java/lang/Object"))) :: GG
abbrev b_B_come : ByteArray := prog_1_method_25_code
abbrev y_B_come : MethodName := ⟨"CallBook", "come", "(LCallBook$Order;)V"⟩
abbrev w_B_come : List Cond := .code y_B_come b_B_come 3 none :: GG
abbrev b_B_rest : ByteArray := prog_1_method_32_code
abbrev y_B_rest : MethodName := ⟨"CallBook", "rest", "(LCallBook$Order;)V"⟩
abbrev w_B_rest : List Cond := .code y_B_rest b_B_rest 2 none :: GG
abbrev b_S_enter : ByteArray := prog_4_method_3_code
abbrev y_S_enter : MethodName := ⟨"CallBook$Side", "enter", "(LCallBook$Order;I)V"⟩
abbrev w_S_enter : List Cond := .code y_S_enter b_S_enter 4 none :: GG
abbrev b_AL_add3 : ByteArray := prog_21_method_26_code
abbrev y_AL_add3 : MethodName := ⟨"java/util/ArrayList", "add", "(ILjava/lang/Object;)V"⟩
abbrev w_AL_add3 : List Cond := .code y_AL_add3 b_AL_add3 5 none :: GG
abbrev b_AL_rangeCheckForAdd : ByteArray := prog_21_method_45_code
abbrev y_AL_rangeCheckForAdd : MethodName := ⟨"java/util/ArrayList", "rangeCheckForAdd", "(I)V"⟩
abbrev w_AL_rangeCheckForAdd : List Cond := .code y_AL_rangeCheckForAdd b_AL_rangeCheckForAdd 2 none :: GG
abbrev b_B_couldGoWhole : ByteArray := prog_1_method_26_code
abbrev y_B_couldGoWhole : MethodName := ⟨"CallBook", "couldGoWhole", "(LCallBook$Order;)Z"⟩
abbrev w_B_couldGoWhole : List Cond := .code y_B_couldGoWhole b_B_couldGoWhole 7 (some FieldType.boolean) :: GG
abbrev b_B_isBeyondBand : ByteArray := prog_1_method_24_code
abbrev y_B_isBeyondBand : MethodName := ⟨"CallBook", "isBeyondBand", "(I)Z"⟩
abbrev w_B_isBeyondBand : List Cond := .code y_B_isBeyondBand b_B_isBeyondBand 2 (some FieldType.boolean) :: GG
abbrev b_B_meet : ByteArray := prog_1_method_27_code
abbrev y_B_meet : MethodName := ⟨"CallBook", "meet", "(LCallBook$Order;)V"⟩
abbrev w_B_meet : List Cond := .code y_B_meet b_B_meet 5 none :: GG
abbrev b_B_tradeWithShown : ByteArray := prog_1_method_28_code
abbrev y_B_tradeWithShown : MethodName := ⟨"CallBook", "tradeWithShown", "(LCallBook$Order;LCallBook$Order;)V"⟩
abbrev w_B_tradeWithShown : List Cond := .code y_B_tradeWithShown b_B_tradeWithShown 4 none :: GG
abbrev b_B_exchange : ByteArray := prog_1_method_30_code
abbrev y_B_exchange : MethodName := ⟨"CallBook", "exchange", "(LCallBook$Order;LCallBook$Order;II)V"⟩
abbrev w_B_exchange : List Cond := .code y_B_exchange b_B_exchange 5 none :: GG
abbrev b_O_give : ByteArray := prog_3_method_4_code
abbrev y_O_give : MethodName := ⟨"CallBook$Order", "give", "(I)V"⟩
abbrev w_O_give : List Cond := .code y_O_give b_O_give 2 none :: GG
abbrev b_G_keep : ByteArray := prog_6_method_2_code
abbrev y_G_keep : MethodName := ⟨"CallBook$TradeLog", "keep", "(IIII)V"⟩
abbrev w_G_keep : List Cond := .code y_G_keep b_G_keep 5 none :: GG
abbrev b_R_init : ByteArray := prog_5_method_1_code
abbrev y_R_init : MethodName := ⟨"CallBook$Trade", "<init>", "(IIII)V"⟩
abbrev w_R_init : List Cond := .code y_R_init b_R_init 5 none :: GG
abbrev b_B_finish : ByteArray := prog_1_method_33_code
abbrev y_B_finish : MethodName := ⟨"CallBook", "finish", "(LCallBook$Order;)V"⟩
abbrev w_B_finish : List Cond := .code y_B_finish b_B_finish 2 none :: GG
abbrev b_S_leave : ByteArray := prog_4_method_4_code
abbrev y_S_leave : MethodName := ⟨"CallBook$Side", "leave", "(LCallBook$Order;)V"⟩
abbrev w_S_leave : List Cond := .code y_S_leave b_S_leave 3 none :: GG
abbrev b_AL_remove : ByteArray := prog_21_method_29_code
abbrev y_AL_remove : MethodName := ⟨"java/util/ArrayList", "remove", "(I)Ljava/lang/Object;"⟩
abbrev w_AL_remove : List Cond := .code y_AL_remove b_AL_remove 4 (some (FieldType.object "java/lang/Object")) :: GG
abbrev b_AL_fastRemove : ByteArray := prog_21_method_39_code
abbrev y_AL_fastRemove : MethodName := ⟨"java/util/ArrayList", "fastRemove", "([Ljava/lang/Object;I)V"⟩
abbrev w_AL_fastRemove : List Cond := .code y_AL_fastRemove b_AL_fastRemove 4 none :: GG
abbrev b_L_cancel : ByteArray := method_4_code
abbrev y_L_cancel : MethodName := ⟨"CallBookLaw", "cancel", "(LCallBook;I[J)I"⟩
abbrev w_L_cancel : List Cond := .codeWith y_L_cancel b_L_cancel 4 (some FieldType.int) [(0, 9, 12, 13), (0, 9, 15, 15)] :: GG
abbrev b_B_cancel : ByteArray := prog_1_method_3_code
abbrev y_B_cancel : MethodName := ⟨"CallBook", "cancel", "(I)I"⟩
abbrev w_B_cancel : List Cond := .code y_B_cancel b_B_cancel 4 (some FieldType.int) :: GG
abbrev b_B_known : ByteArray := prog_1_method_22_code
abbrev y_B_known : MethodName := ⟨"CallBook", "known", "(I)LCallBook$Order;"⟩
abbrev w_B_known : List Cond := .code y_B_known b_B_known 2 (some (FieldType.object "CallBook$Order")) :: GG
abbrev b_L_cancelAll : ByteArray := method_5_code
abbrev y_L_cancelAll : MethodName := ⟨"CallBookLaw", "cancelAll", "(LCallBook;I[J)I"⟩
abbrev w_L_cancelAll : List Cond := .codeWith y_L_cancelAll b_L_cancelAll 4 (some FieldType.int) [(0, 9, 12, 13)] :: GG
abbrev b_B_cancelAll : ByteArray := prog_1_method_4_code
abbrev y_B_cancelAll : MethodName := ⟨"CallBook", "cancelAll", "(I)I"⟩
abbrev w_B_cancelAll : List Cond := .code y_B_cancelAll b_B_cancelAll 5 (some FieldType.int) :: GG
abbrev b_L_amend : ByteArray := method_6_code
abbrev y_L_amend : MethodName := ⟨"CallBookLaw", "amend", "(LCallBook;III[J)I"⟩
abbrev w_L_amend : List Cond := .codeWith y_L_amend b_L_amend 6 (some FieldType.int) [(0, 19, 22, 13), (0, 19, 26, 15)] :: GG
abbrev b_B_amend : ByteArray := prog_1_method_5_code
abbrev y_B_amend : MethodName := ⟨"CallBook", "amend", "(III)Z"⟩
abbrev w_B_amend : List Cond := .code y_B_amend b_B_amend 5 (some FieldType.boolean) :: GG
abbrev b_O_lessen : ByteArray := prog_3_method_3_code
abbrev y_O_lessen : MethodName := ⟨"CallBook$Order", "lessen", "(I)V"⟩
abbrev w_O_lessen : List Cond := .code y_O_lessen b_O_lessen 2 none :: GG
abbrev b_L_open : ByteArray := method_7_code
abbrev y_L_open : MethodName := ⟨"CallBookLaw", "open", "(LCallBook;[J)I"⟩
abbrev w_L_open : List Cond := .codeWith y_L_open b_L_open 3 (some FieldType.int) [(0, 7, 10, 15)] :: GG
abbrev b_B_open : ByteArray := prog_1_method_6_code
abbrev y_B_open : MethodName := ⟨"CallBook", "open", "()J"⟩
abbrev w_B_open : List Cond := .code y_B_open b_B_open 2 (some FieldType.long) :: GG
abbrev b_A_workOut : ByteArray := prog_2_method_2_code
abbrev y_A_workOut : MethodName := ⟨"CallBook$Auction", "workOut", "(Ljava/util/ArrayList;Ljava/util/ArrayList;I)V"⟩
abbrev w_A_workOut : List Cond := .code y_A_workOut b_A_workOut 11 none :: GG
abbrev b_A_leftOf : ByteArray := prog_2_method_3_code
abbrev y_A_leftOf : MethodName := ⟨"CallBook$Auction", "leftOf", "(Ljava/util/ArrayList;)J"⟩
abbrev w_A_leftOf : List Cond := .code y_A_leftOf b_A_leftOf 4 (some FieldType.long) :: GG
abbrev b_A_weigh : ByteArray := prog_2_method_4_code
abbrev y_A_weigh : MethodName := ⟨"CallBook$Auction", "weigh", "(IJJI)V"⟩
abbrev w_A_weigh : List Cond := .code y_A_weigh b_A_weigh 11 none :: GG
abbrev b_Ma_min2 : ByteArray := prog_15_method_70_code
abbrev y_Ma_min2 : MethodName := ⟨"java/lang/Math", "min", "(JJ)J"⟩
abbrev w_Ma_min2 : List Cond := .code y_Ma_min2 b_Ma_min2 4 (some FieldType.long) :: GG
abbrev b_A_isBetter : ByteArray := prog_2_method_5_code
abbrev y_A_isBetter : MethodName := ⟨"CallBook$Auction", "isBetter", "(IJJI)Z"⟩
abbrev w_A_isBetter : List Cond := .code y_A_isBetter b_A_isBetter 7 (some FieldType.boolean) :: GG
abbrev b_Ma_abs2 : ByteArray := prog_15_method_61_code
abbrev y_Ma_abs2 : MethodName := ⟨"java/lang/Math", "abs", "(J)J"⟩
abbrev w_Ma_abs2 : List Cond := .code y_Ma_abs2 b_Ma_abs2 2 (some FieldType.long) :: GG
abbrev b_B_tradeAtOnePrice : ByteArray := prog_1_method_29_code
abbrev y_B_tradeAtOnePrice : MethodName := ⟨"CallBook", "tradeAtOnePrice", "(IJ)V"⟩
abbrev w_B_tradeAtOnePrice : List Cond := .code y_B_tradeAtOnePrice b_B_tradeAtOnePrice 10 none :: GG
abbrev b_B_finishIfNothingLeft : ByteArray := prog_1_method_34_code
abbrev y_B_finishIfNothingLeft : MethodName := ⟨"CallBook", "finishIfNothingLeft", "(LCallBook$Order;)V"⟩
abbrev w_B_finishIfNothingLeft : List Cond := .code y_B_finishIfNothingLeft b_B_finishIfNothingLeft 2 none :: GG
abbrev b_B_startGoingOn : ByteArray := prog_1_method_31_code
abbrev y_B_startGoingOn : MethodName := ⟨"CallBook", "startGoingOn", "(LCallBook$Order;)V"⟩
abbrev w_B_startGoingOn : List Cond := .code y_B_startGoingOn b_B_startGoingOn 2 none :: GG
abbrev b_L_band : ByteArray := method_8_code
abbrev y_L_band : MethodName := ⟨"CallBookLaw", "band", "(LCallBook;II[J)I"⟩
abbrev w_L_band : List Cond := .codeWith y_L_band b_L_band 5 (some FieldType.int) [(0, 10, 13, 13)] :: GG
abbrev b_B_band : ByteArray := prog_1_method_8_code
abbrev y_B_band : MethodName := ⟨"CallBook", "band", "(II)I"⟩
abbrev w_B_band : List Cond := .code y_B_band b_B_band 4 (some FieldType.int) :: GG
abbrev b_L_clearing : ByteArray := method_9_code
abbrev y_L_clearing : MethodName := ⟨"CallBookLaw", "clearing", "(LCallBook;I[J)I"⟩
abbrev w_L_clearing : List Cond := .codeWith y_L_clearing b_L_clearing 4 (some FieldType.int) [(0, 8, 11, 13)] :: GG
abbrev b_B_clearing : ByteArray := prog_1_method_9_code
abbrev y_B_clearing : MethodName := ⟨"CallBook", "clearing", "(I)J"⟩
abbrev w_B_clearing : List Cond := .code y_B_clearing b_B_clearing 2 (some FieldType.long) :: GG
abbrev b_L_order : ByteArray := method_10_code
abbrev y_L_order : MethodName := ⟨"CallBookLaw", "order", "(LCallBook;II[J)I"⟩
abbrev w_L_order : List Cond := .codeWith y_L_order b_L_order 5 (some FieldType.int) [(0, 10, 13, 13)] :: GG
abbrev b_B_order : ByteArray := prog_1_method_10_code
abbrev y_B_order : MethodName := ⟨"CallBook", "order", "(II)I"⟩
abbrev w_B_order : List Cond := .code y_B_order b_B_order 4 (some FieldType.int) :: GG
abbrev b_L_depth : ByteArray := method_11_code
abbrev y_L_depth : MethodName := ⟨"CallBookLaw", "depth", "(LCallBook;ZIZ[J)I"⟩
abbrev w_L_depth : List Cond := .codeWith y_L_depth b_L_depth 6 (some FieldType.int) [(0, 11, 14, 13)] :: GG
abbrev b_B_depth : ByteArray := prog_1_method_12_code
abbrev y_B_depth : MethodName := ⟨"CallBook", "depth", "(ZIZ)J"⟩
abbrev w_B_depth : List Cond := .code y_B_depth b_B_depth 9 (some FieldType.long) :: GG
abbrev b_M_init : ByteArray := prog_8_method_1_code
abbrev y_M_init : MethodName := ⟨"CallBookModel", "<init>", "()V"⟩
abbrev w_M_init : List Cond := .code y_M_init b_M_init 1 none :: GG
abbrev b_M_thrown : ByteArray := prog_8_method_2_code
abbrev y_M_thrown : MethodName := ⟨"CallBookModel", "thrown", "()I"⟩
abbrev w_M_thrown : List Cond := .code y_M_thrown b_M_thrown 1 (some FieldType.int) :: GG
abbrev b_M_place : ByteArray := prog_8_method_20_code
abbrev y_M_place : MethodName := ⟨"CallBookModel", "place", "(IZIIII)I"⟩
abbrev w_M_place : List Cond := .code y_M_place b_M_place 10 (some FieldType.int) :: GG
abbrev b_M_in : ByteArray := prog_8_method_3_code
abbrev y_M_in : MethodName := ⟨"CallBookModel", "in", "(III)Z"⟩
abbrev w_M_in : List Cond := .code y_M_in b_M_in 3 (some FieldType.boolean) :: GG
abbrev b_M_fitsPeak : ByteArray := prog_8_method_19_code
abbrev y_M_fitsPeak : MethodName := ⟨"CallBookModel", "fitsPeak", "(II)Z"⟩
abbrev w_M_fitsPeak : List Cond := .code y_M_fitsPeak b_M_fitsPeak 2 (some FieldType.boolean) :: GG
abbrev b_M_comes : ByteArray := prog_8_method_18_code
abbrev y_M_comes : MethodName := ⟨"CallBookModel", "comes", "(I)Z"⟩
abbrev w_M_comes : List Cond := .code y_M_comes b_M_comes 2 (some FieldType.boolean) :: GG
abbrev b_M_isCovered : ByteArray := prog_8_method_15_code
abbrev y_M_isCovered : MethodName := ⟨"CallBookModel", "isCovered", "(I)Z"⟩
abbrev w_M_isCovered : List Cond := .code y_M_isCovered b_M_isCovered 6 (some FieldType.boolean) :: GG
abbrev b_M_rests : ByteArray := prog_8_method_7_code
abbrev y_M_rests : MethodName := ⟨"CallBookModel", "rests", "(I)Z"⟩
abbrev w_M_rests : List Cond := .code y_M_rests b_M_rests 2 (some FieldType.boolean) :: GG
abbrev b_M_takes : ByteArray := prog_8_method_13_code
abbrev y_M_takes : MethodName := ⟨"CallBookModel", "takes", "(II)Z"⟩
abbrev w_M_takes : List Cond := .code y_M_takes b_M_takes 3 (some FieldType.boolean) :: GG
abbrev b_M_isCut : ByteArray := prog_8_method_16_code
abbrev y_M_isCut : MethodName := ⟨"CallBookModel", "isCut", "(II)Z"⟩
abbrev w_M_isCut : List Cond := .code y_M_isCut b_M_isCut 5 (some FieldType.boolean) :: GG
abbrev b_M_isBeyond : ByteArray := prog_8_method_14_code
abbrev y_M_isBeyond : MethodName := ⟨"CallBookModel", "isBeyond", "(I)Z"⟩
abbrev w_M_isBeyond : List Cond := .code y_M_isBeyond b_M_isBeyond 2 (some FieldType.boolean) :: GG
abbrev b_M_abs : ByteArray := prog_8_method_4_code
abbrev y_M_abs : MethodName := ⟨"CallBookModel", "abs", "(J)J"⟩
abbrev w_M_abs : List Cond := .code y_M_abs b_M_abs 2 (some FieldType.long) :: GG
abbrev b_M_isBefore : ByteArray := prog_8_method_6_code
abbrev y_M_isBefore : MethodName := ⟨"CallBookModel", "isBefore", "(II)Z"⟩
abbrev w_M_isBefore : List Cond := .code y_M_isBefore b_M_isBefore 4 (some FieldType.boolean) :: GG
abbrev b_M_meet : ByteArray := prog_8_method_17_code
abbrev y_M_meet : MethodName := ⟨"CallBookModel", "meet", "(I)V"⟩
abbrev w_M_meet : List Cond := .code y_M_meet b_M_meet 5 none :: GG
abbrev b_M_firstOf : ByteArray := prog_8_method_8_code
abbrev y_M_firstOf : MethodName := ⟨"CallBookModel", "firstOf", "(Z)I"⟩
abbrev w_M_firstOf : List Cond := .code y_M_firstOf b_M_firstOf 5 (some FieldType.int) :: GG
abbrev b_M_deal : ByteArray := prog_8_method_12_code
abbrev y_M_deal : MethodName := ⟨"CallBookModel", "deal", "(IIII)V"⟩
abbrev w_M_deal : List Cond := .code y_M_deal b_M_deal 5 none :: GG
abbrev b_M_end : ByteArray := prog_8_method_11_code
abbrev y_M_end : MethodName := ⟨"CallBookModel", "end", "(I)V"⟩
abbrev w_M_end : List Cond := .code y_M_end b_M_end 2 none :: GG
abbrev b_M_comeToRest : ByteArray := prog_8_method_10_code
abbrev y_M_comeToRest : MethodName := ⟨"CallBookModel", "comeToRest", "(I)V"⟩
abbrev w_M_comeToRest : List Cond := .code y_M_comeToRest b_M_comeToRest 2 none :: GG
abbrev b_M_show : ByteArray := prog_8_method_9_code
abbrev y_M_show : MethodName := ⟨"CallBookModel", "show", "(I)V"⟩
abbrev w_M_show : List Cond := .code y_M_show b_M_show 2 none :: GG
abbrev b_M_cancel : ByteArray := prog_8_method_21_code
abbrev y_M_cancel : MethodName := ⟨"CallBookModel", "cancel", "(I)I"⟩
abbrev w_M_cancel : List Cond := .code y_M_cancel b_M_cancel 3 (some FieldType.int) :: GG
abbrev b_M_isOrder : ByteArray := prog_8_method_5_code
abbrev y_M_isOrder : MethodName := ⟨"CallBookModel", "isOrder", "(I)Z"⟩
abbrev w_M_isOrder : List Cond := .code y_M_isOrder b_M_isOrder 2 (some FieldType.boolean) :: GG
abbrev b_M_cancelAll : ByteArray := prog_8_method_22_code
abbrev y_M_cancelAll : MethodName := ⟨"CallBookModel", "cancelAll", "(I)I"⟩
abbrev w_M_cancelAll : List Cond := .code y_M_cancelAll b_M_cancelAll 4 (some FieldType.int) :: GG
abbrev b_M_amend : ByteArray := prog_8_method_23_code
abbrev y_M_amend : MethodName := ⟨"CallBookModel", "amend", "(III)Z"⟩
abbrev w_M_amend : List Cond := .code y_M_amend b_M_amend 4 (some FieldType.boolean) :: GG
abbrev b_M_open : ByteArray := prog_8_method_26_code
abbrev y_M_open : MethodName := ⟨"CallBookModel", "open", "()J"⟩
abbrev w_M_open : List Cond := .code y_M_open b_M_open 8 (some FieldType.long) :: GG
abbrev b_M_clear : ByteArray := prog_8_method_25_code
abbrev y_M_clear : MethodName := ⟨"CallBookModel", "clear", "()V"⟩
abbrev w_M_clear : List Cond := .code y_M_clear b_M_clear 8 none :: GG
abbrev b_M_sumUp : ByteArray := prog_8_method_24_code
abbrev y_M_sumUp : MethodName := ⟨"CallBookModel", "sumUp", "()V"⟩
abbrev w_M_sumUp : List Cond := .code y_M_sumUp b_M_sumUp 3 none :: GG
abbrev b_M_call : ByteArray := prog_8_method_27_code
abbrev y_M_call : MethodName := ⟨"CallBookModel", "call", "()I"⟩
abbrev w_M_call : List Cond := .code y_M_call b_M_call 2 (some FieldType.int) :: GG
abbrev b_M_band : ByteArray := prog_8_method_28_code
abbrev y_M_band : MethodName := ⟨"CallBookModel", "band", "(II)I"⟩
abbrev w_M_band : List Cond := .code y_M_band b_M_band 4 (some FieldType.int) :: GG
abbrev b_M_clearing : ByteArray := prog_8_method_29_code
abbrev y_M_clearing : MethodName := ⟨"CallBookModel", "clearing", "(I)J"⟩
abbrev w_M_clearing : List Cond := .code y_M_clearing b_M_clearing 2 (some FieldType.long) :: GG
abbrev b_M_order : ByteArray := prog_8_method_30_code
abbrev y_M_order : MethodName := ⟨"CallBookModel", "order", "(II)I"⟩
abbrev w_M_order : List Cond := .code y_M_order b_M_order 3 (some FieldType.int) :: GG
abbrev b_M_at : ByteArray := prog_8_method_31_code
abbrev y_M_at : MethodName := ⟨"CallBookModel", "at", "(ZI)I"⟩
abbrev w_M_at : List Cond := .code y_M_at b_M_at 7 (some FieldType.int) :: GG
abbrev b_M_depth : ByteArray := prog_8_method_32_code
abbrev y_M_depth : MethodName := ⟨"CallBookModel", "depth", "(ZIZ)J"⟩
abbrev w_M_depth : List Cond := .code y_M_depth b_M_depth 8 (some FieldType.long) :: GG
abbrev b_M_trade : ByteArray := prog_8_method_33_code
abbrev y_M_trade : MethodName := ⟨"CallBookModel", "trade", "(II)I"⟩
abbrev w_M_trade : List Cond := .code y_M_trade b_M_trade 3 (some FieldType.int) :: GG
abbrev b_M_told : ByteArray := prog_8_method_34_code
abbrev y_M_told : MethodName := ⟨"CallBookModel", "told", "(I)J"⟩
abbrev w_M_told : List Cond := .code y_M_told b_M_told 5 (some FieldType.long) :: GG
abbrev b_M_astray : ByteArray := prog_8_method_35_code
abbrev y_M_astray : MethodName := ⟨"CallBookModel", "astray", "()I"⟩
abbrev w_M_astray : List Cond := .code y_M_astray b_M_astray 1 (some FieldType.int) :: GG
end
section
/-! decode rows -/
theorem d_AL_init_0 : decode b_AL_init 0 = .ok (.aload_n 0, 1) := by decide +kernel
theorem d_AL_init_1 : decode b_AL_init 1 = .ok (.invokespecial 1, 3) := by decide +kernel
theorem d_AL_init_4 : decode b_AL_init 4 = .ok (.aload_n 0, 1) := by decide +kernel
theorem d_AL_init_5 : decode b_AL_init 5 = .ok (.getstatic 39, 3) := by decide +kernel
theorem d_AL_init_8 : decode b_AL_init 8 = .ok (.putfield 9, 3) := by decide +kernel
theorem d_AL_init_11 : decode b_AL_init 11 = .ok (.return_, 1) := by decide +kernel
theorem d_AbL_init_0 : decode b_AbL_init 0 = .ok (.aload_n 0, 1) := by decide +kernel
theorem d_AbL_init_1 : decode b_AbL_init 1 = .ok (.invokespecial 1, 3) := by decide +kernel
theorem d_AbL_init_4 : decode b_AbL_init 4 = .ok (.aload_n 0, 1) := by decide +kernel
theorem d_AbL_init_5 : decode b_AbL_init 5 = .ok (.iconst 0, 1) := by decide +kernel
theorem d_AbL_init_6 : decode b_AbL_init 6 = .ok (.putfield 7, 3) := by decide +kernel
theorem d_AbL_init_9 : decode b_AbL_init 9 = .ok (.return_, 1) := by decide +kernel
theorem d_AbC_init_0 : decode b_AbC_init 0 = .ok (.aload_n 0, 1) := by decide +kernel
theorem d_AbC_init_1 : decode b_AbC_init 1 = .ok (.invokespecial 1, 3) := by decide +kernel
theorem d_AbC_init_4 : decode b_AbC_init 4 = .ok (.return_, 1) := by decide +kernel
theorem d_AL_size_0 : decode b_AL_size 0 = .ok (.aload_n 0, 1) := by decide +kernel
theorem d_AL_size_1 : decode b_AL_size 1 = .ok (.getfield 48, 3) := by decide +kernel
theorem d_AL_size_4 : decode b_AL_size 4 = .ok (.ireturn, 1) := by decide +kernel
theorem d_AL_get_0 : decode b_AL_get 0 = .ok (.iload_n 1, 1) := by decide +kernel
theorem d_AL_get_1 : decode b_AL_get 1 = .ok (.aload_n 0, 1) := by decide +kernel
theorem d_AL_get_2 : decode b_AL_get 2 = .ok (.getfield 48, 3) := by decide +kernel
theorem d_AL_get_5 : decode b_AL_get 5 = .ok (.invokestatic 118, 3) := by decide +kernel
theorem d_AL_get_8 : decode b_AL_get 8 = .ok (.pop, 1) := by decide +kernel
theorem d_AL_get_9 : decode b_AL_get 9 = .ok (.aload_n 0, 1) := by decide +kernel
theorem d_AL_get_10 : decode b_AL_get 10 = .ok (.iload_n 1, 1) := by decide +kernel
theorem d_AL_get_11 : decode b_AL_get 11 = .ok (.invokevirtual 123, 3) := by decide +kernel
theorem d_AL_get_14 : decode b_AL_get 14 = .ok (.areturn, 1) := by decide +kernel
theorem d_Ob_checkIndex_0 : decode b_Ob_checkIndex 0 = .ok (.iload_n 0, 1) := by decide +kernel
theorem d_Ob_checkIndex_1 : decode b_Ob_checkIndex 1 = .ok (.iload_n 1, 1) := by decide +kernel
theorem d_Ob_checkIndex_2 : decode b_Ob_checkIndex 2 = .ok (.aconst_null, 1) := by decide +kernel
theorem d_Ob_checkIndex_3 : decode b_Ob_checkIndex 3 = .ok (.invokestatic 105, 3) := by decide +kernel
theorem d_Ob_checkIndex_6 : decode b_Ob_checkIndex 6 = .ok (.ireturn, 1) := by decide +kernel
theorem d_Pc_checkIndex_0 : decode b_Pc_checkIndex 0 = .ok (.iload_n 0, 1) := by decide +kernel
theorem d_Pc_checkIndex_1 : decode b_Pc_checkIndex 1 = .ok (.ifCond .lt 8, 3) := by decide +kernel
theorem d_Pc_checkIndex_4 : decode b_Pc_checkIndex 4 = .ok (.iload_n 0, 1) := by decide +kernel
theorem d_Pc_checkIndex_5 : decode b_Pc_checkIndex 5 = .ok (.iload_n 1, 1) := by decide +kernel
theorem d_Pc_checkIndex_6 : decode b_Pc_checkIndex 6 = .ok (.if_icmp .lt 10, 3) := by decide +kernel
theorem d_Pc_checkIndex_9 : decode b_Pc_checkIndex 9 = .ok (.aload_n 2, 1) := by decide +kernel
theorem d_Pc_checkIndex_10 : decode b_Pc_checkIndex 10 = .ok (.iload_n 0, 1) := by decide +kernel
theorem d_Pc_checkIndex_11 : decode b_Pc_checkIndex 11 = .ok (.iload_n 1, 1) := by decide +kernel
theorem d_Pc_checkIndex_12 : decode b_Pc_checkIndex 12 = .ok (.invokestatic 95, 3) := by decide +kernel
theorem d_Pc_checkIndex_15 : decode b_Pc_checkIndex 15 = .ok (.athrow, 1) := by decide +kernel
theorem d_Pc_checkIndex_16 : decode b_Pc_checkIndex 16 = .ok (.iload_n 0, 1) := by decide +kernel
theorem d_Pc_checkIndex_17 : decode b_Pc_checkIndex 17 = .ok (.ireturn, 1) := by decide +kernel
theorem d_AL_elementData_0 : decode b_AL_elementData 0 = .ok (.aload_n 0, 1) := by decide +kernel
theorem d_AL_elementData_1 : decode b_AL_elementData 1 = .ok (.getfield 9, 3) := by decide +kernel
theorem d_AL_elementData_4 : decode b_AL_elementData 4 = .ok (.iload_n 1, 1) := by decide +kernel
theorem d_AL_elementData_5 : decode b_AL_elementData 5 = .ok (.aaload, 1) := by decide +kernel
theorem d_AL_elementData_6 : decode b_AL_elementData 6 = .ok (.areturn, 1) := by decide +kernel
theorem d_AL_isEmpty_0 : decode b_AL_isEmpty 0 = .ok (.aload_n 0, 1) := by decide +kernel
theorem d_AL_isEmpty_1 : decode b_AL_isEmpty 1 = .ok (.getfield 48, 3) := by decide +kernel
theorem d_AL_isEmpty_4 : decode b_AL_isEmpty 4 = .ok (.ifCond .ne 7, 3) := by decide +kernel
theorem d_AL_isEmpty_7 : decode b_AL_isEmpty 7 = .ok (.iconst 1, 1) := by decide +kernel
theorem d_AL_isEmpty_8 : decode b_AL_isEmpty 8 = .ok (.goto 4, 3) := by decide +kernel
theorem d_AL_isEmpty_11 : decode b_AL_isEmpty 11 = .ok (.iconst 0, 1) := by decide +kernel
theorem d_AL_isEmpty_12 : decode b_AL_isEmpty 12 = .ok (.ireturn, 1) := by decide +kernel
theorem d_AL_add_0 : decode b_AL_add 0 = .ok (.aload_n 0, 1) := by decide +kernel
theorem d_AL_add_1 : decode b_AL_add 1 = .ok (.dup, 1) := by decide +kernel
theorem d_AL_add_2 : decode b_AL_add 2 = .ok (.getfield 63, 3) := by decide +kernel
theorem d_AL_add_5 : decode b_AL_add 5 = .ok (.iconst 1, 1) := by decide +kernel
theorem d_AL_add_6 : decode b_AL_add 6 = .ok (.iadd, 1) := by decide +kernel
theorem d_AL_add_7 : decode b_AL_add 7 = .ok (.putfield 63, 3) := by decide +kernel
theorem d_AL_add_10 : decode b_AL_add 10 = .ok (.aload_n 0, 1) := by decide +kernel
theorem d_AL_add_11 : decode b_AL_add 11 = .ok (.aload_n 1, 1) := by decide +kernel
theorem d_AL_add_12 : decode b_AL_add 12 = .ok (.aload_n 0, 1) := by decide +kernel
theorem d_AL_add_13 : decode b_AL_add 13 = .ok (.getfield 9, 3) := by decide +kernel
theorem d_AL_add_16 : decode b_AL_add 16 = .ok (.aload_n 0, 1) := by decide +kernel
theorem d_AL_add_17 : decode b_AL_add 17 = .ok (.getfield 48, 3) := by decide +kernel
theorem d_AL_add_20 : decode b_AL_add 20 = .ok (.invokevirtual 131, 3) := by decide +kernel
theorem d_AL_add_23 : decode b_AL_add 23 = .ok (.iconst 1, 1) := by decide +kernel
theorem d_AL_add_24 : decode b_AL_add 24 = .ok (.ireturn, 1) := by decide +kernel
theorem d_AL_add2_0 : decode b_AL_add2 0 = .ok (.iload_n 3, 1) := by decide +kernel
theorem d_AL_add2_1 : decode b_AL_add2 1 = .ok (.aload_n 2, 1) := by decide +kernel
theorem d_AL_add2_2 : decode b_AL_add2 2 = .ok (.arraylength, 1) := by decide +kernel
theorem d_AL_add2_3 : decode b_AL_add2 3 = .ok (.if_icmp .ne 8, 3) := by decide +kernel
theorem d_AL_add2_6 : decode b_AL_add2 6 = .ok (.aload_n 0, 1) := by decide +kernel
theorem d_AL_add2_7 : decode b_AL_add2 7 = .ok (.invokevirtual 129, 3) := by decide +kernel
theorem d_AL_add2_10 : decode b_AL_add2 10 = .ok (.astore_n 2, 1) := by decide +kernel
theorem d_AL_add2_11 : decode b_AL_add2 11 = .ok (.aload_n 2, 1) := by decide +kernel
theorem d_AL_add2_12 : decode b_AL_add2 12 = .ok (.iload_n 3, 1) := by decide +kernel
theorem d_AL_add2_13 : decode b_AL_add2 13 = .ok (.aload_n 1, 1) := by decide +kernel
theorem d_AL_add2_14 : decode b_AL_add2 14 = .ok (.aastore, 1) := by decide +kernel
theorem d_AL_add2_15 : decode b_AL_add2 15 = .ok (.aload_n 0, 1) := by decide +kernel
theorem d_AL_add2_16 : decode b_AL_add2 16 = .ok (.iload_n 3, 1) := by decide +kernel
theorem d_AL_add2_17 : decode b_AL_add2 17 = .ok (.iconst 1, 1) := by decide +kernel
theorem d_AL_add2_18 : decode b_AL_add2 18 = .ok (.iadd, 1) := by decide +kernel
theorem d_AL_add2_19 : decode b_AL_add2 19 = .ok (.putfield 48, 3) := by decide +kernel
theorem d_AL_add2_22 : decode b_AL_add2 22 = .ok (.return_, 1) := by decide +kernel
theorem d_AL_grow_0 : decode b_AL_grow 0 = .ok (.aload_n 0, 1) := by decide +kernel
theorem d_AL_grow_1 : decode b_AL_grow 1 = .ok (.aload_n 0, 1) := by decide +kernel
theorem d_AL_grow_2 : decode b_AL_grow 2 = .ok (.getfield 48, 3) := by decide +kernel
theorem d_AL_grow_5 : decode b_AL_grow 5 = .ok (.iconst 1, 1) := by decide +kernel
theorem d_AL_grow_6 : decode b_AL_grow 6 = .ok (.iadd, 1) := by decide +kernel
theorem d_AL_grow_7 : decode b_AL_grow 7 = .ok (.invokevirtual 69, 3) := by decide +kernel
theorem d_AL_grow_10 : decode b_AL_grow 10 = .ok (.areturn, 1) := by decide +kernel
theorem d_AL_grow2_0 : decode b_AL_grow2 0 = .ok (.aload_n 0, 1) := by decide +kernel
theorem d_AL_grow2_1 : decode b_AL_grow2 1 = .ok (.getfield 9, 3) := by decide +kernel
theorem d_AL_grow2_4 : decode b_AL_grow2 4 = .ok (.arraylength, 1) := by decide +kernel
theorem d_AL_grow2_5 : decode b_AL_grow2 5 = .ok (.istore_n 2, 1) := by decide +kernel
theorem d_AL_grow2_6 : decode b_AL_grow2 6 = .ok (.iload_n 2, 1) := by decide +kernel
theorem d_AL_grow2_7 : decode b_AL_grow2 7 = .ok (.ifCond .gt 13, 3) := by decide +kernel
theorem d_AL_grow2_10 : decode b_AL_grow2 10 = .ok (.aload_n 0, 1) := by decide +kernel
theorem d_AL_grow2_11 : decode b_AL_grow2 11 = .ok (.getfield 9, 3) := by decide +kernel
theorem d_AL_grow2_14 : decode b_AL_grow2 14 = .ok (.getstatic 39, 3) := by decide +kernel
theorem d_AL_grow2_17 : decode b_AL_grow2 17 = .ok (.if_acmp .eq 28, 3) := by decide +kernel
theorem d_AL_grow2_20 : decode b_AL_grow2 20 = .ok (.iload_n 2, 1) := by decide +kernel
theorem d_AL_grow2_21 : decode b_AL_grow2 21 = .ok (.iload_n 1, 1) := by decide +kernel
theorem d_AL_grow2_22 : decode b_AL_grow2 22 = .ok (.iload_n 2, 1) := by decide +kernel
theorem d_AL_grow2_23 : decode b_AL_grow2 23 = .ok (.isub, 1) := by decide +kernel
theorem d_AL_grow2_24 : decode b_AL_grow2 24 = .ok (.iload_n 2, 1) := by decide +kernel
theorem d_AL_grow2_25 : decode b_AL_grow2 25 = .ok (.iconst 1, 1) := by decide +kernel
theorem d_AL_grow2_26 : decode b_AL_grow2 26 = .ok (.ishr, 1) := by decide +kernel
theorem d_AL_grow2_27 : decode b_AL_grow2 27 = .ok (.invokestatic 73, 3) := by decide +kernel
theorem d_AL_grow2_30 : decode b_AL_grow2 30 = .ok (.istore_n 3, 1) := by decide +kernel
theorem d_AL_grow2_31 : decode b_AL_grow2 31 = .ok (.aload_n 0, 1) := by decide +kernel
theorem d_AL_grow2_32 : decode b_AL_grow2 32 = .ok (.aload_n 0, 1) := by decide +kernel
theorem d_AL_grow2_33 : decode b_AL_grow2 33 = .ok (.getfield 9, 3) := by decide +kernel
theorem d_AL_grow2_36 : decode b_AL_grow2 36 = .ok (.iload_n 3, 1) := by decide +kernel
theorem d_AL_grow2_37 : decode b_AL_grow2 37 = .ok (.invokestatic 66, 3) := by decide +kernel
theorem d_AL_grow2_40 : decode b_AL_grow2 40 = .ok (.dup_x1, 1) := by decide +kernel
theorem d_AL_grow2_41 : decode b_AL_grow2 41 = .ok (.putfield 9, 3) := by decide +kernel
theorem d_AL_grow2_44 : decode b_AL_grow2 44 = .ok (.areturn, 1) := by decide +kernel
theorem d_AL_grow2_45 : decode b_AL_grow2 45 = .ok (.aload_n 0, 1) := by decide +kernel
theorem d_AL_grow2_46 : decode b_AL_grow2 46 = .ok (.bipush 10, 2) := by decide +kernel
theorem d_AL_grow2_48 : decode b_AL_grow2 48 = .ok (.iload_n 1, 1) := by decide +kernel
theorem d_AL_grow2_49 : decode b_AL_grow2 49 = .ok (.invokestatic 79, 3) := by decide +kernel
theorem d_AL_grow2_52 : decode b_AL_grow2 52 = .ok (.anewarray 7, 3) := by decide +kernel
theorem d_AL_grow2_55 : decode b_AL_grow2 55 = .ok (.dup_x1, 1) := by decide +kernel
theorem d_AL_grow2_56 : decode b_AL_grow2 56 = .ok (.putfield 9, 3) := by decide +kernel
theorem d_AL_grow2_59 : decode b_AL_grow2 59 = .ok (.areturn, 1) := by decide +kernel
theorem d_As_newLength_0 : decode b_As_newLength 0 = .ok (.iload_n 0, 1) := by decide +kernel
theorem d_As_newLength_1 : decode b_As_newLength 1 = .ok (.iload_n 1, 1) := by decide +kernel
theorem d_As_newLength_2 : decode b_As_newLength 2 = .ok (.iload_n 2, 1) := by decide +kernel
theorem d_As_newLength_3 : decode b_As_newLength 3 = .ok (.invokestatic 194, 3) := by decide +kernel
theorem d_As_newLength_6 : decode b_As_newLength 6 = .ok (.iadd, 1) := by decide +kernel
theorem d_As_newLength_7 : decode b_As_newLength 7 = .ok (.istore_n 3, 1) := by decide +kernel
theorem d_As_newLength_8 : decode b_As_newLength 8 = .ok (.iconst 0, 1) := by decide +kernel
theorem d_As_newLength_9 : decode b_As_newLength 9 = .ok (.iload_n 3, 1) := by decide +kernel
theorem d_As_newLength_10 : decode b_As_newLength 10 = .ok (.if_icmp .ge 11, 3) := by decide +kernel
theorem d_As_newLength_13 : decode b_As_newLength 13 = .ok (.iload_n 3, 1) := by decide +kernel
theorem d_As_newLength_14 : decode b_As_newLength 14 = .ok (.ldc 200, 2) := by decide +kernel
theorem d_As_newLength_16 : decode b_As_newLength 16 = .ok (.if_icmp .gt 5, 3) := by decide +kernel
theorem d_As_newLength_19 : decode b_As_newLength 19 = .ok (.iload_n 3, 1) := by decide +kernel
theorem d_As_newLength_20 : decode b_As_newLength 20 = .ok (.ireturn, 1) := by decide +kernel
theorem d_As_newLength_21 : decode b_As_newLength 21 = .ok (.iload_n 0, 1) := by decide +kernel
theorem d_As_newLength_22 : decode b_As_newLength 22 = .ok (.iload_n 1, 1) := by decide +kernel
theorem d_As_newLength_23 : decode b_As_newLength 23 = .ok (.invokestatic 201, 3) := by decide +kernel
theorem d_As_newLength_26 : decode b_As_newLength 26 = .ok (.ireturn, 1) := by decide +kernel
theorem d_As_hugeLength_0 : decode b_As_hugeLength 0 = .ok (.iload_n 0, 1) := by decide +kernel
theorem d_As_hugeLength_1 : decode b_As_hugeLength 1 = .ok (.iload_n 1, 1) := by decide +kernel
theorem d_As_hugeLength_2 : decode b_As_hugeLength 2 = .ok (.iadd, 1) := by decide +kernel
theorem d_As_hugeLength_3 : decode b_As_hugeLength 3 = .ok (.istore_n 2, 1) := by decide +kernel
theorem d_As_hugeLength_4 : decode b_As_hugeLength 4 = .ok (.iload_n 2, 1) := by decide +kernel
theorem d_As_hugeLength_5 : decode b_As_hugeLength 5 = .ok (.ifCond .ge 44, 3) := by decide +kernel
theorem d_As_hugeLength_8 : decode b_As_hugeLength 8 = .ok (.new 204, 3) := by decide +kernel
theorem d_As_hugeLength_11 : decode b_As_hugeLength 11 = .ok (.dup, 1) := by decide +kernel
theorem d_As_hugeLength_12 : decode b_As_hugeLength 12 = .ok (.new 89, 3) := by decide +kernel
theorem d_As_hugeLength_15 : decode b_As_hugeLength 15 = .ok (.dup, 1) := by decide +kernel
theorem d_As_hugeLength_16 : decode b_As_hugeLength 16 = .ok (.invokespecial 91, 3) := by decide +kernel
theorem d_As_hugeLength_19 : decode b_As_hugeLength 19 = .ok (.ldc 206, 2) := by decide +kernel
theorem d_As_hugeLength_21 : decode b_As_hugeLength 21 = .ok (.invokevirtual 94, 3) := by decide +kernel
theorem d_As_hugeLength_24 : decode b_As_hugeLength 24 = .ok (.iload_n 0, 1) := by decide +kernel
theorem d_As_hugeLength_25 : decode b_As_hugeLength 25 = .ok (.invokevirtual 98, 3) := by decide +kernel
theorem d_As_hugeLength_28 : decode b_As_hugeLength 28 = .ok (.ldc 208, 2) := by decide +kernel
theorem d_As_hugeLength_30 : decode b_As_hugeLength 30 = .ok (.invokevirtual 94, 3) := by decide +kernel
theorem d_As_hugeLength_33 : decode b_As_hugeLength 33 = .ok (.iload_n 1, 1) := by decide +kernel
theorem d_As_hugeLength_34 : decode b_As_hugeLength 34 = .ok (.invokevirtual 98, 3) := by decide +kernel
theorem d_As_hugeLength_37 : decode b_As_hugeLength 37 = .ok (.ldc 210, 2) := by decide +kernel
theorem d_As_hugeLength_39 : decode b_As_hugeLength 39 = .ok (.invokevirtual 94, 3) := by decide +kernel
theorem d_As_hugeLength_42 : decode b_As_hugeLength 42 = .ok (.invokevirtual 101, 3) := by decide +kernel
theorem d_As_hugeLength_45 : decode b_As_hugeLength 45 = .ok (.invokespecial 212, 3) := by decide +kernel
theorem d_As_hugeLength_48 : decode b_As_hugeLength 48 = .ok (.athrow, 1) := by decide +kernel
theorem d_As_hugeLength_49 : decode b_As_hugeLength 49 = .ok (.iload_n 2, 1) := by decide +kernel
theorem d_As_hugeLength_50 : decode b_As_hugeLength 50 = .ok (.ldc 200, 2) := by decide +kernel
theorem d_As_hugeLength_52 : decode b_As_hugeLength 52 = .ok (.if_icmp .gt 6, 3) := by decide +kernel
theorem d_As_hugeLength_55 : decode b_As_hugeLength 55 = .ok (.ldc 200, 2) := by decide +kernel
theorem d_As_hugeLength_57 : decode b_As_hugeLength 57 = .ok (.ireturn, 1) := by decide +kernel
theorem d_As_hugeLength_58 : decode b_As_hugeLength 58 = .ok (.iload_n 2, 1) := by decide +kernel
theorem d_As_hugeLength_59 : decode b_As_hugeLength 59 = .ok (.ireturn, 1) := by decide +kernel
theorem d_Ar_copyOf_0 : decode b_Ar_copyOf 0 = .ok (.aload_n 0, 1) := by decide +kernel
theorem d_Ar_copyOf_1 : decode b_Ar_copyOf 1 = .ok (.iload_n 1, 1) := by decide +kernel
theorem d_Ar_copyOf_2 : decode b_Ar_copyOf 2 = .ok (.aload_n 0, 1) := by decide +kernel
theorem d_Ar_copyOf_3 : decode b_Ar_copyOf 3 = .ok (.invokevirtual 86, 3) := by decide +kernel
theorem d_Ar_copyOf_6 : decode b_Ar_copyOf 6 = .ok (.invokestatic 300, 3) := by decide +kernel
theorem d_Ar_copyOf_9 : decode b_Ar_copyOf 9 = .ok (.areturn, 1) := by decide +kernel
theorem d_Ar_copyOf2_0 : decode b_Ar_copyOf2 0 = .ok (.aload_n 2, 1) := by decide +kernel
theorem d_Ar_copyOf2_1 : decode b_Ar_copyOf2 1 = .ok (.ldc 110, 2) := by decide +kernel
theorem d_Ar_copyOf2_3 : decode b_Ar_copyOf2 3 = .ok (.if_acmp .ne 10, 3) := by decide +kernel
theorem d_Ar_copyOf2_6 : decode b_Ar_copyOf2 6 = .ok (.iload_n 1, 1) := by decide +kernel
theorem d_Ar_copyOf2_7 : decode b_Ar_copyOf2 7 = .ok (.anewarray 2, 3) := by decide +kernel
theorem d_Ar_copyOf2_10 : decode b_Ar_copyOf2 10 = .ok (.goto 14, 3) := by decide +kernel
theorem d_Ar_copyOf2_13 : decode b_Ar_copyOf2 13 = .ok (.aload_n 2, 1) := by decide +kernel
theorem d_Ar_copyOf2_14 : decode b_Ar_copyOf2 14 = .ok (.invokevirtual 90, 3) := by decide +kernel
theorem d_Ar_copyOf2_17 : decode b_Ar_copyOf2 17 = .ok (.iload_n 1, 1) := by decide +kernel
theorem d_Ar_copyOf2_18 : decode b_Ar_copyOf2 18 = .ok (.invokestatic 95, 3) := by decide +kernel
theorem d_Ar_copyOf2_21 : decode b_Ar_copyOf2 21 = .ok (.checkcast 110, 3) := by decide +kernel
theorem d_Ar_copyOf2_24 : decode b_Ar_copyOf2 24 = .ok (.astore_n 3, 1) := by decide +kernel
theorem d_Ar_copyOf2_25 : decode b_Ar_copyOf2 25 = .ok (.aload_n 0, 1) := by decide +kernel
theorem d_Ar_copyOf2_26 : decode b_Ar_copyOf2 26 = .ok (.iconst 0, 1) := by decide +kernel
theorem d_Ar_copyOf2_27 : decode b_Ar_copyOf2 27 = .ok (.aload_n 3, 1) := by decide +kernel
theorem d_Ar_copyOf2_28 : decode b_Ar_copyOf2 28 = .ok (.iconst 0, 1) := by decide +kernel
theorem d_Ar_copyOf2_29 : decode b_Ar_copyOf2 29 = .ok (.aload_n 0, 1) := by decide +kernel
theorem d_Ar_copyOf2_30 : decode b_Ar_copyOf2 30 = .ok (.arraylength, 1) := by decide +kernel
theorem d_Ar_copyOf2_31 : decode b_Ar_copyOf2 31 = .ok (.iload_n 1, 1) := by decide +kernel
theorem d_Ar_copyOf2_32 : decode b_Ar_copyOf2 32 = .ok (.invokestatic 304, 3) := by decide +kernel
theorem d_Ar_copyOf2_35 : decode b_Ar_copyOf2 35 = .ok (.invokestatic 150, 3) := by decide +kernel
theorem d_Ar_copyOf2_38 : decode b_Ar_copyOf2 38 = .ok (.aload_n 3, 1) := by decide +kernel
theorem d_Ar_copyOf2_39 : decode b_Ar_copyOf2 39 = .ok (.areturn, 1) := by decide +kernel
theorem d_AL_add3_0 : decode b_AL_add3 0 = .ok (.aload_n 0, 1) := by decide +kernel
theorem d_AL_add3_1 : decode b_AL_add3 1 = .ok (.iload_n 1, 1) := by decide +kernel
theorem d_AL_add3_2 : decode b_AL_add3 2 = .ok (.invokevirtual 135, 3) := by decide +kernel
theorem d_AL_add3_5 : decode b_AL_add3 5 = .ok (.aload_n 0, 1) := by decide +kernel
theorem d_AL_add3_6 : decode b_AL_add3 6 = .ok (.dup, 1) := by decide +kernel
theorem d_AL_add3_7 : decode b_AL_add3 7 = .ok (.getfield 63, 3) := by decide +kernel
theorem d_AL_add3_10 : decode b_AL_add3 10 = .ok (.iconst 1, 1) := by decide +kernel
theorem d_AL_add3_11 : decode b_AL_add3 11 = .ok (.iadd, 1) := by decide +kernel
theorem d_AL_add3_12 : decode b_AL_add3 12 = .ok (.putfield 63, 3) := by decide +kernel
theorem d_AL_add3_15 : decode b_AL_add3 15 = .ok (.aload_n 0, 1) := by decide +kernel
theorem d_AL_add3_16 : decode b_AL_add3 16 = .ok (.getfield 48, 3) := by decide +kernel
theorem d_AL_add3_19 : decode b_AL_add3 19 = .ok (.dup, 1) := by decide +kernel
theorem d_AL_add3_20 : decode b_AL_add3 20 = .ok (.istore_n 3, 1) := by decide +kernel
theorem d_AL_add3_21 : decode b_AL_add3 21 = .ok (.aload_n 0, 1) := by decide +kernel
theorem d_AL_add3_22 : decode b_AL_add3 22 = .ok (.getfield 9, 3) := by decide +kernel
theorem d_AL_add3_25 : decode b_AL_add3 25 = .ok (.dup, 1) := by decide +kernel
theorem d_AL_add3_26 : decode b_AL_add3 26 = .ok (.astore 4, 2) := by decide +kernel
theorem d_AL_add3_28 : decode b_AL_add3 28 = .ok (.arraylength, 1) := by decide +kernel
theorem d_AL_add3_29 : decode b_AL_add3 29 = .ok (.if_icmp .ne 9, 3) := by decide +kernel
theorem d_AL_add3_32 : decode b_AL_add3 32 = .ok (.aload_n 0, 1) := by decide +kernel
theorem d_AL_add3_33 : decode b_AL_add3 33 = .ok (.invokevirtual 129, 3) := by decide +kernel
theorem d_AL_add3_36 : decode b_AL_add3 36 = .ok (.astore 4, 2) := by decide +kernel
theorem d_AL_add3_38 : decode b_AL_add3 38 = .ok (.aload 4, 2) := by decide +kernel
theorem d_AL_add3_40 : decode b_AL_add3 40 = .ok (.iload_n 1, 1) := by decide +kernel
theorem d_AL_add3_41 : decode b_AL_add3 41 = .ok (.aload 4, 2) := by decide +kernel
theorem d_AL_add3_43 : decode b_AL_add3 43 = .ok (.iload_n 1, 1) := by decide +kernel
theorem d_AL_add3_44 : decode b_AL_add3 44 = .ok (.iconst 1, 1) := by decide +kernel
theorem d_AL_add3_45 : decode b_AL_add3 45 = .ok (.iadd, 1) := by decide +kernel
theorem d_AL_add3_46 : decode b_AL_add3 46 = .ok (.iload_n 3, 1) := by decide +kernel
theorem d_AL_add3_47 : decode b_AL_add3 47 = .ok (.iload_n 1, 1) := by decide +kernel
theorem d_AL_add3_48 : decode b_AL_add3 48 = .ok (.isub, 1) := by decide +kernel
theorem d_AL_add3_49 : decode b_AL_add3 49 = .ok (.invokestatic 112, 3) := by decide +kernel
theorem d_AL_add3_52 : decode b_AL_add3 52 = .ok (.aload 4, 2) := by decide +kernel
theorem d_AL_add3_54 : decode b_AL_add3 54 = .ok (.iload_n 1, 1) := by decide +kernel
theorem d_AL_add3_55 : decode b_AL_add3 55 = .ok (.aload_n 2, 1) := by decide +kernel
theorem d_AL_add3_56 : decode b_AL_add3 56 = .ok (.aastore, 1) := by decide +kernel
theorem d_AL_add3_57 : decode b_AL_add3 57 = .ok (.aload_n 0, 1) := by decide +kernel
theorem d_AL_add3_58 : decode b_AL_add3 58 = .ok (.iload_n 3, 1) := by decide +kernel
theorem d_AL_add3_59 : decode b_AL_add3 59 = .ok (.iconst 1, 1) := by decide +kernel
theorem d_AL_add3_60 : decode b_AL_add3 60 = .ok (.iadd, 1) := by decide +kernel
theorem d_AL_add3_61 : decode b_AL_add3 61 = .ok (.putfield 48, 3) := by decide +kernel
theorem d_AL_add3_64 : decode b_AL_add3 64 = .ok (.return_, 1) := by decide +kernel
theorem d_AL_rangeCheckForAdd_0 : decode b_AL_rangeCheckForAdd 0 = .ok (.iload_n 1, 1) := by decide +kernel
theorem d_AL_rangeCheckForAdd_1 : decode b_AL_rangeCheckForAdd 1 = .ok (.aload_n 0, 1) := by decide +kernel
theorem d_AL_rangeCheckForAdd_2 : decode b_AL_rangeCheckForAdd 2 = .ok (.getfield 48, 3) := by decide +kernel
theorem d_AL_rangeCheckForAdd_5 : decode b_AL_rangeCheckForAdd 5 = .ok (.if_icmp .gt 7, 3) := by decide +kernel
theorem d_AL_rangeCheckForAdd_8 : decode b_AL_rangeCheckForAdd 8 = .ok (.iload_n 1, 1) := by decide +kernel
theorem d_AL_rangeCheckForAdd_9 : decode b_AL_rangeCheckForAdd 9 = .ok (.ifCond .ge 16, 3) := by decide +kernel
theorem d_AL_rangeCheckForAdd_12 : decode b_AL_rangeCheckForAdd 12 = .ok (.new 187, 3) := by decide +kernel
theorem d_AL_rangeCheckForAdd_15 : decode b_AL_rangeCheckForAdd 15 = .ok (.dup, 1) := by decide +kernel
theorem d_AL_rangeCheckForAdd_16 : decode b_AL_rangeCheckForAdd 16 = .ok (.aload_n 0, 1) := by decide +kernel
theorem d_AL_rangeCheckForAdd_17 : decode b_AL_rangeCheckForAdd 17 = .ok (.iload_n 1, 1) := by decide +kernel
theorem d_AL_rangeCheckForAdd_18 : decode b_AL_rangeCheckForAdd 18 = .ok (.invokevirtual 198, 3) := by decide +kernel
theorem d_AL_rangeCheckForAdd_21 : decode b_AL_rangeCheckForAdd 21 = .ok (.invokespecial 193, 3) := by decide +kernel
theorem d_AL_rangeCheckForAdd_24 : decode b_AL_rangeCheckForAdd 24 = .ok (.athrow, 1) := by decide +kernel
theorem d_AL_rangeCheckForAdd_25 : decode b_AL_rangeCheckForAdd 25 = .ok (.return_, 1) := by decide +kernel
theorem d_AL_remove_0 : decode b_AL_remove 0 = .ok (.iload_n 1, 1) := by decide +kernel
theorem d_AL_remove_1 : decode b_AL_remove 1 = .ok (.aload_n 0, 1) := by decide +kernel
theorem d_AL_remove_2 : decode b_AL_remove 2 = .ok (.getfield 48, 3) := by decide +kernel
theorem d_AL_remove_5 : decode b_AL_remove 5 = .ok (.invokestatic 118, 3) := by decide +kernel
theorem d_AL_remove_8 : decode b_AL_remove 8 = .ok (.pop, 1) := by decide +kernel
theorem d_AL_remove_9 : decode b_AL_remove 9 = .ok (.aload_n 0, 1) := by decide +kernel
theorem d_AL_remove_10 : decode b_AL_remove 10 = .ok (.getfield 9, 3) := by decide +kernel
theorem d_AL_remove_13 : decode b_AL_remove 13 = .ok (.astore_n 2, 1) := by decide +kernel
theorem d_AL_remove_14 : decode b_AL_remove 14 = .ok (.aload_n 2, 1) := by decide +kernel
theorem d_AL_remove_15 : decode b_AL_remove 15 = .ok (.iload_n 1, 1) := by decide +kernel
theorem d_AL_remove_16 : decode b_AL_remove 16 = .ok (.aaload, 1) := by decide +kernel
theorem d_AL_remove_17 : decode b_AL_remove 17 = .ok (.astore_n 3, 1) := by decide +kernel
theorem d_AL_remove_18 : decode b_AL_remove 18 = .ok (.aload_n 0, 1) := by decide +kernel
theorem d_AL_remove_19 : decode b_AL_remove 19 = .ok (.aload_n 2, 1) := by decide +kernel
theorem d_AL_remove_20 : decode b_AL_remove 20 = .ok (.iload_n 1, 1) := by decide +kernel
theorem d_AL_remove_21 : decode b_AL_remove 21 = .ok (.invokevirtual 144, 3) := by decide +kernel
theorem d_AL_remove_24 : decode b_AL_remove 24 = .ok (.aload_n 3, 1) := by decide +kernel
theorem d_AL_remove_25 : decode b_AL_remove 25 = .ok (.areturn, 1) := by decide +kernel
theorem d_AL_fastRemove_0 : decode b_AL_fastRemove 0 = .ok (.aload_n 0, 1) := by decide +kernel
theorem d_AL_fastRemove_1 : decode b_AL_fastRemove 1 = .ok (.dup, 1) := by decide +kernel
theorem d_AL_fastRemove_2 : decode b_AL_fastRemove 2 = .ok (.getfield 63, 3) := by decide +kernel
theorem d_AL_fastRemove_5 : decode b_AL_fastRemove 5 = .ok (.iconst 1, 1) := by decide +kernel
theorem d_AL_fastRemove_6 : decode b_AL_fastRemove 6 = .ok (.iadd, 1) := by decide +kernel
theorem d_AL_fastRemove_7 : decode b_AL_fastRemove 7 = .ok (.putfield 63, 3) := by decide +kernel
theorem d_AL_fastRemove_10 : decode b_AL_fastRemove 10 = .ok (.aload_n 0, 1) := by decide +kernel
theorem d_AL_fastRemove_11 : decode b_AL_fastRemove 11 = .ok (.getfield 48, 3) := by decide +kernel
theorem d_AL_fastRemove_14 : decode b_AL_fastRemove 14 = .ok (.iconst 1, 1) := by decide +kernel
theorem d_AL_fastRemove_15 : decode b_AL_fastRemove 15 = .ok (.isub, 1) := by decide +kernel
theorem d_AL_fastRemove_16 : decode b_AL_fastRemove 16 = .ok (.dup, 1) := by decide +kernel
theorem d_AL_fastRemove_17 : decode b_AL_fastRemove 17 = .ok (.istore_n 3, 1) := by decide +kernel
theorem d_AL_fastRemove_18 : decode b_AL_fastRemove 18 = .ok (.iload_n 2, 1) := by decide +kernel
theorem d_AL_fastRemove_19 : decode b_AL_fastRemove 19 = .ok (.if_icmp .le 15, 3) := by decide +kernel
theorem d_AL_fastRemove_22 : decode b_AL_fastRemove 22 = .ok (.aload_n 1, 1) := by decide +kernel
theorem d_AL_fastRemove_23 : decode b_AL_fastRemove 23 = .ok (.iload_n 2, 1) := by decide +kernel
theorem d_AL_fastRemove_24 : decode b_AL_fastRemove 24 = .ok (.iconst 1, 1) := by decide +kernel
theorem d_AL_fastRemove_25 : decode b_AL_fastRemove 25 = .ok (.iadd, 1) := by decide +kernel
theorem d_AL_fastRemove_26 : decode b_AL_fastRemove 26 = .ok (.aload_n 1, 1) := by decide +kernel
theorem d_AL_fastRemove_27 : decode b_AL_fastRemove 27 = .ok (.iload_n 2, 1) := by decide +kernel
theorem d_AL_fastRemove_28 : decode b_AL_fastRemove 28 = .ok (.iload_n 3, 1) := by decide +kernel
theorem d_AL_fastRemove_29 : decode b_AL_fastRemove 29 = .ok (.iload_n 2, 1) := by decide +kernel
theorem d_AL_fastRemove_30 : decode b_AL_fastRemove 30 = .ok (.isub, 1) := by decide +kernel
theorem d_AL_fastRemove_31 : decode b_AL_fastRemove 31 = .ok (.invokestatic 112, 3) := by decide +kernel
theorem d_AL_fastRemove_34 : decode b_AL_fastRemove 34 = .ok (.aload_n 1, 1) := by decide +kernel
theorem d_AL_fastRemove_35 : decode b_AL_fastRemove 35 = .ok (.aload_n 0, 1) := by decide +kernel
theorem d_AL_fastRemove_36 : decode b_AL_fastRemove 36 = .ok (.iload_n 3, 1) := by decide +kernel
theorem d_AL_fastRemove_37 : decode b_AL_fastRemove 37 = .ok (.dup_x1, 1) := by decide +kernel
theorem d_AL_fastRemove_38 : decode b_AL_fastRemove 38 = .ok (.putfield 48, 3) := by decide +kernel
theorem d_AL_fastRemove_41 : decode b_AL_fastRemove 41 = .ok (.aconst_null, 1) := by decide +kernel
theorem d_AL_fastRemove_42 : decode b_AL_fastRemove 42 = .ok (.aastore, 1) := by decide +kernel
theorem d_AL_fastRemove_43 : decode b_AL_fastRemove 43 = .ok (.return_, 1) := by decide +kernel
end
section
/-! decode rows -/
theorem d_S_init_0 : decode b_S_init 0 = .ok (.aload_n 0, 1) := by decide +kernel
theorem d_S_init_1 : decode b_S_init 1 = .ok (.invokespecial 3, 3) := by decide +kernel
theorem d_S_init_4 : decode b_S_init 4 = .ok (.aload_n 0, 1) := by decide +kernel
theorem d_S_init_5 : decode b_S_init 5 = .ok (.new 9, 3) := by decide +kernel
theorem d_S_init_8 : decode b_S_init 8 = .ok (.dup, 1) := by decide +kernel
theorem d_S_init_9 : decode b_S_init 9 = .ok (.invokespecial 11, 3) := by decide +kernel
theorem d_S_init_12 : decode b_S_init 12 = .ok (.putfield 12, 3) := by decide +kernel
theorem d_S_init_15 : decode b_S_init 15 = .ok (.return_, 1) := by decide +kernel
theorem d_G_init_0 : decode b_G_init 0 = .ok (.aload_n 0, 1) := by decide +kernel
theorem d_G_init_1 : decode b_G_init 1 = .ok (.invokespecial 3, 3) := by decide +kernel
theorem d_G_init_4 : decode b_G_init 4 = .ok (.aload_n 0, 1) := by decide +kernel
theorem d_G_init_5 : decode b_G_init 5 = .ok (.new 9, 3) := by decide +kernel
theorem d_G_init_8 : decode b_G_init 8 = .ok (.dup, 1) := by decide +kernel
theorem d_G_init_9 : decode b_G_init 9 = .ok (.invokespecial 11, 3) := by decide +kernel
theorem d_G_init_12 : decode b_G_init 12 = .ok (.putfield 12, 3) := by decide +kernel
theorem d_G_init_15 : decode b_G_init 15 = .ok (.return_, 1) := by decide +kernel
theorem d_A_init_0 : decode b_A_init 0 = .ok (.aload_n 0, 1) := by decide +kernel
theorem d_A_init_1 : decode b_A_init 1 = .ok (.invokespecial 3, 3) := by decide +kernel
theorem d_A_init_4 : decode b_A_init 4 = .ok (.return_, 1) := by decide +kernel
theorem d_G_tell_0 : decode b_G_tell 0 = .ok (.iload_n 1, 1) := by decide +kernel
theorem d_G_tell_1 : decode b_G_tell 1 = .ok (.ifCond .lt 14, 3) := by decide +kernel
theorem d_G_tell_4 : decode b_G_tell 4 = .ok (.iload_n 1, 1) := by decide +kernel
theorem d_G_tell_5 : decode b_G_tell 5 = .ok (.aload_n 0, 1) := by decide +kernel
theorem d_G_tell_6 : decode b_G_tell 6 = .ok (.getfield 12, 3) := by decide +kernel
theorem d_G_tell_9 : decode b_G_tell 9 = .ok (.invokevirtual 22, 3) := by decide +kernel
theorem d_G_tell_12 : decode b_G_tell 12 = .ok (.if_icmp .lt 5, 3) := by decide +kernel
theorem d_G_tell_15 : decode b_G_tell 15 = .ok (.iconst (-1), 1) := by decide +kernel
theorem d_G_tell_16 : decode b_G_tell 16 = .ok (.ireturn, 1) := by decide +kernel
theorem d_G_tell_17 : decode b_G_tell 17 = .ok (.aload_n 0, 1) := by decide +kernel
theorem d_G_tell_18 : decode b_G_tell 18 = .ok (.getfield 12, 3) := by decide +kernel
theorem d_G_tell_21 : decode b_G_tell 21 = .ok (.iload_n 1, 1) := by decide +kernel
theorem d_G_tell_22 : decode b_G_tell 22 = .ok (.invokevirtual 36, 3) := by decide +kernel
theorem d_G_tell_25 : decode b_G_tell 25 = .ok (.checkcast 27, 3) := by decide +kernel
theorem d_G_tell_28 : decode b_G_tell 28 = .ok (.astore_n 3, 1) := by decide +kernel
theorem d_G_tell_29 : decode b_G_tell 29 = .ok (.iload_n 2, 1) := by decide +kernel
theorem d_G_tell_30 : decode b_G_tell 30 = .ok (.tableswitch 50 0 3 #[30, 35, 40, 45], 30) := by decide +kernel
theorem d_G_tell_60 : decode b_G_tell 60 = .ok (.aload_n 3, 1) := by decide +kernel
theorem d_G_tell_61 : decode b_G_tell 61 = .ok (.getfield 40, 3) := by decide +kernel
theorem d_G_tell_64 : decode b_G_tell 64 = .ok (.ireturn, 1) := by decide +kernel
theorem d_G_tell_65 : decode b_G_tell 65 = .ok (.aload_n 3, 1) := by decide +kernel
theorem d_G_tell_66 : decode b_G_tell 66 = .ok (.getfield 44, 3) := by decide +kernel
theorem d_G_tell_69 : decode b_G_tell 69 = .ok (.ireturn, 1) := by decide +kernel
theorem d_G_tell_70 : decode b_G_tell 70 = .ok (.aload_n 3, 1) := by decide +kernel
theorem d_G_tell_71 : decode b_G_tell 71 = .ok (.getfield 47, 3) := by decide +kernel
theorem d_G_tell_74 : decode b_G_tell 74 = .ok (.ireturn, 1) := by decide +kernel
theorem d_G_tell_75 : decode b_G_tell 75 = .ok (.aload_n 3, 1) := by decide +kernel
theorem d_G_tell_76 : decode b_G_tell 76 = .ok (.getfield 50, 3) := by decide +kernel
theorem d_G_tell_79 : decode b_G_tell 79 = .ok (.ireturn, 1) := by decide +kernel
theorem d_G_tell_80 : decode b_G_tell 80 = .ok (.iconst (-1), 1) := by decide +kernel
theorem d_G_tell_81 : decode b_G_tell 81 = .ok (.ireturn, 1) := by decide +kernel
theorem d_O_standsBefore_0 : decode b_O_standsBefore 0 = .ok (.aload_n 0, 1) := by decide +kernel
theorem d_O_standsBefore_1 : decode b_O_standsBefore 1 = .ok (.getfield 31, 3) := by decide +kernel
theorem d_O_standsBefore_4 : decode b_O_standsBefore 4 = .ok (.aload_n 1, 1) := by decide +kernel
theorem d_O_standsBefore_5 : decode b_O_standsBefore 5 = .ok (.getfield 31, 3) := by decide +kernel
theorem d_O_standsBefore_8 : decode b_O_standsBefore 8 = .ok (.if_icmp .ne 20, 3) := by decide +kernel
theorem d_O_standsBefore_11 : decode b_O_standsBefore 11 = .ok (.aload_n 0, 1) := by decide +kernel
theorem d_O_standsBefore_12 : decode b_O_standsBefore 12 = .ok (.getfield 28, 3) := by decide +kernel
theorem d_O_standsBefore_15 : decode b_O_standsBefore 15 = .ok (.aload_n 1, 1) := by decide +kernel
theorem d_O_standsBefore_16 : decode b_O_standsBefore 16 = .ok (.getfield 28, 3) := by decide +kernel
theorem d_O_standsBefore_19 : decode b_O_standsBefore 19 = .ok (.if_icmp .ge 7, 3) := by decide +kernel
theorem d_O_standsBefore_22 : decode b_O_standsBefore 22 = .ok (.iconst 1, 1) := by decide +kernel
theorem d_O_standsBefore_23 : decode b_O_standsBefore 23 = .ok (.goto 4, 3) := by decide +kernel
theorem d_O_standsBefore_26 : decode b_O_standsBefore 26 = .ok (.iconst 0, 1) := by decide +kernel
theorem d_O_standsBefore_27 : decode b_O_standsBefore 27 = .ok (.ireturn, 1) := by decide +kernel
theorem d_O_standsBefore_28 : decode b_O_standsBefore 28 = .ok (.aload_n 0, 1) := by decide +kernel
theorem d_O_standsBefore_29 : decode b_O_standsBefore 29 = .ok (.getfield 31, 3) := by decide +kernel
theorem d_O_standsBefore_32 : decode b_O_standsBefore 32 = .ok (.ifCond .eq 10, 3) := by decide +kernel
theorem d_O_standsBefore_35 : decode b_O_standsBefore 35 = .ok (.aload_n 1, 1) := by decide +kernel
theorem d_O_standsBefore_36 : decode b_O_standsBefore 36 = .ok (.getfield 31, 3) := by decide +kernel
theorem d_O_standsBefore_39 : decode b_O_standsBefore 39 = .ok (.ifCond .ne 16, 3) := by decide +kernel
theorem d_O_standsBefore_42 : decode b_O_standsBefore 42 = .ok (.aload_n 0, 1) := by decide +kernel
theorem d_O_standsBefore_43 : decode b_O_standsBefore 43 = .ok (.getfield 31, 3) := by decide +kernel
theorem d_O_standsBefore_46 : decode b_O_standsBefore 46 = .ok (.ifCond .ne 7, 3) := by decide +kernel
theorem d_O_standsBefore_49 : decode b_O_standsBefore 49 = .ok (.iconst 1, 1) := by decide +kernel
theorem d_O_standsBefore_50 : decode b_O_standsBefore 50 = .ok (.goto 4, 3) := by decide +kernel
theorem d_O_standsBefore_53 : decode b_O_standsBefore 53 = .ok (.iconst 0, 1) := by decide +kernel
theorem d_O_standsBefore_54 : decode b_O_standsBefore 54 = .ok (.ireturn, 1) := by decide +kernel
theorem d_O_standsBefore_55 : decode b_O_standsBefore 55 = .ok (.aload_n 0, 1) := by decide +kernel
theorem d_O_standsBefore_56 : decode b_O_standsBefore 56 = .ok (.getfield 18, 3) := by decide +kernel
theorem d_O_standsBefore_59 : decode b_O_standsBefore 59 = .ok (.ifCond .eq 22, 3) := by decide +kernel
theorem d_O_standsBefore_62 : decode b_O_standsBefore 62 = .ok (.aload_n 0, 1) := by decide +kernel
theorem d_O_standsBefore_63 : decode b_O_standsBefore 63 = .ok (.getfield 31, 3) := by decide +kernel
theorem d_O_standsBefore_66 : decode b_O_standsBefore 66 = .ok (.aload_n 1, 1) := by decide +kernel
theorem d_O_standsBefore_67 : decode b_O_standsBefore 67 = .ok (.getfield 31, 3) := by decide +kernel
theorem d_O_standsBefore_70 : decode b_O_standsBefore 70 = .ok (.if_icmp .le 7, 3) := by decide +kernel
theorem d_O_standsBefore_73 : decode b_O_standsBefore 73 = .ok (.iconst 1, 1) := by decide +kernel
theorem d_O_standsBefore_74 : decode b_O_standsBefore 74 = .ok (.goto 23, 3) := by decide +kernel
theorem d_O_standsBefore_77 : decode b_O_standsBefore 77 = .ok (.iconst 0, 1) := by decide +kernel
theorem d_O_standsBefore_78 : decode b_O_standsBefore 78 = .ok (.goto 19, 3) := by decide +kernel
theorem d_O_standsBefore_81 : decode b_O_standsBefore 81 = .ok (.aload_n 0, 1) := by decide +kernel
theorem d_O_standsBefore_82 : decode b_O_standsBefore 82 = .ok (.getfield 31, 3) := by decide +kernel
theorem d_O_standsBefore_85 : decode b_O_standsBefore 85 = .ok (.aload_n 1, 1) := by decide +kernel
theorem d_O_standsBefore_86 : decode b_O_standsBefore 86 = .ok (.getfield 31, 3) := by decide +kernel
theorem d_O_standsBefore_89 : decode b_O_standsBefore 89 = .ok (.if_icmp .ge 7, 3) := by decide +kernel
theorem d_O_standsBefore_92 : decode b_O_standsBefore 92 = .ok (.iconst 1, 1) := by decide +kernel
theorem d_O_standsBefore_93 : decode b_O_standsBefore 93 = .ok (.goto 4, 3) := by decide +kernel
theorem d_O_standsBefore_96 : decode b_O_standsBefore 96 = .ok (.iconst 0, 1) := by decide +kernel
theorem d_O_standsBefore_97 : decode b_O_standsBefore 97 = .ok (.ireturn, 1) := by decide +kernel
theorem d_O_isWrongAtRest_0 : decode b_O_isWrongAtRest 0 = .ok (.aload_n 0, 1) := by decide +kernel
theorem d_O_isWrongAtRest_1 : decode b_O_isWrongAtRest 1 = .ok (.getfield 37, 3) := by decide +kernel
theorem d_O_isWrongAtRest_4 : decode b_O_isWrongAtRest 4 = .ok (.iconst 1, 1) := by decide +kernel
theorem d_O_isWrongAtRest_5 : decode b_O_isWrongAtRest 5 = .ok (.if_icmp .lt 32, 3) := by decide +kernel
theorem d_O_isWrongAtRest_8 : decode b_O_isWrongAtRest 8 = .ok (.aload_n 0, 1) := by decide +kernel
theorem d_O_isWrongAtRest_9 : decode b_O_isWrongAtRest 9 = .ok (.getfield 37, 3) := by decide +kernel
theorem d_O_isWrongAtRest_12 : decode b_O_isWrongAtRest 12 = .ok (.aload_n 0, 1) := by decide +kernel
theorem d_O_isWrongAtRest_13 : decode b_O_isWrongAtRest 13 = .ok (.invokevirtual 49, 3) := by decide +kernel
theorem d_O_isWrongAtRest_16 : decode b_O_isWrongAtRest 16 = .ok (.if_icmp .gt 21, 3) := by decide +kernel
theorem d_O_isWrongAtRest_19 : decode b_O_isWrongAtRest 19 = .ok (.aload_n 0, 1) := by decide +kernel
theorem d_O_isWrongAtRest_20 : decode b_O_isWrongAtRest 20 = .ok (.getfield 22, 3) := by decide +kernel
theorem d_O_isWrongAtRest_23 : decode b_O_isWrongAtRest 23 = .ok (.ifCond .ne 18, 3) := by decide +kernel
theorem d_O_isWrongAtRest_26 : decode b_O_isWrongAtRest 26 = .ok (.aload_n 0, 1) := by decide +kernel
theorem d_O_isWrongAtRest_27 : decode b_O_isWrongAtRest 27 = .ok (.getfield 37, 3) := by decide +kernel
theorem d_O_isWrongAtRest_30 : decode b_O_isWrongAtRest 30 = .ok (.aload_n 0, 1) := by decide +kernel
theorem d_O_isWrongAtRest_31 : decode b_O_isWrongAtRest 31 = .ok (.getfield 34, 3) := by decide +kernel
theorem d_O_isWrongAtRest_34 : decode b_O_isWrongAtRest 34 = .ok (.if_icmp .eq 7, 3) := by decide +kernel
theorem d_O_isWrongAtRest_37 : decode b_O_isWrongAtRest 37 = .ok (.iconst 1, 1) := by decide +kernel
theorem d_O_isWrongAtRest_38 : decode b_O_isWrongAtRest 38 = .ok (.goto 4, 3) := by decide +kernel
theorem d_O_isWrongAtRest_41 : decode b_O_isWrongAtRest 41 = .ok (.iconst 0, 1) := by decide +kernel
theorem d_O_isWrongAtRest_42 : decode b_O_isWrongAtRest 42 = .ok (.istore_n 1, 1) := by decide +kernel
theorem d_O_isWrongAtRest_43 : decode b_O_isWrongAtRest 43 = .ok (.aload_n 0, 1) := by decide +kernel
theorem d_O_isWrongAtRest_44 : decode b_O_isWrongAtRest 44 = .ok (.invokevirtual 53, 3) := by decide +kernel
theorem d_O_isWrongAtRest_47 : decode b_O_isWrongAtRest 47 = .ok (.ifCond .eq 24, 3) := by decide +kernel
theorem d_O_isWrongAtRest_50 : decode b_O_isWrongAtRest 50 = .ok (.aload_n 0, 1) := by decide +kernel
theorem d_O_isWrongAtRest_51 : decode b_O_isWrongAtRest 51 = .ok (.getfield 34, 3) := by decide +kernel
theorem d_O_isWrongAtRest_54 : decode b_O_isWrongAtRest 54 = .ok (.iconst 1, 1) := by decide +kernel
theorem d_O_isWrongAtRest_55 : decode b_O_isWrongAtRest 55 = .ok (.if_icmp .lt 16, 3) := by decide +kernel
theorem d_O_isWrongAtRest_58 : decode b_O_isWrongAtRest 58 = .ok (.aload_n 0, 1) := by decide +kernel
theorem d_O_isWrongAtRest_59 : decode b_O_isWrongAtRest 59 = .ok (.getfield 34, 3) := by decide +kernel
theorem d_O_isWrongAtRest_62 : decode b_O_isWrongAtRest 62 = .ok (.ldc 57, 2) := by decide +kernel
theorem d_O_isWrongAtRest_64 : decode b_O_isWrongAtRest 64 = .ok (.if_icmp .gt 7, 3) := by decide +kernel
theorem d_O_isWrongAtRest_67 : decode b_O_isWrongAtRest 67 = .ok (.iload_n 1, 1) := by decide +kernel
theorem d_O_isWrongAtRest_68 : decode b_O_isWrongAtRest 68 = .ok (.ifCond .eq 7, 3) := by decide +kernel
theorem d_O_isWrongAtRest_71 : decode b_O_isWrongAtRest 71 = .ok (.iconst 1, 1) := by decide +kernel
theorem d_O_isWrongAtRest_72 : decode b_O_isWrongAtRest 72 = .ok (.goto 4, 3) := by decide +kernel
theorem d_O_isWrongAtRest_75 : decode b_O_isWrongAtRest 75 = .ok (.iconst 0, 1) := by decide +kernel
theorem d_O_isWrongAtRest_76 : decode b_O_isWrongAtRest 76 = .ok (.ireturn, 1) := by decide +kernel
theorem d_O_mayShow_0 : decode b_O_mayShow 0 = .ok (.aload_n 0, 1) := by decide +kernel
theorem d_O_mayShow_1 : decode b_O_mayShow 1 = .ok (.getfield 22, 3) := by decide +kernel
theorem d_O_mayShow_4 : decode b_O_mayShow 4 = .ok (.ifCond .ne 10, 3) := by decide +kernel
theorem d_O_mayShow_7 : decode b_O_mayShow 7 = .ok (.aload_n 0, 1) := by decide +kernel
theorem d_O_mayShow_8 : decode b_O_mayShow 8 = .ok (.getfield 34, 3) := by decide +kernel
theorem d_O_mayShow_11 : decode b_O_mayShow 11 = .ok (.goto 14, 3) := by decide +kernel
theorem d_O_mayShow_14 : decode b_O_mayShow 14 = .ok (.aload_n 0, 1) := by decide +kernel
theorem d_O_mayShow_15 : decode b_O_mayShow 15 = .ok (.getfield 34, 3) := by decide +kernel
theorem d_O_mayShow_18 : decode b_O_mayShow 18 = .ok (.aload_n 0, 1) := by decide +kernel
theorem d_O_mayShow_19 : decode b_O_mayShow 19 = .ok (.getfield 22, 3) := by decide +kernel
theorem d_O_mayShow_22 : decode b_O_mayShow 22 = .ok (.invokestatic 40, 3) := by decide +kernel
theorem d_O_mayShow_25 : decode b_O_mayShow 25 = .ok (.ireturn, 1) := by decide +kernel
theorem d_O_rests_0 : decode b_O_rests 0 = .ok (.aload_n 0, 1) := by decide +kernel
theorem d_O_rests_1 : decode b_O_rests 1 = .ok (.getfield 28, 3) := by decide +kernel
theorem d_O_rests_4 : decode b_O_rests 4 = .ok (.iconst (-1), 1) := by decide +kernel
theorem d_O_rests_5 : decode b_O_rests 5 = .ok (.if_icmp .eq 7, 3) := by decide +kernel
theorem d_O_rests_8 : decode b_O_rests 8 = .ok (.iconst 1, 1) := by decide +kernel
theorem d_O_rests_9 : decode b_O_rests 9 = .ok (.goto 4, 3) := by decide +kernel
theorem d_O_rests_12 : decode b_O_rests 12 = .ok (.iconst 0, 1) := by decide +kernel
theorem d_O_rests_13 : decode b_O_rests 13 = .ok (.ireturn, 1) := by decide +kernel
theorem d_S_first_0 : decode b_S_first 0 = .ok (.aload_n 0, 1) := by decide +kernel
theorem d_S_first_1 : decode b_S_first 1 = .ok (.getfield 12, 3) := by decide +kernel
theorem d_S_first_4 : decode b_S_first 4 = .ok (.invokevirtual 18, 3) := by decide +kernel
theorem d_S_first_7 : decode b_S_first 7 = .ok (.ifCond .eq 7, 3) := by decide +kernel
theorem d_S_first_10 : decode b_S_first 10 = .ok (.aconst_null, 1) := by decide +kernel
theorem d_S_first_11 : decode b_S_first 11 = .ok (.goto 14, 3) := by decide +kernel
theorem d_S_first_14 : decode b_S_first 14 = .ok (.aload_n 0, 1) := by decide +kernel
theorem d_S_first_15 : decode b_S_first 15 = .ok (.getfield 12, 3) := by decide +kernel
theorem d_S_first_18 : decode b_S_first 18 = .ok (.iconst 0, 1) := by decide +kernel
theorem d_S_first_19 : decode b_S_first 19 = .ok (.invokevirtual 22, 3) := by decide +kernel
theorem d_S_first_22 : decode b_S_first 22 = .ok (.checkcast 26, 3) := by decide +kernel
theorem d_S_first_25 : decode b_S_first 25 = .ok (.areturn, 1) := by decide +kernel
theorem d_O_takes_0 : decode b_O_takes 0 = .ok (.aload_n 0, 1) := by decide +kernel
theorem d_O_takes_1 : decode b_O_takes 1 = .ok (.getfield 31, 3) := by decide +kernel
theorem d_O_takes_4 : decode b_O_takes 4 = .ok (.ifCond .ne 5, 3) := by decide +kernel
theorem d_O_takes_7 : decode b_O_takes 7 = .ok (.iconst 1, 1) := by decide +kernel
theorem d_O_takes_8 : decode b_O_takes 8 = .ok (.ireturn, 1) := by decide +kernel
theorem d_O_takes_9 : decode b_O_takes 9 = .ok (.aload_n 0, 1) := by decide +kernel
theorem d_O_takes_10 : decode b_O_takes 10 = .ok (.getfield 18, 3) := by decide +kernel
theorem d_O_takes_13 : decode b_O_takes 13 = .ok (.ifCond .eq 19, 3) := by decide +kernel
theorem d_O_takes_16 : decode b_O_takes 16 = .ok (.iload_n 1, 1) := by decide +kernel
theorem d_O_takes_17 : decode b_O_takes 17 = .ok (.aload_n 0, 1) := by decide +kernel
theorem d_O_takes_18 : decode b_O_takes 18 = .ok (.getfield 31, 3) := by decide +kernel
theorem d_O_takes_21 : decode b_O_takes 21 = .ok (.if_icmp .gt 7, 3) := by decide +kernel
theorem d_O_takes_24 : decode b_O_takes 24 = .ok (.iconst 1, 1) := by decide +kernel
theorem d_O_takes_25 : decode b_O_takes 25 = .ok (.goto 20, 3) := by decide +kernel
theorem d_O_takes_28 : decode b_O_takes 28 = .ok (.iconst 0, 1) := by decide +kernel
theorem d_O_takes_29 : decode b_O_takes 29 = .ok (.goto 16, 3) := by decide +kernel
theorem d_O_takes_32 : decode b_O_takes 32 = .ok (.iload_n 1, 1) := by decide +kernel
theorem d_O_takes_33 : decode b_O_takes 33 = .ok (.aload_n 0, 1) := by decide +kernel
theorem d_O_takes_34 : decode b_O_takes 34 = .ok (.getfield 31, 3) := by decide +kernel
theorem d_O_takes_37 : decode b_O_takes 37 = .ok (.if_icmp .lt 7, 3) := by decide +kernel
theorem d_O_takes_40 : decode b_O_takes 40 = .ok (.iconst 1, 1) := by decide +kernel
theorem d_O_takes_41 : decode b_O_takes 41 = .ok (.goto 4, 3) := by decide +kernel
theorem d_O_takes_44 : decode b_O_takes 44 = .ok (.iconst 0, 1) := by decide +kernel
theorem d_O_takes_45 : decode b_O_takes 45 = .ok (.ireturn, 1) := by decide +kernel
theorem d_O_init_0 : decode b_O_init 0 = .ok (.aload_n 0, 1) := by decide +kernel
theorem d_O_init_1 : decode b_O_init 1 = .ok (.invokespecial 3, 3) := by decide +kernel
theorem d_O_init_4 : decode b_O_init 4 = .ok (.aload_n 0, 1) := by decide +kernel
theorem d_O_init_5 : decode b_O_init 5 = .ok (.iload_n 1, 1) := by decide +kernel
theorem d_O_init_6 : decode b_O_init 6 = .ok (.putfield 9, 3) := by decide +kernel
theorem d_O_init_9 : decode b_O_init 9 = .ok (.aload_n 0, 1) := by decide +kernel
theorem d_O_init_10 : decode b_O_init 10 = .ok (.iload_n 2, 1) := by decide +kernel
theorem d_O_init_11 : decode b_O_init 11 = .ok (.putfield 15, 3) := by decide +kernel
theorem d_O_init_14 : decode b_O_init 14 = .ok (.aload_n 0, 1) := by decide +kernel
theorem d_O_init_15 : decode b_O_init 15 = .ok (.iload_n 3, 1) := by decide +kernel
theorem d_O_init_16 : decode b_O_init 16 = .ok (.putfield 18, 3) := by decide +kernel
theorem d_O_init_19 : decode b_O_init 19 = .ok (.aload_n 0, 1) := by decide +kernel
theorem d_O_init_20 : decode b_O_init 20 = .ok (.iload 4, 2) := by decide +kernel
theorem d_O_init_22 : decode b_O_init 22 = .ok (.putfield 22, 3) := by decide +kernel
theorem d_O_init_25 : decode b_O_init 25 = .ok (.aload_n 0, 1) := by decide +kernel
theorem d_O_init_26 : decode b_O_init 26 = .ok (.iload 5, 2) := by decide +kernel
theorem d_O_init_28 : decode b_O_init 28 = .ok (.putfield 25, 3) := by decide +kernel
theorem d_O_init_31 : decode b_O_init 31 = .ok (.aload_n 0, 1) := by decide +kernel
theorem d_O_init_32 : decode b_O_init 32 = .ok (.iconst (-1), 1) := by decide +kernel
theorem d_O_init_33 : decode b_O_init 33 = .ok (.putfield 28, 3) := by decide +kernel
theorem d_O_init_36 : decode b_O_init 36 = .ok (.return_, 1) := by decide +kernel
theorem d_O_ask_0 : decode b_O_ask 0 = .ok (.aload_n 0, 1) := by decide +kernel
theorem d_O_ask_1 : decode b_O_ask 1 = .ok (.iload_n 1, 1) := by decide +kernel
theorem d_O_ask_2 : decode b_O_ask 2 = .ok (.putfield 31, 3) := by decide +kernel
theorem d_O_ask_5 : decode b_O_ask 5 = .ok (.aload_n 0, 1) := by decide +kernel
theorem d_O_ask_6 : decode b_O_ask 6 = .ok (.iload_n 2, 1) := by decide +kernel
theorem d_O_ask_7 : decode b_O_ask 7 = .ok (.putfield 34, 3) := by decide +kernel
theorem d_O_ask_10 : decode b_O_ask 10 = .ok (.return_, 1) := by decide +kernel
theorem d_S_enter_0 : decode b_S_enter 0 = .ok (.aload_n 1, 1) := by decide +kernel
theorem d_S_enter_1 : decode b_S_enter 1 = .ok (.iload_n 2, 1) := by decide +kernel
theorem d_S_enter_2 : decode b_S_enter 2 = .ok (.putfield 28, 3) := by decide +kernel
theorem d_S_enter_5 : decode b_S_enter 5 = .ok (.aload_n 0, 1) := by decide +kernel
theorem d_S_enter_6 : decode b_S_enter 6 = .ok (.getfield 12, 3) := by decide +kernel
theorem d_S_enter_9 : decode b_S_enter 9 = .ok (.invokevirtual 32, 3) := by decide +kernel
theorem d_S_enter_12 : decode b_S_enter 12 = .ok (.istore_n 3, 1) := by decide +kernel
theorem d_S_enter_13 : decode b_S_enter 13 = .ok (.iload_n 3, 1) := by decide +kernel
theorem d_S_enter_14 : decode b_S_enter 14 = .ok (.ifCond .le 29, 3) := by decide +kernel
theorem d_S_enter_17 : decode b_S_enter 17 = .ok (.aload_n 1, 1) := by decide +kernel
theorem d_S_enter_18 : decode b_S_enter 18 = .ok (.aload_n 0, 1) := by decide +kernel
theorem d_S_enter_19 : decode b_S_enter 19 = .ok (.getfield 12, 3) := by decide +kernel
theorem d_S_enter_22 : decode b_S_enter 22 = .ok (.iload_n 3, 1) := by decide +kernel
theorem d_S_enter_23 : decode b_S_enter 23 = .ok (.iconst 1, 1) := by decide +kernel
theorem d_S_enter_24 : decode b_S_enter 24 = .ok (.isub, 1) := by decide +kernel
theorem d_S_enter_25 : decode b_S_enter 25 = .ok (.invokevirtual 22, 3) := by decide +kernel
theorem d_S_enter_28 : decode b_S_enter 28 = .ok (.checkcast 26, 3) := by decide +kernel
theorem d_S_enter_31 : decode b_S_enter 31 = .ok (.invokevirtual 36, 3) := by decide +kernel
theorem d_S_enter_34 : decode b_S_enter 34 = .ok (.ifCond .eq 9, 3) := by decide +kernel
theorem d_S_enter_37 : decode b_S_enter 37 = .ok (.iinc 3 (-1), 3) := by decide +kernel
theorem d_S_enter_40 : decode b_S_enter 40 = .ok (.goto (-27), 3) := by decide +kernel
theorem d_S_enter_43 : decode b_S_enter 43 = .ok (.aload_n 0, 1) := by decide +kernel
theorem d_S_enter_44 : decode b_S_enter 44 = .ok (.getfield 12, 3) := by decide +kernel
theorem d_S_enter_47 : decode b_S_enter 47 = .ok (.iload_n 3, 1) := by decide +kernel
theorem d_S_enter_48 : decode b_S_enter 48 = .ok (.aload_n 1, 1) := by decide +kernel
theorem d_S_enter_49 : decode b_S_enter 49 = .ok (.invokevirtual 40, 3) := by decide +kernel
theorem d_S_enter_52 : decode b_S_enter 52 = .ok (.return_, 1) := by decide +kernel
theorem d_O_give_0 : decode b_O_give 0 = .ok (.aload_n 0, 1) := by decide +kernel
theorem d_O_give_1 : decode b_O_give 1 = .ok (.dup, 1) := by decide +kernel
theorem d_O_give_2 : decode b_O_give 2 = .ok (.getfield 34, 3) := by decide +kernel
theorem d_O_give_5 : decode b_O_give 5 = .ok (.iload_n 1, 1) := by decide +kernel
theorem d_O_give_6 : decode b_O_give 6 = .ok (.isub, 1) := by decide +kernel
theorem d_O_give_7 : decode b_O_give 7 = .ok (.putfield 34, 3) := by decide +kernel
theorem d_O_give_10 : decode b_O_give 10 = .ok (.aload_n 0, 1) := by decide +kernel
theorem d_O_give_11 : decode b_O_give 11 = .ok (.dup, 1) := by decide +kernel
theorem d_O_give_12 : decode b_O_give 12 = .ok (.getfield 46, 3) := by decide +kernel
theorem d_O_give_15 : decode b_O_give 15 = .ok (.iload_n 1, 1) := by decide +kernel
theorem d_O_give_16 : decode b_O_give 16 = .ok (.iadd, 1) := by decide +kernel
theorem d_O_give_17 : decode b_O_give 17 = .ok (.putfield 46, 3) := by decide +kernel
theorem d_O_give_20 : decode b_O_give 20 = .ok (.return_, 1) := by decide +kernel
theorem d_G_keep_0 : decode b_G_keep 0 = .ok (.aload_n 0, 1) := by decide +kernel
theorem d_G_keep_1 : decode b_G_keep 1 = .ok (.dup, 1) := by decide +kernel
theorem d_G_keep_2 : decode b_G_keep 2 = .ok (.getfield 18, 3) := by decide +kernel
theorem d_G_keep_5 : decode b_G_keep 5 = .ok (.iload 4, 2) := by decide +kernel
theorem d_G_keep_7 : decode b_G_keep 7 = .ok (.i2l, 1) := by decide +kernel
theorem d_G_keep_8 : decode b_G_keep 8 = .ok (.ladd, 1) := by decide +kernel
theorem d_G_keep_9 : decode b_G_keep 9 = .ok (.putfield 18, 3) := by decide +kernel
theorem d_G_keep_12 : decode b_G_keep 12 = .ok (.aload_n 0, 1) := by decide +kernel
theorem d_G_keep_13 : decode b_G_keep 13 = .ok (.getfield 12, 3) := by decide +kernel
theorem d_G_keep_16 : decode b_G_keep 16 = .ok (.invokevirtual 22, 3) := by decide +kernel
theorem d_G_keep_19 : decode b_G_keep 19 = .ok (.ldc 26, 2) := by decide +kernel
theorem d_G_keep_21 : decode b_G_keep 21 = .ok (.if_icmp .ge 23, 3) := by decide +kernel
theorem d_G_keep_24 : decode b_G_keep 24 = .ok (.aload_n 0, 1) := by decide +kernel
theorem d_G_keep_25 : decode b_G_keep 25 = .ok (.getfield 12, 3) := by decide +kernel
theorem d_G_keep_28 : decode b_G_keep 28 = .ok (.new 27, 3) := by decide +kernel
theorem d_G_keep_31 : decode b_G_keep 31 = .ok (.dup, 1) := by decide +kernel
theorem d_G_keep_32 : decode b_G_keep 32 = .ok (.iload_n 1, 1) := by decide +kernel
theorem d_G_keep_33 : decode b_G_keep 33 = .ok (.iload_n 2, 1) := by decide +kernel
theorem d_G_keep_34 : decode b_G_keep 34 = .ok (.iload_n 3, 1) := by decide +kernel
theorem d_G_keep_35 : decode b_G_keep 35 = .ok (.iload 4, 2) := by decide +kernel
theorem d_G_keep_37 : decode b_G_keep 37 = .ok (.invokespecial 29, 3) := by decide +kernel
theorem d_G_keep_40 : decode b_G_keep 40 = .ok (.invokevirtual 32, 3) := by decide +kernel
theorem d_G_keep_43 : decode b_G_keep 43 = .ok (.pop, 1) := by decide +kernel
theorem d_G_keep_44 : decode b_G_keep 44 = .ok (.return_, 1) := by decide +kernel
theorem d_R_init_0 : decode b_R_init 0 = .ok (.aload_n 0, 1) := by decide +kernel
theorem d_R_init_1 : decode b_R_init 1 = .ok (.invokespecial 1, 3) := by decide +kernel
theorem d_R_init_4 : decode b_R_init 4 = .ok (.aload_n 0, 1) := by decide +kernel
theorem d_R_init_5 : decode b_R_init 5 = .ok (.iload_n 1, 1) := by decide +kernel
theorem d_R_init_6 : decode b_R_init 6 = .ok (.putfield 7, 3) := by decide +kernel
theorem d_R_init_9 : decode b_R_init 9 = .ok (.aload_n 0, 1) := by decide +kernel
theorem d_R_init_10 : decode b_R_init 10 = .ok (.iload_n 2, 1) := by decide +kernel
theorem d_R_init_11 : decode b_R_init 11 = .ok (.putfield 13, 3) := by decide +kernel
theorem d_R_init_14 : decode b_R_init 14 = .ok (.aload_n 0, 1) := by decide +kernel
theorem d_R_init_15 : decode b_R_init 15 = .ok (.iload_n 3, 1) := by decide +kernel
theorem d_R_init_16 : decode b_R_init 16 = .ok (.putfield 16, 3) := by decide +kernel
theorem d_R_init_19 : decode b_R_init 19 = .ok (.aload_n 0, 1) := by decide +kernel
theorem d_R_init_20 : decode b_R_init 20 = .ok (.iload 4, 2) := by decide +kernel
theorem d_R_init_22 : decode b_R_init 22 = .ok (.putfield 19, 3) := by decide +kernel
theorem d_R_init_25 : decode b_R_init 25 = .ok (.return_, 1) := by decide +kernel
theorem d_S_leave_0 : decode b_S_leave 0 = .ok (.aload_n 1, 1) := by decide +kernel
theorem d_S_leave_1 : decode b_S_leave 1 = .ok (.iconst (-1), 1) := by decide +kernel
theorem d_S_leave_2 : decode b_S_leave 2 = .ok (.putfield 28, 3) := by decide +kernel
theorem d_S_leave_5 : decode b_S_leave 5 = .ok (.iconst 0, 1) := by decide +kernel
theorem d_S_leave_6 : decode b_S_leave 6 = .ok (.istore_n 2, 1) := by decide +kernel
theorem d_S_leave_7 : decode b_S_leave 7 = .ok (.iload_n 2, 1) := by decide +kernel
theorem d_S_leave_8 : decode b_S_leave 8 = .ok (.aload_n 0, 1) := by decide +kernel
theorem d_S_leave_9 : decode b_S_leave 9 = .ok (.getfield 12, 3) := by decide +kernel
theorem d_S_leave_12 : decode b_S_leave 12 = .ok (.invokevirtual 32, 3) := by decide +kernel
theorem d_S_leave_15 : decode b_S_leave 15 = .ok (.if_icmp .ge 31, 3) := by decide +kernel
theorem d_S_leave_18 : decode b_S_leave 18 = .ok (.aload_n 0, 1) := by decide +kernel
theorem d_S_leave_19 : decode b_S_leave 19 = .ok (.getfield 12, 3) := by decide +kernel
theorem d_S_leave_22 : decode b_S_leave 22 = .ok (.iload_n 2, 1) := by decide +kernel
theorem d_S_leave_23 : decode b_S_leave 23 = .ok (.invokevirtual 22, 3) := by decide +kernel
theorem d_S_leave_26 : decode b_S_leave 26 = .ok (.aload_n 1, 1) := by decide +kernel
theorem d_S_leave_27 : decode b_S_leave 27 = .ok (.if_acmp .ne 13, 3) := by decide +kernel
theorem d_S_leave_30 : decode b_S_leave 30 = .ok (.aload_n 0, 1) := by decide +kernel
theorem d_S_leave_31 : decode b_S_leave 31 = .ok (.getfield 12, 3) := by decide +kernel
theorem d_S_leave_34 : decode b_S_leave 34 = .ok (.iload_n 2, 1) := by decide +kernel
theorem d_S_leave_35 : decode b_S_leave 35 = .ok (.invokevirtual 44, 3) := by decide +kernel
theorem d_S_leave_38 : decode b_S_leave 38 = .ok (.pop, 1) := by decide +kernel
theorem d_S_leave_39 : decode b_S_leave 39 = .ok (.return_, 1) := by decide +kernel
theorem d_S_leave_40 : decode b_S_leave 40 = .ok (.iinc 2 1, 3) := by decide +kernel
theorem d_S_leave_43 : decode b_S_leave 43 = .ok (.goto (-36), 3) := by decide +kernel
theorem d_S_leave_46 : decode b_S_leave 46 = .ok (.return_, 1) := by decide +kernel
theorem d_O_lessen_0 : decode b_O_lessen 0 = .ok (.aload_n 0, 1) := by decide +kernel
theorem d_O_lessen_1 : decode b_O_lessen 1 = .ok (.iload_n 1, 1) := by decide +kernel
theorem d_O_lessen_2 : decode b_O_lessen 2 = .ok (.putfield 34, 3) := by decide +kernel
theorem d_O_lessen_5 : decode b_O_lessen 5 = .ok (.aload_n 0, 1) := by decide +kernel
theorem d_O_lessen_6 : decode b_O_lessen 6 = .ok (.aload_n 0, 1) := by decide +kernel
theorem d_O_lessen_7 : decode b_O_lessen 7 = .ok (.getfield 37, 3) := by decide +kernel
theorem d_O_lessen_10 : decode b_O_lessen 10 = .ok (.iload_n 1, 1) := by decide +kernel
theorem d_O_lessen_11 : decode b_O_lessen 11 = .ok (.invokestatic 40, 3) := by decide +kernel
theorem d_O_lessen_14 : decode b_O_lessen 14 = .ok (.putfield 37, 3) := by decide +kernel
theorem d_O_lessen_17 : decode b_O_lessen 17 = .ok (.return_, 1) := by decide +kernel
theorem d_A_workOut_0 : decode b_A_workOut 0 = .ok (.aload_n 0, 1) := by decide +kernel
theorem d_A_workOut_1 : decode b_A_workOut 1 = .ok (.iconst (-1), 1) := by decide +kernel
theorem d_A_workOut_2 : decode b_A_workOut 2 = .ok (.putfield 9, 3) := by decide +kernel
theorem d_A_workOut_5 : decode b_A_workOut 5 = .ok (.aload_n 0, 1) := by decide +kernel
theorem d_A_workOut_6 : decode b_A_workOut 6 = .ok (.lconst 0, 1) := by decide +kernel
theorem d_A_workOut_7 : decode b_A_workOut 7 = .ok (.putfield 15, 3) := by decide +kernel
theorem d_A_workOut_10 : decode b_A_workOut 10 = .ok (.aload_n 0, 1) := by decide +kernel
theorem d_A_workOut_11 : decode b_A_workOut 11 = .ok (.lconst 0, 1) := by decide +kernel
theorem d_A_workOut_12 : decode b_A_workOut 12 = .ok (.putfield 19, 3) := by decide +kernel
theorem d_A_workOut_15 : decode b_A_workOut 15 = .ok (.aload_n 1, 1) := by decide +kernel
theorem d_A_workOut_16 : decode b_A_workOut 16 = .ok (.invokevirtual 22, 3) := by decide +kernel
theorem d_A_workOut_19 : decode b_A_workOut 19 = .ok (.istore 4, 2) := by decide +kernel
theorem d_A_workOut_21 : decode b_A_workOut 21 = .ok (.iconst 0, 1) := by decide +kernel
theorem d_A_workOut_22 : decode b_A_workOut 22 = .ok (.istore 5, 2) := by decide +kernel
theorem d_A_workOut_24 : decode b_A_workOut 24 = .ok (.aload_n 1, 1) := by decide +kernel
theorem d_A_workOut_25 : decode b_A_workOut 25 = .ok (.invokestatic 28, 3) := by decide +kernel
theorem d_A_workOut_28 : decode b_A_workOut 28 = .ok (.lstore 6, 2) := by decide +kernel
theorem d_A_workOut_30 : decode b_A_workOut 30 = .ok (.lconst 0, 1) := by decide +kernel
theorem d_A_workOut_31 : decode b_A_workOut 31 = .ok (.lstore 8, 2) := by decide +kernel
theorem d_A_workOut_33 : decode b_A_workOut 33 = .ok (.iconst 1, 1) := by decide +kernel
theorem d_A_workOut_34 : decode b_A_workOut 34 = .ok (.istore 10, 2) := by decide +kernel
theorem d_A_workOut_36 : decode b_A_workOut 36 = .ok (.iload 10, 2) := by decide +kernel
theorem d_A_workOut_38 : decode b_A_workOut 38 = .ok (.sipush 2000, 3) := by decide +kernel
theorem d_A_workOut_41 : decode b_A_workOut 41 = .ok (.if_icmp .gt 118, 3) := by decide +kernel
theorem d_A_workOut_44 : decode b_A_workOut 44 = .ok (.iload 4, 2) := by decide +kernel
theorem d_A_workOut_46 : decode b_A_workOut 46 = .ok (.ifCond .le 46, 3) := by decide +kernel
theorem d_A_workOut_49 : decode b_A_workOut 49 = .ok (.aload_n 1, 1) := by decide +kernel
theorem d_A_workOut_50 : decode b_A_workOut 50 = .ok (.iload 4, 2) := by decide +kernel
theorem d_A_workOut_52 : decode b_A_workOut 52 = .ok (.iconst 1, 1) := by decide +kernel
theorem d_A_workOut_53 : decode b_A_workOut 53 = .ok (.isub, 1) := by decide +kernel
theorem d_A_workOut_54 : decode b_A_workOut 54 = .ok (.invokevirtual 32, 3) := by decide +kernel
theorem d_A_workOut_57 : decode b_A_workOut 57 = .ok (.checkcast 36, 3) := by decide +kernel
theorem d_A_workOut_60 : decode b_A_workOut 60 = .ok (.iload 10, 2) := by decide +kernel
theorem d_A_workOut_62 : decode b_A_workOut 62 = .ok (.invokevirtual 38, 3) := by decide +kernel
theorem d_A_workOut_65 : decode b_A_workOut 65 = .ok (.ifCond .ne 27, 3) := by decide +kernel
theorem d_A_workOut_68 : decode b_A_workOut 68 = .ok (.iinc 4 (-1), 3) := by decide +kernel
theorem d_A_workOut_71 : decode b_A_workOut 71 = .ok (.lload 6, 2) := by decide +kernel
theorem d_A_workOut_73 : decode b_A_workOut 73 = .ok (.aload_n 1, 1) := by decide +kernel
theorem d_A_workOut_74 : decode b_A_workOut 74 = .ok (.iload 4, 2) := by decide +kernel
theorem d_A_workOut_76 : decode b_A_workOut 76 = .ok (.invokevirtual 32, 3) := by decide +kernel
theorem d_A_workOut_79 : decode b_A_workOut 79 = .ok (.checkcast 36, 3) := by decide +kernel
theorem d_A_workOut_82 : decode b_A_workOut 82 = .ok (.getfield 42, 3) := by decide +kernel
theorem d_A_workOut_85 : decode b_A_workOut 85 = .ok (.i2l, 1) := by decide +kernel
theorem d_A_workOut_86 : decode b_A_workOut 86 = .ok (.lsub, 1) := by decide +kernel
theorem d_A_workOut_87 : decode b_A_workOut 87 = .ok (.lstore 6, 2) := by decide +kernel
theorem d_A_workOut_89 : decode b_A_workOut 89 = .ok (.goto (-45), 3) := by decide +kernel
theorem d_A_workOut_92 : decode b_A_workOut 92 = .ok (.iload 5, 2) := by decide +kernel
theorem d_A_workOut_94 : decode b_A_workOut 94 = .ok (.aload_n 2, 1) := by decide +kernel
theorem d_A_workOut_95 : decode b_A_workOut 95 = .ok (.invokevirtual 22, 3) := by decide +kernel
theorem d_A_workOut_98 : decode b_A_workOut 98 = .ok (.if_icmp .ge 44, 3) := by decide +kernel
theorem d_A_workOut_101 : decode b_A_workOut 101 = .ok (.aload_n 2, 1) := by decide +kernel
theorem d_A_workOut_102 : decode b_A_workOut 102 = .ok (.iload 5, 2) := by decide +kernel
theorem d_A_workOut_104 : decode b_A_workOut 104 = .ok (.invokevirtual 32, 3) := by decide +kernel
theorem d_A_workOut_107 : decode b_A_workOut 107 = .ok (.checkcast 36, 3) := by decide +kernel
theorem d_A_workOut_110 : decode b_A_workOut 110 = .ok (.iload 10, 2) := by decide +kernel
theorem d_A_workOut_112 : decode b_A_workOut 112 = .ok (.invokevirtual 38, 3) := by decide +kernel
theorem d_A_workOut_115 : decode b_A_workOut 115 = .ok (.ifCond .eq 27, 3) := by decide +kernel
theorem d_A_workOut_118 : decode b_A_workOut 118 = .ok (.lload 8, 2) := by decide +kernel
theorem d_A_workOut_120 : decode b_A_workOut 120 = .ok (.aload_n 2, 1) := by decide +kernel
theorem d_A_workOut_121 : decode b_A_workOut 121 = .ok (.iload 5, 2) := by decide +kernel
theorem d_A_workOut_123 : decode b_A_workOut 123 = .ok (.invokevirtual 32, 3) := by decide +kernel
theorem d_A_workOut_126 : decode b_A_workOut 126 = .ok (.checkcast 36, 3) := by decide +kernel
theorem d_A_workOut_129 : decode b_A_workOut 129 = .ok (.getfield 42, 3) := by decide +kernel
theorem d_A_workOut_132 : decode b_A_workOut 132 = .ok (.i2l, 1) := by decide +kernel
theorem d_A_workOut_133 : decode b_A_workOut 133 = .ok (.ladd, 1) := by decide +kernel
theorem d_A_workOut_134 : decode b_A_workOut 134 = .ok (.lstore 8, 2) := by decide +kernel
theorem d_A_workOut_136 : decode b_A_workOut 136 = .ok (.iinc 5 1, 3) := by decide +kernel
theorem d_A_workOut_139 : decode b_A_workOut 139 = .ok (.goto (-47), 3) := by decide +kernel
theorem d_A_workOut_142 : decode b_A_workOut 142 = .ok (.aload_n 0, 1) := by decide +kernel
theorem d_A_workOut_143 : decode b_A_workOut 143 = .ok (.iload 10, 2) := by decide +kernel
theorem d_A_workOut_145 : decode b_A_workOut 145 = .ok (.lload 6, 2) := by decide +kernel
theorem d_A_workOut_147 : decode b_A_workOut 147 = .ok (.lload 8, 2) := by decide +kernel
theorem d_A_workOut_149 : decode b_A_workOut 149 = .ok (.iload_n 3, 1) := by decide +kernel
theorem d_A_workOut_150 : decode b_A_workOut 150 = .ok (.invokevirtual 45, 3) := by decide +kernel
theorem d_A_workOut_153 : decode b_A_workOut 153 = .ok (.iinc 10 1, 3) := by decide +kernel
theorem d_A_workOut_156 : decode b_A_workOut 156 = .ok (.goto (-120), 3) := by decide +kernel
theorem d_A_workOut_159 : decode b_A_workOut 159 = .ok (.return_, 1) := by decide +kernel
theorem d_A_leftOf_0 : decode b_A_leftOf 0 = .ok (.lconst 0, 1) := by decide +kernel
theorem d_A_leftOf_1 : decode b_A_leftOf 1 = .ok (.lstore_n 1, 1) := by decide +kernel
theorem d_A_leftOf_2 : decode b_A_leftOf 2 = .ok (.iconst 0, 1) := by decide +kernel
theorem d_A_leftOf_3 : decode b_A_leftOf 3 = .ok (.istore_n 3, 1) := by decide +kernel
theorem d_A_leftOf_4 : decode b_A_leftOf 4 = .ok (.iload_n 3, 1) := by decide +kernel
theorem d_A_leftOf_5 : decode b_A_leftOf 5 = .ok (.aload_n 0, 1) := by decide +kernel
theorem d_A_leftOf_6 : decode b_A_leftOf 6 = .ok (.invokevirtual 22, 3) := by decide +kernel
theorem d_A_leftOf_9 : decode b_A_leftOf 9 = .ok (.if_icmp .ge 24, 3) := by decide +kernel
theorem d_A_leftOf_12 : decode b_A_leftOf 12 = .ok (.lload_n 1, 1) := by decide +kernel
theorem d_A_leftOf_13 : decode b_A_leftOf 13 = .ok (.aload_n 0, 1) := by decide +kernel
theorem d_A_leftOf_14 : decode b_A_leftOf 14 = .ok (.iload_n 3, 1) := by decide +kernel
theorem d_A_leftOf_15 : decode b_A_leftOf 15 = .ok (.invokevirtual 32, 3) := by decide +kernel
theorem d_A_leftOf_18 : decode b_A_leftOf 18 = .ok (.checkcast 36, 3) := by decide +kernel
theorem d_A_leftOf_21 : decode b_A_leftOf 21 = .ok (.getfield 42, 3) := by decide +kernel
theorem d_A_leftOf_24 : decode b_A_leftOf 24 = .ok (.i2l, 1) := by decide +kernel
theorem d_A_leftOf_25 : decode b_A_leftOf 25 = .ok (.ladd, 1) := by decide +kernel
theorem d_A_leftOf_26 : decode b_A_leftOf 26 = .ok (.lstore_n 1, 1) := by decide +kernel
theorem d_A_leftOf_27 : decode b_A_leftOf 27 = .ok (.iinc 3 1, 3) := by decide +kernel
theorem d_A_leftOf_30 : decode b_A_leftOf 30 = .ok (.goto (-26), 3) := by decide +kernel
theorem d_A_leftOf_33 : decode b_A_leftOf 33 = .ok (.lload_n 1, 1) := by decide +kernel
theorem d_A_leftOf_34 : decode b_A_leftOf 34 = .ok (.lreturn, 1) := by decide +kernel
theorem d_A_weigh_0 : decode b_A_weigh 0 = .ok (.lload_n 2, 1) := by decide +kernel
theorem d_A_weigh_1 : decode b_A_weigh 1 = .ok (.lload 4, 2) := by decide +kernel
theorem d_A_weigh_3 : decode b_A_weigh 3 = .ok (.invokestatic 49, 3) := by decide +kernel
theorem d_A_weigh_6 : decode b_A_weigh 6 = .ok (.lstore 7, 2) := by decide +kernel
theorem d_A_weigh_8 : decode b_A_weigh 8 = .ok (.lload_n 2, 1) := by decide +kernel
theorem d_A_weigh_9 : decode b_A_weigh 9 = .ok (.lload 4, 2) := by decide +kernel
theorem d_A_weigh_11 : decode b_A_weigh 11 = .ok (.lsub, 1) := by decide +kernel
theorem d_A_weigh_12 : decode b_A_weigh 12 = .ok (.lstore 9, 2) := by decide +kernel
theorem d_A_weigh_14 : decode b_A_weigh 14 = .ok (.lload 7, 2) := by decide +kernel
theorem d_A_weigh_16 : decode b_A_weigh 16 = .ok (.lconst 0, 1) := by decide +kernel
theorem d_A_weigh_17 : decode b_A_weigh 17 = .ok (.lcmp, 1) := by decide +kernel
theorem d_A_weigh_18 : decode b_A_weigh 18 = .ok (.ifCond .le 34, 3) := by decide +kernel
theorem d_A_weigh_21 : decode b_A_weigh 21 = .ok (.aload_n 0, 1) := by decide +kernel
theorem d_A_weigh_22 : decode b_A_weigh 22 = .ok (.iload_n 1, 1) := by decide +kernel
theorem d_A_weigh_23 : decode b_A_weigh 23 = .ok (.lload 7, 2) := by decide +kernel
theorem d_A_weigh_25 : decode b_A_weigh 25 = .ok (.lload 9, 2) := by decide +kernel
theorem d_A_weigh_27 : decode b_A_weigh 27 = .ok (.iload 6, 2) := by decide +kernel
theorem d_A_weigh_29 : decode b_A_weigh 29 = .ok (.invokevirtual 55, 3) := by decide +kernel
theorem d_A_weigh_32 : decode b_A_weigh 32 = .ok (.ifCond .eq 20, 3) := by decide +kernel
theorem d_A_weigh_35 : decode b_A_weigh 35 = .ok (.aload_n 0, 1) := by decide +kernel
theorem d_A_weigh_36 : decode b_A_weigh 36 = .ok (.iload_n 1, 1) := by decide +kernel
theorem d_A_weigh_37 : decode b_A_weigh 37 = .ok (.putfield 9, 3) := by decide +kernel
theorem d_A_weigh_40 : decode b_A_weigh 40 = .ok (.aload_n 0, 1) := by decide +kernel
theorem d_A_weigh_41 : decode b_A_weigh 41 = .ok (.lload 7, 2) := by decide +kernel
theorem d_A_weigh_43 : decode b_A_weigh 43 = .ok (.putfield 15, 3) := by decide +kernel
theorem d_A_weigh_46 : decode b_A_weigh 46 = .ok (.aload_n 0, 1) := by decide +kernel
theorem d_A_weigh_47 : decode b_A_weigh 47 = .ok (.lload 9, 2) := by decide +kernel
theorem d_A_weigh_49 : decode b_A_weigh 49 = .ok (.putfield 19, 3) := by decide +kernel
theorem d_A_weigh_52 : decode b_A_weigh 52 = .ok (.return_, 1) := by decide +kernel
theorem d_A_isBetter_0 : decode b_A_isBetter 0 = .ok (.lload_n 2, 1) := by decide +kernel
theorem d_A_isBetter_1 : decode b_A_isBetter 1 = .ok (.aload_n 0, 1) := by decide +kernel
theorem d_A_isBetter_2 : decode b_A_isBetter 2 = .ok (.getfield 15, 3) := by decide +kernel
theorem d_A_isBetter_5 : decode b_A_isBetter 5 = .ok (.lcmp, 1) := by decide +kernel
theorem d_A_isBetter_6 : decode b_A_isBetter 6 = .ok (.ifCond .eq 18, 3) := by decide +kernel
theorem d_A_isBetter_9 : decode b_A_isBetter 9 = .ok (.lload_n 2, 1) := by decide +kernel
theorem d_A_isBetter_10 : decode b_A_isBetter 10 = .ok (.aload_n 0, 1) := by decide +kernel
theorem d_A_isBetter_11 : decode b_A_isBetter 11 = .ok (.getfield 15, 3) := by decide +kernel
theorem d_A_isBetter_14 : decode b_A_isBetter 14 = .ok (.lcmp, 1) := by decide +kernel
theorem d_A_isBetter_15 : decode b_A_isBetter 15 = .ok (.ifCond .le 7, 3) := by decide +kernel
theorem d_A_isBetter_18 : decode b_A_isBetter 18 = .ok (.iconst 1, 1) := by decide +kernel
theorem d_A_isBetter_19 : decode b_A_isBetter 19 = .ok (.goto 4, 3) := by decide +kernel
theorem d_A_isBetter_22 : decode b_A_isBetter 22 = .ok (.iconst 0, 1) := by decide +kernel
theorem d_A_isBetter_23 : decode b_A_isBetter 23 = .ok (.ireturn, 1) := by decide +kernel
theorem d_A_isBetter_24 : decode b_A_isBetter 24 = .ok (.lload 4, 2) := by decide +kernel
theorem d_A_isBetter_26 : decode b_A_isBetter 26 = .ok (.invokestatic 59, 3) := by decide +kernel
theorem d_A_isBetter_29 : decode b_A_isBetter 29 = .ok (.aload_n 0, 1) := by decide +kernel
theorem d_A_isBetter_30 : decode b_A_isBetter 30 = .ok (.getfield 19, 3) := by decide +kernel
theorem d_A_isBetter_33 : decode b_A_isBetter 33 = .ok (.invokestatic 59, 3) := by decide +kernel
theorem d_A_isBetter_36 : decode b_A_isBetter 36 = .ok (.lcmp, 1) := by decide +kernel
theorem d_A_isBetter_37 : decode b_A_isBetter 37 = .ok (.ifCond .eq 25, 3) := by decide +kernel
theorem d_A_isBetter_40 : decode b_A_isBetter 40 = .ok (.lload 4, 2) := by decide +kernel
theorem d_A_isBetter_42 : decode b_A_isBetter 42 = .ok (.invokestatic 59, 3) := by decide +kernel
theorem d_A_isBetter_45 : decode b_A_isBetter 45 = .ok (.aload_n 0, 1) := by decide +kernel
theorem d_A_isBetter_46 : decode b_A_isBetter 46 = .ok (.getfield 19, 3) := by decide +kernel
theorem d_A_isBetter_49 : decode b_A_isBetter 49 = .ok (.invokestatic 59, 3) := by decide +kernel
theorem d_A_isBetter_52 : decode b_A_isBetter 52 = .ok (.lcmp, 1) := by decide +kernel
theorem d_A_isBetter_53 : decode b_A_isBetter 53 = .ok (.ifCond .ge 7, 3) := by decide +kernel
theorem d_A_isBetter_56 : decode b_A_isBetter 56 = .ok (.iconst 1, 1) := by decide +kernel
theorem d_A_isBetter_57 : decode b_A_isBetter 57 = .ok (.goto 4, 3) := by decide +kernel
theorem d_A_isBetter_60 : decode b_A_isBetter 60 = .ok (.iconst 0, 1) := by decide +kernel
theorem d_A_isBetter_61 : decode b_A_isBetter 61 = .ok (.ireturn, 1) := by decide +kernel
theorem d_A_isBetter_62 : decode b_A_isBetter 62 = .ok (.iload_n 1, 1) := by decide +kernel
theorem d_A_isBetter_63 : decode b_A_isBetter 63 = .ok (.iload 6, 2) := by decide +kernel
theorem d_A_isBetter_65 : decode b_A_isBetter 65 = .ok (.isub, 1) := by decide +kernel
theorem d_A_isBetter_66 : decode b_A_isBetter 66 = .ok (.invokestatic 63, 3) := by decide +kernel
theorem d_A_isBetter_69 : decode b_A_isBetter 69 = .ok (.aload_n 0, 1) := by decide +kernel
theorem d_A_isBetter_70 : decode b_A_isBetter 70 = .ok (.getfield 9, 3) := by decide +kernel
theorem d_A_isBetter_73 : decode b_A_isBetter 73 = .ok (.iload 6, 2) := by decide +kernel
theorem d_A_isBetter_75 : decode b_A_isBetter 75 = .ok (.isub, 1) := by decide +kernel
theorem d_A_isBetter_76 : decode b_A_isBetter 76 = .ok (.invokestatic 63, 3) := by decide +kernel
theorem d_A_isBetter_79 : decode b_A_isBetter 79 = .ok (.if_icmp .ge 7, 3) := by decide +kernel
theorem d_A_isBetter_82 : decode b_A_isBetter 82 = .ok (.iconst 1, 1) := by decide +kernel
theorem d_A_isBetter_83 : decode b_A_isBetter 83 = .ok (.goto 4, 3) := by decide +kernel
theorem d_A_isBetter_86 : decode b_A_isBetter 86 = .ok (.iconst 0, 1) := by decide +kernel
theorem d_A_isBetter_87 : decode b_A_isBetter 87 = .ok (.ireturn, 1) := by decide +kernel
end
section
/-! The heap as a map: one world for every method. M says what lies where; z is the heap's size at the law's start. -/
abbrev mMap : Type := Nat → Option va_E
def mU (M : mMap) (a : Nat) (e : va_E) : mMap := fun q => if q = a then some e else M q
theorem mU_eq (M : mMap) (a : Nat) (e : va_E) : mU M a e a = some e := if_pos rfl
theorem mU_ne {M : mMap} {a b : Nat} {e : va_E} (h : b ≠ a) : mU M a e b = M b := if_neg h
theorem mU_to {M : mMap} {a b : Nat} {e : va_E} {x : Option va_E} (h : b ≠ a) (hb : M b = x) : mU M a e b = x := (mU_ne h).trans hb
theorem mU_uu (M : mMap) (a : Nat) (e1 e2 : va_E) : mU (mU M a e1) a e2 = mU M a e2 := by
  funext q
  unfold mU
  by_cases h : q = a
  · rw [if_pos h, if_pos h]
  · rw [if_neg h, if_neg h, if_neg h]
def mA (z : Nat) : Nat → Prop := fun q => z ≤ q
def mIn (M : mMap) (ws : va_W) : Prop := ∀ (a : Nat) (e : va_E), M a = some e → ∃ k : Nat, ws[k]? = some (a, e)
theorem mIn.set {M : mMap} {ws : va_W} {q0 a : Nat} {e0 e : va_E} (hm : mIn M ws) (he : ws[q0]? = some (a, e0)) : mIn (mU M a e) (ws.set q0 (a, e)) := by
  intro b x hx
  have hlt : q0 < ws.length := (List.getElem?_eq_some_iff.mp he).1
  by_cases hb : b = a
  · subst hb
    rw [mU_eq] at hx
    cases hx
    exact ⟨q0, by simp [hlt]⟩
  · rw [mU_ne hb] at hx
    obtain ⟨k, hk⟩ := hm b x hx
    refine ⟨k, ?_⟩
    have hne : q0 ≠ k := fun h => by
      subst h
      rw [he] at hk
      cases hk
      exact hb rfl
    rw [List.getElem?_set_ne hne]
    exact hk
theorem mIn.push {M : mMap} {ws : va_W} {q : Nat} {e : va_E} (hm : mIn M ws) : mIn (mU M q e) (ws ++ [(q, e)]) := by
  intro b x hx
  by_cases hb : b = q
  · subst hb
    rw [mU_eq] at hx
    cases hx
    exact ⟨ws.length, by rw [List.getElem?_append_right (Nat.le_refl _), Nat.sub_self]; rfl⟩
  · rw [mU_ne hb] at hx
    obtain ⟨k, hk⟩ := hm b x hx
    exact ⟨k, by rw [List.getElem?_append_left ((List.getElem?_eq_some_iff.mp hk).1)]; exact hk⟩
theorem mIn.fresh {M : mMap} {ws : va_W} {q : Nat} {e : va_E} {A : Nat → Prop} (hm : mIn M ws) (hD : va_D A (ws ++ [(q, e)])) : M q = none := by
  cases h : M q with
  | none => rfl
  | some x =>
    obtain ⟨k, hk⟩ := hm q x h
    have hl := (List.getElem?_eq_some_iff.mp hk).1
    have h1 : (ws ++ [(q, e)])[k]? = some (q, x) := by rw [List.getElem?_append_left hl]; exact hk
    have h2 : (ws ++ [(q, e)])[ws.length]? = some (q, e) := by rw [List.getElem?_append_right (Nat.le_refl _), Nat.sub_self]; rfl
    have := hD.1 _ _ _ _ h1 h2 rfl
    omega
theorem mIn.apart {M : mMap} {ws : va_W} {q : Nat} {e : va_E} {A : Nat → Prop} (hm : mIn M ws) (hD : va_D A ws) {b : Nat} {x : va_E} (h : M b = some x) : A b := by
  obtain ⟨k, hk⟩ := hm b x h
  exact hD.2 k _ hk
/-- the parameters: classes and slots, the classes of arrays, the heap's size at the start, the empty list's array, the mirror of Object[] -/
abbrev mG : Type := va_G × (Nat → ClassId) × Nat × Nat × Nat
abbrev gz (γ : mG) : Nat := γ.2.2.1
abbrev ge (γ : mG) : Nat := γ.2.2.2.1
abbrev gm (γ : mG) : Nat := γ.2.2.2.2
abbrev gA (γ : mG) (k : Nat) : ClassId := γ.2.1 k
abbrev mT (γ : mG) : List (ClassId × FieldType) := [(gA γ 0, .int), (gA γ 1, .boolean), (gA γ 2, .long), (gA γ 3, .object "java/lang/Object")]
/-- what old cells and tables say that no row of ours changes -/
def mX (γ : mG) (U : State) (H : Heap) : Prop :=
  va_Z "java/util/ArrayList" "DEFAULTCAPACITY_EMPTY_ELEMENTDATA" "[Ljava/lang/Object;" (.ref (ge γ)) (mA (gz γ)) U H ∧
  va_T (.object "java/lang/Object") (ge γ) 0 (fun _ => .null) (mA (gz γ)) U H ∧
  va_AO "java/lang/Object" U ∧ va_Mi "[Ljava/lang/Object;" (gm γ) U ∧ va_Dc U ∧
  va_Nw (.castable "CallBook$Order" "java/lang/Object") U ∧ va_Nw (.castable "CallBook$Trade" "java/lang/Object") U
theorem va_Nw.cast {C D : String} {u U : State} (hvm : u.vm.Alike U.vm) (h : va_Nw (.castable C D) u) : va_Nw (.castable C D) U := va_tabs rfl (rfl : (u.setVm U.vm).vm = U.vm) (by rw [Cond.castable_setVm hvm]; exact h)
theorem mX.moved {γ : mG} {u U : State} {H H1 : Heap} (hvm : u.vm.Alike U.vm) (hq : ∀ a : Nat, a < H.size → ¬ mA (gz γ) a → H1[a]? = H[a]?) (h : mX γ u H) : mX γ U H1 := by
  obtain ⟨h1, h2, h3, h4, h5, h6, h7⟩ := h
  exact ⟨(h1.moved hvm).kept hq, (h2.moved hvm).kept hq, h3.moved hvm, h4.moved hvm, h5.moved hvm, h6.cast hvm, h7.cast hvm⟩
def mK (γ : mG) (U : State) (H : Heap) : Prop := va_K γ.1 vwCl (mT γ) U ∧ mX γ U H
theorem mK.moved {γ : mG} {u U : State} {H H1 : Heap} (hvm : u.vm.Alike U.vm) (hq : ∀ a : Nat, a < H.size → ¬ mA (gz γ) a → H1[a]? = H[a]?) (h : mK γ u H) : mK γ U H1 := ⟨h.1.moved hvm, h.2.moved hvm hq⟩
/-- the heap holds the map -/
def mH (γ : mG) (M : mMap) (H : Heap) : Prop := gz γ ≤ H.size ∧ ∃ ws : va_W, mIn M ws ∧ va_P γ.1 vwCl ws H ∧ va_D (mA (gz γ)) ws
/-- the world in the midst of a method that began at s -/
def mW (γ : mG) (M : mMap) (s : State) (H : Heap) (locs : List Loc) : Prop := gz γ ≤ s.heap.size ∧ va_S (mA (gz γ)) s.heap H locs ∧ mK γ s s.heap ∧ ∃ ws : va_W, mIn M ws ∧ va_P γ.1 vwCl ws H ∧ va_D (mA (gz γ)) ws
theorem mW.toH {γ : mG} {M : mMap} {s : State} {H : Heap} {locs : List Loc} (h : mW γ M s H locs) : mH γ M H := ⟨Nat.le_trans h.1 h.2.1.1, h.2.2.2⟩
theorem mW.K {γ : mG} {M : mMap} {s U : State} {H H1 : Heap} {locs : List Loc} (h : mW γ M s H locs) (hvm : s.vm.Alike U.vm) (e : H1 = H) : mK γ U H1 := by
  subst e
  exact h.2.2.1.moved hvm h.2.1.2.1
theorem mW.of {γ : mG} {M : mMap} {s : State} (h : mH γ M s.heap) (hk : mK γ s s.heap) : mW γ M s s.heap [] := ⟨h.1, va_S.rf, hk, h.2⟩
theorem mW.big {γ : mG} {M : mMap} {s : State} {H : Heap} {locs : List Loc} (h : mW γ M s H locs) {a : Nat} {e : va_E} (he : M a = some e) : gz γ ≤ a := by
  obtain ⟨-, -, -, ws, hm, -, hD⟩ := h
  obtain ⟨k, hk⟩ := hm a e he
  exact hD.2 k _ hk
theorem mW.sub {γ : mG} {M M' : mMap} {s : State} {H : Heap} {locs : List Loc} (h : mW γ M s H locs) (hs : ∀ a e, M' a = some e → M a = some e) : mW γ M' s H locs := by
  obtain ⟨h1, h2, h3, ws, hm, hP, hD⟩ := h
  exact ⟨h1, h2, h3, ws, fun a e he => hm a e (hs a e he), hP, hD⟩
/-- a method's start and ends -/
def mPc (γ : mG) (M : mMap) (As : List Value) : Array Value → State → Prop := va_Pc As (fun U => mH γ M U.heap ∧ mK γ U U.heap)
abbrev mB (γ : mG) : mMap → State → Prop := fun M t => mH γ M t.heap ∧ mK γ t t.heap
def mQi (γ : mG) (post : Int32 → mMap → Prop) : Array Value → State → Outcome → State → Prop := va_Qi post (mB γ) (mA (gz γ))
def mQl (γ : mG) (post : Int64 → mMap → Prop) : Array Value → State → Outcome → State → Prop := va_Ql post (mB γ) (mA (gz γ))
def mQv (γ : mG) (post : mMap → Prop) : Array Value → State → Outcome → State → Prop := va_Qv post (mB γ) (mA (gz γ))
def mQq (γ : mG) (post : Option Nat → mMap → Prop) : Array Value → State → Outcome → State → Prop := va_Qq post (mB γ) (mA (gz γ))
theorem mPc.blind {γ : mG} {M : mMap} {As : List Value} : FrameBlind (mPc γ M As) := by
  intro a U g mk h
  obtain ⟨h1, h2, h3⟩ := h
  exact ⟨h1, h2, mK.moved (u := U) (U := U.calling g mk a) (Vm.Alike.refl U.vm) (fun _ _ _ => rfl) h3⟩
/-- what the tables say of a class whose objects we hold -/
def mC (ci : Nat) (C : String) (T : u_T) (N : Nat) (ty : Nat → FieldType) : Prop := vwCl[ci]? = some (C, T, N) ∧ (∀ w ∈ u_ws C T N, w ∈ GG) ∧ (∀ k, k < N → parseFieldDescriptor (T k).2.2.1 = some (ty k)) ∧ ∀ a, a < N → ∀ b, b < N → a ≠ b → (T a).2.1 ≠ (T b).2.1
theorem cl_AL : mC 0 "java/util/ArrayList" T_AL 3 t_AL := ⟨rfl, uw_AL, tk_AL, n_AL⟩
theorem cl_A : mC 1 "CallBook$Auction" T_A 3 t_A := ⟨rfl, uw_A, tk_A, n_A⟩
theorem cl_O : mC 2 "CallBook$Order" T_O 10 t_O := ⟨rfl, uw_O, tk_O, n_O⟩
theorem cl_S : mC 3 "CallBook$Side" T_S 1 t_S := ⟨rfl, uw_S, tk_S, n_S⟩
theorem cl_R : mC 4 "CallBook$Trade" T_R 4 t_R := ⟨rfl, uw_R, tk_R, n_R⟩
theorem cl_G : mC 5 "CallBook$TradeLog" T_G 2 t_G := ⟨rfl, uw_G, tk_G, n_G⟩
theorem cl_B : mC 6 "CallBook" T_B 9 t_B := ⟨rfl, uw_B, tk_B, n_B⟩
theorem cl_M : mC 7 "CallBookModel" T_M 26 t_M := ⟨rfl, uw_M, tk_M, n_M⟩
theorem gc {c0 w : Cond} (h : w ∈ GG) : w ∈ c0 :: GG := List.mem_cons_of_mem _ h
theorem gg {c0 c1 : Cond} (h : c1 ∈ GG) : GoodIn (c0 :: GG) (c1 :: GG) := by
  have good : ∀ w, w ∈ GG → (w.onTables && w.keeps) = true ∨ ∃ ty, w = .arrayClass ty := fun w hw => good_of_word (List.mem_filter.mp hw).2
  intro w hw
  rcases List.mem_cons.mp hw with e | e
  · subst e; exact ⟨gc h, good _ h⟩
  · exact ⟨gc e, good _ e⟩
theorem ggs {c0 : Cond} {ws : List Cond} (h : ∀ w ∈ ws, w ∈ GG) : GoodIn (c0 :: GG) ws := fun w hw => ⟨gc (h w hw), good_of_word (List.mem_filter.mp (h w hw)).2⟩
theorem gga {c0 : Cond} {a b : List Cond} (ha : GoodIn (c0 :: GG) a) (hb : GoodIn (c0 :: GG) b) : GoodIn (c0 :: GG) (a ++ b) := fun w h => (List.mem_append.mp h).elim (ha w) (hb w)
section MROWS
variable {p : Program} {l : Launch} {e : Env} {R : Room} {s : State} {m : MethodId} {args : Array Value} {below : List Frame} {meth : Method} {c : Code} {H : Heap} {locs : List Loc} {cells slots : Nat} {Q : State → Prop}
variable {cc : ByteArray} {pc nL : Nat} {ls : Array Slot} {rest st0 : List Value} {γ : mG} {M : mMap} {a : Nat} {c0 : Cond} {own : String}
theorem m_get (S : CallFix p m c cc nL s args (c0 :: GG) own) (hw : mW γ M s H locs) {ref C : String} {T : u_T} {N ci index : Nat} {ty0 : Nat → FieldType} {fs : List Value} (hc : mC ci C T N ty0) (he : M a = some (.inr (ci, fs))) (k : Nat) (hk : k < N) (hl : Cond.fieldLink own index ref (T k).2.1 (T k).2.2.1 ∈ GG) (hsame : ∀ x, s.fieldFound? (T k).1 (T k).2.1 (T k).2.2.1 = some x → s.fieldFound? ref (T k).2.1 (T k).2.2.1 = some x) {v : Value} (hv : fs[k]? = some v) (hdg : decode cc pc = .ok (.getfield index, 3))
    (kk : W p l e R s m args below meth c H locs cells slots Q (F0 m (pc + 3) ls (v :: rest))) : W p l e R s m args below meth c H locs cells slots Q (F0 m pc ls (.ref a :: rest)) := by
  obtain ⟨-, -, hK, ws, hm, hP, -⟩ := hw
  obtain ⟨q0, hq⟩ := hm _ _ he
  exact va_get S.1 S.2.1 S.2.2.2.2 (fun w h => gc (hc.2.1 w h)) S.2.2.2.1 hK.1 hP q0 hq hc.1 k hk (S.2.2.2.2 _ (gc hl)) hsame hv hdg kk
theorem m_put (S : CallFix p m c cc nL s args (c0 :: GG) own) (hw : mW γ M s H locs) {ref C : String} {T : u_T} {N ci index : Nat} {ty0 : Nat → FieldType} {fs : List Value} (hc : mC ci C T N ty0) (he : M a = some (.inr (ci, fs))) (k : Nat) (hk : k < N) (hl : Cond.fieldLink own index ref (T k).2.1 (T k).2.2.1 ∈ GG) (hsame : ∀ x, s.fieldFound? (T k).1 (T k).2.1 (T k).2.2.1 = some x → s.fieldFound? ref (T k).2.1 (T k).2.2.1 = some x)
    (hfin : (T k).2.2.2 = false) {v : Value} (hn : narrow (ty0 k) v = v) (hfit : fits (ty0 k) v = true) (hlen : k < fs.length) (hdg : decode cc pc = .ok (.putfield index, 3))
    (kk : ∀ (H1 : Heap) (locs1 : List Loc), mW γ (mU M a (.inr (ci, fs.set k v))) s H1 locs1 → W p l e R s m args below meth c H1 locs1 cells slots Q (F0 m (pc + 3) ls rest)) : W p l e R s m args below meth c H locs cells slots Q (F0 m pc ls (v :: .ref a :: rest)) := by
  obtain ⟨h0, hS, hK, ws, hm, hP, hD⟩ := hw
  obtain ⟨q0, hq⟩ := hm _ _ he
  exact va_put S.1 S.2.1 S.2.2.2.2 (fun w h => gc (hc.2.1 w h)) ty0 hc.2.2.1 hc.2.2.2 S.2.2.2.1 hK.1 hP hD hS q0 hq hc.1 k hk (S.2.2.2.2 _ (gc hl)) hsame hfin (hc.2.2.1 k hk) hn hfit hlen hdg (fun H1 locs1 hP1 hD1 hS1 => kk H1 locs1 ⟨h0, hS1, hK, _, hm.set hq, hP1, hD1⟩)
theorem m_putF (S : CallFix p m c cc nL s args (c0 :: GG) own) (hw : mW γ M s H locs) {ref C : String} {T : u_T} {N ci index : Nat} {ty0 : Nat → FieldType} {fs : List Value} (hc : mC ci C T N ty0) (he : M a = some (.inr (ci, fs))) (k : Nat) (hk : k < N) (hl : Cond.fieldLink own index ref (T k).2.1 (T k).2.2.1 ∈ GG) (hsame : ∀ x, s.fieldFound? (T k).1 (T k).2.1 (T k).2.2.1 = some x → s.fieldFound? ref (T k).2.1 (T k).2.2.1 = some x)
    (hfin : (T k).2.2.2 = true) (hin2 : meth.name = "<init>") (hdecl : (T k).1 = own) {v : Value} (hn : narrow (ty0 k) v = v) (hfit : fits (ty0 k) v = true) (hlen : k < fs.length) (hdg : decode cc pc = .ok (.putfield index, 3))
    (kk : ∀ (H1 : Heap) (locs1 : List Loc), mW γ (mU M a (.inr (ci, fs.set k v))) s H1 locs1 → W p l e R s m args below meth c H1 locs1 cells slots Q (F0 m (pc + 3) ls rest)) : W p l e R s m args below meth c H locs cells slots Q (F0 m pc ls (v :: .ref a :: rest)) := by
  obtain ⟨h0, hS, hK, ws, hm, hP, hD⟩ := hw
  obtain ⟨q0, hq⟩ := hm _ _ he
  exact va_putF S.1 S.2.1 S.2.2.2.2 (fun w h => gc (hc.2.1 w h)) ty0 hc.2.2.1 hc.2.2.2 S.2.2.2.1 hK.1 hP hD hS q0 hq hc.1 k hk (S.2.2.2.2 _ (gc hl)) hsame hfin hin2 hdecl (hc.2.2.1 k hk) hn hfit hlen hdg (fun H1 locs1 hP1 hD1 hS1 => kk H1 locs1 ⟨h0, hS1, hK, _, hm.set hq, hP1, hD1⟩)
theorem m_new (S : CallFix p m c cc nL s args (c0 :: GG) own) (hw : mW γ M s H locs) {C : String} {T : u_T} {N ci index : Nat} {ty : Nat → FieldType} (hc : mC ci C T N ty) (hcl : Cond.classLink own index C ∈ GG) (hinst : Cond.instantiable C N ∈ GG) (hini : Cond.initialized C ∈ GG) {fs : List Value} (hfs : ∀ j, j < N → defaultValue (ty j) = vp_V fs j) (hcells : cells + 1 ≤ R.cells) (hslots : slots + N ≤ R.slots) (hdg : decode cc pc = .ok (.new index, 3))
    (kk : ∀ (q : Nat) (H1 : Heap), M q = none → gz γ ≤ q → mW γ (mU M q (.inr (ci, fs))) s H1 locs → W p l e R s m args below meth c H1 locs (cells + 1) (slots + N) Q (F0 m (pc + 3) ls (.ref q :: rest))) : W p l e R s m args below meth c H locs cells slots Q (F0 m pc ls rest) := by
  obtain ⟨h0, hS, hK, ws, hm, hP, hD⟩ := hw
  refine va_new S.1 S.2.1 S.2.2.2.2 (fun w h => gc (hc.2.1 w h)) ty hc.2.2.1 S.2.2.2.1 (S.2.2.2.2 _ (gc hcl)) (S.2.2.2.2 _ (gc hinst)) (S.2.2.2.2 _ (gc hini)) hK.1 hP hD hS (fun q h => Nat.le_trans h0 h) hc.1 hfs hcells hslots hdg (fun q H1 hP1 hD1 hS1 => ?_)
  have hb : gz γ ≤ q := hD1.2 ws.length (q, _) (by rw [List.getElem?_append_right (Nat.le_refl _), Nat.sub_self]; rfl)
  exact kk q H1 (hm.fresh hD1) hb ⟨h0, hS1, hK, _, hm.push, hP1, hD1⟩
theorem m_iald (S : CallFix p m c cc nL s args (c0 :: GG) own) (hw : mW γ M s H locs) {n : Nat} {f : Nat → Int32} (he : M a = some (.inl (gA γ 0, n, .inl f))) {i : Int32} (hin : vp_in i n) (hdg : decode cc pc = .ok (.iaload, 1))
    (kk : W p l e R s m args below meth c H locs cells slots Q (F0 m (pc + 1) ls (.int (f i.toNatClampNeg) :: rest))) : W p l e R s m args below meth c H locs cells slots Q (F0 m pc ls (.int i :: .ref a :: rest)) := by
  obtain ⟨-, -, hK, ws, hm, hP, -⟩ := hw
  obtain ⟨q0, hq⟩ := hm _ _ he
  exact va_iald S.1 S.2.1 hK.1 hP q0 0 hq rfl hin hdg kk
theorem m_zald (S : CallFix p m c cc nL s args (c0 :: GG) own) (hw : mW γ M s H locs) {n : Nat} {f : Nat → Int32} (he : M a = some (.inl (gA γ 1, n, .inl f))) {i : Int32} (hin : vp_in i n) (hdg : decode cc pc = .ok (.baload, 1))
    (kk : W p l e R s m args below meth c H locs cells slots Q (F0 m (pc + 1) ls (.int (f i.toNatClampNeg) :: rest))) : W p l e R s m args below meth c H locs cells slots Q (F0 m pc ls (.int i :: .ref a :: rest)) := by
  obtain ⟨-, -, hK, ws, hm, hP, -⟩ := hw
  obtain ⟨q0, hq⟩ := hm _ _ he
  exact va_zald S.1 S.2.1 hK.1 hP q0 1 hq rfl hin hdg kk
theorem m_lald (S : CallFix p m c cc nL s args (c0 :: GG) own) (hw : mW γ M s H locs) {n : Nat} {f : Nat → Int64} (he : M a = some (.inl (gA γ 2, n, .inr (.inl f)))) {i : Int32} (hin : vp_in i n) (hdg : decode cc pc = .ok (.laload, 1))
    (kk : W p l e R s m args below meth c H locs cells slots Q (F0 m (pc + 1) ls (.long (f i.toNatClampNeg) :: rest))) : W p l e R s m args below meth c H locs cells slots Q (F0 m pc ls (.int i :: .ref a :: rest)) := by
  obtain ⟨-, -, hK, ws, hm, hP, -⟩ := hw
  obtain ⟨q0, hq⟩ := hm _ _ he
  exact va_lald S.1 S.2.1 hK.1 hP q0 2 hq rfl hin hdg kk
theorem m_aald (S : CallFix p m c cc nL s args (c0 :: GG) own) (hw : mW γ M s H locs) {n : Nat} {f : Nat → Option Nat} (he : M a = some (.inl (gA γ 3, n, .inr (.inr (.inr (.inr f)))))) {i : Int32} (hin : vp_in i n) (hdg : decode cc pc = .ok (.aaload, 1))
    (kk : W p l e R s m args below meth c H locs cells slots Q (F0 m (pc + 1) ls (va_rf (f i.toNatClampNeg) :: rest))) : W p l e R s m args below meth c H locs cells slots Q (F0 m pc ls (.int i :: .ref a :: rest)) := by
  obtain ⟨-, -, hK, ws, hm, hP, -⟩ := hw
  obtain ⟨q0, hq⟩ := hm _ _ he
  exact va_aldq S.1 S.2.1 hK.1 hP q0 3 hq rfl hin hdg kk
theorem m_iast (S : CallFix p m c cc nL s args (c0 :: GG) own) (hw : mW γ M s H locs) {n : Nat} {f : Nat → Int32} (he : M a = some (.inl (gA γ 0, n, .inl f))) {i x : Int32} (hin : vp_in i n) (hdg : decode cc pc = .ok (.iastore, 1))
    (kk : ∀ (H1 : Heap) (locs1 : List Loc), mW γ (mU M a (.inl (gA γ 0, n, .inl (upd f i.toNatClampNeg x)))) s H1 locs1 → W p l e R s m args below meth c H1 locs1 cells slots Q (F0 m (pc + 1) ls rest)) : W p l e R s m args below meth c H locs cells slots Q (F0 m pc ls (.int x :: .int i :: .ref a :: rest)) := by
  obtain ⟨h0, hS, hK, ws, hm, hP, hD⟩ := hw
  obtain ⟨q0, hq⟩ := hm _ _ he
  exact va_iast S.1 S.2.1 hK.1 hP hD hS q0 0 hq rfl hin hdg (fun H1 locs1 hP1 hD1 hS1 => kk H1 locs1 ⟨h0, hS1, hK, _, hm.set hq, hP1, hD1⟩)
theorem m_zast (S : CallFix p m c cc nL s args (c0 :: GG) own) (hw : mW γ M s H locs) {n : Nat} {f : Nat → Int32} (he : M a = some (.inl (gA γ 1, n, .inl f))) {i x : Int32} (hin : vp_in i n) (hdg : decode cc pc = .ok (.bastore, 1))
    (kk : ∀ (H1 : Heap) (locs1 : List Loc), mW γ (mU M a (.inl (gA γ 1, n, .inl (upd f i.toNatClampNeg (vp_nar .boolean x))))) s H1 locs1 → W p l e R s m args below meth c H1 locs1 cells slots Q (F0 m (pc + 1) ls rest)) : W p l e R s m args below meth c H locs cells slots Q (F0 m pc ls (.int x :: .int i :: .ref a :: rest)) := by
  obtain ⟨h0, hS, hK, ws, hm, hP, hD⟩ := hw
  obtain ⟨q0, hq⟩ := hm _ _ he
  exact va_zast S.1 S.2.1 hK.1 hP hD hS q0 1 hq rfl hin hdg (fun H1 locs1 hP1 hD1 hS1 => kk H1 locs1 ⟨h0, hS1, hK, _, hm.set hq, hP1, hD1⟩)
theorem m_last (S : CallFix p m c cc nL s args (c0 :: GG) own) (hw : mW γ M s H locs) {n : Nat} {f : Nat → Int64} (he : M a = some (.inl (gA γ 2, n, .inr (.inl f)))) {i : Int32} {x : Int64} (hin : vp_in i n) (hdg : decode cc pc = .ok (.lastore, 1))
    (kk : ∀ (H1 : Heap) (locs1 : List Loc), mW γ (mU M a (.inl (gA γ 2, n, .inr (.inl (vp_updL f i.toNatClampNeg x))))) s H1 locs1 → W p l e R s m args below meth c H1 locs1 cells slots Q (F0 m (pc + 1) ls rest)) : W p l e R s m args below meth c H locs cells slots Q (F0 m pc ls (.long x :: .int i :: .ref a :: rest)) := by
  obtain ⟨h0, hS, hK, ws, hm, hP, hD⟩ := hw
  obtain ⟨q0, hq⟩ := hm _ _ he
  exact va_last S.1 S.2.1 hK.1 hP hD hS q0 2 hq rfl hin hdg (fun H1 locs1 hP1 hD1 hS1 => kk H1 locs1 ⟨h0, hS1, hK, _, hm.set hq, hP1, hD1⟩)
theorem m_aast (S : CallFix p m c cc nL s args (c0 :: GG) own) (hw : mW γ M s H locs) {n v ci : Nat} {r : vw_C} {vs : List Value} {f : Nat → Option Nat} (he : M a = some (.inl (gA γ 3, n, .inr (.inr (.inr (.inr f)))))) (hv : M v = some (.inr (ci, vs))) (hc : vwCl[ci]? = some r) (hca : va_Nw (.castable r.1 "java/lang/Object") s) {i : Int32} (hin : vp_in i n) (hdg : decode cc pc = .ok (.aastore, 1))
    (kk : ∀ (H1 : Heap) (locs1 : List Loc), mW γ (mU M a (.inl (gA γ 3, n, .inr (.inr (.inr (.inr (va_up f i.toNatClampNeg (some v)))))))) s H1 locs1 → W p l e R s m args below meth c H1 locs1 cells slots Q (F0 m (pc + 1) ls rest)) : W p l e R s m args below meth c H locs cells slots Q (F0 m pc ls (.ref v :: .int i :: .ref a :: rest)) := by
  obtain ⟨h0, hS, hK, ws, hm, hP, hD⟩ := hw
  obtain ⟨q0, hq⟩ := hm _ _ he
  obtain ⟨q1, hq1⟩ := hm _ _ hv
  exact va_astqO S.1 S.2.1 hK.1 hP hD hS q0 3 q1 ci hq rfl hca hq1 hc hin hdg (fun H1 locs1 hP1 hD1 hS1 => kk H1 locs1 ⟨h0, hS1, hK, _, hm.set hq, hP1, hD1⟩)
theorem m_aastN (S : CallFix p m c cc nL s args (c0 :: GG) own) (hw : mW γ M s H locs) {n : Nat} {f : Nat → Option Nat} (he : M a = some (.inl (gA γ 3, n, .inr (.inr (.inr (.inr f)))))) {i : Int32} (hin : vp_in i n) (hdg : decode cc pc = .ok (.aastore, 1))
    (kk : ∀ (H1 : Heap) (locs1 : List Loc), mW γ (mU M a (.inl (gA γ 3, n, .inr (.inr (.inr (.inr (va_up f i.toNatClampNeg none))))))) s H1 locs1 → W p l e R s m args below meth c H1 locs1 cells slots Q (F0 m (pc + 1) ls rest)) : W p l e R s m args below meth c H locs cells slots Q (F0 m pc ls (.null :: .int i :: .ref a :: rest)) := by
  obtain ⟨h0, hS, hK, ws, hm, hP, hD⟩ := hw
  obtain ⟨q0, hq⟩ := hm _ _ he
  exact va_astqN S.1 S.2.1 hK.1 hP hD hS q0 3 hq rfl hin hdg (fun H1 locs1 hP1 hD1 hS1 => kk H1 locs1 ⟨h0, hS1, hK, _, hm.set hq, hP1, hD1⟩)
theorem m_alen (S : CallFix p m c cc nL s args (c0 :: GG) own) (hw : mW γ M s H locs) (t0 : Nat) {cA : ClassId} {x : vp_A} (he : M a = some (.inl (cA, x))) {ty : FieldType} (ht : (mT γ)[t0]? = some (cA, ty)) {v : Int32} (hv : Int32.ofNat x.1 = v) (hdg : decode cc pc = .ok (.arraylength, 1))
    (kk : W p l e R s m args below meth c H locs cells slots Q (F0 m (pc + 1) ls (.int v :: rest))) : W p l e R s m args below meth c H locs cells slots Q (F0 m pc ls (.ref a :: rest)) := by
  obtain ⟨-, -, hK, ws, hm, hP, -⟩ := hw
  obtain ⟨q0, hq⟩ := hm _ _ he
  exact va_alen S.1 S.2.1 hK.1 hP q0 t0 hq ht hv hdg kk
/-- two classes of arrays of one kind are one -/
theorem mK.arr {γ : mG} {U : State} {cA cB : ClassId} {ty : FieldType} (h1 : va_RA U cA ty) (h2 : va_RA U cB ty) : cA = cB := by
  cases ty with
  | object C =>
    obtain ⟨_, _, -, -, -, g1⟩ := h1
    obtain ⟨_, _, -, -, -, g2⟩ := h2
    exact Option.some.inj (g1.symm.trans g2)
  | _ => exact Option.some.inj (h1.symm.trans h2)
theorem m_newa (S : CallFix p m c cc nL s args (c0 :: GG) own) (hw : mW γ M s H locs) {atype : ArrayType} (harr : Cond.arrayClass (newarray.typeOf atype) ∈ GG) (t0 : Nat) {cT : ClassId} (ht : (mT γ)[t0]? = some (cT, newarray.typeOf atype)) {n : Int32} {N' : Nat} {a0 : vp_A} (ha : ∀ cA : ClassId, vp_cell cA a0 = arrV cA N' (fun _ => defaultValue (newarray.typeOf atype))) (hn : ¬ n < 0) (hN : n.toNatClampNeg = N') (hbytes : N' * componentBytes (newarray.typeOf atype) ≤ 536870912) (hcells : cells + 1 ≤ R.cells) (hslots : slots + N' ≤ R.slots) (hdg : decode cc pc = .ok (.newarray atype, 2))
    (kk : ∀ (q : Nat) (H1 : Heap), M q = none → gz γ ≤ q → mW γ (mU M q (.inl (cT, a0))) s H1 locs → W p l e R s m args below meth c H1 locs (cells + 1) (slots + N') Q (F0 m (pc + 2) ls (.ref q :: rest))) : W p l e R s m args below meth c H locs cells slots Q (F0 m pc ls (.int n :: rest)) := by
  obtain ⟨h0, hS, hK, ws, hm, hP, hD⟩ := hw
  refine va_newa S.1 S.2.1 (S.2.2.2.2 _ (gc harr)) rfl hK.1 hP hD hS (fun q h => Nat.le_trans h0 h) ha hn hN hbytes hcells hslots hdg (fun q cA H1 hK1 hP1 hD1 hS1 => ?_)
  have hb : gz γ ≤ q := hD1.2 ws.length (q, _) (by rw [List.getElem?_append_right (Nat.le_refl _), Nat.sub_self]; rfl)
  have hcA : cA = cT := mK.arr (γ := γ) (hK1.2 (mT γ).length (cA, _) (by rw [List.getElem?_append_right (Nat.le_refl _), Nat.sub_self]; rfl)).2 (hK.1.2 t0 _ ht).2
  subst hcA
  exact kk q H1 (hm.fresh hD1) hb ⟨h0, hS1, hK, _, hm.push, hP1, hD1⟩
theorem m_newq (S : CallFix p m c cc nL s args (c0 :: GG) own) (hw : mW γ M s H locs) {index : Nat} (hcl : Cond.classLink own index "java/lang/Object" ∈ GG) {n : Int32} {N' : Nat} (hn : ¬ n < 0) (hN : n.toNatClampNeg = N') (hbytes : N' * 4 ≤ 536870912) (hcells : cells + 1 ≤ R.cells) (hslots : slots + N' ≤ R.slots) (hdg : decode cc pc = .ok (.anewarray index, 3))
    (kk : ∀ (q : Nat) (H1 : Heap), M q = none → gz γ ≤ q → mW γ (mU M q (.inl (gA γ 3, N', .inr (.inr (.inr (.inr (fun _ => none))))))) s H1 locs → W p l e R s m args below meth c H1 locs (cells + 1) (slots + N') Q (F0 m (pc + 3) ls (.ref q :: rest))) : W p l e R s m args below meth c H locs cells slots Q (F0 m pc ls (.int n :: rest)) := by
  obtain ⟨h0, hS, hK, ws, hm, hP, hD⟩ := hw
  refine va_newq S.1 S.2.1 S.2.2.2.1 (S.2.2.2.2 _ (gc hcl)) hK.2.2.2.1 hK.1 hP hD hS (fun q h => Nat.le_trans h0 h) hn hN hbytes hcells hslots hdg (fun q cA H1 hK1 hP1 hD1 hS1 => ?_)
  have hb : gz γ ≤ q := hD1.2 ws.length (q, _) (by rw [List.getElem?_append_right (Nat.le_refl _), Nat.sub_self]; rfl)
  have hcA : cA = gA γ 3 := mK.arr (γ := γ) (hK1.2 (mT γ).length (cA, _) (by rw [List.getElem?_append_right (Nat.le_refl _), Nat.sub_self]; rfl)).2 (hK.1.2 3 _ rfl).2
  subst hcA
  exact kk q H1 (hm.fresh hD1) hb ⟨h0, hS1, hK, _, hm.push, hP1, hD1⟩
/-- the receiver of a call, as the rows of calls want it -/
theorem mW.recv (hw : mW γ M s H locs) {ci : Nat} {r : vw_C} {fs : List Value} (he : M a = some (.inr (ci, fs))) (hc : vwCl[ci]? = some r) : ∃ cell : Cell, H[a]? = some cell ∧ cell.vm.isStatics = false ∧ s.vm.findClass r.1 = some cell.cls := by
  obtain ⟨-, -, hK, ws, hm, hP, -⟩ := hw
  obtain ⟨q0, hq⟩ := hm _ _ he
  exact va_recv hK.1 hP hc hq
theorem mW.pre (hw : mW γ M s H locs) {As : List Value} : ∀ U : State, U.heap = H → s.WarmedH U.vm → mPc γ M As As.toArray U := fun U hU hW => ⟨rfl, by rw [hU]; exact hw.toH, hw.K hW.alike hU⟩
theorem mW.preV (hw : mW γ M s H locs) {ci : Nat} {r : vw_C} {fs As : List Value} (he : M a = some (.inr (ci, fs))) (hc : vwCl[ci]? = some r) : PreV s H r.1 a (mPc γ M (.ref a :: As)) As := ⟨mPc.blind, hw.recv he hc, hw.pre⟩
theorem mW.preS (hw : mW γ M s H locs) {As : List Value} : PreS s H (mPc γ M As) As := ⟨mPc.blind, hw.pre⟩
/-- behind a call -/
theorem mW.after (hw : mW γ M s H locs) {M1 : mMap} {t : State} {H1 : Heap} {locs1 : List Loc} (ht : t.heap = H1) (hB : mB γ M1 t) (hS : va_S (mA (gz γ)) s.heap H1 locs1) : mW γ M1 s H1 locs1 := by
  subst ht
  exact ⟨hw.1, hS, hw.2.2.1, hB.1.2⟩
variable {mc ms : Nat} {aa : Array Value}
theorem m_ci {post : Int32 → mMap → Prop} (hw : mW γ M s H locs) (hr : va_Run p l e R s m args below meth c H locs cells slots mc ms (F0 m pc ls st0) rest (mQi γ post aa) (mA (gz γ)))
    (kk : ∀ (r : Int32) (M1 : mMap) (H1 : Heap) (locs1 : List Loc), post r M1 → mW γ M1 s H1 locs1 → W p l e R s m args below meth c H1 locs1 (cells + mc) (slots + ms) Q (F0 m (pc + 3) ls (.int r :: rest))) : W p l e R s m args below meth c H locs cells slots Q (F0 m pc ls st0) :=
  va_calli hr hw.2.1 (fun _ _ h => h) (fun _ h => h) (fun r u t H1 locs1 ht _ hp hB _ _ hS => kk r u H1 locs1 hp (hw.after ht hB hS))
theorem m_cl {post : Int64 → mMap → Prop} (hw : mW γ M s H locs) (hr : va_Run p l e R s m args below meth c H locs cells slots mc ms (F0 m pc ls st0) rest (mQl γ post aa) (mA (gz γ)))
    (kk : ∀ (r : Int64) (M1 : mMap) (H1 : Heap) (locs1 : List Loc), post r M1 → mW γ M1 s H1 locs1 → W p l e R s m args below meth c H1 locs1 (cells + mc) (slots + ms) Q (F0 m (pc + 3) ls (.long r :: rest))) : W p l e R s m args below meth c H locs cells slots Q (F0 m pc ls st0) :=
  va_calll hr hw.2.1 (fun _ _ h => h) (fun _ h => h) (fun r u t H1 locs1 ht _ hp hB _ _ hS => kk r u H1 locs1 hp (hw.after ht hB hS))
theorem m_cv {post : mMap → Prop} (hw : mW γ M s H locs) (hr : va_Run p l e R s m args below meth c H locs cells slots mc ms (F0 m pc ls st0) rest (mQv γ post aa) (mA (gz γ)))
    (kk : ∀ (M1 : mMap) (H1 : Heap) (locs1 : List Loc), post M1 → mW γ M1 s H1 locs1 → W p l e R s m args below meth c H1 locs1 (cells + mc) (slots + ms) Q (F0 m (pc + 3) ls rest)) : W p l e R s m args below meth c H locs cells slots Q (F0 m pc ls st0) :=
  va_callv hr hw.2.1 (fun _ _ h => h) (fun _ h => h) (fun u t H1 locs1 ht _ hp hB _ _ hS => kk u H1 locs1 hp (hw.after ht hB hS))
theorem m_cq {post : Option Nat → mMap → Prop} (hw : mW γ M s H locs) (hr : va_Run p l e R s m args below meth c H locs cells slots mc ms (F0 m pc ls st0) rest (mQq γ post aa) (mA (gz γ)))
    (kk : ∀ (r : Option Nat) (M1 : mMap) (H1 : Heap) (locs1 : List Loc), post r M1 → mW γ M1 s H1 locs1 → W p l e R s m args below meth c H1 locs1 (cells + mc) (slots + ms) Q (F0 m (pc + 3) ls (va_rf r :: rest))) : W p l e R s m args below meth c H locs cells slots Q (F0 m pc ls st0) :=
  va_callq hr hw.2.1 (fun _ _ h => h) (fun _ h => h) (fun r u t H1 locs1 ht _ hp hB _ _ hS => kk r u H1 locs1 hp (hw.after ht hB hS))
/-- ends -/
theorem m_vret {post : mMap → Prop} (S : CallFix p m c cc nL s args (c0 :: GG) own) (hlocks : meth.locks = false) (hr : meth.sig.returnType = none) (hw : mW γ M s H locs) (hp : post M) (hc : cells ≤ mc) (hs : slots ≤ ms) (hdg : decode cc pc = .ok (.return_, 1)) :
    W p l e R s m args below meth c H locs cells slots (MQ below (mQv γ post) args s mc ms (mA (gz γ))) (F0 m pc ls []) := by
  refine W.widen hc hs ?_
  exact W.vret S.1 S.2.1 hr (fun t ht hW => ⟨⟨M, rfl, hp, by rw [ht]; exact hw.toH, hw.K hW.alike ht⟩, hw.2.1.F ht⟩) hw.2.1.2.2 hdg
theorem m_iret {post : Int32 → mMap → Prop} {v : Int32} {ty : FieldType} (S : CallFix p m c cc nL s args (c0 :: GG) own) (hlocks : meth.locks = false) (hr : meth.sig.returnType = some ty) (hn : narrow ty (.int v) = .int v) (hw : mW γ M s H locs) (hp : post v M) (hc : cells ≤ mc) (hs : slots ≤ ms) (hdg : decode cc pc = .ok (.ireturn, 1)) :
    W p l e R s m args below meth c H locs cells slots (MQ below (mQi γ post) args s mc ms (mA (gz γ))) (F0 m pc ls [.int v]) := by
  refine W.widen hc hs ?_
  exact W.zret S.1 S.2.1 hr hn (fun t ht hW => ⟨⟨v, M, rfl, hp, by rw [ht]; exact hw.toH, hw.K hW.alike ht⟩, hw.2.1.F ht⟩) hw.2.1.2.2 hdg
theorem m_lret {post : Int64 → mMap → Prop} {v : Int64} (S : CallFix p m c cc nL s args (c0 :: GG) own) (hlocks : meth.locks = false) (hr : meth.sig.returnType = some .long) (hw : mW γ M s H locs) (hp : post v M) (hc : cells ≤ mc) (hs : slots ≤ ms) (hdg : decode cc pc = .ok (.lreturn, 1)) :
    W p l e R s m args below meth c H locs cells slots (MQ below (mQl γ post) args s mc ms (mA (gz γ))) (F0 m pc ls [.long v]) := by
  refine W.widen hc hs ?_
  exact W.lret S.1 S.2.1 hr (fun t ht hW => ⟨⟨v, M, rfl, hp, by rw [ht]; exact hw.toH, hw.K hW.alike ht⟩, hw.2.1.F ht⟩) hw.2.1.2.2 hdg
theorem m_aret {post : Option Nat → mMap → Prop} {r : Option Nat} {rt : FieldType} (S : CallFix p m c cc nL s args (c0 :: GG) own) (hlocks : meth.locks = false) (hr : meth.sig.returnType = some rt) (hrt : (∃ n, rt = .object n) ∨ ∃ t, rt = .array t) (hw : mW γ M s H locs) (hp : post r M) (hc : cells ≤ mc) (hs : slots ≤ ms) (hdg : decode cc pc = .ok (.areturn, 1)) :
    W p l e R s m args below meth c H locs cells slots (MQ below (mQq γ post) args s mc ms (mA (gz γ))) (F0 m pc ls [va_rf r]) := by
  refine W.widen hc hs ?_
  exact W.aret S.1 S.2.1 hr hrt (va_rf_or r) (fun t ht hW => ⟨⟨r, M, rfl, hp, by rw [ht]; exact hw.toH, hw.K hW.alike ht⟩, hw.2.1.F ht⟩) hw.2.1.2.2 hdg
end MROWS
/-- into a method -/
theorem m_enter {l : Launch} {γ : mG} {M : mMap} {As : List Value} {y : MethodName} {rm : Room} {Qc : Array Value → State → Outcome → State → Prop} {mc ms : Nat} {free : Addr → Prop} {cc : ByteArray} {maxL : Nat} {ret : Option FieldType}
    (hy : plainName y.cls = true) (hn : (lg_sl As).length ≤ maxL)
    (body : ∀ (p : Program) (e : Env) (s : State) (m : MethodId) (below : List Frame) (meth : Method) (c : Code) (ls : Array Slot), CallFix p m c cc maxL s As.toArray (Cond.code y cc maxL ret :: GG) y.cls → meth.sig.returnType = ret → meth.locks = false → meth.name = y.name → lv_has ls maxL (lv_args 0 As) → mW γ M s s.heap [] →
      W p l e rm s m As.toArray below meth c s.heap [] 0 0 (MQ below Qc As.toArray s mc ms free) (F0 m 0 ls [])) : Met l y (Cond.code y cc maxL ret :: GG) rm (mPc γ M As) Qc mc ms free := by
  refine Met.ofW (cc := cc) (maxL := maxL) (ret := ret) hy rfl ?_
  intro p e s m args below meth c s₁ B hml hv
  obtain ⟨rfl, hH, hK⟩ := hv
  have hl := lv_entry As (n := maxL) hn
  rw [lg_entry_eq]
  exact body p e s m below meth c _ ⟨B.exec, B.bytes, hml, findClass_of_methodNamed B.named, atoms_spec (ws := Cond.code y cc maxL ret :: GG) B.pre⟩ B.returns B.notSynchronized (name_of_methodNamed B.named B.method).1 hl (mW.of hH hK)
theorem m_enterF {l : Launch} {γ : mG} {M : mMap} {As : List Value} {y : MethodName} {rm : Room} {Qc : Array Value → State → Outcome → State → Prop} {mc ms : Nat} {free : Addr → Prop} {cc : ByteArray} {maxL : Nat} {ret : Option FieldType}
    (hy : plainFor y = true) (hn : (lg_sl As).length ≤ maxL)
    (body : ∀ (p : Program) (e : Env) (s : State) (m : MethodId) (below : List Frame) (meth : Method) (c : Code) (ls : Array Slot), CallFix p m c cc maxL s As.toArray (Cond.code y cc maxL ret :: GG) y.cls → meth.sig.returnType = ret → meth.locks = false → meth.name = y.name → lv_has ls maxL (lv_args 0 As) → mW γ M s s.heap [] →
      W p l e rm s m As.toArray below meth c s.heap [] 0 0 (MQ below Qc As.toArray s mc ms free) (F0 m 0 ls [])) : Met l y (Cond.code y cc maxL ret :: GG) rm (mPc γ M As) Qc mc ms free := by
  refine va_MetF (cc := cc) (maxL := maxL) (ret := ret) hy rfl ?_
  intro p e s m args below meth c s₁ B hml hv
  obtain ⟨rfl, hH, hK⟩ := hv
  have hl := lv_entry As (n := maxL) hn
  rw [lg_entry_eq]
  exact body p e s m below meth c _ ⟨B.exec, B.bytes, hml, findClass_of_methodNamed B.named, atoms_spec (ws := Cond.code y cc maxL ret :: GG) B.pre⟩ B.returns B.notSynchronized (name_of_methodNamed B.named B.method).1 hl (mW.of hH hK)
end
section
/-! The state in numbers: columns of orders (0 owner, 1 buys, 2 price, 3 left, 4 shown, 5 rank, 6 life, 7 traded, 8 peak) -/
abbrev Co : Type := Nat → Nat → Int32
def s1 (I : Co) (f o : Nat) (v : Int32) : Co := va_up I f (upd (I f) o v)
theorem s1_f {I : Co} {f f' o : Nat} {v : Int32} (h : f' ≠ f) : s1 I f o v f' = I f' := if_neg h
theorem s1_c (I : Co) (f o : Nat) (v : Int32) : s1 I f o v f = upd (I f) o v := if_pos rfl
theorem s1_ss (I : Co) (f o : Nat) (v : Int32) : s1 I f o v f o = v := by rw [s1_c]; exact if_pos rfl
theorem s1_so {I : Co} {f o o' : Nat} {v : Int32} (h : o' ≠ o) : s1 I f o v f o' = I f o' := by rw [s1_c]; exact if_neg h
theorem s1_o {I : Co} {f f' o o' : Nat} {v : Int32} (h : o' ≠ o) : s1 I f o v f' o' = I f' o' := by
  by_cases hf : f' = f
  · subst hf; exact s1_so h
  · rw [s1_f hf]
def b2i (b : Bool) : Int32 := if b = true then 1 else 0
/-- a stands before b -/
def bf (I : Co) (a b : Nat) : Bool := if I 2 a = I 2 b then decide (I 5 a < I 5 b) else (decide (I 2 a = 0) || (decide (0 < I 2 b) && (if I 1 a = 0 then decide (I 2 a < I 2 b) else decide (I 2 b < I 2 a))))
def rs (I : Co) (o : Nat) : Bool := decide (0 ≤ I 5 o)
def onS (I : Co) (s : Int32) (o : Nat) : Bool := rs I o && decide (I 1 o = s)
theorem i0 : (0 : Int32).toInt = 0 := by decide
theorem bf_iff (I : Co) (a b : Nat) : bf I a b = true ↔ (((I 2 a).toInt = (I 2 b).toInt ∧ (I 5 a).toInt < (I 5 b).toInt) ∨ ((I 2 a).toInt ≠ (I 2 b).toInt ∧ ((I 2 a).toInt = 0 ∨ (0 < (I 2 b).toInt ∧ (((I 1 a).toInt = 0 ∧ (I 2 a).toInt < (I 2 b).toInt) ∨ ((I 1 a).toInt ≠ 0 ∧ (I 2 b).toInt < (I 2 a).toInt)))))) := by
  have e2 : ∀ x : Int32, x = 0 ↔ x.toInt = 0 := fun x => by rw [← Int32.toInt_inj, i0]
  have e3 : ∀ x : Int32, 0 < x ↔ 0 < x.toInt := fun x => by rw [Int32.lt_iff_toInt_lt, i0]
  unfold bf
  by_cases h1 : I 2 a = I 2 b
  · rw [if_pos h1, decide_eq_true_eq, Int32.lt_iff_toInt_lt, h1]
    simp
  · have h1' : (I 2 a).toInt ≠ (I 2 b).toInt := fun h => h1 (Int32.toInt_inj.mp h)
    rw [if_neg h1]
    by_cases h2 : I 1 a = 0
    · have h2' := (e2 _).mp h2
      rw [if_pos h2]
      simp only [Bool.or_eq_true, Bool.and_eq_true, decide_eq_true_eq, Int32.lt_iff_toInt_lt, i0, e2, h2']
      simp [h1']
    · have h2' : (I 1 a).toInt ≠ 0 := fun h => h2 ((e2 _).mpr h)
      rw [if_neg h2]
      simp only [Bool.or_eq_true, Bool.and_eq_true, decide_eq_true_eq, Int32.lt_iff_toInt_lt, i0, e2]
      simp [h1', h2']
theorem bf_irrefl (I : Co) (a : Nat) : bf I a a = false := by
  unfold bf
  rw [if_pos rfl]
  simp
theorem bf_trans {I : Co} {a b c : Nat} (hab : I 1 a = I 1 b) (hbc : I 1 b = I 1 c) (pa : 0 ≤ (I 2 a).toInt) (pb : 0 ≤ (I 2 b).toInt) (pc : 0 ≤ (I 2 c).toInt) (h1 : bf I a b = true) (h2 : bf I b c = true) : bf I a c = true := by
  rw [bf_iff] at *
  rw [hab] at *
  omega
theorem bf_asym {I : Co} {a b : Nat} (hab : I 1 a = I 1 b) (pa : 0 ≤ (I 2 a).toInt) (pb : 0 ≤ (I 2 b).toInt) (h1 : bf I a b = true) : bf I b a = false := by
  cases h : bf I b a with
  | false => rfl
  | true =>
    rw [bf_iff] at *
    rw [hab] at *
    omega
theorem bf_total {I : Co} {a b : Nat} (hab : I 1 a = I 1 b) (pa : 0 ≤ (I 2 a).toInt) (pb : 0 ≤ (I 2 b).toInt) (hr : I 5 a = I 5 b → a = b) (h : bf I a b = false) : a = b ∨ bf I b a = true := by
  by_cases e : a = b
  · exact Or.inl e
  · refine Or.inr ?_
    have hr' : (I 5 a).toInt ≠ (I 5 b).toInt := fun z => e (hr (Int32.toInt_inj.mp z))
    have h' : ¬ bf I a b = true := by rw [h]; decide
    rw [bf_iff] at *
    rw [hab] at *
    omega
/-- the orders are in order: prices, sides, ranks -/
def oOK (I : Co) (n : Nat) : Prop := (∀ o, o < n → 0 ≤ (I 2 o).toInt ∧ (I 2 o).toInt ≤ 2000 ∧ (I 1 o = 0 ∨ I 1 o = 1)) ∧ ∀ a b, a < n → b < n → rs I a = true → rs I b = true → I 5 a = I 5 b → a = b
/-- the line of a side -/
def Line (I : Co) (n : Nat) (s : Int32) (L : List Nat) : Prop := (∀ o, o ∈ L ↔ (o < n ∧ onS I s o = true)) ∧ L.Pairwise (fun a b => bf I a b = true)
theorem onS_iff {I : Co} {s : Int32} {o : Nat} : onS I s o = true ↔ (rs I o = true ∧ I 1 o = s) := by
  unfold onS
  rw [Bool.and_eq_true, decide_eq_true_eq]
def fst (I : Co) (s : Int32) : Nat → Option Nat
  | 0 => none
  | k + 1 => match fst I s k with
    | none => if onS I s k = true then some k else none
    | some f => if (onS I s k && bf I k f) = true then some k else some f
theorem fst_none {I : Co} {s : Int32} : ∀ {k : Nat}, fst I s k = none → ∀ o, o < k → onS I s o = false := by
  intro k
  induction k with
  | zero => intro _ o h; omega
  | succ k ih =>
    intro h o ho
    unfold fst at h
    cases hf : fst I s k with
    | none =>
      rw [hf] at h
      by_cases hk : onS I s k = true
      · simp [hk] at h
      · rcases Nat.lt_succ_iff_lt_or_eq.mp ho with h1 | h1
        · exact ih hf o h1
        · subst h1; simpa using hk
    | some f =>
      rw [hf] at h
      dsimp only at h
      split at h <;> cases h
theorem fst_some {I : Co} {s : Int32} {n : Nat} (hI : oOK I n) : ∀ {k f : Nat}, k ≤ n → fst I s k = some f → f < k ∧ onS I s f = true ∧ ∀ o, o < k → onS I s o = true → o = f ∨ bf I f o = true := by
  intro k
  induction k with
  | zero => intro f _ h; cases h
  | succ k ih =>
    intro f hk h
    unfold fst at h
    cases hf : fst I s k with
    | none =>
      rw [hf] at h
      dsimp only at h
      split at h
      · cases h
        rename_i hs
        refine ⟨Nat.lt_succ_self k, hs, fun o ho hs' => ?_⟩
        rcases Nat.lt_succ_iff_lt_or_eq.mp ho with h1 | h1
        · rw [fst_none hf o h1] at hs'; cases hs'
        · exact Or.inl h1
      · cases h
    | some g =>
      obtain ⟨h1, h2, h3⟩ := ih (by omega) hf
      rw [hf] at h
      dsimp only at h
      have side : ∀ x y, onS I s x = true → onS I s y = true → I 1 x = I 1 y := fun x y hx hy => (onS_iff.mp hx).2.trans (onS_iff.mp hy).2.symm
      split at h
      · cases h
        rename_i hs
        rw [Bool.and_eq_true] at hs
        refine ⟨Nat.lt_succ_self k, hs.1, fun o ho hs' => ?_⟩
        rcases Nat.lt_succ_iff_lt_or_eq.mp ho with q | q
        · rcases h3 o q hs' with e | e
          · subst e; exact Or.inr hs.2
          · exact Or.inr (bf_trans (side _ _ hs.1 h2) (side _ _ h2 hs') (hI.1 k (by omega)).1 (hI.1 g (by omega)).1 (hI.1 o (by omega)).1 hs.2 e)
        · exact Or.inl q
      · cases h
        rename_i hs
        refine ⟨by omega, h2, fun o ho hs' => ?_⟩
        rcases Nat.lt_succ_iff_lt_or_eq.mp ho with q | q
        · exact h3 o q hs'
        · subst q
          have hb : bf I o f = false := by
            cases hb : bf I o f with
            | false => rfl
            | true => exact absurd (by rw [hs', hb]; rfl) hs
          exact bf_total (side _ _ hs' h2) (hI.1 o (by omega)).1 (hI.1 f (by omega)).1 (fun e => hI.2 o f (by omega) (by omega) (onS_iff.mp hs').1 (onS_iff.mp h2).1 e) hb
theorem Line.hd {I : Co} {s : Int32} {n : Nat} {L : List Nat} (hI : oOK I n) (h : Line I n s L) : fst I s n = L.head? := by
  cases hf : fst I s n with
  | none =>
    cases L with
    | nil => rfl
    | cons a t =>
      obtain ⟨h1, h2⟩ := (h.1 a).mp List.mem_cons_self
      rw [fst_none hf a h1] at h2
      cases h2
  | some f =>
    obtain ⟨h1, h2, h3⟩ := fst_some hI (Nat.le_refl n) hf
    have hm := (h.1 f).mpr ⟨h1, h2⟩
    cases L with
    | nil => cases hm
    | cons a t =>
      obtain ⟨q1, q2⟩ := (h.1 a).mp List.mem_cons_self
      rcases h3 a q1 q2 with e | e
      · rw [e]; rfl
      · rcases List.mem_cons.mp hm with e' | e'
        · rw [e']; rfl
        · have hb := List.rel_of_pairwise_cons h.2 e'
          have := bf_asym ((onS_iff.mp h2).2.trans (onS_iff.mp q2).2.symm) (hI.1 f h1).1 (hI.1 a q1).1 e
          rw [hb] at this
          cases this
/-- sums over the first k -/
def gs (f : Nat → Int64) : Nat → Int64
  | 0 => 0
  | k + 1 => gs f k + f k
theorem gs_congr {f g : Nat → Int64} : ∀ {k : Nat}, (∀ o, o < k → f o = g o) → gs f k = gs g k := by
  intro k
  induction k with
  | zero => intro _; rfl
  | succ k ih =>
    intro h
    show gs f k + f k = gs g k + g k
    rw [ih (fun o ho => h o (by omega)), h k (by omega)]
theorem gs_add (f g : Nat → Int64) : ∀ k : Nat, gs (fun o => f o + g o) k = gs f k + gs g k := by
  intro k
  induction k with
  | zero => show (0 : Int64) = 0 + 0; decide
  | succ k ih =>
    show gs (fun o => f o + g o) k + (f k + g k) = (gs f k + f k) + (gs g k + g k)
    rw [ih, Int64.add_assoc, Int64.add_assoc, ← Int64.add_assoc (gs g k) (f k) (g k), Int64.add_comm (gs g k) (f k), Int64.add_assoc (f k) (gs g k) (g k)]
theorem gs_zero : ∀ k : Nat, gs (fun _ => 0) k = 0 := by
  intro k
  induction k with
  | zero => rfl
  | succ k ih => show gs (fun _ => 0) k + 0 = 0; rw [ih]; decide
theorem gs_one {a : Nat} {v : Int64} : ∀ {k : Nat}, gs (fun o => if o = a then v else 0) k = if a < k then v else 0 := by
  intro k
  induction k with
  | zero => rfl
  | succ k ih =>
    show gs (fun o => if o = a then v else 0) k + (if k = a then v else 0) = _
    rw [ih]
    by_cases h : k = a
    · subst h; rw [if_neg (Nat.lt_irrefl _), if_pos rfl, if_pos (Nat.lt_succ_self _), Int64.zero_add]
    · by_cases h2 : a < k
      · rw [if_pos h2, if_neg h, if_pos (by omega), Int64.add_zero]
      · rw [if_neg h2, if_neg h, if_neg (by omega), Int64.add_zero]
def lsum (f : Nat → Int64) : List Nat → Int64
  | [] => 0
  | a :: t => f a + lsum f t
theorem gs_list {f : Nat → Int64} {n : Nat} : ∀ {L : List Nat}, L.Nodup → (∀ o, o ∈ L → o < n) → gs (fun o => if o ∈ L then f o else 0) n = lsum f L := by
  intro L
  induction L with
  | nil =>
    intro _ _
    rw [gs_congr (g := fun _ => 0) (fun o _ => by simp), gs_zero]
    rfl
  | cons a t ih =>
    intro hn hl
    have hn' := List.nodup_cons.mp hn
    have e : gs (fun o => if o ∈ a :: t then f o else 0) n = gs (fun o => (if o = a then f a else 0) + (if o ∈ t then f o else 0)) n := by
      apply gs_congr
      intro o _
      by_cases h : o = a
      · subst h; rw [if_pos List.mem_cons_self, if_pos rfl, if_neg hn'.1, Int64.add_zero]
      · by_cases h2 : o ∈ t
        · rw [if_pos (List.mem_cons_of_mem _ h2), if_neg h, if_pos h2, Int64.zero_add]
        · rw [if_neg (by simp [h, h2]), if_neg h, if_neg h2, Int64.zero_add]
    rw [e, gs_add, gs_one, if_pos (hl a List.mem_cons_self), ih hn'.2 (fun o ho => hl o (List.mem_cons_of_mem _ ho))]
    rfl
theorem Line.nodup {I : Co} {s : Int32} {n : Nat} {L : List Nat} (h : Line I n s L) : L.Nodup := by
  refine h.2.imp ?_
  intro a b hab e
  subst e
  rw [bf_irrefl] at hab
  cases hab
theorem Line.sum {I : Co} {s : Int32} {n : Nat} {L : List Nat} (h : Line I n s L) (f : Nat → Int64) : gs (fun o => if onS I s o = true then f o else 0) n = lsum f L := by
  rw [← gs_list h.nodup (fun o ho => ((h.1 o).mp ho).1)]
  apply gs_congr
  intro o ho
  by_cases hs : onS I s o = true
  · rw [if_pos hs, if_pos ((h.1 o).mpr ⟨ho, hs⟩)]
  · rw [if_neg hs, if_neg (fun hm => hs ((h.1 o).mp hm).2)]
end
section
/-! What an array of references holds of a list -/
def ct (f : Nat → Option Nat) (xs : List Nat) : Prop := ∀ i, i < xs.length → f i = xs[i]?
theorem ct_nil (f : Nat → Option Nat) : ct f [] := fun i h => absurd h (Nat.not_lt_zero i)
theorem ct_add {f : Nat → Option Nat} {xs : List Nat} {a : Nat} (h : ct f xs) : ct (va_up f xs.length (some a)) (xs ++ [a]) := by
  intro i hi
  rw [List.length_append, List.length_singleton] at hi
  by_cases e : i = xs.length
  · subst e
    rw [List.getElem?_append_right (Nat.le_refl _), Nat.sub_self]
    exact if_pos rfl
  · rw [List.getElem?_append_left (by omega)]
    exact (if_neg e).trans (h i (by omega))
theorem ct_grow {f g : Nat → Option Nat} {xs : List Nat} {n : Nat} (h : ct f xs) (hn : xs.length ≤ n) : ct (va_cpy f g 0 0 n) xs := by
  intro i hi
  have e : va_cpy f g 0 0 n i = f i := by
    unfold va_cpy
    rw [if_pos ⟨Nat.zero_le _, by omega⟩]
    congr 1
    omega
  rw [e]
  exact h i hi
theorem ct_ins {f : Nat → Option Nat} {xs : List Nat} {a i : Nat} (h : ct f xs) (hi : i ≤ xs.length) : ct (va_up (va_cpy f f i (i + 1) (xs.length - i)) i (some a)) (xs.insertIdx i a) := by
  intro j hj
  rw [List.length_insertIdx, if_pos hi] at hj
  rw [List.getElem?_insertIdx]
  unfold va_up va_cpy
  by_cases h1 : j = i
  · rw [if_pos h1, if_neg (by omega), if_pos h1, if_pos (by omega)]
  · rw [if_neg h1]
    by_cases h2 : j < i
    · rw [if_pos h2, if_neg (by omega)]
      exact h j (by omega)
    · rw [if_neg h2, if_neg h1, if_pos (by omega)]
      rw [show i + (j - (i + 1)) = j - 1 by omega]
      exact h (j - 1) (by omega)
theorem ct_del {f : Nat → Option Nat} {xs : List Nat} {i : Nat} (h : ct f xs) (hi : i < xs.length) : ct (va_up (va_cpy f f (i + 1) i (xs.length - 1 - i)) (xs.length - 1) none) (xs.eraseIdx i) := by
  intro j hj
  rw [List.length_eraseIdx, if_pos hi] at hj
  rw [List.getElem?_eraseIdx]
  unfold va_up va_cpy
  rw [if_neg (by omega)]
  by_cases h2 : j < i
  · rw [if_pos h2, if_neg (by omega)]
    exact h j (by omega)
  · rw [if_neg h2, if_pos (by omega)]
    rw [show i + 1 + (j - i) = j + 1 by omega]
    exact h (j + 1) (by omega)
theorem ct_del0 {f : Nat → Option Nat} {xs : List Nat} {i : Nat} (h : ct f xs) (hi : i + 1 = xs.length) : ct (va_up f (xs.length - 1) none) (xs.eraseIdx i) := by
  intro j hj
  rw [List.length_eraseIdx, if_pos (by omega)] at hj
  rw [List.getElem?_eraseIdx]
  unfold va_up
  rw [if_neg (by omega), if_pos (by omega)]
  exact h j (by omega)
/-- how a list's array grows -/
def cgr (c : Nat) : Nat := if c = 0 then 10 else c + c / 2
def cAt : Nat → Nat
  | 0 => 0
  | k + 1 => if k = cAt k then cgr (cAt k) else cAt k
def cSum : Nat → Nat
  | 0 => 0
  | k + 1 => if k = cAt k then cSum k + cgr (cAt k) else cSum k
theorem cAt_ge : ∀ k, k ≤ cAt k := by
  intro k
  induction k with
  | zero => exact Nat.le_refl _
  | succ k ih =>
    unfold cAt
    split
    · rename_i h
      unfold cgr
      split
      · omega
      · have h9 : cAt k ≠ 1 := by
          intro e
          cases k with
          | zero => simp [cAt] at h; simp [cAt] at e
          | succ k =>
            rw [e] at h
            have hk : k = 0 := by omega
            subst hk
            simp [cAt, cgr] at e
        omega
    · omega
end
section
/-! Orders that come into a line and leave it -/
theorem pw_ins {R : Nat → Nat → Prop} {o : Nat} : ∀ {k : Nat} {L : List Nat}, L.Pairwise R → (∀ x, x ∈ L.take k → R x o) → (∀ x, x ∈ L.drop k → R o x) → k ≤ L.length → (L.insertIdx k o).Pairwise R := by
  intro k
  induction k with
  | zero =>
    intro L hp _ h2 _
    rw [List.insertIdx_zero]
    exact List.pairwise_cons.mpr ⟨fun x hx => h2 x (by rw [List.drop_zero]; exact hx), hp⟩
  | succ k ih =>
    intro L hp h1 h2 hk
    cases L with
    | nil => simp at hk
    | cons a t =>
      rw [List.insertIdx_succ_cons]
      have hp' := List.pairwise_cons.mp hp
      have hk' : k ≤ t.length := by simpa using hk
      refine List.pairwise_cons.mpr ⟨fun x hx => ?_, ih hp'.2 (fun x hx => h1 x (by rw [List.take_succ_cons]; exact List.mem_cons_of_mem _ hx)) (fun x hx => h2 x (by rw [List.drop_succ_cons]; exact hx)) hk'⟩
      rcases (List.mem_insertIdx hk').mp hx with e | e
      · rw [e]
        exact h1 a (by rw [List.take_succ_cons]; exact List.mem_cons_self)
      · exact hp'.1 x e
theorem map_ins {f : Nat → Nat} {o : Nat} : ∀ {k : Nat} {L : List Nat}, (L.insertIdx k o).map f = (L.map f).insertIdx k (f o) := by
  intro k
  induction k with
  | zero => intro L; rfl
  | succ k ih =>
    intro L
    cases L with
    | nil => rfl
    | cons a t =>
      rw [List.insertIdx_succ_cons, List.map_cons, List.map_cons, List.insertIdx_succ_cons, ih]
theorem map_del {f : Nat → Nat} : ∀ {k : Nat} {L : List Nat}, (L.eraseIdx k).map f = (L.map f).eraseIdx k := by
  intro k
  induction k with
  | zero => intro L; cases L <;> rfl
  | succ k ih =>
    intro L
    cases L with
    | nil => rfl
    | cons a t =>
      rw [List.eraseIdx_cons_succ, List.map_cons, List.map_cons, List.eraseIdx_cons_succ, ih]
theorem bf_cols {I J : Co} (h1 : J 1 = I 1) (h2 : J 2 = I 2) (h5 : J 5 = I 5) (a b : Nat) : bf J a b = bf I a b := by
  unfold bf
  rw [h1, h2, h5]
theorem onS_cols {I J : Co} (h1 : J 1 = I 1) (h5 : J 5 = I 5) (s : Int32) (a : Nat) : onS J s a = onS I s a := by
  unfold onS rs
  rw [h1, h5]
theorem Line.cols {I J : Co} {n : Nat} {s : Int32} {L : List Nat} (h1 : J 1 = I 1) (h2 : J 2 = I 2) (h5 : J 5 = I 5) (h : Line I n s L) : Line J n s L := by
  refine ⟨fun o => ?_, h.2.imp ?_⟩
  · rw [onS_cols h1 h5]; exact h.1 o
  · intro a b hab
    rw [bf_cols h1 h2 h5]; exact hab
theorem oOK.cols {I J : Co} {n : Nat} (h1 : J 1 = I 1) (h2 : J 2 = I 2) (h5 : J 5 = I 5) (h : oOK I n) : oOK J n := by
  unfold oOK rs at *
  rw [h1, h2, h5]
  exact h
/-- at two orders that didn't change -/
theorem bf_at {I J : Co} {a b : Nat} (ha : J 1 a = I 1 a) (h2a : J 2 a = I 2 a) (h2b : J 2 b = I 2 b) (h5a : J 5 a = I 5 a) (h5b : J 5 b = I 5 b) : bf J a b = bf I a b := by
  unfold bf
  rw [ha, h2a, h2b, h5a, h5b]
/-- an order leaves -/
theorem Line.del {I J : Co} {n o k : Nat} {s : Int32} {L : List Nat} (h : Line I n s L) (hk : L[k]? = some o) (ho : onS J s o = false) (hJ : ∀ x, x ≠ o → J 1 x = I 1 x ∧ J 2 x = I 2 x ∧ J 5 x = I 5 x) : Line J n s (L.eraseIdx k) := by
  have hn := h.nodup
  have mem : ∀ x, x ∈ L.eraseIdx k ↔ (x ∈ L ∧ x ≠ o) := by
    intro x
    rw [List.mem_eraseIdx_iff_getElem?]
    constructor
    · rintro ⟨i, hi, hx⟩
      refine ⟨List.mem_of_getElem? hx, fun e => hi ?_⟩
      subst e
      exact (List.getElem?_inj (List.getElem?_eq_some_iff.mp hx).1 hn).mp (hx.trans hk.symm)
    · rintro ⟨hx, hne⟩
      obtain ⟨i, hi⟩ := List.getElem?_of_mem hx
      refine ⟨i, fun e => hne ?_, hi⟩
      subst e
      exact Option.some.inj (hi.symm.trans hk)
  refine ⟨fun x => ?_, ?_⟩
  · rw [mem]
    by_cases e : x = o
    · subst e
      constructor
      · rintro ⟨-, z⟩; exact absurd rfl z
      · rintro ⟨-, z⟩; rw [ho] at z; cases z
    · obtain ⟨e1, -, e5⟩ := hJ x e
      have : onS J s x = onS I s x := by unfold onS rs; rw [e1, e5]
      rw [this]
      exact ⟨fun z => (h.1 x).mp z.1, fun z => ⟨(h.1 x).mpr z, e⟩⟩
  · have hp := h.2.sublist (List.eraseIdx_sublist L k)
    refine List.Pairwise.imp_of_mem ?_ hp
    intro a b ha hb hab
    obtain ⟨a1, a2, a5⟩ := hJ a ((mem a).mp ha).2
    obtain ⟨b1, b2, b5⟩ := hJ b ((mem b).mp hb).2
    rw [bf_at a1 a2 b2 a5 b5]
    exact hab
/-- an order comes in: k is where those begin that it stands before -/
theorem Line.ins {I J : Co} {n o k : Nat} {s : Int32} {L : List Nat} (h : Line I n s L) (hOK : oOK J n) (hno : o ∉ L) (hon : o < n) (ho : onS J s o = true) (hJ : ∀ x, x ≠ o → J 1 x = I 1 x ∧ J 2 x = I 2 x ∧ J 5 x = I 5 x) (hk : k ≤ L.length) (hhi : ∀ x, x ∈ L.drop k → bf J o x = true) (hlo : ∀ x, L[k - 1]? = some x → 0 < k → bf J o x = false) : Line J n s (L.insertIdx k o) := by
  have ne : ∀ x, x ∈ L → x ≠ o := fun x hx e => hno (e ▸ hx)
  have memJ : ∀ x, x ∈ L → x < n ∧ onS J s x = true := by
    intro x hx
    obtain ⟨e1, -, e5⟩ := hJ x (ne x hx)
    have : onS J s x = onS I s x := by unfold onS rs; rw [e1, e5]
    rw [this]
    exact (h.1 x).mp hx
  have hp : L.Pairwise (fun a b => bf J a b = true) := by
    refine List.Pairwise.imp_of_mem ?_ h.2
    intro a b ha hb hab
    obtain ⟨a1, a2, a5⟩ := hJ a (ne a ha)
    obtain ⟨b1, b2, b5⟩ := hJ b (ne b hb)
    rw [bf_at a1 a2 b2 a5 b5]
    exact hab
  have side : ∀ x y, onS J s x = true → onS J s y = true → J 1 x = J 1 y := fun x y hx hy => (onS_iff.mp hx).2.trans (onS_iff.mp hy).2.symm
  have low : ∀ x, x ∈ L.take k → bf J x o = true := by
    intro x hx
    obtain ⟨j, hj⟩ := List.getElem?_of_mem hx
    rw [List.getElem?_take] at hj
    split at hj
    · rename_i hjk
      have hxL := List.mem_of_getElem? hj
      obtain ⟨xn, xs⟩ := memJ x hxL
      have hlt : k - 1 < L.length := by omega
      have hl : L[k - 1]? = some L[k - 1] := List.getElem?_eq_getElem hlt
      have hyL : L[k - 1] ∈ L := List.getElem_mem hlt
      obtain ⟨yn, ys⟩ := memJ _ hyL
      have hb := hlo _ hl (by omega)
      have hyo : bf J L[k - 1] o = true := by
        rcases bf_total (side _ _ ho ys) (hOK.1 o hon).1 (hOK.1 _ yn).1 (fun e => hOK.2 o _ hon yn (onS_iff.mp ho).1 (onS_iff.mp ys).1 e) hb with e | e
        · exact absurd e.symm (ne _ hyL)
        · exact e
      by_cases e : j = k - 1
      · subst e
        rw [hl] at hj
        cases hj
        exact hyo
      · have hxy : bf J x L[k - 1] = true := by
          have hjl : j < L.length := by omega
          have hxe : L[j] = x := by rw [List.getElem?_eq_getElem hjl] at hj; exact Option.some.inj hj
          rw [← hxe]
          exact List.pairwise_iff_getElem.mp hp j (k - 1) hjl hlt (by omega)
        exact bf_trans (side _ _ xs ys) (side _ _ ys ho) (hOK.1 _ xn).1 (hOK.1 _ yn).1 (hOK.1 o hon).1 hxy hyo
    · cases hj
  refine ⟨fun x => ?_, pw_ins hp low hhi hk⟩
  rw [List.mem_insertIdx hk]
  constructor
  · rintro (e | e)
    · subst e; exact ⟨hon, ho⟩
    · exact memJ x e
  · rintro ⟨hx, hs⟩
    by_cases e : x = o
    · exact Or.inl e
    · obtain ⟨e1, -, e5⟩ := hJ x e
      have : onS J s x = onS I s x := by unfold onS rs; rw [e1, e5]
      rw [this] at hs
      exact Or.inr ((h.1 x).mpr ⟨hx, hs⟩)
end
section
/-! Rows of calls: a callee's words, its room, its world -/
theorem b2i_0 {b : Bool} : b2i b = 0 ↔ b = false := by cases b <;> decide
theorem b2i_n0 {b : Bool} : ¬ b2i b = 0 ↔ b = true := by cases b <;> decide
theorem b2i_t : b2i true = 1 := rfl
theorem b2i_f : b2i false = 0 := rfl
theorem b2i_nar (b : Bool) : narrow .boolean (.int (b2i b)) = .int (b2i b) := by cases b <;> rfl
theorem m_l4 {a b c d : Cond} (ha : a ∈ GG) (hb : b ∈ GG) (hc : c ∈ GG) (hd : d ∈ GG) : ∀ w ∈ [a, b, c, d], w ∈ GG := List.forall_mem_cons.mpr ⟨ha, List.forall_mem_cons.mpr ⟨hb, List.forall_mem_cons.mpr ⟨hc, List.forall_mem_cons.mpr ⟨hd, fun _ h => absurd h List.not_mem_nil⟩⟩⟩⟩
theorem m_l3 {a b c : Cond} (ha : a ∈ GG) (hb : b ∈ GG) (hc : c ∈ GG) : ∀ w ∈ [a, b, c], w ∈ GG := List.forall_mem_cons.mpr ⟨ha, List.forall_mem_cons.mpr ⟨hb, List.forall_mem_cons.mpr ⟨hc, fun _ h => absurd h List.not_mem_nil⟩⟩⟩
section MCW
variable {p : Program} {R : Room} {s : State} {m : MethodId} {c : Code} {args : Array Value} {own : String} {index maxL mc ms nL : Nat} {y : MethodName} {bytes cc : ByteArray} {ret : Option FieldType} {rm : Room} {c0 : Cond}
theorem m_cwV (n : Nat) (S : CallFix p m c cc nL s args (c0 :: GG) own) (hl : Cond.methodLink own index y ∈ GG) (hi : Cond.instanceMethod y ∈ GG) (hs : Cond.selects y.cls y y ∈ GG) (hini : Cond.initialized y.cls ∈ GG) (hc : Cond.code y bytes maxL ret ∈ GG) (hrc : rm.cells = mc) (hrs : rm.slots = ms)
    (hd : y.cls ≠ "java/lang/invoke/MethodHandle" ∧ y.cls ≠ "java/lang/invoke/VarHandle" ∧ (parseMethodDescriptor y.desc).map (fun d => d.parameters.length) = some n) (hR : rm.frames + 1 ≤ R.frames ∧ 8 + (maxL + 11) + rm.locals ≤ R.locals) : CallW R s args own y.cls index y bytes maxL ret (Cond.code y bytes maxL ret :: GG) rm mc ms n :=
  cwV n S.2.2.2.2 (gga (ggs (m_l4 hl hi hs hini)) (gg hc)) rfl hrc hrs ⟨rfl, hd⟩ hR
theorem m_cwS (n : Nat) (S : CallFix p m c cc nL s args (c0 :: GG) own) (hl : Cond.methodLink own index y ∈ GG) (hi : Cond.static y ∈ GG) (hini : Cond.initialized y.cls ∈ GG) (hc : Cond.code y bytes maxL ret ∈ GG) (hrc : rm.cells = mc) (hrs : rm.slots = ms)
    (hd : y.cls ≠ "java/lang/invoke/MethodHandle" ∧ y.cls ≠ "java/lang/invoke/VarHandle" ∧ (parseMethodDescriptor y.desc).map (fun d => d.parameters.length) = some n) (hR : rm.frames + 1 ≤ R.frames ∧ 8 + (maxL + 11) + rm.locals ≤ R.locals) : CallB R s args own index y bytes maxL ret (Cond.code y bytes maxL ret :: GG) rm mc ms n ∧ (Cond.static y).before args s = true :=
  ⟨callB_of n S.2.2.2.2 (gg hc) rfl hrc hrs (S.2.2.2.2 _ (gc hini)) (S.2.2.2.2 _ (gc hl)) hd hR, S.2.2.2.2 _ (gc hi)⟩
theorem m_cwI (n : Nat) (S : CallFix p m c cc nL s args (c0 :: GG) own) (hl : Cond.methodLink own index y ∈ GG) (hi : Cond.instanceMethod y ∈ GG) (hini : Cond.initialized y.cls ∈ GG) (hc : Cond.code y bytes maxL none ∈ GG) (hy : y.name = "<init>") (hrc : rm.cells = mc) (hrs : rm.slots = ms)
    (hd : y.cls ≠ "java/lang/invoke/MethodHandle" ∧ y.cls ≠ "java/lang/invoke/VarHandle" ∧ (parseMethodDescriptor y.desc).map (fun d => d.parameters.length) = some n) (hR : rm.frames + 1 ≤ R.frames ∧ 8 + (maxL + 11) + rm.locals ≤ R.locals) : CallB R s args own index y bytes maxL none (Cond.code y bytes maxL none :: GG) rm mc ms n ∧ y.name = "<init>" ∧ (Cond.instanceMethod y).before args s = true :=
  cwI n S.2.2.2.2 (gg hc) rfl hrc hrs (S.2.2.2.2 _ (gc hini)) (S.2.2.2.2 _ (gc hl)) (S.2.2.2.2 _ (gc hi)) hy hd hR
end MCW
end
section
/-! Rows for lists: the empty array, classes' mirrors, copies, casts -/
theorem gN483 : Cond.native ⟨"java/lang/System", "arraycopy", "(Ljava/lang/Object;ILjava/lang/Object;II)V"⟩ ∈ GG := gw 483 (by decide +kernel) rfl
theorem gN473 : Cond.native ⟨"java/lang/Object", "getClass", "()Ljava/lang/Class;"⟩ ∈ GG := gw 473 (by decide +kernel) rfl
section MJ
variable {p : Program} {l : Launch} {e : Env} {R : Room} {s : State} {m : MethodId} {args : Array Value} {below : List Frame} {meth : Method} {c : Code} {H : Heap} {locs : List Loc} {cells slots : Nat} {Q : State → Prop}
variable {cc : ByteArray} {pc nL : Nat} {ls : Array Slot} {rest st0 : List Value} {γ : mG} {M : mMap} {a : Nat} {c0 : Cond} {own : String}
theorem m_gets (S : CallFix p m c cc nL s args (c0 :: GG) own) (hw : mW γ M s H locs) {index : Nat} (hl : Cond.fieldLink own index "java/util/ArrayList" "DEFAULTCAPACITY_EMPTY_ELEMENTDATA" "[Ljava/lang/Object;" ∈ GG) (hdg : decode cc pc = .ok (.getstatic index, 3))
    (kk : W p l e R s m args below meth c H locs cells slots Q (F0 m (pc + 3) ls (.ref (ge γ) :: rest))) : W p l e R s m args below meth c H locs cells slots Q (F0 m pc ls rest) :=
  va_gets S.1 S.2.1 hw.2.2.1.2.1 hw.2.1 S.2.2.2.1 (S.2.2.2.2 _ (gc hl)) (fun _ h => h) hdg kk
theorem m_elen (S : CallFix p m c cc nL s args (c0 :: GG) own) (hw : mW γ M s H locs) (hdg : decode cc pc = .ok (.arraylength, 1))
    (kk : W p l e R s m args below meth c H locs cells slots Q (F0 m (pc + 1) ls (.int 0 :: rest))) : W p l e R s m args below meth c H locs cells slots Q (F0 m pc ls (.ref (ge γ) :: rest)) :=
  va_tlen S.1 S.2.1 hw.2.2.1.2.2.1 hw.2.1 rfl hdg kk
/-- elements of a list: all of one class -/
def mEl (M : mMap) (ci : Nat) (xs : List Nat) : Prop := (ci = 2 ∨ ci = 4) ∧ ∀ x, x ∈ xs → ∃ fs, M x = some (.inr (ci, fs))
theorem mK.cast {γ : mG} {s : State} {H : Heap} (h : mK γ s H) {ci : Nat} (hci : ci = 2 ∨ ci = 4) : ∃ r : vw_C, vwCl[ci]? = some r ∧ va_Nw (.castable r.1 "java/lang/Object") s := by
  rcases hci with e | e
  · subst e; exact ⟨_, rfl, h.2.2.2.2.2.2.1⟩
  · subst e; exact ⟨_, rfl, h.2.2.2.2.2.2.2⟩
theorem m_aastX (S : CallFix p m c cc nL s args (c0 :: GG) own) (hw : mW γ M s H locs) {n v ci : Nat} {xs : List Nat} {f : Nat → Option Nat} (he : M a = some (.inl (gA γ 3, n, .inr (.inr (.inr (.inr f)))))) (hE : mEl M ci xs) (hv : v ∈ xs) {i : Int32} (hin : vp_in i n) (hdg : decode cc pc = .ok (.aastore, 1))
    (kk : ∀ (H1 : Heap) (locs1 : List Loc), mW γ (mU M a (.inl (gA γ 3, n, .inr (.inr (.inr (.inr (va_up f i.toNatClampNeg (some v)))))))) s H1 locs1 → W p l e R s m args below meth c H1 locs1 cells slots Q (F0 m (pc + 1) ls rest)) : W p l e R s m args below meth c H locs cells slots Q (F0 m pc ls (.ref v :: .int i :: .ref a :: rest)) := by
  obtain ⟨r, hr, hc⟩ := hw.2.2.1.cast hE.1
  obtain ⟨fs, hfs⟩ := hE.2 v hv
  exact m_aast S hw he hfs hr hc hin hdg kk
theorem m_copy (S : CallFix p m c cc nL s args (c0 :: GG) own) (hw : mW γ M s H locs) (hls : ls.size = nL) {index : Nat} (hl : Cond.methodLink own index ⟨"java/lang/System", "arraycopy", "(Ljava/lang/Object;ILjava/lang/Object;II)V"⟩ ∈ GG) {a0 n0 n1 ci : Nat} {xs : List Nat} {f g : Nat → Option Nat} (he0 : M a0 = some (.inl (gA γ 3, n0, .inr (.inr (.inr (.inr f)))))) (he1 : M a = some (.inl (gA γ 3, n1, .inr (.inr (.inr (.inr g)))))) (hE : mEl M ci xs)
    {sp dp n : Int32} {sp' dp' n' : Nat} (e1 : sp = nI sp') (e2 : dp = nI dp') (e3 : n = nI n') (b1 : sp' < 2 ^ 31) (b2 : dp' < 2 ^ 31) (b3 : n' < 2 ^ 31) (h4 : sp' + n' ≤ n0) (h5 : dp' + n' ≤ n1) (hct : ∀ i, i < n' → ∀ y, f (sp' + i) = some y → y ∈ xs)
    (hframes : 1 ≤ R.frames) (hlocals : (rest.map fun v => v.category).sum + (nativeFrameWords "java/lang/System" "arraycopy" 5 + 11) ≤ R.locals) (hdg : decode cc pc = .ok (.invokestatic index, 3))
    (kk : ∀ (H1 : Heap) (locs1 : List Loc), mW γ (mU M a (.inl (gA γ 3, n1, .inr (.inr (.inr (.inr (va_cpy f g sp' dp' n'))))))) s H1 locs1 → W p l e R s m args below meth c H1 locs1 cells slots Q (F0 m (pc + 3) ls rest)) : W p l e R s m args below meth c H locs cells slots Q (F0 m pc ls (.int n :: .int dp :: .ref a :: .int sp :: .ref a0 :: rest)) := by
  subst e1 e2 e3
  obtain ⟨r, hr, hc⟩ := hw.2.2.1.cast hE.1
  have rcv : ∀ y, y ∈ xs → ∃ cellV : Cell, H[y]? = some cellV ∧ cellV.vm.isStatics = false ∧ s.vm.findClass r.1 = some cellV.cls := fun y hy => by
    obtain ⟨fs, hfs⟩ := hE.2 y hy
    exact hw.recv hfs hr
  obtain ⟨h0, hS, hK, ws, hm, hP, hD⟩ := hw
  obtain ⟨q0, hq0⟩ := hm _ _ he0
  obtain ⟨q1, hq1⟩ := hm _ _ he1
  have c1 := nI_clamp b1
  have c2 := nI_clamp b2
  have c3 := nI_clamp b3
  refine va_copyq S.1 S.2.1 (S.2.2.1.trans hls.symm) S.2.2.2.1 (S.2.2.2.2 _ (gc hl)) (S.2.2.2.2 _ (gc gN483)) (S.2.2.2.2 _ (gc g482)) (S.2.2.2.2 _ (gc g58)) hK.1 hP hD hS q0 q1 3 3 hq0 hq1 rfl rfl (nI_pos b1) (nI_pos b2) (nI_pos b3) (by rw [c1, c3]; exact h4) (by rw [c2, c3]; exact h5) (C := r.1)
    (fun i hi y hy => by rw [c3] at hi; rw [c1] at hy; exact rcv y (hct i hi y hy)) (fun comp k0 hf hk0 => ?_) hframes hlocals hdg (fun H1 locs1 hP1 hD1 hS1 => ?_)
  · obtain ⟨k1, t1, f1, f2, f3⟩ := Cond.castable_spec (va_Nw.use (A := args) rfl hc)
    cases hk0.symm.trans f1
    cases hf.symm.trans f2
    exact f3
  · rw [c1, c2, c3] at hP1 hD1
    exact kk H1 locs1 ⟨h0, hS1, hK, _, hm.set hq1, hP1, hD1⟩
theorem m_cast (S : CallFix p m c cc nL s args (c0 :: GG) own) (hw : mW γ M s H locs) {ci index N : Nat} {C : String} {T : u_T} {ty : Nat → FieldType} {fs : List Value} (hc : mC ci C T N ty) (he : M a = some (.inr (ci, fs))) (hl : Cond.classLink own index C ∈ GG) (hdg : decode cc pc = .ok (.checkcast index, 3))
    (kk : W p l e R s m args below meth c H locs cells slots Q (F0 m (pc + 3) ls (.ref a :: rest))) : W p l e R s m args below meth c H locs cells slots Q (F0 m pc ls (.ref a :: rest)) :=
  va_castS S.1 S.2.1 S.2.2.2.1 (S.2.2.2.2 _ (gc hl)) (hw.2.2.1.1.1 ci _ hc.1).2 (hw.recv he hc.1) hdg kk
theorem m_castA (S : CallFix p m c cc nL s args (c0 :: GG) own) (hw : mW γ M s H locs) {index n : Nat} {f : Nat → Option Nat} (he : M a = some (.inl (gA γ 3, n, .inr (.inr (.inr (.inr f)))))) (hl : Cond.classLink own index "[Ljava/lang/Object;" ∈ GG) (hdg : decode cc pc = .ok (.checkcast index, 3))
    (kk : W p l e R s m args below meth c H locs cells slots Q (F0 m (pc + 3) ls (.ref a :: rest))) : W p l e R s m args below meth c H locs cells slots Q (F0 m pc ls (.ref a :: rest)) := by
  obtain ⟨-, -, hK, ws, hm, hP, -⟩ := hw
  obtain ⟨q0, hq⟩ := hm _ _ he
  exact va_castA S.1 S.2.1 S.2.2.2.1 (S.2.2.2.2 _ (gc hl)) hP q0 hq (va_nmO (hK.1.2 3 _ rfl).2 (by decide +kernel)) hdg kk
theorem m_ldcM (S : CallFix p m c cc nL s args (c0 :: GG) own) (hw : mW γ M s H locs) {index : Nat} (hl : Cond.classLink own index "[Ljava/lang/Object;" ∈ GG) (hdg : decode cc pc = .ok (.ldc index, 2))
    (kk : W p l e R s m args below meth c H locs cells slots Q (F0 m (pc + 2) ls (.ref (gm γ) :: rest))) : W p l e R s m args below meth c H locs cells slots Q (F0 m pc ls rest) :=
  va_ldcM S.1 S.2.1 S.2.2.2.1 (S.2.2.2.2 _ (gc hl)) hw.2.2.1.2.2.2.2.1 hdg kk
theorem m_getC (S : CallFix p m c cc nL s args (c0 :: GG) own) (hw : mW γ M s H locs) (hls : ls.size = nL) {index n : Nat} {f : Nat → Option Nat} (he : M a = some (.inl (gA γ 3, n, .inr (.inr (.inr (.inr f)))))) (hl : Cond.methodLink own index ⟨"java/lang/Object", "getClass", "()Ljava/lang/Class;"⟩ ∈ GG) (hframes : 1 ≤ R.frames) (hlocals : (rest.map fun v => v.category).sum + 14 ≤ R.locals) (hdg : decode cc pc = .ok (.invokevirtual index, 3))
    (kk : W p l e R s m args below meth c H locs cells slots Q (F0 m (pc + 3) ls (.ref (gm γ) :: rest))) : W p l e R s m args below meth c H locs cells slots Q (F0 m pc ls (.ref a :: rest)) := by
  have hX := hw.2.2.1.2
  obtain ⟨-, -, hK, ws, hm, hP, -⟩ := hw
  obtain ⟨q0, hq⟩ := hm _ _ he
  refine va_getC S.1 S.2.1 (S.2.2.1.trans hls.symm) S.2.2.2.1 (S.2.2.2.2 _ (gc hl)) hX.2.2.2.2.1.use (S.2.2.2.2 _ (gc g909)) (S.2.2.2.2 _ (gc g461)) (S.2.2.2.2 _ (gc gN473)) hX.2.2.2.1 ⟨_, hP q0 _ hq, rfl, va_nmO (hK.1.2 3 _ rfl).2 (by decide +kernel)⟩ hframes hlocals hdg kk
end MJ
end
section
/-! A list as its cells -/
def AL (γ : mG) (M : mMap) (a r cap : Nat) (xs : List Nat) : Prop := (∃ md : Int32, M a = some (.inr (0, [.int md, .ref r, .int (nI xs.length)]))) ∧ xs.length ≤ cap ∧ cap ≤ 60000 ∧ ((cap = 0 ∧ r = ge γ) ∨ (10 ≤ cap ∧ ∃ f, M r = some (.inl (gA γ 3, cap, .inr (.inr (.inr (.inr f))))) ∧ ct f xs))
theorem AL.pos {γ : mG} {M : mMap} {a r cap : Nat} {xs : List Nat} (h : AL γ M a r cap xs) {k : Nat} (hk : k < xs.length) : ∃ (md : Int32) (f : Nat → Option Nat), M a = some (.inr (0, [.int md, .ref r, .int (nI xs.length)])) ∧ M r = some (.inl (gA γ 3, cap, .inr (.inr (.inr (.inr f))))) ∧ ct f xs ∧ xs.length ≤ cap ∧ cap ≤ 60000 ∧ 10 ≤ cap := by
  obtain ⟨⟨md, h1⟩, h2, h3, ⟨h4, -⟩ | ⟨h4, f, h5, h6⟩⟩ := h
  · omega
  · exact ⟨md, f, h1, h5, h6, h2, h3, h4⟩
theorem m_kind {M : mMap} {a b : Nat} {e1 e2 : va_E} (ha : M a = some e1) (hb : M b = some e2) (h : e1 ≠ e2) : a ≠ b := by
  intro e
  subst e
  rw [ha] at hb
  exact h (Option.some.inj hb)
end
section
/-! More on lists' cells -/
theorem mEl.new {M : mMap} {ci q : Nat} {xs : List Nat} {e : va_E} (h : mEl M ci xs) (hq : M q = none) : mEl (mU M q e) ci xs := by
  refine ⟨h.1, fun x hx => ?_⟩
  obtain ⟨fs, hfs⟩ := h.2 x hx
  refine ⟨fs, mU_to (fun z => ?_) hfs⟩
  rw [z, hq] at hfs
  cases hfs
theorem mEl.arr {M : mMap} {ci q : Nat} {xs : List Nat} {x : ClassId × vp_A} {e : va_E} (h : mEl M ci xs) (hq : M q = some (.inl x)) : mEl (mU M q e) ci xs := by
  refine ⟨h.1, fun y hy => ?_⟩
  obtain ⟨fs, hfs⟩ := h.2 y hy
  refine ⟨fs, mU_to (fun z => ?_) hfs⟩
  rw [z, hq] at hfs
  cases hfs
theorem mEl.lst {M : mMap} {ci q : Nat} {xs : List Nat} {fs0 : List Value} {e : va_E} (h : mEl M ci xs) (hq : M q = some (.inr (0, fs0))) : mEl (mU M q e) ci xs := by
  refine ⟨h.1, fun y hy => ?_⟩
  obtain ⟨fs, hfs⟩ := h.2 y hy
  refine ⟨fs, mU_to (fun z => ?_) hfs⟩
  rw [z, hq] at hfs
  cases hfs
  rcases h.1 with e | e <;> cases e
theorem mEl.sub {M : mMap} {ci : Nat} {xs ys : List Nat} (h : mEl M ci xs) (hs : ∀ x, x ∈ ys → x ∈ xs) : mEl M ci ys := ⟨h.1, fun x hx => h.2 x (hs x hx)⟩
theorem ct_mem {f : Nat → Option Nat} {xs : List Nat} (h : ct f xs) {n : Nat} (hn : n ≤ xs.length) {k : Nat} (hk : k < n) {y : Nat} (hy : f k = some y) : y ∈ xs := List.mem_of_getElem? ((h k (by omega)).symm.trans hy)
theorem m_fne {M : mMap} {a q : Nat} {e : va_E} (ha : M a = some e) (hq : M q = none) : a ≠ q := by
  intro z
  rw [z, hq] at ha
  cases ha
theorem grow_len {n : Nat} (h2 : 2 ≤ n) (hn : n ≤ 60000) : Int32.ofNat n + (if nI (n + 1) - Int32.ofNat n < Int32.ofNat n >>> ((1 : Int32) &&& 31) then Int32.ofNat n >>> ((1 : Int32) &&& 31) else nI (n + 1) - Int32.ofNat n) = nI (n + n / 2) := by
  have es : Int32.ofNat n >>> ((1 : Int32) &&& 31) = nI (n / 2) := by
    have k := pk_shrN (n := n) (by omega) ((1 : Int32) &&& 31) 1 (by decide)
    rw [Nat.pow_one] at k
    exact k
  have ed : nI (n + 1) - Int32.ofNat n = nI 1 := by
    have k := pk_sub (a := n + 1) (b := n) (by omega)
    rw [Nat.add_sub_cancel_left] at k
    exact k
  rw [es, ed]
  by_cases c : 1 < n / 2
  · rw [if_pos (nI_lt c (by omega))]
    exact nI_add n (n / 2)
  · rw [if_neg (nI_nlt (by omega) (by decide))]
    have hd : n / 2 = 1 := by omega
    rw [hd]
    exact nI_add n 1
theorem Met.mono {l : Launch} {y : MethodName} {ws : List Cond} {rm : Room} {Pc : Array Value → State → Prop} {Qc Qc' : Array Value → State → Outcome → State → Prop} {mc ms : Nat} {free : Addr → Prop} (h : Met l y ws rm Pc Qc mc ms free) (hq : ∀ a s o t, Qc a s o t → Qc' a s o t) : Met l y ws rm Pc Qc' mc ms free := by
  intro p e h1 h2 h3 s m args below h4 h5 h6 h7
  obtain ⟨n, o, g1, g2, g3, g4, g5⟩ := h p e h1 h2 h3 s m args below h4 h5 h6 h7
  exact ⟨n, o, g1, g2, g3, hq _ _ _ _ g4, g5⟩
theorem mQv.mono {γ : mG} {post post' : mMap → Prop} (h : ∀ M, post M → post' M) : ∀ a s o t, mQv γ post a s o t → mQv γ post' a s o t := fun _ _ _ _ ⟨⟨u, h1, h2, h3⟩, h4⟩ => ⟨⟨u, h1, h _ h2, h3⟩, h4⟩
theorem mQi.mono {γ : mG} {post post' : Int32 → mMap → Prop} (h : ∀ r M, post r M → post' r M) : ∀ a s o t, mQi γ post a s o t → mQi γ post' a s o t := fun _ _ _ _ ⟨⟨r, u, h1, h2, h3⟩, h4⟩ => ⟨⟨r, u, h1, h _ _ h2, h3⟩, h4⟩
theorem mQq.mono {γ : mG} {post post' : Option Nat → mMap → Prop} (h : ∀ r M, post r M → post' r M) : ∀ a s o t, mQq γ post a s o t → mQq γ post' a s o t := fun _ _ _ _ ⟨⟨r, u, h1, h2, h3⟩, h4⟩ => ⟨⟨r, u, h1, h _ _ h2, h3⟩, h4⟩
end
section
/-! What adding and removing leave -/
def cN (cap k : Nat) : Nat := if k = cap then cgr cap else cap
def gN (cap k : Nat) : Nat := if k = cap then 1 else 0
def sN (cap k : Nat) : Nat := if k = cap then cgr cap else 0
/-- only the list's two cells changed, or its array is a new one -/
def alF (M M' : mMap) (a r r' : Nat) : Prop := (∀ b e, M b = some e → b ≠ a → b ≠ r → M' b = some e) ∧ (r' = r ∨ M r' = none)
theorem AL.mk {γ : mG} {M' : mMap} {a q n : Nat} {md : Int32} {f : Nat → Option Nat} {ys : List Nat} (ha : M' a = some (.inr (0, [.int md, .ref q, .int (nI ys.length)]))) (hq : M' q = some (.inl (gA γ 3, n, .inr (.inr (.inr (.inr f)))))) (hc : ct f ys) (hl : ys.length ≤ n) (h10 : 10 ≤ n) (hn : n ≤ 60000) : AL γ M' a q n ys := ⟨⟨md, ha⟩, hl, hn, Or.inr ⟨h10, f, hq, hc⟩⟩
theorem mU_q0 {M : mMap} {a q : Nat} {e : va_E} (h : mU M a e q = none) : q ≠ a ∧ M q = none := by
  by_cases z : q = a
  · subst z; rw [mU_eq] at h; cases h
  · exact ⟨z, (mU_ne z).symm.trans h⟩
/-- the array stays, its cell and the list's cell are new -/
theorem alF.room {M : mMap} {a r : Nat} {e0 e1 e2 : va_E} : alF M (mU (mU (mU M a e0) r e1) a e2) a r r := ⟨fun b e h h1 h2 => mU_to h1 (mU_to h2 (mU_to h1 h)), Or.inl rfl⟩
theorem alF.grown {M : mMap} {a r q : Nat} {e0 e1 e2 e3 e4 : va_E} (hq : M q = none) : alF M (mU (mU (mU (mU (mU M a e0) q e1) a e2) q e3) a e4) a r q := ⟨fun b e h h1 _ => mU_to h1 (mU_to (m_fne h hq) (mU_to h1 (mU_to (m_fne h hq) (mU_to h1 h)))), Or.inr hq⟩
theorem mEl.alF {M M' : mMap} {a r r' ci : Nat} {xs : List Nat} {fs0 : List Value} (h : mEl M ci xs) (ha : M a = some (.inr (0, fs0))) (hr : ∀ e, M r = some e → ∃ x, e = .inl x) (hF : alF M M' a r r') : mEl M' ci xs := by
  refine ⟨h.1, fun x hx => ?_⟩
  obtain ⟨fs, hfs⟩ := h.2 x hx
  refine ⟨fs, hF.1 x _ hfs (fun z => ?_) (fun z => ?_)⟩
  · rw [z, ha] at hfs
    cases hfs
    rcases h.1 with e | e <;> cases e
  · obtain ⟨y, hy⟩ := hr _ (z ▸ hfs)
    cases hy
end
section
/-! An order's cell is written: lists and elements stay -/
theorem mEl.setO {M : mMap} {ci a : Nat} {xs : List Nat} {fs' : List Value} (h : mEl M ci xs) : mEl (mU M a (.inr (ci, fs'))) ci xs := by
  refine ⟨h.1, fun x hx => ?_⟩
  by_cases z : x = a
  · subst z; exact ⟨fs', mU_eq _ _ _⟩
  · obtain ⟨fs, hfs⟩ := h.2 x hx
    exact ⟨fs, mU_to z hfs⟩
theorem AL.setO {γ : mG} {M : mMap} {a r cap b ci : Nat} {xs : List Nat} {fs : List Value} {e : va_E} (h : AL γ M a r cap xs) (hb : M b = some (.inr (ci, fs))) (h0 : ci ≠ 0) : AL γ (mU M b e) a r cap xs := by
  obtain ⟨⟨md, h1⟩, h2, h3, h4⟩ := h
  refine ⟨⟨md, mU_to (fun z => ?_) h1⟩, h2, h3, ?_⟩
  · rw [z, hb] at h1
    cases h1
    exact h0 rfl
  · rcases h4 with h4 | ⟨h4, f, h5, h6⟩
    · exact Or.inl h4
    · refine Or.inr ⟨h4, f, mU_to (fun z => ?_) h5, h6⟩
      rw [z, hb] at h5
      cases h5
/-- the class's own order of two orders, by columns -/
def sb (J : Co) (o x : Nat) : Bool := if J 2 o = J 2 x then decide (J 5 o < J 5 x) else if J 2 o = 0 ∨ J 2 x = 0 then decide (J 2 o = 0) else if J 1 o = 0 then decide (J 2 o < J 2 x) else decide (J 2 x < J 2 o)
theorem sb_bf {J : Co} {o x : Nat} (ho : 0 ≤ (J 2 o).toInt) (hx : 0 ≤ (J 2 x).toInt) : sb J o x = bf J o x := by
  unfold sb bf
  by_cases h1 : J 2 o = J 2 x
  · rw [if_pos h1, if_pos h1]
  · rw [if_neg h1, if_neg h1]
    by_cases h2 : J 2 o = 0
    · rw [if_pos (Or.inl h2)]
      simp [h2]
    · by_cases h3 : J 2 x = 0
      · rw [if_pos (Or.inr h3)]
        simp [h2, h3]
      · rw [if_neg (by simp [h2, h3])]
        have hp : (0 : Int32) < J 2 x := by
          rw [Int32.lt_iff_toInt_lt, i0]
          have : (J 2 x).toInt ≠ 0 := fun z => h3 (Int32.toInt_inj.mp (z.trans i0.symm))
          omega
        simp [h2, hp]
end
section
/-! CallBook$Order: each method on one cell -/
set_option maxHeartbeats 4000000 in
set_option maxRecDepth 100000 in
theorem c_O_rests (l : Launch) (γ : mG) (M : mMap) (a : Nat) (x0 x1 x2 x3 x4 x5 x6 x7 x8 x9 : Int32) (ha : M a = some (.inr (2, [.int x0, .int x1, .int x2, .int x3, .int x4, .int x5, .int x6, .int x7, .int x8, .int x9]))) : Met l y_O_rests w_O_rests ({ frames := 0, cells := 0, slots := 0, locals := 0 } : Room) (mPc γ M [.ref a]) (mQi γ (fun r M' => r = b2i (decide (¬ x8 = -1)) ∧ M' = M)) 0 0 (mA (gz γ)) := by
  refine m_enter (by decide) (Nat.le_of_ble_eq_true rfl) ?_
  intro p e s m below meth c ls S hr hlk hnm hl hw
  have hl : lv_has ls 1 [(0, .ref a)] := hl
  refine lv_aload_n S.1 S.2.1 d_O_rests_0 rfl (lv_at hl 0 rfl) ?_
  refine m_get S hw cl_O ha 8 (by decide) g401 (fun _ h => h) rfl d_O_rests_1 ?_
  refine lv_iconst (v := (-1)) S.1 S.2.1 d_O_rests_4 (by decide) ?_
  refine lv_icmp_eq (tgt := 12) S.1 S.2.1 d_O_rests_5 rfl (fun h5 => ?_) (fun h5 => ?_)
  · refine lv_iconst (v := 0) S.1 S.2.1 d_O_rests_12 (by decide) ?_
    exact m_iret S hlk hr rfl hw (by simp [b2i, h5]) (Nat.le_refl _) (Nat.le_refl _) d_O_rests_13
  · refine lv_iconst (v := 1) S.1 S.2.1 d_O_rests_8 (by decide) ?_
    refine lv_goto (tgt := 13) S.1 S.2.1 d_O_rests_9 rfl ?_
    exact m_iret S hlk hr rfl hw (by simp [b2i, h5]) (Nat.le_refl _) (Nat.le_refl _) d_O_rests_13
set_option maxHeartbeats 4000000 in
set_option maxRecDepth 100000 in
theorem c_O_ask (l : Launch) (γ : mG) (M : mMap) (a : Nat) (x0 x1 x2 x3 x4 x5 x6 x7 x8 x9 : Int32) (ha : M a = some (.inr (2, [.int x0, .int x1, .int x2, .int x3, .int x4, .int x5, .int x6, .int x7, .int x8, .int x9]))) (p0 q0 : Int32) : Met l y_O_ask w_O_ask ({ frames := 0, cells := 0, slots := 0, locals := 0 } : Room) (mPc γ M [.ref a, .int p0, .int q0]) (mQv γ (fun M' => M' = mU M a (.inr (2, [.int x0, .int x1, .int x2, .int x3, .int x4, .int p0, .int q0, .int x7, .int x8, .int x9])))) 0 0 (mA (gz γ)) := by
  refine m_enter (by decide) (Nat.le_of_ble_eq_true rfl) ?_
  intro p e s m below meth c ls S hr hlk hnm hl hw
  have hl : lv_has ls 3 [(0, .ref a), (1, .int p0), (2, .int q0)] := hl
  refine lv_aload_n S.1 S.2.1 d_O_ask_0 rfl (lv_at hl 0 rfl) ?_
  refine lv_iload_n S.1 S.2.1 d_O_ask_1 rfl (lv_at hl 1 rfl) ?_
  refine m_put S hw cl_O ha 5 (by decide) g394 (fun _ h => h) rfl rfl rfl (Nat.le_of_ble_eq_true rfl) d_O_ask_2 (fun H locs hw => ?_)
  have hw : mW γ (mU M a (.inr (2, [.int x0, .int x1, .int x2, .int x3, .int x4, .int p0, .int x6, .int x7, .int x8, .int x9]))) s H locs := hw
  refine lv_aload_n S.1 S.2.1 d_O_ask_5 rfl (lv_at hl 0 rfl) ?_
  refine lv_iload_n S.1 S.2.1 d_O_ask_6 rfl (lv_at hl 2 rfl) ?_
  refine m_put S hw cl_O (mU_eq _ _ _) 6 (by decide) g396 (fun _ h => h) rfl rfl rfl (Nat.le_of_ble_eq_true rfl) d_O_ask_7 (fun H locs hw => ?_)
  have hw : mW γ (mU (mU M a (.inr (2, [.int x0, .int x1, .int x2, .int x3, .int x4, .int p0, .int x6, .int x7, .int x8, .int x9]))) a (.inr (2, [.int x0, .int x1, .int x2, .int x3, .int x4, .int p0, .int q0, .int x7, .int x8, .int x9]))) s H locs := hw
  exact m_vret S hlk hr hw (mU_uu _ _ _ _) (Nat.le_refl _) (Nat.le_refl _) d_O_ask_10
set_option maxHeartbeats 4000000 in
set_option maxRecDepth 100000 in
theorem c_O_give (l : Launch) (γ : mG) (M : mMap) (a : Nat) (x0 x1 x2 x3 x4 x5 x6 x7 x8 x9 : Int32) (ha : M a = some (.inr (2, [.int x0, .int x1, .int x2, .int x3, .int x4, .int x5, .int x6, .int x7, .int x8, .int x9]))) (q0 : Int32) : Met l y_O_give w_O_give ({ frames := 0, cells := 0, slots := 0, locals := 0 } : Room) (mPc γ M [.ref a, .int q0]) (mQv γ (fun M' => M' = mU M a (.inr (2, [.int x0, .int x1, .int x2, .int x3, .int x4, .int x5, .int (x6 - q0), .int x7, .int x8, .int (x9 + q0)])))) 0 0 (mA (gz γ)) := by
  refine m_enter (by decide) (Nat.le_of_ble_eq_true rfl) ?_
  intro p e s m below meth c ls S hr hlk hnm hl hw
  have hl : lv_has ls 2 [(0, .ref a), (1, .int q0)] := hl
  refine lv_aload_n S.1 S.2.1 d_O_give_0 rfl (lv_at hl 0 rfl) ?_
  refine lv_dup S.1 S.2.1 d_O_give_1 rfl ?_
  refine m_get S hw cl_O ha 6 (by decide) g396 (fun _ h => h) rfl d_O_give_2 ?_
  refine lv_iload_n S.1 S.2.1 d_O_give_5 rfl (lv_at hl 1 rfl) ?_
  refine lv_isub S.1 S.2.1 d_O_give_6 ?_
  refine m_put S hw cl_O ha 6 (by decide) g396 (fun _ h => h) rfl rfl rfl (Nat.le_of_ble_eq_true rfl) d_O_give_7 (fun H locs hw => ?_)
  have hw : mW γ (mU M a (.inr (2, [.int x0, .int x1, .int x2, .int x3, .int x4, .int x5, .int (x6 - q0), .int x7, .int x8, .int x9]))) s H locs := hw
  refine lv_aload_n S.1 S.2.1 d_O_give_10 rfl (lv_at hl 0 rfl) ?_
  refine lv_dup S.1 S.2.1 d_O_give_11 rfl ?_
  refine m_get S hw cl_O (mU_eq _ _ _) 9 (by decide) g404 (fun _ h => h) rfl d_O_give_12 ?_
  refine lv_iload_n S.1 S.2.1 d_O_give_15 rfl (lv_at hl 1 rfl) ?_
  refine lv_iadd S.1 S.2.1 d_O_give_16 ?_
  refine m_put S hw cl_O (mU_eq _ _ _) 9 (by decide) g404 (fun _ h => h) rfl rfl rfl (Nat.le_of_ble_eq_true rfl) d_O_give_17 (fun H locs hw => ?_)
  have hw : mW γ (mU (mU M a (.inr (2, [.int x0, .int x1, .int x2, .int x3, .int x4, .int x5, .int (x6 - q0), .int x7, .int x8, .int x9]))) a (.inr (2, [.int x0, .int x1, .int x2, .int x3, .int x4, .int x5, .int (x6 - q0), .int x7, .int x8, .int (x9 + q0)]))) s H locs := hw
  exact m_vret S hlk hr hw (mU_uu _ _ _ _) (Nat.le_refl _) (Nat.le_refl _) d_O_give_20
set_option maxHeartbeats 4000000 in
set_option maxRecDepth 100000 in
theorem c_O_lessen (l : Launch) (γ : mG) (M : mMap) (a : Nat) (x0 x1 x2 x3 x4 x5 x6 x7 x8 x9 : Int32) (ha : M a = some (.inr (2, [.int x0, .int x1, .int x2, .int x3, .int x4, .int x5, .int x6, .int x7, .int x8, .int x9]))) (q0 : Int32) : Met l y_O_lessen w_O_lessen ({ frames := 1, cells := 0, slots := 0, locals := 18 } : Room) (mPc γ M [.ref a, .int q0]) (mQv γ (fun M' => M' = mU M a (.inr (2, [.int x0, .int x1, .int x2, .int x3, .int x4, .int x5, .int q0, .int (if q0 < x7 then q0 else x7), .int x8, .int x9])))) 0 0 (mA (gz γ)) := by
  refine m_enter (by decide) (Nat.le_of_ble_eq_true rfl) ?_
  intro p e s m below meth c ls S hr hlk hnm hl hw
  have hl : lv_has ls 2 [(0, .ref a), (1, .int q0)] := hl
  refine lv_aload_n S.1 S.2.1 d_O_lessen_0 rfl (lv_at hl 0 rfl) ?_
  refine lv_iload_n S.1 S.2.1 d_O_lessen_1 rfl (lv_at hl 1 rfl) ?_
  refine m_put S hw cl_O ha 6 (by decide) g396 (fun _ h => h) rfl rfl rfl (Nat.le_of_ble_eq_true rfl) d_O_lessen_2 (fun H locs hw => ?_)
  have hw : mW γ (mU M a (.inr (2, [.int x0, .int x1, .int x2, .int x3, .int x4, .int x5, .int q0, .int x7, .int x8, .int x9]))) s H locs := hw
  refine lv_aload_n S.1 S.2.1 d_O_lessen_5 rfl (lv_at hl 0 rfl) ?_
  refine lv_aload_n S.1 S.2.1 d_O_lessen_6 rfl (lv_at hl 0 rfl) ?_
  refine m_get S hw cl_O (mU_eq _ _ _) 7 (by decide) g399 (fun _ h => h) rfl d_O_lessen_7 ?_
  refine lv_iload_n S.1 S.2.1 d_O_lessen_10 rfl (lv_at hl 1 rfl) ?_
  refine va_mmin S.1 S.2.1 (S.2.2.1.trans hl.1.symm) S.2.2.2.1 (S.2.2.2.2 _ (gc g240)) (S.2.2.2.2 _ (gc g241)) (S.2.2.2.2 _ (gc g56)) (S.2.2.2.2 _ (gc g242)) (Nat.le_of_ble_eq_true rfl) (Nat.le_of_ble_eq_true rfl) (Nat.zero_le _) (Nat.zero_le _) d_O_lessen_11 ?_
  refine m_put S hw cl_O (mU_eq _ _ _) 7 (by decide) g399 (fun _ h => h) rfl rfl rfl (Nat.le_of_ble_eq_true rfl) d_O_lessen_14 (fun H locs hw => ?_)
  have hw : mW γ (mU (mU M a (.inr (2, [.int x0, .int x1, .int x2, .int x3, .int x4, .int x5, .int q0, .int x7, .int x8, .int x9]))) a (.inr (2, [.int x0, .int x1, .int x2, .int x3, .int x4, .int x5, .int q0, .int (if q0 < x7 then q0 else x7), .int x8, .int x9]))) s H locs := hw
  exact m_vret S hlk hr hw (mU_uu _ _ _ _) (Nat.le_refl _) (Nat.le_refl _) d_O_lessen_17
set_option maxHeartbeats 4000000 in
set_option maxRecDepth 100000 in
theorem c_O_mayShow (l : Launch) (γ : mG) (M : mMap) (a : Nat) (x0 x1 x2 x3 x4 x5 x6 x7 x8 x9 : Int32) (ha : M a = some (.inr (2, [.int x0, .int x1, .int x2, .int x3, .int x4, .int x5, .int x6, .int x7, .int x8, .int x9]))) : Met l y_O_mayShow w_O_mayShow ({ frames := 1, cells := 0, slots := 0, locals := 17 } : Room) (mPc γ M [.ref a]) (mQi γ (fun r M' => r = (if x3 = 0 then x6 else (if x3 < x6 then x3 else x6)) ∧ M' = M)) 0 0 (mA (gz γ)) := by
  refine m_enter (by decide) (Nat.le_of_ble_eq_true rfl) ?_
  intro p e s m below meth c ls S hr hlk hnm hl hw
  have hl : lv_has ls 1 [(0, .ref a)] := hl
  refine lv_aload_n S.1 S.2.1 d_O_mayShow_0 rfl (lv_at hl 0 rfl) ?_
  refine m_get S hw cl_O ha 3 (by decide) g390 (fun _ h => h) rfl d_O_mayShow_1 ?_
  refine lv_if_ne (tgt := 14) S.1 S.2.1 d_O_mayShow_4 rfl (fun h4 => ?_) (fun h4 => ?_)
  · refine lv_aload_n S.1 S.2.1 d_O_mayShow_14 rfl (lv_at hl 0 rfl) ?_
    refine m_get S hw cl_O ha 6 (by decide) g396 (fun _ h => h) rfl d_O_mayShow_15 ?_
    refine lv_aload_n S.1 S.2.1 d_O_mayShow_18 rfl (lv_at hl 0 rfl) ?_
    refine m_get S hw cl_O ha 3 (by decide) g390 (fun _ h => h) rfl d_O_mayShow_19 ?_
    refine va_mmin S.1 S.2.1 (S.2.2.1.trans hl.1.symm) S.2.2.2.1 (S.2.2.2.2 _ (gc g240)) (S.2.2.2.2 _ (gc g241)) (S.2.2.2.2 _ (gc g56)) (S.2.2.2.2 _ (gc g242)) (Nat.le_of_ble_eq_true rfl) (Nat.le_of_ble_eq_true rfl) (Nat.zero_le _) (Nat.zero_le _) d_O_mayShow_22 ?_
    exact m_iret S hlk hr rfl hw (by simp [h4]) (Nat.le_refl _) (Nat.le_refl _) d_O_mayShow_25
  · refine lv_aload_n S.1 S.2.1 d_O_mayShow_7 rfl (lv_at hl 0 rfl) ?_
    refine m_get S hw cl_O ha 6 (by decide) g396 (fun _ h => h) rfl d_O_mayShow_8 ?_
    refine lv_goto (tgt := 25) S.1 S.2.1 d_O_mayShow_11 rfl ?_
    exact m_iret S hlk hr rfl hw (by simp [h4]) (Nat.le_refl _) (Nat.le_refl _) d_O_mayShow_25
set_option maxHeartbeats 4000000 in
set_option maxRecDepth 100000 in
theorem c_O_takes (l : Launch) (γ : mG) (M : mMap) (a : Nat) (x0 x1 x2 x3 x4 x5 x6 x7 x8 x9 : Int32) (ha : M a = some (.inr (2, [.int x0, .int x1, .int x2, .int x3, .int x4, .int x5, .int x6, .int x7, .int x8, .int x9]))) (p0 : Int32) : Met l y_O_takes w_O_takes ({ frames := 0, cells := 0, slots := 0, locals := 0 } : Room) (mPc γ M [.ref a, .int p0]) (mQi γ (fun r M' => r = b2i (decide (x5 = 0) || (if x2 = 0 then decide (x5 ≤ p0) else decide (p0 ≤ x5))) ∧ M' = M)) 0 0 (mA (gz γ)) := by
  refine m_enter (by decide) (Nat.le_of_ble_eq_true rfl) ?_
  intro p e s m below meth c ls S hr hlk hnm hl hw
  have hl : lv_has ls 2 [(0, .ref a), (1, .int p0)] := hl
  refine lv_aload_n S.1 S.2.1 d_O_takes_0 rfl (lv_at hl 0 rfl) ?_
  refine m_get S hw cl_O ha 5 (by decide) g394 (fun _ h => h) rfl d_O_takes_1 ?_
  refine lv_if_ne (tgt := 9) S.1 S.2.1 d_O_takes_4 rfl (fun h4 => ?_) (fun h4 => ?_)
  · refine lv_aload_n S.1 S.2.1 d_O_takes_9 rfl (lv_at hl 0 rfl) ?_
    refine m_get S hw cl_O ha 2 (by decide) g388 (fun _ h => h) rfl d_O_takes_10 ?_
    refine lv_if_eq (tgt := 32) S.1 S.2.1 d_O_takes_13 rfl (fun h13 => ?_) (fun h13 => ?_)
    · refine lv_iload_n S.1 S.2.1 d_O_takes_32 rfl (lv_at hl 1 rfl) ?_
      refine lv_aload_n S.1 S.2.1 d_O_takes_33 rfl (lv_at hl 0 rfl) ?_
      refine m_get S hw cl_O ha 5 (by decide) g394 (fun _ h => h) rfl d_O_takes_34 ?_
      refine lv_icmp_lt (tgt := 44) S.1 S.2.1 d_O_takes_37 rfl (fun h37 => ?_) (fun h37 => ?_)
      · refine lv_iconst (v := 0) S.1 S.2.1 d_O_takes_44 (by decide) ?_
        exact m_iret S hlk hr rfl hw (by simp_all [b2i]) (Nat.le_refl _) (Nat.le_refl _) d_O_takes_45
      · refine lv_iconst (v := 1) S.1 S.2.1 d_O_takes_40 (by decide) ?_
        refine lv_goto (tgt := 45) S.1 S.2.1 d_O_takes_41 rfl ?_
        exact m_iret S hlk hr rfl hw (by simp_all [b2i]) (Nat.le_refl _) (Nat.le_refl _) d_O_takes_45
    · refine lv_iload_n S.1 S.2.1 d_O_takes_16 rfl (lv_at hl 1 rfl) ?_
      refine lv_aload_n S.1 S.2.1 d_O_takes_17 rfl (lv_at hl 0 rfl) ?_
      refine m_get S hw cl_O ha 5 (by decide) g394 (fun _ h => h) rfl d_O_takes_18 ?_
      refine lv_icmp_gt (tgt := 28) S.1 S.2.1 d_O_takes_21 rfl (fun h21 => ?_) (fun h21 => ?_)
      · refine lv_iconst (v := 0) S.1 S.2.1 d_O_takes_28 (by decide) ?_
        refine lv_goto (tgt := 45) S.1 S.2.1 d_O_takes_29 rfl ?_
        exact m_iret S hlk hr rfl hw (by simp_all [b2i]) (Nat.le_refl _) (Nat.le_refl _) d_O_takes_45
      · refine lv_iconst (v := 1) S.1 S.2.1 d_O_takes_24 (by decide) ?_
        refine lv_goto (tgt := 45) S.1 S.2.1 d_O_takes_25 rfl ?_
        exact m_iret S hlk hr rfl hw (by simp_all [b2i]) (Nat.le_refl _) (Nat.le_refl _) d_O_takes_45
  · refine lv_iconst (v := 1) S.1 S.2.1 d_O_takes_7 (by decide) ?_
    exact m_iret S hlk hr rfl hw (by simp_all [b2i]) (Nat.le_refl _) (Nat.le_refl _) d_O_takes_8
set_option maxHeartbeats 4000000 in
set_option maxRecDepth 100000 in
theorem c_O_standsBefore (l : Launch) (γ : mG) (M : mMap) (a : Nat) (x0 x1 x2 x3 x4 x5 x6 x7 x8 x9 : Int32) (ha : M a = some (.inr (2, [.int x0, .int x1, .int x2, .int x3, .int x4, .int x5, .int x6, .int x7, .int x8, .int x9]))) (b : Nat) (y0 y1 y2 y3 y4 y5 y6 y7 y8 y9 : Int32) (hb : M b = some (.inr (2, [.int y0, .int y1, .int y2, .int y3, .int y4, .int y5, .int y6, .int y7, .int y8, .int y9]))) : Met l y_O_standsBefore w_O_standsBefore ({ frames := 0, cells := 0, slots := 0, locals := 0 } : Room) (mPc γ M [.ref a, .ref b]) (mQi γ (fun r M' => r = b2i (if x5 = y5 then decide (x8 < y8) else if x5 = 0 ∨ y5 = 0 then decide (x5 = 0) else if x2 = 0 then decide (x5 < y5) else decide (y5 < x5)) ∧ M' = M)) 0 0 (mA (gz γ)) := by
  refine m_enter (by decide) (Nat.le_of_ble_eq_true rfl) ?_
  intro p e s m below meth c ls S hr hlk hnm hl hw
  have hl : lv_has ls 2 [(0, .ref a), (1, .ref b)] := hl
  refine lv_aload_n S.1 S.2.1 d_O_standsBefore_0 rfl (lv_at hl 0 rfl) ?_
  refine m_get S hw cl_O ha 5 (by decide) g394 (fun _ h => h) rfl d_O_standsBefore_1 ?_
  refine lv_aload_n S.1 S.2.1 d_O_standsBefore_4 rfl (lv_at hl 1 rfl) ?_
  refine m_get S hw cl_O hb 5 (by decide) g394 (fun _ h => h) rfl d_O_standsBefore_5 ?_
  refine lv_icmp_ne (tgt := 28) S.1 S.2.1 d_O_standsBefore_8 rfl (fun h8 => ?_) (fun h8 => ?_)
  · refine lv_aload_n S.1 S.2.1 d_O_standsBefore_28 rfl (lv_at hl 0 rfl) ?_
    refine m_get S hw cl_O ha 5 (by decide) g394 (fun _ h => h) rfl d_O_standsBefore_29 ?_
    refine lv_if_eq (tgt := 42) S.1 S.2.1 d_O_standsBefore_32 rfl (fun h32 => ?_) (fun h32 => ?_)
    · refine lv_aload_n S.1 S.2.1 d_O_standsBefore_42 rfl (lv_at hl 0 rfl) ?_
      refine m_get S hw cl_O ha 5 (by decide) g394 (fun _ h => h) rfl d_O_standsBefore_43 ?_
      refine lv_if_ne (tgt := 53) S.1 S.2.1 d_O_standsBefore_46 rfl (fun h46 => ?_) (fun h46 => ?_)
      · refine lv_iconst (v := 0) S.1 S.2.1 d_O_standsBefore_53 (by decide) ?_
        exact m_iret S hlk hr rfl hw (by simp_all [b2i]) (Nat.le_refl _) (Nat.le_refl _) d_O_standsBefore_54
      · refine lv_iconst (v := 1) S.1 S.2.1 d_O_standsBefore_49 (by decide) ?_
        refine lv_goto (tgt := 54) S.1 S.2.1 d_O_standsBefore_50 rfl ?_
        exact m_iret S hlk hr rfl hw (by simp_all [b2i]) (Nat.le_refl _) (Nat.le_refl _) d_O_standsBefore_54
    · refine lv_aload_n S.1 S.2.1 d_O_standsBefore_35 rfl (lv_at hl 1 rfl) ?_
      refine m_get S hw cl_O hb 5 (by decide) g394 (fun _ h => h) rfl d_O_standsBefore_36 ?_
      refine lv_if_ne (tgt := 55) S.1 S.2.1 d_O_standsBefore_39 rfl (fun h39 => ?_) (fun h39 => ?_)
      · refine lv_aload_n S.1 S.2.1 d_O_standsBefore_55 rfl (lv_at hl 0 rfl) ?_
        refine m_get S hw cl_O ha 2 (by decide) g388 (fun _ h => h) rfl d_O_standsBefore_56 ?_
        refine lv_if_eq (tgt := 81) S.1 S.2.1 d_O_standsBefore_59 rfl (fun h59 => ?_) (fun h59 => ?_)
        · refine lv_aload_n S.1 S.2.1 d_O_standsBefore_81 rfl (lv_at hl 0 rfl) ?_
          refine m_get S hw cl_O ha 5 (by decide) g394 (fun _ h => h) rfl d_O_standsBefore_82 ?_
          refine lv_aload_n S.1 S.2.1 d_O_standsBefore_85 rfl (lv_at hl 1 rfl) ?_
          refine m_get S hw cl_O hb 5 (by decide) g394 (fun _ h => h) rfl d_O_standsBefore_86 ?_
          refine lv_icmp_ge (tgt := 96) S.1 S.2.1 d_O_standsBefore_89 rfl (fun h89 => ?_) (fun h89 => ?_)
          · refine lv_iconst (v := 0) S.1 S.2.1 d_O_standsBefore_96 (by decide) ?_
            exact m_iret S hlk hr rfl hw (by simp_all [b2i]) (Nat.le_refl _) (Nat.le_refl _) d_O_standsBefore_97
          · refine lv_iconst (v := 1) S.1 S.2.1 d_O_standsBefore_92 (by decide) ?_
            refine lv_goto (tgt := 97) S.1 S.2.1 d_O_standsBefore_93 rfl ?_
            exact m_iret S hlk hr rfl hw (by simp_all [b2i]) (Nat.le_refl _) (Nat.le_refl _) d_O_standsBefore_97
        · refine lv_aload_n S.1 S.2.1 d_O_standsBefore_62 rfl (lv_at hl 0 rfl) ?_
          refine m_get S hw cl_O ha 5 (by decide) g394 (fun _ h => h) rfl d_O_standsBefore_63 ?_
          refine lv_aload_n S.1 S.2.1 d_O_standsBefore_66 rfl (lv_at hl 1 rfl) ?_
          refine m_get S hw cl_O hb 5 (by decide) g394 (fun _ h => h) rfl d_O_standsBefore_67 ?_
          refine lv_icmp_le (tgt := 77) S.1 S.2.1 d_O_standsBefore_70 rfl (fun h70 => ?_) (fun h70 => ?_)
          · refine lv_iconst (v := 0) S.1 S.2.1 d_O_standsBefore_77 (by decide) ?_
            refine lv_goto (tgt := 97) S.1 S.2.1 d_O_standsBefore_78 rfl ?_
            exact m_iret S hlk hr rfl hw (by simp_all [b2i]) (Nat.le_refl _) (Nat.le_refl _) d_O_standsBefore_97
          · refine lv_iconst (v := 1) S.1 S.2.1 d_O_standsBefore_73 (by decide) ?_
            refine lv_goto (tgt := 97) S.1 S.2.1 d_O_standsBefore_74 rfl ?_
            exact m_iret S hlk hr rfl hw (by simp_all [b2i]) (Nat.le_refl _) (Nat.le_refl _) d_O_standsBefore_97
      · refine lv_aload_n S.1 S.2.1 d_O_standsBefore_42 rfl (lv_at hl 0 rfl) ?_
        refine m_get S hw cl_O ha 5 (by decide) g394 (fun _ h => h) rfl d_O_standsBefore_43 ?_
        refine lv_if_ne (tgt := 53) S.1 S.2.1 d_O_standsBefore_46 rfl (fun h46 => ?_) (fun h46 => ?_)
        · refine lv_iconst (v := 0) S.1 S.2.1 d_O_standsBefore_53 (by decide) ?_
          exact m_iret S hlk hr rfl hw (by simp_all [b2i]) (Nat.le_refl _) (Nat.le_refl _) d_O_standsBefore_54
        · refine lv_iconst (v := 1) S.1 S.2.1 d_O_standsBefore_49 (by decide) ?_
          refine lv_goto (tgt := 54) S.1 S.2.1 d_O_standsBefore_50 rfl ?_
          exact m_iret S hlk hr rfl hw (by simp_all [b2i]) (Nat.le_refl _) (Nat.le_refl _) d_O_standsBefore_54
  · refine lv_aload_n S.1 S.2.1 d_O_standsBefore_11 rfl (lv_at hl 0 rfl) ?_
    refine m_get S hw cl_O ha 8 (by decide) g401 (fun _ h => h) rfl d_O_standsBefore_12 ?_
    refine lv_aload_n S.1 S.2.1 d_O_standsBefore_15 rfl (lv_at hl 1 rfl) ?_
    refine m_get S hw cl_O hb 8 (by decide) g401 (fun _ h => h) rfl d_O_standsBefore_16 ?_
    refine lv_icmp_ge (tgt := 26) S.1 S.2.1 d_O_standsBefore_19 rfl (fun h19 => ?_) (fun h19 => ?_)
    · refine lv_iconst (v := 0) S.1 S.2.1 d_O_standsBefore_26 (by decide) ?_
      exact m_iret S hlk hr rfl hw (by simp_all [b2i]) (Nat.le_refl _) (Nat.le_refl _) d_O_standsBefore_27
    · refine lv_iconst (v := 1) S.1 S.2.1 d_O_standsBefore_22 (by decide) ?_
      refine lv_goto (tgt := 27) S.1 S.2.1 d_O_standsBefore_23 rfl ?_
      exact m_iret S hlk hr rfl hw (by simp_all [b2i]) (Nat.le_refl _) (Nat.le_refl _) d_O_standsBefore_27
set_option maxHeartbeats 4000000 in
set_option maxRecDepth 100000 in
theorem c_O_isWrongAtRest (l : Launch) (γ : mG) (M : mMap) (a : Nat) (x0 x1 x2 x3 x4 x5 x6 x7 x8 x9 : Int32) (ha : M a = some (.inr (2, [.int x0, .int x1, .int x2, .int x3, .int x4, .int x5, .int x6, .int x7, .int x8, .int x9]))) : Met l y_O_isWrongAtRest w_O_isWrongAtRest ({ frames := 2, cells := 0, slots := 0, locals := 37 } : Room) (mPc γ M [.ref a]) (mQi γ (fun r M' => r = b2i ((decide (x8 = -1) || decide (x6 < 1) || decide (100000 < x6)) || (decide (x7 < 1) || decide ((if x3 = 0 then x6 else (if x3 < x6 then x3 else x6)) < x7) || (decide (x3 = 0) && decide (¬ x7 = x6)))) ∧ M' = M)) 0 0 (mA (gz γ)) := by
  refine m_enter (by decide) (Nat.le_of_ble_eq_true rfl) ?_
  intro p e s m below meth c ls S hr hlk hnm hl hw
  have hl : lv_has ls 2 [(0, .ref a)] := hl
  refine lv_aload_n S.1 S.2.1 d_O_isWrongAtRest_0 rfl (lv_at hl 0 rfl) ?_
  refine m_get S hw cl_O ha 7 (by decide) g399 (fun _ h => h) rfl d_O_isWrongAtRest_1 ?_
  refine lv_iconst (v := 1) S.1 S.2.1 d_O_isWrongAtRest_4 (by decide) ?_
  refine lv_icmp_lt (tgt := 37) S.1 S.2.1 d_O_isWrongAtRest_5 rfl (fun h5 => ?_) (fun h5 => ?_)
  · refine lv_iconst (v := 1) S.1 S.2.1 d_O_isWrongAtRest_37 (by decide) ?_
    refine lv_goto (tgt := 42) S.1 S.2.1 d_O_isWrongAtRest_38 rfl ?_
    refine lv_istore_n S.1 S.2.1 d_O_isWrongAtRest_42 rfl hl (by decide) rfl (fun ls hl => ?_)
    have hl : lv_has ls 2 [(1, .int 1), (0, .ref a)] := hl
    refine lv_aload_n S.1 S.2.1 d_O_isWrongAtRest_43 rfl (lv_at hl 1 rfl) ?_
    refine m_ci hw (va_runV (As := []) (rest := []) S (c_O_rests l γ M a _ _ _ _ _ _ _ _ _ _ ha) (m_cwV 0 S g243 g244 g245 g54 g246 rfl rfl ⟨by decide +kernel, by decide +kernel, by decide +kernel⟩ ⟨(Nat.le_of_ble_eq_true rfl), (Nat.le_of_ble_eq_true rfl)⟩) (hw.preV ha cl_O.1) rfl rfl hl.1 rfl (lv_room (Nat.le_of_ble_eq_true rfl)) d_O_isWrongAtRest_44 ⟨(Nat.zero_le _), (Nat.zero_le _)⟩) (fun r1 M1 H locs hp hw => ?_)
    obtain ⟨rfl, hM1⟩ := hp
    rw [hM1] at hw
    refine lv_if_eq (tgt := 71) S.1 S.2.1 d_O_isWrongAtRest_47 rfl (fun h47 => ?_) (fun h47 => ?_)
    · refine lv_iconst (v := 1) S.1 S.2.1 d_O_isWrongAtRest_71 (by decide) ?_
      refine lv_goto (tgt := 76) S.1 S.2.1 d_O_isWrongAtRest_72 rfl ?_
      exact m_iret S hlk hr rfl hw (by simp_all [b2i]) (Nat.le_refl _) (Nat.le_refl _) d_O_isWrongAtRest_76
    · refine lv_aload_n S.1 S.2.1 d_O_isWrongAtRest_50 rfl (lv_at hl 1 rfl) ?_
      refine m_get S hw cl_O ha 6 (by decide) g396 (fun _ h => h) rfl d_O_isWrongAtRest_51 ?_
      refine lv_iconst (v := 1) S.1 S.2.1 d_O_isWrongAtRest_54 (by decide) ?_
      refine lv_icmp_lt (tgt := 71) S.1 S.2.1 d_O_isWrongAtRest_55 rfl (fun h55 => ?_) (fun h55 => ?_)
      · refine lv_iconst (v := 1) S.1 S.2.1 d_O_isWrongAtRest_71 (by decide) ?_
        refine lv_goto (tgt := 76) S.1 S.2.1 d_O_isWrongAtRest_72 rfl ?_
        exact m_iret S hlk hr rfl hw (by simp_all [b2i]) (Nat.le_refl _) (Nat.le_refl _) d_O_isWrongAtRest_76
      · refine lv_aload_n S.1 S.2.1 d_O_isWrongAtRest_58 rfl (lv_at hl 1 rfl) ?_
        refine m_get S hw cl_O ha 6 (by decide) g396 (fun _ h => h) rfl d_O_isWrongAtRest_59 ?_
        refine lv_ldc S.1 S.2.1 S.2.2.2.1 (S.2.2.2.2 _ (gc g247)) d_O_isWrongAtRest_62 ?_
        refine lv_icmp_gt (tgt := 71) S.1 S.2.1 d_O_isWrongAtRest_64 rfl (fun h64 => ?_) (fun h64 => ?_)
        · refine lv_iconst (v := 1) S.1 S.2.1 d_O_isWrongAtRest_71 (by decide) ?_
          refine lv_goto (tgt := 76) S.1 S.2.1 d_O_isWrongAtRest_72 rfl ?_
          exact m_iret S hlk hr rfl hw (by simp_all [b2i]) (Nat.le_refl _) (Nat.le_refl _) d_O_isWrongAtRest_76
        · refine lv_iload_n S.1 S.2.1 d_O_isWrongAtRest_67 rfl (lv_at hl 0 rfl) ?_
          refine lv_if_eq (tgt := 75) S.1 S.2.1 d_O_isWrongAtRest_68 rfl (fun h68 => ?_) (fun h68 => ?_)
          · refine lv_iconst (v := 0) S.1 S.2.1 d_O_isWrongAtRest_75 (by decide) ?_
            exact m_iret S hlk hr rfl hw (by simp_all [b2i]) (Nat.le_refl _) (Nat.le_refl _) d_O_isWrongAtRest_76
          · refine lv_iconst (v := 1) S.1 S.2.1 d_O_isWrongAtRest_71 (by decide) ?_
            refine lv_goto (tgt := 76) S.1 S.2.1 d_O_isWrongAtRest_72 rfl ?_
            exact m_iret S hlk hr rfl hw (by simp_all [b2i]) (Nat.le_refl _) (Nat.le_refl _) d_O_isWrongAtRest_76
  · refine lv_aload_n S.1 S.2.1 d_O_isWrongAtRest_8 rfl (lv_at hl 0 rfl) ?_
    refine m_get S hw cl_O ha 7 (by decide) g399 (fun _ h => h) rfl d_O_isWrongAtRest_9 ?_
    refine lv_aload_n S.1 S.2.1 d_O_isWrongAtRest_12 rfl (lv_at hl 0 rfl) ?_
    refine m_ci hw (va_runV (As := []) (rest := [.int x7]) S (c_O_mayShow l γ M a _ _ _ _ _ _ _ _ _ _ ha) (m_cwV 0 S g236 g237 g238 g54 g239 rfl rfl ⟨by decide +kernel, by decide +kernel, by decide +kernel⟩ ⟨(Nat.le_of_ble_eq_true rfl), (Nat.le_of_ble_eq_true rfl)⟩) (hw.preV ha cl_O.1) rfl rfl hl.1 rfl (lv_room (Nat.le_of_ble_eq_true rfl)) d_O_isWrongAtRest_13 ⟨(Nat.zero_le _), (Nat.zero_le _)⟩) (fun r1 M1 H locs hp hw => ?_)
    obtain ⟨rfl, hM1⟩ := hp
    rw [hM1] at hw
    refine lv_icmp_gt (tgt := 37) S.1 S.2.1 d_O_isWrongAtRest_16 rfl (fun h16 => ?_) (fun h16 => ?_)
    · refine lv_iconst (v := 1) S.1 S.2.1 d_O_isWrongAtRest_37 (by decide) ?_
      refine lv_goto (tgt := 42) S.1 S.2.1 d_O_isWrongAtRest_38 rfl ?_
      refine lv_istore_n S.1 S.2.1 d_O_isWrongAtRest_42 rfl hl (by decide) rfl (fun ls hl => ?_)
      have hl : lv_has ls 2 [(1, .int 1), (0, .ref a)] := hl
      refine lv_aload_n S.1 S.2.1 d_O_isWrongAtRest_43 rfl (lv_at hl 1 rfl) ?_
      refine m_ci hw (va_runV (As := []) (rest := []) S (c_O_rests l γ M a _ _ _ _ _ _ _ _ _ _ ha) (m_cwV 0 S g243 g244 g245 g54 g246 rfl rfl ⟨by decide +kernel, by decide +kernel, by decide +kernel⟩ ⟨(Nat.le_of_ble_eq_true rfl), (Nat.le_of_ble_eq_true rfl)⟩) (hw.preV ha cl_O.1) rfl rfl hl.1 rfl (lv_room (Nat.le_of_ble_eq_true rfl)) d_O_isWrongAtRest_44 ⟨(Nat.zero_le _), (Nat.zero_le _)⟩) (fun r1 M1 H locs hp hw => ?_)
      obtain ⟨rfl, hM1⟩ := hp
      rw [hM1] at hw
      refine lv_if_eq (tgt := 71) S.1 S.2.1 d_O_isWrongAtRest_47 rfl (fun h47 => ?_) (fun h47 => ?_)
      · refine lv_iconst (v := 1) S.1 S.2.1 d_O_isWrongAtRest_71 (by decide) ?_
        refine lv_goto (tgt := 76) S.1 S.2.1 d_O_isWrongAtRest_72 rfl ?_
        exact m_iret S hlk hr rfl hw (by simp_all [b2i]) (Nat.le_refl _) (Nat.le_refl _) d_O_isWrongAtRest_76
      · refine lv_aload_n S.1 S.2.1 d_O_isWrongAtRest_50 rfl (lv_at hl 1 rfl) ?_
        refine m_get S hw cl_O ha 6 (by decide) g396 (fun _ h => h) rfl d_O_isWrongAtRest_51 ?_
        refine lv_iconst (v := 1) S.1 S.2.1 d_O_isWrongAtRest_54 (by decide) ?_
        refine lv_icmp_lt (tgt := 71) S.1 S.2.1 d_O_isWrongAtRest_55 rfl (fun h55 => ?_) (fun h55 => ?_)
        · refine lv_iconst (v := 1) S.1 S.2.1 d_O_isWrongAtRest_71 (by decide) ?_
          refine lv_goto (tgt := 76) S.1 S.2.1 d_O_isWrongAtRest_72 rfl ?_
          exact m_iret S hlk hr rfl hw (by simp_all [b2i]) (Nat.le_refl _) (Nat.le_refl _) d_O_isWrongAtRest_76
        · refine lv_aload_n S.1 S.2.1 d_O_isWrongAtRest_58 rfl (lv_at hl 1 rfl) ?_
          refine m_get S hw cl_O ha 6 (by decide) g396 (fun _ h => h) rfl d_O_isWrongAtRest_59 ?_
          refine lv_ldc S.1 S.2.1 S.2.2.2.1 (S.2.2.2.2 _ (gc g247)) d_O_isWrongAtRest_62 ?_
          refine lv_icmp_gt (tgt := 71) S.1 S.2.1 d_O_isWrongAtRest_64 rfl (fun h64 => ?_) (fun h64 => ?_)
          · refine lv_iconst (v := 1) S.1 S.2.1 d_O_isWrongAtRest_71 (by decide) ?_
            refine lv_goto (tgt := 76) S.1 S.2.1 d_O_isWrongAtRest_72 rfl ?_
            exact m_iret S hlk hr rfl hw (by simp_all [b2i]) (Nat.le_refl _) (Nat.le_refl _) d_O_isWrongAtRest_76
          · refine lv_iload_n S.1 S.2.1 d_O_isWrongAtRest_67 rfl (lv_at hl 0 rfl) ?_
            refine lv_if_eq (tgt := 75) S.1 S.2.1 d_O_isWrongAtRest_68 rfl (fun h68 => ?_) (fun h68 => ?_)
            · refine lv_iconst (v := 0) S.1 S.2.1 d_O_isWrongAtRest_75 (by decide) ?_
              exact m_iret S hlk hr rfl hw (by simp_all [b2i]) (Nat.le_refl _) (Nat.le_refl _) d_O_isWrongAtRest_76
            · refine lv_iconst (v := 1) S.1 S.2.1 d_O_isWrongAtRest_71 (by decide) ?_
              refine lv_goto (tgt := 76) S.1 S.2.1 d_O_isWrongAtRest_72 rfl ?_
              exact m_iret S hlk hr rfl hw (by simp_all [b2i]) (Nat.le_refl _) (Nat.le_refl _) d_O_isWrongAtRest_76
    · refine lv_aload_n S.1 S.2.1 d_O_isWrongAtRest_19 rfl (lv_at hl 0 rfl) ?_
      refine m_get S hw cl_O ha 3 (by decide) g390 (fun _ h => h) rfl d_O_isWrongAtRest_20 ?_
      refine lv_if_ne (tgt := 41) S.1 S.2.1 d_O_isWrongAtRest_23 rfl (fun h23 => ?_) (fun h23 => ?_)
      · refine lv_iconst (v := 0) S.1 S.2.1 d_O_isWrongAtRest_41 (by decide) ?_
        refine lv_istore_n S.1 S.2.1 d_O_isWrongAtRest_42 rfl hl (by decide) rfl (fun ls hl => ?_)
        have hl : lv_has ls 2 [(1, .int 0), (0, .ref a)] := hl
        refine lv_aload_n S.1 S.2.1 d_O_isWrongAtRest_43 rfl (lv_at hl 1 rfl) ?_
        refine m_ci hw (va_runV (As := []) (rest := []) S (c_O_rests l γ M a _ _ _ _ _ _ _ _ _ _ ha) (m_cwV 0 S g243 g244 g245 g54 g246 rfl rfl ⟨by decide +kernel, by decide +kernel, by decide +kernel⟩ ⟨(Nat.le_of_ble_eq_true rfl), (Nat.le_of_ble_eq_true rfl)⟩) (hw.preV ha cl_O.1) rfl rfl hl.1 rfl (lv_room (Nat.le_of_ble_eq_true rfl)) d_O_isWrongAtRest_44 ⟨(Nat.zero_le _), (Nat.zero_le _)⟩) (fun r1 M1 H locs hp hw => ?_)
        obtain ⟨rfl, hM1⟩ := hp
        rw [hM1] at hw
        refine lv_if_eq (tgt := 71) S.1 S.2.1 d_O_isWrongAtRest_47 rfl (fun h47 => ?_) (fun h47 => ?_)
        · refine lv_iconst (v := 1) S.1 S.2.1 d_O_isWrongAtRest_71 (by decide) ?_
          refine lv_goto (tgt := 76) S.1 S.2.1 d_O_isWrongAtRest_72 rfl ?_
          exact m_iret S hlk hr rfl hw (by simp_all [b2i]) (Nat.le_refl _) (Nat.le_refl _) d_O_isWrongAtRest_76
        · refine lv_aload_n S.1 S.2.1 d_O_isWrongAtRest_50 rfl (lv_at hl 1 rfl) ?_
          refine m_get S hw cl_O ha 6 (by decide) g396 (fun _ h => h) rfl d_O_isWrongAtRest_51 ?_
          refine lv_iconst (v := 1) S.1 S.2.1 d_O_isWrongAtRest_54 (by decide) ?_
          refine lv_icmp_lt (tgt := 71) S.1 S.2.1 d_O_isWrongAtRest_55 rfl (fun h55 => ?_) (fun h55 => ?_)
          · refine lv_iconst (v := 1) S.1 S.2.1 d_O_isWrongAtRest_71 (by decide) ?_
            refine lv_goto (tgt := 76) S.1 S.2.1 d_O_isWrongAtRest_72 rfl ?_
            exact m_iret S hlk hr rfl hw (by simp_all [b2i]) (Nat.le_refl _) (Nat.le_refl _) d_O_isWrongAtRest_76
          · refine lv_aload_n S.1 S.2.1 d_O_isWrongAtRest_58 rfl (lv_at hl 1 rfl) ?_
            refine m_get S hw cl_O ha 6 (by decide) g396 (fun _ h => h) rfl d_O_isWrongAtRest_59 ?_
            refine lv_ldc S.1 S.2.1 S.2.2.2.1 (S.2.2.2.2 _ (gc g247)) d_O_isWrongAtRest_62 ?_
            refine lv_icmp_gt (tgt := 71) S.1 S.2.1 d_O_isWrongAtRest_64 rfl (fun h64 => ?_) (fun h64 => ?_)
            · refine lv_iconst (v := 1) S.1 S.2.1 d_O_isWrongAtRest_71 (by decide) ?_
              refine lv_goto (tgt := 76) S.1 S.2.1 d_O_isWrongAtRest_72 rfl ?_
              exact m_iret S hlk hr rfl hw (by simp_all [b2i]) (Nat.le_refl _) (Nat.le_refl _) d_O_isWrongAtRest_76
            · refine lv_iload_n S.1 S.2.1 d_O_isWrongAtRest_67 rfl (lv_at hl 0 rfl) ?_
              refine lv_if_eq (tgt := 75) S.1 S.2.1 d_O_isWrongAtRest_68 rfl (fun h68 => ?_) (fun h68 => ?_)
              · refine lv_iconst (v := 0) S.1 S.2.1 d_O_isWrongAtRest_75 (by decide) ?_
                exact m_iret S hlk hr rfl hw (by simp_all [b2i]) (Nat.le_refl _) (Nat.le_refl _) d_O_isWrongAtRest_76
              · refine lv_iconst (v := 1) S.1 S.2.1 d_O_isWrongAtRest_71 (by decide) ?_
                refine lv_goto (tgt := 76) S.1 S.2.1 d_O_isWrongAtRest_72 rfl ?_
                exact m_iret S hlk hr rfl hw (by simp_all [b2i]) (Nat.le_refl _) (Nat.le_refl _) d_O_isWrongAtRest_76
      · refine lv_aload_n S.1 S.2.1 d_O_isWrongAtRest_26 rfl (lv_at hl 0 rfl) ?_
        refine m_get S hw cl_O ha 7 (by decide) g399 (fun _ h => h) rfl d_O_isWrongAtRest_27 ?_
        refine lv_aload_n S.1 S.2.1 d_O_isWrongAtRest_30 rfl (lv_at hl 0 rfl) ?_
        refine m_get S hw cl_O ha 6 (by decide) g396 (fun _ h => h) rfl d_O_isWrongAtRest_31 ?_
        refine lv_icmp_eq (tgt := 41) S.1 S.2.1 d_O_isWrongAtRest_34 rfl (fun h34 => ?_) (fun h34 => ?_)
        · refine lv_iconst (v := 0) S.1 S.2.1 d_O_isWrongAtRest_41 (by decide) ?_
          refine lv_istore_n S.1 S.2.1 d_O_isWrongAtRest_42 rfl hl (by decide) rfl (fun ls hl => ?_)
          have hl : lv_has ls 2 [(1, .int 0), (0, .ref a)] := hl
          refine lv_aload_n S.1 S.2.1 d_O_isWrongAtRest_43 rfl (lv_at hl 1 rfl) ?_
          refine m_ci hw (va_runV (As := []) (rest := []) S (c_O_rests l γ M a _ _ _ _ _ _ _ _ _ _ ha) (m_cwV 0 S g243 g244 g245 g54 g246 rfl rfl ⟨by decide +kernel, by decide +kernel, by decide +kernel⟩ ⟨(Nat.le_of_ble_eq_true rfl), (Nat.le_of_ble_eq_true rfl)⟩) (hw.preV ha cl_O.1) rfl rfl hl.1 rfl (lv_room (Nat.le_of_ble_eq_true rfl)) d_O_isWrongAtRest_44 ⟨(Nat.zero_le _), (Nat.zero_le _)⟩) (fun r1 M1 H locs hp hw => ?_)
          obtain ⟨rfl, hM1⟩ := hp
          rw [hM1] at hw
          refine lv_if_eq (tgt := 71) S.1 S.2.1 d_O_isWrongAtRest_47 rfl (fun h47 => ?_) (fun h47 => ?_)
          · refine lv_iconst (v := 1) S.1 S.2.1 d_O_isWrongAtRest_71 (by decide) ?_
            refine lv_goto (tgt := 76) S.1 S.2.1 d_O_isWrongAtRest_72 rfl ?_
            exact m_iret S hlk hr rfl hw (by simp_all [b2i]) (Nat.le_refl _) (Nat.le_refl _) d_O_isWrongAtRest_76
          · refine lv_aload_n S.1 S.2.1 d_O_isWrongAtRest_50 rfl (lv_at hl 1 rfl) ?_
            refine m_get S hw cl_O ha 6 (by decide) g396 (fun _ h => h) rfl d_O_isWrongAtRest_51 ?_
            refine lv_iconst (v := 1) S.1 S.2.1 d_O_isWrongAtRest_54 (by decide) ?_
            refine lv_icmp_lt (tgt := 71) S.1 S.2.1 d_O_isWrongAtRest_55 rfl (fun h55 => ?_) (fun h55 => ?_)
            · refine lv_iconst (v := 1) S.1 S.2.1 d_O_isWrongAtRest_71 (by decide) ?_
              refine lv_goto (tgt := 76) S.1 S.2.1 d_O_isWrongAtRest_72 rfl ?_
              exact m_iret S hlk hr rfl hw (by simp_all [b2i]) (Nat.le_refl _) (Nat.le_refl _) d_O_isWrongAtRest_76
            · refine lv_aload_n S.1 S.2.1 d_O_isWrongAtRest_58 rfl (lv_at hl 1 rfl) ?_
              refine m_get S hw cl_O ha 6 (by decide) g396 (fun _ h => h) rfl d_O_isWrongAtRest_59 ?_
              refine lv_ldc S.1 S.2.1 S.2.2.2.1 (S.2.2.2.2 _ (gc g247)) d_O_isWrongAtRest_62 ?_
              refine lv_icmp_gt (tgt := 71) S.1 S.2.1 d_O_isWrongAtRest_64 rfl (fun h64 => ?_) (fun h64 => ?_)
              · refine lv_iconst (v := 1) S.1 S.2.1 d_O_isWrongAtRest_71 (by decide) ?_
                refine lv_goto (tgt := 76) S.1 S.2.1 d_O_isWrongAtRest_72 rfl ?_
                exact m_iret S hlk hr rfl hw (by simp_all [b2i]) (Nat.le_refl _) (Nat.le_refl _) d_O_isWrongAtRest_76
              · refine lv_iload_n S.1 S.2.1 d_O_isWrongAtRest_67 rfl (lv_at hl 0 rfl) ?_
                refine lv_if_eq (tgt := 75) S.1 S.2.1 d_O_isWrongAtRest_68 rfl (fun h68 => ?_) (fun h68 => ?_)
                · refine lv_iconst (v := 0) S.1 S.2.1 d_O_isWrongAtRest_75 (by decide) ?_
                  exact m_iret S hlk hr rfl hw (by simp_all [b2i]) (Nat.le_refl _) (Nat.le_refl _) d_O_isWrongAtRest_76
                · refine lv_iconst (v := 1) S.1 S.2.1 d_O_isWrongAtRest_71 (by decide) ?_
                  refine lv_goto (tgt := 76) S.1 S.2.1 d_O_isWrongAtRest_72 rfl ?_
                  exact m_iret S hlk hr rfl hw (by simp_all [b2i]) (Nat.le_refl _) (Nat.le_refl _) d_O_isWrongAtRest_76
        · refine lv_iconst (v := 1) S.1 S.2.1 d_O_isWrongAtRest_37 (by decide) ?_
          refine lv_goto (tgt := 42) S.1 S.2.1 d_O_isWrongAtRest_38 rfl ?_
          refine lv_istore_n S.1 S.2.1 d_O_isWrongAtRest_42 rfl hl (by decide) rfl (fun ls hl => ?_)
          have hl : lv_has ls 2 [(1, .int 1), (0, .ref a)] := hl
          refine lv_aload_n S.1 S.2.1 d_O_isWrongAtRest_43 rfl (lv_at hl 1 rfl) ?_
          refine m_ci hw (va_runV (As := []) (rest := []) S (c_O_rests l γ M a _ _ _ _ _ _ _ _ _ _ ha) (m_cwV 0 S g243 g244 g245 g54 g246 rfl rfl ⟨by decide +kernel, by decide +kernel, by decide +kernel⟩ ⟨(Nat.le_of_ble_eq_true rfl), (Nat.le_of_ble_eq_true rfl)⟩) (hw.preV ha cl_O.1) rfl rfl hl.1 rfl (lv_room (Nat.le_of_ble_eq_true rfl)) d_O_isWrongAtRest_44 ⟨(Nat.zero_le _), (Nat.zero_le _)⟩) (fun r1 M1 H locs hp hw => ?_)
          obtain ⟨rfl, hM1⟩ := hp
          rw [hM1] at hw
          refine lv_if_eq (tgt := 71) S.1 S.2.1 d_O_isWrongAtRest_47 rfl (fun h47 => ?_) (fun h47 => ?_)
          · refine lv_iconst (v := 1) S.1 S.2.1 d_O_isWrongAtRest_71 (by decide) ?_
            refine lv_goto (tgt := 76) S.1 S.2.1 d_O_isWrongAtRest_72 rfl ?_
            exact m_iret S hlk hr rfl hw (by simp_all [b2i]) (Nat.le_refl _) (Nat.le_refl _) d_O_isWrongAtRest_76
          · refine lv_aload_n S.1 S.2.1 d_O_isWrongAtRest_50 rfl (lv_at hl 1 rfl) ?_
            refine m_get S hw cl_O ha 6 (by decide) g396 (fun _ h => h) rfl d_O_isWrongAtRest_51 ?_
            refine lv_iconst (v := 1) S.1 S.2.1 d_O_isWrongAtRest_54 (by decide) ?_
            refine lv_icmp_lt (tgt := 71) S.1 S.2.1 d_O_isWrongAtRest_55 rfl (fun h55 => ?_) (fun h55 => ?_)
            · refine lv_iconst (v := 1) S.1 S.2.1 d_O_isWrongAtRest_71 (by decide) ?_
              refine lv_goto (tgt := 76) S.1 S.2.1 d_O_isWrongAtRest_72 rfl ?_
              exact m_iret S hlk hr rfl hw (by simp_all [b2i]) (Nat.le_refl _) (Nat.le_refl _) d_O_isWrongAtRest_76
            · refine lv_aload_n S.1 S.2.1 d_O_isWrongAtRest_58 rfl (lv_at hl 1 rfl) ?_
              refine m_get S hw cl_O ha 6 (by decide) g396 (fun _ h => h) rfl d_O_isWrongAtRest_59 ?_
              refine lv_ldc S.1 S.2.1 S.2.2.2.1 (S.2.2.2.2 _ (gc g247)) d_O_isWrongAtRest_62 ?_
              refine lv_icmp_gt (tgt := 71) S.1 S.2.1 d_O_isWrongAtRest_64 rfl (fun h64 => ?_) (fun h64 => ?_)
              · refine lv_iconst (v := 1) S.1 S.2.1 d_O_isWrongAtRest_71 (by decide) ?_
                refine lv_goto (tgt := 76) S.1 S.2.1 d_O_isWrongAtRest_72 rfl ?_
                exact m_iret S hlk hr rfl hw (by simp_all [b2i]) (Nat.le_refl _) (Nat.le_refl _) d_O_isWrongAtRest_76
              · refine lv_iload_n S.1 S.2.1 d_O_isWrongAtRest_67 rfl (lv_at hl 0 rfl) ?_
                refine lv_if_eq (tgt := 75) S.1 S.2.1 d_O_isWrongAtRest_68 rfl (fun h68 => ?_) (fun h68 => ?_)
                · refine lv_iconst (v := 0) S.1 S.2.1 d_O_isWrongAtRest_75 (by decide) ?_
                  exact m_iret S hlk hr rfl hw (by simp_all [b2i]) (Nat.le_refl _) (Nat.le_refl _) d_O_isWrongAtRest_76
                · refine lv_iconst (v := 1) S.1 S.2.1 d_O_isWrongAtRest_71 (by decide) ?_
                  refine lv_goto (tgt := 76) S.1 S.2.1 d_O_isWrongAtRest_72 rfl ?_
                  exact m_iret S hlk hr rfl hw (by simp_all [b2i]) (Nat.le_refl _) (Nat.le_refl _) d_O_isWrongAtRest_76
end
section
/-! ArrayList and what it calls -/
set_option maxHeartbeats 4000000 in
set_option maxRecDepth 100000 in
theorem c_AbC_init (l : Launch) (γ : mG) (M : mMap) (a : Nat) : Met l y_AbC_init w_AbC_init ({ frames := 1, cells := 0, slots := 0, locals := 20 } : Room) (mPc γ M [.ref a]) (mQv γ (fun M' => M' = M)) 0 0 (mA (gz γ)) := by
  refine m_enter (by decide) (Nat.le_of_ble_eq_true rfl) ?_
  intro p e s m below meth c ls S hr hlk hnm hl hw
  have hl : lv_has ls 1 [(0, .ref a)] := hl
  refine lv_aload_n S.1 S.2.1 d_AbC_init_0 rfl (lv_at hl 0 rfl) ?_
  refine W.objInit S.1 S.2.1 S.2.2.2.1 (S.2.2.2.2 _ (gc g81)) (S.2.2.2.2 _ (gc g68)) (S.2.2.2.2 _ (gc g69)) rfl (by rw [S.2.2.1]; exact hl.1) rfl d_AbC_init_1 (Nat.le_of_ble_eq_true rfl) (Nat.le_of_ble_eq_true rfl) ?_
  refine W.eq (g2 := F0 m 4 ls []) rfl ?_
  exact m_vret S hlk hr hw rfl (Nat.le_refl _) (Nat.le_refl _) d_AbC_init_4
set_option maxHeartbeats 4000000 in
set_option maxRecDepth 100000 in
theorem c_AbL_init (l : Launch) (γ : mG) (M : mMap) (a : Nat) (md z : Int32) (rv : Value) (ha : M a = some (.inr (0, [.int md, rv, .int z]))) : Met l y_AbL_init w_AbL_init ({ frames := 2, cells := 0, slots := 0, locals := 40 } : Room) (mPc γ M [.ref a]) (mQv γ (fun M' => M' = mU M a (.inr (0, [.int 0, rv, .int z])))) 0 0 (mA (gz γ)) := by
  refine m_enter (by decide) (Nat.le_of_ble_eq_true rfl) ?_
  intro p e s m below meth c ls S hr hlk hnm hl hw
  have hl : lv_has ls 1 [(0, .ref a)] := hl
  refine lv_aload_n S.1 S.2.1 d_AbL_init_0 rfl (lv_at hl 0 rfl) ?_
  refine m_cv hw (va_runI (As := []) (rest := []) S (c_AbC_init l γ M a) (m_cwI 0 S g78 g79 g42 g80 rfl rfl rfl ⟨by decide +kernel, by decide +kernel, by decide +kernel⟩ ⟨(Nat.le_of_ble_eq_true rfl), (Nat.le_of_ble_eq_true rfl)⟩) hw.preS rfl rfl hl.1 rfl (lv_room (Nat.le_of_ble_eq_true rfl)) d_AbL_init_1 ⟨(Nat.zero_le _), (Nat.zero_le _)⟩) (fun M1 H locs hp hw => ?_)
  rw [hp] at hw
  refine lv_aload_n S.1 S.2.1 d_AbL_init_4 rfl (lv_at hl 0 rfl) ?_
  refine lv_iconst (v := 0) S.1 S.2.1 d_AbL_init_5 (by decide) ?_
  refine m_put S hw cl_AL ha 0 (by decide) g86 (fun _ h => h) rfl rfl rfl (Nat.le_of_ble_eq_true rfl) d_AbL_init_6 (fun H locs hw => ?_)
  have hw : mW γ (mU M a (.inr (0, [.int 0, rv, .int z]))) s H locs := hw
  exact m_vret S hlk hr hw rfl (Nat.le_refl _) (Nat.le_refl _) d_AbL_init_9
set_option maxHeartbeats 4000000 in
set_option maxRecDepth 100000 in
theorem c_AL_init (l : Launch) (γ : mG) (M : mMap) (a : Nat) (md z : Int32) (rv : Value) (ha : M a = some (.inr (0, [.int md, rv, .int z]))) : Met l y_AL_init w_AL_init ({ frames := 3, cells := 0, slots := 0, locals := 60 } : Room) (mPc γ M [.ref a]) (mQv γ (fun M' => M' = mU M a (.inr (0, [.int 0, .ref (ge γ), .int z])))) 0 0 (mA (gz γ)) := by
  refine m_enter (by decide) (Nat.le_of_ble_eq_true rfl) ?_
  intro p e s m below meth c ls S hr hlk hnm hl hw
  have hl : lv_has ls 1 [(0, .ref a)] := hl
  refine lv_aload_n S.1 S.2.1 d_AL_init_0 rfl (lv_at hl 0 rfl) ?_
  refine m_cv hw (va_runI (As := []) (rest := []) S (c_AbL_init l γ M a md z rv ha) (m_cwI 0 S g75 g76 g43 g77 rfl rfl rfl ⟨by decide +kernel, by decide +kernel, by decide +kernel⟩ ⟨(Nat.le_of_ble_eq_true rfl), (Nat.le_of_ble_eq_true rfl)⟩) hw.preS rfl rfl hl.1 rfl (lv_room (Nat.le_of_ble_eq_true rfl)) d_AL_init_1 ⟨(Nat.zero_le _), (Nat.zero_le _)⟩) (fun M1 H locs hp hw => ?_)
  rw [hp] at hw
  refine lv_aload_n S.1 S.2.1 d_AL_init_4 rfl (lv_at hl 0 rfl) ?_
  refine m_gets S hw g82 d_AL_init_5 ?_
  refine m_put S hw cl_AL (mU_eq _ _ _) 1 (by decide) g84 (fun _ h => h) rfl rfl rfl (Nat.le_of_ble_eq_true rfl) d_AL_init_8 (fun H locs hw => ?_)
  have hw : mW γ (mU (mU M a (.inr (0, [.int 0, rv, .int z]))) a (.inr (0, [.int 0, .ref (ge γ), .int z]))) s H locs := hw
  exact m_vret S hlk hr hw (mU_uu _ _ _ _) (Nat.le_refl _) (Nat.le_refl _) d_AL_init_11
set_option maxHeartbeats 4000000 in
set_option maxRecDepth 100000 in
theorem c_AL_size (l : Launch) (γ : mG) (M : mMap) (a : Nat) (md z : Int32) (rv : Value) (ha : M a = some (.inr (0, [.int md, rv, .int z]))) : Met l y_AL_size w_AL_size ({ frames := 0, cells := 0, slots := 0, locals := 0 } : Room) (mPc γ M [.ref a]) (mQi γ (fun r M' => r = z ∧ M' = M)) 0 0 (mA (gz γ)) := by
  refine m_enter (by decide) (Nat.le_of_ble_eq_true rfl) ?_
  intro p e s m below meth c ls S hr hlk hnm hl hw
  have hl : lv_has ls 1 [(0, .ref a)] := hl
  refine lv_aload_n S.1 S.2.1 d_AL_size_0 rfl (lv_at hl 0 rfl) ?_
  refine m_get S hw cl_AL ha 2 (by decide) g85 (fun _ h => h) rfl d_AL_size_1 ?_
  exact m_iret S hlk hr rfl hw (⟨rfl, rfl⟩) (Nat.le_refl _) (Nat.le_refl _) d_AL_size_4
set_option maxHeartbeats 4000000 in
set_option maxRecDepth 100000 in
theorem c_AL_isEmpty (l : Launch) (γ : mG) (M : mMap) (a : Nat) (md z : Int32) (rv : Value) (ha : M a = some (.inr (0, [.int md, rv, .int z]))) : Met l y_AL_isEmpty w_AL_isEmpty ({ frames := 0, cells := 0, slots := 0, locals := 0 } : Room) (mPc γ M [.ref a]) (mQi γ (fun r M' => r = b2i (decide (z = 0)) ∧ M' = M)) 0 0 (mA (gz γ)) := by
  refine m_enter (by decide) (Nat.le_of_ble_eq_true rfl) ?_
  intro p e s m below meth c ls S hr hlk hnm hl hw
  have hl : lv_has ls 1 [(0, .ref a)] := hl
  refine lv_aload_n S.1 S.2.1 d_AL_isEmpty_0 rfl (lv_at hl 0 rfl) ?_
  refine m_get S hw cl_AL ha 2 (by decide) g85 (fun _ h => h) rfl d_AL_isEmpty_1 ?_
  refine lv_if_ne (tgt := 11) S.1 S.2.1 d_AL_isEmpty_4 rfl (fun h4 => ?_) (fun h4 => ?_)
  · refine lv_iconst (v := 0) S.1 S.2.1 d_AL_isEmpty_11 (by decide) ?_
    exact m_iret S hlk hr rfl hw (by simp [b2i, h4]) (Nat.le_refl _) (Nat.le_refl _) d_AL_isEmpty_12
  · refine lv_iconst (v := 1) S.1 S.2.1 d_AL_isEmpty_7 (by decide) ?_
    refine lv_goto (tgt := 12) S.1 S.2.1 d_AL_isEmpty_8 rfl ?_
    exact m_iret S hlk hr rfl hw (by simp [b2i, h4]) (Nat.le_refl _) (Nat.le_refl _) d_AL_isEmpty_12
set_option maxHeartbeats 4000000 in
set_option maxRecDepth 100000 in
theorem c_Pc_checkIndex (l : Launch) (γ : mG) (M : mMap) (j n : Int32) (h0 : ¬ j < 0) (h1 : j < n) : Met l y_Pc_checkIndex w_Pc_checkIndex ({ frames := 0, cells := 0, slots := 0, locals := 0 } : Room) (mPc γ M [.int j, .int n, .null]) (mQi γ (fun r M' => r = j ∧ M' = M)) 0 0 (mA (gz γ)) := by
  refine m_enter (by decide) (Nat.le_of_ble_eq_true rfl) ?_
  intro p e s m below meth c ls S hr hlk hnm hl hw
  have hl : lv_has ls 3 [(0, .int j), (1, .int n), (2, .null)] := hl
  refine lv_iload_n S.1 S.2.1 d_Pc_checkIndex_0 rfl (lv_at hl 0 rfl) ?_
  refine lv_if_lt (tgt := 9) S.1 S.2.1 d_Pc_checkIndex_1 rfl (fun h => absurd h h0) (fun _ => ?_)
  refine lv_iload_n S.1 S.2.1 d_Pc_checkIndex_4 rfl (lv_at hl 0 rfl) ?_
  refine lv_iload_n S.1 S.2.1 d_Pc_checkIndex_5 rfl (lv_at hl 1 rfl) ?_
  refine lv_icmp_lt (tgt := 16) S.1 S.2.1 d_Pc_checkIndex_6 rfl (fun _ => ?_) (fun h => absurd h1 h)
  refine lv_iload_n S.1 S.2.1 d_Pc_checkIndex_16 rfl (lv_at hl 0 rfl) ?_
  exact m_iret S hlk hr rfl hw (⟨rfl, rfl⟩) (Nat.le_refl _) (Nat.le_refl _) d_Pc_checkIndex_17
set_option maxHeartbeats 4000000 in
set_option maxRecDepth 100000 in
theorem c_Ob_checkIndex (l : Launch) (γ : mG) (M : mMap) (j n : Int32) (h0 : ¬ j < 0) (h1 : j < n) : Met l y_Ob_checkIndex w_Ob_checkIndex ({ frames := 1, cells := 0, slots := 0, locals := 22 } : Room) (mPc γ M [.int j, .int n]) (mQi γ (fun r M' => r = j ∧ M' = M)) 0 0 (mA (gz γ)) := by
  refine m_enter (by decide) (Nat.le_of_ble_eq_true rfl) ?_
  intro p e s m below meth c ls S hr hlk hnm hl hw
  have hl : lv_has ls 2 [(0, .int j), (1, .int n)] := hl
  refine lv_iload_n S.1 S.2.1 d_Ob_checkIndex_0 rfl (lv_at hl 0 rfl) ?_
  refine lv_iload_n S.1 S.2.1 d_Ob_checkIndex_1 rfl (lv_at hl 1 rfl) ?_
  refine lv_null S.1 S.2.1 d_Ob_checkIndex_2 ?_
  refine m_ci hw (va_runS (As := [.int j, .int n, .null]) (rest := []) S (c_Pc_checkIndex l γ M j n h0 h1) (m_cwS 3 S g196 g197 g60 g198 rfl rfl ⟨by decide +kernel, by decide +kernel, by decide +kernel⟩ ⟨(Nat.le_of_ble_eq_true rfl), (Nat.le_of_ble_eq_true rfl)⟩) hw.preS rfl rfl hl.1 rfl (lv_room (Nat.le_of_ble_eq_true rfl)) d_Ob_checkIndex_3 ⟨(Nat.zero_le _), (Nat.zero_le _)⟩) (fun r1 M1 H locs hp hw => ?_)
  obtain ⟨rfl, hM1⟩ := hp
  rw [hM1] at hw
  exact m_iret S hlk hr rfl hw (⟨rfl, rfl⟩) (Nat.le_refl _) (Nat.le_refl _) d_Ob_checkIndex_6
set_option maxHeartbeats 4000000 in
set_option maxRecDepth 100000 in
theorem c_AL_elementData (l : Launch) (γ : mG) (M : mMap) (a : Nat) (md z : Int32) (rr n : Nat) (f : Nat → Option Nat) (ha : M a = some (.inr (0, [.int md, .ref rr, .int z]))) (hr0 : M rr = some (.inl (gA γ 3, n, .inr (.inr (.inr (.inr f)))))) (k : Nat) (hk : k < n) (hn : n < 2 ^ 31) : Met l y_AL_elementData w_AL_elementData ({ frames := 0, cells := 0, slots := 0, locals := 0 } : Room) (mPc γ M [.ref a, .int (nI k)]) (mQq γ (fun r M' => r = f k ∧ M' = M)) 0 0 (mA (gz γ)) := by
  refine m_enter (by decide) (Nat.le_of_ble_eq_true rfl) ?_
  intro p e s m below meth c ls S hr hlk hnm hl hw
  have hl : lv_has ls 2 [(0, .ref a), (1, .int (nI k))] := hl
  refine lv_aload_n S.1 S.2.1 d_AL_elementData_0 rfl (lv_at hl 0 rfl) ?_
  refine m_get S hw cl_AL ha 1 (by decide) g84 (fun _ h => h) rfl d_AL_elementData_1 ?_
  refine lv_iload_n S.1 S.2.1 d_AL_elementData_4 rfl (lv_at hl 1 rfl) ?_
  refine m_aald S hw hr0 (vp_in_nI hk hn) d_AL_elementData_5 ?_
  exact m_aret (r := (f (nI k : Int32).toNatClampNeg)) S hlk hr (Or.inl ⟨_, rfl⟩) hw (⟨by rw [nI_clamp (by omega)], rfl⟩) (Nat.le_refl _) (Nat.le_refl _) d_AL_elementData_6
set_option maxHeartbeats 4000000 in
set_option maxRecDepth 100000 in
theorem c_AL_get (l : Launch) (γ : mG) (M : mMap) (a rr cap : Nat) (xs : List Nat) (hA : AL γ M a rr cap xs) (k : Nat) (hk : k < xs.length) : Met l y_AL_get w_AL_get ({ frames := 2, cells := 0, slots := 0, locals := 43 } : Room) (mPc γ M [.ref a, .int (nI k)]) (mQq γ (fun r M' => r = xs[k]? ∧ M' = M)) 0 0 (mA (gz γ)) := by
  refine m_enter (by decide) (Nat.le_of_ble_eq_true rfl) ?_
  intro p e s m below meth c ls S hr hlk hnm hl hw
  have hl : lv_has ls 2 [(0, .ref a), (1, .int (nI k))] := hl
  obtain ⟨md, f, ha, hr0, hct, hle, hcap, h10⟩ := hA.pos hk
  refine lv_iload_n S.1 S.2.1 d_AL_get_0 rfl (lv_at hl 1 rfl) ?_
  refine lv_aload_n S.1 S.2.1 d_AL_get_1 rfl (lv_at hl 0 rfl) ?_
  refine m_get S hw cl_AL ha 2 (by decide) g85 (fun _ h => h) rfl d_AL_get_2 ?_
  refine m_ci hw (va_runS (As := [.int (nI k), .int (nI xs.length)]) (rest := []) S (c_Ob_checkIndex l γ M (nI k) (nI xs.length) (nI_pos (by omega)) (nI_lt hk (by omega))) (m_cwS 2 S g193 g194 g59 g195 rfl rfl ⟨by decide +kernel, by decide +kernel, by decide +kernel⟩ ⟨(Nat.le_of_ble_eq_true rfl), (Nat.le_of_ble_eq_true rfl)⟩) hw.preS rfl rfl hl.1 rfl (lv_room (Nat.le_of_ble_eq_true rfl)) d_AL_get_5 ⟨(Nat.zero_le _), (Nat.zero_le _)⟩) (fun r1 M1 H locs hp hw => ?_)
  obtain ⟨rfl, hM1⟩ := hp
  rw [hM1] at hw
  refine lv_pop S.1 S.2.1 d_AL_get_8 rfl ?_
  refine lv_aload_n S.1 S.2.1 d_AL_get_9 rfl (lv_at hl 0 rfl) ?_
  refine lv_iload_n S.1 S.2.1 d_AL_get_10 rfl (lv_at hl 1 rfl) ?_
  refine m_cq hw (va_runV (As := [.int (nI k)]) (rest := []) S (c_AL_elementData l γ M a md _ rr cap f ha hr0 k (by omega) (by omega)) (m_cwV 1 S g199 g200 g201 g44 g202 rfl rfl ⟨by decide +kernel, by decide +kernel, by decide +kernel⟩ ⟨(Nat.le_of_ble_eq_true rfl), (Nat.le_of_ble_eq_true rfl)⟩) (hw.preV ha cl_AL.1) rfl rfl hl.1 rfl (lv_room (Nat.le_of_ble_eq_true rfl)) d_AL_get_11 ⟨(Nat.zero_le _), (Nat.zero_le _)⟩) (fun r1 M1 H locs hp hw => ?_)
  obtain ⟨rfl, hM1⟩ := hp
  rw [hM1] at hw
  exact m_aret (r := (f k)) S hlk hr (Or.inl ⟨_, rfl⟩) hw (⟨hct k hk, rfl⟩) (Nat.le_refl _) (Nat.le_refl _) d_AL_get_14
end
section
/-! ArrayList: growing, adding, removing -/
set_option maxHeartbeats 4000000 in
set_option maxRecDepth 100000 in
theorem c_As_newLength (l : Launch) (γ : mG) (M : mMap) (o0 g0 p0 v0 : Int32) (hv : o0 + (if g0 < p0 then p0 else g0) = v0) (h0 : ¬ v0 ≤ 0) (h1 : ¬ 2147483639 < v0) : Met l y_As_newLength w_As_newLength ({ frames := 1, cells := 0, slots := 0, locals := 18 } : Room) (mPc γ M [.int o0, .int g0, .int p0]) (mQi γ (fun r M' => r = v0 ∧ M' = M)) 0 0 (mA (gz γ)) := by
  refine m_enter (by decide) (Nat.le_of_ble_eq_true rfl) ?_
  intro p e s m below meth c ls S hr hlk hnm hl hw
  have hl : lv_has ls 4 [(0, .int o0), (1, .int g0), (2, .int p0)] := hl
  refine lv_iload_n S.1 S.2.1 d_As_newLength_0 rfl (lv_at hl 0 rfl) ?_
  refine lv_iload_n S.1 S.2.1 d_As_newLength_1 rfl (lv_at hl 1 rfl) ?_
  refine lv_iload_n S.1 S.2.1 d_As_newLength_2 rfl (lv_at hl 2 rfl) ?_
  refine va_mmax S.1 S.2.1 (S.2.2.1.trans hl.1.symm) S.2.2.2.1 (S.2.2.2.2 _ (gc g450)) (S.2.2.2.2 _ (gc g451)) (S.2.2.2.2 _ (gc g56)) (S.2.2.2.2 _ (gc g452)) (Nat.le_of_ble_eq_true rfl) (Nat.le_of_ble_eq_true rfl) (Nat.zero_le _) (Nat.zero_le _) d_As_newLength_3 ?_
  refine lv_iadd S.1 S.2.1 d_As_newLength_6 ?_
  refine W.eq (g2 := F0 m 7 ls [.int v0]) (by rw [hv]) ?_
  refine lv_istore_n S.1 S.2.1 d_As_newLength_7 rfl hl (by decide) rfl (fun ls hl => ?_)
  have hl : lv_has ls 4 [(3, .int v0), (0, .int o0), (1, .int g0), (2, .int p0)] := hl
  refine lv_iconst (v := 0) S.1 S.2.1 d_As_newLength_8 (by decide) ?_
  refine lv_iload_n S.1 S.2.1 d_As_newLength_9 rfl (lv_at hl 0 rfl) ?_
  refine lv_icmp_ge (tgt := 21) S.1 S.2.1 d_As_newLength_10 rfl (fun h => absurd h h0) (fun _ => ?_)
  refine lv_iload_n S.1 S.2.1 d_As_newLength_13 rfl (lv_at hl 0 rfl) ?_
  refine lv_ldc S.1 S.2.1 S.2.2.2.1 (S.2.2.2.2 _ (gc g453)) d_As_newLength_14 ?_
  refine lv_icmp_gt (tgt := 21) S.1 S.2.1 d_As_newLength_16 rfl (fun h => absurd h h1) (fun _ => ?_)
  refine lv_iload_n S.1 S.2.1 d_As_newLength_19 rfl (lv_at hl 0 rfl) ?_
  exact m_iret S hlk hr rfl hw (⟨rfl, rfl⟩) (Nat.le_refl _) (Nat.le_refl _) d_As_newLength_20
set_option maxHeartbeats 4000000 in
set_option maxRecDepth 100000 in
theorem c_Ar_copyOf2 (l : Launch) (γ : mG) (M : mMap) (rr n n' : Nat) (f : Nat → Option Nat) (hr0 : M rr = some (.inl (gA γ 3, n, .inr (.inr (.inr (.inr f)))))) (ci : Nat) (xs : List Nat) (hE : mEl M ci xs) (hct : ct f xs) (hxs : xs.length = n) (hn : n ≤ n') (hn' : n' ≤ 100000) : Met l y_Ar_copyOf2 w_Ar_copyOf2 ({ frames := 1, cells := 1, slots := n', locals := 48 } : Room) (mPc γ M [.ref rr, .int (nI n'), .ref (gm γ)]) (mQq γ (fun r M' => ∃ q, r = some q ∧ M q = none ∧ M' = mU M q (.inl (gA γ 3, n', .inr (.inr (.inr (.inr (va_cpy f (fun _ => none) 0 0 n)))))))) 1 n' (mA (gz γ)) := by
  refine m_enter (by decide) (Nat.le_of_ble_eq_true rfl) ?_
  intro p e s m below meth c ls S hr hlk hnm hl hw
  have hl : lv_has ls 4 [(0, .ref rr), (1, .int (nI n')), (2, .ref (gm γ))] := hl
  refine lv_aload_n S.1 S.2.1 d_Ar_copyOf2_0 rfl (lv_at hl 2 rfl) ?_
  refine m_ldcM S hw g477 d_Ar_copyOf2_1 ?_
  refine lv_acmp_ne (rx := (some (gm γ))) (ry := (some (gm γ))) (tgt := 13) S.1 S.2.1 d_Ar_copyOf2_3 rfl (fun h => absurd rfl h) (fun _ => ?_)
  refine lv_iload_n S.1 S.2.1 d_Ar_copyOf2_6 rfl (lv_at hl 1 rfl) ?_
  refine m_newq (N' := n') S hw g479 (nI_pos (by omega)) (nI_clamp (by omega)) (by omega) (Nat.le_refl _) (Nat.le_of_eq (Nat.zero_add _)) d_Ar_copyOf2_7 (fun q H hq hz hw => ?_)
  refine lv_goto (tgt := 24) S.1 S.2.1 d_Ar_copyOf2_10 rfl ?_
  refine lv_astore_n S.1 S.2.1 d_Ar_copyOf2_24 rfl hl (by decide) rfl (fun ls hl => ?_)
  have hl : lv_has ls 4 [(3, .ref q), (0, .ref rr), (1, .int (nI n')), (2, .ref (gm γ))] := hl
  refine lv_aload_n S.1 S.2.1 d_Ar_copyOf2_25 rfl (lv_at hl 1 rfl) ?_
  refine lv_iconst (v := 0) S.1 S.2.1 d_Ar_copyOf2_26 (by decide) ?_
  refine lv_aload_n S.1 S.2.1 d_Ar_copyOf2_27 rfl (lv_at hl 0 rfl) ?_
  refine lv_iconst (v := 0) S.1 S.2.1 d_Ar_copyOf2_28 (by decide) ?_
  refine lv_aload_n S.1 S.2.1 d_Ar_copyOf2_29 rfl (lv_at hl 1 rfl) ?_
  refine m_alen S hw 3 (mU_to (m_fne hr0 hq) hr0) rfl rfl d_Ar_copyOf2_30 ?_
  refine lv_iload_n S.1 S.2.1 d_Ar_copyOf2_31 rfl (lv_at hl 2 rfl) ?_
  refine va_mmin S.1 S.2.1 (S.2.2.1.trans hl.1.symm) S.2.2.2.1 (S.2.2.2.2 _ (gc g480)) (S.2.2.2.2 _ (gc g241)) (S.2.2.2.2 _ (gc g56)) (S.2.2.2.2 _ (gc g242)) (Nat.le_of_ble_eq_true rfl) (Nat.le_of_ble_eq_true rfl) (Nat.le_refl _) (Nat.le_of_eq (Nat.zero_add _)) d_Ar_copyOf2_32 ?_
  refine m_copy S hw hl.1 g481 (mU_to (m_fne hr0 hq) hr0) (mU_eq _ _ _) (hE.new hq) (sp' := 0) (dp' := 0) (n' := n) rfl rfl (if_neg (nI_nlt (by omega) (by omega))) (by omega) (by omega) (by omega) (by omega) (by omega) (fun k hk y hy => ct_mem hct (by omega) hk (by rw [Nat.zero_add] at hy; exact hy)) (Nat.le_of_ble_eq_true rfl) (Nat.le_of_ble_eq_true rfl) d_Ar_copyOf2_35 (fun H locs hw => ?_)
  refine lv_aload_n S.1 S.2.1 d_Ar_copyOf2_38 rfl (lv_at hl 0 rfl) ?_
  exact m_aret (r := (some q)) S hlk hr (Or.inr ⟨_, rfl⟩) hw (⟨q, rfl, hq, by rw [mU_uu]⟩) (Nat.le_refl _) (Nat.le_of_eq (Nat.zero_add _)) d_Ar_copyOf2_39
set_option maxHeartbeats 4000000 in
set_option maxRecDepth 100000 in
theorem c_Ar_copyOf (l : Launch) (γ : mG) (M : mMap) (rr n n' : Nat) (f : Nat → Option Nat) (hr0 : M rr = some (.inl (gA γ 3, n, .inr (.inr (.inr (.inr f)))))) (ci : Nat) (xs : List Nat) (hE : mEl M ci xs) (hct : ct f xs) (hxs : xs.length = n) (hn : n ≤ n') (hn' : n' ≤ 100000) : Met l y_Ar_copyOf w_Ar_copyOf ({ frames := 2, cells := 1, slots := n', locals := 71 } : Room) (mPc γ M [.ref rr, .int (nI n')]) (mQq γ (fun r M' => ∃ q, r = some q ∧ M q = none ∧ M' = mU M q (.inl (gA γ 3, n', .inr (.inr (.inr (.inr (va_cpy f (fun _ => none) 0 0 n)))))))) 1 n' (mA (gz γ)) := by
  refine m_enter (by decide) (Nat.le_of_ble_eq_true rfl) ?_
  intro p e s m below meth c ls S hr hlk hnm hl hw
  have hl : lv_has ls 2 [(0, .ref rr), (1, .int (nI n'))] := hl
  refine lv_aload_n S.1 S.2.1 d_Ar_copyOf_0 rfl (lv_at hl 0 rfl) ?_
  refine lv_iload_n S.1 S.2.1 d_Ar_copyOf_1 rfl (lv_at hl 1 rfl) ?_
  refine lv_aload_n S.1 S.2.1 d_Ar_copyOf_2 rfl (lv_at hl 0 rfl) ?_
  refine m_getC S hw hl.1 hr0 g460 (Nat.le_of_ble_eq_true rfl) (Nat.le_of_ble_eq_true rfl) d_Ar_copyOf_3 ?_
  refine m_cq hw (va_runS (As := [.ref rr, .int (nI n'), .ref (gm γ)]) (rest := []) S (c_Ar_copyOf2 l γ M rr n n' f hr0 ci xs hE hct hxs hn hn') (m_cwS 3 S g474 g475 g57 g476 rfl rfl ⟨by decide +kernel, by decide +kernel, by decide +kernel⟩ ⟨(Nat.le_of_ble_eq_true rfl), (Nat.le_of_ble_eq_true rfl)⟩) hw.preS rfl rfl hl.1 rfl (lv_room (Nat.le_of_ble_eq_true rfl)) d_Ar_copyOf_6 ⟨(Nat.le_of_eq (Nat.zero_add _)), (Nat.le_of_eq (Nat.zero_add _))⟩) (fun r1 M1 H locs hp hw => ?_)
  obtain ⟨q, rfl, hq, hM1⟩ := hp
  rw [hM1] at hw
  exact m_aret (r := (some q)) S hlk hr (Or.inr ⟨_, rfl⟩) hw (⟨q, rfl, hq, rfl⟩) (Nat.le_of_eq (Nat.zero_add _)) (Nat.le_of_eq (Nat.zero_add _)) d_Ar_copyOf_9
set_option maxHeartbeats 4000000 in
set_option maxRecDepth 100000 in
theorem c_AL_grow2E (l : Launch) (γ : mG) (M : mMap) (a : Nat) (md : Int32) (ha : M a = some (.inr (0, [.int md, .ref (ge γ), .int 0]))) : Met l y_AL_grow2 w_AL_grow2 ({ frames := 1, cells := 1, slots := 10, locals := 18 } : Room) (mPc γ M [.ref a, .int 1]) (mQq γ (fun r M' => ∃ q, r = some q ∧ M q = none ∧ M' = mU (mU M q (.inl (gA γ 3, 10, .inr (.inr (.inr (.inr (fun _ => none))))))) a (.inr (0, [.int md, .ref q, .int 0])))) 1 10 (mA (gz γ)) := by
  refine m_enter (by decide) (Nat.le_of_ble_eq_true rfl) ?_
  intro p e s m below meth c ls S hr hlk hnm hl hw
  have hl : lv_has ls 4 [(0, .ref a), (1, .int 1)] := hl
  refine lv_aload_n S.1 S.2.1 d_AL_grow2_0 rfl (lv_at hl 0 rfl) ?_
  refine m_get S hw cl_AL ha 1 (by decide) g84 (fun _ h => h) rfl d_AL_grow2_1 ?_
  refine m_elen S hw d_AL_grow2_4 ?_
  refine lv_istore_n S.1 S.2.1 d_AL_grow2_5 rfl hl (by decide) rfl (fun ls hl => ?_)
  have hl : lv_has ls 4 [(2, .int 0), (0, .ref a), (1, .int 1)] := hl
  refine lv_iload_n S.1 S.2.1 d_AL_grow2_6 rfl (lv_at hl 0 rfl) ?_
  refine lv_if_gt (tgt := 20) S.1 S.2.1 d_AL_grow2_7 rfl (fun h => absurd h (by decide)) (fun _ => ?_)
  refine lv_aload_n S.1 S.2.1 d_AL_grow2_10 rfl (lv_at hl 1 rfl) ?_
  refine m_get S hw cl_AL ha 1 (by decide) g84 (fun _ h => h) rfl d_AL_grow2_11 ?_
  refine m_gets S hw g82 d_AL_grow2_14 ?_
  refine lv_acmp_eq (rx := (some (ge γ))) (ry := (some (ge γ))) (tgt := 45) S.1 S.2.1 d_AL_grow2_17 rfl (fun _ => ?_) (fun h => absurd rfl h)
  refine lv_aload_n S.1 S.2.1 d_AL_grow2_45 rfl (lv_at hl 1 rfl) ?_
  refine lv_bipush (v := 10) S.1 S.2.1 d_AL_grow2_46 (by decide) ?_
  refine lv_iload_n S.1 S.2.1 d_AL_grow2_48 rfl (lv_at hl 2 rfl) ?_
  refine va_mmax S.1 S.2.1 (S.2.2.1.trans hl.1.symm) S.2.2.2.1 (S.2.2.2.2 _ (gc g484)) (S.2.2.2.2 _ (gc g451)) (S.2.2.2.2 _ (gc g56)) (S.2.2.2.2 _ (gc g452)) (Nat.le_of_ble_eq_true rfl) (Nat.le_of_ble_eq_true rfl) (Nat.zero_le _) (Nat.zero_le _) d_AL_grow2_49 ?_
  refine m_newq (N' := 10) S hw g485 (by decide) (by decide) (by omega) (Nat.le_refl _) (Nat.le_of_eq (Nat.zero_add _)) d_AL_grow2_52 (fun q H hq hz hw => ?_)
  refine lv_dup_x1 S.1 S.2.1 d_AL_grow2_55 rfl rfl ?_
  refine m_put S hw cl_AL (mU_to (m_fne ha hq) ha) 1 (by decide) g84 (fun _ h => h) rfl rfl rfl (Nat.le_of_ble_eq_true rfl) d_AL_grow2_56 (fun H locs hw => ?_)
  have hw : mW γ (mU (mU M q (.inl (gA γ 3, 10, .inr (.inr (.inr (.inr (fun _ => none))))))) a (.inr (0, [.int md, .ref q, .int 0]))) s H locs := hw
  exact m_aret (r := (some q)) S hlk hr (Or.inr ⟨_, rfl⟩) hw (⟨q, rfl, hq, rfl⟩) (Nat.le_refl _) (Nat.le_refl _) d_AL_grow2_59
set_option maxHeartbeats 4000000 in
set_option maxRecDepth 100000 in
theorem c_AL_growE (l : Launch) (γ : mG) (M : mMap) (a : Nat) (md : Int32) (ha : M a = some (.inr (0, [.int md, .ref (ge γ), .int 0]))) : Met l y_AL_grow w_AL_grow ({ frames := 2, cells := 1, slots := 10, locals := 41 } : Room) (mPc γ M [.ref a]) (mQq γ (fun r M' => ∃ q, r = some q ∧ M q = none ∧ M' = mU (mU M q (.inl (gA γ 3, 10, .inr (.inr (.inr (.inr (fun _ => none))))))) a (.inr (0, [.int md, .ref q, .int 0])))) 1 10 (mA (gz γ)) := by
  refine m_enter (by decide) (Nat.le_of_ble_eq_true rfl) ?_
  intro p e s m below meth c ls S hr hlk hnm hl hw
  have hl : lv_has ls 1 [(0, .ref a)] := hl
  refine lv_aload_n S.1 S.2.1 d_AL_grow_0 rfl (lv_at hl 0 rfl) ?_
  refine lv_aload_n S.1 S.2.1 d_AL_grow_1 rfl (lv_at hl 0 rfl) ?_
  refine m_get S hw cl_AL ha 2 (by decide) g85 (fun _ h => h) rfl d_AL_grow_2 ?_
  refine lv_iconst (v := 1) S.1 S.2.1 d_AL_grow_5 (by decide) ?_
  refine lv_iadd S.1 S.2.1 d_AL_grow_6 ?_
  refine W.eq (g2 := F0 m 7 ls [.int 1, .ref a]) (by rfl) ?_
  refine m_cq hw (va_runV (As := [.int 1]) (rest := []) S (c_AL_grow2E l γ M a md ha) (m_cwV 1 S g443 g445 g7 g44 g446 rfl rfl ⟨by decide +kernel, by decide +kernel, by decide +kernel⟩ ⟨(Nat.le_of_ble_eq_true rfl), (Nat.le_of_ble_eq_true rfl)⟩) (hw.preV ha cl_AL.1) rfl rfl hl.1 rfl (lv_room (Nat.le_of_ble_eq_true rfl)) d_AL_grow_7 ⟨(Nat.le_of_eq (Nat.zero_add _)), (Nat.le_of_eq (Nat.zero_add _))⟩) (fun r1 M1 H locs hp hw => ?_)
  obtain ⟨q, rfl, hq, hM1⟩ := hp
  rw [hM1] at hw
  exact m_aret (r := (some q)) S hlk hr (Or.inr ⟨_, rfl⟩) hw (⟨q, rfl, hq, rfl⟩) (Nat.le_of_eq (Nat.zero_add _)) (Nat.le_of_eq (Nat.zero_add _)) d_AL_grow_10
set_option maxHeartbeats 4000000 in
set_option maxRecDepth 100000 in
theorem c_AL_grow2F (l : Launch) (γ : mG) (M : mMap) (a : Nat) (md : Int32) (rr n : Nat) (f : Nat → Option Nat) (ha : M a = some (.inr (0, [.int md, .ref rr, .int (nI n)]))) (hr0 : M rr = some (.inl (gA γ 3, n, .inr (.inr (.inr (.inr f)))))) (ci : Nat) (xs : List Nat) (hE : mEl M ci xs) (hct : ct f xs) (hxs : xs.length = n) (h2 : 2 ≤ n) (hn : n ≤ 60000) : Met l y_AL_grow2 w_AL_grow2 ({ frames := 3, cells := 1, slots := (n + n / 2), locals := 92 } : Room) (mPc γ M [.ref a, .int (nI (n + 1))]) (mQq γ (fun r M' => ∃ q, r = some q ∧ M q = none ∧ M' = mU (mU M q (.inl (gA γ 3, (n + n / 2), .inr (.inr (.inr (.inr (va_cpy f (fun _ => none) 0 0 n))))))) a (.inr (0, [.int md, .ref q, .int (nI n)])))) 1 (n + n / 2) (mA (gz γ)) := by
  refine m_enter (by decide) (Nat.le_of_ble_eq_true rfl) ?_
  intro p e s m below meth c ls S hr hlk hnm hl hw
  have hl : lv_has ls 4 [(0, .ref a), (1, .int (nI (n + 1)))] := hl
  refine lv_aload_n S.1 S.2.1 d_AL_grow2_0 rfl (lv_at hl 0 rfl) ?_
  refine m_get S hw cl_AL ha 1 (by decide) g84 (fun _ h => h) rfl d_AL_grow2_1 ?_
  refine m_alen S hw 3 hr0 rfl rfl d_AL_grow2_4 ?_
  refine lv_istore_n S.1 S.2.1 d_AL_grow2_5 rfl hl (by decide) rfl (fun ls hl => ?_)
  have hl : lv_has ls 4 [(2, .int (Int32.ofNat n)), (0, .ref a), (1, .int (nI (n + 1)))] := hl
  refine lv_iload_n S.1 S.2.1 d_AL_grow2_6 rfl (lv_at hl 0 rfl) ?_
  refine lv_if_gt (tgt := 20) S.1 S.2.1 d_AL_grow2_7 rfl (fun _ => ?_) (fun h => absurd (nI_lt (a := 0) (b := n) (by omega) (by omega)) h)
  refine lv_iload_n S.1 S.2.1 d_AL_grow2_20 rfl (lv_at hl 0 rfl) ?_
  refine lv_iload_n S.1 S.2.1 d_AL_grow2_21 rfl (lv_at hl 2 rfl) ?_
  refine lv_iload_n S.1 S.2.1 d_AL_grow2_22 rfl (lv_at hl 0 rfl) ?_
  refine lv_isub S.1 S.2.1 d_AL_grow2_23 ?_
  refine lv_iload_n S.1 S.2.1 d_AL_grow2_24 rfl (lv_at hl 0 rfl) ?_
  refine lv_iconst (v := 1) S.1 S.2.1 d_AL_grow2_25 (by decide) ?_
  refine lv_ishr S.1 S.2.1 d_AL_grow2_26 ?_
  refine m_ci hw (va_runS (As := [.int (Int32.ofNat n), .int ((nI (n + 1)) - (Int32.ofNat n)), .int ((Int32.ofNat n) >>> (1 &&& 31))]) (rest := []) S (c_As_newLength l γ M (Int32.ofNat n) (nI (n + 1) - Int32.ofNat n) (Int32.ofNat n >>> ((1 : Int32) &&& 31)) (nI (n + n / 2)) (grow_len h2 hn) (nI_nle (by omega) (by omega)) (show ¬ nI 2147483639 < nI (n + n / 2) from nI_nlt (by omega) (by decide))) (m_cwS 3 S g447 g448 g55 g449 rfl rfl ⟨by decide +kernel, by decide +kernel, by decide +kernel⟩ ⟨(Nat.le_of_ble_eq_true rfl), (Nat.le_of_ble_eq_true rfl)⟩) hw.preS rfl rfl hl.1 rfl (lv_room (Nat.le_of_ble_eq_true rfl)) d_AL_grow2_27 ⟨(Nat.zero_le _), (Nat.zero_le _)⟩) (fun r1 M1 H locs hp hw => ?_)
  obtain ⟨rfl, hM1⟩ := hp
  rw [hM1] at hw
  refine lv_istore_n S.1 S.2.1 d_AL_grow2_30 rfl hl (by decide) rfl (fun ls hl => ?_)
  have hl : lv_has ls 4 [(3, .int (nI (n + n / 2))), (2, .int (Int32.ofNat n)), (0, .ref a), (1, .int (nI (n + 1)))] := hl
  refine lv_aload_n S.1 S.2.1 d_AL_grow2_31 rfl (lv_at hl 2 rfl) ?_
  refine lv_aload_n S.1 S.2.1 d_AL_grow2_32 rfl (lv_at hl 2 rfl) ?_
  refine m_get S hw cl_AL ha 1 (by decide) g84 (fun _ h => h) rfl d_AL_grow2_33 ?_
  refine lv_iload_n S.1 S.2.1 d_AL_grow2_36 rfl (lv_at hl 0 rfl) ?_
  refine m_cq hw (va_runS (As := [.ref rr, .int (nI (n + n / 2))]) (rest := [.ref a]) S (c_Ar_copyOf l γ M rr n (n + n / 2) f hr0 ci xs hE hct hxs (by omega) (by omega)) (m_cwS 2 S g457 g458 g57 g459 rfl rfl ⟨by decide +kernel, by decide +kernel, by decide +kernel⟩ ⟨(Nat.le_of_ble_eq_true rfl), (Nat.le_of_ble_eq_true rfl)⟩) hw.preS rfl rfl hl.1 rfl (lv_room (Nat.le_of_ble_eq_true rfl)) d_AL_grow2_37 ⟨(Nat.le_of_eq (Nat.zero_add _)), (by show 0 + 0 + (n + n / 2) ≤ n + n / 2; omega)⟩) (fun r1 M1 H locs hp hw => ?_)
  obtain ⟨q, rfl, hq, hM1⟩ := hp
  rw [hM1] at hw
  refine lv_dup_x1 S.1 S.2.1 d_AL_grow2_40 rfl rfl ?_
  refine m_put S hw cl_AL (mU_to (m_fne ha hq) ha) 1 (by decide) g84 (fun _ h => h) rfl rfl rfl (Nat.le_of_ble_eq_true rfl) d_AL_grow2_41 (fun H locs hw => ?_)
  have hw : mW γ (mU (mU M q (.inl (gA γ 3, (n + n / 2), .inr (.inr (.inr (.inr (va_cpy f (fun _ => none) 0 0 n))))))) a (.inr (0, [.int md, .ref q, .int (nI n)]))) s H locs := hw
  exact m_aret (r := (some q)) S hlk hr (Or.inr ⟨_, rfl⟩) hw (⟨q, rfl, hq, rfl⟩) (Nat.le_of_eq (Nat.zero_add _)) (by show 0 + 0 + (n + n / 2) ≤ n + n / 2; omega) d_AL_grow2_44
set_option maxHeartbeats 4000000 in
set_option maxRecDepth 100000 in
theorem c_AL_growF (l : Launch) (γ : mG) (M : mMap) (a : Nat) (md : Int32) (rr n : Nat) (f : Nat → Option Nat) (ha : M a = some (.inr (0, [.int md, .ref rr, .int (nI n)]))) (hr0 : M rr = some (.inl (gA γ 3, n, .inr (.inr (.inr (.inr f)))))) (ci : Nat) (xs : List Nat) (hE : mEl M ci xs) (hct : ct f xs) (hxs : xs.length = n) (h2 : 2 ≤ n) (hn : n ≤ 60000) : Met l y_AL_grow w_AL_grow ({ frames := 4, cells := 1, slots := (n + n / 2), locals := 115 } : Room) (mPc γ M [.ref a]) (mQq γ (fun r M' => ∃ q, r = some q ∧ M q = none ∧ M' = mU (mU M q (.inl (gA γ 3, (n + n / 2), .inr (.inr (.inr (.inr (va_cpy f (fun _ => none) 0 0 n))))))) a (.inr (0, [.int md, .ref q, .int (nI n)])))) 1 (n + n / 2) (mA (gz γ)) := by
  refine m_enter (by decide) (Nat.le_of_ble_eq_true rfl) ?_
  intro p e s m below meth c ls S hr hlk hnm hl hw
  have hl : lv_has ls 1 [(0, .ref a)] := hl
  refine lv_aload_n S.1 S.2.1 d_AL_grow_0 rfl (lv_at hl 0 rfl) ?_
  refine lv_aload_n S.1 S.2.1 d_AL_grow_1 rfl (lv_at hl 0 rfl) ?_
  refine m_get S hw cl_AL ha 2 (by decide) g85 (fun _ h => h) rfl d_AL_grow_2 ?_
  refine lv_iconst (v := 1) S.1 S.2.1 d_AL_grow_5 (by decide) ?_
  refine lv_iadd S.1 S.2.1 d_AL_grow_6 ?_
  refine W.eq (g2 := F0 m 7 ls [.int (nI (n + 1)), .ref a]) (by rw [nI_1]) ?_
  refine m_cq hw (va_runV (As := [.int (nI (n + 1))]) (rest := []) S (c_AL_grow2F l γ M a md rr n f ha hr0 ci xs hE hct hxs h2 hn) (m_cwV 1 S g443 g445 g7 g44 g446 rfl rfl ⟨by decide +kernel, by decide +kernel, by decide +kernel⟩ ⟨(Nat.le_of_ble_eq_true rfl), (Nat.le_of_ble_eq_true rfl)⟩) (hw.preV ha cl_AL.1) rfl rfl hl.1 rfl (lv_room (Nat.le_of_ble_eq_true rfl)) d_AL_grow_7 ⟨(Nat.le_of_eq (Nat.zero_add _)), (Nat.le_of_eq (Nat.zero_add _))⟩) (fun r1 M1 H locs hp hw => ?_)
  obtain ⟨q, rfl, hq, hM1⟩ := hp
  rw [hM1] at hw
  exact m_aret (r := (some q)) S hlk hr (Or.inr ⟨_, rfl⟩) hw (⟨q, rfl, hq, rfl⟩) (Nat.le_of_eq (Nat.zero_add _)) (Nat.le_of_eq (Nat.zero_add _)) d_AL_grow_10
end
section
/-! ArrayList: adding, removing -/
set_option maxHeartbeats 4000000 in
set_option maxRecDepth 100000 in
theorem c_AL_add2R (l : Launch) (γ : mG) (M : mMap) (a : Nat) (md : Int32) (rr n k : Nat) (f : Nat → Option Nat) (ha : M a = some (.inr (0, [.int md, .ref rr, .int (nI k)]))) (hr0 : M rr = some (.inl (gA γ 3, n, .inr (.inr (.inr (.inr f)))))) (hk : k < n) (hn : n < 2 ^ 31) (v ci : Nat) (ys : List Nat) (hV : mEl M ci ys) (hv : v ∈ ys) : Met l y_AL_add2 w_AL_add2 ({ frames := 0, cells := 0, slots := 0, locals := 0 } : Room) (mPc γ M [.ref a, .ref v, .ref rr, .int (nI k)]) (mQv γ (fun M' => M' = mU (mU M rr (.inl (gA γ 3, n, .inr (.inr (.inr (.inr (va_up f k (some v)))))))) a (.inr (0, [.int md, .ref rr, .int (nI (k + 1))])))) 0 0 (mA (gz γ)) := by
  refine m_enter (by decide) (Nat.le_of_ble_eq_true rfl) ?_
  intro p e s m below meth c ls S hr hlk hnm hl hw
  have hl : lv_has ls 4 [(0, .ref a), (1, .ref v), (2, .ref rr), (3, .int (nI k))] := hl
  refine lv_iload_n S.1 S.2.1 d_AL_add2_0 rfl (lv_at hl 3 rfl) ?_
  refine lv_aload_n S.1 S.2.1 d_AL_add2_1 rfl (lv_at hl 2 rfl) ?_
  refine m_alen S hw 3 hr0 rfl rfl d_AL_add2_2 ?_
  refine lv_icmp_ne (tgt := 11) S.1 S.2.1 d_AL_add2_3 rfl (fun _ => ?_) (fun h => absurd h (show ¬ (nI k = Int32.ofNat n) from fun z => absurd ((nI_eq (a := k) (b := n) (by omega) (by omega)).mp z) (by omega)))
  refine lv_aload_n S.1 S.2.1 d_AL_add2_11 rfl (lv_at hl 2 rfl) ?_
  refine lv_iload_n S.1 S.2.1 d_AL_add2_12 rfl (lv_at hl 3 rfl) ?_
  refine lv_aload_n S.1 S.2.1 d_AL_add2_13 rfl (lv_at hl 1 rfl) ?_
  refine m_aastX S hw hr0 hV hv (vp_in_nI hk hn) d_AL_add2_14 (fun H locs hw => ?_)
  refine lv_aload_n S.1 S.2.1 d_AL_add2_15 rfl (lv_at hl 0 rfl) ?_
  refine lv_iload_n S.1 S.2.1 d_AL_add2_16 rfl (lv_at hl 3 rfl) ?_
  refine lv_iconst (v := 1) S.1 S.2.1 d_AL_add2_17 (by decide) ?_
  refine lv_iadd S.1 S.2.1 d_AL_add2_18 ?_
  refine m_put S hw cl_AL (mU_to (m_kind ha hr0 (fun z => by cases z)) ha) 2 (by decide) g85 (fun _ h => h) rfl rfl rfl (Nat.le_of_ble_eq_true rfl) d_AL_add2_19 (fun H locs hw => ?_)
  have hw : mW γ (mU (mU M rr (.inl (gA γ 3, n, .inr (.inr (.inr (.inr (va_up f (nI k : Int32).toNatClampNeg (some v)))))))) a (.inr (0, [.int md, .ref rr, .int ((nI k) + 1)]))) s H locs := hw
  exact m_vret S hlk hr hw (by rw [nI_clamp (by omega), nI_1]) (Nat.le_refl _) (Nat.le_refl _) d_AL_add2_22
set_option maxHeartbeats 4000000 in
set_option maxRecDepth 100000 in
theorem c_AL_add2E (l : Launch) (γ : mG) (M : mMap) (a : Nat) (md : Int32) (ha : M a = some (.inr (0, [.int md, .ref (ge γ), .int 0]))) (v ci : Nat) (ys : List Nat) (hV : mEl M ci ys) (hv : v ∈ ys) : Met l y_AL_add2 w_AL_add2 ({ frames := 3, cells := 1, slots := 10, locals := 61 } : Room) (mPc γ M [.ref a, .ref v, .ref (ge γ), .int 0]) (mQv γ (fun M' => ∃ q, M q = none ∧ M' = mU (mU (mU (mU M q (.inl (gA γ 3, 10, .inr (.inr (.inr (.inr (fun _ => none))))))) a (.inr (0, [.int md, .ref q, .int 0]))) q (.inl (gA γ 3, 10, .inr (.inr (.inr (.inr (va_up (fun _ => none) 0 (some v)))))))) a (.inr (0, [.int md, .ref q, .int (nI 1)])))) 1 10 (mA (gz γ)) := by
  refine m_enter (by decide) (Nat.le_of_ble_eq_true rfl) ?_
  intro p e s m below meth c ls S hr hlk hnm hl hw
  have hl : lv_has ls 4 [(0, .ref a), (1, .ref v), (2, .ref (ge γ)), (3, .int 0)] := hl
  refine lv_iload_n S.1 S.2.1 d_AL_add2_0 rfl (lv_at hl 3 rfl) ?_
  refine lv_aload_n S.1 S.2.1 d_AL_add2_1 rfl (lv_at hl 2 rfl) ?_
  refine m_elen S hw d_AL_add2_2 ?_
  refine lv_icmp_ne (tgt := 11) S.1 S.2.1 d_AL_add2_3 rfl (fun h => absurd rfl h) (fun _ => ?_)
  refine lv_aload_n S.1 S.2.1 d_AL_add2_6 rfl (lv_at hl 0 rfl) ?_
  refine m_cq hw (va_runV (As := []) (rest := []) S (c_AL_growE l γ M a md ha) (m_cwV 0 S g439 g441 g6 g44 g442 rfl rfl ⟨by decide +kernel, by decide +kernel, by decide +kernel⟩ ⟨(Nat.le_of_ble_eq_true rfl), (Nat.le_of_ble_eq_true rfl)⟩) (hw.preV ha cl_AL.1) rfl rfl hl.1 rfl (lv_room (Nat.le_of_ble_eq_true rfl)) d_AL_add2_7 ⟨(Nat.le_of_eq (Nat.zero_add _)), (Nat.le_of_eq (Nat.zero_add _))⟩) (fun r1 M1 H locs hp hw => ?_)
  obtain ⟨q, rfl, hq, hM1⟩ := hp
  rw [hM1] at hw
  refine lv_astore_n S.1 S.2.1 d_AL_add2_10 rfl hl (by decide) rfl (fun ls hl => ?_)
  have hl : lv_has ls 4 [(2, .ref q), (0, .ref a), (1, .ref v), (3, .int 0)] := hl
  refine lv_aload_n S.1 S.2.1 d_AL_add2_11 rfl (lv_at hl 0 rfl) ?_
  refine lv_iload_n S.1 S.2.1 d_AL_add2_12 rfl (lv_at hl 3 rfl) ?_
  refine lv_aload_n S.1 S.2.1 d_AL_add2_13 rfl (lv_at hl 2 rfl) ?_
  refine m_aastX S hw (mU_to (m_fne ha hq).symm (mU_eq _ _ _)) ((hV.new hq).lst (mU_to (m_fne ha hq) ha)) hv (vp_in_nI (n := 0) (by omega) (by decide)) d_AL_add2_14 (fun H locs hw => ?_)
  refine lv_aload_n S.1 S.2.1 d_AL_add2_15 rfl (lv_at hl 1 rfl) ?_
  refine lv_iload_n S.1 S.2.1 d_AL_add2_16 rfl (lv_at hl 3 rfl) ?_
  refine lv_iconst (v := 1) S.1 S.2.1 d_AL_add2_17 (by decide) ?_
  refine lv_iadd S.1 S.2.1 d_AL_add2_18 ?_
  refine m_put S hw cl_AL (mU_to (m_fne ha hq) (mU_eq _ _ _)) 2 (by decide) g85 (fun _ h => h) rfl rfl rfl (Nat.le_of_ble_eq_true rfl) d_AL_add2_19 (fun H locs hw => ?_)
  have hw : mW γ (mU (mU (mU (mU M q (.inl (gA γ 3, 10, .inr (.inr (.inr (.inr (fun _ => none))))))) a (.inr (0, [.int md, .ref q, .int 0]))) q (.inl (gA γ 3, 10, .inr (.inr (.inr (.inr (va_up (fun _ => none) (0 : Int32).toNatClampNeg (some v)))))))) a (.inr (0, [.int md, .ref q, .int (0 + 1)]))) s H locs := hw
  exact m_vret S hlk hr hw (⟨q, hq, by rw [show (0 : Int32).toNatClampNeg = 0 from rfl, show (0 : Int32) + 1 = nI 1 from rfl]⟩) (Nat.le_of_eq (Nat.zero_add _)) (Nat.le_of_eq (Nat.zero_add _)) d_AL_add2_22
set_option maxHeartbeats 4000000 in
set_option maxRecDepth 100000 in
theorem c_AL_add2F (l : Launch) (γ : mG) (M : mMap) (a : Nat) (md : Int32) (rr n : Nat) (f : Nat → Option Nat) (ha : M a = some (.inr (0, [.int md, .ref rr, .int (nI n)]))) (hr0 : M rr = some (.inl (gA γ 3, n, .inr (.inr (.inr (.inr f)))))) (ci : Nat) (xs : List Nat) (hE : mEl M ci xs) (hct : ct f xs) (hxs : xs.length = n) (h2 : 2 ≤ n) (hn : n ≤ 60000) (v : Nat) (ys : List Nat) (hV : mEl M ci ys) (hv : v ∈ ys) : Met l y_AL_add2 w_AL_add2 ({ frames := 5, cells := 1, slots := (n + n / 2), locals := 135 } : Room) (mPc γ M [.ref a, .ref v, .ref rr, .int (nI n)]) (mQv γ (fun M' => ∃ q, M q = none ∧ M' = mU (mU (mU (mU M q (.inl (gA γ 3, (n + n / 2), .inr (.inr (.inr (.inr (va_cpy f (fun _ => none) 0 0 n))))))) a (.inr (0, [.int md, .ref q, .int (nI n)]))) q (.inl (gA γ 3, (n + n / 2), .inr (.inr (.inr (.inr (va_up (va_cpy f (fun _ => none) 0 0 n) n (some v)))))))) a (.inr (0, [.int md, .ref q, .int (nI (n + 1))])))) 1 (n + n / 2) (mA (gz γ)) := by
  refine m_enter (by decide) (Nat.le_of_ble_eq_true rfl) ?_
  intro p e s m below meth c ls S hr hlk hnm hl hw
  have hl : lv_has ls 4 [(0, .ref a), (1, .ref v), (2, .ref rr), (3, .int (nI n))] := hl
  refine lv_iload_n S.1 S.2.1 d_AL_add2_0 rfl (lv_at hl 3 rfl) ?_
  refine lv_aload_n S.1 S.2.1 d_AL_add2_1 rfl (lv_at hl 2 rfl) ?_
  refine m_alen S hw 3 hr0 rfl rfl d_AL_add2_2 ?_
  refine lv_icmp_ne (tgt := 11) S.1 S.2.1 d_AL_add2_3 rfl (fun h => absurd rfl h) (fun _ => ?_)
  refine lv_aload_n S.1 S.2.1 d_AL_add2_6 rfl (lv_at hl 0 rfl) ?_
  refine m_cq hw (va_runV (As := []) (rest := []) S (c_AL_growF l γ M a md rr n f ha hr0 ci xs hE hct hxs h2 hn) (m_cwV 0 S g439 g441 g6 g44 g442 rfl rfl ⟨by decide +kernel, by decide +kernel, by decide +kernel⟩ ⟨(Nat.le_of_ble_eq_true rfl), (Nat.le_of_ble_eq_true rfl)⟩) (hw.preV ha cl_AL.1) rfl rfl hl.1 rfl (lv_room (Nat.le_of_ble_eq_true rfl)) d_AL_add2_7 ⟨(Nat.le_of_eq (Nat.zero_add _)), (Nat.le_of_eq (Nat.zero_add _))⟩) (fun r1 M1 H locs hp hw => ?_)
  obtain ⟨q, rfl, hq, hM1⟩ := hp
  rw [hM1] at hw
  refine lv_astore_n S.1 S.2.1 d_AL_add2_10 rfl hl (by decide) rfl (fun ls hl => ?_)
  have hl : lv_has ls 4 [(2, .ref q), (0, .ref a), (1, .ref v), (3, .int (nI n))] := hl
  refine lv_aload_n S.1 S.2.1 d_AL_add2_11 rfl (lv_at hl 0 rfl) ?_
  refine lv_iload_n S.1 S.2.1 d_AL_add2_12 rfl (lv_at hl 3 rfl) ?_
  refine lv_aload_n S.1 S.2.1 d_AL_add2_13 rfl (lv_at hl 2 rfl) ?_
  refine m_aastX S hw (mU_to (m_fne ha hq).symm (mU_eq _ _ _)) ((hV.new hq).lst (mU_to (m_fne ha hq) ha)) hv (vp_in_nI (by omega) (by omega)) d_AL_add2_14 (fun H locs hw => ?_)
  refine lv_aload_n S.1 S.2.1 d_AL_add2_15 rfl (lv_at hl 1 rfl) ?_
  refine lv_iload_n S.1 S.2.1 d_AL_add2_16 rfl (lv_at hl 3 rfl) ?_
  refine lv_iconst (v := 1) S.1 S.2.1 d_AL_add2_17 (by decide) ?_
  refine lv_iadd S.1 S.2.1 d_AL_add2_18 ?_
  refine m_put S hw cl_AL (mU_to (m_fne ha hq) (mU_eq _ _ _)) 2 (by decide) g85 (fun _ h => h) rfl rfl rfl (Nat.le_of_ble_eq_true rfl) d_AL_add2_19 (fun H locs hw => ?_)
  have hw : mW γ (mU (mU (mU (mU M q (.inl (gA γ 3, (n + n / 2), .inr (.inr (.inr (.inr (va_cpy f (fun _ => none) 0 0 n))))))) a (.inr (0, [.int md, .ref q, .int (nI n)]))) q (.inl (gA γ 3, (n + n / 2), .inr (.inr (.inr (.inr (va_up (va_cpy f (fun _ => none) 0 0 n) (nI n : Int32).toNatClampNeg (some v)))))))) a (.inr (0, [.int md, .ref q, .int ((nI n) + 1)]))) s H locs := hw
  exact m_vret S hlk hr hw (⟨q, hq, by rw [nI_clamp (by omega), nI_1]⟩) (Nat.le_of_eq (Nat.zero_add _)) (Nat.le_of_eq (Nat.zero_add _)) d_AL_add2_22
set_option maxHeartbeats 4000000 in
set_option maxRecDepth 100000 in
theorem c_AL_addR (l : Launch) (γ : mG) (M : mMap) (a : Nat) (md : Int32) (rr n k : Nat) (f : Nat → Option Nat) (ha : M a = some (.inr (0, [.int md, .ref rr, .int (nI k)]))) (hr0 : M rr = some (.inl (gA γ 3, n, .inr (.inr (.inr (.inr f)))))) (hk : k < n) (hn : n < 2 ^ 31) (v ci : Nat) (ys : List Nat) (hV : mEl M ci ys) (hv : v ∈ ys) : Met l y_AL_add w_AL_add ({ frames := 6, cells := 0, slots := 0, locals := 158 } : Room) (mPc γ M [.ref a, .ref v]) (mQi γ (fun r M' => r = 1 ∧ M' = mU (mU (mU M a (.inr (0, [.int (md + 1), .ref rr, .int (nI k)]))) rr (.inl (gA γ 3, n, .inr (.inr (.inr (.inr (va_up f k (some v)))))))) a (.inr (0, [.int (md + 1), .ref rr, .int (nI (k + 1))])))) 0 0 (mA (gz γ)) := by
  refine m_enter (by decide) (Nat.le_of_ble_eq_true rfl) ?_
  intro p e s m below meth c ls S hr hlk hnm hl hw
  have hl : lv_has ls 2 [(0, .ref a), (1, .ref v)] := hl
  refine lv_aload_n S.1 S.2.1 d_AL_add_0 rfl (lv_at hl 0 rfl) ?_
  refine lv_dup S.1 S.2.1 d_AL_add_1 rfl ?_
  refine m_get S hw cl_AL ha 0 (by decide) g87 (fun x h => u_same (S.2.2.2.2 _ (gc g88)) x h) rfl d_AL_add_2 ?_
  refine lv_iconst (v := 1) S.1 S.2.1 d_AL_add_5 (by decide) ?_
  refine lv_iadd S.1 S.2.1 d_AL_add_6 ?_
  refine m_put S hw cl_AL ha 0 (by decide) g87 (fun x h => u_same (S.2.2.2.2 _ (gc g88)) x h) rfl rfl rfl (Nat.le_of_ble_eq_true rfl) d_AL_add_7 (fun H locs hw => ?_)
  have hw : mW γ (mU M a (.inr (0, [.int (md + 1), .ref rr, .int (nI k)]))) s H locs := hw
  refine lv_aload_n S.1 S.2.1 d_AL_add_10 rfl (lv_at hl 0 rfl) ?_
  refine lv_aload_n S.1 S.2.1 d_AL_add_11 rfl (lv_at hl 1 rfl) ?_
  refine lv_aload_n S.1 S.2.1 d_AL_add_12 rfl (lv_at hl 0 rfl) ?_
  refine m_get S hw cl_AL (mU_eq _ _ _) 1 (by decide) g84 (fun _ h => h) rfl d_AL_add_13 ?_
  refine lv_aload_n S.1 S.2.1 d_AL_add_16 rfl (lv_at hl 0 rfl) ?_
  refine m_get S hw cl_AL (mU_eq _ _ _) 2 (by decide) g85 (fun _ h => h) rfl d_AL_add_17 ?_
  refine m_cv hw (va_runV (As := [.ref v, .ref rr, .int (nI k)]) (rest := []) S (c_AL_add2R l γ (mU M a (.inr (0, [.int (md + 1), .ref rr, .int (nI k)]))) a (md + 1) rr n k f (mU_eq _ _ _) (mU_to (m_kind hr0 ha (fun z => by cases z)) hr0) hk hn v ci ys (hV.lst ha) hv) (m_cwV 3 S g435 g437 g5 g44 g438 rfl rfl ⟨by decide +kernel, by decide +kernel, by decide +kernel⟩ ⟨(Nat.le_of_ble_eq_true rfl), (Nat.le_of_ble_eq_true rfl)⟩) (hw.preV (mU_eq _ _ _) cl_AL.1) rfl rfl hl.1 rfl (lv_room (Nat.le_of_ble_eq_true rfl)) d_AL_add_20 ⟨(Nat.zero_le _), (Nat.zero_le _)⟩) (fun M1 H locs hp hw => ?_)
  have hM1 := hp
  rw [hM1] at hw
  refine lv_iconst (v := 1) S.1 S.2.1 d_AL_add_23 (by decide) ?_
  exact m_iret S hlk hr rfl hw (⟨rfl, rfl⟩) (Nat.le_refl _) (Nat.le_refl _) d_AL_add_24
set_option maxHeartbeats 4000000 in
set_option maxRecDepth 100000 in
theorem c_AL_addE (l : Launch) (γ : mG) (M : mMap) (a : Nat) (md : Int32) (ha : M a = some (.inr (0, [.int md, .ref (ge γ), .int 0]))) (v ci : Nat) (ys : List Nat) (hV : mEl M ci ys) (hv : v ∈ ys) : Met l y_AL_add w_AL_add ({ frames := 6, cells := 1, slots := 10, locals := 158 } : Room) (mPc γ M [.ref a, .ref v]) (mQi γ (fun r M' => r = 1 ∧ ∃ q, q ≠ a ∧ M q = none ∧ M' = mU (mU (mU (mU (mU M a (.inr (0, [.int (md + 1), .ref (ge γ), .int 0]))) q (.inl (gA γ 3, 10, .inr (.inr (.inr (.inr (fun _ => none))))))) a (.inr (0, [.int (md + 1), .ref q, .int 0]))) q (.inl (gA γ 3, 10, .inr (.inr (.inr (.inr (va_up (fun _ => none) 0 (some v)))))))) a (.inr (0, [.int (md + 1), .ref q, .int (nI 1)])))) 1 10 (mA (gz γ)) := by
  refine m_enter (by decide) (Nat.le_of_ble_eq_true rfl) ?_
  intro p e s m below meth c ls S hr hlk hnm hl hw
  have hl : lv_has ls 2 [(0, .ref a), (1, .ref v)] := hl
  refine lv_aload_n S.1 S.2.1 d_AL_add_0 rfl (lv_at hl 0 rfl) ?_
  refine lv_dup S.1 S.2.1 d_AL_add_1 rfl ?_
  refine m_get S hw cl_AL ha 0 (by decide) g87 (fun x h => u_same (S.2.2.2.2 _ (gc g88)) x h) rfl d_AL_add_2 ?_
  refine lv_iconst (v := 1) S.1 S.2.1 d_AL_add_5 (by decide) ?_
  refine lv_iadd S.1 S.2.1 d_AL_add_6 ?_
  refine m_put S hw cl_AL ha 0 (by decide) g87 (fun x h => u_same (S.2.2.2.2 _ (gc g88)) x h) rfl rfl rfl (Nat.le_of_ble_eq_true rfl) d_AL_add_7 (fun H locs hw => ?_)
  have hw : mW γ (mU M a (.inr (0, [.int (md + 1), .ref (ge γ), .int 0]))) s H locs := hw
  refine lv_aload_n S.1 S.2.1 d_AL_add_10 rfl (lv_at hl 0 rfl) ?_
  refine lv_aload_n S.1 S.2.1 d_AL_add_11 rfl (lv_at hl 1 rfl) ?_
  refine lv_aload_n S.1 S.2.1 d_AL_add_12 rfl (lv_at hl 0 rfl) ?_
  refine m_get S hw cl_AL (mU_eq _ _ _) 1 (by decide) g84 (fun _ h => h) rfl d_AL_add_13 ?_
  refine lv_aload_n S.1 S.2.1 d_AL_add_16 rfl (lv_at hl 0 rfl) ?_
  refine m_get S hw cl_AL (mU_eq _ _ _) 2 (by decide) g85 (fun _ h => h) rfl d_AL_add_17 ?_
  refine m_cv hw (va_runV (As := [.ref v, .ref (ge γ), .int 0]) (rest := []) S (c_AL_add2E l γ (mU M a (.inr (0, [.int (md + 1), .ref (ge γ), .int 0]))) a (md + 1) (mU_eq _ _ _) v ci ys (hV.lst ha) hv) (m_cwV 3 S g435 g437 g5 g44 g438 rfl rfl ⟨by decide +kernel, by decide +kernel, by decide +kernel⟩ ⟨(Nat.le_of_ble_eq_true rfl), (Nat.le_of_ble_eq_true rfl)⟩) (hw.preV (mU_eq _ _ _) cl_AL.1) rfl rfl hl.1 rfl (lv_room (Nat.le_of_ble_eq_true rfl)) d_AL_add_20 ⟨(Nat.le_of_eq (Nat.zero_add _)), (Nat.le_of_eq (Nat.zero_add _))⟩) (fun M1 H locs hp hw => ?_)
  obtain ⟨q, hq, hM1⟩ := hp
  rw [hM1] at hw
  refine lv_iconst (v := 1) S.1 S.2.1 d_AL_add_23 (by decide) ?_
  exact m_iret S hlk hr rfl hw (⟨rfl, q, (mU_q0 hq).1, (mU_q0 hq).2, rfl⟩) (Nat.le_of_eq (Nat.zero_add _)) (Nat.le_of_eq (Nat.zero_add _)) d_AL_add_24
set_option maxHeartbeats 4000000 in
set_option maxRecDepth 100000 in
theorem c_AL_addF (l : Launch) (γ : mG) (M : mMap) (a : Nat) (md : Int32) (rr n : Nat) (f : Nat → Option Nat) (ha : M a = some (.inr (0, [.int md, .ref rr, .int (nI n)]))) (hr0 : M rr = some (.inl (gA γ 3, n, .inr (.inr (.inr (.inr f)))))) (ci : Nat) (xs : List Nat) (hE : mEl M ci xs) (hct : ct f xs) (hxs : xs.length = n) (h2 : 2 ≤ n) (hn : n ≤ 60000) (v : Nat) (ys : List Nat) (hV : mEl M ci ys) (hv : v ∈ ys) : Met l y_AL_add w_AL_add ({ frames := 6, cells := 1, slots := (n + n / 2), locals := 158 } : Room) (mPc γ M [.ref a, .ref v]) (mQi γ (fun r M' => r = 1 ∧ ∃ q, q ≠ a ∧ M q = none ∧ M' = mU (mU (mU (mU (mU M a (.inr (0, [.int (md + 1), .ref rr, .int (nI n)]))) q (.inl (gA γ 3, (n + n / 2), .inr (.inr (.inr (.inr (va_cpy f (fun _ => none) 0 0 n))))))) a (.inr (0, [.int (md + 1), .ref q, .int (nI n)]))) q (.inl (gA γ 3, (n + n / 2), .inr (.inr (.inr (.inr (va_up (va_cpy f (fun _ => none) 0 0 n) n (some v)))))))) a (.inr (0, [.int (md + 1), .ref q, .int (nI (n + 1))])))) 1 (n + n / 2) (mA (gz γ)) := by
  refine m_enter (by decide) (Nat.le_of_ble_eq_true rfl) ?_
  intro p e s m below meth c ls S hr hlk hnm hl hw
  have hl : lv_has ls 2 [(0, .ref a), (1, .ref v)] := hl
  refine lv_aload_n S.1 S.2.1 d_AL_add_0 rfl (lv_at hl 0 rfl) ?_
  refine lv_dup S.1 S.2.1 d_AL_add_1 rfl ?_
  refine m_get S hw cl_AL ha 0 (by decide) g87 (fun x h => u_same (S.2.2.2.2 _ (gc g88)) x h) rfl d_AL_add_2 ?_
  refine lv_iconst (v := 1) S.1 S.2.1 d_AL_add_5 (by decide) ?_
  refine lv_iadd S.1 S.2.1 d_AL_add_6 ?_
  refine m_put S hw cl_AL ha 0 (by decide) g87 (fun x h => u_same (S.2.2.2.2 _ (gc g88)) x h) rfl rfl rfl (Nat.le_of_ble_eq_true rfl) d_AL_add_7 (fun H locs hw => ?_)
  have hw : mW γ (mU M a (.inr (0, [.int (md + 1), .ref rr, .int (nI n)]))) s H locs := hw
  refine lv_aload_n S.1 S.2.1 d_AL_add_10 rfl (lv_at hl 0 rfl) ?_
  refine lv_aload_n S.1 S.2.1 d_AL_add_11 rfl (lv_at hl 1 rfl) ?_
  refine lv_aload_n S.1 S.2.1 d_AL_add_12 rfl (lv_at hl 0 rfl) ?_
  refine m_get S hw cl_AL (mU_eq _ _ _) 1 (by decide) g84 (fun _ h => h) rfl d_AL_add_13 ?_
  refine lv_aload_n S.1 S.2.1 d_AL_add_16 rfl (lv_at hl 0 rfl) ?_
  refine m_get S hw cl_AL (mU_eq _ _ _) 2 (by decide) g85 (fun _ h => h) rfl d_AL_add_17 ?_
  refine m_cv hw (va_runV (As := [.ref v, .ref rr, .int (nI n)]) (rest := []) S (c_AL_add2F l γ (mU M a (.inr (0, [.int (md + 1), .ref rr, .int (nI n)]))) a (md + 1) rr n f (mU_eq _ _ _) (mU_to (m_kind hr0 ha (fun z => by cases z)) hr0) ci xs (hE.lst ha) hct hxs h2 hn v ys (hV.lst ha) hv) (m_cwV 3 S g435 g437 g5 g44 g438 rfl rfl ⟨by decide +kernel, by decide +kernel, by decide +kernel⟩ ⟨(Nat.le_of_ble_eq_true rfl), (Nat.le_of_ble_eq_true rfl)⟩) (hw.preV (mU_eq _ _ _) cl_AL.1) rfl rfl hl.1 rfl (lv_room (Nat.le_of_ble_eq_true rfl)) d_AL_add_20 ⟨(Nat.le_of_eq (Nat.zero_add _)), (Nat.le_of_eq (Nat.zero_add _))⟩) (fun M1 H locs hp hw => ?_)
  obtain ⟨q, hq, hM1⟩ := hp
  rw [hM1] at hw
  refine lv_iconst (v := 1) S.1 S.2.1 d_AL_add_23 (by decide) ?_
  exact m_iret S hlk hr rfl hw (⟨rfl, q, (mU_q0 hq).1, (mU_q0 hq).2, rfl⟩) (Nat.le_of_eq (Nat.zero_add _)) (Nat.le_of_eq (Nat.zero_add _)) d_AL_add_24
end
section
/-! ArrayList: add(int, E), remove(int) -/
set_option maxHeartbeats 4000000 in
set_option maxRecDepth 100000 in
theorem c_AL_rangeCheckForAdd (l : Launch) (γ : mG) (M : mMap) (a : Nat) (md z : Int32) (rr : Nat) (ha : M a = some (.inr (0, [.int md, .ref rr, .int z]))) (j : Int32) (h0 : 0 ≤ j) (h1 : ¬ z < j) : Met l y_AL_rangeCheckForAdd w_AL_rangeCheckForAdd ({ frames := 0, cells := 0, slots := 0, locals := 0 } : Room) (mPc γ M [.ref a, .int j]) (mQv γ (fun M' => M' = M)) 0 0 (mA (gz γ)) := by
  refine m_enter (by decide) (Nat.le_of_ble_eq_true rfl) ?_
  intro p e s m below meth c ls S hr hlk hnm hl hw
  have hl : lv_has ls 2 [(0, .ref a), (1, .int j)] := hl
  refine lv_iload_n S.1 S.2.1 d_AL_rangeCheckForAdd_0 rfl (lv_at hl 1 rfl) ?_
  refine lv_aload_n S.1 S.2.1 d_AL_rangeCheckForAdd_1 rfl (lv_at hl 0 rfl) ?_
  refine m_get S hw cl_AL ha 2 (by decide) g85 (fun _ h => h) rfl d_AL_rangeCheckForAdd_2 ?_
  refine lv_icmp_gt (tgt := 12) S.1 S.2.1 d_AL_rangeCheckForAdd_5 rfl (fun h => absurd h h1) (fun _ => ?_)
  refine lv_iload_n S.1 S.2.1 d_AL_rangeCheckForAdd_8 rfl (lv_at hl 1 rfl) ?_
  refine lv_if_ge (tgt := 25) S.1 S.2.1 d_AL_rangeCheckForAdd_9 rfl (fun _ => ?_) (fun h => absurd h0 h)
  exact m_vret S hlk hr hw rfl (Nat.le_refl _) (Nat.le_refl _) d_AL_rangeCheckForAdd_25
set_option maxHeartbeats 4000000 in
set_option maxRecDepth 100000 in
theorem c_AL_addAtR (l : Launch) (γ : mG) (M : mMap) (a : Nat) (md : Int32) (rr n k : Nat) (f : Nat → Option Nat) (ha : M a = some (.inr (0, [.int md, .ref rr, .int (nI k)]))) (hr0 : M rr = some (.inl (gA γ 3, n, .inr (.inr (.inr (.inr f)))))) (hk : k < n) (hn : n ≤ 100000) (v ci : Nat) (xs : List Nat) (hV : mEl M ci (v :: xs)) (hct : ct f xs) (hxs : xs.length = k) (i0 : Nat) (hi : i0 ≤ k) : Met l y_AL_add3 w_AL_add3 ({ frames := 5, cells := 0, slots := 0, locals := 135 } : Room) (mPc γ M [.ref a, .int (nI i0), .ref v]) (mQv γ (fun M' => M' = mU (mU (mU M a (.inr (0, [.int (md + 1), .ref rr, .int (nI k)]))) rr (.inl (gA γ 3, n, .inr (.inr (.inr (.inr (va_up (va_cpy f f i0 (i0 + 1) (k - i0)) i0 (some v)))))))) a (.inr (0, [.int (md + 1), .ref rr, .int (nI (k + 1))])))) 0 0 (mA (gz γ)) := by
  refine m_enter (by decide) (Nat.le_of_ble_eq_true rfl) ?_
  intro p e s m below meth c ls S hr hlk hnm hl hw
  have hl : lv_has ls 5 [(0, .ref a), (1, .int (nI i0)), (2, .ref v)] := hl
  have hE : mEl M ci xs := hV.sub (fun x h => List.mem_cons_of_mem _ h)
  have hv : v ∈ v :: xs := List.mem_cons_self
  refine lv_aload_n S.1 S.2.1 d_AL_add3_0 rfl (lv_at hl 0 rfl) ?_
  refine lv_iload_n S.1 S.2.1 d_AL_add3_1 rfl (lv_at hl 1 rfl) ?_
  refine m_cv hw (va_runV (As := [.int (nI i0)]) (rest := []) S (c_AL_rangeCheckForAdd l γ M a md _ _ ha (nI i0) (nI_pos' (by omega)) (nI_nlt hi (by omega))) (m_cwV 1 S g505 g507 g10 g44 g508 rfl rfl ⟨by decide +kernel, by decide +kernel, by decide +kernel⟩ ⟨(Nat.le_of_ble_eq_true rfl), (Nat.le_of_ble_eq_true rfl)⟩) (hw.preV ha cl_AL.1) rfl rfl hl.1 rfl (lv_room (Nat.le_of_ble_eq_true rfl)) d_AL_add3_2 ⟨(Nat.zero_le _), (Nat.zero_le _)⟩) (fun M1 H locs hp hw => ?_)
  rw [hp] at hw
  refine lv_aload_n S.1 S.2.1 d_AL_add3_5 rfl (lv_at hl 0 rfl) ?_
  refine lv_dup S.1 S.2.1 d_AL_add3_6 rfl ?_
  refine m_get S hw cl_AL ha 0 (by decide) g87 (fun x h => u_same (S.2.2.2.2 _ (gc g88)) x h) rfl d_AL_add3_7 ?_
  refine lv_iconst (v := 1) S.1 S.2.1 d_AL_add3_10 (by decide) ?_
  refine lv_iadd S.1 S.2.1 d_AL_add3_11 ?_
  refine m_put S hw cl_AL ha 0 (by decide) g87 (fun x h => u_same (S.2.2.2.2 _ (gc g88)) x h) rfl rfl rfl (Nat.le_of_ble_eq_true rfl) d_AL_add3_12 (fun H locs hw => ?_)
  have hw : mW γ (mU M a (.inr (0, [.int (md + 1), .ref rr, .int (nI k)]))) s H locs := hw
  refine lv_aload_n S.1 S.2.1 d_AL_add3_15 rfl (lv_at hl 0 rfl) ?_
  refine m_get S hw cl_AL (mU_eq _ _ _) 2 (by decide) g85 (fun _ h => h) rfl d_AL_add3_16 ?_
  refine lv_dup S.1 S.2.1 d_AL_add3_19 rfl ?_
  refine lv_istore_n S.1 S.2.1 d_AL_add3_20 rfl hl (by decide) rfl (fun ls hl => ?_)
  have hl : lv_has ls 5 [(3, .int (nI k)), (0, .ref a), (1, .int (nI i0)), (2, .ref v)] := hl
  refine lv_aload_n S.1 S.2.1 d_AL_add3_21 rfl (lv_at hl 1 rfl) ?_
  refine m_get S hw cl_AL (mU_eq _ _ _) 1 (by decide) g84 (fun _ h => h) rfl d_AL_add3_22 ?_
  refine lv_dup S.1 S.2.1 d_AL_add3_25 rfl ?_
  refine lv_astore S.1 S.2.1 d_AL_add3_26 hl (by decide) rfl (fun ls hl => ?_)
  have hl : lv_has ls 5 [(4, .ref rr), (3, .int (nI k)), (0, .ref a), (1, .int (nI i0)), (2, .ref v)] := hl
  refine m_alen S hw 3 (mU_to (m_kind hr0 ha (fun z => by cases z)) hr0) rfl rfl d_AL_add3_28 ?_
  refine lv_icmp_ne (tgt := 38) S.1 S.2.1 d_AL_add3_29 rfl (fun _ => ?_) (fun h => absurd h (show ¬ (nI k = Int32.ofNat n) from fun z => absurd ((nI_eq (a := k) (b := n) (by omega) (by omega)).mp z) (by omega)))
  refine lv_aload S.1 S.2.1 d_AL_add3_38 (lv_at hl 0 rfl) ?_
  refine lv_iload_n S.1 S.2.1 d_AL_add3_40 rfl (lv_at hl 3 rfl) ?_
  refine lv_aload S.1 S.2.1 d_AL_add3_41 (lv_at hl 0 rfl) ?_
  refine lv_iload_n S.1 S.2.1 d_AL_add3_43 rfl (lv_at hl 3 rfl) ?_
  refine lv_iconst (v := 1) S.1 S.2.1 d_AL_add3_44 (by decide) ?_
  refine lv_iadd S.1 S.2.1 d_AL_add3_45 ?_
  refine lv_iload_n S.1 S.2.1 d_AL_add3_46 rfl (lv_at hl 1 rfl) ?_
  refine lv_iload_n S.1 S.2.1 d_AL_add3_47 rfl (lv_at hl 3 rfl) ?_
  refine lv_isub S.1 S.2.1 d_AL_add3_48 ?_
  refine m_copy S hw hl.1 g509 (mU_to (m_kind hr0 ha (fun z => by cases z)) hr0) (mU_to (m_kind hr0 ha (fun z => by cases z)) hr0) (hE.lst ha) (sp' := i0) (dp' := (i0 + 1)) (n' := (k - i0)) rfl (nI_1 i0) (pk_sub hi) (by omega) (by omega) (by omega) (by omega) (by omega) (fun j hj y hy => List.mem_of_getElem? ((hct (i0 + j) (by omega)).symm.trans hy)) (Nat.le_of_ble_eq_true rfl) (Nat.le_of_ble_eq_true rfl) d_AL_add3_49 (fun H locs hw => ?_)
  refine lv_aload S.1 S.2.1 d_AL_add3_52 (lv_at hl 0 rfl) ?_
  refine lv_iload_n S.1 S.2.1 d_AL_add3_54 rfl (lv_at hl 3 rfl) ?_
  refine lv_aload_n S.1 S.2.1 d_AL_add3_55 rfl (lv_at hl 4 rfl) ?_
  refine m_aastX S hw (mU_eq _ _ _) ((hV.lst ha).arr (mU_to (m_kind hr0 ha (fun z => by cases z)) hr0)) hv (vp_in_nI (by omega) (by omega)) d_AL_add3_56 (fun H locs hw => ?_)
  refine lv_aload_n S.1 S.2.1 d_AL_add3_57 rfl (lv_at hl 2 rfl) ?_
  refine lv_iload_n S.1 S.2.1 d_AL_add3_58 rfl (lv_at hl 1 rfl) ?_
  refine lv_iconst (v := 1) S.1 S.2.1 d_AL_add3_59 (by decide) ?_
  refine lv_iadd S.1 S.2.1 d_AL_add3_60 ?_
  refine m_put S hw cl_AL (mU_to (m_kind hr0 ha (fun z => by cases z)).symm (mU_to (m_kind hr0 ha (fun z => by cases z)).symm (mU_eq _ _ _))) 2 (by decide) g85 (fun _ h => h) rfl rfl rfl (Nat.le_of_ble_eq_true rfl) d_AL_add3_61 (fun H locs hw => ?_)
  have hw : mW γ (mU (mU (mU (mU M a (.inr (0, [.int (md + 1), .ref rr, .int (nI k)]))) rr (.inl (gA γ 3, n, .inr (.inr (.inr (.inr (va_cpy f f i0 (i0 + 1) (k - i0)))))))) rr (.inl (gA γ 3, n, .inr (.inr (.inr (.inr (va_up (va_cpy f f i0 (i0 + 1) (k - i0)) (nI i0 : Int32).toNatClampNeg (some v)))))))) a (.inr (0, [.int (md + 1), .ref rr, .int ((nI k) + 1)]))) s H locs := hw
  exact m_vret S hlk hr hw (by rw [nI_clamp (by omega), nI_1, mU_uu]) (Nat.le_refl _) (Nat.le_refl _) d_AL_add3_64
set_option maxHeartbeats 4000000 in
set_option maxRecDepth 100000 in
theorem c_AL_addAtE (l : Launch) (γ : mG) (M : mMap) (a : Nat) (md : Int32) (ha : M a = some (.inr (0, [.int md, .ref (ge γ), .int (nI 0)]))) (v ci : Nat) (xs : List Nat) (hV : mEl M ci (v :: xs)) (hxs : xs.length = 0) (i0 : Nat) (hi : i0 ≤ 0) : Met l y_AL_add3 w_AL_add3 ({ frames := 5, cells := 1, slots := 10, locals := 135 } : Room) (mPc γ M [.ref a, .int (nI i0), .ref v]) (mQv γ (fun M' => ∃ q, q ≠ a ∧ M q = none ∧ M' = mU (mU (mU (mU (mU M a (.inr (0, [.int (md + 1), .ref (ge γ), .int (nI 0)]))) q (.inl (gA γ 3, 10, .inr (.inr (.inr (.inr (fun _ => none))))))) a (.inr (0, [.int (md + 1), .ref q, .int (nI 0)]))) q (.inl (gA γ 3, 10, .inr (.inr (.inr (.inr (va_up (va_cpy (fun _ => none) (fun _ => none) i0 (i0 + 1) (0 - i0)) i0 (some v)))))))) a (.inr (0, [.int (md + 1), .ref q, .int (nI (0 + 1))])))) 1 10 (mA (gz γ)) := by
  refine m_enter (by decide) (Nat.le_of_ble_eq_true rfl) ?_
  intro p e s m below meth c ls S hr hlk hnm hl hw
  have hl : lv_has ls 5 [(0, .ref a), (1, .int (nI i0)), (2, .ref v)] := hl
  have hE : mEl M ci xs := hV.sub (fun x h => List.mem_cons_of_mem _ h)
  have hv : v ∈ v :: xs := List.mem_cons_self
  refine lv_aload_n S.1 S.2.1 d_AL_add3_0 rfl (lv_at hl 0 rfl) ?_
  refine lv_iload_n S.1 S.2.1 d_AL_add3_1 rfl (lv_at hl 1 rfl) ?_
  refine m_cv hw (va_runV (As := [.int (nI i0)]) (rest := []) S (c_AL_rangeCheckForAdd l γ M a md _ _ ha (nI i0) (nI_pos' (by omega)) (nI_nlt hi (by omega))) (m_cwV 1 S g505 g507 g10 g44 g508 rfl rfl ⟨by decide +kernel, by decide +kernel, by decide +kernel⟩ ⟨(Nat.le_of_ble_eq_true rfl), (Nat.le_of_ble_eq_true rfl)⟩) (hw.preV ha cl_AL.1) rfl rfl hl.1 rfl (lv_room (Nat.le_of_ble_eq_true rfl)) d_AL_add3_2 ⟨(Nat.zero_le _), (Nat.zero_le _)⟩) (fun M1 H locs hp hw => ?_)
  rw [hp] at hw
  refine lv_aload_n S.1 S.2.1 d_AL_add3_5 rfl (lv_at hl 0 rfl) ?_
  refine lv_dup S.1 S.2.1 d_AL_add3_6 rfl ?_
  refine m_get S hw cl_AL ha 0 (by decide) g87 (fun x h => u_same (S.2.2.2.2 _ (gc g88)) x h) rfl d_AL_add3_7 ?_
  refine lv_iconst (v := 1) S.1 S.2.1 d_AL_add3_10 (by decide) ?_
  refine lv_iadd S.1 S.2.1 d_AL_add3_11 ?_
  refine m_put S hw cl_AL ha 0 (by decide) g87 (fun x h => u_same (S.2.2.2.2 _ (gc g88)) x h) rfl rfl rfl (Nat.le_of_ble_eq_true rfl) d_AL_add3_12 (fun H locs hw => ?_)
  have hw : mW γ (mU M a (.inr (0, [.int (md + 1), .ref (ge γ), .int (nI 0)]))) s H locs := hw
  refine lv_aload_n S.1 S.2.1 d_AL_add3_15 rfl (lv_at hl 0 rfl) ?_
  refine m_get S hw cl_AL (mU_eq _ _ _) 2 (by decide) g85 (fun _ h => h) rfl d_AL_add3_16 ?_
  refine lv_dup S.1 S.2.1 d_AL_add3_19 rfl ?_
  refine lv_istore_n S.1 S.2.1 d_AL_add3_20 rfl hl (by decide) rfl (fun ls hl => ?_)
  have hl : lv_has ls 5 [(3, .int (nI 0)), (0, .ref a), (1, .int (nI i0)), (2, .ref v)] := hl
  refine lv_aload_n S.1 S.2.1 d_AL_add3_21 rfl (lv_at hl 1 rfl) ?_
  refine m_get S hw cl_AL (mU_eq _ _ _) 1 (by decide) g84 (fun _ h => h) rfl d_AL_add3_22 ?_
  refine lv_dup S.1 S.2.1 d_AL_add3_25 rfl ?_
  refine lv_astore S.1 S.2.1 d_AL_add3_26 hl (by decide) rfl (fun ls hl => ?_)
  have hl : lv_has ls 5 [(4, .ref (ge γ)), (3, .int (nI 0)), (0, .ref a), (1, .int (nI i0)), (2, .ref v)] := hl
  refine m_elen S hw d_AL_add3_28 ?_
  refine lv_icmp_ne (tgt := 38) S.1 S.2.1 d_AL_add3_29 rfl (fun h => absurd rfl h) (fun _ => ?_)
  refine lv_aload_n S.1 S.2.1 d_AL_add3_32 rfl (lv_at hl 2 rfl) ?_
  refine m_cq hw (va_runV (As := []) (rest := []) S (c_AL_growE l γ (mU M a (.inr (0, [.int (md + 1), .ref (ge γ), .int (nI 0)]))) a (md + 1) (mU_eq _ _ _)) (m_cwV 0 S g439 g441 g6 g44 g442 rfl rfl ⟨by decide +kernel, by decide +kernel, by decide +kernel⟩ ⟨(Nat.le_of_ble_eq_true rfl), (Nat.le_of_ble_eq_true rfl)⟩) (hw.preV (mU_eq _ _ _) cl_AL.1) rfl rfl hl.1 rfl (lv_room (Nat.le_of_ble_eq_true rfl)) d_AL_add3_33 ⟨(by show 0 + 0 + 1 ≤ 1; omega), (by show 0 + 0 + 10 ≤ 10; omega)⟩) (fun r1 M1 H locs hp hw => ?_)
  obtain ⟨q, rfl, hq, hM1⟩ := hp
  rw [hM1] at hw
  refine lv_astore S.1 S.2.1 d_AL_add3_36 hl (by decide) rfl (fun ls hl => ?_)
  have hl : lv_has ls 5 [(4, .ref q), (3, .int (nI 0)), (0, .ref a), (1, .int (nI i0)), (2, .ref v)] := hl
  refine lv_aload S.1 S.2.1 d_AL_add3_38 (lv_at hl 0 rfl) ?_
  refine lv_iload_n S.1 S.2.1 d_AL_add3_40 rfl (lv_at hl 3 rfl) ?_
  refine lv_aload S.1 S.2.1 d_AL_add3_41 (lv_at hl 0 rfl) ?_
  refine lv_iload_n S.1 S.2.1 d_AL_add3_43 rfl (lv_at hl 3 rfl) ?_
  refine lv_iconst (v := 1) S.1 S.2.1 d_AL_add3_44 (by decide) ?_
  refine lv_iadd S.1 S.2.1 d_AL_add3_45 ?_
  refine lv_iload_n S.1 S.2.1 d_AL_add3_46 rfl (lv_at hl 1 rfl) ?_
  refine lv_iload_n S.1 S.2.1 d_AL_add3_47 rfl (lv_at hl 3 rfl) ?_
  refine lv_isub S.1 S.2.1 d_AL_add3_48 ?_
  refine m_copy S hw hl.1 g509 (mU_to (m_fne (mU_eq _ _ _) hq).symm (mU_eq _ _ _)) (mU_to (m_fne (mU_eq _ _ _) hq).symm (mU_eq _ _ _)) (((hE.lst ha).new hq).lst (mU_to (m_fne (mU_eq _ _ _) hq) (mU_eq _ _ _))) (sp' := i0) (dp' := (i0 + 1)) (n' := (0 - i0)) rfl (nI_1 i0) (pk_sub hi) (by omega) (by omega) (by omega) (by omega) (by omega) (fun j hj y hy => List.mem_of_getElem? (((show ct (fun _ => none) xs from fun j hj => absurd hj (by omega)) (i0 + j) (by omega)).symm.trans hy)) (Nat.le_of_ble_eq_true rfl) (Nat.le_of_ble_eq_true rfl) d_AL_add3_49 (fun H locs hw => ?_)
  refine lv_aload S.1 S.2.1 d_AL_add3_52 (lv_at hl 0 rfl) ?_
  refine lv_iload_n S.1 S.2.1 d_AL_add3_54 rfl (lv_at hl 3 rfl) ?_
  refine lv_aload_n S.1 S.2.1 d_AL_add3_55 rfl (lv_at hl 4 rfl) ?_
  refine m_aastX S hw (mU_eq _ _ _) ((((hV.lst ha).new hq).lst (mU_to (m_fne (mU_eq _ _ _) hq) (mU_eq _ _ _))).arr (mU_to (m_fne (mU_eq _ _ _) hq).symm (mU_eq _ _ _))) hv (vp_in_nI (by omega) (by omega)) d_AL_add3_56 (fun H locs hw => ?_)
  refine lv_aload_n S.1 S.2.1 d_AL_add3_57 rfl (lv_at hl 2 rfl) ?_
  refine lv_iload_n S.1 S.2.1 d_AL_add3_58 rfl (lv_at hl 1 rfl) ?_
  refine lv_iconst (v := 1) S.1 S.2.1 d_AL_add3_59 (by decide) ?_
  refine lv_iadd S.1 S.2.1 d_AL_add3_60 ?_
  refine m_put S hw cl_AL (mU_to (m_fne (mU_eq _ _ _) hq) (mU_to (m_fne (mU_eq _ _ _) hq) (mU_eq _ _ _))) 2 (by decide) g85 (fun _ h => h) rfl rfl rfl (Nat.le_of_ble_eq_true rfl) d_AL_add3_61 (fun H locs hw => ?_)
  have hw : mW γ (mU (mU (mU (mU (mU (mU M a (.inr (0, [.int (md + 1), .ref (ge γ), .int (nI 0)]))) q (.inl (gA γ 3, 10, .inr (.inr (.inr (.inr (fun _ => none))))))) a (.inr (0, [.int (md + 1), .ref q, .int (nI 0)]))) q (.inl (gA γ 3, 10, .inr (.inr (.inr (.inr (va_cpy (fun _ => none) (fun _ => none) i0 (i0 + 1) (0 - i0)))))))) q (.inl (gA γ 3, 10, .inr (.inr (.inr (.inr (va_up (va_cpy (fun _ => none) (fun _ => none) i0 (i0 + 1) (0 - i0)) (nI i0 : Int32).toNatClampNeg (some v)))))))) a (.inr (0, [.int (md + 1), .ref q, .int ((nI 0) + 1)]))) s H locs := hw
  exact m_vret S hlk hr hw (⟨q, (mU_q0 hq).1, (mU_q0 hq).2, by rw [nI_clamp (by omega), nI_1, mU_uu]⟩) (by show 0 + 0 + 1 ≤ 1; omega) (by show 0 + 0 + 10 ≤ 10; omega) d_AL_add3_64
set_option maxHeartbeats 4000000 in
set_option maxRecDepth 100000 in
theorem c_AL_addAtF (l : Launch) (γ : mG) (M : mMap) (a : Nat) (md : Int32) (rr n : Nat) (f : Nat → Option Nat) (ha : M a = some (.inr (0, [.int md, .ref rr, .int (nI n)]))) (hr0 : M rr = some (.inl (gA γ 3, n, .inr (.inr (.inr (.inr f)))))) (v ci : Nat) (xs : List Nat) (hV : mEl M ci (v :: xs)) (hct : ct f xs) (hxs : xs.length = n) (h2 : 2 ≤ n) (hn : n ≤ 60000) (i0 : Nat) (hi : i0 ≤ n) : Met l y_AL_add3 w_AL_add3 ({ frames := 5, cells := 1, slots := (n + n / 2), locals := 135 } : Room) (mPc γ M [.ref a, .int (nI i0), .ref v]) (mQv γ (fun M' => ∃ q, q ≠ a ∧ M q = none ∧ M' = mU (mU (mU (mU (mU M a (.inr (0, [.int (md + 1), .ref rr, .int (nI n)]))) q (.inl (gA γ 3, (n + n / 2), .inr (.inr (.inr (.inr (va_cpy f (fun _ => none) 0 0 n))))))) a (.inr (0, [.int (md + 1), .ref q, .int (nI n)]))) q (.inl (gA γ 3, (n + n / 2), .inr (.inr (.inr (.inr (va_up (va_cpy (va_cpy f (fun _ => none) 0 0 n) (va_cpy f (fun _ => none) 0 0 n) i0 (i0 + 1) (n - i0)) i0 (some v)))))))) a (.inr (0, [.int (md + 1), .ref q, .int (nI (n + 1))])))) 1 (n + n / 2) (mA (gz γ)) := by
  refine m_enter (by decide) (Nat.le_of_ble_eq_true rfl) ?_
  intro p e s m below meth c ls S hr hlk hnm hl hw
  have hl : lv_has ls 5 [(0, .ref a), (1, .int (nI i0)), (2, .ref v)] := hl
  have hE : mEl M ci xs := hV.sub (fun x h => List.mem_cons_of_mem _ h)
  have hv : v ∈ v :: xs := List.mem_cons_self
  refine lv_aload_n S.1 S.2.1 d_AL_add3_0 rfl (lv_at hl 0 rfl) ?_
  refine lv_iload_n S.1 S.2.1 d_AL_add3_1 rfl (lv_at hl 1 rfl) ?_
  refine m_cv hw (va_runV (As := [.int (nI i0)]) (rest := []) S (c_AL_rangeCheckForAdd l γ M a md _ _ ha (nI i0) (nI_pos' (by omega)) (nI_nlt hi (by omega))) (m_cwV 1 S g505 g507 g10 g44 g508 rfl rfl ⟨by decide +kernel, by decide +kernel, by decide +kernel⟩ ⟨(Nat.le_of_ble_eq_true rfl), (Nat.le_of_ble_eq_true rfl)⟩) (hw.preV ha cl_AL.1) rfl rfl hl.1 rfl (lv_room (Nat.le_of_ble_eq_true rfl)) d_AL_add3_2 ⟨(Nat.zero_le _), (Nat.zero_le _)⟩) (fun M1 H locs hp hw => ?_)
  rw [hp] at hw
  refine lv_aload_n S.1 S.2.1 d_AL_add3_5 rfl (lv_at hl 0 rfl) ?_
  refine lv_dup S.1 S.2.1 d_AL_add3_6 rfl ?_
  refine m_get S hw cl_AL ha 0 (by decide) g87 (fun x h => u_same (S.2.2.2.2 _ (gc g88)) x h) rfl d_AL_add3_7 ?_
  refine lv_iconst (v := 1) S.1 S.2.1 d_AL_add3_10 (by decide) ?_
  refine lv_iadd S.1 S.2.1 d_AL_add3_11 ?_
  refine m_put S hw cl_AL ha 0 (by decide) g87 (fun x h => u_same (S.2.2.2.2 _ (gc g88)) x h) rfl rfl rfl (Nat.le_of_ble_eq_true rfl) d_AL_add3_12 (fun H locs hw => ?_)
  have hw : mW γ (mU M a (.inr (0, [.int (md + 1), .ref rr, .int (nI n)]))) s H locs := hw
  refine lv_aload_n S.1 S.2.1 d_AL_add3_15 rfl (lv_at hl 0 rfl) ?_
  refine m_get S hw cl_AL (mU_eq _ _ _) 2 (by decide) g85 (fun _ h => h) rfl d_AL_add3_16 ?_
  refine lv_dup S.1 S.2.1 d_AL_add3_19 rfl ?_
  refine lv_istore_n S.1 S.2.1 d_AL_add3_20 rfl hl (by decide) rfl (fun ls hl => ?_)
  have hl : lv_has ls 5 [(3, .int (nI n)), (0, .ref a), (1, .int (nI i0)), (2, .ref v)] := hl
  refine lv_aload_n S.1 S.2.1 d_AL_add3_21 rfl (lv_at hl 1 rfl) ?_
  refine m_get S hw cl_AL (mU_eq _ _ _) 1 (by decide) g84 (fun _ h => h) rfl d_AL_add3_22 ?_
  refine lv_dup S.1 S.2.1 d_AL_add3_25 rfl ?_
  refine lv_astore S.1 S.2.1 d_AL_add3_26 hl (by decide) rfl (fun ls hl => ?_)
  have hl : lv_has ls 5 [(4, .ref rr), (3, .int (nI n)), (0, .ref a), (1, .int (nI i0)), (2, .ref v)] := hl
  refine m_alen S hw 3 (mU_to (m_kind hr0 ha (fun z => by cases z)) hr0) rfl rfl d_AL_add3_28 ?_
  refine lv_icmp_ne (tgt := 38) S.1 S.2.1 d_AL_add3_29 rfl (fun h => absurd rfl h) (fun _ => ?_)
  refine lv_aload_n S.1 S.2.1 d_AL_add3_32 rfl (lv_at hl 2 rfl) ?_
  refine m_cq hw (va_runV (As := []) (rest := []) S (c_AL_growF l γ (mU M a (.inr (0, [.int (md + 1), .ref rr, .int (nI n)]))) a (md + 1) rr n f (mU_eq _ _ _) (mU_to (m_kind hr0 ha (fun z => by cases z)) hr0) ci xs (hE.lst ha) hct hxs h2 hn) (m_cwV 0 S g439 g441 g6 g44 g442 rfl rfl ⟨by decide +kernel, by decide +kernel, by decide +kernel⟩ ⟨(Nat.le_of_ble_eq_true rfl), (Nat.le_of_ble_eq_true rfl)⟩) (hw.preV (mU_eq _ _ _) cl_AL.1) rfl rfl hl.1 rfl (lv_room (Nat.le_of_ble_eq_true rfl)) d_AL_add3_33 ⟨(by show 0 + 0 + 1 ≤ 1; omega), (by show 0 + 0 + (n + n / 2) ≤ (n + n / 2); omega)⟩) (fun r1 M1 H locs hp hw => ?_)
  obtain ⟨q, rfl, hq, hM1⟩ := hp
  rw [hM1] at hw
  refine lv_astore S.1 S.2.1 d_AL_add3_36 hl (by decide) rfl (fun ls hl => ?_)
  have hl : lv_has ls 5 [(4, .ref q), (3, .int (nI n)), (0, .ref a), (1, .int (nI i0)), (2, .ref v)] := hl
  refine lv_aload S.1 S.2.1 d_AL_add3_38 (lv_at hl 0 rfl) ?_
  refine lv_iload_n S.1 S.2.1 d_AL_add3_40 rfl (lv_at hl 3 rfl) ?_
  refine lv_aload S.1 S.2.1 d_AL_add3_41 (lv_at hl 0 rfl) ?_
  refine lv_iload_n S.1 S.2.1 d_AL_add3_43 rfl (lv_at hl 3 rfl) ?_
  refine lv_iconst (v := 1) S.1 S.2.1 d_AL_add3_44 (by decide) ?_
  refine lv_iadd S.1 S.2.1 d_AL_add3_45 ?_
  refine lv_iload_n S.1 S.2.1 d_AL_add3_46 rfl (lv_at hl 1 rfl) ?_
  refine lv_iload_n S.1 S.2.1 d_AL_add3_47 rfl (lv_at hl 3 rfl) ?_
  refine lv_isub S.1 S.2.1 d_AL_add3_48 ?_
  refine m_copy S hw hl.1 g509 (mU_to (m_fne (mU_eq _ _ _) hq).symm (mU_eq _ _ _)) (mU_to (m_fne (mU_eq _ _ _) hq).symm (mU_eq _ _ _)) (((hE.lst ha).new hq).lst (mU_to (m_fne (mU_eq _ _ _) hq) (mU_eq _ _ _))) (sp' := i0) (dp' := (i0 + 1)) (n' := (n - i0)) rfl (nI_1 i0) (pk_sub hi) (by omega) (by omega) (by omega) (by omega) (by omega) (fun j hj y hy => List.mem_of_getElem? (((ct_grow (g := fun _ => none) hct (Nat.le_of_eq hxs)) (i0 + j) (by omega)).symm.trans hy)) (Nat.le_of_ble_eq_true rfl) (Nat.le_of_ble_eq_true rfl) d_AL_add3_49 (fun H locs hw => ?_)
  refine lv_aload S.1 S.2.1 d_AL_add3_52 (lv_at hl 0 rfl) ?_
  refine lv_iload_n S.1 S.2.1 d_AL_add3_54 rfl (lv_at hl 3 rfl) ?_
  refine lv_aload_n S.1 S.2.1 d_AL_add3_55 rfl (lv_at hl 4 rfl) ?_
  refine m_aastX S hw (mU_eq _ _ _) ((((hV.lst ha).new hq).lst (mU_to (m_fne (mU_eq _ _ _) hq) (mU_eq _ _ _))).arr (mU_to (m_fne (mU_eq _ _ _) hq).symm (mU_eq _ _ _))) hv (vp_in_nI (by omega) (by omega)) d_AL_add3_56 (fun H locs hw => ?_)
  refine lv_aload_n S.1 S.2.1 d_AL_add3_57 rfl (lv_at hl 2 rfl) ?_
  refine lv_iload_n S.1 S.2.1 d_AL_add3_58 rfl (lv_at hl 1 rfl) ?_
  refine lv_iconst (v := 1) S.1 S.2.1 d_AL_add3_59 (by decide) ?_
  refine lv_iadd S.1 S.2.1 d_AL_add3_60 ?_
  refine m_put S hw cl_AL (mU_to (m_fne (mU_eq _ _ _) hq) (mU_to (m_fne (mU_eq _ _ _) hq) (mU_eq _ _ _))) 2 (by decide) g85 (fun _ h => h) rfl rfl rfl (Nat.le_of_ble_eq_true rfl) d_AL_add3_61 (fun H locs hw => ?_)
  have hw : mW γ (mU (mU (mU (mU (mU (mU M a (.inr (0, [.int (md + 1), .ref rr, .int (nI n)]))) q (.inl (gA γ 3, (n + n / 2), .inr (.inr (.inr (.inr (va_cpy f (fun _ => none) 0 0 n))))))) a (.inr (0, [.int (md + 1), .ref q, .int (nI n)]))) q (.inl (gA γ 3, (n + n / 2), .inr (.inr (.inr (.inr (va_cpy (va_cpy f (fun _ => none) 0 0 n) (va_cpy f (fun _ => none) 0 0 n) i0 (i0 + 1) (n - i0)))))))) q (.inl (gA γ 3, (n + n / 2), .inr (.inr (.inr (.inr (va_up (va_cpy (va_cpy f (fun _ => none) 0 0 n) (va_cpy f (fun _ => none) 0 0 n) i0 (i0 + 1) (n - i0)) (nI i0 : Int32).toNatClampNeg (some v)))))))) a (.inr (0, [.int (md + 1), .ref q, .int ((nI n) + 1)]))) s H locs := hw
  exact m_vret S hlk hr hw (⟨q, (mU_q0 hq).1, (mU_q0 hq).2, by rw [nI_clamp (by omega), nI_1, mU_uu]⟩) (by show 0 + 0 + 1 ≤ 1; omega) (by show 0 + 0 + (n + n / 2) ≤ (n + n / 2); omega) d_AL_add3_64
end
section
/-! ArrayList: remove(int) -/
set_option maxHeartbeats 4000000 in
set_option maxRecDepth 100000 in
theorem c_AL_fastRemoveM (l : Launch) (γ : mG) (M : mMap) (a : Nat) (md : Int32) (rr n k : Nat) (f : Nat → Option Nat) (ha : M a = some (.inr (0, [.int md, .ref rr, .int (nI (k + 1))]))) (hr0 : M rr = some (.inl (gA γ 3, n, .inr (.inr (.inr (.inr f)))))) (ci : Nat) (xs : List Nat) (hE : mEl M ci xs) (hct : ct f xs) (hxs : xs.length = k + 1) (hk : k < n) (hn : n ≤ 100000) (i0 : Nat) (hi : i0 < k) : Met l y_AL_fastRemove w_AL_fastRemove ({ frames := 1, cells := 0, slots := 0, locals := 48 } : Room) (mPc γ M [.ref a, .ref rr, .int (nI i0)]) (mQv γ (fun M' => M' = mU (mU (mU (mU M a (.inr (0, [.int (md + 1), .ref rr, .int (nI (k + 1))]))) rr (.inl (gA γ 3, n, .inr (.inr (.inr (.inr (va_cpy f f (i0 + 1) i0 (k - i0)))))))) a (.inr (0, [.int (md + 1), .ref rr, .int (nI k)]))) rr (.inl (gA γ 3, n, .inr (.inr (.inr (.inr (va_up (va_cpy f f (i0 + 1) i0 (k - i0)) k none)))))))) 0 0 (mA (gz γ)) := by
  refine m_enter (by decide) (Nat.le_of_ble_eq_true rfl) ?_
  intro p e s m below meth c ls S hr hlk hnm hl hw
  have hl : lv_has ls 4 [(0, .ref a), (1, .ref rr), (2, .int (nI i0))] := hl
  refine lv_aload_n S.1 S.2.1 d_AL_fastRemove_0 rfl (lv_at hl 0 rfl) ?_
  refine lv_dup S.1 S.2.1 d_AL_fastRemove_1 rfl ?_
  refine m_get S hw cl_AL ha 0 (by decide) g87 (fun x h => u_same (S.2.2.2.2 _ (gc g88)) x h) rfl d_AL_fastRemove_2 ?_
  refine lv_iconst (v := 1) S.1 S.2.1 d_AL_fastRemove_5 (by decide) ?_
  refine lv_iadd S.1 S.2.1 d_AL_fastRemove_6 ?_
  refine m_put S hw cl_AL ha 0 (by decide) g87 (fun x h => u_same (S.2.2.2.2 _ (gc g88)) x h) rfl rfl rfl (Nat.le_of_ble_eq_true rfl) d_AL_fastRemove_7 (fun H locs hw => ?_)
  have hw : mW γ (mU M a (.inr (0, [.int (md + 1), .ref rr, .int (nI (k + 1))]))) s H locs := hw
  refine lv_aload_n S.1 S.2.1 d_AL_fastRemove_10 rfl (lv_at hl 0 rfl) ?_
  refine m_get S hw cl_AL (mU_eq _ _ _) 2 (by decide) g85 (fun _ h => h) rfl d_AL_fastRemove_11 ?_
  refine lv_iconst (v := 1) S.1 S.2.1 d_AL_fastRemove_14 (by decide) ?_
  refine lv_isub S.1 S.2.1 d_AL_fastRemove_15 ?_
  refine W.eq (g2 := F0 m 16 ls [.int (nI k)]) (by rw [nI_pred]) ?_
  refine lv_dup S.1 S.2.1 d_AL_fastRemove_16 rfl ?_
  refine lv_istore_n S.1 S.2.1 d_AL_fastRemove_17 rfl hl (by decide) rfl (fun ls hl => ?_)
  have hl : lv_has ls 4 [(3, .int (nI k)), (0, .ref a), (1, .ref rr), (2, .int (nI i0))] := hl
  refine lv_iload_n S.1 S.2.1 d_AL_fastRemove_18 rfl (lv_at hl 3 rfl) ?_
  refine lv_icmp_le (tgt := 34) S.1 S.2.1 d_AL_fastRemove_19 rfl (fun h => absurd h (show ¬ nI k ≤ nI i0 from nI_ge hi (by omega))) (fun _ => ?_)
  refine lv_aload_n S.1 S.2.1 d_AL_fastRemove_22 rfl (lv_at hl 2 rfl) ?_
  refine lv_iload_n S.1 S.2.1 d_AL_fastRemove_23 rfl (lv_at hl 3 rfl) ?_
  refine lv_iconst (v := 1) S.1 S.2.1 d_AL_fastRemove_24 (by decide) ?_
  refine lv_iadd S.1 S.2.1 d_AL_fastRemove_25 ?_
  refine lv_aload_n S.1 S.2.1 d_AL_fastRemove_26 rfl (lv_at hl 2 rfl) ?_
  refine lv_iload_n S.1 S.2.1 d_AL_fastRemove_27 rfl (lv_at hl 3 rfl) ?_
  refine lv_iload_n S.1 S.2.1 d_AL_fastRemove_28 rfl (lv_at hl 0 rfl) ?_
  refine lv_iload_n S.1 S.2.1 d_AL_fastRemove_29 rfl (lv_at hl 3 rfl) ?_
  refine lv_isub S.1 S.2.1 d_AL_fastRemove_30 ?_
  refine m_copy S hw hl.1 g509 (mU_to (m_kind hr0 ha (fun z => by cases z)) hr0) (mU_to (m_kind hr0 ha (fun z => by cases z)) hr0) (hE.lst ha) (sp' := (i0 + 1)) (dp' := i0) (n' := (k - i0)) (nI_1 i0) rfl (pk_sub (by omega)) (by omega) (by omega) (by omega) (by omega) (by omega) (fun j hj y hy => List.mem_of_getElem? ((hct (i0 + 1 + j) (by omega)).symm.trans hy)) (Nat.le_of_ble_eq_true rfl) (Nat.le_of_ble_eq_true rfl) d_AL_fastRemove_31 (fun H locs hw => ?_)
  refine lv_aload_n S.1 S.2.1 d_AL_fastRemove_34 rfl (lv_at hl 2 rfl) ?_
  refine lv_aload_n S.1 S.2.1 d_AL_fastRemove_35 rfl (lv_at hl 1 rfl) ?_
  refine lv_iload_n S.1 S.2.1 d_AL_fastRemove_36 rfl (lv_at hl 0 rfl) ?_
  refine lv_dup_x1 S.1 S.2.1 d_AL_fastRemove_37 rfl rfl ?_
  refine m_put S hw cl_AL (mU_to (m_kind hr0 ha (fun z => by cases z)).symm (mU_eq _ _ _)) 2 (by decide) g85 (fun _ h => h) rfl rfl rfl (Nat.le_of_ble_eq_true rfl) d_AL_fastRemove_38 (fun H locs hw => ?_)
  have hw : mW γ (mU (mU (mU M a (.inr (0, [.int (md + 1), .ref rr, .int (nI (k + 1))]))) rr (.inl (gA γ 3, n, .inr (.inr (.inr (.inr (va_cpy f f (i0 + 1) i0 (k - i0)))))))) a (.inr (0, [.int (md + 1), .ref rr, .int (nI k)]))) s H locs := hw
  refine lv_null S.1 S.2.1 d_AL_fastRemove_41 ?_
  refine m_aastN S hw (mU_to (m_kind hr0 ha (fun z => by cases z)) (mU_eq _ _ _)) (vp_in_nI hk (by omega)) d_AL_fastRemove_42 (fun H locs hw => ?_)
  exact m_vret S hlk hr hw (by rw [nI_clamp (by omega)]) (Nat.le_refl _) (Nat.le_refl _) d_AL_fastRemove_43
set_option maxHeartbeats 4000000 in
set_option maxRecDepth 100000 in
theorem c_AL_fastRemoveL (l : Launch) (γ : mG) (M : mMap) (a : Nat) (md : Int32) (rr n k : Nat) (f : Nat → Option Nat) (ha : M a = some (.inr (0, [.int md, .ref rr, .int (nI (k + 1))]))) (hr0 : M rr = some (.inl (gA γ 3, n, .inr (.inr (.inr (.inr f)))))) (ci : Nat) (xs : List Nat) (hE : mEl M ci xs) (hct : ct f xs) (hxs : xs.length = k + 1) (hk : k < n) (hn : n ≤ 100000) (i0 : Nat) (hi : i0 = k) : Met l y_AL_fastRemove w_AL_fastRemove ({ frames := 1, cells := 0, slots := 0, locals := 48 } : Room) (mPc γ M [.ref a, .ref rr, .int (nI i0)]) (mQv γ (fun M' => M' = mU (mU (mU M a (.inr (0, [.int (md + 1), .ref rr, .int (nI (k + 1))]))) a (.inr (0, [.int (md + 1), .ref rr, .int (nI k)]))) rr (.inl (gA γ 3, n, .inr (.inr (.inr (.inr (va_up f k none)))))))) 0 0 (mA (gz γ)) := by
  refine m_enter (by decide) (Nat.le_of_ble_eq_true rfl) ?_
  intro p e s m below meth c ls S hr hlk hnm hl hw
  have hl : lv_has ls 4 [(0, .ref a), (1, .ref rr), (2, .int (nI i0))] := hl
  refine lv_aload_n S.1 S.2.1 d_AL_fastRemove_0 rfl (lv_at hl 0 rfl) ?_
  refine lv_dup S.1 S.2.1 d_AL_fastRemove_1 rfl ?_
  refine m_get S hw cl_AL ha 0 (by decide) g87 (fun x h => u_same (S.2.2.2.2 _ (gc g88)) x h) rfl d_AL_fastRemove_2 ?_
  refine lv_iconst (v := 1) S.1 S.2.1 d_AL_fastRemove_5 (by decide) ?_
  refine lv_iadd S.1 S.2.1 d_AL_fastRemove_6 ?_
  refine m_put S hw cl_AL ha 0 (by decide) g87 (fun x h => u_same (S.2.2.2.2 _ (gc g88)) x h) rfl rfl rfl (Nat.le_of_ble_eq_true rfl) d_AL_fastRemove_7 (fun H locs hw => ?_)
  have hw : mW γ (mU M a (.inr (0, [.int (md + 1), .ref rr, .int (nI (k + 1))]))) s H locs := hw
  refine lv_aload_n S.1 S.2.1 d_AL_fastRemove_10 rfl (lv_at hl 0 rfl) ?_
  refine m_get S hw cl_AL (mU_eq _ _ _) 2 (by decide) g85 (fun _ h => h) rfl d_AL_fastRemove_11 ?_
  refine lv_iconst (v := 1) S.1 S.2.1 d_AL_fastRemove_14 (by decide) ?_
  refine lv_isub S.1 S.2.1 d_AL_fastRemove_15 ?_
  refine W.eq (g2 := F0 m 16 ls [.int (nI k)]) (by rw [nI_pred]) ?_
  refine lv_dup S.1 S.2.1 d_AL_fastRemove_16 rfl ?_
  refine lv_istore_n S.1 S.2.1 d_AL_fastRemove_17 rfl hl (by decide) rfl (fun ls hl => ?_)
  have hl : lv_has ls 4 [(3, .int (nI k)), (0, .ref a), (1, .ref rr), (2, .int (nI i0))] := hl
  refine lv_iload_n S.1 S.2.1 d_AL_fastRemove_18 rfl (lv_at hl 3 rfl) ?_
  refine lv_icmp_le (tgt := 34) S.1 S.2.1 d_AL_fastRemove_19 rfl (fun _ => ?_) (fun h => absurd (show nI k ≤ nI i0 from nI_le (by omega) (by omega)) h)
  refine lv_aload_n S.1 S.2.1 d_AL_fastRemove_34 rfl (lv_at hl 2 rfl) ?_
  refine lv_aload_n S.1 S.2.1 d_AL_fastRemove_35 rfl (lv_at hl 1 rfl) ?_
  refine lv_iload_n S.1 S.2.1 d_AL_fastRemove_36 rfl (lv_at hl 0 rfl) ?_
  refine lv_dup_x1 S.1 S.2.1 d_AL_fastRemove_37 rfl rfl ?_
  refine m_put S hw cl_AL (mU_eq _ _ _) 2 (by decide) g85 (fun _ h => h) rfl rfl rfl (Nat.le_of_ble_eq_true rfl) d_AL_fastRemove_38 (fun H locs hw => ?_)
  have hw : mW γ (mU (mU M a (.inr (0, [.int (md + 1), .ref rr, .int (nI (k + 1))]))) a (.inr (0, [.int (md + 1), .ref rr, .int (nI k)]))) s H locs := hw
  refine lv_null S.1 S.2.1 d_AL_fastRemove_41 ?_
  refine m_aastN S hw (mU_to (m_kind hr0 ha (fun z => by cases z)) (mU_to (m_kind hr0 ha (fun z => by cases z)) hr0)) (vp_in_nI hk (by omega)) d_AL_fastRemove_42 (fun H locs hw => ?_)
  exact m_vret S hlk hr hw (by rw [nI_clamp (by omega)]) (Nat.le_refl _) (Nat.le_refl _) d_AL_fastRemove_43
set_option maxHeartbeats 4000000 in
set_option maxRecDepth 100000 in
theorem c_AL_removeM (l : Launch) (γ : mG) (M : mMap) (a : Nat) (md : Int32) (rr n k : Nat) (f : Nat → Option Nat) (ha : M a = some (.inr (0, [.int md, .ref rr, .int (nI (k + 1))]))) (hr0 : M rr = some (.inl (gA γ 3, n, .inr (.inr (.inr (.inr f)))))) (ci : Nat) (xs : List Nat) (hE : mEl M ci xs) (hct : ct f xs) (hxs : xs.length = k + 1) (hk : k < n) (hn : n ≤ 100000) (i0 : Nat) (hi : i0 < k) (x0 : Nat) (hx0 : f i0 = some x0) : Met l y_AL_remove w_AL_remove ({ frames := 2, cells := 0, slots := 0, locals := 71 } : Room) (mPc γ M [.ref a, .int (nI i0)]) (mQq γ (fun r M' => r = some x0 ∧ M' = mU (mU (mU (mU M a (.inr (0, [.int (md + 1), .ref rr, .int (nI (k + 1))]))) rr (.inl (gA γ 3, n, .inr (.inr (.inr (.inr (va_cpy f f (i0 + 1) i0 (k - i0)))))))) a (.inr (0, [.int (md + 1), .ref rr, .int (nI k)]))) rr (.inl (gA γ 3, n, .inr (.inr (.inr (.inr (va_up (va_cpy f f (i0 + 1) i0 (k - i0)) k none)))))))) 0 0 (mA (gz γ)) := by
  refine m_enter (by decide) (Nat.le_of_ble_eq_true rfl) ?_
  intro p e s m below meth c ls S hr hlk hnm hl hw
  have hl : lv_has ls 4 [(0, .ref a), (1, .int (nI i0))] := hl
  refine lv_iload_n S.1 S.2.1 d_AL_remove_0 rfl (lv_at hl 1 rfl) ?_
  refine lv_aload_n S.1 S.2.1 d_AL_remove_1 rfl (lv_at hl 0 rfl) ?_
  refine m_get S hw cl_AL ha 2 (by decide) g85 (fun _ h => h) rfl d_AL_remove_2 ?_
  refine m_ci hw (va_runS (As := [.int (nI i0), .int (nI (k + 1))]) (rest := []) S (c_Ob_checkIndex l γ M (nI i0) (nI (k + 1)) (nI_pos (by omega)) (nI_lt (by omega) (by omega))) (m_cwS 2 S g193 g194 g59 g195 rfl rfl ⟨by decide +kernel, by decide +kernel, by decide +kernel⟩ ⟨(Nat.le_of_ble_eq_true rfl), (Nat.le_of_ble_eq_true rfl)⟩) hw.preS rfl rfl hl.1 rfl (lv_room (Nat.le_of_ble_eq_true rfl)) d_AL_remove_5 ⟨(Nat.zero_le _), (Nat.zero_le _)⟩) (fun r1 M1 H locs hp hw => ?_)
  obtain ⟨rfl, hM1⟩ := hp
  rw [hM1] at hw
  refine lv_pop S.1 S.2.1 d_AL_remove_8 rfl ?_
  refine lv_aload_n S.1 S.2.1 d_AL_remove_9 rfl (lv_at hl 0 rfl) ?_
  refine m_get S hw cl_AL ha 1 (by decide) g84 (fun _ h => h) rfl d_AL_remove_10 ?_
  refine lv_astore_n S.1 S.2.1 d_AL_remove_13 rfl hl (by decide) rfl (fun ls hl => ?_)
  have hl : lv_has ls 4 [(2, .ref rr), (0, .ref a), (1, .int (nI i0))] := hl
  refine lv_aload_n S.1 S.2.1 d_AL_remove_14 rfl (lv_at hl 0 rfl) ?_
  refine lv_iload_n S.1 S.2.1 d_AL_remove_15 rfl (lv_at hl 2 rfl) ?_
  refine m_aald S hw hr0 (vp_in_nI (by omega) (by omega)) d_AL_remove_16 ?_
  refine W.eq (g2 := F0 m 17 ls [.ref x0]) (by rw [nI_clamp (by omega), hx0]; rfl) ?_
  refine lv_astore_n S.1 S.2.1 d_AL_remove_17 rfl hl (by decide) rfl (fun ls hl => ?_)
  have hl : lv_has ls 4 [(3, .ref x0), (2, .ref rr), (0, .ref a), (1, .int (nI i0))] := hl
  refine lv_aload_n S.1 S.2.1 d_AL_remove_18 rfl (lv_at hl 2 rfl) ?_
  refine lv_aload_n S.1 S.2.1 d_AL_remove_19 rfl (lv_at hl 1 rfl) ?_
  refine lv_iload_n S.1 S.2.1 d_AL_remove_20 rfl (lv_at hl 3 rfl) ?_
  refine m_cv hw (va_runV (As := [.ref rr, .int (nI i0)]) (rest := []) S (c_AL_fastRemoveM l γ M a md rr n k f ha hr0 ci xs hE hct hxs hk hn i0 hi) (m_cwV 2 S g575 g577 g17 g44 g578 rfl rfl ⟨by decide +kernel, by decide +kernel, by decide +kernel⟩ ⟨(Nat.le_of_ble_eq_true rfl), (Nat.le_of_ble_eq_true rfl)⟩) (hw.preV ha cl_AL.1) rfl rfl hl.1 rfl (lv_room (Nat.le_of_ble_eq_true rfl)) d_AL_remove_21 ⟨(Nat.zero_le _), (Nat.zero_le _)⟩) (fun M1 H locs hp hw => ?_)
  rw [hp] at hw
  refine lv_aload_n S.1 S.2.1 d_AL_remove_24 rfl (lv_at hl 0 rfl) ?_
  exact m_aret (r := (some x0)) S hlk hr (Or.inl ⟨_, rfl⟩) hw (⟨rfl, rfl⟩) (Nat.le_refl _) (Nat.le_refl _) d_AL_remove_25
set_option maxHeartbeats 4000000 in
set_option maxRecDepth 100000 in
theorem c_AL_removeL (l : Launch) (γ : mG) (M : mMap) (a : Nat) (md : Int32) (rr n k : Nat) (f : Nat → Option Nat) (ha : M a = some (.inr (0, [.int md, .ref rr, .int (nI (k + 1))]))) (hr0 : M rr = some (.inl (gA γ 3, n, .inr (.inr (.inr (.inr f)))))) (ci : Nat) (xs : List Nat) (hE : mEl M ci xs) (hct : ct f xs) (hxs : xs.length = k + 1) (hk : k < n) (hn : n ≤ 100000) (i0 : Nat) (hi : i0 = k) (x0 : Nat) (hx0 : f i0 = some x0) : Met l y_AL_remove w_AL_remove ({ frames := 2, cells := 0, slots := 0, locals := 71 } : Room) (mPc γ M [.ref a, .int (nI i0)]) (mQq γ (fun r M' => r = some x0 ∧ M' = mU (mU (mU M a (.inr (0, [.int (md + 1), .ref rr, .int (nI (k + 1))]))) a (.inr (0, [.int (md + 1), .ref rr, .int (nI k)]))) rr (.inl (gA γ 3, n, .inr (.inr (.inr (.inr (va_up f k none)))))))) 0 0 (mA (gz γ)) := by
  refine m_enter (by decide) (Nat.le_of_ble_eq_true rfl) ?_
  intro p e s m below meth c ls S hr hlk hnm hl hw
  have hl : lv_has ls 4 [(0, .ref a), (1, .int (nI i0))] := hl
  refine lv_iload_n S.1 S.2.1 d_AL_remove_0 rfl (lv_at hl 1 rfl) ?_
  refine lv_aload_n S.1 S.2.1 d_AL_remove_1 rfl (lv_at hl 0 rfl) ?_
  refine m_get S hw cl_AL ha 2 (by decide) g85 (fun _ h => h) rfl d_AL_remove_2 ?_
  refine m_ci hw (va_runS (As := [.int (nI i0), .int (nI (k + 1))]) (rest := []) S (c_Ob_checkIndex l γ M (nI i0) (nI (k + 1)) (nI_pos (by omega)) (nI_lt (by omega) (by omega))) (m_cwS 2 S g193 g194 g59 g195 rfl rfl ⟨by decide +kernel, by decide +kernel, by decide +kernel⟩ ⟨(Nat.le_of_ble_eq_true rfl), (Nat.le_of_ble_eq_true rfl)⟩) hw.preS rfl rfl hl.1 rfl (lv_room (Nat.le_of_ble_eq_true rfl)) d_AL_remove_5 ⟨(Nat.zero_le _), (Nat.zero_le _)⟩) (fun r1 M1 H locs hp hw => ?_)
  obtain ⟨rfl, hM1⟩ := hp
  rw [hM1] at hw
  refine lv_pop S.1 S.2.1 d_AL_remove_8 rfl ?_
  refine lv_aload_n S.1 S.2.1 d_AL_remove_9 rfl (lv_at hl 0 rfl) ?_
  refine m_get S hw cl_AL ha 1 (by decide) g84 (fun _ h => h) rfl d_AL_remove_10 ?_
  refine lv_astore_n S.1 S.2.1 d_AL_remove_13 rfl hl (by decide) rfl (fun ls hl => ?_)
  have hl : lv_has ls 4 [(2, .ref rr), (0, .ref a), (1, .int (nI i0))] := hl
  refine lv_aload_n S.1 S.2.1 d_AL_remove_14 rfl (lv_at hl 0 rfl) ?_
  refine lv_iload_n S.1 S.2.1 d_AL_remove_15 rfl (lv_at hl 2 rfl) ?_
  refine m_aald S hw hr0 (vp_in_nI (by omega) (by omega)) d_AL_remove_16 ?_
  refine W.eq (g2 := F0 m 17 ls [.ref x0]) (by rw [nI_clamp (by omega), hx0]; rfl) ?_
  refine lv_astore_n S.1 S.2.1 d_AL_remove_17 rfl hl (by decide) rfl (fun ls hl => ?_)
  have hl : lv_has ls 4 [(3, .ref x0), (2, .ref rr), (0, .ref a), (1, .int (nI i0))] := hl
  refine lv_aload_n S.1 S.2.1 d_AL_remove_18 rfl (lv_at hl 2 rfl) ?_
  refine lv_aload_n S.1 S.2.1 d_AL_remove_19 rfl (lv_at hl 1 rfl) ?_
  refine lv_iload_n S.1 S.2.1 d_AL_remove_20 rfl (lv_at hl 3 rfl) ?_
  refine m_cv hw (va_runV (As := [.ref rr, .int (nI i0)]) (rest := []) S (c_AL_fastRemoveL l γ M a md rr n k f ha hr0 ci xs hE hct hxs hk hn i0 hi) (m_cwV 2 S g575 g577 g17 g44 g578 rfl rfl ⟨by decide +kernel, by decide +kernel, by decide +kernel⟩ ⟨(Nat.le_of_ble_eq_true rfl), (Nat.le_of_ble_eq_true rfl)⟩) (hw.preV ha cl_AL.1) rfl rfl hl.1 rfl (lv_room (Nat.le_of_ble_eq_true rfl)) d_AL_remove_21 ⟨(Nat.zero_le _), (Nat.zero_le _)⟩) (fun M1 H locs hp hw => ?_)
  rw [hp] at hw
  refine lv_aload_n S.1 S.2.1 d_AL_remove_24 rfl (lv_at hl 0 rfl) ?_
  exact m_aret (r := (some x0)) S hlk hr (Or.inl ⟨_, rfl⟩) hw (⟨rfl, rfl⟩) (Nat.le_refl _) (Nat.le_refl _) d_AL_remove_25
end
section
/-! Lists: what add, add(int, E) and remove do to the list that the cells hold -/
theorem nil_len {xs : List Nat} (h : xs.length = 0) : xs = [] := List.eq_nil_of_length_eq_zero h
theorem cgr_pos {n : Nat} (h : 10 ≤ n) : cgr n = n + n / 2 := if_neg (by omega)
theorem alF.remM {M : mMap} {a r : Nat} {e0 e1 e2 e3 : va_E} : alF M (mU (mU (mU (mU M a e0) r e1) a e2) r e3) a r r := ⟨fun b e h h1 h2 => mU_to h2 (mU_to h1 (mU_to h2 (mU_to h1 h))), Or.inl rfl⟩
theorem alF.remL {M : mMap} {a r : Nat} {e0 e1 e2 : va_E} : alF M (mU (mU (mU M a e0) a e1) r e2) a r r := ⟨fun b e h h1 h2 => mU_to h2 (mU_to h1 (mU_to h1 h)), Or.inl rfl⟩
theorem cc_add (l : Launch) (γ : mG) (M : mMap) (a rr cap : Nat) (xs : List Nat) (hA : AL γ M a rr cap xs) (v ci : Nat) (hV : mEl M ci (v :: xs)) (hlt : xs.length ≤ 39000) : Met l y_AL_add w_AL_add ({ frames := 6, cells := gN cap xs.length, slots := sN cap xs.length, locals := 158 } : Room) (mPc γ M [.ref a, .ref v]) (mQi γ (fun r M' => r = 1 ∧ ∃ rr', AL γ M' a rr' (cN cap xs.length) (xs ++ [v]) ∧ alF M M' a rr rr')) (gN cap xs.length) (sN cap xs.length) (mA (gz γ)) := by
  obtain ⟨⟨md, ha⟩, hle, hcap, hc⟩ := hA
  have hv : v ∈ v :: xs := List.mem_cons_self
  by_cases h : xs.length = cap
  · have e1 : gN cap xs.length = 1 := if_pos h
    have e2 : sN cap xs.length = cgr cap := if_pos h
    have e3 : cN cap xs.length = cgr cap := if_pos h
    rw [e1, e2, e3]
    rcases hc with ⟨h0, hr⟩ | ⟨h10, f, hr0, hct⟩
    · subst h0
      have hx := nil_len h
      subst hx
      subst hr
      refine (c_AL_addE l γ M a md ha v ci [v] hV hv).mono (mQi.mono ?_)
      rintro r M' ⟨hr, q, hqa, hq, rfl⟩
      exact ⟨hr, q, AL.mk (mU_eq _ _ _) (mU_to hqa (mU_eq _ _ _)) (ct_add (xs := []) (ct_nil _)) (Nat.le_of_ble_eq_true rfl) (by decide) (by decide), alF.grown hq⟩
    · subst h
      rw [cgr_pos h10]
      refine (c_AL_addF l γ M a md rr _ f ha hr0 ci xs (hV.sub (fun x h => List.mem_cons_of_mem _ h)) hct rfl (by omega) (by omega) v (v :: xs) hV hv).mono (mQi.mono ?_)
      rintro r M' ⟨hr, q, hqa, hq, rfl⟩
      exact ⟨hr, q, AL.mk (by rw [List.length_append]; exact mU_eq _ _ _) (mU_to hqa (mU_eq _ _ _)) (ct_add (ct_grow hct (Nat.le_refl _))) (by rw [List.length_append, List.length_singleton]; omega) (by omega) (by omega), alF.grown hq⟩
  · have e1 : gN cap xs.length = 0 := if_neg h
    have e2 : sN cap xs.length = 0 := if_neg h
    have e3 : cN cap xs.length = cap := if_neg h
    rw [e1, e2, e3]
    rcases hc with ⟨h0, hr⟩ | ⟨h10, f, hr0, hct⟩
    · omega
    · have hne : rr ≠ a := m_kind hr0 ha (fun z => by cases z)
      refine (c_AL_addR l γ M a md rr cap xs.length f ha hr0 (by omega) (by omega) v ci (v :: xs) hV hv).mono (mQi.mono ?_)
      rintro r M' ⟨hr, rfl⟩
      exact ⟨hr, rr, AL.mk (by rw [List.length_append]; exact mU_eq _ _ _) (mU_to hne (mU_eq _ _ _)) (ct_add hct) (by rw [List.length_append, List.length_singleton]; omega) h10 hcap, alF.room⟩
theorem cc_addAt (l : Launch) (γ : mG) (M : mMap) (a rr cap : Nat) (xs : List Nat) (hA : AL γ M a rr cap xs) (v ci : Nat) (hV : mEl M ci (v :: xs)) (hlt : xs.length ≤ 39000) (i0 : Nat) (hi : i0 ≤ xs.length) : Met l y_AL_add3 w_AL_add3 ({ frames := 5, cells := gN cap xs.length, slots := sN cap xs.length, locals := 135 } : Room) (mPc γ M [.ref a, .int (nI i0), .ref v]) (mQv γ (fun M' => ∃ rr', AL γ M' a rr' (cN cap xs.length) (xs.insertIdx i0 v) ∧ alF M M' a rr rr')) (gN cap xs.length) (sN cap xs.length) (mA (gz γ)) := by
  obtain ⟨⟨md, ha⟩, hle, hcap, hc⟩ := hA
  have hlen : (xs.insertIdx i0 v).length = xs.length + 1 := by rw [List.length_insertIdx, if_pos hi]
  by_cases h : xs.length = cap
  · have e1 : gN cap xs.length = 1 := if_pos h
    have e2 : sN cap xs.length = cgr cap := if_pos h
    have e3 : cN cap xs.length = cgr cap := if_pos h
    rw [e1, e2, e3]
    rcases hc with ⟨h0, hr⟩ | ⟨h10, f, hr0, hct⟩
    · subst h0
      have hx := nil_len h
      subst hx
      subst hr
      have hi0 : i0 = 0 := by simpa using hi
      subst hi0
      refine (c_AL_addAtE l γ M a md ha v ci [] hV rfl 0 (Nat.le_refl _)).mono (mQv.mono ?_)
      rintro M' ⟨q, hqa, hq, rfl⟩
      exact ⟨q, AL.mk (mU_eq _ _ _) (mU_to hqa (mU_eq _ _ _)) (ct_ins (xs := []) (ct_nil _) (Nat.le_refl _)) (Nat.le_of_ble_eq_true rfl) (by decide) (by decide), alF.grown hq⟩
    · subst h
      rw [cgr_pos h10]
      refine (c_AL_addAtF l γ M a md rr _ f ha hr0 v ci xs hV hct rfl (by omega) (by omega) i0 hi).mono (mQv.mono ?_)
      rintro M' ⟨q, hqa, hq, rfl⟩
      exact ⟨q, AL.mk (by rw [hlen]; exact mU_eq _ _ _) (mU_to hqa (mU_eq _ _ _)) (ct_ins (ct_grow hct (Nat.le_refl _)) hi) (by rw [hlen]; omega) (by omega) (by omega), alF.grown hq⟩
  · have e1 : gN cap xs.length = 0 := if_neg h
    have e2 : sN cap xs.length = 0 := if_neg h
    have e3 : cN cap xs.length = cap := if_neg h
    rw [e1, e2, e3]
    rcases hc with ⟨h0, hr⟩ | ⟨h10, f, hr0, hct⟩
    · omega
    · have hne : rr ≠ a := m_kind hr0 ha (fun z => by cases z)
      refine (c_AL_addAtR l γ M a md rr cap xs.length f ha hr0 (by omega) (by omega) v ci xs hV hct rfl i0 hi).mono (mQv.mono ?_)
      rintro M' rfl
      exact ⟨rr, AL.mk (by rw [hlen]; exact mU_eq _ _ _) (mU_to hne (mU_eq _ _ _)) (ct_ins hct hi) (by rw [hlen]; omega) h10 hcap, alF.room⟩
theorem cc_remove (l : Launch) (γ : mG) (M : mMap) (a rr cap : Nat) (xs : List Nat) (hA : AL γ M a rr cap xs) (ci : Nat) (hE : mEl M ci xs) (i0 : Nat) (hi : i0 < xs.length) : Met l y_AL_remove w_AL_remove ({ frames := 2, cells := 0, slots := 0, locals := 71 } : Room) (mPc γ M [.ref a, .int (nI i0)]) (mQq γ (fun r M' => r = xs[i0]? ∧ AL γ M' a rr cap (xs.eraseIdx i0) ∧ alF M M' a rr rr)) 0 0 (mA (gz γ)) := by
  obtain ⟨md, f, ha, hr0, hct, hle, hcap, h10⟩ := hA.pos hi
  obtain ⟨k, hk⟩ : ∃ k, xs.length = k + 1 := ⟨xs.length - 1, by omega⟩
  have hne : rr ≠ a := m_kind hr0 ha (fun z => by cases z)
  have hx0 : f i0 = some xs[i0] := (hct i0 hi).trans (List.getElem?_eq_getElem hi)
  have hlen : (xs.eraseIdx i0).length = k := by rw [List.length_eraseIdx, if_pos hi]; omega
  rw [hk] at ha
  by_cases h : i0 < k
  · refine (c_AL_removeM l γ M a md rr cap k f ha hr0 ci xs hE hct hk (by omega) (by omega) i0 h _ hx0).mono (mQq.mono ?_)
    rintro r M' ⟨hr, rfl⟩
    have hd := ct_del hct hi
    rw [hk] at hd
    exact ⟨hr.trans (List.getElem?_eq_getElem hi).symm, AL.mk (mU_to hne.symm (by rw [hlen]; exact mU_eq _ _ _)) (mU_eq _ _ _) hd (by omega) h10 hcap, alF.remM⟩
  · refine (c_AL_removeL l γ M a md rr cap k f ha hr0 ci xs hE hct hk (by omega) (by omega) i0 (by omega) _ hx0).mono (mQq.mono ?_)
    rintro r M' ⟨hr, rfl⟩
    have hd := ct_del0 hct (show i0 + 1 = xs.length by omega)
    rw [hk] at hd
    exact ⟨hr.trans (List.getElem?_eq_getElem hi).symm, AL.mk (mU_to hne.symm (by rw [hlen]; exact mU_eq _ _ _)) (mU_eq _ _ _) hd (by omega) h10 hcap, alF.remL⟩
end
section
/-! The class's cells -/
def oc (I : Co) (o : Nat) : List Value := [.int (nI o), .int (I 0 o), .int (I 1 o), .int (I 8 o), .int (I 6 o), .int (I 2 o), .int (I 3 o), .int (I 4 o), .int (I 5 o), .int (I 7 o)]
/-- the orders' cells -/
def OR (M : mMap) (oa : Nat → Nat) (I : Co) (n : Nat) : Prop := ∀ o, o < n → M (oa o) = some (.inr (2, oc I o))
theorem OR.inj {M : mMap} {oa : Nat → Nat} {I : Co} {n : Nat} (h : OR M oa I n) (hn : n ≤ 250) {a b : Nat} (ha : a < n) (hb : b < n) (e : oa a = oa b) : a = b := by
  have h1 := h a ha
  rw [e, h b hb] at h1
  have h2 := congrArg (fun z => match z with | some (.inr (_, (.int v :: _))) => v | _ => (0 : Int32)) h1
  exact ((nI_eq (by omega) (by omega)).mp h2).symm
theorem OR.ne {M : mMap} {oa : Nat → Nat} {I : Co} {n : Nat} (h : OR M oa I n) (hn : n ≤ 250) {a b : Nat} (ha : a < n) (hb : b < n) (e : a ≠ b) : oa a ≠ oa b := fun z => e (h.inj hn ha hb z)
theorem oc_congr {I J : Co} {o : Nat} (h : ∀ f, f < 9 → J f o = I f o) : oc J o = oc I o := by
  unfold oc
  rw [h 0 (by omega), h 1 (by omega), h 2 (by omega), h 3 (by omega), h 4 (by omega), h 5 (by omega), h 6 (by omega), h 7 (by omega), h 8 (by omega)]
/-- one order's cell is written -/
theorem OR.set {M : mMap} {oa : Nat → Nat} {I J : Co} {n o : Nat} (h : OR M oa I n) (hn : n ≤ 250) (ho : o < n) (hJ : ∀ f x, x ≠ o → J f x = I f x) {e : va_E} (he : e = .inr (2, oc J o)) : OR (mU M (oa o) e) oa J n := by
  intro x hx
  by_cases z : x = o
  · subst z; rw [he]; exact mU_eq _ _ _
  · rw [mU_ne (h.ne hn hx ho z), oc_congr (fun f _ => hJ f x z)]
    exact h x hx
theorem OR.keep {M M' : mMap} {oa : Nat → Nat} {I : Co} {n : Nat} (h : OR M oa I n) (hk : ∀ o, o < n → M' (oa o) = M (oa o)) : OR M' oa I n := fun o ho => (hk o ho).trans (h o ho)
theorem OR.el {M : mMap} {oa : Nat → Nat} {I : Co} {n : Nat} (h : OR M oa I n) {L : List Nat} (hL : ∀ o, o ∈ L → o < n) : mEl M 2 (L.map oa) := by
  refine ⟨Or.inl rfl, fun x hx => ?_⟩
  obtain ⟨o, ho, rfl⟩ := List.mem_map.mp hx
  exact ⟨_, h o (hL o ho)⟩
/-- the trades' cells -/
def TR (M : mMap) (ta : Nat → Nat) (T : Co) (n : Nat) : Prop := ∀ i, i < n → M (ta i) = some (.inr (4, [.int (T 0 i), .int (T 1 i), .int (T 2 i), .int (T 3 i)]))
theorem AL.no {γ : mG} {M : mMap} {a r cap : Nat} {xs : List Nat} (h : AL γ M a r cap xs) (hg : M (ge γ) = none) {b : Nat} {e : va_E} (hb : M b = some e) (hk : ∀ c n f, e ≠ .inl (c, n, .inr (.inr (.inr (.inr f))))) : b ≠ r := by
  intro z
  obtain ⟨-, -, -, ⟨-, h4⟩ | ⟨-, f, h5, -⟩⟩ := h
  · rw [z, h4, hg] at hb; cases hb
  · rw [z, h5] at hb
    exact hk _ _ _ (Option.some.inj hb).symm
/-- a cell of another kind stays when a list changes -/
theorem alF.keep {γ : mG} {M M' : mMap} {a r r' cap : Nat} {xs : List Nat} (hF : alF M M' a r r') (h : AL γ M a r cap xs) (hg : M (ge γ) = none) {b : Nat} {e : va_E} (hb : M b = some e) (hk : ∀ c n f, e ≠ .inl (c, n, .inr (.inr (.inr (.inr f))))) (h0 : ∀ fs, e ≠ .inr (0, fs)) : M' b = some e := by
  refine hF.1 b e hb (fun z => ?_) (h.no hg hb hk)
  obtain ⟨⟨md, h1⟩, -⟩ := h
  rw [z, h1] at hb
  exact h0 _ (Option.some.inj hb).symm
theorem alF.keepO {γ : mG} {M M' : mMap} {a r r' cap : Nat} {xs : List Nat} (hF : alF M M' a r r') (h : AL γ M a r cap xs) (hg : M (ge γ) = none) {b ci : Nat} {fs : List Value} (hb : M b = some (.inr (ci, fs))) (h0 : ci ≠ 0) : M' b = some (.inr (ci, fs)) :=
  hF.keep h hg hb (fun _ _ _ z => by cases z) (fun _ z => by cases z; exact h0 rfl)
theorem mW.noe {γ : mG} {M : mMap} {s : State} {H : Heap} {locs : List Loc} (h : mW γ M s H locs) : M (ge γ) = none := by
  cases hg : M (ge γ) with
  | none => rfl
  | some e =>
    have h1 := h.big hg
    obtain ⟨_, -, -, -, -, -, -, h2⟩ := h.2.2.1.2.2.1
    exact absurd h1 h2
/-- the four lists: orders, buyers, sellers, trades -/
def FL4 (γ : mG) (M : mMap) (al ar cp : Nat → Nat) (xs : Nat → List Nat) : Prop := (∀ j, j < 4 → AL γ M (al j) (ar j) (cp j) (xs j)) ∧ (∀ i j, i < 4 → j < 4 → al i = al j → i = j) ∧ ∀ i j, i < 4 → j < 4 → 0 < cp i → 0 < cp j → ar i = ar j → i = j
theorem AL.keep {γ : mG} {M M' : mMap} {a r cap : Nat} {xs : List Nat} (h : AL γ M a r cap xs) (ha : M' a = M a) (hr : 0 < cap → M' r = M r) : AL γ M' a r cap xs := by
  obtain ⟨⟨md, h1⟩, h2, h3, h4⟩ := h
  refine ⟨⟨md, ha.trans h1⟩, h2, h3, ?_⟩
  rcases h4 with ⟨h4, h5⟩ | ⟨h4, f, h5, h6⟩
  · exact Or.inl ⟨h4, h5⟩
  · exact Or.inr ⟨h4, f, (hr (by omega)).trans h5, h6⟩
theorem AL.arr {γ : mG} {M : mMap} {a r cap : Nat} {xs : List Nat} (h : AL γ M a r cap xs) (hc : 0 < cap) : ∃ f, M r = some (.inl (gA γ 3, cap, .inr (.inr (.inr (.inr f))))) := by
  obtain ⟨-, -, -, ⟨h4, -⟩ | ⟨-, f, h5, -⟩⟩ := h
  · omega
  · exact ⟨f, h5⟩
/-- a cell that is no list and no array of references is written, or a new one made -/
theorem FL4.keep {γ : mG} {M M' : mMap} {al ar cp : Nat → Nat} {xs : Nat → List Nat} (h : FL4 γ M al ar cp xs) (hk : ∀ b e, M b = some e → ((∃ fs, e = .inr (0, fs)) ∨ ∃ x, e = .inl x) → M' b = some e) : FL4 γ M' al ar cp xs := by
  refine ⟨fun j hj => ?_, h.2⟩
  have hA := h.1 j hj
  refine hA.keep ?_ (fun hc => ?_)
  · obtain ⟨⟨md, h1⟩, -⟩ := hA
    rw [h1]; exact hk _ _ h1 (Or.inl ⟨_, rfl⟩)
  · obtain ⟨f, hf⟩ := hA.arr hc
    rw [hf]; exact hk _ _ hf (Or.inr ⟨_, rfl⟩)
theorem FL4.setO {γ : mG} {M : mMap} {al ar cp : Nat → Nat} {xs : Nat → List Nat} (h : FL4 γ M al ar cp xs) {b ci : Nat} {fs : List Value} {e : va_E} (hb : M b = some (.inr (ci, fs))) (h0 : ci ≠ 0) : FL4 γ (mU M b e) al ar cp xs := by
  refine h.keep (fun q x hq hx => mU_to (fun z => ?_) hq)
  rw [z, hb] at hq
  rcases hx with ⟨fs', rfl⟩ | ⟨y, rfl⟩
  · cases hq; exact h0 rfl
  · cases hq
theorem FL4.new {γ : mG} {M : mMap} {al ar cp : Nat → Nat} {xs : Nat → List Nat} (h : FL4 γ M al ar cp xs) {q : Nat} {e : va_E} (hq : M q = none) : FL4 γ (mU M q e) al ar cp xs := h.keep (fun b x hb _ => mU_to (m_fne hb hq) hb)
/-- one of the lists changes -/
theorem FL4.step {γ : mG} {M M' : mMap} {al ar cp : Nat → Nat} {xs : Nat → List Nat} (h : FL4 γ M al ar cp xs) (hg : M (ge γ) = none) {j r' c' : Nat} {ys : List Nat} (hj : j < 4) (hF : alF M M' (al j) (ar j) r') (hA : AL γ M' (al j) r' c' ys) : FL4 γ M' al (va_up ar j r') (va_up cp j c') (fun k => if k = j then ys else xs k) := by
  have hAj := h.1 j hj
  have arne : ∀ i, i < 4 → i ≠ j → 0 < cp i → ar i ≠ ar j := by
    intro i hi hij hc z
    by_cases hcj : 0 < cp j
    · exact hij (h.2.2 i j hi hj hc hcj z)
    · obtain ⟨f, hf⟩ := (h.1 i hi).arr hc
      obtain ⟨-, -, -, ⟨-, h4⟩ | ⟨h4, -⟩⟩ := hAj
      · rw [z, h4, hg] at hf; cases hf
      · omega
  refine ⟨fun i hi => ?_, h.2.1, fun i k hi hk hci hck e => ?_⟩
  · by_cases z : i = j
    · subst z
      show AL γ M' (al i) (va_up ar i r' i) (va_up cp i c' i) (if i = i then ys else xs i)
      rw [if_pos rfl, show va_up ar i r' i = r' from if_pos rfl, show va_up cp i c' i = c' from if_pos rfl]
      exact hA
    · show AL γ M' (al i) (va_up ar j r' i) (va_up cp j c' i) (if i = j then ys else xs i)
      rw [if_neg z, show va_up ar j r' i = ar i from if_neg z, show va_up cp j c' i = cp i from if_neg z]
      have hAi := h.1 i hi
      obtain ⟨⟨md, h1⟩, -⟩ := id hAi
      refine hAi.keep ?_ (fun hc => ?_)
      · rw [h1]
        exact hF.1 _ _ h1 (fun e => z (h.2.1 i j hi hj e)) (hAj.no hg h1 (fun _ _ _ e => by cases e))
      · obtain ⟨f, hf⟩ := hAi.arr hc
        rw [hf]
        refine hF.1 _ _ hf (fun e => ?_) (arne i hi z hc)
        obtain ⟨⟨md', h1'⟩, -⟩ := hAj
        rw [e, h1'] at hf
        cases hf
  · have up : ∀ i, i ≠ j → va_up ar j r' i = ar i := fun i z => if_neg z
    have upc : ∀ i, i ≠ j → va_up cp j c' i = cp i := fun i z => if_neg z
    have upj : va_up ar j r' j = r' := if_pos rfl
    have key : ∀ i, i < 4 → i ≠ j → 0 < cp i → ar i ≠ r' := by
      intro i hi z hc e
      rcases hF.2 with e2 | e2
      · exact arne i hi z hc (e.trans e2)
      · obtain ⟨f, hf⟩ := (h.1 i hi).arr hc
        rw [e, e2] at hf
        cases hf
    by_cases zi : i = j
    · by_cases zk : k = j
      · rw [zi, zk]
      · subst zi
        rw [upj, up k zk] at e
        rw [upc k zk] at hck
        exact absurd e.symm (key k hk zk hck)
    · by_cases zk : k = j
      · subst zk
        rw [upj, up i zi] at e
        rw [upc i zi] at hci
        exact absurd e (key i hi zi hci)
      · rw [up i zi, up k zk] at e
        rw [upc i zi] at hci
        rw [upc k zk] at hck
        exact h.2.2 i k hi hk hci hck e
/-- cells of the reference and of the law: the class leaves them alone -/
def rk (e : va_E) : Prop := match e with
  | .inr (ci, _) => ci = 7 ∨ ci = 1
  | .inl (_, _, .inr (.inr (.inr (.inr _)))) => False
  | .inl _ => True
def frC (M M' : mMap) : Prop := ∀ b e, M b = some e → rk e → M' b = some e
theorem frC.rf (M : mMap) : frC M M := fun _ _ h _ => h
theorem frC.tr {M M1 M2 : mMap} (h1 : frC M M1) (h2 : frC M1 M2) : frC M M2 := fun b e h hk => h2 b e (h1 b e h hk) hk
theorem frC.setO {M : mMap} {b ci : Nat} {fs : List Value} {e : va_E} (hb : M b = some (.inr (ci, fs))) (h0 : ¬ (ci = 7 ∨ ci = 1)) : frC M (mU M b e) := by
  intro q x hq hk
  refine mU_to (fun z => ?_) hq
  rw [z, hb] at hq
  cases hq
  exact h0 hk
theorem frC.new {M : mMap} {q : Nat} {e : va_E} (hq : M q = none) : frC M (mU M q e) := fun b x hb _ => mU_to (m_fne hb hq) hb
theorem frC.al {γ : mG} {M M' : mMap} {a r r' cap : Nat} {xs : List Nat} (hF : alF M M' a r r') (h : AL γ M a r cap xs) (hg : M (ge γ) = none) : frC M M' := by
  intro b e hb hk
  refine hF.keep h hg hb (fun c n f z => ?_) (fun fs z => ?_)
  · subst z; exact hk
  · subst z; rcases hk with h | h <;> cases h
/-- the same, but for the auction's cell -/
def rkw (e : va_E) : Prop := rk e ∧ ∀ fs, e ≠ .inr (1, fs)
def frW (M M' : mMap) : Prop := ∀ b e, M b = some e → rkw e → M' b = some e
theorem frC.w {M M' : mMap} (h : frC M M') : frW M M' := fun b e hb hk => h b e hb hk.1
theorem frW.tr {M M1 M2 : mMap} (h1 : frW M M1) (h2 : frW M1 M2) : frW M M2 := fun b e h hk => h2 b e (h1 b e h hk) hk
theorem frW.setA {M : mMap} {b : Nat} {fs : List Value} {e : va_E} (hb : M b = some (.inr (1, fs))) : frW M (mU M b e) := by
  intro q x hq hk
  refine mU_to (fun z => ?_) hq
  rw [z, hb] at hq
  cases hq
  exact hk.2 _ rfl
theorem oc_2 (I : Co) (o : Nat) (v : Int32) : oc (s1 I 2 o v) o = [.int (nI o), .int (I 0 o), .int (I 1 o), .int (I 8 o), .int (I 6 o), .int v, .int (I 3 o), .int (I 4 o), .int (I 5 o), .int (I 7 o)] := by
  unfold oc
  rw [s1_ss, s1_f (f' := 0) (f := 2) (by decide), s1_f (f' := 1) (f := 2) (by decide), s1_f (f' := 8) (f := 2) (by decide), s1_f (f' := 6) (f := 2) (by decide), s1_f (f' := 3) (f := 2) (by decide), s1_f (f' := 4) (f := 2) (by decide), s1_f (f' := 5) (f := 2) (by decide), s1_f (f' := 7) (f := 2) (by decide)]
theorem oc_3 (I : Co) (o : Nat) (v : Int32) : oc (s1 I 3 o v) o = [.int (nI o), .int (I 0 o), .int (I 1 o), .int (I 8 o), .int (I 6 o), .int (I 2 o), .int v, .int (I 4 o), .int (I 5 o), .int (I 7 o)] := by
  unfold oc
  rw [s1_ss, s1_f (f' := 0) (f := 3) (by decide), s1_f (f' := 1) (f := 3) (by decide), s1_f (f' := 8) (f := 3) (by decide), s1_f (f' := 6) (f := 3) (by decide), s1_f (f' := 2) (f := 3) (by decide), s1_f (f' := 4) (f := 3) (by decide), s1_f (f' := 5) (f := 3) (by decide), s1_f (f' := 7) (f := 3) (by decide)]
theorem oc_4 (I : Co) (o : Nat) (v : Int32) : oc (s1 I 4 o v) o = [.int (nI o), .int (I 0 o), .int (I 1 o), .int (I 8 o), .int (I 6 o), .int (I 2 o), .int (I 3 o), .int v, .int (I 5 o), .int (I 7 o)] := by
  unfold oc
  rw [s1_ss, s1_f (f' := 0) (f := 4) (by decide), s1_f (f' := 1) (f := 4) (by decide), s1_f (f' := 8) (f := 4) (by decide), s1_f (f' := 6) (f := 4) (by decide), s1_f (f' := 2) (f := 4) (by decide), s1_f (f' := 3) (f := 4) (by decide), s1_f (f' := 5) (f := 4) (by decide), s1_f (f' := 7) (f := 4) (by decide)]
theorem oc_5 (I : Co) (o : Nat) (v : Int32) : oc (s1 I 5 o v) o = [.int (nI o), .int (I 0 o), .int (I 1 o), .int (I 8 o), .int (I 6 o), .int (I 2 o), .int (I 3 o), .int (I 4 o), .int v, .int (I 7 o)] := by
  unfold oc
  rw [s1_ss, s1_f (f' := 0) (f := 5) (by decide), s1_f (f' := 1) (f := 5) (by decide), s1_f (f' := 8) (f := 5) (by decide), s1_f (f' := 6) (f := 5) (by decide), s1_f (f' := 2) (f := 5) (by decide), s1_f (f' := 3) (f := 5) (by decide), s1_f (f' := 4) (f := 5) (by decide), s1_f (f' := 7) (f := 5) (by decide)]
theorem oc_7 (I : Co) (o : Nat) (v : Int32) : oc (s1 I 7 o v) o = [.int (nI o), .int (I 0 o), .int (I 1 o), .int (I 8 o), .int (I 6 o), .int (I 2 o), .int (I 3 o), .int (I 4 o), .int (I 5 o), .int v] := by
  unfold oc
  rw [s1_ss, s1_f (f' := 0) (f := 7) (by decide), s1_f (f' := 1) (f := 7) (by decide), s1_f (f' := 8) (f := 7) (by decide), s1_f (f' := 6) (f := 7) (by decide), s1_f (f' := 2) (f := 7) (by decide), s1_f (f' := 3) (f := 7) (by decide), s1_f (f' := 4) (f := 7) (by decide), s1_f (f' := 5) (f := 7) (by decide)]
end
section
/-! CallBook$Side -/
set_option maxHeartbeats 4000000 in
set_option maxRecDepth 100000 in
theorem c_S_init (l : Launch) (γ : mG) (M : mMap) (a : Nat) (ha : M a = some (.inr (3, [.null]))) : Met l y_S_init w_S_init ({ frames := 4, cells := 1, slots := 3, locals := 80 } : Room) (mPc γ M [.ref a]) (mQv γ (fun M' => ∃ q, M q = none ∧ gz γ ≤ q ∧ M' = mU (mU M q (.inr (0, [.int 0, .ref (ge γ), .int 0]))) a (.inr (3, [.ref q])))) 1 3 (mA (gz γ)) := by
  refine m_enter (by decide) (Nat.le_of_ble_eq_true rfl) ?_
  intro p e s m below meth c ls S hr hlk hnm hl hw
  have hl : lv_has ls 1 [(0, .ref a)] := hl
  refine lv_aload_n S.1 S.2.1 d_S_init_0 rfl (lv_at hl 0 rfl) ?_
  refine W.objInit S.1 S.2.1 S.2.2.2.1 (S.2.2.2.2 _ (gc g101)) (S.2.2.2.2 _ (gc g68)) (S.2.2.2.2 _ (gc g69)) rfl (by rw [S.2.2.1]; exact hl.1) rfl d_S_init_1 (Nat.le_of_ble_eq_true rfl) (Nat.le_of_ble_eq_true rfl) ?_
  refine W.eq (g2 := F0 m 4 ls []) rfl ?_
  refine lv_aload_n S.1 S.2.1 d_S_init_4 rfl (lv_at hl 0 rfl) ?_
  refine m_new (fs := [.int 0, .null, .int 0]) S hw cl_AL g102 g71 g44 (fun j hj => by rcases (show j = 0 ∨ j = 1 ∨ j = 2 by omega) with rfl | rfl | rfl <;> rfl) (Nat.le_of_ble_eq_true rfl) (Nat.le_of_ble_eq_true rfl) d_S_init_5 (fun q H hq hzq hw => ?_)
  refine lv_dup S.1 S.2.1 d_S_init_8 rfl ?_
  refine m_cv hw (va_runI (As := []) (rest := [.ref q, .ref a]) S (c_AL_init l γ (mU M q (.inr (0, [.int 0, .null, .int 0]))) q 0 0 .null (mU_eq _ _ _)) (m_cwI 0 S g103 g73 g44 g74 rfl rfl rfl ⟨by decide +kernel, by decide +kernel, by decide +kernel⟩ ⟨(Nat.le_of_ble_eq_true rfl), (Nat.le_of_ble_eq_true rfl)⟩) hw.preS rfl rfl hl.1 rfl (lv_room (Nat.le_of_ble_eq_true rfl)) d_S_init_9 ⟨(Nat.le_of_ble_eq_true rfl), (Nat.le_of_ble_eq_true rfl)⟩) (fun M1 H locs hp hw => ?_)
  rw [hp] at hw
  rw [mU_uu] at hw
  refine m_putF S hw cl_S (mU_to (m_fne ha hq) ha) 0 (by decide) g104 (fun _ h => h) rfl hnm rfl rfl rfl (Nat.le_of_ble_eq_true rfl) d_S_init_12 (fun H locs hw => ?_)
  have hw : mW γ (mU (mU M q (.inr (0, [.int 0, .ref (ge γ), .int 0]))) a (.inr (3, [.ref q]))) s H locs := hw
  exact m_vret S hlk hr hw (⟨q, hq, hzq, rfl⟩) (Nat.le_refl _) (Nat.le_refl _) d_S_init_15
set_option maxHeartbeats 4000000 in
set_option maxRecDepth 100000 in
theorem c_S_first (l : Launch) (γ : mG) (M : mMap) (sd l0 r0 cap : Nat) (xs : List Nat) (hs : M sd = some (.inr (3, [.ref l0]))) (hA : AL γ M l0 r0 cap xs) (hE : mEl M 2 xs) (hlen : xs.length ≤ 250) : Met l y_S_first w_S_first ({ frames := 3, cells := 0, slots := 0, locals := 64 } : Room) (mPc γ M [.ref sd]) (mQq γ (fun r M' => r = xs.head? ∧ M' = M)) 0 0 (mA (gz γ)) := by
  refine m_enter (by decide) (Nat.le_of_ble_eq_true rfl) ?_
  intro p e s m below meth c ls S hr hlk hnm hl hw
  have hl : lv_has ls 1 [(0, .ref sd)] := hl
  obtain ⟨⟨md, hl0⟩, -⟩ := id hA
  refine lv_aload_n S.1 S.2.1 d_S_first_0 rfl (lv_at hl 0 rfl) ?_
  refine m_get S hw cl_S hs 0 (by decide) g104 (fun _ h => h) rfl d_S_first_1 ?_
  refine m_ci hw (va_runV (As := []) (rest := []) S (c_AL_isEmpty l γ M l0 md _ _ hl0) (m_cwV 0 S g256 g257 g258 g44 g259 rfl rfl ⟨by decide +kernel, by decide +kernel, by decide +kernel⟩ ⟨(Nat.le_of_ble_eq_true rfl), (Nat.le_of_ble_eq_true rfl)⟩) (hw.preV hl0 cl_AL.1) rfl rfl hl.1 rfl (lv_room (Nat.le_of_ble_eq_true rfl)) d_S_first_4 ⟨(Nat.zero_le _), (Nat.zero_le _)⟩) (fun r1 M1 H locs hp hw => ?_)
  obtain ⟨rfl, hM1⟩ := hp
  rw [hM1] at hw
  refine lv_if_eq (tgt := 14) S.1 S.2.1 d_S_first_7 rfl (fun h7 => ?_) (fun h7 => ?_)
  · have hpos : 0 < xs.length := by
      have h := b2i_0.mp h7
      rcases Nat.eq_zero_or_pos xs.length with z | z
      · rw [z] at h; simp [nI_0] at h
      · exact z
    refine lv_aload_n S.1 S.2.1 d_S_first_14 rfl (lv_at hl 0 rfl) ?_
    refine m_get S hw cl_S hs 0 (by decide) g104 (fun _ h => h) rfl d_S_first_15 ?_
    refine lv_iconst (v := 0) S.1 S.2.1 d_S_first_18 (by decide) ?_
    refine m_cq hw (va_runV (As := [.int 0]) (rest := []) S (c_AL_get l γ M l0 r0 cap xs hA 0 hpos) (m_cwV 1 S g260 g190 g191 g44 g192 rfl rfl ⟨by decide +kernel, by decide +kernel, by decide +kernel⟩ ⟨(Nat.le_of_ble_eq_true rfl), (Nat.le_of_ble_eq_true rfl)⟩) (hw.preV hl0 cl_AL.1) rfl rfl hl.1 rfl (lv_room (Nat.le_of_ble_eq_true rfl)) d_S_first_19 ⟨(Nat.zero_le _), (Nat.zero_le _)⟩) (fun r1 M1 H locs hp hw => ?_)
    obtain ⟨rfl, hM1⟩ := hp
    rw [hM1] at hw
    obtain ⟨x, hx⟩ : ∃ x, xs[0]? = some x := ⟨_, List.getElem?_eq_getElem hpos⟩
    obtain ⟨fs, hfs⟩ := hE.2 x (List.mem_of_getElem? hx)
    refine W.eq (g2 := F0 m 22 ls [.ref x]) (by rw [hx]; rfl) ?_
    refine m_cast S hw cl_O hfs g261 d_S_first_22 ?_
    exact m_aret (r := (some x)) S hlk hr (Or.inl ⟨_, rfl⟩) hw (⟨by rw [List.head?_eq_getElem?]; exact hx.symm, rfl⟩) (Nat.le_refl _) (Nat.le_refl _) d_S_first_25
  · refine lv_null S.1 S.2.1 d_S_first_10 ?_
    refine lv_goto (tgt := 25) S.1 S.2.1 d_S_first_11 rfl ?_
    exact m_aret (r := none) S hlk hr (Or.inl ⟨_, rfl⟩) hw (⟨by have hz : xs.length = 0 := (nI_eq (b := 0) (by omega) (by omega)).mp (of_decide_eq_true (b2i_n0.mp h7)); rw [List.eq_nil_of_length_eq_zero hz]; rfl, rfl⟩) (Nat.le_refl _) (Nat.le_refl _) d_S_first_25
set_option maxHeartbeats 4000000 in
set_option maxRecDepth 100000 in
theorem c_S_leave (l : Launch) (γ : mG) (M : mMap) (sd l0 r0 cap : Nat) (xs : List Nat) (hs : M sd = some (.inr (3, [.ref l0]))) (hA : AL γ M l0 r0 cap xs) (hE : mEl M 2 xs) (a : Nat) (x0 x1 x2 x3 x4 x5 x6 x7 x8 x9 : Int32) (ha : M a = some (.inr (2, [.int x0, .int x1, .int x2, .int x3, .int x4, .int x5, .int x6, .int x7, .int x8, .int x9]))) (k : Nat) (hk : xs[k]? = some a) (hfirst : ∀ j, j < k → xs[j]? ≠ some a) (hlen : xs.length ≤ 250) : Met l y_S_leave w_S_leave ({ frames := 3, cells := 0, slots := 0, locals := 94 } : Room) (mPc γ M [.ref sd, .ref a]) (mQv γ (fun M' => AL γ M' l0 r0 cap (xs.eraseIdx k) ∧ alF (mU M a (.inr (2, [.int x0, .int x1, .int x2, .int x3, .int x4, .int x5, .int x6, .int x7, .int (-1), .int x9]))) M' l0 r0 r0)) 0 0 (mA (gz γ)) := by
  refine m_enter (by decide) (Nat.le_of_ble_eq_true rfl) ?_
  intro p e s m below meth c ls S hr hlk hnm hl hw
  have hl : lv_has ls 3 [(0, .ref sd), (1, .ref a)] := hl
  refine lv_aload_n S.1 S.2.1 d_S_leave_0 rfl (lv_at hl 1 rfl) ?_
  refine lv_iconst (v := (-1)) S.1 S.2.1 d_S_leave_1 (by decide) ?_
  refine m_put S hw cl_O ha 8 (by decide) g402 (fun _ h => h) rfl rfl rfl (Nat.le_of_ble_eq_true rfl) d_S_leave_2 (fun H locs hw => ?_)
  have hw : mW γ (mU M a (.inr (2, [.int x0, .int x1, .int x2, .int x3, .int x4, .int x5, .int x6, .int x7, .int (-1), .int x9]))) s H locs := hw
  refine lv_iconst (v := 0) S.1 S.2.1 d_S_leave_5 (by decide) ?_
  refine lv_istore_n S.1 S.2.1 d_S_leave_6 rfl hl (by decide) rfl (fun ls hl => ?_)
  have hl : lv_has ls 3 [(2, .int 0), (0, .ref sd), (1, .ref a)] := hl
  have hs0 : (mU M a (.inr (2, [.int x0, .int x1, .int x2, .int x3, .int x4, .int x5, .int x6, .int x7, .int (-1), .int x9]))) sd = some (.inr (3, [.ref l0])) := mU_to (m_kind hs ha (fun z => by cases z)) hs
  have hA0 : AL γ (mU M a (.inr (2, [.int x0, .int x1, .int x2, .int x3, .int x4, .int x5, .int x6, .int x7, .int (-1), .int x9]))) l0 r0 cap xs := hA.setO ha (by decide)
  have hE0 : mEl (mU M a (.inr (2, [.int x0, .int x1, .int x2, .int x3, .int x4, .int x5, .int x6, .int x7, .int (-1), .int x9]))) 2 xs := hE.setO
  obtain ⟨⟨md, hl0⟩, -⟩ := id hA0
  have hkl : k < xs.length := (List.getElem?_eq_some_iff.mp hk).1
  have loop : ∀ (d i0 : Nat) (H : Heap) (locs : List Loc) (ls : Array Slot), i0 + d = k → lv_has ls 3 [(2, .int (nI i0)), (0, .ref sd), (1, .ref a)] → mW γ (mU M a (.inr (2, [.int x0, .int x1, .int x2, .int x3, .int x4, .int x5, .int x6, .int x7, .int (-1), .int x9]))) s H locs → W p l e ({ frames := 3, cells := 0, slots := 0, locals := 94 } : Room) s m #[.ref sd, .ref a] below meth c H locs 0 0 (MQ below (mQv γ (fun M' => AL γ M' l0 r0 cap (xs.eraseIdx k) ∧ alF (mU M a (.inr (2, [.int x0, .int x1, .int x2, .int x3, .int x4, .int x5, .int x6, .int x7, .int (-1), .int x9]))) M' l0 r0 r0)) #[.ref sd, .ref a] s 0 0 (mA (gz γ))) (F0 m 7 ls []) := by
    intro d
    induction d with
    | zero =>
      intro i0 H locs ls hi hl hw
      have hik : i0 = k := by omega
      subst hik
      refine lv_iload_n S.1 S.2.1 d_S_leave_7 rfl (lv_at hl 0 rfl) ?_
      refine lv_aload_n S.1 S.2.1 d_S_leave_8 rfl (lv_at hl 1 rfl) ?_
      refine m_get S hw cl_S hs0 0 (by decide) g104 (fun _ h => h) rfl d_S_leave_9 ?_
      refine m_ci hw (va_runV (As := []) (rest := [.int (nI i0)]) S (c_AL_size l γ (mU M a (.inr (2, [.int x0, .int x1, .int x2, .int x3, .int x4, .int x5, .int x6, .int x7, .int (-1), .int x9]))) l0 md _ _ hl0) (m_cwV 0 S g499 g186 g187 g44 g188 rfl rfl ⟨by decide +kernel, by decide +kernel, by decide +kernel⟩ ⟨(Nat.le_of_ble_eq_true rfl), (Nat.le_of_ble_eq_true rfl)⟩) (hw.preV hl0 cl_AL.1) rfl rfl hl.1 rfl (lv_room (Nat.le_of_ble_eq_true rfl)) d_S_leave_12 ⟨(Nat.zero_le _), (Nat.zero_le _)⟩) (fun r1 M1 H locs hp hw => ?_)
      obtain ⟨rfl, hM1⟩ := hp
      rw [hM1] at hw
      refine lv_icmp_ge (tgt := 46) S.1 S.2.1 d_S_leave_15 rfl (fun h => absurd h (nI_ge (by omega) (by omega))) (fun _ => ?_)
      refine lv_aload_n S.1 S.2.1 d_S_leave_18 rfl (lv_at hl 1 rfl) ?_
      refine m_get S hw cl_S hs0 0 (by decide) g104 (fun _ h => h) rfl d_S_leave_19 ?_
      refine lv_iload_n S.1 S.2.1 d_S_leave_22 rfl (lv_at hl 0 rfl) ?_
      refine m_cq hw (va_runV (As := [.int (nI i0)]) (rest := []) S (c_AL_get l γ (mU M a (.inr (2, [.int x0, .int x1, .int x2, .int x3, .int x4, .int x5, .int x6, .int x7, .int (-1), .int x9]))) l0 r0 cap xs hA0 i0 (by omega)) (m_cwV 1 S g260 g190 g191 g44 g192 rfl rfl ⟨by decide +kernel, by decide +kernel, by decide +kernel⟩ ⟨(Nat.le_of_ble_eq_true rfl), (Nat.le_of_ble_eq_true rfl)⟩) (hw.preV hl0 cl_AL.1) rfl rfl hl.1 rfl (lv_room (Nat.le_of_ble_eq_true rfl)) d_S_leave_23 ⟨(Nat.zero_le _), (Nat.zero_le _)⟩) (fun r1 M1 H locs hp hw => ?_)
      obtain ⟨rfl, hM1⟩ := hp
      rw [hM1] at hw
      refine lv_aload_n S.1 S.2.1 d_S_leave_26 rfl (lv_at hl 2 rfl) ?_
      refine lv_acmp_ne (rx := (xs[i0]?)) (ry := (some a)) (tgt := 40) S.1 S.2.1 d_S_leave_27 rfl (fun h => absurd hk h) (fun _ => ?_)
      refine lv_aload_n S.1 S.2.1 d_S_leave_30 rfl (lv_at hl 1 rfl) ?_
      refine m_get S hw cl_S hs0 0 (by decide) g104 (fun _ h => h) rfl d_S_leave_31 ?_
      refine lv_iload_n S.1 S.2.1 d_S_leave_34 rfl (lv_at hl 0 rfl) ?_
      refine m_cq hw (va_runV (As := [.int (nI i0)]) (rest := []) S (cc_remove l γ (mU M a (.inr (2, [.int x0, .int x1, .int x2, .int x3, .int x4, .int x5, .int x6, .int x7, .int (-1), .int x9]))) l0 r0 cap xs hA0 2 hE0 i0 (by omega)) (m_cwV 1 S g571 g572 g573 g44 g574 rfl rfl ⟨by decide +kernel, by decide +kernel, by decide +kernel⟩ ⟨(Nat.le_of_ble_eq_true rfl), (Nat.le_of_ble_eq_true rfl)⟩) (hw.preV hl0 cl_AL.1) rfl rfl hl.1 rfl (lv_room (Nat.le_of_ble_eq_true rfl)) d_S_leave_35 ⟨(Nat.zero_le _), (Nat.zero_le _)⟩) (fun r1 M1 H locs hp hw => ?_)
      obtain ⟨hr1, hA1, hF1⟩ := hp
      rw [hk] at hr1
      subst hr1
      refine lv_pop S.1 S.2.1 d_S_leave_38 rfl ?_
      exact m_vret S hlk hr hw (⟨hA1, hF1⟩) (Nat.le_refl _) (Nat.le_refl _) d_S_leave_39
    | succ d ih =>
      intro i0 H locs ls hi hl hw
      refine lv_iload_n S.1 S.2.1 d_S_leave_7 rfl (lv_at hl 0 rfl) ?_
      refine lv_aload_n S.1 S.2.1 d_S_leave_8 rfl (lv_at hl 1 rfl) ?_
      refine m_get S hw cl_S hs0 0 (by decide) g104 (fun _ h => h) rfl d_S_leave_9 ?_
      refine m_ci hw (va_runV (As := []) (rest := [.int (nI i0)]) S (c_AL_size l γ (mU M a (.inr (2, [.int x0, .int x1, .int x2, .int x3, .int x4, .int x5, .int x6, .int x7, .int (-1), .int x9]))) l0 md _ _ hl0) (m_cwV 0 S g499 g186 g187 g44 g188 rfl rfl ⟨by decide +kernel, by decide +kernel, by decide +kernel⟩ ⟨(Nat.le_of_ble_eq_true rfl), (Nat.le_of_ble_eq_true rfl)⟩) (hw.preV hl0 cl_AL.1) rfl rfl hl.1 rfl (lv_room (Nat.le_of_ble_eq_true rfl)) d_S_leave_12 ⟨(Nat.zero_le _), (Nat.zero_le _)⟩) (fun r1 M1 H locs hp hw => ?_)
      obtain ⟨rfl, hM1⟩ := hp
      rw [hM1] at hw
      refine lv_icmp_ge (tgt := 46) S.1 S.2.1 d_S_leave_15 rfl (fun h => absurd h (nI_ge (by omega) (by omega))) (fun _ => ?_)
      refine lv_aload_n S.1 S.2.1 d_S_leave_18 rfl (lv_at hl 1 rfl) ?_
      refine m_get S hw cl_S hs0 0 (by decide) g104 (fun _ h => h) rfl d_S_leave_19 ?_
      refine lv_iload_n S.1 S.2.1 d_S_leave_22 rfl (lv_at hl 0 rfl) ?_
      refine m_cq hw (va_runV (As := [.int (nI i0)]) (rest := []) S (c_AL_get l γ (mU M a (.inr (2, [.int x0, .int x1, .int x2, .int x3, .int x4, .int x5, .int x6, .int x7, .int (-1), .int x9]))) l0 r0 cap xs hA0 i0 (by omega)) (m_cwV 1 S g260 g190 g191 g44 g192 rfl rfl ⟨by decide +kernel, by decide +kernel, by decide +kernel⟩ ⟨(Nat.le_of_ble_eq_true rfl), (Nat.le_of_ble_eq_true rfl)⟩) (hw.preV hl0 cl_AL.1) rfl rfl hl.1 rfl (lv_room (Nat.le_of_ble_eq_true rfl)) d_S_leave_23 ⟨(Nat.zero_le _), (Nat.zero_le _)⟩) (fun r1 M1 H locs hp hw => ?_)
      obtain ⟨rfl, hM1⟩ := hp
      rw [hM1] at hw
      refine lv_aload_n S.1 S.2.1 d_S_leave_26 rfl (lv_at hl 2 rfl) ?_
      refine lv_acmp_ne (rx := (xs[i0]?)) (ry := (some a)) (tgt := 40) S.1 S.2.1 d_S_leave_27 rfl (fun _ => ?_) (fun h => absurd h (hfirst i0 (by omega)))
      refine lv_iinc (k := 0) (v := nI (i0 + 1)) S.1 S.2.1 d_S_leave_40 hl rfl (nI_1 i0) (by decide) rfl (fun ls hl => ?_)
      have hl : lv_has ls 3 [(2, .int (nI (i0 + 1))), (0, .ref sd), (1, .ref a)] := hl
      refine lv_goto (tgt := 7) S.1 S.2.1 d_S_leave_43 rfl ?_
      exact ih (i0 + 1) H locs ls (by omega) hl hw
  exact loop k 0 H locs ls (by omega) hl hw
set_option maxHeartbeats 4000000 in
set_option maxRecDepth 100000 in
theorem c_S_enter (l : Launch) (γ : mG) (M : mMap) (sd l0 r0 cap n : Nat) (L : List Nat) (oa : Nat → Nat) (I : Co) (hO : OR M oa I n) (hn : n ≤ 250) (o : Nat) (ho : o < n) (hs : M sd = some (.inr (3, [.ref l0]))) (hA : AL γ M l0 r0 cap (L.map oa)) (hL : ∀ y, y ∈ L → y < n ∧ y ≠ o) (hlen : L.length ≤ 250) (k0 : Int32) : Met l y_S_enter w_S_enter ({ frames := 6, cells := gN cap (L.map oa).length, slots := sN cap (L.map oa).length, locals := 159 } : Room) (mPc γ M [.ref sd, .ref (oa o), .int k0]) (mQv γ (fun M' => ∃ k r', k ≤ L.length ∧ (∀ x, x ∈ L.drop k → sb (s1 I 5 o k0) o x = true) ∧ (∀ x, L[k - 1]? = some x → 0 < k → sb (s1 I 5 o k0) o x = false) ∧ AL γ M' l0 r' (cN cap (L.map oa).length) ((L.map oa).insertIdx k (oa o)) ∧ alF (mU M (oa o) (.inr (2, oc (s1 I 5 o k0) o))) M' l0 r0 r')) (gN cap (L.map oa).length) (sN cap (L.map oa).length) (mA (gz γ)) := by
  refine m_enter (by decide) (Nat.le_of_ble_eq_true rfl) ?_
  intro p e s m below meth c ls S hr hlk hnm hl hw
  have hl : lv_has ls 4 [(0, .ref sd), (1, .ref (oa o)), (2, .int k0)] := hl
  refine lv_aload_n S.1 S.2.1 d_S_enter_0 rfl (lv_at hl 1 rfl) ?_
  refine lv_iload_n S.1 S.2.1 d_S_enter_1 rfl (lv_at hl 2 rfl) ?_
  refine m_put S hw cl_O (hO o ho) 8 (by decide) g402 (fun _ h => h) rfl rfl rfl (Nat.le_of_ble_eq_true rfl) d_S_enter_2 (fun H locs hw => ?_)
  have hw : mW γ (mU M (oa o) (.inr (2, [.int (nI o), .int (I 0 o), .int (I 1 o), .int (I 8 o), .int (I 6 o), .int (I 2 o), .int (I 3 o), .int (I 4 o), .int k0, .int (I 7 o)]))) s H locs := hw
  rw [← oc_5] at hw
  have hw : mW γ (mU M (oa o) (.inr (2, oc (s1 I 5 o k0) o))) s H locs := hw
  have hs9 : (mU M (oa o) (.inr (2, oc (s1 I 5 o k0) o))) sd = some (.inr (3, [.ref l0])) := mU_to (m_kind hs (hO o ho) (fun z => by cases z)) hs
  have hA9 : AL γ (mU M (oa o) (.inr (2, oc (s1 I 5 o k0) o))) l0 r0 cap (L.map oa) := hA.setO (hO o ho) (by decide)
  obtain ⟨⟨md, hl9⟩, -⟩ := id hA9
  refine lv_aload_n S.1 S.2.1 d_S_enter_5 rfl (lv_at hl 0 rfl) ?_
  refine m_get S hw cl_S hs9 0 (by decide) g104 (fun _ h => h) rfl d_S_enter_6 ?_
  refine m_ci hw (va_runV (As := []) (rest := []) S (c_AL_size l γ (mU M (oa o) (.inr (2, oc (s1 I 5 o k0) o))) l0 md _ _ hl9) (m_cwV 0 S g499 g186 g187 g44 g188 rfl rfl ⟨by decide +kernel, by decide +kernel, by decide +kernel⟩ ⟨(Nat.le_of_ble_eq_true rfl), (Nat.le_of_ble_eq_true rfl)⟩) (hw.preV hl9 cl_AL.1) rfl rfl hl.1 rfl (lv_room (Nat.le_of_ble_eq_true rfl)) d_S_enter_9 ⟨(Nat.zero_le _), (Nat.zero_le _)⟩) (fun r1 M1 H locs hp hw => ?_)
  obtain ⟨rfl, hM1⟩ := hp
  rw [hM1] at hw
  refine lv_istore_n S.1 S.2.1 d_S_enter_12 rfl hl (by decide) rfl (fun ls hl => ?_)
  have hl : lv_has ls 4 [(3, .int (nI (L.map oa).length)), (0, .ref sd), (1, .ref (oa o)), (2, .int k0)] := hl
  have hw : mW γ (mU M (oa o) (.inr (2, oc (s1 I 5 o k0) o))) s H locs := hw
  have hs0 : (mU M (oa o) (.inr (2, oc (s1 I 5 o k0) o))) sd = some (.inr (3, [.ref l0])) := mU_to (m_kind hs (hO o ho) (fun z => by cases z)) hs
  have hA0 : AL γ (mU M (oa o) (.inr (2, oc (s1 I 5 o k0) o))) l0 r0 cap (L.map oa) := hA.setO (hO o ho) (by decide)
  have hO0 : OR (mU M (oa o) (.inr (2, oc (s1 I 5 o k0) o))) oa (s1 I 5 o k0) n := hO.set hn ho (fun f x hx => s1_o hx) rfl
  have hV : mEl (mU M (oa o) (.inr (2, oc (s1 I 5 o k0) o))) 2 (oa o :: L.map oa) := hO0.el (L := o :: L) (fun x hx => (List.mem_cons.mp hx).elim (fun e => e ▸ ho) (fun e => (hL x e).1))
  obtain ⟨⟨md0, hl0⟩, -⟩ := id hA0
  have hml : (L.map oa).length = L.length := List.length_map _
  have hexit : ∀ (p0 : Nat) (H : Heap) (locs : List Loc) (ls : Array Slot), p0 ≤ L.length → (∀ x, x ∈ L.drop p0 → sb (s1 I 5 o k0) o x = true) → (∀ x, L[p0 - 1]? = some x → 0 < p0 → sb (s1 I 5 o k0) o x = false) → lv_has ls 4 [(3, .int (nI p0)), (0, .ref sd), (1, .ref (oa o)), (2, .int k0)] → mW γ (mU M (oa o) (.inr (2, oc (s1 I 5 o k0) o))) s H locs → W p l e ({ frames := 6, cells := gN cap (L.map oa).length, slots := sN cap (L.map oa).length, locals := 159 } : Room) s m #[.ref sd, .ref (oa o), .int k0] below meth c H locs 0 0 (MQ below (mQv γ (fun M' => ∃ k r', k ≤ L.length ∧ (∀ x, x ∈ L.drop k → sb (s1 I 5 o k0) o x = true) ∧ (∀ x, L[k - 1]? = some x → 0 < k → sb (s1 I 5 o k0) o x = false) ∧ AL γ M' l0 r' (cN cap (L.map oa).length) ((L.map oa).insertIdx k (oa o)) ∧ alF (mU M (oa o) (.inr (2, oc (s1 I 5 o k0) o))) M' l0 r0 r')) #[.ref sd, .ref (oa o), .int k0] s (gN cap (L.map oa).length) (sN cap (L.map oa).length) (mA (gz γ))) (F0 m 43 ls []) := by
    intro p0 H locs ls hp0 hhi hlo hl hw
    refine lv_aload_n S.1 S.2.1 d_S_enter_43 rfl (lv_at hl 1 rfl) ?_
    refine m_get S hw cl_S hs0 0 (by decide) g104 (fun _ h => h) rfl d_S_enter_44 ?_
    refine lv_iload_n S.1 S.2.1 d_S_enter_47 rfl (lv_at hl 0 rfl) ?_
    refine lv_aload_n S.1 S.2.1 d_S_enter_48 rfl (lv_at hl 2 rfl) ?_
    refine m_cv hw (va_runV (As := [.int (nI p0), .ref (oa o)]) (rest := []) S (cc_addAt l γ (mU M (oa o) (.inr (2, oc (s1 I 5 o k0) o))) l0 r0 cap (L.map oa) hA0 (oa o) 2 hV (by omega) p0 (by omega)) (m_cwV 2 S g501 g502 g503 g44 g504 rfl rfl ⟨by decide +kernel, by decide +kernel, by decide +kernel⟩ ⟨(Nat.le_of_ble_eq_true rfl), (Nat.le_of_ble_eq_true rfl)⟩) (hw.preV hl0 cl_AL.1) rfl rfl hl.1 rfl (lv_room (Nat.le_of_ble_eq_true rfl)) d_S_enter_49 ⟨(Nat.le_of_eq (Nat.zero_add _)), (Nat.le_of_eq (Nat.zero_add _))⟩) (fun M9 H locs hp hw => ?_)
    obtain ⟨r9, hA1, hF1⟩ := hp
    exact m_vret S hlk hr hw (⟨p0, r9, hp0, hhi, hlo, hA1, hF1⟩) (Nat.le_of_eq (Nat.zero_add _)) (Nat.le_of_eq (Nat.zero_add _)) d_S_enter_52
  have loop : ∀ (d : Nat) (H : Heap) (locs : List Loc) (ls : Array Slot), d ≤ L.length → (∀ x, x ∈ L.drop d → sb (s1 I 5 o k0) o x = true) → lv_has ls 4 [(3, .int (nI d)), (0, .ref sd), (1, .ref (oa o)), (2, .int k0)] → mW γ (mU M (oa o) (.inr (2, oc (s1 I 5 o k0) o))) s H locs → W p l e ({ frames := 6, cells := gN cap (L.map oa).length, slots := sN cap (L.map oa).length, locals := 159 } : Room) s m #[.ref sd, .ref (oa o), .int k0] below meth c H locs 0 0 (MQ below (mQv γ (fun M' => ∃ k r', k ≤ L.length ∧ (∀ x, x ∈ L.drop k → sb (s1 I 5 o k0) o x = true) ∧ (∀ x, L[k - 1]? = some x → 0 < k → sb (s1 I 5 o k0) o x = false) ∧ AL γ M' l0 r' (cN cap (L.map oa).length) ((L.map oa).insertIdx k (oa o)) ∧ alF (mU M (oa o) (.inr (2, oc (s1 I 5 o k0) o))) M' l0 r0 r')) #[.ref sd, .ref (oa o), .int k0] s (gN cap (L.map oa).length) (sN cap (L.map oa).length) (mA (gz γ))) (F0 m 13 ls []) := by
    intro d
    induction d with
    | zero =>
      intro H locs ls hd hhi hl hw
      refine lv_iload_n S.1 S.2.1 d_S_enter_13 rfl (lv_at hl 0 rfl) ?_
      refine lv_if_le (tgt := 43) S.1 S.2.1 d_S_enter_14 rfl (fun _ => ?_) (fun h => absurd (by decide) h)
      exact hexit 0 H locs ls hd hhi (fun x _ h => absurd h (by omega)) hl hw
    | succ d ih =>
      intro H locs ls hd hhi hl hw
      refine lv_iload_n S.1 S.2.1 d_S_enter_13 rfl (lv_at hl 0 rfl) ?_
      refine lv_if_le (tgt := 43) S.1 S.2.1 d_S_enter_14 rfl (fun h => absurd h (nI_nle (by omega) (by omega))) (fun _ => ?_)
      refine lv_aload_n S.1 S.2.1 d_S_enter_17 rfl (lv_at hl 2 rfl) ?_
      refine lv_aload_n S.1 S.2.1 d_S_enter_18 rfl (lv_at hl 1 rfl) ?_
      refine m_get S hw cl_S hs0 0 (by decide) g104 (fun _ h => h) rfl d_S_enter_19 ?_
      refine lv_iload_n S.1 S.2.1 d_S_enter_22 rfl (lv_at hl 0 rfl) ?_
      refine lv_iconst (v := 1) S.1 S.2.1 d_S_enter_23 (by decide) ?_
      refine lv_isub S.1 S.2.1 d_S_enter_24 ?_
      refine W.eq (g2 := F0 m 25 ls [.int (nI d), .ref l0, .ref (oa o)]) (by rw [nI_pred]) ?_
      refine m_cq hw (va_runV (As := [.int (nI d)]) (rest := [.ref (oa o)]) S (c_AL_get l γ (mU M (oa o) (.inr (2, oc (s1 I 5 o k0) o))) l0 r0 cap (L.map oa) hA0 d (by omega)) (m_cwV 1 S g260 g190 g191 g44 g192 rfl rfl ⟨by decide +kernel, by decide +kernel, by decide +kernel⟩ ⟨(Nat.le_of_ble_eq_true rfl), (Nat.le_of_ble_eq_true rfl)⟩) (hw.preV hl0 cl_AL.1) rfl rfl hl.1 rfl (lv_room (Nat.le_of_ble_eq_true rfl)) d_S_enter_25 ⟨(Nat.zero_le _), (Nat.zero_le _)⟩) (fun r1 M1 H locs hp hw => ?_)
      obtain ⟨rfl, hM1⟩ := hp
      rw [hM1] at hw
      have hge : (L.map oa)[d]? = some (oa L[d]) := by rw [List.getElem?_map, List.getElem?_eq_getElem (by omega)]; rfl
      have hLd := hL L[d] (List.getElem_mem _)
      refine W.eq (g2 := F0 m 28 ls [.ref (oa L[d]), .ref (oa o)]) (by rw [hge]; rfl) ?_
      refine m_cast S hw cl_O (hO0 L[d] hLd.1) g261 d_S_enter_28 ?_
      refine m_ci hw (va_runV (As := [.ref (oa L[d])]) (rest := []) S (c_O_standsBefore l γ (mU M (oa o) (.inr (2, oc (s1 I 5 o k0) o))) (oa o) _ _ _ _ _ _ _ _ _ _ (hO0 o ho) (oa L[d]) _ _ _ _ _ _ _ _ _ _ (hO0 L[d] hLd.1)) (m_cwV 1 S g500 g229 g230 g54 g231 rfl rfl ⟨by decide +kernel, by decide +kernel, by decide +kernel⟩ ⟨(Nat.le_of_ble_eq_true rfl), (Nat.le_of_ble_eq_true rfl)⟩) (hw.preV (hO0 o ho) cl_O.1) rfl rfl hl.1 rfl (lv_room (Nat.le_of_ble_eq_true rfl)) d_S_enter_31 ⟨(Nat.zero_le _), (Nat.zero_le _)⟩) (fun r1 M1 H locs hp hw => ?_)
      obtain ⟨rfl, hM1⟩ := hp
      rw [hM1] at hw
      refine W.eq (g2 := F0 m 34 ls [.int (b2i (sb (s1 I 5 o k0) o L[d]))]) rfl ?_
      refine lv_if_eq (tgt := 43) S.1 S.2.1 d_S_enter_34 rfl (fun h34 => ?_) (fun h34 => ?_)
      · refine hexit (d + 1) H locs ls hd hhi (fun x hx _ => ?_) hl hw
        rw [Nat.add_sub_cancel, List.getElem?_eq_getElem (show d < L.length by omega)] at hx
        cases hx
        exact b2i_0.mp h34
      · refine lv_iinc (k := 0) (v := nI d) S.1 S.2.1 d_S_enter_37 hl rfl (pk_m1 d) (by decide) rfl (fun ls hl => ?_)
        have hl : lv_has ls 4 [(3, .int (nI d)), (0, .ref sd), (1, .ref (oa o)), (2, .int k0)] := hl
        refine lv_goto (tgt := 13) S.1 S.2.1 d_S_enter_40 rfl ?_
        refine ih H locs ls (by omega) ?_ hl hw
        intro x hx
        rw [List.drop_eq_getElem_cons (by omega)] at hx
        rcases List.mem_cons.mp hx with e | e
        · rw [e]; exact b2i_n0.mp h34
        · exact hhi x e
  rw [hml] at hl
  exact loop L.length H locs ls (Nat.le_refl _) (fun x hx => by rw [List.drop_length] at hx; cases hx) hl hw
end
section
/-! decode rows -/
theorem d_B_init_0 : decode b_B_init 0 = .ok (.aload_n 0, 1) := by decide +kernel
theorem d_B_init_1 : decode b_B_init 1 = .ok (.invokespecial 1, 3) := by decide +kernel
theorem d_B_init_4 : decode b_B_init 4 = .ok (.aload_n 0, 1) := by decide +kernel
theorem d_B_init_5 : decode b_B_init 5 = .ok (.new 7, 3) := by decide +kernel
theorem d_B_init_8 : decode b_B_init 8 = .ok (.dup, 1) := by decide +kernel
theorem d_B_init_9 : decode b_B_init 9 = .ok (.invokespecial 9, 3) := by decide +kernel
theorem d_B_init_12 : decode b_B_init 12 = .ok (.putfield 10, 3) := by decide +kernel
theorem d_B_init_15 : decode b_B_init 15 = .ok (.aload_n 0, 1) := by decide +kernel
theorem d_B_init_16 : decode b_B_init 16 = .ok (.new 16, 3) := by decide +kernel
theorem d_B_init_19 : decode b_B_init 19 = .ok (.dup, 1) := by decide +kernel
theorem d_B_init_20 : decode b_B_init 20 = .ok (.invokespecial 18, 3) := by decide +kernel
theorem d_B_init_23 : decode b_B_init 23 = .ok (.putfield 19, 3) := by decide +kernel
theorem d_B_init_26 : decode b_B_init 26 = .ok (.aload_n 0, 1) := by decide +kernel
theorem d_B_init_27 : decode b_B_init 27 = .ok (.new 16, 3) := by decide +kernel
theorem d_B_init_30 : decode b_B_init 30 = .ok (.dup, 1) := by decide +kernel
theorem d_B_init_31 : decode b_B_init 31 = .ok (.invokespecial 18, 3) := by decide +kernel
theorem d_B_init_34 : decode b_B_init 34 = .ok (.putfield 23, 3) := by decide +kernel
theorem d_B_init_37 : decode b_B_init 37 = .ok (.aload_n 0, 1) := by decide +kernel
theorem d_B_init_38 : decode b_B_init 38 = .ok (.new 26, 3) := by decide +kernel
theorem d_B_init_41 : decode b_B_init 41 = .ok (.dup, 1) := by decide +kernel
theorem d_B_init_42 : decode b_B_init 42 = .ok (.invokespecial 28, 3) := by decide +kernel
theorem d_B_init_45 : decode b_B_init 45 = .ok (.putfield 29, 3) := by decide +kernel
theorem d_B_init_48 : decode b_B_init 48 = .ok (.aload_n 0, 1) := by decide +kernel
theorem d_B_init_49 : decode b_B_init 49 = .ok (.new 33, 3) := by decide +kernel
theorem d_B_init_52 : decode b_B_init 52 = .ok (.dup, 1) := by decide +kernel
theorem d_B_init_53 : decode b_B_init 53 = .ok (.invokespecial 35, 3) := by decide +kernel
theorem d_B_init_56 : decode b_B_init 56 = .ok (.putfield 36, 3) := by decide +kernel
theorem d_B_init_59 : decode b_B_init 59 = .ok (.aload_n 0, 1) := by decide +kernel
theorem d_B_init_60 : decode b_B_init 60 = .ok (.iconst 0, 1) := by decide +kernel
theorem d_B_init_61 : decode b_B_init 61 = .ok (.putfield 40, 3) := by decide +kernel
theorem d_B_init_64 : decode b_B_init 64 = .ok (.aload_n 0, 1) := by decide +kernel
theorem d_B_init_65 : decode b_B_init 65 = .ok (.sipush 1000, 3) := by decide +kernel
theorem d_B_init_68 : decode b_B_init 68 = .ok (.putfield 44, 3) := by decide +kernel
theorem d_B_init_71 : decode b_B_init 71 = .ok (.aload_n 0, 1) := by decide +kernel
theorem d_B_init_72 : decode b_B_init 72 = .ok (.iconst 0, 1) := by decide +kernel
theorem d_B_init_73 : decode b_B_init 73 = .ok (.putfield 47, 3) := by decide +kernel
theorem d_B_init_76 : decode b_B_init 76 = .ok (.aload_n 0, 1) := by decide +kernel
theorem d_B_init_77 : decode b_B_init 77 = .ok (.iconst 0, 1) := by decide +kernel
theorem d_B_init_78 : decode b_B_init 78 = .ok (.putfield 50, 3) := by decide +kernel
theorem d_B_init_81 : decode b_B_init 81 = .ok (.return_, 1) := by decide +kernel
theorem d_B_call_0 : decode b_B_call 0 = .ok (.aload_n 0, 1) := by decide +kernel
theorem d_B_call_1 : decode b_B_call 1 = .ok (.getfield 40, 3) := by decide +kernel
theorem d_B_call_4 : decode b_B_call 4 = .ok (.istore_n 1, 1) := by decide +kernel
theorem d_B_call_5 : decode b_B_call 5 = .ok (.aload_n 0, 1) := by decide +kernel
theorem d_B_call_6 : decode b_B_call 6 = .ok (.iconst 0, 1) := by decide +kernel
theorem d_B_call_7 : decode b_B_call 7 = .ok (.putfield 40, 3) := by decide +kernel
theorem d_B_call_10 : decode b_B_call 10 = .ok (.iload_n 1, 1) := by decide +kernel
theorem d_B_call_11 : decode b_B_call 11 = .ok (.ireturn, 1) := by decide +kernel
theorem d_B_at_0 : decode b_B_at 0 = .ok (.aload_n 0, 1) := by decide +kernel
theorem d_B_at_1 : decode b_B_at 1 = .ok (.iload_n 1, 1) := by decide +kernel
theorem d_B_at_2 : decode b_B_at 2 = .ok (.invokevirtual 138, 3) := by decide +kernel
theorem d_B_at_5 : decode b_B_at 5 = .ok (.getfield 145, 3) := by decide +kernel
theorem d_B_at_8 : decode b_B_at 8 = .ok (.astore_n 3, 1) := by decide +kernel
theorem d_B_at_9 : decode b_B_at 9 = .ok (.iload_n 2, 1) := by decide +kernel
theorem d_B_at_10 : decode b_B_at 10 = .ok (.ifCond .lt 11, 3) := by decide +kernel
theorem d_B_at_13 : decode b_B_at 13 = .ok (.iload_n 2, 1) := by decide +kernel
theorem d_B_at_14 : decode b_B_at 14 = .ok (.aload_n 3, 1) := by decide +kernel
theorem d_B_at_15 : decode b_B_at 15 = .ok (.invokevirtual 76, 3) := by decide +kernel
theorem d_B_at_18 : decode b_B_at 18 = .ok (.if_icmp .lt 7, 3) := by decide +kernel
theorem d_B_at_21 : decode b_B_at 21 = .ok (.iconst (-1), 1) := by decide +kernel
theorem d_B_at_22 : decode b_B_at 22 = .ok (.goto 14, 3) := by decide +kernel
theorem d_B_at_25 : decode b_B_at 25 = .ok (.aload_n 3, 1) := by decide +kernel
theorem d_B_at_26 : decode b_B_at 26 = .ok (.iload_n 2, 1) := by decide +kernel
theorem d_B_at_27 : decode b_B_at 27 = .ok (.invokevirtual 117, 3) := by decide +kernel
theorem d_B_at_30 : decode b_B_at 30 = .ok (.checkcast 83, 3) := by decide +kernel
theorem d_B_at_33 : decode b_B_at 33 = .ok (.getfield 100, 3) := by decide +kernel
theorem d_B_at_36 : decode b_B_at 36 = .ok (.ireturn, 1) := by decide +kernel
theorem d_B_side_0 : decode b_B_side 0 = .ok (.iload_n 1, 1) := by decide +kernel
theorem d_B_side_1 : decode b_B_side 1 = .ok (.ifCond .eq 10, 3) := by decide +kernel
theorem d_B_side_4 : decode b_B_side 4 = .ok (.aload_n 0, 1) := by decide +kernel
theorem d_B_side_5 : decode b_B_side 5 = .ok (.getfield 19, 3) := by decide +kernel
theorem d_B_side_8 : decode b_B_side 8 = .ok (.goto 7, 3) := by decide +kernel
theorem d_B_side_11 : decode b_B_side 11 = .ok (.aload_n 0, 1) := by decide +kernel
theorem d_B_side_12 : decode b_B_side 12 = .ok (.getfield 23, 3) := by decide +kernel
theorem d_B_side_15 : decode b_B_side 15 = .ok (.areturn, 1) := by decide +kernel
theorem d_B_trade_0 : decode b_B_trade 0 = .ok (.aload_n 0, 1) := by decide +kernel
theorem d_B_trade_1 : decode b_B_trade 1 = .ok (.getfield 29, 3) := by decide +kernel
theorem d_B_trade_4 : decode b_B_trade 4 = .ok (.iload_n 1, 1) := by decide +kernel
theorem d_B_trade_5 : decode b_B_trade 5 = .ok (.iload_n 2, 1) := by decide +kernel
theorem d_B_trade_6 : decode b_B_trade 6 = .ok (.invokevirtual 179, 3) := by decide +kernel
theorem d_B_trade_9 : decode b_B_trade 9 = .ok (.ireturn, 1) := by decide +kernel
theorem d_B_told_0 : decode b_B_told 0 = .ok (.iload_n 1, 1) := by decide +kernel
theorem d_B_told_1 : decode b_B_told 1 = .ok (.tableswitch 118 0 7 #[47, 53, 59, 65, 74, 86, 98, 110], 47) := by decide +kernel
theorem d_B_told_48 : decode b_B_told 48 = .ok (.aload_n 0, 1) := by decide +kernel
theorem d_B_told_49 : decode b_B_told 49 = .ok (.getfield 40, 3) := by decide +kernel
theorem d_B_told_52 : decode b_B_told 52 = .ok (.i2l, 1) := by decide +kernel
theorem d_B_told_53 : decode b_B_told 53 = .ok (.lreturn, 1) := by decide +kernel
theorem d_B_told_54 : decode b_B_told 54 = .ok (.aload_n 0, 1) := by decide +kernel
theorem d_B_told_55 : decode b_B_told 55 = .ok (.getfield 44, 3) := by decide +kernel
theorem d_B_told_58 : decode b_B_told 58 = .ok (.i2l, 1) := by decide +kernel
theorem d_B_told_59 : decode b_B_told 59 = .ok (.lreturn, 1) := by decide +kernel
theorem d_B_told_60 : decode b_B_told 60 = .ok (.aload_n 0, 1) := by decide +kernel
theorem d_B_told_61 : decode b_B_told 61 = .ok (.getfield 47, 3) := by decide +kernel
theorem d_B_told_64 : decode b_B_told 64 = .ok (.i2l, 1) := by decide +kernel
theorem d_B_told_65 : decode b_B_told 65 = .ok (.lreturn, 1) := by decide +kernel
theorem d_B_told_66 : decode b_B_told 66 = .ok (.aload_n 0, 1) := by decide +kernel
theorem d_B_told_67 : decode b_B_told 67 = .ok (.getfield 10, 3) := by decide +kernel
theorem d_B_told_70 : decode b_B_told 70 = .ok (.invokevirtual 76, 3) := by decide +kernel
theorem d_B_told_73 : decode b_B_told 73 = .ok (.i2l, 1) := by decide +kernel
theorem d_B_told_74 : decode b_B_told 74 = .ok (.lreturn, 1) := by decide +kernel
theorem d_B_told_75 : decode b_B_told 75 = .ok (.aload_n 0, 1) := by decide +kernel
theorem d_B_told_76 : decode b_B_told 76 = .ok (.getfield 19, 3) := by decide +kernel
theorem d_B_told_79 : decode b_B_told 79 = .ok (.getfield 145, 3) := by decide +kernel
theorem d_B_told_82 : decode b_B_told 82 = .ok (.invokevirtual 76, 3) := by decide +kernel
theorem d_B_told_85 : decode b_B_told 85 = .ok (.i2l, 1) := by decide +kernel
theorem d_B_told_86 : decode b_B_told 86 = .ok (.lreturn, 1) := by decide +kernel
theorem d_B_told_87 : decode b_B_told 87 = .ok (.aload_n 0, 1) := by decide +kernel
theorem d_B_told_88 : decode b_B_told 88 = .ok (.getfield 23, 3) := by decide +kernel
theorem d_B_told_91 : decode b_B_told 91 = .ok (.getfield 145, 3) := by decide +kernel
theorem d_B_told_94 : decode b_B_told 94 = .ok (.invokevirtual 76, 3) := by decide +kernel
theorem d_B_told_97 : decode b_B_told 97 = .ok (.i2l, 1) := by decide +kernel
theorem d_B_told_98 : decode b_B_told 98 = .ok (.lreturn, 1) := by decide +kernel
theorem d_B_told_99 : decode b_B_told 99 = .ok (.aload_n 0, 1) := by decide +kernel
theorem d_B_told_100 : decode b_B_told 100 = .ok (.getfield 29, 3) := by decide +kernel
theorem d_B_told_103 : decode b_B_told 103 = .ok (.getfield 183, 3) := by decide +kernel
theorem d_B_told_106 : decode b_B_told 106 = .ok (.invokevirtual 76, 3) := by decide +kernel
theorem d_B_told_109 : decode b_B_told 109 = .ok (.i2l, 1) := by decide +kernel
theorem d_B_told_110 : decode b_B_told 110 = .ok (.lreturn, 1) := by decide +kernel
theorem d_B_told_111 : decode b_B_told 111 = .ok (.aload_n 0, 1) := by decide +kernel
theorem d_B_told_112 : decode b_B_told 112 = .ok (.getfield 29, 3) := by decide +kernel
theorem d_B_told_115 : decode b_B_told 115 = .ok (.getfield 186, 3) := by decide +kernel
theorem d_B_told_118 : decode b_B_told 118 = .ok (.lreturn, 1) := by decide +kernel
theorem d_B_told_119 : decode b_B_told 119 = .ok (.ldc2_w 189, 3) := by decide +kernel
theorem d_B_told_122 : decode b_B_told 122 = .ok (.lreturn, 1) := by decide +kernel
theorem d_B_astray_0 : decode b_B_astray 0 = .ok (.aload_n 0, 1) := by decide +kernel
theorem d_B_astray_1 : decode b_B_astray 1 = .ok (.iconst 1, 1) := by decide +kernel
theorem d_B_astray_2 : decode b_B_astray 2 = .ok (.invokevirtual 191, 3) := by decide +kernel
theorem d_B_astray_5 : decode b_B_astray 5 = .ok (.aload_n 0, 1) := by decide +kernel
theorem d_B_astray_6 : decode b_B_astray 6 = .ok (.iconst 0, 1) := by decide +kernel
theorem d_B_astray_7 : decode b_B_astray 7 = .ok (.invokevirtual 191, 3) := by decide +kernel
theorem d_B_astray_10 : decode b_B_astray 10 = .ok (.iadd, 1) := by decide +kernel
theorem d_B_astray_11 : decode b_B_astray 11 = .ok (.aload_n 0, 1) := by decide +kernel
theorem d_B_astray_12 : decode b_B_astray 12 = .ok (.invokevirtual 195, 3) := by decide +kernel
theorem d_B_astray_15 : decode b_B_astray 15 = .ok (.iadd, 1) := by decide +kernel
theorem d_B_astray_16 : decode b_B_astray 16 = .ok (.ireturn, 1) := by decide +kernel
theorem d_B_astrayInLine_0 : decode b_B_astrayInLine 0 = .ok (.aload_n 0, 1) := by decide +kernel
theorem d_B_astrayInLine_1 : decode b_B_astrayInLine 1 = .ok (.iload_n 1, 1) := by decide +kernel
theorem d_B_astrayInLine_2 : decode b_B_astrayInLine 2 = .ok (.invokevirtual 138, 3) := by decide +kernel
theorem d_B_astrayInLine_5 : decode b_B_astrayInLine 5 = .ok (.getfield 145, 3) := by decide +kernel
theorem d_B_astrayInLine_8 : decode b_B_astrayInLine 8 = .ok (.astore_n 2, 1) := by decide +kernel
theorem d_B_astrayInLine_9 : decode b_B_astrayInLine 9 = .ok (.iconst 0, 1) := by decide +kernel
theorem d_B_astrayInLine_10 : decode b_B_astrayInLine 10 = .ok (.istore_n 3, 1) := by decide +kernel
theorem d_B_astrayInLine_11 : decode b_B_astrayInLine 11 = .ok (.iconst 0, 1) := by decide +kernel
theorem d_B_astrayInLine_12 : decode b_B_astrayInLine 12 = .ok (.istore 4, 2) := by decide +kernel
theorem d_B_astrayInLine_14 : decode b_B_astrayInLine 14 = .ok (.iload 4, 2) := by decide +kernel
theorem d_B_astrayInLine_16 : decode b_B_astrayInLine 16 = .ok (.aload_n 2, 1) := by decide +kernel
theorem d_B_astrayInLine_17 : decode b_B_astrayInLine 17 = .ok (.invokevirtual 76, 3) := by decide +kernel
theorem d_B_astrayInLine_20 : decode b_B_astrayInLine 20 = .ok (.if_icmp .ge 85, 3) := by decide +kernel
theorem d_B_astrayInLine_23 : decode b_B_astrayInLine 23 = .ok (.aload_n 2, 1) := by decide +kernel
theorem d_B_astrayInLine_24 : decode b_B_astrayInLine 24 = .ok (.iload 4, 2) := by decide +kernel
theorem d_B_astrayInLine_26 : decode b_B_astrayInLine 26 = .ok (.invokevirtual 117, 3) := by decide +kernel
theorem d_B_astrayInLine_29 : decode b_B_astrayInLine 29 = .ok (.checkcast 83, 3) := by decide +kernel
theorem d_B_astrayInLine_32 : decode b_B_astrayInLine 32 = .ok (.astore 5, 2) := by decide +kernel
theorem d_B_astrayInLine_34 : decode b_B_astrayInLine 34 = .ok (.aload 5, 2) := by decide +kernel
theorem d_B_astrayInLine_36 : decode b_B_astrayInLine 36 = .ok (.getfield 134, 3) := by decide +kernel
theorem d_B_astrayInLine_39 : decode b_B_astrayInLine 39 = .ok (.iload_n 1, 1) := by decide +kernel
theorem d_B_astrayInLine_40 : decode b_B_astrayInLine 40 = .ok (.if_icmp .ne 27, 3) := by decide +kernel
theorem d_B_astrayInLine_43 : decode b_B_astrayInLine 43 = .ok (.iload 4, 2) := by decide +kernel
theorem d_B_astrayInLine_45 : decode b_B_astrayInLine 45 = .ok (.ifCond .le 26, 3) := by decide +kernel
theorem d_B_astrayInLine_48 : decode b_B_astrayInLine 48 = .ok (.aload_n 2, 1) := by decide +kernel
theorem d_B_astrayInLine_49 : decode b_B_astrayInLine 49 = .ok (.iload 4, 2) := by decide +kernel
theorem d_B_astrayInLine_51 : decode b_B_astrayInLine 51 = .ok (.iconst 1, 1) := by decide +kernel
theorem d_B_astrayInLine_52 : decode b_B_astrayInLine 52 = .ok (.isub, 1) := by decide +kernel
theorem d_B_astrayInLine_53 : decode b_B_astrayInLine 53 = .ok (.invokevirtual 117, 3) := by decide +kernel
theorem d_B_astrayInLine_56 : decode b_B_astrayInLine 56 = .ok (.checkcast 83, 3) := by decide +kernel
theorem d_B_astrayInLine_59 : decode b_B_astrayInLine 59 = .ok (.aload 5, 2) := by decide +kernel
theorem d_B_astrayInLine_61 : decode b_B_astrayInLine 61 = .ok (.invokevirtual 256, 3) := by decide +kernel
theorem d_B_astrayInLine_64 : decode b_B_astrayInLine 64 = .ok (.ifCond .ne 7, 3) := by decide +kernel
theorem d_B_astrayInLine_67 : decode b_B_astrayInLine 67 = .ok (.iconst 1, 1) := by decide +kernel
theorem d_B_astrayInLine_68 : decode b_B_astrayInLine 68 = .ok (.goto 4, 3) := by decide +kernel
theorem d_B_astrayInLine_71 : decode b_B_astrayInLine 71 = .ok (.iconst 0, 1) := by decide +kernel
theorem d_B_astrayInLine_72 : decode b_B_astrayInLine 72 = .ok (.istore 6, 2) := by decide +kernel
theorem d_B_astrayInLine_74 : decode b_B_astrayInLine 74 = .ok (.iload 6, 2) := by decide +kernel
theorem d_B_astrayInLine_76 : decode b_B_astrayInLine 76 = .ok (.ifCond .ne 20, 3) := by decide +kernel
theorem d_B_astrayInLine_79 : decode b_B_astrayInLine 79 = .ok (.aload 5, 2) := by decide +kernel
theorem d_B_astrayInLine_81 : decode b_B_astrayInLine 81 = .ok (.invokevirtual 259, 3) := by decide +kernel
theorem d_B_astrayInLine_84 : decode b_B_astrayInLine 84 = .ok (.ifCond .ne 12, 3) := by decide +kernel
theorem d_B_astrayInLine_87 : decode b_B_astrayInLine 87 = .ok (.aload_n 0, 1) := by decide +kernel
theorem d_B_astrayInLine_88 : decode b_B_astrayInLine 88 = .ok (.aload 5, 2) := by decide +kernel
theorem d_B_astrayInLine_90 : decode b_B_astrayInLine 90 = .ok (.invokevirtual 262, 3) := by decide +kernel
theorem d_B_astrayInLine_93 : decode b_B_astrayInLine 93 = .ok (.ifCond .eq 6, 3) := by decide +kernel
theorem d_B_astrayInLine_96 : decode b_B_astrayInLine 96 = .ok (.iinc 3 1, 3) := by decide +kernel
theorem d_B_astrayInLine_99 : decode b_B_astrayInLine 99 = .ok (.iinc 4 1, 3) := by decide +kernel
theorem d_B_astrayInLine_102 : decode b_B_astrayInLine 102 = .ok (.goto (-88), 3) := by decide +kernel
theorem d_B_astrayInLine_105 : decode b_B_astrayInLine 105 = .ok (.iload_n 3, 1) := by decide +kernel
theorem d_B_astrayInLine_106 : decode b_B_astrayInLine 106 = .ok (.ireturn, 1) := by decide +kernel
theorem d_B_couldTrade_0 : decode b_B_couldTrade 0 = .ok (.aload_n 0, 1) := by decide +kernel
theorem d_B_couldTrade_1 : decode b_B_couldTrade 1 = .ok (.aload_n 1, 1) := by decide +kernel
theorem d_B_couldTrade_2 : decode b_B_couldTrade 2 = .ok (.getfield 134, 3) := by decide +kernel
theorem d_B_couldTrade_5 : decode b_B_couldTrade 5 = .ok (.ifCond .ne 7, 3) := by decide +kernel
theorem d_B_couldTrade_8 : decode b_B_couldTrade 8 = .ok (.iconst 1, 1) := by decide +kernel
theorem d_B_couldTrade_9 : decode b_B_couldTrade 9 = .ok (.goto 4, 3) := by decide +kernel
theorem d_B_couldTrade_12 : decode b_B_couldTrade 12 = .ok (.iconst 0, 1) := by decide +kernel
theorem d_B_couldTrade_13 : decode b_B_couldTrade 13 = .ok (.invokevirtual 138, 3) := by decide +kernel
theorem d_B_couldTrade_16 : decode b_B_couldTrade 16 = .ok (.invokevirtual 221, 3) := by decide +kernel
theorem d_B_couldTrade_19 : decode b_B_couldTrade 19 = .ok (.astore_n 2, 1) := by decide +kernel
theorem d_B_couldTrade_20 : decode b_B_couldTrade 20 = .ok (.aload_n 0, 1) := by decide +kernel
theorem d_B_couldTrade_21 : decode b_B_couldTrade 21 = .ok (.getfield 40, 3) := by decide +kernel
theorem d_B_couldTrade_24 : decode b_B_couldTrade 24 = .ok (.iconst 1, 1) := by decide +kernel
theorem d_B_couldTrade_25 : decode b_B_couldTrade 25 = .ok (.if_icmp .ne 29, 3) := by decide +kernel
theorem d_B_couldTrade_28 : decode b_B_couldTrade 28 = .ok (.aload_n 0, 1) := by decide +kernel
theorem d_B_couldTrade_29 : decode b_B_couldTrade 29 = .ok (.getfield 47, 3) := by decide +kernel
theorem d_B_couldTrade_32 : decode b_B_couldTrade 32 = .ok (.ifCond .ne 22, 3) := by decide +kernel
theorem d_B_couldTrade_35 : decode b_B_couldTrade 35 = .ok (.aload_n 2, 1) := by decide +kernel
theorem d_B_couldTrade_36 : decode b_B_couldTrade 36 = .ok (.ifnull 18, 3) := by decide +kernel
theorem d_B_couldTrade_39 : decode b_B_couldTrade 39 = .ok (.aload_n 1, 1) := by decide +kernel
theorem d_B_couldTrade_40 : decode b_B_couldTrade 40 = .ok (.aload_n 2, 1) := by decide +kernel
theorem d_B_couldTrade_41 : decode b_B_couldTrade 41 = .ok (.getfield 127, 3) := by decide +kernel
theorem d_B_couldTrade_44 : decode b_B_couldTrade 44 = .ok (.invokevirtual 215, 3) := by decide +kernel
theorem d_B_couldTrade_47 : decode b_B_couldTrade 47 = .ok (.ifCond .eq 7, 3) := by decide +kernel
theorem d_B_couldTrade_50 : decode b_B_couldTrade 50 = .ok (.iconst 1, 1) := by decide +kernel
theorem d_B_couldTrade_51 : decode b_B_couldTrade 51 = .ok (.goto 4, 3) := by decide +kernel
theorem d_B_couldTrade_54 : decode b_B_couldTrade 54 = .ok (.iconst 0, 1) := by decide +kernel
theorem d_B_couldTrade_55 : decode b_B_couldTrade 55 = .ok (.ireturn, 1) := by decide +kernel
theorem d_B_astrayOutOfLine_0 : decode b_B_astrayOutOfLine 0 = .ok (.iconst 0, 1) := by decide +kernel
theorem d_B_astrayOutOfLine_1 : decode b_B_astrayOutOfLine 1 = .ok (.istore_n 1, 1) := by decide +kernel
theorem d_B_astrayOutOfLine_2 : decode b_B_astrayOutOfLine 2 = .ok (.iconst 0, 1) := by decide +kernel
theorem d_B_astrayOutOfLine_3 : decode b_B_astrayOutOfLine 3 = .ok (.istore_n 2, 1) := by decide +kernel
theorem d_B_astrayOutOfLine_4 : decode b_B_astrayOutOfLine 4 = .ok (.iconst 0, 1) := by decide +kernel
theorem d_B_astrayOutOfLine_5 : decode b_B_astrayOutOfLine 5 = .ok (.istore_n 3, 1) := by decide +kernel
theorem d_B_astrayOutOfLine_6 : decode b_B_astrayOutOfLine 6 = .ok (.iload_n 3, 1) := by decide +kernel
theorem d_B_astrayOutOfLine_7 : decode b_B_astrayOutOfLine 7 = .ok (.aload_n 0, 1) := by decide +kernel
theorem d_B_astrayOutOfLine_8 : decode b_B_astrayOutOfLine 8 = .ok (.getfield 10, 3) := by decide +kernel
theorem d_B_astrayOutOfLine_11 : decode b_B_astrayOutOfLine 11 = .ok (.invokevirtual 76, 3) := by decide +kernel
theorem d_B_astrayOutOfLine_14 : decode b_B_astrayOutOfLine 14 = .ok (.if_icmp .ge 55, 3) := by decide +kernel
theorem d_B_astrayOutOfLine_17 : decode b_B_astrayOutOfLine 17 = .ok (.aload_n 0, 1) := by decide +kernel
theorem d_B_astrayOutOfLine_18 : decode b_B_astrayOutOfLine 18 = .ok (.getfield 10, 3) := by decide +kernel
theorem d_B_astrayOutOfLine_21 : decode b_B_astrayOutOfLine 21 = .ok (.iload_n 3, 1) := by decide +kernel
theorem d_B_astrayOutOfLine_22 : decode b_B_astrayOutOfLine 22 = .ok (.invokevirtual 117, 3) := by decide +kernel
theorem d_B_astrayOutOfLine_25 : decode b_B_astrayOutOfLine 25 = .ok (.checkcast 83, 3) := by decide +kernel
theorem d_B_astrayOutOfLine_28 : decode b_B_astrayOutOfLine 28 = .ok (.astore 4, 2) := by decide +kernel
theorem d_B_astrayOutOfLine_30 : decode b_B_astrayOutOfLine 30 = .ok (.aload 4, 2) := by decide +kernel
theorem d_B_astrayOutOfLine_32 : decode b_B_astrayOutOfLine 32 = .ok (.invokevirtual 107, 3) := by decide +kernel
theorem d_B_astrayOutOfLine_35 : decode b_B_astrayOutOfLine 35 = .ok (.ifCond .eq 9, 3) := by decide +kernel
theorem d_B_astrayOutOfLine_38 : decode b_B_astrayOutOfLine 38 = .ok (.iinc 2 1, 3) := by decide +kernel
theorem d_B_astrayOutOfLine_41 : decode b_B_astrayOutOfLine 41 = .ok (.goto 22, 3) := by decide +kernel
theorem d_B_astrayOutOfLine_44 : decode b_B_astrayOutOfLine 44 = .ok (.aload 4, 2) := by decide +kernel
theorem d_B_astrayOutOfLine_46 : decode b_B_astrayOutOfLine 46 = .ok (.getfield 111, 3) := by decide +kernel
theorem d_B_astrayOutOfLine_49 : decode b_B_astrayOutOfLine 49 = .ok (.ifCond .ne 11, 3) := by decide +kernel
theorem d_B_astrayOutOfLine_52 : decode b_B_astrayOutOfLine 52 = .ok (.aload 4, 2) := by decide +kernel
theorem d_B_astrayOutOfLine_54 : decode b_B_astrayOutOfLine 54 = .ok (.getfield 167, 3) := by decide +kernel
theorem d_B_astrayOutOfLine_57 : decode b_B_astrayOutOfLine 57 = .ok (.ifCond .eq 6, 3) := by decide +kernel
theorem d_B_astrayOutOfLine_60 : decode b_B_astrayOutOfLine 60 = .ok (.iinc 1 1, 3) := by decide +kernel
theorem d_B_astrayOutOfLine_63 : decode b_B_astrayOutOfLine 63 = .ok (.iinc 3 1, 3) := by decide +kernel
theorem d_B_astrayOutOfLine_66 : decode b_B_astrayOutOfLine 66 = .ok (.goto (-60), 3) := by decide +kernel
theorem d_B_astrayOutOfLine_69 : decode b_B_astrayOutOfLine 69 = .ok (.iload_n 1, 1) := by decide +kernel
theorem d_B_astrayOutOfLine_70 : decode b_B_astrayOutOfLine 70 = .ok (.iload_n 2, 1) := by decide +kernel
theorem d_B_astrayOutOfLine_71 : decode b_B_astrayOutOfLine 71 = .ok (.aload_n 0, 1) := by decide +kernel
theorem d_B_astrayOutOfLine_72 : decode b_B_astrayOutOfLine 72 = .ok (.getfield 19, 3) := by decide +kernel
theorem d_B_astrayOutOfLine_75 : decode b_B_astrayOutOfLine 75 = .ok (.getfield 145, 3) := by decide +kernel
theorem d_B_astrayOutOfLine_78 : decode b_B_astrayOutOfLine 78 = .ok (.invokevirtual 76, 3) := by decide +kernel
theorem d_B_astrayOutOfLine_81 : decode b_B_astrayOutOfLine 81 = .ok (.isub, 1) := by decide +kernel
theorem d_B_astrayOutOfLine_82 : decode b_B_astrayOutOfLine 82 = .ok (.aload_n 0, 1) := by decide +kernel
theorem d_B_astrayOutOfLine_83 : decode b_B_astrayOutOfLine 83 = .ok (.getfield 23, 3) := by decide +kernel
theorem d_B_astrayOutOfLine_86 : decode b_B_astrayOutOfLine 86 = .ok (.getfield 145, 3) := by decide +kernel
theorem d_B_astrayOutOfLine_89 : decode b_B_astrayOutOfLine 89 = .ok (.invokevirtual 76, 3) := by decide +kernel
theorem d_B_astrayOutOfLine_92 : decode b_B_astrayOutOfLine 92 = .ok (.isub, 1) := by decide +kernel
theorem d_B_astrayOutOfLine_93 : decode b_B_astrayOutOfLine 93 = .ok (.invokestatic 199, 3) := by decide +kernel
theorem d_B_astrayOutOfLine_96 : decode b_B_astrayOutOfLine 96 = .ok (.iadd, 1) := by decide +kernel
theorem d_B_astrayOutOfLine_97 : decode b_B_astrayOutOfLine 97 = .ok (.ireturn, 1) := by decide +kernel
theorem d_B_place_0 : decode b_B_place 0 = .ok (.iload_n 1, 1) := by decide +kernel
theorem d_B_place_1 : decode b_B_place 1 = .ok (.invokestatic 53, 3) := by decide +kernel
theorem d_B_place_4 : decode b_B_place 4 = .ok (.ifCond .eq 18, 3) := by decide +kernel
theorem d_B_place_7 : decode b_B_place 7 = .ok (.iload_n 3, 1) := by decide +kernel
theorem d_B_place_8 : decode b_B_place 8 = .ok (.invokestatic 57, 3) := by decide +kernel
theorem d_B_place_11 : decode b_B_place 11 = .ok (.ifCond .eq 11, 3) := by decide +kernel
theorem d_B_place_14 : decode b_B_place 14 = .ok (.iload 4, 2) := by decide +kernel
theorem d_B_place_16 : decode b_B_place 16 = .ok (.invokestatic 60, 3) := by decide +kernel
theorem d_B_place_19 : decode b_B_place 19 = .ok (.ifCond .ne 11, 3) := by decide +kernel
theorem d_B_place_22 : decode b_B_place 22 = .ok (.new 63, 3) := by decide +kernel
theorem d_B_place_25 : decode b_B_place 25 = .ok (.dup, 1) := by decide +kernel
theorem d_B_place_26 : decode b_B_place 26 = .ok (.invokespecial 65, 3) := by decide +kernel
theorem d_B_place_29 : decode b_B_place 29 = .ok (.athrow, 1) := by decide +kernel
theorem d_B_place_30 : decode b_B_place 30 = .ok (.iload 5, 2) := by decide +kernel
theorem d_B_place_32 : decode b_B_place 32 = .ok (.invokestatic 66, 3) := by decide +kernel
theorem d_B_place_35 : decode b_B_place 35 = .ok (.ifCond .eq 21, 3) := by decide +kernel
theorem d_B_place_38 : decode b_B_place 38 = .ok (.iload 4, 2) := by decide +kernel
theorem d_B_place_40 : decode b_B_place 40 = .ok (.iload 5, 2) := by decide +kernel
theorem d_B_place_42 : decode b_B_place 42 = .ok (.invokestatic 69, 3) := by decide +kernel
theorem d_B_place_45 : decode b_B_place 45 = .ok (.ifCond .eq 11, 3) := by decide +kernel
theorem d_B_place_48 : decode b_B_place 48 = .ok (.iload 6, 2) := by decide +kernel
theorem d_B_place_50 : decode b_B_place 50 = .ok (.invokestatic 73, 3) := by decide +kernel
theorem d_B_place_53 : decode b_B_place 53 = .ok (.ifCond .ne 11, 3) := by decide +kernel
theorem d_B_place_56 : decode b_B_place 56 = .ok (.new 63, 3) := by decide +kernel
theorem d_B_place_59 : decode b_B_place 59 = .ok (.dup, 1) := by decide +kernel
theorem d_B_place_60 : decode b_B_place 60 = .ok (.invokespecial 65, 3) := by decide +kernel
theorem d_B_place_63 : decode b_B_place 63 = .ok (.athrow, 1) := by decide +kernel
theorem d_B_place_64 : decode b_B_place 64 = .ok (.iload 5, 2) := by decide +kernel
theorem d_B_place_66 : decode b_B_place 66 = .ok (.ifCond .eq 16, 3) := by decide +kernel
theorem d_B_place_69 : decode b_B_place 69 = .ok (.iload 6, 2) := by decide +kernel
theorem d_B_place_71 : decode b_B_place 71 = .ok (.ifCond .eq 11, 3) := by decide +kernel
theorem d_B_place_74 : decode b_B_place 74 = .ok (.new 63, 3) := by decide +kernel
theorem d_B_place_77 : decode b_B_place 77 = .ok (.dup, 1) := by decide +kernel
theorem d_B_place_78 : decode b_B_place 78 = .ok (.invokespecial 65, 3) := by decide +kernel
theorem d_B_place_81 : decode b_B_place 81 = .ok (.athrow, 1) := by decide +kernel
theorem d_B_place_82 : decode b_B_place 82 = .ok (.iload 6, 2) := by decide +kernel
theorem d_B_place_84 : decode b_B_place 84 = .ok (.ifCond .eq 15, 3) := by decide +kernel
theorem d_B_place_87 : decode b_B_place 87 = .ok (.aload_n 0, 1) := by decide +kernel
theorem d_B_place_88 : decode b_B_place 88 = .ok (.getfield 40, 3) := by decide +kernel
theorem d_B_place_91 : decode b_B_place 91 = .ok (.iconst 1, 1) := by decide +kernel
theorem d_B_place_92 : decode b_B_place 92 = .ok (.if_icmp .eq 7, 3) := by decide +kernel
theorem d_B_place_95 : decode b_B_place 95 = .ok (.iconst 1, 1) := by decide +kernel
theorem d_B_place_96 : decode b_B_place 96 = .ok (.goto 4, 3) := by decide +kernel
theorem d_B_place_99 : decode b_B_place 99 = .ok (.iconst 0, 1) := by decide +kernel
theorem d_B_place_100 : decode b_B_place 100 = .ok (.istore 7, 2) := by decide +kernel
theorem d_B_place_102 : decode b_B_place 102 = .ok (.aload_n 0, 1) := by decide +kernel
theorem d_B_place_103 : decode b_B_place 103 = .ok (.getfield 10, 3) := by decide +kernel
theorem d_B_place_106 : decode b_B_place 106 = .ok (.invokevirtual 76, 3) := by decide +kernel
theorem d_B_place_109 : decode b_B_place 109 = .ok (.sipush 250, 3) := by decide +kernel
theorem d_B_place_112 : decode b_B_place 112 = .ok (.if_icmp .ge 16, 3) := by decide +kernel
theorem d_B_place_115 : decode b_B_place 115 = .ok (.aload_n 0, 1) := by decide +kernel
theorem d_B_place_116 : decode b_B_place 116 = .ok (.getfield 40, 3) := by decide +kernel
theorem d_B_place_119 : decode b_B_place 119 = .ok (.iconst 2, 1) := by decide +kernel
theorem d_B_place_120 : decode b_B_place 120 = .ok (.if_icmp .eq 8, 3) := by decide +kernel
theorem d_B_place_123 : decode b_B_place 123 = .ok (.iload 7, 2) := by decide +kernel
theorem d_B_place_125 : decode b_B_place 125 = .ok (.ifCond .eq 11, 3) := by decide +kernel
theorem d_B_place_128 : decode b_B_place 128 = .ok (.new 80, 3) := by decide +kernel
theorem d_B_place_131 : decode b_B_place 131 = .ok (.dup, 1) := by decide +kernel
theorem d_B_place_132 : decode b_B_place 132 = .ok (.invokespecial 82, 3) := by decide +kernel
theorem d_B_place_135 : decode b_B_place 135 = .ok (.athrow, 1) := by decide +kernel
theorem d_B_place_136 : decode b_B_place 136 = .ok (.new 83, 3) := by decide +kernel
theorem d_B_place_139 : decode b_B_place 139 = .ok (.dup, 1) := by decide +kernel
theorem d_B_place_140 : decode b_B_place 140 = .ok (.aload_n 0, 1) := by decide +kernel
theorem d_B_place_141 : decode b_B_place 141 = .ok (.getfield 10, 3) := by decide +kernel
theorem d_B_place_144 : decode b_B_place 144 = .ok (.invokevirtual 76, 3) := by decide +kernel
theorem d_B_place_147 : decode b_B_place 147 = .ok (.iload_n 1, 1) := by decide +kernel
theorem d_B_place_148 : decode b_B_place 148 = .ok (.iload_n 2, 1) := by decide +kernel
theorem d_B_place_149 : decode b_B_place 149 = .ok (.iload 5, 2) := by decide +kernel
theorem d_B_place_151 : decode b_B_place 151 = .ok (.iload 6, 2) := by decide +kernel
theorem d_B_place_153 : decode b_B_place 153 = .ok (.invokespecial 85, 3) := by decide +kernel
theorem d_B_place_156 : decode b_B_place 156 = .ok (.astore 8, 2) := by decide +kernel
theorem d_B_place_158 : decode b_B_place 158 = .ok (.aload 8, 2) := by decide +kernel
theorem d_B_place_160 : decode b_B_place 160 = .ok (.iload_n 3, 1) := by decide +kernel
theorem d_B_place_161 : decode b_B_place 161 = .ok (.iload 4, 2) := by decide +kernel
theorem d_B_place_163 : decode b_B_place 163 = .ok (.invokevirtual 88, 3) := by decide +kernel
theorem d_B_place_166 : decode b_B_place 166 = .ok (.aload_n 0, 1) := by decide +kernel
theorem d_B_place_167 : decode b_B_place 167 = .ok (.getfield 10, 3) := by decide +kernel
theorem d_B_place_170 : decode b_B_place 170 = .ok (.aload 8, 2) := by decide +kernel
theorem d_B_place_172 : decode b_B_place 172 = .ok (.invokevirtual 92, 3) := by decide +kernel
theorem d_B_place_175 : decode b_B_place 175 = .ok (.pop, 1) := by decide +kernel
theorem d_B_place_176 : decode b_B_place 176 = .ok (.aload_n 0, 1) := by decide +kernel
theorem d_B_place_177 : decode b_B_place 177 = .ok (.aload 8, 2) := by decide +kernel
theorem d_B_place_179 : decode b_B_place 179 = .ok (.invokevirtual 96, 3) := by decide +kernel
theorem d_B_place_182 : decode b_B_place 182 = .ok (.aload 8, 2) := by decide +kernel
theorem d_B_place_184 : decode b_B_place 184 = .ok (.getfield 100, 3) := by decide +kernel
theorem d_B_place_187 : decode b_B_place 187 = .ok (.ireturn, 1) := by decide +kernel
theorem d_B_isOwner_0 : decode b_B_isOwner 0 = .ok (.iload_n 0, 1) := by decide +kernel
theorem d_B_isOwner_1 : decode b_B_isOwner 1 = .ok (.ifCond .lt 13, 3) := by decide +kernel
theorem d_B_isOwner_4 : decode b_B_isOwner 4 = .ok (.iload_n 0, 1) := by decide +kernel
theorem d_B_isOwner_5 : decode b_B_isOwner 5 = .ok (.bipush 9, 2) := by decide +kernel
theorem d_B_isOwner_7 : decode b_B_isOwner 7 = .ok (.if_icmp .gt 7, 3) := by decide +kernel
theorem d_B_isOwner_10 : decode b_B_isOwner 10 = .ok (.iconst 1, 1) := by decide +kernel
theorem d_B_isOwner_11 : decode b_B_isOwner 11 = .ok (.goto 4, 3) := by decide +kernel
theorem d_B_isOwner_14 : decode b_B_isOwner 14 = .ok (.iconst 0, 1) := by decide +kernel
theorem d_B_isOwner_15 : decode b_B_isOwner 15 = .ok (.ireturn, 1) := by decide +kernel
theorem d_B_isPriceOrMarket_0 : decode b_B_isPriceOrMarket 0 = .ok (.iload_n 0, 1) := by decide +kernel
theorem d_B_isPriceOrMarket_1 : decode b_B_isPriceOrMarket 1 = .ok (.ifCond .lt 14, 3) := by decide +kernel
theorem d_B_isPriceOrMarket_4 : decode b_B_isPriceOrMarket 4 = .ok (.iload_n 0, 1) := by decide +kernel
theorem d_B_isPriceOrMarket_5 : decode b_B_isPriceOrMarket 5 = .ok (.sipush 2000, 3) := by decide +kernel
theorem d_B_isPriceOrMarket_8 : decode b_B_isPriceOrMarket 8 = .ok (.if_icmp .gt 7, 3) := by decide +kernel
theorem d_B_isPriceOrMarket_11 : decode b_B_isPriceOrMarket 11 = .ok (.iconst 1, 1) := by decide +kernel
theorem d_B_isPriceOrMarket_12 : decode b_B_isPriceOrMarket 12 = .ok (.goto 4, 3) := by decide +kernel
theorem d_B_isPriceOrMarket_15 : decode b_B_isPriceOrMarket 15 = .ok (.iconst 0, 1) := by decide +kernel
theorem d_B_isPriceOrMarket_16 : decode b_B_isPriceOrMarket 16 = .ok (.ireturn, 1) := by decide +kernel
theorem d_B_isQuantity_0 : decode b_B_isQuantity 0 = .ok (.iload_n 0, 1) := by decide +kernel
theorem d_B_isQuantity_1 : decode b_B_isQuantity 1 = .ok (.iconst 1, 1) := by decide +kernel
theorem d_B_isQuantity_2 : decode b_B_isQuantity 2 = .ok (.if_icmp .lt 13, 3) := by decide +kernel
theorem d_B_isQuantity_5 : decode b_B_isQuantity 5 = .ok (.iload_n 0, 1) := by decide +kernel
theorem d_B_isQuantity_6 : decode b_B_isQuantity 6 = .ok (.ldc 198, 2) := by decide +kernel
theorem d_B_isQuantity_8 : decode b_B_isQuantity 8 = .ok (.if_icmp .gt 7, 3) := by decide +kernel
theorem d_B_isQuantity_11 : decode b_B_isQuantity 11 = .ok (.iconst 1, 1) := by decide +kernel
theorem d_B_isQuantity_12 : decode b_B_isQuantity 12 = .ok (.goto 4, 3) := by decide +kernel
theorem d_B_isQuantity_15 : decode b_B_isQuantity 15 = .ok (.iconst 0, 1) := by decide +kernel
theorem d_B_isQuantity_16 : decode b_B_isQuantity 16 = .ok (.ireturn, 1) := by decide +kernel
theorem d_B_isPeak_0 : decode b_B_isPeak 0 = .ok (.iload_n 0, 1) := by decide +kernel
theorem d_B_isPeak_1 : decode b_B_isPeak 1 = .ok (.ifCond .lt 13, 3) := by decide +kernel
theorem d_B_isPeak_4 : decode b_B_isPeak 4 = .ok (.iload_n 0, 1) := by decide +kernel
theorem d_B_isPeak_5 : decode b_B_isPeak 5 = .ok (.ldc 198, 2) := by decide +kernel
theorem d_B_isPeak_7 : decode b_B_isPeak 7 = .ok (.if_icmp .gt 7, 3) := by decide +kernel
theorem d_B_isPeak_10 : decode b_B_isPeak 10 = .ok (.iconst 1, 1) := by decide +kernel
theorem d_B_isPeak_11 : decode b_B_isPeak 11 = .ok (.goto 4, 3) := by decide +kernel
theorem d_B_isPeak_14 : decode b_B_isPeak 14 = .ok (.iconst 0, 1) := by decide +kernel
theorem d_B_isPeak_15 : decode b_B_isPeak 15 = .ok (.ireturn, 1) := by decide +kernel
theorem d_B_fitsPeak_0 : decode b_B_fitsPeak 0 = .ok (.iload_n 1, 1) := by decide +kernel
theorem d_B_fitsPeak_1 : decode b_B_fitsPeak 1 = .ok (.ifCond .eq 11, 3) := by decide +kernel
theorem d_B_fitsPeak_4 : decode b_B_fitsPeak 4 = .ok (.iload_n 0, 1) := by decide +kernel
theorem d_B_fitsPeak_5 : decode b_B_fitsPeak 5 = .ok (.bipush 50, 2) := by decide +kernel
theorem d_B_fitsPeak_7 : decode b_B_fitsPeak 7 = .ok (.iload_n 1, 1) := by decide +kernel
theorem d_B_fitsPeak_8 : decode b_B_fitsPeak 8 = .ok (.imul, 1) := by decide +kernel
theorem d_B_fitsPeak_9 : decode b_B_fitsPeak 9 = .ok (.if_icmp .gt 7, 3) := by decide +kernel
theorem d_B_fitsPeak_12 : decode b_B_fitsPeak 12 = .ok (.iconst 1, 1) := by decide +kernel
theorem d_B_fitsPeak_13 : decode b_B_fitsPeak 13 = .ok (.goto 4, 3) := by decide +kernel
theorem d_B_fitsPeak_16 : decode b_B_fitsPeak 16 = .ok (.iconst 0, 1) := by decide +kernel
theorem d_B_fitsPeak_17 : decode b_B_fitsPeak 17 = .ok (.ireturn, 1) := by decide +kernel
theorem d_B_isLife_0 : decode b_B_isLife 0 = .ok (.iload_n 0, 1) := by decide +kernel
theorem d_B_isLife_1 : decode b_B_isLife 1 = .ok (.ifCond .lt 12, 3) := by decide +kernel
theorem d_B_isLife_4 : decode b_B_isLife 4 = .ok (.iload_n 0, 1) := by decide +kernel
theorem d_B_isLife_5 : decode b_B_isLife 5 = .ok (.iconst 2, 1) := by decide +kernel
theorem d_B_isLife_6 : decode b_B_isLife 6 = .ok (.if_icmp .gt 7, 3) := by decide +kernel
theorem d_B_isLife_9 : decode b_B_isLife 9 = .ok (.iconst 1, 1) := by decide +kernel
theorem d_B_isLife_10 : decode b_B_isLife 10 = .ok (.goto 4, 3) := by decide +kernel
theorem d_B_isLife_13 : decode b_B_isLife 13 = .ok (.iconst 0, 1) := by decide +kernel
theorem d_B_isLife_14 : decode b_B_isLife 14 = .ok (.ireturn, 1) := by decide +kernel
theorem d_B_come_0 : decode b_B_come 0 = .ok (.aload_n 0, 1) := by decide +kernel
theorem d_B_come_1 : decode b_B_come 1 = .ok (.getfield 40, 3) := by decide +kernel
theorem d_B_come_4 : decode b_B_come 4 = .ok (.iconst 1, 1) := by decide +kernel
theorem d_B_come_5 : decode b_B_come 5 = .ok (.if_icmp .eq 9, 3) := by decide +kernel
theorem d_B_come_8 : decode b_B_come 8 = .ok (.aload_n 0, 1) := by decide +kernel
theorem d_B_come_9 : decode b_B_come 9 = .ok (.aload_n 1, 1) := by decide +kernel
theorem d_B_come_10 : decode b_B_come 10 = .ok (.invokevirtual 205, 3) := by decide +kernel
theorem d_B_come_13 : decode b_B_come 13 = .ok (.return_, 1) := by decide +kernel
theorem d_B_come_14 : decode b_B_come 14 = .ok (.aload_n 1, 1) := by decide +kernel
theorem d_B_come_15 : decode b_B_come 15 = .ok (.getfield 173, 3) := by decide +kernel
theorem d_B_come_18 : decode b_B_come 18 = .ok (.iconst 2, 1) := by decide +kernel
theorem d_B_come_19 : decode b_B_come 19 = .ok (.if_icmp .ne 11, 3) := by decide +kernel
theorem d_B_come_22 : decode b_B_come 22 = .ok (.aload_n 0, 1) := by decide +kernel
theorem d_B_come_23 : decode b_B_come 23 = .ok (.aload_n 1, 1) := by decide +kernel
theorem d_B_come_24 : decode b_B_come 24 = .ok (.invokevirtual 208, 3) := by decide +kernel
theorem d_B_come_27 : decode b_B_come 27 = .ok (.ifCond .eq 8, 3) := by decide +kernel
theorem d_B_come_30 : decode b_B_come 30 = .ok (.aload_n 0, 1) := by decide +kernel
theorem d_B_come_31 : decode b_B_come 31 = .ok (.aload_n 1, 1) := by decide +kernel
theorem d_B_come_32 : decode b_B_come 32 = .ok (.invokevirtual 212, 3) := by decide +kernel
theorem d_B_come_35 : decode b_B_come 35 = .ok (.aload_n 1, 1) := by decide +kernel
theorem d_B_come_36 : decode b_B_come 36 = .ok (.getfield 173, 3) := by decide +kernel
theorem d_B_come_39 : decode b_B_come 39 = .ok (.ifCond .ne 22, 3) := by decide +kernel
theorem d_B_come_42 : decode b_B_come 42 = .ok (.aload_n 1, 1) := by decide +kernel
theorem d_B_come_43 : decode b_B_come 43 = .ok (.getfield 127, 3) := by decide +kernel
theorem d_B_come_46 : decode b_B_come 46 = .ok (.ifCond .ne 11, 3) := by decide +kernel
theorem d_B_come_49 : decode b_B_come 49 = .ok (.aload_n 0, 1) := by decide +kernel
theorem d_B_come_50 : decode b_B_come 50 = .ok (.getfield 40, 3) := by decide +kernel
theorem d_B_come_53 : decode b_B_come 53 = .ok (.iconst 2, 1) := by decide +kernel
theorem d_B_come_54 : decode b_B_come 54 = .ok (.if_icmp .ne 7, 3) := by decide +kernel
theorem d_B_come_57 : decode b_B_come 57 = .ok (.iconst 1, 1) := by decide +kernel
theorem d_B_come_58 : decode b_B_come 58 = .ok (.goto 4, 3) := by decide +kernel
theorem d_B_come_61 : decode b_B_come 61 = .ok (.iconst 0, 1) := by decide +kernel
theorem d_B_come_62 : decode b_B_come 62 = .ok (.istore_n 2, 1) := by decide +kernel
theorem d_B_come_63 : decode b_B_come 63 = .ok (.aload_n 1, 1) := by decide +kernel
theorem d_B_come_64 : decode b_B_come 64 = .ok (.getfield 111, 3) := by decide +kernel
theorem d_B_come_67 : decode b_B_come 67 = .ok (.ifCond .le 15, 3) := by decide +kernel
theorem d_B_come_70 : decode b_B_come 70 = .ok (.iload_n 2, 1) := by decide +kernel
theorem d_B_come_71 : decode b_B_come 71 = .ok (.ifCond .eq 11, 3) := by decide +kernel
theorem d_B_come_74 : decode b_B_come 74 = .ok (.aload_n 0, 1) := by decide +kernel
theorem d_B_come_75 : decode b_B_come 75 = .ok (.aload_n 1, 1) := by decide +kernel
theorem d_B_come_76 : decode b_B_come 76 = .ok (.invokevirtual 205, 3) := by decide +kernel
theorem d_B_come_79 : decode b_B_come 79 = .ok (.goto 8, 3) := by decide +kernel
theorem d_B_come_82 : decode b_B_come 82 = .ok (.aload_n 0, 1) := by decide +kernel
theorem d_B_come_83 : decode b_B_come 83 = .ok (.aload_n 1, 1) := by decide +kernel
theorem d_B_come_84 : decode b_B_come 84 = .ok (.invokevirtual 114, 3) := by decide +kernel
theorem d_B_come_87 : decode b_B_come 87 = .ok (.return_, 1) := by decide +kernel
theorem d_B_rest_0 : decode b_B_rest 0 = .ok (.aload_n 1, 1) := by decide +kernel
theorem d_B_rest_1 : decode b_B_rest 1 = .ok (.aload_n 1, 1) := by decide +kernel
theorem d_B_rest_2 : decode b_B_rest 2 = .ok (.invokevirtual 249, 3) := by decide +kernel
theorem d_B_rest_5 : decode b_B_rest 5 = .ok (.putfield 167, 3) := by decide +kernel
theorem d_B_rest_8 : decode b_B_rest 8 = .ok (.aload_n 0, 1) := by decide +kernel
theorem d_B_rest_9 : decode b_B_rest 9 = .ok (.aload_n 1, 1) := by decide +kernel
theorem d_B_rest_10 : decode b_B_rest 10 = .ok (.getfield 134, 3) := by decide +kernel
theorem d_B_rest_13 : decode b_B_rest 13 = .ok (.invokevirtual 138, 3) := by decide +kernel
theorem d_B_rest_16 : decode b_B_rest 16 = .ok (.aload_n 1, 1) := by decide +kernel
theorem d_B_rest_17 : decode b_B_rest 17 = .ok (.aload_n 0, 1) := by decide +kernel
theorem d_B_rest_18 : decode b_B_rest 18 = .ok (.getfield 50, 3) := by decide +kernel
theorem d_B_rest_21 : decode b_B_rest 21 = .ok (.invokevirtual 252, 3) := by decide +kernel
theorem d_B_rest_24 : decode b_B_rest 24 = .ok (.aload_n 0, 1) := by decide +kernel
theorem d_B_rest_25 : decode b_B_rest 25 = .ok (.dup, 1) := by decide +kernel
theorem d_B_rest_26 : decode b_B_rest 26 = .ok (.getfield 50, 3) := by decide +kernel
theorem d_B_rest_29 : decode b_B_rest 29 = .ok (.iconst 1, 1) := by decide +kernel
theorem d_B_rest_30 : decode b_B_rest 30 = .ok (.iadd, 1) := by decide +kernel
theorem d_B_rest_31 : decode b_B_rest 31 = .ok (.putfield 50, 3) := by decide +kernel
theorem d_B_rest_34 : decode b_B_rest 34 = .ok (.return_, 1) := by decide +kernel
theorem d_B_couldGoWhole_0 : decode b_B_couldGoWhole 0 = .ok (.aload_n 0, 1) := by decide +kernel
theorem d_B_couldGoWhole_1 : decode b_B_couldGoWhole 1 = .ok (.aload_n 1, 1) := by decide +kernel
theorem d_B_couldGoWhole_2 : decode b_B_couldGoWhole 2 = .ok (.getfield 134, 3) := by decide +kernel
theorem d_B_couldGoWhole_5 : decode b_B_couldGoWhole 5 = .ok (.ifCond .ne 7, 3) := by decide +kernel
theorem d_B_couldGoWhole_8 : decode b_B_couldGoWhole 8 = .ok (.iconst 1, 1) := by decide +kernel
theorem d_B_couldGoWhole_9 : decode b_B_couldGoWhole 9 = .ok (.goto 4, 3) := by decide +kernel
theorem d_B_couldGoWhole_12 : decode b_B_couldGoWhole 12 = .ok (.iconst 0, 1) := by decide +kernel
theorem d_B_couldGoWhole_13 : decode b_B_couldGoWhole 13 = .ok (.invokevirtual 138, 3) := by decide +kernel
theorem d_B_couldGoWhole_16 : decode b_B_couldGoWhole 16 = .ok (.getfield 145, 3) := by decide +kernel
theorem d_B_couldGoWhole_19 : decode b_B_couldGoWhole 19 = .ok (.astore_n 2, 1) := by decide +kernel
theorem d_B_couldGoWhole_20 : decode b_B_couldGoWhole 20 = .ok (.lconst 0, 1) := by decide +kernel
theorem d_B_couldGoWhole_21 : decode b_B_couldGoWhole 21 = .ok (.lstore_n 3, 1) := by decide +kernel
theorem d_B_couldGoWhole_22 : decode b_B_couldGoWhole 22 = .ok (.iconst 0, 1) := by decide +kernel
theorem d_B_couldGoWhole_23 : decode b_B_couldGoWhole 23 = .ok (.istore 5, 2) := by decide +kernel
theorem d_B_couldGoWhole_25 : decode b_B_couldGoWhole 25 = .ok (.iload 5, 2) := by decide +kernel
theorem d_B_couldGoWhole_27 : decode b_B_couldGoWhole 27 = .ok (.aload_n 2, 1) := by decide +kernel
theorem d_B_couldGoWhole_28 : decode b_B_couldGoWhole 28 = .ok (.invokevirtual 76, 3) := by decide +kernel
theorem d_B_couldGoWhole_31 : decode b_B_couldGoWhole 31 = .ok (.if_icmp .ge 56, 3) := by decide +kernel
theorem d_B_couldGoWhole_34 : decode b_B_couldGoWhole 34 = .ok (.aload_n 2, 1) := by decide +kernel
theorem d_B_couldGoWhole_35 : decode b_B_couldGoWhole 35 = .ok (.iload 5, 2) := by decide +kernel
theorem d_B_couldGoWhole_37 : decode b_B_couldGoWhole 37 = .ok (.invokevirtual 117, 3) := by decide +kernel
theorem d_B_couldGoWhole_40 : decode b_B_couldGoWhole 40 = .ok (.checkcast 83, 3) := by decide +kernel
theorem d_B_couldGoWhole_43 : decode b_B_couldGoWhole 43 = .ok (.astore 6, 2) := by decide +kernel
theorem d_B_couldGoWhole_45 : decode b_B_couldGoWhole 45 = .ok (.aload_n 1, 1) := by decide +kernel
theorem d_B_couldGoWhole_46 : decode b_B_couldGoWhole 46 = .ok (.aload 6, 2) := by decide +kernel
theorem d_B_couldGoWhole_48 : decode b_B_couldGoWhole 48 = .ok (.getfield 127, 3) := by decide +kernel
theorem d_B_couldGoWhole_51 : decode b_B_couldGoWhole 51 = .ok (.invokevirtual 215, 3) := by decide +kernel
theorem d_B_couldGoWhole_54 : decode b_B_couldGoWhole 54 = .ok (.ifCond .eq 33, 3) := by decide +kernel
theorem d_B_couldGoWhole_57 : decode b_B_couldGoWhole 57 = .ok (.aload_n 0, 1) := by decide +kernel
theorem d_B_couldGoWhole_58 : decode b_B_couldGoWhole 58 = .ok (.aload 6, 2) := by decide +kernel
theorem d_B_couldGoWhole_60 : decode b_B_couldGoWhole 60 = .ok (.getfield 127, 3) := by decide +kernel
theorem d_B_couldGoWhole_63 : decode b_B_couldGoWhole 63 = .ok (.invokevirtual 218, 3) := by decide +kernel
theorem d_B_couldGoWhole_66 : decode b_B_couldGoWhole 66 = .ok (.ifCond .eq 6, 3) := by decide +kernel
theorem d_B_couldGoWhole_69 : decode b_B_couldGoWhole 69 = .ok (.goto 18, 3) := by decide +kernel
theorem d_B_couldGoWhole_72 : decode b_B_couldGoWhole 72 = .ok (.lload_n 3, 1) := by decide +kernel
theorem d_B_couldGoWhole_73 : decode b_B_couldGoWhole 73 = .ok (.aload 6, 2) := by decide +kernel
theorem d_B_couldGoWhole_75 : decode b_B_couldGoWhole 75 = .ok (.getfield 111, 3) := by decide +kernel
theorem d_B_couldGoWhole_78 : decode b_B_couldGoWhole 78 = .ok (.i2l, 1) := by decide +kernel
theorem d_B_couldGoWhole_79 : decode b_B_couldGoWhole 79 = .ok (.ladd, 1) := by decide +kernel
theorem d_B_couldGoWhole_80 : decode b_B_couldGoWhole 80 = .ok (.lstore_n 3, 1) := by decide +kernel
theorem d_B_couldGoWhole_81 : decode b_B_couldGoWhole 81 = .ok (.iinc 5 1, 3) := by decide +kernel
theorem d_B_couldGoWhole_84 : decode b_B_couldGoWhole 84 = .ok (.goto (-59), 3) := by decide +kernel
theorem d_B_couldGoWhole_87 : decode b_B_couldGoWhole 87 = .ok (.lload_n 3, 1) := by decide +kernel
theorem d_B_couldGoWhole_88 : decode b_B_couldGoWhole 88 = .ok (.aload_n 1, 1) := by decide +kernel
theorem d_B_couldGoWhole_89 : decode b_B_couldGoWhole 89 = .ok (.getfield 111, 3) := by decide +kernel
theorem d_B_couldGoWhole_92 : decode b_B_couldGoWhole 92 = .ok (.i2l, 1) := by decide +kernel
theorem d_B_couldGoWhole_93 : decode b_B_couldGoWhole 93 = .ok (.lcmp, 1) := by decide +kernel
theorem d_B_couldGoWhole_94 : decode b_B_couldGoWhole 94 = .ok (.ifCond .lt 7, 3) := by decide +kernel
theorem d_B_couldGoWhole_97 : decode b_B_couldGoWhole 97 = .ok (.iconst 1, 1) := by decide +kernel
theorem d_B_couldGoWhole_98 : decode b_B_couldGoWhole 98 = .ok (.goto 4, 3) := by decide +kernel
theorem d_B_couldGoWhole_101 : decode b_B_couldGoWhole 101 = .ok (.iconst 0, 1) := by decide +kernel
theorem d_B_couldGoWhole_102 : decode b_B_couldGoWhole 102 = .ok (.ireturn, 1) := by decide +kernel
theorem d_B_isBeyondBand_0 : decode b_B_isBeyondBand 0 = .ok (.aload_n 0, 1) := by decide +kernel
theorem d_B_isBeyondBand_1 : decode b_B_isBeyondBand 1 = .ok (.getfield 47, 3) := by decide +kernel
theorem d_B_isBeyondBand_4 : decode b_B_isBeyondBand 4 = .ok (.ifCond .eq 23, 3) := by decide +kernel
theorem d_B_isBeyondBand_7 : decode b_B_isBeyondBand 7 = .ok (.iload_n 1, 1) := by decide +kernel
theorem d_B_isBeyondBand_8 : decode b_B_isBeyondBand 8 = .ok (.aload_n 0, 1) := by decide +kernel
theorem d_B_isBeyondBand_9 : decode b_B_isBeyondBand 9 = .ok (.getfield 44, 3) := by decide +kernel
theorem d_B_isBeyondBand_12 : decode b_B_isBeyondBand 12 = .ok (.isub, 1) := by decide +kernel
theorem d_B_isBeyondBand_13 : decode b_B_isBeyondBand 13 = .ok (.invokestatic 199, 3) := by decide +kernel
theorem d_B_isBeyondBand_16 : decode b_B_isBeyondBand 16 = .ok (.aload_n 0, 1) := by decide +kernel
theorem d_B_isBeyondBand_17 : decode b_B_isBeyondBand 17 = .ok (.getfield 47, 3) := by decide +kernel
theorem d_B_isBeyondBand_20 : decode b_B_isBeyondBand 20 = .ok (.if_icmp .le 7, 3) := by decide +kernel
theorem d_B_isBeyondBand_23 : decode b_B_isBeyondBand 23 = .ok (.iconst 1, 1) := by decide +kernel
theorem d_B_isBeyondBand_24 : decode b_B_isBeyondBand 24 = .ok (.goto 4, 3) := by decide +kernel
theorem d_B_isBeyondBand_27 : decode b_B_isBeyondBand 27 = .ok (.iconst 0, 1) := by decide +kernel
theorem d_B_isBeyondBand_28 : decode b_B_isBeyondBand 28 = .ok (.ireturn, 1) := by decide +kernel
theorem d_B_meet_0 : decode b_B_meet 0 = .ok (.aload_n 0, 1) := by decide +kernel
theorem d_B_meet_1 : decode b_B_meet 1 = .ok (.aload_n 1, 1) := by decide +kernel
theorem d_B_meet_2 : decode b_B_meet 2 = .ok (.getfield 134, 3) := by decide +kernel
theorem d_B_meet_5 : decode b_B_meet 5 = .ok (.ifCond .ne 7, 3) := by decide +kernel
theorem d_B_meet_8 : decode b_B_meet 8 = .ok (.iconst 1, 1) := by decide +kernel
theorem d_B_meet_9 : decode b_B_meet 9 = .ok (.goto 4, 3) := by decide +kernel
theorem d_B_meet_12 : decode b_B_meet 12 = .ok (.iconst 0, 1) := by decide +kernel
theorem d_B_meet_13 : decode b_B_meet 13 = .ok (.invokevirtual 138, 3) := by decide +kernel
theorem d_B_meet_16 : decode b_B_meet 16 = .ok (.astore_n 2, 1) := by decide +kernel
theorem d_B_meet_17 : decode b_B_meet 17 = .ok (.iconst 0, 1) := by decide +kernel
theorem d_B_meet_18 : decode b_B_meet 18 = .ok (.istore_n 3, 1) := by decide +kernel
theorem d_B_meet_19 : decode b_B_meet 19 = .ok (.iload_n 3, 1) := by decide +kernel
theorem d_B_meet_20 : decode b_B_meet 20 = .ok (.ldc 198, 2) := by decide +kernel
theorem d_B_meet_22 : decode b_B_meet 22 = .ok (.if_icmp .ge 65, 3) := by decide +kernel
theorem d_B_meet_25 : decode b_B_meet 25 = .ok (.aload_n 1, 1) := by decide +kernel
theorem d_B_meet_26 : decode b_B_meet 26 = .ok (.getfield 111, 3) := by decide +kernel
theorem d_B_meet_29 : decode b_B_meet 29 = .ok (.ifCond .le 58, 3) := by decide +kernel
theorem d_B_meet_32 : decode b_B_meet 32 = .ok (.aload_n 2, 1) := by decide +kernel
theorem d_B_meet_33 : decode b_B_meet 33 = .ok (.invokevirtual 221, 3) := by decide +kernel
theorem d_B_meet_36 : decode b_B_meet 36 = .ok (.astore 4, 2) := by decide +kernel
theorem d_B_meet_38 : decode b_B_meet 38 = .ok (.aload 4, 2) := by decide +kernel
theorem d_B_meet_40 : decode b_B_meet 40 = .ok (.ifnull 15, 3) := by decide +kernel
theorem d_B_meet_43 : decode b_B_meet 43 = .ok (.aload_n 1, 1) := by decide +kernel
theorem d_B_meet_44 : decode b_B_meet 44 = .ok (.aload 4, 2) := by decide +kernel
theorem d_B_meet_46 : decode b_B_meet 46 = .ok (.getfield 127, 3) := by decide +kernel
theorem d_B_meet_49 : decode b_B_meet 49 = .ok (.invokevirtual 215, 3) := by decide +kernel
theorem d_B_meet_52 : decode b_B_meet 52 = .ok (.ifCond .ne 4, 3) := by decide +kernel
theorem d_B_meet_55 : decode b_B_meet 55 = .ok (.return_, 1) := by decide +kernel
theorem d_B_meet_56 : decode b_B_meet 56 = .ok (.aload_n 0, 1) := by decide +kernel
theorem d_B_meet_57 : decode b_B_meet 57 = .ok (.aload 4, 2) := by decide +kernel
theorem d_B_meet_59 : decode b_B_meet 59 = .ok (.getfield 127, 3) := by decide +kernel
theorem d_B_meet_62 : decode b_B_meet 62 = .ok (.invokevirtual 218, 3) := by decide +kernel
theorem d_B_meet_65 : decode b_B_meet 65 = .ok (.ifCond .eq 9, 3) := by decide +kernel
theorem d_B_meet_68 : decode b_B_meet 68 = .ok (.aload_n 0, 1) := by decide +kernel
theorem d_B_meet_69 : decode b_B_meet 69 = .ok (.iconst 2, 1) := by decide +kernel
theorem d_B_meet_70 : decode b_B_meet 70 = .ok (.putfield 40, 3) := by decide +kernel
theorem d_B_meet_73 : decode b_B_meet 73 = .ok (.return_, 1) := by decide +kernel
theorem d_B_meet_74 : decode b_B_meet 74 = .ok (.aload_n 0, 1) := by decide +kernel
theorem d_B_meet_75 : decode b_B_meet 75 = .ok (.aload_n 1, 1) := by decide +kernel
theorem d_B_meet_76 : decode b_B_meet 76 = .ok (.aload 4, 2) := by decide +kernel
theorem d_B_meet_78 : decode b_B_meet 78 = .ok (.invokevirtual 225, 3) := by decide +kernel
theorem d_B_meet_81 : decode b_B_meet 81 = .ok (.iinc 3 1, 3) := by decide +kernel
theorem d_B_meet_84 : decode b_B_meet 84 = .ok (.goto (-65), 3) := by decide +kernel
theorem d_B_meet_87 : decode b_B_meet 87 = .ok (.return_, 1) := by decide +kernel
theorem d_B_tradeWithShown_0 : decode b_B_tradeWithShown 0 = .ok (.aload_n 1, 1) := by decide +kernel
theorem d_B_tradeWithShown_1 : decode b_B_tradeWithShown 1 = .ok (.getfield 111, 3) := by decide +kernel
theorem d_B_tradeWithShown_4 : decode b_B_tradeWithShown 4 = .ok (.aload_n 2, 1) := by decide +kernel
theorem d_B_tradeWithShown_5 : decode b_B_tradeWithShown 5 = .ok (.getfield 167, 3) := by decide +kernel
theorem d_B_tradeWithShown_8 : decode b_B_tradeWithShown 8 = .ok (.invokestatic 229, 3) := by decide +kernel
theorem d_B_tradeWithShown_11 : decode b_B_tradeWithShown 11 = .ok (.istore_n 3, 1) := by decide +kernel
theorem d_B_tradeWithShown_12 : decode b_B_tradeWithShown 12 = .ok (.aload_n 2, 1) := by decide +kernel
theorem d_B_tradeWithShown_13 : decode b_B_tradeWithShown 13 = .ok (.dup, 1) := by decide +kernel
theorem d_B_tradeWithShown_14 : decode b_B_tradeWithShown 14 = .ok (.getfield 167, 3) := by decide +kernel
theorem d_B_tradeWithShown_17 : decode b_B_tradeWithShown 17 = .ok (.iload_n 3, 1) := by decide +kernel
theorem d_B_tradeWithShown_18 : decode b_B_tradeWithShown 18 = .ok (.isub, 1) := by decide +kernel
theorem d_B_tradeWithShown_19 : decode b_B_tradeWithShown 19 = .ok (.putfield 167, 3) := by decide +kernel
theorem d_B_tradeWithShown_22 : decode b_B_tradeWithShown 22 = .ok (.aload_n 1, 1) := by decide +kernel
theorem d_B_tradeWithShown_23 : decode b_B_tradeWithShown 23 = .ok (.getfield 134, 3) := by decide +kernel
theorem d_B_tradeWithShown_26 : decode b_B_tradeWithShown 26 = .ok (.ifCond .eq 17, 3) := by decide +kernel
theorem d_B_tradeWithShown_29 : decode b_B_tradeWithShown 29 = .ok (.aload_n 0, 1) := by decide +kernel
theorem d_B_tradeWithShown_30 : decode b_B_tradeWithShown 30 = .ok (.aload_n 1, 1) := by decide +kernel
theorem d_B_tradeWithShown_31 : decode b_B_tradeWithShown 31 = .ok (.aload_n 2, 1) := by decide +kernel
theorem d_B_tradeWithShown_32 : decode b_B_tradeWithShown 32 = .ok (.aload_n 2, 1) := by decide +kernel
theorem d_B_tradeWithShown_33 : decode b_B_tradeWithShown 33 = .ok (.getfield 127, 3) := by decide +kernel
theorem d_B_tradeWithShown_36 : decode b_B_tradeWithShown 36 = .ok (.iload_n 3, 1) := by decide +kernel
theorem d_B_tradeWithShown_37 : decode b_B_tradeWithShown 37 = .ok (.invokevirtual 232, 3) := by decide +kernel
theorem d_B_tradeWithShown_40 : decode b_B_tradeWithShown 40 = .ok (.goto 14, 3) := by decide +kernel
theorem d_B_tradeWithShown_43 : decode b_B_tradeWithShown 43 = .ok (.aload_n 0, 1) := by decide +kernel
theorem d_B_tradeWithShown_44 : decode b_B_tradeWithShown 44 = .ok (.aload_n 2, 1) := by decide +kernel
theorem d_B_tradeWithShown_45 : decode b_B_tradeWithShown 45 = .ok (.aload_n 1, 1) := by decide +kernel
theorem d_B_tradeWithShown_46 : decode b_B_tradeWithShown 46 = .ok (.aload_n 2, 1) := by decide +kernel
theorem d_B_tradeWithShown_47 : decode b_B_tradeWithShown 47 = .ok (.getfield 127, 3) := by decide +kernel
theorem d_B_tradeWithShown_50 : decode b_B_tradeWithShown 50 = .ok (.iload_n 3, 1) := by decide +kernel
theorem d_B_tradeWithShown_51 : decode b_B_tradeWithShown 51 = .ok (.invokevirtual 232, 3) := by decide +kernel
theorem d_B_tradeWithShown_54 : decode b_B_tradeWithShown 54 = .ok (.aload_n 2, 1) := by decide +kernel
theorem d_B_tradeWithShown_55 : decode b_B_tradeWithShown 55 = .ok (.getfield 111, 3) := by decide +kernel
theorem d_B_tradeWithShown_58 : decode b_B_tradeWithShown 58 = .ok (.ifCond .ne 11, 3) := by decide +kernel
theorem d_B_tradeWithShown_61 : decode b_B_tradeWithShown 61 = .ok (.aload_n 0, 1) := by decide +kernel
theorem d_B_tradeWithShown_62 : decode b_B_tradeWithShown 62 = .ok (.aload_n 2, 1) := by decide +kernel
theorem d_B_tradeWithShown_63 : decode b_B_tradeWithShown 63 = .ok (.invokevirtual 114, 3) := by decide +kernel
theorem d_B_tradeWithShown_66 : decode b_B_tradeWithShown 66 = .ok (.goto 27, 3) := by decide +kernel
theorem d_B_tradeWithShown_69 : decode b_B_tradeWithShown 69 = .ok (.aload_n 2, 1) := by decide +kernel
theorem d_B_tradeWithShown_70 : decode b_B_tradeWithShown 70 = .ok (.getfield 167, 3) := by decide +kernel
theorem d_B_tradeWithShown_73 : decode b_B_tradeWithShown 73 = .ok (.ifCond .ne 20, 3) := by decide +kernel
theorem d_B_tradeWithShown_76 : decode b_B_tradeWithShown 76 = .ok (.aload_n 0, 1) := by decide +kernel
theorem d_B_tradeWithShown_77 : decode b_B_tradeWithShown 77 = .ok (.aload_n 2, 1) := by decide +kernel
theorem d_B_tradeWithShown_78 : decode b_B_tradeWithShown 78 = .ok (.getfield 134, 3) := by decide +kernel
theorem d_B_tradeWithShown_81 : decode b_B_tradeWithShown 81 = .ok (.invokevirtual 138, 3) := by decide +kernel
theorem d_B_tradeWithShown_84 : decode b_B_tradeWithShown 84 = .ok (.aload_n 2, 1) := by decide +kernel
theorem d_B_tradeWithShown_85 : decode b_B_tradeWithShown 85 = .ok (.invokevirtual 142, 3) := by decide +kernel
theorem d_B_tradeWithShown_88 : decode b_B_tradeWithShown 88 = .ok (.aload_n 0, 1) := by decide +kernel
theorem d_B_tradeWithShown_89 : decode b_B_tradeWithShown 89 = .ok (.aload_n 2, 1) := by decide +kernel
theorem d_B_tradeWithShown_90 : decode b_B_tradeWithShown 90 = .ok (.invokevirtual 205, 3) := by decide +kernel
theorem d_B_tradeWithShown_93 : decode b_B_tradeWithShown 93 = .ok (.return_, 1) := by decide +kernel
theorem d_B_exchange_0 : decode b_B_exchange 0 = .ok (.aload_n 1, 1) := by decide +kernel
theorem d_B_exchange_1 : decode b_B_exchange 1 = .ok (.iload 4, 2) := by decide +kernel
theorem d_B_exchange_3 : decode b_B_exchange 3 = .ok (.invokevirtual 242, 3) := by decide +kernel
theorem d_B_exchange_6 : decode b_B_exchange 6 = .ok (.aload_n 2, 1) := by decide +kernel
theorem d_B_exchange_7 : decode b_B_exchange 7 = .ok (.iload 4, 2) := by decide +kernel
theorem d_B_exchange_9 : decode b_B_exchange 9 = .ok (.invokevirtual 242, 3) := by decide +kernel
theorem d_B_exchange_12 : decode b_B_exchange 12 = .ok (.aload_n 0, 1) := by decide +kernel
theorem d_B_exchange_13 : decode b_B_exchange 13 = .ok (.getfield 29, 3) := by decide +kernel
theorem d_B_exchange_16 : decode b_B_exchange 16 = .ok (.aload_n 1, 1) := by decide +kernel
theorem d_B_exchange_17 : decode b_B_exchange 17 = .ok (.getfield 100, 3) := by decide +kernel
theorem d_B_exchange_20 : decode b_B_exchange 20 = .ok (.aload_n 2, 1) := by decide +kernel
theorem d_B_exchange_21 : decode b_B_exchange 21 = .ok (.getfield 100, 3) := by decide +kernel
theorem d_B_exchange_24 : decode b_B_exchange 24 = .ok (.iload_n 3, 1) := by decide +kernel
theorem d_B_exchange_25 : decode b_B_exchange 25 = .ok (.iload 4, 2) := by decide +kernel
theorem d_B_exchange_27 : decode b_B_exchange 27 = .ok (.invokevirtual 245, 3) := by decide +kernel
theorem d_B_exchange_30 : decode b_B_exchange 30 = .ok (.return_, 1) := by decide +kernel
theorem d_B_finish_0 : decode b_B_finish 0 = .ok (.aload_n 1, 1) := by decide +kernel
theorem d_B_finish_1 : decode b_B_finish 1 = .ok (.invokevirtual 107, 3) := by decide +kernel
theorem d_B_finish_4 : decode b_B_finish 4 = .ok (.ifCond .eq 15, 3) := by decide +kernel
theorem d_B_finish_7 : decode b_B_finish 7 = .ok (.aload_n 0, 1) := by decide +kernel
theorem d_B_finish_8 : decode b_B_finish 8 = .ok (.aload_n 1, 1) := by decide +kernel
theorem d_B_finish_9 : decode b_B_finish 9 = .ok (.getfield 134, 3) := by decide +kernel
theorem d_B_finish_12 : decode b_B_finish 12 = .ok (.invokevirtual 138, 3) := by decide +kernel
theorem d_B_finish_15 : decode b_B_finish 15 = .ok (.aload_n 1, 1) := by decide +kernel
theorem d_B_finish_16 : decode b_B_finish 16 = .ok (.invokevirtual 142, 3) := by decide +kernel
theorem d_B_finish_19 : decode b_B_finish 19 = .ok (.aload_n 1, 1) := by decide +kernel
theorem d_B_finish_20 : decode b_B_finish 20 = .ok (.iconst 0, 1) := by decide +kernel
theorem d_B_finish_21 : decode b_B_finish 21 = .ok (.putfield 111, 3) := by decide +kernel
theorem d_B_finish_24 : decode b_B_finish 24 = .ok (.aload_n 1, 1) := by decide +kernel
theorem d_B_finish_25 : decode b_B_finish 25 = .ok (.iconst 0, 1) := by decide +kernel
theorem d_B_finish_26 : decode b_B_finish 26 = .ok (.putfield 167, 3) := by decide +kernel
theorem d_B_finish_29 : decode b_B_finish 29 = .ok (.return_, 1) := by decide +kernel
theorem d_B_cancel_0 : decode b_B_cancel 0 = .ok (.aload_n 0, 1) := by decide +kernel
theorem d_B_cancel_1 : decode b_B_cancel 1 = .ok (.iload_n 1, 1) := by decide +kernel
theorem d_B_cancel_2 : decode b_B_cancel 2 = .ok (.invokevirtual 103, 3) := by decide +kernel
theorem d_B_cancel_5 : decode b_B_cancel 5 = .ok (.astore_n 2, 1) := by decide +kernel
theorem d_B_cancel_6 : decode b_B_cancel 6 = .ok (.aload_n 2, 1) := by decide +kernel
theorem d_B_cancel_7 : decode b_B_cancel 7 = .ok (.invokevirtual 107, 3) := by decide +kernel
theorem d_B_cancel_10 : decode b_B_cancel 10 = .ok (.ifCond .ne 11, 3) := by decide +kernel
theorem d_B_cancel_13 : decode b_B_cancel 13 = .ok (.new 80, 3) := by decide +kernel
theorem d_B_cancel_16 : decode b_B_cancel 16 = .ok (.dup, 1) := by decide +kernel
theorem d_B_cancel_17 : decode b_B_cancel 17 = .ok (.invokespecial 82, 3) := by decide +kernel
theorem d_B_cancel_20 : decode b_B_cancel 20 = .ok (.athrow, 1) := by decide +kernel
theorem d_B_cancel_21 : decode b_B_cancel 21 = .ok (.aload_n 2, 1) := by decide +kernel
theorem d_B_cancel_22 : decode b_B_cancel 22 = .ok (.getfield 111, 3) := by decide +kernel
theorem d_B_cancel_25 : decode b_B_cancel 25 = .ok (.istore_n 3, 1) := by decide +kernel
theorem d_B_cancel_26 : decode b_B_cancel 26 = .ok (.aload_n 0, 1) := by decide +kernel
theorem d_B_cancel_27 : decode b_B_cancel 27 = .ok (.aload_n 2, 1) := by decide +kernel
theorem d_B_cancel_28 : decode b_B_cancel 28 = .ok (.invokevirtual 114, 3) := by decide +kernel
theorem d_B_cancel_31 : decode b_B_cancel 31 = .ok (.iload_n 3, 1) := by decide +kernel
theorem d_B_cancel_32 : decode b_B_cancel 32 = .ok (.ireturn, 1) := by decide +kernel
theorem d_B_known_0 : decode b_B_known 0 = .ok (.iload_n 1, 1) := by decide +kernel
theorem d_B_known_1 : decode b_B_known 1 = .ok (.ifCond .lt 14, 3) := by decide +kernel
theorem d_B_known_4 : decode b_B_known 4 = .ok (.iload_n 1, 1) := by decide +kernel
theorem d_B_known_5 : decode b_B_known 5 = .ok (.aload_n 0, 1) := by decide +kernel
theorem d_B_known_6 : decode b_B_known 6 = .ok (.getfield 10, 3) := by decide +kernel
theorem d_B_known_9 : decode b_B_known 9 = .ok (.invokevirtual 76, 3) := by decide +kernel
theorem d_B_known_12 : decode b_B_known 12 = .ok (.if_icmp .lt 11, 3) := by decide +kernel
theorem d_B_known_15 : decode b_B_known 15 = .ok (.new 63, 3) := by decide +kernel
theorem d_B_known_18 : decode b_B_known 18 = .ok (.dup, 1) := by decide +kernel
theorem d_B_known_19 : decode b_B_known 19 = .ok (.invokespecial 65, 3) := by decide +kernel
theorem d_B_known_22 : decode b_B_known 22 = .ok (.athrow, 1) := by decide +kernel
theorem d_B_known_23 : decode b_B_known 23 = .ok (.aload_n 0, 1) := by decide +kernel
theorem d_B_known_24 : decode b_B_known 24 = .ok (.getfield 10, 3) := by decide +kernel
theorem d_B_known_27 : decode b_B_known 27 = .ok (.iload_n 1, 1) := by decide +kernel
theorem d_B_known_28 : decode b_B_known 28 = .ok (.invokevirtual 117, 3) := by decide +kernel
theorem d_B_known_31 : decode b_B_known 31 = .ok (.checkcast 83, 3) := by decide +kernel
theorem d_B_known_34 : decode b_B_known 34 = .ok (.areturn, 1) := by decide +kernel
theorem d_B_cancelAll_0 : decode b_B_cancelAll 0 = .ok (.iload_n 1, 1) := by decide +kernel
theorem d_B_cancelAll_1 : decode b_B_cancelAll 1 = .ok (.invokestatic 53, 3) := by decide +kernel
theorem d_B_cancelAll_4 : decode b_B_cancelAll 4 = .ok (.ifCond .ne 11, 3) := by decide +kernel
theorem d_B_cancelAll_7 : decode b_B_cancelAll 7 = .ok (.new 63, 3) := by decide +kernel
theorem d_B_cancelAll_10 : decode b_B_cancelAll 10 = .ok (.dup, 1) := by decide +kernel
theorem d_B_cancelAll_11 : decode b_B_cancelAll 11 = .ok (.invokespecial 65, 3) := by decide +kernel
theorem d_B_cancelAll_14 : decode b_B_cancelAll 14 = .ok (.athrow, 1) := by decide +kernel
theorem d_B_cancelAll_15 : decode b_B_cancelAll 15 = .ok (.iconst 0, 1) := by decide +kernel
theorem d_B_cancelAll_16 : decode b_B_cancelAll 16 = .ok (.istore_n 2, 1) := by decide +kernel
theorem d_B_cancelAll_17 : decode b_B_cancelAll 17 = .ok (.iconst 0, 1) := by decide +kernel
theorem d_B_cancelAll_18 : decode b_B_cancelAll 18 = .ok (.istore_n 3, 1) := by decide +kernel
theorem d_B_cancelAll_19 : decode b_B_cancelAll 19 = .ok (.iload_n 3, 1) := by decide +kernel
theorem d_B_cancelAll_20 : decode b_B_cancelAll 20 = .ok (.aload_n 0, 1) := by decide +kernel
theorem d_B_cancelAll_21 : decode b_B_cancelAll 21 = .ok (.getfield 10, 3) := by decide +kernel
theorem d_B_cancelAll_24 : decode b_B_cancelAll 24 = .ok (.invokevirtual 76, 3) := by decide +kernel
theorem d_B_cancelAll_27 : decode b_B_cancelAll 27 = .ok (.if_icmp .ge 48, 3) := by decide +kernel
theorem d_B_cancelAll_30 : decode b_B_cancelAll 30 = .ok (.aload_n 0, 1) := by decide +kernel
theorem d_B_cancelAll_31 : decode b_B_cancelAll 31 = .ok (.getfield 10, 3) := by decide +kernel
theorem d_B_cancelAll_34 : decode b_B_cancelAll 34 = .ok (.iload_n 3, 1) := by decide +kernel
theorem d_B_cancelAll_35 : decode b_B_cancelAll 35 = .ok (.invokevirtual 117, 3) := by decide +kernel
theorem d_B_cancelAll_38 : decode b_B_cancelAll 38 = .ok (.checkcast 83, 3) := by decide +kernel
theorem d_B_cancelAll_41 : decode b_B_cancelAll 41 = .ok (.astore 4, 2) := by decide +kernel
theorem d_B_cancelAll_43 : decode b_B_cancelAll 43 = .ok (.aload 4, 2) := by decide +kernel
theorem d_B_cancelAll_45 : decode b_B_cancelAll 45 = .ok (.getfield 121, 3) := by decide +kernel
theorem d_B_cancelAll_48 : decode b_B_cancelAll 48 = .ok (.iload_n 1, 1) := by decide +kernel
theorem d_B_cancelAll_49 : decode b_B_cancelAll 49 = .ok (.if_icmp .ne 20, 3) := by decide +kernel
theorem d_B_cancelAll_52 : decode b_B_cancelAll 52 = .ok (.aload 4, 2) := by decide +kernel
theorem d_B_cancelAll_54 : decode b_B_cancelAll 54 = .ok (.invokevirtual 107, 3) := by decide +kernel
theorem d_B_cancelAll_57 : decode b_B_cancelAll 57 = .ok (.ifCond .eq 12, 3) := by decide +kernel
theorem d_B_cancelAll_60 : decode b_B_cancelAll 60 = .ok (.aload_n 0, 1) := by decide +kernel
theorem d_B_cancelAll_61 : decode b_B_cancelAll 61 = .ok (.aload 4, 2) := by decide +kernel
theorem d_B_cancelAll_63 : decode b_B_cancelAll 63 = .ok (.invokevirtual 114, 3) := by decide +kernel
theorem d_B_cancelAll_66 : decode b_B_cancelAll 66 = .ok (.iinc 2 1, 3) := by decide +kernel
theorem d_B_cancelAll_69 : decode b_B_cancelAll 69 = .ok (.iinc 3 1, 3) := by decide +kernel
theorem d_B_cancelAll_72 : decode b_B_cancelAll 72 = .ok (.goto (-53), 3) := by decide +kernel
theorem d_B_cancelAll_75 : decode b_B_cancelAll 75 = .ok (.iload_n 2, 1) := by decide +kernel
theorem d_B_cancelAll_76 : decode b_B_cancelAll 76 = .ok (.ireturn, 1) := by decide +kernel
theorem d_B_amend_0 : decode b_B_amend 0 = .ok (.aload_n 0, 1) := by decide +kernel
theorem d_B_amend_1 : decode b_B_amend 1 = .ok (.iload_n 1, 1) := by decide +kernel
theorem d_B_amend_2 : decode b_B_amend 2 = .ok (.invokevirtual 103, 3) := by decide +kernel
theorem d_B_amend_5 : decode b_B_amend 5 = .ok (.astore 4, 2) := by decide +kernel
theorem d_B_amend_7 : decode b_B_amend 7 = .ok (.iload_n 2, 1) := by decide +kernel
theorem d_B_amend_8 : decode b_B_amend 8 = .ok (.invokestatic 57, 3) := by decide +kernel
theorem d_B_amend_11 : decode b_B_amend 11 = .ok (.ifCond .eq 22, 3) := by decide +kernel
theorem d_B_amend_14 : decode b_B_amend 14 = .ok (.iload_n 3, 1) := by decide +kernel
theorem d_B_amend_15 : decode b_B_amend 15 = .ok (.invokestatic 60, 3) := by decide +kernel
theorem d_B_amend_18 : decode b_B_amend 18 = .ok (.ifCond .eq 15, 3) := by decide +kernel
theorem d_B_amend_21 : decode b_B_amend 21 = .ok (.iload_n 3, 1) := by decide +kernel
theorem d_B_amend_22 : decode b_B_amend 22 = .ok (.aload 4, 2) := by decide +kernel
theorem d_B_amend_24 : decode b_B_amend 24 = .ok (.getfield 124, 3) := by decide +kernel
theorem d_B_amend_27 : decode b_B_amend 27 = .ok (.invokestatic 69, 3) := by decide +kernel
theorem d_B_amend_30 : decode b_B_amend 30 = .ok (.ifCond .ne 11, 3) := by decide +kernel
theorem d_B_amend_33 : decode b_B_amend 33 = .ok (.new 63, 3) := by decide +kernel
theorem d_B_amend_36 : decode b_B_amend 36 = .ok (.dup, 1) := by decide +kernel
theorem d_B_amend_37 : decode b_B_amend 37 = .ok (.invokespecial 65, 3) := by decide +kernel
theorem d_B_amend_40 : decode b_B_amend 40 = .ok (.athrow, 1) := by decide +kernel
theorem d_B_amend_41 : decode b_B_amend 41 = .ok (.aload 4, 2) := by decide +kernel
theorem d_B_amend_43 : decode b_B_amend 43 = .ok (.invokevirtual 107, 3) := by decide +kernel
theorem d_B_amend_46 : decode b_B_amend 46 = .ok (.ifCond .eq 11, 3) := by decide +kernel
theorem d_B_amend_49 : decode b_B_amend 49 = .ok (.aload_n 0, 1) := by decide +kernel
theorem d_B_amend_50 : decode b_B_amend 50 = .ok (.getfield 40, 3) := by decide +kernel
theorem d_B_amend_53 : decode b_B_amend 53 = .ok (.iconst 2, 1) := by decide +kernel
theorem d_B_amend_54 : decode b_B_amend 54 = .ok (.if_icmp .ne 11, 3) := by decide +kernel
theorem d_B_amend_57 : decode b_B_amend 57 = .ok (.new 80, 3) := by decide +kernel
theorem d_B_amend_60 : decode b_B_amend 60 = .ok (.dup, 1) := by decide +kernel
theorem d_B_amend_61 : decode b_B_amend 61 = .ok (.invokespecial 82, 3) := by decide +kernel
theorem d_B_amend_64 : decode b_B_amend 64 = .ok (.athrow, 1) := by decide +kernel
theorem d_B_amend_65 : decode b_B_amend 65 = .ok (.iload_n 2, 1) := by decide +kernel
theorem d_B_amend_66 : decode b_B_amend 66 = .ok (.aload 4, 2) := by decide +kernel
theorem d_B_amend_68 : decode b_B_amend 68 = .ok (.getfield 127, 3) := by decide +kernel
theorem d_B_amend_71 : decode b_B_amend 71 = .ok (.if_icmp .ne 21, 3) := by decide +kernel
theorem d_B_amend_74 : decode b_B_amend 74 = .ok (.iload_n 3, 1) := by decide +kernel
theorem d_B_amend_75 : decode b_B_amend 75 = .ok (.aload 4, 2) := by decide +kernel
theorem d_B_amend_77 : decode b_B_amend 77 = .ok (.getfield 111, 3) := by decide +kernel
theorem d_B_amend_80 : decode b_B_amend 80 = .ok (.if_icmp .gt 12, 3) := by decide +kernel
theorem d_B_amend_83 : decode b_B_amend 83 = .ok (.aload 4, 2) := by decide +kernel
theorem d_B_amend_85 : decode b_B_amend 85 = .ok (.iload_n 3, 1) := by decide +kernel
theorem d_B_amend_86 : decode b_B_amend 86 = .ok (.invokevirtual 130, 3) := by decide +kernel
theorem d_B_amend_89 : decode b_B_amend 89 = .ok (.goto 30, 3) := by decide +kernel
theorem d_B_amend_92 : decode b_B_amend 92 = .ok (.aload_n 0, 1) := by decide +kernel
theorem d_B_amend_93 : decode b_B_amend 93 = .ok (.aload 4, 2) := by decide +kernel
theorem d_B_amend_95 : decode b_B_amend 95 = .ok (.getfield 134, 3) := by decide +kernel
theorem d_B_amend_98 : decode b_B_amend 98 = .ok (.invokevirtual 138, 3) := by decide +kernel
theorem d_B_amend_101 : decode b_B_amend 101 = .ok (.aload 4, 2) := by decide +kernel
theorem d_B_amend_103 : decode b_B_amend 103 = .ok (.invokevirtual 142, 3) := by decide +kernel
theorem d_B_amend_106 : decode b_B_amend 106 = .ok (.aload 4, 2) := by decide +kernel
theorem d_B_amend_108 : decode b_B_amend 108 = .ok (.iload_n 2, 1) := by decide +kernel
theorem d_B_amend_109 : decode b_B_amend 109 = .ok (.iload_n 3, 1) := by decide +kernel
theorem d_B_amend_110 : decode b_B_amend 110 = .ok (.invokevirtual 88, 3) := by decide +kernel
theorem d_B_amend_113 : decode b_B_amend 113 = .ok (.aload_n 0, 1) := by decide +kernel
theorem d_B_amend_114 : decode b_B_amend 114 = .ok (.aload 4, 2) := by decide +kernel
theorem d_B_amend_116 : decode b_B_amend 116 = .ok (.invokevirtual 96, 3) := by decide +kernel
theorem d_B_amend_119 : decode b_B_amend 119 = .ok (.aload 4, 2) := by decide +kernel
theorem d_B_amend_121 : decode b_B_amend 121 = .ok (.invokevirtual 107, 3) := by decide +kernel
theorem d_B_amend_124 : decode b_B_amend 124 = .ok (.ireturn, 1) := by decide +kernel
theorem d_B_open_0 : decode b_B_open 0 = .ok (.aload_n 0, 1) := by decide +kernel
theorem d_B_open_1 : decode b_B_open 1 = .ok (.getfield 40, 3) := by decide +kernel
theorem d_B_open_4 : decode b_B_open 4 = .ok (.iconst 1, 1) := by decide +kernel
theorem d_B_open_5 : decode b_B_open 5 = .ok (.if_icmp .ne 11, 3) := by decide +kernel
theorem d_B_open_8 : decode b_B_open 8 = .ok (.new 80, 3) := by decide +kernel
theorem d_B_open_11 : decode b_B_open 11 = .ok (.dup, 1) := by decide +kernel
theorem d_B_open_12 : decode b_B_open 12 = .ok (.invokespecial 82, 3) := by decide +kernel
theorem d_B_open_15 : decode b_B_open 15 = .ok (.athrow, 1) := by decide +kernel
theorem d_B_open_16 : decode b_B_open 16 = .ok (.aload_n 0, 1) := by decide +kernel
theorem d_B_open_17 : decode b_B_open 17 = .ok (.getfield 36, 3) := by decide +kernel
theorem d_B_open_20 : decode b_B_open 20 = .ok (.aload_n 0, 1) := by decide +kernel
theorem d_B_open_21 : decode b_B_open 21 = .ok (.getfield 19, 3) := by decide +kernel
theorem d_B_open_24 : decode b_B_open 24 = .ok (.getfield 145, 3) := by decide +kernel
theorem d_B_open_27 : decode b_B_open 27 = .ok (.aload_n 0, 1) := by decide +kernel
theorem d_B_open_28 : decode b_B_open 28 = .ok (.getfield 23, 3) := by decide +kernel
theorem d_B_open_31 : decode b_B_open 31 = .ok (.getfield 145, 3) := by decide +kernel
theorem d_B_open_34 : decode b_B_open 34 = .ok (.aload_n 0, 1) := by decide +kernel
theorem d_B_open_35 : decode b_B_open 35 = .ok (.getfield 44, 3) := by decide +kernel
theorem d_B_open_38 : decode b_B_open 38 = .ok (.invokevirtual 148, 3) := by decide +kernel
theorem d_B_open_41 : decode b_B_open 41 = .ok (.aload_n 0, 1) := by decide +kernel
theorem d_B_open_42 : decode b_B_open 42 = .ok (.getfield 36, 3) := by decide +kernel
theorem d_B_open_45 : decode b_B_open 45 = .ok (.getfield 152, 3) := by decide +kernel
theorem d_B_open_48 : decode b_B_open 48 = .ok (.lconst 0, 1) := by decide +kernel
theorem d_B_open_49 : decode b_B_open 49 = .ok (.lcmp, 1) := by decide +kernel
theorem d_B_open_50 : decode b_B_open 50 = .ok (.ifCond .le 32, 3) := by decide +kernel
theorem d_B_open_53 : decode b_B_open 53 = .ok (.aload_n 0, 1) := by decide +kernel
theorem d_B_open_54 : decode b_B_open 54 = .ok (.aload_n 0, 1) := by decide +kernel
theorem d_B_open_55 : decode b_B_open 55 = .ok (.getfield 36, 3) := by decide +kernel
theorem d_B_open_58 : decode b_B_open 58 = .ok (.getfield 156, 3) := by decide +kernel
theorem d_B_open_61 : decode b_B_open 61 = .ok (.aload_n 0, 1) := by decide +kernel
theorem d_B_open_62 : decode b_B_open 62 = .ok (.getfield 36, 3) := by decide +kernel
theorem d_B_open_65 : decode b_B_open 65 = .ok (.getfield 152, 3) := by decide +kernel
theorem d_B_open_68 : decode b_B_open 68 = .ok (.invokevirtual 157, 3) := by decide +kernel
theorem d_B_open_71 : decode b_B_open 71 = .ok (.aload_n 0, 1) := by decide +kernel
theorem d_B_open_72 : decode b_B_open 72 = .ok (.aload_n 0, 1) := by decide +kernel
theorem d_B_open_73 : decode b_B_open 73 = .ok (.getfield 36, 3) := by decide +kernel
theorem d_B_open_76 : decode b_B_open 76 = .ok (.getfield 156, 3) := by decide +kernel
theorem d_B_open_79 : decode b_B_open 79 = .ok (.putfield 44, 3) := by decide +kernel
theorem d_B_open_82 : decode b_B_open 82 = .ok (.iconst 0, 1) := by decide +kernel
theorem d_B_open_83 : decode b_B_open 83 = .ok (.istore_n 1, 1) := by decide +kernel
theorem d_B_open_84 : decode b_B_open 84 = .ok (.iload_n 1, 1) := by decide +kernel
theorem d_B_open_85 : decode b_B_open 85 = .ok (.aload_n 0, 1) := by decide +kernel
theorem d_B_open_86 : decode b_B_open 86 = .ok (.getfield 10, 3) := by decide +kernel
theorem d_B_open_89 : decode b_B_open 89 = .ok (.invokevirtual 76, 3) := by decide +kernel
theorem d_B_open_92 : decode b_B_open 92 = .ok (.if_icmp .ge 24, 3) := by decide +kernel
theorem d_B_open_95 : decode b_B_open 95 = .ok (.aload_n 0, 1) := by decide +kernel
theorem d_B_open_96 : decode b_B_open 96 = .ok (.aload_n 0, 1) := by decide +kernel
theorem d_B_open_97 : decode b_B_open 97 = .ok (.getfield 10, 3) := by decide +kernel
theorem d_B_open_100 : decode b_B_open 100 = .ok (.iload_n 1, 1) := by decide +kernel
theorem d_B_open_101 : decode b_B_open 101 = .ok (.invokevirtual 117, 3) := by decide +kernel
theorem d_B_open_104 : decode b_B_open 104 = .ok (.checkcast 83, 3) := by decide +kernel
theorem d_B_open_107 : decode b_B_open 107 = .ok (.invokevirtual 161, 3) := by decide +kernel
theorem d_B_open_110 : decode b_B_open 110 = .ok (.iinc 1 1, 3) := by decide +kernel
theorem d_B_open_113 : decode b_B_open 113 = .ok (.goto (-29), 3) := by decide +kernel
theorem d_B_open_116 : decode b_B_open 116 = .ok (.aload_n 0, 1) := by decide +kernel
theorem d_B_open_117 : decode b_B_open 117 = .ok (.iconst 1, 1) := by decide +kernel
theorem d_B_open_118 : decode b_B_open 118 = .ok (.putfield 40, 3) := by decide +kernel
theorem d_B_open_121 : decode b_B_open 121 = .ok (.aload_n 0, 1) := by decide +kernel
theorem d_B_open_122 : decode b_B_open 122 = .ok (.getfield 36, 3) := by decide +kernel
theorem d_B_open_125 : decode b_B_open 125 = .ok (.getfield 152, 3) := by decide +kernel
theorem d_B_open_128 : decode b_B_open 128 = .ok (.lreturn, 1) := by decide +kernel
theorem d_B_tradeAtOnePrice_0 : decode b_B_tradeAtOnePrice 0 = .ok (.lload_n 2, 1) := by decide +kernel
theorem d_B_tradeAtOnePrice_1 : decode b_B_tradeAtOnePrice 1 = .ok (.lstore 4, 2) := by decide +kernel
theorem d_B_tradeAtOnePrice_3 : decode b_B_tradeAtOnePrice 3 = .ok (.iconst 0, 1) := by decide +kernel
theorem d_B_tradeAtOnePrice_4 : decode b_B_tradeAtOnePrice 4 = .ok (.istore 6, 2) := by decide +kernel
theorem d_B_tradeAtOnePrice_6 : decode b_B_tradeAtOnePrice 6 = .ok (.iload 6, 2) := by decide +kernel
theorem d_B_tradeAtOnePrice_8 : decode b_B_tradeAtOnePrice 8 = .ok (.sipush 250, 3) := by decide +kernel
theorem d_B_tradeAtOnePrice_11 : decode b_B_tradeAtOnePrice 11 = .ok (.if_icmp .ge 98, 3) := by decide +kernel
theorem d_B_tradeAtOnePrice_14 : decode b_B_tradeAtOnePrice 14 = .ok (.lload 4, 2) := by decide +kernel
theorem d_B_tradeAtOnePrice_16 : decode b_B_tradeAtOnePrice 16 = .ok (.lconst 0, 1) := by decide +kernel
theorem d_B_tradeAtOnePrice_17 : decode b_B_tradeAtOnePrice 17 = .ok (.lcmp, 1) := by decide +kernel
theorem d_B_tradeAtOnePrice_18 : decode b_B_tradeAtOnePrice 18 = .ok (.ifCond .le 91, 3) := by decide +kernel
theorem d_B_tradeAtOnePrice_21 : decode b_B_tradeAtOnePrice 21 = .ok (.aload_n 0, 1) := by decide +kernel
theorem d_B_tradeAtOnePrice_22 : decode b_B_tradeAtOnePrice 22 = .ok (.getfield 19, 3) := by decide +kernel
theorem d_B_tradeAtOnePrice_25 : decode b_B_tradeAtOnePrice 25 = .ok (.invokevirtual 221, 3) := by decide +kernel
theorem d_B_tradeAtOnePrice_28 : decode b_B_tradeAtOnePrice 28 = .ok (.astore 7, 2) := by decide +kernel
theorem d_B_tradeAtOnePrice_30 : decode b_B_tradeAtOnePrice 30 = .ok (.aload_n 0, 1) := by decide +kernel
theorem d_B_tradeAtOnePrice_31 : decode b_B_tradeAtOnePrice 31 = .ok (.getfield 23, 3) := by decide +kernel
theorem d_B_tradeAtOnePrice_34 : decode b_B_tradeAtOnePrice 34 = .ok (.invokevirtual 221, 3) := by decide +kernel
theorem d_B_tradeAtOnePrice_37 : decode b_B_tradeAtOnePrice 37 = .ok (.astore 8, 2) := by decide +kernel
theorem d_B_tradeAtOnePrice_39 : decode b_B_tradeAtOnePrice 39 = .ok (.aload 7, 2) := by decide +kernel
theorem d_B_tradeAtOnePrice_41 : decode b_B_tradeAtOnePrice 41 = .ok (.ifnull 8, 3) := by decide +kernel
theorem d_B_tradeAtOnePrice_44 : decode b_B_tradeAtOnePrice 44 = .ok (.aload 8, 2) := by decide +kernel
theorem d_B_tradeAtOnePrice_46 : decode b_B_tradeAtOnePrice 46 = .ok (.ifnonnull 4, 3) := by decide +kernel
theorem d_B_tradeAtOnePrice_49 : decode b_B_tradeAtOnePrice 49 = .ok (.return_, 1) := by decide +kernel
theorem d_B_tradeAtOnePrice_50 : decode b_B_tradeAtOnePrice 50 = .ok (.lload 4, 2) := by decide +kernel
theorem d_B_tradeAtOnePrice_52 : decode b_B_tradeAtOnePrice 52 = .ok (.aload 7, 2) := by decide +kernel
theorem d_B_tradeAtOnePrice_54 : decode b_B_tradeAtOnePrice 54 = .ok (.getfield 111, 3) := by decide +kernel
theorem d_B_tradeAtOnePrice_57 : decode b_B_tradeAtOnePrice 57 = .ok (.aload 8, 2) := by decide +kernel
theorem d_B_tradeAtOnePrice_59 : decode b_B_tradeAtOnePrice 59 = .ok (.getfield 111, 3) := by decide +kernel
theorem d_B_tradeAtOnePrice_62 : decode b_B_tradeAtOnePrice 62 = .ok (.invokestatic 229, 3) := by decide +kernel
theorem d_B_tradeAtOnePrice_65 : decode b_B_tradeAtOnePrice 65 = .ok (.i2l, 1) := by decide +kernel
theorem d_B_tradeAtOnePrice_66 : decode b_B_tradeAtOnePrice 66 = .ok (.invokestatic 236, 3) := by decide +kernel
theorem d_B_tradeAtOnePrice_69 : decode b_B_tradeAtOnePrice 69 = .ok (.l2i, 1) := by decide +kernel
theorem d_B_tradeAtOnePrice_70 : decode b_B_tradeAtOnePrice 70 = .ok (.istore 9, 2) := by decide +kernel
theorem d_B_tradeAtOnePrice_72 : decode b_B_tradeAtOnePrice 72 = .ok (.aload_n 0, 1) := by decide +kernel
theorem d_B_tradeAtOnePrice_73 : decode b_B_tradeAtOnePrice 73 = .ok (.aload 7, 2) := by decide +kernel
theorem d_B_tradeAtOnePrice_75 : decode b_B_tradeAtOnePrice 75 = .ok (.aload 8, 2) := by decide +kernel
theorem d_B_tradeAtOnePrice_77 : decode b_B_tradeAtOnePrice 77 = .ok (.iload_n 1, 1) := by decide +kernel
theorem d_B_tradeAtOnePrice_78 : decode b_B_tradeAtOnePrice 78 = .ok (.iload 9, 2) := by decide +kernel
theorem d_B_tradeAtOnePrice_80 : decode b_B_tradeAtOnePrice 80 = .ok (.invokevirtual 232, 3) := by decide +kernel
theorem d_B_tradeAtOnePrice_83 : decode b_B_tradeAtOnePrice 83 = .ok (.aload_n 0, 1) := by decide +kernel
theorem d_B_tradeAtOnePrice_84 : decode b_B_tradeAtOnePrice 84 = .ok (.aload 7, 2) := by decide +kernel
theorem d_B_tradeAtOnePrice_86 : decode b_B_tradeAtOnePrice 86 = .ok (.invokevirtual 239, 3) := by decide +kernel
theorem d_B_tradeAtOnePrice_89 : decode b_B_tradeAtOnePrice 89 = .ok (.aload_n 0, 1) := by decide +kernel
theorem d_B_tradeAtOnePrice_90 : decode b_B_tradeAtOnePrice 90 = .ok (.aload 8, 2) := by decide +kernel
theorem d_B_tradeAtOnePrice_92 : decode b_B_tradeAtOnePrice 92 = .ok (.invokevirtual 239, 3) := by decide +kernel
theorem d_B_tradeAtOnePrice_95 : decode b_B_tradeAtOnePrice 95 = .ok (.lload 4, 2) := by decide +kernel
theorem d_B_tradeAtOnePrice_97 : decode b_B_tradeAtOnePrice 97 = .ok (.iload 9, 2) := by decide +kernel
theorem d_B_tradeAtOnePrice_99 : decode b_B_tradeAtOnePrice 99 = .ok (.i2l, 1) := by decide +kernel
theorem d_B_tradeAtOnePrice_100 : decode b_B_tradeAtOnePrice 100 = .ok (.lsub, 1) := by decide +kernel
theorem d_B_tradeAtOnePrice_101 : decode b_B_tradeAtOnePrice 101 = .ok (.lstore 4, 2) := by decide +kernel
theorem d_B_tradeAtOnePrice_103 : decode b_B_tradeAtOnePrice 103 = .ok (.iinc 6 1, 3) := by decide +kernel
theorem d_B_tradeAtOnePrice_106 : decode b_B_tradeAtOnePrice 106 = .ok (.goto (-100), 3) := by decide +kernel
theorem d_B_tradeAtOnePrice_109 : decode b_B_tradeAtOnePrice 109 = .ok (.return_, 1) := by decide +kernel
theorem d_B_finishIfNothingLeft_0 : decode b_B_finishIfNothingLeft 0 = .ok (.aload_n 1, 1) := by decide +kernel
theorem d_B_finishIfNothingLeft_1 : decode b_B_finishIfNothingLeft 1 = .ok (.getfield 111, 3) := by decide +kernel
theorem d_B_finishIfNothingLeft_4 : decode b_B_finishIfNothingLeft 4 = .ok (.ifCond .ne 8, 3) := by decide +kernel
theorem d_B_finishIfNothingLeft_7 : decode b_B_finishIfNothingLeft 7 = .ok (.aload_n 0, 1) := by decide +kernel
theorem d_B_finishIfNothingLeft_8 : decode b_B_finishIfNothingLeft 8 = .ok (.aload_n 1, 1) := by decide +kernel
theorem d_B_finishIfNothingLeft_9 : decode b_B_finishIfNothingLeft 9 = .ok (.invokevirtual 114, 3) := by decide +kernel
theorem d_B_finishIfNothingLeft_12 : decode b_B_finishIfNothingLeft 12 = .ok (.return_, 1) := by decide +kernel
theorem d_B_startGoingOn_0 : decode b_B_startGoingOn 0 = .ok (.aload_n 1, 1) := by decide +kernel
theorem d_B_startGoingOn_1 : decode b_B_startGoingOn 1 = .ok (.invokevirtual 107, 3) := by decide +kernel
theorem d_B_startGoingOn_4 : decode b_B_startGoingOn 4 = .ok (.ifCond .ne 4, 3) := by decide +kernel
theorem d_B_startGoingOn_7 : decode b_B_startGoingOn 7 = .ok (.return_, 1) := by decide +kernel
theorem d_B_startGoingOn_8 : decode b_B_startGoingOn 8 = .ok (.aload_n 1, 1) := by decide +kernel
theorem d_B_startGoingOn_9 : decode b_B_startGoingOn 9 = .ok (.getfield 127, 3) := by decide +kernel
theorem d_B_startGoingOn_12 : decode b_B_startGoingOn 12 = .ok (.ifCond .ne 11, 3) := by decide +kernel
theorem d_B_startGoingOn_15 : decode b_B_startGoingOn 15 = .ok (.aload_n 0, 1) := by decide +kernel
theorem d_B_startGoingOn_16 : decode b_B_startGoingOn 16 = .ok (.aload_n 1, 1) := by decide +kernel
theorem d_B_startGoingOn_17 : decode b_B_startGoingOn 17 = .ok (.invokevirtual 114, 3) := by decide +kernel
theorem d_B_startGoingOn_20 : decode b_B_startGoingOn 20 = .ok (.goto 11, 3) := by decide +kernel
theorem d_B_startGoingOn_23 : decode b_B_startGoingOn 23 = .ok (.aload_n 1, 1) := by decide +kernel
theorem d_B_startGoingOn_24 : decode b_B_startGoingOn 24 = .ok (.aload_n 1, 1) := by decide +kernel
theorem d_B_startGoingOn_25 : decode b_B_startGoingOn 25 = .ok (.invokevirtual 249, 3) := by decide +kernel
theorem d_B_startGoingOn_28 : decode b_B_startGoingOn 28 = .ok (.putfield 167, 3) := by decide +kernel
theorem d_B_startGoingOn_31 : decode b_B_startGoingOn 31 = .ok (.return_, 1) := by decide +kernel
theorem d_B_band_0 : decode b_B_band 0 = .ok (.iload_n 1, 1) := by decide +kernel
theorem d_B_band_1 : decode b_B_band 1 = .ok (.iconst 1, 1) := by decide +kernel
theorem d_B_band_2 : decode b_B_band 2 = .ok (.if_icmp .lt 21, 3) := by decide +kernel
theorem d_B_band_5 : decode b_B_band 5 = .ok (.iload_n 1, 1) := by decide +kernel
theorem d_B_band_6 : decode b_B_band 6 = .ok (.sipush 2000, 3) := by decide +kernel
theorem d_B_band_9 : decode b_B_band 9 = .ok (.if_icmp .gt 14, 3) := by decide +kernel
theorem d_B_band_12 : decode b_B_band 12 = .ok (.iload_n 2, 1) := by decide +kernel
theorem d_B_band_13 : decode b_B_band 13 = .ok (.ifCond .lt 10, 3) := by decide +kernel
theorem d_B_band_16 : decode b_B_band 16 = .ok (.iload_n 2, 1) := by decide +kernel
theorem d_B_band_17 : decode b_B_band 17 = .ok (.sipush 2000, 3) := by decide +kernel
theorem d_B_band_20 : decode b_B_band 20 = .ok (.if_icmp .le 11, 3) := by decide +kernel
theorem d_B_band_23 : decode b_B_band 23 = .ok (.new 63, 3) := by decide +kernel
theorem d_B_band_26 : decode b_B_band 26 = .ok (.dup, 1) := by decide +kernel
theorem d_B_band_27 : decode b_B_band 27 = .ok (.invokespecial 65, 3) := by decide +kernel
theorem d_B_band_30 : decode b_B_band 30 = .ok (.athrow, 1) := by decide +kernel
theorem d_B_band_31 : decode b_B_band 31 = .ok (.aload_n 0, 1) := by decide +kernel
theorem d_B_band_32 : decode b_B_band 32 = .ok (.getfield 44, 3) := by decide +kernel
theorem d_B_band_35 : decode b_B_band 35 = .ok (.istore_n 3, 1) := by decide +kernel
theorem d_B_band_36 : decode b_B_band 36 = .ok (.aload_n 0, 1) := by decide +kernel
theorem d_B_band_37 : decode b_B_band 37 = .ok (.iload_n 1, 1) := by decide +kernel
theorem d_B_band_38 : decode b_B_band 38 = .ok (.putfield 44, 3) := by decide +kernel
theorem d_B_band_41 : decode b_B_band 41 = .ok (.aload_n 0, 1) := by decide +kernel
theorem d_B_band_42 : decode b_B_band 42 = .ok (.iload_n 2, 1) := by decide +kernel
theorem d_B_band_43 : decode b_B_band 43 = .ok (.putfield 47, 3) := by decide +kernel
theorem d_B_band_46 : decode b_B_band 46 = .ok (.iload_n 3, 1) := by decide +kernel
theorem d_B_band_47 : decode b_B_band 47 = .ok (.ireturn, 1) := by decide +kernel
theorem d_B_clearing_0 : decode b_B_clearing 0 = .ok (.iload_n 1, 1) := by decide +kernel
theorem d_B_clearing_1 : decode b_B_clearing 1 = .ok (.ifCond .lt 8, 3) := by decide +kernel
theorem d_B_clearing_4 : decode b_B_clearing 4 = .ok (.iload_n 1, 1) := by decide +kernel
theorem d_B_clearing_5 : decode b_B_clearing 5 = .ok (.iconst 2, 1) := by decide +kernel
theorem d_B_clearing_6 : decode b_B_clearing 6 = .ok (.if_icmp .le 11, 3) := by decide +kernel
theorem d_B_clearing_9 : decode b_B_clearing 9 = .ok (.new 63, 3) := by decide +kernel
theorem d_B_clearing_12 : decode b_B_clearing 12 = .ok (.dup, 1) := by decide +kernel
theorem d_B_clearing_13 : decode b_B_clearing 13 = .ok (.invokespecial 65, 3) := by decide +kernel
theorem d_B_clearing_16 : decode b_B_clearing 16 = .ok (.athrow, 1) := by decide +kernel
theorem d_B_clearing_17 : decode b_B_clearing 17 = .ok (.aload_n 0, 1) := by decide +kernel
theorem d_B_clearing_18 : decode b_B_clearing 18 = .ok (.getfield 36, 3) := by decide +kernel
theorem d_B_clearing_21 : decode b_B_clearing 21 = .ok (.aload_n 0, 1) := by decide +kernel
theorem d_B_clearing_22 : decode b_B_clearing 22 = .ok (.getfield 19, 3) := by decide +kernel
theorem d_B_clearing_25 : decode b_B_clearing 25 = .ok (.getfield 145, 3) := by decide +kernel
theorem d_B_clearing_28 : decode b_B_clearing 28 = .ok (.aload_n 0, 1) := by decide +kernel
theorem d_B_clearing_29 : decode b_B_clearing 29 = .ok (.getfield 23, 3) := by decide +kernel
theorem d_B_clearing_32 : decode b_B_clearing 32 = .ok (.getfield 145, 3) := by decide +kernel
theorem d_B_clearing_35 : decode b_B_clearing 35 = .ok (.aload_n 0, 1) := by decide +kernel
theorem d_B_clearing_36 : decode b_B_clearing 36 = .ok (.getfield 44, 3) := by decide +kernel
theorem d_B_clearing_39 : decode b_B_clearing 39 = .ok (.invokevirtual 148, 3) := by decide +kernel
theorem d_B_clearing_42 : decode b_B_clearing 42 = .ok (.iload_n 1, 1) := by decide +kernel
theorem d_B_clearing_43 : decode b_B_clearing 43 = .ok (.ifCond .ne 12, 3) := by decide +kernel
theorem d_B_clearing_46 : decode b_B_clearing 46 = .ok (.aload_n 0, 1) := by decide +kernel
theorem d_B_clearing_47 : decode b_B_clearing 47 = .ok (.getfield 36, 3) := by decide +kernel
theorem d_B_clearing_50 : decode b_B_clearing 50 = .ok (.getfield 156, 3) := by decide +kernel
theorem d_B_clearing_53 : decode b_B_clearing 53 = .ok (.i2l, 1) := by decide +kernel
theorem d_B_clearing_54 : decode b_B_clearing 54 = .ok (.lreturn, 1) := by decide +kernel
theorem d_B_clearing_55 : decode b_B_clearing 55 = .ok (.iload_n 1, 1) := by decide +kernel
theorem d_B_clearing_56 : decode b_B_clearing 56 = .ok (.iconst 1, 1) := by decide +kernel
theorem d_B_clearing_57 : decode b_B_clearing 57 = .ok (.if_icmp .ne 13, 3) := by decide +kernel
theorem d_B_clearing_60 : decode b_B_clearing 60 = .ok (.aload_n 0, 1) := by decide +kernel
theorem d_B_clearing_61 : decode b_B_clearing 61 = .ok (.getfield 36, 3) := by decide +kernel
theorem d_B_clearing_64 : decode b_B_clearing 64 = .ok (.getfield 152, 3) := by decide +kernel
theorem d_B_clearing_67 : decode b_B_clearing 67 = .ok (.goto 10, 3) := by decide +kernel
theorem d_B_clearing_70 : decode b_B_clearing 70 = .ok (.aload_n 0, 1) := by decide +kernel
theorem d_B_clearing_71 : decode b_B_clearing 71 = .ok (.getfield 36, 3) := by decide +kernel
theorem d_B_clearing_74 : decode b_B_clearing 74 = .ok (.getfield 164, 3) := by decide +kernel
theorem d_B_clearing_77 : decode b_B_clearing 77 = .ok (.lreturn, 1) := by decide +kernel
theorem d_B_order_0 : decode b_B_order 0 = .ok (.aload_n 0, 1) := by decide +kernel
theorem d_B_order_1 : decode b_B_order 1 = .ok (.iload_n 1, 1) := by decide +kernel
theorem d_B_order_2 : decode b_B_order 2 = .ok (.invokevirtual 103, 3) := by decide +kernel
theorem d_B_order_5 : decode b_B_order 5 = .ok (.astore_n 3, 1) := by decide +kernel
theorem d_B_order_6 : decode b_B_order 6 = .ok (.iload_n 2, 1) := by decide +kernel
theorem d_B_order_7 : decode b_B_order 7 = .ok (.tableswitch 102 0 8 #[49, 54, 67, 72, 77, 82, 87, 92, 97], 49) := by decide +kernel
theorem d_B_order_56 : decode b_B_order 56 = .ok (.aload_n 3, 1) := by decide +kernel
theorem d_B_order_57 : decode b_B_order 57 = .ok (.getfield 121, 3) := by decide +kernel
theorem d_B_order_60 : decode b_B_order 60 = .ok (.ireturn, 1) := by decide +kernel
theorem d_B_order_61 : decode b_B_order 61 = .ok (.aload_n 3, 1) := by decide +kernel
theorem d_B_order_62 : decode b_B_order 62 = .ok (.getfield 134, 3) := by decide +kernel
theorem d_B_order_65 : decode b_B_order 65 = .ok (.ifCond .eq 7, 3) := by decide +kernel
theorem d_B_order_68 : decode b_B_order 68 = .ok (.iconst 1, 1) := by decide +kernel
theorem d_B_order_69 : decode b_B_order 69 = .ok (.goto 4, 3) := by decide +kernel
theorem d_B_order_72 : decode b_B_order 72 = .ok (.iconst 0, 1) := by decide +kernel
theorem d_B_order_73 : decode b_B_order 73 = .ok (.ireturn, 1) := by decide +kernel
theorem d_B_order_74 : decode b_B_order 74 = .ok (.aload_n 3, 1) := by decide +kernel
theorem d_B_order_75 : decode b_B_order 75 = .ok (.getfield 127, 3) := by decide +kernel
theorem d_B_order_78 : decode b_B_order 78 = .ok (.ireturn, 1) := by decide +kernel
theorem d_B_order_79 : decode b_B_order 79 = .ok (.aload_n 3, 1) := by decide +kernel
theorem d_B_order_80 : decode b_B_order 80 = .ok (.getfield 111, 3) := by decide +kernel
theorem d_B_order_83 : decode b_B_order 83 = .ok (.ireturn, 1) := by decide +kernel
theorem d_B_order_84 : decode b_B_order 84 = .ok (.aload_n 3, 1) := by decide +kernel
theorem d_B_order_85 : decode b_B_order 85 = .ok (.getfield 167, 3) := by decide +kernel
theorem d_B_order_88 : decode b_B_order 88 = .ok (.ireturn, 1) := by decide +kernel
theorem d_B_order_89 : decode b_B_order 89 = .ok (.aload_n 3, 1) := by decide +kernel
theorem d_B_order_90 : decode b_B_order 90 = .ok (.getfield 170, 3) := by decide +kernel
theorem d_B_order_93 : decode b_B_order 93 = .ok (.ireturn, 1) := by decide +kernel
theorem d_B_order_94 : decode b_B_order 94 = .ok (.aload_n 3, 1) := by decide +kernel
theorem d_B_order_95 : decode b_B_order 95 = .ok (.getfield 173, 3) := by decide +kernel
theorem d_B_order_98 : decode b_B_order 98 = .ok (.ireturn, 1) := by decide +kernel
theorem d_B_order_99 : decode b_B_order 99 = .ok (.aload_n 3, 1) := by decide +kernel
theorem d_B_order_100 : decode b_B_order 100 = .ok (.getfield 176, 3) := by decide +kernel
theorem d_B_order_103 : decode b_B_order 103 = .ok (.ireturn, 1) := by decide +kernel
theorem d_B_order_104 : decode b_B_order 104 = .ok (.aload_n 3, 1) := by decide +kernel
theorem d_B_order_105 : decode b_B_order 105 = .ok (.getfield 124, 3) := by decide +kernel
theorem d_B_order_108 : decode b_B_order 108 = .ok (.ireturn, 1) := by decide +kernel
theorem d_B_order_109 : decode b_B_order 109 = .ok (.new 63, 3) := by decide +kernel
theorem d_B_order_112 : decode b_B_order 112 = .ok (.dup, 1) := by decide +kernel
theorem d_B_order_113 : decode b_B_order 113 = .ok (.invokespecial 65, 3) := by decide +kernel
theorem d_B_order_116 : decode b_B_order 116 = .ok (.athrow, 1) := by decide +kernel
theorem d_B_depth_0 : decode b_B_depth 0 = .ok (.iload_n 2, 1) := by decide +kernel
theorem d_B_depth_1 : decode b_B_depth 1 = .ok (.invokestatic 57, 3) := by decide +kernel
theorem d_B_depth_4 : decode b_B_depth 4 = .ok (.ifCond .ne 11, 3) := by decide +kernel
theorem d_B_depth_7 : decode b_B_depth 7 = .ok (.new 63, 3) := by decide +kernel
theorem d_B_depth_10 : decode b_B_depth 10 = .ok (.dup, 1) := by decide +kernel
theorem d_B_depth_11 : decode b_B_depth 11 = .ok (.invokespecial 65, 3) := by decide +kernel
theorem d_B_depth_14 : decode b_B_depth 14 = .ok (.athrow, 1) := by decide +kernel
theorem d_B_depth_15 : decode b_B_depth 15 = .ok (.aload_n 0, 1) := by decide +kernel
theorem d_B_depth_16 : decode b_B_depth 16 = .ok (.iload_n 1, 1) := by decide +kernel
theorem d_B_depth_17 : decode b_B_depth 17 = .ok (.invokevirtual 138, 3) := by decide +kernel
theorem d_B_depth_20 : decode b_B_depth 20 = .ok (.getfield 145, 3) := by decide +kernel
theorem d_B_depth_23 : decode b_B_depth 23 = .ok (.astore 4, 2) := by decide +kernel
theorem d_B_depth_25 : decode b_B_depth 25 = .ok (.lconst 0, 1) := by decide +kernel
theorem d_B_depth_26 : decode b_B_depth 26 = .ok (.lstore 5, 2) := by decide +kernel
theorem d_B_depth_28 : decode b_B_depth 28 = .ok (.iconst 0, 1) := by decide +kernel
theorem d_B_depth_29 : decode b_B_depth 29 = .ok (.istore 7, 2) := by decide +kernel
theorem d_B_depth_31 : decode b_B_depth 31 = .ok (.iload 7, 2) := by decide +kernel
theorem d_B_depth_33 : decode b_B_depth 33 = .ok (.aload 4, 2) := by decide +kernel
theorem d_B_depth_35 : decode b_B_depth 35 = .ok (.invokevirtual 76, 3) := by decide +kernel
theorem d_B_depth_38 : decode b_B_depth 38 = .ok (.if_icmp .ge 54, 3) := by decide +kernel
theorem d_B_depth_41 : decode b_B_depth 41 = .ok (.aload 4, 2) := by decide +kernel
theorem d_B_depth_43 : decode b_B_depth 43 = .ok (.iload 7, 2) := by decide +kernel
theorem d_B_depth_45 : decode b_B_depth 45 = .ok (.invokevirtual 117, 3) := by decide +kernel
theorem d_B_depth_48 : decode b_B_depth 48 = .ok (.checkcast 83, 3) := by decide +kernel
theorem d_B_depth_51 : decode b_B_depth 51 = .ok (.astore 8, 2) := by decide +kernel
theorem d_B_depth_53 : decode b_B_depth 53 = .ok (.aload 8, 2) := by decide +kernel
theorem d_B_depth_55 : decode b_B_depth 55 = .ok (.getfield 127, 3) := by decide +kernel
theorem d_B_depth_58 : decode b_B_depth 58 = .ok (.iload_n 2, 1) := by decide +kernel
theorem d_B_depth_59 : decode b_B_depth 59 = .ok (.if_icmp .ne 27, 3) := by decide +kernel
theorem d_B_depth_62 : decode b_B_depth 62 = .ok (.lload 5, 2) := by decide +kernel
theorem d_B_depth_64 : decode b_B_depth 64 = .ok (.iload_n 3, 1) := by decide +kernel
theorem d_B_depth_65 : decode b_B_depth 65 = .ok (.ifCond .eq 12, 3) := by decide +kernel
theorem d_B_depth_68 : decode b_B_depth 68 = .ok (.aload 8, 2) := by decide +kernel
theorem d_B_depth_70 : decode b_B_depth 70 = .ok (.getfield 111, 3) := by decide +kernel
theorem d_B_depth_73 : decode b_B_depth 73 = .ok (.i2l, 1) := by decide +kernel
theorem d_B_depth_74 : decode b_B_depth 74 = .ok (.goto 9, 3) := by decide +kernel
theorem d_B_depth_77 : decode b_B_depth 77 = .ok (.aload 8, 2) := by decide +kernel
theorem d_B_depth_79 : decode b_B_depth 79 = .ok (.getfield 167, 3) := by decide +kernel
theorem d_B_depth_82 : decode b_B_depth 82 = .ok (.i2l, 1) := by decide +kernel
theorem d_B_depth_83 : decode b_B_depth 83 = .ok (.ladd, 1) := by decide +kernel
theorem d_B_depth_84 : decode b_B_depth 84 = .ok (.lstore 5, 2) := by decide +kernel
theorem d_B_depth_86 : decode b_B_depth 86 = .ok (.iinc 7 1, 3) := by decide +kernel
theorem d_B_depth_89 : decode b_B_depth 89 = .ok (.goto (-58), 3) := by decide +kernel
theorem d_B_depth_92 : decode b_B_depth 92 = .ok (.lload 5, 2) := by decide +kernel
theorem d_B_depth_94 : decode b_B_depth 94 = .ok (.lreturn, 1) := by decide +kernel
end
section
/-! CallBook$TradeLog, CallBook$Trade, CallBook$Auction: made, and a trade kept -/
set_option maxHeartbeats 4000000 in
set_option maxRecDepth 100000 in
theorem c_G_init (l : Launch) (γ : mG) (M : mMap) (a : Nat) (ha : M a = some (.inr (5, [.null, .long 0]))) : Met l y_G_init w_G_init ({ frames := 4, cells := 1, slots := 3, locals := 80 } : Room) (mPc γ M [.ref a]) (mQv γ (fun M' => ∃ q, M q = none ∧ gz γ ≤ q ∧ M' = mU (mU M q (.inr (0, [.int 0, .ref (ge γ), .int 0]))) a (.inr (5, [.ref q, .long 0])))) 1 3 (mA (gz γ)) := by
  refine m_enter (by decide) (Nat.le_of_ble_eq_true rfl) ?_
  intro p e s m below meth c ls S hr hlk hnm hl hw
  have hl : lv_has ls 1 [(0, .ref a)] := hl
  refine lv_aload_n S.1 S.2.1 d_G_init_0 rfl (lv_at hl 0 rfl) ?_
  refine W.objInit S.1 S.2.1 S.2.2.2.1 (S.2.2.2.2 _ (gc g114)) (S.2.2.2.2 _ (gc g68)) (S.2.2.2.2 _ (gc g69)) rfl (by rw [S.2.2.1]; exact hl.1) rfl d_G_init_1 (Nat.le_of_ble_eq_true rfl) (Nat.le_of_ble_eq_true rfl) ?_
  refine W.eq (g2 := F0 m 4 ls []) rfl ?_
  refine lv_aload_n S.1 S.2.1 d_G_init_4 rfl (lv_at hl 0 rfl) ?_
  refine m_new (fs := [.int 0, .null, .int 0]) S hw cl_AL g115 g71 g44 (fun j hj => by rcases (show j = 0 ∨ j = 1 ∨ j = 2 by omega) with rfl | rfl | rfl <;> rfl) (Nat.le_of_ble_eq_true rfl) (Nat.le_of_ble_eq_true rfl) d_G_init_5 (fun q H hq hzq hw => ?_)
  refine lv_dup S.1 S.2.1 d_G_init_8 rfl ?_
  refine m_cv hw (va_runI (As := []) (rest := [.ref q, .ref a]) S (c_AL_init l γ (mU M q (.inr (0, [.int 0, .null, .int 0]))) q 0 0 .null (mU_eq _ _ _)) (m_cwI 0 S g116 g73 g44 g74 rfl rfl rfl ⟨by decide +kernel, by decide +kernel, by decide +kernel⟩ ⟨(Nat.le_of_ble_eq_true rfl), (Nat.le_of_ble_eq_true rfl)⟩) hw.preS rfl rfl hl.1 rfl (lv_room (Nat.le_of_ble_eq_true rfl)) d_G_init_9 ⟨(Nat.le_of_ble_eq_true rfl), (Nat.le_of_ble_eq_true rfl)⟩) (fun M1 H locs hp hw => ?_)
  rw [hp] at hw
  rw [mU_uu] at hw
  refine m_putF S hw cl_G (mU_to (m_fne ha hq) ha) 0 (by decide) g117 (fun _ h => h) rfl hnm rfl rfl rfl (Nat.le_of_ble_eq_true rfl) d_G_init_12 (fun H locs hw => ?_)
  have hw : mW γ (mU (mU M q (.inr (0, [.int 0, .ref (ge γ), .int 0]))) a (.inr (5, [.ref q, .long 0]))) s H locs := hw
  exact m_vret S hlk hr hw (⟨q, hq, hzq, rfl⟩) (Nat.le_refl _) (Nat.le_refl _) d_G_init_15
set_option maxHeartbeats 4000000 in
set_option maxRecDepth 100000 in
theorem c_A_init (l : Launch) (γ : mG) (M : mMap) (a : Nat) : Met l y_A_init w_A_init ({ frames := 1, cells := 0, slots := 0, locals := 20 } : Room) (mPc γ M [.ref a]) (mQv γ (fun M' => M' = M)) 0 0 (mA (gz γ)) := by
  refine m_enter (by decide) (Nat.le_of_ble_eq_true rfl) ?_
  intro p e s m below meth c ls S hr hlk hnm hl hw
  have hl : lv_has ls 1 [(0, .ref a)] := hl
  refine lv_aload_n S.1 S.2.1 d_A_init_0 rfl (lv_at hl 0 rfl) ?_
  refine W.objInit S.1 S.2.1 S.2.2.2.1 (S.2.2.2.2 _ (gc g131)) (S.2.2.2.2 _ (gc g68)) (S.2.2.2.2 _ (gc g69)) rfl (by rw [S.2.2.1]; exact hl.1) rfl d_A_init_1 (Nat.le_of_ble_eq_true rfl) (Nat.le_of_ble_eq_true rfl) ?_
  refine W.eq (g2 := F0 m 4 ls []) rfl ?_
  exact m_vret S hlk hr hw rfl (Nat.le_refl _) (Nat.le_refl _) d_A_init_4
set_option maxHeartbeats 4000000 in
set_option maxRecDepth 100000 in
theorem c_R_init (l : Launch) (γ : mG) (M : mMap) (a : Nat) (ha : M a = some (.inr (4, [.int 0, .int 0, .int 0, .int 0]))) (b0 s0 p0 q0 : Int32) : Met l y_R_init w_R_init ({ frames := 1, cells := 0, slots := 0, locals := 20 } : Room) (mPc γ M [.ref a, .int b0, .int s0, .int p0, .int q0]) (mQv γ (fun M' => M' = mU M a (.inr (4, [.int b0, .int s0, .int p0, .int q0])))) 0 0 (mA (gz γ)) := by
  refine m_enter (by decide) (Nat.le_of_ble_eq_true rfl) ?_
  intro p e s m below meth c ls S hr hlk hnm hl hw
  have hl : lv_has ls 5 [(0, .ref a), (1, .int b0), (2, .int s0), (3, .int p0), (4, .int q0)] := hl
  refine lv_aload_n S.1 S.2.1 d_R_init_0 rfl (lv_at hl 0 rfl) ?_
  refine W.objInit S.1 S.2.1 S.2.2.2.1 (S.2.2.2.2 _ (gc g544)) (S.2.2.2.2 _ (gc g68)) (S.2.2.2.2 _ (gc g69)) rfl (by rw [S.2.2.1]; exact hl.1) rfl d_R_init_1 (Nat.le_of_ble_eq_true rfl) (Nat.le_of_ble_eq_true rfl) ?_
  refine W.eq (g2 := F0 m 4 ls []) rfl ?_
  refine lv_aload_n S.1 S.2.1 d_R_init_4 rfl (lv_at hl 0 rfl) ?_
  refine lv_iload_n S.1 S.2.1 d_R_init_5 rfl (lv_at hl 1 rfl) ?_
  refine m_putF S hw cl_R ha 0 (by decide) g545 (fun _ h => h) rfl hnm rfl rfl rfl (Nat.le_of_ble_eq_true rfl) d_R_init_6 (fun H locs hw => ?_)
  have hw : mW γ (mU M a (.inr (4, [.int b0, .int 0, .int 0, .int 0]))) s H locs := hw
  refine lv_aload_n S.1 S.2.1 d_R_init_9 rfl (lv_at hl 0 rfl) ?_
  refine lv_iload_n S.1 S.2.1 d_R_init_10 rfl (lv_at hl 2 rfl) ?_
  refine m_putF S hw cl_R (mU_eq _ _ _) 1 (by decide) g547 (fun _ h => h) rfl hnm rfl rfl rfl (Nat.le_of_ble_eq_true rfl) d_R_init_11 (fun H locs hw => ?_)
  have hw : mW γ (mU (mU M a (.inr (4, [.int b0, .int 0, .int 0, .int 0]))) a (.inr (4, [.int b0, .int s0, .int 0, .int 0]))) s H locs := hw
  refine lv_aload_n S.1 S.2.1 d_R_init_14 rfl (lv_at hl 0 rfl) ?_
  refine lv_iload_n S.1 S.2.1 d_R_init_15 rfl (lv_at hl 3 rfl) ?_
  refine m_putF S hw cl_R (mU_eq _ _ _) 2 (by decide) g549 (fun _ h => h) rfl hnm rfl rfl rfl (Nat.le_of_ble_eq_true rfl) d_R_init_16 (fun H locs hw => ?_)
  have hw : mW γ (mU (mU (mU M a (.inr (4, [.int b0, .int 0, .int 0, .int 0]))) a (.inr (4, [.int b0, .int s0, .int 0, .int 0]))) a (.inr (4, [.int b0, .int s0, .int p0, .int 0]))) s H locs := hw
  refine lv_aload_n S.1 S.2.1 d_R_init_19 rfl (lv_at hl 0 rfl) ?_
  refine lv_iload S.1 S.2.1 d_R_init_20 (lv_at hl 4 rfl) ?_
  refine m_putF S hw cl_R (mU_eq _ _ _) 3 (by decide) g551 (fun _ h => h) rfl hnm rfl rfl rfl (Nat.le_of_ble_eq_true rfl) d_R_init_22 (fun H locs hw => ?_)
  have hw : mW γ (mU (mU (mU (mU M a (.inr (4, [.int b0, .int 0, .int 0, .int 0]))) a (.inr (4, [.int b0, .int s0, .int 0, .int 0]))) a (.inr (4, [.int b0, .int s0, .int p0, .int 0]))) a (.inr (4, [.int b0, .int s0, .int p0, .int q0]))) s H locs := hw
  exact m_vret S hlk hr hw (by rw [mU_uu, mU_uu, mU_uu]) (Nat.le_refl _) (Nat.le_refl _) d_R_init_25
theorem mEl.set4 {M : mMap} {g : Nat} {xs : List Nat} {fs0 : List Value} {e : va_E} (h : mEl M 4 xs) (hg : M g = some (.inr (5, fs0))) : mEl (mU M g e) 4 xs := by
  refine ⟨h.1, fun y hy => ?_⟩
  obtain ⟨fs, hfs⟩ := h.2 y hy
  exact ⟨fs, mU_to (m_kind hfs hg (fun z => by cases z)) hfs⟩
set_option maxHeartbeats 4000000 in
set_option maxRecDepth 100000 in
theorem c_G_keep (l : Launch) (γ : mG) (M : mMap) (g0 l0 r0 cap : Nat) (tt : Int64) (xs : List Nat) (hs : M g0 = some (.inr (5, [.ref l0, .long tt]))) (hA : AL γ M l0 r0 cap xs) (hE : mEl M 4 xs) (hlen : xs.length < 30000) (b0 s0 p0 q0 : Int32) : Met l y_G_keep w_G_keep ({ frames := 7, cells := 1 + gN cap xs.length, slots := 4 + sN cap xs.length, locals := 179 } : Room) (mPc γ M [.ref g0, .int b0, .int s0, .int p0, .int q0]) (mQv γ (fun M' => ∃ q r', M q = none ∧ gz γ ≤ q ∧ AL γ M' l0 r' (cN cap xs.length) (xs ++ [q]) ∧ alF (mU (mU M g0 (.inr (5, [.ref l0, .long (tt + q0.toInt64)]))) q (.inr (4, [.int b0, .int s0, .int p0, .int q0]))) M' l0 r0 r')) (1 + gN cap xs.length) (4 + sN cap xs.length) (mA (gz γ)) := by
  refine m_enter (by decide) (Nat.le_of_ble_eq_true rfl) ?_
  intro p e s m below meth c ls S hr hlk hnm hl hw
  have hl : lv_has ls 5 [(0, .ref g0), (1, .int b0), (2, .int s0), (3, .int p0), (4, .int q0)] := hl
  refine lv_aload_n S.1 S.2.1 d_G_keep_0 rfl (lv_at hl 0 rfl) ?_
  refine lv_dup S.1 S.2.1 d_G_keep_1 rfl ?_
  refine m_get S hw cl_G hs 1 (by decide) g119 (fun _ h => h) rfl d_G_keep_2 ?_
  refine lv_iload S.1 S.2.1 d_G_keep_5 (lv_at hl 4 rfl) ?_
  refine lv_i2l S.1 S.2.1 d_G_keep_7 rfl ?_
  refine lv_ladd S.1 S.2.1 d_G_keep_8 ?_
  refine m_put S hw cl_G hs 1 (by decide) g119 (fun _ h => h) rfl rfl rfl (Nat.le_of_ble_eq_true rfl) d_G_keep_9 (fun H locs hw => ?_)
  have hw : mW γ (mU M g0 (.inr (5, [.ref l0, .long (tt + q0.toInt64)]))) s H locs := hw
  have hA0 : AL γ (mU M g0 (.inr (5, [.ref l0, .long (tt + q0.toInt64)]))) l0 r0 cap xs := hA.setO hs (by decide)
  obtain ⟨⟨md, hl0⟩, -⟩ := id hA0
  refine lv_aload_n S.1 S.2.1 d_G_keep_12 rfl (lv_at hl 0 rfl) ?_
  refine m_get S hw cl_G (mU_eq _ _ _) 0 (by decide) g117 (fun _ h => h) rfl d_G_keep_13 ?_
  refine m_ci hw (va_runV (As := []) (rest := []) S (c_AL_size l γ (mU M g0 (.inr (5, [.ref l0, .long (tt + q0.toInt64)]))) l0 md _ _ hl0) (m_cwV 0 S g212 g186 g187 g44 g188 rfl rfl ⟨by decide +kernel, by decide +kernel, by decide +kernel⟩ ⟨(Nat.le_of_ble_eq_true rfl), (Nat.le_of_ble_eq_true rfl)⟩) (hw.preV hl0 cl_AL.1) rfl rfl hl.1 rfl (lv_room (Nat.le_of_ble_eq_true rfl)) d_G_keep_16 ⟨(Nat.zero_le _), (Nat.zero_le _)⟩) (fun r1 M1 H locs hp hw => ?_)
  obtain ⟨rfl, hM1⟩ := hp
  rw [hM1] at hw
  refine lv_ldc S.1 S.2.1 S.2.2.2.1 (S.2.2.2.2 _ (gc g539)) d_G_keep_19 ?_
  refine lv_icmp_ge (tgt := 44) S.1 S.2.1 d_G_keep_21 rfl (fun h => absurd h (show ¬ nI 32768 ≤ nI xs.length from nI_ge (by omega) (by decide))) (fun _ => ?_)
  refine lv_aload_n S.1 S.2.1 d_G_keep_24 rfl (lv_at hl 0 rfl) ?_
  refine m_get S hw cl_G (mU_eq _ _ _) 0 (by decide) g117 (fun _ h => h) rfl d_G_keep_25 ?_
  refine m_new (fs := [.int 0, .int 0, .int 0, .int 0]) S hw cl_R g214 g540 g61 (fun j hj => by rcases (show j = 0 ∨ j = 1 ∨ j = 2 ∨ j = 3 by omega) with rfl | rfl | rfl | rfl <;> rfl) (by show 0 + 1 ≤ 1 + gN cap xs.length; omega) (by show 0 + 4 ≤ 4 + sN cap xs.length; omega) d_G_keep_28 (fun q H hq hzq hw => ?_)
  refine lv_dup S.1 S.2.1 d_G_keep_31 rfl ?_
  refine lv_iload_n S.1 S.2.1 d_G_keep_32 rfl (lv_at hl 1 rfl) ?_
  refine lv_iload_n S.1 S.2.1 d_G_keep_33 rfl (lv_at hl 2 rfl) ?_
  refine lv_iload_n S.1 S.2.1 d_G_keep_34 rfl (lv_at hl 3 rfl) ?_
  refine lv_iload S.1 S.2.1 d_G_keep_35 (lv_at hl 4 rfl) ?_
  refine m_cv hw (va_runI (As := [.int b0, .int s0, .int p0, .int q0]) (rest := [.ref q, .ref l0]) S (c_R_init l γ (mU (mU M g0 (.inr (5, [.ref l0, .long (tt + q0.toInt64)]))) q (.inr (4, [.int 0, .int 0, .int 0, .int 0]))) q (mU_eq _ _ _) b0 s0 p0 q0) (m_cwI 4 S g541 g542 g61 g543 rfl rfl rfl ⟨by decide +kernel, by decide +kernel, by decide +kernel⟩ ⟨(Nat.le_of_ble_eq_true rfl), (Nat.le_of_ble_eq_true rfl)⟩) hw.preS rfl rfl hl.1 rfl (lv_room (Nat.le_of_ble_eq_true rfl)) d_G_keep_37 ⟨(by show 0 + 1 + 0 ≤ 1 + gN cap xs.length; omega), (by show 0 + 4 + 0 ≤ 4 + sN cap xs.length; omega)⟩) (fun M1 H locs hp hw => ?_)
  rw [hp] at hw
  rw [mU_uu] at hw
  have hA1 : AL γ (mU (mU M g0 (.inr (5, [.ref l0, .long (tt + q0.toInt64)]))) q (.inr (4, [.int b0, .int s0, .int p0, .int q0]))) l0 r0 cap xs := hA0.keep (mU_ne (m_fne hl0 hq)) (fun hc => by obtain ⟨f, hf⟩ := hA0.arr hc; exact mU_ne (m_fne hf hq))
  have hE1 : mEl (mU (mU M g0 (.inr (5, [.ref l0, .long (tt + q0.toInt64)]))) q (.inr (4, [.int b0, .int s0, .int p0, .int q0]))) 4 (q :: xs) := ⟨Or.inr rfl, fun x hx => (List.mem_cons.mp hx).elim (fun e => by subst e; exact ⟨_, mU_eq _ _ _⟩) (fun e => ((hE.set4 hs).new hq).2 x e)⟩
  refine m_ci hw (va_runV (As := [.ref q]) (rest := []) S (cc_add l γ (mU (mU M g0 (.inr (5, [.ref l0, .long (tt + q0.toInt64)]))) q (.inr (4, [.int b0, .int s0, .int p0, .int q0]))) l0 r0 cap xs hA1 q 4 hE1 (by omega)) (m_cwV 1 S g562 g432 g433 g44 g434 rfl rfl ⟨by decide +kernel, by decide +kernel, by decide +kernel⟩ ⟨(Nat.le_of_ble_eq_true rfl), (Nat.le_of_ble_eq_true rfl)⟩) (hw.preV (mU_to (m_fne hl0 hq) hl0) cl_AL.1) rfl rfl hl.1 rfl (lv_room (Nat.le_of_ble_eq_true rfl)) d_G_keep_40 ⟨(by show 0 + 1 + 0 + gN cap xs.length ≤ 1 + gN cap xs.length; omega), (by show 0 + 4 + 0 + sN cap xs.length ≤ 4 + sN cap xs.length; omega)⟩) (fun r1 M1 H locs hp hw => ?_)
  obtain ⟨rfl, r9, hA2, hF2⟩ := hp
  refine lv_pop S.1 S.2.1 d_G_keep_43 rfl ?_
  exact m_vret S hlk hr hw (⟨q, r9, (mU_q0 hq).2, hzq, hA2, hF2⟩) (by show 0 + 1 + 0 + gN cap xs.length ≤ 1 + gN cap xs.length; omega) (by show 0 + 4 + 0 + sN cap xs.length ≤ 4 + sN cap xs.length; omega) d_G_keep_44
end
section
/-! The class's state: a book's cells hold the numbers σ -/
abbrev St : Type := (Nat × Co) × (Int32 × Int32 × Int32 × Int32) × (Nat × Co × Int64)
abbrev sn (σ : St) : Nat := σ.1.1
abbrev sI (σ : St) : Co := σ.1.2
abbrev sph (σ : St) : Int32 := σ.2.1.1
abbrev srf (σ : St) : Int32 := σ.2.1.2.1
abbrev sbd (σ : St) : Int32 := σ.2.1.2.2.1
abbrev srk (σ : St) : Int32 := σ.2.1.2.2.2
abbrev stn (σ : St) : Nat := σ.2.2.1
abbrev sT (σ : St) : Co := σ.2.2.2.1
abbrev sal (σ : St) : Int64 := σ.2.2.2.2
/-- where the book's fixed cells lie: the book, its lists, its sides, its log, its auction -/
abbrev BK : Type := Nat × (Nat → Nat) × (Nat → Nat) × Nat × Nat
abbrev bx (β : BK) : Nat := β.1
abbrev bal (β : BK) : Nat → Nat := β.2.1
abbrev bsd (β : BK) : Nat → Nat := β.2.2.1
abbrev btl (β : BK) : Nat := β.2.2.2.1
abbrev bau (β : BK) : Nat := β.2.2.2.2
def bkc (β : BK) (p : Int32 × Int32 × Int32 × Int32) : List Value := [.ref (bal β 0), .ref (bsd β 1), .ref (bsd β 2), .ref (btl β), .ref (bau β), .int p.1, .int p.2.1, .int p.2.2.1, .int p.2.2.2]
def lx (oa ta : Nat → Nat) (n tn : Nat) (L : Nat → List Nat) : Nat → List Nat := fun j => if j = 0 then (List.range n).map oa else if j = 3 then (List.range tn).map ta else (L j).map oa
def CB (γ : mG) (M : mMap) (β : BK) (oa cp : Nat → Nat) (L : Nat → List Nat) (σ : St) : Prop := ∃ (ar ta : Nat → Nat) (ap : Int32) (av az : Int64), M (bx β) = some (.inr (6, bkc β σ.2.1)) ∧ (M (bsd β 1) = some (.inr (3, [.ref (bal β 1)])) ∧ M (bsd β 2) = some (.inr (3, [.ref (bal β 2)]))) ∧ M (btl β) = some (.inr (5, [.ref (bal β 3), .long (sal σ)])) ∧ M (bau β) = some (.inr (1, [.int ap, .long av, .long az])) ∧ OR M oa (sI σ) (sn σ) ∧ TR M ta (sT σ) (stn σ) ∧ FL4 γ M (bal β) ar cp (lx oa ta (sn σ) (stn σ) L)
section CBS
variable {γ : mG} {M M' : mMap} {β : BK} {oa cp : Nat → Nat} {L : Nat → List Nat} {σ : St}
theorem CB.ord (h : CB γ M β oa cp L σ) : OR M oa (sI σ) (sn σ) := by
  obtain ⟨ar, ta, ap, av, az, h1, h2, h3, h4, h5, h6, h7⟩ := h
  exact h5
theorem CB.book (h : CB γ M β oa cp L σ) : M (bx β) = some (.inr (6, bkc β σ.2.1)) := by
  obtain ⟨ar, ta, ap, av, az, h1, -⟩ := h
  exact h1
theorem CB.side (h : CB γ M β oa cp L σ) {j : Nat} (hj : j = 1 ∨ j = 2) : M (bsd β j) = some (.inr (3, [.ref (bal β j)])) := by
  obtain ⟨ar, ta, ap, av, az, h1, h2, -⟩ := h
  rcases hj with e | e
  · rw [e]; exact h2.1
  · rw [e]; exact h2.2
theorem CB.log (h : CB γ M β oa cp L σ) : M (btl β) = some (.inr (5, [.ref (bal β 3), .long (sal σ)])) := by
  obtain ⟨ar, ta, ap, av, az, h1, h2, h3, -⟩ := h
  exact h3
theorem lx_j {ta : Nat → Nat} {n tn j : Nat} (hj : j = 1 ∨ j = 2) : lx oa ta n tn L j = (L j).map oa := by
  unfold lx
  rw [if_neg (by omega), if_neg (by omega)]
theorem CB.list (h : CB γ M β oa cp L σ) {j : Nat} (hj : j = 1 ∨ j = 2) : ∃ r, AL γ M (bal β j) r (cp j) ((L j).map oa) := by
  obtain ⟨ar, ta, ap, av, az, h1, h2, h3, h4, h5, h6, h7⟩ := h
  have := h7.1 j (by omega)
  rw [lx_j hj] at this
  exact ⟨_, this⟩
/-- an order's columns are written -/
theorem CB.setO (h : CB γ M β oa cp L σ) (hn : sn σ ≤ 250) {o : Nat} (ho : o < sn σ) {J : Co} (hJ : ∀ f x, x ≠ o → J f x = sI σ f x) {e : va_E} (he : e = .inr (2, oc J o)) : CB γ (mU M (oa o) e) β oa cp L ((sn σ, J), σ.2) ∧ frC M (mU M (oa o) e) := by
  obtain ⟨ar, ta, ap, av, az, h1, h2, h3, h4, h5, h6, h7⟩ := h
  have ho' := h5 o ho
  exact ⟨⟨ar, ta, ap, av, az, mU_to (m_kind h1 ho' (fun z => by cases z)) h1, ⟨mU_to (m_kind h2.1 ho' (fun z => by cases z)) h2.1, mU_to (m_kind h2.2 ho' (fun z => by cases z)) h2.2⟩, mU_to (m_kind h3 ho' (fun z => by cases z)) h3, mU_to (m_kind h4 ho' (fun z => by cases z)) h4, h5.set hn ho hJ he, fun i hi => mU_to (m_kind (h6 i hi) ho' (fun z => by cases z)) (h6 i hi), h7.setO ho' (by decide)⟩, frC.setO ho' (by decide)⟩
/-- the book's own numbers are written -/
theorem CB.setB (h : CB γ M β oa cp L σ) {p : Int32 × Int32 × Int32 × Int32} {e : va_E} (he : e = .inr (6, bkc β p)) : CB γ (mU M (bx β) e) β oa cp L (σ.1, p, σ.2.2) ∧ frC M (mU M (bx β) e) := by
  obtain ⟨ar, ta, ap, av, az, h1, h2, h3, h4, h5, h6, h7⟩ := h
  subst he
  exact ⟨⟨ar, ta, ap, av, az, mU_eq _ _ _, ⟨mU_to (m_kind h2.1 h1 (fun z => by cases z)) h2.1, mU_to (m_kind h2.2 h1 (fun z => by cases z)) h2.2⟩, mU_to (m_kind h3 h1 (fun z => by cases z)) h3, mU_to (m_kind h4 h1 (fun z => by cases z)) h4, fun i hi => mU_to (m_kind (h5 i hi) h1 (fun z => by cases z)) (h5 i hi), fun i hi => mU_to (m_kind (h6 i hi) h1 (fun z => by cases z)) (h6 i hi), h7.setO h1 (by decide)⟩, frC.setO h1 (by decide)⟩
/-- a side's line changes -/
theorem CB.line (h : CB γ M β oa cp L σ) (hg : M (ge γ) = none) {j r r' c' : Nat} (hj : j = 1 ∨ j = 2) {K : List Nat} (hA0 : AL γ M (bal β j) r (cp j) ((L j).map oa)) (hA : AL γ M' (bal β j) r' c' (K.map oa)) (hF : alF M M' (bal β j) r r') : CB γ M' β oa (va_up cp j c') (fun k => if k = j then K else L k) σ ∧ frC M M' := by
  obtain ⟨ar, ta, ap, av, az, h1, h2, h3, h4, h5, h6, h7⟩ := h
  have hr : r = ar j := by
    have hA1 := h7.1 j (by omega)
    obtain ⟨⟨md, e1⟩, -⟩ := hA0
    obtain ⟨⟨md', e2⟩, -⟩ := hA1
    rw [e1] at e2
    have := congrArg (fun z => match z with | some (.inr (_, [_, .ref v, _])) => v | _ => 0) e2
    exact this
  subst hr
  have hAj := h7.1 j (by omega)
  have hS := h7.step hg (by omega) hF hA
  refine ⟨⟨va_up ar j r', ta, ap, av, az, hF.keepO hAj hg h1 (by decide), ⟨hF.keepO hAj hg h2.1 (by decide), hF.keepO hAj hg h2.2 (by decide)⟩, hF.keepO hAj hg h3 (by decide), hF.keepO hAj hg h4 (by decide), fun i hi => hF.keepO hAj hg (h5 i hi) (by decide), fun i hi => hF.keepO hAj hg (h6 i hi) (by decide), ?_⟩, frC.al hF hAj hg⟩
  have e : (fun k => if k = j then K.map oa else lx oa ta (sn σ) (stn σ) L k) = lx oa ta (sn σ) (stn σ) (fun k => if k = j then K else L k) := by
    funext k
    unfold lx
    by_cases z : k = j
    · rw [if_pos z, if_neg (by omega), if_neg (by omega)]
      show K.map oa = (if k = j then K else L k).map oa
      rw [if_pos z]
    · rw [if_neg z]
      show _ = if k = 0 then _ else if k = 3 then _ else (if k = j then K else L k).map oa
      rw [if_neg z]
  rw [e] at hS
  exact hS
/-- a trade is kept -/
theorem CB.trade (h : CB γ M β oa cp L σ) (hg : M (ge γ) = none) : ∃ (r : Nat) (xs : List Nat), AL γ M (bal β 3) r (cp 3) xs ∧ mEl M 4 xs ∧ xs.length = stn σ ∧ ∀ (q r' : Nat) (b0 s0 p0 q0 : Int32) (M' : mMap) (T' : Co), M q = none → q ≠ ge γ → (∀ k i, k < 4 → i < stn σ → T' k i = sT σ k i) → T' 0 (stn σ) = b0 → T' 1 (stn σ) = s0 → T' 2 (stn σ) = p0 → T' 3 (stn σ) = q0 → AL γ M' (bal β 3) r' (cN (cp 3) xs.length) (xs ++ [q]) → alF (mU (mU M (btl β) (.inr (5, [.ref (bal β 3), .long (sal σ + q0.toInt64)]))) q (.inr (4, [.int b0, .int s0, .int p0, .int q0]))) M' (bal β 3) r r' →
    CB γ M' β oa (va_up cp 3 (cN (cp 3) (stn σ))) L (σ.1, σ.2.1, stn σ + 1, T', sal σ + q0.toInt64) ∧ frC M M' := by
  obtain ⟨ar, ta, ap, av, az, h1, h2, h3, h4, h5, h6, h7⟩ := h
  have hA3 := h7.1 3 (by omega)
  have e3 : lx oa ta (sn σ) (stn σ) L 3 = (List.range (stn σ)).map ta := by unfold lx; rw [if_neg (by omega), if_pos rfl]
  have hel : mEl M 4 ((List.range (stn σ)).map ta) := by
    refine ⟨Or.inr rfl, fun x hx => ?_⟩
    obtain ⟨i, hi, rfl⟩ := List.mem_map.mp hx
    exact ⟨_, h6 i (List.mem_range.mp hi)⟩
  rw [e3] at hA3
  refine ⟨ar 3, _, hA3, hel, by rw [List.length_map, List.length_range], ?_⟩
  intro q r' b0 s0 p0 q0 M' T' hq hqe hT t0 t1 t2 t3 hA hF
  have hlen : ((List.range (stn σ)).map ta).length = stn σ := by rw [List.length_map, List.length_range]
  have hqt : q ≠ btl β := (m_fne h3 hq).symm
  have hq1 : (mU M (btl β) (.inr (5, [.ref (bal β 3), .long (sal σ + q0.toInt64)]))) q = none := (mU_ne hqt).trans hq
  have hS1 : FL4 γ (mU (mU M (btl β) (.inr (5, [.ref (bal β 3), .long (sal σ + q0.toInt64)]))) q (.inr (4, [.int b0, .int s0, .int p0, .int q0]))) (bal β) ar cp (lx oa ta (sn σ) (stn σ) L) := (h7.setO h3 (by decide)).new hq1
  have hg1 : (mU (mU M (btl β) (.inr (5, [.ref (bal β 3), .long (sal σ + q0.toInt64)]))) q (.inr (4, [.int b0, .int s0, .int p0, .int q0]))) (ge γ) = none := by
    rw [mU_ne hqe.symm, mU_ne (fun z => by rw [z, h3] at hg; cases hg)]
    exact hg
  have hA31 := hS1.1 3 (by omega)
  have up : ∀ (b ci : Nat) (fs : List Value), ci ≠ 0 → ci ≠ 5 → M b = some (.inr (ci, fs)) → M' b = some (.inr (ci, fs)) := fun b ci fs hc0 hc5 hb =>
    hF.keepO hA31 hg1 (mU_to (m_fne hb hq) (mU_to (m_kind hb h3 (fun z => by cases z; exact hc5 rfl)) hb)) hc0
  have hS := hS1.step hg1 (j := 3) (by omega) hF hA
  rw [hlen] at hS
  have el : (fun k => if k = 3 then (List.range (stn σ)).map ta ++ [q] else lx oa ta (sn σ) (stn σ) L k) = lx oa (va_up ta (stn σ) q) (sn σ) (stn σ + 1) L := by
    funext k
    unfold lx
    by_cases z : k = 3
    · rw [if_pos z, if_neg (by omega), if_pos z, List.range_succ, List.map_append]
      congr 1
      · apply List.map_congr_left
        intro i hi
        have := List.mem_range.mp hi
        exact (if_neg (by omega)).symm
      · show [q] = [va_up ta (stn σ) q (stn σ)]
        rw [show va_up ta (stn σ) q (stn σ) = q from if_pos rfl]
    · rw [if_neg z, if_neg z]
      by_cases z0 : k = 0
      · rw [if_pos z0, if_pos z0]
      · rw [if_neg z0, if_neg z0, if_neg z]
  rw [el] at hS
  refine ⟨⟨va_up ar 3 r', va_up ta (stn σ) q, ap, av, az, up _ _ _ (by decide) (by decide) h1, ⟨up _ _ _ (by decide) (by decide) h2.1, up _ _ _ (by decide) (by decide) h2.2⟩, ?_, up _ _ _ (by decide) (by decide) h4, fun i hi => up _ _ _ (by decide) (by decide) (h5 i hi), fun i hi => ?_, hS⟩, ?_⟩
  · exact hF.keepO hA31 hg1 (mU_to hqt.symm (mU_eq _ _ _)) (by decide)
  · by_cases z : i = stn σ
    · subst z
      rw [show va_up ta (stn σ) q (stn σ) = q from if_pos rfl]
      have := hF.keepO hA31 hg1 (mU_eq _ _ _) (by decide)
      rw [← t0, ← t1, ← t2, ← t3] at this
      exact this
    · have hi' : i < stn σ := by have : i < stn σ + 1 := hi; omega
      show M' (va_up ta (stn σ) q i) = some (.inr (4, [.int (T' 0 i), .int (T' 1 i), .int (T' 2 i), .int (T' 3 i)]))
      rw [show va_up ta (stn σ) q i = ta i from if_neg z, hT 0 i (by omega) hi', hT 1 i (by omega) hi', hT 2 i (by omega) hi', hT 3 i (by omega) hi']
      exact up _ _ _ (by decide) (by decide) (h6 i hi')
  · exact ((frC.setO h3 (by decide)).tr (frC.new hq1)).tr (frC.al hF hA31 hg1)
end CBS
end
section
/-! What the calls do, in numbers -/
theorem s1_comm {I : Co} {f g o p : Nat} {v w : Int32} (h : f ≠ g) : s1 (s1 I f o v) g p w = s1 (s1 I g p w) f o v := by
  funext k x
  by_cases hg : k = g
  · subst hg
    rw [s1_c, s1_f (f' := k) (f := f) (fun z => h z.symm), s1_f (f' := k) (f := f) (fun z => h z.symm), s1_c]
  · rw [s1_f (f' := k) (f := g) hg]
    by_cases hf : k = f
    · subst hf
      rw [s1_c, s1_c, s1_f (f' := k) (f := g) hg]
    · rw [s1_f (f' := k) (f := f) hf, s1_f (f' := k) (f := f) hf, s1_f (f' := k) (f := g) hg]
theorem s1_self {I : Co} {f o : Nat} {v w : Int32} : s1 (s1 I f o v) f o w = s1 I f o w := by
  funext k x
  by_cases hf : k = f
  · subst hf
    by_cases hx : x = o
    · subst hx; rw [s1_ss, s1_ss]
    · rw [s1_so hx, s1_so hx, s1_so hx]
  · rw [s1_f hf, s1_f hf, s1_f hf]
theorem s1_same {I : Co} {f o : Nat} {v : Int32} (h : I f o = v) : s1 I f o v = I := by
  funext k x
  by_cases hf : k = f
  · subst hf
    by_cases hx : x = o
    · subst hx; rw [s1_ss, h]
    · rw [s1_so hx]
  · rw [s1_f hf]
def sj (b : Int32) : Nat := if b = 0 then 2 else 1
theorem sj_or (b : Int32) : sj b = 1 ∨ sj b = 2 := by
  unfold sj
  split
  · exact Or.inr rfl
  · exact Or.inl rfl
/-- what an order may show -/
def shw (I : Co) (o : Nat) : Int32 := if 0 < I 8 o ∧ I 8 o < I 3 o then I 8 o else I 3 o
theorem shw_eq {I : Co} {o : Nat} (h : 0 ≤ (I 8 o).toInt) : (if I 8 o = 0 then I 3 o else (if I 8 o < I 3 o then I 8 o else I 3 o)) = shw I o := by
  unfold shw
  by_cases h0 : I 8 o = 0
  · rw [if_pos h0, if_neg (fun z => by rw [h0] at z; exact absurd z.1 (by decide))]
  · rw [if_neg h0]
    have hp : (0 : Int32) < I 8 o := by
      rw [Int32.lt_iff_toInt_lt, i0]
      have : (I 8 o).toInt ≠ 0 := fun z => h0 (Int32.toInt_inj.mp (z.trans i0.symm))
      omega
    by_cases h1 : I 8 o < I 3 o
    · rw [if_pos h1, if_pos ⟨hp, h1⟩]
    · rw [if_neg h1, if_neg (fun z => h1 z.2)]
def xEnd (σ : St) (o : Nat) : St := ((sn σ, s1 (s1 (s1 (sI σ) 3 o 0) 4 o 0) 5 o (-1)), σ.2)
def xShow (σ : St) (o : Nat) : St := ((sn σ, s1 (sI σ) 4 o (shw (sI σ) o)), σ.2)
def xRest (σ : St) (o : Nat) : St := ((sn σ, s1 (s1 (sI σ) 5 o (srk σ)) 4 o (shw (sI σ) o)), (sph σ, srf σ, sbd σ, srk σ + 1), σ.2.2)
/-- a trade of a with b: left, traded; the trade's row -/
def dI (I : Co) (a b : Nat) (q : Int32) : Co := s1 (s1 (s1 (s1 I 3 a (I 3 a - q)) 3 b ((s1 I 3 a (I 3 a - q)) 3 b - q)) 7 a (I 7 a + q)) 7 b ((s1 I 7 a (I 7 a + q)) 7 b + q)
def dT (T : Co) (t : Nat) (b s p q : Int32) : Co := s1 (s1 (s1 (s1 T 0 t b) 1 t s) 2 t p) 3 t q
def xDeal (σ : St) (a b : Nat) (p q : Int32) : St := ((sn σ, dI (sI σ) a b q), σ.2.1, stn σ + 1, dT (sT σ) (stn σ) (if sI σ 1 a = 0 then nI b else nI a) (if sI σ 1 a = 0 then nI a else nI b) p q, sal σ + q.toInt64)
theorem dT_old {T : Co} {t : Nat} {b s p q : Int32} {k i : Nat} (h : i ≠ t) : dT T t b s p q k i = T k i := by
  unfold dT
  rw [s1_o h, s1_o h, s1_o h, s1_o h]
theorem dT_0 {T : Co} {t : Nat} {b s p q : Int32} : dT T t b s p q 0 t = b := by
  unfold dT
  rw [s1_f (f' := 0) (f := 3) (by decide), s1_f (f' := 0) (f := 2) (by decide), s1_f (f' := 0) (f := 1) (by decide), s1_ss]
theorem dT_1 {T : Co} {t : Nat} {b s p q : Int32} : dT T t b s p q 1 t = s := by
  unfold dT
  rw [s1_f (f' := 1) (f := 3) (by decide), s1_f (f' := 1) (f := 2) (by decide), s1_ss]
theorem dT_2 {T : Co} {t : Nat} {b s p q : Int32} : dT T t b s p q 2 t = p := by
  unfold dT
  rw [s1_f (f' := 2) (f := 3) (by decide), s1_ss]
theorem dT_3 {T : Co} {t : Nat} {b s p q : Int32} : dT T t b s p q 3 t = q := by
  unfold dT
  rw [s1_ss]
/-- two orders give, one after the other: the same in either order -/
def gv (I : Co) (o : Nat) (q : Int32) : Co := s1 (s1 I 3 o (I 3 o - q)) 7 o (I 7 o + q)
theorem gv_gv {I : Co} {a b : Nat} {q : Int32} (h : a ≠ b) : gv (gv I a q) b q = dI I a b q := by
  unfold gv dI
  have e3 : (s1 (s1 I 3 a (I 3 a - q)) 7 a (I 7 a + q)) 3 b = I 3 b := by rw [s1_f (f' := 3) (f := 7) (by decide), s1_so (fun z => h z.symm)]
  have e7 : (s1 (s1 I 3 a (I 3 a - q)) 7 a (I 7 a + q)) 7 b = I 7 b := by rw [s1_so (fun z => h z.symm), s1_f (f' := 7) (f := 3) (by decide)]
  rw [e3, e7, s1_so (fun z => h z.symm), s1_so (fun z => h z.symm), s1_comm (f := 7) (g := 3) (by decide)]
theorem dI_comm {I : Co} {a b : Nat} {q : Int32} (h : a ≠ b) : dI I a b q = dI I b a q := by
  unfold dI
  funext k x
  rw [s1_so (I := I) (fun z => h z.symm), s1_so (I := I) (f := 7) (fun z => h z.symm), s1_so (I := I) h, s1_so (I := I) (f := 7) h]
  by_cases h7 : k = 7
  · subst h7
    by_cases xb : x = b
    · subst xb
      rw [s1_ss, s1_so (fun z => h z.symm), s1_ss]
    · rw [s1_so xb]
      by_cases xa : x = a
      · subst xa; rw [s1_ss, s1_ss]
      · rw [s1_so xa, s1_so xa, s1_so xb]
        rw [s1_f (f' := 7) (f := 3) (by decide), s1_f (f' := 7) (f := 3) (by decide), s1_f (f' := 7) (f := 3) (by decide), s1_f (f' := 7) (f := 3) (by decide)]
  · rw [s1_f h7, s1_f h7, s1_f h7, s1_f h7]
    by_cases h3 : k = 3
    · subst h3
      by_cases xb : x = b
      · subst xb
        rw [s1_ss, s1_so (fun z => h z.symm), s1_ss]
      · rw [s1_so xb]
        by_cases xa : x = a
        · subst xa; rw [s1_ss, s1_ss]
        · rw [s1_so xa, s1_so xa, s1_so xb]
    · rw [s1_f h3, s1_f h3, s1_f h3, s1_f h3]
theorem oc_gv (I : Co) (o : Nat) (q : Int32) : oc (gv I o q) o = [.int (nI o), .int (I 0 o), .int (I 1 o), .int (I 8 o), .int (I 6 o), .int (I 2 o), .int (I 3 o - q), .int (I 4 o), .int (I 5 o), .int (I 7 o + q)] := by
  unfold gv
  rw [oc_7]
  simp [s1_ss, s1_f]
theorem gv_o {I : Co} {o x f : Nat} {q : Int32} (h : x ≠ o) : gv I o q f x = I f x := by
  unfold gv
  rw [s1_o h, s1_o h]
def aI (x : Int32) : Int32 := if 0 ≤ x then x else 0 - x
/-- beyond the band, as the class works it out -/
def byc (rf bd p : Int32) : Bool := decide (¬ bd = 0) && decide (bd < aI (p - rf))
theorem sj_if {β : BK} {b : Int32} : (if b = 0 then bsd β 2 else bsd β 1) = bsd β (sj b) := by
  unfold sj
  split <;> rfl
theorem mW.gz {γ : mG} {M : mMap} {s : State} {H : Heap} {locs : List Loc} (h : mW γ M s H locs) : ∀ q, γ.2.2.1 ≤ q → q ≠ ge γ := by
  intro q hq e
  obtain ⟨_, -, -, -, -, -, -, h2⟩ := h.2.2.1.2.2.1
  exact h2 (e ▸ hq)
theorem xEnd_eq {σ : St} {o : Nat} : ((sn σ, s1 (s1 (s1 (sI σ) 5 o (-1)) 3 o 0) 4 o 0), σ.2) = xEnd σ o := by
  unfold xEnd
  rw [s1_comm (f := 5) (g := 3) (by decide), s1_comm (f := 5) (g := 4) (by decide)]
theorem xEnd_eq0 {σ : St} {o : Nat} (h : sI σ 5 o = -1) : ((sn σ, s1 (s1 (sI σ) 3 o 0) 4 o 0), σ.2) = xEnd σ o := by
  unfold xEnd
  rw [s1_same (I := s1 (s1 (sI σ) 3 o 0) 4 o 0)]
  rw [s1_f (f' := 5) (f := 4) (by decide), s1_f (f' := 5) (f := 3) (by decide)]
  exact h
theorem xRest_eq {σ : St} {o : Nat} {p : Int32 × Int32 × Int32 × Int32} (hp : p = (sph σ, srf σ, sbd σ, srk σ + 1)) : ((sn σ, s1 (s1 (sI σ) 4 o (shw (sI σ) o)) 5 o (srk σ)), p, σ.2.2) = xRest σ o := by
  unfold xRest
  rw [hp, s1_comm (f := 4) (g := 5) (by decide)]
theorem mU_g {M : mMap} {g b : Nat} {e e0 : va_E} (hg : M g = none) (hb : M b = some e0) : mU M b e g = none := (mU_ne (m_fne hb hg).symm).trans hg
theorem up_same {α : Type} (f : Nat → α) (j : Nat) : va_up f j (f j) = f := by
  funext k
  unfold va_up
  by_cases h : k = j
  · rw [if_pos h, h]
  · rw [if_neg h]
theorem map_first {oa : Nat → Nat} {L : List Nat} {k o n : Nat} (hk : L[k]? = some o) (hnd : L.Nodup) (hL : ∀ y, y ∈ L → y < n) (hinj : ∀ a b, a < n → b < n → oa a = oa b → a = b) : (L.map oa)[k]? = some (oa o) ∧ ∀ j, j < k → (L.map oa)[j]? ≠ some (oa o) := by
  refine ⟨by rw [List.getElem?_map, hk]; rfl, fun j hj e => ?_⟩
  have hkl := (List.getElem?_eq_some_iff.mp hk).1
  have hjl : j < L.length := by omega
  rw [List.getElem?_map, List.getElem?_eq_getElem hjl] at e
  have e1 : oa L[j] = oa o := Option.some.inj e
  have e2 := hinj _ _ (hL _ (List.getElem_mem hjl)) (hL o (List.mem_of_getElem? hk)) e1
  have e3 : L[j]? = L[k]? := by rw [List.getElem?_eq_getElem hjl, hk, e2]
  have := (List.getElem?_inj hjl hnd).mp e3
  omega
end
section
/-! CallBook: its private methods over the state (1) -/
set_option maxHeartbeats 4000000 in
set_option maxRecDepth 100000 in
theorem c_B_side (l : Launch) (γ : mG) (M : mMap) (β : BK) (p4 : Int32 × Int32 × Int32 × Int32) (hx : M (bx β) = some (.inr (6, bkc β p4))) (b : Int32) : Met l y_B_side w_B_side ({ frames := 0, cells := 0, slots := 0, locals := 0 } : Room) (mPc γ M [.ref (bx β), .int b]) (mQq γ (fun r M' => r = some (bsd β (sj b)) ∧ M' = M)) 0 0 (mA (gz γ)) := by
  refine m_enter (by decide) (Nat.le_of_ble_eq_true rfl) ?_
  intro p e s m below meth c ls S hr hlk hnm hl hw
  have hl : lv_has ls 2 [(0, .ref (bx β)), (1, .int b)] := hl
  refine lv_iload_n S.1 S.2.1 d_B_side_0 rfl (lv_at hl 1 rfl) ?_
  refine lv_if_eq (tgt := 11) S.1 S.2.1 d_B_side_1 rfl (fun h1 => ?_) (fun h1 => ?_)
  · refine lv_aload_n S.1 S.2.1 d_B_side_11 rfl (lv_at hl 0 rfl) ?_
    refine m_get S hw cl_B hx 2 (by decide) g147 (fun _ h => h) rfl d_B_side_12 ?_
    exact m_aret (r := (some (bsd β 2))) S hlk hr (Or.inl ⟨_, rfl⟩) hw (⟨by rw [← sj_if, if_pos h1], rfl⟩) (Nat.le_refl _) (Nat.le_refl _) d_B_side_15
  · refine lv_aload_n S.1 S.2.1 d_B_side_4 rfl (lv_at hl 0 rfl) ?_
    refine m_get S hw cl_B hx 1 (by decide) g146 (fun _ h => h) rfl d_B_side_5 ?_
    refine lv_goto (tgt := 15) S.1 S.2.1 d_B_side_8 rfl ?_
    exact m_aret (r := (some (bsd β 1))) S hlk hr (Or.inl ⟨_, rfl⟩) hw (⟨by rw [← sj_if, if_neg h1], rfl⟩) (Nat.le_refl _) (Nat.le_refl _) d_B_side_15
set_option maxHeartbeats 4000000 in
set_option maxRecDepth 100000 in
theorem c_B_isBeyondBand (l : Launch) (γ : mG) (M : mMap) (β : BK) (p4 : Int32 × Int32 × Int32 × Int32) (hx : M (bx β) = some (.inr (6, bkc β p4))) (p0 : Int32) : Met l y_B_isBeyondBand w_B_isBeyondBand ({ frames := 1, cells := 0, slots := 0, locals := 16 } : Room) (mPc γ M [.ref (bx β), .int p0]) (mQi γ (fun r M' => r = b2i (byc p4.2.1 p4.2.2.1 p0) ∧ M' = M)) 0 0 (mA (gz γ)) := by
  refine m_enter (by decide) (Nat.le_of_ble_eq_true rfl) ?_
  intro p e s m below meth c ls S hr hlk hnm hl hw
  have hl : lv_has ls 2 [(0, .ref (bx β)), (1, .int p0)] := hl
  refine lv_aload_n S.1 S.2.1 d_B_isBeyondBand_0 rfl (lv_at hl 0 rfl) ?_
  refine m_get S hw cl_B hx 7 (by decide) g152 (fun _ h => h) rfl d_B_isBeyondBand_1 ?_
  refine lv_if_eq (tgt := 27) S.1 S.2.1 d_B_isBeyondBand_4 rfl (fun h4 => ?_) (fun h4 => ?_)
  · refine lv_iconst (v := 0) S.1 S.2.1 d_B_isBeyondBand_27 (by decide) ?_
    exact m_iret S hlk hr rfl hw (by simp_all [b2i, byc, aI]) (Nat.le_refl _) (Nat.le_refl _) d_B_isBeyondBand_28
  · refine lv_iload_n S.1 S.2.1 d_B_isBeyondBand_7 rfl (lv_at hl 1 rfl) ?_
    refine lv_aload_n S.1 S.2.1 d_B_isBeyondBand_8 rfl (lv_at hl 0 rfl) ?_
    refine m_get S hw cl_B hx 6 (by decide) g151 (fun _ h => h) rfl d_B_isBeyondBand_9 ?_
    refine lv_isub S.1 S.2.1 d_B_isBeyondBand_12 ?_
    refine va_mabs S.1 S.2.1 (S.2.2.1.trans hl.1.symm) S.2.2.2.1 (S.2.2.2.2 _ (gc g271)) (S.2.2.2.2 _ (gc g272)) (S.2.2.2.2 _ (gc g56)) (S.2.2.2.2 _ (gc g273)) (Nat.le_of_ble_eq_true rfl) (Nat.le_of_ble_eq_true rfl) (Nat.zero_le _) (Nat.zero_le _) d_B_isBeyondBand_13 ?_
    refine lv_aload_n S.1 S.2.1 d_B_isBeyondBand_16 rfl (lv_at hl 0 rfl) ?_
    refine m_get S hw cl_B hx 7 (by decide) g152 (fun _ h => h) rfl d_B_isBeyondBand_17 ?_
    refine lv_icmp_le (tgt := 27) S.1 S.2.1 d_B_isBeyondBand_20 rfl (fun h20 => ?_) (fun h20 => ?_)
    · refine lv_iconst (v := 0) S.1 S.2.1 d_B_isBeyondBand_27 (by decide) ?_
      exact m_iret S hlk hr rfl hw (by simp_all [b2i, byc, aI]) (Nat.le_refl _) (Nat.le_refl _) d_B_isBeyondBand_28
    · refine lv_iconst (v := 1) S.1 S.2.1 d_B_isBeyondBand_23 (by decide) ?_
      refine lv_goto (tgt := 28) S.1 S.2.1 d_B_isBeyondBand_24 rfl ?_
      exact m_iret S hlk hr rfl hw (by simp_all [b2i, byc, aI]) (Nat.le_refl _) (Nat.le_refl _) d_B_isBeyondBand_28
set_option maxHeartbeats 4000000 in
set_option maxRecDepth 100000 in
theorem c_B_rest (l : Launch) (γ : mG) (M : mMap) (β : BK) (oa cp : Nat → Nat) (L : Nat → List Nat) (σ : St) (hC : CB γ M β oa cp L σ) (hn : sn σ ≤ 250) (o : Nat) (ho : o < sn σ) (hpk : 0 ≤ (sI σ 8 o).toInt) (hL : ∀ y, y ∈ L (sj (sI σ 1 o)) → y < sn σ ∧ y ≠ o) (hlen : (L (sj (sI σ 1 o))).length ≤ 250) : Met l y_B_rest w_B_rest ({ frames := 7, cells := gN (cp (sj (sI σ 1 o))) ((L (sj (sI σ 1 o))).map oa).length, slots := sN (cp (sj (sI σ 1 o))) ((L (sj (sI σ 1 o))).map oa).length, locals := 182 } : Room) (mPc γ M [.ref (bx β), .ref (oa o)]) (mQv γ (fun M' => ∃ k, k ≤ (L (sj (sI σ 1 o))).length ∧ (∀ x, x ∈ (L (sj (sI σ 1 o))).drop k → sb (s1 (s1 (sI σ) 4 o (shw (sI σ) o)) 5 o (srk σ)) o x = true) ∧ (∀ x, (L (sj (sI σ 1 o)))[k - 1]? = some x → 0 < k → sb (s1 (s1 (sI σ) 4 o (shw (sI σ) o)) 5 o (srk σ)) o x = false) ∧ CB γ M' β oa (va_up cp (sj (sI σ 1 o)) (cN (cp (sj (sI σ 1 o))) ((L (sj (sI σ 1 o))).map oa).length)) (fun k' => if k' = (sj (sI σ 1 o)) then (L (sj (sI σ 1 o))).insertIdx k o else L k') (xRest σ o) ∧ frC M M')) (gN (cp (sj (sI σ 1 o))) ((L (sj (sI σ 1 o))).map oa).length) (sN (cp (sj (sI σ 1 o))) ((L (sj (sI σ 1 o))).map oa).length) (mA (gz γ)) := by
  refine m_enter (by decide) (Nat.le_of_ble_eq_true rfl) ?_
  intro p e s m below meth c ls S hr hlk hnm hl hw
  have hl : lv_has ls 2 [(0, .ref (bx β)), (1, .ref (oa o))] := hl
  have hOo := hC.ord o ho
  refine lv_aload_n S.1 S.2.1 d_B_rest_0 rfl (lv_at hl 1 rfl) ?_
  refine lv_aload_n S.1 S.2.1 d_B_rest_1 rfl (lv_at hl 1 rfl) ?_
  refine m_ci hw (va_runV (As := []) (rest := [.ref (oa o)]) S (c_O_mayShow l γ M (oa o) _ _ _ _ _ _ _ _ _ _ hOo) (m_cwV 0 S g494 g237 g238 g54 g239 rfl rfl ⟨by decide +kernel, by decide +kernel, by decide +kernel⟩ ⟨(Nat.le_of_ble_eq_true rfl), (Nat.le_of_ble_eq_true rfl)⟩) (hw.preV hOo cl_O.1) rfl rfl hl.1 rfl (lv_room (Nat.le_of_ble_eq_true rfl)) d_B_rest_2 ⟨(Nat.zero_le _), (Nat.zero_le _)⟩) (fun r1 M1 H locs hp hw => ?_)
  obtain ⟨rfl, hM1⟩ := hp
  rw [hM1] at hw
  refine W.eq (g2 := F0 m 5 ls [.int (shw (sI σ) o), .ref (oa o)]) (by rw [← shw_eq hpk]) ?_
  refine m_put S hw cl_O hOo 7 (by decide) g400 (fun _ h => h) rfl rfl rfl (Nat.le_of_ble_eq_true rfl) d_B_rest_5 (fun H locs hw => ?_)
  have hw : mW γ (mU M (oa o) (.inr (2, [.int (nI o), .int ((sI σ) 0 o), .int ((sI σ) 1 o), .int ((sI σ) 8 o), .int ((sI σ) 6 o), .int ((sI σ) 2 o), .int ((sI σ) 3 o), .int (shw (sI σ) o), .int ((sI σ) 5 o), .int ((sI σ) 7 o)]))) s H locs := hw
  rw [← oc_4] at hw
  obtain ⟨hC1, hf1⟩ := hC.setO hn ho (J := s1 (sI σ) 4 o (shw (sI σ) o)) (fun f x hx => s1_o hx) (e := .inr (2, oc (s1 (sI σ) 4 o (shw (sI σ) o)) o)) rfl
  have hbu : (s1 (sI σ) 4 o (shw (sI σ) o)) 1 o = sI σ 1 o := by rw [s1_f (by decide)]
  refine lv_aload_n S.1 S.2.1 d_B_rest_8 rfl (lv_at hl 0 rfl) ?_
  refine lv_aload_n S.1 S.2.1 d_B_rest_9 rfl (lv_at hl 1 rfl) ?_
  refine m_get S hw cl_O (hC1.ord o ho) 2 (by decide) g389 (fun _ h => h) rfl d_B_rest_10 ?_
  refine W.eq (g2 := F0 m 13 ls [.int (sI σ 1 o), .ref (bx β)]) (congrArg (fun z => F0 m 13 ls [.int z, .ref (bx β)]) hbu) ?_
  refine m_cq hw (va_runV (As := [.int (sI σ 1 o)]) (rest := []) S (c_B_side l γ (mU M (oa o) (.inr (2, oc (s1 (sI σ) 4 o (shw (sI σ) o)) o))) β σ.2.1 hC1.book (sI σ 1 o)) (m_cwV 1 S g181 g183 g0 g41 g184 rfl rfl ⟨by decide +kernel, by decide +kernel, by decide +kernel⟩ ⟨(Nat.le_of_ble_eq_true rfl), (Nat.le_of_ble_eq_true rfl)⟩) (hw.preV hC1.book cl_B.1) rfl rfl hl.1 rfl (lv_room (Nat.le_of_ble_eq_true rfl)) d_B_rest_13 ⟨(Nat.zero_le _), (Nat.zero_le _)⟩) (fun r1 M1 H locs hp hw => ?_)
  obtain ⟨rfl, hM1⟩ := hp
  rw [hM1] at hw
  obtain ⟨r0, hA1⟩ := hC1.list (sj_or (sI σ 1 o))
  refine lv_aload_n S.1 S.2.1 d_B_rest_16 rfl (lv_at hl 1 rfl) ?_
  refine lv_aload_n S.1 S.2.1 d_B_rest_17 rfl (lv_at hl 0 rfl) ?_
  refine m_get S hw cl_B hC1.book 8 (by decide) g153 (fun _ h => h) rfl d_B_rest_18 ?_
  have hg1 := hw.noe
  refine m_cv hw (va_runV (As := [.ref (oa o), .int σ.2.1.2.2.2]) (rest := []) S (c_S_enter l γ (mU M (oa o) (.inr (2, oc (s1 (sI σ) 4 o (shw (sI σ) o)) o))) (bsd β (sj (sI σ 1 o))) (bal β (sj (sI σ 1 o))) r0 (cp (sj (sI σ 1 o))) (sn σ) (L (sj (sI σ 1 o))) oa (s1 (sI σ) 4 o (shw (sI σ) o)) hC1.ord hn o ho (hC1.side (sj_or _)) hA1 hL hlen (srk σ)) (m_cwV 2 S g495 g496 g497 g45 g498 rfl rfl ⟨by decide +kernel, by decide +kernel, by decide +kernel⟩ ⟨(Nat.le_of_ble_eq_true rfl), (Nat.le_of_ble_eq_true rfl)⟩) (hw.preV (hC1.side (sj_or _)) cl_S.1) rfl rfl hl.1 rfl (lv_room (Nat.le_of_ble_eq_true rfl)) d_B_rest_21 ⟨(by show 0 + 0 + 0 + _ ≤ _; rw [Nat.zero_add]; exact Nat.le_refl _), (by show 0 + 0 + 0 + _ ≤ _; rw [Nat.zero_add]; exact Nat.le_refl _)⟩) (fun M1 H locs hp hw => ?_)
  obtain ⟨k, r9, hk, hhi, hlo, hA9, hF9⟩ := hp
  rw [← map_ins] at hA9
  obtain ⟨hC2, hf2⟩ := hC1.setO hn ho (J := s1 (s1 (sI σ) 4 o (shw (sI σ) o)) 5 o (srk σ)) (fun f x hx => s1_o hx) (e := .inr (2, oc (s1 (s1 (sI σ) 4 o (shw (sI σ) o)) 5 o (srk σ)) o)) rfl
  have hg2 : (mU (mU M (oa o) (.inr (2, oc (s1 (sI σ) 4 o (shw (sI σ) o)) o))) (oa o) (.inr (2, oc (s1 (s1 (sI σ) 4 o (shw (sI σ) o)) 5 o (srk σ)) o))) (ge γ) = none := mU_g hg1 (hC1.ord o ho)
  obtain ⟨hC3, hf3⟩ := hC2.line hg2 (sj_or _) (hA1.setO (hC1.ord o ho) (by decide)) hA9 hF9
  refine lv_aload_n S.1 S.2.1 d_B_rest_24 rfl (lv_at hl 0 rfl) ?_
  refine lv_dup S.1 S.2.1 d_B_rest_25 rfl ?_
  refine m_get S hw cl_B hC3.book 8 (by decide) g153 (fun _ h => h) rfl d_B_rest_26 ?_
  refine lv_iconst (v := 1) S.1 S.2.1 d_B_rest_29 (by decide) ?_
  refine lv_iadd S.1 S.2.1 d_B_rest_30 ?_
  refine m_put S hw cl_B hC3.book 8 (by decide) g153 (fun _ h => h) rfl rfl rfl (Nat.le_of_ble_eq_true rfl) d_B_rest_31 (fun H locs hw => ?_)
  have hw : mW γ (mU M1 (bx β) (.inr (6, [.ref (bal β 0), .ref (bsd β 1), .ref (bsd β 2), .ref (btl β), .ref (bau β), .int σ.2.1.1, .int σ.2.1.2.1, .int σ.2.1.2.2.1, .int (σ.2.1.2.2.2 + 1)]))) s H locs := hw
  have hC4 := hC3.setB (p := (sph σ, srf σ, sbd σ, srk σ + 1)) (e := .inr (6, bkc β (sph σ, srf σ, sbd σ, srk σ + 1))) rfl
  exact m_vret S hlk hr hw (⟨k, hk, hhi, hlo, by rw [← xRest_eq (σ := σ) (o := o) rfl]; exact hC4.1, hf1.tr (hf2.tr (hf3.tr hC4.2))⟩) (by show 0 + 0 + 0 + _ ≤ _; rw [Nat.zero_add]; exact Nat.le_refl _) (by show 0 + 0 + 0 + _ ≤ _; rw [Nat.zero_add]; exact Nat.le_refl _) d_B_rest_34
end
section
/-! CallBook: its private methods over the state (2) -/
set_option maxHeartbeats 4000000 in
set_option maxRecDepth 100000 in
theorem c_B_finishR (l : Launch) (γ : mG) (M : mMap) (β : BK) (oa cp : Nat → Nat) (L : Nat → List Nat) (σ : St) (hC : CB γ M β oa cp L σ) (hn : sn σ ≤ 250) (o : Nat) (ho : o < sn σ) (hr5 : ¬ sI σ 5 o = -1) (hnd : (L (sj (sI σ 1 o))).Nodup) (hL : ∀ y, y ∈ L (sj (sI σ 1 o)) → y < sn σ) (hlen : (L (sj (sI σ 1 o))).length ≤ 250) (k : Nat) (hk : (L (sj (sI σ 1 o)))[k]? = some o) : Met l y_B_finish w_B_finish ({ frames := 4, cells := 0, slots := 0, locals := 116 } : Room) (mPc γ M [.ref (bx β), .ref (oa o)]) (mQv γ (fun M' => CB γ M' β oa cp (fun k' => if k' = (sj (sI σ 1 o)) then (L (sj (sI σ 1 o))).eraseIdx k else L k') (xEnd σ o) ∧ frC M M')) 0 0 (mA (gz γ)) := by
  refine m_enter (by decide) (Nat.le_of_ble_eq_true rfl) ?_
  intro p e s m below meth c ls S hr hlk hnm hl hw
  have hl : lv_has ls 2 [(0, .ref (bx β)), (1, .ref (oa o))] := hl
  have hOo := hC.ord o ho
  refine lv_aload_n S.1 S.2.1 d_B_finish_0 rfl (lv_at hl 1 rfl) ?_
  refine m_ci hw (va_runV (As := []) (rest := []) S (c_O_rests l γ M (oa o) _ _ _ _ _ _ _ _ _ _ hOo) (m_cwV 0 S g270 g244 g245 g54 g246 rfl rfl ⟨by decide +kernel, by decide +kernel, by decide +kernel⟩ ⟨(Nat.le_of_ble_eq_true rfl), (Nat.le_of_ble_eq_true rfl)⟩) (hw.preV hOo cl_O.1) rfl rfl hl.1 rfl (lv_room (Nat.le_of_ble_eq_true rfl)) d_B_finish_1 ⟨(Nat.zero_le _), (Nat.zero_le _)⟩) (fun r1 M1 H locs hp hw => ?_)
  obtain ⟨rfl, hM1⟩ := hp
  rw [hM1] at hw
  refine lv_if_eq (tgt := 19) S.1 S.2.1 d_B_finish_4 rfl (fun h => absurd h (b2i_n0.mpr (decide_eq_true hr5))) (fun _ => ?_)
  refine lv_aload_n S.1 S.2.1 d_B_finish_7 rfl (lv_at hl 0 rfl) ?_
  refine lv_aload_n S.1 S.2.1 d_B_finish_8 rfl (lv_at hl 1 rfl) ?_
  refine m_get S hw cl_O hOo 2 (by decide) g389 (fun _ h => h) rfl d_B_finish_9 ?_
  refine m_cq hw (va_runV (As := [.int ((sI σ) 1 o)]) (rest := []) S (c_B_side l γ M β σ.2.1 hC.book (sI σ 1 o)) (m_cwV 1 S g181 g183 g0 g41 g184 rfl rfl ⟨by decide +kernel, by decide +kernel, by decide +kernel⟩ ⟨(Nat.le_of_ble_eq_true rfl), (Nat.le_of_ble_eq_true rfl)⟩) (hw.preV hC.book cl_B.1) rfl rfl hl.1 rfl (lv_room (Nat.le_of_ble_eq_true rfl)) d_B_finish_12 ⟨(Nat.zero_le _), (Nat.zero_le _)⟩) (fun r1 M1 H locs hp hw => ?_)
  obtain ⟨rfl, hM1⟩ := hp
  rw [hM1] at hw
  have hg := hw.noe
  obtain ⟨r0, hA0⟩ := hC.list (sj_or (sI σ 1 o))
  have hE0 : mEl M 2 ((L (sj (sI σ 1 o))).map oa) := hC.ord.el hL
  obtain ⟨hk1, hk2⟩ := map_first (oa := oa) hk hnd hL (fun a b ha hb e => hC.ord.inj hn ha hb e)
  refine lv_aload_n S.1 S.2.1 d_B_finish_15 rfl (lv_at hl 1 rfl) ?_
  refine m_cv hw (va_runV (As := [.ref (oa o)]) (rest := []) S (c_S_leave l γ M (bsd β (sj (sI σ 1 o))) (bal β (sj (sI σ 1 o))) r0 (cp (sj (sI σ 1 o))) ((L (sj (sI σ 1 o))).map oa) (hC.side (sj_or _)) hA0 hE0 (oa o) _ _ _ _ _ _ _ _ _ _ hOo k hk1 hk2 (by rw [List.length_map]; exact hlen)) (m_cwV 1 S g567 g568 g569 g45 g570 rfl rfl ⟨by decide +kernel, by decide +kernel, by decide +kernel⟩ ⟨(Nat.le_of_ble_eq_true rfl), (Nat.le_of_ble_eq_true rfl)⟩) (hw.preV (hC.side (sj_or _)) cl_S.1) rfl rfl hl.1 rfl (lv_room (Nat.le_of_ble_eq_true rfl)) d_B_finish_16 ⟨(Nat.zero_le _), (Nat.zero_le _)⟩) (fun M1 H locs hp hw => ?_)
  obtain ⟨hA9, hF9⟩ := hp
  rw [← map_del] at hA9
  rw [← oc_5] at hF9
  obtain ⟨hC1, hf1⟩ := hC.setO hn ho (J := s1 (sI σ) 5 o (-1)) (fun f x hx => s1_o hx) (e := .inr (2, oc (s1 (sI σ) 5 o (-1)) o)) rfl
  have hg1 := mU_g (e := .inr (2, oc (s1 (sI σ) 5 o (-1)) o)) hg hOo
  obtain ⟨hC2, hf2⟩ := hC1.line hg1 (sj_or _) (hA0.setO hOo (by decide)) hA9 hF9
  rw [up_same] at hC2
  refine lv_aload_n S.1 S.2.1 d_B_finish_19 rfl (lv_at hl 1 rfl) ?_
  refine lv_iconst (v := 0) S.1 S.2.1 d_B_finish_20 (by decide) ?_
  refine m_put S hw cl_O (hC2.ord o ho) 6 (by decide) g398 (fun _ h => h) rfl rfl rfl (Nat.le_of_ble_eq_true rfl) d_B_finish_21 (fun H locs hw => ?_)
  have hw : mW γ (mU M1 (oa o) (.inr (2, [.int (nI o), .int ((s1 (sI σ) 5 o (-1)) 0 o), .int ((s1 (sI σ) 5 o (-1)) 1 o), .int ((s1 (sI σ) 5 o (-1)) 8 o), .int ((s1 (sI σ) 5 o (-1)) 6 o), .int ((s1 (sI σ) 5 o (-1)) 2 o), .int 0, .int ((s1 (sI σ) 5 o (-1)) 4 o), .int ((s1 (sI σ) 5 o (-1)) 5 o), .int ((s1 (sI σ) 5 o (-1)) 7 o)]))) s H locs := hw
  rw [← oc_3] at hw
  obtain ⟨hC3, hf3⟩ := hC2.setO hn ho (J := s1 (s1 (sI σ) 5 o (-1)) 3 o 0) (fun f x hx => s1_o hx) (e := .inr (2, oc (s1 (s1 (sI σ) 5 o (-1)) 3 o 0) o)) rfl
  refine lv_aload_n S.1 S.2.1 d_B_finish_24 rfl (lv_at hl 1 rfl) ?_
  refine lv_iconst (v := 0) S.1 S.2.1 d_B_finish_25 (by decide) ?_
  refine m_put S hw cl_O (hC3.ord o ho) 7 (by decide) g400 (fun _ h => h) rfl rfl rfl (Nat.le_of_ble_eq_true rfl) d_B_finish_26 (fun H locs hw => ?_)
  have hw : mW γ (mU (mU M1 (oa o) (.inr (2, oc (s1 (s1 (sI σ) 5 o (-1)) 3 o 0) o))) (oa o) (.inr (2, [.int (nI o), .int ((s1 (s1 (sI σ) 5 o (-1)) 3 o 0) 0 o), .int ((s1 (s1 (sI σ) 5 o (-1)) 3 o 0) 1 o), .int ((s1 (s1 (sI σ) 5 o (-1)) 3 o 0) 8 o), .int ((s1 (s1 (sI σ) 5 o (-1)) 3 o 0) 6 o), .int ((s1 (s1 (sI σ) 5 o (-1)) 3 o 0) 2 o), .int ((s1 (s1 (sI σ) 5 o (-1)) 3 o 0) 3 o), .int 0, .int ((s1 (s1 (sI σ) 5 o (-1)) 3 o 0) 5 o), .int ((s1 (s1 (sI σ) 5 o (-1)) 3 o 0) 7 o)]))) s H locs := hw
  rw [← oc_4] at hw
  obtain ⟨hC4, hf4⟩ := hC3.setO hn ho (J := s1 (s1 (s1 (sI σ) 5 o (-1)) 3 o 0) 4 o 0) (fun f x hx => s1_o hx) (e := .inr (2, oc (s1 (s1 (s1 (sI σ) 5 o (-1)) 3 o 0) 4 o 0) o)) rfl
  exact m_vret S hlk hr hw (⟨by rw [← xEnd_eq]; exact hC4, hf1.tr (hf2.tr (hf3.tr hf4))⟩) (Nat.le_refl _) (Nat.le_refl _) d_B_finish_29
set_option maxHeartbeats 4000000 in
set_option maxRecDepth 100000 in
theorem c_B_finishN (l : Launch) (γ : mG) (M : mMap) (β : BK) (oa cp : Nat → Nat) (L : Nat → List Nat) (σ : St) (hC : CB γ M β oa cp L σ) (hn : sn σ ≤ 250) (o : Nat) (ho : o < sn σ) (hr5 : sI σ 5 o = -1) : Met l y_B_finish w_B_finish ({ frames := 4, cells := 0, slots := 0, locals := 116 } : Room) (mPc γ M [.ref (bx β), .ref (oa o)]) (mQv γ (fun M' => CB γ M' β oa cp L (xEnd σ o) ∧ frC M M')) 0 0 (mA (gz γ)) := by
  refine m_enter (by decide) (Nat.le_of_ble_eq_true rfl) ?_
  intro p e s m below meth c ls S hr hlk hnm hl hw
  have hl : lv_has ls 2 [(0, .ref (bx β)), (1, .ref (oa o))] := hl
  have hOo := hC.ord o ho
  refine lv_aload_n S.1 S.2.1 d_B_finish_0 rfl (lv_at hl 1 rfl) ?_
  refine m_ci hw (va_runV (As := []) (rest := []) S (c_O_rests l γ M (oa o) _ _ _ _ _ _ _ _ _ _ hOo) (m_cwV 0 S g270 g244 g245 g54 g246 rfl rfl ⟨by decide +kernel, by decide +kernel, by decide +kernel⟩ ⟨(Nat.le_of_ble_eq_true rfl), (Nat.le_of_ble_eq_true rfl)⟩) (hw.preV hOo cl_O.1) rfl rfl hl.1 rfl (lv_room (Nat.le_of_ble_eq_true rfl)) d_B_finish_1 ⟨(Nat.zero_le _), (Nat.zero_le _)⟩) (fun r1 M1 H locs hp hw => ?_)
  obtain ⟨rfl, hM1⟩ := hp
  rw [hM1] at hw
  refine lv_if_eq (tgt := 19) S.1 S.2.1 d_B_finish_4 rfl (fun _ => ?_) (fun h => absurd (b2i_0.mpr (decide_eq_false (fun h => h hr5))) h)
  refine lv_aload_n S.1 S.2.1 d_B_finish_19 rfl (lv_at hl 1 rfl) ?_
  refine lv_iconst (v := 0) S.1 S.2.1 d_B_finish_20 (by decide) ?_
  refine m_put S hw cl_O hOo 6 (by decide) g398 (fun _ h => h) rfl rfl rfl (Nat.le_of_ble_eq_true rfl) d_B_finish_21 (fun H locs hw => ?_)
  have hw : mW γ (mU M (oa o) (.inr (2, [.int (nI o), .int ((sI σ) 0 o), .int ((sI σ) 1 o), .int ((sI σ) 8 o), .int ((sI σ) 6 o), .int ((sI σ) 2 o), .int 0, .int ((sI σ) 4 o), .int ((sI σ) 5 o), .int ((sI σ) 7 o)]))) s H locs := hw
  rw [← oc_3] at hw
  obtain ⟨hC3, hf3⟩ := hC.setO hn ho (J := s1 (sI σ) 3 o 0) (fun f x hx => s1_o hx) (e := .inr (2, oc (s1 (sI σ) 3 o 0) o)) rfl
  refine lv_aload_n S.1 S.2.1 d_B_finish_24 rfl (lv_at hl 1 rfl) ?_
  refine lv_iconst (v := 0) S.1 S.2.1 d_B_finish_25 (by decide) ?_
  refine m_put S hw cl_O (hC3.ord o ho) 7 (by decide) g400 (fun _ h => h) rfl rfl rfl (Nat.le_of_ble_eq_true rfl) d_B_finish_26 (fun H locs hw => ?_)
  have hw : mW γ (mU (mU M (oa o) (.inr (2, oc (s1 (sI σ) 3 o 0) o))) (oa o) (.inr (2, [.int (nI o), .int ((s1 (sI σ) 3 o 0) 0 o), .int ((s1 (sI σ) 3 o 0) 1 o), .int ((s1 (sI σ) 3 o 0) 8 o), .int ((s1 (sI σ) 3 o 0) 6 o), .int ((s1 (sI σ) 3 o 0) 2 o), .int ((s1 (sI σ) 3 o 0) 3 o), .int 0, .int ((s1 (sI σ) 3 o 0) 5 o), .int ((s1 (sI σ) 3 o 0) 7 o)]))) s H locs := hw
  rw [← oc_4] at hw
  obtain ⟨hC4, hf4⟩ := hC3.setO hn ho (J := s1 (s1 (sI σ) 3 o 0) 4 o 0) (fun f x hx => s1_o hx) (e := .inr (2, oc (s1 (s1 (sI σ) 3 o 0) 4 o 0) o)) rfl
  exact m_vret S hlk hr hw (⟨by rw [← xEnd_eq0 hr5]; exact hC4, hf3.tr hf4⟩) (Nat.le_refl _) (Nat.le_refl _) d_B_finish_29
set_option maxHeartbeats 4000000 in
set_option maxRecDepth 100000 in
theorem c_B_exchange (l : Launch) (γ : mG) (M : mMap) (β : BK) (oa cp : Nat → Nat) (L : Nat → List Nat) (σ : St) (hC : CB γ M β oa cp L σ) (hn : sn σ ≤ 250) (a b : Nat) (ha : a < sn σ) (hb : b < sn σ) (hab : a ≠ b) (htn : stn σ < 30000) (p0 q0 : Int32) : Met l y_B_exchange w_B_exchange ({ frames := 8, cells := 1 + gN (cp 3) (stn σ), slots := 4 + sN (cp 3) (stn σ), locals := 203 } : Room) (mPc γ M [.ref (bx β), .ref (oa a), .ref (oa b), .int p0, .int q0]) (mQv γ (fun M' => CB γ M' β oa (va_up cp 3 (cN (cp 3) (stn σ))) L ((sn σ, gv (gv (sI σ) a q0) b q0), σ.2.1, stn σ + 1, dT (sT σ) (stn σ) (nI a) (nI b) p0 q0, sal σ + q0.toInt64) ∧ frC M M')) (1 + gN (cp 3) (stn σ)) (4 + sN (cp 3) (stn σ)) (mA (gz γ)) := by
  refine m_enter (by decide) (Nat.le_of_ble_eq_true rfl) ?_
  intro p e s m below meth c ls S hr hlk hnm hl hw
  have hl : lv_has ls 5 [(0, .ref (bx β)), (1, .ref (oa a)), (2, .ref (oa b)), (3, .int p0), (4, .int q0)] := hl
  refine lv_aload_n S.1 S.2.1 d_B_exchange_0 rfl (lv_at hl 1 rfl) ?_
  refine lv_iload S.1 S.2.1 d_B_exchange_1 (lv_at hl 4 rfl) ?_
  refine m_cv hw (va_runV (As := [.int q0]) (rest := []) S (c_O_give l γ M (oa a) _ _ _ _ _ _ _ _ _ _ (hC.ord a ha) q0) (m_cwV 1 S g531 g532 g533 g54 g534 rfl rfl ⟨by decide +kernel, by decide +kernel, by decide +kernel⟩ ⟨(Nat.le_of_ble_eq_true rfl), (Nat.le_of_ble_eq_true rfl)⟩) (hw.preV (hC.ord a ha) cl_O.1) rfl rfl hl.1 rfl (lv_room (Nat.le_of_ble_eq_true rfl)) d_B_exchange_3 ⟨(Nat.zero_le _), (Nat.zero_le _)⟩) (fun M1 H locs hp hw => ?_)
  rw [hp] at hw
  rw [← oc_gv] at hw
  obtain ⟨hC1, hf1⟩ := hC.setO hn ha (J := gv (sI σ) a q0) (fun f x hx => gv_o hx) (e := .inr (2, oc (gv (sI σ) a q0) a)) rfl
  refine lv_aload_n S.1 S.2.1 d_B_exchange_6 rfl (lv_at hl 2 rfl) ?_
  refine lv_iload S.1 S.2.1 d_B_exchange_7 (lv_at hl 4 rfl) ?_
  refine m_cv hw (va_runV (As := [.int q0]) (rest := []) S (c_O_give l γ (mU M (oa a) (.inr (2, oc (gv (sI σ) a q0) a))) (oa b) _ _ _ _ _ _ _ _ _ _ (hC1.ord b hb) q0) (m_cwV 1 S g531 g532 g533 g54 g534 rfl rfl ⟨by decide +kernel, by decide +kernel, by decide +kernel⟩ ⟨(Nat.le_of_ble_eq_true rfl), (Nat.le_of_ble_eq_true rfl)⟩) (hw.preV (hC1.ord b hb) cl_O.1) rfl rfl hl.1 rfl (lv_room (Nat.le_of_ble_eq_true rfl)) d_B_exchange_9 ⟨(Nat.zero_le _), (Nat.zero_le _)⟩) (fun M1 H locs hp hw => ?_)
  rw [hp] at hw
  rw [← oc_gv] at hw
  obtain ⟨hC2, hf2⟩ := hC1.setO hn hb (J := gv (gv (sI σ) a q0) b q0) (fun f x hx => gv_o hx) (e := .inr (2, oc (gv (gv (sI σ) a q0) b q0) b)) rfl
  have hg := hw.noe
  obtain ⟨r3, xs, hA3, hE3, hxl, hT⟩ := hC2.trade hg
  have hxl : xs.length = stn σ := hxl
  refine lv_aload_n S.1 S.2.1 d_B_exchange_12 rfl (lv_at hl 0 rfl) ?_
  refine m_get S hw cl_B hC2.book 3 (by decide) g148 (fun _ h => h) rfl d_B_exchange_13 ?_
  refine lv_aload_n S.1 S.2.1 d_B_exchange_16 rfl (lv_at hl 1 rfl) ?_
  refine m_get S hw cl_O (hC2.ord a ha) 0 (by decide) g385 (fun _ h => h) rfl d_B_exchange_17 ?_
  refine lv_aload_n S.1 S.2.1 d_B_exchange_20 rfl (lv_at hl 2 rfl) ?_
  refine m_get S hw cl_O (hC2.ord b hb) 0 (by decide) g385 (fun _ h => h) rfl d_B_exchange_21 ?_
  refine lv_iload_n S.1 S.2.1 d_B_exchange_24 rfl (lv_at hl 3 rfl) ?_
  refine lv_iload S.1 S.2.1 d_B_exchange_25 (lv_at hl 4 rfl) ?_
  refine m_cv hw (va_runV (As := [.int (nI a), .int (nI b), .int p0, .int q0]) (rest := []) S (c_G_keep l γ (mU (mU M (oa a) (.inr (2, oc (gv (sI σ) a q0) a))) (oa b) (.inr (2, oc (gv (gv (sI σ) a q0) b q0) b))) (btl β) (bal β 3) r3 (cp 3) (sal σ) xs hC2.log hA3 hE3 (by omega) (nI a) (nI b) p0 q0) (m_cwV 4 S g535 g536 g537 g46 g538 rfl rfl ⟨by decide +kernel, by decide +kernel, by decide +kernel⟩ ⟨(Nat.le_of_ble_eq_true rfl), (Nat.le_of_ble_eq_true rfl)⟩) (hw.preV hC2.log cl_G.1) rfl rfl hl.1 rfl (lv_room (Nat.le_of_ble_eq_true rfl)) d_B_exchange_27 ⟨(by show 0 + 0 + 0 + (1 + gN (cp 3) xs.length) ≤ 1 + gN (cp 3) (stn σ); rw [hxl]; omega), (by show 0 + 0 + 0 + (4 + sN (cp 3) xs.length) ≤ 4 + sN (cp 3) (stn σ); rw [hxl]; omega)⟩) (fun M1 H locs hp hw => ?_)
  obtain ⟨q, r9, hq, hzq, hA9, hF9⟩ := hp
  obtain ⟨hC3, hf3⟩ := hT q r9 (nI a) (nI b) p0 q0 M1 (dT (sT σ) (stn σ) (nI a) (nI b) p0 q0) hq (hw.gz q hzq) (fun k i _ hi => dT_old (by have : i < stn σ := hi; omega)) dT_0 dT_1 dT_2 dT_3 hA9 hF9
  exact m_vret S hlk hr hw (⟨hC3, hf1.tr (hf2.tr hf3)⟩) (by show 0 + 0 + 0 + (1 + gN (cp 3) xs.length) ≤ 1 + gN (cp 3) (stn σ); rw [hxl]; omega) (by show 0 + 0 + 0 + (4 + sN (cp 3) xs.length) ≤ 4 + sN (cp 3) (stn σ); rw [hxl]; omega) d_B_exchange_30
end
section
/-! What holds of the numbers throughout -/
theorem i_sub {x y : Int32} (h1 : -(2 : Int) ^ 31 ≤ x.toInt - y.toInt) (h2 : x.toInt - y.toInt < (2 : Int) ^ 31) : (x - y).toInt = x.toInt - y.toInt := by
  rw [Int32.toInt_sub]
  exact Int.bmod_eq_of_le (by omega) (by omega)
theorem i_add {x y : Int32} (h1 : -(2 : Int) ^ 31 ≤ x.toInt + y.toInt) (h2 : x.toInt + y.toInt < (2 : Int) ^ 31) : (x + y).toInt = x.toInt + y.toInt := by
  rw [Int32.toInt_add]
  exact Int.bmod_eq_of_le (by omega) (by omega)
theorem i_1 : (1 : Int32).toInt = 1 := by decide
theorem i_m1 : (-1 : Int32).toInt = -1 := by decide
/-- an order that rests, as it should -/
def Rok (I : Co) (o : Nat) : Prop := 1 ≤ (I 3 o).toInt ∧ (I 3 o).toInt ≤ 100000 ∧ 1 ≤ (I 4 o).toInt ∧ ((I 8 o).toInt = 0 → (I 4 o).toInt = (I 3 o).toInt) ∧ (0 < (I 8 o).toInt → (I 4 o).toInt ≤ (I 3 o).toInt ∧ (I 4 o).toInt ≤ (I 8 o).toInt ∧ (I 3 o).toInt ≤ 50 * (I 8 o).toInt)
def Inv0 (σ : St) : Prop := sn σ ≤ 250 ∧ oOK (sI σ) (sn σ) ∧ (∀ o, o < sn σ → 0 ≤ (sI σ 8 o).toInt ∧ (sI σ 8 o).toInt ≤ 100000 ∧ -1 ≤ (sI σ 5 o).toInt ∧ (sI σ 5 o).toInt < (srk σ).toInt) ∧ 0 ≤ (srk σ).toInt ∧ ∀ o, o < sn σ → rs (sI σ) o = true → Rok (sI σ) o
theorem rs_iff {I : Co} {o : Nat} : rs I o = true ↔ 0 ≤ (I 5 o).toInt := by
  unfold rs
  rw [decide_eq_true_eq, Int32.le_iff_toInt_le, i0]
theorem shw_int {I : Co} {o : Nat} (hp : 0 ≤ (I 8 o).toInt) : (shw I o).toInt = if (I 8 o).toInt = 0 then (I 3 o).toInt else if (I 8 o).toInt < (I 3 o).toInt then (I 8 o).toInt else (I 3 o).toInt := by
  unfold shw
  by_cases h : 0 < I 8 o ∧ I 8 o < I 3 o
  · rw [if_pos h]
    have h1 := Int32.lt_iff_toInt_lt.mp h.1
    have h2 := Int32.lt_iff_toInt_lt.mp h.2
    rw [i0] at h1
    rw [if_neg (by omega), if_pos h2]
  · rw [if_neg h]
    by_cases h0 : (I 8 o).toInt = 0
    · rw [if_pos h0]
    · rw [if_neg h0, if_neg]
      intro h2
      exact h ⟨Int32.lt_iff_toInt_lt.mpr (by rw [i0]; omega), Int32.lt_iff_toInt_lt.mpr h2⟩
/-- the lines of the two sides -/
def LN (σ : St) (L : Nat → List Nat) : Prop := Line (sI σ) (sn σ) 1 (L 1) ∧ Line (sI σ) (sn σ) 0 (L 2)
theorem sj_val {b : Int32} (h : b = 0 ∨ b = 1) {I : Co} {n : Nat} {L : Nat → List Nat} (hL : Line I n 1 (L 1) ∧ Line I n 0 (L 2)) : Line I n b (L (sj b)) := by
  unfold sj
  rcases h with e | e
  · subst e; rw [if_pos rfl]; exact hL.2
  · subst e; rw [if_neg (by decide)]; exact hL.1
/-- an order comes to rest: line and invariants -/
theorem LN.rest {σ : St} {L : Nat → List Nat} {o k : Nat} (hI : Inv0 σ) (hL : LN σ L) (ho : o < sn σ) (hr : sI σ 5 o = -1) (hrk : (srk σ).toInt ≤ 2000000000) (hl1 : 1 ≤ (sI σ 3 o).toInt) (hl2 : (sI σ 3 o).toInt ≤ 100000) (hl3 : 0 < (sI σ 8 o).toInt → (sI σ 3 o).toInt ≤ 50 * (sI σ 8 o).toInt)
    (hk : k ≤ (L (sj (sI σ 1 o))).length) (hhi : ∀ x, x ∈ (L (sj (sI σ 1 o))).drop k → sb (s1 (s1 (sI σ) 4 o (shw (sI σ) o)) 5 o (srk σ)) o x = true) (hlo : ∀ x, (L (sj (sI σ 1 o)))[k - 1]? = some x → 0 < k → sb (s1 (s1 (sI σ) 4 o (shw (sI σ) o)) 5 o (srk σ)) o x = false) :
    Inv0 (xRest σ o) ∧ LN (xRest σ o) (fun k' => if k' = sj (sI σ 1 o) then (L (sj (sI σ 1 o))).insertIdx k o else L k') := by
  obtain ⟨i1, i2, i3, i4, i5⟩ := hI
  have eJ : s1 (s1 (sI σ) 4 o (shw (sI σ) o)) 5 o (srk σ) = sI (xRest σ o) := s1_comm (by decide)
  rw [eJ] at hhi hlo
  have c5 : ∀ x, x ≠ o → sI (xRest σ o) 5 x = sI σ 5 x := fun x hx => by show s1 (s1 (sI σ) 5 o (srk σ)) 4 o (shw (sI σ) o) 5 x = _; rw [s1_o hx, s1_o hx]
  have c5o : sI (xRest σ o) 5 o = srk σ := by show s1 (s1 (sI σ) 5 o (srk σ)) 4 o (shw (sI σ) o) 5 o = _; rw [s1_f (f' := 5) (f := 4) (by decide), s1_ss]
  have c1 : sI (xRest σ o) 1 = sI σ 1 := by show s1 (s1 (sI σ) 5 o (srk σ)) 4 o (shw (sI σ) o) 1 = _; rw [s1_f (by decide), s1_f (by decide)]
  have c2 : sI (xRest σ o) 2 = sI σ 2 := by show s1 (s1 (sI σ) 5 o (srk σ)) 4 o (shw (sI σ) o) 2 = _; rw [s1_f (by decide), s1_f (by decide)]
  have c3 : sI (xRest σ o) 3 = sI σ 3 := by show s1 (s1 (sI σ) 5 o (srk σ)) 4 o (shw (sI σ) o) 3 = _; rw [s1_f (by decide), s1_f (by decide)]
  have c8 : sI (xRest σ o) 8 = sI σ 8 := by show s1 (s1 (sI σ) 5 o (srk σ)) 4 o (shw (sI σ) o) 8 = _; rw [s1_f (by decide), s1_f (by decide)]
  have c4 : ∀ x, x ≠ o → sI (xRest σ o) 4 x = sI σ 4 x := fun x hx => by show s1 (s1 (sI σ) 5 o (srk σ)) 4 o (shw (sI σ) o) 4 x = _; rw [s1_o hx, s1_o hx]
  have c4o : sI (xRest σ o) 4 o = shw (sI σ) o := by show s1 (s1 (sI σ) 5 o (srk σ)) 4 o (shw (sI σ) o) 4 o = _; rw [s1_ss]
  have rk' : (srk (xRest σ o)).toInt = (srk σ).toInt + 1 := by
    show (srk σ + 1).toInt = _
    rw [i_add (by rw [i_1]; omega) (by rw [i_1]; omega), i_1]
  have hOK : oOK (sI (xRest σ o)) (sn σ) := by
    refine ⟨by rw [c1, c2]; exact i2.1, fun a b ha hb ra rb e => ?_⟩
    by_cases za : a = o
    · by_cases zb : b = o
      · rw [za, zb]
      · exfalso
        rw [za, c5o, c5 b zb] at e
        have := (i3 b hb).2.2.2
        rw [← e] at this
        omega
    · by_cases zb : b = o
      · exfalso
        rw [zb, c5o, c5 a za] at e
        have := (i3 a ha).2.2.2
        rw [e] at this
        omega
      · rw [c5 a za, c5 b zb] at e
        rw [rs_iff, c5 a za] at ra
        rw [rs_iff, c5 b zb] at rb
        exact i2.2 a b ha hb (rs_iff.mpr ra) (rs_iff.mpr rb) e
  have hside : sI σ 1 o = 0 ∨ sI σ 1 o = 1 := (i2.1 o ho).2.2
  have hno : rs (sI σ) o = false := by
    cases h : rs (sI σ) o with
    | false => rfl
    | true => rw [rs_iff, hr, i_m1] at h; omega
  have hnm : ∀ j, o ∉ L j ∨ j ≠ 1 ∧ j ≠ 2 := by
    intro j
    by_cases h1 : j = 1
    · left; subst h1; intro hm; have := ((hL.1.1 o).mp hm).2; rw [onS_iff, hno] at this; exact absurd this.1 (by decide)
    · by_cases h2 : j = 2
      · left; subst h2; intro hm; have := ((hL.2.1 o).mp hm).2; rw [onS_iff, hno] at this; exact absurd this.1 (by decide)
      · exact Or.inr ⟨h1, h2⟩
  have pr : ∀ x, x < sn σ → 0 ≤ (sI (xRest σ o) 2 x).toInt := fun x hx => by rw [c2]; exact (i2.1 x hx).1
  have hLj := sj_val hside hL
  have ins : Line (sI (xRest σ o)) (sn σ) (sI σ 1 o) ((L (sj (sI σ 1 o))).insertIdx k o) := by
    have mem : ∀ x, x ∈ L (sj (sI σ 1 o)) → x < sn σ := fun x hx => ((hLj.1 x).mp hx).1
    refine hLj.ins hOK ?_ ho (onS_iff.mpr ⟨rs_iff.mpr (by rw [c5o]; exact i4), by rw [c1]⟩) (fun x hx => ⟨by rw [c1], by rw [c2], c5 x hx⟩) hk (fun x hx => ?_) (fun x hx hp => ?_)
    · rcases hnm (sj (sI σ 1 o)) with h | h
      · exact h
      · rcases sj_or (sI σ 1 o) with e | e
        · exact absurd e h.1
        · exact absurd e h.2
    · rw [← sb_bf (pr o ho) (pr x (mem x (List.mem_of_mem_drop hx)))]; exact hhi x hx
    · rw [← sb_bf (pr o ho) (pr x (mem x (List.mem_of_getElem? hx)))]; exact hlo x hx hp
  have keep : ∀ (b : Int32) (K : List Nat), b ≠ sI σ 1 o → Line (sI σ) (sn σ) b K → Line (sI (xRest σ o)) (sn σ) b K := by
    intro b K hb hK
    have noto : ∀ x, x ∈ K → x ≠ o := fun x hx e => by
      have := ((hK.1 x).mp hx).2
      rw [onS_iff] at this
      exact hb (by rw [← this.2, e])
    refine ⟨fun x => ?_, List.Pairwise.imp_of_mem ?_ hK.2⟩
    · by_cases zx : x = o
      · constructor
        · intro hm; exact absurd zx (noto x hm)
        · rintro ⟨-, hs⟩
          rw [onS_iff, c1, zx] at hs
          exact absurd hs.2.symm hb
      · have e : onS (sI (xRest σ o)) b x = onS (sI σ) b x := by unfold onS rs; rw [c1, c5 x zx]
        rw [e]; exact hK.1 x
    · intro a c ha hc hac
      rw [bf_at (by rw [c1]) (by rw [c2]) (by rw [c2]) (c5 a (noto a ha)) (c5 c (noto c hc))]
      exact hac
  refine ⟨⟨i1, hOK, fun x hx => ?_, by rw [rk']; omega, fun x hx hs => ?_⟩, ?_⟩
  · obtain ⟨p1, p2, p3, p4⟩ := i3 x hx
    rw [c8, rk']
    by_cases zx : x = o
    · subst zx; rw [c5o]; exact ⟨p1, p2, by omega, by omega⟩
    · rw [c5 x zx]; exact ⟨p1, p2, p3, by omega⟩
  · by_cases zx : x = o
    · subst zx
      unfold Rok
      have hp := (i3 x ho).1
      rw [c3, c8, c4o, shw_int hp]
      refine ⟨hl1, hl2, ?_, fun h0 => by rw [if_pos h0], fun hpos => ?_⟩
      · split
        · exact hl1
        · split <;> omega
      · rw [if_neg (by omega)]
        refine ⟨?_, ?_, hl3 hpos⟩ <;> split <;> omega
    · rw [rs_iff, c5 x zx] at hs
      have := i5 x hx (rs_iff.mpr hs)
      unfold Rok at *
      rw [c3, c8, c4 x zx]
      exact this
  · rcases hside with e | e
    · rw [e] at ins keep ⊢
      have e2 : sj 0 = 2 := rfl
      rw [e2] at ins ⊢
      exact ⟨keep 1 _ (by decide) hL.1, ins⟩
    · rw [e] at ins keep ⊢
      have e2 : sj 1 = 1 := rfl
      rw [e2] at ins ⊢
      exact ⟨ins, keep 0 _ (by decide) hL.2⟩
end
section
/-! A trade of the order that comes with the one that rests -/
theorem dI_f {I : Co} {a b f : Nat} {q : Int32} (h3 : f ≠ 3) (h7 : f ≠ 7) : dI I a b q f = I f := by
  unfold dI
  rw [s1_f h7, s1_f h7, s1_f h3, s1_f h3]
theorem dI_o {I : Co} {a b f x : Nat} {q : Int32} (ha : x ≠ a) (hb : x ≠ b) : dI I a b q f x = I f x := by
  unfold dI
  rw [s1_o hb, s1_o ha, s1_o hb, s1_o ha]
theorem dI_3a {I : Co} {a b : Nat} {q : Int32} (h : a ≠ b) : dI I a b q 3 a = I 3 a - q := by
  unfold dI
  rw [s1_f (f' := 3) (f := 7) (by decide), s1_f (f' := 3) (f := 7) (by decide), s1_so h, s1_ss]
theorem dI_3b {I : Co} {a b : Nat} {q : Int32} (h : a ≠ b) : dI I a b q 3 b = I 3 b - q := by
  unfold dI
  rw [s1_f (f' := 3) (f := 7) (by decide), s1_f (f' := 3) (f := 7) (by decide), s1_ss, s1_so (fun z => h z.symm)]
def mn (x y : Int32) : Int32 := if y < x then y else x
theorem mn_int (x y : Int32) : (mn x y).toInt = if y.toInt < x.toInt then y.toInt else x.toInt := by
  unfold mn
  by_cases h : y < x
  · rw [if_pos h, if_pos (Int32.lt_iff_toInt_lt.mp h)]
  · rw [if_neg h, if_neg (fun z => h (Int32.lt_iff_toInt_lt.mpr z))]
def hQ (σ : St) (o r : Nat) : Int32 := mn (sI σ 3 o) (sI σ 4 r)
def xHit0 (σ : St) (o r : Nat) : St := ((sn σ, dI (s1 (sI σ) 4 r (sI σ 4 r - hQ σ o r)) o r (hQ σ o r)), σ.2.1, stn σ + 1, dT (sT σ) (stn σ) (if sI σ 1 o = 0 then nI r else nI o) (if sI σ 1 o = 0 then nI o else nI r) (sI σ 2 r) (hQ σ o r), sal σ + (hQ σ o r).toInt64)
def xOut (σ : St) (r : Nat) : St := ((sn σ, s1 (sI σ) 5 r (-1)), σ.2)
def xHit (σ : St) (o r : Nat) : St := if sI (xHit0 σ o r) 3 r = 0 then xEnd (xHit0 σ o r) r else if sI (xHit0 σ o r) 4 r = 0 then xRest (xHit0 σ o r) r else xHit0 σ o r
/-- all but that r rests as it should -/
def InvX (σ : St) (r : Nat) : Prop := sn σ ≤ 250 ∧ oOK (sI σ) (sn σ) ∧ (∀ o, o < sn σ → 0 ≤ (sI σ 8 o).toInt ∧ (sI σ 8 o).toInt ≤ 100000 ∧ -1 ≤ (sI σ 5 o).toInt ∧ (sI σ 5 o).toInt < (srk σ).toInt) ∧ 0 ≤ (srk σ).toInt ∧ ∀ o, o < sn σ → o ≠ r → rs (sI σ) o = true → Rok (sI σ) o
theorem Inv0.x {σ : St} (h : Inv0 σ) (r : Nat) : InvX σ r := ⟨h.1, h.2.1, h.2.2.1, h.2.2.2.1, fun o ho _ hs => h.2.2.2.2 o ho hs⟩
theorem InvX.of {σ : St} {r : Nat} (h : InvX σ r) (hr : rs (sI σ) r = true → Rok (sI σ) r) : Inv0 σ := ⟨h.1, h.2.1, h.2.2.1, h.2.2.2.1, fun o ho hs => by
  by_cases z : o = r
  · subst z; exact hr hs
  · exact h.2.2.2.2 o ho z hs⟩
/-- columns that no line looks at are written at r alone -/
theorem InvX.cols {σ τ : St} {r : Nat} (h : InvX σ r) (hn : sn τ = sn σ) (hrk : srk τ = srk σ) (h1 : sI τ 1 = sI σ 1) (h2 : sI τ 2 = sI σ 2) (h5 : sI τ 5 = sI σ 5) (h8 : sI τ 8 = sI σ 8) (h34 : ∀ x, x < sn σ → x ≠ r → rs (sI σ) x = true → sI τ 3 x = sI σ 3 x ∧ sI τ 4 x = sI σ 4 x) : InvX τ r := by
  obtain ⟨i1, i2, i3, i4, i5⟩ := h
  refine ⟨by rw [hn]; exact i1, by rw [hn]; exact i2.cols h1 h2 h5, fun o ho => ?_, by rw [hrk]; exact i4, fun o ho hne hs => ?_⟩
  · rw [hn] at ho; rw [h8, h5, hrk]; exact i3 o ho
  · rw [hn] at ho
    have hs' : rs (sI σ) o = true := by rw [rs_iff] at *; rw [← h5]; exact hs
    obtain ⟨e3, e4⟩ := h34 o ho hne hs'
    have := i5 o ho hne hs'
    unfold Rok at *
    rw [e3, e4, h8]
    exact this
theorem LN.cols {σ τ : St} {L : Nat → List Nat} (h : LN σ L) (hn : sn τ = sn σ) (h1 : sI τ 1 = sI σ 1) (h2 : sI τ 2 = sI σ 2) (h5 : sI τ 5 = sI σ 5) : LN τ L := by
  unfold LN at *
  rw [hn]
  exact ⟨h.1.cols h1 h2 h5, h.2.cols h1 h2 h5⟩
/-- r leaves its line -/
theorem LN.out {σ : St} {L : Nat → List Nat} {r k : Nat} (hI : InvX σ r) (hL : LN σ L) (hr : r < sn σ) (hk : (L (sj (sI σ 1 r)))[k]? = some r) : Inv0 (xOut σ r) ∧ LN (xOut σ r) (fun k' => if k' = sj (sI σ 1 r) then (L (sj (sI σ 1 r))).eraseIdx k else L k') := by
  obtain ⟨i1, i2, i3, i4, i5⟩ := hI
  have c5 : ∀ x, x ≠ r → sI (xOut σ r) 5 x = sI σ 5 x := fun x hx => s1_o (I := sI σ) (f := 5) (f' := 5) (v := -1) hx
  have c5r : sI (xOut σ r) 5 r = -1 := s1_ss (sI σ) 5 r (-1)
  have cf : ∀ f, f ≠ 5 → sI (xOut σ r) f = sI σ f := fun f hf => s1_f (I := sI σ) (f := 5) (v := -1) (o := r) hf
  have hno : rs (sI (xOut σ r)) r = false := by
    cases h : rs (sI (xOut σ r)) r with
    | false => rfl
    | true => rw [rs_iff, c5r, i_m1] at h; omega
  have hside := (i2.1 r hr).2.2
  have del : Line (sI (xOut σ r)) (sn σ) (sI σ 1 r) ((L (sj (sI σ 1 r))).eraseIdx k) := (sj_val hside hL).del hk (by
    cases h : onS (sI (xOut σ r)) (sI σ 1 r) r with
    | false => rfl
    | true => rw [onS_iff, hno] at h; exact absurd h.1 (by decide)) (fun x hx => ⟨by rw [cf 1 (by decide)], by rw [cf 2 (by decide)], c5 x hx⟩)
  have keep : ∀ (b : Int32) (K : List Nat), b ≠ sI σ 1 r → Line (sI σ) (sn σ) b K → Line (sI (xOut σ r)) (sn σ) b K := by
    intro b K hb hK
    have notr : ∀ x, x ∈ K → x ≠ r := fun x hx e => by
      have := ((hK.1 x).mp hx).2
      rw [onS_iff] at this
      exact hb (by rw [← this.2, e])
    refine ⟨fun x => ?_, List.Pairwise.imp_of_mem ?_ hK.2⟩
    · by_cases zx : x = r
      · constructor
        · intro hm; exact absurd zx (notr x hm)
        · rintro ⟨-, hs⟩
          rw [onS_iff, zx, hno] at hs
          exact absurd hs.1 (by decide)
      · have e : onS (sI (xOut σ r)) b x = onS (sI σ) b x := by unfold onS rs; rw [cf 1 (by decide), c5 x zx]
        rw [e]; exact hK.1 x
    · intro a c ha hc hac
      rw [bf_at (by rw [cf 1 (by decide)]) (by rw [cf 2 (by decide)]) (by rw [cf 2 (by decide)]) (c5 a (notr a ha)) (c5 c (notr c hc))]
      exact hac
  refine ⟨⟨i1, ⟨fun o ho => by rw [cf 2 (by decide), cf 1 (by decide)]; exact i2.1 o ho, fun a b ha hb ra rb e => ?_⟩, fun o ho => ?_, i4, fun o ho hs => ?_⟩, ?_⟩
  · by_cases za : a = r
    · rw [za, hno] at ra; cases ra
    · by_cases zb : b = r
      · rw [zb, hno] at rb; cases rb
      · rw [c5 a za, c5 b zb] at e
        rw [rs_iff, c5 a za] at ra
        rw [rs_iff, c5 b zb] at rb
        exact i2.2 a b ha hb (rs_iff.mpr ra) (rs_iff.mpr rb) e
  · obtain ⟨p1, p2, p3, p4⟩ := i3 o ho
    rw [cf 8 (by decide)]
    show 0 ≤ (sI σ 8 o).toInt ∧ (sI σ 8 o).toInt ≤ 100000 ∧ -1 ≤ (sI (xOut σ r) 5 o).toInt ∧ (sI (xOut σ r) 5 o).toInt < (srk σ).toInt
    by_cases zo : o = r
    · subst zo; rw [c5r, i_m1]; exact ⟨p1, p2, by omega, by omega⟩
    · rw [c5 o zo]; exact ⟨p1, p2, p3, p4⟩
  · by_cases zo : o = r
    · rw [zo, hno] at hs; cases hs
    · rw [rs_iff, c5 o zo] at hs
      have := i5 o ho zo (rs_iff.mpr hs)
      unfold Rok at *
      rw [cf 3 (by decide), cf 4 (by decide), cf 8 (by decide)]
      exact this
  · rcases hside with e | e
    · rw [e] at del keep ⊢
      have e2 : sj 0 = 2 := rfl
      rw [e2] at del ⊢
      exact ⟨keep 1 _ (by decide) hL.1, del⟩
    · rw [e] at del keep ⊢
      have e2 : sj 1 = 1 := rfl
      rw [e2] at del ⊢
      exact ⟨del, keep 0 _ (by decide) hL.2⟩
/-- an order ends: out of its line -/
theorem LN.ende {σ : St} {L : Nat → List Nat} {r k : Nat} (hI : InvX σ r) (hL : LN σ L) (hr : r < sn σ) (hk : (L (sj (sI σ 1 r)))[k]? = some r) : Inv0 (xEnd σ r) ∧ LN (xEnd σ r) (fun k' => if k' = sj (sI σ 1 r) then (L (sj (sI σ 1 r))).eraseIdx k else L k') := by
  obtain ⟨h1, h2⟩ := LN.out hI hL hr hk
  rw [← xEnd_eq]
  have cc : ∀ f, f ≠ 3 → f ≠ 4 → s1 (s1 (s1 (sI σ) 5 r (-1)) 3 r 0) 4 r 0 f = sI (xOut σ r) f := fun f h3 h4 => by rw [s1_f h4, s1_f h3]; rfl
  refine ⟨((h1.x r).cols (τ := ((sn σ, s1 (s1 (s1 (sI σ) 5 r (-1)) 3 r 0) 4 r 0), σ.2)) rfl rfl (cc 1 (by decide) (by decide)) (cc 2 (by decide) (by decide)) (cc 5 (by decide) (by decide)) (cc 8 (by decide) (by decide)) (fun x _ hx _ => ⟨?_, ?_⟩)).of (fun hs => ?_), h2.cols (τ := ((sn σ, s1 (s1 (s1 (sI σ) 5 r (-1)) 3 r 0) 4 r 0), σ.2)) rfl (cc 1 (by decide) (by decide)) (cc 2 (by decide) (by decide)) (cc 5 (by decide) (by decide))⟩
  · show s1 (s1 (s1 (sI σ) 5 r (-1)) 3 r 0) 4 r 0 3 x = _; rw [s1_o hx, s1_o hx]; rfl
  · show s1 (s1 (s1 (sI σ) 5 r (-1)) 3 r 0) 4 r 0 4 x = _; rw [s1_o hx, s1_o hx]; rfl
  · exfalso
    rw [rs_iff] at hs
    have e : sI ((sn σ, s1 (s1 (s1 (sI σ) 5 r (-1)) 3 r 0) 4 r 0), σ.2) 5 r = -1 := by show s1 (s1 (s1 (sI σ) 5 r (-1)) 3 r 0) 4 r 0 5 r = _; rw [s1_f (f' := 5) (f := 4) (by decide), s1_f (f' := 5) (f := 3) (by decide), s1_ss]
    rw [e, i_m1] at hs
    omega
/-- one that doesn't rest ends -/
theorem LN.endN {σ : St} {L : Nat → List Nat} {r : Nat} (hI : Inv0 σ) (hL : LN σ L) (h5 : sI σ 5 r = -1) : Inv0 (xEnd σ r) ∧ LN (xEnd σ r) L := by
  rw [← xEnd_eq0 h5]
  have cc : ∀ f, f ≠ 3 → f ≠ 4 → s1 (s1 (sI σ) 3 r 0) 4 r 0 f = sI σ f := fun f h3 h4 => by rw [s1_f h4, s1_f h3]
  refine ⟨((hI.x r).cols (τ := ((sn σ, s1 (s1 (sI σ) 3 r 0) 4 r 0), σ.2)) rfl rfl (cc 1 (by decide) (by decide)) (cc 2 (by decide) (by decide)) (cc 5 (by decide) (by decide)) (cc 8 (by decide) (by decide)) (fun x _ hx _ => ⟨?_, ?_⟩)).of (fun hs => ?_), hL.cols (τ := ((sn σ, s1 (s1 (sI σ) 3 r 0) 4 r 0), σ.2)) rfl (cc 1 (by decide) (by decide)) (cc 2 (by decide) (by decide)) (cc 5 (by decide) (by decide))⟩
  · show s1 (s1 (sI σ) 3 r 0) 4 r 0 3 x = _; rw [s1_o hx, s1_o hx]
  · show s1 (s1 (sI σ) 3 r 0) 4 r 0 4 x = _; rw [s1_o hx, s1_o hx]
  · exfalso
    rw [rs_iff] at hs
    have e : sI ((sn σ, s1 (s1 (sI σ) 3 r 0) 4 r 0), σ.2) 5 r = -1 := (congrFun (cc 5 (by decide) (by decide)) r).trans h5
    rw [e, i_m1] at hs
    omega
section HIT
variable {σ : St} {o r : Nat}
theorem hit_f {f : Nat} (h3 : f ≠ 3) (h4 : f ≠ 4) (h7 : f ≠ 7) : sI (xHit0 σ o r) f = sI σ f := by
  show dI (s1 (sI σ) 4 r (sI σ 4 r - hQ σ o r)) o r (hQ σ o r) f = _
  rw [dI_f h3 h7, s1_f h4]
theorem hit_4r : sI (xHit0 σ o r) 4 r = sI σ 4 r - hQ σ o r := by
  show dI (s1 (sI σ) 4 r (sI σ 4 r - hQ σ o r)) o r (hQ σ o r) 4 r = _
  rw [dI_f (by decide) (by decide), s1_ss]
theorem hit_4x {x : Nat} (h : x ≠ r) : sI (xHit0 σ o r) 4 x = sI σ 4 x := by
  show dI (s1 (sI σ) 4 r (sI σ 4 r - hQ σ o r)) o r (hQ σ o r) 4 x = _
  rw [dI_f (by decide) (by decide), s1_so h]
theorem hit_3r (h : o ≠ r) : sI (xHit0 σ o r) 3 r = sI σ 3 r - hQ σ o r := by
  show dI (s1 (sI σ) 4 r (sI σ 4 r - hQ σ o r)) o r (hQ σ o r) 3 r = _
  rw [dI_3b h, s1_f (f' := 3) (f := 4) (by decide)]
theorem hit_3o (h : o ≠ r) : sI (xHit0 σ o r) 3 o = sI σ 3 o - hQ σ o r := by
  show dI (s1 (sI σ) 4 r (sI σ 4 r - hQ σ o r)) o r (hQ σ o r) 3 o = _
  rw [dI_3a h, s1_f (f' := 3) (f := 4) (by decide)]
theorem hit_x {f x : Nat} (ho : x ≠ o) (hr : x ≠ r) : sI (xHit0 σ o r) f x = sI σ f x := by
  show dI (s1 (sI σ) 4 r (sI σ 4 r - hQ σ o r)) o r (hQ σ o r) f x = _
  rw [dI_o ho hr, s1_o hr]
/-- how much is traded -/
theorem hit_q (hI : Inv0 σ) (hr : r < sn σ) (hs : rs (sI σ) r = true) (hl : 1 ≤ (sI σ 3 o).toInt) : 1 ≤ (hQ σ o r).toInt ∧ (hQ σ o r).toInt ≤ (sI σ 4 r).toInt ∧ (hQ σ o r).toInt ≤ (sI σ 3 o).toInt ∧ (sI σ 4 r).toInt ≤ (sI σ 3 r).toInt ∧ ((hQ σ o r).toInt = (sI σ 4 r).toInt ∨ (hQ σ o r).toInt = (sI σ 3 o).toInt) := by
  obtain ⟨k1, k2, k3, k4, k5⟩ := hI.2.2.2.2 r hr hs
  have hp := (hI.2.2.1 r hr).1
  unfold hQ
  rw [mn_int]
  by_cases h0 : (sI σ 8 r).toInt = 0
  · have := k4 h0
    split <;> omega
  · have := k5 (by omega)
    split <;> omega
theorem hit_inv {L : Nat → List Nat} (hI : Inv0 σ) (hL : LN σ L) (h5 : sI σ 5 o = -1) : InvX (xHit0 σ o r) r ∧ LN (xHit0 σ o r) L := by
  refine ⟨(hI.x r).cols (τ := xHit0 σ o r) rfl rfl (hit_f (by decide) (by decide) (by decide)) (hit_f (by decide) (by decide) (by decide)) (hit_f (by decide) (by decide) (by decide)) (hit_f (by decide) (by decide) (by decide)) (fun x _ hx hs => ?_), hL.cols (τ := xHit0 σ o r) rfl (hit_f (by decide) (by decide) (by decide)) (hit_f (by decide) (by decide) (by decide)) (hit_f (by decide) (by decide) (by decide))⟩
  have hxo : x ≠ o := fun z => by rw [rs_iff, z, h5, i_m1] at hs; omega
  exact ⟨hit_x hxo hx, hit_x hxo hx⟩
theorem hit_rok (hI : Inv0 σ) (hr : r < sn σ) (hor : o ≠ r) (hs : rs (sI σ) r = true) (hl : 1 ≤ (sI σ 3 o).toInt) (h3 : ¬ sI (xHit0 σ o r) 3 r = 0) (h4 : ¬ sI (xHit0 σ o r) 4 r = 0) : Rok (sI (xHit0 σ o r)) r := by
  obtain ⟨k1, k2, k3, k4, k5⟩ := hI.2.2.2.2 r hr hs
  obtain ⟨q1, q2, q3, q4, -⟩ := hit_q (o := o) hI hr hs hl
  have e3 : (sI (xHit0 σ o r) 3 r).toInt = (sI σ 3 r).toInt - (hQ σ o r).toInt := by rw [hit_3r hor]; exact i_sub (by omega) (by omega)
  have e4 : (sI (xHit0 σ o r) 4 r).toInt = (sI σ 4 r).toInt - (hQ σ o r).toInt := by rw [hit_4r]; exact i_sub (by omega) (by omega)
  have e8 : sI (xHit0 σ o r) 8 r = sI σ 8 r := congrFun (hit_f (by decide) (by decide) (by decide)) r
  have n3 : (sI (xHit0 σ o r) 3 r).toInt ≠ 0 := fun z => h3 (Int32.toInt_inj.mp (z.trans i0.symm))
  have n4 : (sI (xHit0 σ o r) 4 r).toInt ≠ 0 := fun z => h4 (Int32.toInt_inj.mp (z.trans i0.symm))
  unfold Rok
  rw [e8]
  rw [e3] at n3 ⊢
  rw [e4] at n4 ⊢
  refine ⟨by omega, by omega, by omega, fun h0 => by have := k4 h0; omega, fun hp => ?_⟩
  have := k5 hp
  omega
end HIT
theorem xRest_out {σ : St} {r : Nat} : xRest (xOut σ r) r = xRest σ r := by
  unfold xRest xOut
  have e : shw (s1 (sI σ) 5 r (-1)) r = shw (sI σ) r := by unfold shw; rw [s1_f (f' := 8) (f := 5) (by decide), s1_f (f' := 3) (f := 5) (by decide)]
  show ((sn σ, s1 (s1 (s1 (sI σ) 5 r (-1)) 5 r (srk σ)) 4 r (shw (s1 (sI σ) 5 r (-1)) r)), _, _) = _
  rw [s1_self, e]
/-- a line's order has left it -/
theorem CB.left {γ : mG} {M M1 : mMap} {β : BK} {oa cp : Nat → Nat} {L : Nat → List Nat} {σ : St} (hC : CB γ M β oa cp L σ) (hn : sn σ ≤ 250) {o k r0 : Nat} (ho : o < sn σ) (hg : M (ge γ) = none) (hA0 : AL γ M (bal β (sj (sI σ 1 o))) r0 (cp (sj (sI σ 1 o))) ((L (sj (sI σ 1 o))).map oa)) (hA9 : AL γ M1 (bal β (sj (sI σ 1 o))) r0 (cp (sj (sI σ 1 o))) (((L (sj (sI σ 1 o))).map oa).eraseIdx k))
    (hF9 : alF (mU M (oa o) (.inr (2, [.int (nI o), .int (sI σ 0 o), .int (sI σ 1 o), .int (sI σ 8 o), .int (sI σ 6 o), .int (sI σ 2 o), .int (sI σ 3 o), .int (sI σ 4 o), .int (-1), .int (sI σ 7 o)]))) M1 (bal β (sj (sI σ 1 o))) r0 r0) : CB γ M1 β oa cp (fun k' => if k' = sj (sI σ 1 o) then (L (sj (sI σ 1 o))).eraseIdx k else L k') (xOut σ o) ∧ frC M M1 := by
  rw [← map_del] at hA9
  rw [← oc_5] at hF9
  have hOo := hC.ord o ho
  obtain ⟨hC1, hf1⟩ := hC.setO hn ho (J := s1 (sI σ) 5 o (-1)) (fun f x hx => s1_o hx) (e := .inr (2, oc (s1 (sI σ) 5 o (-1)) o)) rfl
  have hg1 := mU_g (e := .inr (2, oc (s1 (sI σ) 5 o (-1)) o)) hg hOo
  obtain ⟨hC2, hf2⟩ := hC1.line hg1 (sj_or _) (hA0.setO hOo (by decide)) hA9 hF9
  rw [up_same] at hC2
  exact ⟨hC2, hf1.tr hf2⟩
theorem out_f {σ : St} {r f : Nat} (h : f ≠ 5) : sI (xOut σ r) f = sI σ f := by
  show s1 (sI σ) 5 r (-1) f = _
  rw [s1_f h]
theorem nd_len : ∀ (n : Nat) (L : List Nat), L.Nodup → (∀ x, x ∈ L → x < n) → L.length ≤ n := by
  intro n
  induction n with
  | zero =>
    intro L _ h
    cases L with
    | nil => exact Nat.le_refl _
    | cons a t => exact absurd (h a List.mem_cons_self) (Nat.not_lt_zero a)
  | succ n ih =>
    intro L hn h
    by_cases hm : n ∈ L
    · have h1 := ih (L.erase n) (hn.erase n) (fun x hx => by
        have := (List.Nodup.mem_erase_iff hn).mp hx
        have := h x this.2
        omega)
      rw [List.length_erase_of_mem hm] at h1
      omega
    · have := ih L hn (fun x hx => by
        have h1 := h x hx
        have : x ≠ n := fun z => hm (z ▸ hx)
        omega)
      omega
theorem Line.len {I : Co} {n : Nat} {s : Int32} {L : List Nat} (h : Line I n s L) (hn : n ≤ 250) : L.length ≤ 250 := Nat.le_trans (nd_len n L h.nodup (fun x hx => ((h.1 x).mp hx).1)) hn
end
section
/-! CallBook.tradeWithShown -/
theorem hit_left {σ : St} {o r : Nat} (hI : Inv0 σ) (hr : r < sn σ) (hor : o ≠ r) (hs : rs (sI σ) r = true) (hl : 1 ≤ (sI σ 3 o).toInt) (h3 : ¬ sI (xHit0 σ o r) 3 r = 0) : (sI (xOut (xHit0 σ o r) r) 3 r).toInt = (sI σ 3 r).toInt - (hQ σ o r).toInt ∧ 1 ≤ (sI (xOut (xHit0 σ o r) r) 3 r).toInt ∧ (sI (xOut (xHit0 σ o r) r) 3 r).toInt ≤ 100000 ∧ (0 < (sI (xOut (xHit0 σ o r) r) 8 r).toInt → (sI (xOut (xHit0 σ o r) r) 3 r).toInt ≤ 50 * (sI (xOut (xHit0 σ o r) r) 8 r).toInt) := by
  obtain ⟨k1, k2, k3, k4, k5⟩ := hI.2.2.2.2 r hr hs
  obtain ⟨q1, q2, q3, q4, -⟩ := hit_q (o := o) hI hr hs hl
  have e3 : (sI (xHit0 σ o r) 3 r).toInt = (sI σ 3 r).toInt - (hQ σ o r).toInt := by rw [hit_3r hor]; exact i_sub (by omega) (by omega)
  have e8 : sI (xHit0 σ o r) 8 r = sI σ 8 r := congrFun (hit_f (by decide) (by decide) (by decide)) r
  have n3 : (sI (xHit0 σ o r) 3 r).toInt ≠ 0 := fun z => h3 (Int32.toInt_inj.mp (z.trans i0.symm))
  have o3 : sI (xOut (xHit0 σ o r) r) 3 r = sI (xHit0 σ o r) 3 r := congrFun (out_f (by decide)) r
  have o8 : sI (xOut (xHit0 σ o r) r) 8 r = sI (xHit0 σ o r) 8 r := congrFun (out_f (by decide)) r
  rw [o3, o8, e8, e3]
  rw [e3] at n3
  refine ⟨rfl, by omega, by omega, fun hp => ?_⟩
  have := k5 hp
  omega
set_option maxHeartbeats 4000000 in
set_option maxRecDepth 100000 in
theorem c_B_tradeWithShown (l : Launch) (γ : mG) (M : mMap) (β : BK) (oa cp : Nat → Nat) (L : Nat → List Nat) (σ : St) (hC : CB γ M β oa cp L σ) (hI : Inv0 σ) (hL : LN σ L) (o r1 : Nat) (ho : o < sn σ) (hr1 : r1 < sn σ) (hor : o ≠ r1) (h5 : sI σ 5 o = -1) (hlv : 1 ≤ (sI σ 3 o).toInt) (hs1 : rs (sI σ) r1 = true) (hk : (L (sj (sI σ 1 r1)))[0]? = some r1) (htn : stn σ < 30000) (hrk : (srk σ).toInt ≤ 1000000000) : Met l y_B_tradeWithShown w_B_tradeWithShown ({ frames := 9, cells := 1 + gN (cp 3) (stn σ), slots := 4 + sN (cp 3) (stn σ), locals := 227 } : Room) (mPc γ M [.ref (bx β), .ref (oa o), .ref (oa r1)]) (mQv γ (fun M' => ∃ L', CB γ M' β oa (va_up cp 3 (cN (cp 3) (stn σ))) L' (xHit σ o r1) ∧ Inv0 (xHit σ o r1) ∧ LN (xHit σ o r1) L' ∧ frC M M')) (1 + gN (cp 3) (stn σ)) (4 + sN (cp 3) (stn σ)) (mA (gz γ)) := by
  refine m_enter (by decide) (Nat.le_of_ble_eq_true rfl) ?_
  intro p e s m below meth c ls S hr hlk hnm hl hw
  have hl : lv_has ls 4 [(0, .ref (bx β)), (1, .ref (oa o)), (2, .ref (oa r1))] := hl
  have hn := hI.1
  have hOo := hC.ord o ho
  have hOr := hC.ord r1 hr1
  have hne := hC.ord.ne hn ho hr1 hor
  have hrk1 : (srk (xOut (xHit0 σ o r1) r1)).toInt ≤ 2000000000 := by show (srk σ).toInt ≤ _; omega
  refine lv_aload_n S.1 S.2.1 d_B_tradeWithShown_0 rfl (lv_at hl 1 rfl) ?_
  refine m_get S hw cl_O hOo 6 (by decide) g398 (fun _ h => h) rfl d_B_tradeWithShown_1 ?_
  refine lv_aload_n S.1 S.2.1 d_B_tradeWithShown_4 rfl (lv_at hl 2 rfl) ?_
  refine m_get S hw cl_O hOr 7 (by decide) g400 (fun _ h => h) rfl d_B_tradeWithShown_5 ?_
  refine va_mmin S.1 S.2.1 (S.2.2.1.trans hl.1.symm) S.2.2.2.1 (S.2.2.2.2 _ (gc g526)) (S.2.2.2.2 _ (gc g241)) (S.2.2.2.2 _ (gc g56)) (S.2.2.2.2 _ (gc g242)) (Nat.le_of_ble_eq_true rfl) (Nat.le_of_ble_eq_true rfl) (Nat.zero_le _) (Nat.zero_le _) d_B_tradeWithShown_8 ?_
  refine W.eq (g2 := F0 m 11 ls [.int (hQ σ o r1)]) (congrArg (fun z => F0 m 11 ls [.int z]) rfl) ?_
  refine lv_istore_n S.1 S.2.1 d_B_tradeWithShown_11 rfl hl (by decide) rfl (fun ls hl => ?_)
  have hl : lv_has ls 4 [(3, .int (hQ σ o r1)), (0, .ref (bx β)), (1, .ref (oa o)), (2, .ref (oa r1))] := hl
  refine lv_aload_n S.1 S.2.1 d_B_tradeWithShown_12 rfl (lv_at hl 3 rfl) ?_
  refine lv_dup S.1 S.2.1 d_B_tradeWithShown_13 rfl ?_
  refine m_get S hw cl_O hOr 7 (by decide) g400 (fun _ h => h) rfl d_B_tradeWithShown_14 ?_
  refine lv_iload_n S.1 S.2.1 d_B_tradeWithShown_17 rfl (lv_at hl 0 rfl) ?_
  refine lv_isub S.1 S.2.1 d_B_tradeWithShown_18 ?_
  refine m_put S hw cl_O hOr 7 (by decide) g400 (fun _ h => h) rfl rfl rfl (Nat.le_of_ble_eq_true rfl) d_B_tradeWithShown_19 (fun H locs hw => ?_)
  have hw : mW γ (mU M (oa r1) (.inr (2, [.int (nI r1), .int ((sI σ) 0 r1), .int ((sI σ) 1 r1), .int ((sI σ) 8 r1), .int ((sI σ) 6 r1), .int ((sI σ) 2 r1), .int ((sI σ) 3 r1), .int (((sI σ) 4 r1) - (hQ σ o r1)), .int ((sI σ) 5 r1), .int ((sI σ) 7 r1)]))) s H locs := hw
  rw [← oc_4] at hw
  obtain ⟨hC1, hf1⟩ := hC.setO hn hr1 (J := s1 (sI σ) 4 r1 (sI σ 4 r1 - hQ σ o r1)) (fun f x hx => s1_o hx) (e := .inr (2, oc (s1 (sI σ) 4 r1 (sI σ 4 r1 - hQ σ o r1)) r1)) rfl
  have hb1 : (s1 (sI σ) 4 r1 (sI σ 4 r1 - hQ σ o r1)) 1 o = sI σ 1 o := by rw [s1_f (by decide)]
  have hp1 : (s1 (sI σ) 4 r1 (sI σ 4 r1 - hQ σ o r1)) 2 r1 = sI σ 2 r1 := by rw [s1_f (by decide)]
  obtain ⟨hIX, hLX⟩ := hit_inv (r := r1) hI hL h5
  have hside : sI (xHit0 σ o r1) 1 r1 = sI σ 1 r1 := congrFun (hit_f (by decide) (by decide) (by decide)) r1
  have hr5 : ¬ sI (xHit0 σ o r1) 5 r1 = -1 := by rw [congrFun (hit_f (by decide) (by decide) (by decide)) r1]; intro z; rw [rs_iff, z, i_m1] at hs1; omega
  have hLj : Line (sI (xHit0 σ o r1)) (sn σ) (sI σ 1 r1) (L (sj (sI σ 1 r1))) := sj_val (hI.2.1.1 r1 hr1).2.2 hLX
  have hnd := hLj.nodup
  have hmem : ∀ y, y ∈ L (sj (sI σ 1 r1)) → y < sn σ := fun y hy => ((hLj.1 y).mp hy).1
  have hk0 : (L (sj (sI (xHit0 σ o r1) 1 r1)))[0]? = some r1 := by rw [hside]; exact hk
  have tail : ∀ (M2 : mMap) (H : Heap) (locs : List Loc) (ls : Array Slot), CB γ M2 β oa (va_up cp 3 (cN (cp 3) (stn σ))) L (xHit0 σ o r1) → frC M M2 → lv_has ls 4 [(3, .int (hQ σ o r1)), (0, .ref (bx β)), (1, .ref (oa o)), (2, .ref (oa r1))] → mW γ M2 s H locs → W p l e ({ frames := 9, cells := 1 + gN (cp 3) (stn σ), slots := 4 + sN (cp 3) (stn σ), locals := 227 } : Room) s m #[.ref (bx β), .ref (oa o), .ref (oa r1)] below meth c H locs (0 + (1 + gN (cp 3) (stn σ))) (0 + (4 + sN (cp 3) (stn σ))) (MQ below (mQv γ (fun M' => ∃ L', CB γ M' β oa (va_up cp 3 (cN (cp 3) (stn σ))) L' (xHit σ o r1) ∧ Inv0 (xHit σ o r1) ∧ LN (xHit σ o r1) L' ∧ frC M M')) #[.ref (bx β), .ref (oa o), .ref (oa r1)] s (1 + gN (cp 3) (stn σ)) (4 + sN (cp 3) (stn σ)) (mA (gz γ))) (F0 m 54 ls []) := by
    intro M2 H locs ls hC2 hf2 hl hw
    have hlenL : (L (sj (sI σ 1 r1))).length ≤ 250 := Line.len hLj hn
    refine lv_aload_n S.1 S.2.1 d_B_tradeWithShown_54 rfl (lv_at hl 3 rfl) ?_
    refine m_get S hw cl_O (hC2.ord r1 hr1) 6 (by decide) g398 (fun _ h => h) rfl d_B_tradeWithShown_55 ?_
    refine lv_if_ne (tgt := 69) S.1 S.2.1 d_B_tradeWithShown_58 rfl (fun h58 => ?_) (fun h58 => ?_)
    · refine lv_aload_n S.1 S.2.1 d_B_tradeWithShown_69 rfl (lv_at hl 3 rfl) ?_
      refine m_get S hw cl_O (hC2.ord r1 hr1) 7 (by decide) g400 (fun _ h => h) rfl d_B_tradeWithShown_70 ?_
      refine lv_if_ne (tgt := 93) S.1 S.2.1 d_B_tradeWithShown_73 rfl (fun h73 => ?_) (fun h73 => ?_)
      · exact m_vret S hlk hr hw (⟨L, by unfold xHit; rw [if_neg h58, if_neg h73]; exact hC2, by unfold xHit; rw [if_neg h58, if_neg h73]; exact hIX.of (fun _ => hit_rok hI hr1 hor hs1 hlv h58 h73), by unfold xHit; rw [if_neg h58, if_neg h73]; exact hLX, hf2⟩) (Nat.le_of_eq (Nat.zero_add _)) (Nat.le_of_eq (Nat.zero_add _)) d_B_tradeWithShown_93
      · refine lv_aload_n S.1 S.2.1 d_B_tradeWithShown_76 rfl (lv_at hl 1 rfl) ?_
        refine lv_aload_n S.1 S.2.1 d_B_tradeWithShown_77 rfl (lv_at hl 3 rfl) ?_
        refine m_get S hw cl_O (hC2.ord r1 hr1) 2 (by decide) g389 (fun _ h => h) rfl d_B_tradeWithShown_78 ?_
        refine m_cq hw (va_runV (As := [.int ((sI (xHit0 σ o r1)) 1 r1)]) (rest := []) S (c_B_side l γ M2 β σ.2.1 hC2.book (sI (xHit0 σ o r1) 1 r1)) (m_cwV 1 S g181 g183 g0 g41 g184 rfl rfl ⟨by decide +kernel, by decide +kernel, by decide +kernel⟩ ⟨(Nat.le_of_ble_eq_true rfl), (Nat.le_of_ble_eq_true rfl)⟩) (hw.preV hC2.book cl_B.1) rfl rfl hl.1 rfl (lv_room (Nat.le_of_ble_eq_true rfl)) d_B_tradeWithShown_81 ⟨(by show 0 + (1 + gN (cp 3) (stn σ)) + 0 ≤ 1 + gN (cp 3) (stn σ); omega), (by show 0 + (4 + sN (cp 3) (stn σ)) + 0 ≤ 4 + sN (cp 3) (stn σ); omega)⟩) (fun r1 M1 H locs hp hw => ?_)
        obtain ⟨rfl, hM1⟩ := hp
        rw [hM1] at hw
        have hg2 := hw.noe
        obtain ⟨r0, hA0⟩ := hC2.list (sj_or (sI (xHit0 σ o r1) 1 r1))
        have hE0 : mEl M2 2 ((L (sj (sI (xHit0 σ o r1) 1 r1))).map oa) := hC2.ord.el (by rw [hside]; exact hmem)
        obtain ⟨hk1, hk2⟩ := map_first (oa := oa) hk0 (by rw [hside]; exact hnd) (by rw [hside]; exact hmem) (fun a b ha hb e => hC2.ord.inj hn ha hb e)
        refine lv_aload_n S.1 S.2.1 d_B_tradeWithShown_84 rfl (lv_at hl 3 rfl) ?_
        refine m_cv hw (va_runV (As := [.ref (oa r1)]) (rest := []) S (c_S_leave l γ M2 (bsd β (sj (sI (xHit0 σ o r1) 1 r1))) (bal β (sj (sI (xHit0 σ o r1) 1 r1))) r0 ((va_up cp 3 (cN (cp 3) (stn σ))) (sj (sI (xHit0 σ o r1) 1 r1))) ((L (sj (sI (xHit0 σ o r1) 1 r1))).map oa) (hC2.side (sj_or _)) hA0 hE0 (oa r1) _ _ _ _ _ _ _ _ _ _ (hC2.ord r1 hr1) 0 hk1 hk2 (by rw [List.length_map, hside]; exact hlenL)) (m_cwV 1 S g567 g568 g569 g45 g570 rfl rfl ⟨by decide +kernel, by decide +kernel, by decide +kernel⟩ ⟨(Nat.le_of_ble_eq_true rfl), (Nat.le_of_ble_eq_true rfl)⟩) (hw.preV (hC2.side (sj_or _)) cl_S.1) rfl rfl hl.1 rfl (lv_room (Nat.le_of_ble_eq_true rfl)) d_B_tradeWithShown_85 ⟨(by show 0 + (1 + gN (cp 3) (stn σ)) + 0 + 0 ≤ 1 + gN (cp 3) (stn σ); omega), (by show 0 + (4 + sN (cp 3) (stn σ)) + 0 + 0 ≤ 4 + sN (cp 3) (stn σ); omega)⟩) (fun M1 H locs hp hw => ?_)
        obtain ⟨hA9, hF9⟩ := hp
        obtain ⟨hC3, hf3⟩ := hC2.left hn hr1 hg2 hA0 hA9 hF9
        obtain ⟨hI3, hL3⟩ := LN.out hIX hLX hr1 hk0
        obtain ⟨L3, hL3e⟩ : ∃ z : Nat → List Nat, z = (fun k' => if k' = sj (sI (xHit0 σ o r1) 1 r1) then (L (sj (sI (xHit0 σ o r1) 1 r1))).eraseIdx 0 else L k') := ⟨_, rfl⟩
        rw [← hL3e] at hC3 hL3
        refine lv_aload_n S.1 S.2.1 d_B_tradeWithShown_88 rfl (lv_at hl 1 rfl) ?_
        refine lv_aload_n S.1 S.2.1 d_B_tradeWithShown_89 rfl (lv_at hl 3 rfl) ?_
        have hsO : sI (xOut (xHit0 σ o r1) r1) 1 r1 = sI (xHit0 σ o r1) 1 r1 := congrFun (out_f (by decide)) r1
        have hLo : (L3) (sj (sI (xOut (xHit0 σ o r1) r1) 1 r1)) = (L (sj (sI (xHit0 σ o r1) 1 r1))).eraseIdx 0 := by rw [hL3e, hsO]; exact if_pos rfl
        have hO3 : Line (sI (xOut (xHit0 σ o r1) r1)) (sn σ) (sI σ 1 r1) ((L (sj (sI (xHit0 σ o r1) 1 r1))).eraseIdx 0) := by have h9 := sj_val (L := L3) (b := sI σ 1 r1) (hI.2.1.1 r1 hr1).2.2 hL3; rw [← hLo, hsO, hside]; exact h9
        have hlen3 : ((L (sj (sI (xHit0 σ o r1) 1 r1))).eraseIdx 0).length + 1 = (L (sj (sI (xHit0 σ o r1) 1 r1))).length := by rw [List.length_eraseIdx, if_pos (List.getElem?_eq_some_iff.mp hk0).1]; have := (List.getElem?_eq_some_iff.mp hk0).1; omega
        have hcap : ((L (sj (sI (xHit0 σ o r1) 1 r1))).eraseIdx 0).length ≠ (va_up cp 3 (cN (cp 3) (stn σ))) (sj (sI (xHit0 σ o r1) 1 r1)) := by have h9 := hA0.2.1; rw [List.length_map] at h9; omega
        have hgN : gN ((va_up cp 3 (cN (cp 3) (stn σ))) (sj (sI (xOut (xHit0 σ o r1) r1) 1 r1))) (((L3) (sj (sI (xOut (xHit0 σ o r1) r1) 1 r1))).map oa).length = 0 := by rw [hLo, List.length_map, hsO]; exact if_neg hcap
        have hsN : sN ((va_up cp 3 (cN (cp 3) (stn σ))) (sj (sI (xOut (xHit0 σ o r1) r1) 1 r1))) (((L3) (sj (sI (xOut (xHit0 σ o r1) r1) 1 r1))).map oa).length = 0 := by rw [hLo, List.length_map, hsO]; exact if_neg hcap
        have hcN : cN ((va_up cp 3 (cN (cp 3) (stn σ))) (sj (sI (xOut (xHit0 σ o r1) r1) 1 r1))) (((L3) (sj (sI (xOut (xHit0 σ o r1) r1) 1 r1))).map oa).length = (va_up cp 3 (cN (cp 3) (stn σ))) (sj (sI (xOut (xHit0 σ o r1) r1) 1 r1)) := by rw [hLo, List.length_map, hsO]; exact if_neg hcap
        have hr3 : sI (xOut (xHit0 σ o r1) r1) 5 r1 = -1 := s1_ss (sI (xHit0 σ o r1)) 5 r1 (-1)
        refine m_cv hw (va_runV (As := [.ref (oa r1)]) (rest := []) S (c_B_rest l γ M1 β oa (va_up cp 3 (cN (cp 3) (stn σ))) L3 (xOut (xHit0 σ o r1) r1) hC3 hn r1 hr1 (hI3.2.2.1 r1 hr1).1 (by rw [hLo]; intro y hy; have h9 := (hO3.1 y).mp hy; refine ⟨h9.1, fun z => ?_⟩; rw [onS_iff, rs_iff, z, hr3, i_m1] at h9; omega) (by rw [hLo]; rw [hside] at hlen3 ⊢; omega)) (m_cwV 1 S g490 g492 g9 g41 g493 rfl rfl ⟨by decide +kernel, by decide +kernel, by decide +kernel⟩ ⟨(Nat.le_of_ble_eq_true rfl), (Nat.le_of_ble_eq_true rfl)⟩) (hw.preV hC3.book cl_B.1) rfl rfl hl.1 rfl (lv_room (Nat.le_of_ble_eq_true rfl)) d_B_tradeWithShown_90 ⟨(by rw [hgN]; show 0 + (1 + gN (cp 3) (stn σ)) + 0 + 0 + 0 ≤ 1 + gN (cp 3) (stn σ); omega), (by rw [hsN]; show 0 + (4 + sN (cp 3) (stn σ)) + 0 + 0 + 0 ≤ 4 + sN (cp 3) (stn σ); omega)⟩) (fun M1 H locs hp hw => ?_)
        obtain ⟨k, hk9, hhi, hlo, hC4, hf4⟩ := hp
        rw [hcN, up_same] at hC4
        have e3 : (sI (xOut (xHit0 σ o r1) r1) 3 r1).toInt = (sI σ 3 r1).toInt - (hQ σ o r1).toInt ∧ 1 ≤ (sI (xOut (xHit0 σ o r1) r1) 3 r1).toInt ∧ (sI (xOut (xHit0 σ o r1) r1) 3 r1).toInt ≤ 100000 ∧ (0 < (sI (xOut (xHit0 σ o r1) r1) 8 r1).toInt → (sI (xOut (xHit0 σ o r1) r1) 3 r1).toInt ≤ 50 * (sI (xOut (xHit0 σ o r1) r1) 8 r1).toInt) := hit_left hI hr1 hor hs1 hlv h58
        obtain ⟨hI4, hL4⟩ := LN.rest hI3 hL3 hr1 hr3 hrk1 e3.2.1 e3.2.2.1 e3.2.2.2 hk9 hhi hlo
        rw [xRest_out] at hC4 hI4 hL4
        exact m_vret S hlk hr hw (⟨_, by unfold xHit; rw [if_neg h58, if_pos h73]; exact hC4, by unfold xHit; rw [if_neg h58, if_pos h73]; exact hI4, by unfold xHit; rw [if_neg h58, if_pos h73]; exact hL4, hf2.tr (hf3.tr hf4)⟩) (by rw [hgN]; show 0 + (1 + gN (cp 3) (stn σ)) + 0 + 0 + 0 ≤ 1 + gN (cp 3) (stn σ); omega) (by rw [hsN]; show 0 + (4 + sN (cp 3) (stn σ)) + 0 + 0 + 0 ≤ 4 + sN (cp 3) (stn σ); omega) d_B_tradeWithShown_93
    · refine lv_aload_n S.1 S.2.1 d_B_tradeWithShown_61 rfl (lv_at hl 1 rfl) ?_
      refine lv_aload_n S.1 S.2.1 d_B_tradeWithShown_62 rfl (lv_at hl 3 rfl) ?_
      refine m_cv hw (va_runV (As := [.ref (oa r1)]) (rest := []) S (c_B_finishR l γ M2 β oa (va_up cp 3 (cN (cp 3) (stn σ))) L (xHit0 σ o r1) hC2 hn r1 hr1 hr5 (by rw [hside]; exact hnd) (by rw [hside]; exact hmem) (by rw [hside]; exact hlenL) 0 hk0) (m_cwV 1 S g563 g565 g16 g41 g566 rfl rfl ⟨by decide +kernel, by decide +kernel, by decide +kernel⟩ ⟨(Nat.le_of_ble_eq_true rfl), (Nat.le_of_ble_eq_true rfl)⟩) (hw.preV hC2.book cl_B.1) rfl rfl hl.1 rfl (lv_room (Nat.le_of_ble_eq_true rfl)) d_B_tradeWithShown_63 ⟨(by show 0 + (1 + gN (cp 3) (stn σ)) + 0 ≤ 1 + gN (cp 3) (stn σ); omega), (by show 0 + (4 + sN (cp 3) (stn σ)) + 0 ≤ 4 + sN (cp 3) (stn σ); omega)⟩) (fun M1 H locs hp hw => ?_)
      obtain ⟨hC3, hf3⟩ := hp
      refine lv_goto (tgt := 93) S.1 S.2.1 d_B_tradeWithShown_66 rfl ?_
      exact m_vret S hlk hr hw (⟨_, by unfold xHit; rw [if_pos h58]; exact hC3, by unfold xHit; rw [if_pos h58]; exact (LN.ende hIX hLX hr1 hk0).1, by unfold xHit; rw [if_pos h58]; exact (LN.ende hIX hLX hr1 hk0).2, hf2.tr hf3⟩) (by show 0 + (1 + gN (cp 3) (stn σ)) + 0 ≤ 1 + gN (cp 3) (stn σ); omega) (by show 0 + (4 + sN (cp 3) (stn σ)) + 0 ≤ 4 + sN (cp 3) (stn σ); omega) d_B_tradeWithShown_93
  refine lv_aload_n S.1 S.2.1 d_B_tradeWithShown_22 rfl (lv_at hl 2 rfl) ?_
  refine m_get S hw cl_O (hC1.ord o ho) 2 (by decide) g389 (fun _ h => h) rfl d_B_tradeWithShown_23 ?_
  refine W.eq (g2 := F0 m 26 ls [.int (sI σ 1 o)]) (congrArg (fun z => F0 m 26 ls [.int z]) hb1) ?_
  refine lv_if_eq (tgt := 43) S.1 S.2.1 d_B_tradeWithShown_26 rfl (fun h26 => ?_) (fun h26 => ?_)
  · refine lv_aload_n S.1 S.2.1 d_B_tradeWithShown_43 rfl (lv_at hl 1 rfl) ?_
    refine lv_aload_n S.1 S.2.1 d_B_tradeWithShown_44 rfl (lv_at hl 3 rfl) ?_
    refine lv_aload_n S.1 S.2.1 d_B_tradeWithShown_45 rfl (lv_at hl 2 rfl) ?_
    refine lv_aload_n S.1 S.2.1 d_B_tradeWithShown_46 rfl (lv_at hl 3 rfl) ?_
    refine m_get S hw cl_O (hC1.ord r1 hr1) 5 (by decide) g395 (fun _ h => h) rfl d_B_tradeWithShown_47 ?_
    refine W.eq (g2 := F0 m 50 ls [.int (sI σ 2 r1), .ref (oa o), .ref (oa r1), .ref (bx β)]) (congrArg (fun z => F0 m 50 ls [.int z, .ref (oa o), .ref (oa r1), .ref (bx β)]) hp1) ?_
    refine lv_iload_n S.1 S.2.1 d_B_tradeWithShown_50 rfl (lv_at hl 0 rfl) ?_
    refine m_cv hw (va_runV (As := [.ref (oa r1), .ref (oa o), .int (sI σ 2 r1), .int (hQ σ o r1)]) (rest := []) S (c_B_exchange l γ (mU M (oa r1) (.inr (2, oc (s1 (sI σ) 4 r1 (sI σ 4 r1 - hQ σ o r1)) r1))) β oa cp L ((sn σ, s1 (sI σ) 4 r1 (sI σ 4 r1 - hQ σ o r1)), σ.2) hC1 hn r1 o hr1 ho (fun z => hor z.symm) htn (sI σ 2 r1) (hQ σ o r1)) (m_cwV 4 S g527 g529 g15 g41 g530 rfl rfl ⟨by decide +kernel, by decide +kernel, by decide +kernel⟩ ⟨(Nat.le_of_ble_eq_true rfl), (Nat.le_of_ble_eq_true rfl)⟩) (hw.preV hC1.book cl_B.1) rfl rfl hl.1 rfl (lv_room (Nat.le_of_ble_eq_true rfl)) d_B_tradeWithShown_51 ⟨(Nat.le_of_eq (Nat.zero_add _)), (Nat.le_of_eq (Nat.zero_add _))⟩) (fun M1 H locs hp hw => ?_)
    obtain ⟨hC2, hf2⟩ := hp
    rw [gv_gv (fun z => hor z.symm), dI_comm (fun z => hor z.symm)] at hC2
    have hC2 : CB γ M1 β oa (va_up cp 3 (cN (cp 3) (stn σ))) L (xHit0 σ o r1) := by unfold xHit0; rw [if_pos h26, if_pos h26]; exact hC2
    exact tail M1 H locs ls hC2 (hf1.tr hf2) hl hw
  · refine lv_aload_n S.1 S.2.1 d_B_tradeWithShown_29 rfl (lv_at hl 1 rfl) ?_
    refine lv_aload_n S.1 S.2.1 d_B_tradeWithShown_30 rfl (lv_at hl 2 rfl) ?_
    refine lv_aload_n S.1 S.2.1 d_B_tradeWithShown_31 rfl (lv_at hl 3 rfl) ?_
    refine lv_aload_n S.1 S.2.1 d_B_tradeWithShown_32 rfl (lv_at hl 3 rfl) ?_
    refine m_get S hw cl_O (hC1.ord r1 hr1) 5 (by decide) g395 (fun _ h => h) rfl d_B_tradeWithShown_33 ?_
    refine W.eq (g2 := F0 m 36 ls [.int (sI σ 2 r1), .ref (oa r1), .ref (oa o), .ref (bx β)]) (congrArg (fun z => F0 m 36 ls [.int z, .ref (oa r1), .ref (oa o), .ref (bx β)]) hp1) ?_
    refine lv_iload_n S.1 S.2.1 d_B_tradeWithShown_36 rfl (lv_at hl 0 rfl) ?_
    refine m_cv hw (va_runV (As := [.ref (oa o), .ref (oa r1), .int (sI σ 2 r1), .int (hQ σ o r1)]) (rest := []) S (c_B_exchange l γ (mU M (oa r1) (.inr (2, oc (s1 (sI σ) 4 r1 (sI σ 4 r1 - hQ σ o r1)) r1))) β oa cp L ((sn σ, s1 (sI σ) 4 r1 (sI σ 4 r1 - hQ σ o r1)), σ.2) hC1 hn o r1 ho hr1 hor htn (sI σ 2 r1) (hQ σ o r1)) (m_cwV 4 S g527 g529 g15 g41 g530 rfl rfl ⟨by decide +kernel, by decide +kernel, by decide +kernel⟩ ⟨(Nat.le_of_ble_eq_true rfl), (Nat.le_of_ble_eq_true rfl)⟩) (hw.preV hC1.book cl_B.1) rfl rfl hl.1 rfl (lv_room (Nat.le_of_ble_eq_true rfl)) d_B_tradeWithShown_37 ⟨(Nat.le_of_eq (Nat.zero_add _)), (Nat.le_of_eq (Nat.zero_add _))⟩) (fun M1 H locs hp hw => ?_)
    obtain ⟨hC2, hf2⟩ := hp
    rw [gv_gv hor] at hC2
    have hC2 : CB γ M1 β oa (va_up cp 3 (cN (cp 3) (stn σ))) L (xHit0 σ o r1) := by unfold xHit0; rw [if_neg h26, if_neg h26]; exact hC2
    refine lv_goto (tgt := 54) S.1 S.2.1 d_B_tradeWithShown_40 rfl ?_
    exact tail M1 H locs ls hC2 (hf1.tr hf2) hl hw
end
section
/-! How an order that comes meets others -/
def opp (b : Int32) : Int32 := if b = 0 then 1 else 0
def tk (I : Co) (o : Nat) (p : Int32) : Bool := decide (I 2 o = 0) || (if I 1 o = 0 then decide (I 2 o ≤ p) else decide (p ≤ I 2 o))
def oPh (σ : St) (v : Int32) : St := (σ.1, (v, srf σ, sbd σ, srk σ), σ.2.2)
def xMeet : Nat → St → Nat → St
  | 0, σ, _ => σ
  | k + 1, σ, o => if 0 < sI σ 3 o then (match fst (sI σ) (opp (sI σ 1 o)) (sn σ) with
      | none => σ
      | some r => if tk (sI σ) o (sI σ 2 r) = true then (if byc (srf σ) (sbd σ) (sI σ 2 r) = true then oPh σ 2 else xMeet k (xHit σ o r) o) else σ) else σ
section MEET
variable {σ : St} {o r k : Nat}
theorem xMeet_no (h : ¬ 0 < sI σ 3 o) : xMeet (k + 1) σ o = σ := by
  unfold xMeet
  rw [if_neg h]
theorem xMeet_nil (h : 0 < sI σ 3 o) (hf : fst (sI σ) (opp (sI σ 1 o)) (sn σ) = none) : xMeet (k + 1) σ o = σ := by
  unfold xMeet
  rw [if_pos h, hf]
theorem xMeet_nt (h : 0 < sI σ 3 o) (hf : fst (sI σ) (opp (sI σ 1 o)) (sn σ) = some r) (ht : tk (sI σ) o (sI σ 2 r) = false) : xMeet (k + 1) σ o = σ := by
  unfold xMeet
  rw [if_pos h, hf]
  dsimp only
  rw [ht, if_neg (by decide)]
theorem xMeet_by (h : 0 < sI σ 3 o) (hf : fst (sI σ) (opp (sI σ 1 o)) (sn σ) = some r) (ht : tk (sI σ) o (sI σ 2 r) = true) (hb : byc (srf σ) (sbd σ) (sI σ 2 r) = true) : xMeet (k + 1) σ o = oPh σ 2 := by
  unfold xMeet
  rw [if_pos h, hf]
  dsimp only
  rw [if_pos ht, if_pos hb]
theorem xMeet_go (h : 0 < sI σ 3 o) (hf : fst (sI σ) (opp (sI σ 1 o)) (sn σ) = some r) (ht : tk (sI σ) o (sI σ 2 r) = true) (hb : byc (srf σ) (sbd σ) (sI σ 2 r) = false) : xMeet (k + 1) σ o = xMeet k (xHit σ o r) o := by
  have hb' : ¬ byc (srf σ) (sbd σ) (sI σ 2 r) = true := by rw [hb]; decide
  show (if 0 < sI σ 3 o then _ else _) = _
  rw [if_pos h, hf]
  dsimp only
  rw [if_pos ht, if_neg hb']
theorem hit_sn : sn (xHit σ o r) = sn σ := by
  unfold xHit
  split
  · rfl
  · split <;> rfl
theorem hit_tn : stn (xHit σ o r) = stn σ + 1 := by
  unfold xHit
  split
  · rfl
  · split <;> rfl
theorem hit_p4 : sph (xHit σ o r) = sph σ ∧ srf (xHit σ o r) = srf σ ∧ sbd (xHit σ o r) = sbd σ ∧ (srk (xHit σ o r) = srk σ ∨ srk (xHit σ o r) = srk σ + 1) := by
  unfold xHit
  split
  · exact ⟨rfl, rfl, rfl, Or.inl rfl⟩
  · split
    · exact ⟨rfl, rfl, rfl, Or.inr rfl⟩
    · exact ⟨rfl, rfl, rfl, Or.inl rfl⟩
/-- away from r only the trade shows -/
theorem hit_at {f x : Nat} (h : x ≠ r) : sI (xHit σ o r) f x = sI (xHit0 σ o r) f x := by
  unfold xHit
  split
  · show s1 (s1 (s1 (sI (xHit0 σ o r)) 3 r 0) 4 r 0) 5 r (-1) f x = _
    rw [s1_o h, s1_o h, s1_o h]
  · split
    · show s1 (s1 (sI (xHit0 σ o r)) 5 r (srk (xHit0 σ o r))) 4 r _ f x = _
      rw [s1_o h, s1_o h]
    · rfl
theorem hit_o5 (h : o ≠ r) : sI (xHit σ o r) 5 o = sI σ 5 o := by rw [hit_at h]; exact congrFun (hit_f (by decide) (by decide) (by decide)) o
theorem hit_o1 (h : o ≠ r) : sI (xHit σ o r) 1 o = sI σ 1 o := by rw [hit_at h]; exact congrFun (hit_f (by decide) (by decide) (by decide)) o
theorem hit_oc {f : Nat} (h : o ≠ r) (h3 : f ≠ 3) (h4 : f ≠ 4) (h7 : f ≠ 7) : sI (xHit σ o r) f o = sI σ f o := by rw [hit_at h]; exact congrFun (hit_f h3 h4 h7) o
theorem hit_o3 (h : o ≠ r) : sI (xHit σ o r) 3 o = sI σ 3 o - hQ σ o r := by rw [hit_at h]; exact hit_3o h
theorem meet_tn : ∀ {k : Nat} {σ : St}, stn σ ≤ stn (xMeet k σ o) := by
  intro k
  induction k with
  | zero => intro σ; exact Nat.le_refl _
  | succ k ih =>
    intro σ
    unfold xMeet
    split
    · split
      · exact Nat.le_refl _
      · split
        · split
          · exact Nat.le_refl _
          · refine Nat.le_trans ?_ ih
            rw [hit_tn]; omega
        · exact Nat.le_refl _
    · exact Nat.le_refl _
end MEET
/-- what trades cost: cells and slots of the first t -/
def kC : Nat → Nat
  | 0 => 0
  | t + 1 => kC t + (1 + gN (cAt t) t)
def kS : Nat → Nat
  | 0 => 0
  | t + 1 => kS t + (4 + sN (cAt t) t)
theorem kC_mono : ∀ {a b : Nat}, a ≤ b → kC a ≤ kC b := by
  intro a b h
  induction h with
  | refl => exact Nat.le_refl _
  | step _ ih => exact Nat.le_trans ih (Nat.le_add_right _ _)
theorem kS_mono : ∀ {a b : Nat}, a ≤ b → kS a ≤ kS b := by
  intro a b h
  induction h with
  | refl => exact Nat.le_refl _
  | step _ ih => exact Nat.le_trans ih (Nat.le_add_right _ _)
theorem cAt_s (t : Nat) : cN (cAt t) t = cAt (t + 1) := rfl
theorem opp_ne {b : Int32} (h : b = 0 ∨ b = 1) : opp b ≠ b := by rcases h with e | e <;> subst e <;> decide
theorem opp_or (b : Int32) : opp b = 0 ∨ opp b = 1 := by
  unfold opp
  split
  · exact Or.inr rfl
  · exact Or.inl rfl
end
section
/-! CallBook.meet -/
set_option maxHeartbeats 4000000 in
set_option maxRecDepth 100000 in
theorem c_B_meet (l : Launch) (γ : mG) (M : mMap) (β : BK) (oa cp : Nat → Nat) (L : Nat → List Nat) (σ σ' : St) (hC : CB γ M β oa cp L σ) (hI : Inv0 σ) (hL : LN σ L) (o : Nat) (ho : o < sn σ) (hr5 : sI σ 5 o = -1) (hl0 : 0 ≤ (sI σ 3 o).toInt) (hl1 : (sI σ 3 o).toInt ≤ 100000) (hcp : cp 3 = cAt (stn σ)) (hσ : xMeet 100000 σ o = σ') (hB : stn σ' ≤ 30000) (hrk : (srk σ).toInt ≤ 500000000) : Met l y_B_meet w_B_meet ({ frames := 10, cells := kC (stn σ') - kC (stn σ), slots := kS (stn σ') - kS (stn σ), locals := 250 } : Room) (mPc γ M [.ref (bx β), .ref (oa o)]) (mQv γ (fun M' => ∃ L' cp', CB γ M' β oa cp' L' σ' ∧ Inv0 σ' ∧ LN σ' L' ∧ cp' 3 = cAt (stn σ') ∧ (∀ j, j ≠ 3 → cp' j = cp j) ∧ frC M M' ∧ sn σ' = sn σ ∧ (∀ f, f ≠ 3 → f ≠ 4 → f ≠ 7 → sI σ' f o = sI σ f o) ∧ 0 ≤ (sI σ' 3 o).toInt ∧ (sI σ' 3 o).toInt ≤ (sI σ 3 o).toInt ∧ (srk σ').toInt ≤ (srk σ).toInt + 100000)) (kC (stn σ') - kC (stn σ)) (kS (stn σ') - kS (stn σ)) (mA (gz γ)) := by
  refine m_enter (by decide) (Nat.le_of_ble_eq_true rfl) ?_
  intro p e s m below meth c ls S hr hlk hnm hl hw
  have hl : lv_has ls 5 [(0, .ref (bx β)), (1, .ref (oa o))] := hl
  have hn := hI.1
  have hOo := hC.ord o ho
  have hside := (hI.2.1.1 o ho).2.2
  refine lv_aload_n S.1 S.2.1 d_B_meet_0 rfl (lv_at hl 0 rfl) ?_
  refine lv_aload_n S.1 S.2.1 d_B_meet_1 rfl (lv_at hl 1 rfl) ?_
  refine m_get S hw cl_O hOo 2 (by decide) g389 (fun _ h => h) rfl d_B_meet_2 ?_
  have cont : ∀ (H : Heap) (locs : List Loc) (ls : Array Slot), lv_has ls 5 [(0, .ref (bx β)), (1, .ref (oa o))] → mW γ M s H locs → W p l e ({ frames := 10, cells := kC (stn σ') - kC (stn σ), slots := kS (stn σ') - kS (stn σ), locals := 250 } : Room) s m #[.ref (bx β), .ref (oa o)] below meth c H locs 0 0 (MQ below (mQv γ (fun M' => ∃ L' cp', CB γ M' β oa cp' L' σ' ∧ Inv0 σ' ∧ LN σ' L' ∧ cp' 3 = cAt (stn σ') ∧ (∀ j, j ≠ 3 → cp' j = cp j) ∧ frC M M' ∧ sn σ' = sn σ ∧ (∀ f, f ≠ 3 → f ≠ 4 → f ≠ 7 → sI σ' f o = sI σ f o) ∧ 0 ≤ (sI σ' 3 o).toInt ∧ (sI σ' 3 o).toInt ≤ (sI σ 3 o).toInt ∧ (srk σ').toInt ≤ (srk σ).toInt + 100000)) #[.ref (bx β), .ref (oa o)] s (kC (stn σ') - kC (stn σ)) (kS (stn σ') - kS (stn σ)) (mA (gz γ))) (F0 m 13 ls [.int (opp (sI σ 1 o)), .ref (bx β)]) := by
    intro H locs ls hl hw
    refine m_cq hw (va_runV (As := [.int (opp (sI σ 1 o))]) (rest := []) S (c_B_side l γ M β σ.2.1 hC.book (opp (sI σ 1 o))) (m_cwV 1 S g181 g183 g0 g41 g184 rfl rfl ⟨by decide +kernel, by decide +kernel, by decide +kernel⟩ ⟨(Nat.le_of_ble_eq_true rfl), (Nat.le_of_ble_eq_true rfl)⟩) (hw.preV hC.book cl_B.1) rfl rfl hl.1 rfl (lv_room (Nat.le_of_ble_eq_true rfl)) d_B_meet_13 ⟨(Nat.zero_le _), (Nat.zero_le _)⟩) (fun r1 M1 H locs hp hw => ?_)
    obtain ⟨rfl, hM1⟩ := hp
    rw [hM1] at hw
    refine lv_astore_n S.1 S.2.1 d_B_meet_16 rfl hl (by decide) rfl (fun ls hl => ?_)
    have hl : lv_has ls 5 [(2, .ref (bsd β (sj (opp (sI σ 1 o))))), (0, .ref (bx β)), (1, .ref (oa o))] := hl
    refine lv_iconst (v := 0) S.1 S.2.1 d_B_meet_17 (by decide) ?_
    refine lv_istore_n S.1 S.2.1 d_B_meet_18 rfl hl (by decide) rfl (fun ls hl => ?_)
    have hl : lv_has ls 5 [(3, .int 0), (2, .ref (bsd β (sj (opp (sI σ 1 o))))), (0, .ref (bx β)), (1, .ref (oa o))] := hl
    have loop : ∀ (d : Nat) (τ : St) (M2 : mMap) (cp2 : Nat → Nat) (L2 : Nat → List Nat) (H : Heap) (locs : List Loc) (ls : Array Slot), d ≤ 100000 → xMeet d τ o = σ' → CB γ M2 β oa cp2 L2 τ → Inv0 τ → LN τ L2 → cp2 3 = cAt (stn τ) → (∀ j, j ≠ 3 → cp2 j = cp j) → frC M M2 → sn τ = sn σ → (∀ f, f ≠ 3 → f ≠ 4 → f ≠ 7 → sI τ f o = sI σ f o) → 0 ≤ (sI τ 3 o).toInt → (sI τ 3 o).toInt ≤ (sI σ 3 o).toInt → stn σ ≤ stn τ → (srk τ).toInt + d ≤ (srk σ).toInt + 100000 → lv_has ls 5 [(3, .int (nI (100000 - d))), (2, .ref (bsd β (sj (opp (sI σ 1 o))))), (0, .ref (bx β)), (1, .ref (oa o))] → mW γ M2 s H locs → W p l e ({ frames := 10, cells := kC (stn σ') - kC (stn σ), slots := kS (stn σ') - kS (stn σ), locals := 250 } : Room) s m #[.ref (bx β), .ref (oa o)] below meth c H locs (kC (stn τ) - kC (stn σ)) (kS (stn τ) - kS (stn σ)) (MQ below (mQv γ (fun M' => ∃ L' cp', CB γ M' β oa cp' L' σ' ∧ Inv0 σ' ∧ LN σ' L' ∧ cp' 3 = cAt (stn σ') ∧ (∀ j, j ≠ 3 → cp' j = cp j) ∧ frC M M' ∧ sn σ' = sn σ ∧ (∀ f, f ≠ 3 → f ≠ 4 → f ≠ 7 → sI σ' f o = sI σ f o) ∧ 0 ≤ (sI σ' 3 o).toInt ∧ (sI σ' 3 o).toInt ≤ (sI σ 3 o).toInt ∧ (srk σ').toInt ≤ (srk σ).toInt + 100000)) #[.ref (bx β), .ref (oa o)] s (kC (stn σ') - kC (stn σ)) (kS (stn σ') - kS (stn σ)) (mA (gz γ))) (F0 m 19 ls []) := by
      intro d
      induction d with
      | zero =>
        intro τ M2 cp2 L2 H locs ls hd hfin hC2 hI2 hL2 hcp2 hcpj hf2 hsn hcol hz0 hz1 htn2 hrk2 hl hw
        have ho2 : o < sn τ := by rw [hsn]; exact ho
        have hE : τ = σ' := hfin
        subst hE
        refine lv_iload_n S.1 S.2.1 d_B_meet_19 rfl (lv_at hl 0 rfl) ?_
        refine lv_ldc S.1 S.2.1 S.2.2.2.1 (S.2.2.2.2 _ (gc g292)) d_B_meet_20 ?_
        refine lv_icmp_ge (tgt := 87) S.1 S.2.1 d_B_meet_22 rfl (fun _ => ?_) (fun h => absurd (show nI 100000 ≤ nI (100000 - 0) from nI_le (by omega) (by decide)) h)
        exact m_vret S hlk hr hw ⟨L2, cp2, hC2, hI2, hL2, hcp2, hcpj, hf2, hsn, hcol, hz0, hz1, by omega⟩ (Nat.le_refl _) (Nat.le_refl _) d_B_meet_87
      | succ d ih =>
        intro τ M2 cp2 L2 H locs ls hd hfin hC2 hI2 hL2 hcp2 hcpj hf2 hsn hcol hz0 hz1 htn2 hrk2 hl hw
        have ho2 : o < sn τ := by rw [hsn]; exact ho
        refine lv_iload_n S.1 S.2.1 d_B_meet_19 rfl (lv_at hl 0 rfl) ?_
        refine lv_ldc S.1 S.2.1 S.2.2.2.1 (S.2.2.2.2 _ (gc g292)) d_B_meet_20 ?_
        refine lv_icmp_ge (tgt := 87) S.1 S.2.1 d_B_meet_22 rfl (fun h => absurd h (show ¬ nI 100000 ≤ nI (100000 - (d + 1)) from nI_ge (by omega) (by decide))) (fun _ => ?_)
        refine lv_aload_n S.1 S.2.1 d_B_meet_25 rfl (lv_at hl 3 rfl) ?_
        refine m_get S hw cl_O (hC2.ord o ho2) 6 (by decide) g398 (fun _ h => h) rfl d_B_meet_26 ?_
        refine lv_if_le (tgt := 87) S.1 S.2.1 d_B_meet_29 rfl (fun h29 => ?_) (fun h29 => ?_)
        · have hE : τ = σ' := (xMeet_no (k := d) (fun z => absurd h29 (Int32.not_le.mpr z))).symm.trans hfin
          subst hE
          exact m_vret S hlk hr hw ⟨L2, cp2, hC2, hI2, hL2, hcp2, hcpj, hf2, hsn, hcol, hz0, hz1, by omega⟩ (Nat.le_refl _) (Nat.le_refl _) d_B_meet_87
        · have hpos : 0 < sI τ 3 o := Int32.not_le.mp h29
          have hposI : 0 < (sI τ 3 o).toInt := by have h9 := Int32.lt_iff_toInt_lt.mp hpos; rw [i0] at h9; exact h9
          obtain ⟨r0, hA2⟩ := hC2.list (sj_or (opp (sI σ 1 o)))
          have hLj : Line (sI τ) (sn τ) (opp (sI σ 1 o)) (L2 (sj (opp (sI σ 1 o)))) := sj_val (opp_or _) hL2
          have hhd := hLj.hd hI2.2.1
          have hc1 : sI τ 1 o = sI σ 1 o := hcol 1 (by decide) (by decide) (by decide)
          have hE2 : mEl M2 2 ((L2 (sj (opp (sI σ 1 o)))).map oa) := hC2.ord.el (fun y hy => ((hLj.1 y).mp hy).1)
          have hlen2 : ((L2 (sj (opp (sI σ 1 o)))).map oa).length ≤ 250 := by rw [List.length_map]; exact hLj.len hI2.1
          refine lv_aload_n S.1 S.2.1 d_B_meet_32 rfl (lv_at hl 1 rfl) ?_
          refine m_cq hw (va_runV (As := []) (rest := []) S (c_S_first l γ M2 (bsd β (sj (opp (sI σ 1 o)))) (bal β (sj (opp (sI σ 1 o)))) r0 (cp2 (sj (opp (sI σ 1 o)))) ((L2 (sj (opp (sI σ 1 o)))).map oa) (hC2.side (sj_or _)) hA2 hE2 hlen2) (m_cwV 0 S g252 g253 g254 g45 g255 rfl rfl ⟨by decide +kernel, by decide +kernel, by decide +kernel⟩ ⟨(Nat.le_of_ble_eq_true rfl), (Nat.le_of_ble_eq_true rfl)⟩) (hw.preV (hC2.side (sj_or _)) cl_S.1) rfl rfl hl.1 rfl (lv_room (Nat.le_of_ble_eq_true rfl)) d_B_meet_33 ⟨(by show kC (stn τ) - kC (stn σ) + 0 ≤ kC (stn σ') - kC (stn σ); have h8 := meet_tn (o := o) (k := d + 1) (σ := τ); rw [hfin] at h8; have := kC_mono h8; omega), (by show kS (stn τ) - kS (stn σ) + 0 ≤ kS (stn σ') - kS (stn σ); have h8 := meet_tn (o := o) (k := d + 1) (σ := τ); rw [hfin] at h8; have := kS_mono h8; omega)⟩) (fun r1 M1 H locs hp hw => ?_)
          obtain ⟨hres, hM1⟩ := hp
          rw [hM1] at hw
          rw [List.head?_map, ← hhd] at hres
          have hff : fst (sI τ) (opp (sI τ 1 o)) (sn τ) = fst (sI τ) (opp (sI σ 1 o)) (sn τ) := by rw [hc1]
          rcases hh : fst (sI τ) (opp (sI σ 1 o)) (sn τ) with _ | r1
          · rw [hh] at hres hff
            subst hres
            refine W.eq (g2 := F0 m 36 ls [.null]) rfl ?_
            refine lv_astoreN S.1 S.2.1 d_B_meet_36 hl (by decide) rfl (fun ls hl => ?_)
            have hl : lv_has ls 5 [(4, .null), (3, .int (nI (100000 - (d + 1)))), (2, .ref (bsd β (sj (opp (sI σ 1 o))))), (0, .ref (bx β)), (1, .ref (oa o))] := hl
            refine lv_aloadN S.1 S.2.1 d_B_meet_38 (lv_at hl 0 rfl) ?_
            refine lv_ifnullN S.1 S.2.1 d_B_meet_40 rfl ?_
            have hE : τ = σ' := (xMeet_nil (k := d) hpos hff).symm.trans hfin
            subst hE
            exact m_vret S hlk hr hw ⟨L2, cp2, hC2, hI2, hL2, hcp2, hcpj, hf2, hsn, hcol, hz0, hz1, by omega⟩ (Nat.le_refl _) (Nat.le_refl _) d_B_meet_55
          · rw [hh] at hres hff
            subst hres
            refine W.eq (g2 := F0 m 36 ls [.ref (oa r1)]) rfl ?_
            have hm1 : r1 ∈ L2 (sj (opp (sI σ 1 o))) := List.mem_of_getElem? (i := 0) (by rw [← List.head?_eq_getElem?, ← hhd, hh])
            have hk0 : (L2 (sj (opp (sI σ 1 o))))[0]? = some r1 := by rw [← List.head?_eq_getElem?, ← hhd, hh]
            obtain ⟨hr1, hos⟩ := (hLj.1 r1).mp hm1
            obtain ⟨hs1, hsd⟩ := onS_iff.mp hos
            have hor : o ≠ r1 := fun z => opp_ne hside (by rw [← hsd, ← z]; exact hc1)
            refine lv_astore S.1 S.2.1 d_B_meet_36 hl (by decide) rfl (fun ls hl => ?_)
            have hl : lv_has ls 5 [(4, .ref (oa r1)), (3, .int (nI (100000 - (d + 1)))), (2, .ref (bsd β (sj (opp (sI σ 1 o))))), (0, .ref (bx β)), (1, .ref (oa o))] := hl
            refine lv_aload S.1 S.2.1 d_B_meet_38 (lv_at hl 0 rfl) ?_
            refine lv_ifnull S.1 S.2.1 d_B_meet_40 ?_
            refine lv_aload_n S.1 S.2.1 d_B_meet_43 rfl (lv_at hl 4 rfl) ?_
            refine lv_aload S.1 S.2.1 d_B_meet_44 (lv_at hl 0 rfl) ?_
            refine m_get S hw cl_O (hC2.ord r1 hr1) 5 (by decide) g395 (fun _ h => h) rfl d_B_meet_46 ?_
            refine m_ci hw (va_runV (As := [.int ((sI τ) 2 r1)]) (rest := []) S (c_O_takes l γ M2 (oa o) _ _ _ _ _ _ _ _ _ _ (hC2.ord o ho2) (sI τ 2 r1)) (m_cwV 1 S g262 g263 g264 g54 g265 rfl rfl ⟨by decide +kernel, by decide +kernel, by decide +kernel⟩ ⟨(Nat.le_of_ble_eq_true rfl), (Nat.le_of_ble_eq_true rfl)⟩) (hw.preV (hC2.ord o ho2) cl_O.1) rfl rfl hl.1 rfl (lv_room (Nat.le_of_ble_eq_true rfl)) d_B_meet_49 ⟨(by show kC (stn τ) - kC (stn σ) + 0 ≤ kC (stn σ') - kC (stn σ); have h8 := meet_tn (o := o) (k := d + 1) (σ := τ); rw [hfin] at h8; have := kC_mono h8; omega), (by show kS (stn τ) - kS (stn σ) + 0 ≤ kS (stn σ') - kS (stn σ); have h8 := meet_tn (o := o) (k := d + 1) (σ := τ); rw [hfin] at h8; have := kS_mono h8; omega)⟩) (fun r1 M1 H locs hp hw => ?_)
            obtain ⟨rfl, hM1⟩ := hp
            rw [hM1] at hw
            refine W.eq (g2 := F0 m 52 ls [.int (b2i (tk (sI τ) o (sI τ 2 r1)))]) rfl ?_
            refine lv_if_ne (tgt := 56) S.1 S.2.1 d_B_meet_52 rfl (fun h52 => ?_) (fun h52 => ?_)
            · refine lv_aload_n S.1 S.2.1 d_B_meet_56 rfl (lv_at hl 3 rfl) ?_
              refine lv_aload S.1 S.2.1 d_B_meet_57 (lv_at hl 0 rfl) ?_
              refine m_get S hw cl_O (hC2.ord r1 hr1) 5 (by decide) g395 (fun _ h => h) rfl d_B_meet_59 ?_
              refine m_ci hw (va_runV (As := [.int ((sI τ) 2 r1)]) (rest := []) S (c_B_isBeyondBand l γ M2 β τ.2.1 hC2.book (sI τ 2 r1)) (m_cwV 1 S g514 g516 g12 g41 g517 rfl rfl ⟨by decide +kernel, by decide +kernel, by decide +kernel⟩ ⟨(Nat.le_of_ble_eq_true rfl), (Nat.le_of_ble_eq_true rfl)⟩) (hw.preV hC2.book cl_B.1) rfl rfl hl.1 rfl (lv_room (Nat.le_of_ble_eq_true rfl)) d_B_meet_62 ⟨(by show kC (stn τ) - kC (stn σ) + 0 ≤ kC (stn σ') - kC (stn σ); have h8 := meet_tn (o := o) (k := d + 1) (σ := τ); rw [hfin] at h8; have := kC_mono h8; omega), (by show kS (stn τ) - kS (stn σ) + 0 ≤ kS (stn σ') - kS (stn σ); have h8 := meet_tn (o := o) (k := d + 1) (σ := τ); rw [hfin] at h8; have := kS_mono h8; omega)⟩) (fun r1 M1 H locs hp hw => ?_)
              obtain ⟨rfl, hM1⟩ := hp
              rw [hM1] at hw
              refine lv_if_eq (tgt := 74) S.1 S.2.1 d_B_meet_65 rfl (fun h65 => ?_) (fun h65 => ?_)
              · refine lv_aload_n S.1 S.2.1 d_B_meet_74 rfl (lv_at hl 3 rfl) ?_
                refine lv_aload_n S.1 S.2.1 d_B_meet_75 rfl (lv_at hl 4 rfl) ?_
                refine lv_aload S.1 S.2.1 d_B_meet_76 (lv_at hl 0 rfl) ?_
                refine m_cv hw (va_runV (As := [.ref (oa o), .ref (oa r1)]) (rest := []) S (c_B_tradeWithShown l γ M2 β oa cp2 L2 τ hC2 hI2 hL2 o r1 ho2 hr1 hor ((hcol 5 (by decide) (by decide) (by decide)).trans hr5) (by omega) hs1 (by rw [hsd]; exact hk0) (by have hf9 : xMeet d (xHit τ o r1) o = σ' := (xMeet_go (k := d) hpos hff (b2i_n0.mp h52) (b2i_0.mp h65)).symm.trans hfin; have h8 := meet_tn (o := o) (k := d) (σ := xHit τ o r1); rw [hf9, hit_tn] at h8; omega) (by omega)) (m_cwV 2 S g522 g524 g14 g41 g525 rfl rfl ⟨by decide +kernel, by decide +kernel, by decide +kernel⟩ ⟨(Nat.le_of_ble_eq_true rfl), (Nat.le_of_ble_eq_true rfl)⟩) (hw.preV hC2.book cl_B.1) rfl rfl hl.1 rfl (lv_room (Nat.le_of_ble_eq_true rfl)) d_B_meet_78 ⟨(by have hf9 : xMeet d (xHit τ o r1) o = σ' := (xMeet_go (k := d) hpos hff (b2i_n0.mp h52) (b2i_0.mp h65)).symm.trans hfin; have h8 := meet_tn (o := o) (k := d) (σ := xHit τ o r1); rw [hf9, hit_tn] at h8; show kC (stn τ) - kC (stn σ) + 0 + 0 + 0 + (1 + gN (cp2 3) (stn τ)) ≤ kC (stn σ') - kC (stn σ); rw [hcp2]; have h7 := kC_mono h8; have h6 := kC_mono htn2; have h5 : kC (stn τ + 1) = kC (stn τ) + (1 + gN (cAt (stn τ)) (stn τ)) := rfl; omega), (by have hf9 : xMeet d (xHit τ o r1) o = σ' := (xMeet_go (k := d) hpos hff (b2i_n0.mp h52) (b2i_0.mp h65)).symm.trans hfin; have h8 := meet_tn (o := o) (k := d) (σ := xHit τ o r1); rw [hf9, hit_tn] at h8; show kS (stn τ) - kS (stn σ) + 0 + 0 + 0 + (4 + sN (cp2 3) (stn τ)) ≤ kS (stn σ') - kS (stn σ); rw [hcp2]; have h7 := kS_mono h8; have h6 := kS_mono htn2; have h5 : kS (stn τ + 1) = kS (stn τ) + (4 + sN (cAt (stn τ)) (stn τ)) := rfl; omega)⟩) (fun M1 H locs hp hw => ?_)
                obtain ⟨L3, hC3, hI3, hL3, hf3⟩ := hp
                have hfin2 : xMeet d (xHit τ o r1) o = σ' := by rw [← xMeet_go (k := d) hpos hff (b2i_n0.mp h52) (b2i_0.mp h65)]; exact hfin
                obtain ⟨q1, q2, q3, q4, -⟩ := hit_q (o := o) hI2 hr1 hs1 (by omega)
                refine lv_iinc (k := 1) (v := nI (100000 - d)) S.1 S.2.1 d_B_meet_81 hl rfl (by rw [show Int32.ofInt 1 = (1 : Int32) from rfl, nI_1]; congr 1; omega) (by decide) rfl (fun ls hl => ?_)
                have hl : lv_has ls 5 [(3, .int (nI (100000 - d))), (4, .ref (oa r1)), (2, .ref (bsd β (sj (opp (sI σ 1 o))))), (0, .ref (bx β)), (1, .ref (oa o))] := hl
                refine lv_goto (tgt := 19) S.1 S.2.1 d_B_meet_84 rfl ?_
                have hl := lv_sub hl [0, 2, 3, 4] rfl
                have hE3 : (sI (xHit τ o r1) 3 o).toInt = (sI τ 3 o).toInt - (hQ τ o r1).toInt := by rw [hit_o3 hor]; exact i_sub (by omega) (by omega)
                have hmono : stn τ + 1 ≤ stn σ' := by have h9 := meet_tn (o := o) (k := d) (σ := xHit τ o r1); rw [hfin2, hit_tn] at h9; exact h9
                have hq4 := hit_p4 (σ := τ) (o := o) (r := r1)
                refine W.widen (k := kC (stn (xHit τ o r1)) - kC (stn σ)) (n := kS (stn (xHit τ o r1)) - kS (stn σ)) ?_ ?_ (ih (xHit τ o r1) M1 (va_up cp2 3 (cN (cp2 3) (stn τ))) L3 H locs ls (by omega) hfin2 hC3 hI3 hL3 ?_ ?_ (hf2.tr hf3) (hit_sn.trans hsn) ?_ (by omega) (by omega) (by rw [hit_tn]; omega) ?_ hl hw)
                · rw [hit_tn, hcp2]; show kC (stn τ) - kC (stn σ) + (1 + gN (cAt (stn τ)) (stn τ)) ≤ kC (stn τ) + (1 + gN (cAt (stn τ)) (stn τ)) - kC (stn σ); have := kC_mono htn2; omega
                · rw [hit_tn, hcp2]; show kS (stn τ) - kS (stn σ) + (4 + sN (cAt (stn τ)) (stn τ)) ≤ kS (stn τ) + (4 + sN (cAt (stn τ)) (stn τ)) - kS (stn σ); have := kS_mono htn2; omega
                · rw [hit_tn, hcp2]; exact if_pos rfl
                · intro j hj; rw [show va_up cp2 3 (cN (cp2 3) (stn τ)) j = cp2 j from if_neg hj]; exact hcpj j hj
                · intro f h3 h4 h7; rw [hit_oc hor h3 h4 h7]; exact hcol f h3 h4 h7
                · have h1 := i_1; have hrk0 := hI2.2.2.2.1; rcases hq4.2.2.2 with e | e
                  · rw [e]; omega
                  · rw [e, i_add (by omega) (by omega)]; omega
              · refine lv_aload_n S.1 S.2.1 d_B_meet_68 rfl (lv_at hl 3 rfl) ?_
                refine lv_iconst (v := 2) S.1 S.2.1 d_B_meet_69 (by decide) ?_
                refine m_put S hw cl_B hC2.book 5 (by decide) g150 (fun _ h => h) rfl rfl rfl (Nat.le_of_ble_eq_true rfl) d_B_meet_70 (fun H locs hw => ?_)
                have hw : mW γ (mU M2 (bx β) (.inr (6, [.ref (bal β 0), .ref (bsd β 1), .ref (bsd β 2), .ref (btl β), .ref (bau β), .int 2, .int τ.2.1.2.1, .int τ.2.1.2.2.1, .int τ.2.1.2.2.2]))) s H locs := hw
                have hE : oPh τ 2 = σ' := (xMeet_by (k := d) hpos hff (b2i_n0.mp h52) (b2i_n0.mp h65)).symm.trans hfin
                subst hE
                obtain ⟨hC4, hf4⟩ := hC2.setB (p := (2, srf τ, sbd τ, srk τ)) (e := .inr (6, bkc β (2, srf τ, sbd τ, srk τ))) rfl
                exact m_vret S hlk hr hw ⟨L2, cp2, hC4, hI2, hL2, hcp2, hcpj, hf2.tr hf4, hsn, hcol, hz0, hz1, by show (srk τ).toInt ≤ _; omega⟩ (Nat.le_refl _) (Nat.le_refl _) d_B_meet_73
            · have hE : τ = σ' := (xMeet_nt (k := d) hpos hff (b2i_0.mp h52)).symm.trans hfin
              subst hE
              exact m_vret S hlk hr hw ⟨L2, cp2, hC2, hI2, hL2, hcp2, hcpj, hf2, hsn, hcol, hz0, hz1, by omega⟩ (Nat.le_refl _) (Nat.le_refl _) d_B_meet_55
    refine W.widen (Nat.zero_le _) (Nat.zero_le _) (loop 100000 σ M cp L H locs ls (Nat.le_refl _) hσ hC hI hL hcp (fun _ _ => rfl) (frC.rf M) rfl (fun _ _ _ _ => rfl) hl0 (Int.le_refl _) (Nat.le_refl _) (Int.le_refl _) hl hw)
  refine lv_if_ne (tgt := 12) S.1 S.2.1 d_B_meet_5 rfl (fun h5 => ?_) (fun h5 => ?_)
  · refine lv_iconst (v := 0) S.1 S.2.1 d_B_meet_12 (by decide) ?_
    refine W.eq (g2 := F0 m 13 ls [.int (opp (sI σ 1 o)), .ref (bx β)]) (congrArg (fun z => F0 m 13 ls [.int z, .ref (bx β)]) (show (0 : Int32) = opp (sI σ 1 o) from (if_neg h5).symm)) ?_
    exact cont _ _ ls hl hw
  · refine lv_iconst (v := 1) S.1 S.2.1 d_B_meet_8 (by decide) ?_
    refine lv_goto (tgt := 13) S.1 S.2.1 d_B_meet_9 rfl ?_
    refine W.eq (g2 := F0 m 13 ls [.int (opp (sI σ 1 o)), .ref (bx β)]) (congrArg (fun z => F0 m 13 ls [.int z, .ref (bx β)]) (show (1 : Int32) = opp (sI σ 1 o) from (if_pos h5).symm)) ?_
    exact cont _ _ ls hl hw
end
section
/-! What an order could take at once -/
def avl (σ : St) (o : Nat) : List Nat → Int64 → Int64
  | [], a => a
  | r :: t, a => if tk (sI σ) o (sI σ 2 r) = true then (if byc (srf σ) (sbd σ) (sI σ 2 r) = true then a else avl σ o t (a + (sI σ 3 r).toInt64)) else a
theorem avl_nt {σ : St} {o r : Nat} {t : List Nat} {a : Int64} (h : tk (sI σ) o (sI σ 2 r) = false) : avl σ o (r :: t) a = a := by
  unfold avl
  rw [h, if_neg (by decide)]
theorem avl_by {σ : St} {o r : Nat} {t : List Nat} {a : Int64} (h : byc (srf σ) (sbd σ) (sI σ 2 r) = true) : avl σ o (r :: t) a = a := by
  unfold avl
  rw [if_pos h, ite_self]
theorem avl_go {σ : St} {o r : Nat} {t : List Nat} {a : Int64} (h : tk (sI σ) o (sI σ 2 r) = true) (hb : byc (srf σ) (sbd σ) (sI σ 2 r) = false) : avl σ o (r :: t) a = avl σ o t (a + (sI σ 3 r).toInt64) := by
  show (if _ then _ else _) = _
  rw [if_pos h, if_neg (by rw [hb]; decide)]
def cgw (σ : St) (K : List Nat) (o : Nat) : Bool := decide ((sI σ 3 o).toInt64 ≤ avl σ o K 0)
theorem drop_at {K : List Nat} {i : Nat} (h : i < K.length) : K.drop i = K[i] :: K.drop (i + 1) := List.drop_eq_getElem_cons h
theorem map_at {oa : Nat → Nat} {K : List Nat} {i : Nat} (h : i < K.length) : (K.map oa)[i]? = some (oa K[i]) := by
  rw [List.getElem?_map, List.getElem?_eq_getElem h]; rfl
end
section
/-! CallBook.couldGoWhole, startGoingOn, finishIfNothingLeft -/
set_option maxHeartbeats 4000000 in
set_option maxRecDepth 100000 in
theorem c_B_couldGoWhole (l : Launch) (γ : mG) (M : mMap) (β : BK) (oa cp : Nat → Nat) (L : Nat → List Nat) (σ : St) (hC : CB γ M β oa cp L σ) (hI : Inv0 σ) (hL : LN σ L) (o : Nat) (ho : o < sn σ) : Met l y_B_couldGoWhole w_B_couldGoWhole ({ frames := 3, cells := 0, slots := 0, locals := 64 } : Room) (mPc γ M [.ref (bx β), .ref (oa o)]) (mQi γ (fun r M' => r = b2i (cgw σ (L (sj (opp (sI σ 1 o)))) o) ∧ M' = M)) 0 0 (mA (gz γ)) := by
  refine m_enter (by decide) (Nat.le_of_ble_eq_true rfl) ?_
  intro p e s m below meth c ls S hr hlk hnm hl hw
  have hl : lv_has ls 7 [(0, .ref (bx β)), (1, .ref (oa o))] := hl
  have hOo := hC.ord o ho
  refine lv_aload_n S.1 S.2.1 d_B_couldGoWhole_0 rfl (lv_at hl 0 rfl) ?_
  refine lv_aload_n S.1 S.2.1 d_B_couldGoWhole_1 rfl (lv_at hl 1 rfl) ?_
  refine m_get S hw cl_O hOo 2 (by decide) g389 (fun _ h => h) rfl d_B_couldGoWhole_2 ?_
  obtain ⟨r0, hA⟩ := hC.list (sj_or (opp (sI σ 1 o)))
  obtain ⟨⟨md, hl0⟩, -⟩ := id hA
  have hLj : Line (sI σ) (sn σ) (opp (sI σ 1 o)) (L (sj (opp (sI σ 1 o)))) := sj_val (opp_or _) hL
  have hml : ((L (sj (opp (sI σ 1 o)))).map oa).length = (L (sj (opp (sI σ 1 o)))).length := List.length_map _
  have hlen : (L (sj (opp (sI σ 1 o)))).length ≤ 250 := hLj.len hI.1
  have cont : ∀ (H : Heap) (locs : List Loc) (ls : Array Slot), lv_has ls 7 [(0, .ref (bx β)), (1, .ref (oa o))] → mW γ M s H locs → W p l e ({ frames := 3, cells := 0, slots := 0, locals := 64 } : Room) s m #[.ref (bx β), .ref (oa o)] below meth c H locs 0 0 (MQ below (mQi γ (fun r M' => r = b2i (cgw σ (L (sj (opp (sI σ 1 o)))) o) ∧ M' = M)) #[.ref (bx β), .ref (oa o)] s 0 0 (mA (gz γ))) (F0 m 13 ls [.int (opp (sI σ 1 o)), .ref (bx β)]) := by
    intro H locs ls hl hw
    refine m_cq hw (va_runV (As := [.int (opp (sI σ 1 o))]) (rest := []) S (c_B_side l γ M β σ.2.1 hC.book (opp (sI σ 1 o))) (m_cwV 1 S g181 g183 g0 g41 g184 rfl rfl ⟨by decide +kernel, by decide +kernel, by decide +kernel⟩ ⟨(Nat.le_of_ble_eq_true rfl), (Nat.le_of_ble_eq_true rfl)⟩) (hw.preV hC.book cl_B.1) rfl rfl hl.1 rfl (lv_room (Nat.le_of_ble_eq_true rfl)) d_B_couldGoWhole_13 ⟨(Nat.zero_le _), (Nat.zero_le _)⟩) (fun r1 M1 H locs hp hw => ?_)
    obtain ⟨rfl, hM1⟩ := hp
    rw [hM1] at hw
    refine m_get S hw cl_S (hC.side (sj_or _)) 0 (by decide) g105 (fun _ h => h) rfl d_B_couldGoWhole_16 ?_
    refine lv_astore_n S.1 S.2.1 d_B_couldGoWhole_19 rfl hl (by decide) rfl (fun ls hl => ?_)
    have hl : lv_has ls 7 [(2, .ref (bal β (sj (opp (sI σ 1 o))))), (0, .ref (bx β)), (1, .ref (oa o))] := hl
    refine lv_lconst (v := 0) S.1 S.2.1 d_B_couldGoWhole_20 (by decide) ?_
    refine lv_lstore_n S.1 S.2.1 d_B_couldGoWhole_21 rfl hl (by decide) rfl (fun ls hl => ?_)
    have hl : lv_has ls 7 [(3, .long 0), (2, .ref (bal β (sj (opp (sI σ 1 o))))), (0, .ref (bx β)), (1, .ref (oa o))] := hl
    refine lv_iconst (v := 0) S.1 S.2.1 d_B_couldGoWhole_22 (by decide) ?_
    refine lv_istore S.1 S.2.1 d_B_couldGoWhole_23 hl (by decide) rfl (fun ls hl => ?_)
    have hl : lv_has ls 7 [(5, .int 0), (3, .long 0), (2, .ref (bal β (sj (opp (sI σ 1 o))))), (0, .ref (bx β)), (1, .ref (oa o))] := hl
    have hexit : ∀ (a : Int64) (H : Heap) (locs : List Loc) (ls : Array Slot), a = avl σ o (L (sj (opp (sI σ 1 o)))) 0 → lv_has ls 7 [(3, .long a), (0, .ref (bx β)), (1, .ref (oa o))] → mW γ M s H locs → W p l e ({ frames := 3, cells := 0, slots := 0, locals := 64 } : Room) s m #[.ref (bx β), .ref (oa o)] below meth c H locs 0 0 (MQ below (mQi γ (fun r M' => r = b2i (cgw σ (L (sj (opp (sI σ 1 o)))) o) ∧ M' = M)) #[.ref (bx β), .ref (oa o)] s 0 0 (mA (gz γ))) (F0 m 87 ls []) := by
      intro a H locs ls ha hl hw
      refine lv_lload_n S.1 S.2.1 d_B_couldGoWhole_87 rfl (lv_at hl 0 rfl) ?_
      refine lv_aload_n S.1 S.2.1 d_B_couldGoWhole_88 rfl (lv_at hl 2 rfl) ?_
      refine m_get S hw cl_O hOo 6 (by decide) g398 (fun _ h => h) rfl d_B_couldGoWhole_89 ?_
      refine lv_i2l S.1 S.2.1 d_B_couldGoWhole_92 rfl ?_
      refine W.lcmp S.1 S.2.1 d_B_couldGoWhole_93 ?_
      refine lv_if_lt (tgt := 101) S.1 S.2.1 d_B_couldGoWhole_94 rfl (fun h94 => ?_) (fun h94 => ?_)
      · refine lv_iconst (v := 0) S.1 S.2.1 d_B_couldGoWhole_101 (by decide) ?_
        exact m_iret S hlk hr rfl hw ⟨congrArg b2i (decide_eq_false (fun z => absurd ((lg_cmp_lt _ _).mp h94) (Int64.not_lt.mpr (ha ▸ z)))).symm, rfl⟩ (Nat.le_refl _) (Nat.le_refl _) d_B_couldGoWhole_102
      · refine lv_iconst (v := 1) S.1 S.2.1 d_B_couldGoWhole_97 (by decide) ?_
        refine lv_goto (tgt := 102) S.1 S.2.1 d_B_couldGoWhole_98 rfl ?_
        exact m_iret S hlk hr rfl hw ⟨congrArg b2i (decide_eq_true (ha ▸ Int64.not_lt.mp (fun z => h94 ((lg_cmp_lt _ _).mpr z)))).symm, rfl⟩ (Nat.le_refl _) (Nat.le_refl _) d_B_couldGoWhole_102
    have loop : ∀ (d i0 : Nat) (a : Int64) (H : Heap) (locs : List Loc) (ls : Array Slot), i0 + d = (L (sj (opp (sI σ 1 o)))).length → avl σ o ((L (sj (opp (sI σ 1 o)))).drop i0) a = avl σ o (L (sj (opp (sI σ 1 o)))) 0 → lv_has ls 7 [(5, .int (nI i0)), (3, .long a), (2, .ref (bal β (sj (opp (sI σ 1 o))))), (0, .ref (bx β)), (1, .ref (oa o))] → mW γ M s H locs → W p l e ({ frames := 3, cells := 0, slots := 0, locals := 64 } : Room) s m #[.ref (bx β), .ref (oa o)] below meth c H locs 0 0 (MQ below (mQi γ (fun r M' => r = b2i (cgw σ (L (sj (opp (sI σ 1 o)))) o) ∧ M' = M)) #[.ref (bx β), .ref (oa o)] s 0 0 (mA (gz γ))) (F0 m 25 ls []) := by
      intro d
      induction d with
      | zero =>
        intro i0 a H locs ls hi ha hl hw
        refine lv_iload S.1 S.2.1 d_B_couldGoWhole_25 (lv_at hl 0 rfl) ?_
        refine lv_aload_n S.1 S.2.1 d_B_couldGoWhole_27 rfl (lv_at hl 2 rfl) ?_
        refine m_ci hw (va_runV (As := []) (rest := [.int (nI i0)]) S (c_AL_size l γ M (bal β (sj (opp (sI σ 1 o)))) md _ _ hl0) (m_cwV 0 S g185 g186 g187 g44 g188 rfl rfl ⟨by decide +kernel, by decide +kernel, by decide +kernel⟩ ⟨(Nat.le_of_ble_eq_true rfl), (Nat.le_of_ble_eq_true rfl)⟩) (hw.preV hl0 cl_AL.1) rfl rfl hl.1 rfl (lv_room (Nat.le_of_ble_eq_true rfl)) d_B_couldGoWhole_28 ⟨(Nat.zero_le _), (Nat.zero_le _)⟩) (fun r1 M1 H locs hp hw => ?_)
        obtain ⟨rfl, hM1⟩ := hp
        rw [hM1] at hw
        refine lv_icmp_ge (tgt := 87) S.1 S.2.1 d_B_couldGoWhole_31 rfl (fun _ => ?_) (fun h => absurd (nI_le (by omega) (by omega)) h)
        have hl := lv_sub hl [1, 3, 4] rfl
        exact hexit a H locs ls (by rw [← ha, List.drop_eq_nil_of_le (by omega)]; rfl) hl hw
      | succ d ih =>
        intro i0 a H locs ls hi ha hl hw
        have hbd : i0 < (L (sj (opp (sI σ 1 o)))).length := by omega
        have hm := (hLj.1 (L (sj (opp (sI σ 1 o))))[i0]).mp (List.getElem_mem hbd)
        rw [drop_at hbd] at ha
        refine lv_iload S.1 S.2.1 d_B_couldGoWhole_25 (lv_at hl 0 rfl) ?_
        refine lv_aload_n S.1 S.2.1 d_B_couldGoWhole_27 rfl (lv_at hl 2 rfl) ?_
        refine m_ci hw (va_runV (As := []) (rest := [.int (nI i0)]) S (c_AL_size l γ M (bal β (sj (opp (sI σ 1 o)))) md _ _ hl0) (m_cwV 0 S g185 g186 g187 g44 g188 rfl rfl ⟨by decide +kernel, by decide +kernel, by decide +kernel⟩ ⟨(Nat.le_of_ble_eq_true rfl), (Nat.le_of_ble_eq_true rfl)⟩) (hw.preV hl0 cl_AL.1) rfl rfl hl.1 rfl (lv_room (Nat.le_of_ble_eq_true rfl)) d_B_couldGoWhole_28 ⟨(Nat.zero_le _), (Nat.zero_le _)⟩) (fun r1 M1 H locs hp hw => ?_)
        obtain ⟨rfl, hM1⟩ := hp
        rw [hM1] at hw
        refine lv_icmp_ge (tgt := 87) S.1 S.2.1 d_B_couldGoWhole_31 rfl (fun h => absurd h (nI_ge (by omega) (by omega))) (fun _ => ?_)
        refine lv_aload_n S.1 S.2.1 d_B_couldGoWhole_34 rfl (lv_at hl 2 rfl) ?_
        refine lv_iload S.1 S.2.1 d_B_couldGoWhole_35 (lv_at hl 0 rfl) ?_
        refine m_cq hw (va_runV (As := [.int (nI i0)]) (rest := []) S (c_AL_get l γ M (bal β (sj (opp (sI σ 1 o)))) r0 (cp (sj (opp (sI σ 1 o)))) ((L (sj (opp (sI σ 1 o)))).map oa) hA i0 (by omega)) (m_cwV 1 S g189 g190 g191 g44 g192 rfl rfl ⟨by decide +kernel, by decide +kernel, by decide +kernel⟩ ⟨(Nat.le_of_ble_eq_true rfl), (Nat.le_of_ble_eq_true rfl)⟩) (hw.preV hl0 cl_AL.1) rfl rfl hl.1 rfl (lv_room (Nat.le_of_ble_eq_true rfl)) d_B_couldGoWhole_37 ⟨(Nat.zero_le _), (Nat.zero_le _)⟩) (fun r1 M1 H locs hp hw => ?_)
        obtain ⟨rfl, hM1⟩ := hp
        rw [hM1] at hw
        have hge := map_at (oa := oa) hbd
        refine W.eq (g2 := F0 m 40 ls [.ref (oa (L (sj (opp (sI σ 1 o))))[i0])]) (by rw [hge]; rfl) ?_
        refine m_cast S hw cl_O (hC.ord _ hm.1) g203 d_B_couldGoWhole_40 ?_
        refine lv_astore S.1 S.2.1 d_B_couldGoWhole_43 hl (by decide) rfl (fun ls hl => ?_)
        have hl : lv_has ls 7 [(6, .ref (oa (L (sj (opp (sI σ 1 o))))[i0])), (5, .int (nI i0)), (3, .long a), (2, .ref (bal β (sj (opp (sI σ 1 o))))), (0, .ref (bx β)), (1, .ref (oa o))] := hl
        refine lv_aload_n S.1 S.2.1 d_B_couldGoWhole_45 rfl (lv_at hl 5 rfl) ?_
        refine lv_aload S.1 S.2.1 d_B_couldGoWhole_46 (lv_at hl 0 rfl) ?_
        refine m_get S hw cl_O (hC.ord _ hm.1) 5 (by decide) g395 (fun _ h => h) rfl d_B_couldGoWhole_48 ?_
        refine m_ci hw (va_runV (As := [.int ((sI σ) 2 ((L (sj (opp (sI σ 1 o))))[i0]))]) (rest := []) S (c_O_takes l γ M (oa o) _ _ _ _ _ _ _ _ _ _ hOo (sI σ 2 (L (sj (opp (sI σ 1 o))))[i0])) (m_cwV 1 S g262 g263 g264 g54 g265 rfl rfl ⟨by decide +kernel, by decide +kernel, by decide +kernel⟩ ⟨(Nat.le_of_ble_eq_true rfl), (Nat.le_of_ble_eq_true rfl)⟩) (hw.preV hOo cl_O.1) rfl rfl hl.1 rfl (lv_room (Nat.le_of_ble_eq_true rfl)) d_B_couldGoWhole_51 ⟨(Nat.zero_le _), (Nat.zero_le _)⟩) (fun r1 M1 H locs hp hw => ?_)
        obtain ⟨rfl, hM1⟩ := hp
        rw [hM1] at hw
        refine W.eq (g2 := F0 m 54 ls [.int (b2i (tk (sI σ) o (sI σ 2 (L (sj (opp (sI σ 1 o))))[i0])))]) rfl ?_
        refine lv_if_eq (tgt := 87) S.1 S.2.1 d_B_couldGoWhole_54 rfl (fun h54 => ?_) (fun h54 => ?_)
        · have hl := lv_sub hl [2, 4, 5] rfl
          exact hexit a H locs ls (by rw [← ha]; exact (avl_nt (b2i_0.mp h54)).symm) hl hw
        · refine lv_aload_n S.1 S.2.1 d_B_couldGoWhole_57 rfl (lv_at hl 4 rfl) ?_
          refine lv_aload S.1 S.2.1 d_B_couldGoWhole_58 (lv_at hl 0 rfl) ?_
          refine m_get S hw cl_O (hC.ord _ hm.1) 5 (by decide) g395 (fun _ h => h) rfl d_B_couldGoWhole_60 ?_
          refine m_ci hw (va_runV (As := [.int ((sI σ) 2 ((L (sj (opp (sI σ 1 o))))[i0]))]) (rest := []) S (c_B_isBeyondBand l γ M β σ.2.1 hC.book (sI σ 2 (L (sj (opp (sI σ 1 o))))[i0])) (m_cwV 1 S g514 g516 g12 g41 g517 rfl rfl ⟨by decide +kernel, by decide +kernel, by decide +kernel⟩ ⟨(Nat.le_of_ble_eq_true rfl), (Nat.le_of_ble_eq_true rfl)⟩) (hw.preV hC.book cl_B.1) rfl rfl hl.1 rfl (lv_room (Nat.le_of_ble_eq_true rfl)) d_B_couldGoWhole_63 ⟨(Nat.zero_le _), (Nat.zero_le _)⟩) (fun r1 M1 H locs hp hw => ?_)
          obtain ⟨rfl, hM1⟩ := hp
          rw [hM1] at hw
          refine lv_if_eq (tgt := 72) S.1 S.2.1 d_B_couldGoWhole_66 rfl (fun h66 => ?_) (fun h66 => ?_)
          · refine lv_lload_n S.1 S.2.1 d_B_couldGoWhole_72 rfl (lv_at hl 2 rfl) ?_
            refine lv_aload S.1 S.2.1 d_B_couldGoWhole_73 (lv_at hl 0 rfl) ?_
            refine m_get S hw cl_O (hC.ord _ hm.1) 6 (by decide) g398 (fun _ h => h) rfl d_B_couldGoWhole_75 ?_
            refine lv_i2l S.1 S.2.1 d_B_couldGoWhole_78 rfl ?_
            refine lv_ladd S.1 S.2.1 d_B_couldGoWhole_79 ?_
            refine lv_lstore_n S.1 S.2.1 d_B_couldGoWhole_80 rfl hl (by decide) rfl (fun ls hl => ?_)
            have hl : lv_has ls 7 [(3, .long (a + (((sI σ) 3 ((L (sj (opp (sI σ 1 o))))[i0])).toInt64))), (6, .ref (oa (L (sj (opp (sI σ 1 o))))[i0])), (5, .int (nI i0)), (2, .ref (bal β (sj (opp (sI σ 1 o))))), (0, .ref (bx β)), (1, .ref (oa o))] := hl
            refine lv_iinc (k := 2) (v := nI (i0 + 1)) S.1 S.2.1 d_B_couldGoWhole_81 hl rfl (nI_1 i0) (by decide) rfl (fun ls hl => ?_)
            have hl : lv_has ls 7 [(5, .int (nI (i0 + 1))), (3, .long (a + (((sI σ) 3 ((L (sj (opp (sI σ 1 o))))[i0])).toInt64))), (6, .ref (oa (L (sj (opp (sI σ 1 o))))[i0])), (2, .ref (bal β (sj (opp (sI σ 1 o))))), (0, .ref (bx β)), (1, .ref (oa o))] := hl
            refine lv_goto (tgt := 25) S.1 S.2.1 d_B_couldGoWhole_84 rfl ?_
            have hl := lv_sub hl [0, 1, 3, 4, 5] rfl
            exact ih (i0 + 1) _ H locs ls (by omega) (by rw [← ha]; exact (avl_go (b2i_n0.mp h54) (b2i_0.mp h66)).symm) hl hw
          · refine lv_goto (tgt := 87) S.1 S.2.1 d_B_couldGoWhole_69 rfl ?_
            have hl := lv_sub hl [2, 4, 5] rfl
            exact hexit a H locs ls (by rw [← ha]; exact (avl_by (b2i_n0.mp h66)).symm) hl hw
    have hl := lv_sub hl [0, 1, 2, 3, 4] rfl
    exact loop _ 0 0 H locs ls (Nat.zero_add _) rfl hl hw
  refine lv_if_ne (tgt := 12) S.1 S.2.1 d_B_couldGoWhole_5 rfl (fun h5 => ?_) (fun h5 => ?_)
  · refine lv_iconst (v := 0) S.1 S.2.1 d_B_couldGoWhole_12 (by decide) ?_
    refine W.eq (g2 := F0 m 13 ls [.int (opp (sI σ 1 o)), .ref (bx β)]) (congrArg (fun z => F0 m 13 ls [.int z, .ref (bx β)]) (show (0 : Int32) = opp (sI σ 1 o) from (if_neg h5).symm)) ?_
    exact cont _ _ ls hl hw
  · refine lv_iconst (v := 1) S.1 S.2.1 d_B_couldGoWhole_8 (by decide) ?_
    refine lv_goto (tgt := 13) S.1 S.2.1 d_B_couldGoWhole_9 rfl ?_
    refine W.eq (g2 := F0 m 13 ls [.int (opp (sI σ 1 o)), .ref (bx β)]) (congrArg (fun z => F0 m 13 ls [.int z, .ref (bx β)]) (show (1 : Int32) = opp (sI σ 1 o) from (if_pos h5).symm)) ?_
    exact cont _ _ ls hl hw
end
section
/-! An order ends: what is needed of the rest -/
def InvB (σ : St) : Prop := sn σ ≤ 250 ∧ oOK (sI σ) (sn σ) ∧ (∀ o, o < sn σ → 0 ≤ (sI σ 8 o).toInt ∧ (sI σ 8 o).toInt ≤ 100000 ∧ -1 ≤ (sI σ 5 o).toInt ∧ (sI σ 5 o).toInt < (srk σ).toInt) ∧ 0 ≤ (srk σ).toInt
theorem Inv0.b {σ : St} (h : Inv0 σ) : InvB σ := ⟨h.1, h.2.1, h.2.2.1, h.2.2.2.1⟩
theorem InvX.b {σ : St} {r : Nat} (h : InvX σ r) : InvB σ := ⟨h.1, h.2.1, h.2.2.1, h.2.2.2.1⟩
theorem InvB.cols {σ τ : St} (h : InvB σ) (hn : sn τ = sn σ) (hrk : srk τ = srk σ) (h1 : sI τ 1 = sI σ 1) (h2 : sI τ 2 = sI σ 2) (h5 : sI τ 5 = sI σ 5) (h8 : sI τ 8 = sI σ 8) : InvB τ := by
  obtain ⟨i1, i2, i3, i4⟩ := h
  refine ⟨by rw [hn]; exact i1, by rw [hn]; exact i2.cols h1 h2 h5, fun o ho => ?_, by rw [hrk]; exact i4⟩
  rw [hn] at ho; rw [h8, h5, hrk]; exact i3 o ho
/-- the same lines, with numbers that are as they should -/
def fk (σ : St) : St := ((sn σ, fun f x => if f = 3 ∨ f = 4 then 1 else if f = 8 then 0 else sI σ f x), σ.2)
theorem fk_f {σ : St} {f : Nat} (h3 : f ≠ 3) (h4 : f ≠ 4) (h8 : f ≠ 8) : sI (fk σ) f = sI σ f := by
  funext x
  show (if f = 3 ∨ f = 4 then (1 : Int32) else if f = 8 then 0 else sI σ f x) = _
  rw [if_neg (by omega), if_neg h8]
theorem fk_inv {σ : St} (h : InvB σ) : Inv0 (fk σ) := by
  obtain ⟨i1, i2, i3, i4⟩ := h
  have f1 := fk_f (σ := σ) (f := 1) (by decide) (by decide) (by decide)
  have f2 := fk_f (σ := σ) (f := 2) (by decide) (by decide) (by decide)
  have f5 := fk_f (σ := σ) (f := 5) (by decide) (by decide) (by decide)
  refine ⟨i1, i2.cols f1 f2 f5, fun o ho => ?_, i4, fun o ho _ => ?_⟩
  · have := i3 o ho
    rw [f5]
    exact ⟨show (0 : Int) ≤ (0 : Int32).toInt by decide, show (0 : Int32).toInt ≤ 100000 by decide, this.2.2.1, this.2.2.2⟩
  · exact ⟨show 1 ≤ (1 : Int32).toInt by decide, show (1 : Int32).toInt ≤ 100000 by decide, show 1 ≤ (1 : Int32).toInt by decide, fun _ => rfl, fun h => absurd (show 0 < (0 : Int32).toInt from h) (by decide)⟩
section ENDE
variable {σ : St} {r x f : Nat}
theorem end_f (h3 : f ≠ 3) (h4 : f ≠ 4) (h5 : f ≠ 5) : sI (xEnd σ r) f = sI σ f := by
  show s1 (s1 (s1 (sI σ) 3 r 0) 4 r 0) 5 r (-1) f = _
  rw [s1_f h5, s1_f h4, s1_f h3]
theorem end_x (h : x ≠ r) : sI (xEnd σ r) f x = sI σ f x := by
  show s1 (s1 (s1 (sI σ) 3 r 0) 4 r 0) 5 r (-1) f x = _
  rw [s1_o h, s1_o h, s1_o h]
theorem end_5 : sI (xEnd σ r) 5 r = -1 := by
  show s1 (s1 (s1 (sI σ) 3 r 0) 4 r 0) 5 r (-1) 5 r = _
  rw [s1_ss]
theorem end_3 : sI (xEnd σ r) 3 r = 0 := by
  show s1 (s1 (s1 (sI σ) 3 r 0) 4 r 0) 5 r (-1) 3 r = _
  rw [s1_f (f' := 3) (f := 5) (by decide), s1_f (f' := 3) (f := 4) (by decide), s1_ss]
theorem end_4 : sI (xEnd σ r) 4 r = 0 := by
  show s1 (s1 (s1 (sI σ) 3 r 0) 4 r 0) 5 r (-1) 4 r = _
  rw [s1_f (f' := 4) (f := 5) (by decide), s1_ss]
theorem end_nr : rs (sI (xEnd σ r)) r = false := by
  cases h : rs (sI (xEnd σ r)) r with
  | false => rfl
  | true => rw [rs_iff, end_5, i_m1] at h; omega
theorem end_fk5 : sI (xEnd (fk σ) r) 5 = sI (xEnd σ r) 5 := by
  funext y
  by_cases e : y = r
  · subst e; rw [end_5, end_5]
  · rw [end_x e, end_x e, fk_f (by decide) (by decide) (by decide)]
theorem end_fkf (h3 : f ≠ 3) (h4 : f ≠ 4) (h5 : f ≠ 5) (h8 : f ≠ 8) : sI (xEnd (fk σ) r) f = sI (xEnd σ r) f := by
  rw [end_f h3 h4 h5, end_f h3 h4 h5, fk_f h3 h4 h8]
theorem end_backB (h : Inv0 (xEnd (fk σ) r)) (hB : InvB σ) : InvB (xEnd σ r) := by
  obtain ⟨i1, i2, i3, i4, -⟩ := h
  have f1 := end_fkf (σ := σ) (r := r) (f := 1) (by decide) (by decide) (by decide) (by decide)
  have f2 := end_fkf (σ := σ) (r := r) (f := 2) (by decide) (by decide) (by decide) (by decide)
  refine ⟨i1, i2.cols f1.symm f2.symm end_fk5.symm, fun o ho => ?_, i4⟩
  have h1 := i3 o ho
  have h2 := hB.2.2.1 o ho
  rw [end_fk5] at h1
  rw [end_f (f := 8) (by decide) (by decide) (by decide)]
  exact ⟨h2.1, h2.2.1, h1.2.2.1, h1.2.2.2⟩
theorem end_backL {L : Nat → List Nat} (h : LN (xEnd (fk σ) r) L) : LN (xEnd σ r) L :=
  h.cols rfl (end_fkf (by decide) (by decide) (by decide) (by decide)).symm (end_fkf (by decide) (by decide) (by decide) (by decide)).symm end_fk5.symm
theorem fk_L {L : Nat → List Nat} (h : LN σ L) : LN (fk σ) L := h.cols rfl (fk_f (by decide) (by decide) (by decide)) (fk_f (by decide) (by decide) (by decide)) (fk_f (by decide) (by decide) (by decide))
theorem LN.endB {L : Nat → List Nat} {k : Nat} (hB : InvB σ) (hL : LN σ L) (hr : r < sn σ) (hk : (L (sj (sI σ 1 r)))[k]? = some r) : InvB (xEnd σ r) ∧ LN (xEnd σ r) (fun k' => if k' = sj (sI σ 1 r) then (L (sj (sI σ 1 r))).eraseIdx k else L k') := by
  have f1 := fk_f (σ := σ) (f := 1) (by decide) (by decide) (by decide)
  obtain ⟨h1, h2⟩ := LN.ende (σ := fk σ) (r := r) (k := k) ((fk_inv hB).x r) (fk_L hL) hr (by rw [f1]; exact hk)
  rw [f1] at h2
  exact ⟨end_backB h1 hB, end_backL h2⟩
theorem LN.endNB {L : Nat → List Nat} (hB : InvB σ) (hL : LN σ L) (h5 : sI σ 5 r = -1) : InvB (xEnd σ r) ∧ LN (xEnd σ r) L := by
  have f5 := fk_f (σ := σ) (f := 5) (by decide) (by decide) (by decide)
  obtain ⟨h1, h2⟩ := LN.endN (σ := fk σ) (r := r) (fk_inv hB) (fk_L hL) (by rw [f5]; exact h5)
  exact ⟨end_backB h1 hB, end_backL h2⟩
theorem end_inv (hI : InvX σ r) (hB : InvB (xEnd σ r)) : Inv0 (xEnd σ r) := by
  refine ⟨hB.1, hB.2.1, hB.2.2.1, hB.2.2.2, fun o ho hs => ?_⟩
  by_cases e : o = r
  · rw [e, end_nr] at hs; cases hs
  · have h9 := hI.2.2.2.2 o ho e (by rw [rs_iff] at *; rw [end_x e] at hs; exact hs)
    unfold Rok at *
    rw [end_x e, end_x e, end_x e]
    exact h9
end ENDE
theorem c_B_finish (l : Launch) (γ : mG) (M : mMap) (β : BK) (oa cp : Nat → Nat) (L : Nat → List Nat) (σ : St) (hC : CB γ M β oa cp L σ) (hB : InvB σ) (hL : LN σ L) (o : Nat) (ho : o < sn σ) : Met l y_B_finish w_B_finish ({ frames := 4, cells := 0, slots := 0, locals := 116 } : Room) (mPc γ M [.ref (bx β), .ref (oa o)]) (mQv γ (fun M' => ∃ L', CB γ M' β oa cp L' (xEnd σ o) ∧ InvB (xEnd σ o) ∧ LN (xEnd σ o) L' ∧ frC M M')) 0 0 (mA (gz γ)) := by
  by_cases h5 : sI σ 5 o = -1
  · exact (c_B_finishN l γ M β oa cp L σ hC hB.1 o ho h5).mono (mQv.mono (fun M' h => ⟨L, h.1, (LN.endNB hB hL h5).1, (LN.endNB hB hL h5).2, h.2⟩))
  · have hLj : Line (sI σ) (sn σ) (sI σ 1 o) (L (sj (sI σ 1 o))) := sj_val (hB.2.1.1 o ho).2.2 hL
    have hr : rs (sI σ) o = true := by
      rw [rs_iff]
      have h9 := (hB.2.2.1 o ho).2.2.1
      have h8 : (sI σ 5 o).toInt ≠ -1 := fun z => h5 (Int32.toInt_inj.mp (z.trans i_m1.symm))
      omega
    obtain ⟨k, hk⟩ := List.getElem?_of_mem ((hLj.1 o).mpr ⟨ho, onS_iff.mpr ⟨hr, rfl⟩⟩)
    exact (c_B_finishR l γ M β oa cp L σ hC hB.1 o ho h5 hLj.nodup (fun y hy => ((hLj.1 y).mp hy).1) (hLj.len hB.1) k hk).mono (mQv.mono (fun M' h => ⟨_, h.1, (LN.endB hB hL ho hk).1, (LN.endB hB hL ho hk).2, h.2⟩))
/-- going on begins for an order; an order of which nothing is left ends -/
def xStart (σ : St) (o : Nat) : St := if sI σ 5 o = -1 then σ else if sI σ 2 o = 0 then xEnd σ o else xShow σ o
def xFin (σ : St) (o : Nat) : St := if sI σ 3 o = 0 then xEnd σ o else σ
theorem show_f {σ : St} {o f : Nat} (h : f ≠ 4) : sI (xShow σ o) f = sI σ f := by
  show s1 (sI σ) 4 o (shw (sI σ) o) f = _
  rw [s1_f h]
end
section
/-! CallBook.startGoingOn, finishIfNothingLeft -/
set_option maxHeartbeats 4000000 in
set_option maxRecDepth 100000 in
theorem c_B_startGoingOn (l : Launch) (γ : mG) (M : mMap) (β : BK) (oa cp : Nat → Nat) (L : Nat → List Nat) (σ : St) (hC : CB γ M β oa cp L σ) (hB : InvB σ) (hL : LN σ L) (o : Nat) (ho : o < sn σ) : Met l y_B_startGoingOn w_B_startGoingOn ({ frames := 5, cells := 0, slots := 0, locals := 137 } : Room) (mPc γ M [.ref (bx β), .ref (oa o)]) (mQv γ (fun M' => ∃ L', CB γ M' β oa cp L' (xStart σ o) ∧ InvB (xStart σ o) ∧ LN (xStart σ o) L' ∧ frC M M')) 0 0 (mA (gz γ)) := by
  refine m_enter (by decide) (Nat.le_of_ble_eq_true rfl) ?_
  intro p e s m below meth c ls S hr hlk hnm hl hw
  have hl : lv_has ls 2 [(0, .ref (bx β)), (1, .ref (oa o))] := hl
  have hOo := hC.ord o ho
  refine lv_aload_n S.1 S.2.1 d_B_startGoingOn_0 rfl (lv_at hl 1 rfl) ?_
  refine m_ci hw (va_runV (As := []) (rest := []) S (c_O_rests l γ M (oa o) _ _ _ _ _ _ _ _ _ _ hOo) (m_cwV 0 S g270 g244 g245 g54 g246 rfl rfl ⟨by decide +kernel, by decide +kernel, by decide +kernel⟩ ⟨(Nat.le_of_ble_eq_true rfl), (Nat.le_of_ble_eq_true rfl)⟩) (hw.preV hOo cl_O.1) rfl rfl hl.1 rfl (lv_room (Nat.le_of_ble_eq_true rfl)) d_B_startGoingOn_1 ⟨(Nat.zero_le _), (Nat.zero_le _)⟩) (fun r1 M1 H locs hp hw => ?_)
  obtain ⟨rfl, hM1⟩ := hp
  rw [hM1] at hw
  refine lv_if_ne (tgt := 8) S.1 S.2.1 d_B_startGoingOn_4 rfl (fun h4 => ?_) (fun h4 => ?_)
  · have h5 : ¬ sI σ 5 o = -1 := of_decide_eq_true (b2i_n0.mp h4)
    refine lv_aload_n S.1 S.2.1 d_B_startGoingOn_8 rfl (lv_at hl 1 rfl) ?_
    refine m_get S hw cl_O hOo 5 (by decide) g395 (fun _ h => h) rfl d_B_startGoingOn_9 ?_
    refine lv_if_ne (tgt := 23) S.1 S.2.1 d_B_startGoingOn_12 rfl (fun h12 => ?_) (fun h12 => ?_)
    · refine lv_aload_n S.1 S.2.1 d_B_startGoingOn_23 rfl (lv_at hl 1 rfl) ?_
      refine lv_aload_n S.1 S.2.1 d_B_startGoingOn_24 rfl (lv_at hl 1 rfl) ?_
      refine m_ci hw (va_runV (As := []) (rest := [.ref (oa o)]) S (c_O_mayShow l γ M (oa o) _ _ _ _ _ _ _ _ _ _ hOo) (m_cwV 0 S g494 g237 g238 g54 g239 rfl rfl ⟨by decide +kernel, by decide +kernel, by decide +kernel⟩ ⟨(Nat.le_of_ble_eq_true rfl), (Nat.le_of_ble_eq_true rfl)⟩) (hw.preV hOo cl_O.1) rfl rfl hl.1 rfl (lv_room (Nat.le_of_ble_eq_true rfl)) d_B_startGoingOn_25 ⟨(Nat.zero_le _), (Nat.zero_le _)⟩) (fun r1 M1 H locs hp hw => ?_)
      obtain ⟨rfl, hM1⟩ := hp
      rw [hM1] at hw
      refine W.eq (g2 := F0 m 28 ls [.int (shw (sI σ) o), .ref (oa o)]) (by rw [← shw_eq (hB.2.2.1 o ho).1]) ?_
      refine m_put S hw cl_O hOo 7 (by decide) g400 (fun _ h => h) rfl rfl rfl (Nat.le_of_ble_eq_true rfl) d_B_startGoingOn_28 (fun H locs hw => ?_)
      have hw : mW γ (mU M (oa o) (.inr (2, [.int (nI o), .int ((sI σ) 0 o), .int ((sI σ) 1 o), .int ((sI σ) 8 o), .int ((sI σ) 6 o), .int ((sI σ) 2 o), .int ((sI σ) 3 o), .int (shw (sI σ) o), .int ((sI σ) 5 o), .int ((sI σ) 7 o)]))) s H locs := hw
      rw [← oc_4] at hw
      obtain ⟨hC1, hf1⟩ := hC.setO hB.1 ho (J := s1 (sI σ) 4 o (shw (sI σ) o)) (fun f x hx => s1_o hx) (e := .inr (2, oc (s1 (sI σ) 4 o (shw (sI σ) o)) o)) rfl
      exact m_vret S hlk hr hw (⟨L, by unfold xStart; rw [if_neg h5, if_neg h12]; exact hC1, by unfold xStart; rw [if_neg h5, if_neg h12]; exact hB.cols rfl rfl (show_f (by decide)) (show_f (by decide)) (show_f (by decide)) (show_f (by decide)), by unfold xStart; rw [if_neg h5, if_neg h12]; exact hL.cols rfl (show_f (by decide)) (show_f (by decide)) (show_f (by decide)), hf1⟩) (Nat.le_refl _) (Nat.le_refl _) d_B_startGoingOn_31
    · refine lv_aload_n S.1 S.2.1 d_B_startGoingOn_15 rfl (lv_at hl 0 rfl) ?_
      refine lv_aload_n S.1 S.2.1 d_B_startGoingOn_16 rfl (lv_at hl 1 rfl) ?_
      refine m_cv hw (va_runV (As := [.ref (oa o)]) (rest := []) S (c_B_finish l γ M β oa cp L σ hC hB hL o ho) (m_cwV 1 S g563 g565 g16 g41 g566 rfl rfl ⟨by decide +kernel, by decide +kernel, by decide +kernel⟩ ⟨(Nat.le_of_ble_eq_true rfl), (Nat.le_of_ble_eq_true rfl)⟩) (hw.preV hC.book cl_B.1) rfl rfl hl.1 rfl (lv_room (Nat.le_of_ble_eq_true rfl)) d_B_startGoingOn_17 ⟨(Nat.zero_le _), (Nat.zero_le _)⟩) (fun M1 H locs hp hw => ?_)
      obtain ⟨L3, hC3, hB3, hL3, hf3⟩ := hp
      refine lv_goto (tgt := 31) S.1 S.2.1 d_B_startGoingOn_20 rfl ?_
      exact m_vret S hlk hr hw (⟨L3, by unfold xStart; rw [if_neg h5, if_pos h12]; exact hC3, by unfold xStart; rw [if_neg h5, if_pos h12]; exact hB3, by unfold xStart; rw [if_neg h5, if_pos h12]; exact hL3, hf3⟩) (Nat.le_refl _) (Nat.le_refl _) d_B_startGoingOn_31
  · have h5 : sI σ 5 o = -1 := Classical.not_not.mp (of_decide_eq_false (b2i_0.mp h4))
    exact m_vret S hlk hr hw (⟨L, by unfold xStart; rw [if_pos h5]; exact hC, by unfold xStart; rw [if_pos h5]; exact hB, by unfold xStart; rw [if_pos h5]; exact hL, frC.rf M⟩) (Nat.le_refl _) (Nat.le_refl _) d_B_startGoingOn_7
set_option maxHeartbeats 4000000 in
set_option maxRecDepth 100000 in
theorem c_B_finishIfNothingLeft (l : Launch) (γ : mG) (M : mMap) (β : BK) (oa cp : Nat → Nat) (L : Nat → List Nat) (σ : St) (hC : CB γ M β oa cp L σ) (hB : InvB σ) (hL : LN σ L) (o : Nat) (ho : o < sn σ) : Met l y_B_finishIfNothingLeft w_B_finishIfNothingLeft ({ frames := 5, cells := 0, slots := 0, locals := 137 } : Room) (mPc γ M [.ref (bx β), .ref (oa o)]) (mQv γ (fun M' => ∃ L', CB γ M' β oa cp L' (xFin σ o) ∧ InvB (xFin σ o) ∧ LN (xFin σ o) L' ∧ frC M M')) 0 0 (mA (gz γ)) := by
  refine m_enter (by decide) (Nat.le_of_ble_eq_true rfl) ?_
  intro p e s m below meth c ls S hr hlk hnm hl hw
  have hl : lv_has ls 2 [(0, .ref (bx β)), (1, .ref (oa o))] := hl
  have hOo := hC.ord o ho
  refine lv_aload_n S.1 S.2.1 d_B_finishIfNothingLeft_0 rfl (lv_at hl 1 rfl) ?_
  refine m_get S hw cl_O hOo 6 (by decide) g398 (fun _ h => h) rfl d_B_finishIfNothingLeft_1 ?_
  refine lv_if_ne (tgt := 12) S.1 S.2.1 d_B_finishIfNothingLeft_4 rfl (fun h4 => ?_) (fun h4 => ?_)
  · exact m_vret S hlk hr hw (⟨L, by unfold xFin; rw [if_neg h4]; exact hC, by unfold xFin; rw [if_neg h4]; exact hB, by unfold xFin; rw [if_neg h4]; exact hL, frC.rf M⟩) (Nat.le_refl _) (Nat.le_refl _) d_B_finishIfNothingLeft_12
  · refine lv_aload_n S.1 S.2.1 d_B_finishIfNothingLeft_7 rfl (lv_at hl 0 rfl) ?_
    refine lv_aload_n S.1 S.2.1 d_B_finishIfNothingLeft_8 rfl (lv_at hl 1 rfl) ?_
    refine m_cv hw (va_runV (As := [.ref (oa o)]) (rest := []) S (c_B_finish l γ M β oa cp L σ hC hB hL o ho) (m_cwV 1 S g563 g565 g16 g41 g566 rfl rfl ⟨by decide +kernel, by decide +kernel, by decide +kernel⟩ ⟨(Nat.le_of_ble_eq_true rfl), (Nat.le_of_ble_eq_true rfl)⟩) (hw.preV hC.book cl_B.1) rfl rfl hl.1 rfl (lv_room (Nat.le_of_ble_eq_true rfl)) d_B_finishIfNothingLeft_9 ⟨(Nat.zero_le _), (Nat.zero_le _)⟩) (fun M1 H locs hp hw => ?_)
    obtain ⟨L3, hC3, hB3, hL3, hf3⟩ := hp
    exact m_vret S hlk hr hw (⟨L3, by unfold xFin; rw [if_pos h4]; exact hC3, by unfold xFin; rw [if_pos h4]; exact hB3, by unfold xFin; rw [if_pos h4]; exact hL3, hf3⟩) (Nat.le_refl _) (Nat.le_refl _) d_B_finishIfNothingLeft_12
end
section
/-! Trading at one price, in numbers -/
def oQ (σ : St) (b a : Nat) (v : Int64) : Int32 := (if (mn (sI σ 3 b) (sI σ 3 a)).toInt64 < v then (mn (sI σ 3 b) (sI σ 3 a)).toInt64 else v).toInt32
def xDl (σ : St) (b a : Nat) (p : Int32) (v : Int64) : St := xFin (xFin (xDeal σ b a p (oQ σ b a v)) b) a
def xOne : Nat → St → Int32 → Int64 → St
  | 0, σ, _, _ => σ
  | k + 1, σ, p, v => if 0 < v then (match fst (sI σ) 1 (sn σ), fst (sI σ) 0 (sn σ) with
      | some b, some a => xOne k (xDl σ b a p v) p (v - (oQ σ b a v).toInt64)
      | _, _ => σ) else σ
section ONE
variable {σ : St} {o b a k : Nat} {p : Int32} {v : Int64}
theorem fin_sn : sn (xFin σ o) = sn σ := by unfold xFin; split <;> rfl
theorem fin_2 : (xFin σ o).2 = σ.2 := by unfold xFin; split <;> rfl
theorem fin_f {f : Nat} (h3 : f ≠ 3) (h4 : f ≠ 4) (h5 : f ≠ 5) : sI (xFin σ o) f = sI σ f := by
  unfold xFin
  split
  · exact end_f h3 h4 h5
  · rfl
theorem deal_f {q : Int32} {f : Nat} (h3 : f ≠ 3) (h7 : f ≠ 7) : sI (xDeal σ b a p q) f = sI σ f := dI_f h3 h7
theorem dl_sn : sn (xDl σ b a p v) = sn σ := by unfold xDl; rw [fin_sn, fin_sn]; rfl
theorem dl_4 : (xDl σ b a p v).2.1 = σ.2.1 := by unfold xDl; rw [fin_2, fin_2]; rfl
theorem dl_tn : stn (xDl σ b a p v) = stn σ + 1 := by unfold xDl stn; rw [fin_2, fin_2]; rfl
theorem dl_f {f : Nat} (h3 : f ≠ 3) (h4 : f ≠ 4) (h5 : f ≠ 5) (h7 : f ≠ 7) : sI (xDl σ b a p v) f = sI σ f := by
  unfold xDl
  rw [fin_f h3 h4 h5, fin_f h3 h4 h5, deal_f h3 h7]
theorem xOne_no (h : ¬ 0 < v) : xOne (k + 1) σ p v = σ := by
  unfold xOne
  rw [if_neg h]
theorem xOne_nb (h : fst (sI σ) 1 (sn σ) = none) : xOne (k + 1) σ p v = σ := by
  unfold xOne
  rw [h]
  exact ite_self _
theorem xOne_na (h : fst (sI σ) 0 (sn σ) = none) : xOne (k + 1) σ p v = σ := by
  unfold xOne
  rw [h]
  rcases fst (sI σ) 1 (sn σ) with _ | b
  · exact ite_self _
  · exact ite_self _
theorem xOne_go (h : 0 < v) (hb : fst (sI σ) 1 (sn σ) = some b) (ha : fst (sI σ) 0 (sn σ) = some a) : xOne (k + 1) σ p v = xOne k (xDl σ b a p v) p (v - (oQ σ b a v).toInt64) := by
  show (if _ then _ else _) = _
  rw [if_pos h, hb, ha]
theorem one_tn : ∀ {k : Nat} {σ : St} {p : Int32} {v : Int64}, stn σ ≤ stn (xOne k σ p v) := by
  intro k
  induction k with
  | zero => intro σ p v; exact Nat.le_refl _
  | succ k ih =>
    intro σ p v
    unfold xOne
    split
    · split
      · refine Nat.le_trans ?_ ih
        rw [dl_tn]; omega
      · exact Nat.le_refl _
    · exact Nat.le_refl _
end ONE
end
section
/-! CallBook.tradeAtOnePrice -/
set_option maxHeartbeats 4000000 in
set_option maxRecDepth 100000 in
theorem c_B_tradeAtOnePrice (l : Launch) (γ : mG) (M : mMap) (β : BK) (oa cp : Nat → Nat) (L : Nat → List Nat) (σ σ' : St) (hC : CB γ M β oa cp L σ) (hB : InvB σ) (hL : LN σ L) (p0 : Int32) (v0 : Int64) (hcp : cp 3 = cAt (stn σ)) (hσ : xOne 250 σ p0 v0 = σ') (hT : stn σ' ≤ 30000) : Met l y_B_tradeAtOnePrice w_B_tradeAtOnePrice ({ frames := 9, cells := kC (stn σ') - kC (stn σ), slots := kS (stn σ') - kS (stn σ), locals := 227 } : Room) (mPc γ M [.ref (bx β), .int p0, .long v0]) (mQv γ (fun M' => ∃ L' cp', CB γ M' β oa cp' L' σ' ∧ InvB σ' ∧ LN σ' L' ∧ cp' 3 = cAt (stn σ') ∧ (∀ j, j ≠ 3 → cp' j = cp j) ∧ frC M M' ∧ sn σ' = sn σ ∧ (∀ f, f ≠ 3 → f ≠ 4 → f ≠ 5 → f ≠ 7 → sI σ' f = sI σ f) ∧ σ'.2.1 = σ.2.1)) (kC (stn σ') - kC (stn σ)) (kS (stn σ') - kS (stn σ)) (mA (gz γ)) := by
  refine m_enter (by decide) (Nat.le_of_ble_eq_true rfl) ?_
  intro p e s m below meth c ls S hr hlk hnm hl hw
  have hl : lv_has ls 10 [(0, .ref (bx β)), (1, .int p0), (2, .long v0)] := hl
  refine lv_lload_n S.1 S.2.1 d_B_tradeAtOnePrice_0 rfl (lv_at hl 2 rfl) ?_
  refine lv_lstore S.1 S.2.1 d_B_tradeAtOnePrice_1 hl (by decide) rfl (fun ls hl => ?_)
  have hl : lv_has ls 10 [(4, .long v0), (0, .ref (bx β)), (1, .int p0), (2, .long v0)] := hl
  refine lv_iconst (v := 0) S.1 S.2.1 d_B_tradeAtOnePrice_3 (by decide) ?_
  refine lv_istore S.1 S.2.1 d_B_tradeAtOnePrice_4 hl (by decide) rfl (fun ls hl => ?_)
  have hl : lv_has ls 10 [(6, .int 0), (4, .long v0), (0, .ref (bx β)), (1, .int p0), (2, .long v0)] := hl
  have loop : ∀ (d : Nat) (τ : St) (v : Int64) (M2 : mMap) (cp2 : Nat → Nat) (L2 : Nat → List Nat) (H : Heap) (locs : List Loc) (ls : Array Slot), d ≤ 250 → xOne d τ p0 v = σ' → CB γ M2 β oa cp2 L2 τ → InvB τ → LN τ L2 → cp2 3 = cAt (stn τ) → (∀ j, j ≠ 3 → cp2 j = cp j) → frC M M2 → sn τ = sn σ → (∀ f, f ≠ 3 → f ≠ 4 → f ≠ 5 → f ≠ 7 → sI τ f = sI σ f) → τ.2.1 = σ.2.1 → stn σ ≤ stn τ → lv_has ls 10 [(6, .int (nI (250 - d))), (4, .long v), (0, .ref (bx β)), (1, .int p0)] → mW γ M2 s H locs → W p l e ({ frames := 9, cells := kC (stn σ') - kC (stn σ), slots := kS (stn σ') - kS (stn σ), locals := 227 } : Room) s m #[.ref (bx β), .int p0, .long v0] below meth c H locs (kC (stn τ) - kC (stn σ)) (kS (stn τ) - kS (stn σ)) (MQ below (mQv γ (fun M' => ∃ L' cp', CB γ M' β oa cp' L' σ' ∧ InvB σ' ∧ LN σ' L' ∧ cp' 3 = cAt (stn σ') ∧ (∀ j, j ≠ 3 → cp' j = cp j) ∧ frC M M' ∧ sn σ' = sn σ ∧ (∀ f, f ≠ 3 → f ≠ 4 → f ≠ 5 → f ≠ 7 → sI σ' f = sI σ f) ∧ σ'.2.1 = σ.2.1)) #[.ref (bx β), .int p0, .long v0] s (kC (stn σ') - kC (stn σ)) (kS (stn σ') - kS (stn σ)) (mA (gz γ))) (F0 m 6 ls []) := by
    intro d
    induction d with
    | zero =>
      intro τ v M2 cp2 L2 H locs ls hd hfin hC2 hB2 hL2 hcp2 hcpj hf2 hsn hcol h4 htn2 hl hw
      have hE : τ = σ' := hfin
      subst hE
      refine lv_iload S.1 S.2.1 d_B_tradeAtOnePrice_6 (lv_at hl 0 rfl) ?_
      refine lv_sipush (v := 250) S.1 S.2.1 d_B_tradeAtOnePrice_8 (by decide) ?_
      refine lv_icmp_ge (tgt := 109) S.1 S.2.1 d_B_tradeAtOnePrice_11 rfl (fun _ => ?_) (fun h => absurd (show nI 250 ≤ nI (250 - 0) from nI_le (by omega) (by decide)) h)
      exact m_vret S hlk hr hw ⟨L2, cp2, hC2, hB2, hL2, hcp2, hcpj, hf2, hsn, hcol, h4⟩ (Nat.le_refl _) (Nat.le_refl _) d_B_tradeAtOnePrice_109
    | succ d ih =>
      intro τ v M2 cp2 L2 H locs ls hd hfin hC2 hB2 hL2 hcp2 hcpj hf2 hsn hcol h4 htn2 hl hw
      refine lv_iload S.1 S.2.1 d_B_tradeAtOnePrice_6 (lv_at hl 0 rfl) ?_
      refine lv_sipush (v := 250) S.1 S.2.1 d_B_tradeAtOnePrice_8 (by decide) ?_
      refine lv_icmp_ge (tgt := 109) S.1 S.2.1 d_B_tradeAtOnePrice_11 rfl (fun h => absurd h (show ¬ nI 250 ≤ nI (250 - (d + 1)) from nI_ge (by omega) (by decide))) (fun _ => ?_)
      refine lv_lload S.1 S.2.1 d_B_tradeAtOnePrice_14 (lv_at hl 1 rfl) ?_
      refine lv_lconst (v := 0) S.1 S.2.1 d_B_tradeAtOnePrice_16 (by decide) ?_
      refine W.lcmp S.1 S.2.1 d_B_tradeAtOnePrice_17 ?_
      refine lv_if_le (tgt := 109) S.1 S.2.1 d_B_tradeAtOnePrice_18 rfl (fun h18 => ?_) (fun h18 => ?_)
      · have hE : τ = σ' := (xOne_no (k := d) (p := p0) (fun z => absurd ((lg_cmp_le _ _).mp h18) (Int64.not_le.mpr z))).symm.trans hfin
        subst hE
        exact m_vret S hlk hr hw ⟨L2, cp2, hC2, hB2, hL2, hcp2, hcpj, hf2, hsn, hcol, h4⟩ (Nat.le_refl _) (Nat.le_refl _) d_B_tradeAtOnePrice_109
      · have hpos : 0 < v := Int64.not_le.mp (fun z => h18 ((lg_cmp_le _ _).mpr z))
        obtain ⟨r1, hA1⟩ := hC2.list (j := 1) (Or.inl rfl)
        have hLj1 : Line (sI τ) (sn τ) 1 (L2 1) := hL2.1
        have hhd1 := hLj1.hd hB2.2.1
        have hE1 : mEl M2 2 ((L2 1).map oa) := hC2.ord.el (fun y hy => ((hLj1.1 y).mp hy).1)
        have hlen1 : ((L2 1).map oa).length ≤ 250 := by rw [List.length_map]; exact hLj1.len hB2.1
        obtain ⟨r2, hA2⟩ := hC2.list (j := 2) (Or.inr rfl)
        have hLj2 : Line (sI τ) (sn τ) 0 (L2 2) := hL2.2
        have hhd2 := hLj2.hd hB2.2.1
        have hE2 : mEl M2 2 ((L2 2).map oa) := hC2.ord.el (fun y hy => ((hLj2.1 y).mp hy).1)
        have hlen2 : ((L2 2).map oa).length ≤ 250 := by rw [List.length_map]; exact hLj2.len hB2.1
        refine lv_aload_n S.1 S.2.1 d_B_tradeAtOnePrice_21 rfl (lv_at hl 2 rfl) ?_
        refine m_get S hw cl_B hC2.book 1 (by decide) g146 (fun _ h => h) rfl d_B_tradeAtOnePrice_22 ?_
        refine m_cq hw (va_runV (As := []) (rest := []) S (c_S_first l γ M2 (bsd β 1) (bal β 1) r1 (cp2 1) ((L2 1).map oa) (hC2.side (Or.inl rfl)) hA1 hE1 hlen1) (m_cwV 0 S g252 g253 g254 g45 g255 rfl rfl ⟨by decide +kernel, by decide +kernel, by decide +kernel⟩ ⟨(Nat.le_of_ble_eq_true rfl), (Nat.le_of_ble_eq_true rfl)⟩) (hw.preV (hC2.side (Or.inl rfl)) cl_S.1) rfl rfl hl.1 rfl (lv_room (Nat.le_of_ble_eq_true rfl)) d_B_tradeAtOnePrice_25 ⟨(by show kC (stn τ) - kC (stn σ) + 0 ≤ kC (stn σ') - kC (stn σ); have h8 := one_tn (k := d + 1) (σ := τ) (p := p0) (v := v); rw [hfin] at h8; have := kC_mono h8; omega), (by show kS (stn τ) - kS (stn σ) + 0 ≤ kS (stn σ') - kS (stn σ); have h8 := one_tn (k := d + 1) (σ := τ) (p := p0) (v := v); rw [hfin] at h8; have := kS_mono h8; omega)⟩) (fun r1 M1 H locs hp hw => ?_)
        obtain ⟨hres, hM1⟩ := hp
        rw [hM1] at hw
        rw [List.head?_map, ← hhd1] at hres
        rcases hh1 : fst (sI τ) 1 (sn τ) with _ | b1
        · rw [hh1] at hres
          subst hres
          refine W.eq (g2 := F0 m 28 ls [.null]) rfl ?_
          refine lv_astoreN S.1 S.2.1 d_B_tradeAtOnePrice_28 hl (by decide) rfl (fun ls hl => ?_)
          have hl : lv_has ls 10 [(7, .null), (6, .int (nI (250 - (d + 1)))), (4, .long v), (0, .ref (bx β)), (1, .int p0)] := hl
          refine lv_aload_n S.1 S.2.1 d_B_tradeAtOnePrice_30 rfl (lv_at hl 3 rfl) ?_
          refine m_get S hw cl_B hC2.book 2 (by decide) g147 (fun _ h => h) rfl d_B_tradeAtOnePrice_31 ?_
          refine m_cq hw (va_runV (As := []) (rest := []) S (c_S_first l γ M2 (bsd β 2) (bal β 2) r2 (cp2 2) ((L2 2).map oa) (hC2.side (Or.inr rfl)) hA2 hE2 hlen2) (m_cwV 0 S g252 g253 g254 g45 g255 rfl rfl ⟨by decide +kernel, by decide +kernel, by decide +kernel⟩ ⟨(Nat.le_of_ble_eq_true rfl), (Nat.le_of_ble_eq_true rfl)⟩) (hw.preV (hC2.side (Or.inr rfl)) cl_S.1) rfl rfl hl.1 rfl (lv_room (Nat.le_of_ble_eq_true rfl)) d_B_tradeAtOnePrice_34 ⟨(by show kC (stn τ) - kC (stn σ) + 0 + 0 ≤ kC (stn σ') - kC (stn σ); have h8 := one_tn (k := d + 1) (σ := τ) (p := p0) (v := v); rw [hfin] at h8; have := kC_mono h8; omega), (by show kS (stn τ) - kS (stn σ) + 0 + 0 ≤ kS (stn σ') - kS (stn σ); have h8 := one_tn (k := d + 1) (σ := τ) (p := p0) (v := v); rw [hfin] at h8; have := kS_mono h8; omega)⟩) (fun r1 M1 H locs hp hw => ?_)
          obtain ⟨hres, hM1⟩ := hp
          rw [hM1] at hw
          rw [List.head?_map, ← hhd2] at hres
          rcases hh2 : fst (sI τ) 0 (sn τ) with _ | a1
          · rw [hh2] at hres
            subst hres
            refine W.eq (g2 := F0 m 37 ls [.null]) rfl ?_
            refine lv_astoreN S.1 S.2.1 d_B_tradeAtOnePrice_37 hl (by decide) rfl (fun ls hl => ?_)
            have hl : lv_has ls 10 [(8, .null), (7, .null), (6, .int (nI (250 - (d + 1)))), (4, .long v), (0, .ref (bx β)), (1, .int p0)] := hl
            refine lv_aloadN S.1 S.2.1 d_B_tradeAtOnePrice_39 (lv_at hl 1 rfl) ?_
            refine lv_ifnullN S.1 S.2.1 d_B_tradeAtOnePrice_41 rfl ?_
            have hE : τ = σ' := (xOne_nb (k := d) (p := p0) (v := v) hh1).symm.trans hfin
            subst hE
            exact m_vret S hlk hr hw ⟨L2, cp2, hC2, hB2, hL2, hcp2, hcpj, hf2, hsn, hcol, h4⟩ (Nat.le_refl _) (Nat.le_refl _) d_B_tradeAtOnePrice_49
          · rw [hh2] at hres
            subst hres
            refine W.eq (g2 := F0 m 37 ls [.ref (oa a1)]) rfl ?_
            have hm2 : a1 ∈ L2 2 := List.mem_of_getElem? (i := 0) (by rw [← List.head?_eq_getElem?, ← hhd2, hh2])
            obtain ⟨ha1, hos2⟩ := (hLj2.1 a1).mp hm2
            obtain ⟨hs2, hsd2⟩ := onS_iff.mp hos2
            refine lv_astore S.1 S.2.1 d_B_tradeAtOnePrice_37 hl (by decide) rfl (fun ls hl => ?_)
            have hl : lv_has ls 10 [(8, .ref (oa a1)), (7, .null), (6, .int (nI (250 - (d + 1)))), (4, .long v), (0, .ref (bx β)), (1, .int p0)] := hl
            refine lv_aloadN S.1 S.2.1 d_B_tradeAtOnePrice_39 (lv_at hl 1 rfl) ?_
            refine lv_ifnullN S.1 S.2.1 d_B_tradeAtOnePrice_41 rfl ?_
            have hE : τ = σ' := (xOne_nb (k := d) (p := p0) (v := v) hh1).symm.trans hfin
            subst hE
            exact m_vret S hlk hr hw ⟨L2, cp2, hC2, hB2, hL2, hcp2, hcpj, hf2, hsn, hcol, h4⟩ (Nat.le_refl _) (Nat.le_refl _) d_B_tradeAtOnePrice_49
        · rw [hh1] at hres
          subst hres
          refine W.eq (g2 := F0 m 28 ls [.ref (oa b1)]) rfl ?_
          have hm1 : b1 ∈ L2 1 := List.mem_of_getElem? (i := 0) (by rw [← List.head?_eq_getElem?, ← hhd1, hh1])
          obtain ⟨hb1, hos1⟩ := (hLj1.1 b1).mp hm1
          obtain ⟨hs1, hsd1⟩ := onS_iff.mp hos1
          refine lv_astore S.1 S.2.1 d_B_tradeAtOnePrice_28 hl (by decide) rfl (fun ls hl => ?_)
          have hl : lv_has ls 10 [(7, .ref (oa b1)), (6, .int (nI (250 - (d + 1)))), (4, .long v), (0, .ref (bx β)), (1, .int p0)] := hl
          refine lv_aload_n S.1 S.2.1 d_B_tradeAtOnePrice_30 rfl (lv_at hl 3 rfl) ?_
          refine m_get S hw cl_B hC2.book 2 (by decide) g147 (fun _ h => h) rfl d_B_tradeAtOnePrice_31 ?_
          refine m_cq hw (va_runV (As := []) (rest := []) S (c_S_first l γ M2 (bsd β 2) (bal β 2) r2 (cp2 2) ((L2 2).map oa) (hC2.side (Or.inr rfl)) hA2 hE2 hlen2) (m_cwV 0 S g252 g253 g254 g45 g255 rfl rfl ⟨by decide +kernel, by decide +kernel, by decide +kernel⟩ ⟨(Nat.le_of_ble_eq_true rfl), (Nat.le_of_ble_eq_true rfl)⟩) (hw.preV (hC2.side (Or.inr rfl)) cl_S.1) rfl rfl hl.1 rfl (lv_room (Nat.le_of_ble_eq_true rfl)) d_B_tradeAtOnePrice_34 ⟨(by show kC (stn τ) - kC (stn σ) + 0 + 0 ≤ kC (stn σ') - kC (stn σ); have h8 := one_tn (k := d + 1) (σ := τ) (p := p0) (v := v); rw [hfin] at h8; have := kC_mono h8; omega), (by show kS (stn τ) - kS (stn σ) + 0 + 0 ≤ kS (stn σ') - kS (stn σ); have h8 := one_tn (k := d + 1) (σ := τ) (p := p0) (v := v); rw [hfin] at h8; have := kS_mono h8; omega)⟩) (fun r1 M1 H locs hp hw => ?_)
          obtain ⟨hres, hM1⟩ := hp
          rw [hM1] at hw
          rw [List.head?_map, ← hhd2] at hres
          rcases hh2 : fst (sI τ) 0 (sn τ) with _ | a1
          · rw [hh2] at hres
            subst hres
            refine W.eq (g2 := F0 m 37 ls [.null]) rfl ?_
            refine lv_astoreN S.1 S.2.1 d_B_tradeAtOnePrice_37 hl (by decide) rfl (fun ls hl => ?_)
            have hl : lv_has ls 10 [(8, .null), (7, .ref (oa b1)), (6, .int (nI (250 - (d + 1)))), (4, .long v), (0, .ref (bx β)), (1, .int p0)] := hl
            refine lv_aload S.1 S.2.1 d_B_tradeAtOnePrice_39 (lv_at hl 1 rfl) ?_
            refine lv_ifnull S.1 S.2.1 d_B_tradeAtOnePrice_41 ?_
            refine lv_aloadN S.1 S.2.1 d_B_tradeAtOnePrice_44 (lv_at hl 0 rfl) ?_
            refine lv_ifnonnullN S.1 S.2.1 d_B_tradeAtOnePrice_46 ?_
            have hE : τ = σ' := (xOne_na (k := d) (p := p0) (v := v) hh2).symm.trans hfin
            subst hE
            exact m_vret S hlk hr hw ⟨L2, cp2, hC2, hB2, hL2, hcp2, hcpj, hf2, hsn, hcol, h4⟩ (Nat.le_refl _) (Nat.le_refl _) d_B_tradeAtOnePrice_49
          · rw [hh2] at hres
            subst hres
            refine W.eq (g2 := F0 m 37 ls [.ref (oa a1)]) rfl ?_
            have hm2 : a1 ∈ L2 2 := List.mem_of_getElem? (i := 0) (by rw [← List.head?_eq_getElem?, ← hhd2, hh2])
            obtain ⟨ha1, hos2⟩ := (hLj2.1 a1).mp hm2
            obtain ⟨hs2, hsd2⟩ := onS_iff.mp hos2
            refine lv_astore S.1 S.2.1 d_B_tradeAtOnePrice_37 hl (by decide) rfl (fun ls hl => ?_)
            have hl : lv_has ls 10 [(8, .ref (oa a1)), (7, .ref (oa b1)), (6, .int (nI (250 - (d + 1)))), (4, .long v), (0, .ref (bx β)), (1, .int p0)] := hl
            refine lv_aload S.1 S.2.1 d_B_tradeAtOnePrice_39 (lv_at hl 1 rfl) ?_
            refine lv_ifnull S.1 S.2.1 d_B_tradeAtOnePrice_41 ?_
            refine lv_aload S.1 S.2.1 d_B_tradeAtOnePrice_44 (lv_at hl 0 rfl) ?_
            refine lv_ifnonnull S.1 S.2.1 d_B_tradeAtOnePrice_46 rfl ?_
            refine lv_lload S.1 S.2.1 d_B_tradeAtOnePrice_50 (lv_at hl 3 rfl) ?_
            refine lv_aload S.1 S.2.1 d_B_tradeAtOnePrice_52 (lv_at hl 1 rfl) ?_
            refine m_get S hw cl_O (hC2.ord b1 hb1) 6 (by decide) g398 (fun _ h => h) rfl d_B_tradeAtOnePrice_54 ?_
            refine lv_aload S.1 S.2.1 d_B_tradeAtOnePrice_57 (lv_at hl 0 rfl) ?_
            refine m_get S hw cl_O (hC2.ord a1 ha1) 6 (by decide) g398 (fun _ h => h) rfl d_B_tradeAtOnePrice_59 ?_
            refine va_mmin S.1 S.2.1 (S.2.2.1.trans hl.1.symm) S.2.2.2.1 (S.2.2.2.2 _ (gc g526)) (S.2.2.2.2 _ (gc g241)) (S.2.2.2.2 _ (gc g56)) (S.2.2.2.2 _ (gc g242)) (Nat.le_of_ble_eq_true rfl) (Nat.le_of_ble_eq_true rfl) (by show kC (stn τ) - kC (stn σ) + 0 + 0 ≤ kC (stn σ') - kC (stn σ); have h8 := one_tn (k := d + 1) (σ := τ) (p := p0) (v := v); rw [hfin] at h8; have := kC_mono h8; omega) (by show kS (stn τ) - kS (stn σ) + 0 + 0 ≤ kS (stn σ') - kS (stn σ); have h8 := one_tn (k := d + 1) (σ := τ) (p := p0) (v := v); rw [hfin] at h8; have := kS_mono h8; omega) d_B_tradeAtOnePrice_62 ?_
            refine lv_i2l S.1 S.2.1 d_B_tradeAtOnePrice_65 rfl ?_
            refine va_mmin_long S.1 S.2.1 (S.2.2.1.trans hl.1.symm) S.2.2.2.1 (S.2.2.2.2 _ (gc g645)) (S.2.2.2.2 _ (gc g631)) (S.2.2.2.2 _ (gc g56)) (S.2.2.2.2 _ (gc g632)) (Nat.le_of_ble_eq_true rfl) (Nat.le_of_ble_eq_true rfl) (by show kC (stn τ) - kC (stn σ) + 0 + 0 ≤ kC (stn σ') - kC (stn σ); have h8 := one_tn (k := d + 1) (σ := τ) (p := p0) (v := v); rw [hfin] at h8; have := kC_mono h8; omega) (by show kS (stn τ) - kS (stn σ) + 0 + 0 ≤ kS (stn σ') - kS (stn σ); have h8 := one_tn (k := d + 1) (σ := τ) (p := p0) (v := v); rw [hfin] at h8; have := kS_mono h8; omega) d_B_tradeAtOnePrice_66 ?_
            refine lv_l2i S.1 S.2.1 d_B_tradeAtOnePrice_69 rfl ?_
            refine W.eq (g2 := F0 m 70 ls [.int (oQ τ b1 a1 v)]) (congrArg (fun z => F0 m 70 ls [.int z]) rfl) ?_
            refine lv_istore S.1 S.2.1 d_B_tradeAtOnePrice_70 hl (by decide) rfl (fun ls hl => ?_)
            have hl : lv_has ls 10 [(9, .int (oQ τ b1 a1 v)), (8, .ref (oa a1)), (7, .ref (oa b1)), (6, .int (nI (250 - (d + 1)))), (4, .long v), (0, .ref (bx β)), (1, .int p0)] := hl
            refine lv_aload_n S.1 S.2.1 d_B_tradeAtOnePrice_72 rfl (lv_at hl 5 rfl) ?_
            refine lv_aload S.1 S.2.1 d_B_tradeAtOnePrice_73 (lv_at hl 2 rfl) ?_
            refine lv_aload S.1 S.2.1 d_B_tradeAtOnePrice_75 (lv_at hl 1 rfl) ?_
            refine lv_iload_n S.1 S.2.1 d_B_tradeAtOnePrice_77 rfl (lv_at hl 6 rfl) ?_
            refine lv_iload S.1 S.2.1 d_B_tradeAtOnePrice_78 (lv_at hl 0 rfl) ?_
            have hab : b1 ≠ a1 := fun z => by rw [z, hsd2] at hsd1; exact absurd hsd1 (by decide)
            refine m_cv hw (va_runV (As := [.ref (oa b1), .ref (oa a1), .int p0, .int (oQ τ b1 a1 v)]) (rest := []) S (c_B_exchange l γ M2 β oa cp2 L2 τ hC2 hB2.1 b1 a1 hb1 ha1 hab (by have hf9 : xOne d (xDl τ b1 a1 p0 v) p0 (v - (oQ τ b1 a1 v).toInt64) = σ' := (xOne_go hpos hh1 hh2).symm.trans hfin; have h8 := one_tn (k := d) (σ := xDl τ b1 a1 p0 v) (p := p0) (v := v - (oQ τ b1 a1 v).toInt64); rw [hf9, dl_tn] at h8; omega) p0 (oQ τ b1 a1 v)) (m_cwV 4 S g527 g529 g15 g41 g530 rfl rfl ⟨by decide +kernel, by decide +kernel, by decide +kernel⟩ ⟨(Nat.le_of_ble_eq_true rfl), (Nat.le_of_ble_eq_true rfl)⟩) (hw.preV hC2.book cl_B.1) rfl rfl hl.1 rfl (lv_room (Nat.le_of_ble_eq_true rfl)) d_B_tradeAtOnePrice_80 ⟨(by have hf9 : xOne d (xDl τ b1 a1 p0 v) p0 (v - (oQ τ b1 a1 v).toInt64) = σ' := (xOne_go hpos hh1 hh2).symm.trans hfin; have h8 := one_tn (k := d) (σ := xDl τ b1 a1 p0 v) (p := p0) (v := v - (oQ τ b1 a1 v).toInt64); rw [hf9, dl_tn] at h8; show kC (stn τ) - kC (stn σ) + 0 + 0 + (1 + gN (cp2 3) (stn τ)) ≤ kC (stn σ') - kC (stn σ); rw [hcp2]; have h7 := kC_mono h8; have h6 := kC_mono htn2; have h5 : kC (stn τ + 1) = kC (stn τ) + (1 + gN (cAt (stn τ)) (stn τ)) := rfl; omega), (by have hf9 : xOne d (xDl τ b1 a1 p0 v) p0 (v - (oQ τ b1 a1 v).toInt64) = σ' := (xOne_go hpos hh1 hh2).symm.trans hfin; have h8 := one_tn (k := d) (σ := xDl τ b1 a1 p0 v) (p := p0) (v := v - (oQ τ b1 a1 v).toInt64); rw [hf9, dl_tn] at h8; show kS (stn τ) - kS (stn σ) + 0 + 0 + (4 + sN (cp2 3) (stn τ)) ≤ kS (stn σ') - kS (stn σ); rw [hcp2]; have h7 := kS_mono h8; have h6 := kS_mono htn2; have h5 : kS (stn τ + 1) = kS (stn τ) + (4 + sN (cAt (stn τ)) (stn τ)) := rfl; omega)⟩) (fun M1 H locs hp hw => ?_)
            obtain ⟨hC3, hf3⟩ := hp
            have hn0 : ¬ sI τ 1 b1 = 0 := by rw [hsd1]; decide
            have hC3 : CB γ M1 β oa (va_up cp2 3 (cN (cp2 3) (stn τ))) L2 (xDeal τ b1 a1 p0 (oQ τ b1 a1 v)) := by unfold xDeal; rw [if_neg hn0, if_neg hn0, ← gv_gv hab]; exact hC3
            have hB3 : InvB (xDeal τ b1 a1 p0 (oQ τ b1 a1 v)) := hB2.cols rfl rfl (deal_f (by decide) (by decide)) (deal_f (by decide) (by decide)) (deal_f (by decide) (by decide)) (deal_f (by decide) (by decide))
            have hL3 : LN (xDeal τ b1 a1 p0 (oQ τ b1 a1 v)) L2 := hL2.cols rfl (deal_f (by decide) (by decide)) (deal_f (by decide) (by decide)) (deal_f (by decide) (by decide))
            refine lv_aload_n S.1 S.2.1 d_B_tradeAtOnePrice_83 rfl (lv_at hl 5 rfl) ?_
            refine lv_aload S.1 S.2.1 d_B_tradeAtOnePrice_84 (lv_at hl 2 rfl) ?_
            refine m_cv hw (va_runV (As := [.ref (oa b1)]) (rest := []) S (c_B_finishIfNothingLeft l γ M1 β oa (va_up cp2 3 (cN (cp2 3) (stn τ))) L2 (xDeal τ b1 a1 p0 (oQ τ b1 a1 v)) hC3 hB3 hL3 b1 hb1) (m_cwV 1 S g646 g648 g22 g41 g649 rfl rfl ⟨by decide +kernel, by decide +kernel, by decide +kernel⟩ ⟨(Nat.le_of_ble_eq_true rfl), (Nat.le_of_ble_eq_true rfl)⟩) (hw.preV hC3.book cl_B.1) rfl rfl hl.1 rfl (lv_room (Nat.le_of_ble_eq_true rfl)) d_B_tradeAtOnePrice_86 ⟨(by have hf9 : xOne d (xDl τ b1 a1 p0 v) p0 (v - (oQ τ b1 a1 v).toInt64) = σ' := (xOne_go hpos hh1 hh2).symm.trans hfin; have h8 := one_tn (k := d) (σ := xDl τ b1 a1 p0 v) (p := p0) (v := v - (oQ τ b1 a1 v).toInt64); rw [hf9, dl_tn] at h8; show kC (stn τ) - kC (stn σ) + 0 + 0 + (1 + gN (cp2 3) (stn τ)) + 0 ≤ kC (stn σ') - kC (stn σ); rw [hcp2]; have h7 := kC_mono h8; have h6 := kC_mono htn2; have h5 : kC (stn τ + 1) = kC (stn τ) + (1 + gN (cAt (stn τ)) (stn τ)) := rfl; omega), (by have hf9 : xOne d (xDl τ b1 a1 p0 v) p0 (v - (oQ τ b1 a1 v).toInt64) = σ' := (xOne_go hpos hh1 hh2).symm.trans hfin; have h8 := one_tn (k := d) (σ := xDl τ b1 a1 p0 v) (p := p0) (v := v - (oQ τ b1 a1 v).toInt64); rw [hf9, dl_tn] at h8; show kS (stn τ) - kS (stn σ) + 0 + 0 + (4 + sN (cp2 3) (stn τ)) + 0 ≤ kS (stn σ') - kS (stn σ); rw [hcp2]; have h7 := kS_mono h8; have h6 := kS_mono htn2; have h5 : kS (stn τ + 1) = kS (stn τ) + (4 + sN (cAt (stn τ)) (stn τ)) := rfl; omega)⟩) (fun M4 H locs hp hw => ?_)
            obtain ⟨L4, hC4, hB4, hL4, hf4⟩ := hp
            refine lv_aload_n S.1 S.2.1 d_B_tradeAtOnePrice_89 rfl (lv_at hl 5 rfl) ?_
            refine lv_aload S.1 S.2.1 d_B_tradeAtOnePrice_90 (lv_at hl 1 rfl) ?_
            refine m_cv hw (va_runV (As := [.ref (oa a1)]) (rest := []) S (c_B_finishIfNothingLeft l γ M4 β oa (va_up cp2 3 (cN (cp2 3) (stn τ))) L4 (xFin (xDeal τ b1 a1 p0 (oQ τ b1 a1 v)) b1) hC4 hB4 hL4 a1 (by rw [fin_sn]; exact ha1)) (m_cwV 1 S g646 g648 g22 g41 g649 rfl rfl ⟨by decide +kernel, by decide +kernel, by decide +kernel⟩ ⟨(Nat.le_of_ble_eq_true rfl), (Nat.le_of_ble_eq_true rfl)⟩) (hw.preV hC4.book cl_B.1) rfl rfl hl.1 rfl (lv_room (Nat.le_of_ble_eq_true rfl)) d_B_tradeAtOnePrice_92 ⟨(by have hf9 : xOne d (xDl τ b1 a1 p0 v) p0 (v - (oQ τ b1 a1 v).toInt64) = σ' := (xOne_go hpos hh1 hh2).symm.trans hfin; have h8 := one_tn (k := d) (σ := xDl τ b1 a1 p0 v) (p := p0) (v := v - (oQ τ b1 a1 v).toInt64); rw [hf9, dl_tn] at h8; show kC (stn τ) - kC (stn σ) + 0 + 0 + (1 + gN (cp2 3) (stn τ)) + 0 + 0 ≤ kC (stn σ') - kC (stn σ); rw [hcp2]; have h7 := kC_mono h8; have h6 := kC_mono htn2; have h5 : kC (stn τ + 1) = kC (stn τ) + (1 + gN (cAt (stn τ)) (stn τ)) := rfl; omega), (by have hf9 : xOne d (xDl τ b1 a1 p0 v) p0 (v - (oQ τ b1 a1 v).toInt64) = σ' := (xOne_go hpos hh1 hh2).symm.trans hfin; have h8 := one_tn (k := d) (σ := xDl τ b1 a1 p0 v) (p := p0) (v := v - (oQ τ b1 a1 v).toInt64); rw [hf9, dl_tn] at h8; show kS (stn τ) - kS (stn σ) + 0 + 0 + (4 + sN (cp2 3) (stn τ)) + 0 + 0 ≤ kS (stn σ') - kS (stn σ); rw [hcp2]; have h7 := kS_mono h8; have h6 := kS_mono htn2; have h5 : kS (stn τ + 1) = kS (stn τ) + (4 + sN (cAt (stn τ)) (stn τ)) := rfl; omega)⟩) (fun M5 H locs hp hw => ?_)
            obtain ⟨L5, hC5, hB5, hL5, hf5⟩ := hp
            have hC5 : CB γ M5 β oa (va_up cp2 3 (cN (cp2 3) (stn τ))) L5 (xDl τ b1 a1 p0 v) := hC5
            have hB5 : InvB (xDl τ b1 a1 p0 v) := hB5
            have hL5 : LN (xDl τ b1 a1 p0 v) L5 := hL5
            have hfin2 : xOne d (xDl τ b1 a1 p0 v) p0 (v - (oQ τ b1 a1 v).toInt64) = σ' := (xOne_go hpos hh1 hh2).symm.trans hfin
            refine lv_lload S.1 S.2.1 d_B_tradeAtOnePrice_95 (lv_at hl 4 rfl) ?_
            refine lv_iload S.1 S.2.1 d_B_tradeAtOnePrice_97 (lv_at hl 0 rfl) ?_
            refine lv_i2l S.1 S.2.1 d_B_tradeAtOnePrice_99 rfl ?_
            refine lv_lsub S.1 S.2.1 d_B_tradeAtOnePrice_100 ?_
            refine lv_lstore S.1 S.2.1 d_B_tradeAtOnePrice_101 hl (by decide) rfl (fun ls hl => ?_)
            have hl : lv_has ls 10 [(4, .long (v - ((oQ τ b1 a1 v).toInt64))), (9, .int (oQ τ b1 a1 v)), (8, .ref (oa a1)), (7, .ref (oa b1)), (6, .int (nI (250 - (d + 1)))), (0, .ref (bx β)), (1, .int p0)] := hl
            refine lv_iinc (k := 4) (v := nI (250 - d)) S.1 S.2.1 d_B_tradeAtOnePrice_103 hl rfl (by rw [show Int32.ofInt 1 = (1 : Int32) from rfl, nI_1]; congr 1; omega) (by decide) rfl (fun ls hl => ?_)
            have hl : lv_has ls 10 [(6, .int (nI (250 - d))), (4, .long (v - ((oQ τ b1 a1 v).toInt64))), (9, .int (oQ τ b1 a1 v)), (8, .ref (oa a1)), (7, .ref (oa b1)), (0, .ref (bx β)), (1, .int p0)] := hl
            refine lv_goto (tgt := 6) S.1 S.2.1 d_B_tradeAtOnePrice_106 rfl ?_
            have hl := lv_sub hl [0, 1, 5, 6] rfl
            refine W.widen (k := kC (stn (xDl τ b1 a1 p0 v)) - kC (stn σ)) (n := kS (stn (xDl τ b1 a1 p0 v)) - kS (stn σ)) ?_ ?_ (ih (xDl τ b1 a1 p0 v) _ M5 (va_up cp2 3 (cN (cp2 3) (stn τ))) L5 H locs ls (by omega) hfin2 hC5 hB5 hL5 ?_ ?_ (hf2.tr (hf3.tr (hf4.tr hf5))) (dl_sn.trans hsn) ?_ (dl_4.trans h4) (by rw [dl_tn]; omega) hl hw)
            · rw [dl_tn, hcp2]; show kC (stn τ) - kC (stn σ) + (1 + gN (cAt (stn τ)) (stn τ)) ≤ kC (stn τ) + (1 + gN (cAt (stn τ)) (stn τ)) - kC (stn σ); have := kC_mono htn2; omega
            · rw [dl_tn, hcp2]; show kS (stn τ) - kS (stn σ) + (4 + sN (cAt (stn τ)) (stn τ)) ≤ kS (stn τ) + (4 + sN (cAt (stn τ)) (stn τ)) - kS (stn σ); have := kS_mono htn2; omega
            · rw [dl_tn, hcp2]; exact if_pos rfl
            · intro j hj; rw [show (va_up cp2 3 (cN (cp2 3) (stn τ))) j = cp2 j from if_neg hj]; exact hcpj j hj
            · intro f g3 g4 g5 g7; rw [dl_f g3 g4 g5 g7]; exact hcol f g3 g4 g5 g7
  have hl := lv_sub hl [0, 1, 2, 3] rfl
  refine W.widen (Nat.zero_le _) (Nat.zero_le _) (loop 250 σ v0 M cp L _ _ ls (Nat.le_refl _) hσ hC hB hL hcp (fun _ _ => rfl) (frC.rf M) rfl (fun _ _ _ _ _ => rfl) rfl (Nat.le_refl _) hl hw)
end
section
/-! An order comes, in numbers -/
theorem gN_1 (c k : Nat) : gN c k ≤ 1 := by unfold gN; split <;> omega
theorem sN_b {c k : Nat} (h : k ≤ 249) : sN c k ≤ 373 := by
  unfold sN cgr
  split
  · split <;> omega
  · omega
theorem cN_b {c k : Nat} (h : k ≤ 249) (hc : c ≤ 373) : cN c k ≤ 373 := by
  unfold cN cgr
  split
  · split <;> omega
  · omega
/-- one that is in no line: its line is short -/
theorem Line.len9 {I : Co} {n o : Nat} {s : Int32} {L : List Nat} (h : Line I n s L) (hn : n ≤ 250) (ho : o < n) (hr : I 5 o = -1) : L.length ≤ 249 ∧ ∀ y, y ∈ L → y < n ∧ y ≠ o := by
  have hm : ∀ y, y ∈ L → y < n ∧ y ≠ o := fun y hy => by
    have h9 := (h.1 y).mp hy
    refine ⟨h9.1, fun z => ?_⟩
    rw [onS_iff, rs_iff, z, hr, i_m1] at h9
    omega
  have h1 := nd_len n (o :: L) (List.nodup_cons.mpr ⟨fun z => (hm o z).2 rfl, h.nodup⟩) (fun x hx => by
    rcases List.mem_cons.mp hx with e | e
    · rw [e]; exact ho
    · exact (hm x e).1)
  rw [List.length_cons] at h1
  exact ⟨by omega, hm⟩
theorem c_B_restX (l : Launch) (γ : mG) (M : mMap) (β : BK) (oa cp : Nat → Nat) (L : Nat → List Nat) (σ : St) (hC : CB γ M β oa cp L σ) (hI : Inv0 σ) (hL : LN σ L) (o : Nat) (ho : o < sn σ) (hr : sI σ 5 o = -1) (hrk : (srk σ).toInt ≤ 2000000000) (hl1 : 1 ≤ (sI σ 3 o).toInt) (hl2 : (sI σ 3 o).toInt ≤ 100000) (hl3 : 0 < (sI σ 8 o).toInt → (sI σ 3 o).toInt ≤ 50 * (sI σ 8 o).toInt) (hcp : ∀ j, j ≠ 3 → cp j ≤ 373) :
    Met l y_B_rest w_B_rest ({ frames := 7, cells := gN (cp (sj (sI σ 1 o))) ((L (sj (sI σ 1 o))).map oa).length, slots := sN (cp (sj (sI σ 1 o))) ((L (sj (sI σ 1 o))).map oa).length, locals := 182 } : Room) (mPc γ M [.ref (bx β), .ref (oa o)]) (mQv γ (fun M' => ∃ L' cp', CB γ M' β oa cp' L' (xRest σ o) ∧ Inv0 (xRest σ o) ∧ LN (xRest σ o) L' ∧ cp' 3 = cp 3 ∧ (∀ j, j ≠ 3 → cp' j ≤ 373) ∧ frC M M')) (gN (cp (sj (sI σ 1 o))) ((L (sj (sI σ 1 o))).map oa).length) (sN (cp (sj (sI σ 1 o))) ((L (sj (sI σ 1 o))).map oa).length) (mA (gz γ)) := by
  have hLj : Line (sI σ) (sn σ) (sI σ 1 o) (L (sj (sI σ 1 o))) := sj_val (hI.2.1.1 o ho).2.2 hL
  obtain ⟨h9, hm⟩ := hLj.len9 hI.1 ho hr
  refine (c_B_rest l γ M β oa cp L σ hC hI.1 o ho (hI.2.2.1 o ho).1 hm (by omega)).mono (mQv.mono (fun M' h => ?_))
  obtain ⟨k, hk, hhi, hlo, hC1, hf⟩ := h
  obtain ⟨hI1, hL1⟩ := LN.rest hI hL ho hr hrk hl1 hl2 hl3 hk hhi hlo
  refine ⟨_, _, hC1, hI1, hL1, ?_, fun j hj => ?_, hf⟩
  · exact if_neg (fun z => by have := sj_or (sI σ 1 o); omega)
  · unfold va_up
    split
    · exact cN_b (by rw [List.length_map]; exact h9) (hcp _ (by have := sj_or (sI σ 1 o); omega))
    · exact hcp j hj
theorem rest_cost {cp : Nat → Nat} {oa : Nat → Nat} {L : Nat → List Nat} {σ : St} {o : Nat} (hI : Inv0 σ) (hL : LN σ L) (ho : o < sn σ) (hr : sI σ 5 o = -1) : gN (cp (sj (sI σ 1 o))) ((L (sj (sI σ 1 o))).map oa).length ≤ 1 ∧ sN (cp (sj (sI σ 1 o))) ((L (sj (sI σ 1 o))).map oa).length ≤ 373 := by
  have hLj : Line (sI σ) (sn σ) (sI σ 1 o) (L (sj (sI σ 1 o))) := sj_val (hI.2.1.1 o ho).2.2 hL
  exact ⟨gN_1 _ _, sN_b (by rw [List.length_map]; exact (hLj.len9 hI.1 ho hr).1)⟩
def xTail (τ : St) (o : Nat) : St := if 0 < sI τ 3 o ∧ sI τ 6 o = 0 ∧ (sI τ 2 o = 0 → sph τ = 2) then xRest τ o else xEnd τ o
def xCome (g : Bool) (σ : St) (o : Nat) : St := if sph σ = 1 then xTail (if sI σ 6 o = 2 ∧ g = false then σ else xMeet 100000 σ o) o else xRest σ o
theorem tail_tn {τ : St} {o : Nat} : stn (xTail τ o) = stn τ := by unfold xTail; split <;> rfl
theorem tail_sn {τ : St} {o : Nat} : sn (xTail τ o) = sn τ := by unfold xTail; split <;> rfl
end
section
/-! CallBook.come -/
set_option maxHeartbeats 4000000 in
set_option maxRecDepth 100000 in
theorem c_B_come (l : Launch) (γ : mG) (M : mMap) (β : BK) (oa cp : Nat → Nat) (L : Nat → List Nat) (σ σ' : St) (hC : CB γ M β oa cp L σ) (hI : Inv0 σ) (hL : LN σ L) (o : Nat) (ho : o < sn σ) (hr5 : sI σ 5 o = -1) (hl1 : 1 ≤ (sI σ 3 o).toInt) (hl2 : (sI σ 3 o).toInt ≤ 100000) (hl3 : 0 < (sI σ 8 o).toInt → (sI σ 3 o).toInt ≤ 50 * (sI σ 8 o).toInt) (hcp : cp 3 = cAt (stn σ)) (hcpl : ∀ j, j ≠ 3 → cp j ≤ 373) (hσ : xCome (cgw σ (L (sj (opp (sI σ 1 o)))) o) σ o = σ') (hB : stn σ' ≤ 30000) (hrk : (srk σ).toInt ≤ 500000000) : Met l y_B_come w_B_come ({ frames := 11, cells := kC (stn σ') - kC (stn σ) + 1, slots := kS (stn σ') - kS (stn σ) + 373, locals := 274 } : Room) (mPc γ M [.ref (bx β), .ref (oa o)]) (mQv γ (fun M' => ∃ L' cp', CB γ M' β oa cp' L' σ' ∧ Inv0 σ' ∧ LN σ' L' ∧ cp' 3 = cAt (stn σ') ∧ (∀ j, j ≠ 3 → cp' j ≤ 373) ∧ frC M M' ∧ sn σ' = sn σ ∧ (srk σ').toInt ≤ (srk σ).toInt + 100001)) (kC (stn σ') - kC (stn σ) + 1) (kS (stn σ') - kS (stn σ) + 373) (mA (gz γ)) := by
  refine m_enter (by decide) (Nat.le_of_ble_eq_true rfl) ?_
  intro p e s m below meth c ls S hr hlk hnm hl hw
  have hl : lv_has ls 3 [(0, .ref (bx β)), (1, .ref (oa o))] := hl
  have hOo := hC.ord o ho
  have tail : ∀ (τ : St) (M2 : mMap) (cp2 : Nat → Nat) (L2 : Nat → List Nat) (H : Heap) (locs : List Loc) (ls : Array Slot), CB γ M2 β oa cp2 L2 τ → Inv0 τ → LN τ L2 → cp2 3 = cAt (stn τ) → (∀ j, j ≠ 3 → cp2 j ≤ 373) → frC M M2 → sn τ = sn σ → (∀ f, f ≠ 3 → f ≠ 4 → f ≠ 7 → sI τ f o = sI σ f o) → 0 ≤ (sI τ 3 o).toInt → (sI τ 3 o).toInt ≤ (sI σ 3 o).toInt → (srk τ).toInt ≤ (srk σ).toInt + 100000 → xTail τ o = σ' → stn τ = stn σ' → lv_has ls 3 [(0, .ref (bx β)), (1, .ref (oa o))] → mW γ M2 s H locs → W p l e ({ frames := 11, cells := kC (stn σ') - kC (stn σ) + 1, slots := kS (stn σ') - kS (stn σ) + 373, locals := 274 } : Room) s m #[.ref (bx β), .ref (oa o)] below meth c H locs (kC (stn τ) - kC (stn σ)) (kS (stn τ) - kS (stn σ)) (MQ below (mQv γ (fun M' => ∃ L' cp', CB γ M' β oa cp' L' σ' ∧ Inv0 σ' ∧ LN σ' L' ∧ cp' 3 = cAt (stn σ') ∧ (∀ j, j ≠ 3 → cp' j ≤ 373) ∧ frC M M' ∧ sn σ' = sn σ ∧ (srk σ').toInt ≤ (srk σ).toInt + 100001)) #[.ref (bx β), .ref (oa o)] s (kC (stn σ') - kC (stn σ) + 1) (kS (stn σ') - kS (stn σ) + 373) (mA (gz γ))) (F0 m 35 ls []) := by
    intro τ M2 cp2 L2 H locs ls hC2 hI2 hL2 hcp2 hcpl2 hf2 hsn hcol hz0 hz1 hrk2 hfin htn2 hl hw
    have ho2 : o < sn τ := by rw [hsn]; exact ho
    have hO2 := hC2.ord o ho2
    have hr52 : sI τ 5 o = -1 := (hcol 5 (by decide) (by decide) (by decide)).trans hr5
    have h82 : sI τ 8 o = sI σ 8 o := hcol 8 (by decide) (by decide) (by decide)
    obtain ⟨hg1, hg2⟩ := rest_cost (cp := cp2) (oa := oa) hI2 hL2 ho2 hr52
    refine lv_aload_n S.1 S.2.1 d_B_come_35 rfl (lv_at hl 1 rfl) ?_
    refine m_get S hw cl_O hO2 4 (by decide) g393 (fun _ h => h) rfl d_B_come_36 ?_
    refine lv_if_ne (tgt := 61) S.1 S.2.1 d_B_come_39 rfl (fun h39 => ?_) (fun h39 => ?_)
    · refine lv_iconst (v := 0) S.1 S.2.1 d_B_come_61 (by decide) ?_
      refine lv_istore_n S.1 S.2.1 d_B_come_62 rfl hl (by decide) rfl (fun ls hl => ?_)
      have hl : lv_has ls 3 [(2, .int 0), (0, .ref (bx β)), (1, .ref (oa o))] := hl
      refine lv_aload_n S.1 S.2.1 d_B_come_63 rfl (lv_at hl 2 rfl) ?_
      refine m_get S hw cl_O hO2 6 (by decide) g398 (fun _ h => h) rfl d_B_come_64 ?_
      refine lv_if_le (tgt := 82) S.1 S.2.1 d_B_come_67 rfl (fun h67 => ?_) (fun h67 => ?_)
      · have hE : xTail τ o = xEnd τ o := if_neg (fun z => absurd h67 (Int32.not_le.mpr z.1))
        have hE2 : xEnd τ o = σ' := hE.symm.trans hfin
        subst hE2
        refine lv_aload_n S.1 S.2.1 d_B_come_82 rfl (lv_at hl 1 rfl) ?_
        refine lv_aload_n S.1 S.2.1 d_B_come_83 rfl (lv_at hl 2 rfl) ?_
        refine m_cv hw (va_runV (As := [.ref (oa o)]) (rest := []) S (c_B_finish l γ M2 β oa cp2 L2 τ hC2 hI2.b hL2 o ho2) (m_cwV 1 S g563 g565 g16 g41 g566 rfl rfl ⟨by decide +kernel, by decide +kernel, by decide +kernel⟩ ⟨(Nat.le_of_ble_eq_true rfl), (Nat.le_of_ble_eq_true rfl)⟩) (hw.preV hC2.book cl_B.1) rfl rfl hl.1 rfl (lv_room (Nat.le_of_ble_eq_true rfl)) d_B_come_84 ⟨(by show kC (stn τ) - kC (stn σ) + 0 ≤ kC (stn τ) - kC (stn σ) + 1; omega), (by show kS (stn τ) - kS (stn σ) + 0 ≤ kS (stn τ) - kS (stn σ) + 373; omega)⟩) (fun M1 H locs hp hw => ?_)
        obtain ⟨L3, hC3, hI3, hL3, hf3⟩ := hp
        exact m_vret S hlk hr hw ⟨L3, cp2, hC3, end_inv (hI2.x o) hI3, hL3, hcp2, hcpl2, hf2.tr hf3, hsn, by show (srk τ).toInt ≤ _; omega⟩ (by show kC (stn τ) - kC (stn σ) + 0 ≤ kC (stn τ) - kC (stn σ) + 1; omega) (by show kS (stn τ) - kS (stn σ) + 0 ≤ kS (stn τ) - kS (stn σ) + 373; omega) d_B_come_87
      · refine lv_iload_n S.1 S.2.1 d_B_come_70 rfl (lv_at hl 0 rfl) ?_
        refine lv_if_eq (tgt := 82) S.1 S.2.1 d_B_come_71 rfl (fun _ => ?_) (fun h => absurd (show (0 : Int32) = 0 from rfl) h)
        have hE : xTail τ o = xEnd τ o := if_neg (fun z => h39 z.2.1)
        have hE2 : xEnd τ o = σ' := hE.symm.trans hfin
        subst hE2
        refine lv_aload_n S.1 S.2.1 d_B_come_82 rfl (lv_at hl 1 rfl) ?_
        refine lv_aload_n S.1 S.2.1 d_B_come_83 rfl (lv_at hl 2 rfl) ?_
        refine m_cv hw (va_runV (As := [.ref (oa o)]) (rest := []) S (c_B_finish l γ M2 β oa cp2 L2 τ hC2 hI2.b hL2 o ho2) (m_cwV 1 S g563 g565 g16 g41 g566 rfl rfl ⟨by decide +kernel, by decide +kernel, by decide +kernel⟩ ⟨(Nat.le_of_ble_eq_true rfl), (Nat.le_of_ble_eq_true rfl)⟩) (hw.preV hC2.book cl_B.1) rfl rfl hl.1 rfl (lv_room (Nat.le_of_ble_eq_true rfl)) d_B_come_84 ⟨(by show kC (stn τ) - kC (stn σ) + 0 ≤ kC (stn τ) - kC (stn σ) + 1; omega), (by show kS (stn τ) - kS (stn σ) + 0 ≤ kS (stn τ) - kS (stn σ) + 373; omega)⟩) (fun M1 H locs hp hw => ?_)
        obtain ⟨L3, hC3, hI3, hL3, hf3⟩ := hp
        exact m_vret S hlk hr hw ⟨L3, cp2, hC3, end_inv (hI2.x o) hI3, hL3, hcp2, hcpl2, hf2.tr hf3, hsn, by show (srk τ).toInt ≤ _; omega⟩ (by show kC (stn τ) - kC (stn σ) + 0 ≤ kC (stn τ) - kC (stn σ) + 1; omega) (by show kS (stn τ) - kS (stn σ) + 0 ≤ kS (stn τ) - kS (stn σ) + 373; omega) d_B_come_87
    · refine lv_aload_n S.1 S.2.1 d_B_come_42 rfl (lv_at hl 1 rfl) ?_
      refine m_get S hw cl_O hO2 5 (by decide) g395 (fun _ h => h) rfl d_B_come_43 ?_
      refine lv_if_ne (tgt := 57) S.1 S.2.1 d_B_come_46 rfl (fun h46 => ?_) (fun h46 => ?_)
      · refine lv_iconst (v := 1) S.1 S.2.1 d_B_come_57 (by decide) ?_
        refine lv_goto (tgt := 62) S.1 S.2.1 d_B_come_58 rfl ?_
        refine lv_istore_n S.1 S.2.1 d_B_come_62 rfl hl (by decide) rfl (fun ls hl => ?_)
        have hl : lv_has ls 3 [(2, .int 1), (0, .ref (bx β)), (1, .ref (oa o))] := hl
        refine lv_aload_n S.1 S.2.1 d_B_come_63 rfl (lv_at hl 2 rfl) ?_
        refine m_get S hw cl_O hO2 6 (by decide) g398 (fun _ h => h) rfl d_B_come_64 ?_
        refine lv_if_le (tgt := 82) S.1 S.2.1 d_B_come_67 rfl (fun h67 => ?_) (fun h67 => ?_)
        · have hE : xTail τ o = xEnd τ o := if_neg (fun z => absurd h67 (Int32.not_le.mpr z.1))
          have hE2 : xEnd τ o = σ' := hE.symm.trans hfin
          subst hE2
          refine lv_aload_n S.1 S.2.1 d_B_come_82 rfl (lv_at hl 1 rfl) ?_
          refine lv_aload_n S.1 S.2.1 d_B_come_83 rfl (lv_at hl 2 rfl) ?_
          refine m_cv hw (va_runV (As := [.ref (oa o)]) (rest := []) S (c_B_finish l γ M2 β oa cp2 L2 τ hC2 hI2.b hL2 o ho2) (m_cwV 1 S g563 g565 g16 g41 g566 rfl rfl ⟨by decide +kernel, by decide +kernel, by decide +kernel⟩ ⟨(Nat.le_of_ble_eq_true rfl), (Nat.le_of_ble_eq_true rfl)⟩) (hw.preV hC2.book cl_B.1) rfl rfl hl.1 rfl (lv_room (Nat.le_of_ble_eq_true rfl)) d_B_come_84 ⟨(by show kC (stn τ) - kC (stn σ) + 0 ≤ kC (stn τ) - kC (stn σ) + 1; omega), (by show kS (stn τ) - kS (stn σ) + 0 ≤ kS (stn τ) - kS (stn σ) + 373; omega)⟩) (fun M1 H locs hp hw => ?_)
          obtain ⟨L3, hC3, hI3, hL3, hf3⟩ := hp
          exact m_vret S hlk hr hw ⟨L3, cp2, hC3, end_inv (hI2.x o) hI3, hL3, hcp2, hcpl2, hf2.tr hf3, hsn, by show (srk τ).toInt ≤ _; omega⟩ (by show kC (stn τ) - kC (stn σ) + 0 ≤ kC (stn τ) - kC (stn σ) + 1; omega) (by show kS (stn τ) - kS (stn σ) + 0 ≤ kS (stn τ) - kS (stn σ) + 373; omega) d_B_come_87
        · refine lv_iload_n S.1 S.2.1 d_B_come_70 rfl (lv_at hl 0 rfl) ?_
          refine lv_if_eq (tgt := 82) S.1 S.2.1 d_B_come_71 rfl (fun h => absurd h (show ¬ (1 : Int32) = 0 by decide)) (fun _ => ?_)
          have hpos : 0 < (sI τ 3 o).toInt := by have h9 := Int32.lt_iff_toInt_lt.mp (Int32.not_le.mp h67); rw [i0] at h9; exact h9
          have hE : xTail τ o = xRest τ o := if_pos ⟨Int32.not_le.mp h67, h39, (fun z => absurd z h46)⟩
          have hE2 : xRest τ o = σ' := hE.symm.trans hfin
          subst hE2
          refine lv_aload_n S.1 S.2.1 d_B_come_74 rfl (lv_at hl 1 rfl) ?_
          refine lv_aload_n S.1 S.2.1 d_B_come_75 rfl (lv_at hl 2 rfl) ?_
          refine m_cv hw (va_runV (As := [.ref (oa o)]) (rest := []) S (c_B_restX l γ M2 β oa cp2 L2 τ hC2 hI2 hL2 o ho2 hr52 (by omega) (by omega) (by omega) (by rw [h82]; intro z; have := hl3 z; omega) hcpl2) (m_cwV 1 S g490 g492 g9 g41 g493 rfl rfl ⟨by decide +kernel, by decide +kernel, by decide +kernel⟩ ⟨(Nat.le_of_ble_eq_true rfl), (Nat.le_of_ble_eq_true rfl)⟩) (hw.preV hC2.book cl_B.1) rfl rfl hl.1 rfl (lv_room (Nat.le_of_ble_eq_true rfl)) d_B_come_76 ⟨(by show kC (stn τ) - kC (stn σ) + gN (cp2 (sj (sI τ 1 o))) ((L2 (sj (sI τ 1 o))).map oa).length ≤ kC (stn τ) - kC (stn σ) + 1; omega), (by show kS (stn τ) - kS (stn σ) + sN (cp2 (sj (sI τ 1 o))) ((L2 (sj (sI τ 1 o))).map oa).length ≤ kS (stn τ) - kS (stn σ) + 373; omega)⟩) (fun M1 H locs hp hw => ?_)
          obtain ⟨L3, cp3, hC3, hI3, hL3, hc3, hcl3, hf3⟩ := hp
          refine lv_goto (tgt := 87) S.1 S.2.1 d_B_come_79 rfl ?_
          exact m_vret S hlk hr hw ⟨L3, cp3, hC3, hI3, hL3, hc3.trans hcp2, hcl3, hf2.tr hf3, hsn, (by show (srk τ + 1).toInt ≤ _; rw [i_add (by rw [i_1]; have := hI2.2.2.2.1; omega) (by rw [i_1]; omega), i_1]; omega)⟩ (by show kC (stn τ) - kC (stn σ) + gN (cp2 (sj (sI τ 1 o))) ((L2 (sj (sI τ 1 o))).map oa).length ≤ kC (stn τ) - kC (stn σ) + 1; omega) (by show kS (stn τ) - kS (stn σ) + sN (cp2 (sj (sI τ 1 o))) ((L2 (sj (sI τ 1 o))).map oa).length ≤ kS (stn τ) - kS (stn σ) + 373; omega) d_B_come_87
      · refine lv_aload_n S.1 S.2.1 d_B_come_49 rfl (lv_at hl 0 rfl) ?_
        refine m_get S hw cl_B hC2.book 5 (by decide) g150 (fun _ h => h) rfl d_B_come_50 ?_
        refine lv_iconst (v := 2) S.1 S.2.1 d_B_come_53 (by decide) ?_
        refine lv_icmp_ne (tgt := 61) S.1 S.2.1 d_B_come_54 rfl (fun h54 => ?_) (fun h54 => ?_)
        · refine lv_iconst (v := 0) S.1 S.2.1 d_B_come_61 (by decide) ?_
          refine lv_istore_n S.1 S.2.1 d_B_come_62 rfl hl (by decide) rfl (fun ls hl => ?_)
          have hl : lv_has ls 3 [(2, .int 0), (0, .ref (bx β)), (1, .ref (oa o))] := hl
          refine lv_aload_n S.1 S.2.1 d_B_come_63 rfl (lv_at hl 2 rfl) ?_
          refine m_get S hw cl_O hO2 6 (by decide) g398 (fun _ h => h) rfl d_B_come_64 ?_
          refine lv_if_le (tgt := 82) S.1 S.2.1 d_B_come_67 rfl (fun h67 => ?_) (fun h67 => ?_)
          · have hE : xTail τ o = xEnd τ o := if_neg (fun z => absurd h67 (Int32.not_le.mpr z.1))
            have hE2 : xEnd τ o = σ' := hE.symm.trans hfin
            subst hE2
            refine lv_aload_n S.1 S.2.1 d_B_come_82 rfl (lv_at hl 1 rfl) ?_
            refine lv_aload_n S.1 S.2.1 d_B_come_83 rfl (lv_at hl 2 rfl) ?_
            refine m_cv hw (va_runV (As := [.ref (oa o)]) (rest := []) S (c_B_finish l γ M2 β oa cp2 L2 τ hC2 hI2.b hL2 o ho2) (m_cwV 1 S g563 g565 g16 g41 g566 rfl rfl ⟨by decide +kernel, by decide +kernel, by decide +kernel⟩ ⟨(Nat.le_of_ble_eq_true rfl), (Nat.le_of_ble_eq_true rfl)⟩) (hw.preV hC2.book cl_B.1) rfl rfl hl.1 rfl (lv_room (Nat.le_of_ble_eq_true rfl)) d_B_come_84 ⟨(by show kC (stn τ) - kC (stn σ) + 0 ≤ kC (stn τ) - kC (stn σ) + 1; omega), (by show kS (stn τ) - kS (stn σ) + 0 ≤ kS (stn τ) - kS (stn σ) + 373; omega)⟩) (fun M1 H locs hp hw => ?_)
            obtain ⟨L3, hC3, hI3, hL3, hf3⟩ := hp
            exact m_vret S hlk hr hw ⟨L3, cp2, hC3, end_inv (hI2.x o) hI3, hL3, hcp2, hcpl2, hf2.tr hf3, hsn, by show (srk τ).toInt ≤ _; omega⟩ (by show kC (stn τ) - kC (stn σ) + 0 ≤ kC (stn τ) - kC (stn σ) + 1; omega) (by show kS (stn τ) - kS (stn σ) + 0 ≤ kS (stn τ) - kS (stn σ) + 373; omega) d_B_come_87
          · refine lv_iload_n S.1 S.2.1 d_B_come_70 rfl (lv_at hl 0 rfl) ?_
            refine lv_if_eq (tgt := 82) S.1 S.2.1 d_B_come_71 rfl (fun _ => ?_) (fun h => absurd (show (0 : Int32) = 0 from rfl) h)
            have hE : xTail τ o = xEnd τ o := if_neg (fun z => h54 (z.2.2 h46))
            have hE2 : xEnd τ o = σ' := hE.symm.trans hfin
            subst hE2
            refine lv_aload_n S.1 S.2.1 d_B_come_82 rfl (lv_at hl 1 rfl) ?_
            refine lv_aload_n S.1 S.2.1 d_B_come_83 rfl (lv_at hl 2 rfl) ?_
            refine m_cv hw (va_runV (As := [.ref (oa o)]) (rest := []) S (c_B_finish l γ M2 β oa cp2 L2 τ hC2 hI2.b hL2 o ho2) (m_cwV 1 S g563 g565 g16 g41 g566 rfl rfl ⟨by decide +kernel, by decide +kernel, by decide +kernel⟩ ⟨(Nat.le_of_ble_eq_true rfl), (Nat.le_of_ble_eq_true rfl)⟩) (hw.preV hC2.book cl_B.1) rfl rfl hl.1 rfl (lv_room (Nat.le_of_ble_eq_true rfl)) d_B_come_84 ⟨(by show kC (stn τ) - kC (stn σ) + 0 ≤ kC (stn τ) - kC (stn σ) + 1; omega), (by show kS (stn τ) - kS (stn σ) + 0 ≤ kS (stn τ) - kS (stn σ) + 373; omega)⟩) (fun M1 H locs hp hw => ?_)
            obtain ⟨L3, hC3, hI3, hL3, hf3⟩ := hp
            exact m_vret S hlk hr hw ⟨L3, cp2, hC3, end_inv (hI2.x o) hI3, hL3, hcp2, hcpl2, hf2.tr hf3, hsn, by show (srk τ).toInt ≤ _; omega⟩ (by show kC (stn τ) - kC (stn σ) + 0 ≤ kC (stn τ) - kC (stn σ) + 1; omega) (by show kS (stn τ) - kS (stn σ) + 0 ≤ kS (stn τ) - kS (stn σ) + 373; omega) d_B_come_87
        · refine lv_iconst (v := 1) S.1 S.2.1 d_B_come_57 (by decide) ?_
          refine lv_goto (tgt := 62) S.1 S.2.1 d_B_come_58 rfl ?_
          refine lv_istore_n S.1 S.2.1 d_B_come_62 rfl hl (by decide) rfl (fun ls hl => ?_)
          have hl : lv_has ls 3 [(2, .int 1), (0, .ref (bx β)), (1, .ref (oa o))] := hl
          refine lv_aload_n S.1 S.2.1 d_B_come_63 rfl (lv_at hl 2 rfl) ?_
          refine m_get S hw cl_O hO2 6 (by decide) g398 (fun _ h => h) rfl d_B_come_64 ?_
          refine lv_if_le (tgt := 82) S.1 S.2.1 d_B_come_67 rfl (fun h67 => ?_) (fun h67 => ?_)
          · have hE : xTail τ o = xEnd τ o := if_neg (fun z => absurd h67 (Int32.not_le.mpr z.1))
            have hE2 : xEnd τ o = σ' := hE.symm.trans hfin
            subst hE2
            refine lv_aload_n S.1 S.2.1 d_B_come_82 rfl (lv_at hl 1 rfl) ?_
            refine lv_aload_n S.1 S.2.1 d_B_come_83 rfl (lv_at hl 2 rfl) ?_
            refine m_cv hw (va_runV (As := [.ref (oa o)]) (rest := []) S (c_B_finish l γ M2 β oa cp2 L2 τ hC2 hI2.b hL2 o ho2) (m_cwV 1 S g563 g565 g16 g41 g566 rfl rfl ⟨by decide +kernel, by decide +kernel, by decide +kernel⟩ ⟨(Nat.le_of_ble_eq_true rfl), (Nat.le_of_ble_eq_true rfl)⟩) (hw.preV hC2.book cl_B.1) rfl rfl hl.1 rfl (lv_room (Nat.le_of_ble_eq_true rfl)) d_B_come_84 ⟨(by show kC (stn τ) - kC (stn σ) + 0 ≤ kC (stn τ) - kC (stn σ) + 1; omega), (by show kS (stn τ) - kS (stn σ) + 0 ≤ kS (stn τ) - kS (stn σ) + 373; omega)⟩) (fun M1 H locs hp hw => ?_)
            obtain ⟨L3, hC3, hI3, hL3, hf3⟩ := hp
            exact m_vret S hlk hr hw ⟨L3, cp2, hC3, end_inv (hI2.x o) hI3, hL3, hcp2, hcpl2, hf2.tr hf3, hsn, by show (srk τ).toInt ≤ _; omega⟩ (by show kC (stn τ) - kC (stn σ) + 0 ≤ kC (stn τ) - kC (stn σ) + 1; omega) (by show kS (stn τ) - kS (stn σ) + 0 ≤ kS (stn τ) - kS (stn σ) + 373; omega) d_B_come_87
          · refine lv_iload_n S.1 S.2.1 d_B_come_70 rfl (lv_at hl 0 rfl) ?_
            refine lv_if_eq (tgt := 82) S.1 S.2.1 d_B_come_71 rfl (fun h => absurd h (show ¬ (1 : Int32) = 0 by decide)) (fun _ => ?_)
            have hpos : 0 < (sI τ 3 o).toInt := by have h9 := Int32.lt_iff_toInt_lt.mp (Int32.not_le.mp h67); rw [i0] at h9; exact h9
            have hE : xTail τ o = xRest τ o := if_pos ⟨Int32.not_le.mp h67, h39, (fun _ => h54)⟩
            have hE2 : xRest τ o = σ' := hE.symm.trans hfin
            subst hE2
            refine lv_aload_n S.1 S.2.1 d_B_come_74 rfl (lv_at hl 1 rfl) ?_
            refine lv_aload_n S.1 S.2.1 d_B_come_75 rfl (lv_at hl 2 rfl) ?_
            refine m_cv hw (va_runV (As := [.ref (oa o)]) (rest := []) S (c_B_restX l γ M2 β oa cp2 L2 τ hC2 hI2 hL2 o ho2 hr52 (by omega) (by omega) (by omega) (by rw [h82]; intro z; have := hl3 z; omega) hcpl2) (m_cwV 1 S g490 g492 g9 g41 g493 rfl rfl ⟨by decide +kernel, by decide +kernel, by decide +kernel⟩ ⟨(Nat.le_of_ble_eq_true rfl), (Nat.le_of_ble_eq_true rfl)⟩) (hw.preV hC2.book cl_B.1) rfl rfl hl.1 rfl (lv_room (Nat.le_of_ble_eq_true rfl)) d_B_come_76 ⟨(by show kC (stn τ) - kC (stn σ) + gN (cp2 (sj (sI τ 1 o))) ((L2 (sj (sI τ 1 o))).map oa).length ≤ kC (stn τ) - kC (stn σ) + 1; omega), (by show kS (stn τ) - kS (stn σ) + sN (cp2 (sj (sI τ 1 o))) ((L2 (sj (sI τ 1 o))).map oa).length ≤ kS (stn τ) - kS (stn σ) + 373; omega)⟩) (fun M1 H locs hp hw => ?_)
            obtain ⟨L3, cp3, hC3, hI3, hL3, hc3, hcl3, hf3⟩ := hp
            refine lv_goto (tgt := 87) S.1 S.2.1 d_B_come_79 rfl ?_
            exact m_vret S hlk hr hw ⟨L3, cp3, hC3, hI3, hL3, hc3.trans hcp2, hcl3, hf2.tr hf3, hsn, (by show (srk τ + 1).toInt ≤ _; rw [i_add (by rw [i_1]; have := hI2.2.2.2.1; omega) (by rw [i_1]; omega), i_1]; omega)⟩ (by show kC (stn τ) - kC (stn σ) + gN (cp2 (sj (sI τ 1 o))) ((L2 (sj (sI τ 1 o))).map oa).length ≤ kC (stn τ) - kC (stn σ) + 1; omega) (by show kS (stn τ) - kS (stn σ) + sN (cp2 (sj (sI τ 1 o))) ((L2 (sj (sI τ 1 o))).map oa).length ≤ kS (stn τ) - kS (stn σ) + 373; omega) d_B_come_87
  refine lv_aload_n S.1 S.2.1 d_B_come_0 rfl (lv_at hl 0 rfl) ?_
  refine m_get S hw cl_B hC.book 5 (by decide) g150 (fun _ h => h) rfl d_B_come_1 ?_
  refine lv_iconst (v := 1) S.1 S.2.1 d_B_come_4 (by decide) ?_
  refine lv_icmp_eq (tgt := 14) S.1 S.2.1 d_B_come_5 rfl (fun h5 => ?_) (fun h5 => ?_)
  · refine lv_aload_n S.1 S.2.1 d_B_come_14 rfl (lv_at hl 1 rfl) ?_
    refine m_get S hw cl_O hOo 4 (by decide) g393 (fun _ h => h) rfl d_B_come_15 ?_
    refine lv_iconst (v := 2) S.1 S.2.1 d_B_come_18 (by decide) ?_
    refine lv_icmp_ne (tgt := 30) S.1 S.2.1 d_B_come_19 rfl (fun h19 => ?_) (fun h19 => ?_)
    · obtain ⟨σ2, hs2⟩ : ∃ z, z = xMeet 100000 σ o := ⟨_, rfl⟩
      have hfin4 : xTail σ2 o = σ' := by rw [← hσ, hs2]; unfold xCome; rw [if_pos h5, if_neg (fun z => h19 z.1)]
      have htn4 : stn σ2 = stn σ' := by rw [← hfin4, tail_tn]
      refine lv_aload_n S.1 S.2.1 d_B_come_30 rfl (lv_at hl 0 rfl) ?_
      refine lv_aload_n S.1 S.2.1 d_B_come_31 rfl (lv_at hl 1 rfl) ?_
      refine m_cv hw (va_runV (As := [.ref (oa o)]) (rest := []) S (c_B_meet l γ M β oa cp L σ σ2 hC hI hL o ho hr5 (by omega) hl2 hcp hs2.symm (by rw [htn4]; exact hB) hrk) (m_cwV 1 S g518 g520 g13 g41 g521 rfl rfl ⟨by decide +kernel, by decide +kernel, by decide +kernel⟩ ⟨(Nat.le_of_ble_eq_true rfl), (Nat.le_of_ble_eq_true rfl)⟩) (hw.preV hC.book cl_B.1) rfl rfl hl.1 rfl (lv_room (Nat.le_of_ble_eq_true rfl)) d_B_come_32 ⟨(by show 0 + (kC (stn σ2) - kC (stn σ)) ≤ kC (stn σ') - kC (stn σ) + 1; rw [htn4]; omega), (by show 0 + (kS (stn σ2) - kS (stn σ)) ≤ kS (stn σ') - kS (stn σ) + 373; rw [htn4]; omega)⟩) (fun M1 H locs hp hw => ?_)
      obtain ⟨L4, cp4, hC4, hI4, hL4, hcp4, hcpj4, hf4, hsn4, hcol4, hz04, hz14, hrk4⟩ := hp
      refine W.widen (k := kC (stn σ2) - kC (stn σ)) (n := kS (stn σ2) - kS (stn σ)) (by show 0 + _ ≤ _; omega) (by show 0 + _ ≤ _; omega) ?_
      exact tail σ2 M1 cp4 L4 H locs ls hC4 hI4 hL4 hcp4 (fun j hj => by rw [hcpj4 j hj]; exact hcpl j hj) hf4 (hsn4) hcol4 hz04 hz14 hrk4 hfin4 htn4 hl hw
    · refine lv_aload_n S.1 S.2.1 d_B_come_22 rfl (lv_at hl 0 rfl) ?_
      refine lv_aload_n S.1 S.2.1 d_B_come_23 rfl (lv_at hl 1 rfl) ?_
      refine m_ci hw (va_runV (As := [.ref (oa o)]) (rest := []) S (c_B_couldGoWhole l γ M β oa cp L σ hC hI hL o ho) (m_cwV 1 S g510 g512 g11 g41 g513 rfl rfl ⟨by decide +kernel, by decide +kernel, by decide +kernel⟩ ⟨(Nat.le_of_ble_eq_true rfl), (Nat.le_of_ble_eq_true rfl)⟩) (hw.preV hC.book cl_B.1) rfl rfl hl.1 rfl (lv_room (Nat.le_of_ble_eq_true rfl)) d_B_come_24 ⟨(Nat.zero_le _), (Nat.zero_le _)⟩) (fun r1 M1 H locs hp hw => ?_)
      obtain ⟨rfl, hM1⟩ := hp
      rw [hM1] at hw
      refine lv_if_eq (tgt := 35) S.1 S.2.1 d_B_come_27 rfl (fun h27 => ?_) (fun h27 => ?_)
      · have hfin4 : xTail σ o = σ' := by rw [← hσ]; unfold xCome; rw [if_pos h5, if_pos ⟨h19, b2i_0.mp h27⟩]
        have htn4 : stn σ = stn σ' := by rw [← hfin4, tail_tn]
        refine W.widen (Nat.zero_le _) (Nat.zero_le _) (tail σ M cp L H locs ls hC hI hL hcp hcpl (frC.rf M) rfl (fun _ _ _ _ => rfl) (by omega) (Int.le_refl _) (by omega) hfin4 htn4 hl hw)
      · obtain ⟨σ2, hs2⟩ : ∃ z, z = xMeet 100000 σ o := ⟨_, rfl⟩
        have hfin4 : xTail σ2 o = σ' := by rw [← hσ, hs2]; unfold xCome; rw [if_pos h5, if_neg (fun z => by have h9 := b2i_n0.mp h27; rw [z.2] at h9; cases h9)]
        have htn4 : stn σ2 = stn σ' := by rw [← hfin4, tail_tn]
        refine lv_aload_n S.1 S.2.1 d_B_come_30 rfl (lv_at hl 0 rfl) ?_
        refine lv_aload_n S.1 S.2.1 d_B_come_31 rfl (lv_at hl 1 rfl) ?_
        refine m_cv hw (va_runV (As := [.ref (oa o)]) (rest := []) S (c_B_meet l γ M β oa cp L σ σ2 hC hI hL o ho hr5 (by omega) hl2 hcp hs2.symm (by rw [htn4]; exact hB) hrk) (m_cwV 1 S g518 g520 g13 g41 g521 rfl rfl ⟨by decide +kernel, by decide +kernel, by decide +kernel⟩ ⟨(Nat.le_of_ble_eq_true rfl), (Nat.le_of_ble_eq_true rfl)⟩) (hw.preV hC.book cl_B.1) rfl rfl hl.1 rfl (lv_room (Nat.le_of_ble_eq_true rfl)) d_B_come_32 ⟨(by show 0 + 0 + (kC (stn σ2) - kC (stn σ)) ≤ kC (stn σ') - kC (stn σ) + 1; rw [htn4]; omega), (by show 0 + 0 + (kS (stn σ2) - kS (stn σ)) ≤ kS (stn σ') - kS (stn σ) + 373; rw [htn4]; omega)⟩) (fun M1 H locs hp hw => ?_)
        obtain ⟨L4, cp4, hC4, hI4, hL4, hcp4, hcpj4, hf4, hsn4, hcol4, hz04, hz14, hrk4⟩ := hp
        refine W.widen (k := kC (stn σ2) - kC (stn σ)) (n := kS (stn σ2) - kS (stn σ)) (by show 0 + 0 + _ ≤ _; omega) (by show 0 + 0 + _ ≤ _; omega) ?_
        exact tail σ2 M1 cp4 L4 H locs ls hC4 hI4 hL4 hcp4 (fun j hj => by rw [hcpj4 j hj]; exact hcpl j hj) hf4 (hsn4) hcol4 hz04 hz14 hrk4 hfin4 htn4 hl hw
  · have hE2 : xRest σ o = σ' := by rw [← hσ]; unfold xCome; rw [if_neg h5]
    subst hE2
    refine lv_aload_n S.1 S.2.1 d_B_come_8 rfl (lv_at hl 0 rfl) ?_
    refine lv_aload_n S.1 S.2.1 d_B_come_9 rfl (lv_at hl 1 rfl) ?_
    refine m_cv hw (va_runV (As := [.ref (oa o)]) (rest := []) S (c_B_restX l γ M β oa cp L σ hC hI hL o ho hr5 (by omega) hl1 hl2 hl3 hcpl) (m_cwV 1 S g490 g492 g9 g41 g493 rfl rfl ⟨by decide +kernel, by decide +kernel, by decide +kernel⟩ ⟨(Nat.le_of_ble_eq_true rfl), (Nat.le_of_ble_eq_true rfl)⟩) (hw.preV hC.book cl_B.1) rfl rfl hl.1 rfl (lv_room (Nat.le_of_ble_eq_true rfl)) d_B_come_10 ⟨(by show 0 + gN (cp (sj (sI σ 1 o))) ((L (sj (sI σ 1 o))).map oa).length ≤ kC (stn (xRest σ o)) - kC (stn σ) + 1; have := (rest_cost (cp := cp) (oa := oa) hI hL ho hr5).1; omega), (by show 0 + sN (cp (sj (sI σ 1 o))) ((L (sj (sI σ 1 o))).map oa).length ≤ kS (stn (xRest σ o)) - kS (stn σ) + 373; have := (rest_cost (cp := cp) (oa := oa) hI hL ho hr5).2; omega)⟩) (fun M1 H locs hp hw => ?_)
    obtain ⟨L3, cp3, hC3, hI3, hL3, hc3, hcl3, hf3⟩ := hp
    exact m_vret S hlk hr hw ⟨L3, cp3, hC3, hI3, hL3, hc3.trans hcp, hcl3, hf3, rfl, (by show (srk σ + 1).toInt ≤ _; rw [i_add (by rw [i_1]; have := hI.2.2.2.1; omega) (by rw [i_1]; omega), i_1]; omega)⟩ (by show 0 + gN (cp (sj (sI σ 1 o))) ((L (sj (sI σ 1 o))).map oa).length ≤ kC (stn (xRest σ o)) - kC (stn σ) + 1; have := (rest_cost (cp := cp) (oa := oa) hI hL ho hr5).1; omega) (by show 0 + sN (cp (sj (sI σ 1 o))) ((L (sj (sI σ 1 o))).map oa).length ≤ kS (stn (xRest σ o)) - kS (stn σ) + 373; have := (rest_cost (cp := cp) (oa := oa) hI hL ho hr5).2; omega) d_B_come_13
end
section
/-! Working out the one price, in numbers -/
abbrev AU : Type := Int32 × Int64 × Int64
def auc (a : AU) : List Value := [.int a.1, .long a.2.1, .long a.2.2]
def aL (x : Int64) : Int64 := if 0 < x then x else -x
def aBet (p : Int32) (mv ov : Int64) (rf : Int32) (a : AU) : Bool := if mv = a.2.1 then (if aL ov = aL a.2.2 then decide (aI (p - rf) < aI (a.1 - rf)) else decide (aL ov < aL a.2.2)) else decide (a.2.1 < mv)
def aMv (w o : Int64) : Int64 := if o < w then o else w
def aWgh (p : Int32) (w o : Int64) (rf : Int32) (a : AU) : AU := if 0 < aMv w o ∧ aBet p (aMv w o) (w - o) rf a = true then (p, aMv w o, w - o) else a
/-- what is left of a line's orders -/
def lSum (I : Co) : List Nat → Int64
  | [] => 0
  | r :: t => (I 3 r).toInt64 + lSum I t
def sIf (I : Co) (P : Nat → Bool) : List Nat → Int64
  | [] => 0
  | r :: t => if P r = true then (I 3 r).toInt64 + sIf I P t else sIf I P t
def aAt (I : Co) (K1 K2 : List Nat) (rf : Int32) : Nat → AU
  | 0 => (-1, 0, 0)
  | k + 1 => aWgh (nI (k + 1)) (sIf I (fun r => tk I r (nI (k + 1))) K1) (sIf I (fun r => tk I r (nI (k + 1))) K2) rf (aAt I K1 K2 rf k)
theorem mU_same {M : mMap} {a : Nat} {e : va_E} (h : M a = some e) : mU M a e = M := by
  funext b
  by_cases z : b = a
  · rw [z, mU_eq, h]
  · rw [mU_ne z]
theorem lSum_app (I : Co) (r : Nat) : ∀ (t : List Nat), lSum I (t ++ [r]) = lSum I t + (I 3 r).toInt64 := by
  intro t
  induction t with
  | nil => show (I 3 r).toInt64 + 0 = 0 + (I 3 r).toInt64; rw [Int64.add_zero, Int64.zero_add]
  | cons x t ih => show (I 3 x).toInt64 + lSum I (t ++ [r]) = _ + lSum I t + _; rw [ih, Int64.add_assoc]
theorem take_s {K : List Nat} {i : Nat} (h : i < K.length) : K.take (i + 1) = K.take i ++ [K[i]] := by rw [List.take_succ, List.getElem?_eq_getElem h]; rfl
theorem lSum_up {I : Co} {K : List Nat} {i : Nat} (h : i < K.length) : lSum I (K.take (i + 1)) = lSum I (K.take i) + (I 3 K[i]).toInt64 := by rw [take_s h, lSum_app]
theorem lSum_dn {I : Co} {K : List Nat} {i : Nat} (h : i < K.length) : lSum I (K.take (i + 1)) - (I 3 K[i]).toInt64 = lSum I (K.take i) := by rw [lSum_up h, Int64.add_sub_cancel]
theorem sIf_all {I : Co} {P : Nat → Bool} : ∀ {t : List Nat}, (∀ x, x ∈ t → P x = true) → sIf I P t = lSum I t := by
  intro t
  induction t with
  | nil => intro _; rfl
  | cons x t ih =>
    intro h
    show (if _ then _ else _) = _
    rw [if_pos (h x List.mem_cons_self), ih (fun y hy => h y (List.mem_cons_of_mem _ hy))]
    rfl
theorem sIf_no {I : Co} {P : Nat → Bool} : ∀ {t : List Nat}, (∀ x, x ∈ t → P x = false) → sIf I P t = 0 := by
  intro t
  induction t with
  | nil => intro _; rfl
  | cons x t ih =>
    intro h
    show (if _ then _ else _) = _
    rw [if_neg (by rw [h x List.mem_cons_self]; decide), ih (fun y hy => h y (List.mem_cons_of_mem _ hy))]
theorem sIf_app {I : Co} {P : Nat → Bool} {u : List Nat} : ∀ {t : List Nat}, sIf I P (t ++ u) = sIf I P t + sIf I P u := by
  intro t
  induction t with
  | nil => show _ = 0 + _; rw [Int64.zero_add]; rfl
  | cons x t ih =>
    show (if P x = true then (I 3 x).toInt64 + sIf I P (t ++ u) else sIf I P (t ++ u)) = (if P x = true then (I 3 x).toInt64 + sIf I P t else sIf I P t) + sIf I P u
    by_cases h : P x = true
    · rw [if_pos h, if_pos h, ih, Int64.add_assoc]
    · rw [if_neg h, if_neg h, ih]
theorem sIf_cut {I : Co} {P : Nat → Bool} {K : List Nat} {k : Nat} (h1 : ∀ x, x ∈ K.take k → P x = true) (h2 : ∀ x, x ∈ K.drop k → P x = false) : sIf I P K = lSum I (K.take k) := by
  have e := sIf_app (I := I) (P := P) (t := K.take k) (u := K.drop k)
  rw [List.take_append_drop] at e
  rw [e, sIf_all h1, sIf_no h2, Int64.add_zero]
theorem tk_iff {I : Co} {o : Nat} {p : Int32} : tk I o p = true ↔ ((I 2 o).toInt = 0 ∨ ((I 1 o).toInt = 0 ∧ (I 2 o).toInt ≤ p.toInt) ∨ ((I 1 o).toInt ≠ 0 ∧ p.toInt ≤ (I 2 o).toInt)) := by
  have e2 : ∀ x : Int32, x = 0 ↔ x.toInt = 0 := fun x => by rw [← Int32.toInt_inj, i0]
  unfold tk
  by_cases h : I 1 o = 0
  · have h' := (e2 _).mp h
    rw [if_pos h]
    simp only [Bool.or_eq_true, decide_eq_true_eq, Int32.le_iff_toInt_le, e2, h']
    simp
  · have h' : ¬ (I 1 o).toInt = 0 := fun z => h ((e2 _).mpr z)
    rw [if_neg h]
    simp only [Bool.or_eq_true, decide_eq_true_eq, Int32.le_iff_toInt_le, e2]
    simp [h']
/-- who stands before takes whatever one behind takes -/
theorem bf_tk {I : Co} {a b : Nat} {p : Int32} (hs : I 1 a = I 1 b) (pa : 0 ≤ (I 2 a).toInt) (pb : 0 ≤ (I 2 b).toInt) (h : bf I a b = true) (ht : tk I b p = true) : tk I a p = true := by
  rw [bf_iff] at h
  rw [tk_iff] at *
  rw [hs] at *
  omega
section CUT
variable {I : Co} {n : Nat} {s : Int32} {K : List Nat} {p : Int32}
theorem Line.pre (hO : oOK I n) (h : Line I n s K) {k : Nat} (hk : k < K.length) (ht : tk I K[k] p = true) : ∀ x, x ∈ K.take (k + 1) → tk I x p = true := by
  intro x hx
  obtain ⟨j, hj, e⟩ := List.mem_iff_getElem.mp hx
  rw [List.length_take] at hj
  rw [List.getElem_take] at e
  by_cases z : j = k
  · subst z; rw [← e]; exact ht
  · have hj2 : j < K.length := by omega
    have h1 := (List.pairwise_iff_getElem.mp h.2) j k hj2 hk (by omega)
    have ma := (h.1 _).mp (List.getElem_mem hj2)
    have mb := (h.1 _).mp (List.getElem_mem hk)
    rw [← e]
    exact bf_tk ((onS_iff.mp ma.2).2.trans (onS_iff.mp mb.2).2.symm) (hO.1 _ ma.1).1 (hO.1 _ mb.1).1 h1 ht
theorem Line.suf (hO : oOK I n) (h : Line I n s K) {k : Nat} (hk : k < K.length) (ht : tk I K[k] p = false) : ∀ x, x ∈ K.drop k → tk I x p = false := by
  intro x hx
  cases hx9 : tk I x p with
  | false => rfl
  | true =>
    exfalso
    obtain ⟨j, hj, e⟩ := List.mem_iff_getElem.mp hx
    rw [List.length_drop] at hj
    rw [List.getElem_drop] at e
    have hkj : k + j < K.length := by omega
    have h9 := h.pre hO (p := p) hkj (by rw [e]; exact hx9) K[k] (by
      rw [List.mem_iff_getElem]
      exact ⟨k, by rw [List.length_take]; omega, by rw [List.getElem_take]⟩)
    rw [ht] at h9
    cases h9
end CUT
theorem tk_b {I : Co} {o : Nat} {p q : Int32} (hs : I 1 o = 1) (h : p.toInt ≤ q.toInt) (ht : tk I o p = false) : tk I o q = false := by
  cases h9 : tk I o q with
  | false => rfl
  | true =>
    have h8 : ¬ tk I o p = true := by rw [ht]; decide
    rw [tk_iff] at *
    rw [hs, i_1] at *
    omega
theorem tk_s {I : Co} {o : Nat} {p q : Int32} (hs : I 1 o = 0) (h : p.toInt ≤ q.toInt) (ht : tk I o p = true) : tk I o q = true := by
  rw [tk_iff] at *
  rw [hs, i0] at *
  omega
end
section
/-! CallBook$Auction (1) -/
set_option maxHeartbeats 4000000 in
set_option maxRecDepth 100000 in
theorem c_A_leftOf (l : Launch) (γ : mG) (M : mMap) (l0 r0 cap n : Nat) (K : List Nat) (oa : Nat → Nat) (I : Co) (hO : OR M oa I n) (hA : AL γ M l0 r0 cap (K.map oa)) (hK : ∀ y, y ∈ K → y < n) (hlen : K.length ≤ 250) : Met l y_A_leftOf w_A_leftOf ({ frames := 3, cells := 0, slots := 0, locals := 64 } : Room) (mPc γ M [.ref l0]) (mQl γ (fun r M' => r = lSum I K ∧ M' = M)) 0 0 (mA (gz γ)) := by
  refine m_enter (by decide) (Nat.le_of_ble_eq_true rfl) ?_
  intro p e s m below meth c ls S hr hlk hnm hl hw
  have hl : lv_has ls 4 [(0, .ref l0)] := hl
  obtain ⟨⟨md, hl0⟩, -⟩ := id hA
  have hml : (K.map oa).length = K.length := List.length_map _
  refine lv_lconst (v := 0) S.1 S.2.1 d_A_leftOf_0 (by decide) ?_
  refine lv_lstore_n S.1 S.2.1 d_A_leftOf_1 rfl hl (by decide) rfl (fun ls hl => ?_)
  have hl : lv_has ls 4 [(1, .long 0), (0, .ref l0)] := hl
  refine lv_iconst (v := 0) S.1 S.2.1 d_A_leftOf_2 (by decide) ?_
  refine lv_istore_n S.1 S.2.1 d_A_leftOf_3 rfl hl (by decide) rfl (fun ls hl => ?_)
  have hl : lv_has ls 4 [(3, .int 0), (1, .long 0), (0, .ref l0)] := hl
  have loop : ∀ (d i0 : Nat) (a : Int64) (H : Heap) (locs : List Loc) (ls : Array Slot), i0 + d = K.length → a = lSum I (K.take i0) → lv_has ls 4 [(3, .int (nI i0)), (1, .long a), (0, .ref l0)] → mW γ M s H locs → W p l e ({ frames := 3, cells := 0, slots := 0, locals := 64 } : Room) s m #[.ref l0] below meth c H locs 0 0 (MQ below (mQl γ (fun r M' => r = lSum I K ∧ M' = M)) #[.ref l0] s 0 0 (mA (gz γ))) (F0 m 4 ls []) := by
    intro d
    induction d with
    | zero =>
      intro i0 a H locs ls hi ha hl hw
      refine lv_iload_n S.1 S.2.1 d_A_leftOf_4 rfl (lv_at hl 0 rfl) ?_
      refine lv_aload_n S.1 S.2.1 d_A_leftOf_5 rfl (lv_at hl 2 rfl) ?_
      refine m_ci hw (va_runV (As := []) (rest := [.int (nI i0)]) S (c_AL_size l γ M l0 md _ _ hl0) (m_cwV 0 S g619 g186 g187 g44 g188 rfl rfl ⟨by decide +kernel, by decide +kernel, by decide +kernel⟩ ⟨(Nat.le_of_ble_eq_true rfl), (Nat.le_of_ble_eq_true rfl)⟩) (hw.preV hl0 cl_AL.1) rfl rfl hl.1 rfl (lv_room (Nat.le_of_ble_eq_true rfl)) d_A_leftOf_6 ⟨(Nat.zero_le _), (Nat.zero_le _)⟩) (fun r1 M1 H locs hp hw => ?_)
      obtain ⟨rfl, hM1⟩ := hp
      rw [hM1] at hw
      refine lv_icmp_ge (tgt := 33) S.1 S.2.1 d_A_leftOf_9 rfl (fun _ => ?_) (fun h => absurd (nI_le (by omega) (by omega)) h)
      refine lv_lload_n S.1 S.2.1 d_A_leftOf_33 rfl (lv_at hl 1 rfl) ?_
      exact m_lret S hlk hr hw (⟨by rw [ha, List.take_of_length_le (by omega)], rfl⟩) (Nat.le_refl _) (Nat.le_refl _) d_A_leftOf_34
    | succ d ih =>
      intro i0 a H locs ls hi ha hl hw
      have hbd : i0 < K.length := by omega
      have hm := hK K[i0] (List.getElem_mem hbd)
      refine lv_iload_n S.1 S.2.1 d_A_leftOf_4 rfl (lv_at hl 0 rfl) ?_
      refine lv_aload_n S.1 S.2.1 d_A_leftOf_5 rfl (lv_at hl 2 rfl) ?_
      refine m_ci hw (va_runV (As := []) (rest := [.int (nI i0)]) S (c_AL_size l γ M l0 md _ _ hl0) (m_cwV 0 S g619 g186 g187 g44 g188 rfl rfl ⟨by decide +kernel, by decide +kernel, by decide +kernel⟩ ⟨(Nat.le_of_ble_eq_true rfl), (Nat.le_of_ble_eq_true rfl)⟩) (hw.preV hl0 cl_AL.1) rfl rfl hl.1 rfl (lv_room (Nat.le_of_ble_eq_true rfl)) d_A_leftOf_6 ⟨(Nat.zero_le _), (Nat.zero_le _)⟩) (fun r1 M1 H locs hp hw => ?_)
      obtain ⟨rfl, hM1⟩ := hp
      rw [hM1] at hw
      refine lv_icmp_ge (tgt := 33) S.1 S.2.1 d_A_leftOf_9 rfl (fun h => absurd h (nI_ge (by omega) (by omega))) (fun _ => ?_)
      refine lv_lload_n S.1 S.2.1 d_A_leftOf_12 rfl (lv_at hl 1 rfl) ?_
      refine lv_aload_n S.1 S.2.1 d_A_leftOf_13 rfl (lv_at hl 2 rfl) ?_
      refine lv_iload_n S.1 S.2.1 d_A_leftOf_14 rfl (lv_at hl 0 rfl) ?_
      refine m_cq hw (va_runV (As := [.int (nI i0)]) (rest := [.long a]) S (c_AL_get l γ M l0 r0 cap (K.map oa) hA i0 (by omega)) (m_cwV 1 S g623 g190 g191 g44 g192 rfl rfl ⟨by decide +kernel, by decide +kernel, by decide +kernel⟩ ⟨(Nat.le_of_ble_eq_true rfl), (Nat.le_of_ble_eq_true rfl)⟩) (hw.preV hl0 cl_AL.1) rfl rfl hl.1 rfl (lv_room (Nat.le_of_ble_eq_true rfl)) d_A_leftOf_15 ⟨(Nat.zero_le _), (Nat.zero_le _)⟩) (fun r1 M1 H locs hp hw => ?_)
      obtain ⟨rfl, hM1⟩ := hp
      rw [hM1] at hw
      have hge := map_at (oa := oa) hbd
      refine W.eq (g2 := F0 m 18 ls [.ref (oa K[i0]), .long a]) (by rw [hge]; rfl) ?_
      refine m_cast S hw cl_O (hO _ hm) g624 d_A_leftOf_18 ?_
      refine m_get S hw cl_O (hO _ hm) 6 (by decide) g397 (fun _ h => h) rfl d_A_leftOf_21 ?_
      refine lv_i2l S.1 S.2.1 d_A_leftOf_24 rfl ?_
      refine lv_ladd S.1 S.2.1 d_A_leftOf_25 ?_
      refine lv_lstore_n S.1 S.2.1 d_A_leftOf_26 rfl hl (by decide) rfl (fun ls hl => ?_)
      have hl : lv_has ls 4 [(1, .long (a + ((I 3 (K[i0])).toInt64))), (3, .int (nI i0)), (0, .ref l0)] := hl
      refine lv_iinc (k := 1) (v := nI (i0 + 1)) S.1 S.2.1 d_A_leftOf_27 hl rfl (nI_1 i0) (by decide) rfl (fun ls hl => ?_)
      have hl : lv_has ls 4 [(3, .int (nI (i0 + 1))), (1, .long (a + ((I 3 (K[i0])).toInt64))), (0, .ref l0)] := hl
      refine lv_goto (tgt := 4) S.1 S.2.1 d_A_leftOf_30 rfl ?_
      have hl := lv_sub hl [0, 1, 2] rfl
      exact ih (i0 + 1) _ H locs ls (by omega) (by rw [lSum_up hbd, ha]) hl hw
  have hl := lv_sub hl [0, 1, 2] rfl
  exact loop _ 0 0 _ _ ls (Nat.zero_add _) rfl hl hw
set_option maxHeartbeats 4000000 in
set_option maxRecDepth 100000 in
theorem c_A_isBetter (l : Launch) (γ : mG) (M : mMap) (q0 : Nat) (a : AU) (ha : M q0 = some (.inr (1, auc a))) (p1 : Int32) (mv ov : Int64) (rf : Int32) : Met l y_A_isBetter w_A_isBetter ({ frames := 1, cells := 0, slots := 0, locals := 19 } : Room) (mPc γ M [.ref q0, .int p1, .long mv, .long ov, .int rf]) (mQi γ (fun r M' => r = b2i (aBet p1 mv ov rf a) ∧ M' = M)) 0 0 (mA (gz γ)) := by
  refine m_enter (by decide) (Nat.le_of_ble_eq_true rfl) ?_
  intro p e s m below meth c ls S hr hlk hnm hl hw
  have hl : lv_has ls 7 [(0, .ref q0), (1, .int p1), (2, .long mv), (4, .long ov), (6, .int rf)] := hl
  refine lv_lload_n S.1 S.2.1 d_A_isBetter_0 rfl (lv_at hl 2 rfl) ?_
  refine lv_aload_n S.1 S.2.1 d_A_isBetter_1 rfl (lv_at hl 0 rfl) ?_
  refine m_get S hw cl_A ha 1 (by decide) g134 (fun _ h => h) rfl d_A_isBetter_2 ?_
  refine W.lcmp S.1 S.2.1 d_A_isBetter_5 ?_
  refine lv_if_eq (tgt := 24) S.1 S.2.1 d_A_isBetter_6 rfl (fun h6 => ?_) (fun h6 => ?_)
  · refine lv_lload S.1 S.2.1 d_A_isBetter_24 (lv_at hl 3 rfl) ?_
    refine va_mabs_long S.1 S.2.1 (S.2.2.1.trans hl.1.symm) S.2.2.2.1 (S.2.2.2.2 _ (gc g637)) (S.2.2.2.2 _ (gc g638)) (S.2.2.2.2 _ (gc g56)) (S.2.2.2.2 _ (gc g639)) (Nat.le_of_ble_eq_true rfl) (Nat.le_of_ble_eq_true rfl) (Nat.zero_le _) (Nat.zero_le _) d_A_isBetter_26 ?_
    refine lv_aload_n S.1 S.2.1 d_A_isBetter_29 rfl (lv_at hl 0 rfl) ?_
    refine m_get S hw cl_A ha 2 (by decide) g136 (fun _ h => h) rfl d_A_isBetter_30 ?_
    refine va_mabs_long S.1 S.2.1 (S.2.2.1.trans hl.1.symm) S.2.2.2.1 (S.2.2.2.2 _ (gc g637)) (S.2.2.2.2 _ (gc g638)) (S.2.2.2.2 _ (gc g56)) (S.2.2.2.2 _ (gc g639)) (Nat.le_of_ble_eq_true rfl) (Nat.le_of_ble_eq_true rfl) (Nat.zero_le _) (Nat.zero_le _) d_A_isBetter_33 ?_
    refine W.lcmp S.1 S.2.1 d_A_isBetter_36 ?_
    refine lv_if_eq (tgt := 62) S.1 S.2.1 d_A_isBetter_37 rfl (fun h37 => ?_) (fun h37 => ?_)
    · refine lv_iload_n S.1 S.2.1 d_A_isBetter_62 rfl (lv_at hl 1 rfl) ?_
      refine lv_iload S.1 S.2.1 d_A_isBetter_63 (lv_at hl 4 rfl) ?_
      refine lv_isub S.1 S.2.1 d_A_isBetter_65 ?_
      refine va_mabs S.1 S.2.1 (S.2.2.1.trans hl.1.symm) S.2.2.2.1 (S.2.2.2.2 _ (gc g640)) (S.2.2.2.2 _ (gc g272)) (S.2.2.2.2 _ (gc g56)) (S.2.2.2.2 _ (gc g273)) (Nat.le_of_ble_eq_true rfl) (Nat.le_of_ble_eq_true rfl) (Nat.zero_le _) (Nat.zero_le _) d_A_isBetter_66 ?_
      refine lv_aload_n S.1 S.2.1 d_A_isBetter_69 rfl (lv_at hl 0 rfl) ?_
      refine m_get S hw cl_A ha 0 (by decide) g132 (fun _ h => h) rfl d_A_isBetter_70 ?_
      refine lv_iload S.1 S.2.1 d_A_isBetter_73 (lv_at hl 4 rfl) ?_
      refine lv_isub S.1 S.2.1 d_A_isBetter_75 ?_
      refine va_mabs S.1 S.2.1 (S.2.2.1.trans hl.1.symm) S.2.2.2.1 (S.2.2.2.2 _ (gc g640)) (S.2.2.2.2 _ (gc g272)) (S.2.2.2.2 _ (gc g56)) (S.2.2.2.2 _ (gc g273)) (Nat.le_of_ble_eq_true rfl) (Nat.le_of_ble_eq_true rfl) (Nat.zero_le _) (Nat.zero_le _) d_A_isBetter_76 ?_
      refine lv_icmp_ge (tgt := 86) S.1 S.2.1 d_A_isBetter_79 rfl (fun h79 => ?_) (fun h79 => ?_)
      · refine lv_iconst (v := 0) S.1 S.2.1 d_A_isBetter_86 (by decide) ?_
        exact m_iret S hlk hr rfl hw (⟨(congrArg b2i (show aBet p1 mv ov rf a = false from by unfold aBet; rw [if_pos ((lg_cmp_eq _ _).mp h6), if_pos (show aL ov = aL a.2.2 from (lg_cmp_eq _ _).mp h37)]; exact decide_eq_false (Int32.not_lt.mpr h79))).symm, rfl⟩) (Nat.le_refl _) (Nat.le_refl _) d_A_isBetter_87
      · refine lv_iconst (v := 1) S.1 S.2.1 d_A_isBetter_82 (by decide) ?_
        refine lv_goto (tgt := 87) S.1 S.2.1 d_A_isBetter_83 rfl ?_
        exact m_iret S hlk hr rfl hw (⟨(congrArg b2i (show aBet p1 mv ov rf a = true from by unfold aBet; rw [if_pos ((lg_cmp_eq _ _).mp h6), if_pos (show aL ov = aL a.2.2 from (lg_cmp_eq _ _).mp h37)]; exact decide_eq_true (Int32.not_le.mp h79))).symm, rfl⟩) (Nat.le_refl _) (Nat.le_refl _) d_A_isBetter_87
    · refine lv_lload S.1 S.2.1 d_A_isBetter_40 (lv_at hl 3 rfl) ?_
      refine va_mabs_long S.1 S.2.1 (S.2.2.1.trans hl.1.symm) S.2.2.2.1 (S.2.2.2.2 _ (gc g637)) (S.2.2.2.2 _ (gc g638)) (S.2.2.2.2 _ (gc g56)) (S.2.2.2.2 _ (gc g639)) (Nat.le_of_ble_eq_true rfl) (Nat.le_of_ble_eq_true rfl) (Nat.zero_le _) (Nat.zero_le _) d_A_isBetter_42 ?_
      refine lv_aload_n S.1 S.2.1 d_A_isBetter_45 rfl (lv_at hl 0 rfl) ?_
      refine m_get S hw cl_A ha 2 (by decide) g136 (fun _ h => h) rfl d_A_isBetter_46 ?_
      refine va_mabs_long S.1 S.2.1 (S.2.2.1.trans hl.1.symm) S.2.2.2.1 (S.2.2.2.2 _ (gc g637)) (S.2.2.2.2 _ (gc g638)) (S.2.2.2.2 _ (gc g56)) (S.2.2.2.2 _ (gc g639)) (Nat.le_of_ble_eq_true rfl) (Nat.le_of_ble_eq_true rfl) (Nat.zero_le _) (Nat.zero_le _) d_A_isBetter_49 ?_
      refine W.lcmp S.1 S.2.1 d_A_isBetter_52 ?_
      refine lv_if_ge (tgt := 60) S.1 S.2.1 d_A_isBetter_53 rfl (fun h53 => ?_) (fun h53 => ?_)
      · refine lv_iconst (v := 0) S.1 S.2.1 d_A_isBetter_60 (by decide) ?_
        exact m_iret S hlk hr rfl hw (⟨(congrArg b2i (show aBet p1 mv ov rf a = false from by unfold aBet; rw [if_pos ((lg_cmp_eq _ _).mp h6), if_neg (show ¬ aL ov = aL a.2.2 from fun z => h37 ((lg_cmp_eq _ _).mpr z))]; exact decide_eq_false (Int64.not_lt.mpr ((lg_cmp_ge _ _).mp h53)))).symm, rfl⟩) (Nat.le_refl _) (Nat.le_refl _) d_A_isBetter_61
      · refine lv_iconst (v := 1) S.1 S.2.1 d_A_isBetter_56 (by decide) ?_
        refine lv_goto (tgt := 61) S.1 S.2.1 d_A_isBetter_57 rfl ?_
        exact m_iret S hlk hr rfl hw (⟨(congrArg b2i (show aBet p1 mv ov rf a = true from by unfold aBet; rw [if_pos ((lg_cmp_eq _ _).mp h6), if_neg (show ¬ aL ov = aL a.2.2 from fun z => h37 ((lg_cmp_eq _ _).mpr z))]; exact decide_eq_true (Int64.not_le.mp (fun z => h53 ((lg_cmp_ge _ _).mpr z))))).symm, rfl⟩) (Nat.le_refl _) (Nat.le_refl _) d_A_isBetter_61
  · refine lv_lload_n S.1 S.2.1 d_A_isBetter_9 rfl (lv_at hl 2 rfl) ?_
    refine lv_aload_n S.1 S.2.1 d_A_isBetter_10 rfl (lv_at hl 0 rfl) ?_
    refine m_get S hw cl_A ha 1 (by decide) g134 (fun _ h => h) rfl d_A_isBetter_11 ?_
    refine W.lcmp S.1 S.2.1 d_A_isBetter_14 ?_
    refine lv_if_le (tgt := 22) S.1 S.2.1 d_A_isBetter_15 rfl (fun h15 => ?_) (fun h15 => ?_)
    · refine lv_iconst (v := 0) S.1 S.2.1 d_A_isBetter_22 (by decide) ?_
      exact m_iret S hlk hr rfl hw (⟨(congrArg b2i (show aBet p1 mv ov rf a = false from by unfold aBet; rw [if_neg (fun z => h6 ((lg_cmp_eq _ _).mpr z))]; exact decide_eq_false (Int64.not_lt.mpr ((lg_cmp_le _ _).mp h15)))).symm, rfl⟩) (Nat.le_refl _) (Nat.le_refl _) d_A_isBetter_23
    · refine lv_iconst (v := 1) S.1 S.2.1 d_A_isBetter_18 (by decide) ?_
      refine lv_goto (tgt := 23) S.1 S.2.1 d_A_isBetter_19 rfl ?_
      exact m_iret S hlk hr rfl hw (⟨(congrArg b2i (show aBet p1 mv ov rf a = true from by unfold aBet; rw [if_neg (fun z => h6 ((lg_cmp_eq _ _).mpr z))]; exact decide_eq_true (Int64.not_le.mp (fun z => h15 ((lg_cmp_le _ _).mpr z))))).symm, rfl⟩) (Nat.le_refl _) (Nat.le_refl _) d_A_isBetter_23
set_option maxHeartbeats 4000000 in
set_option maxRecDepth 100000 in
theorem c_A_weigh (l : Launch) (γ : mG) (M : mMap) (q0 : Nat) (a : AU) (ha : M q0 = some (.inr (1, auc a))) (p1 : Int32) (wt og : Int64) (rf : Int32) : Met l y_A_weigh w_A_weigh ({ frames := 2, cells := 0, slots := 0, locals := 45 } : Room) (mPc γ M [.ref q0, .int p1, .long wt, .long og, .int rf]) (mQv γ (fun M' => M' = mU M q0 (.inr (1, auc (aWgh p1 wt og rf a))))) 0 0 (mA (gz γ)) := by
  refine m_enter (by decide) (Nat.le_of_ble_eq_true rfl) ?_
  intro p e s m below meth c ls S hr hlk hnm hl hw
  have hl : lv_has ls 11 [(0, .ref q0), (1, .int p1), (2, .long wt), (4, .long og), (6, .int rf)] := hl
  refine lv_lload_n S.1 S.2.1 d_A_weigh_0 rfl (lv_at hl 2 rfl) ?_
  refine lv_lload S.1 S.2.1 d_A_weigh_1 (lv_at hl 3 rfl) ?_
  refine va_mmin_long S.1 S.2.1 (S.2.2.1.trans hl.1.symm) S.2.2.2.1 (S.2.2.2.2 _ (gc g630)) (S.2.2.2.2 _ (gc g631)) (S.2.2.2.2 _ (gc g56)) (S.2.2.2.2 _ (gc g632)) (Nat.le_of_ble_eq_true rfl) (Nat.le_of_ble_eq_true rfl) (Nat.zero_le _) (Nat.zero_le _) d_A_weigh_3 ?_
  refine W.eq (g2 := F0 m 6 ls [.long (aMv wt og)]) (congrArg (fun z => F0 m 6 ls [.long z]) rfl) ?_
  refine lv_lstore S.1 S.2.1 d_A_weigh_6 hl (by decide) rfl (fun ls hl => ?_)
  have hl : lv_has ls 11 [(7, .long (aMv wt og)), (0, .ref q0), (1, .int p1), (2, .long wt), (4, .long og), (6, .int rf)] := hl
  refine lv_lload_n S.1 S.2.1 d_A_weigh_8 rfl (lv_at hl 3 rfl) ?_
  refine lv_lload S.1 S.2.1 d_A_weigh_9 (lv_at hl 4 rfl) ?_
  refine lv_lsub S.1 S.2.1 d_A_weigh_11 ?_
  refine lv_lstore S.1 S.2.1 d_A_weigh_12 hl (by decide) rfl (fun ls hl => ?_)
  have hl : lv_has ls 11 [(9, .long (wt - og)), (7, .long (aMv wt og)), (0, .ref q0), (1, .int p1), (2, .long wt), (4, .long og), (6, .int rf)] := hl
  refine lv_lload S.1 S.2.1 d_A_weigh_14 (lv_at hl 1 rfl) ?_
  refine lv_lconst (v := 0) S.1 S.2.1 d_A_weigh_16 (by decide) ?_
  refine W.lcmp S.1 S.2.1 d_A_weigh_17 ?_
  refine lv_if_le (tgt := 52) S.1 S.2.1 d_A_weigh_18 rfl (fun h18 => ?_) (fun h18 => ?_)
  · exact m_vret S hlk hr hw (by unfold aWgh; rw [if_neg (fun z => absurd ((lg_cmp_le _ _).mp h18) (Int64.not_le.mpr z.1))]; exact (mU_same ha).symm) (Nat.le_refl _) (Nat.le_refl _) d_A_weigh_52
  · refine lv_aload_n S.1 S.2.1 d_A_weigh_21 rfl (lv_at hl 2 rfl) ?_
    refine lv_iload_n S.1 S.2.1 d_A_weigh_22 rfl (lv_at hl 3 rfl) ?_
    refine lv_lload S.1 S.2.1 d_A_weigh_23 (lv_at hl 1 rfl) ?_
    refine lv_lload S.1 S.2.1 d_A_weigh_25 (lv_at hl 0 rfl) ?_
    refine lv_iload S.1 S.2.1 d_A_weigh_27 (lv_at hl 6 rfl) ?_
    refine m_ci hw (va_runV (As := [.int p1, .long (aMv wt og), .long (wt - og), .int rf]) (rest := []) S (c_A_isBetter l γ M q0 a ha p1 (aMv wt og) (wt - og) rf) (m_cwV 4 S g633 g635 g20 g47 g636 rfl rfl ⟨by decide +kernel, by decide +kernel, by decide +kernel⟩ ⟨(Nat.le_of_ble_eq_true rfl), (Nat.le_of_ble_eq_true rfl)⟩) (hw.preV ha cl_A.1) rfl rfl hl.1 rfl (lv_room (Nat.le_of_ble_eq_true rfl)) d_A_weigh_29 ⟨(Nat.zero_le _), (Nat.zero_le _)⟩) (fun r1 M1 H locs hp hw => ?_)
    obtain ⟨rfl, hM1⟩ := hp
    rw [hM1] at hw
    refine lv_if_eq (tgt := 52) S.1 S.2.1 d_A_weigh_32 rfl (fun h32 => ?_) (fun h32 => ?_)
    · exact m_vret S hlk hr hw (by unfold aWgh; rw [if_neg (fun z => by rw [b2i_0.mp h32] at z; cases z.2)]; exact (mU_same ha).symm) (Nat.le_refl _) (Nat.le_refl _) d_A_weigh_52
    · refine lv_aload_n S.1 S.2.1 d_A_weigh_35 rfl (lv_at hl 2 rfl) ?_
      refine lv_iload_n S.1 S.2.1 d_A_weigh_36 rfl (lv_at hl 3 rfl) ?_
      refine m_put S hw cl_A ha 0 (by decide) g132 (fun _ h => h) rfl rfl rfl (Nat.le_of_ble_eq_true rfl) d_A_weigh_37 (fun H locs hw => ?_)
      have hw : mW γ (mU M q0 (.inr (1, [.int p1, .long a.2.1, .long a.2.2]))) s H locs := hw
      refine lv_aload_n S.1 S.2.1 d_A_weigh_40 rfl (lv_at hl 2 rfl) ?_
      refine lv_lload S.1 S.2.1 d_A_weigh_41 (lv_at hl 1 rfl) ?_
      refine m_put S hw cl_A (mU_eq _ _ _) 1 (by decide) g134 (fun _ h => h) rfl rfl rfl (Nat.le_of_ble_eq_true rfl) d_A_weigh_43 (fun H locs hw => ?_)
      have hw : mW γ (mU (mU M q0 (.inr (1, [.int p1, .long a.2.1, .long a.2.2]))) q0 (.inr (1, [.int p1, .long (aMv wt og), .long a.2.2]))) s H locs := hw
      refine lv_aload_n S.1 S.2.1 d_A_weigh_46 rfl (lv_at hl 2 rfl) ?_
      refine lv_lload S.1 S.2.1 d_A_weigh_47 (lv_at hl 0 rfl) ?_
      refine m_put S hw cl_A (mU_eq _ _ _) 2 (by decide) g136 (fun _ h => h) rfl rfl rfl (Nat.le_of_ble_eq_true rfl) d_A_weigh_49 (fun H locs hw => ?_)
      have hw : mW γ (mU (mU (mU M q0 (.inr (1, [.int p1, .long a.2.1, .long a.2.2]))) q0 (.inr (1, [.int p1, .long (aMv wt og), .long a.2.2]))) q0 (.inr (1, [.int p1, .long (aMv wt og), .long (wt - og)]))) s H locs := hw
      exact m_vret S hlk hr hw (by unfold aWgh; rw [if_pos ⟨Int64.not_le.mp (fun z => h18 ((lg_cmp_le _ _).mpr z)), b2i_n0.mp h32⟩, mU_uu, mU_uu]; rfl) (Nat.le_refl _) (Nat.le_refl _) d_A_weigh_52
end
section
/-! CallBook$Auction (2): workOut -/
set_option maxHeartbeats 4000000 in
set_option maxRecDepth 100000 in
theorem c_A_workOut (l : Launch) (γ : mG) (M : mMap) (q0 l1 l2 r1 r2 c1 c2 n : Nat) (K1 K2 : List Nat) (oa : Nat → Nat) (I : Co) (hO : OR M oa I n) (hOK : oOK I n) (hn : n ≤ 250) (a : AU) (ha : M q0 = some (.inr (1, auc a))) (h1 : AL γ M l1 r1 c1 (K1.map oa)) (h2 : AL γ M l2 r2 c2 (K2.map oa)) (hL1 : Line I n 1 K1) (hL2 : Line I n 0 K2) (rf : Int32) : Met l y_A_workOut w_A_workOut ({ frames := 4, cells := 0, slots := 0, locals := 87 } : Room) (mPc γ M [.ref q0, .ref l1, .ref l2, .int rf]) (mQv γ (fun M' => M' = mU M q0 (.inr (1, auc (aAt I K1 K2 rf 2000))))) 0 0 (mA (gz γ)) := by
  refine m_enter (by decide) (Nat.le_of_ble_eq_true rfl) ?_
  intro p e s m below meth c ls S hr hlk hnm hl hw
  have hl : lv_has ls 11 [(0, .ref q0), (1, .ref l1), (2, .ref l2), (3, .int rf)] := hl
  obtain ⟨⟨md1, hl1⟩, -⟩ := id h1
  obtain ⟨⟨md2, hl2⟩, -⟩ := id h2
  have hl1A : ∀ e, (mU M q0 e) l1 = some (.inr (0, [.int md1, .ref r1, .int (nI (K1.map oa).length)])) := fun e => mU_to (m_kind hl1 ha (fun z => by cases z)) hl1
  have hl2A : ∀ e, (mU M q0 e) l2 = some (.inr (0, [.int md2, .ref r2, .int (nI (K2.map oa).length)])) := fun e => mU_to (m_kind hl2 ha (fun z => by cases z)) hl2
  have hA1 : ∀ e, AL γ (mU M q0 e) l1 r1 c1 (K1.map oa) := fun e => h1.setO ha (by decide)
  have hA2 : ∀ e, AL γ (mU M q0 e) l2 r2 c2 (K2.map oa) := fun e => h2.setO ha (by decide)
  have hOA : ∀ e, OR (mU M q0 e) oa I n := fun e o ho => mU_to (m_kind (hO o ho) ha (fun z => by cases z)) (hO o ho)
  have hm1 : ∀ y, y ∈ K1 → y < n := fun y hy => ((hL1.1 y).mp hy).1
  have hm2 : ∀ y, y ∈ K2 → y < n := fun y hy => ((hL2.1 y).mp hy).1
  have hs1 : ∀ y, y ∈ K1 → I 1 y = 1 := fun y hy => (onS_iff.mp ((hL1.1 y).mp hy).2).2
  have hs2 : ∀ y, y ∈ K2 → I 1 y = 0 := fun y hy => (onS_iff.mp ((hL2.1 y).mp hy).2).2
  have hml1 : (K1.map oa).length = K1.length := List.length_map _
  have hml2 : (K2.map oa).length = K2.length := List.length_map _
  have hlen1 : K1.length ≤ 250 := hL1.len hn
  have hlen2 : K2.length ≤ 250 := hL2.len hn
  refine lv_aload_n S.1 S.2.1 d_A_workOut_0 rfl (lv_at hl 0 rfl) ?_
  refine lv_iconst (v := (-1)) S.1 S.2.1 d_A_workOut_1 (by decide) ?_
  refine m_put S hw cl_A ha 0 (by decide) g132 (fun _ h => h) rfl rfl rfl (Nat.le_of_ble_eq_true rfl) d_A_workOut_2 (fun H locs hw => ?_)
  have hw : mW γ (mU M q0 (.inr (1, [.int (-1), .long a.2.1, .long a.2.2]))) s H locs := hw
  refine lv_aload_n S.1 S.2.1 d_A_workOut_5 rfl (lv_at hl 0 rfl) ?_
  refine lv_lconst (v := 0) S.1 S.2.1 d_A_workOut_6 (by decide) ?_
  refine m_put S hw cl_A (mU_eq _ _ _) 1 (by decide) g134 (fun _ h => h) rfl rfl rfl (Nat.le_of_ble_eq_true rfl) d_A_workOut_7 (fun H locs hw => ?_)
  have hw : mW γ (mU (mU M q0 (.inr (1, [.int (-1), .long a.2.1, .long a.2.2]))) q0 (.inr (1, [.int (-1), .long 0, .long a.2.2]))) s H locs := hw
  refine lv_aload_n S.1 S.2.1 d_A_workOut_10 rfl (lv_at hl 0 rfl) ?_
  refine lv_lconst (v := 0) S.1 S.2.1 d_A_workOut_11 (by decide) ?_
  refine m_put S hw cl_A (mU_eq _ _ _) 2 (by decide) g136 (fun _ h => h) rfl rfl rfl (Nat.le_of_ble_eq_true rfl) d_A_workOut_12 (fun H locs hw => ?_)
  have hw : mW γ (mU (mU (mU M q0 (.inr (1, [.int (-1), .long a.2.1, .long a.2.2]))) q0 (.inr (1, [.int (-1), .long 0, .long a.2.2]))) q0 (.inr (1, [.int (-1), .long 0, .long 0]))) s H locs := hw
  rw [mU_uu, mU_uu] at hw
  refine lv_aload_n S.1 S.2.1 d_A_workOut_15 rfl (lv_at hl 1 rfl) ?_
  refine m_ci hw (va_runV (As := []) (rest := []) S (c_AL_size l γ (mU M q0 (.inr (1, auc (aAt I K1 K2 rf 0)))) l1 md1 _ _ (hl1A _)) (m_cwV 0 S g619 g186 g187 g44 g188 rfl rfl ⟨by decide +kernel, by decide +kernel, by decide +kernel⟩ ⟨(Nat.le_of_ble_eq_true rfl), (Nat.le_of_ble_eq_true rfl)⟩) (hw.preV (hl1A _) cl_AL.1) rfl rfl hl.1 rfl (lv_room (Nat.le_of_ble_eq_true rfl)) d_A_workOut_16 ⟨(Nat.zero_le _), (Nat.zero_le _)⟩) (fun r1 M1 H locs hp hw => ?_)
  obtain ⟨rfl, hM1⟩ := hp
  rw [hM1] at hw
  refine lv_istore S.1 S.2.1 d_A_workOut_19 hl (by decide) rfl (fun ls hl => ?_)
  have hl : lv_has ls 11 [(4, .int (nI (K1.map oa).length)), (0, .ref q0), (1, .ref l1), (2, .ref l2), (3, .int rf)] := hl
  refine lv_iconst (v := 0) S.1 S.2.1 d_A_workOut_21 (by decide) ?_
  refine lv_istore S.1 S.2.1 d_A_workOut_22 hl (by decide) rfl (fun ls hl => ?_)
  have hl : lv_has ls 11 [(5, .int 0), (4, .int (nI (K1.map oa).length)), (0, .ref q0), (1, .ref l1), (2, .ref l2), (3, .int rf)] := hl
  refine lv_aload_n S.1 S.2.1 d_A_workOut_24 rfl (lv_at hl 3 rfl) ?_
  refine m_cl hw (va_runS (As := [.ref l1]) (rest := []) S (c_A_leftOf l γ (mU M q0 (.inr (1, auc (aAt I K1 K2 rf 0)))) l1 r1 c1 n K1 oa I (hOA _) (hA1 _) hm1 hlen1) (m_cwS 1 S g620 g621 g47 g622 rfl rfl ⟨by decide +kernel, by decide +kernel, by decide +kernel⟩ ⟨(Nat.le_of_ble_eq_true rfl), (Nat.le_of_ble_eq_true rfl)⟩) hw.preS rfl rfl hl.1 rfl (lv_room (Nat.le_of_ble_eq_true rfl)) d_A_workOut_25 ⟨(Nat.zero_le _), (Nat.zero_le _)⟩) (fun r1 M1 H locs hp hw => ?_)
  obtain ⟨rfl, hM1⟩ := hp
  rw [hM1] at hw
  refine lv_lstore S.1 S.2.1 d_A_workOut_28 hl (by decide) rfl (fun ls hl => ?_)
  have hl : lv_has ls 11 [(6, .long (lSum I K1)), (5, .int 0), (4, .int (nI (K1.map oa).length)), (0, .ref q0), (1, .ref l1), (2, .ref l2), (3, .int rf)] := hl
  refine lv_lconst (v := 0) S.1 S.2.1 d_A_workOut_30 (by decide) ?_
  refine lv_lstore S.1 S.2.1 d_A_workOut_31 hl (by decide) rfl (fun ls hl => ?_)
  have hl : lv_has ls 11 [(8, .long 0), (6, .long (lSum I K1)), (5, .int 0), (4, .int (nI (K1.map oa).length)), (0, .ref q0), (1, .ref l1), (2, .ref l2), (3, .int rf)] := hl
  refine lv_iconst (v := 1) S.1 S.2.1 d_A_workOut_33 (by decide) ?_
  refine lv_istore S.1 S.2.1 d_A_workOut_34 hl (by decide) rfl (fun ls hl => ?_)
  have hl : lv_has ls 11 [(10, .int 1), (8, .long 0), (6, .long (lSum I K1)), (5, .int 0), (4, .int (nI (K1.map oa).length)), (0, .ref q0), (1, .ref l1), (2, .ref l2), (3, .int rf)] := hl
  have loop : ∀ (d pp k0 j0 : Nat) (w0 g0 : Int64) (H : Heap) (locs : List Loc) (ls : Array Slot), pp + d = 2000 → k0 ≤ K1.length → j0 ≤ K2.length → w0 = lSum I (K1.take k0) → g0 = lSum I (K2.take j0) → (∀ x, x ∈ K1.drop k0 → tk I x (nI (pp + 1)) = false) → (∀ x, x ∈ K2.take j0 → tk I x (nI (pp + 1)) = true) → lv_has ls 11 [(10, .int (nI (pp + 1))), (8, .long g0), (6, .long w0), (5, .int (nI j0)), (4, .int (nI k0)), (3, .int rf), (2, .ref l2), (1, .ref l1), (0, .ref q0)] → mW γ (mU M q0 (.inr (1, auc (aAt I K1 K2 rf pp)))) s H locs → W p l e ({ frames := 4, cells := 0, slots := 0, locals := 87 } : Room) s m #[.ref q0, .ref l1, .ref l2, .int rf] below meth c H locs 0 0 (MQ below (mQv γ (fun M' => M' = mU M q0 (.inr (1, auc (aAt I K1 K2 rf 2000))))) #[.ref q0, .ref l1, .ref l2, .int rf] s 0 0 (mA (gz γ))) (F0 m 36 ls []) := by
    intro d
    induction d with
    | zero =>
      intro pp k0 j0 w0 g0 H locs ls hp hk hj hw0 hg0 hd1 ht2 hl hw
      have hp2 : pp = 2000 := by omega
      subst hp2
      refine lv_iload S.1 S.2.1 d_A_workOut_36 (lv_at hl 0 rfl) ?_
      refine lv_sipush (v := 2000) S.1 S.2.1 d_A_workOut_38 (by decide) ?_
      refine lv_icmp_gt (tgt := 159) S.1 S.2.1 d_A_workOut_41 rfl (fun _ => ?_) (fun h => absurd (show nI 2000 < nI (2000 + 1) from nI_lt (by omega) (by omega)) h)
      exact m_vret S hlk hr hw rfl (Nat.le_refl _) (Nat.le_refl _) d_A_workOut_159
    | succ d ih =>
      intro pp k0 j0 w0 g0 H locs ls hp hk hj hw0 hg0 hd1 ht2 hl hw
      have hpi : (nI (pp + 1)).toInt ≤ (nI (pp + 1 + 1)).toInt := by rw [nI_toInt (by omega), nI_toInt (by omega)]; omega
      have in2 : ∀ (e0 j k : Nat) (wt g : Int64) (H : Heap) (locs : List Loc) (ls : Array Slot), j + e0 = K2.length → k ≤ K1.length → wt = lSum I (K1.take k) → (∀ x, x ∈ K1.drop k → tk I x (nI (pp + 1)) = false) → wt = sIf I (fun r => tk I r (nI (pp + 1))) K1 → g = lSum I (K2.take j) → (∀ x, x ∈ K2.take j → tk I x (nI (pp + 1)) = true) → lv_has ls 11 [(10, .int (nI (pp + 1))), (8, .long g), (6, .long wt), (5, .int (nI j)), (4, .int (nI k)), (3, .int rf), (2, .ref l2), (1, .ref l1), (0, .ref q0)] → mW γ (mU M q0 (.inr (1, auc (aAt I K1 K2 rf pp)))) s H locs → W p l e ({ frames := 4, cells := 0, slots := 0, locals := 87 } : Room) s m #[.ref q0, .ref l1, .ref l2, .int rf] below meth c H locs 0 0 (MQ below (mQv γ (fun M' => M' = mU M q0 (.inr (1, auc (aAt I K1 K2 rf 2000))))) #[.ref q0, .ref l1, .ref l2, .int rf] s 0 0 (mA (gz γ))) (F0 m 92 ls []) := by
        intro e0
        induction e0 with
        | zero =>
          intro j k wt g H locs ls hje hk2 hwt hd2 hws hg htj hl hw
          refine lv_iload S.1 S.2.1 d_A_workOut_92 (lv_at hl 3 rfl) ?_
          refine lv_aload_n S.1 S.2.1 d_A_workOut_94 rfl (lv_at hl 6 rfl) ?_
          refine m_ci hw (va_runV (As := []) (rest := [.int (nI j)]) S (c_AL_size l γ (mU M q0 (.inr (1, auc (aAt I K1 K2 rf pp)))) l2 md2 _ _ (hl2A _)) (m_cwV 0 S g619 g186 g187 g44 g188 rfl rfl ⟨by decide +kernel, by decide +kernel, by decide +kernel⟩ ⟨(Nat.le_of_ble_eq_true rfl), (Nat.le_of_ble_eq_true rfl)⟩) (hw.preV (hl2A _) cl_AL.1) rfl rfl hl.1 rfl (lv_room (Nat.le_of_ble_eq_true rfl)) d_A_workOut_95 ⟨(Nat.zero_le _), (Nat.zero_le _)⟩) (fun r1 M1 H locs hp hw => ?_)
          obtain ⟨rfl, hM1⟩ := hp
          rw [hM1] at hw
          refine lv_icmp_ge (tgt := 142) S.1 S.2.1 d_A_workOut_98 rfl (fun _ => ?_) (fun h => absurd (nI_le (by omega) (by omega)) h)
          have hgs : g = sIf I (fun r => tk I r (nI (pp + 1))) K2 := by rw [sIf_cut htj (fun x hx => by rw [List.drop_eq_nil_of_le (by omega)] at hx; cases hx)]; exact hg
          refine lv_aload_n S.1 S.2.1 d_A_workOut_142 rfl (lv_at hl 8 rfl) ?_
          refine lv_iload S.1 S.2.1 d_A_workOut_143 (lv_at hl 0 rfl) ?_
          refine lv_lload S.1 S.2.1 d_A_workOut_145 (lv_at hl 2 rfl) ?_
          refine lv_lload S.1 S.2.1 d_A_workOut_147 (lv_at hl 1 rfl) ?_
          refine lv_iload_n S.1 S.2.1 d_A_workOut_149 rfl (lv_at hl 5 rfl) ?_
          refine m_cv hw (va_runV (As := [.int (nI (pp + 1)), .long wt, .long g, .int rf]) (rest := []) S (c_A_weigh l γ (mU M q0 (.inr (1, auc (aAt I K1 K2 rf pp)))) q0 (aAt I K1 K2 rf pp) (mU_eq _ _ _) (nI (pp + 1)) wt g rf) (m_cwV 4 S g626 g628 g19 g47 g629 rfl rfl ⟨by decide +kernel, by decide +kernel, by decide +kernel⟩ ⟨(Nat.le_of_ble_eq_true rfl), (Nat.le_of_ble_eq_true rfl)⟩) (hw.preV (mU_eq _ _ _) cl_A.1) rfl rfl hl.1 rfl (lv_room (Nat.le_of_ble_eq_true rfl)) d_A_workOut_150 ⟨(Nat.zero_le _), (Nat.zero_le _)⟩) (fun M1 H locs hp hw => ?_)
          have hpe : M1 = mU M q0 (.inr (1, auc (aAt I K1 K2 rf (pp + 1)))) := by rw [hp, mU_uu, hws, hgs]; rfl
          rw [hpe] at hw
          refine lv_iinc (k := 0) (v := nI (pp + 1 + 1)) S.1 S.2.1 d_A_workOut_153 hl rfl (nI_1 (pp + 1)) (by decide) rfl (fun ls hl => ?_)
          have hl : lv_has ls 11 [(10, .int (nI (pp + 1 + 1))), (8, .long g), (6, .long wt), (5, .int (nI j)), (4, .int (nI k)), (3, .int rf), (2, .ref l2), (1, .ref l1), (0, .ref q0)] := hl
          refine lv_goto (tgt := 36) S.1 S.2.1 d_A_workOut_156 rfl ?_
          have hl := lv_sub hl [0, 1, 2, 3, 4, 5, 6, 7, 8] rfl
          exact ih (pp + 1) k j wt g H locs ls (by omega) hk2 (by omega) hwt hg (fun x hx => tk_b (hs1 x (List.mem_of_mem_drop hx)) hpi (hd2 x hx)) (fun x hx => tk_s (hs2 x (List.mem_of_mem_take hx)) hpi (htj x hx)) hl hw
        | succ e0 ih2 =>
          intro j k wt g H locs ls hje hk2 hwt hd2 hws hg htj hl hw
          have hbd : j < K2.length := by omega
          have hmj := hm2 K2[j] (List.getElem_mem hbd)
          refine lv_iload S.1 S.2.1 d_A_workOut_92 (lv_at hl 3 rfl) ?_
          refine lv_aload_n S.1 S.2.1 d_A_workOut_94 rfl (lv_at hl 6 rfl) ?_
          refine m_ci hw (va_runV (As := []) (rest := [.int (nI j)]) S (c_AL_size l γ (mU M q0 (.inr (1, auc (aAt I K1 K2 rf pp)))) l2 md2 _ _ (hl2A _)) (m_cwV 0 S g619 g186 g187 g44 g188 rfl rfl ⟨by decide +kernel, by decide +kernel, by decide +kernel⟩ ⟨(Nat.le_of_ble_eq_true rfl), (Nat.le_of_ble_eq_true rfl)⟩) (hw.preV (hl2A _) cl_AL.1) rfl rfl hl.1 rfl (lv_room (Nat.le_of_ble_eq_true rfl)) d_A_workOut_95 ⟨(Nat.zero_le _), (Nat.zero_le _)⟩) (fun r1 M1 H locs hp hw => ?_)
          obtain ⟨rfl, hM1⟩ := hp
          rw [hM1] at hw
          refine lv_icmp_ge (tgt := 142) S.1 S.2.1 d_A_workOut_98 rfl (fun h => absurd h (nI_ge (by omega) (by omega))) (fun _ => ?_)
          refine lv_aload_n S.1 S.2.1 d_A_workOut_101 rfl (lv_at hl 6 rfl) ?_
          refine lv_iload S.1 S.2.1 d_A_workOut_102 (lv_at hl 3 rfl) ?_
          refine m_cq hw (va_runV (As := [.int (nI j)]) (rest := []) S (c_AL_get l γ (mU M q0 (.inr (1, auc (aAt I K1 K2 rf pp)))) l2 r2 c2 (K2.map oa) (hA2 _) j (by omega)) (m_cwV 1 S g623 g190 g191 g44 g192 rfl rfl ⟨by decide +kernel, by decide +kernel, by decide +kernel⟩ ⟨(Nat.le_of_ble_eq_true rfl), (Nat.le_of_ble_eq_true rfl)⟩) (hw.preV (hl2A _) cl_AL.1) rfl rfl hl.1 rfl (lv_room (Nat.le_of_ble_eq_true rfl)) d_A_workOut_104 ⟨(Nat.zero_le _), (Nat.zero_le _)⟩) (fun r1 M1 H locs hp hw => ?_)
          obtain ⟨rfl, hM1⟩ := hp
          rw [hM1] at hw
          have hge := map_at (oa := oa) hbd
          refine W.eq (g2 := F0 m 107 ls [.ref (oa K2[j])]) (by rw [hge]; rfl) ?_
          refine m_cast S hw cl_O (hOA _ _ hmj) g624 d_A_workOut_107 ?_
          refine lv_iload S.1 S.2.1 d_A_workOut_110 (lv_at hl 0 rfl) ?_
          refine m_ci hw (va_runV (As := [.int (nI (pp + 1))]) (rest := []) S (c_O_takes l γ (mU M q0 (.inr (1, auc (aAt I K1 K2 rf pp)))) (oa K2[j]) _ _ _ _ _ _ _ _ _ _ (hOA _ _ hmj) (nI (pp + 1))) (m_cwV 1 S g625 g263 g264 g54 g265 rfl rfl ⟨by decide +kernel, by decide +kernel, by decide +kernel⟩ ⟨(Nat.le_of_ble_eq_true rfl), (Nat.le_of_ble_eq_true rfl)⟩) (hw.preV (hOA _ _ hmj) cl_O.1) rfl rfl hl.1 rfl (lv_room (Nat.le_of_ble_eq_true rfl)) d_A_workOut_112 ⟨(Nat.zero_le _), (Nat.zero_le _)⟩) (fun r1 M1 H locs hp hw => ?_)
          obtain ⟨rfl, hM1⟩ := hp
          rw [hM1] at hw
          refine W.eq (g2 := F0 m 115 ls [.int (b2i (tk I K2[j] (nI (pp + 1))))]) rfl ?_
          refine lv_if_eq (tgt := 142) S.1 S.2.1 d_A_workOut_115 rfl (fun h115 => ?_) (fun h115 => ?_)
          · have hgs : g = sIf I (fun r => tk I r (nI (pp + 1))) K2 := by rw [sIf_cut htj (hL2.suf hOK hbd (b2i_0.mp h115))]; exact hg
            refine lv_aload_n S.1 S.2.1 d_A_workOut_142 rfl (lv_at hl 8 rfl) ?_
            refine lv_iload S.1 S.2.1 d_A_workOut_143 (lv_at hl 0 rfl) ?_
            refine lv_lload S.1 S.2.1 d_A_workOut_145 (lv_at hl 2 rfl) ?_
            refine lv_lload S.1 S.2.1 d_A_workOut_147 (lv_at hl 1 rfl) ?_
            refine lv_iload_n S.1 S.2.1 d_A_workOut_149 rfl (lv_at hl 5 rfl) ?_
            refine m_cv hw (va_runV (As := [.int (nI (pp + 1)), .long wt, .long g, .int rf]) (rest := []) S (c_A_weigh l γ (mU M q0 (.inr (1, auc (aAt I K1 K2 rf pp)))) q0 (aAt I K1 K2 rf pp) (mU_eq _ _ _) (nI (pp + 1)) wt g rf) (m_cwV 4 S g626 g628 g19 g47 g629 rfl rfl ⟨by decide +kernel, by decide +kernel, by decide +kernel⟩ ⟨(Nat.le_of_ble_eq_true rfl), (Nat.le_of_ble_eq_true rfl)⟩) (hw.preV (mU_eq _ _ _) cl_A.1) rfl rfl hl.1 rfl (lv_room (Nat.le_of_ble_eq_true rfl)) d_A_workOut_150 ⟨(Nat.zero_le _), (Nat.zero_le _)⟩) (fun M1 H locs hp hw => ?_)
            have hpe : M1 = mU M q0 (.inr (1, auc (aAt I K1 K2 rf (pp + 1)))) := by rw [hp, mU_uu, hws, hgs]; rfl
            rw [hpe] at hw
            refine lv_iinc (k := 0) (v := nI (pp + 1 + 1)) S.1 S.2.1 d_A_workOut_153 hl rfl (nI_1 (pp + 1)) (by decide) rfl (fun ls hl => ?_)
            have hl : lv_has ls 11 [(10, .int (nI (pp + 1 + 1))), (8, .long g), (6, .long wt), (5, .int (nI j)), (4, .int (nI k)), (3, .int rf), (2, .ref l2), (1, .ref l1), (0, .ref q0)] := hl
            refine lv_goto (tgt := 36) S.1 S.2.1 d_A_workOut_156 rfl ?_
            have hl := lv_sub hl [0, 1, 2, 3, 4, 5, 6, 7, 8] rfl
            exact ih (pp + 1) k j wt g H locs ls (by omega) hk2 (by omega) hwt hg (fun x hx => tk_b (hs1 x (List.mem_of_mem_drop hx)) hpi (hd2 x hx)) (fun x hx => tk_s (hs2 x (List.mem_of_mem_take hx)) hpi (htj x hx)) hl hw
          · refine lv_lload S.1 S.2.1 d_A_workOut_118 (lv_at hl 1 rfl) ?_
            refine lv_aload_n S.1 S.2.1 d_A_workOut_120 rfl (lv_at hl 6 rfl) ?_
            refine lv_iload S.1 S.2.1 d_A_workOut_121 (lv_at hl 3 rfl) ?_
            refine m_cq hw (va_runV (As := [.int (nI j)]) (rest := [.long g]) S (c_AL_get l γ (mU M q0 (.inr (1, auc (aAt I K1 K2 rf pp)))) l2 r2 c2 (K2.map oa) (hA2 _) j (by omega)) (m_cwV 1 S g623 g190 g191 g44 g192 rfl rfl ⟨by decide +kernel, by decide +kernel, by decide +kernel⟩ ⟨(Nat.le_of_ble_eq_true rfl), (Nat.le_of_ble_eq_true rfl)⟩) (hw.preV (hl2A _) cl_AL.1) rfl rfl hl.1 rfl (lv_room (Nat.le_of_ble_eq_true rfl)) d_A_workOut_123 ⟨(Nat.zero_le _), (Nat.zero_le _)⟩) (fun r1 M1 H locs hp hw => ?_)
            obtain ⟨rfl, hM1⟩ := hp
            rw [hM1] at hw
            have hge := map_at (oa := oa) hbd
            refine W.eq (g2 := F0 m 126 ls [.ref (oa K2[j]), .long g]) (by rw [hge]; rfl) ?_
            refine m_cast S hw cl_O (hOA _ _ hmj) g624 d_A_workOut_126 ?_
            refine m_get S hw cl_O (hOA _ _ hmj) 6 (by decide) g397 (fun _ h => h) rfl d_A_workOut_129 ?_
            refine lv_i2l S.1 S.2.1 d_A_workOut_132 rfl ?_
            refine lv_ladd S.1 S.2.1 d_A_workOut_133 ?_
            refine lv_lstore S.1 S.2.1 d_A_workOut_134 hl (by decide) rfl (fun ls hl => ?_)
            have hl : lv_has ls 11 [(8, .long (g + ((I 3 (K2[j])).toInt64))), (10, .int (nI (pp + 1))), (6, .long wt), (5, .int (nI j)), (4, .int (nI k)), (3, .int rf), (2, .ref l2), (1, .ref l1), (0, .ref q0)] := hl
            refine lv_iinc (k := 3) (v := nI (j + 1)) S.1 S.2.1 d_A_workOut_136 hl rfl (nI_1 j) (by decide) rfl (fun ls hl => ?_)
            have hl : lv_has ls 11 [(5, .int (nI (j + 1))), (8, .long (g + ((I 3 (K2[j])).toInt64))), (10, .int (nI (pp + 1))), (6, .long wt), (4, .int (nI k)), (3, .int rf), (2, .ref l2), (1, .ref l1), (0, .ref q0)] := hl
            refine lv_goto (tgt := 92) S.1 S.2.1 d_A_workOut_139 rfl ?_
            have hl := lv_sub hl [2, 1, 3, 0, 4, 5, 6, 7, 8] rfl
            exact ih2 (j + 1) k wt _ H locs ls (by omega) hk2 hwt hd2 hws (by rw [lSum_up hbd, hg]) (hL2.pre hOK hbd (b2i_n0.mp h115)) hl hw
      have in1 : ∀ (k : Nat) (wt : Int64) (H : Heap) (locs : List Loc) (ls : Array Slot), k ≤ K1.length → wt = lSum I (K1.take k) → (∀ x, x ∈ K1.drop k → tk I x (nI (pp + 1)) = false) → lv_has ls 11 [(10, .int (nI (pp + 1))), (8, .long g0), (6, .long wt), (5, .int (nI j0)), (4, .int (nI k)), (3, .int rf), (2, .ref l2), (1, .ref l1), (0, .ref q0)] → mW γ (mU M q0 (.inr (1, auc (aAt I K1 K2 rf pp)))) s H locs → W p l e ({ frames := 4, cells := 0, slots := 0, locals := 87 } : Room) s m #[.ref q0, .ref l1, .ref l2, .int rf] below meth c H locs 0 0 (MQ below (mQv γ (fun M' => M' = mU M q0 (.inr (1, auc (aAt I K1 K2 rf 2000))))) #[.ref q0, .ref l1, .ref l2, .int rf] s 0 0 (mA (gz γ))) (F0 m 44 ls []) := by
        intro k
        induction k with
        | zero =>
          intro wt H locs ls hk2 hwt hd2 hl hw
          refine lv_iload S.1 S.2.1 d_A_workOut_44 (lv_at hl 4 rfl) ?_
          refine lv_if_le (tgt := 92) S.1 S.2.1 d_A_workOut_46 rfl (fun _ => ?_) (fun h => absurd (show nI 0 ≤ 0 from by decide +kernel) h)
          have hl := lv_sub hl [0, 1, 2, 3, 4, 5, 6, 7, 8] rfl
          exact in2 (K2.length - j0) j0 0 wt g0 H locs ls (by omega) hk2 hwt hd2 (by rw [sIf_cut (fun x hx => by rw [List.take_zero] at hx; cases hx) hd2]; exact hwt) hg0 ht2 hl hw
        | succ k ih1 =>
          intro wt H locs ls hk2 hwt hd2 hl hw
          have hbd : k < K1.length := by omega
          have hmk := hm1 K1[k] (List.getElem_mem hbd)
          refine lv_iload S.1 S.2.1 d_A_workOut_44 (lv_at hl 4 rfl) ?_
          refine lv_if_le (tgt := 92) S.1 S.2.1 d_A_workOut_46 rfl (fun h => absurd h (nI_nle (by omega) (by omega))) (fun _ => ?_)
          refine lv_aload_n S.1 S.2.1 d_A_workOut_49 rfl (lv_at hl 7 rfl) ?_
          refine lv_iload S.1 S.2.1 d_A_workOut_50 (lv_at hl 4 rfl) ?_
          refine lv_iconst (v := 1) S.1 S.2.1 d_A_workOut_52 (by decide) ?_
          refine lv_isub S.1 S.2.1 d_A_workOut_53 ?_
          refine W.eq (g2 := F0 m 54 ls [.int (nI k), .ref l1]) (by rw [nI_pred]) ?_
          refine m_cq hw (va_runV (As := [.int (nI k)]) (rest := []) S (c_AL_get l γ (mU M q0 (.inr (1, auc (aAt I K1 K2 rf pp)))) l1 r1 c1 (K1.map oa) (hA1 _) k (by omega)) (m_cwV 1 S g623 g190 g191 g44 g192 rfl rfl ⟨by decide +kernel, by decide +kernel, by decide +kernel⟩ ⟨(Nat.le_of_ble_eq_true rfl), (Nat.le_of_ble_eq_true rfl)⟩) (hw.preV (hl1A _) cl_AL.1) rfl rfl hl.1 rfl (lv_room (Nat.le_of_ble_eq_true rfl)) d_A_workOut_54 ⟨(Nat.zero_le _), (Nat.zero_le _)⟩) (fun r1 M1 H locs hp hw => ?_)
          obtain ⟨rfl, hM1⟩ := hp
          rw [hM1] at hw
          have hge := map_at (oa := oa) hbd
          refine W.eq (g2 := F0 m 57 ls [.ref (oa K1[k])]) (by rw [hge]; rfl) ?_
          refine m_cast S hw cl_O (hOA _ _ hmk) g624 d_A_workOut_57 ?_
          refine lv_iload S.1 S.2.1 d_A_workOut_60 (lv_at hl 0 rfl) ?_
          refine m_ci hw (va_runV (As := [.int (nI (pp + 1))]) (rest := []) S (c_O_takes l γ (mU M q0 (.inr (1, auc (aAt I K1 K2 rf pp)))) (oa K1[k]) _ _ _ _ _ _ _ _ _ _ (hOA _ _ hmk) (nI (pp + 1))) (m_cwV 1 S g625 g263 g264 g54 g265 rfl rfl ⟨by decide +kernel, by decide +kernel, by decide +kernel⟩ ⟨(Nat.le_of_ble_eq_true rfl), (Nat.le_of_ble_eq_true rfl)⟩) (hw.preV (hOA _ _ hmk) cl_O.1) rfl rfl hl.1 rfl (lv_room (Nat.le_of_ble_eq_true rfl)) d_A_workOut_62 ⟨(Nat.zero_le _), (Nat.zero_le _)⟩) (fun r1 M1 H locs hp hw => ?_)
          obtain ⟨rfl, hM1⟩ := hp
          rw [hM1] at hw
          refine W.eq (g2 := F0 m 65 ls [.int (b2i (tk I K1[k] (nI (pp + 1))))]) rfl ?_
          refine lv_if_ne (tgt := 92) S.1 S.2.1 d_A_workOut_65 rfl (fun h65 => ?_) (fun h65 => ?_)
          · have hl := lv_sub hl [0, 1, 2, 3, 4, 5, 6, 7, 8] rfl
            exact in2 (K2.length - j0) j0 (k + 1) wt g0 H locs ls (by omega) hk2 hwt hd2 (by rw [sIf_cut (hL1.pre hOK hbd (b2i_n0.mp h65)) hd2]; exact hwt) hg0 ht2 hl hw
          · refine lv_iinc (k := 4) (v := nI k) S.1 S.2.1 d_A_workOut_68 hl rfl (pk_m1 k) (by decide) rfl (fun ls hl => ?_)
            have hl : lv_has ls 11 [(4, .int (nI k)), (10, .int (nI (pp + 1))), (8, .long g0), (6, .long wt), (5, .int (nI j0)), (3, .int rf), (2, .ref l2), (1, .ref l1), (0, .ref q0)] := hl
            refine lv_lload S.1 S.2.1 d_A_workOut_71 (lv_at hl 3 rfl) ?_
            refine lv_aload_n S.1 S.2.1 d_A_workOut_73 rfl (lv_at hl 7 rfl) ?_
            refine lv_iload S.1 S.2.1 d_A_workOut_74 (lv_at hl 0 rfl) ?_
            refine m_cq hw (va_runV (As := [.int (nI k)]) (rest := [.long wt]) S (c_AL_get l γ (mU M q0 (.inr (1, auc (aAt I K1 K2 rf pp)))) l1 r1 c1 (K1.map oa) (hA1 _) k (by omega)) (m_cwV 1 S g623 g190 g191 g44 g192 rfl rfl ⟨by decide +kernel, by decide +kernel, by decide +kernel⟩ ⟨(Nat.le_of_ble_eq_true rfl), (Nat.le_of_ble_eq_true rfl)⟩) (hw.preV (hl1A _) cl_AL.1) rfl rfl hl.1 rfl (lv_room (Nat.le_of_ble_eq_true rfl)) d_A_workOut_76 ⟨(Nat.zero_le _), (Nat.zero_le _)⟩) (fun r1 M1 H locs hp hw => ?_)
            obtain ⟨rfl, hM1⟩ := hp
            rw [hM1] at hw
            have hge := map_at (oa := oa) hbd
            refine W.eq (g2 := F0 m 79 ls [.ref (oa K1[k]), .long wt]) (by rw [hge]; rfl) ?_
            refine m_cast S hw cl_O (hOA _ _ hmk) g624 d_A_workOut_79 ?_
            refine m_get S hw cl_O (hOA _ _ hmk) 6 (by decide) g397 (fun _ h => h) rfl d_A_workOut_82 ?_
            refine lv_i2l S.1 S.2.1 d_A_workOut_85 rfl ?_
            refine lv_lsub S.1 S.2.1 d_A_workOut_86 ?_
            refine lv_lstore S.1 S.2.1 d_A_workOut_87 hl (by decide) rfl (fun ls hl => ?_)
            have hl : lv_has ls 11 [(6, .long (wt - ((I 3 (K1[k])).toInt64))), (4, .int (nI k)), (10, .int (nI (pp + 1))), (8, .long g0), (5, .int (nI j0)), (3, .int rf), (2, .ref l2), (1, .ref l1), (0, .ref q0)] := hl
            refine lv_goto (tgt := 44) S.1 S.2.1 d_A_workOut_89 rfl ?_
            have hl := lv_sub hl [2, 3, 0, 4, 1, 5, 6, 7, 8] rfl
            refine ih1 _ H locs ls (by omega) (by rw [hwt]; exact lSum_dn hbd) (fun x hx => ?_) hl hw
            rw [drop_at hbd] at hx
            rcases List.mem_cons.mp hx with e | e
            · rw [e]; exact b2i_0.mp h65
            · exact hd2 x e
      refine lv_iload S.1 S.2.1 d_A_workOut_36 (lv_at hl 0 rfl) ?_
      refine lv_sipush (v := 2000) S.1 S.2.1 d_A_workOut_38 (by decide) ?_
      refine lv_icmp_gt (tgt := 159) S.1 S.2.1 d_A_workOut_41 rfl (fun h => absurd h (show ¬ nI 2000 < nI (pp + 1) from nI_nlt (by omega) (by omega))) (fun _ => ?_)
      have hl := lv_sub hl [0, 1, 2, 3, 4, 5, 6, 7, 8] rfl
      exact in1 k0 w0 H locs ls hk hw0 hd1 hl hw
  have hl := lv_sub hl [0, 1, 2, 3, 4, 8, 7, 6, 5] rfl
  rw [hml1] at hl
  exact loop 2000 0 K1.length 0 _ 0 H locs ls rfl (Nat.le_refl _) (Nat.zero_le _) (by rw [List.take_of_length_le (Nat.le_refl _)]) rfl (fun x hx => by rw [List.drop_length] at hx; cases hx) (fun x hx => by rw [List.take_zero] at hx; cases hx) hl hw
end
section
/-! What the book is asked, in numbers -/
theorem i_nI {x : Int32} (h : ¬ x < 0) : ∃ k : Nat, x = nI k ∧ k < 2 ^ 31 := by
  have h0 : 0 ≤ x.toInt := by
    have h9 := Int32.le_iff_toInt_le.mp (Int32.not_lt.mp h)
    rw [i0] at h9
    exact h9
  have h1 : x.toInt < 2 ^ 31 := Int32.toInt_lt x
  refine ⟨x.toInt.toNat, Int32.toInt_inj.mp ?_, by omega⟩
  rw [nI_toInt (by omega)]
  omega
theorem nI_ltm {a b : Nat} (ha : a < 2 ^ 31) (hb : b < 2 ^ 31) (h : nI a < nI b) : a < b := by
  have h9 := Int32.lt_iff_toInt_lt.mp h
  rw [nI_toInt ha, nI_toInt hb] at h9
  omega
theorem nI_lem {a b : Nat} (ha : a < 2 ^ 31) (hb : b < 2 ^ 31) (h : ¬ nI a < nI b) : b ≤ a := by
  refine Nat.le_of_not_lt (fun z => h (nI_lt z hb))
theorem nI_inj {a b : Nat} (ha : a < 2 ^ 31) (hb : b < 2 ^ 31) (h : nI a = nI b) : a = b := by
  have h9 := congrArg Int32.toInt h
  rw [nI_toInt ha, nI_toInt hb] at h9
  omega
section ACC
variable {γ : mG} {M : mMap} {β : BK} {oa cp : Nat → Nat} {L : Nat → List Nat} {σ : St}
theorem CB.alls (h : CB γ M β oa cp L σ) : ∃ r, AL γ M (bal β 0) r (cp 0) ((List.range (sn σ)).map oa) := by
  obtain ⟨ar, ta, ap, av, az, h1, h2, h3, h4, h5, h6, h7⟩ := h
  have := h7.1 0 (by omega)
  unfold lx at this
  rw [if_pos rfl] at this
  exact ⟨_, this⟩
theorem CB.keeps (h : CB γ M β oa cp L σ) : ∃ r ta, AL γ M (bal β 3) r (cp 3) ((List.range (stn σ)).map ta) ∧ TR M ta (sT σ) (stn σ) := by
  obtain ⟨ar, ta, ap, av, az, h1, h2, h3, h4, h5, h6, h7⟩ := h
  have := h7.1 3 (by omega)
  unfold lx at this
  rw [if_neg (by decide), if_pos rfl] at this
  exact ⟨_, ta, this, h6⟩
theorem CB.auct (h : CB γ M β oa cp L σ) : ∃ a : AU, M (bau β) = some (.inr (1, auc a)) := by
  obtain ⟨ar, ta, ap, av, az, h1, h2, h3, h4, h5, h6, h7⟩ := h
  exact ⟨(ap, av, az), h4⟩
theorem CB.setA (h : CB γ M β oa cp L σ) {a : AU} {e : va_E} (he : e = .inr (1, auc a)) : CB γ (mU M (bau β) e) β oa cp L σ ∧ frW M (mU M (bau β) e) := by
  obtain ⟨ar, ta, ap, av, az, h1, h2, h3, h4, h5, h6, h7⟩ := h
  subst he
  exact ⟨⟨ar, ta, a.1, a.2.1, a.2.2, mU_to (m_kind h1 h4 (fun z => by cases z)) h1, ⟨mU_to (m_kind h2.1 h4 (fun z => by cases z)) h2.1, mU_to (m_kind h2.2 h4 (fun z => by cases z)) h2.2⟩, mU_to (m_kind h3 h4 (fun z => by cases z)) h3, mU_eq _ _ _, fun i hi => mU_to (m_kind (h5 i hi) h4 (fun z => by cases z)) (h5 i hi), fun i hi => mU_to (m_kind (h6 i hi) h4 (fun z => by cases z)) (h6 i hi), h7.setO h4 (by decide)⟩, frW.setA h4⟩
end ACC
theorem rg_at {f : Nat → Nat} {n k : Nat} (h : k < n) : ((List.range n).map f)[k]? = some (f k) := by
  rw [List.getElem?_map, List.getElem?_range h]; rfl
theorem rg_len {f : Nat → Nat} {n : Nat} : ((List.range n).map f).length = n := by rw [List.length_map, List.length_range]
def tlv (σ : St) (k : Nat) (w : Int32) : Int32 := if w = 0 then sT σ 0 k else if w = 1 then sT σ 1 k else if w = 2 then sT σ 2 k else if w = 3 then sT σ 3 k else -1
def tell (σ : St) (x w : Int32) : Int32 := if x < 0 then -1 else if x < nI (stn σ) then tlv σ x.toNatClampNeg w else -1
def told (σ : St) (L : Nat → List Nat) (w : Int32) : Int64 := if w = 0 then (sph σ).toInt64 else if w = 1 then (srf σ).toInt64 else if w = 2 then (sbd σ).toInt64 else if w = 3 then (nI (sn σ)).toInt64 else if w = 4 then (nI (L 1).length).toInt64 else if w = 5 then (nI (L 2).length).toInt64 else if w = 6 then (nI (stn σ)).toInt64 else if w = 7 then sal σ else -1
def atl (K : List Nat) (x : Int32) : Int32 := if x < 0 then -1 else if x < nI K.length then nI (K.getD x.toNatClampNeg 0) else -1
end
section
/-! CallBook: what it is asked (1) -/
set_option maxHeartbeats 4000000 in
set_option maxRecDepth 100000 in
theorem c_G_tell (l : Launch) (γ : mG) (M : mMap) (β : BK) (oa cp : Nat → Nat) (L : Nat → List Nat) (σ : St) (hC : CB γ M β oa cp L σ) (htn : stn σ ≤ 30000) (x0 w0 : Int32) : Met l y_G_tell w_G_tell ({ frames := 3, cells := 0, slots := 0, locals := 64 } : Room) (mPc γ M [.ref (btl β), .int x0, .int w0]) (mQi γ (fun r M' => r = tell σ x0 w0 ∧ M' = M)) 0 0 (mA (gz γ)) := by
  refine m_enter (by decide) (Nat.le_of_ble_eq_true rfl) ?_
  intro p e s m below meth c ls S hr hlk hnm hl hw
  have hl : lv_has ls 4 [(0, .ref (btl β)), (1, .int x0), (2, .int w0)] := hl
  obtain ⟨r3, ta, hA3, hT3⟩ := hC.keeps
  obtain ⟨⟨md3, hl3⟩, -⟩ := id hA3
  have hlt : ((List.range (stn σ)).map ta).length = stn σ := rg_len
  refine lv_iload_n S.1 S.2.1 d_G_tell_0 rfl (lv_at hl 1 rfl) ?_
  refine lv_if_lt (tgt := 15) S.1 S.2.1 d_G_tell_1 rfl (fun h1 => ?_) (fun h1 => ?_)
  · refine lv_iconst (v := (-1)) S.1 S.2.1 d_G_tell_15 (by decide) ?_
    exact m_iret S hlk hr rfl hw (⟨(show tell σ x0 w0 = -1 from if_pos h1).symm, rfl⟩) (Nat.le_refl _) (Nat.le_refl _) d_G_tell_16
  · refine lv_iload_n S.1 S.2.1 d_G_tell_4 rfl (lv_at hl 1 rfl) ?_
    refine lv_aload_n S.1 S.2.1 d_G_tell_5 rfl (lv_at hl 0 rfl) ?_
    refine m_get S hw cl_G hC.log 0 (by decide) g117 (fun _ h => h) rfl d_G_tell_6 ?_
    refine m_ci hw (va_runV (As := []) (rest := [.int x0]) S (c_AL_size l γ M (bal β 3) md3 _ _ hl3) (m_cwV 0 S g212 g186 g187 g44 g188 rfl rfl ⟨by decide +kernel, by decide +kernel, by decide +kernel⟩ ⟨(Nat.le_of_ble_eq_true rfl), (Nat.le_of_ble_eq_true rfl)⟩) (hw.preV hl3 cl_AL.1) rfl rfl hl.1 rfl (lv_room (Nat.le_of_ble_eq_true rfl)) d_G_tell_9 ⟨(Nat.zero_le _), (Nat.zero_le _)⟩) (fun r1 M1 H locs hp hw => ?_)
    obtain ⟨rfl, hM1⟩ := hp
    rw [hM1] at hw
    refine lv_icmp_lt (tgt := 17) S.1 S.2.1 d_G_tell_12 rfl (fun h12 => ?_) (fun h12 => ?_)
    · obtain ⟨k, hk, hk2⟩ := i_nI h1
      have hkl : k < stn σ := nI_ltm hk2 (by omega) (by rw [← hk, ← hlt]; exact h12)
      have hge := rg_at (f := ta) hkl
      have hTk := hT3 k hkl
      refine lv_aload_n S.1 S.2.1 d_G_tell_17 rfl (lv_at hl 0 rfl) ?_
      refine m_get S hw cl_G hC.log 0 (by decide) g117 (fun _ h => h) rfl d_G_tell_18 ?_
      refine lv_iload_n S.1 S.2.1 d_G_tell_21 rfl (lv_at hl 1 rfl) ?_
      refine W.eq (g2 := F0 m 22 ls [.int (nI k), .ref (bal β 3)]) (congrArg (fun z => F0 m 22 ls [.int z, .ref (bal β 3)]) hk) ?_
      refine m_cq hw (va_runV (As := [.int (nI k)]) (rest := []) S (c_AL_get l γ M (bal β 3) r3 (cp 3) ((List.range (stn σ)).map ta) hA3 k (by omega)) (m_cwV 1 S g213 g190 g191 g44 g192 rfl rfl ⟨by decide +kernel, by decide +kernel, by decide +kernel⟩ ⟨(Nat.le_of_ble_eq_true rfl), (Nat.le_of_ble_eq_true rfl)⟩) (hw.preV hl3 cl_AL.1) rfl rfl hl.1 rfl (lv_room (Nat.le_of_ble_eq_true rfl)) d_G_tell_22 ⟨(Nat.zero_le _), (Nat.zero_le _)⟩) (fun r1 M1 H locs hp hw => ?_)
      obtain ⟨rfl, hM1⟩ := hp
      rw [hM1] at hw
      refine W.eq (g2 := F0 m 25 ls [.ref (ta k)]) (by rw [hge]; rfl) ?_
      refine m_cast S hw cl_R hTk g214 d_G_tell_25 ?_
      refine lv_astore_n S.1 S.2.1 d_G_tell_28 rfl hl (by decide) rfl (fun ls hl => ?_)
      have hl : lv_has ls 4 [(3, .ref (ta k)), (0, .ref (btl β)), (1, .int x0), (2, .int w0)] := hl
      refine lv_iload_n S.1 S.2.1 d_G_tell_29 rfl (lv_at hl 3 rfl) ?_
      by_cases hs0 : w0 = 0
      · refine lv_tableIn (off := 30) (tgt := 60) S.1 S.2.1 d_G_tell_30 (by rw [hs0]; decide) (by rw [hs0]; decide) (by rw [hs0]; decide) (by decide) ?_
        refine lv_aload_n S.1 S.2.1 d_G_tell_60 rfl (lv_at hl 0 rfl) ?_
        refine m_get S hw cl_R hTk 0 (by decide) g546 (fun _ h => h) rfl d_G_tell_61 ?_
        exact m_iret S hlk hr rfl hw (⟨(show tell σ x0 w0 = sT σ 0 k from by unfold tell; rw [if_neg h1, if_pos (by rw [← hlt]; exact h12), hk, nI_clamp hk2]; rw [hs0]; rfl).symm, rfl⟩) (Nat.le_refl _) (Nat.le_refl _) d_G_tell_64
      by_cases hs1 : w0 = 1
      · refine lv_tableIn (off := 35) (tgt := 65) S.1 S.2.1 d_G_tell_30 (by rw [hs1]; decide) (by rw [hs1]; decide) (by rw [hs1]; decide) (by decide) ?_
        refine lv_aload_n S.1 S.2.1 d_G_tell_65 rfl (lv_at hl 0 rfl) ?_
        refine m_get S hw cl_R hTk 1 (by decide) g548 (fun _ h => h) rfl d_G_tell_66 ?_
        exact m_iret S hlk hr rfl hw (⟨(show tell σ x0 w0 = sT σ 1 k from by unfold tell; rw [if_neg h1, if_pos (by rw [← hlt]; exact h12), hk, nI_clamp hk2]; rw [hs1]; rfl).symm, rfl⟩) (Nat.le_refl _) (Nat.le_refl _) d_G_tell_69
      by_cases hs2 : w0 = 2
      · refine lv_tableIn (off := 40) (tgt := 70) S.1 S.2.1 d_G_tell_30 (by rw [hs2]; decide) (by rw [hs2]; decide) (by rw [hs2]; decide) (by decide) ?_
        refine lv_aload_n S.1 S.2.1 d_G_tell_70 rfl (lv_at hl 0 rfl) ?_
        refine m_get S hw cl_R hTk 2 (by decide) g550 (fun _ h => h) rfl d_G_tell_71 ?_
        exact m_iret S hlk hr rfl hw (⟨(show tell σ x0 w0 = sT σ 2 k from by unfold tell; rw [if_neg h1, if_pos (by rw [← hlt]; exact h12), hk, nI_clamp hk2]; rw [hs2]; rfl).symm, rfl⟩) (Nat.le_refl _) (Nat.le_refl _) d_G_tell_74
      by_cases hs3 : w0 = 3
      · refine lv_tableIn (off := 45) (tgt := 75) S.1 S.2.1 d_G_tell_30 (by rw [hs3]; decide) (by rw [hs3]; decide) (by rw [hs3]; decide) (by decide) ?_
        refine lv_aload_n S.1 S.2.1 d_G_tell_75 rfl (lv_at hl 0 rfl) ?_
        refine m_get S hw cl_R hTk 3 (by decide) g552 (fun _ h => h) rfl d_G_tell_76 ?_
        exact m_iret S hlk hr rfl hw (⟨(show tell σ x0 w0 = sT σ 3 k from by unfold tell; rw [if_neg h1, if_pos (by rw [← hlt]; exact h12), hk, nI_clamp hk2]; rw [hs3]; rfl).symm, rfl⟩) (Nat.le_refl _) (Nat.le_refl _) d_G_tell_79
      refine lv_tableOut (tgt := 80) S.1 S.2.1 d_G_tell_30 (by have q0 := lv_neT hs0 (show (0 : Int32).toInt = 0 by decide); have q1 := lv_neT hs1 (show (1 : Int32).toInt = 1 by decide); have q2 := lv_neT hs2 (show (2 : Int32).toInt = 2 by decide); have q3 := lv_neT hs3 (show (3 : Int32).toInt = 3 by decide); omega) (by decide) ?_
      refine lv_iconst (v := (-1)) S.1 S.2.1 d_G_tell_80 (by decide) ?_
      exact m_iret S hlk hr rfl hw (⟨(show tell σ x0 w0 = -1 from by unfold tell; rw [if_neg h1, if_pos (by rw [← hlt]; exact h12), hk, nI_clamp hk2]; unfold tlv; rw [if_neg hs0, if_neg hs1, if_neg hs2, if_neg hs3]).symm, rfl⟩) (Nat.le_refl _) (Nat.le_refl _) d_G_tell_81
    · refine lv_iconst (v := (-1)) S.1 S.2.1 d_G_tell_15 (by decide) ?_
      exact m_iret S hlk hr rfl hw (⟨(show tell σ x0 w0 = -1 from by unfold tell; rw [if_neg h1, if_neg (by rw [← hlt]; exact h12)]).symm, rfl⟩) (Nat.le_refl _) (Nat.le_refl _) d_G_tell_16
set_option maxHeartbeats 4000000 in
set_option maxRecDepth 100000 in
theorem c_B_trade (l : Launch) (γ : mG) (M : mMap) (β : BK) (oa cp : Nat → Nat) (L : Nat → List Nat) (σ : St) (hC : CB γ M β oa cp L σ) (htn : stn σ ≤ 30000) (x0 w0 : Int32) : Met l y_B_trade w_B_trade ({ frames := 4, cells := 0, slots := 0, locals := 87 } : Room) (mPc γ M [.ref (bx β), .int x0, .int w0]) (mQi γ (fun r M' => r = tell σ x0 w0 ∧ M' = M)) 0 0 (mA (gz γ)) := by
  refine m_enter (by decide) (Nat.le_of_ble_eq_true rfl) ?_
  intro p e s m below meth c ls S hr hlk hnm hl hw
  have hl : lv_has ls 3 [(0, .ref (bx β)), (1, .int x0), (2, .int w0)] := hl
  refine lv_aload_n S.1 S.2.1 d_B_trade_0 rfl (lv_at hl 0 rfl) ?_
  refine m_get S hw cl_B hC.book 3 (by decide) g148 (fun _ h => h) rfl d_B_trade_1 ?_
  refine lv_iload_n S.1 S.2.1 d_B_trade_4 rfl (lv_at hl 1 rfl) ?_
  refine lv_iload_n S.1 S.2.1 d_B_trade_5 rfl (lv_at hl 2 rfl) ?_
  refine m_ci hw (va_runV (As := [.int x0, .int w0]) (rest := []) S (c_G_tell l γ M β oa cp L σ hC htn x0 w0) (m_cwV 2 S g208 g209 g210 g46 g211 rfl rfl ⟨by decide +kernel, by decide +kernel, by decide +kernel⟩ ⟨(Nat.le_of_ble_eq_true rfl), (Nat.le_of_ble_eq_true rfl)⟩) (hw.preV hC.log cl_G.1) rfl rfl hl.1 rfl (lv_room (Nat.le_of_ble_eq_true rfl)) d_B_trade_6 ⟨(Nat.zero_le _), (Nat.zero_le _)⟩) (fun r1 M1 H locs hp hw => ?_)
  obtain ⟨rfl, hM1⟩ := hp
  rw [hM1] at hw
  exact m_iret S hlk hr rfl hw (⟨rfl, rfl⟩) (Nat.le_refl _) (Nat.le_refl _) d_B_trade_9
set_option maxHeartbeats 4000000 in
set_option maxRecDepth 100000 in
theorem c_B_told (l : Launch) (γ : mG) (M : mMap) (β : BK) (oa cp : Nat → Nat) (L : Nat → List Nat) (σ : St) (hC : CB γ M β oa cp L σ) (w0 : Int32) : Met l y_B_told w_B_told ({ frames := 1, cells := 0, slots := 0, locals := 20 } : Room) (mPc γ M [.ref (bx β), .int w0]) (mQl γ (fun r M' => r = told σ L w0 ∧ M' = M)) 0 0 (mA (gz γ)) := by
  refine m_enter (by decide) (Nat.le_of_ble_eq_true rfl) ?_
  intro p e s m below meth c ls S hr hlk hnm hl hw
  have hl : lv_has ls 2 [(0, .ref (bx β)), (1, .int w0)] := hl
  obtain ⟨r3, ta, hA3, hT3⟩ := hC.keeps
  obtain ⟨⟨md3, hl3⟩, -⟩ := id hA3
  have hlt : ((List.range (stn σ)).map ta).length = stn σ := rg_len
  obtain ⟨r0, hA0⟩ := hC.alls
  obtain ⟨⟨md0, hl0⟩, -⟩ := id hA0
  obtain ⟨r1, hA1⟩ := hC.list (j := 1) (Or.inl rfl)
  obtain ⟨⟨md1, hl1⟩, -⟩ := id hA1
  obtain ⟨r2, hA2⟩ := hC.list (j := 2) (Or.inr rfl)
  obtain ⟨⟨md2, hl2⟩, -⟩ := id hA2
  refine lv_iload_n S.1 S.2.1 d_B_told_0 rfl (lv_at hl 1 rfl) ?_
  by_cases hs0 : w0 = 0
  · refine lv_tableIn (off := 47) (tgt := 48) S.1 S.2.1 d_B_told_1 (by rw [hs0]; decide) (by rw [hs0]; decide) (by rw [hs0]; decide) (by decide) ?_
    refine lv_aload_n S.1 S.2.1 d_B_told_48 rfl (lv_at hl 0 rfl) ?_
    refine m_get S hw cl_B hC.book 5 (by decide) g150 (fun _ h => h) rfl d_B_told_49 ?_
    refine lv_i2l S.1 S.2.1 d_B_told_52 rfl ?_
    exact m_lret S hlk hr hw (⟨(show told σ L w0 = σ.2.1.1.toInt64 from by rw [hs0]; rfl).symm, rfl⟩) (Nat.le_refl _) (Nat.le_refl _) d_B_told_53
  by_cases hs1 : w0 = 1
  · refine lv_tableIn (off := 53) (tgt := 54) S.1 S.2.1 d_B_told_1 (by rw [hs1]; decide) (by rw [hs1]; decide) (by rw [hs1]; decide) (by decide) ?_
    refine lv_aload_n S.1 S.2.1 d_B_told_54 rfl (lv_at hl 0 rfl) ?_
    refine m_get S hw cl_B hC.book 6 (by decide) g151 (fun _ h => h) rfl d_B_told_55 ?_
    refine lv_i2l S.1 S.2.1 d_B_told_58 rfl ?_
    exact m_lret S hlk hr hw (⟨(show told σ L w0 = σ.2.1.2.1.toInt64 from by rw [hs1]; rfl).symm, rfl⟩) (Nat.le_refl _) (Nat.le_refl _) d_B_told_59
  by_cases hs2 : w0 = 2
  · refine lv_tableIn (off := 59) (tgt := 60) S.1 S.2.1 d_B_told_1 (by rw [hs2]; decide) (by rw [hs2]; decide) (by rw [hs2]; decide) (by decide) ?_
    refine lv_aload_n S.1 S.2.1 d_B_told_60 rfl (lv_at hl 0 rfl) ?_
    refine m_get S hw cl_B hC.book 7 (by decide) g152 (fun _ h => h) rfl d_B_told_61 ?_
    refine lv_i2l S.1 S.2.1 d_B_told_64 rfl ?_
    exact m_lret S hlk hr hw (⟨(show told σ L w0 = σ.2.1.2.2.1.toInt64 from by rw [hs2]; rfl).symm, rfl⟩) (Nat.le_refl _) (Nat.le_refl _) d_B_told_65
  by_cases hs3 : w0 = 3
  · refine lv_tableIn (off := 65) (tgt := 66) S.1 S.2.1 d_B_told_1 (by rw [hs3]; decide) (by rw [hs3]; decide) (by rw [hs3]; decide) (by decide) ?_
    refine lv_aload_n S.1 S.2.1 d_B_told_66 rfl (lv_at hl 0 rfl) ?_
    refine m_get S hw cl_B hC.book 0 (by decide) g145 (fun _ h => h) rfl d_B_told_67 ?_
    refine m_ci hw (va_runV (As := []) (rest := []) S (c_AL_size l γ M (bal β 0) md0 _ _ hl0) (m_cwV 0 S g185 g186 g187 g44 g188 rfl rfl ⟨by decide +kernel, by decide +kernel, by decide +kernel⟩ ⟨(Nat.le_of_ble_eq_true rfl), (Nat.le_of_ble_eq_true rfl)⟩) (hw.preV hl0 cl_AL.1) rfl rfl hl.1 rfl (lv_room (Nat.le_of_ble_eq_true rfl)) d_B_told_70 ⟨(Nat.zero_le _), (Nat.zero_le _)⟩) (fun r1 M1 H locs hp hw => ?_)
    obtain ⟨rfl, hM1⟩ := hp
    rw [hM1] at hw
    refine lv_i2l S.1 S.2.1 d_B_told_73 rfl ?_
    exact m_lret S hlk hr hw (⟨(show told σ L w0 = (nI ((List.range (sn σ)).map oa).length).toInt64 from by rw [hs3]; rw [rg_len]; rfl).symm, rfl⟩) (Nat.le_refl _) (Nat.le_refl _) d_B_told_74
  by_cases hs4 : w0 = 4
  · refine lv_tableIn (off := 74) (tgt := 75) S.1 S.2.1 d_B_told_1 (by rw [hs4]; decide) (by rw [hs4]; decide) (by rw [hs4]; decide) (by decide) ?_
    refine lv_aload_n S.1 S.2.1 d_B_told_75 rfl (lv_at hl 0 rfl) ?_
    refine m_get S hw cl_B hC.book 1 (by decide) g146 (fun _ h => h) rfl d_B_told_76 ?_
    refine m_get S hw cl_S (hC.side (Or.inl rfl)) 0 (by decide) g105 (fun _ h => h) rfl d_B_told_79 ?_
    refine m_ci hw (va_runV (As := []) (rest := []) S (c_AL_size l γ M (bal β 1) md1 _ _ hl1) (m_cwV 0 S g185 g186 g187 g44 g188 rfl rfl ⟨by decide +kernel, by decide +kernel, by decide +kernel⟩ ⟨(Nat.le_of_ble_eq_true rfl), (Nat.le_of_ble_eq_true rfl)⟩) (hw.preV hl1 cl_AL.1) rfl rfl hl.1 rfl (lv_room (Nat.le_of_ble_eq_true rfl)) d_B_told_82 ⟨(Nat.zero_le _), (Nat.zero_le _)⟩) (fun r1 M1 H locs hp hw => ?_)
    obtain ⟨rfl, hM1⟩ := hp
    rw [hM1] at hw
    refine lv_i2l S.1 S.2.1 d_B_told_85 rfl ?_
    exact m_lret S hlk hr hw (⟨(show told σ L w0 = (nI ((L 1).map oa).length).toInt64 from by rw [hs4]; rw [List.length_map]; rfl).symm, rfl⟩) (Nat.le_refl _) (Nat.le_refl _) d_B_told_86
  by_cases hs5 : w0 = 5
  · refine lv_tableIn (off := 86) (tgt := 87) S.1 S.2.1 d_B_told_1 (by rw [hs5]; decide) (by rw [hs5]; decide) (by rw [hs5]; decide) (by decide) ?_
    refine lv_aload_n S.1 S.2.1 d_B_told_87 rfl (lv_at hl 0 rfl) ?_
    refine m_get S hw cl_B hC.book 2 (by decide) g147 (fun _ h => h) rfl d_B_told_88 ?_
    refine m_get S hw cl_S (hC.side (Or.inr rfl)) 0 (by decide) g105 (fun _ h => h) rfl d_B_told_91 ?_
    refine m_ci hw (va_runV (As := []) (rest := []) S (c_AL_size l γ M (bal β 2) md2 _ _ hl2) (m_cwV 0 S g185 g186 g187 g44 g188 rfl rfl ⟨by decide +kernel, by decide +kernel, by decide +kernel⟩ ⟨(Nat.le_of_ble_eq_true rfl), (Nat.le_of_ble_eq_true rfl)⟩) (hw.preV hl2 cl_AL.1) rfl rfl hl.1 rfl (lv_room (Nat.le_of_ble_eq_true rfl)) d_B_told_94 ⟨(Nat.zero_le _), (Nat.zero_le _)⟩) (fun r1 M1 H locs hp hw => ?_)
    obtain ⟨rfl, hM1⟩ := hp
    rw [hM1] at hw
    refine lv_i2l S.1 S.2.1 d_B_told_97 rfl ?_
    exact m_lret S hlk hr hw (⟨(show told σ L w0 = (nI ((L 2).map oa).length).toInt64 from by rw [hs5]; rw [List.length_map]; rfl).symm, rfl⟩) (Nat.le_refl _) (Nat.le_refl _) d_B_told_98
  by_cases hs6 : w0 = 6
  · refine lv_tableIn (off := 98) (tgt := 99) S.1 S.2.1 d_B_told_1 (by rw [hs6]; decide) (by rw [hs6]; decide) (by rw [hs6]; decide) (by decide) ?_
    refine lv_aload_n S.1 S.2.1 d_B_told_99 rfl (lv_at hl 0 rfl) ?_
    refine m_get S hw cl_B hC.book 3 (by decide) g148 (fun _ h => h) rfl d_B_told_100 ?_
    refine m_get S hw cl_G hC.log 0 (by decide) g118 (fun _ h => h) rfl d_B_told_103 ?_
    refine m_ci hw (va_runV (As := []) (rest := []) S (c_AL_size l γ M (bal β 3) md3 _ _ hl3) (m_cwV 0 S g185 g186 g187 g44 g188 rfl rfl ⟨by decide +kernel, by decide +kernel, by decide +kernel⟩ ⟨(Nat.le_of_ble_eq_true rfl), (Nat.le_of_ble_eq_true rfl)⟩) (hw.preV hl3 cl_AL.1) rfl rfl hl.1 rfl (lv_room (Nat.le_of_ble_eq_true rfl)) d_B_told_106 ⟨(Nat.zero_le _), (Nat.zero_le _)⟩) (fun r1 M1 H locs hp hw => ?_)
    obtain ⟨rfl, hM1⟩ := hp
    rw [hM1] at hw
    refine lv_i2l S.1 S.2.1 d_B_told_109 rfl ?_
    exact m_lret S hlk hr hw (⟨(show told σ L w0 = (nI ((List.range (stn σ)).map ta).length).toInt64 from by rw [hs6]; rw [rg_len]; rfl).symm, rfl⟩) (Nat.le_refl _) (Nat.le_refl _) d_B_told_110
  by_cases hs7 : w0 = 7
  · refine lv_tableIn (off := 110) (tgt := 111) S.1 S.2.1 d_B_told_1 (by rw [hs7]; decide) (by rw [hs7]; decide) (by rw [hs7]; decide) (by decide) ?_
    refine lv_aload_n S.1 S.2.1 d_B_told_111 rfl (lv_at hl 0 rfl) ?_
    refine m_get S hw cl_B hC.book 3 (by decide) g148 (fun _ h => h) rfl d_B_told_112 ?_
    refine m_get S hw cl_G hC.log 1 (by decide) g120 (fun _ h => h) rfl d_B_told_115 ?_
    exact m_lret S hlk hr hw (⟨(show told σ L w0 = sal σ from by rw [hs7]; rfl).symm, rfl⟩) (Nat.le_refl _) (Nat.le_refl _) d_B_told_118
  refine lv_tableOut (tgt := 119) S.1 S.2.1 d_B_told_1 (by have q0 := lv_neT hs0 (show (0 : Int32).toInt = 0 by decide); have q1 := lv_neT hs1 (show (1 : Int32).toInt = 1 by decide); have q2 := lv_neT hs2 (show (2 : Int32).toInt = 2 by decide); have q3 := lv_neT hs3 (show (3 : Int32).toInt = 3 by decide); have q4 := lv_neT hs4 (show (4 : Int32).toInt = 4 by decide); have q5 := lv_neT hs5 (show (5 : Int32).toInt = 5 by decide); have q6 := lv_neT hs6 (show (6 : Int32).toInt = 6 by decide); have q7 := lv_neT hs7 (show (7 : Int32).toInt = 7 by decide); omega) (by decide) ?_
  refine lv_ldc2 S.1 S.2.1 S.2.2.2.1 (S.2.2.2.2 _ (gc g219)) d_B_told_119 ?_
  exact m_lret S hlk hr hw (⟨(show told σ L w0 = -1 from by unfold told; rw [if_neg hs0, if_neg hs1, if_neg hs2, if_neg hs3, if_neg hs4, if_neg hs5, if_neg hs6, if_neg hs7]).symm, rfl⟩) (Nat.le_refl _) (Nat.le_refl _) d_B_told_122
set_option maxHeartbeats 4000000 in
set_option maxRecDepth 100000 in
theorem c_B_call (l : Launch) (γ : mG) (M : mMap) (β : BK) (oa cp : Nat → Nat) (L : Nat → List Nat) (σ : St) (hC : CB γ M β oa cp L σ) : Met l y_B_call w_B_call ({ frames := 0, cells := 0, slots := 0, locals := 0 } : Room) (mPc γ M [.ref (bx β)]) (mQi γ (fun r M' => r = sph σ ∧ CB γ M' β oa cp L (oPh σ 0) ∧ frC M M')) 0 0 (mA (gz γ)) := by
  refine m_enter (by decide) (Nat.le_of_ble_eq_true rfl) ?_
  intro p e s m below meth c ls S hr hlk hnm hl hw
  have hl : lv_has ls 2 [(0, .ref (bx β))] := hl
  refine lv_aload_n S.1 S.2.1 d_B_call_0 rfl (lv_at hl 0 rfl) ?_
  refine m_get S hw cl_B hC.book 5 (by decide) g150 (fun _ h => h) rfl d_B_call_1 ?_
  refine lv_istore_n S.1 S.2.1 d_B_call_4 rfl hl (by decide) rfl (fun ls hl => ?_)
  have hl : lv_has ls 2 [(1, .int σ.2.1.1), (0, .ref (bx β))] := hl
  refine lv_aload_n S.1 S.2.1 d_B_call_5 rfl (lv_at hl 1 rfl) ?_
  refine lv_iconst (v := 0) S.1 S.2.1 d_B_call_6 (by decide) ?_
  refine m_put S hw cl_B hC.book 5 (by decide) g150 (fun _ h => h) rfl rfl rfl (Nat.le_of_ble_eq_true rfl) d_B_call_7 (fun H locs hw => ?_)
  have hw : mW γ (mU M (bx β) (.inr (6, [.ref (bal β 0), .ref (bsd β 1), .ref (bsd β 2), .ref (btl β), .ref (bau β), .int 0, .int σ.2.1.2.1, .int σ.2.1.2.2.1, .int σ.2.1.2.2.2]))) s H locs := hw
  obtain ⟨hC1, hf1⟩ := hC.setB (p := (0, srf σ, sbd σ, srk σ)) (e := .inr (6, bkc β (0, srf σ, sbd σ, srk σ))) rfl
  refine lv_iload_n S.1 S.2.1 d_B_call_10 rfl (lv_at hl 0 rfl) ?_
  exact m_iret S hlk hr rfl hw (⟨rfl, hC1, hf1⟩) (Nat.le_refl _) (Nat.le_refl _) d_B_call_11
set_option maxHeartbeats 4000000 in
set_option maxRecDepth 100000 in
theorem c_B_at (l : Launch) (γ : mG) (M : mMap) (β : BK) (oa cp : Nat → Nat) (L : Nat → List Nat) (σ : St) (hC : CB γ M β oa cp L σ) (hn : sn σ ≤ 250) (hL : LN σ L) (b0 : Int32) (hb0 : b0 = 0 ∨ b0 = 1) (x0 : Int32) : Met l y_B_at w_B_at ({ frames := 3, cells := 0, slots := 0, locals := 64 } : Room) (mPc γ M [.ref (bx β), .int b0, .int x0]) (mQi γ (fun r M' => r = atl (L (sj b0)) x0 ∧ M' = M)) 0 0 (mA (gz γ)) := by
  refine m_enter (by decide) (Nat.le_of_ble_eq_true rfl) ?_
  intro p e s m below meth c ls S hr hlk hnm hl hw
  have hl : lv_has ls 4 [(0, .ref (bx β)), (1, .int b0), (2, .int x0)] := hl
  obtain ⟨r0, hA0⟩ := hC.list (sj_or b0)
  obtain ⟨⟨md0, hl0⟩, -⟩ := id hA0
  have hLj : Line (sI σ) (sn σ) b0 (L (sj b0)) := sj_val hb0 hL
  have hml : ((L (sj b0)).map oa).length = (L (sj b0)).length := List.length_map _
  have hlen : (L (sj b0)).length ≤ 250 := hLj.len hn
  refine lv_aload_n S.1 S.2.1 d_B_at_0 rfl (lv_at hl 0 rfl) ?_
  refine lv_iload_n S.1 S.2.1 d_B_at_1 rfl (lv_at hl 1 rfl) ?_
  refine m_cq hw (va_runV (As := [.int b0]) (rest := []) S (c_B_side l γ M β σ.2.1 hC.book b0) (m_cwV 1 S g181 g183 g0 g41 g184 rfl rfl ⟨by decide +kernel, by decide +kernel, by decide +kernel⟩ ⟨(Nat.le_of_ble_eq_true rfl), (Nat.le_of_ble_eq_true rfl)⟩) (hw.preV hC.book cl_B.1) rfl rfl hl.1 rfl (lv_room (Nat.le_of_ble_eq_true rfl)) d_B_at_2 ⟨(Nat.zero_le _), (Nat.zero_le _)⟩) (fun r1 M1 H locs hp hw => ?_)
  obtain ⟨rfl, hM1⟩ := hp
  rw [hM1] at hw
  refine m_get S hw cl_S (hC.side (sj_or _)) 0 (by decide) g105 (fun _ h => h) rfl d_B_at_5 ?_
  refine lv_astore_n S.1 S.2.1 d_B_at_8 rfl hl (by decide) rfl (fun ls hl => ?_)
  have hl : lv_has ls 4 [(3, .ref (bal β (sj b0))), (0, .ref (bx β)), (1, .int b0), (2, .int x0)] := hl
  refine lv_iload_n S.1 S.2.1 d_B_at_9 rfl (lv_at hl 3 rfl) ?_
  refine lv_if_lt (tgt := 21) S.1 S.2.1 d_B_at_10 rfl (fun h10 => ?_) (fun h10 => ?_)
  · refine lv_iconst (v := (-1)) S.1 S.2.1 d_B_at_21 (by decide) ?_
    refine lv_goto (tgt := 36) S.1 S.2.1 d_B_at_22 rfl ?_
    exact m_iret S hlk hr rfl hw (⟨(show atl (L (sj b0)) x0 = -1 from if_pos h10).symm, rfl⟩) (Nat.le_refl _) (Nat.le_refl _) d_B_at_36
  · refine lv_iload_n S.1 S.2.1 d_B_at_13 rfl (lv_at hl 3 rfl) ?_
    refine lv_aload_n S.1 S.2.1 d_B_at_14 rfl (lv_at hl 0 rfl) ?_
    refine m_ci hw (va_runV (As := []) (rest := [.int x0]) S (c_AL_size l γ M (bal β (sj b0)) md0 _ _ hl0) (m_cwV 0 S g185 g186 g187 g44 g188 rfl rfl ⟨by decide +kernel, by decide +kernel, by decide +kernel⟩ ⟨(Nat.le_of_ble_eq_true rfl), (Nat.le_of_ble_eq_true rfl)⟩) (hw.preV hl0 cl_AL.1) rfl rfl hl.1 rfl (lv_room (Nat.le_of_ble_eq_true rfl)) d_B_at_15 ⟨(Nat.zero_le _), (Nat.zero_le _)⟩) (fun r1 M1 H locs hp hw => ?_)
    obtain ⟨rfl, hM1⟩ := hp
    rw [hM1] at hw
    refine lv_icmp_lt (tgt := 25) S.1 S.2.1 d_B_at_18 rfl (fun h18 => ?_) (fun h18 => ?_)
    · obtain ⟨k, hk, hk2⟩ := i_nI h10
      have hbd : k < (L (sj b0)).length := nI_ltm hk2 (by omega) (by rw [← hk, ← hml]; exact h18)
      have hm := (hLj.1 (L (sj b0))[k]).mp (List.getElem_mem hbd)
      refine lv_aload_n S.1 S.2.1 d_B_at_25 rfl (lv_at hl 0 rfl) ?_
      refine lv_iload_n S.1 S.2.1 d_B_at_26 rfl (lv_at hl 3 rfl) ?_
      refine W.eq (g2 := F0 m 27 ls [.int (nI k), .ref (bal β (sj b0))]) (congrArg (fun z => F0 m 27 ls [.int z, .ref (bal β (sj b0))]) hk) ?_
      refine m_cq hw (va_runV (As := [.int (nI k)]) (rest := []) S (c_AL_get l γ M (bal β (sj b0)) r0 (cp (sj b0)) ((L (sj b0)).map oa) hA0 k (by omega)) (m_cwV 1 S g189 g190 g191 g44 g192 rfl rfl ⟨by decide +kernel, by decide +kernel, by decide +kernel⟩ ⟨(Nat.le_of_ble_eq_true rfl), (Nat.le_of_ble_eq_true rfl)⟩) (hw.preV hl0 cl_AL.1) rfl rfl hl.1 rfl (lv_room (Nat.le_of_ble_eq_true rfl)) d_B_at_27 ⟨(Nat.zero_le _), (Nat.zero_le _)⟩) (fun r1 M1 H locs hp hw => ?_)
      obtain ⟨rfl, hM1⟩ := hp
      rw [hM1] at hw
      have hge := map_at (oa := oa) hbd
      refine W.eq (g2 := F0 m 30 ls [.ref (oa (L (sj b0))[k])]) (by rw [hge]; rfl) ?_
      refine m_cast S hw cl_O (hC.ord _ hm.1) g203 d_B_at_30 ?_
      refine m_get S hw cl_O (hC.ord _ hm.1) 0 (by decide) g385 (fun _ h => h) rfl d_B_at_33 ?_
      exact m_iret S hlk hr rfl hw (⟨(show atl (L (sj b0)) x0 = nI (L (sj b0))[k] from by unfold atl; rw [if_neg h10, if_pos (by rw [← hml]; exact h18), hk, nI_clamp hk2, List.getD_eq_getElem?_getD, List.getElem?_eq_getElem hbd]; rfl).symm, rfl⟩) (Nat.le_refl _) (Nat.le_refl _) d_B_at_36
    · refine lv_iconst (v := (-1)) S.1 S.2.1 d_B_at_21 (by decide) ?_
      refine lv_goto (tgt := 36) S.1 S.2.1 d_B_at_22 rfl ?_
      exact m_iret S hlk hr rfl hw (⟨(show atl (L (sj b0)) x0 = -1 from by unfold atl; rw [if_neg h10, if_neg (by rw [← hml]; exact h18)]).symm, rfl⟩) (Nat.le_refl _) (Nat.le_refl _) d_B_at_36
end
section
/-! Nothing is astray, in numbers -/
def ctd (σ : St) (o : Nat) : Bool := (decide (sph σ = 1) && decide (sbd σ = 0)) && (match fst (sI σ) (opp (sI σ 1 o)) (sn σ) with
  | none => false
  | some r => tk (sI σ) o (sI σ 2 r))
/-- no two that rest could trade -/
def NX (σ : St) : Prop := sph σ = 1 → sbd σ = 0 → ∀ a b, a < sn σ → b < sn σ → rs (sI σ) a = true → rs (sI σ) b = true → ¬ sI σ 1 a = sI σ 1 b → tk (sI σ) a (sI σ 2 b) = false
/-- of one that doesn't rest nothing is left -/
def NZ (σ : St) : Prop := ∀ o, o < sn σ → rs (sI σ) o = false → sI σ 3 o = 0 ∧ sI σ 4 o = 0
theorem fst_on {σ : St} {L : Nat → List Nat} {b : Int32} {r : Nat} (hB : InvB σ) (hL : LN σ L) (hb : b = 0 ∨ b = 1) (h : fst (sI σ) b (sn σ) = some r) : r < sn σ ∧ rs (sI σ) r = true ∧ sI σ 1 r = b := by
  have hLj : Line (sI σ) (sn σ) b (L (sj b)) := sj_val hb hL
  rw [hLj.hd hB.2.1] at h
  have hm := (hLj.1 r).mp (List.mem_of_mem_head? h)
  exact ⟨hm.1, (onS_iff.mp hm.2).1, (onS_iff.mp hm.2).2⟩
theorem ctd_no {σ : St} {L : Nat → List Nat} {o : Nat} (hB : InvB σ) (hL : LN σ L) (hX : NX σ) (ho : o < sn σ) (hr : rs (sI σ) o = true) : ctd σ o = false := by
  unfold ctd
  rcases hf : fst (sI σ) (opp (sI σ 1 o)) (sn σ) with _ | r
  · exact Bool.and_false _
  · obtain ⟨h1, h2, h3⟩ := fst_on hB hL (opp_or _) hf
    by_cases hp : sph σ = 1
    · by_cases hb : sbd σ = 0
      · show ((decide (sph σ = 1) && decide (sbd σ = 0)) && tk (sI σ) o (sI σ 2 r)) = false
        rw [hX hp hb o r ho h1 hr h2 (fun z => opp_ne (hB.2.1.1 o ho).2.2 (h3.symm.trans z.symm)), Bool.and_false]
      · rw [decide_eq_false hb, Bool.and_false, Bool.false_and]
    · rw [decide_eq_false hp, Bool.false_and, Bool.false_and]
def wrg (I : Co) (o : Nat) : Bool := (decide (I 5 o = -1) || decide (I 3 o < 1) || decide (100000 < I 3 o)) || (decide (I 4 o < 1) || decide ((if I 8 o = 0 then I 3 o else (if I 8 o < I 3 o then I 8 o else I 3 o)) < I 4 o) || (decide (I 8 o = 0) && decide (¬ I 4 o = I 3 o)))
theorem wrg_no {I : Co} {o : Nat} (hp : 0 ≤ (I 8 o).toInt) (hr : rs I o = true) (h : Rok I o) : wrg I o = false := by
  obtain ⟨h1, h2, h3, h4, h5⟩ := h
  rw [rs_iff] at hr
  have e1 : ¬ I 5 o = -1 := fun z => by rw [z, i_m1] at hr; omega
  have e2 : ¬ I 3 o < 1 := fun z => by have := Int32.lt_iff_toInt_lt.mp z; rw [i_1] at this; omega
  have e3 : ¬ 100000 < I 3 o := fun z => by have := Int32.lt_iff_toInt_lt.mp z; rw [show (100000 : Int32).toInt = 100000 by decide] at this; omega
  have e4 : ¬ I 4 o < 1 := fun z => by have := Int32.lt_iff_toInt_lt.mp z; rw [i_1] at this; omega
  have e5 : ¬ shw I o < I 4 o := fun z => by
    have h9 := Int32.lt_iff_toInt_lt.mp z
    rw [shw_int hp] at h9
    split at h9
    · rename_i q; have := h4 q; omega
    · have := h5 (by omega)
      split at h9 <;> omega
  have e6 : (decide (I 8 o = 0) && decide (¬ I 4 o = I 3 o)) = false := by
    by_cases q : I 8 o = 0
    · have e9 : I 4 o = I 3 o := Int32.toInt_inj.mp (h4 (by rw [q, i0]))
      rw [show decide (¬ I 4 o = I 3 o) = false from decide_eq_false (fun z => z e9), Bool.and_false]
    · rw [decide_eq_false q, Bool.false_and]
  unfold wrg
  rw [shw_eq hp, decide_eq_false e1, decide_eq_false e2, decide_eq_false e3, decide_eq_false e4, decide_eq_false e5, e6]
  rfl
theorem rs_ne {σ : St} {o : Nat} (hB : InvB σ) (ho : o < sn σ) : rs (sI σ) o = true ↔ ¬ sI σ 5 o = -1 := by
  have h9 := (hB.2.2.1 o ho).2.2.1
  rw [rs_iff]
  constructor
  · intro h z; rw [z, i_m1] at h; omega
  · intro h
    have h8 : (sI σ 5 o).toInt ≠ -1 := fun z => h (Int32.toInt_inj.mp (z.trans i_m1.symm))
    omega
/-- how many rest -/
def cnt (I : Co) : Nat → Nat
  | 0 => 0
  | k + 1 => if rs I k = true then cnt I k + 1 else cnt I k
theorem cnt_le (I : Co) : ∀ k, cnt I k ≤ k := by
  intro k
  induction k with
  | zero => exact Nat.le_refl _
  | succ k ih => unfold cnt; split <;> omega
def rsl (I : Co) : Nat → List Nat
  | 0 => []
  | k + 1 => if rs I k = true then k :: rsl I k else rsl I k
theorem rsl_len (I : Co) : ∀ k, (rsl I k).length = cnt I k := by
  intro k
  induction k with
  | zero => rfl
  | succ k ih =>
    unfold rsl cnt
    split
    · rw [List.length_cons, ih]
    · exact ih
theorem rsl_mem (I : Co) (x : Nat) : ∀ k, x ∈ rsl I k ↔ (x < k ∧ rs I x = true) := by
  intro k
  induction k with
  | zero => exact ⟨fun h => (by cases h), fun h => absurd h.1 (Nat.not_lt_zero _)⟩
  | succ k ih =>
    unfold rsl
    split
    · rename_i h
      rw [List.mem_cons, ih]
      constructor
      · rintro (e | e)
        · subst e; exact ⟨by omega, h⟩
        · exact ⟨by omega, e.2⟩
      · rintro ⟨h1, h2⟩
        by_cases e : x = k
        · exact Or.inl e
        · exact Or.inr ⟨by omega, h2⟩
    · rename_i h
      rw [ih]
      constructor
      · rintro ⟨h1, h2⟩; exact ⟨by omega, h2⟩
      · rintro ⟨h1, h2⟩
        refine ⟨?_, h2⟩
        have : x ≠ k := fun e => h (e ▸ h2)
        omega
theorem rsl_nd (I : Co) : ∀ k, (rsl I k).Nodup := by
  intro k
  induction k with
  | zero => exact List.nodup_nil
  | succ k ih =>
    unfold rsl
    split
    · refine List.nodup_cons.mpr ⟨fun h => ?_, ih⟩
      have := ((rsl_mem I k k).mp h).1
      omega
    · exact ih
theorem nd_sub : ∀ (L F : List Nat), L.Nodup → (∀ x, x ∈ L → x ∈ F) → L.length ≤ F.length := by
  intro L
  induction L with
  | nil => intro F _ _; exact Nat.zero_le _
  | cons a t ih =>
    intro F hn h
    have hn' := List.nodup_cons.mp hn
    have ha := h a List.mem_cons_self
    have h1 := ih (F.erase a) hn'.2 (fun x hx => (List.mem_erase_of_ne (a := x) (b := a) (fun z => hn'.1 (by rw [← z]; exact hx))).mpr (h x (List.mem_cons_of_mem _ hx)))
    rw [List.length_erase_of_mem ha] at h1
    have := List.length_pos_of_mem ha
    rw [List.length_cons]
    omega
theorem cnt_eq {σ : St} {L : Nat → List Nat} (hB : InvB σ) (hL : LN σ L) : cnt (sI σ) (sn σ) = (L 1).length + (L 2).length := by
  rw [← rsl_len, ← List.length_append]
  have m1 := hL.1.1
  have m2 := hL.2.1
  refine Nat.le_antisymm (nd_sub _ _ (rsl_nd _ _) (fun x hx => ?_)) (nd_sub _ _ (List.nodup_append.mpr ⟨hL.1.nodup, hL.2.nodup, fun a ha b hb e => ?_⟩) (fun x hx => ?_))
  · obtain ⟨h1, h2⟩ := (rsl_mem _ x _).mp hx
    rw [List.mem_append]
    rcases (hB.2.1.1 x h1).2.2 with e | e
    · exact Or.inr ((m2 x).mpr ⟨h1, onS_iff.mpr ⟨h2, e⟩⟩)
    · exact Or.inl ((m1 x).mpr ⟨h1, onS_iff.mpr ⟨h2, e⟩⟩)
  · have h1 := (onS_iff.mp ((m1 a).mp ha).2).2
    have h2 := (onS_iff.mp ((m2 b).mp hb).2).2
    rw [e, h2] at h1
    exact absurd h1 (by decide)
  · rcases List.mem_append.mp hx with h | h
    · have := (m1 x).mp h; exact (rsl_mem _ x _).mpr ⟨this.1, (onS_iff.mp this.2).1⟩
    · have := (m2 x).mp h; exact (rsl_mem _ x _).mpr ⟨this.1, (onS_iff.mp this.2).1⟩
theorem nI_dif {a b c : Nat} (h : c = a + b) : nI c - nI a - nI b = 0 := by
  rw [h, show nI (a + b) = nI a + nI b from (Int32.ofNat_add a b), Int32.add_comm, Int32.add_sub_cancel, Int32.sub_self]
end
section
/-! CallBook.astray -/
set_option maxHeartbeats 4000000 in
set_option maxRecDepth 100000 in
theorem c_B_couldTrade (l : Launch) (γ : mG) (M : mMap) (β : BK) (oa cp : Nat → Nat) (L : Nat → List Nat) (σ : St) (hC : CB γ M β oa cp L σ) (hI : Inv0 σ) (hL : LN σ L) (o : Nat) (ho : o < sn σ) : Met l y_B_couldTrade w_B_couldTrade ({ frames := 4, cells := 0, slots := 0, locals := 84 } : Room) (mPc γ M [.ref (bx β), .ref (oa o)]) (mQi γ (fun r M' => r = b2i (ctd σ o) ∧ M' = M)) 0 0 (mA (gz γ)) := by
  refine m_enter (by decide) (Nat.le_of_ble_eq_true rfl) ?_
  intro p e s m below meth c ls S hr hlk hnm hl hw
  have hl : lv_has ls 3 [(0, .ref (bx β)), (1, .ref (oa o))] := hl
  have hOo := hC.ord o ho
  refine lv_aload_n S.1 S.2.1 d_B_couldTrade_0 rfl (lv_at hl 0 rfl) ?_
  refine lv_aload_n S.1 S.2.1 d_B_couldTrade_1 rfl (lv_at hl 1 rfl) ?_
  refine m_get S hw cl_O hOo 2 (by decide) g389 (fun _ h => h) rfl d_B_couldTrade_2 ?_
  obtain ⟨r0, hA2⟩ := hC.list (sj_or (opp (sI σ 1 o)))
  have hLj : Line (sI σ) (sn σ) (opp (sI σ 1 o)) (L (sj (opp (sI σ 1 o)))) := sj_val (opp_or _) hL
  have hhd := hLj.hd hI.2.1
  have hE2 : mEl M 2 ((L (sj (opp (sI σ 1 o)))).map oa) := hC.ord.el (fun y hy => ((hLj.1 y).mp hy).1)
  have hlen2 : ((L (sj (opp (sI σ 1 o)))).map oa).length ≤ 250 := by rw [List.length_map]; exact hLj.len hI.1
  have cont : ∀ (H : Heap) (locs : List Loc) (ls : Array Slot), lv_has ls 3 [(0, .ref (bx β)), (1, .ref (oa o))] → mW γ M s H locs → W p l e ({ frames := 4, cells := 0, slots := 0, locals := 84 } : Room) s m #[.ref (bx β), .ref (oa o)] below meth c H locs 0 0 (MQ below (mQi γ (fun r M' => r = b2i (ctd σ o) ∧ M' = M)) #[.ref (bx β), .ref (oa o)] s 0 0 (mA (gz γ))) (F0 m 13 ls [.int (opp (sI σ 1 o)), .ref (bx β)]) := by
    intro H locs ls hl hw
    refine m_cq hw (va_runV (As := [.int (opp (sI σ 1 o))]) (rest := []) S (c_B_side l γ M β σ.2.1 hC.book (opp (sI σ 1 o))) (m_cwV 1 S g181 g183 g0 g41 g184 rfl rfl ⟨by decide +kernel, by decide +kernel, by decide +kernel⟩ ⟨(Nat.le_of_ble_eq_true rfl), (Nat.le_of_ble_eq_true rfl)⟩) (hw.preV hC.book cl_B.1) rfl rfl hl.1 rfl (lv_room (Nat.le_of_ble_eq_true rfl)) d_B_couldTrade_13 ⟨(Nat.zero_le _), (Nat.zero_le _)⟩) (fun r1 M1 H locs hp hw => ?_)
    obtain ⟨rfl, hM1⟩ := hp
    rw [hM1] at hw
    refine m_cq hw (va_runV (As := []) (rest := []) S (c_S_first l γ M (bsd β (sj (opp (sI σ 1 o)))) (bal β (sj (opp (sI σ 1 o)))) r0 (cp (sj (opp (sI σ 1 o)))) ((L (sj (opp (sI σ 1 o)))).map oa) (hC.side (sj_or _)) hA2 hE2 hlen2) (m_cwV 0 S g252 g253 g254 g45 g255 rfl rfl ⟨by decide +kernel, by decide +kernel, by decide +kernel⟩ ⟨(Nat.le_of_ble_eq_true rfl), (Nat.le_of_ble_eq_true rfl)⟩) (hw.preV (hC.side (sj_or _)) cl_S.1) rfl rfl hl.1 rfl (lv_room (Nat.le_of_ble_eq_true rfl)) d_B_couldTrade_16 ⟨(Nat.zero_le _), (Nat.zero_le _)⟩) (fun r1 M1 H locs hp hw => ?_)
    obtain ⟨hres, hM1⟩ := hp
    rw [hM1] at hw
    rw [List.head?_map, ← hhd] at hres
    rcases hh : fst (sI σ) (opp (sI σ 1 o)) (sn σ) with _ | r1
    · rw [hh] at hres
      subst hres
      refine W.eq (g2 := F0 m 19 ls [.null]) rfl ?_
      refine lv_astore_nN S.1 S.2.1 d_B_couldTrade_19 rfl hl (by decide) rfl (fun ls hl => ?_)
      have hl : lv_has ls 3 [(2, .null), (0, .ref (bx β)), (1, .ref (oa o))] := hl
      refine lv_aload_n S.1 S.2.1 d_B_couldTrade_20 rfl (lv_at hl 1 rfl) ?_
      refine m_get S hw cl_B hC.book 5 (by decide) g150 (fun _ h => h) rfl d_B_couldTrade_21 ?_
      refine lv_iconst (v := 1) S.1 S.2.1 d_B_couldTrade_24 (by decide) ?_
      refine lv_icmp_ne (tgt := 54) S.1 S.2.1 d_B_couldTrade_25 rfl (fun h25 => ?_) (fun h25 => ?_)
      · refine lv_iconst (v := 0) S.1 S.2.1 d_B_couldTrade_54 (by decide) ?_
        exact m_iret S hlk hr rfl hw (⟨(congrArg b2i (show ctd σ o = false from by unfold ctd; rw [decide_eq_false h25, Bool.false_and, Bool.false_and])).symm, rfl⟩) (Nat.le_refl _) (Nat.le_refl _) d_B_couldTrade_55
      · refine lv_aload_n S.1 S.2.1 d_B_couldTrade_28 rfl (lv_at hl 1 rfl) ?_
        refine m_get S hw cl_B hC.book 7 (by decide) g152 (fun _ h => h) rfl d_B_couldTrade_29 ?_
        refine lv_if_ne (tgt := 54) S.1 S.2.1 d_B_couldTrade_32 rfl (fun h32 => ?_) (fun h32 => ?_)
        · refine lv_iconst (v := 0) S.1 S.2.1 d_B_couldTrade_54 (by decide) ?_
          exact m_iret S hlk hr rfl hw (⟨(congrArg b2i (show ctd σ o = false from by unfold ctd; rw [decide_eq_false h32, Bool.and_false, Bool.false_and])).symm, rfl⟩) (Nat.le_refl _) (Nat.le_refl _) d_B_couldTrade_55
        · refine lv_aload_nN S.1 S.2.1 d_B_couldTrade_35 rfl (lv_at hl 0 rfl) ?_
          refine lv_ifnullN S.1 S.2.1 d_B_couldTrade_36 rfl ?_
          refine lv_iconst (v := 0) S.1 S.2.1 d_B_couldTrade_54 (by decide) ?_
          exact m_iret S hlk hr rfl hw (⟨(congrArg b2i (show ctd σ o = false from by unfold ctd; rw [hh]; exact Bool.and_false _)).symm, rfl⟩) (Nat.le_refl _) (Nat.le_refl _) d_B_couldTrade_55
    · rw [hh] at hres
      subst hres
      refine W.eq (g2 := F0 m 19 ls [.ref (oa r1)]) rfl ?_
      obtain ⟨hr1, -, -⟩ := fst_on hI.b hL (opp_or _) hh
      refine lv_astore_n S.1 S.2.1 d_B_couldTrade_19 rfl hl (by decide) rfl (fun ls hl => ?_)
      have hl : lv_has ls 3 [(2, .ref (oa r1)), (0, .ref (bx β)), (1, .ref (oa o))] := hl
      refine lv_aload_n S.1 S.2.1 d_B_couldTrade_20 rfl (lv_at hl 1 rfl) ?_
      refine m_get S hw cl_B hC.book 5 (by decide) g150 (fun _ h => h) rfl d_B_couldTrade_21 ?_
      refine lv_iconst (v := 1) S.1 S.2.1 d_B_couldTrade_24 (by decide) ?_
      refine lv_icmp_ne (tgt := 54) S.1 S.2.1 d_B_couldTrade_25 rfl (fun h25 => ?_) (fun h25 => ?_)
      · refine lv_iconst (v := 0) S.1 S.2.1 d_B_couldTrade_54 (by decide) ?_
        exact m_iret S hlk hr rfl hw (⟨(congrArg b2i (show ctd σ o = false from by unfold ctd; rw [decide_eq_false h25, Bool.false_and, Bool.false_and])).symm, rfl⟩) (Nat.le_refl _) (Nat.le_refl _) d_B_couldTrade_55
      · refine lv_aload_n S.1 S.2.1 d_B_couldTrade_28 rfl (lv_at hl 1 rfl) ?_
        refine m_get S hw cl_B hC.book 7 (by decide) g152 (fun _ h => h) rfl d_B_couldTrade_29 ?_
        refine lv_if_ne (tgt := 54) S.1 S.2.1 d_B_couldTrade_32 rfl (fun h32 => ?_) (fun h32 => ?_)
        · refine lv_iconst (v := 0) S.1 S.2.1 d_B_couldTrade_54 (by decide) ?_
          exact m_iret S hlk hr rfl hw (⟨(congrArg b2i (show ctd σ o = false from by unfold ctd; rw [decide_eq_false h32, Bool.and_false, Bool.false_and])).symm, rfl⟩) (Nat.le_refl _) (Nat.le_refl _) d_B_couldTrade_55
        · refine lv_aload_n S.1 S.2.1 d_B_couldTrade_35 rfl (lv_at hl 0 rfl) ?_
          refine lv_ifnull S.1 S.2.1 d_B_couldTrade_36 ?_
          refine lv_aload_n S.1 S.2.1 d_B_couldTrade_39 rfl (lv_at hl 2 rfl) ?_
          refine lv_aload_n S.1 S.2.1 d_B_couldTrade_40 rfl (lv_at hl 0 rfl) ?_
          refine m_get S hw cl_O (hC.ord r1 hr1) 5 (by decide) g395 (fun _ h => h) rfl d_B_couldTrade_41 ?_
          refine m_ci hw (va_runV (As := [.int ((sI σ) 2 r1)]) (rest := []) S (c_O_takes l γ M (oa o) _ _ _ _ _ _ _ _ _ _ hOo (sI σ 2 r1)) (m_cwV 1 S g262 g263 g264 g54 g265 rfl rfl ⟨by decide +kernel, by decide +kernel, by decide +kernel⟩ ⟨(Nat.le_of_ble_eq_true rfl), (Nat.le_of_ble_eq_true rfl)⟩) (hw.preV hOo cl_O.1) rfl rfl hl.1 rfl (lv_room (Nat.le_of_ble_eq_true rfl)) d_B_couldTrade_44 ⟨(Nat.zero_le _), (Nat.zero_le _)⟩) (fun r1 M1 H locs hp hw => ?_)
          obtain ⟨rfl, hM1⟩ := hp
          rw [hM1] at hw
          refine W.eq (g2 := F0 m 47 ls [.int (b2i (tk (sI σ) o (sI σ 2 r1)))]) rfl ?_
          refine lv_if_eq (tgt := 54) S.1 S.2.1 d_B_couldTrade_47 rfl (fun h47 => ?_) (fun h47 => ?_)
          · refine lv_iconst (v := 0) S.1 S.2.1 d_B_couldTrade_54 (by decide) ?_
            exact m_iret S hlk hr rfl hw (⟨(congrArg b2i (show ctd σ o = false from by unfold ctd; rw [hh]; show (_ && tk (sI σ) o (sI σ 2 r1)) = false; rw [b2i_0.mp h47, Bool.and_false])).symm, rfl⟩) (Nat.le_refl _) (Nat.le_refl _) d_B_couldTrade_55
          · refine lv_iconst (v := 1) S.1 S.2.1 d_B_couldTrade_50 (by decide) ?_
            refine lv_goto (tgt := 55) S.1 S.2.1 d_B_couldTrade_51 rfl ?_
            exact m_iret S hlk hr rfl hw (⟨(congrArg b2i (show ctd σ o = true from by unfold ctd; rw [decide_eq_true h25, decide_eq_true h32, hh]; exact b2i_n0.mp h47)).symm, rfl⟩) (Nat.le_refl _) (Nat.le_refl _) d_B_couldTrade_55
  refine lv_if_ne (tgt := 12) S.1 S.2.1 d_B_couldTrade_5 rfl (fun h5 => ?_) (fun h5 => ?_)
  · refine lv_iconst (v := 0) S.1 S.2.1 d_B_couldTrade_12 (by decide) ?_
    refine W.eq (g2 := F0 m 13 ls [.int (opp (sI σ 1 o)), .ref (bx β)]) (congrArg (fun z => F0 m 13 ls [.int z, .ref (bx β)]) (show (0 : Int32) = opp (sI σ 1 o) from (if_neg h5).symm)) ?_
    exact cont _ _ ls hl hw
  · refine lv_iconst (v := 1) S.1 S.2.1 d_B_couldTrade_8 (by decide) ?_
    refine lv_goto (tgt := 13) S.1 S.2.1 d_B_couldTrade_9 rfl ?_
    refine W.eq (g2 := F0 m 13 ls [.int (opp (sI σ 1 o)), .ref (bx β)]) (congrArg (fun z => F0 m 13 ls [.int z, .ref (bx β)]) (show (1 : Int32) = opp (sI σ 1 o) from (if_pos h5).symm)) ?_
    exact cont _ _ ls hl hw
set_option maxHeartbeats 4000000 in
set_option maxRecDepth 100000 in
theorem c_B_astrayInLine (l : Launch) (γ : mG) (M : mMap) (β : BK) (oa cp : Nat → Nat) (L : Nat → List Nat) (σ : St) (hC : CB γ M β oa cp L σ) (hI : Inv0 σ) (hL : LN σ L) (hX : NX σ) (b0 : Int32) (hb0 : b0 = 0 ∨ b0 = 1) : Met l y_B_astrayInLine w_B_astrayInLine ({ frames := 5, cells := 0, slots := 0, locals := 106 } : Room) (mPc γ M [.ref (bx β), .int b0]) (mQi γ (fun r M' => r = 0 ∧ M' = M)) 0 0 (mA (gz γ)) := by
  refine m_enter (by decide) (Nat.le_of_ble_eq_true rfl) ?_
  intro p e s m below meth c ls S hr hlk hnm hl hw
  have hl : lv_has ls 7 [(0, .ref (bx β)), (1, .int b0)] := hl
  obtain ⟨r0, hA0⟩ := hC.list (sj_or b0)
  obtain ⟨⟨md0, hl0⟩, -⟩ := id hA0
  have hLj : Line (sI σ) (sn σ) b0 (L (sj b0)) := sj_val hb0 hL
  have hml : ((L (sj b0)).map oa).length = (L (sj b0)).length := List.length_map _
  have hlen : (L (sj b0)).length ≤ 250 := hLj.len hI.1
  refine lv_aload_n S.1 S.2.1 d_B_astrayInLine_0 rfl (lv_at hl 0 rfl) ?_
  refine lv_iload_n S.1 S.2.1 d_B_astrayInLine_1 rfl (lv_at hl 1 rfl) ?_
  refine m_cq hw (va_runV (As := [.int b0]) (rest := []) S (c_B_side l γ M β σ.2.1 hC.book b0) (m_cwV 1 S g181 g183 g0 g41 g184 rfl rfl ⟨by decide +kernel, by decide +kernel, by decide +kernel⟩ ⟨(Nat.le_of_ble_eq_true rfl), (Nat.le_of_ble_eq_true rfl)⟩) (hw.preV hC.book cl_B.1) rfl rfl hl.1 rfl (lv_room (Nat.le_of_ble_eq_true rfl)) d_B_astrayInLine_2 ⟨(Nat.zero_le _), (Nat.zero_le _)⟩) (fun r1 M1 H locs hp hw => ?_)
  obtain ⟨rfl, hM1⟩ := hp
  rw [hM1] at hw
  refine m_get S hw cl_S (hC.side (sj_or _)) 0 (by decide) g105 (fun _ h => h) rfl d_B_astrayInLine_5 ?_
  refine lv_astore_n S.1 S.2.1 d_B_astrayInLine_8 rfl hl (by decide) rfl (fun ls hl => ?_)
  have hl : lv_has ls 7 [(2, .ref (bal β (sj b0))), (0, .ref (bx β)), (1, .int b0)] := hl
  refine lv_iconst (v := 0) S.1 S.2.1 d_B_astrayInLine_9 (by decide) ?_
  refine lv_istore_n S.1 S.2.1 d_B_astrayInLine_10 rfl hl (by decide) rfl (fun ls hl => ?_)
  have hl : lv_has ls 7 [(3, .int 0), (2, .ref (bal β (sj b0))), (0, .ref (bx β)), (1, .int b0)] := hl
  refine lv_iconst (v := 0) S.1 S.2.1 d_B_astrayInLine_11 (by decide) ?_
  refine lv_istore S.1 S.2.1 d_B_astrayInLine_12 hl (by decide) rfl (fun ls hl => ?_)
  have hl : lv_has ls 7 [(4, .int 0), (3, .int 0), (2, .ref (bal β (sj b0))), (0, .ref (bx β)), (1, .int b0)] := hl
  have loop : ∀ (d i0 : Nat) (H : Heap) (locs : List Loc) (ls : Array Slot), i0 + d = (L (sj b0)).length → lv_has ls 7 [(4, .int (nI i0)), (3, .int 0), (2, .ref (bal β (sj b0))), (0, .ref (bx β)), (1, .int b0)] → mW γ M s H locs → W p l e ({ frames := 5, cells := 0, slots := 0, locals := 106 } : Room) s m #[.ref (bx β), .int b0] below meth c H locs 0 0 (MQ below (mQi γ (fun r M' => r = 0 ∧ M' = M)) #[.ref (bx β), .int b0] s 0 0 (mA (gz γ))) (F0 m 14 ls []) := by
    intro d
    induction d with
    | zero =>
      intro i0 H locs ls hi hl hw
      refine lv_iload S.1 S.2.1 d_B_astrayInLine_14 (lv_at hl 0 rfl) ?_
      refine lv_aload_n S.1 S.2.1 d_B_astrayInLine_16 rfl (lv_at hl 2 rfl) ?_
      refine m_ci hw (va_runV (As := []) (rest := [.int (nI i0)]) S (c_AL_size l γ M (bal β (sj b0)) md0 _ _ hl0) (m_cwV 0 S g185 g186 g187 g44 g188 rfl rfl ⟨by decide +kernel, by decide +kernel, by decide +kernel⟩ ⟨(Nat.le_of_ble_eq_true rfl), (Nat.le_of_ble_eq_true rfl)⟩) (hw.preV hl0 cl_AL.1) rfl rfl hl.1 rfl (lv_room (Nat.le_of_ble_eq_true rfl)) d_B_astrayInLine_17 ⟨(Nat.zero_le _), (Nat.zero_le _)⟩) (fun r1 M1 H locs hp hw => ?_)
      obtain ⟨rfl, hM1⟩ := hp
      rw [hM1] at hw
      refine lv_icmp_ge (tgt := 105) S.1 S.2.1 d_B_astrayInLine_20 rfl (fun _ => ?_) (fun h => absurd (nI_le (by omega) (by omega)) h)
      refine lv_iload_n S.1 S.2.1 d_B_astrayInLine_105 rfl (lv_at hl 1 rfl) ?_
      exact m_iret S hlk hr rfl hw (⟨rfl, rfl⟩) (Nat.le_refl _) (Nat.le_refl _) d_B_astrayInLine_106
    | succ d ih =>
      intro i0 H locs ls hi hl hw
      have hbd : i0 < (L (sj b0)).length := by omega
      have hm := (hLj.1 (L (sj b0))[i0]).mp (List.getElem_mem hbd)
      have hon := onS_iff.mp hm.2
      have hwr := wrg_no (hI.2.2.1 _ hm.1).1 hon.1 (hI.2.2.2.2 _ hm.1 hon.1)
      have hct := ctd_no hI.b hL hX hm.1 hon.1
      refine lv_iload S.1 S.2.1 d_B_astrayInLine_14 (lv_at hl 0 rfl) ?_
      refine lv_aload_n S.1 S.2.1 d_B_astrayInLine_16 rfl (lv_at hl 2 rfl) ?_
      refine m_ci hw (va_runV (As := []) (rest := [.int (nI i0)]) S (c_AL_size l γ M (bal β (sj b0)) md0 _ _ hl0) (m_cwV 0 S g185 g186 g187 g44 g188 rfl rfl ⟨by decide +kernel, by decide +kernel, by decide +kernel⟩ ⟨(Nat.le_of_ble_eq_true rfl), (Nat.le_of_ble_eq_true rfl)⟩) (hw.preV hl0 cl_AL.1) rfl rfl hl.1 rfl (lv_room (Nat.le_of_ble_eq_true rfl)) d_B_astrayInLine_17 ⟨(Nat.zero_le _), (Nat.zero_le _)⟩) (fun r1 M1 H locs hp hw => ?_)
      obtain ⟨rfl, hM1⟩ := hp
      rw [hM1] at hw
      refine lv_icmp_ge (tgt := 105) S.1 S.2.1 d_B_astrayInLine_20 rfl (fun h => absurd h (nI_ge (by omega) (by omega))) (fun _ => ?_)
      refine lv_aload_n S.1 S.2.1 d_B_astrayInLine_23 rfl (lv_at hl 2 rfl) ?_
      refine lv_iload S.1 S.2.1 d_B_astrayInLine_24 (lv_at hl 0 rfl) ?_
      refine m_cq hw (va_runV (As := [.int (nI i0)]) (rest := []) S (c_AL_get l γ M (bal β (sj b0)) r0 (cp (sj b0)) ((L (sj b0)).map oa) hA0 i0 (by omega)) (m_cwV 1 S g189 g190 g191 g44 g192 rfl rfl ⟨by decide +kernel, by decide +kernel, by decide +kernel⟩ ⟨(Nat.le_of_ble_eq_true rfl), (Nat.le_of_ble_eq_true rfl)⟩) (hw.preV hl0 cl_AL.1) rfl rfl hl.1 rfl (lv_room (Nat.le_of_ble_eq_true rfl)) d_B_astrayInLine_26 ⟨(Nat.zero_le _), (Nat.zero_le _)⟩) (fun r1 M1 H locs hp hw => ?_)
      obtain ⟨rfl, hM1⟩ := hp
      rw [hM1] at hw
      have hge := map_at (oa := oa) hbd
      refine W.eq (g2 := F0 m 29 ls [.ref (oa (L (sj b0))[i0])]) (by rw [hge]; rfl) ?_
      refine m_cast S hw cl_O (hC.ord _ hm.1) g203 d_B_astrayInLine_29 ?_
      refine lv_astore S.1 S.2.1 d_B_astrayInLine_32 hl (by decide) rfl (fun ls hl => ?_)
      have hl : lv_has ls 7 [(5, .ref (oa (L (sj b0))[i0])), (4, .int (nI i0)), (3, .int 0), (2, .ref (bal β (sj b0))), (0, .ref (bx β)), (1, .int b0)] := hl
      refine lv_aload S.1 S.2.1 d_B_astrayInLine_34 (lv_at hl 0 rfl) ?_
      refine m_get S hw cl_O (hC.ord _ hm.1) 2 (by decide) g389 (fun _ h => h) rfl d_B_astrayInLine_36 ?_
      refine lv_iload_n S.1 S.2.1 d_B_astrayInLine_39 rfl (lv_at hl 5 rfl) ?_
      refine lv_icmp_ne (tgt := 67) S.1 S.2.1 d_B_astrayInLine_40 rfl (fun h => absurd hon.2 h) (fun _ => ?_)
      refine lv_iload S.1 S.2.1 d_B_astrayInLine_43 (lv_at hl 1 rfl) ?_
      refine lv_if_le (tgt := 71) S.1 S.2.1 d_B_astrayInLine_45 rfl (fun h45 => ?_) (fun h45 => ?_)
      · refine lv_iconst (v := 0) S.1 S.2.1 d_B_astrayInLine_71 (by decide) ?_
        refine lv_istore S.1 S.2.1 d_B_astrayInLine_72 hl (by decide) rfl (fun ls hl => ?_)
        have hl : lv_has ls 7 [(6, .int 0), (5, .ref (oa (L (sj b0))[i0])), (4, .int (nI i0)), (3, .int 0), (2, .ref (bal β (sj b0))), (0, .ref (bx β)), (1, .int b0)] := hl
        refine lv_iload S.1 S.2.1 d_B_astrayInLine_74 (lv_at hl 0 rfl) ?_
        refine lv_if_ne (tgt := 96) S.1 S.2.1 d_B_astrayInLine_76 rfl (fun h => absurd (show (0 : Int32) = 0 from rfl) h) (fun _ => ?_)
        refine lv_aload S.1 S.2.1 d_B_astrayInLine_79 (lv_at hl 1 rfl) ?_
        refine m_ci hw (va_runV (As := []) (rest := []) S (c_O_isWrongAtRest l γ M (oa (L (sj b0))[i0]) _ _ _ _ _ _ _ _ _ _ (hC.ord _ hm.1)) (m_cwV 0 S g232 g233 g234 g54 g235 rfl rfl ⟨by decide +kernel, by decide +kernel, by decide +kernel⟩ ⟨(Nat.le_of_ble_eq_true rfl), (Nat.le_of_ble_eq_true rfl)⟩) (hw.preV (hC.ord _ hm.1) cl_O.1) rfl rfl hl.1 rfl (lv_room (Nat.le_of_ble_eq_true rfl)) d_B_astrayInLine_81 ⟨(Nat.zero_le _), (Nat.zero_le _)⟩) (fun r1 M1 H locs hp hw => ?_)
        obtain ⟨rfl, hM1⟩ := hp
        rw [hM1] at hw
        refine W.eq (g2 := F0 m 84 ls [.int (b2i (wrg (sI σ) (L (sj b0))[i0]))]) rfl ?_
        refine lv_if_ne (tgt := 96) S.1 S.2.1 d_B_astrayInLine_84 rfl (fun h => absurd (b2i_0.mpr hwr) h) (fun _ => ?_)
        refine lv_aload_n S.1 S.2.1 d_B_astrayInLine_87 rfl (lv_at hl 5 rfl) ?_
        refine lv_aload S.1 S.2.1 d_B_astrayInLine_88 (lv_at hl 1 rfl) ?_
        refine m_ci hw (va_runV (As := [.ref (oa (L (sj b0))[i0])]) (rest := []) S (c_B_couldTrade l γ M β oa cp L σ hC hI hL (L (sj b0))[i0] hm.1) (m_cwV 1 S g248 g250 g2 g41 g251 rfl rfl ⟨by decide +kernel, by decide +kernel, by decide +kernel⟩ ⟨(Nat.le_of_ble_eq_true rfl), (Nat.le_of_ble_eq_true rfl)⟩) (hw.preV hC.book cl_B.1) rfl rfl hl.1 rfl (lv_room (Nat.le_of_ble_eq_true rfl)) d_B_astrayInLine_90 ⟨(Nat.zero_le _), (Nat.zero_le _)⟩) (fun r1 M1 H locs hp hw => ?_)
        obtain ⟨rfl, hM1⟩ := hp
        rw [hM1] at hw
        refine lv_if_eq (tgt := 99) S.1 S.2.1 d_B_astrayInLine_93 rfl (fun _ => ?_) (fun h => absurd (b2i_0.mpr hct) h)
        refine lv_iinc (k := 2) (v := nI (i0 + 1)) S.1 S.2.1 d_B_astrayInLine_99 hl rfl (nI_1 i0) (by decide) rfl (fun ls hl => ?_)
        have hl : lv_has ls 7 [(4, .int (nI (i0 + 1))), (6, .int 0), (5, .ref (oa (L (sj b0))[i0])), (3, .int 0), (2, .ref (bal β (sj b0))), (0, .ref (bx β)), (1, .int b0)] := hl
        refine lv_goto (tgt := 14) S.1 S.2.1 d_B_astrayInLine_102 rfl ?_
        have hl := lv_sub hl [0, 3, 4, 5, 6] rfl
        exact ih (i0 + 1) H locs ls (by omega) hl hw
      · have hi0 : 0 < i0 := Nat.pos_of_ne_zero (fun z => h45 (by rw [z]; decide +kernel))
        obtain ⟨i1, hi1⟩ : ∃ z, i0 = z + 1 := ⟨i0 - 1, by omega⟩
        have hb1 : i1 < (L (sj b0)).length := by omega
        have hm1 := (hLj.1 (L (sj b0))[i1]).mp (List.getElem_mem hb1)
        have hsb : sb (sI σ) (L (sj b0))[i1] (L (sj b0))[i0] = true := by rw [sb_bf (hI.2.1.1 _ hm1.1).1 (hI.2.1.1 _ hm.1).1]; exact (List.pairwise_iff_getElem.mp hLj.2) i1 i0 hb1 hbd (by omega)
        refine lv_aload_n S.1 S.2.1 d_B_astrayInLine_48 rfl (lv_at hl 3 rfl) ?_
        refine lv_iload S.1 S.2.1 d_B_astrayInLine_49 (lv_at hl 1 rfl) ?_
        refine lv_iconst (v := 1) S.1 S.2.1 d_B_astrayInLine_51 (by decide) ?_
        refine lv_isub S.1 S.2.1 d_B_astrayInLine_52 ?_
        refine W.eq (g2 := F0 m 53 ls [.int (nI i1), .ref (bal β (sj b0))]) (congrArg (fun z => F0 m 53 ls [.int z, .ref (bal β (sj b0))]) (show nI i0 - 1 = nI i1 by rw [hi1]; exact nI_pred i1)) ?_
        refine m_cq hw (va_runV (As := [.int (nI i1)]) (rest := []) S (c_AL_get l γ M (bal β (sj b0)) r0 (cp (sj b0)) ((L (sj b0)).map oa) hA0 i1 (by omega)) (m_cwV 1 S g189 g190 g191 g44 g192 rfl rfl ⟨by decide +kernel, by decide +kernel, by decide +kernel⟩ ⟨(Nat.le_of_ble_eq_true rfl), (Nat.le_of_ble_eq_true rfl)⟩) (hw.preV hl0 cl_AL.1) rfl rfl hl.1 rfl (lv_room (Nat.le_of_ble_eq_true rfl)) d_B_astrayInLine_53 ⟨(Nat.zero_le _), (Nat.zero_le _)⟩) (fun r1 M1 H locs hp hw => ?_)
        obtain ⟨rfl, hM1⟩ := hp
        rw [hM1] at hw
        have hge := map_at (oa := oa) hb1
        refine W.eq (g2 := F0 m 56 ls [.ref (oa (L (sj b0))[i1])]) (by rw [hge]; rfl) ?_
        refine m_cast S hw cl_O (hC.ord _ hm1.1) g203 d_B_astrayInLine_56 ?_
        refine lv_aload S.1 S.2.1 d_B_astrayInLine_59 (lv_at hl 0 rfl) ?_
        refine m_ci hw (va_runV (As := [.ref (oa (L (sj b0))[i0])]) (rest := []) S (c_O_standsBefore l γ M (oa (L (sj b0))[i1]) _ _ _ _ _ _ _ _ _ _ (hC.ord _ hm1.1) (oa (L (sj b0))[i0]) _ _ _ _ _ _ _ _ _ _ (hC.ord _ hm.1)) (m_cwV 1 S g228 g229 g230 g54 g231 rfl rfl ⟨by decide +kernel, by decide +kernel, by decide +kernel⟩ ⟨(Nat.le_of_ble_eq_true rfl), (Nat.le_of_ble_eq_true rfl)⟩) (hw.preV (hC.ord _ hm1.1) cl_O.1) rfl rfl hl.1 rfl (lv_room (Nat.le_of_ble_eq_true rfl)) d_B_astrayInLine_61 ⟨(Nat.zero_le _), (Nat.zero_le _)⟩) (fun r1 M1 H locs hp hw => ?_)
        obtain ⟨rfl, hM1⟩ := hp
        rw [hM1] at hw
        refine W.eq (g2 := F0 m 64 ls [.int (b2i (sb (sI σ) (L (sj b0))[i1] (L (sj b0))[i0]))]) rfl ?_
        refine lv_if_ne (tgt := 71) S.1 S.2.1 d_B_astrayInLine_64 rfl (fun _ => ?_) (fun h => absurd h (b2i_n0.mpr hsb))
        refine lv_iconst (v := 0) S.1 S.2.1 d_B_astrayInLine_71 (by decide) ?_
        refine lv_istore S.1 S.2.1 d_B_astrayInLine_72 hl (by decide) rfl (fun ls hl => ?_)
        have hl : lv_has ls 7 [(6, .int 0), (5, .ref (oa (L (sj b0))[i0])), (4, .int (nI i0)), (3, .int 0), (2, .ref (bal β (sj b0))), (0, .ref (bx β)), (1, .int b0)] := hl
        refine lv_iload S.1 S.2.1 d_B_astrayInLine_74 (lv_at hl 0 rfl) ?_
        refine lv_if_ne (tgt := 96) S.1 S.2.1 d_B_astrayInLine_76 rfl (fun h => absurd (show (0 : Int32) = 0 from rfl) h) (fun _ => ?_)
        refine lv_aload S.1 S.2.1 d_B_astrayInLine_79 (lv_at hl 1 rfl) ?_
        refine m_ci hw (va_runV (As := []) (rest := []) S (c_O_isWrongAtRest l γ M (oa (L (sj b0))[i0]) _ _ _ _ _ _ _ _ _ _ (hC.ord _ hm.1)) (m_cwV 0 S g232 g233 g234 g54 g235 rfl rfl ⟨by decide +kernel, by decide +kernel, by decide +kernel⟩ ⟨(Nat.le_of_ble_eq_true rfl), (Nat.le_of_ble_eq_true rfl)⟩) (hw.preV (hC.ord _ hm.1) cl_O.1) rfl rfl hl.1 rfl (lv_room (Nat.le_of_ble_eq_true rfl)) d_B_astrayInLine_81 ⟨(Nat.zero_le _), (Nat.zero_le _)⟩) (fun r1 M1 H locs hp hw => ?_)
        obtain ⟨rfl, hM1⟩ := hp
        rw [hM1] at hw
        refine W.eq (g2 := F0 m 84 ls [.int (b2i (wrg (sI σ) (L (sj b0))[i0]))]) rfl ?_
        refine lv_if_ne (tgt := 96) S.1 S.2.1 d_B_astrayInLine_84 rfl (fun h => absurd (b2i_0.mpr hwr) h) (fun _ => ?_)
        refine lv_aload_n S.1 S.2.1 d_B_astrayInLine_87 rfl (lv_at hl 5 rfl) ?_
        refine lv_aload S.1 S.2.1 d_B_astrayInLine_88 (lv_at hl 1 rfl) ?_
        refine m_ci hw (va_runV (As := [.ref (oa (L (sj b0))[i0])]) (rest := []) S (c_B_couldTrade l γ M β oa cp L σ hC hI hL (L (sj b0))[i0] hm.1) (m_cwV 1 S g248 g250 g2 g41 g251 rfl rfl ⟨by decide +kernel, by decide +kernel, by decide +kernel⟩ ⟨(Nat.le_of_ble_eq_true rfl), (Nat.le_of_ble_eq_true rfl)⟩) (hw.preV hC.book cl_B.1) rfl rfl hl.1 rfl (lv_room (Nat.le_of_ble_eq_true rfl)) d_B_astrayInLine_90 ⟨(Nat.zero_le _), (Nat.zero_le _)⟩) (fun r1 M1 H locs hp hw => ?_)
        obtain ⟨rfl, hM1⟩ := hp
        rw [hM1] at hw
        refine lv_if_eq (tgt := 99) S.1 S.2.1 d_B_astrayInLine_93 rfl (fun _ => ?_) (fun h => absurd (b2i_0.mpr hct) h)
        refine lv_iinc (k := 2) (v := nI (i0 + 1)) S.1 S.2.1 d_B_astrayInLine_99 hl rfl (nI_1 i0) (by decide) rfl (fun ls hl => ?_)
        have hl : lv_has ls 7 [(4, .int (nI (i0 + 1))), (6, .int 0), (5, .ref (oa (L (sj b0))[i0])), (3, .int 0), (2, .ref (bal β (sj b0))), (0, .ref (bx β)), (1, .int b0)] := hl
        refine lv_goto (tgt := 14) S.1 S.2.1 d_B_astrayInLine_102 rfl ?_
        have hl := lv_sub hl [0, 3, 4, 5, 6] rfl
        exact ih (i0 + 1) H locs ls (by omega) hl hw
  have hl := lv_sub hl [0, 1, 2, 3, 4] rfl
  exact loop _ 0 H locs ls (Nat.zero_add _) hl hw
set_option maxHeartbeats 4000000 in
set_option maxRecDepth 100000 in
theorem c_B_astrayOutOfLine (l : Launch) (γ : mG) (M : mMap) (β : BK) (oa cp : Nat → Nat) (L : Nat → List Nat) (σ : St) (hC : CB γ M β oa cp L σ) (hI : Inv0 σ) (hL : LN σ L) (hZ : NZ σ) : Met l y_B_astrayOutOfLine w_B_astrayOutOfLine ({ frames := 3, cells := 0, slots := 0, locals := 64 } : Room) (mPc γ M [.ref (bx β)]) (mQi γ (fun r M' => r = 0 ∧ M' = M)) 0 0 (mA (gz γ)) := by
  refine m_enter (by decide) (Nat.le_of_ble_eq_true rfl) ?_
  intro p e s m below meth c ls S hr hlk hnm hl hw
  have hl : lv_has ls 5 [(0, .ref (bx β))] := hl
  obtain ⟨r0, hA0⟩ := hC.alls
  obtain ⟨⟨md0, hl0⟩, -⟩ := id hA0
  obtain ⟨r1, hA1⟩ := hC.list (j := 1) (Or.inl rfl)
  obtain ⟨⟨md1, hl1⟩, -⟩ := id hA1
  obtain ⟨r2, hA2⟩ := hC.list (j := 2) (Or.inr rfl)
  obtain ⟨⟨md2, hl2⟩, -⟩ := id hA2
  have hml : ((List.range (sn σ)).map oa).length = sn σ := rg_len
  have hn := hI.1
  refine lv_iconst (v := 0) S.1 S.2.1 d_B_astrayOutOfLine_0 (by decide) ?_
  refine lv_istore_n S.1 S.2.1 d_B_astrayOutOfLine_1 rfl hl (by decide) rfl (fun ls hl => ?_)
  have hl : lv_has ls 5 [(1, .int 0), (0, .ref (bx β))] := hl
  refine lv_iconst (v := 0) S.1 S.2.1 d_B_astrayOutOfLine_2 (by decide) ?_
  refine lv_istore_n S.1 S.2.1 d_B_astrayOutOfLine_3 rfl hl (by decide) rfl (fun ls hl => ?_)
  have hl : lv_has ls 5 [(2, .int 0), (1, .int 0), (0, .ref (bx β))] := hl
  refine lv_iconst (v := 0) S.1 S.2.1 d_B_astrayOutOfLine_4 (by decide) ?_
  refine lv_istore_n S.1 S.2.1 d_B_astrayOutOfLine_5 rfl hl (by decide) rfl (fun ls hl => ?_)
  have hl : lv_has ls 5 [(3, .int 0), (2, .int 0), (1, .int 0), (0, .ref (bx β))] := hl
  have loop : ∀ (d i0 : Nat) (H : Heap) (locs : List Loc) (ls : Array Slot), i0 + d = sn σ → lv_has ls 5 [(3, .int (nI i0)), (2, .int (nI (cnt (sI σ) i0))), (1, .int 0), (0, .ref (bx β))] → mW γ M s H locs → W p l e ({ frames := 3, cells := 0, slots := 0, locals := 64 } : Room) s m #[.ref (bx β)] below meth c H locs 0 0 (MQ below (mQi γ (fun r M' => r = 0 ∧ M' = M)) #[.ref (bx β)] s 0 0 (mA (gz γ))) (F0 m 6 ls []) := by
    intro d
    induction d with
    | zero =>
      intro i0 H locs ls hi hl hw
      have hi2 : i0 = sn σ := by omega
      refine lv_iload_n S.1 S.2.1 d_B_astrayOutOfLine_6 rfl (lv_at hl 0 rfl) ?_
      refine lv_aload_n S.1 S.2.1 d_B_astrayOutOfLine_7 rfl (lv_at hl 3 rfl) ?_
      refine m_get S hw cl_B hC.book 0 (by decide) g145 (fun _ h => h) rfl d_B_astrayOutOfLine_8 ?_
      refine m_ci hw (va_runV (As := []) (rest := [.int (nI i0)]) S (c_AL_size l γ M (bal β 0) md0 _ _ hl0) (m_cwV 0 S g185 g186 g187 g44 g188 rfl rfl ⟨by decide +kernel, by decide +kernel, by decide +kernel⟩ ⟨(Nat.le_of_ble_eq_true rfl), (Nat.le_of_ble_eq_true rfl)⟩) (hw.preV hl0 cl_AL.1) rfl rfl hl.1 rfl (lv_room (Nat.le_of_ble_eq_true rfl)) d_B_astrayOutOfLine_11 ⟨(Nat.zero_le _), (Nat.zero_le _)⟩) (fun r1 M1 H locs hp hw => ?_)
      obtain ⟨rfl, hM1⟩ := hp
      rw [hM1] at hw
      refine lv_icmp_ge (tgt := 69) S.1 S.2.1 d_B_astrayOutOfLine_14 rfl (fun _ => ?_) (fun h => absurd (nI_le (by omega) (by omega)) h)
      refine lv_iload_n S.1 S.2.1 d_B_astrayOutOfLine_69 rfl (lv_at hl 2 rfl) ?_
      refine lv_iload_n S.1 S.2.1 d_B_astrayOutOfLine_70 rfl (lv_at hl 1 rfl) ?_
      refine lv_aload_n S.1 S.2.1 d_B_astrayOutOfLine_71 rfl (lv_at hl 3 rfl) ?_
      refine m_get S hw cl_B hC.book 1 (by decide) g146 (fun _ h => h) rfl d_B_astrayOutOfLine_72 ?_
      refine m_get S hw cl_S (hC.side (Or.inl rfl)) 0 (by decide) g105 (fun _ h => h) rfl d_B_astrayOutOfLine_75 ?_
      refine m_ci hw (va_runV (As := []) (rest := [.int (nI (cnt (sI σ) i0)), .int 0]) S (c_AL_size l γ M (bal β 1) md1 _ _ hl1) (m_cwV 0 S g185 g186 g187 g44 g188 rfl rfl ⟨by decide +kernel, by decide +kernel, by decide +kernel⟩ ⟨(Nat.le_of_ble_eq_true rfl), (Nat.le_of_ble_eq_true rfl)⟩) (hw.preV hl1 cl_AL.1) rfl rfl hl.1 rfl (lv_room (Nat.le_of_ble_eq_true rfl)) d_B_astrayOutOfLine_78 ⟨(Nat.zero_le _), (Nat.zero_le _)⟩) (fun r1 M1 H locs hp hw => ?_)
      obtain ⟨rfl, hM1⟩ := hp
      rw [hM1] at hw
      refine lv_isub S.1 S.2.1 d_B_astrayOutOfLine_81 ?_
      refine lv_aload_n S.1 S.2.1 d_B_astrayOutOfLine_82 rfl (lv_at hl 3 rfl) ?_
      refine m_get S hw cl_B hC.book 2 (by decide) g147 (fun _ h => h) rfl d_B_astrayOutOfLine_83 ?_
      refine m_get S hw cl_S (hC.side (Or.inr rfl)) 0 (by decide) g105 (fun _ h => h) rfl d_B_astrayOutOfLine_86 ?_
      refine m_ci hw (va_runV (As := []) (rest := [.int ((nI (cnt (sI σ) i0)) - (nI ((L 1).map oa).length)), .int 0]) S (c_AL_size l γ M (bal β 2) md2 _ _ hl2) (m_cwV 0 S g185 g186 g187 g44 g188 rfl rfl ⟨by decide +kernel, by decide +kernel, by decide +kernel⟩ ⟨(Nat.le_of_ble_eq_true rfl), (Nat.le_of_ble_eq_true rfl)⟩) (hw.preV hl2 cl_AL.1) rfl rfl hl.1 rfl (lv_room (Nat.le_of_ble_eq_true rfl)) d_B_astrayOutOfLine_89 ⟨(Nat.zero_le _), (Nat.zero_le _)⟩) (fun r1 M1 H locs hp hw => ?_)
      obtain ⟨rfl, hM1⟩ := hp
      rw [hM1] at hw
      refine lv_isub S.1 S.2.1 d_B_astrayOutOfLine_92 ?_
      refine va_mabs S.1 S.2.1 (S.2.2.1.trans hl.1.symm) S.2.2.2.1 (S.2.2.2.2 _ (gc g271)) (S.2.2.2.2 _ (gc g272)) (S.2.2.2.2 _ (gc g56)) (S.2.2.2.2 _ (gc g273)) (Nat.le_of_ble_eq_true rfl) (Nat.le_of_ble_eq_true rfl) (Nat.zero_le _) (Nat.zero_le _) d_B_astrayOutOfLine_93 ?_
      have hz0 : nI (cnt (sI σ) i0) - nI ((L 1).map oa).length - nI ((L 2).map oa).length = 0 := nI_dif (by rw [hi2, List.length_map, List.length_map]; exact cnt_eq hI.b hL)
      refine W.eq (g2 := F0 m 96 ls [.int 0, .int 0]) (congrArg (fun z => F0 m 96 ls [.int z, .int 0]) (by rw [hz0]; rfl)) ?_
      refine lv_iadd S.1 S.2.1 d_B_astrayOutOfLine_96 ?_
      exact m_iret S hlk hr rfl hw (⟨rfl, rfl⟩) (Nat.le_refl _) (Nat.le_refl _) d_B_astrayOutOfLine_97
    | succ d ih =>
      intro i0 H locs ls hi hl hw
      have hbd : i0 < sn σ := by omega
      have hge := rg_at (f := oa) hbd
      refine lv_iload_n S.1 S.2.1 d_B_astrayOutOfLine_6 rfl (lv_at hl 0 rfl) ?_
      refine lv_aload_n S.1 S.2.1 d_B_astrayOutOfLine_7 rfl (lv_at hl 3 rfl) ?_
      refine m_get S hw cl_B hC.book 0 (by decide) g145 (fun _ h => h) rfl d_B_astrayOutOfLine_8 ?_
      refine m_ci hw (va_runV (As := []) (rest := [.int (nI i0)]) S (c_AL_size l γ M (bal β 0) md0 _ _ hl0) (m_cwV 0 S g185 g186 g187 g44 g188 rfl rfl ⟨by decide +kernel, by decide +kernel, by decide +kernel⟩ ⟨(Nat.le_of_ble_eq_true rfl), (Nat.le_of_ble_eq_true rfl)⟩) (hw.preV hl0 cl_AL.1) rfl rfl hl.1 rfl (lv_room (Nat.le_of_ble_eq_true rfl)) d_B_astrayOutOfLine_11 ⟨(Nat.zero_le _), (Nat.zero_le _)⟩) (fun r1 M1 H locs hp hw => ?_)
      obtain ⟨rfl, hM1⟩ := hp
      rw [hM1] at hw
      refine lv_icmp_ge (tgt := 69) S.1 S.2.1 d_B_astrayOutOfLine_14 rfl (fun h => absurd h (nI_ge (by omega) (by omega))) (fun _ => ?_)
      refine lv_aload_n S.1 S.2.1 d_B_astrayOutOfLine_17 rfl (lv_at hl 3 rfl) ?_
      refine m_get S hw cl_B hC.book 0 (by decide) g145 (fun _ h => h) rfl d_B_astrayOutOfLine_18 ?_
      refine lv_iload_n S.1 S.2.1 d_B_astrayOutOfLine_21 rfl (lv_at hl 0 rfl) ?_
      refine m_cq hw (va_runV (As := [.int (nI i0)]) (rest := []) S (c_AL_get l γ M (bal β 0) r0 (cp 0) ((List.range (sn σ)).map oa) hA0 i0 (by omega)) (m_cwV 1 S g189 g190 g191 g44 g192 rfl rfl ⟨by decide +kernel, by decide +kernel, by decide +kernel⟩ ⟨(Nat.le_of_ble_eq_true rfl), (Nat.le_of_ble_eq_true rfl)⟩) (hw.preV hl0 cl_AL.1) rfl rfl hl.1 rfl (lv_room (Nat.le_of_ble_eq_true rfl)) d_B_astrayOutOfLine_22 ⟨(Nat.zero_le _), (Nat.zero_le _)⟩) (fun r1 M1 H locs hp hw => ?_)
      obtain ⟨rfl, hM1⟩ := hp
      rw [hM1] at hw
      refine W.eq (g2 := F0 m 25 ls [.ref (oa i0)]) (by rw [hge]; rfl) ?_
      refine m_cast S hw cl_O (hC.ord i0 hbd) g203 d_B_astrayOutOfLine_25 ?_
      refine lv_astore S.1 S.2.1 d_B_astrayOutOfLine_28 hl (by decide) rfl (fun ls hl => ?_)
      have hl : lv_has ls 5 [(4, .ref (oa i0)), (3, .int (nI i0)), (2, .int (nI (cnt (sI σ) i0))), (1, .int 0), (0, .ref (bx β))] := hl
      refine lv_aload S.1 S.2.1 d_B_astrayOutOfLine_30 (lv_at hl 0 rfl) ?_
      refine m_ci hw (va_runV (As := []) (rest := []) S (c_O_rests l γ M (oa i0) _ _ _ _ _ _ _ _ _ _ (hC.ord i0 hbd)) (m_cwV 0 S g270 g244 g245 g54 g246 rfl rfl ⟨by decide +kernel, by decide +kernel, by decide +kernel⟩ ⟨(Nat.le_of_ble_eq_true rfl), (Nat.le_of_ble_eq_true rfl)⟩) (hw.preV (hC.ord i0 hbd) cl_O.1) rfl rfl hl.1 rfl (lv_room (Nat.le_of_ble_eq_true rfl)) d_B_astrayOutOfLine_32 ⟨(Nat.zero_le _), (Nat.zero_le _)⟩) (fun r1 M1 H locs hp hw => ?_)
      obtain ⟨rfl, hM1⟩ := hp
      rw [hM1] at hw
      refine lv_if_eq (tgt := 44) S.1 S.2.1 d_B_astrayOutOfLine_35 rfl (fun h35 => ?_) (fun h35 => ?_)
      · have hrs : rs (sI σ) i0 = false := by cases h9 : rs (sI σ) i0 with
          | false => rfl
          | true => exact absurd ((rs_ne hI.b hbd).mp h9) (of_decide_eq_false (b2i_0.mp h35))
        have hz := hZ i0 hbd hrs
        have hcn : cnt (sI σ) (i0 + 1) = cnt (sI σ) i0 := if_neg (by rw [hrs]; decide)
        rw [← hcn] at hl
        refine lv_aload S.1 S.2.1 d_B_astrayOutOfLine_44 (lv_at hl 0 rfl) ?_
        refine m_get S hw cl_O (hC.ord i0 hbd) 6 (by decide) g398 (fun _ h => h) rfl d_B_astrayOutOfLine_46 ?_
        refine lv_if_ne (tgt := 60) S.1 S.2.1 d_B_astrayOutOfLine_49 rfl (fun h => absurd hz.1 h) (fun _ => ?_)
        refine lv_aload S.1 S.2.1 d_B_astrayOutOfLine_52 (lv_at hl 0 rfl) ?_
        refine m_get S hw cl_O (hC.ord i0 hbd) 7 (by decide) g400 (fun _ h => h) rfl d_B_astrayOutOfLine_54 ?_
        refine lv_if_eq (tgt := 63) S.1 S.2.1 d_B_astrayOutOfLine_57 rfl (fun _ => ?_) (fun h => absurd hz.2 h)
        refine lv_iinc (k := 1) (v := nI (i0 + 1)) S.1 S.2.1 d_B_astrayOutOfLine_63 hl rfl (nI_1 i0) (by decide) rfl (fun ls hl => ?_)
        have hl : lv_has ls 5 [(3, .int (nI (i0 + 1))), (4, .ref (oa i0)), (2, .int (nI (cnt (sI σ) (i0 + 1)))), (1, .int 0), (0, .ref (bx β))] := hl
        refine lv_goto (tgt := 6) S.1 S.2.1 d_B_astrayOutOfLine_66 rfl ?_
        have hl := lv_sub hl [0, 2, 3, 4] rfl
        exact ih (i0 + 1) H locs ls (by omega) hl hw
      · have hrs : rs (sI σ) i0 = true := (rs_ne hI.b hbd).mpr (of_decide_eq_true (b2i_n0.mp h35))
        have hcn : cnt (sI σ) (i0 + 1) = cnt (sI σ) i0 + 1 := if_pos hrs
        refine lv_iinc (k := 2) (v := nI (cnt (sI σ) (i0 + 1))) S.1 S.2.1 d_B_astrayOutOfLine_38 hl rfl (by rw [hcn]; exact nI_1 _) (by decide) rfl (fun ls hl => ?_)
        have hl : lv_has ls 5 [(2, .int (nI (cnt (sI σ) (i0 + 1)))), (4, .ref (oa i0)), (3, .int (nI i0)), (1, .int 0), (0, .ref (bx β))] := hl
        refine lv_goto (tgt := 63) S.1 S.2.1 d_B_astrayOutOfLine_41 rfl ?_
        refine lv_iinc (k := 2) (v := nI (i0 + 1)) S.1 S.2.1 d_B_astrayOutOfLine_63 hl rfl (nI_1 i0) (by decide) rfl (fun ls hl => ?_)
        have hl : lv_has ls 5 [(3, .int (nI (i0 + 1))), (2, .int (nI (cnt (sI σ) (i0 + 1)))), (4, .ref (oa i0)), (1, .int 0), (0, .ref (bx β))] := hl
        refine lv_goto (tgt := 6) S.1 S.2.1 d_B_astrayOutOfLine_66 rfl ?_
        have hl := lv_sub hl [0, 1, 3, 4] rfl
        exact ih (i0 + 1) H locs ls (by omega) hl hw
  have hl := lv_sub hl [0, 1, 2, 3] rfl
  exact loop _ 0 _ _ ls (Nat.zero_add _) hl hw
set_option maxHeartbeats 4000000 in
set_option maxRecDepth 100000 in
theorem c_B_astray (l : Launch) (γ : mG) (M : mMap) (β : BK) (oa cp : Nat → Nat) (L : Nat → List Nat) (σ : St) (hC : CB γ M β oa cp L σ) (hI : Inv0 σ) (hL : LN σ L) (hX : NX σ) (hZ : NZ σ) : Met l y_B_astray w_B_astray ({ frames := 6, cells := 0, slots := 0, locals := 132 } : Room) (mPc γ M [.ref (bx β)]) (mQi γ (fun r M' => r = 0 ∧ M' = M)) 0 0 (mA (gz γ)) := by
  refine m_enter (by decide) (Nat.le_of_ble_eq_true rfl) ?_
  intro p e s m below meth c ls S hr hlk hnm hl hw
  have hl : lv_has ls 1 [(0, .ref (bx β))] := hl
  refine lv_aload_n S.1 S.2.1 d_B_astray_0 rfl (lv_at hl 0 rfl) ?_
  refine lv_iconst (v := 1) S.1 S.2.1 d_B_astray_1 (by decide) ?_
  refine m_ci hw (va_runV (As := [.int 1]) (rest := []) S (c_B_astrayInLine l γ M β oa cp L σ hC hI hL hX 1 (Or.inr rfl)) (m_cwV 1 S g224 g226 g1 g41 g227 rfl rfl ⟨by decide +kernel, by decide +kernel, by decide +kernel⟩ ⟨(Nat.le_of_ble_eq_true rfl), (Nat.le_of_ble_eq_true rfl)⟩) (hw.preV hC.book cl_B.1) rfl rfl hl.1 rfl (lv_room (Nat.le_of_ble_eq_true rfl)) d_B_astray_2 ⟨(Nat.zero_le _), (Nat.zero_le _)⟩) (fun r1 M1 H locs hp hw => ?_)
  obtain ⟨rfl, hM1⟩ := hp
  rw [hM1] at hw
  refine lv_aload_n S.1 S.2.1 d_B_astray_5 rfl (lv_at hl 0 rfl) ?_
  refine lv_iconst (v := 0) S.1 S.2.1 d_B_astray_6 (by decide) ?_
  refine m_ci hw (va_runV (As := [.int 0]) (rest := [.int 0]) S (c_B_astrayInLine l γ M β oa cp L σ hC hI hL hX 0 (Or.inl rfl)) (m_cwV 1 S g224 g226 g1 g41 g227 rfl rfl ⟨by decide +kernel, by decide +kernel, by decide +kernel⟩ ⟨(Nat.le_of_ble_eq_true rfl), (Nat.le_of_ble_eq_true rfl)⟩) (hw.preV hC.book cl_B.1) rfl rfl hl.1 rfl (lv_room (Nat.le_of_ble_eq_true rfl)) d_B_astray_7 ⟨(Nat.zero_le _), (Nat.zero_le _)⟩) (fun r1 M1 H locs hp hw => ?_)
  obtain ⟨rfl, hM1⟩ := hp
  rw [hM1] at hw
  refine lv_iadd S.1 S.2.1 d_B_astray_10 ?_
  refine lv_aload_n S.1 S.2.1 d_B_astray_11 rfl (lv_at hl 0 rfl) ?_
  refine m_ci hw (va_runV (As := []) (rest := [.int (0 + 0)]) S (c_B_astrayOutOfLine l γ M β oa cp L σ hC hI hL hZ) (m_cwV 0 S g266 g268 g3 g41 g269 rfl rfl ⟨by decide +kernel, by decide +kernel, by decide +kernel⟩ ⟨(Nat.le_of_ble_eq_true rfl), (Nat.le_of_ble_eq_true rfl)⟩) (hw.preV hC.book cl_B.1) rfl rfl hl.1 rfl (lv_room (Nat.le_of_ble_eq_true rfl)) d_B_astray_12 ⟨(Nat.zero_le _), (Nat.zero_le _)⟩) (fun r1 M1 H locs hp hw => ?_)
  obtain ⟨rfl, hM1⟩ := hp
  rw [hM1] at hw
  refine lv_iadd S.1 S.2.1 d_B_astray_15 ?_
  exact m_iret S hlk hr rfl hw (⟨rfl, rfl⟩) (Nat.le_refl _) (Nat.le_refl _) d_B_astray_16
end
section
/-! What a call may be given; what it does, in numbers -/
def rg (lo hi x : Int32) : Bool := decide (lo ≤ x) && decide (x ≤ hi)
theorem rg_lo {lo hi x : Int32} (h : x < lo) : rg lo hi x = false := by unfold rg; rw [decide_eq_false (Int32.not_le.mpr h), Bool.false_and]
theorem rg_hi {lo hi x : Int32} (h : hi < x) : rg lo hi x = false := by unfold rg; rw [decide_eq_false (Int32.not_le.mpr h), Bool.and_false]
theorem rg_in {lo hi x : Int32} (h1 : ¬ x < lo) (h2 : ¬ hi < x) : rg lo hi x = true := by unfold rg; rw [decide_eq_true (Int32.not_lt.mp h1), decide_eq_true (Int32.not_lt.mp h2)]; rfl
theorem rg_l {lo hi x : Int32} (h : rg lo hi x = true) : ¬ x < lo := fun z => by rw [rg_lo z] at h; cases h
theorem rg_h {lo hi x : Int32} (h : rg lo hi x = true) : ¬ hi < x := fun z => by rw [rg_hi z] at h; cases h
theorem rg_i {lo hi x : Int32} (h : rg lo hi x = true) : lo.toInt ≤ x.toInt ∧ x.toInt ≤ hi.toInt := ⟨Int32.le_iff_toInt_le.mp (Int32.not_lt.mp (rg_l h)), Int32.le_iff_toInt_le.mp (Int32.not_lt.mp (rg_h h))⟩
def fpk (q k : Int32) : Bool := decide (k = 0) || decide (q ≤ 50 * k)
def oBand (σ : St) (r b : Int32) : St := (σ.1, (sph σ, r, b, srk σ), σ.2.2)
def clr (a : AU) (w : Int32) : Int64 := if w = 0 then a.1.toInt64 else if w = 1 then a.2.1 else a.2.2
def och (I : Co) (k : Nat) (w : Int32) : Int32 := if w = 0 then I 0 k else if w = 1 then I 1 k else if w = 2 then I 2 k else if w = 3 then I 3 k else if w = 4 then I 4 k else if w = 5 then I 5 k else if w = 6 then I 6 k else if w = 7 then I 7 k else I 8 k
def dS (I : Co) (b p : Int32) : List Nat → Int64
  | [] => 0
  | r :: t => (if I 2 r = p then (if b = 0 then (I 4 r).toInt64 else (I 3 r).toInt64) else 0) + dS I b p t
theorem dS_app {I : Co} {b p : Int32} {r : Nat} : ∀ {t : List Nat}, dS I b p (t ++ [r]) = dS I b p t + (if I 2 r = p then (if b = 0 then (I 4 r).toInt64 else (I 3 r).toInt64) else 0) := by
  intro t
  induction t with
  | nil => show _ + 0 = 0 + _; rw [Int64.add_zero, Int64.zero_add]
  | cons x t ih => show _ + dS I b p (t ++ [r]) = _ + dS I b p t + _; rw [ih, Int64.add_assoc]
theorem dS_up {I : Co} {b p : Int32} {K : List Nat} {i : Nat} (h : i < K.length) : dS I b p (K.take (i + 1)) = dS I b p (K.take i) + (if I 2 K[i] = p then (if b = 0 then (I 4 K[i]).toInt64 else (I 3 K[i]).toInt64) else 0) := by rw [take_s h, dS_app]
/-- all of an owner's orders end -/
def xCan (σ : St) (w : Int32) : Nat → St × Nat
  | 0 => (σ, 0)
  | k + 1 => if sI (xCan σ w k).1 0 k = w ∧ ¬ sI (xCan σ w k).1 5 k = -1 then (xEnd (xCan σ w k).1 k, (xCan σ w k).2 + 1) else xCan σ w k
theorem can_sn (σ : St) (w : Int32) : ∀ k, sn (xCan σ w k).1 = sn σ ∧ (xCan σ w k).2 ≤ k ∧ (xCan σ w k).1.2 = σ.2 := by
  intro k
  induction k with
  | zero => exact ⟨rfl, Nat.le_refl _, rfl⟩
  | succ k ih =>
    unfold xCan
    split
    · exact ⟨ih.1, by show _ + 1 ≤ _; omega, ih.2.2⟩
    · exact ⟨ih.1, by omega, ih.2.2⟩
end
section
/-! CallBook: calls that are in order (1) -/
set_option maxHeartbeats 4000000 in
set_option maxRecDepth 100000 in
theorem c_B_isOwner (l : Launch) (γ : mG) (M : mMap) (x0 : Int32) : Met l y_B_isOwner w_B_isOwner ({ frames := 0, cells := 0, slots := 0, locals := 0 } : Room) (mPc γ M [.int x0]) (mQi γ (fun r M' => r = b2i (rg 0 9 x0) ∧ M' = M)) 0 0 (mA (gz γ)) := by
  refine m_enter (by decide) (Nat.le_of_ble_eq_true rfl) ?_
  intro p e s m below meth c ls S hr hlk hnm hl hw
  have hl : lv_has ls 1 [(0, .int x0)] := hl
  refine lv_iload_n S.1 S.2.1 d_B_isOwner_0 rfl (lv_at hl 0 rfl) ?_
  refine lv_if_lt (tgt := 14) S.1 S.2.1 d_B_isOwner_1 rfl (fun h1 => ?_) (fun h1 => ?_)
  · refine lv_iconst (v := 0) S.1 S.2.1 d_B_isOwner_14 (by decide) ?_
    exact m_iret S hlk hr rfl hw (⟨(congrArg b2i (show rg 0 9 x0 = false from rg_lo h1)).symm, rfl⟩) (Nat.le_refl _) (Nat.le_refl _) d_B_isOwner_15
  · refine lv_iload_n S.1 S.2.1 d_B_isOwner_4 rfl (lv_at hl 0 rfl) ?_
    refine lv_bipush (v := 9) S.1 S.2.1 d_B_isOwner_5 (by decide) ?_
    refine lv_icmp_gt (tgt := 14) S.1 S.2.1 d_B_isOwner_7 rfl (fun h7 => ?_) (fun h7 => ?_)
    · refine lv_iconst (v := 0) S.1 S.2.1 d_B_isOwner_14 (by decide) ?_
      exact m_iret S hlk hr rfl hw (⟨(congrArg b2i (show rg 0 9 x0 = false from rg_hi h7)).symm, rfl⟩) (Nat.le_refl _) (Nat.le_refl _) d_B_isOwner_15
    · refine lv_iconst (v := 1) S.1 S.2.1 d_B_isOwner_10 (by decide) ?_
      refine lv_goto (tgt := 15) S.1 S.2.1 d_B_isOwner_11 rfl ?_
      exact m_iret S hlk hr rfl hw (⟨(congrArg b2i (show rg 0 9 x0 = true from rg_in h1 h7)).symm, rfl⟩) (Nat.le_refl _) (Nat.le_refl _) d_B_isOwner_15
set_option maxHeartbeats 4000000 in
set_option maxRecDepth 100000 in
theorem c_B_isPriceOrMarket (l : Launch) (γ : mG) (M : mMap) (x0 : Int32) : Met l y_B_isPriceOrMarket w_B_isPriceOrMarket ({ frames := 0, cells := 0, slots := 0, locals := 0 } : Room) (mPc γ M [.int x0]) (mQi γ (fun r M' => r = b2i (rg 0 2000 x0) ∧ M' = M)) 0 0 (mA (gz γ)) := by
  refine m_enter (by decide) (Nat.le_of_ble_eq_true rfl) ?_
  intro p e s m below meth c ls S hr hlk hnm hl hw
  have hl : lv_has ls 1 [(0, .int x0)] := hl
  refine lv_iload_n S.1 S.2.1 d_B_isPriceOrMarket_0 rfl (lv_at hl 0 rfl) ?_
  refine lv_if_lt (tgt := 15) S.1 S.2.1 d_B_isPriceOrMarket_1 rfl (fun h1 => ?_) (fun h1 => ?_)
  · refine lv_iconst (v := 0) S.1 S.2.1 d_B_isPriceOrMarket_15 (by decide) ?_
    exact m_iret S hlk hr rfl hw (⟨(congrArg b2i (show rg 0 2000 x0 = false from rg_lo h1)).symm, rfl⟩) (Nat.le_refl _) (Nat.le_refl _) d_B_isPriceOrMarket_16
  · refine lv_iload_n S.1 S.2.1 d_B_isPriceOrMarket_4 rfl (lv_at hl 0 rfl) ?_
    refine lv_sipush (v := 2000) S.1 S.2.1 d_B_isPriceOrMarket_5 (by decide) ?_
    refine lv_icmp_gt (tgt := 15) S.1 S.2.1 d_B_isPriceOrMarket_8 rfl (fun h8 => ?_) (fun h8 => ?_)
    · refine lv_iconst (v := 0) S.1 S.2.1 d_B_isPriceOrMarket_15 (by decide) ?_
      exact m_iret S hlk hr rfl hw (⟨(congrArg b2i (show rg 0 2000 x0 = false from rg_hi h8)).symm, rfl⟩) (Nat.le_refl _) (Nat.le_refl _) d_B_isPriceOrMarket_16
    · refine lv_iconst (v := 1) S.1 S.2.1 d_B_isPriceOrMarket_11 (by decide) ?_
      refine lv_goto (tgt := 16) S.1 S.2.1 d_B_isPriceOrMarket_12 rfl ?_
      exact m_iret S hlk hr rfl hw (⟨(congrArg b2i (show rg 0 2000 x0 = true from rg_in h1 h8)).symm, rfl⟩) (Nat.le_refl _) (Nat.le_refl _) d_B_isPriceOrMarket_16
set_option maxHeartbeats 4000000 in
set_option maxRecDepth 100000 in
theorem c_B_isQuantity (l : Launch) (γ : mG) (M : mMap) (x0 : Int32) : Met l y_B_isQuantity w_B_isQuantity ({ frames := 0, cells := 0, slots := 0, locals := 0 } : Room) (mPc γ M [.int x0]) (mQi γ (fun r M' => r = b2i (rg 1 100000 x0) ∧ M' = M)) 0 0 (mA (gz γ)) := by
  refine m_enter (by decide) (Nat.le_of_ble_eq_true rfl) ?_
  intro p e s m below meth c ls S hr hlk hnm hl hw
  have hl : lv_has ls 1 [(0, .int x0)] := hl
  refine lv_iload_n S.1 S.2.1 d_B_isQuantity_0 rfl (lv_at hl 0 rfl) ?_
  refine lv_iconst (v := 1) S.1 S.2.1 d_B_isQuantity_1 (by decide) ?_
  refine lv_icmp_lt (tgt := 15) S.1 S.2.1 d_B_isQuantity_2 rfl (fun h2 => ?_) (fun h2 => ?_)
  · refine lv_iconst (v := 0) S.1 S.2.1 d_B_isQuantity_15 (by decide) ?_
    exact m_iret S hlk hr rfl hw (⟨(congrArg b2i (show rg 1 100000 x0 = false from rg_lo h2)).symm, rfl⟩) (Nat.le_refl _) (Nat.le_refl _) d_B_isQuantity_16
  · refine lv_iload_n S.1 S.2.1 d_B_isQuantity_5 rfl (lv_at hl 0 rfl) ?_
    refine lv_ldc S.1 S.2.1 S.2.2.2.1 (S.2.2.2.2 _ (gc g292)) d_B_isQuantity_6 ?_
    refine lv_icmp_gt (tgt := 15) S.1 S.2.1 d_B_isQuantity_8 rfl (fun h8 => ?_) (fun h8 => ?_)
    · refine lv_iconst (v := 0) S.1 S.2.1 d_B_isQuantity_15 (by decide) ?_
      exact m_iret S hlk hr rfl hw (⟨(congrArg b2i (show rg 1 100000 x0 = false from rg_hi h8)).symm, rfl⟩) (Nat.le_refl _) (Nat.le_refl _) d_B_isQuantity_16
    · refine lv_iconst (v := 1) S.1 S.2.1 d_B_isQuantity_11 (by decide) ?_
      refine lv_goto (tgt := 16) S.1 S.2.1 d_B_isQuantity_12 rfl ?_
      exact m_iret S hlk hr rfl hw (⟨(congrArg b2i (show rg 1 100000 x0 = true from rg_in h2 h8)).symm, rfl⟩) (Nat.le_refl _) (Nat.le_refl _) d_B_isQuantity_16
set_option maxHeartbeats 4000000 in
set_option maxRecDepth 100000 in
theorem c_B_isPeak (l : Launch) (γ : mG) (M : mMap) (x0 : Int32) : Met l y_B_isPeak w_B_isPeak ({ frames := 0, cells := 0, slots := 0, locals := 0 } : Room) (mPc γ M [.int x0]) (mQi γ (fun r M' => r = b2i (rg 0 100000 x0) ∧ M' = M)) 0 0 (mA (gz γ)) := by
  refine m_enter (by decide) (Nat.le_of_ble_eq_true rfl) ?_
  intro p e s m below meth c ls S hr hlk hnm hl hw
  have hl : lv_has ls 1 [(0, .int x0)] := hl
  refine lv_iload_n S.1 S.2.1 d_B_isPeak_0 rfl (lv_at hl 0 rfl) ?_
  refine lv_if_lt (tgt := 14) S.1 S.2.1 d_B_isPeak_1 rfl (fun h1 => ?_) (fun h1 => ?_)
  · refine lv_iconst (v := 0) S.1 S.2.1 d_B_isPeak_14 (by decide) ?_
    exact m_iret S hlk hr rfl hw (⟨(congrArg b2i (show rg 0 100000 x0 = false from rg_lo h1)).symm, rfl⟩) (Nat.le_refl _) (Nat.le_refl _) d_B_isPeak_15
  · refine lv_iload_n S.1 S.2.1 d_B_isPeak_4 rfl (lv_at hl 0 rfl) ?_
    refine lv_ldc S.1 S.2.1 S.2.2.2.1 (S.2.2.2.2 _ (gc g292)) d_B_isPeak_5 ?_
    refine lv_icmp_gt (tgt := 14) S.1 S.2.1 d_B_isPeak_7 rfl (fun h7 => ?_) (fun h7 => ?_)
    · refine lv_iconst (v := 0) S.1 S.2.1 d_B_isPeak_14 (by decide) ?_
      exact m_iret S hlk hr rfl hw (⟨(congrArg b2i (show rg 0 100000 x0 = false from rg_hi h7)).symm, rfl⟩) (Nat.le_refl _) (Nat.le_refl _) d_B_isPeak_15
    · refine lv_iconst (v := 1) S.1 S.2.1 d_B_isPeak_10 (by decide) ?_
      refine lv_goto (tgt := 15) S.1 S.2.1 d_B_isPeak_11 rfl ?_
      exact m_iret S hlk hr rfl hw (⟨(congrArg b2i (show rg 0 100000 x0 = true from rg_in h1 h7)).symm, rfl⟩) (Nat.le_refl _) (Nat.le_refl _) d_B_isPeak_15
set_option maxHeartbeats 4000000 in
set_option maxRecDepth 100000 in
theorem c_B_isLife (l : Launch) (γ : mG) (M : mMap) (x0 : Int32) : Met l y_B_isLife w_B_isLife ({ frames := 0, cells := 0, slots := 0, locals := 0 } : Room) (mPc γ M [.int x0]) (mQi γ (fun r M' => r = b2i (rg 0 2 x0) ∧ M' = M)) 0 0 (mA (gz γ)) := by
  refine m_enter (by decide) (Nat.le_of_ble_eq_true rfl) ?_
  intro p e s m below meth c ls S hr hlk hnm hl hw
  have hl : lv_has ls 1 [(0, .int x0)] := hl
  refine lv_iload_n S.1 S.2.1 d_B_isLife_0 rfl (lv_at hl 0 rfl) ?_
  refine lv_if_lt (tgt := 13) S.1 S.2.1 d_B_isLife_1 rfl (fun h1 => ?_) (fun h1 => ?_)
  · refine lv_iconst (v := 0) S.1 S.2.1 d_B_isLife_13 (by decide) ?_
    exact m_iret S hlk hr rfl hw (⟨(congrArg b2i (show rg 0 2 x0 = false from rg_lo h1)).symm, rfl⟩) (Nat.le_refl _) (Nat.le_refl _) d_B_isLife_14
  · refine lv_iload_n S.1 S.2.1 d_B_isLife_4 rfl (lv_at hl 0 rfl) ?_
    refine lv_iconst (v := 2) S.1 S.2.1 d_B_isLife_5 (by decide) ?_
    refine lv_icmp_gt (tgt := 13) S.1 S.2.1 d_B_isLife_6 rfl (fun h6 => ?_) (fun h6 => ?_)
    · refine lv_iconst (v := 0) S.1 S.2.1 d_B_isLife_13 (by decide) ?_
      exact m_iret S hlk hr rfl hw (⟨(congrArg b2i (show rg 0 2 x0 = false from rg_hi h6)).symm, rfl⟩) (Nat.le_refl _) (Nat.le_refl _) d_B_isLife_14
    · refine lv_iconst (v := 1) S.1 S.2.1 d_B_isLife_9 (by decide) ?_
      refine lv_goto (tgt := 14) S.1 S.2.1 d_B_isLife_10 rfl ?_
      exact m_iret S hlk hr rfl hw (⟨(congrArg b2i (show rg 0 2 x0 = true from rg_in h1 h6)).symm, rfl⟩) (Nat.le_refl _) (Nat.le_refl _) d_B_isLife_14
set_option maxHeartbeats 4000000 in
set_option maxRecDepth 100000 in
theorem c_B_fitsPeak (l : Launch) (γ : mG) (M : mMap) (q0 k0 : Int32) : Met l y_B_fitsPeak w_B_fitsPeak ({ frames := 0, cells := 0, slots := 0, locals := 0 } : Room) (mPc γ M [.int q0, .int k0]) (mQi γ (fun r M' => r = b2i (fpk q0 k0) ∧ M' = M)) 0 0 (mA (gz γ)) := by
  refine m_enter (by decide) (Nat.le_of_ble_eq_true rfl) ?_
  intro p e s m below meth c ls S hr hlk hnm hl hw
  have hl : lv_has ls 2 [(0, .int q0), (1, .int k0)] := hl
  refine lv_iload_n S.1 S.2.1 d_B_fitsPeak_0 rfl (lv_at hl 1 rfl) ?_
  refine lv_if_eq (tgt := 12) S.1 S.2.1 d_B_fitsPeak_1 rfl (fun h1 => ?_) (fun h1 => ?_)
  · refine lv_iconst (v := 1) S.1 S.2.1 d_B_fitsPeak_12 (by decide) ?_
    refine lv_goto (tgt := 17) S.1 S.2.1 d_B_fitsPeak_13 rfl ?_
    exact m_iret S hlk hr rfl hw (⟨(congrArg b2i (show fpk q0 k0 = true from by unfold fpk; rw [decide_eq_true h1]; rfl)).symm, rfl⟩) (Nat.le_refl _) (Nat.le_refl _) d_B_fitsPeak_17
  · refine lv_iload_n S.1 S.2.1 d_B_fitsPeak_4 rfl (lv_at hl 0 rfl) ?_
    refine lv_bipush (v := 50) S.1 S.2.1 d_B_fitsPeak_5 (by decide) ?_
    refine lv_iload_n S.1 S.2.1 d_B_fitsPeak_7 rfl (lv_at hl 1 rfl) ?_
    refine lv_imul S.1 S.2.1 d_B_fitsPeak_8 ?_
    refine lv_icmp_gt (tgt := 16) S.1 S.2.1 d_B_fitsPeak_9 rfl (fun h9 => ?_) (fun h9 => ?_)
    · refine lv_iconst (v := 0) S.1 S.2.1 d_B_fitsPeak_16 (by decide) ?_
      exact m_iret S hlk hr rfl hw (⟨(congrArg b2i (show fpk q0 k0 = false from by unfold fpk; rw [decide_eq_false h1, decide_eq_false (Int32.not_le.mpr h9)]; rfl)).symm, rfl⟩) (Nat.le_refl _) (Nat.le_refl _) d_B_fitsPeak_17
    · refine lv_iconst (v := 1) S.1 S.2.1 d_B_fitsPeak_12 (by decide) ?_
      refine lv_goto (tgt := 17) S.1 S.2.1 d_B_fitsPeak_13 rfl ?_
      exact m_iret S hlk hr rfl hw (⟨(congrArg b2i (show fpk q0 k0 = true from by unfold fpk; rw [decide_eq_true (Int32.not_lt.mp h9), Bool.or_true])).symm, rfl⟩) (Nat.le_refl _) (Nat.le_refl _) d_B_fitsPeak_17
set_option maxHeartbeats 4000000 in
set_option maxRecDepth 100000 in
theorem c_B_band (l : Launch) (γ : mG) (M : mMap) (β : BK) (oa cp : Nat → Nat) (L : Nat → List Nat) (σ : St) (hC : CB γ M β oa cp L σ) (a0 b0 : Int32) (hv1 : rg 1 2000 a0 = true) (hv2 : rg 0 2000 b0 = true) : Met l y_B_band w_B_band ({ frames := 0, cells := 0, slots := 0, locals := 0 } : Room) (mPc γ M [.ref (bx β), .int a0, .int b0]) (mQi γ (fun r M' => r = srf σ ∧ CB γ M' β oa cp L (oBand σ a0 b0) ∧ frC M M')) 0 0 (mA (gz γ)) := by
  refine m_enter (by decide) (Nat.le_of_ble_eq_true rfl) ?_
  intro p e s m below meth c ls S hr hlk hnm hl hw
  have hl : lv_has ls 4 [(0, .ref (bx β)), (1, .int a0), (2, .int b0)] := hl
  refine lv_iload_n S.1 S.2.1 d_B_band_0 rfl (lv_at hl 1 rfl) ?_
  refine lv_iconst (v := 1) S.1 S.2.1 d_B_band_1 (by decide) ?_
  refine lv_icmp_lt (tgt := 23) S.1 S.2.1 d_B_band_2 rfl (fun h => absurd h (rg_l hv1)) (fun _ => ?_)
  refine lv_iload_n S.1 S.2.1 d_B_band_5 rfl (lv_at hl 1 rfl) ?_
  refine lv_sipush (v := 2000) S.1 S.2.1 d_B_band_6 (by decide) ?_
  refine lv_icmp_gt (tgt := 23) S.1 S.2.1 d_B_band_9 rfl (fun h => absurd h (rg_h hv1)) (fun _ => ?_)
  refine lv_iload_n S.1 S.2.1 d_B_band_12 rfl (lv_at hl 2 rfl) ?_
  refine lv_if_lt (tgt := 23) S.1 S.2.1 d_B_band_13 rfl (fun h => absurd h (rg_l hv2)) (fun _ => ?_)
  refine lv_iload_n S.1 S.2.1 d_B_band_16 rfl (lv_at hl 2 rfl) ?_
  refine lv_sipush (v := 2000) S.1 S.2.1 d_B_band_17 (by decide) ?_
  refine lv_icmp_le (tgt := 31) S.1 S.2.1 d_B_band_20 rfl (fun _ => ?_) (fun h => absurd (Int32.not_lt.mp (rg_h hv2)) h)
  refine lv_aload_n S.1 S.2.1 d_B_band_31 rfl (lv_at hl 0 rfl) ?_
  refine m_get S hw cl_B hC.book 6 (by decide) g151 (fun _ h => h) rfl d_B_band_32 ?_
  refine lv_istore_n S.1 S.2.1 d_B_band_35 rfl hl (by decide) rfl (fun ls hl => ?_)
  have hl : lv_has ls 4 [(3, .int σ.2.1.2.1), (0, .ref (bx β)), (1, .int a0), (2, .int b0)] := hl
  refine lv_aload_n S.1 S.2.1 d_B_band_36 rfl (lv_at hl 1 rfl) ?_
  refine lv_iload_n S.1 S.2.1 d_B_band_37 rfl (lv_at hl 2 rfl) ?_
  refine m_put S hw cl_B hC.book 6 (by decide) g151 (fun _ h => h) rfl rfl rfl (Nat.le_of_ble_eq_true rfl) d_B_band_38 (fun H locs hw => ?_)
  have hw : mW γ (mU M (bx β) (.inr (6, [.ref (bal β 0), .ref (bsd β 1), .ref (bsd β 2), .ref (btl β), .ref (bau β), .int σ.2.1.1, .int a0, .int σ.2.1.2.2.1, .int σ.2.1.2.2.2]))) s H locs := hw
  refine lv_aload_n S.1 S.2.1 d_B_band_41 rfl (lv_at hl 1 rfl) ?_
  refine lv_iload_n S.1 S.2.1 d_B_band_42 rfl (lv_at hl 3 rfl) ?_
  refine m_put S hw cl_B (mU_eq _ _ _) 7 (by decide) g152 (fun _ h => h) rfl rfl rfl (Nat.le_of_ble_eq_true rfl) d_B_band_43 (fun H locs hw => ?_)
  have hw : mW γ (mU (mU M (bx β) (.inr (6, [.ref (bal β 0), .ref (bsd β 1), .ref (bsd β 2), .ref (btl β), .ref (bau β), .int σ.2.1.1, .int a0, .int σ.2.1.2.2.1, .int σ.2.1.2.2.2]))) (bx β) (.inr (6, [.ref (bal β 0), .ref (bsd β 1), .ref (bsd β 2), .ref (btl β), .ref (bau β), .int σ.2.1.1, .int a0, .int b0, .int σ.2.1.2.2.2]))) s H locs := hw
  rw [mU_uu] at hw
  obtain ⟨hC1, hf1⟩ := hC.setB (p := (sph σ, a0, b0, srk σ)) (e := .inr (6, bkc β (sph σ, a0, b0, srk σ))) rfl
  refine lv_iload_n S.1 S.2.1 d_B_band_46 rfl (lv_at hl 0 rfl) ?_
  exact m_iret S hlk hr rfl hw (⟨rfl, hC1, hf1⟩) (Nat.le_refl _) (Nat.le_refl _) d_B_band_47
set_option maxHeartbeats 4000000 in
set_option maxRecDepth 100000 in
theorem c_B_clearing (l : Launch) (γ : mG) (M : mMap) (β : BK) (oa cp : Nat → Nat) (L : Nat → List Nat) (σ : St) (hC : CB γ M β oa cp L σ) (hI : Inv0 σ) (hL : LN σ L) (w0 : Int32) (hv : rg 0 2 w0 = true) : Met l y_B_clearing w_B_clearing ({ frames := 5, cells := 0, slots := 0, locals := 117 } : Room) (mPc γ M [.ref (bx β), .int w0]) (mQl γ (fun r M' => r = clr (aAt (sI σ) (L 1) (L 2) (srf σ) 2000) w0 ∧ CB γ M' β oa cp L σ ∧ frW M M')) 0 0 (mA (gz γ)) := by
  refine m_enter (by decide) (Nat.le_of_ble_eq_true rfl) ?_
  intro p e s m below meth c ls S hr hlk hnm hl hw
  have hl : lv_has ls 2 [(0, .ref (bx β)), (1, .int w0)] := hl
  obtain ⟨r1, hA1⟩ := hC.list (j := 1) (Or.inl rfl)
  obtain ⟨r2, hA2⟩ := hC.list (j := 2) (Or.inr rfl)
  obtain ⟨a, ha⟩ := hC.auct
  refine lv_iload_n S.1 S.2.1 d_B_clearing_0 rfl (lv_at hl 1 rfl) ?_
  refine lv_if_lt (tgt := 9) S.1 S.2.1 d_B_clearing_1 rfl (fun h => absurd h (rg_l hv)) (fun _ => ?_)
  refine lv_iload_n S.1 S.2.1 d_B_clearing_4 rfl (lv_at hl 1 rfl) ?_
  refine lv_iconst (v := 2) S.1 S.2.1 d_B_clearing_5 (by decide) ?_
  refine lv_icmp_le (tgt := 17) S.1 S.2.1 d_B_clearing_6 rfl (fun _ => ?_) (fun h => absurd (Int32.not_lt.mp (rg_h hv)) h)
  refine lv_aload_n S.1 S.2.1 d_B_clearing_17 rfl (lv_at hl 0 rfl) ?_
  refine m_get S hw cl_B hC.book 4 (by decide) g149 (fun _ h => h) rfl d_B_clearing_18 ?_
  refine lv_aload_n S.1 S.2.1 d_B_clearing_21 rfl (lv_at hl 0 rfl) ?_
  refine m_get S hw cl_B hC.book 1 (by decide) g146 (fun _ h => h) rfl d_B_clearing_22 ?_
  refine m_get S hw cl_S (hC.side (Or.inl rfl)) 0 (by decide) g105 (fun _ h => h) rfl d_B_clearing_25 ?_
  refine lv_aload_n S.1 S.2.1 d_B_clearing_28 rfl (lv_at hl 0 rfl) ?_
  refine m_get S hw cl_B hC.book 2 (by decide) g147 (fun _ h => h) rfl d_B_clearing_29 ?_
  refine m_get S hw cl_S (hC.side (Or.inr rfl)) 0 (by decide) g105 (fun _ h => h) rfl d_B_clearing_32 ?_
  refine lv_aload_n S.1 S.2.1 d_B_clearing_35 rfl (lv_at hl 0 rfl) ?_
  refine m_get S hw cl_B hC.book 6 (by decide) g151 (fun _ h => h) rfl d_B_clearing_36 ?_
  refine m_cv hw (va_runV (As := [.ref (bal β 1), .ref (bal β 2), .int σ.2.1.2.1]) (rest := []) S (c_A_workOut l γ M (bau β) (bal β 1) (bal β 2) r1 r2 (cp 1) (cp 2) (sn σ) (L 1) (L 2) oa (sI σ) hC.ord hI.2.1 hI.1 a ha hA1 hA2 hL.1 hL.2 (srf σ)) (m_cwV 3 S g615 g616 g617 g47 g618 rfl rfl ⟨by decide +kernel, by decide +kernel, by decide +kernel⟩ ⟨(Nat.le_of_ble_eq_true rfl), (Nat.le_of_ble_eq_true rfl)⟩) (hw.preV ha cl_A.1) rfl rfl hl.1 rfl (lv_room (Nat.le_of_ble_eq_true rfl)) d_B_clearing_39 ⟨(Nat.zero_le _), (Nat.zero_le _)⟩) (fun M1 H locs hp hw => ?_)
  rw [hp] at hw
  obtain ⟨hC1, hf1⟩ := hC.setA (a := aAt (sI σ) (L 1) (L 2) (srf σ) 2000) (e := .inr (1, auc (aAt (sI σ) (L 1) (L 2) (srf σ) 2000))) rfl
  refine lv_iload_n S.1 S.2.1 d_B_clearing_42 rfl (lv_at hl 1 rfl) ?_
  refine lv_if_ne (tgt := 55) S.1 S.2.1 d_B_clearing_43 rfl (fun h43 => ?_) (fun h43 => ?_)
  · refine lv_iload_n S.1 S.2.1 d_B_clearing_55 rfl (lv_at hl 1 rfl) ?_
    refine lv_iconst (v := 1) S.1 S.2.1 d_B_clearing_56 (by decide) ?_
    refine lv_icmp_ne (tgt := 70) S.1 S.2.1 d_B_clearing_57 rfl (fun h57 => ?_) (fun h57 => ?_)
    · refine lv_aload_n S.1 S.2.1 d_B_clearing_70 rfl (lv_at hl 0 rfl) ?_
      refine m_get S hw cl_B hC1.book 4 (by decide) g149 (fun _ h => h) rfl d_B_clearing_71 ?_
      refine m_get S hw cl_A (mU_eq _ _ _) 2 (by decide) g137 (fun _ h => h) rfl d_B_clearing_74 ?_
      exact m_lret S hlk hr hw (⟨(show clr (aAt (sI σ) (L 1) (L 2) (srf σ) 2000) w0 = (aAt (sI σ) (L 1) (L 2) (srf σ) 2000).2.2 from by unfold clr; rw [if_neg h43, if_neg h57]).symm, hC1, hf1⟩) (Nat.le_refl _) (Nat.le_refl _) d_B_clearing_77
    · refine lv_aload_n S.1 S.2.1 d_B_clearing_60 rfl (lv_at hl 0 rfl) ?_
      refine m_get S hw cl_B hC1.book 4 (by decide) g149 (fun _ h => h) rfl d_B_clearing_61 ?_
      refine m_get S hw cl_A (mU_eq _ _ _) 1 (by decide) g135 (fun _ h => h) rfl d_B_clearing_64 ?_
      refine lv_goto (tgt := 77) S.1 S.2.1 d_B_clearing_67 rfl ?_
      exact m_lret S hlk hr hw (⟨(show clr (aAt (sI σ) (L 1) (L 2) (srf σ) 2000) w0 = (aAt (sI σ) (L 1) (L 2) (srf σ) 2000).2.1 from by unfold clr; rw [if_neg h43, if_pos h57]).symm, hC1, hf1⟩) (Nat.le_refl _) (Nat.le_refl _) d_B_clearing_77
  · refine lv_aload_n S.1 S.2.1 d_B_clearing_46 rfl (lv_at hl 0 rfl) ?_
    refine m_get S hw cl_B hC1.book 4 (by decide) g149 (fun _ h => h) rfl d_B_clearing_47 ?_
    refine m_get S hw cl_A (mU_eq _ _ _) 0 (by decide) g133 (fun _ h => h) rfl d_B_clearing_50 ?_
    refine lv_i2l S.1 S.2.1 d_B_clearing_53 rfl ?_
    exact m_lret S hlk hr hw (⟨(show clr (aAt (sI σ) (L 1) (L 2) (srf σ) 2000) w0 = ((aAt (sI σ) (L 1) (L 2) (srf σ) 2000).1).toInt64 from by unfold clr; rw [if_pos h43]).symm, hC1, hf1⟩) (Nat.le_refl _) (Nat.le_refl _) d_B_clearing_54
set_option maxHeartbeats 4000000 in
set_option maxRecDepth 100000 in
theorem c_B_known (l : Launch) (γ : mG) (M : mMap) (β : BK) (oa cp : Nat → Nat) (L : Nat → List Nat) (σ : St) (hC : CB γ M β oa cp L σ) (hn : sn σ ≤ 250) (k : Nat) (hk : k < sn σ) : Met l y_B_known w_B_known ({ frames := 3, cells := 0, slots := 0, locals := 64 } : Room) (mPc γ M [.ref (bx β), .int (nI k)]) (mQq γ (fun r M' => r = some (oa k) ∧ M' = M)) 0 0 (mA (gz γ)) := by
  refine m_enter (by decide) (Nat.le_of_ble_eq_true rfl) ?_
  intro p e s m below meth c ls S hr hlk hnm hl hw
  have hl : lv_has ls 2 [(0, .ref (bx β)), (1, .int (nI k))] := hl
  obtain ⟨r0, hA0⟩ := hC.alls
  obtain ⟨⟨md0, hl0⟩, -⟩ := id hA0
  have hml : ((List.range (sn σ)).map oa).length = sn σ := rg_len
  have hge := rg_at (f := oa) hk
  refine lv_iload_n S.1 S.2.1 d_B_known_0 rfl (lv_at hl 1 rfl) ?_
  refine lv_if_lt (tgt := 15) S.1 S.2.1 d_B_known_1 rfl (fun h => absurd h (nI_pos (by omega))) (fun _ => ?_)
  refine lv_iload_n S.1 S.2.1 d_B_known_4 rfl (lv_at hl 1 rfl) ?_
  refine lv_aload_n S.1 S.2.1 d_B_known_5 rfl (lv_at hl 0 rfl) ?_
  refine m_get S hw cl_B hC.book 0 (by decide) g145 (fun _ h => h) rfl d_B_known_6 ?_
  refine m_ci hw (va_runV (As := []) (rest := [.int (nI k)]) S (c_AL_size l γ M (bal β 0) md0 _ _ hl0) (m_cwV 0 S g185 g186 g187 g44 g188 rfl rfl ⟨by decide +kernel, by decide +kernel, by decide +kernel⟩ ⟨(Nat.le_of_ble_eq_true rfl), (Nat.le_of_ble_eq_true rfl)⟩) (hw.preV hl0 cl_AL.1) rfl rfl hl.1 rfl (lv_room (Nat.le_of_ble_eq_true rfl)) d_B_known_9 ⟨(Nat.zero_le _), (Nat.zero_le _)⟩) (fun r1 M1 H locs hp hw => ?_)
  obtain ⟨rfl, hM1⟩ := hp
  rw [hM1] at hw
  refine lv_icmp_lt (tgt := 23) S.1 S.2.1 d_B_known_12 rfl (fun _ => ?_) (fun h => absurd (nI_lt (by omega) (by omega)) h)
  refine lv_aload_n S.1 S.2.1 d_B_known_23 rfl (lv_at hl 0 rfl) ?_
  refine m_get S hw cl_B hC.book 0 (by decide) g145 (fun _ h => h) rfl d_B_known_24 ?_
  refine lv_iload_n S.1 S.2.1 d_B_known_27 rfl (lv_at hl 1 rfl) ?_
  refine m_cq hw (va_runV (As := [.int (nI k)]) (rest := []) S (c_AL_get l γ M (bal β 0) r0 (cp 0) ((List.range (sn σ)).map oa) hA0 k (by omega)) (m_cwV 1 S g189 g190 g191 g44 g192 rfl rfl ⟨by decide +kernel, by decide +kernel, by decide +kernel⟩ ⟨(Nat.le_of_ble_eq_true rfl), (Nat.le_of_ble_eq_true rfl)⟩) (hw.preV hl0 cl_AL.1) rfl rfl hl.1 rfl (lv_room (Nat.le_of_ble_eq_true rfl)) d_B_known_28 ⟨(Nat.zero_le _), (Nat.zero_le _)⟩) (fun r1 M1 H locs hp hw => ?_)
  obtain ⟨rfl, hM1⟩ := hp
  rw [hM1] at hw
  refine W.eq (g2 := F0 m 31 ls [.ref (oa k)]) (by rw [hge]; rfl) ?_
  refine m_cast S hw cl_O (hC.ord k hk) g203 d_B_known_31 ?_
  exact m_aret (r := (some (oa k))) S hlk hr (Or.inl ⟨_, rfl⟩) hw (⟨rfl, rfl⟩) (Nat.le_refl _) (Nat.le_refl _) d_B_known_34
set_option maxHeartbeats 4000000 in
set_option maxRecDepth 100000 in
theorem c_B_order (l : Launch) (γ : mG) (M : mMap) (β : BK) (oa cp : Nat → Nat) (L : Nat → List Nat) (σ : St) (hC : CB γ M β oa cp L σ) (hI : Inv0 σ) (k : Nat) (hk : k < sn σ) (w0 : Int32) (hv : rg 0 8 w0 = true) : Met l y_B_order w_B_order ({ frames := 4, cells := 0, slots := 0, locals := 85 } : Room) (mPc γ M [.ref (bx β), .int (nI k), .int w0]) (mQi γ (fun r M' => r = och (sI σ) k w0 ∧ M' = M)) 0 0 (mA (gz γ)) := by
  refine m_enter (by decide) (Nat.le_of_ble_eq_true rfl) ?_
  intro p e s m below meth c ls S hr hlk hnm hl hw
  have hl : lv_has ls 4 [(0, .ref (bx β)), (1, .int (nI k)), (2, .int w0)] := hl
  have hn := hI.1
  have hOk := hC.ord k hk
  have hsd := (hI.2.1.1 k hk).2.2
  refine lv_aload_n S.1 S.2.1 d_B_order_0 rfl (lv_at hl 0 rfl) ?_
  refine lv_iload_n S.1 S.2.1 d_B_order_1 rfl (lv_at hl 1 rfl) ?_
  refine m_cq hw (va_runV (As := [.int (nI k)]) (rest := []) S (c_B_known l γ M β oa cp L σ hC hn k hk) (m_cwV 1 S g586 g588 g18 g41 g589 rfl rfl ⟨by decide +kernel, by decide +kernel, by decide +kernel⟩ ⟨(Nat.le_of_ble_eq_true rfl), (Nat.le_of_ble_eq_true rfl)⟩) (hw.preV hC.book cl_B.1) rfl rfl hl.1 rfl (lv_room (Nat.le_of_ble_eq_true rfl)) d_B_order_2 ⟨(Nat.zero_le _), (Nat.zero_le _)⟩) (fun r1 M1 H locs hp hw => ?_)
  obtain ⟨rfl, hM1⟩ := hp
  rw [hM1] at hw
  refine W.eq (g2 := F0 m 5 ls [.ref (oa k)]) rfl ?_
  refine lv_astore_n S.1 S.2.1 d_B_order_5 rfl hl (by decide) rfl (fun ls hl => ?_)
  have hl : lv_has ls 4 [(3, .ref (oa k)), (0, .ref (bx β)), (1, .int (nI k)), (2, .int w0)] := hl
  refine lv_iload_n S.1 S.2.1 d_B_order_6 rfl (lv_at hl 3 rfl) ?_
  by_cases hs0 : w0 = 0
  · refine lv_tableIn (off := 49) (tgt := 56) S.1 S.2.1 d_B_order_7 (by rw [hs0]; decide) (by rw [hs0]; decide) (by rw [hs0]; decide) (by decide) ?_
    refine lv_aload_n S.1 S.2.1 d_B_order_56 rfl (lv_at hl 0 rfl) ?_
    refine m_get S hw cl_O hOk 1 (by decide) g387 (fun _ h => h) rfl d_B_order_57 ?_
    exact m_iret S hlk hr rfl hw (⟨(show och (sI σ) k w0 = (sI σ) 0 k from by rw [hs0]; rfl).symm, rfl⟩) (Nat.le_refl _) (Nat.le_refl _) d_B_order_60
  by_cases hs1 : w0 = 1
  · refine lv_tableIn (off := 54) (tgt := 61) S.1 S.2.1 d_B_order_7 (by rw [hs1]; decide) (by rw [hs1]; decide) (by rw [hs1]; decide) (by decide) ?_
    refine lv_aload_n S.1 S.2.1 d_B_order_61 rfl (lv_at hl 0 rfl) ?_
    refine m_get S hw cl_O hOk 2 (by decide) g389 (fun _ h => h) rfl d_B_order_62 ?_
    refine lv_if_eq (tgt := 72) S.1 S.2.1 d_B_order_65 rfl (fun h65 => ?_) (fun h65 => ?_)
    · refine lv_iconst (v := 0) S.1 S.2.1 d_B_order_72 (by decide) ?_
      exact m_iret S hlk hr rfl hw (⟨(show och (sI σ) k w0 = 0 from by rw [hs1]; show sI σ 1 k = 0; exact h65).symm, rfl⟩) (Nat.le_refl _) (Nat.le_refl _) d_B_order_73
    · refine lv_iconst (v := 1) S.1 S.2.1 d_B_order_68 (by decide) ?_
      refine lv_goto (tgt := 73) S.1 S.2.1 d_B_order_69 rfl ?_
      exact m_iret S hlk hr rfl hw (⟨(show och (sI σ) k w0 = 1 from by rw [hs1]; show sI σ 1 k = 1; exact hsd.resolve_left h65).symm, rfl⟩) (Nat.le_refl _) (Nat.le_refl _) d_B_order_73
  by_cases hs2 : w0 = 2
  · refine lv_tableIn (off := 67) (tgt := 74) S.1 S.2.1 d_B_order_7 (by rw [hs2]; decide) (by rw [hs2]; decide) (by rw [hs2]; decide) (by decide) ?_
    refine lv_aload_n S.1 S.2.1 d_B_order_74 rfl (lv_at hl 0 rfl) ?_
    refine m_get S hw cl_O hOk 5 (by decide) g395 (fun _ h => h) rfl d_B_order_75 ?_
    exact m_iret S hlk hr rfl hw (⟨(show och (sI σ) k w0 = (sI σ) 2 k from by rw [hs2]; rfl).symm, rfl⟩) (Nat.le_refl _) (Nat.le_refl _) d_B_order_78
  by_cases hs3 : w0 = 3
  · refine lv_tableIn (off := 72) (tgt := 79) S.1 S.2.1 d_B_order_7 (by rw [hs3]; decide) (by rw [hs3]; decide) (by rw [hs3]; decide) (by decide) ?_
    refine lv_aload_n S.1 S.2.1 d_B_order_79 rfl (lv_at hl 0 rfl) ?_
    refine m_get S hw cl_O hOk 6 (by decide) g398 (fun _ h => h) rfl d_B_order_80 ?_
    exact m_iret S hlk hr rfl hw (⟨(show och (sI σ) k w0 = (sI σ) 3 k from by rw [hs3]; rfl).symm, rfl⟩) (Nat.le_refl _) (Nat.le_refl _) d_B_order_83
  by_cases hs4 : w0 = 4
  · refine lv_tableIn (off := 77) (tgt := 84) S.1 S.2.1 d_B_order_7 (by rw [hs4]; decide) (by rw [hs4]; decide) (by rw [hs4]; decide) (by decide) ?_
    refine lv_aload_n S.1 S.2.1 d_B_order_84 rfl (lv_at hl 0 rfl) ?_
    refine m_get S hw cl_O hOk 7 (by decide) g400 (fun _ h => h) rfl d_B_order_85 ?_
    exact m_iret S hlk hr rfl hw (⟨(show och (sI σ) k w0 = (sI σ) 4 k from by rw [hs4]; rfl).symm, rfl⟩) (Nat.le_refl _) (Nat.le_refl _) d_B_order_88
  by_cases hs5 : w0 = 5
  · refine lv_tableIn (off := 82) (tgt := 89) S.1 S.2.1 d_B_order_7 (by rw [hs5]; decide) (by rw [hs5]; decide) (by rw [hs5]; decide) (by decide) ?_
    refine lv_aload_n S.1 S.2.1 d_B_order_89 rfl (lv_at hl 0 rfl) ?_
    refine m_get S hw cl_O hOk 8 (by decide) g403 (fun _ h => h) rfl d_B_order_90 ?_
    exact m_iret S hlk hr rfl hw (⟨(show och (sI σ) k w0 = (sI σ) 5 k from by rw [hs5]; rfl).symm, rfl⟩) (Nat.le_refl _) (Nat.le_refl _) d_B_order_93
  by_cases hs6 : w0 = 6
  · refine lv_tableIn (off := 87) (tgt := 94) S.1 S.2.1 d_B_order_7 (by rw [hs6]; decide) (by rw [hs6]; decide) (by rw [hs6]; decide) (by decide) ?_
    refine lv_aload_n S.1 S.2.1 d_B_order_94 rfl (lv_at hl 0 rfl) ?_
    refine m_get S hw cl_O hOk 4 (by decide) g393 (fun _ h => h) rfl d_B_order_95 ?_
    exact m_iret S hlk hr rfl hw (⟨(show och (sI σ) k w0 = (sI σ) 6 k from by rw [hs6]; rfl).symm, rfl⟩) (Nat.le_refl _) (Nat.le_refl _) d_B_order_98
  by_cases hs7 : w0 = 7
  · refine lv_tableIn (off := 92) (tgt := 99) S.1 S.2.1 d_B_order_7 (by rw [hs7]; decide) (by rw [hs7]; decide) (by rw [hs7]; decide) (by decide) ?_
    refine lv_aload_n S.1 S.2.1 d_B_order_99 rfl (lv_at hl 0 rfl) ?_
    refine m_get S hw cl_O hOk 9 (by decide) g405 (fun _ h => h) rfl d_B_order_100 ?_
    exact m_iret S hlk hr rfl hw (⟨(show och (sI σ) k w0 = (sI σ) 7 k from by rw [hs7]; rfl).symm, rfl⟩) (Nat.le_refl _) (Nat.le_refl _) d_B_order_103
  by_cases hs8 : w0 = 8
  · refine lv_tableIn (off := 97) (tgt := 104) S.1 S.2.1 d_B_order_7 (by rw [hs8]; decide) (by rw [hs8]; decide) (by rw [hs8]; decide) (by decide) ?_
    refine lv_aload_n S.1 S.2.1 d_B_order_104 rfl (lv_at hl 0 rfl) ?_
    refine m_get S hw cl_O hOk 3 (by decide) g391 (fun _ h => h) rfl d_B_order_105 ?_
    exact m_iret S hlk hr rfl hw (⟨(show och (sI σ) k w0 = (sI σ) 8 k from by rw [hs8]; rfl).symm, rfl⟩) (Nat.le_refl _) (Nat.le_refl _) d_B_order_108
  refine lv_tableOut (tgt := 109) S.1 S.2.1 d_B_order_7 (by have q0 := lv_neT hs0 (show (0 : Int32).toInt = 0 by decide); have q1 := lv_neT hs1 (show (1 : Int32).toInt = 1 by decide); have q2 := lv_neT hs2 (show (2 : Int32).toInt = 2 by decide); have q3 := lv_neT hs3 (show (3 : Int32).toInt = 3 by decide); have q4 := lv_neT hs4 (show (4 : Int32).toInt = 4 by decide); have q5 := lv_neT hs5 (show (5 : Int32).toInt = 5 by decide); have q6 := lv_neT hs6 (show (6 : Int32).toInt = 6 by decide); have q7 := lv_neT hs7 (show (7 : Int32).toInt = 7 by decide); have q8 := lv_neT hs8 (show (8 : Int32).toInt = 8 by decide); omega) (by decide) ?_
  exfalso
  have hv9 := rg_i hv
  rw [show (0 : Int32).toInt = 0 by decide, show (8 : Int32).toInt = 8 by decide] at hv9
  have q0 := lv_neT hs0 (show (0 : Int32).toInt = 0 by decide)
  have q1 := lv_neT hs1 (show (1 : Int32).toInt = 1 by decide)
  have q2 := lv_neT hs2 (show (2 : Int32).toInt = 2 by decide)
  have q3 := lv_neT hs3 (show (3 : Int32).toInt = 3 by decide)
  have q4 := lv_neT hs4 (show (4 : Int32).toInt = 4 by decide)
  have q5 := lv_neT hs5 (show (5 : Int32).toInt = 5 by decide)
  have q6 := lv_neT hs6 (show (6 : Int32).toInt = 6 by decide)
  have q7 := lv_neT hs7 (show (7 : Int32).toInt = 7 by decide)
  have q8 := lv_neT hs8 (show (8 : Int32).toInt = 8 by decide)
  omega
set_option maxHeartbeats 4000000 in
set_option maxRecDepth 100000 in
theorem c_B_depth (l : Launch) (γ : mG) (M : mMap) (β : BK) (oa cp : Nat → Nat) (L : Nat → List Nat) (σ : St) (hC : CB γ M β oa cp L σ) (hI : Inv0 σ) (hL : LN σ L) (b0 : Int32) (hb0 : b0 = 0 ∨ b0 = 1) (p0 f0 : Int32) (hv : rg 0 2000 p0 = true) : Met l y_B_depth w_B_depth ({ frames := 3, cells := 0, slots := 0, locals := 64 } : Room) (mPc γ M [.ref (bx β), .int b0, .int p0, .int f0]) (mQl γ (fun r M' => r = dS (sI σ) f0 p0 (L (sj b0)) ∧ M' = M)) 0 0 (mA (gz γ)) := by
  refine m_enter (by decide) (Nat.le_of_ble_eq_true rfl) ?_
  intro p e s m below meth c ls S hr hlk hnm hl hw
  have hl : lv_has ls 9 [(0, .ref (bx β)), (1, .int b0), (2, .int p0), (3, .int f0)] := hl
  obtain ⟨r0, hA0⟩ := hC.list (sj_or b0)
  obtain ⟨⟨md0, hl0⟩, -⟩ := id hA0
  have hLj : Line (sI σ) (sn σ) b0 (L (sj b0)) := sj_val hb0 hL
  have hml : ((L (sj b0)).map oa).length = (L (sj b0)).length := List.length_map _
  have hlen : (L (sj b0)).length ≤ 250 := hLj.len hI.1
  refine lv_iload_n S.1 S.2.1 d_B_depth_0 rfl (lv_at hl 2 rfl) ?_
  refine m_ci hw (va_runS (As := [.int p0]) (rest := []) S (c_B_isPriceOrMarket l γ M p0) (m_cwS 1 S g286 g287 g41 g288 rfl rfl ⟨by decide +kernel, by decide +kernel, by decide +kernel⟩ ⟨(Nat.le_of_ble_eq_true rfl), (Nat.le_of_ble_eq_true rfl)⟩) hw.preS rfl rfl hl.1 rfl (lv_room (Nat.le_of_ble_eq_true rfl)) d_B_depth_1 ⟨(Nat.zero_le _), (Nat.zero_le _)⟩) (fun r1 M1 H locs hp hw => ?_)
  obtain ⟨rfl, hM1⟩ := hp
  rw [hM1] at hw
  refine lv_if_ne (tgt := 15) S.1 S.2.1 d_B_depth_4 rfl (fun _ => ?_) (fun h => absurd h (b2i_n0.mpr hv))
  refine lv_aload_n S.1 S.2.1 d_B_depth_15 rfl (lv_at hl 0 rfl) ?_
  refine lv_iload_n S.1 S.2.1 d_B_depth_16 rfl (lv_at hl 1 rfl) ?_
  refine m_cq hw (va_runV (As := [.int b0]) (rest := []) S (c_B_side l γ M β σ.2.1 hC.book b0) (m_cwV 1 S g181 g183 g0 g41 g184 rfl rfl ⟨by decide +kernel, by decide +kernel, by decide +kernel⟩ ⟨(Nat.le_of_ble_eq_true rfl), (Nat.le_of_ble_eq_true rfl)⟩) (hw.preV hC.book cl_B.1) rfl rfl hl.1 rfl (lv_room (Nat.le_of_ble_eq_true rfl)) d_B_depth_17 ⟨(Nat.zero_le _), (Nat.zero_le _)⟩) (fun r1 M1 H locs hp hw => ?_)
  obtain ⟨rfl, hM1⟩ := hp
  rw [hM1] at hw
  refine m_get S hw cl_S (hC.side (sj_or _)) 0 (by decide) g105 (fun _ h => h) rfl d_B_depth_20 ?_
  refine lv_astore S.1 S.2.1 d_B_depth_23 hl (by decide) rfl (fun ls hl => ?_)
  have hl : lv_has ls 9 [(4, .ref (bal β (sj b0))), (0, .ref (bx β)), (1, .int b0), (2, .int p0), (3, .int f0)] := hl
  refine lv_lconst (v := 0) S.1 S.2.1 d_B_depth_25 (by decide) ?_
  refine lv_lstore S.1 S.2.1 d_B_depth_26 hl (by decide) rfl (fun ls hl => ?_)
  have hl : lv_has ls 9 [(5, .long 0), (4, .ref (bal β (sj b0))), (0, .ref (bx β)), (1, .int b0), (2, .int p0), (3, .int f0)] := hl
  refine lv_iconst (v := 0) S.1 S.2.1 d_B_depth_28 (by decide) ?_
  refine lv_istore S.1 S.2.1 d_B_depth_29 hl (by decide) rfl (fun ls hl => ?_)
  have hl : lv_has ls 9 [(7, .int 0), (5, .long 0), (4, .ref (bal β (sj b0))), (0, .ref (bx β)), (1, .int b0), (2, .int p0), (3, .int f0)] := hl
  have loop : ∀ (d i0 : Nat) (a : Int64) (H : Heap) (locs : List Loc) (ls : Array Slot), i0 + d = (L (sj b0)).length → a = dS (sI σ) f0 p0 ((L (sj b0)).take i0) → lv_has ls 9 [(7, .int (nI i0)), (5, .long a), (4, .ref (bal β (sj b0))), (2, .int p0), (3, .int f0)] → mW γ M s H locs → W p l e ({ frames := 3, cells := 0, slots := 0, locals := 64 } : Room) s m #[.ref (bx β), .int b0, .int p0, .int f0] below meth c H locs 0 0 (MQ below (mQl γ (fun r M' => r = dS (sI σ) f0 p0 (L (sj b0)) ∧ M' = M)) #[.ref (bx β), .int b0, .int p0, .int f0] s 0 0 (mA (gz γ))) (F0 m 31 ls []) := by
    intro d
    induction d with
    | zero =>
      intro i0 a H locs ls hi ha hl hw
      refine lv_iload S.1 S.2.1 d_B_depth_31 (lv_at hl 0 rfl) ?_
      refine lv_aload S.1 S.2.1 d_B_depth_33 (lv_at hl 2 rfl) ?_
      refine m_ci hw (va_runV (As := []) (rest := [.int (nI i0)]) S (c_AL_size l γ M (bal β (sj b0)) md0 _ _ hl0) (m_cwV 0 S g185 g186 g187 g44 g188 rfl rfl ⟨by decide +kernel, by decide +kernel, by decide +kernel⟩ ⟨(Nat.le_of_ble_eq_true rfl), (Nat.le_of_ble_eq_true rfl)⟩) (hw.preV hl0 cl_AL.1) rfl rfl hl.1 rfl (lv_room (Nat.le_of_ble_eq_true rfl)) d_B_depth_35 ⟨(Nat.zero_le _), (Nat.zero_le _)⟩) (fun r1 M1 H locs hp hw => ?_)
      obtain ⟨rfl, hM1⟩ := hp
      rw [hM1] at hw
      refine lv_icmp_ge (tgt := 92) S.1 S.2.1 d_B_depth_38 rfl (fun _ => ?_) (fun h => absurd (nI_le (by omega) (by omega)) h)
      refine lv_lload S.1 S.2.1 d_B_depth_92 (lv_at hl 1 rfl) ?_
      exact m_lret S hlk hr hw (⟨by rw [ha, List.take_of_length_le (by omega)], rfl⟩) (Nat.le_refl _) (Nat.le_refl _) d_B_depth_94
    | succ d ih =>
      intro i0 a H locs ls hi ha hl hw
      have hbd : i0 < (L (sj b0)).length := by omega
      have hm := (hLj.1 (L (sj b0))[i0]).mp (List.getElem_mem hbd)
      refine lv_iload S.1 S.2.1 d_B_depth_31 (lv_at hl 0 rfl) ?_
      refine lv_aload S.1 S.2.1 d_B_depth_33 (lv_at hl 2 rfl) ?_
      refine m_ci hw (va_runV (As := []) (rest := [.int (nI i0)]) S (c_AL_size l γ M (bal β (sj b0)) md0 _ _ hl0) (m_cwV 0 S g185 g186 g187 g44 g188 rfl rfl ⟨by decide +kernel, by decide +kernel, by decide +kernel⟩ ⟨(Nat.le_of_ble_eq_true rfl), (Nat.le_of_ble_eq_true rfl)⟩) (hw.preV hl0 cl_AL.1) rfl rfl hl.1 rfl (lv_room (Nat.le_of_ble_eq_true rfl)) d_B_depth_35 ⟨(Nat.zero_le _), (Nat.zero_le _)⟩) (fun r1 M1 H locs hp hw => ?_)
      obtain ⟨rfl, hM1⟩ := hp
      rw [hM1] at hw
      refine lv_icmp_ge (tgt := 92) S.1 S.2.1 d_B_depth_38 rfl (fun h => absurd h (nI_ge (by omega) (by omega))) (fun _ => ?_)
      refine lv_aload S.1 S.2.1 d_B_depth_41 (lv_at hl 2 rfl) ?_
      refine lv_iload S.1 S.2.1 d_B_depth_43 (lv_at hl 0 rfl) ?_
      refine m_cq hw (va_runV (As := [.int (nI i0)]) (rest := []) S (c_AL_get l γ M (bal β (sj b0)) r0 (cp (sj b0)) ((L (sj b0)).map oa) hA0 i0 (by omega)) (m_cwV 1 S g189 g190 g191 g44 g192 rfl rfl ⟨by decide +kernel, by decide +kernel, by decide +kernel⟩ ⟨(Nat.le_of_ble_eq_true rfl), (Nat.le_of_ble_eq_true rfl)⟩) (hw.preV hl0 cl_AL.1) rfl rfl hl.1 rfl (lv_room (Nat.le_of_ble_eq_true rfl)) d_B_depth_45 ⟨(Nat.zero_le _), (Nat.zero_le _)⟩) (fun r1 M1 H locs hp hw => ?_)
      obtain ⟨rfl, hM1⟩ := hp
      rw [hM1] at hw
      have hge := map_at (oa := oa) hbd
      refine W.eq (g2 := F0 m 48 ls [.ref (oa (L (sj b0))[i0])]) (by rw [hge]; rfl) ?_
      refine m_cast S hw cl_O (hC.ord _ hm.1) g203 d_B_depth_48 ?_
      refine lv_astore S.1 S.2.1 d_B_depth_51 hl (by decide) rfl (fun ls hl => ?_)
      have hl : lv_has ls 9 [(8, .ref (oa (L (sj b0))[i0])), (7, .int (nI i0)), (5, .long a), (4, .ref (bal β (sj b0))), (2, .int p0), (3, .int f0)] := hl
      refine lv_aload S.1 S.2.1 d_B_depth_53 (lv_at hl 0 rfl) ?_
      refine m_get S hw cl_O (hC.ord _ hm.1) 5 (by decide) g395 (fun _ h => h) rfl d_B_depth_55 ?_
      refine lv_iload_n S.1 S.2.1 d_B_depth_58 rfl (lv_at hl 4 rfl) ?_
      refine lv_icmp_ne (tgt := 86) S.1 S.2.1 d_B_depth_59 rfl (fun h59 => ?_) (fun h59 => ?_)
      · refine lv_iinc (k := 1) (v := nI (i0 + 1)) S.1 S.2.1 d_B_depth_86 hl rfl (nI_1 i0) (by decide) rfl (fun ls hl => ?_)
        have hl : lv_has ls 9 [(7, .int (nI (i0 + 1))), (8, .ref (oa (L (sj b0))[i0])), (5, .long a), (4, .ref (bal β (sj b0))), (2, .int p0), (3, .int f0)] := hl
        refine lv_goto (tgt := 31) S.1 S.2.1 d_B_depth_89 rfl ?_
        have hl := lv_sub hl [0, 2, 3, 4, 5] rfl
        exact ih (i0 + 1) _ H locs ls (by omega) (by rw [dS_up hbd, ha, if_neg h59, Int64.add_zero]) hl hw
      · refine lv_lload S.1 S.2.1 d_B_depth_62 (lv_at hl 2 rfl) ?_
        refine lv_iload_n S.1 S.2.1 d_B_depth_64 rfl (lv_at hl 5 rfl) ?_
        refine lv_if_eq (tgt := 77) S.1 S.2.1 d_B_depth_65 rfl (fun h65 => ?_) (fun h65 => ?_)
        · refine lv_aload S.1 S.2.1 d_B_depth_77 (lv_at hl 0 rfl) ?_
          refine m_get S hw cl_O (hC.ord _ hm.1) 7 (by decide) g400 (fun _ h => h) rfl d_B_depth_79 ?_
          refine lv_i2l S.1 S.2.1 d_B_depth_82 rfl ?_
          refine lv_ladd S.1 S.2.1 d_B_depth_83 ?_
          refine lv_lstore S.1 S.2.1 d_B_depth_84 hl (by decide) rfl (fun ls hl => ?_)
          have hl : lv_has ls 9 [(5, .long (a + (((sI σ) 4 ((L (sj b0))[i0])).toInt64))), (8, .ref (oa (L (sj b0))[i0])), (7, .int (nI i0)), (4, .ref (bal β (sj b0))), (2, .int p0), (3, .int f0)] := hl
          refine lv_iinc (k := 2) (v := nI (i0 + 1)) S.1 S.2.1 d_B_depth_86 hl rfl (nI_1 i0) (by decide) rfl (fun ls hl => ?_)
          have hl : lv_has ls 9 [(7, .int (nI (i0 + 1))), (5, .long (a + (((sI σ) 4 ((L (sj b0))[i0])).toInt64))), (8, .ref (oa (L (sj b0))[i0])), (4, .ref (bal β (sj b0))), (2, .int p0), (3, .int f0)] := hl
          refine lv_goto (tgt := 31) S.1 S.2.1 d_B_depth_89 rfl ?_
          have hl := lv_sub hl [0, 1, 3, 4, 5] rfl
          exact ih (i0 + 1) _ H locs ls (by omega) (by rw [dS_up hbd, ha, if_pos h59, if_pos h65]) hl hw
        · refine lv_aload S.1 S.2.1 d_B_depth_68 (lv_at hl 0 rfl) ?_
          refine m_get S hw cl_O (hC.ord _ hm.1) 6 (by decide) g398 (fun _ h => h) rfl d_B_depth_70 ?_
          refine lv_i2l S.1 S.2.1 d_B_depth_73 rfl ?_
          refine lv_goto (tgt := 83) S.1 S.2.1 d_B_depth_74 rfl ?_
          refine lv_ladd S.1 S.2.1 d_B_depth_83 ?_
          refine lv_lstore S.1 S.2.1 d_B_depth_84 hl (by decide) rfl (fun ls hl => ?_)
          have hl : lv_has ls 9 [(5, .long (a + (((sI σ) 3 ((L (sj b0))[i0])).toInt64))), (8, .ref (oa (L (sj b0))[i0])), (7, .int (nI i0)), (4, .ref (bal β (sj b0))), (2, .int p0), (3, .int f0)] := hl
          refine lv_iinc (k := 2) (v := nI (i0 + 1)) S.1 S.2.1 d_B_depth_86 hl rfl (nI_1 i0) (by decide) rfl (fun ls hl => ?_)
          have hl : lv_has ls 9 [(7, .int (nI (i0 + 1))), (5, .long (a + (((sI σ) 3 ((L (sj b0))[i0])).toInt64))), (8, .ref (oa (L (sj b0))[i0])), (4, .ref (bal β (sj b0))), (2, .int p0), (3, .int f0)] := hl
          refine lv_goto (tgt := 31) S.1 S.2.1 d_B_depth_89 rfl ?_
          have hl := lv_sub hl [0, 1, 3, 4, 5] rfl
          exact ih (i0 + 1) _ H locs ls (by omega) (by rw [dS_up hbd, ha, if_pos h59, if_neg h65]) hl hw
  have hl := lv_sub hl [0, 1, 2, 5, 6] rfl
  exact loop _ 0 0 H locs ls (Nat.zero_add _) rfl hl hw
set_option maxHeartbeats 4000000 in
set_option maxRecDepth 100000 in
theorem c_B_cancel (l : Launch) (γ : mG) (M : mMap) (β : BK) (oa cp : Nat → Nat) (L : Nat → List Nat) (σ : St) (hC : CB γ M β oa cp L σ) (hI : Inv0 σ) (hL : LN σ L) (k : Nat) (hk : k < sn σ) (hr5 : ¬ sI σ 5 k = -1) : Met l y_B_cancel w_B_cancel ({ frames := 5, cells := 0, slots := 0, locals := 137 } : Room) (mPc γ M [.ref (bx β), .int (nI k)]) (mQi γ (fun r M' => r = sI σ 3 k ∧ ∃ L', CB γ M' β oa cp L' (xEnd σ k) ∧ Inv0 (xEnd σ k) ∧ LN (xEnd σ k) L' ∧ frC M M')) 0 0 (mA (gz γ)) := by
  refine m_enter (by decide) (Nat.le_of_ble_eq_true rfl) ?_
  intro p e s m below meth c ls S hr hlk hnm hl hw
  have hl : lv_has ls 4 [(0, .ref (bx β)), (1, .int (nI k))] := hl
  have hn := hI.1
  have hOk := hC.ord k hk
  refine lv_aload_n S.1 S.2.1 d_B_cancel_0 rfl (lv_at hl 0 rfl) ?_
  refine lv_iload_n S.1 S.2.1 d_B_cancel_1 rfl (lv_at hl 1 rfl) ?_
  refine m_cq hw (va_runV (As := [.int (nI k)]) (rest := []) S (c_B_known l γ M β oa cp L σ hC hn k hk) (m_cwV 1 S g586 g588 g18 g41 g589 rfl rfl ⟨by decide +kernel, by decide +kernel, by decide +kernel⟩ ⟨(Nat.le_of_ble_eq_true rfl), (Nat.le_of_ble_eq_true rfl)⟩) (hw.preV hC.book cl_B.1) rfl rfl hl.1 rfl (lv_room (Nat.le_of_ble_eq_true rfl)) d_B_cancel_2 ⟨(Nat.zero_le _), (Nat.zero_le _)⟩) (fun r1 M1 H locs hp hw => ?_)
  obtain ⟨rfl, hM1⟩ := hp
  rw [hM1] at hw
  refine W.eq (g2 := F0 m 5 ls [.ref (oa k)]) rfl ?_
  refine lv_astore_n S.1 S.2.1 d_B_cancel_5 rfl hl (by decide) rfl (fun ls hl => ?_)
  have hl : lv_has ls 4 [(2, .ref (oa k)), (0, .ref (bx β)), (1, .int (nI k))] := hl
  refine lv_aload_n S.1 S.2.1 d_B_cancel_6 rfl (lv_at hl 0 rfl) ?_
  refine m_ci hw (va_runV (As := []) (rest := []) S (c_O_rests l γ M (oa k) _ _ _ _ _ _ _ _ _ _ hOk) (m_cwV 0 S g270 g244 g245 g54 g246 rfl rfl ⟨by decide +kernel, by decide +kernel, by decide +kernel⟩ ⟨(Nat.le_of_ble_eq_true rfl), (Nat.le_of_ble_eq_true rfl)⟩) (hw.preV hOk cl_O.1) rfl rfl hl.1 rfl (lv_room (Nat.le_of_ble_eq_true rfl)) d_B_cancel_7 ⟨(Nat.zero_le _), (Nat.zero_le _)⟩) (fun r1 M1 H locs hp hw => ?_)
  obtain ⟨rfl, hM1⟩ := hp
  rw [hM1] at hw
  refine lv_if_ne (tgt := 21) S.1 S.2.1 d_B_cancel_10 rfl (fun _ => ?_) (fun h => absurd h (b2i_n0.mpr (decide_eq_true hr5)))
  refine lv_aload_n S.1 S.2.1 d_B_cancel_21 rfl (lv_at hl 0 rfl) ?_
  refine m_get S hw cl_O hOk 6 (by decide) g398 (fun _ h => h) rfl d_B_cancel_22 ?_
  refine lv_istore_n S.1 S.2.1 d_B_cancel_25 rfl hl (by decide) rfl (fun ls hl => ?_)
  have hl : lv_has ls 4 [(3, .int ((sI σ) 3 k)), (2, .ref (oa k)), (0, .ref (bx β)), (1, .int (nI k))] := hl
  refine lv_aload_n S.1 S.2.1 d_B_cancel_26 rfl (lv_at hl 2 rfl) ?_
  refine lv_aload_n S.1 S.2.1 d_B_cancel_27 rfl (lv_at hl 1 rfl) ?_
  refine m_cv hw (va_runV (As := [.ref (oa k)]) (rest := []) S (c_B_finish l γ M β oa cp L σ hC hI.b hL k hk) (m_cwV 1 S g563 g565 g16 g41 g566 rfl rfl ⟨by decide +kernel, by decide +kernel, by decide +kernel⟩ ⟨(Nat.le_of_ble_eq_true rfl), (Nat.le_of_ble_eq_true rfl)⟩) (hw.preV hC.book cl_B.1) rfl rfl hl.1 rfl (lv_room (Nat.le_of_ble_eq_true rfl)) d_B_cancel_28 ⟨(Nat.zero_le _), (Nat.zero_le _)⟩) (fun M1 H locs hp hw => ?_)
  obtain ⟨L3, hC3, hB3, hL3, hf3⟩ := hp
  refine lv_iload_n S.1 S.2.1 d_B_cancel_31 rfl (lv_at hl 0 rfl) ?_
  exact m_iret S hlk hr rfl hw (⟨rfl, L3, hC3, end_inv (hI.x k) hB3, hL3, hf3⟩) (Nat.le_refl _) (Nat.le_refl _) d_B_cancel_32
set_option maxHeartbeats 4000000 in
set_option maxRecDepth 100000 in
theorem c_B_cancelAll (l : Launch) (γ : mG) (M : mMap) (β : BK) (oa cp : Nat → Nat) (L : Nat → List Nat) (σ : St) (hC : CB γ M β oa cp L σ) (hI : Inv0 σ) (hL : LN σ L) (w0 : Int32) (hv : rg 0 9 w0 = true) : Met l y_B_cancelAll w_B_cancelAll ({ frames := 5, cells := 0, slots := 0, locals := 137 } : Room) (mPc γ M [.ref (bx β), .int w0]) (mQi γ (fun r M' => r = nI (xCan σ w0 (sn σ)).2 ∧ ∃ L', CB γ M' β oa cp L' (xCan σ w0 (sn σ)).1 ∧ Inv0 (xCan σ w0 (sn σ)).1 ∧ LN (xCan σ w0 (sn σ)).1 L' ∧ frC M M')) 0 0 (mA (gz γ)) := by
  refine m_enter (by decide) (Nat.le_of_ble_eq_true rfl) ?_
  intro p e s m below meth c ls S hr hlk hnm hl hw
  have hl : lv_has ls 5 [(0, .ref (bx β)), (1, .int w0)] := hl
  have hn := hI.1
  refine lv_iload_n S.1 S.2.1 d_B_cancelAll_0 rfl (lv_at hl 1 rfl) ?_
  refine m_ci hw (va_runS (As := [.int w0]) (rest := []) S (c_B_isOwner l γ M w0) (m_cwS 1 S g283 g284 g41 g285 rfl rfl ⟨by decide +kernel, by decide +kernel, by decide +kernel⟩ ⟨(Nat.le_of_ble_eq_true rfl), (Nat.le_of_ble_eq_true rfl)⟩) hw.preS rfl rfl hl.1 rfl (lv_room (Nat.le_of_ble_eq_true rfl)) d_B_cancelAll_1 ⟨(Nat.zero_le _), (Nat.zero_le _)⟩) (fun r1 M1 H locs hp hw => ?_)
  obtain ⟨rfl, hM1⟩ := hp
  rw [hM1] at hw
  refine lv_if_ne (tgt := 15) S.1 S.2.1 d_B_cancelAll_4 rfl (fun _ => ?_) (fun h => absurd h (b2i_n0.mpr hv))
  refine lv_iconst (v := 0) S.1 S.2.1 d_B_cancelAll_15 (by decide) ?_
  refine lv_istore_n S.1 S.2.1 d_B_cancelAll_16 rfl hl (by decide) rfl (fun ls hl => ?_)
  have hl : lv_has ls 5 [(2, .int 0), (0, .ref (bx β)), (1, .int w0)] := hl
  refine lv_iconst (v := 0) S.1 S.2.1 d_B_cancelAll_17 (by decide) ?_
  refine lv_istore_n S.1 S.2.1 d_B_cancelAll_18 rfl hl (by decide) rfl (fun ls hl => ?_)
  have hl : lv_has ls 5 [(3, .int 0), (2, .int 0), (0, .ref (bx β)), (1, .int w0)] := hl
  have loop : ∀ (d i0 : Nat) (M2 : mMap) (L2 : Nat → List Nat) (H : Heap) (locs : List Loc) (ls : Array Slot), i0 + d = sn σ → CB γ M2 β oa cp L2 (xCan σ w0 i0).1 → Inv0 (xCan σ w0 i0).1 → LN (xCan σ w0 i0).1 L2 → frC M M2 → lv_has ls 5 [(3, .int (nI i0)), (2, .int (nI (xCan σ w0 i0).2)), (0, .ref (bx β)), (1, .int w0)] → mW γ M2 s H locs → W p l e ({ frames := 5, cells := 0, slots := 0, locals := 137 } : Room) s m #[.ref (bx β), .int w0] below meth c H locs 0 0 (MQ below (mQi γ (fun r M' => r = nI (xCan σ w0 (sn σ)).2 ∧ ∃ L', CB γ M' β oa cp L' (xCan σ w0 (sn σ)).1 ∧ Inv0 (xCan σ w0 (sn σ)).1 ∧ LN (xCan σ w0 (sn σ)).1 L' ∧ frC M M')) #[.ref (bx β), .int w0] s 0 0 (mA (gz γ))) (F0 m 19 ls []) := by
    intro d
    induction d with
    | zero =>
      intro i0 M2 L2 H locs ls hi hC2 hI2 hL2 hf2 hl hw
      obtain ⟨hcs, hcc, hc2⟩ := can_sn σ w0 i0
      obtain ⟨r0, hA0⟩ := hC2.alls
      obtain ⟨⟨md0, hl0⟩, -⟩ := id hA0
      have hml : ((List.range (sn (xCan σ w0 i0).1)).map oa).length = sn σ := rg_len.trans hcs
      have hi2 : i0 = sn σ := by omega
      refine lv_iload_n S.1 S.2.1 d_B_cancelAll_19 rfl (lv_at hl 0 rfl) ?_
      refine lv_aload_n S.1 S.2.1 d_B_cancelAll_20 rfl (lv_at hl 2 rfl) ?_
      refine m_get S hw cl_B hC2.book 0 (by decide) g145 (fun _ h => h) rfl d_B_cancelAll_21 ?_
      refine m_ci hw (va_runV (As := []) (rest := [.int (nI i0)]) S (c_AL_size l γ M2 (bal β 0) md0 _ _ hl0) (m_cwV 0 S g185 g186 g187 g44 g188 rfl rfl ⟨by decide +kernel, by decide +kernel, by decide +kernel⟩ ⟨(Nat.le_of_ble_eq_true rfl), (Nat.le_of_ble_eq_true rfl)⟩) (hw.preV hl0 cl_AL.1) rfl rfl hl.1 rfl (lv_room (Nat.le_of_ble_eq_true rfl)) d_B_cancelAll_24 ⟨(Nat.zero_le _), (Nat.zero_le _)⟩) (fun r1 M1 H locs hp hw => ?_)
      obtain ⟨rfl, hM1⟩ := hp
      rw [hM1] at hw
      refine lv_icmp_ge (tgt := 75) S.1 S.2.1 d_B_cancelAll_27 rfl (fun _ => ?_) (fun h => absurd (nI_le (by omega) (by omega)) h)
      refine lv_iload_n S.1 S.2.1 d_B_cancelAll_75 rfl (lv_at hl 1 rfl) ?_
      exact m_iret S hlk hr rfl hw (⟨by rw [hi2], L2, by rw [← hi2]; exact hC2, by rw [← hi2]; exact hI2, by rw [← hi2]; exact hL2, hf2⟩) (Nat.le_refl _) (Nat.le_refl _) d_B_cancelAll_76
    | succ d ih =>
      intro i0 M2 L2 H locs ls hi hC2 hI2 hL2 hf2 hl hw
      obtain ⟨hcs, hcc, hc2⟩ := can_sn σ w0 i0
      obtain ⟨r0, hA0⟩ := hC2.alls
      obtain ⟨⟨md0, hl0⟩, -⟩ := id hA0
      have hml : ((List.range (sn (xCan σ w0 i0).1)).map oa).length = sn σ := rg_len.trans hcs
      have hbd : i0 < sn σ := by omega
      have hk : i0 < sn (xCan σ w0 i0).1 := by rw [hcs]; exact hbd
      have hge := rg_at (f := oa) hk
      have hOk := hC2.ord i0 hk
      refine lv_iload_n S.1 S.2.1 d_B_cancelAll_19 rfl (lv_at hl 0 rfl) ?_
      refine lv_aload_n S.1 S.2.1 d_B_cancelAll_20 rfl (lv_at hl 2 rfl) ?_
      refine m_get S hw cl_B hC2.book 0 (by decide) g145 (fun _ h => h) rfl d_B_cancelAll_21 ?_
      refine m_ci hw (va_runV (As := []) (rest := [.int (nI i0)]) S (c_AL_size l γ M2 (bal β 0) md0 _ _ hl0) (m_cwV 0 S g185 g186 g187 g44 g188 rfl rfl ⟨by decide +kernel, by decide +kernel, by decide +kernel⟩ ⟨(Nat.le_of_ble_eq_true rfl), (Nat.le_of_ble_eq_true rfl)⟩) (hw.preV hl0 cl_AL.1) rfl rfl hl.1 rfl (lv_room (Nat.le_of_ble_eq_true rfl)) d_B_cancelAll_24 ⟨(Nat.zero_le _), (Nat.zero_le _)⟩) (fun r1 M1 H locs hp hw => ?_)
      obtain ⟨rfl, hM1⟩ := hp
      rw [hM1] at hw
      refine lv_icmp_ge (tgt := 75) S.1 S.2.1 d_B_cancelAll_27 rfl (fun h => absurd h (nI_ge (by omega) (by omega))) (fun _ => ?_)
      refine lv_aload_n S.1 S.2.1 d_B_cancelAll_30 rfl (lv_at hl 2 rfl) ?_
      refine m_get S hw cl_B hC2.book 0 (by decide) g145 (fun _ h => h) rfl d_B_cancelAll_31 ?_
      refine lv_iload_n S.1 S.2.1 d_B_cancelAll_34 rfl (lv_at hl 0 rfl) ?_
      refine m_cq hw (va_runV (As := [.int (nI i0)]) (rest := []) S (c_AL_get l γ M2 (bal β 0) r0 (cp 0) ((List.range (sn (xCan σ w0 i0).1)).map oa) hA0 i0 (by omega)) (m_cwV 1 S g189 g190 g191 g44 g192 rfl rfl ⟨by decide +kernel, by decide +kernel, by decide +kernel⟩ ⟨(Nat.le_of_ble_eq_true rfl), (Nat.le_of_ble_eq_true rfl)⟩) (hw.preV hl0 cl_AL.1) rfl rfl hl.1 rfl (lv_room (Nat.le_of_ble_eq_true rfl)) d_B_cancelAll_35 ⟨(Nat.zero_le _), (Nat.zero_le _)⟩) (fun r1 M1 H locs hp hw => ?_)
      obtain ⟨rfl, hM1⟩ := hp
      rw [hM1] at hw
      refine W.eq (g2 := F0 m 38 ls [.ref (oa i0)]) (by rw [hge]; rfl) ?_
      refine m_cast S hw cl_O hOk g203 d_B_cancelAll_38 ?_
      refine lv_astore S.1 S.2.1 d_B_cancelAll_41 hl (by decide) rfl (fun ls hl => ?_)
      have hl : lv_has ls 5 [(4, .ref (oa i0)), (3, .int (nI i0)), (2, .int (nI (xCan σ w0 i0).2)), (0, .ref (bx β)), (1, .int w0)] := hl
      refine lv_aload S.1 S.2.1 d_B_cancelAll_43 (lv_at hl 0 rfl) ?_
      refine m_get S hw cl_O hOk 1 (by decide) g387 (fun _ h => h) rfl d_B_cancelAll_45 ?_
      refine lv_iload_n S.1 S.2.1 d_B_cancelAll_48 rfl (lv_at hl 4 rfl) ?_
      refine lv_icmp_ne (tgt := 69) S.1 S.2.1 d_B_cancelAll_49 rfl (fun h49 => ?_) (fun h49 => ?_)
      · refine lv_iinc (k := 1) (v := nI (i0 + 1)) S.1 S.2.1 d_B_cancelAll_69 hl rfl (nI_1 i0) (by decide) rfl (fun ls hl => ?_)
        have hl : lv_has ls 5 [(3, .int (nI (i0 + 1))), (4, .ref (oa i0)), (2, .int (nI (xCan σ w0 i0).2)), (0, .ref (bx β)), (1, .int w0)] := hl
        refine lv_goto (tgt := 19) S.1 S.2.1 d_B_cancelAll_72 rfl ?_
        have hl := lv_sub hl [0, 2, 3, 4] rfl
        have hX : xCan σ w0 (i0 + 1) = xCan σ w0 i0 := if_neg (fun z => h49 z.1)
        rw [← hX] at hC2 hI2 hL2 hl
        exact ih (i0 + 1) M2 L2 H locs ls (by omega) hC2 hI2 hL2 hf2 hl hw
      · refine lv_aload S.1 S.2.1 d_B_cancelAll_52 (lv_at hl 0 rfl) ?_
        refine m_ci hw (va_runV (As := []) (rest := []) S (c_O_rests l γ M2 (oa i0) _ _ _ _ _ _ _ _ _ _ hOk) (m_cwV 0 S g270 g244 g245 g54 g246 rfl rfl ⟨by decide +kernel, by decide +kernel, by decide +kernel⟩ ⟨(Nat.le_of_ble_eq_true rfl), (Nat.le_of_ble_eq_true rfl)⟩) (hw.preV hOk cl_O.1) rfl rfl hl.1 rfl (lv_room (Nat.le_of_ble_eq_true rfl)) d_B_cancelAll_54 ⟨(Nat.zero_le _), (Nat.zero_le _)⟩) (fun r1 M1 H locs hp hw => ?_)
        obtain ⟨rfl, hM1⟩ := hp
        rw [hM1] at hw
        refine lv_if_eq (tgt := 69) S.1 S.2.1 d_B_cancelAll_57 rfl (fun h57 => ?_) (fun h57 => ?_)
        · refine lv_iinc (k := 1) (v := nI (i0 + 1)) S.1 S.2.1 d_B_cancelAll_69 hl rfl (nI_1 i0) (by decide) rfl (fun ls hl => ?_)
          have hl : lv_has ls 5 [(3, .int (nI (i0 + 1))), (4, .ref (oa i0)), (2, .int (nI (xCan σ w0 i0).2)), (0, .ref (bx β)), (1, .int w0)] := hl
          refine lv_goto (tgt := 19) S.1 S.2.1 d_B_cancelAll_72 rfl ?_
          have hl := lv_sub hl [0, 2, 3, 4] rfl
          have hX : xCan σ w0 (i0 + 1) = xCan σ w0 i0 := if_neg (fun z => absurd z.2 (of_decide_eq_false (b2i_0.mp h57)))
          rw [← hX] at hC2 hI2 hL2 hl
          exact ih (i0 + 1) M2 L2 H locs ls (by omega) hC2 hI2 hL2 hf2 hl hw
        · have hX : xCan σ w0 (i0 + 1) = (xEnd (xCan σ w0 i0).1 i0, (xCan σ w0 i0).2 + 1) := if_pos ⟨h49, of_decide_eq_true (b2i_n0.mp h57)⟩
          refine lv_aload_n S.1 S.2.1 d_B_cancelAll_60 rfl (lv_at hl 3 rfl) ?_
          refine lv_aload S.1 S.2.1 d_B_cancelAll_61 (lv_at hl 0 rfl) ?_
          refine m_cv hw (va_runV (As := [.ref (oa i0)]) (rest := []) S (c_B_finish l γ M2 β oa cp L2 (xCan σ w0 i0).1 hC2 hI2.b hL2 i0 hk) (m_cwV 1 S g563 g565 g16 g41 g566 rfl rfl ⟨by decide +kernel, by decide +kernel, by decide +kernel⟩ ⟨(Nat.le_of_ble_eq_true rfl), (Nat.le_of_ble_eq_true rfl)⟩) (hw.preV hC2.book cl_B.1) rfl rfl hl.1 rfl (lv_room (Nat.le_of_ble_eq_true rfl)) d_B_cancelAll_63 ⟨(Nat.zero_le _), (Nat.zero_le _)⟩) (fun M1 H locs hp hw => ?_)
          obtain ⟨L3, hC3, hB3, hL3, hf3⟩ := hp
          have hI3 := end_inv (hI2.x i0) hB3
          rw [show xEnd (xCan σ w0 i0).1 i0 = (xCan σ w0 (i0 + 1)).1 by rw [hX]] at hC3 hI3 hL3
          refine lv_iinc (k := 2) (v := nI (xCan σ w0 (i0 + 1)).2) S.1 S.2.1 d_B_cancelAll_66 hl rfl (by rw [hX]; exact nI_1 _) (by decide) rfl (fun ls hl => ?_)
          have hl : lv_has ls 5 [(2, .int (nI (xCan σ w0 (i0 + 1)).2)), (4, .ref (oa i0)), (3, .int (nI i0)), (0, .ref (bx β)), (1, .int w0)] := hl
          refine lv_iinc (k := 2) (v := nI (i0 + 1)) S.1 S.2.1 d_B_cancelAll_69 hl rfl (nI_1 i0) (by decide) rfl (fun ls hl => ?_)
          have hl : lv_has ls 5 [(3, .int (nI (i0 + 1))), (2, .int (nI (xCan σ w0 (i0 + 1)).2)), (4, .ref (oa i0)), (0, .ref (bx β)), (1, .int w0)] := hl
          refine lv_goto (tgt := 19) S.1 S.2.1 d_B_cancelAll_72 rfl ?_
          have hl := lv_sub hl [0, 1, 3, 4] rfl
          exact ih (i0 + 1) M1 L3 H locs ls (by omega) hC3 hI3 hL3 (hf2.tr hf3) hl hw
  have hl := lv_sub hl [0, 1, 2, 3] rfl
  exact loop _ 0 M L H locs ls (Nat.zero_add _) hC hI hL (frC.rf M) hl hw
end
section
/-! Opening, in numbers -/
def oRef (τ : St) (r : Int32) : St := (τ.1, (sph τ, r, sbd τ, srk τ), τ.2.2)
def xOp (σ : St) (a : AU) : St := if 0 < a.2.1 then oRef (xOne 250 σ a.1 a.2.1) a.1 else σ
def xSts (σ : St) : Nat → St
  | 0 => σ
  | k + 1 => xStart (xSts σ k) k
theorem start_sn {σ : St} {o : Nat} : sn (xStart σ o) = sn σ := by
  unfold xStart
  split
  · rfl
  · split <;> rfl
theorem start_2 {σ : St} {o : Nat} : (xStart σ o).2 = σ.2 := by
  unfold xStart
  split
  · rfl
  · split <;> rfl
theorem sts_sn (σ : St) : ∀ k, sn (xSts σ k) = sn σ ∧ (xSts σ k).2 = σ.2 := by
  intro k
  induction k with
  | zero => exact ⟨rfl, rfl⟩
  | succ k ih => exact ⟨start_sn.trans ih.1, start_2.trans ih.2⟩
end
section
/-! CallBook.open, in order -/
set_option maxHeartbeats 4000000 in
set_option maxRecDepth 100000 in
theorem c_B_open (l : Launch) (γ : mG) (M : mMap) (β : BK) (oa cp : Nat → Nat) (L : Nat → List Nat) (σ : St) (hC : CB γ M β oa cp L σ) (hI : Inv0 σ) (hL : LN σ L) (hcp : cp 3 = cAt (stn σ)) (hph : ¬ sph σ = 1) (σ1 : St) (hσ1 : xOp σ (aAt (sI σ) (L 1) (L 2) (srf σ) 2000) = σ1) (hT : stn σ1 ≤ 30000) : Met l y_B_open w_B_open ({ frames := 10, cells := kC (stn σ1) - kC (stn σ), slots := kS (stn σ1) - kS (stn σ), locals := 256 } : Room) (mPc γ M [.ref (bx β)]) (mQl γ (fun r M' => r = (aAt (sI σ) (L 1) (L 2) (srf σ) 2000).2.1 ∧ ∃ L' cp', CB γ M' β oa cp' L' (oPh (xSts σ1 (sn σ)) 1) ∧ InvB (oPh (xSts σ1 (sn σ)) 1) ∧ LN (oPh (xSts σ1 (sn σ)) 1) L' ∧ cp' 3 = cAt (stn σ1) ∧ (∀ j, j ≠ 3 → cp' j = cp j) ∧ frW M M')) (kC (stn σ1) - kC (stn σ)) (kS (stn σ1) - kS (stn σ)) (mA (gz γ)) := by
  refine m_enter (by decide) (Nat.le_of_ble_eq_true rfl) ?_
  intro p e s m below meth c ls S hr hlk hnm hl hw
  have hl : lv_has ls 2 [(0, .ref (bx β))] := hl
  obtain ⟨r1, hA1⟩ := hC.list (j := 1) (Or.inl rfl)
  obtain ⟨r2, hA2⟩ := hC.list (j := 2) (Or.inr rfl)
  obtain ⟨a, ha⟩ := hC.auct
  have hn := hI.1
  have loop : ∀ (d i0 : Nat) (M2 : mMap) (cp2 : Nat → Nat) (L2 : Nat → List Nat) (H : Heap) (locs : List Loc) (ls : Array Slot), i0 + d = sn σ → sn σ1 = sn σ → CB γ M2 β oa cp2 L2 (xSts σ1 i0) → InvB (xSts σ1 i0) → LN (xSts σ1 i0) L2 → M2 (bau β) = some (.inr (1, auc (aAt (sI σ) (L 1) (L 2) (srf σ) 2000))) → cp2 3 = cAt (stn σ1) → (∀ j, j ≠ 3 → cp2 j = cp j) → frW M M2 → lv_has ls 2 [(1, .int (nI i0)), (0, .ref (bx β))] → mW γ M2 s H locs → W p l e ({ frames := 10, cells := kC (stn σ1) - kC (stn σ), slots := kS (stn σ1) - kS (stn σ), locals := 256 } : Room) s m #[.ref (bx β)] below meth c H locs (kC (stn σ1) - kC (stn σ)) (kS (stn σ1) - kS (stn σ)) (MQ below (mQl γ (fun r M' => r = (aAt (sI σ) (L 1) (L 2) (srf σ) 2000).2.1 ∧ ∃ L' cp', CB γ M' β oa cp' L' (oPh (xSts σ1 (sn σ)) 1) ∧ InvB (oPh (xSts σ1 (sn σ)) 1) ∧ LN (oPh (xSts σ1 (sn σ)) 1) L' ∧ cp' 3 = cAt (stn σ1) ∧ (∀ j, j ≠ 3 → cp' j = cp j) ∧ frW M M')) #[.ref (bx β)] s (kC (stn σ1) - kC (stn σ)) (kS (stn σ1) - kS (stn σ)) (mA (gz γ))) (F0 m 84 ls []) := by
    intro d
    induction d with
    | zero =>
      intro i0 M2 cp2 L2 H locs ls hi hsn1 hC2 hB2 hL2 hau hcp2 hcpj hf2 hl hw
      obtain ⟨hcs, hc2⟩ := sts_sn σ1 i0
      obtain ⟨r0, hA0⟩ := hC2.alls
      obtain ⟨⟨md0, hl0⟩, -⟩ := id hA0
      have hml : ((List.range (sn (xSts σ1 i0))).map oa).length = sn σ := rg_len.trans (hcs.trans hsn1)
      have hi2 : i0 = sn σ := by omega
      subst hi2
      refine lv_iload_n S.1 S.2.1 d_B_open_84 rfl (lv_at hl 0 rfl) ?_
      refine lv_aload_n S.1 S.2.1 d_B_open_85 rfl (lv_at hl 1 rfl) ?_
      refine m_get S hw cl_B hC2.book 0 (by decide) g145 (fun _ h => h) rfl d_B_open_86 ?_
      refine m_ci hw (va_runV (As := []) (rest := [.int (nI (sn σ))]) S (c_AL_size l γ M2 (bal β 0) md0 _ _ hl0) (m_cwV 0 S g185 g186 g187 g44 g188 rfl rfl ⟨by decide +kernel, by decide +kernel, by decide +kernel⟩ ⟨(Nat.le_of_ble_eq_true rfl), (Nat.le_of_ble_eq_true rfl)⟩) (hw.preV hl0 cl_AL.1) rfl rfl hl.1 rfl (lv_room (Nat.le_of_ble_eq_true rfl)) d_B_open_89 ⟨(Nat.le_of_eq (Nat.add_zero _)), (Nat.le_of_eq (Nat.add_zero _))⟩) (fun r1 M1 H locs hp hw => ?_)
      obtain ⟨rfl, hM1⟩ := hp
      rw [hM1] at hw
      refine lv_icmp_ge (tgt := 116) S.1 S.2.1 d_B_open_92 rfl (fun _ => ?_) (fun h => absurd (nI_le (by omega) (by omega)) h)
      refine lv_aload_n S.1 S.2.1 d_B_open_116 rfl (lv_at hl 1 rfl) ?_
      refine lv_iconst (v := 1) S.1 S.2.1 d_B_open_117 (by decide) ?_
      refine m_put S hw cl_B hC2.book 5 (by decide) g150 (fun _ h => h) rfl rfl rfl (Nat.le_of_ble_eq_true rfl) d_B_open_118 (fun H locs hw => ?_)
      have hw : mW γ (mU M2 (bx β) (.inr (6, [.ref (bal β 0), .ref (bsd β 1), .ref (bsd β 2), .ref (btl β), .ref (bau β), .int 1, .int ((xSts σ1 (sn σ)).2.1.2.1), .int ((xSts σ1 (sn σ)).2.1.2.2.1), .int ((xSts σ1 (sn σ)).2.1.2.2.2)]))) s H locs := hw
      obtain ⟨hC4, hf4⟩ := hC2.setB (p := (1, srf (xSts σ1 (sn σ)), sbd (xSts σ1 (sn σ)), srk (xSts σ1 (sn σ)))) (e := .inr (6, bkc β (1, srf (xSts σ1 (sn σ)), sbd (xSts σ1 (sn σ)), srk (xSts σ1 (sn σ))))) rfl
      have hau4 := hf4 _ _ hau (Or.inr rfl)
      refine lv_aload_n S.1 S.2.1 d_B_open_121 rfl (lv_at hl 1 rfl) ?_
      refine m_get S hw cl_B hC4.book 4 (by decide) g149 (fun _ h => h) rfl d_B_open_122 ?_
      refine m_get S hw cl_A hau4 1 (by decide) g135 (fun _ h => h) rfl d_B_open_125 ?_
      exact m_lret S hlk hr hw ⟨rfl, L2, cp2, hC4, hB2.cols rfl rfl rfl rfl rfl rfl, hL2.cols rfl rfl rfl rfl, hcp2, hcpj, hf2.tr hf4.w⟩ (Nat.le_refl _) (Nat.le_refl _) d_B_open_128
    | succ d ih =>
      intro i0 M2 cp2 L2 H locs ls hi hsn1 hC2 hB2 hL2 hau hcp2 hcpj hf2 hl hw
      obtain ⟨hcs, hc2⟩ := sts_sn σ1 i0
      obtain ⟨r0, hA0⟩ := hC2.alls
      obtain ⟨⟨md0, hl0⟩, -⟩ := id hA0
      have hml : ((List.range (sn (xSts σ1 i0))).map oa).length = sn σ := rg_len.trans (hcs.trans hsn1)
      have hbd : i0 < sn σ := by omega
      have hk : i0 < sn (xSts σ1 i0) := by rw [hcs, hsn1]; exact hbd
      have hge := rg_at (f := oa) hk
      have hOk := hC2.ord i0 hk
      refine lv_iload_n S.1 S.2.1 d_B_open_84 rfl (lv_at hl 0 rfl) ?_
      refine lv_aload_n S.1 S.2.1 d_B_open_85 rfl (lv_at hl 1 rfl) ?_
      refine m_get S hw cl_B hC2.book 0 (by decide) g145 (fun _ h => h) rfl d_B_open_86 ?_
      refine m_ci hw (va_runV (As := []) (rest := [.int (nI i0)]) S (c_AL_size l γ M2 (bal β 0) md0 _ _ hl0) (m_cwV 0 S g185 g186 g187 g44 g188 rfl rfl ⟨by decide +kernel, by decide +kernel, by decide +kernel⟩ ⟨(Nat.le_of_ble_eq_true rfl), (Nat.le_of_ble_eq_true rfl)⟩) (hw.preV hl0 cl_AL.1) rfl rfl hl.1 rfl (lv_room (Nat.le_of_ble_eq_true rfl)) d_B_open_89 ⟨(Nat.le_of_eq (Nat.add_zero _)), (Nat.le_of_eq (Nat.add_zero _))⟩) (fun r1 M1 H locs hp hw => ?_)
      obtain ⟨rfl, hM1⟩ := hp
      rw [hM1] at hw
      refine lv_icmp_ge (tgt := 116) S.1 S.2.1 d_B_open_92 rfl (fun h => absurd h (nI_ge (by omega) (by omega))) (fun _ => ?_)
      refine lv_aload_n S.1 S.2.1 d_B_open_95 rfl (lv_at hl 1 rfl) ?_
      refine lv_aload_n S.1 S.2.1 d_B_open_96 rfl (lv_at hl 1 rfl) ?_
      refine m_get S hw cl_B hC2.book 0 (by decide) g145 (fun _ h => h) rfl d_B_open_97 ?_
      refine lv_iload_n S.1 S.2.1 d_B_open_100 rfl (lv_at hl 0 rfl) ?_
      refine m_cq hw (va_runV (As := [.int (nI i0)]) (rest := [.ref (bx β)]) S (c_AL_get l γ M2 (bal β 0) r0 (cp2 0) ((List.range (sn (xSts σ1 i0))).map oa) hA0 i0 (by omega)) (m_cwV 1 S g189 g190 g191 g44 g192 rfl rfl ⟨by decide +kernel, by decide +kernel, by decide +kernel⟩ ⟨(Nat.le_of_ble_eq_true rfl), (Nat.le_of_ble_eq_true rfl)⟩) (hw.preV hl0 cl_AL.1) rfl rfl hl.1 rfl (lv_room (Nat.le_of_ble_eq_true rfl)) d_B_open_101 ⟨(Nat.le_of_eq (Nat.add_zero _)), (Nat.le_of_eq (Nat.add_zero _))⟩) (fun r1 M1 H locs hp hw => ?_)
      obtain ⟨rfl, hM1⟩ := hp
      rw [hM1] at hw
      refine W.eq (g2 := F0 m 104 ls [.ref (oa i0), .ref (bx β)]) (by rw [hge]; rfl) ?_
      refine m_cast S hw cl_O hOk g203 d_B_open_104 ?_
      refine m_cv hw (va_runV (As := [.ref (oa i0)]) (rest := []) S (c_B_startGoingOn l γ M2 β oa cp2 L2 (xSts σ1 i0) hC2 hB2 hL2 i0 hk) (m_cwV 1 S g650 g652 g23 g41 g653 rfl rfl ⟨by decide +kernel, by decide +kernel, by decide +kernel⟩ ⟨(Nat.le_of_ble_eq_true rfl), (Nat.le_of_ble_eq_true rfl)⟩) (hw.preV hC2.book cl_B.1) rfl rfl hl.1 rfl (lv_room (Nat.le_of_ble_eq_true rfl)) d_B_open_107 ⟨(Nat.le_of_eq (Nat.add_zero _)), (Nat.le_of_eq (Nat.add_zero _))⟩) (fun M1 H locs hp hw => ?_)
      obtain ⟨L3, hC3, hB3, hL3, hf3⟩ := hp
      have hC3 : CB γ M1 β oa cp2 L3 (xSts σ1 (i0 + 1)) := hC3
      have hB3 : InvB (xSts σ1 (i0 + 1)) := hB3
      have hL3 : LN (xSts σ1 (i0 + 1)) L3 := hL3
      refine lv_iinc (k := 0) (v := nI (i0 + 1)) S.1 S.2.1 d_B_open_110 hl rfl (nI_1 i0) (by decide) rfl (fun ls hl => ?_)
      have hl : lv_has ls 2 [(1, .int (nI (i0 + 1))), (0, .ref (bx β))] := hl
      refine lv_goto (tgt := 84) S.1 S.2.1 d_B_open_113 rfl ?_
      have hl := lv_sub hl [0, 1] rfl
      exact ih (i0 + 1) M1 cp2 L3 H locs ls (by omega) hsn1 hC3 hB3 hL3 (hf3 _ _ hau (Or.inr rfl)) hcp2 hcpj (hf2.tr hf3.w) hl hw
  refine lv_aload_n S.1 S.2.1 d_B_open_0 rfl (lv_at hl 0 rfl) ?_
  refine m_get S hw cl_B hC.book 5 (by decide) g150 (fun _ h => h) rfl d_B_open_1 ?_
  refine lv_iconst (v := 1) S.1 S.2.1 d_B_open_4 (by decide) ?_
  refine lv_icmp_ne (tgt := 16) S.1 S.2.1 d_B_open_5 rfl (fun _ => ?_) (fun h => absurd h hph)
  refine lv_aload_n S.1 S.2.1 d_B_open_16 rfl (lv_at hl 0 rfl) ?_
  refine m_get S hw cl_B hC.book 4 (by decide) g149 (fun _ h => h) rfl d_B_open_17 ?_
  refine lv_aload_n S.1 S.2.1 d_B_open_20 rfl (lv_at hl 0 rfl) ?_
  refine m_get S hw cl_B hC.book 1 (by decide) g146 (fun _ h => h) rfl d_B_open_21 ?_
  refine m_get S hw cl_S (hC.side (Or.inl rfl)) 0 (by decide) g105 (fun _ h => h) rfl d_B_open_24 ?_
  refine lv_aload_n S.1 S.2.1 d_B_open_27 rfl (lv_at hl 0 rfl) ?_
  refine m_get S hw cl_B hC.book 2 (by decide) g147 (fun _ h => h) rfl d_B_open_28 ?_
  refine m_get S hw cl_S (hC.side (Or.inr rfl)) 0 (by decide) g105 (fun _ h => h) rfl d_B_open_31 ?_
  refine lv_aload_n S.1 S.2.1 d_B_open_34 rfl (lv_at hl 0 rfl) ?_
  refine m_get S hw cl_B hC.book 6 (by decide) g151 (fun _ h => h) rfl d_B_open_35 ?_
  refine m_cv hw (va_runV (As := [.ref (bal β 1), .ref (bal β 2), .int σ.2.1.2.1]) (rest := []) S (c_A_workOut l γ M (bau β) (bal β 1) (bal β 2) r1 r2 (cp 1) (cp 2) (sn σ) (L 1) (L 2) oa (sI σ) hC.ord hI.2.1 hI.1 a ha hA1 hA2 hL.1 hL.2 (srf σ)) (m_cwV 3 S g615 g616 g617 g47 g618 rfl rfl ⟨by decide +kernel, by decide +kernel, by decide +kernel⟩ ⟨(Nat.le_of_ble_eq_true rfl), (Nat.le_of_ble_eq_true rfl)⟩) (hw.preV ha cl_A.1) rfl rfl hl.1 rfl (lv_room (Nat.le_of_ble_eq_true rfl)) d_B_open_38 ⟨(Nat.zero_le _), (Nat.zero_le _)⟩) (fun M1 H locs hp hw => ?_)
  rw [hp] at hw
  obtain ⟨hC1, hf1⟩ := hC.setA (a := aAt (sI σ) (L 1) (L 2) (srf σ) 2000) (e := .inr (1, auc (aAt (sI σ) (L 1) (L 2) (srf σ) 2000))) rfl
  refine lv_aload_n S.1 S.2.1 d_B_open_41 rfl (lv_at hl 0 rfl) ?_
  refine m_get S hw cl_B hC1.book 4 (by decide) g149 (fun _ h => h) rfl d_B_open_42 ?_
  refine m_get S hw cl_A (mU_eq _ _ _) 1 (by decide) g135 (fun _ h => h) rfl d_B_open_45 ?_
  refine lv_lconst (v := 0) S.1 S.2.1 d_B_open_48 (by decide) ?_
  refine W.lcmp S.1 S.2.1 d_B_open_49 ?_
  refine lv_if_le (tgt := 82) S.1 S.2.1 d_B_open_50 rfl (fun h50 => ?_) (fun h50 => ?_)
  · have hs1 : σ = σ1 := by rw [← hσ1]; unfold xOp; rw [if_neg (fun z => absurd ((lg_cmp_le _ _).mp h50) (Int64.not_le.mpr z))]
    refine lv_iconst (v := 0) S.1 S.2.1 d_B_open_82 (by decide) ?_
    refine lv_istore_n S.1 S.2.1 d_B_open_83 rfl hl (by decide) rfl (fun ls hl => ?_)
    have hl : lv_has ls 2 [(1, .int 0), (0, .ref (bx β))] := hl
    have hl := lv_sub hl [0, 1] rfl
    subst hs1
    refine W.widen (Nat.zero_le _) (Nat.zero_le _) (loop _ 0 _ cp L H locs ls (Nat.zero_add _) rfl hC1 hI.b hL (mU_eq _ _ _) hcp (fun _ _ => rfl) hf1 hl hw)
  · have hpos : 0 < (aAt (sI σ) (L 1) (L 2) (srf σ) 2000).2.1 := Int64.not_le.mp (fun z => h50 ((lg_cmp_le _ _).mpr z))
    obtain ⟨σ2, hs2⟩ : ∃ z, z = xOne 250 σ (aAt (sI σ) (L 1) (L 2) (srf σ) 2000).1 (aAt (sI σ) (L 1) (L 2) (srf σ) 2000).2.1 := ⟨_, rfl⟩
    have hσ2 : σ1 = oRef σ2 (aAt (sI σ) (L 1) (L 2) (srf σ) 2000).1 := by rw [← hσ1, hs2]; exact if_pos hpos
    have htn2 : stn σ1 = stn σ2 := by rw [hσ2]; rfl
    refine lv_aload_n S.1 S.2.1 d_B_open_53 rfl (lv_at hl 0 rfl) ?_
    refine lv_aload_n S.1 S.2.1 d_B_open_54 rfl (lv_at hl 0 rfl) ?_
    refine m_get S hw cl_B hC1.book 4 (by decide) g149 (fun _ h => h) rfl d_B_open_55 ?_
    refine m_get S hw cl_A (mU_eq _ _ _) 0 (by decide) g133 (fun _ h => h) rfl d_B_open_58 ?_
    refine lv_aload_n S.1 S.2.1 d_B_open_61 rfl (lv_at hl 0 rfl) ?_
    refine m_get S hw cl_B hC1.book 4 (by decide) g149 (fun _ h => h) rfl d_B_open_62 ?_
    refine m_get S hw cl_A (mU_eq _ _ _) 1 (by decide) g135 (fun _ h => h) rfl d_B_open_65 ?_
    refine m_cv hw (va_runV (As := [.int ((aAt (sI σ) (L 1) (L 2) (srf σ) 2000).1), .long ((aAt (sI σ) (L 1) (L 2) (srf σ) 2000).2.1)]) (rest := []) S (c_B_tradeAtOnePrice l γ (mU M (bau β) (.inr (1, auc (aAt (sI σ) (L 1) (L 2) (srf σ) 2000)))) β oa cp L σ σ2 hC1 hI.b hL (aAt (sI σ) (L 1) (L 2) (srf σ) 2000).1 (aAt (sI σ) (L 1) (L 2) (srf σ) 2000).2.1 hcp hs2.symm (by rw [← htn2]; exact hT)) (m_cwV 2 S g641 g643 g21 g41 g644 rfl rfl ⟨by decide +kernel, by decide +kernel, by decide +kernel⟩ ⟨(Nat.le_of_ble_eq_true rfl), (Nat.le_of_ble_eq_true rfl)⟩) (hw.preV hC1.book cl_B.1) rfl rfl hl.1 rfl (lv_room (Nat.le_of_ble_eq_true rfl)) d_B_open_68 ⟨(by rw [← htn2]; show 0 + 0 + (kC (stn σ1) - kC (stn σ)) ≤ kC (stn σ1) - kC (stn σ); omega), (by rw [← htn2]; show 0 + 0 + (kS (stn σ1) - kS (stn σ)) ≤ kS (stn σ1) - kS (stn σ); omega)⟩) (fun M1 H locs hp hw => ?_)
    obtain ⟨L4, cp4, hC4, hB4, hL4, hcp4, hcpj4, hf4, hsn4, hcol4, h44⟩ := hp
    have hau4 := hf4 _ _ (mU_eq M (bau β) (.inr (1, auc (aAt (sI σ) (L 1) (L 2) (srf σ) 2000)))) (Or.inr rfl)
    refine W.widen (k := kC (stn σ1) - kC (stn σ)) (n := kS (stn σ1) - kS (stn σ)) (by rw [htn2]; show 0 + 0 + _ ≤ _ ; omega) (by rw [htn2]; show 0 + 0 + _ ≤ _; omega) ?_
    refine lv_aload_n S.1 S.2.1 d_B_open_71 rfl (lv_at hl 0 rfl) ?_
    refine lv_aload_n S.1 S.2.1 d_B_open_72 rfl (lv_at hl 0 rfl) ?_
    refine m_get S hw cl_B hC4.book 4 (by decide) g149 (fun _ h => h) rfl d_B_open_73 ?_
    refine m_get S hw cl_A hau4 0 (by decide) g133 (fun _ h => h) rfl d_B_open_76 ?_
    refine m_put S hw cl_B hC4.book 6 (by decide) g151 (fun _ h => h) rfl rfl rfl (Nat.le_of_ble_eq_true rfl) d_B_open_79 (fun H locs hw => ?_)
    have hw : mW γ (mU M1 (bx β) (.inr (6, [.ref (bal β 0), .ref (bsd β 1), .ref (bsd β 2), .ref (btl β), .ref (bau β), .int σ2.2.1.1, .int ((aAt (sI σ) (L 1) (L 2) (srf σ) 2000).1), .int σ2.2.1.2.2.1, .int σ2.2.1.2.2.2]))) s H locs := hw
    obtain ⟨hC5, hf5⟩ := hC4.setB (p := (sph σ2, (aAt (sI σ) (L 1) (L 2) (srf σ) 2000).1, sbd σ2, srk σ2)) (e := .inr (6, bkc β (sph σ2, (aAt (sI σ) (L 1) (L 2) (srf σ) 2000).1, sbd σ2, srk σ2))) rfl
    have hau5 := hf5 _ _ hau4 (Or.inr rfl)
    refine lv_iconst (v := 0) S.1 S.2.1 d_B_open_82 (by decide) ?_
    refine lv_istore_n S.1 S.2.1 d_B_open_83 rfl hl (by decide) rfl (fun ls hl => ?_)
    have hl : lv_has ls 2 [(1, .int 0), (0, .ref (bx β))] := hl
    have hl := lv_sub hl [0, 1] rfl
    exact loop _ 0 _ cp4 L4 _ _ ls (Nat.zero_add _) (by rw [hσ2]; exact hsn4) (by rw [hσ2]; exact hC5) (by rw [hσ2]; exact hB4.cols rfl rfl rfl rfl rfl rfl) (by rw [hσ2]; exact hL4.cols rfl rfl rfl rfl) hau5 (by rw [hσ2]; exact hcp4) hcpj4 (hf1.tr (hf4.w.tr hf5.w)) hl hw
end
section
/-! Amending, in numbers -/
def xLess (σ : St) (k : Nat) (q : Int32) : St := ((sn σ, s1 (s1 (sI σ) 3 k q) 4 k (mn (sI σ 4 k) q)), σ.2)
def xAsk (τ : St) (k : Nat) (p q : Int32) : St := ((sn τ, s1 (s1 (sI τ) 2 k p) 3 k q), τ.2)
def xAm (g : Bool) (σ : St) (k : Nat) (p q : Int32) : St := if p = sI σ 2 k ∧ q ≤ sI σ 3 k then xLess σ k q else xCome g (xAsk (xOut σ k) k p q) k
theorem oc_ask (I : Co) (o : Nat) (p q : Int32) : oc (s1 (s1 I 2 o p) 3 o q) o = [.int (nI o), .int (I 0 o), .int (I 1 o), .int (I 8 o), .int (I 6 o), .int p, .int q, .int (I 4 o), .int (I 5 o), .int (I 7 o)] := by
  rw [oc_3]
  simp [s1_ss, s1_f]
theorem oc_less (I : Co) (o : Nat) (q v : Int32) : oc (s1 (s1 I 3 o q) 4 o v) o = [.int (nI o), .int (I 0 o), .int (I 1 o), .int (I 8 o), .int (I 6 o), .int (I 2 o), .int q, .int v, .int (I 5 o), .int (I 7 o)] := by
  rw [oc_4]
  simp [s1_ss, s1_f]
section ASK
variable {τ : St} {k x f : Nat} {p q : Int32}
theorem ask_f (h2 : f ≠ 2) (h3 : f ≠ 3) : sI (xAsk τ k p q) f = sI τ f := by
  show s1 (s1 (sI τ) 2 k p) 3 k q f = _
  rw [s1_f h3, s1_f h2]
theorem ask_x (h : x ≠ k) : sI (xAsk τ k p q) f x = sI τ f x := by
  show s1 (s1 (sI τ) 2 k p) 3 k q f x = _
  rw [s1_o h, s1_o h]
theorem ask_2 : sI (xAsk τ k p q) 2 k = p := by
  show s1 (s1 (sI τ) 2 k p) 3 k q 2 k = _
  rw [s1_f (f' := 2) (f := 3) (by decide), s1_ss]
theorem ask_3 : sI (xAsk τ k p q) 3 k = q := by
  show s1 (s1 (sI τ) 2 k p) 3 k q 3 k = _
  rw [s1_ss]
theorem Inv0.ask (hI : Inv0 τ) (hr : sI τ 5 k = -1) (hp : 0 ≤ p.toInt ∧ p.toInt ≤ 2000) : Inv0 (xAsk τ k p q) := by
  obtain ⟨i1, i2, i3, i4, i5⟩ := hI
  have c1 := ask_f (τ := τ) (k := k) (p := p) (q := q) (f := 1) (by decide) (by decide)
  have c5 := ask_f (τ := τ) (k := k) (p := p) (q := q) (f := 5) (by decide) (by decide)
  have c8 := ask_f (τ := τ) (k := k) (p := p) (q := q) (f := 8) (by decide) (by decide)
  have rse : ∀ o, rs (sI (xAsk τ k p q)) o = rs (sI τ) o := fun o => by unfold rs; rw [c5]
  refine ⟨i1, ⟨fun o ho => ?_, fun a b ha hb ra rb e => ?_⟩, fun o ho => ?_, i4, fun o ho hs => ?_⟩
  · rw [c1]
    by_cases z : o = k
    · subst z; rw [ask_2]; exact ⟨hp.1, hp.2, (i2.1 o ho).2.2⟩
    · rw [ask_x z]; exact i2.1 o ho
  · rw [rse] at ra rb
    rw [c5] at e
    exact i2.2 a b ha hb ra rb e
  · rw [c8, c5]; exact i3 o ho
  · rw [rse] at hs
    have z : o ≠ k := fun z => by rw [z, rs_iff, hr, i_m1] at hs; omega
    have h9 := i5 o ho hs
    unfold Rok at *
    rw [ask_x z, ask_x z, ask_x z]
    exact h9
theorem Line.ask {s : Int32} {K : List Nat} (h : Line (sI τ) (sn τ) s K) (hr : sI τ 5 k = -1) : Line (sI (xAsk τ k p q)) (sn τ) s K := by
  have c1 := ask_f (τ := τ) (k := k) (p := p) (q := q) (f := 1) (by decide) (by decide)
  have c5 := ask_f (τ := τ) (k := k) (p := p) (q := q) (f := 5) (by decide) (by decide)
  have ne : ∀ y, y ∈ K → y ≠ k := fun y hy z => by
    have h9 := ((h.1 y).mp hy).2
    rw [onS_iff, rs_iff, z, hr, i_m1] at h9
    omega
  refine ⟨fun o => ?_, List.Pairwise.imp_of_mem ?_ h.2⟩
  · rw [onS_cols c1 c5]; exact h.1 o
  · intro a b ha hb hab
    rw [bf_at (by rw [c1]) (ask_x (ne a ha)) (ask_x (ne b hb)) (by rw [c5]) (by rw [c5])]
    exact hab
theorem LN.ask {L : Nat → List Nat} (h : LN τ L) (hr : sI τ 5 k = -1) : LN (xAsk τ k p q) L := ⟨h.1.ask hr, h.2.ask hr⟩
end ASK
theorem less_f {σ : St} {k f : Nat} {q : Int32} (h3 : f ≠ 3) (h4 : f ≠ 4) : sI (xLess σ k q) f = sI σ f := by
  show s1 (s1 (sI σ) 3 k q) 4 k (mn (sI σ 4 k) q) f = _
  rw [s1_f h4, s1_f h3]
theorem less_x {σ : St} {k x f : Nat} {q : Int32} (h : x ≠ k) : sI (xLess σ k q) f x = sI σ f x := by
  show s1 (s1 (sI σ) 3 k q) 4 k (mn (sI σ 4 k) q) f x = _
  rw [s1_o h, s1_o h]
theorem less_3 {σ : St} {k : Nat} {q : Int32} : sI (xLess σ k q) 3 k = q := by
  show s1 (s1 (sI σ) 3 k q) 4 k (mn (sI σ 4 k) q) 3 k = _
  rw [s1_f (f' := 3) (f := 4) (by decide), s1_ss]
theorem less_4 {σ : St} {k : Nat} {q : Int32} : sI (xLess σ k q) 4 k = mn (sI σ 4 k) q := by
  show s1 (s1 (sI σ) 3 k q) 4 k (mn (sI σ 4 k) q) 4 k = _
  rw [s1_ss]
theorem less_inv {σ : St} {k : Nat} {q : Int32} (hI : Inv0 σ) (hk : k < sn σ) (hr : rs (sI σ) k = true) (h1 : 1 ≤ q.toInt) (h2 : q.toInt ≤ (sI σ 3 k).toInt) : Inv0 (xLess σ k q) := by
  refine ((hI.x k).cols (τ := xLess σ k q) rfl rfl (less_f (by decide) (by decide)) (less_f (by decide) (by decide)) (less_f (by decide) (by decide)) (less_f (by decide) (by decide)) (fun x _ hx _ => ⟨less_x hx, less_x hx⟩)).of (fun _ => ?_)
  obtain ⟨r1, r2, r3, r4, r5⟩ := hI.2.2.2.2 k hk hr
  unfold Rok
  rw [less_3, less_4, less_f (f := 8) (by decide) (by decide), mn_int]
  refine ⟨h1, by omega, by split <;> omega, fun z => ?_, fun z => ?_⟩
  · have := r4 z
    split <;> omega
  · have := r5 z
    split <;> omega
theorem sj_opp {b : Int32} (h : b = 0 ∨ b = 1) : sj (opp b) ≠ sj b := by rcases h with e | e <;> subst e <;> decide
theorem am_tn {g : Bool} {σ : St} {k : Nat} {p q : Int32} : stn σ ≤ stn (xAm g σ k p q) := by
  unfold xAm
  split
  · exact Nat.le_refl _
  · unfold xCome
    split
    · rw [tail_tn]
      split
      · exact Nat.le_refl _
      · exact meet_tn (σ := xAsk (xOut σ k) k p q)
    · exact Nat.le_refl _
end
section
/-! CallBook.amend, in order -/
theorem fpk_i {q k : Int32} (h : fpk q k = true) (h0 : 0 ≤ k.toInt) (h1 : k.toInt ≤ 100000) : 0 < k.toInt → q.toInt ≤ 50 * k.toInt := by
  intro hk
  unfold fpk at h
  have hne : ¬ k = 0 := fun z => by rw [z, i0] at hk; omega
  rw [decide_eq_false hne, Bool.false_or, decide_eq_true_eq, Int32.le_iff_toInt_le, Int32.toInt_mul, show (50 : Int32).toInt = 50 by decide] at h
  rw [Int.bmod_eq_of_le (by omega) (by omega)] at h
  exact h
set_option maxHeartbeats 4000000 in
set_option maxRecDepth 100000 in
theorem c_B_amend (l : Launch) (γ : mG) (M : mMap) (β : BK) (oa cp : Nat → Nat) (L : Nat → List Nat) (σ : St) (hC : CB γ M β oa cp L σ) (hI : Inv0 σ) (hL : LN σ L) (k : Nat) (hk : k < sn σ) (hr5 : ¬ sI σ 5 k = -1) (p0 q0 : Int32) (hv1 : rg 0 2000 p0 = true) (hv2 : rg 1 100000 q0 = true) (hv3 : fpk q0 (sI σ 8 k) = true) (hph : ¬ sph σ = 2) (hcp : cp 3 = cAt (stn σ)) (hcpl : ∀ j, j ≠ 3 → cp j ≤ 373) (σ' : St) (hσ : xAm (cgw (xAsk (xOut σ k) k p0 q0) (L (sj (opp (sI σ 1 k)))) k) σ k p0 q0 = σ') (hT : stn σ' ≤ 30000) (hrk : (srk σ).toInt ≤ 500000000) : Met l y_B_amend w_B_amend ({ frames := 12, cells := kC (stn σ') - kC (stn σ) + 1, slots := kS (stn σ') - kS (stn σ) + 373, locals := 296 } : Room) (mPc γ M [.ref (bx β), .int (nI k), .int p0, .int q0]) (mQi γ (fun r M' => r = b2i (decide (¬ sI σ' 5 k = -1)) ∧ ∃ L' cp', CB γ M' β oa cp' L' σ' ∧ Inv0 σ' ∧ LN σ' L' ∧ cp' 3 = cAt (stn σ') ∧ (∀ j, j ≠ 3 → cp' j ≤ 373) ∧ frC M M' ∧ sn σ' = sn σ ∧ (srk σ').toInt ≤ (srk σ).toInt + 100001)) (kC (stn σ') - kC (stn σ) + 1) (kS (stn σ') - kS (stn σ) + 373) (mA (gz γ)) := by
  refine m_enter (by decide) (Nat.le_of_ble_eq_true rfl) ?_
  intro p e s m below meth c ls S hr hlk hnm hl hw
  have hl : lv_has ls 5 [(0, .ref (bx β)), (1, .int (nI k)), (2, .int p0), (3, .int q0)] := hl
  have hn := hI.1
  have hOk := hC.ord k hk
  have hsd := (hI.2.1.1 k hk).2.2
  have hrs := (rs_ne hI.b hk).mpr hr5
  have hp0 := rg_i hv1
  have hq := rg_i hv2
  rw [show (0 : Int32).toInt = 0 by decide, show (2000 : Int32).toInt = 2000 by decide] at hp0
  rw [show (1 : Int32).toInt = 1 by decide, show (100000 : Int32).toInt = 100000 by decide] at hq
  refine lv_aload_n S.1 S.2.1 d_B_amend_0 rfl (lv_at hl 0 rfl) ?_
  refine lv_iload_n S.1 S.2.1 d_B_amend_1 rfl (lv_at hl 1 rfl) ?_
  refine m_cq hw (va_runV (As := [.int (nI k)]) (rest := []) S (c_B_known l γ M β oa cp L σ hC hn k hk) (m_cwV 1 S g586 g588 g18 g41 g589 rfl rfl ⟨by decide +kernel, by decide +kernel, by decide +kernel⟩ ⟨(Nat.le_of_ble_eq_true rfl), (Nat.le_of_ble_eq_true rfl)⟩) (hw.preV hC.book cl_B.1) rfl rfl hl.1 rfl (lv_room (Nat.le_of_ble_eq_true rfl)) d_B_amend_2 ⟨(Nat.zero_le _), (Nat.zero_le _)⟩) (fun r1 M1 H locs hp hw => ?_)
  obtain ⟨rfl, hM1⟩ := hp
  rw [hM1] at hw
  refine W.eq (g2 := F0 m 5 ls [.ref (oa k)]) rfl ?_
  refine lv_astore S.1 S.2.1 d_B_amend_5 hl (by decide) rfl (fun ls hl => ?_)
  have hl : lv_has ls 5 [(4, .ref (oa k)), (0, .ref (bx β)), (1, .int (nI k)), (2, .int p0), (3, .int q0)] := hl
  refine lv_iload_n S.1 S.2.1 d_B_amend_7 rfl (lv_at hl 3 rfl) ?_
  refine m_ci hw (va_runS (As := [.int p0]) (rest := []) S (c_B_isPriceOrMarket l γ M p0) (m_cwS 1 S g286 g287 g41 g288 rfl rfl ⟨by decide +kernel, by decide +kernel, by decide +kernel⟩ ⟨(Nat.le_of_ble_eq_true rfl), (Nat.le_of_ble_eq_true rfl)⟩) hw.preS rfl rfl hl.1 rfl (lv_room (Nat.le_of_ble_eq_true rfl)) d_B_amend_8 ⟨(Nat.zero_le _), (Nat.zero_le _)⟩) (fun r1 M1 H locs hp hw => ?_)
  obtain ⟨rfl, hM1⟩ := hp
  rw [hM1] at hw
  refine lv_if_eq (tgt := 33) S.1 S.2.1 d_B_amend_11 rfl (fun h => absurd h (b2i_n0.mpr hv1)) (fun _ => ?_)
  refine lv_iload_n S.1 S.2.1 d_B_amend_14 rfl (lv_at hl 4 rfl) ?_
  refine m_ci hw (va_runS (As := [.int q0]) (rest := []) S (c_B_isQuantity l γ M q0) (m_cwS 1 S g289 g290 g41 g291 rfl rfl ⟨by decide +kernel, by decide +kernel, by decide +kernel⟩ ⟨(Nat.le_of_ble_eq_true rfl), (Nat.le_of_ble_eq_true rfl)⟩) hw.preS rfl rfl hl.1 rfl (lv_room (Nat.le_of_ble_eq_true rfl)) d_B_amend_15 ⟨(Nat.zero_le _), (Nat.zero_le _)⟩) (fun r1 M1 H locs hp hw => ?_)
  obtain ⟨rfl, hM1⟩ := hp
  rw [hM1] at hw
  refine lv_if_eq (tgt := 33) S.1 S.2.1 d_B_amend_18 rfl (fun h => absurd h (b2i_n0.mpr hv2)) (fun _ => ?_)
  refine lv_iload_n S.1 S.2.1 d_B_amend_21 rfl (lv_at hl 4 rfl) ?_
  refine lv_aload S.1 S.2.1 d_B_amend_22 (lv_at hl 0 rfl) ?_
  refine m_get S hw cl_O hOk 3 (by decide) g391 (fun _ h => h) rfl d_B_amend_24 ?_
  refine m_ci hw (va_runS (As := [.int q0, .int ((sI σ) 8 k)]) (rest := []) S (c_B_fitsPeak l γ M q0 (sI σ 8 k)) (m_cwS 2 S g358 g359 g41 g360 rfl rfl ⟨by decide +kernel, by decide +kernel, by decide +kernel⟩ ⟨(Nat.le_of_ble_eq_true rfl), (Nat.le_of_ble_eq_true rfl)⟩) hw.preS rfl rfl hl.1 rfl (lv_room (Nat.le_of_ble_eq_true rfl)) d_B_amend_27 ⟨(Nat.zero_le _), (Nat.zero_le _)⟩) (fun r1 M1 H locs hp hw => ?_)
  obtain ⟨rfl, hM1⟩ := hp
  rw [hM1] at hw
  refine lv_if_ne (tgt := 41) S.1 S.2.1 d_B_amend_30 rfl (fun _ => ?_) (fun h => absurd h (b2i_n0.mpr hv3))
  refine lv_aload S.1 S.2.1 d_B_amend_41 (lv_at hl 0 rfl) ?_
  refine m_ci hw (va_runV (As := []) (rest := []) S (c_O_rests l γ M (oa k) _ _ _ _ _ _ _ _ _ _ hOk) (m_cwV 0 S g270 g244 g245 g54 g246 rfl rfl ⟨by decide +kernel, by decide +kernel, by decide +kernel⟩ ⟨(Nat.le_of_ble_eq_true rfl), (Nat.le_of_ble_eq_true rfl)⟩) (hw.preV hOk cl_O.1) rfl rfl hl.1 rfl (lv_room (Nat.le_of_ble_eq_true rfl)) d_B_amend_43 ⟨(Nat.zero_le _), (Nat.zero_le _)⟩) (fun r1 M1 H locs hp hw => ?_)
  obtain ⟨rfl, hM1⟩ := hp
  rw [hM1] at hw
  refine lv_if_eq (tgt := 57) S.1 S.2.1 d_B_amend_46 rfl (fun h => absurd h (b2i_n0.mpr (decide_eq_true hr5))) (fun _ => ?_)
  refine lv_aload_n S.1 S.2.1 d_B_amend_49 rfl (lv_at hl 1 rfl) ?_
  refine m_get S hw cl_B hC.book 5 (by decide) g150 (fun _ h => h) rfl d_B_amend_50 ?_
  refine lv_iconst (v := 2) S.1 S.2.1 d_B_amend_53 (by decide) ?_
  refine lv_icmp_ne (tgt := 65) S.1 S.2.1 d_B_amend_54 rfl (fun _ => ?_) (fun h => absurd h hph)
  refine lv_iload_n S.1 S.2.1 d_B_amend_65 rfl (lv_at hl 3 rfl) ?_
  refine lv_aload S.1 S.2.1 d_B_amend_66 (lv_at hl 0 rfl) ?_
  refine m_get S hw cl_O hOk 5 (by decide) g395 (fun _ h => h) rfl d_B_amend_68 ?_
  refine lv_icmp_ne (tgt := 92) S.1 S.2.1 d_B_amend_71 rfl (fun h71 => ?_) (fun h71 => ?_)
  · have hX : xCome (cgw (xAsk (xOut σ k) k p0 q0) (L (sj (opp (sI σ 1 k)))) k) (xAsk (xOut σ k) k p0 q0) k = σ' := by rw [← hσ]; unfold xAm; rw [if_neg (fun z => h71 z.1)]
    have hmono : stn σ ≤ stn σ' := by rw [← hσ]; exact am_tn
    refine lv_aload_n S.1 S.2.1 d_B_amend_92 rfl (lv_at hl 1 rfl) ?_
    refine lv_aload S.1 S.2.1 d_B_amend_93 (lv_at hl 0 rfl) ?_
    refine m_get S hw cl_O hOk 2 (by decide) g389 (fun _ h => h) rfl d_B_amend_95 ?_
    refine m_cq hw (va_runV (As := [.int ((sI σ) 1 k)]) (rest := []) S (c_B_side l γ M β σ.2.1 hC.book (sI σ 1 k)) (m_cwV 1 S g181 g183 g0 g41 g184 rfl rfl ⟨by decide +kernel, by decide +kernel, by decide +kernel⟩ ⟨(Nat.le_of_ble_eq_true rfl), (Nat.le_of_ble_eq_true rfl)⟩) (hw.preV hC.book cl_B.1) rfl rfl hl.1 rfl (lv_room (Nat.le_of_ble_eq_true rfl)) d_B_amend_98 ⟨(Nat.zero_le _), (Nat.zero_le _)⟩) (fun r1 M1 H locs hp hw => ?_)
    obtain ⟨rfl, hM1⟩ := hp
    rw [hM1] at hw
    have hg := hw.noe
    have hLj : Line (sI σ) (sn σ) (sI σ 1 k) (L (sj (sI σ 1 k))) := sj_val hsd hL
    obtain ⟨z0, hz0⟩ := List.getElem?_of_mem ((hLj.1 k).mpr ⟨hk, onS_iff.mpr ⟨hrs, rfl⟩⟩)
    obtain ⟨r0, hA0⟩ := hC.list (sj_or (sI σ 1 k))
    have hmem : ∀ y, y ∈ L (sj (sI σ 1 k)) → y < sn σ := fun y hy => ((hLj.1 y).mp hy).1
    have hE0 : mEl M 2 ((L (sj (sI σ 1 k))).map oa) := hC.ord.el hmem
    obtain ⟨hk1, hk2⟩ := map_first (oa := oa) hz0 hLj.nodup hmem (fun a b ha hb e => hC.ord.inj hn ha hb e)
    refine lv_aload S.1 S.2.1 d_B_amend_101 (lv_at hl 0 rfl) ?_
    refine m_cv hw (va_runV (As := [.ref (oa k)]) (rest := []) S (c_S_leave l γ M (bsd β (sj (sI σ 1 k))) (bal β (sj (sI σ 1 k))) r0 (cp (sj (sI σ 1 k))) ((L (sj (sI σ 1 k))).map oa) (hC.side (sj_or _)) hA0 hE0 (oa k) _ _ _ _ _ _ _ _ _ _ hOk z0 hk1 hk2 (by rw [List.length_map]; exact hLj.len hn)) (m_cwV 1 S g567 g568 g569 g45 g570 rfl rfl ⟨by decide +kernel, by decide +kernel, by decide +kernel⟩ ⟨(Nat.le_of_ble_eq_true rfl), (Nat.le_of_ble_eq_true rfl)⟩) (hw.preV (hC.side (sj_or _)) cl_S.1) rfl rfl hl.1 rfl (lv_room (Nat.le_of_ble_eq_true rfl)) d_B_amend_103 ⟨(Nat.zero_le _), (Nat.zero_le _)⟩) (fun M1 H locs hp hw => ?_)
    obtain ⟨hA9, hF9⟩ := hp
    obtain ⟨hC3, hf3⟩ := hC.left hn hk hg hA0 hA9 hF9
    obtain ⟨hI3, hL3⟩ := LN.out (hI.x k) hL hk hz0
    have hr3 : sI (xOut σ k) 5 k = -1 := s1_ss (sI σ) 5 k (-1)
    refine lv_aload S.1 S.2.1 d_B_amend_106 (lv_at hl 0 rfl) ?_
    refine lv_iload_n S.1 S.2.1 d_B_amend_108 rfl (lv_at hl 3 rfl) ?_
    refine lv_iload_n S.1 S.2.1 d_B_amend_109 rfl (lv_at hl 4 rfl) ?_
    refine m_cv hw (va_runV (As := [.int p0, .int q0]) (rest := []) S (c_O_ask l γ M1 (oa k) _ _ _ _ _ _ _ _ _ _ (hC3.ord k hk) p0 q0) (m_cwV 2 S g427 g428 g429 g54 g430 rfl rfl ⟨by decide +kernel, by decide +kernel, by decide +kernel⟩ ⟨(Nat.le_of_ble_eq_true rfl), (Nat.le_of_ble_eq_true rfl)⟩) (hw.preV (hC3.ord k hk) cl_O.1) rfl rfl hl.1 rfl (lv_room (Nat.le_of_ble_eq_true rfl)) d_B_amend_110 ⟨(Nat.zero_le _), (Nat.zero_le _)⟩) (fun M4 H locs hp hw => ?_)
    rw [hp] at hw
    have hw : mW γ (mU M1 (oa k) (.inr (2, oc (s1 (s1 (sI (xOut σ k)) 2 k p0) 3 k q0) k))) s H locs := by rw [oc_ask]; exact hw
    obtain ⟨hC4, hf4⟩ := hC3.setO hn hk (J := s1 (s1 (sI (xOut σ k)) 2 k p0) 3 k q0) (fun f x hx => by rw [s1_o hx, s1_o hx]) (e := .inr (2, oc (s1 (s1 (sI (xOut σ k)) 2 k p0) 3 k q0) k)) rfl
    have hC4 : CB γ (mU M1 (oa k) (.inr (2, oc (s1 (s1 (sI (xOut σ k)) 2 k p0) 3 k q0) k))) β oa cp (fun k' => if k' = (sj (sI σ 1 k)) then (L (sj (sI σ 1 k))).eraseIdx z0 else L k') (xAsk (xOut σ k) k p0 q0) := hC4
    have hI4 : Inv0 (xAsk (xOut σ k) k p0 q0) := hI3.ask hr3 hp0
    have hL4 : LN (xAsk (xOut σ k) k p0 q0) (fun k' => if k' = (sj (sI σ 1 k)) then (L (sj (sI σ 1 k))).eraseIdx z0 else L k') := hL3.ask hr3
    have h14 : sI (xAsk (xOut σ k) k p0 q0) 1 k = sI σ 1 k := by rw [ask_f (by decide) (by decide)]; exact congrFun (out_f (by decide)) k
    have h84 : sI (xAsk (xOut σ k) k p0 q0) 8 k = sI σ 8 k := by rw [ask_f (by decide) (by decide)]; exact congrFun (out_f (by decide)) k
    have h54 : sI (xAsk (xOut σ k) k p0 q0) 5 k = -1 := by rw [ask_f (by decide) (by decide)]; exact hr3
    have hX4 : xCome (cgw (xAsk (xOut σ k) k p0 q0) ((fun k' => if k' = (sj (sI σ 1 k)) then (L (sj (sI σ 1 k))).eraseIdx z0 else L k') (sj (opp (sI (xAsk (xOut σ k) k p0 q0) 1 k)))) k) (xAsk (xOut σ k) k p0 q0) k = σ' := by rw [← hX, h14]; show xCome (cgw (xAsk (xOut σ k) k p0 q0) (if sj (opp (sI σ 1 k)) = (sj (sI σ 1 k)) then _ else _) k) (xAsk (xOut σ k) k p0 q0) k = _; rw [if_neg (sj_opp hsd)]
    have hpk : 0 < (sI (xAsk (xOut σ k) k p0 q0) 8 k).toInt → (sI (xAsk (xOut σ k) k p0 q0) 3 k).toInt ≤ 50 * (sI (xAsk (xOut σ k) k p0 q0) 8 k).toInt := by rw [h84, ask_3]; exact fpk_i hv3 (hI.2.2.1 k hk).1 (hI.2.2.1 k hk).2.1
    refine lv_aload_n S.1 S.2.1 d_B_amend_113 rfl (lv_at hl 1 rfl) ?_
    refine lv_aload S.1 S.2.1 d_B_amend_114 (lv_at hl 0 rfl) ?_
    refine m_cv hw (va_runV (As := [.ref (oa k)]) (rest := []) S (c_B_come l γ (mU M1 (oa k) (.inr (2, oc (s1 (s1 (sI (xOut σ k)) 2 k p0) 3 k q0) k))) β oa cp (fun k' => if k' = (sj (sI σ 1 k)) then (L (sj (sI σ 1 k))).eraseIdx z0 else L k') (xAsk (xOut σ k) k p0 q0) σ' hC4 hI4 hL4 k hk h54 (by rw [ask_3]; omega) (by rw [ask_3]; omega) hpk hcp hcpl hX4 hT hrk) (m_cwV 1 S g486 g488 g8 g41 g489 rfl rfl ⟨by decide +kernel, by decide +kernel, by decide +kernel⟩ ⟨(Nat.le_of_ble_eq_true rfl), (Nat.le_of_ble_eq_true rfl)⟩) (hw.preV hC4.book cl_B.1) rfl rfl hl.1 rfl (lv_room (Nat.le_of_ble_eq_true rfl)) d_B_amend_116 ⟨(by show _ + (kC (stn σ') - kC (stn (xAsk (xOut σ k) k p0 q0)) + 1) ≤ kC (stn σ') - kC (stn σ) + 1; rw [show stn (xAsk (xOut σ k) k p0 q0) = stn σ from rfl]; simp), (by show _ + (kS (stn σ') - kS (stn (xAsk (xOut σ k) k p0 q0)) + 373) ≤ kS (stn σ') - kS (stn σ) + 373; rw [show stn (xAsk (xOut σ k) k p0 q0) = stn σ from rfl]; simp)⟩) (fun M5 H locs hp hw => ?_)
    obtain ⟨L5, cp5, hC5, hI5, hL5, hc5, hcl5, hf5, hsn5, hrk5⟩ := hp
    have hk5 : k < sn σ' := by rw [hsn5]; exact hk
    refine lv_aload S.1 S.2.1 d_B_amend_119 (lv_at hl 0 rfl) ?_
    refine m_ci hw (va_runV (As := []) (rest := []) S (c_O_rests l γ M5 (oa k) _ _ _ _ _ _ _ _ _ _ (hC5.ord k hk5)) (m_cwV 0 S g270 g244 g245 g54 g246 rfl rfl ⟨by decide +kernel, by decide +kernel, by decide +kernel⟩ ⟨(Nat.le_of_ble_eq_true rfl), (Nat.le_of_ble_eq_true rfl)⟩) (hw.preV (hC5.ord k hk5) cl_O.1) rfl rfl hl.1 rfl (lv_room (Nat.le_of_ble_eq_true rfl)) d_B_amend_121 ⟨(by show _ + (kC (stn σ') - kC (stn (xAsk (xOut σ k) k p0 q0)) + 1) + 0 ≤ kC (stn σ') - kC (stn σ) + 1; rw [show stn (xAsk (xOut σ k) k p0 q0) = stn σ from rfl]; simp), (by show _ + (kS (stn σ') - kS (stn (xAsk (xOut σ k) k p0 q0)) + 373) + 0 ≤ kS (stn σ') - kS (stn σ) + 373; rw [show stn (xAsk (xOut σ k) k p0 q0) = stn σ from rfl]; simp)⟩) (fun r1 M1 H locs hp hw => ?_)
    obtain ⟨rfl, hM1⟩ := hp
    rw [hM1] at hw
    exact m_iret S hlk hr (b2i_nar _) hw ⟨rfl, L5, cp5, hC5, hI5, hL5, hc5, hcl5, hf3.tr (hf4.tr hf5), hsn5, hrk5⟩ (by show _ + (kC (stn σ') - kC (stn (xAsk (xOut σ k) k p0 q0)) + 1) + 0 ≤ kC (stn σ') - kC (stn σ) + 1; rw [show stn (xAsk (xOut σ k) k p0 q0) = stn σ from rfl]; simp) (by show _ + (kS (stn σ') - kS (stn (xAsk (xOut σ k) k p0 q0)) + 373) + 0 ≤ kS (stn σ') - kS (stn σ) + 373; rw [show stn (xAsk (xOut σ k) k p0 q0) = stn σ from rfl]; simp) d_B_amend_124
  · refine lv_iload_n S.1 S.2.1 d_B_amend_74 rfl (lv_at hl 4 rfl) ?_
    refine lv_aload S.1 S.2.1 d_B_amend_75 (lv_at hl 0 rfl) ?_
    refine m_get S hw cl_O hOk 6 (by decide) g398 (fun _ h => h) rfl d_B_amend_77 ?_
    refine lv_icmp_gt (tgt := 92) S.1 S.2.1 d_B_amend_80 rfl (fun h80 => ?_) (fun h80 => ?_)
    · have hX : xCome (cgw (xAsk (xOut σ k) k p0 q0) (L (sj (opp (sI σ 1 k)))) k) (xAsk (xOut σ k) k p0 q0) k = σ' := by rw [← hσ]; unfold xAm; rw [if_neg (fun z => absurd h80 (Int32.not_lt.mpr z.2))]
      have hmono : stn σ ≤ stn σ' := by rw [← hσ]; exact am_tn
      refine lv_aload_n S.1 S.2.1 d_B_amend_92 rfl (lv_at hl 1 rfl) ?_
      refine lv_aload S.1 S.2.1 d_B_amend_93 (lv_at hl 0 rfl) ?_
      refine m_get S hw cl_O hOk 2 (by decide) g389 (fun _ h => h) rfl d_B_amend_95 ?_
      refine m_cq hw (va_runV (As := [.int ((sI σ) 1 k)]) (rest := []) S (c_B_side l γ M β σ.2.1 hC.book (sI σ 1 k)) (m_cwV 1 S g181 g183 g0 g41 g184 rfl rfl ⟨by decide +kernel, by decide +kernel, by decide +kernel⟩ ⟨(Nat.le_of_ble_eq_true rfl), (Nat.le_of_ble_eq_true rfl)⟩) (hw.preV hC.book cl_B.1) rfl rfl hl.1 rfl (lv_room (Nat.le_of_ble_eq_true rfl)) d_B_amend_98 ⟨(Nat.zero_le _), (Nat.zero_le _)⟩) (fun r1 M1 H locs hp hw => ?_)
      obtain ⟨rfl, hM1⟩ := hp
      rw [hM1] at hw
      have hg := hw.noe
      have hLj : Line (sI σ) (sn σ) (sI σ 1 k) (L (sj (sI σ 1 k))) := sj_val hsd hL
      obtain ⟨z0, hz0⟩ := List.getElem?_of_mem ((hLj.1 k).mpr ⟨hk, onS_iff.mpr ⟨hrs, rfl⟩⟩)
      obtain ⟨r0, hA0⟩ := hC.list (sj_or (sI σ 1 k))
      have hmem : ∀ y, y ∈ L (sj (sI σ 1 k)) → y < sn σ := fun y hy => ((hLj.1 y).mp hy).1
      have hE0 : mEl M 2 ((L (sj (sI σ 1 k))).map oa) := hC.ord.el hmem
      obtain ⟨hk1, hk2⟩ := map_first (oa := oa) hz0 hLj.nodup hmem (fun a b ha hb e => hC.ord.inj hn ha hb e)
      refine lv_aload S.1 S.2.1 d_B_amend_101 (lv_at hl 0 rfl) ?_
      refine m_cv hw (va_runV (As := [.ref (oa k)]) (rest := []) S (c_S_leave l γ M (bsd β (sj (sI σ 1 k))) (bal β (sj (sI σ 1 k))) r0 (cp (sj (sI σ 1 k))) ((L (sj (sI σ 1 k))).map oa) (hC.side (sj_or _)) hA0 hE0 (oa k) _ _ _ _ _ _ _ _ _ _ hOk z0 hk1 hk2 (by rw [List.length_map]; exact hLj.len hn)) (m_cwV 1 S g567 g568 g569 g45 g570 rfl rfl ⟨by decide +kernel, by decide +kernel, by decide +kernel⟩ ⟨(Nat.le_of_ble_eq_true rfl), (Nat.le_of_ble_eq_true rfl)⟩) (hw.preV (hC.side (sj_or _)) cl_S.1) rfl rfl hl.1 rfl (lv_room (Nat.le_of_ble_eq_true rfl)) d_B_amend_103 ⟨(Nat.zero_le _), (Nat.zero_le _)⟩) (fun M1 H locs hp hw => ?_)
      obtain ⟨hA9, hF9⟩ := hp
      obtain ⟨hC3, hf3⟩ := hC.left hn hk hg hA0 hA9 hF9
      obtain ⟨hI3, hL3⟩ := LN.out (hI.x k) hL hk hz0
      have hr3 : sI (xOut σ k) 5 k = -1 := s1_ss (sI σ) 5 k (-1)
      refine lv_aload S.1 S.2.1 d_B_amend_106 (lv_at hl 0 rfl) ?_
      refine lv_iload_n S.1 S.2.1 d_B_amend_108 rfl (lv_at hl 3 rfl) ?_
      refine lv_iload_n S.1 S.2.1 d_B_amend_109 rfl (lv_at hl 4 rfl) ?_
      refine m_cv hw (va_runV (As := [.int p0, .int q0]) (rest := []) S (c_O_ask l γ M1 (oa k) _ _ _ _ _ _ _ _ _ _ (hC3.ord k hk) p0 q0) (m_cwV 2 S g427 g428 g429 g54 g430 rfl rfl ⟨by decide +kernel, by decide +kernel, by decide +kernel⟩ ⟨(Nat.le_of_ble_eq_true rfl), (Nat.le_of_ble_eq_true rfl)⟩) (hw.preV (hC3.ord k hk) cl_O.1) rfl rfl hl.1 rfl (lv_room (Nat.le_of_ble_eq_true rfl)) d_B_amend_110 ⟨(Nat.zero_le _), (Nat.zero_le _)⟩) (fun M4 H locs hp hw => ?_)
      rw [hp] at hw
      have hw : mW γ (mU M1 (oa k) (.inr (2, oc (s1 (s1 (sI (xOut σ k)) 2 k p0) 3 k q0) k))) s H locs := by rw [oc_ask]; exact hw
      obtain ⟨hC4, hf4⟩ := hC3.setO hn hk (J := s1 (s1 (sI (xOut σ k)) 2 k p0) 3 k q0) (fun f x hx => by rw [s1_o hx, s1_o hx]) (e := .inr (2, oc (s1 (s1 (sI (xOut σ k)) 2 k p0) 3 k q0) k)) rfl
      have hC4 : CB γ (mU M1 (oa k) (.inr (2, oc (s1 (s1 (sI (xOut σ k)) 2 k p0) 3 k q0) k))) β oa cp (fun k' => if k' = (sj (sI σ 1 k)) then (L (sj (sI σ 1 k))).eraseIdx z0 else L k') (xAsk (xOut σ k) k p0 q0) := hC4
      have hI4 : Inv0 (xAsk (xOut σ k) k p0 q0) := hI3.ask hr3 hp0
      have hL4 : LN (xAsk (xOut σ k) k p0 q0) (fun k' => if k' = (sj (sI σ 1 k)) then (L (sj (sI σ 1 k))).eraseIdx z0 else L k') := hL3.ask hr3
      have h14 : sI (xAsk (xOut σ k) k p0 q0) 1 k = sI σ 1 k := by rw [ask_f (by decide) (by decide)]; exact congrFun (out_f (by decide)) k
      have h84 : sI (xAsk (xOut σ k) k p0 q0) 8 k = sI σ 8 k := by rw [ask_f (by decide) (by decide)]; exact congrFun (out_f (by decide)) k
      have h54 : sI (xAsk (xOut σ k) k p0 q0) 5 k = -1 := by rw [ask_f (by decide) (by decide)]; exact hr3
      have hX4 : xCome (cgw (xAsk (xOut σ k) k p0 q0) ((fun k' => if k' = (sj (sI σ 1 k)) then (L (sj (sI σ 1 k))).eraseIdx z0 else L k') (sj (opp (sI (xAsk (xOut σ k) k p0 q0) 1 k)))) k) (xAsk (xOut σ k) k p0 q0) k = σ' := by rw [← hX, h14]; show xCome (cgw (xAsk (xOut σ k) k p0 q0) (if sj (opp (sI σ 1 k)) = (sj (sI σ 1 k)) then _ else _) k) (xAsk (xOut σ k) k p0 q0) k = _; rw [if_neg (sj_opp hsd)]
      have hpk : 0 < (sI (xAsk (xOut σ k) k p0 q0) 8 k).toInt → (sI (xAsk (xOut σ k) k p0 q0) 3 k).toInt ≤ 50 * (sI (xAsk (xOut σ k) k p0 q0) 8 k).toInt := by rw [h84, ask_3]; exact fpk_i hv3 (hI.2.2.1 k hk).1 (hI.2.2.1 k hk).2.1
      refine lv_aload_n S.1 S.2.1 d_B_amend_113 rfl (lv_at hl 1 rfl) ?_
      refine lv_aload S.1 S.2.1 d_B_amend_114 (lv_at hl 0 rfl) ?_
      refine m_cv hw (va_runV (As := [.ref (oa k)]) (rest := []) S (c_B_come l γ (mU M1 (oa k) (.inr (2, oc (s1 (s1 (sI (xOut σ k)) 2 k p0) 3 k q0) k))) β oa cp (fun k' => if k' = (sj (sI σ 1 k)) then (L (sj (sI σ 1 k))).eraseIdx z0 else L k') (xAsk (xOut σ k) k p0 q0) σ' hC4 hI4 hL4 k hk h54 (by rw [ask_3]; omega) (by rw [ask_3]; omega) hpk hcp hcpl hX4 hT hrk) (m_cwV 1 S g486 g488 g8 g41 g489 rfl rfl ⟨by decide +kernel, by decide +kernel, by decide +kernel⟩ ⟨(Nat.le_of_ble_eq_true rfl), (Nat.le_of_ble_eq_true rfl)⟩) (hw.preV hC4.book cl_B.1) rfl rfl hl.1 rfl (lv_room (Nat.le_of_ble_eq_true rfl)) d_B_amend_116 ⟨(by show _ + (kC (stn σ') - kC (stn (xAsk (xOut σ k) k p0 q0)) + 1) ≤ kC (stn σ') - kC (stn σ) + 1; rw [show stn (xAsk (xOut σ k) k p0 q0) = stn σ from rfl]; simp), (by show _ + (kS (stn σ') - kS (stn (xAsk (xOut σ k) k p0 q0)) + 373) ≤ kS (stn σ') - kS (stn σ) + 373; rw [show stn (xAsk (xOut σ k) k p0 q0) = stn σ from rfl]; simp)⟩) (fun M5 H locs hp hw => ?_)
      obtain ⟨L5, cp5, hC5, hI5, hL5, hc5, hcl5, hf5, hsn5, hrk5⟩ := hp
      have hk5 : k < sn σ' := by rw [hsn5]; exact hk
      refine lv_aload S.1 S.2.1 d_B_amend_119 (lv_at hl 0 rfl) ?_
      refine m_ci hw (va_runV (As := []) (rest := []) S (c_O_rests l γ M5 (oa k) _ _ _ _ _ _ _ _ _ _ (hC5.ord k hk5)) (m_cwV 0 S g270 g244 g245 g54 g246 rfl rfl ⟨by decide +kernel, by decide +kernel, by decide +kernel⟩ ⟨(Nat.le_of_ble_eq_true rfl), (Nat.le_of_ble_eq_true rfl)⟩) (hw.preV (hC5.ord k hk5) cl_O.1) rfl rfl hl.1 rfl (lv_room (Nat.le_of_ble_eq_true rfl)) d_B_amend_121 ⟨(by show _ + (kC (stn σ') - kC (stn (xAsk (xOut σ k) k p0 q0)) + 1) + 0 ≤ kC (stn σ') - kC (stn σ) + 1; rw [show stn (xAsk (xOut σ k) k p0 q0) = stn σ from rfl]; simp), (by show _ + (kS (stn σ') - kS (stn (xAsk (xOut σ k) k p0 q0)) + 373) + 0 ≤ kS (stn σ') - kS (stn σ) + 373; rw [show stn (xAsk (xOut σ k) k p0 q0) = stn σ from rfl]; simp)⟩) (fun r1 M1 H locs hp hw => ?_)
      obtain ⟨rfl, hM1⟩ := hp
      rw [hM1] at hw
      exact m_iret S hlk hr (b2i_nar _) hw ⟨rfl, L5, cp5, hC5, hI5, hL5, hc5, hcl5, hf3.tr (hf4.tr hf5), hsn5, hrk5⟩ (by show _ + (kC (stn σ') - kC (stn (xAsk (xOut σ k) k p0 q0)) + 1) + 0 ≤ kC (stn σ') - kC (stn σ) + 1; rw [show stn (xAsk (xOut σ k) k p0 q0) = stn σ from rfl]; simp) (by show _ + (kS (stn σ') - kS (stn (xAsk (xOut σ k) k p0 q0)) + 373) + 0 ≤ kS (stn σ') - kS (stn σ) + 373; rw [show stn (xAsk (xOut σ k) k p0 q0) = stn σ from rfl]; simp) d_B_amend_124
    · have hE : xLess σ k q0 = σ' := by rw [← hσ]; unfold xAm; rw [if_pos ⟨h71, Int32.not_lt.mp h80⟩]
      subst hE
      have hql : q0.toInt ≤ (sI σ 3 k).toInt := Int32.le_iff_toInt_le.mp (Int32.not_lt.mp h80)
      refine lv_aload S.1 S.2.1 d_B_amend_83 (lv_at hl 0 rfl) ?_
      refine lv_iload_n S.1 S.2.1 d_B_amend_85 rfl (lv_at hl 4 rfl) ?_
      refine m_cv hw (va_runV (As := [.int q0]) (rest := []) S (c_O_lessen l γ M (oa k) _ _ _ _ _ _ _ _ _ _ hOk q0) (m_cwV 1 S g604 g605 g606 g54 g607 rfl rfl ⟨by decide +kernel, by decide +kernel, by decide +kernel⟩ ⟨(Nat.le_of_ble_eq_true rfl), (Nat.le_of_ble_eq_true rfl)⟩) (hw.preV hOk cl_O.1) rfl rfl hl.1 rfl (lv_room (Nat.le_of_ble_eq_true rfl)) d_B_amend_86 ⟨(Nat.zero_le _), (Nat.zero_le _)⟩) (fun M1 H locs hp hw => ?_)
      rw [hp] at hw
      have hw : mW γ (mU M (oa k) (.inr (2, oc (s1 (s1 (sI σ) 3 k q0) 4 k (mn (sI σ 4 k) q0)) k))) s H locs := by rw [oc_less]; exact hw
      obtain ⟨hC3, hf3⟩ := hC.setO hn hk (J := s1 (s1 (sI σ) 3 k q0) 4 k (mn (sI σ 4 k) q0)) (fun f x hx => by rw [s1_o hx, s1_o hx]) (e := .inr (2, oc (s1 (s1 (sI σ) 3 k q0) 4 k (mn (sI σ 4 k) q0)) k)) rfl
      have hC3 : CB γ (mU M (oa k) (.inr (2, oc (s1 (s1 (sI σ) 3 k q0) 4 k (mn (sI σ 4 k) q0)) k))) β oa cp L (xLess σ k q0) := hC3
      refine lv_goto (tgt := 119) S.1 S.2.1 d_B_amend_89 rfl ?_
      refine lv_aload S.1 S.2.1 d_B_amend_119 (lv_at hl 0 rfl) ?_
      refine m_ci hw (va_runV (As := []) (rest := []) S (c_O_rests l γ (mU M (oa k) (.inr (2, oc (s1 (s1 (sI σ) 3 k q0) 4 k (mn (sI σ 4 k) q0)) k))) (oa k) _ _ _ _ _ _ _ _ _ _ (hC3.ord k hk)) (m_cwV 0 S g270 g244 g245 g54 g246 rfl rfl ⟨by decide +kernel, by decide +kernel, by decide +kernel⟩ ⟨(Nat.le_of_ble_eq_true rfl), (Nat.le_of_ble_eq_true rfl)⟩) (hw.preV (hC3.ord k hk) cl_O.1) rfl rfl hl.1 rfl (lv_room (Nat.le_of_ble_eq_true rfl)) d_B_amend_121 ⟨(Nat.zero_le _), (Nat.zero_le _)⟩) (fun r1 M1 H locs hp hw => ?_)
      obtain ⟨rfl, hM1⟩ := hp
      rw [hM1] at hw
      exact m_iret S hlk hr (b2i_nar _) hw ⟨rfl, L, cp, hC3, less_inv hI hk hrs (by omega) hql, hL.cols rfl (less_f (by decide) (by decide)) (less_f (by decide) (by decide)) (less_f (by decide) (by decide)), hcp, hcpl, hf3, rfl, by show (srk σ).toInt ≤ _; omega⟩ (Nat.zero_le _) (Nat.zero_le _) d_B_amend_124
end
section
/-! A new order, in numbers -/
def nCol (I : Co) (n : Nat) (w b p q k f : Int32) : Co := fun c x => if x = n then (if c = 0 then w else if c = 1 then b else if c = 2 then p else if c = 3 then q else if c = 4 then 0 else if c = 5 then -1 else if c = 6 then f else if c = 7 then 0 else k) else I c x
def xNew (σ : St) (w b p q k f : Int32) : St := ((sn σ + 1, nCol (sI σ) (sn σ) w b p q k f), σ.2)
theorem nar_b {b : Int32} (h : b = 0 ∨ b = 1) : narrow .boolean (.int b) = .int b := by rcases h with e | e <;> subst e <;> rfl
theorem oc_new (I : Co) (n : Nat) (w b p q k f : Int32) : oc (nCol I n w b p q k f) n = [.int (nI n), .int w, .int b, .int k, .int f, .int p, .int q, .int 0, .int (-1), .int 0] := by
  unfold oc nCol
  simp
section NEW
variable {σ : St} {w b p q k f : Int32}
theorem new_o {c x : Nat} (h : x ≠ sn σ) : sI (xNew σ w b p q k f) c x = sI σ c x := if_neg h
theorem new_n {c : Nat} : sI (xNew σ w b p q k f) c (sn σ) = (if c = 0 then w else if c = 1 then b else if c = 2 then p else if c = 3 then q else if c = 4 then 0 else if c = 5 then -1 else if c = 6 then f else if c = 7 then 0 else k) := if_pos rfl
theorem new_rs : rs (sI (xNew σ w b p q k f)) (sn σ) = false := by
  have e : sI (xNew σ w b p q k f) 5 (sn σ) = -1 := new_n
  unfold rs
  rw [e]
  decide
theorem new_rso {x : Nat} (h : x ≠ sn σ) : rs (sI (xNew σ w b p q k f)) x = rs (sI σ) x := by
  unfold rs
  rw [new_o h]
theorem Inv0.new (hI : Inv0 σ) (hn : sn σ < 250) (hb : b = 0 ∨ b = 1) (hp : 0 ≤ p.toInt ∧ p.toInt ≤ 2000) (hk : 0 ≤ k.toInt ∧ k.toInt ≤ 100000) : Inv0 (xNew σ w b p q k f) := by
  obtain ⟨i1, i2, i3, i4, i5⟩ := hI
  have lt : ∀ o, o < sn σ + 1 → o ≠ sn σ → o < sn σ := fun o h1 h2 => by omega
  refine ⟨by show sn σ + 1 ≤ 250; omega, ⟨fun o ho => ?_, fun x y hx hy rx ry e => ?_⟩, fun o ho => ?_, i4, fun o ho hs => ?_⟩
  · by_cases z : o = sn σ
    · subst z
      rw [show sI (xNew σ w b p q k f) 2 (sn σ) = p from new_n, show sI (xNew σ w b p q k f) 1 (sn σ) = b from new_n]
      exact ⟨hp.1, hp.2, hb⟩
    · rw [new_o z, new_o z]; exact i2.1 o (lt o ho z)
  · have zx : x ≠ sn σ := fun z => by rw [z, new_rs] at rx; cases rx
    have zy : y ≠ sn σ := fun z => by rw [z, new_rs] at ry; cases ry
    rw [new_rso zx] at rx
    rw [new_rso zy] at ry
    rw [new_o zx, new_o zy] at e
    exact i2.2 x y (lt x hx zx) (lt y hy zy) rx ry e
  · by_cases z : o = sn σ
    · subst z
      rw [show sI (xNew σ w b p q k f) 8 (sn σ) = k from new_n, show sI (xNew σ w b p q k f) 5 (sn σ) = -1 from new_n, i_m1]
      exact ⟨hk.1, hk.2, by omega, by show -1 < (srk σ).toInt; omega⟩
    · rw [new_o z, new_o z]; exact i3 o (lt o ho z)
  · have z : o ≠ sn σ := fun z => by rw [z, new_rs] at hs; cases hs
    rw [new_rso z] at hs
    have h9 := i5 o (lt o ho z) hs
    unfold Rok at *
    rw [new_o z, new_o z, new_o z]
    exact h9
theorem Line.new {s : Int32} {K : List Nat} (h : Line (sI σ) (sn σ) s K) : Line (sI (xNew σ w b p q k f)) (sn σ + 1) s K := by
  have ne : ∀ y, y ∈ K → y ≠ sn σ := fun y hy z => by have := ((h.1 y).mp hy).1; omega
  refine ⟨fun o => ?_, List.Pairwise.imp_of_mem ?_ h.2⟩
  · rw [h.1 o]
    by_cases z : o = sn σ
    · constructor
      · rintro ⟨h1, -⟩; omega
      · rintro ⟨-, h2⟩
        rw [onS_iff, z, new_rs] at h2
        exact absurd h2.1 (by decide)
    · have e : onS (sI (xNew σ w b p q k f)) s o = onS (sI σ) s o := by unfold onS; rw [new_rso z, new_o z]
      rw [e]
      constructor
      · rintro ⟨h1, h2⟩; exact ⟨by omega, h2⟩
      · rintro ⟨h1, h2⟩; exact ⟨by omega, h2⟩
  · intro x y hx hy hxy
    rw [bf_at (new_o (ne x hx)) (new_o (ne x hx)) (new_o (ne y hy)) (new_o (ne x hx)) (new_o (ne y hy))]
    exact hxy
theorem LN.new {L : Nat → List Nat} (h : LN σ L) : LN (xNew σ w b p q k f) L := ⟨h.1.new, h.2.new⟩
end NEW
theorem CB.add {γ : mG} {M : mMap} {β : BK} {oa cp : Nat → Nat} {L : Nat → List Nat} {σ : St} (h : CB γ M β oa cp L σ) (hg : M (ge γ) = none) (hL : ∀ j, j = 1 ∨ j = 2 → ∀ y, y ∈ L j → y < sn σ) : ∃ r, AL γ M (bal β 0) r (cp 0) ((List.range (sn σ)).map oa) ∧ ∀ (q r' : Nat) (M' : mMap) (J : Co), M q = none → q ≠ ge γ → (∀ f x, x < sn σ → J f x = sI σ f x) → AL γ M' (bal β 0) r' (cN (cp 0) (sn σ)) ((List.range (sn σ)).map oa ++ [q]) → alF (mU M q (.inr (2, oc J (sn σ)))) M' (bal β 0) r r' → CB γ M' β (va_up oa (sn σ) q) (va_up cp 0 (cN (cp 0) (sn σ))) L ((sn σ + 1, J), σ.2) ∧ frC M M' := by
  obtain ⟨ar, ta, ap, av, az, h1, h2, h3, h4, h5, h6, h7⟩ := h
  have hA0 := h7.1 0 (by omega)
  have e0 : lx oa ta (sn σ) (stn σ) L 0 = (List.range (sn σ)).map oa := if_pos rfl
  rw [e0] at hA0
  refine ⟨ar 0, hA0, ?_⟩
  intro q r' M' J hq hqe hJ hA hF
  have hS1 : FL4 γ (mU M q (.inr (2, oc J (sn σ)))) (bal β) ar cp (lx oa ta (sn σ) (stn σ) L) := h7.new hq
  have hg1 : (mU M q (.inr (2, oc J (sn σ)))) (ge γ) = none := by rw [mU_ne hqe.symm]; exact hg
  have hA01 := hS1.1 0 (by omega)
  have up : ∀ (b ci : Nat) (fs : List Value), ci ≠ 0 → M b = some (.inr (ci, fs)) → M' b = some (.inr (ci, fs)) := fun b ci fs hc0 hb => hF.keepO hA01 hg1 (mU_to (m_fne hb hq) hb) hc0
  have hS := hS1.step hg1 (j := 0) (by omega) hF hA
  have mo : ∀ (K : List Nat), (∀ y, y ∈ K → y < sn σ) → K.map (va_up oa (sn σ) q) = K.map oa := fun K hK => List.map_congr_left (fun i hi => if_neg (by have := hK i hi; omega))
  have el : ∀ k, k < 4 → (if k = 0 then (List.range (sn σ)).map oa ++ [q] else lx oa ta (sn σ) (stn σ) L k) = lx (va_up oa (sn σ) q) ta (sn σ + 1) (stn σ) L k := by
    intro k hk
    unfold lx
    by_cases z : k = 0
    · rw [if_pos z, if_pos z, List.range_succ, List.map_append, mo _ (fun y hy => List.mem_range.mp hy)]
      congr 1
      show [q] = [va_up oa (sn σ) q (sn σ)]
      rw [show va_up oa (sn σ) q (sn σ) = q from if_pos rfl]
    · rw [if_neg z, if_neg z, if_neg z]
      by_cases z3 : k = 3
      · rw [if_pos z3, if_pos z3]
      · rw [if_neg z3, if_neg z3, mo _ (hL k (by omega))]
  have hS' : FL4 γ M' (bal β) (va_up ar 0 r') (va_up cp 0 (cN (cp 0) (sn σ))) (lx (va_up oa (sn σ) q) ta (sn σ + 1) (stn σ) L) := ⟨fun j hj => by rw [← el j hj]; exact hS.1 j hj, hS.2⟩
  refine ⟨⟨va_up ar 0 r', ta, ap, av, az, up _ _ _ (by decide) h1, ⟨up _ _ _ (by decide) h2.1, up _ _ _ (by decide) h2.2⟩, up _ _ _ (by decide) h3, up _ _ _ (by decide) h4, fun i hi => ?_, fun i hi => up _ _ _ (by decide) (h6 i hi), hS'⟩, (frC.new hq).tr (frC.al hF hA01 hg1)⟩
  by_cases z : i = sn σ
  · subst z
    rw [show va_up oa (sn σ) q (sn σ) = q from if_pos rfl]
    exact hF.keepO hA01 hg1 (mU_eq _ _ _) (by decide)
  · have hi' : i < sn σ := by have : i < sn σ + 1 := hi; omega
    rw [show va_up oa (sn σ) q i = oa i from if_neg z]
    show M' (oa i) = some (.inr (2, oc J i))
    rw [oc_congr (fun f _ => hJ f i hi')]
    exact up _ _ _ (by decide) (h5 i hi')
end
