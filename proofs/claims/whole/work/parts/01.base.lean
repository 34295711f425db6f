-- ===== PART A: goes FIRST, ahead of the names: the tables' words, and 'selects' of the private methods out of them =====
/-- a private method of a class that the tables say can be made, by its rows of tables_1 -/
def lw_okq (q : MethodName × Nat) : Prop := (q.1.cls ≠ "java/lang/invoke/MethodHandle" ∧ q.1.cls ≠ "java/lang/invoke/VarHandle") ∧ Cond.instantiable q.1.cls q.2 ∈ tables_1 ∧ Cond.privateMethod q.1 ∈ tables_1 ∧ Cond.instanceMethod q.1 ∈ tables_1
theorem lw_p0 : lw_okq (⟨"WindowHill$Town", "makeOneDarkHouse", "()V"⟩, 16) := ⟨⟨by decide +kernel, by decide +kernel⟩, List.mem_of_getElem? (i := 156) (by decide +kernel), List.mem_of_getElem? (i := 492) (by decide +kernel), List.mem_of_getElem? (i := 493) (by decide +kernel)⟩
theorem lw_p1 : lw_okq (⟨"WindowHill$Town", "makeEmpty", "(IZ)V"⟩, 16) := ⟨⟨by decide +kernel, by decide +kernel⟩, List.mem_of_getElem? (i := 156) (by decide +kernel), List.mem_of_getElem? (i := 496) (by decide +kernel), List.mem_of_getElem? (i := 497) (by decide +kernel)⟩
theorem lw_p2 : lw_okq (⟨"WindowHill$Hill", "start", "(IZ)V"⟩, 10) := ⟨⟨by decide +kernel, by decide +kernel⟩, List.mem_of_getElem? (i := 162) (by decide +kernel), List.mem_of_getElem? (i := 500) (by decide +kernel), List.mem_of_getElem? (i := 501) (by decide +kernel)⟩
theorem lw_p3 : lw_okq (⟨"WindowHill$Year", "makeNone", "()V"⟩, 8) := ⟨⟨by decide +kernel, by decide +kernel⟩, List.mem_of_getElem? (i := 226) (by decide +kernel), List.mem_of_getElem? (i := 504) (by decide +kernel), List.mem_of_getElem? (i := 505) (by decide +kernel)⟩
theorem lw_p4 : lw_okq (⟨"WindowHill$Hill", "addRow", "()V"⟩, 10) := ⟨⟨by decide +kernel, by decide +kernel⟩, List.mem_of_getElem? (i := 162) (by decide +kernel), List.mem_of_getElem? (i := 511) (by decide +kernel), List.mem_of_getElem? (i := 512) (by decide +kernel)⟩
theorem lw_p5 : lw_okq (⟨"WindowHill$Town", "addHouse", "(II)V"⟩, 16) := ⟨⟨by decide +kernel, by decide +kernel⟩, List.mem_of_getElem? (i := 156) (by decide +kernel), List.mem_of_getElem? (i := 515) (by decide +kernel), List.mem_of_getElem? (i := 516) (by decide +kernel)⟩
theorem lw_p6 : lw_okq (⟨"WindowHill", "deny", "(I)Z"⟩, 15) := ⟨⟨by decide +kernel, by decide +kernel⟩, List.mem_of_getElem? (i := 23) (by decide +kernel), List.mem_of_getElem? (i := 584) (by decide +kernel), List.mem_of_getElem? (i := 585) (by decide +kernel)⟩
theorem lw_p7 : lw_okq (⟨"WindowHill$Trays", "make", "(III)V"⟩, 3) := ⟨⟨by decide +kernel, by decide +kernel⟩, List.mem_of_getElem? (i := 31) (by decide +kernel), List.mem_of_getElem? (i := 588) (by decide +kernel), List.mem_of_getElem? (i := 589) (by decide +kernel)⟩
theorem lw_p8 : lw_okq (⟨"WindowHill", "allow", "()Z"⟩, 15) := ⟨⟨by decide +kernel, by decide +kernel⟩, List.mem_of_getElem? (i := 23) (by decide +kernel), List.mem_of_getElem? (i := 592) (by decide +kernel), List.mem_of_getElem? (i := 593) (by decide +kernel)⟩
theorem lw_p9 : lw_okq (⟨"WindowHill", "whyNotInTray", "(II)I"⟩, 15) := ⟨⟨by decide +kernel, by decide +kernel⟩, List.mem_of_getElem? (i := 23) (by decide +kernel), List.mem_of_getElem? (i := 600) (by decide +kernel), List.mem_of_getElem? (i := 601) (by decide +kernel)⟩
theorem lw_p10 : lw_okq (⟨"WindowHill$Trays", "isMissing", "(I)Z"⟩, 3) := ⟨⟨by decide +kernel, by decide +kernel⟩, List.mem_of_getElem? (i := 31) (by decide +kernel), List.mem_of_getElem? (i := 604) (by decide +kernel), List.mem_of_getElem? (i := 605) (by decide +kernel)⟩
theorem lw_p11 : lw_okq (⟨"WindowHill$Trays", "hasRoom", "(III)Z"⟩, 3) := ⟨⟨by decide +kernel, by decide +kernel⟩, List.mem_of_getElem? (i := 31) (by decide +kernel), List.mem_of_getElem? (i := 608) (by decide +kernel), List.mem_of_getElem? (i := 609) (by decide +kernel)⟩
theorem lw_p12 : lw_okq (⟨"WindowHill$Trays", "put", "(IIJ)V"⟩, 3) := ⟨⟨by decide +kernel, by decide +kernel⟩, List.mem_of_getElem? (i := 31) (by decide +kernel), List.mem_of_getElem? (i := 612) (by decide +kernel), List.mem_of_getElem? (i := 613) (by decide +kernel)⟩
theorem lw_p13 : lw_okq (⟨"WindowHill", "refuse", "(I)I"⟩, 15) := ⟨⟨by decide +kernel, by decide +kernel⟩, List.mem_of_getElem? (i := 23) (by decide +kernel), List.mem_of_getElem? (i := 623) (by decide +kernel), List.mem_of_getElem? (i := 624) (by decide +kernel)⟩
theorem lw_p14 : lw_okq (⟨"WindowHill$Trays", "numberAt", "(II)J"⟩, 3) := ⟨⟨by decide +kernel, by decide +kernel⟩, List.mem_of_getElem? (i := 31) (by decide +kernel), List.mem_of_getElem? (i := 627) (by decide +kernel), List.mem_of_getElem? (i := 628) (by decide +kernel)⟩
theorem lw_p15 : lw_okq (⟨"WindowHill$Trays", "areOfOneSort", "(II)Z"⟩, 3) := ⟨⟨by decide +kernel, by decide +kernel⟩, List.mem_of_getElem? (i := 31) (by decide +kernel), List.mem_of_getElem? (i := 635) (by decide +kernel), List.mem_of_getElem? (i := 636) (by decide +kernel)⟩
def lw_privs_1 : List (MethodName × Nat) := [(⟨"WindowHill$Town", "makeOneDarkHouse", "()V"⟩, 16), (⟨"WindowHill$Town", "makeEmpty", "(IZ)V"⟩, 16), (⟨"WindowHill$Hill", "start", "(IZ)V"⟩, 10), (⟨"WindowHill$Year", "makeNone", "()V"⟩, 8), (⟨"WindowHill$Hill", "addRow", "()V"⟩, 10), (⟨"WindowHill$Town", "addHouse", "(II)V"⟩, 16), (⟨"WindowHill", "deny", "(I)Z"⟩, 15), (⟨"WindowHill$Trays", "make", "(III)V"⟩, 3), (⟨"WindowHill", "allow", "()Z"⟩, 15), (⟨"WindowHill", "whyNotInTray", "(II)I"⟩, 15), (⟨"WindowHill$Trays", "isMissing", "(I)Z"⟩, 3), (⟨"WindowHill$Trays", "hasRoom", "(III)Z"⟩, 3), (⟨"WindowHill$Trays", "put", "(IIJ)V"⟩, 3), (⟨"WindowHill", "refuse", "(I)I"⟩, 15), (⟨"WindowHill$Trays", "numberAt", "(II)J"⟩, 3), (⟨"WindowHill$Trays", "areOfOneSort", "(II)Z"⟩, 3)]
theorem lw_r1 : ∀ q ∈ lw_privs_1, lw_okq q := List.forall_mem_cons.mpr ⟨lw_p0, List.forall_mem_cons.mpr ⟨lw_p1, List.forall_mem_cons.mpr ⟨lw_p2, List.forall_mem_cons.mpr ⟨lw_p3, List.forall_mem_cons.mpr ⟨lw_p4, List.forall_mem_cons.mpr ⟨lw_p5, List.forall_mem_cons.mpr ⟨lw_p6, List.forall_mem_cons.mpr ⟨lw_p7, List.forall_mem_cons.mpr ⟨lw_p8, List.forall_mem_cons.mpr ⟨lw_p9, List.forall_mem_cons.mpr ⟨lw_p10, List.forall_mem_cons.mpr ⟨lw_p11, List.forall_mem_cons.mpr ⟨lw_p12, List.forall_mem_cons.mpr ⟨lw_p13, List.forall_mem_cons.mpr ⟨lw_p14, List.forall_mem_cons.mpr ⟨lw_p15, fun _ h => absurd h List.not_mem_nil⟩⟩⟩⟩⟩⟩⟩⟩⟩⟩⟩⟩⟩⟩⟩⟩
theorem lw_p16 : lw_okq (⟨"WindowHill$Trays", "copy", "(IIIII)V"⟩, 3) := ⟨⟨by decide +kernel, by decide +kernel⟩, List.mem_of_getElem? (i := 31) (by decide +kernel), List.mem_of_getElem? (i := 639) (by decide +kernel), List.mem_of_getElem? (i := 640) (by decide +kernel)⟩
theorem lw_p17 : lw_okq (⟨"WindowHill$Tokens", "hasRoomFor", "(I)Z"⟩, 14) := ⟨⟨by decide +kernel, by decide +kernel⟩, List.mem_of_getElem? (i := 49) (by decide +kernel), List.mem_of_getElem? (i := 650) (by decide +kernel), List.mem_of_getElem? (i := 651) (by decide +kernel)⟩
theorem lw_p18 : lw_okq (⟨"WindowHill$Tokens", "append", "(I)V"⟩, 14) := ⟨⟨by decide +kernel, by decide +kernel⟩, List.mem_of_getElem? (i := 49) (by decide +kernel), List.mem_of_getElem? (i := 654) (by decide +kernel), List.mem_of_getElem? (i := 655) (by decide +kernel)⟩
theorem lw_p19 : lw_okq (⟨"WindowHill$Tokens", "begin", "(I)V"⟩, 14) := ⟨⟨by decide +kernel, by decide +kernel⟩, List.mem_of_getElem? (i := 49) (by decide +kernel), List.mem_of_getElem? (i := 662) (by decide +kernel), List.mem_of_getElem? (i := 663) (by decide +kernel)⟩
theorem lw_p20 : lw_okq (⟨"WindowHill$Tokens", "skipBlanks", "(I)I"⟩, 14) := ⟨⟨by decide +kernel, by decide +kernel⟩, List.mem_of_getElem? (i := 49) (by decide +kernel), List.mem_of_getElem? (i := 669) (by decide +kernel), List.mem_of_getElem? (i := 670) (by decide +kernel)⟩
theorem lw_p21 : lw_okq (⟨"WindowHill$Tokens", "addToken", "(I)I"⟩, 14) := ⟨⟨by decide +kernel, by decide +kernel⟩, List.mem_of_getElem? (i := 49) (by decide +kernel), List.mem_of_getElem? (i := 673) (by decide +kernel), List.mem_of_getElem? (i := 674) (by decide +kernel)⟩
theorem lw_p22 : lw_okq (⟨"WindowHill$Tokens", "addWord", "(I)I"⟩, 14) := ⟨⟨by decide +kernel, by decide +kernel⟩, List.mem_of_getElem? (i := 49) (by decide +kernel), List.mem_of_getElem? (i := 677) (by decide +kernel), List.mem_of_getElem? (i := 678) (by decide +kernel)⟩
theorem lw_p23 : lw_okq (⟨"WindowHill$Tokens", "note", "(IIII)V"⟩, 14) := ⟨⟨by decide +kernel, by decide +kernel⟩, List.mem_of_getElem? (i := 49) (by decide +kernel), List.mem_of_getElem? (i := 682) (by decide +kernel), List.mem_of_getElem? (i := 683) (by decide +kernel)⟩
theorem lw_p24 : lw_okq (⟨"WindowHill$Tokens", "addNumber", "(I)I"⟩, 14) := ⟨⟨by decide +kernel, by decide +kernel⟩, List.mem_of_getElem? (i := 49) (by decide +kernel), List.mem_of_getElem? (i := 686) (by decide +kernel), List.mem_of_getElem? (i := 687) (by decide +kernel)⟩
theorem lw_p25 : lw_okq (⟨"WindowHill$Tokens", "takeWord", "(I)Z"⟩, 14) := ⟨⟨by decide +kernel, by decide +kernel⟩, List.mem_of_getElem? (i := 49) (by decide +kernel), List.mem_of_getElem? (i := 696) (by decide +kernel), List.mem_of_getElem? (i := 697) (by decide +kernel)⟩
theorem lw_p26 : lw_okq (⟨"WindowHill$Tokens", "isWord", "(I)Z"⟩, 14) := ⟨⟨by decide +kernel, by decide +kernel⟩, List.mem_of_getElem? (i := 49) (by decide +kernel), List.mem_of_getElem? (i := 700) (by decide +kernel), List.mem_of_getElem? (i := 701) (by decide +kernel)⟩
theorem lw_p27 : lw_okq (⟨"WindowHill$Tokens", "fail", "(I)Z"⟩, 14) := ⟨⟨by decide +kernel, by decide +kernel⟩, List.mem_of_getElem? (i := 49) (by decide +kernel), List.mem_of_getElem? (i := 704) (by decide +kernel), List.mem_of_getElem? (i := 705) (by decide +kernel)⟩
theorem lw_p28 : lw_okq (⟨"WindowHill$Tokens", "advance", "()V"⟩, 14) := ⟨⟨by decide +kernel, by decide +kernel⟩, List.mem_of_getElem? (i := 49) (by decide +kernel), List.mem_of_getElem? (i := 708) (by decide +kernel), List.mem_of_getElem? (i := 709) (by decide +kernel)⟩
theorem lw_p29 : lw_okq (⟨"WindowHill$Tokens", "takeNumber", "(II)Z"⟩, 14) := ⟨⟨by decide +kernel, by decide +kernel⟩, List.mem_of_getElem? (i := 49) (by decide +kernel), List.mem_of_getElem? (i := 712) (by decide +kernel), List.mem_of_getElem? (i := 713) (by decide +kernel)⟩
theorem lw_p30 : lw_okq (⟨"WindowHill$Tokens", "isNumber", "()Z"⟩, 14) := ⟨⟨by decide +kernel, by decide +kernel⟩, List.mem_of_getElem? (i := 49) (by decide +kernel), List.mem_of_getElem? (i := 716) (by decide +kernel), List.mem_of_getElem? (i := 717) (by decide +kernel)⟩
theorem lw_p31 : lw_okq (⟨"WindowHill$Tokens", "value", "()I"⟩, 14) := ⟨⟨by decide +kernel, by decide +kernel⟩, List.mem_of_getElem? (i := 49) (by decide +kernel), List.mem_of_getElem? (i := 720) (by decide +kernel), List.mem_of_getElem? (i := 721) (by decide +kernel)⟩
def lw_privs_2 : List (MethodName × Nat) := [(⟨"WindowHill$Trays", "copy", "(IIIII)V"⟩, 3), (⟨"WindowHill$Tokens", "hasRoomFor", "(I)Z"⟩, 14), (⟨"WindowHill$Tokens", "append", "(I)V"⟩, 14), (⟨"WindowHill$Tokens", "begin", "(I)V"⟩, 14), (⟨"WindowHill$Tokens", "skipBlanks", "(I)I"⟩, 14), (⟨"WindowHill$Tokens", "addToken", "(I)I"⟩, 14), (⟨"WindowHill$Tokens", "addWord", "(I)I"⟩, 14), (⟨"WindowHill$Tokens", "note", "(IIII)V"⟩, 14), (⟨"WindowHill$Tokens", "addNumber", "(I)I"⟩, 14), (⟨"WindowHill$Tokens", "takeWord", "(I)Z"⟩, 14), (⟨"WindowHill$Tokens", "isWord", "(I)Z"⟩, 14), (⟨"WindowHill$Tokens", "fail", "(I)Z"⟩, 14), (⟨"WindowHill$Tokens", "advance", "()V"⟩, 14), (⟨"WindowHill$Tokens", "takeNumber", "(II)Z"⟩, 14), (⟨"WindowHill$Tokens", "isNumber", "()Z"⟩, 14), (⟨"WindowHill$Tokens", "value", "()I"⟩, 14)]
theorem lw_r2 : ∀ q ∈ lw_privs_2, lw_okq q := List.forall_mem_cons.mpr ⟨lw_p16, List.forall_mem_cons.mpr ⟨lw_p17, List.forall_mem_cons.mpr ⟨lw_p18, List.forall_mem_cons.mpr ⟨lw_p19, List.forall_mem_cons.mpr ⟨lw_p20, List.forall_mem_cons.mpr ⟨lw_p21, List.forall_mem_cons.mpr ⟨lw_p22, List.forall_mem_cons.mpr ⟨lw_p23, List.forall_mem_cons.mpr ⟨lw_p24, List.forall_mem_cons.mpr ⟨lw_p25, List.forall_mem_cons.mpr ⟨lw_p26, List.forall_mem_cons.mpr ⟨lw_p27, List.forall_mem_cons.mpr ⟨lw_p28, List.forall_mem_cons.mpr ⟨lw_p29, List.forall_mem_cons.mpr ⟨lw_p30, List.forall_mem_cons.mpr ⟨lw_p31, fun _ h => absurd h List.not_mem_nil⟩⟩⟩⟩⟩⟩⟩⟩⟩⟩⟩⟩⟩⟩⟩⟩
theorem lw_p32 : lw_okq (⟨"WindowHill$Tokens", "takeSign", "(I)Z"⟩, 14) := ⟨⟨by decide +kernel, by decide +kernel⟩, List.mem_of_getElem? (i := 49) (by decide +kernel), List.mem_of_getElem? (i := 727) (by decide +kernel), List.mem_of_getElem? (i := 728) (by decide +kernel)⟩
theorem lw_p33 : lw_okq (⟨"WindowHill$Tokens", "isSign", "(I)Z"⟩, 14) := ⟨⟨by decide +kernel, by decide +kernel⟩, List.mem_of_getElem? (i := 49) (by decide +kernel), List.mem_of_getElem? (i := 731) (by decide +kernel), List.mem_of_getElem? (i := 732) (by decide +kernel)⟩
theorem lw_p34 : lw_okq (⟨"WindowHill$Tokens", "isWordOf", "(I)Z"⟩, 14) := ⟨⟨by decide +kernel, by decide +kernel⟩, List.mem_of_getElem? (i := 49) (by decide +kernel), List.mem_of_getElem? (i := 742) (by decide +kernel), List.mem_of_getElem? (i := 743) (by decide +kernel)⟩
theorem lw_p35 : lw_okq (⟨"WindowHill$Tokens", "letterAt", "(I)I"⟩, 14) := ⟨⟨by decide +kernel, by decide +kernel⟩, List.mem_of_getElem? (i := 49) (by decide +kernel), List.mem_of_getElem? (i := 746) (by decide +kernel), List.mem_of_getElem? (i := 747) (by decide +kernel)⟩
theorem lw_p36 : lw_okq (⟨"WindowHill$Tokens", "isEnd", "()Z"⟩, 14) := ⟨⟨by decide +kernel, by decide +kernel⟩, List.mem_of_getElem? (i := 49) (by decide +kernel), List.mem_of_getElem? (i := 755) (by decide +kernel), List.mem_of_getElem? (i := 756) (by decide +kernel)⟩
theorem lw_p37 : lw_okq (⟨"WindowHill$Tokens", "isName", "()Z"⟩, 14) := ⟨⟨by decide +kernel, by decide +kernel⟩, List.mem_of_getElem? (i := 49) (by decide +kernel), List.mem_of_getElem? (i := 765) (by decide +kernel), List.mem_of_getElem? (i := 766) (by decide +kernel)⟩
theorem lw_p38 : lw_okq (⟨"WindowHill$Tokens", "name", "()J"⟩, 14) := ⟨⟨by decide +kernel, by decide +kernel⟩, List.mem_of_getElem? (i := 49) (by decide +kernel), List.mem_of_getElem? (i := 769) (by decide +kernel), List.mem_of_getElem? (i := 770) (by decide +kernel)⟩
theorem lw_p39 : lw_okq (⟨"WindowHill$Town", "isNameTaken", "(J)Z"⟩, 16) := ⟨⟨by decide +kernel, by decide +kernel⟩, List.mem_of_getElem? (i := 156) (by decide +kernel), List.mem_of_getElem? (i := 773) (by decide +kernel), List.mem_of_getElem? (i := 774) (by decide +kernel)⟩
theorem lw_p40 : lw_okq (⟨"WindowHill$Town", "ruleNamed", "(J)I"⟩, 16) := ⟨⟨by decide +kernel, by decide +kernel⟩, List.mem_of_getElem? (i := 156) (by decide +kernel), List.mem_of_getElem? (i := 777) (by decide +kernel), List.mem_of_getElem? (i := 778) (by decide +kernel)⟩
theorem lw_p41 : lw_okq (⟨"WindowHill", "answer", "(I)I"⟩, 15) := ⟨⟨by decide +kernel, by decide +kernel⟩, List.mem_of_getElem? (i := 23) (by decide +kernel), List.mem_of_getElem? (i := 795) (by decide +kernel), List.mem_of_getElem? (i := 796) (by decide +kernel)⟩
theorem lw_p42 : lw_okq (⟨"WindowHill$Year", "makeEmpty", "()V"⟩, 8) := ⟨⟨by decide +kernel, by decide +kernel⟩, List.mem_of_getElem? (i := 226) (by decide +kernel), List.mem_of_getElem? (i := 803) (by decide +kernel), List.mem_of_getElem? (i := 804) (by decide +kernel)⟩
theorem lw_p43 : lw_okq (⟨"WindowHill$Year", "openEntry", "()I"⟩, 8) := ⟨⟨by decide +kernel, by decide +kernel⟩, List.mem_of_getElem? (i := 226) (by decide +kernel), List.mem_of_getElem? (i := 816) (by decide +kernel), List.mem_of_getElem? (i := 817) (by decide +kernel)⟩
theorem lw_p44 : lw_okq (⟨"WindowHill$Year", "add", "(I)V"⟩, 8) := ⟨⟨by decide +kernel, by decide +kernel⟩, List.mem_of_getElem? (i := 226) (by decide +kernel), List.mem_of_getElem? (i := 824) (by decide +kernel), List.mem_of_getElem? (i := 825) (by decide +kernel)⟩
theorem lw_p45 : lw_okq (⟨"WindowHill$Tokens", "wordNumber", "()I"⟩, 14) := ⟨⟨by decide +kernel, by decide +kernel⟩, List.mem_of_getElem? (i := 49) (by decide +kernel), List.mem_of_getElem? (i := 832) (by decide +kernel), List.mem_of_getElem? (i := 833) (by decide +kernel)⟩
theorem lw_p46 : lw_okq (⟨"WindowHill$Year", "countOpen", "()I"⟩, 8) := ⟨⟨by decide +kernel, by decide +kernel⟩, List.mem_of_getElem? (i := 226) (by decide +kernel), List.mem_of_getElem? (i := 840) (by decide +kernel), List.mem_of_getElem? (i := 841) (by decide +kernel)⟩
theorem lw_p47 : lw_okq (⟨"WindowHill$Year", "copyFrom", "(LWindowHill$Year;)V"⟩, 8) := ⟨⟨by decide +kernel, by decide +kernel⟩, List.mem_of_getElem? (i := 226) (by decide +kernel), List.mem_of_getElem? (i := 867) (by decide +kernel), List.mem_of_getElem? (i := 868) (by decide +kernel)⟩
def lw_privs_3 : List (MethodName × Nat) := [(⟨"WindowHill$Tokens", "takeSign", "(I)Z"⟩, 14), (⟨"WindowHill$Tokens", "isSign", "(I)Z"⟩, 14), (⟨"WindowHill$Tokens", "isWordOf", "(I)Z"⟩, 14), (⟨"WindowHill$Tokens", "letterAt", "(I)I"⟩, 14), (⟨"WindowHill$Tokens", "isEnd", "()Z"⟩, 14), (⟨"WindowHill$Tokens", "isName", "()Z"⟩, 14), (⟨"WindowHill$Tokens", "name", "()J"⟩, 14), (⟨"WindowHill$Town", "isNameTaken", "(J)Z"⟩, 16), (⟨"WindowHill$Town", "ruleNamed", "(J)I"⟩, 16), (⟨"WindowHill", "answer", "(I)I"⟩, 15), (⟨"WindowHill$Year", "makeEmpty", "()V"⟩, 8), (⟨"WindowHill$Year", "openEntry", "()I"⟩, 8), (⟨"WindowHill$Year", "add", "(I)V"⟩, 8), (⟨"WindowHill$Tokens", "wordNumber", "()I"⟩, 14), (⟨"WindowHill$Year", "countOpen", "()I"⟩, 8), (⟨"WindowHill$Year", "copyFrom", "(LWindowHill$Year;)V"⟩, 8)]
theorem lw_r3 : ∀ q ∈ lw_privs_3, lw_okq q := List.forall_mem_cons.mpr ⟨lw_p32, List.forall_mem_cons.mpr ⟨lw_p33, List.forall_mem_cons.mpr ⟨lw_p34, List.forall_mem_cons.mpr ⟨lw_p35, List.forall_mem_cons.mpr ⟨lw_p36, List.forall_mem_cons.mpr ⟨lw_p37, List.forall_mem_cons.mpr ⟨lw_p38, List.forall_mem_cons.mpr ⟨lw_p39, List.forall_mem_cons.mpr ⟨lw_p40, List.forall_mem_cons.mpr ⟨lw_p41, List.forall_mem_cons.mpr ⟨lw_p42, List.forall_mem_cons.mpr ⟨lw_p43, List.forall_mem_cons.mpr ⟨lw_p44, List.forall_mem_cons.mpr ⟨lw_p45, List.forall_mem_cons.mpr ⟨lw_p46, List.forall_mem_cons.mpr ⟨lw_p47, fun _ h => absurd h List.not_mem_nil⟩⟩⟩⟩⟩⟩⟩⟩⟩⟩⟩⟩⟩⟩⟩⟩
theorem lw_p48 : lw_okq (⟨"WindowHill$Hill", "placeOf", "(II)I"⟩, 10) := ⟨⟨by decide +kernel, by decide +kernel⟩, List.mem_of_getElem? (i := 162) (by decide +kernel), List.mem_of_getElem? (i := 888) (by decide +kernel), List.mem_of_getElem? (i := 889) (by decide +kernel)⟩
theorem lw_p49 : lw_okq (⟨"WindowHill$Hill", "countAround", "(II)I"⟩, 10) := ⟨⟨by decide +kernel, by decide +kernel⟩, List.mem_of_getElem? (i := 162) (by decide +kernel), List.mem_of_getElem? (i := 892) (by decide +kernel), List.mem_of_getElem? (i := 893) (by decide +kernel)⟩
theorem lw_p50 : lw_okq (⟨"WindowHill$Hill", "countLit", "(I)V"⟩, 10) := ⟨⟨by decide +kernel, by decide +kernel⟩, List.mem_of_getElem? (i := 162) (by decide +kernel), List.mem_of_getElem? (i := 896) (by decide +kernel), List.mem_of_getElem? (i := 897) (by decide +kernel)⟩
theorem lw_p51 : lw_okq (⟨"WindowHill$Town", "hasRule", "(I)Z"⟩, 16) := ⟨⟨by decide +kernel, by decide +kernel⟩, List.mem_of_getElem? (i := 156) (by decide +kernel), List.mem_of_getElem? (i := 904) (by decide +kernel), List.mem_of_getElem? (i := 905) (by decide +kernel)⟩
theorem lw_p52 : lw_okq (⟨"WindowHill$Town", "hasCitizen", "(I)Z"⟩, 16) := ⟨⟨by decide +kernel, by decide +kernel⟩, List.mem_of_getElem? (i := 156) (by decide +kernel), List.mem_of_getElem? (i := 912) (by decide +kernel), List.mem_of_getElem? (i := 913) (by decide +kernel)⟩
theorem lw_p53 : lw_okq (⟨"WindowHill", "whyNotFree", "(II)I"⟩, 15) := ⟨⟨by decide +kernel, by decide +kernel⟩, List.mem_of_getElem? (i := 23) (by decide +kernel), List.mem_of_getElem? (i := 920) (by decide +kernel), List.mem_of_getElem? (i := 921) (by decide +kernel)⟩
theorem lw_p54 : lw_okq (⟨"WindowHill$Town", "repaint", "(I)I"⟩, 16) := ⟨⟨by decide +kernel, by decide +kernel⟩, List.mem_of_getElem? (i := 156) (by decide +kernel), List.mem_of_getElem? (i := 932) (by decide +kernel), List.mem_of_getElem? (i := 933) (by decide +kernel)⟩
theorem lw_p55 : lw_okq (⟨"WindowHill$Hill", "rowMask", "()I"⟩, 10) := ⟨⟨by decide +kernel, by decide +kernel⟩, List.mem_of_getElem? (i := 162) (by decide +kernel), List.mem_of_getElem? (i := 942) (by decide +kernel), List.mem_of_getElem? (i := 943) (by decide +kernel)⟩
theorem lw_p56 : lw_okq (⟨"WindowHill$Hill", "rowOf", "(II)I"⟩, 10) := ⟨⟨by decide +kernel, by decide +kernel⟩, List.mem_of_getElem? (i := 162) (by decide +kernel), List.mem_of_getElem? (i := 950) (by decide +kernel), List.mem_of_getElem? (i := 951) (by decide +kernel)⟩
theorem lw_p57 : lw_okq (⟨"WindowHill$Town", "passNights", "(I)V"⟩, 16) := ⟨⟨by decide +kernel, by decide +kernel⟩, List.mem_of_getElem? (i := 156) (by decide +kernel), List.mem_of_getElem? (i := 967) (by decide +kernel), List.mem_of_getElem? (i := 968) (by decide +kernel)⟩
theorem lw_p58 : lw_okq (⟨"WindowHill$Town", "passNight", "()V"⟩, 16) := ⟨⟨by decide +kernel, by decide +kernel⟩, List.mem_of_getElem? (i := 156) (by decide +kernel), List.mem_of_getElem? (i := 971) (by decide +kernel), List.mem_of_getElem? (i := 972) (by decide +kernel)⟩
theorem lw_p59 : lw_okq (⟨"WindowHill$Town", "bornNow", "()I"⟩, 16) := ⟨⟨by decide +kernel, by decide +kernel⟩, List.mem_of_getElem? (i := 156) (by decide +kernel), List.mem_of_getElem? (i := 975) (by decide +kernel), List.mem_of_getElem? (i := 976) (by decide +kernel)⟩
theorem lw_p60 : lw_okq (⟨"WindowHill$Town", "staysNow", "()I"⟩, 16) := ⟨⟨by decide +kernel, by decide +kernel⟩, List.mem_of_getElem? (i := 156) (by decide +kernel), List.mem_of_getElem? (i := 979) (by decide +kernel), List.mem_of_getElem? (i := 980) (by decide +kernel)⟩
theorem lw_p61 : lw_okq (⟨"WindowHill$Hill", "step", "(III)I"⟩, 10) := ⟨⟨by decide +kernel, by decide +kernel⟩, List.mem_of_getElem? (i := 162) (by decide +kernel), List.mem_of_getElem? (i := 983) (by decide +kernel), List.mem_of_getElem? (i := 984) (by decide +kernel)⟩
theorem lw_p62 : lw_okq (⟨"WindowHill$Town", "after", "(II)I"⟩, 16) := ⟨⟨by decide +kernel, by decide +kernel⟩, List.mem_of_getElem? (i := 156) (by decide +kernel), List.mem_of_getElem? (i := 991) (by decide +kernel), List.mem_of_getElem? (i := 992) (by decide +kernel)⟩
theorem lw_p63 : lw_okq (⟨"WindowHill$Paths", "findRound", "(LWindowHill$Town;)Z"⟩, 8) := ⟨⟨by decide +kernel, by decide +kernel⟩, List.mem_of_getElem? (i := 390) (by decide +kernel), List.mem_of_getElem? (i := 999) (by decide +kernel), List.mem_of_getElem? (i := 1000) (by decide +kernel)⟩
def lw_privs_4 : List (MethodName × Nat) := [(⟨"WindowHill$Hill", "placeOf", "(II)I"⟩, 10), (⟨"WindowHill$Hill", "countAround", "(II)I"⟩, 10), (⟨"WindowHill$Hill", "countLit", "(I)V"⟩, 10), (⟨"WindowHill$Town", "hasRule", "(I)Z"⟩, 16), (⟨"WindowHill$Town", "hasCitizen", "(I)Z"⟩, 16), (⟨"WindowHill", "whyNotFree", "(II)I"⟩, 15), (⟨"WindowHill$Town", "repaint", "(I)I"⟩, 16), (⟨"WindowHill$Hill", "rowMask", "()I"⟩, 10), (⟨"WindowHill$Hill", "rowOf", "(II)I"⟩, 10), (⟨"WindowHill$Town", "passNights", "(I)V"⟩, 16), (⟨"WindowHill$Town", "passNight", "()V"⟩, 16), (⟨"WindowHill$Town", "bornNow", "()I"⟩, 16), (⟨"WindowHill$Town", "staysNow", "()I"⟩, 16), (⟨"WindowHill$Hill", "step", "(III)I"⟩, 10), (⟨"WindowHill$Town", "after", "(II)I"⟩, 16), (⟨"WindowHill$Paths", "findRound", "(LWindowHill$Town;)Z"⟩, 8)]
theorem lw_r4 : ∀ q ∈ lw_privs_4, lw_okq q := List.forall_mem_cons.mpr ⟨lw_p48, List.forall_mem_cons.mpr ⟨lw_p49, List.forall_mem_cons.mpr ⟨lw_p50, List.forall_mem_cons.mpr ⟨lw_p51, List.forall_mem_cons.mpr ⟨lw_p52, List.forall_mem_cons.mpr ⟨lw_p53, List.forall_mem_cons.mpr ⟨lw_p54, List.forall_mem_cons.mpr ⟨lw_p55, List.forall_mem_cons.mpr ⟨lw_p56, List.forall_mem_cons.mpr ⟨lw_p57, List.forall_mem_cons.mpr ⟨lw_p58, List.forall_mem_cons.mpr ⟨lw_p59, List.forall_mem_cons.mpr ⟨lw_p60, List.forall_mem_cons.mpr ⟨lw_p61, List.forall_mem_cons.mpr ⟨lw_p62, List.forall_mem_cons.mpr ⟨lw_p63, fun _ h => absurd h List.not_mem_nil⟩⟩⟩⟩⟩⟩⟩⟩⟩⟩⟩⟩⟩⟩⟩⟩
theorem lw_p64 : lw_okq (⟨"WindowHill$Paths", "findRoundLength", "(LWindowHill$Town;)Z"⟩, 8) := ⟨⟨by decide +kernel, by decide +kernel⟩, List.mem_of_getElem? (i := 390) (by decide +kernel), List.mem_of_getElem? (i := 1003) (by decide +kernel), List.mem_of_getElem? (i := 1004) (by decide +kernel)⟩
theorem lw_p65 : lw_okq (⟨"WindowHill$Town", "nextOf", "(I)I"⟩, 16) := ⟨⟨by decide +kernel, by decide +kernel⟩, List.mem_of_getElem? (i := 156) (by decide +kernel), List.mem_of_getElem? (i := 1007) (by decide +kernel), List.mem_of_getElem? (i := 1008) (by decide +kernel)⟩
theorem lw_p66 : lw_okq (⟨"WindowHill$Paths", "farAhead", "(LWindowHill$Town;I)I"⟩, 8) := ⟨⟨by decide +kernel, by decide +kernel⟩, List.mem_of_getElem? (i := 390) (by decide +kernel), List.mem_of_getElem? (i := 1017) (by decide +kernel), List.mem_of_getElem? (i := 1018) (by decide +kernel)⟩
theorem lw_p67 : lw_okq (⟨"WindowHill$Paths", "findWalk", "(LWindowHill$Town;)Z"⟩, 8) := ⟨⟨by decide +kernel, by decide +kernel⟩, List.mem_of_getElem? (i := 390) (by decide +kernel), List.mem_of_getElem? (i := 1025) (by decide +kernel), List.mem_of_getElem? (i := 1026) (by decide +kernel)⟩
theorem lw_p68 : lw_okq (⟨"WindowHill$Paths", "moveToCorner", "(LWindowHill$Hill;I)V"⟩, 8) := ⟨⟨by decide +kernel, by decide +kernel⟩, List.mem_of_getElem? (i := 390) (by decide +kernel), List.mem_of_getElem? (i := 1029) (by decide +kernel), List.mem_of_getElem? (i := 1030) (by decide +kernel)⟩
theorem lw_p69 : lw_okq (⟨"WindowHill$Town", "isStill", "()Z"⟩, 16) := ⟨⟨by decide +kernel, by decide +kernel⟩, List.mem_of_getElem? (i := 156) (by decide +kernel), List.mem_of_getElem? (i := 1038) (by decide +kernel), List.mem_of_getElem? (i := 1039) (by decide +kernel)⟩
theorem lw_p70 : lw_okq (⟨"WindowHill$Ancestry", "countWays", "(LWindowHill$Town;Z)I"⟩, 9) := ⟨⟨by decide +kernel, by decide +kernel⟩, List.mem_of_getElem? (i := 354) (by decide +kernel), List.mem_of_getElem? (i := 1062) (by decide +kernel), List.mem_of_getElem? (i := 1063) (by decide +kernel)⟩
theorem lw_p71 : lw_okq (⟨"WindowHill$Ancestry", "layRows", "(LWindowHill$Town;)V"⟩, 9) := ⟨⟨by decide +kernel, by decide +kernel⟩, List.mem_of_getElem? (i := 354) (by decide +kernel), List.mem_of_getElem? (i := 1066) (by decide +kernel), List.mem_of_getElem? (i := 1067) (by decide +kernel)⟩
theorem lw_p72 : lw_okq (⟨"WindowHill$Ancestry", "chooseBelow", "(I)V"⟩, 9) := ⟨⟨by decide +kernel, by decide +kernel⟩, List.mem_of_getElem? (i := 354) (by decide +kernel), List.mem_of_getElem? (i := 1077) (by decide +kernel), List.mem_of_getElem? (i := 1078) (by decide +kernel)⟩
theorem lw_p73 : lw_okq (⟨"WindowHill$Ancestry", "chooseBelowPair", "(IIII)V"⟩, 9) := ⟨⟨by decide +kernel, by decide +kernel⟩, List.mem_of_getElem? (i := 354) (by decide +kernel), List.mem_of_getElem? (i := 1081) (by decide +kernel), List.mem_of_getElem? (i := 1082) (by decide +kernel)⟩
theorem lw_p74 : lw_okq (⟨"WindowHill$Ancestry", "wrongIn", "(IIII)I"⟩, 9) := ⟨⟨by decide +kernel, by decide +kernel⟩, List.mem_of_getElem? (i := 354) (by decide +kernel), List.mem_of_getElem? (i := 1085) (by decide +kernel), List.mem_of_getElem? (i := 1086) (by decide +kernel)⟩
theorem lw_p75 : lw_okq (⟨"WindowHill$Ancestry", "leastFound", "()I"⟩, 9) := ⟨⟨by decide +kernel, by decide +kernel⟩, List.mem_of_getElem? (i := 354) (by decide +kernel), List.mem_of_getElem? (i := 1095) (by decide +kernel), List.mem_of_getElem? (i := 1096) (by decide +kernel)⟩
theorem lw_p76 : lw_okq (⟨"WindowHill$Ancestry", "leastAbove", "(III)I"⟩, 9) := ⟨⟨by decide +kernel, by decide +kernel⟩, List.mem_of_getElem? (i := 354) (by decide +kernel), List.mem_of_getElem? (i := 1099) (by decide +kernel), List.mem_of_getElem? (i := 1100) (by decide +kernel)⟩
theorem lw_p77 : lw_okq (⟨"WindowHill$Turning", "findSignal", "(LWindowHill$Town;II)Z"⟩, 6) := ⟨⟨by decide +kernel, by decide +kernel⟩, List.mem_of_getElem? (i := 426) (by decide +kernel), List.mem_of_getElem? (i := 1122) (by decide +kernel), List.mem_of_getElem? (i := 1123) (by decide +kernel)⟩
theorem lw_p78 : lw_okq (⟨"WindowHill$Hill", "around", "(I)I"⟩, 10) := ⟨⟨by decide +kernel, by decide +kernel⟩, List.mem_of_getElem? (i := 162) (by decide +kernel), List.mem_of_getElem? (i := 1129) (by decide +kernel), List.mem_of_getElem? (i := 1130) (by decide +kernel)⟩
theorem lw_p79 : lw_okq (⟨"WindowHill$Turning", "listLamps", "(I)V"⟩, 6) := ⟨⟨by decide +kernel, by decide +kernel⟩, List.mem_of_getElem? (i := 426) (by decide +kernel), List.mem_of_getElem? (i := 1133) (by decide +kernel), List.mem_of_getElem? (i := 1134) (by decide +kernel)⟩
def lw_privs_5 : List (MethodName × Nat) := [(⟨"WindowHill$Paths", "findRoundLength", "(LWindowHill$Town;)Z"⟩, 8), (⟨"WindowHill$Town", "nextOf", "(I)I"⟩, 16), (⟨"WindowHill$Paths", "farAhead", "(LWindowHill$Town;I)I"⟩, 8), (⟨"WindowHill$Paths", "findWalk", "(LWindowHill$Town;)Z"⟩, 8), (⟨"WindowHill$Paths", "moveToCorner", "(LWindowHill$Hill;I)V"⟩, 8), (⟨"WindowHill$Town", "isStill", "()Z"⟩, 16), (⟨"WindowHill$Ancestry", "countWays", "(LWindowHill$Town;Z)I"⟩, 9), (⟨"WindowHill$Ancestry", "layRows", "(LWindowHill$Town;)V"⟩, 9), (⟨"WindowHill$Ancestry", "chooseBelow", "(I)V"⟩, 9), (⟨"WindowHill$Ancestry", "chooseBelowPair", "(IIII)V"⟩, 9), (⟨"WindowHill$Ancestry", "wrongIn", "(IIII)I"⟩, 9), (⟨"WindowHill$Ancestry", "leastFound", "()I"⟩, 9), (⟨"WindowHill$Ancestry", "leastAbove", "(III)I"⟩, 9), (⟨"WindowHill$Turning", "findSignal", "(LWindowHill$Town;II)Z"⟩, 6), (⟨"WindowHill$Hill", "around", "(I)I"⟩, 10), (⟨"WindowHill$Turning", "listLamps", "(I)V"⟩, 6)]
theorem lw_r5 : ∀ q ∈ lw_privs_5, lw_okq q := List.forall_mem_cons.mpr ⟨lw_p64, List.forall_mem_cons.mpr ⟨lw_p65, List.forall_mem_cons.mpr ⟨lw_p66, List.forall_mem_cons.mpr ⟨lw_p67, List.forall_mem_cons.mpr ⟨lw_p68, List.forall_mem_cons.mpr ⟨lw_p69, List.forall_mem_cons.mpr ⟨lw_p70, List.forall_mem_cons.mpr ⟨lw_p71, List.forall_mem_cons.mpr ⟨lw_p72, List.forall_mem_cons.mpr ⟨lw_p73, List.forall_mem_cons.mpr ⟨lw_p74, List.forall_mem_cons.mpr ⟨lw_p75, List.forall_mem_cons.mpr ⟨lw_p76, List.forall_mem_cons.mpr ⟨lw_p77, List.forall_mem_cons.mpr ⟨lw_p78, List.forall_mem_cons.mpr ⟨lw_p79, fun _ h => absurd h List.not_mem_nil⟩⟩⟩⟩⟩⟩⟩⟩⟩⟩⟩⟩⟩⟩⟩⟩
theorem lw_p80 : lw_okq (⟨"WindowHill$Turning", "trySet", "(LWindowHill$Town;III)Z"⟩, 6) := ⟨⟨by decide +kernel, by decide +kernel⟩, List.mem_of_getElem? (i := 426) (by decide +kernel), List.mem_of_getElem? (i := 1137) (by decide +kernel), List.mem_of_getElem? (i := 1138) (by decide +kernel)⟩
theorem lw_p81 : lw_okq (⟨"WindowHill$Turning", "tryOnes", "(LWindowHill$Town;II)Z"⟩, 6) := ⟨⟨by decide +kernel, by decide +kernel⟩, List.mem_of_getElem? (i := 426) (by decide +kernel), List.mem_of_getElem? (i := 1142) (by decide +kernel), List.mem_of_getElem? (i := 1143) (by decide +kernel)⟩
theorem lw_p82 : lw_okq (⟨"WindowHill$Turning", "tryTwos", "(LWindowHill$Town;II)Z"⟩, 6) := ⟨⟨by decide +kernel, by decide +kernel⟩, List.mem_of_getElem? (i := 426) (by decide +kernel), List.mem_of_getElem? (i := 1146) (by decide +kernel), List.mem_of_getElem? (i := 1147) (by decide +kernel)⟩
theorem lw_p83 : lw_okq (⟨"WindowHill$Turning", "tryThrees", "(LWindowHill$Town;II)Z"⟩, 6) := ⟨⟨by decide +kernel, by decide +kernel⟩, List.mem_of_getElem? (i := 426) (by decide +kernel), List.mem_of_getElem? (i := 1150) (by decide +kernel), List.mem_of_getElem? (i := 1151) (by decide +kernel)⟩
theorem lw_p84 : lw_okq (⟨"WindowHill$Turning", "findWorst", "(LWindowHill$Town;I)V"⟩, 6) := ⟨⟨by decide +kernel, by decide +kernel⟩, List.mem_of_getElem? (i := 426) (by decide +kernel), List.mem_of_getElem? (i := 1166) (by decide +kernel), List.mem_of_getElem? (i := 1167) (by decide +kernel)⟩
theorem lw_p85 : lw_okq (⟨"WindowHill$Turning", "findMend", "(LWindowHill$Town;I)V"⟩, 6) := ⟨⟨by decide +kernel, by decide +kernel⟩, List.mem_of_getElem? (i := 426) (by decide +kernel), List.mem_of_getElem? (i := 1175) (by decide +kernel), List.mem_of_getElem? (i := 1176) (by decide +kernel)⟩
theorem lw_p86 : lw_okq (⟨"WindowHill$Turning", "tryMend", "(LWindowHill$Town;II)V"⟩, 6) := ⟨⟨by decide +kernel, by decide +kernel⟩, List.mem_of_getElem? (i := 426) (by decide +kernel), List.mem_of_getElem? (i := 1179) (by decide +kernel), List.mem_of_getElem? (i := 1180) (by decide +kernel)⟩
theorem lw_p87 : lw_okq (⟨"WindowHill$Hill", "countUnlike", "(II)I"⟩, 10) := ⟨⟨by decide +kernel, by decide +kernel⟩, List.mem_of_getElem? (i := 162) (by decide +kernel), List.mem_of_getElem? (i := 1184) (by decide +kernel), List.mem_of_getElem? (i := 1185) (by decide +kernel)⟩
theorem lw_p88 : lw_okq (⟨"WindowHill$Town", "countRulesLeft", "()I"⟩, 16) := ⟨⟨by decide +kernel, by decide +kernel⟩, List.mem_of_getElem? (i := 156) (by decide +kernel), List.mem_of_getElem? (i := 1202) (by decide +kernel), List.mem_of_getElem? (i := 1203) (by decide +kernel)⟩
theorem lw_p89 : lw_okq (⟨"WindowHill$Town", "ruleFits", "(I)Z"⟩, 16) := ⟨⟨by decide +kernel, by decide +kernel⟩, List.mem_of_getElem? (i := 156) (by decide +kernel), List.mem_of_getElem? (i := 1210) (by decide +kernel), List.mem_of_getElem? (i := 1211) (by decide +kernel)⟩
theorem lw_p90 : lw_okq (⟨"WindowHill$Town", "forgetSeen", "()I"⟩, 16) := ⟨⟨by decide +kernel, by decide +kernel⟩, List.mem_of_getElem? (i := 156) (by decide +kernel), List.mem_of_getElem? (i := 1218) (by decide +kernel), List.mem_of_getElem? (i := 1219) (by decide +kernel)⟩
theorem lw_p91 : lw_okq (⟨"WindowHill$Town", "countNewToSee", "()I"⟩, 16) := ⟨⟨by decide +kernel, by decide +kernel⟩, List.mem_of_getElem? (i := 156) (by decide +kernel), List.mem_of_getElem? (i := 1226) (by decide +kernel), List.mem_of_getElem? (i := 1227) (by decide +kernel)⟩
theorem lw_p92 : lw_okq (⟨"WindowHill$Town", "lookAtRules", "()V"⟩, 16) := ⟨⟨by decide +kernel, by decide +kernel⟩, List.mem_of_getElem? (i := 156) (by decide +kernel), List.mem_of_getElem? (i := 1235) (by decide +kernel), List.mem_of_getElem? (i := 1236) (by decide +kernel)⟩
theorem lw_p93 : lw_okq (⟨"WindowHill$Town", "choiceOf", "(I)I"⟩, 16) := ⟨⟨by decide +kernel, by decide +kernel⟩, List.mem_of_getElem? (i := 156) (by decide +kernel), List.mem_of_getElem? (i := 1239) (by decide +kernel), List.mem_of_getElem? (i := 1240) (by decide +kernel)⟩
theorem lw_p94 : lw_okq (⟨"WindowHill$Town", "countVotes", "(I)I"⟩, 16) := ⟨⟨by decide +kernel, by decide +kernel⟩, List.mem_of_getElem? (i := 156) (by decide +kernel), List.mem_of_getElem? (i := 1248) (by decide +kernel), List.mem_of_getElem? (i := 1249) (by decide +kernel)⟩
theorem lw_p95 : lw_okq (⟨"WindowHill$Town", "holdElection", "()Z"⟩, 16) := ⟨⟨by decide +kernel, by decide +kernel⟩, List.mem_of_getElem? (i := 156) (by decide +kernel), List.mem_of_getElem? (i := 1257) (by decide +kernel), List.mem_of_getElem? (i := 1258) (by decide +kernel)⟩
def lw_privs_6 : List (MethodName × Nat) := [(⟨"WindowHill$Turning", "trySet", "(LWindowHill$Town;III)Z"⟩, 6), (⟨"WindowHill$Turning", "tryOnes", "(LWindowHill$Town;II)Z"⟩, 6), (⟨"WindowHill$Turning", "tryTwos", "(LWindowHill$Town;II)Z"⟩, 6), (⟨"WindowHill$Turning", "tryThrees", "(LWindowHill$Town;II)Z"⟩, 6), (⟨"WindowHill$Turning", "findWorst", "(LWindowHill$Town;I)V"⟩, 6), (⟨"WindowHill$Turning", "findMend", "(LWindowHill$Town;I)V"⟩, 6), (⟨"WindowHill$Turning", "tryMend", "(LWindowHill$Town;II)V"⟩, 6), (⟨"WindowHill$Hill", "countUnlike", "(II)I"⟩, 10), (⟨"WindowHill$Town", "countRulesLeft", "()I"⟩, 16), (⟨"WindowHill$Town", "ruleFits", "(I)Z"⟩, 16), (⟨"WindowHill$Town", "forgetSeen", "()I"⟩, 16), (⟨"WindowHill$Town", "countNewToSee", "()I"⟩, 16), (⟨"WindowHill$Town", "lookAtRules", "()V"⟩, 16), (⟨"WindowHill$Town", "choiceOf", "(I)I"⟩, 16), (⟨"WindowHill$Town", "countVotes", "(I)I"⟩, 16), (⟨"WindowHill$Town", "holdElection", "()Z"⟩, 16)]
theorem lw_r6 : ∀ q ∈ lw_privs_6, lw_okq q := List.forall_mem_cons.mpr ⟨lw_p80, List.forall_mem_cons.mpr ⟨lw_p81, List.forall_mem_cons.mpr ⟨lw_p82, List.forall_mem_cons.mpr ⟨lw_p83, List.forall_mem_cons.mpr ⟨lw_p84, List.forall_mem_cons.mpr ⟨lw_p85, List.forall_mem_cons.mpr ⟨lw_p86, List.forall_mem_cons.mpr ⟨lw_p87, List.forall_mem_cons.mpr ⟨lw_p88, List.forall_mem_cons.mpr ⟨lw_p89, List.forall_mem_cons.mpr ⟨lw_p90, List.forall_mem_cons.mpr ⟨lw_p91, List.forall_mem_cons.mpr ⟨lw_p92, List.forall_mem_cons.mpr ⟨lw_p93, List.forall_mem_cons.mpr ⟨lw_p94, List.forall_mem_cons.mpr ⟨lw_p95, fun _ h => absurd h List.not_mem_nil⟩⟩⟩⟩⟩⟩⟩⟩⟩⟩⟩⟩⟩⟩⟩⟩
theorem lw_p96 : lw_okq (⟨"WindowHill$Hill", "columnOf", "(II)I"⟩, 10) := ⟨⟨by decide +kernel, by decide +kernel⟩, List.mem_of_getElem? (i := 162) (by decide +kernel), List.mem_of_getElem? (i := 1267) (by decide +kernel), List.mem_of_getElem? (i := 1268) (by decide +kernel)⟩
theorem lw_p97 : lw_okq (⟨"WindowHill$Hill", "isMirror", "(I)Z"⟩, 10) := ⟨⟨by decide +kernel, by decide +kernel⟩, List.mem_of_getElem? (i := 162) (by decide +kernel), List.mem_of_getElem? (i := 1275) (by decide +kernel), List.mem_of_getElem? (i := 1276) (by decide +kernel)⟩
theorem lw_p98 : lw_okq (⟨"WindowHill$Hill", "heapOf", "(II)I"⟩, 10) := ⟨⟨by decide +kernel, by decide +kernel⟩, List.mem_of_getElem? (i := 162) (by decide +kernel), List.mem_of_getElem? (i := 1284) (by decide +kernel), List.mem_of_getElem? (i := 1285) (by decide +kernel)⟩
theorem lw_p99 : lw_okq (⟨"WindowHill", "tellFraction", "(II)V"⟩, 15) := ⟨⟨by decide +kernel, by decide +kernel⟩, List.mem_of_getElem? (i := 23) (by decide +kernel), List.mem_of_getElem? (i := 1298) (by decide +kernel), List.mem_of_getElem? (i := 1299) (by decide +kernel)⟩
theorem lw_p100 : lw_okq (⟨"WindowHill$Living", "liveBy", "(LWindowHill$Town;I)V"⟩, 8) := ⟨⟨by decide +kernel, by decide +kernel⟩, List.mem_of_getElem? (i := 455) (by decide +kernel), List.mem_of_getElem? (i := 1309) (by decide +kernel), List.mem_of_getElem? (i := 1310) (by decide +kernel)⟩
theorem lw_p101 : lw_okq (⟨"WindowHill$Living", "leaveBlock", "(LWindowHill$Year;I)I"⟩, 8) := ⟨⟨by decide +kernel, by decide +kernel⟩, List.mem_of_getElem? (i := 455) (by decide +kernel), List.mem_of_getElem? (i := 1314) (by decide +kernel), List.mem_of_getElem? (i := 1315) (by decide +kernel)⟩
theorem lw_p102 : lw_okq (⟨"WindowHill$Living", "doStep", "(LWindowHill$Town;I)I"⟩, 8) := ⟨⟨by decide +kernel, by decide +kernel⟩, List.mem_of_getElem? (i := 455) (by decide +kernel), List.mem_of_getElem? (i := 1318) (by decide +kernel), List.mem_of_getElem? (i := 1319) (by decide +kernel)⟩
theorem lw_p103 : lw_okq (⟨"WindowHill$Living", "turnLamp", "(LWindowHill$Town;II)V"⟩, 8) := ⟨⟨by decide +kernel, by decide +kernel⟩, List.mem_of_getElem? (i := 455) (by decide +kernel), List.mem_of_getElem? (i := 1323) (by decide +kernel), List.mem_of_getElem? (i := 1324) (by decide +kernel)⟩
theorem lw_p104 : lw_okq (⟨"WindowHill$Living", "blow", "(LWindowHill$Town;I)V"⟩, 8) := ⟨⟨by decide +kernel, by decide +kernel⟩, List.mem_of_getElem? (i := 455) (by decide +kernel), List.mem_of_getElem? (i := 1329) (by decide +kernel), List.mem_of_getElem? (i := 1330) (by decide +kernel)⟩
theorem lw_p105 : lw_okq (⟨"WindowHill$Living", "draw", "(I)I"⟩, 8) := ⟨⟨by decide +kernel, by decide +kernel⟩, List.mem_of_getElem? (i := 455) (by decide +kernel), List.mem_of_getElem? (i := 1333) (by decide +kernel), List.mem_of_getElem? (i := 1334) (by decide +kernel)⟩
theorem lw_p106 : lw_okq (⟨"WindowHill$Living", "bear", "(LWindowHill$Town;)V"⟩, 8) := ⟨⟨by decide +kernel, by decide +kernel⟩, List.mem_of_getElem? (i := 455) (by decide +kernel), List.mem_of_getElem? (i := 1338) (by decide +kernel), List.mem_of_getElem? (i := 1339) (by decide +kernel)⟩
theorem lw_p107 : lw_okq (⟨"WindowHill$Living", "isTrue", "(LWindowHill$Town;I)Z"⟩, 8) := ⟨⟨by decide +kernel, by decide +kernel⟩, List.mem_of_getElem? (i := 455) (by decide +kernel), List.mem_of_getElem? (i := 1342) (by decide +kernel), List.mem_of_getElem? (i := 1343) (by decide +kernel)⟩
theorem lw_p108 : lw_okq (⟨"WindowHill$Town", "copyFrom", "(LWindowHill$Town;)V"⟩, 16) := ⟨⟨by decide +kernel, by decide +kernel⟩, List.mem_of_getElem? (i := 156) (by decide +kernel), List.mem_of_getElem? (i := 1356) (by decide +kernel), List.mem_of_getElem? (i := 1357) (by decide +kernel)⟩
theorem lw_p109 : lw_okq (⟨"WindowHill$Hill", "copyFrom", "(LWindowHill$Hill;)V"⟩, 10) := ⟨⟨by decide +kernel, by decide +kernel⟩, List.mem_of_getElem? (i := 162) (by decide +kernel), List.mem_of_getElem? (i := 1360) (by decide +kernel), List.mem_of_getElem? (i := 1361) (by decide +kernel)⟩
theorem lw_p110 : lw_okq (⟨"WindowHillModel", "plain", "(I)V"⟩, 39) := ⟨⟨by decide +kernel, by decide +kernel⟩, List.mem_of_getElem? (i := 1374) (by decide +kernel), List.mem_of_getElem? (i := 1380) (by decide +kernel), List.mem_of_getElem? (i := 1381) (by decide +kernel)⟩
theorem lw_p111 : lw_okq (⟨"WindowHillModel", "is", "(I)Z"⟩, 39) := ⟨⟨by decide +kernel, by decide +kernel⟩, List.mem_of_getElem? (i := 1374) (by decide +kernel), List.mem_of_getElem? (i := 1521) (by decide +kernel), List.mem_of_getElem? (i := 1522) (by decide +kernel)⟩
def lw_privs_7 : List (MethodName × Nat) := [(⟨"WindowHill$Hill", "columnOf", "(II)I"⟩, 10), (⟨"WindowHill$Hill", "isMirror", "(I)Z"⟩, 10), (⟨"WindowHill$Hill", "heapOf", "(II)I"⟩, 10), (⟨"WindowHill", "tellFraction", "(II)V"⟩, 15), (⟨"WindowHill$Living", "liveBy", "(LWindowHill$Town;I)V"⟩, 8), (⟨"WindowHill$Living", "leaveBlock", "(LWindowHill$Year;I)I"⟩, 8), (⟨"WindowHill$Living", "doStep", "(LWindowHill$Town;I)I"⟩, 8), (⟨"WindowHill$Living", "turnLamp", "(LWindowHill$Town;II)V"⟩, 8), (⟨"WindowHill$Living", "blow", "(LWindowHill$Town;I)V"⟩, 8), (⟨"WindowHill$Living", "draw", "(I)I"⟩, 8), (⟨"WindowHill$Living", "bear", "(LWindowHill$Town;)V"⟩, 8), (⟨"WindowHill$Living", "isTrue", "(LWindowHill$Town;I)Z"⟩, 8), (⟨"WindowHill$Town", "copyFrom", "(LWindowHill$Town;)V"⟩, 16), (⟨"WindowHill$Hill", "copyFrom", "(LWindowHill$Hill;)V"⟩, 10), (⟨"WindowHillModel", "plain", "(I)V"⟩, 39), (⟨"WindowHillModel", "is", "(I)Z"⟩, 39)]
theorem lw_r7 : ∀ q ∈ lw_privs_7, lw_okq q := List.forall_mem_cons.mpr ⟨lw_p96, List.forall_mem_cons.mpr ⟨lw_p97, List.forall_mem_cons.mpr ⟨lw_p98, List.forall_mem_cons.mpr ⟨lw_p99, List.forall_mem_cons.mpr ⟨lw_p100, List.forall_mem_cons.mpr ⟨lw_p101, List.forall_mem_cons.mpr ⟨lw_p102, List.forall_mem_cons.mpr ⟨lw_p103, List.forall_mem_cons.mpr ⟨lw_p104, List.forall_mem_cons.mpr ⟨lw_p105, List.forall_mem_cons.mpr ⟨lw_p106, List.forall_mem_cons.mpr ⟨lw_p107, List.forall_mem_cons.mpr ⟨lw_p108, List.forall_mem_cons.mpr ⟨lw_p109, List.forall_mem_cons.mpr ⟨lw_p110, List.forall_mem_cons.mpr ⟨lw_p111, fun _ h => absurd h List.not_mem_nil⟩⟩⟩⟩⟩⟩⟩⟩⟩⟩⟩⟩⟩⟩⟩⟩
theorem lw_p112 : lw_okq (⟨"WindowHillModel", "wrongPlace", "(II)I"⟩, 39) := ⟨⟨by decide +kernel, by decide +kernel⟩, List.mem_of_getElem? (i := 1374) (by decide +kernel), List.mem_of_getElem? (i := 1529) (by decide +kernel), List.mem_of_getElem? (i := 1530) (by decide +kernel)⟩
theorem lw_p113 : lw_okq (⟨"WindowHillModel", "four", "(I)V"⟩, 39) := ⟨⟨by decide +kernel, by decide +kernel⟩, List.mem_of_getElem? (i := 1374) (by decide +kernel), List.mem_of_getElem? (i := 1549) (by decide +kernel), List.mem_of_getElem? (i := 1550) (by decide +kernel)⟩
theorem lw_p114 : lw_okq (⟨"WindowHillModel", "begins", "(II)Z"⟩, 39) := ⟨⟨by decide +kernel, by decide +kernel⟩, List.mem_of_getElem? (i := 1374) (by decide +kernel), List.mem_of_getElem? (i := 1561) (by decide +kernel), List.mem_of_getElem? (i := 1562) (by decide +kernel)⟩
theorem lw_p115 : lw_okq (⟨"WindowHillModel", "onward", "()V"⟩, 39) := ⟨⟨by decide +kernel, by decide +kernel⟩, List.mem_of_getElem? (i := 1374) (by decide +kernel), List.mem_of_getElem? (i := 1565) (by decide +kernel), List.mem_of_getElem? (i := 1566) (by decide +kernel)⟩
theorem lw_p116 : lw_okq (⟨"WindowHillModel", "byteAt", "(I)I"⟩, 39) := ⟨⟨by decide +kernel, by decide +kernel⟩, List.mem_of_getElem? (i := 1374) (by decide +kernel), List.mem_of_getElem? (i := 1569) (by decide +kernel), List.mem_of_getElem? (i := 1570) (by decide +kernel)⟩
theorem lw_p117 : lw_okq (⟨"WindowHillModel", "refuse", "(I)I"⟩, 39) := ⟨⟨by decide +kernel, by decide +kernel⟩, List.mem_of_getElem? (i := 1374) (by decide +kernel), List.mem_of_getElem? (i := 1581) (by decide +kernel), List.mem_of_getElem? (i := 1582) (by decide +kernel)⟩
theorem lw_p118 : lw_okq (⟨"WindowHillModel", "first", "()Z"⟩, 39) := ⟨⟨by decide +kernel, by decide +kernel⟩, List.mem_of_getElem? (i := 1374) (by decide +kernel), List.mem_of_getElem? (i := 1585) (by decide +kernel), List.mem_of_getElem? (i := 1586) (by decide +kernel)⟩
theorem lw_p119 : lw_okq (⟨"WindowHillModel", "wantWord", "(Ljava/lang/String;I)Z"⟩, 39) := ⟨⟨by decide +kernel, by decide +kernel⟩, List.mem_of_getElem? (i := 1374) (by decide +kernel), List.mem_of_getElem? (i := 1590) (by decide +kernel), List.mem_of_getElem? (i := 1591) (by decide +kernel)⟩
theorem lw_p120 : lw_okq (⟨"WindowHillModel", "inWords", "(Ljava/lang/String;)I"⟩, 39) := ⟨⟨by decide +kernel, by decide +kernel⟩, List.mem_of_getElem? (i := 1374) (by decide +kernel), List.mem_of_getElem? (i := 1594) (by decide +kernel), List.mem_of_getElem? (i := 1595) (by decide +kernel)⟩
theorem lw_p121 : lw_okq (⟨"WindowHillModel", "fails", "(I)Z"⟩, 39) := ⟨⟨by decide +kernel, by decide +kernel⟩, List.mem_of_getElem? (i := 1374) (by decide +kernel), List.mem_of_getElem? (i := 1600) (by decide +kernel), List.mem_of_getElem? (i := 1601) (by decide +kernel)⟩
theorem lw_p122 : lw_okq (⟨"WindowHillModel", "number", "(III)Z"⟩, 39) := ⟨⟨by decide +kernel, by decide +kernel⟩, List.mem_of_getElem? (i := 1374) (by decide +kernel), List.mem_of_getElem? (i := 1604) (by decide +kernel), List.mem_of_getElem? (i := 1605) (by decide +kernel)⟩
theorem lw_p123 : lw_okq (⟨"WindowHillModel", "isThere", "(I)Z"⟩, 39) := ⟨⟨by decide +kernel, by decide +kernel⟩, List.mem_of_getElem? (i := 1374) (by decide +kernel), List.mem_of_getElem? (i := 1608) (by decide +kernel), List.mem_of_getElem? (i := 1609) (by decide +kernel)⟩
theorem lw_p124 : lw_okq (⟨"WindowHillModel", "wantSign", "(I)Z"⟩, 39) := ⟨⟨by decide +kernel, by decide +kernel⟩, List.mem_of_getElem? (i := 1374) (by decide +kernel), List.mem_of_getElem? (i := 1612) (by decide +kernel), List.mem_of_getElem? (i := 1613) (by decide +kernel)⟩
theorem lw_p125 : lw_okq (⟨"WindowHillModel", "isSign", "(I)Z"⟩, 39) := ⟨⟨by decide +kernel, by decide +kernel⟩, List.mem_of_getElem? (i := 1374) (by decide +kernel), List.mem_of_getElem? (i := 1616) (by decide +kernel), List.mem_of_getElem? (i := 1617) (by decide +kernel)⟩
theorem lw_p126 : lw_okq (⟨"WindowHillModel", "aRow", "()Z"⟩, 39) := ⟨⟨by decide +kernel, by decide +kernel⟩, List.mem_of_getElem? (i := 1374) (by decide +kernel), List.mem_of_getElem? (i := 1620) (by decide +kernel), List.mem_of_getElem? (i := 1621) (by decide +kernel)⟩
theorem lw_p127 : lw_okq (⟨"WindowHillModel", "townPart", "()Z"⟩, 39) := ⟨⟨by decide +kernel, by decide +kernel⟩, List.mem_of_getElem? (i := 1374) (by decide +kernel), List.mem_of_getElem? (i := 1627) (by decide +kernel), List.mem_of_getElem? (i := 1628) (by decide +kernel)⟩
def lw_privs_8 : List (MethodName × Nat) := [(⟨"WindowHillModel", "wrongPlace", "(II)I"⟩, 39), (⟨"WindowHillModel", "four", "(I)V"⟩, 39), (⟨"WindowHillModel", "begins", "(II)Z"⟩, 39), (⟨"WindowHillModel", "onward", "()V"⟩, 39), (⟨"WindowHillModel", "byteAt", "(I)I"⟩, 39), (⟨"WindowHillModel", "refuse", "(I)I"⟩, 39), (⟨"WindowHillModel", "first", "()Z"⟩, 39), (⟨"WindowHillModel", "wantWord", "(Ljava/lang/String;I)Z"⟩, 39), (⟨"WindowHillModel", "inWords", "(Ljava/lang/String;)I"⟩, 39), (⟨"WindowHillModel", "fails", "(I)Z"⟩, 39), (⟨"WindowHillModel", "number", "(III)Z"⟩, 39), (⟨"WindowHillModel", "isThere", "(I)Z"⟩, 39), (⟨"WindowHillModel", "wantSign", "(I)Z"⟩, 39), (⟨"WindowHillModel", "isSign", "(I)Z"⟩, 39), (⟨"WindowHillModel", "aRow", "()Z"⟩, 39), (⟨"WindowHillModel", "townPart", "()Z"⟩, 39)]
theorem lw_r8 : ∀ q ∈ lw_privs_8, lw_okq q := List.forall_mem_cons.mpr ⟨lw_p112, List.forall_mem_cons.mpr ⟨lw_p113, List.forall_mem_cons.mpr ⟨lw_p114, List.forall_mem_cons.mpr ⟨lw_p115, List.forall_mem_cons.mpr ⟨lw_p116, List.forall_mem_cons.mpr ⟨lw_p117, List.forall_mem_cons.mpr ⟨lw_p118, List.forall_mem_cons.mpr ⟨lw_p119, List.forall_mem_cons.mpr ⟨lw_p120, List.forall_mem_cons.mpr ⟨lw_p121, List.forall_mem_cons.mpr ⟨lw_p122, List.forall_mem_cons.mpr ⟨lw_p123, List.forall_mem_cons.mpr ⟨lw_p124, List.forall_mem_cons.mpr ⟨lw_p125, List.forall_mem_cons.mpr ⟨lw_p126, List.forall_mem_cons.mpr ⟨lw_p127, fun _ h => absurd h List.not_mem_nil⟩⟩⟩⟩⟩⟩⟩⟩⟩⟩⟩⟩⟩⟩⟩⟩
theorem lw_p128 : lw_okq (⟨"WindowHillModel", "aRule", "()Z"⟩, 39) := ⟨⟨by decide +kernel, by decide +kernel⟩, List.mem_of_getElem? (i := 1374) (by decide +kernel), List.mem_of_getElem? (i := 1631) (by decide +kernel), List.mem_of_getElem? (i := 1632) (by decide +kernel)⟩
theorem lw_p129 : lw_okq (⟨"WindowHillModel", "newOne", "(III)Z"⟩, 39) := ⟨⟨by decide +kernel, by decide +kernel⟩, List.mem_of_getElem? (i := 1374) (by decide +kernel), List.mem_of_getElem? (i := 1635) (by decide +kernel), List.mem_of_getElem? (i := 1636) (by decide +kernel)⟩
theorem lw_p130 : lw_okq (⟨"WindowHillModel", "isName", "(Ljava/lang/String;)Z"⟩, 39) := ⟨⟨by decide +kernel, by decide +kernel⟩, List.mem_of_getElem? (i := 1374) (by decide +kernel), List.mem_of_getElem? (i := 1639) (by decide +kernel), List.mem_of_getElem? (i := 1640) (by decide +kernel)⟩
theorem lw_p131 : lw_okq (⟨"WindowHillModel", "findHere", "(II)I"⟩, 39) := ⟨⟨by decide +kernel, by decide +kernel⟩, List.mem_of_getElem? (i := 1374) (by decide +kernel), List.mem_of_getElem? (i := 1643) (by decide +kernel), List.mem_of_getElem? (i := 1644) (by decide +kernel)⟩
theorem lw_p132 : lw_okq (⟨"WindowHillModel", "nameHere", "()J"⟩, 39) := ⟨⟨by decide +kernel, by decide +kernel⟩, List.mem_of_getElem? (i := 1374) (by decide +kernel), List.mem_of_getElem? (i := 1647) (by decide +kernel), List.mem_of_getElem? (i := 1648) (by decide +kernel)⟩
theorem lw_p133 : lw_okq (⟨"WindowHillModel", "neighbours", "(I)Z"⟩, 39) := ⟨⟨by decide +kernel, by decide +kernel⟩, List.mem_of_getElem? (i := 1374) (by decide +kernel), List.mem_of_getElem? (i := 1651) (by decide +kernel), List.mem_of_getElem? (i := 1652) (by decide +kernel)⟩
theorem lw_p134 : lw_okq (⟨"WindowHillModel", "aCitizen", "()Z"⟩, 39) := ⟨⟨by decide +kernel, by decide +kernel⟩, List.mem_of_getElem? (i := 1374) (by decide +kernel), List.mem_of_getElem? (i := 1655) (by decide +kernel), List.mem_of_getElem? (i := 1656) (by decide +kernel)⟩
theorem lw_p135 : lw_okq (⟨"WindowHillModel", "taken", "(I)I"⟩, 39) := ⟨⟨by decide +kernel, by decide +kernel⟩, List.mem_of_getElem? (i := 1374) (by decide +kernel), List.mem_of_getElem? (i := 1662) (by decide +kernel), List.mem_of_getElem? (i := 1663) (by decide +kernel)⟩
theorem lw_p136 : lw_okq (⟨"WindowHillModel", "gives", "(I)I"⟩, 39) := ⟨⟨by decide +kernel, by decide +kernel⟩, List.mem_of_getElem? (i := 1374) (by decide +kernel), List.mem_of_getElem? (i := 1666) (by decide +kernel), List.mem_of_getElem? (i := 1667) (by decide +kernel)⟩
theorem lw_p137 : lw_okq (⟨"WindowHillModel", "yearStep", "()Z"⟩, 39) := ⟨⟨by decide +kernel, by decide +kernel⟩, List.mem_of_getElem? (i := 1374) (by decide +kernel), List.mem_of_getElem? (i := 1674) (by decide +kernel), List.mem_of_getElem? (i := 1675) (by decide +kernel)⟩
theorem lw_p138 : lw_okq (⟨"WindowHillModel", "yearOrder", "(II)Z"⟩, 39) := ⟨⟨by decide +kernel, by decide +kernel⟩, List.mem_of_getElem? (i := 1374) (by decide +kernel), List.mem_of_getElem? (i := 1678) (by decide +kernel), List.mem_of_getElem? (i := 1679) (by decide +kernel)⟩
theorem lw_p139 : lw_okq (⟨"WindowHillModel", "placeTo", "(I)Z"⟩, 39) := ⟨⟨by decide +kernel, by decide +kernel⟩, List.mem_of_getElem? (i := 1374) (by decide +kernel), List.mem_of_getElem? (i := 1682) (by decide +kernel), List.mem_of_getElem? (i := 1683) (by decide +kernel)⟩
theorem lw_p140 : lw_okq (⟨"WindowHillModel", "oldRule", "(I)Z"⟩, 39) := ⟨⟨by decide +kernel, by decide +kernel⟩, List.mem_of_getElem? (i := 1374) (by decide +kernel), List.mem_of_getElem? (i := 1686) (by decide +kernel), List.mem_of_getElem? (i := 1687) (by decide +kernel)⟩
theorem lw_p141 : lw_okq (⟨"WindowHillModel", "test", "(I)Z"⟩, 39) := ⟨⟨by decide +kernel, by decide +kernel⟩, List.mem_of_getElem? (i := 1374) (by decide +kernel), List.mem_of_getElem? (i := 1690) (by decide +kernel), List.mem_of_getElem? (i := 1691) (by decide +kernel)⟩
theorem lw_p142 : lw_okq (⟨"WindowHillModel", "orNone", "(I)I"⟩, 39) := ⟨⟨by decide +kernel, by decide +kernel⟩, List.mem_of_getElem? (i := 1374) (by decide +kernel), List.mem_of_getElem? (i := 1698) (by decide +kernel), List.mem_of_getElem? (i := 1699) (by decide +kernel)⟩
theorem lw_p143 : lw_okq (⟨"WindowHillModel", "givesLong", "(J)J"⟩, 39) := ⟨⟨by decide +kernel, by decide +kernel⟩, List.mem_of_getElem? (i := 1374) (by decide +kernel), List.mem_of_getElem? (i := 1706) (by decide +kernel), List.mem_of_getElem? (i := 1707) (by decide +kernel)⟩
def lw_privs_9 : List (MethodName × Nat) := [(⟨"WindowHillModel", "aRule", "()Z"⟩, 39), (⟨"WindowHillModel", "newOne", "(III)Z"⟩, 39), (⟨"WindowHillModel", "isName", "(Ljava/lang/String;)Z"⟩, 39), (⟨"WindowHillModel", "findHere", "(II)I"⟩, 39), (⟨"WindowHillModel", "nameHere", "()J"⟩, 39), (⟨"WindowHillModel", "neighbours", "(I)Z"⟩, 39), (⟨"WindowHillModel", "aCitizen", "()Z"⟩, 39), (⟨"WindowHillModel", "taken", "(I)I"⟩, 39), (⟨"WindowHillModel", "gives", "(I)I"⟩, 39), (⟨"WindowHillModel", "yearStep", "()Z"⟩, 39), (⟨"WindowHillModel", "yearOrder", "(II)Z"⟩, 39), (⟨"WindowHillModel", "placeTo", "(I)Z"⟩, 39), (⟨"WindowHillModel", "oldRule", "(I)Z"⟩, 39), (⟨"WindowHillModel", "test", "(I)Z"⟩, 39), (⟨"WindowHillModel", "orNone", "(I)I"⟩, 39), (⟨"WindowHillModel", "givesLong", "(J)J"⟩, 39)]
theorem lw_r9 : ∀ q ∈ lw_privs_9, lw_okq q := List.forall_mem_cons.mpr ⟨lw_p128, List.forall_mem_cons.mpr ⟨lw_p129, List.forall_mem_cons.mpr ⟨lw_p130, List.forall_mem_cons.mpr ⟨lw_p131, List.forall_mem_cons.mpr ⟨lw_p132, List.forall_mem_cons.mpr ⟨lw_p133, List.forall_mem_cons.mpr ⟨lw_p134, List.forall_mem_cons.mpr ⟨lw_p135, List.forall_mem_cons.mpr ⟨lw_p136, List.forall_mem_cons.mpr ⟨lw_p137, List.forall_mem_cons.mpr ⟨lw_p138, List.forall_mem_cons.mpr ⟨lw_p139, List.forall_mem_cons.mpr ⟨lw_p140, List.forall_mem_cons.mpr ⟨lw_p141, List.forall_mem_cons.mpr ⟨lw_p142, List.forall_mem_cons.mpr ⟨lw_p143, fun _ h => absurd h List.not_mem_nil⟩⟩⟩⟩⟩⟩⟩⟩⟩⟩⟩⟩⟩⟩⟩⟩
theorem lw_p144 : lw_okq (⟨"WindowHillModel", "wrongHouse", "(II)I"⟩, 39) := ⟨⟨by decide +kernel, by decide +kernel⟩, List.mem_of_getElem? (i := 1374) (by decide +kernel), List.mem_of_getElem? (i := 1714) (by decide +kernel), List.mem_of_getElem? (i := 1715) (by decide +kernel)⟩
theorem lw_p145 : lw_okq (⟨"WindowHillModel", "isPlace", "(II)Z"⟩, 39) := ⟨⟨by decide +kernel, by decide +kernel⟩, List.mem_of_getElem? (i := 1374) (by decide +kernel), List.mem_of_getElem? (i := 1718) (by decide +kernel), List.mem_of_getElem? (i := 1719) (by decide +kernel)⟩
theorem lw_p146 : lw_okq (⟨"WindowHillModel", "bitOf", "(II)I"⟩, 39) := ⟨⟨by decide +kernel, by decide +kernel⟩, List.mem_of_getElem? (i := 1374) (by decide +kernel), List.mem_of_getElem? (i := 1722) (by decide +kernel), List.mem_of_getElem? (i := 1723) (by decide +kernel)⟩
theorem lw_p147 : lw_okq (⟨"WindowHillModel", "near", "(I)I"⟩, 39) := ⟨⟨by decide +kernel, by decide +kernel⟩, List.mem_of_getElem? (i := 1374) (by decide +kernel), List.mem_of_getElem? (i := 1726) (by decide +kernel), List.mem_of_getElem? (i := 1727) (by decide +kernel)⟩
theorem lw_p148 : lw_okq (⟨"WindowHillModel", "places", "()I"⟩, 39) := ⟨⟨by decide +kernel, by decide +kernel⟩, List.mem_of_getElem? (i := 1374) (by decide +kernel), List.mem_of_getElem? (i := 1730) (by decide +kernel), List.mem_of_getElem? (i := 1731) (by decide +kernel)⟩
theorem lw_p149 : lw_okq (⟨"WindowHillModel", "isRule", "(I)Z"⟩, 39) := ⟨⟨by decide +kernel, by decide +kernel⟩, List.mem_of_getElem? (i := 1374) (by decide +kernel), List.mem_of_getElem? (i := 1738) (by decide +kernel), List.mem_of_getElem? (i := 1739) (by decide +kernel)⟩
theorem lw_p150 : lw_okq (⟨"WindowHillModel", "isCitizen", "(I)Z"⟩, 39) := ⟨⟨by decide +kernel, by decide +kernel⟩, List.mem_of_getElem? (i := 1374) (by decide +kernel), List.mem_of_getElem? (i := 1746) (by decide +kernel), List.mem_of_getElem? (i := 1747) (by decide +kernel)⟩
theorem lw_p151 : lw_okq (⟨"WindowHillModel", "wrongLamp", "(II)I"⟩, 39) := ⟨⟨by decide +kernel, by decide +kernel⟩, List.mem_of_getElem? (i := 1374) (by decide +kernel), List.mem_of_getElem? (i := 1754) (by decide +kernel), List.mem_of_getElem? (i := 1755) (by decide +kernel)⟩
theorem lw_p152 : lw_okq (⟨"WindowHillModel", "paints", "(I)I"⟩, 39) := ⟨⟨by decide +kernel, by decide +kernel⟩, List.mem_of_getElem? (i := 1374) (by decide +kernel), List.mem_of_getElem? (i := 1766) (by decide +kernel), List.mem_of_getElem? (i := 1767) (by decide +kernel)⟩
theorem lw_p153 : lw_okq (⟨"WindowHillModel", "free", "()I"⟩, 39) := ⟨⟨by decide +kernel, by decide +kernel⟩, List.mem_of_getElem? (i := 1374) (by decide +kernel), List.mem_of_getElem? (i := 1770) (by decide +kernel), List.mem_of_getElem? (i := 1771) (by decide +kernel)⟩
theorem lw_p154 : lw_okq (⟨"WindowHillModel", "rowOf", "(II)I"⟩, 39) := ⟨⟨by decide +kernel, by decide +kernel⟩, List.mem_of_getElem? (i := 1374) (by decide +kernel), List.mem_of_getElem? (i := 1783) (by decide +kernel), List.mem_of_getElem? (i := 1784) (by decide +kernel)⟩
theorem lw_p155 : lw_okq (⟨"WindowHillModel", "goes", "()V"⟩, 39) := ⟨⟨by decide +kernel, by decide +kernel⟩, List.mem_of_getElem? (i := 1374) (by decide +kernel), List.mem_of_getElem? (i := 1800) (by decide +kernel), List.mem_of_getElem? (i := 1801) (by decide +kernel)⟩
theorem lw_p156 : lw_okq (⟨"WindowHillModel", "laysNear", "()V"⟩, 39) := ⟨⟨by decide +kernel, by decide +kernel⟩, List.mem_of_getElem? (i := 1374) (by decide +kernel), List.mem_of_getElem? (i := 1804) (by decide +kernel), List.mem_of_getElem? (i := 1805) (by decide +kernel)⟩
theorem lw_p157 : lw_okq (⟨"WindowHillModel", "becomes", "(II)I"⟩, 39) := ⟨⟨by decide +kernel, by decide +kernel⟩, List.mem_of_getElem? (i := 1374) (by decide +kernel), List.mem_of_getElem? (i := 1808) (by decide +kernel), List.mem_of_getElem? (i := 1809) (by decide +kernel)⟩
theorem lw_p158 : lw_okq (⟨"WindowHillModel", "after", "(II)I"⟩, 39) := ⟨⟨by decide +kernel, by decide +kernel⟩, List.mem_of_getElem? (i := 1374) (by decide +kernel), List.mem_of_getElem? (i := 1816) (by decide +kernel), List.mem_of_getElem? (i := 1817) (by decide +kernel)⟩
theorem lw_p159 : lw_okq (⟨"WindowHillModel", "comesAgain", "()Z"⟩, 39) := ⟨⟨by decide +kernel, by decide +kernel⟩, List.mem_of_getElem? (i := 1374) (by decide +kernel), List.mem_of_getElem? (i := 1824) (by decide +kernel), List.mem_of_getElem? (i := 1825) (by decide +kernel)⟩
def lw_privs_10 : List (MethodName × Nat) := [(⟨"WindowHillModel", "wrongHouse", "(II)I"⟩, 39), (⟨"WindowHillModel", "isPlace", "(II)Z"⟩, 39), (⟨"WindowHillModel", "bitOf", "(II)I"⟩, 39), (⟨"WindowHillModel", "near", "(I)I"⟩, 39), (⟨"WindowHillModel", "places", "()I"⟩, 39), (⟨"WindowHillModel", "isRule", "(I)Z"⟩, 39), (⟨"WindowHillModel", "isCitizen", "(I)Z"⟩, 39), (⟨"WindowHillModel", "wrongLamp", "(II)I"⟩, 39), (⟨"WindowHillModel", "paints", "(I)I"⟩, 39), (⟨"WindowHillModel", "free", "()I"⟩, 39), (⟨"WindowHillModel", "rowOf", "(II)I"⟩, 39), (⟨"WindowHillModel", "goes", "()V"⟩, 39), (⟨"WindowHillModel", "laysNear", "()V"⟩, 39), (⟨"WindowHillModel", "becomes", "(II)I"⟩, 39), (⟨"WindowHillModel", "after", "(II)I"⟩, 39), (⟨"WindowHillModel", "comesAgain", "()Z"⟩, 39)]
theorem lw_r10 : ∀ q ∈ lw_privs_10, lw_okq q := List.forall_mem_cons.mpr ⟨lw_p144, List.forall_mem_cons.mpr ⟨lw_p145, List.forall_mem_cons.mpr ⟨lw_p146, List.forall_mem_cons.mpr ⟨lw_p147, List.forall_mem_cons.mpr ⟨lw_p148, List.forall_mem_cons.mpr ⟨lw_p149, List.forall_mem_cons.mpr ⟨lw_p150, List.forall_mem_cons.mpr ⟨lw_p151, List.forall_mem_cons.mpr ⟨lw_p152, List.forall_mem_cons.mpr ⟨lw_p153, List.forall_mem_cons.mpr ⟨lw_p154, List.forall_mem_cons.mpr ⟨lw_p155, List.forall_mem_cons.mpr ⟨lw_p156, List.forall_mem_cons.mpr ⟨lw_p157, List.forall_mem_cons.mpr ⟨lw_p158, List.forall_mem_cons.mpr ⟨lw_p159, fun _ h => absurd h List.not_mem_nil⟩⟩⟩⟩⟩⟩⟩⟩⟩⟩⟩⟩⟩⟩⟩⟩
theorem lw_p160 : lw_okq (⟨"WindowHillModel", "moved", "(III)I"⟩, 39) := ⟨⟨by decide +kernel, by decide +kernel⟩, List.mem_of_getElem? (i := 1374) (by decide +kernel), List.mem_of_getElem? (i := 1837) (by decide +kernel), List.mem_of_getElem? (i := 1838) (by decide +kernel)⟩
theorem lw_p161 : lw_okq (⟨"WindowHillModel", "isStill", "()Z"⟩, 39) := ⟨⟨by decide +kernel, by decide +kernel⟩, List.mem_of_getElem? (i := 1374) (by decide +kernel), List.mem_of_getElem? (i := 1845) (by decide +kernel), List.mem_of_getElem? (i := 1846) (by decide +kernel)⟩
theorem lw_p162 : lw_okq (⟨"WindowHillModel", "reckons", "(Z)J"⟩, 39) := ⟨⟨by decide +kernel, by decide +kernel⟩, List.mem_of_getElem? (i := 1374) (by decide +kernel), List.mem_of_getElem? (i := 1867) (by decide +kernel), List.mem_of_getElem? (i := 1868) (by decide +kernel)⟩
theorem lw_p163 : lw_okq (⟨"WindowHillModel", "fitsRow", "(II)Z"⟩, 39) := ⟨⟨by decide +kernel, by decide +kernel⟩, List.mem_of_getElem? (i := 1374) (by decide +kernel), List.mem_of_getElem? (i := 1871) (by decide +kernel), List.mem_of_getElem? (i := 1872) (by decide +kernel)⟩
theorem lw_p164 : lw_okq (⟨"WindowHillModel", "isGood", "(IIIIZ)Z"⟩, 39) := ⟨⟨by decide +kernel, by decide +kernel⟩, List.mem_of_getElem? (i := 1374) (by decide +kernel), List.mem_of_getElem? (i := 1875) (by decide +kernel), List.mem_of_getElem? (i := 1876) (by decide +kernel)⟩
theorem lw_p165 : lw_okq (⟨"WindowHillModel", "rowBecomes", "(IIII)I"⟩, 39) := ⟨⟨by decide +kernel, by decide +kernel⟩, List.mem_of_getElem? (i := 1374) (by decide +kernel), List.mem_of_getElem? (i := 1879) (by decide +kernel), List.mem_of_getElem? (i := 1880) (by decide +kernel)⟩
theorem lw_p166 : lw_okq (⟨"WindowHillModel", "least", "(Z)J"⟩, 39) := ⟨⟨by decide +kernel, by decide +kernel⟩, List.mem_of_getElem? (i := 1374) (by decide +kernel), List.mem_of_getElem? (i := 1887) (by decide +kernel), List.mem_of_getElem? (i := 1888) (by decide +kernel)⟩
theorem lw_p167 : lw_okq (⟨"WindowHillModel", "aboveOf", "(IIIZ)I"⟩, 39) := ⟨⟨by decide +kernel, by decide +kernel⟩, List.mem_of_getElem? (i := 1374) (by decide +kernel), List.mem_of_getElem? (i := 1891) (by decide +kernel), List.mem_of_getElem? (i := 1892) (by decide +kernel)⟩
theorem lw_p168 : lw_okq (⟨"WindowHillModel", "tries", "(IIII)V"⟩, 39) := ⟨⟨by decide +kernel, by decide +kernel⟩, List.mem_of_getElem? (i := 1374) (by decide +kernel), List.mem_of_getElem? (i := 1912) (by decide +kernel), List.mem_of_getElem? (i := 1913) (by decide +kernel)⟩
theorem lw_p169 : lw_okq (⟨"WindowHillModel", "spoilsBy", "(II)I"⟩, 39) := ⟨⟨by decide +kernel, by decide +kernel⟩, List.mem_of_getElem? (i := 1374) (by decide +kernel), List.mem_of_getElem? (i := 1920) (by decide +kernel), List.mem_of_getElem? (i := 1921) (by decide +kernel)⟩
theorem lw_p170 : lw_okq (⟨"WindowHillModel", "whole", "()I"⟩, 39) := ⟨⟨by decide +kernel, by decide +kernel⟩, List.mem_of_getElem? (i := 1374) (by decide +kernel), List.mem_of_getElem? (i := 1932) (by decide +kernel), List.mem_of_getElem? (i := 1933) (by decide +kernel)⟩
theorem lw_p171 : lw_okq (⟨"WindowHillModel", "voteOf", "(I)I"⟩, 39) := ⟨⟨by decide +kernel, by decide +kernel⟩, List.mem_of_getElem? (i := 1374) (by decide +kernel), List.mem_of_getElem? (i := 1965) (by decide +kernel), List.mem_of_getElem? (i := 1966) (by decide +kernel)⟩
theorem lw_p172 : lw_okq (⟨"WindowHillModel", "dislikes", "(II)I"⟩, 39) := ⟨⟨by decide +kernel, by decide +kernel⟩, List.mem_of_getElem? (i := 1374) (by decide +kernel), List.mem_of_getElem? (i := 1969) (by decide +kernel), List.mem_of_getElem? (i := 1970) (by decide +kernel)⟩
theorem lw_p173 : lw_okq (⟨"WindowHillModel", "votesFor", "(I)I"⟩, 39) := ⟨⟨by decide +kernel, by decide +kernel⟩, List.mem_of_getElem? (i := 1374) (by decide +kernel), List.mem_of_getElem? (i := 1977) (by decide +kernel), List.mem_of_getElem? (i := 1978) (by decide +kernel)⟩
theorem lw_p174 : lw_okq (⟨"WindowHillModel", "elects", "()Z"⟩, 39) := ⟨⟨by decide +kernel, by decide +kernel⟩, List.mem_of_getElem? (i := 1374) (by decide +kernel), List.mem_of_getElem? (i := 1985) (by decide +kernel), List.mem_of_getElem? (i := 1986) (by decide +kernel)⟩
theorem lw_p175 : lw_okq (⟨"WindowHillModel", "heapOf", "(I)I"⟩, 39) := ⟨⟨by decide +kernel, by decide +kernel⟩, List.mem_of_getElem? (i := 1374) (by decide +kernel), List.mem_of_getElem? (i := 2001) (by decide +kernel), List.mem_of_getElem? (i := 2002) (by decide +kernel)⟩
def lw_privs_11 : List (MethodName × Nat) := [(⟨"WindowHillModel", "moved", "(III)I"⟩, 39), (⟨"WindowHillModel", "isStill", "()Z"⟩, 39), (⟨"WindowHillModel", "reckons", "(Z)J"⟩, 39), (⟨"WindowHillModel", "fitsRow", "(II)Z"⟩, 39), (⟨"WindowHillModel", "isGood", "(IIIIZ)Z"⟩, 39), (⟨"WindowHillModel", "rowBecomes", "(IIII)I"⟩, 39), (⟨"WindowHillModel", "least", "(Z)J"⟩, 39), (⟨"WindowHillModel", "aboveOf", "(IIIZ)I"⟩, 39), (⟨"WindowHillModel", "tries", "(IIII)V"⟩, 39), (⟨"WindowHillModel", "spoilsBy", "(II)I"⟩, 39), (⟨"WindowHillModel", "whole", "()I"⟩, 39), (⟨"WindowHillModel", "voteOf", "(I)I"⟩, 39), (⟨"WindowHillModel", "dislikes", "(II)I"⟩, 39), (⟨"WindowHillModel", "votesFor", "(I)I"⟩, 39), (⟨"WindowHillModel", "elects", "()Z"⟩, 39), (⟨"WindowHillModel", "heapOf", "(I)I"⟩, 39)]
theorem lw_r11 : ∀ q ∈ lw_privs_11, lw_okq q := List.forall_mem_cons.mpr ⟨lw_p160, List.forall_mem_cons.mpr ⟨lw_p161, List.forall_mem_cons.mpr ⟨lw_p162, List.forall_mem_cons.mpr ⟨lw_p163, List.forall_mem_cons.mpr ⟨lw_p164, List.forall_mem_cons.mpr ⟨lw_p165, List.forall_mem_cons.mpr ⟨lw_p166, List.forall_mem_cons.mpr ⟨lw_p167, List.forall_mem_cons.mpr ⟨lw_p168, List.forall_mem_cons.mpr ⟨lw_p169, List.forall_mem_cons.mpr ⟨lw_p170, List.forall_mem_cons.mpr ⟨lw_p171, List.forall_mem_cons.mpr ⟨lw_p172, List.forall_mem_cons.mpr ⟨lw_p173, List.forall_mem_cons.mpr ⟨lw_p174, List.forall_mem_cons.mpr ⟨lw_p175, fun _ h => absurd h List.not_mem_nil⟩⟩⟩⟩⟩⟩⟩⟩⟩⟩⟩⟩⟩⟩⟩⟩
theorem lw_p176 : lw_okq (⟨"WindowHillModel", "tellsBy", "(JJ)Z"⟩, 39) := ⟨⟨by decide +kernel, by decide +kernel⟩, List.mem_of_getElem? (i := 1374) (by decide +kernel), List.mem_of_getElem? (i := 2013) (by decide +kernel), List.mem_of_getElem? (i := 2014) (by decide +kernel)⟩
theorem lw_p177 : lw_okq (⟨"WindowHillModel", "lives", "(I)V"⟩, 39) := ⟨⟨by decide +kernel, by decide +kernel⟩, List.mem_of_getElem? (i := 1374) (by decide +kernel), List.mem_of_getElem? (i := 2021) (by decide +kernel), List.mem_of_getElem? (i := 2022) (by decide +kernel)⟩
theorem lw_p178 : lw_okq (⟨"WindowHillModel", "does", "(I)Z"⟩, 39) := ⟨⟨by decide +kernel, by decide +kernel⟩, List.mem_of_getElem? (i := 1374) (by decide +kernel), List.mem_of_getElem? (i := 2025) (by decide +kernel), List.mem_of_getElem? (i := 2026) (by decide +kernel)⟩
theorem lw_p179 : lw_okq (⟨"WindowHillModel", "storms", "(I)Z"⟩, 39) := ⟨⟨by decide +kernel, by decide +kernel⟩, List.mem_of_getElem? (i := 1374) (by decide +kernel), List.mem_of_getElem? (i := 2029) (by decide +kernel), List.mem_of_getElem? (i := 2030) (by decide +kernel)⟩
theorem lw_p180 : lw_okq (⟨"WindowHillModel", "draw", "(I)I"⟩, 39) := ⟨⟨by decide +kernel, by decide +kernel⟩, List.mem_of_getElem? (i := 1374) (by decide +kernel), List.mem_of_getElem? (i := 2033) (by decide +kernel), List.mem_of_getElem? (i := 2034) (by decide +kernel)⟩
theorem lw_p181 : lw_okq (⟨"WindowHillModel", "isBorn", "()Z"⟩, 39) := ⟨⟨by decide +kernel, by decide +kernel⟩, List.mem_of_getElem? (i := 1374) (by decide +kernel), List.mem_of_getElem? (i := 2038) (by decide +kernel), List.mem_of_getElem? (i := 2039) (by decide +kernel)⟩
theorem lw_p182 : lw_okq (⟨"WindowHillModel", "holds", "(I)Z"⟩, 39) := ⟨⟨by decide +kernel, by decide +kernel⟩, List.mem_of_getElem? (i := 1374) (by decide +kernel), List.mem_of_getElem? (i := 2042) (by decide +kernel), List.mem_of_getElem? (i := 2043) (by decide +kernel)⟩
theorem lw_p183 : lw_okq (⟨"WindowHillModel", "behindEnds", "(I)I"⟩, 39) := ⟨⟨by decide +kernel, by decide +kernel⟩, List.mem_of_getElem? (i := 1374) (by decide +kernel), List.mem_of_getElem? (i := 2046) (by decide +kernel), List.mem_of_getElem? (i := 2047) (by decide +kernel)⟩
theorem lw_p184 : lw_okq (⟨"WindowHillModel", "copies", "(II)V"⟩, 39) := ⟨⟨by decide +kernel, by decide +kernel⟩, List.mem_of_getElem? (i := 1374) (by decide +kernel), List.mem_of_getElem? (i := 2063) (by decide +kernel), List.mem_of_getElem? (i := 2064) (by decide +kernel)⟩
def lw_privs_12 : List (MethodName × Nat) := [(⟨"WindowHillModel", "tellsBy", "(JJ)Z"⟩, 39), (⟨"WindowHillModel", "lives", "(I)V"⟩, 39), (⟨"WindowHillModel", "does", "(I)Z"⟩, 39), (⟨"WindowHillModel", "storms", "(I)Z"⟩, 39), (⟨"WindowHillModel", "draw", "(I)I"⟩, 39), (⟨"WindowHillModel", "isBorn", "()Z"⟩, 39), (⟨"WindowHillModel", "holds", "(I)Z"⟩, 39), (⟨"WindowHillModel", "behindEnds", "(I)I"⟩, 39), (⟨"WindowHillModel", "copies", "(II)V"⟩, 39)]
theorem lw_r12 : ∀ q ∈ lw_privs_12, lw_okq q := List.forall_mem_cons.mpr ⟨lw_p176, List.forall_mem_cons.mpr ⟨lw_p177, List.forall_mem_cons.mpr ⟨lw_p178, List.forall_mem_cons.mpr ⟨lw_p179, List.forall_mem_cons.mpr ⟨lw_p180, List.forall_mem_cons.mpr ⟨lw_p181, List.forall_mem_cons.mpr ⟨lw_p182, List.forall_mem_cons.mpr ⟨lw_p183, List.forall_mem_cons.mpr ⟨lw_p184, fun _ h => absurd h List.not_mem_nil⟩⟩⟩⟩⟩⟩⟩⟩⟩
def lw_privs : List (MethodName × Nat) := lw_privs_1 ++ (lw_privs_2 ++ (lw_privs_3 ++ (lw_privs_4 ++ (lw_privs_5 ++ (lw_privs_6 ++ (lw_privs_7 ++ (lw_privs_8 ++ (lw_privs_9 ++ (lw_privs_10 ++ (lw_privs_11 ++ (lw_privs_12)))))))))))
def lw_tbl : List Cond := k2_sels lw_privs ++ tables_1
theorem lw_privs_ok : ∀ q ∈ lw_privs, lw_okq q := by
  show ∀ q ∈ lw_privs_1 ++ (lw_privs_2 ++ (lw_privs_3 ++ (lw_privs_4 ++ (lw_privs_5 ++ (lw_privs_6 ++ (lw_privs_7 ++ (lw_privs_8 ++ (lw_privs_9 ++ (lw_privs_10 ++ (lw_privs_11 ++ (lw_privs_12))))))))))), lw_okq q
  exact List.forall_mem_append.mpr ⟨lw_r1, List.forall_mem_append.mpr ⟨lw_r2, List.forall_mem_append.mpr ⟨lw_r3, List.forall_mem_append.mpr ⟨lw_r4, List.forall_mem_append.mpr ⟨lw_r5, List.forall_mem_append.mpr ⟨lw_r6, List.forall_mem_append.mpr ⟨lw_r7, List.forall_mem_append.mpr ⟨lw_r8, List.forall_mem_append.mpr ⟨lw_r9, List.forall_mem_append.mpr ⟨lw_r10, List.forall_mem_append.mpr ⟨lw_r11, lw_r12⟩⟩⟩⟩⟩⟩⟩⟩⟩⟩⟩
-- ===== end of PART A; then your names; then what follows =====
/-! THE CLAIM OUT OF ONE WALK OF THE LAW'S BODY. Your part is whole_start (and what it stands on); all else here is the same for every law, but numbers. -/
def R_law : String := "WindowHillLaw"
def lw_P (b : Addr) (xs : List Int32) (args : Array Value) (s : State) : Prop := args = #[.ref b] ∧ s.IntsAt b xs ∧ xs.length ≤ 3072 ∧ (Jvm.Cond.and given_1 narrow_1).before args s = true
def lw_Q (_ : Array Value) (s : State) (o : Outcome) (t : State) : Prop := o = .returned (some (.int 1)) ∧ Framed s o t [] 130 29941
def lw_Z (below : List Frame) (a : Array Value) (s : State) : State → Prop := fun t => ∃ o, t.status = .running ∧ Ended t below o ∧ lw_Q a s o t
/-- the law's own end, with 1 on the stack, nothing written that was there before, its room as the claim has it -/
theorem lw_ret {p : Program} {l : Launch} {e : Env} {s : State} {m : MethodId} {below : List Frame} {meth : Method} {c : Code} {b : Nat} (hx : p.tables.exec = Jvm.exec) (hb : c.code = code) (hr : meth.sig.returnType = ret) (hlocks : meth.locks = false) {pc : Nat} {H : Heap} {ls : Array Slot} (hdg : decode code pc = .ok (.ireturn, 1)) : W p l e room_1 s m #[Value.ref b] below meth c H [] 130 29941 (lw_Z below #[Value.ref b] s) (F0 m pc ls [.int 1]) := by
  intro T hT X
  obtain ⟨fs, hret, hrun, hended, hW, hframe⟩ := X.leave (v := some (.int 1)) (hlocks := hlocks) (fun h => by rw [hr] at h; cases h)
  have hmeth' : T.vm.method? m = some meth := X.method'
  refine ⟨T.setFrames fs, ?_, .returned (some (.int 1)), hrun, hended, rfl, ⟨_, rfl⟩, hW, hframe⟩
  jvm_step X.here [X.here.top, hx, hb, hdg, hmeth', hr, ret, narrow_b1]
  (try refine ⟨rfl, ?_⟩); (try refine ⟨rfl, ?_⟩)
  first | (intro acts; rw [hret _ acts rfl rfl rfl]) | rw [hret _ _ rfl rfl rfl]
  exact Steps.refl _
/-- what holds at the law's entry: the machine, the code, the tables' words (any of lw_tbl by 'hts w (by decide +kernel)'), the script of L ints xs at the cell b, what the Statement gives of the start (any of its parts by flat_of_before) -/
def lw_At (p : Program) (s : State) (m : MethodId) (meth : Method) (c : Code) (b L : Nat) (xs : Nat → Int32) : Prop :=
  p.tables.exec = Jvm.exec ∧ c.code = code ∧ meth.sig.returnType = ret ∧ c.maxLocals = 4 ∧ s.vm.findClass R_law = some m.cls ∧ (∀ w ∈ lw_tbl, w.before #[Value.ref b] s = true) ∧ va_X b L xs s s.heap ∧ b < s.heap.size ∧ meth.locks = false ∧ (Jvm.Cond.and given_1 narrow_1).before #[Value.ref b] s = true

/-! ===== BEGIN printed: names, fields, word lists, decode rows ===== -/
def RX0 : String := "WindowHill$Ancestry"
def TX0 : u_T := fun k => match k with
  | 0 => ("WindowHill$Ancestry", "ways", "[I", true)
  | 1 => ("WindowHill$Ancestry", "strip", "LWindowHill$Hill;", true)
  | 2 => ("WindowHill$Ancestry", "freeIn", "[I", true)
  | 3 => ("WindowHill$Ancestry", "alwaysIn", "[I", true)
  | 4 => ("WindowHill$Ancestry", "wantedIn", "[I", true)
  | 5 => ("WindowHill$Ancestry", "rows", "I", false)
  | 6 => ("WindowHill$Ancestry", "born", "I", false)
  | 7 => ("WindowHill$Ancestry", "stays", "I", false)
  | _ => ("WindowHill$Ancestry", "toItself", "Z", false)
def tyX0 : Nat → FieldType := fun k => match k with
  | 0 => .array .int
  | 1 => .object "WindowHill$Hill"
  | 2 => .array .int
  | 3 => .array .int
  | 4 => .array .int
  | 5 => .int
  | 6 => .int
  | 7 => .int
  | _ => .boolean
abbrev wsX00 : List Cond := u_ws RX0 TX0 9
theorem nmX0 : ∀ a, a < 9 → ∀ b, b < 9 → a ≠ b → (TX0 a).2.1 ≠ (TX0 b).2.1 := by decide +kernel
theorem tyX0_ok : ∀ k, k < 9 → parseFieldDescriptor (TX0 k).2.2.1 = some (tyX0 k) := by decide +kernel
abbrev cX0_init : ByteArray := prog_2_method_1_code
def yX0_init : MethodName := ⟨RX0, "<init>", "()V"⟩
abbrev cX0_countWays : ByteArray := prog_2_method_2_code
def yX0_countWays : MethodName := ⟨RX0, "countWays", "(LWindowHill$Town;Z)I"⟩
abbrev cX0_layRows : ByteArray := prog_2_method_3_code
def yX0_layRows : MethodName := ⟨RX0, "layRows", "(LWindowHill$Town;)V"⟩
abbrev cX0_chooseBelow : ByteArray := prog_2_method_4_code
def yX0_chooseBelow : MethodName := ⟨RX0, "chooseBelow", "(I)V"⟩
abbrev cX0_chooseBelowPair : ByteArray := prog_2_method_5_code
def yX0_chooseBelowPair : MethodName := ⟨RX0, "chooseBelowPair", "(IIII)V"⟩
abbrev cX0_wrongIn : ByteArray := prog_2_method_6_code
def yX0_wrongIn : MethodName := ⟨RX0, "wrongIn", "(IIII)I"⟩
abbrev cX0_leastFound : ByteArray := prog_2_method_7_code
def yX0_leastFound : MethodName := ⟨RX0, "leastFound", "()I"⟩
abbrev cX0_leastAbove : ByteArray := prog_2_method_8_code
def yX0_leastAbove : MethodName := ⟨RX0, "leastAbove", "(III)I"⟩
def RX1 : String := "WindowHill$Hill"
def TX1 : u_T := fun k => match k with
  | 0 => ("WindowHill$Hill", "wide", "I", false)
  | 1 => ("WindowHill$Hill", "rows", "I", false)
  | 2 => ("WindowHill$Hill", "joined", "Z", false)
  | 3 => ("WindowHill$Hill", "places", "I", false)
  | 4 => ("WindowHill$Hill", "house", "I", false)
  | 5 => ("WindowHill$Hill", "free", "I", false)
  | 6 => ("WindowHill$Hill", "always", "I", false)
  | 7 => ("WindowHill$Hill", "firstColumn", "I", false)
  | 8 => ("WindowHill$Hill", "lastColumn", "I", false)
  | _ => ("WindowHill$Hill", "withLit", "[I", true)
def tyX1 : Nat → FieldType := fun k => match k with
  | 0 => .int
  | 1 => .int
  | 2 => .boolean
  | 3 => .int
  | 4 => .int
  | 5 => .int
  | 6 => .int
  | 7 => .int
  | 8 => .int
  | _ => .array .int
abbrev wsX10 : List Cond := u_ws RX1 TX1 10
theorem nmX1 : ∀ a, a < 10 → ∀ b, b < 10 → a ≠ b → (TX1 a).2.1 ≠ (TX1 b).2.1 := by decide +kernel
theorem tyX1_ok : ∀ k, k < 10 → parseFieldDescriptor (TX1 k).2.2.1 = some (tyX1 k) := by decide +kernel
abbrev cX1_init : ByteArray := prog_3_method_1_code
def yX1_init : MethodName := ⟨RX1, "<init>", "()V"⟩
abbrev cX1_start : ByteArray := prog_3_method_2_code
def yX1_start : MethodName := ⟨RX1, "start", "(IZ)V"⟩
abbrev cX1_addRow : ByteArray := prog_3_method_3_code
def yX1_addRow : MethodName := ⟨RX1, "addRow", "()V"⟩
abbrev cX1_copyFrom : ByteArray := prog_3_method_4_code
def yX1_copyFrom : MethodName := ⟨RX1, "copyFrom", "(LWindowHill$Hill;)V"⟩
abbrev cX1_placeOf : ByteArray := prog_3_method_5_code
def yX1_placeOf : MethodName := ⟨RX1, "placeOf", "(II)I"⟩
abbrev cX1_rowMask : ByteArray := prog_3_method_6_code
def yX1_rowMask : MethodName := ⟨RX1, "rowMask", "()I"⟩
abbrev cX1_rowOf : ByteArray := prog_3_method_7_code
def yX1_rowOf : MethodName := ⟨RX1, "rowOf", "(II)I"⟩
abbrev cX1_columnOf : ByteArray := prog_3_method_8_code
def yX1_columnOf : MethodName := ⟨RX1, "columnOf", "(II)I"⟩
abbrev cX1_around : ByteArray := prog_3_method_9_code
def yX1_around : MethodName := ⟨RX1, "around", "(I)I"⟩
abbrev cX1_countLit : ByteArray := prog_3_method_10_code
def yX1_countLit : MethodName := ⟨RX1, "countLit", "(I)V"⟩
abbrev cX1_step : ByteArray := prog_3_method_11_code
def yX1_step : MethodName := ⟨RX1, "step", "(III)I"⟩
abbrev cX1_countAround : ByteArray := prog_3_method_12_code
def yX1_countAround : MethodName := ⟨RX1, "countAround", "(II)I"⟩
abbrev cX1_countUnlike : ByteArray := prog_3_method_13_code
def yX1_countUnlike : MethodName := ⟨RX1, "countUnlike", "(II)I"⟩
abbrev cX1_heapOf : ByteArray := prog_3_method_14_code
def yX1_heapOf : MethodName := ⟨RX1, "heapOf", "(II)I"⟩
abbrev cX1_isMirror : ByteArray := prog_3_method_15_code
def yX1_isMirror : MethodName := ⟨RX1, "isMirror", "(I)Z"⟩
def RX2 : String := "WindowHill$Living"
def TX2 : u_T := fun k => match k with
  | 0 => ("WindowHill$Living", "roundsLeft", "[I", true)
  | 1 => ("WindowHill$Living", "drawn", "I", false)
  | 2 => ("WindowHill$Living", "steps", "I", false)
  | 3 => ("WindowHill$Living", "missed", "I", false)
  | 4 => ("WindowHill$Living", "nights", "I", false)
  | 5 => ("WindowHill$Living", "putOut", "I", false)
  | 6 => ("WindowHill$Living", "births", "I", false)
  | _ => ("WindowHill$Living", "left", "Z", false)
def tyX2 : Nat → FieldType := fun k => match k with
  | 0 => .array .int
  | 1 => .int
  | 2 => .int
  | 3 => .int
  | 4 => .int
  | 5 => .int
  | 6 => .int
  | _ => .boolean
abbrev wsX20 : List Cond := u_ws RX2 TX2 8
theorem nmX2 : ∀ a, a < 8 → ∀ b, b < 8 → a ≠ b → (TX2 a).2.1 ≠ (TX2 b).2.1 := by decide +kernel
theorem tyX2_ok : ∀ k, k < 8 → parseFieldDescriptor (TX2 k).2.2.1 = some (tyX2 k) := by decide +kernel
abbrev cX2_init : ByteArray := prog_4_method_1_code
def yX2_init : MethodName := ⟨RX2, "<init>", "()V"⟩
abbrev cX2_liveBy : ByteArray := prog_4_method_2_code
def yX2_liveBy : MethodName := ⟨RX2, "liveBy", "(LWindowHill$Town;I)V"⟩
abbrev cX2_leaveBlock : ByteArray := prog_4_method_3_code
def yX2_leaveBlock : MethodName := ⟨RX2, "leaveBlock", "(LWindowHill$Year;I)I"⟩
abbrev cX2_doStep : ByteArray := prog_4_method_4_code
def yX2_doStep : MethodName := ⟨RX2, "doStep", "(LWindowHill$Town;I)I"⟩
abbrev cX2_isTrue : ByteArray := prog_4_method_5_code
def yX2_isTrue : MethodName := ⟨RX2, "isTrue", "(LWindowHill$Town;I)Z"⟩
abbrev cX2_draw : ByteArray := prog_4_method_6_code
def yX2_draw : MethodName := ⟨RX2, "draw", "(I)I"⟩
abbrev cX2_turnLamp : ByteArray := prog_4_method_7_code
def yX2_turnLamp : MethodName := ⟨RX2, "turnLamp", "(LWindowHill$Town;II)V"⟩
abbrev cX2_blow : ByteArray := prog_4_method_8_code
def yX2_blow : MethodName := ⟨RX2, "blow", "(LWindowHill$Town;I)V"⟩
abbrev cX2_bear : ByteArray := prog_4_method_9_code
def yX2_bear : MethodName := ⟨RX2, "bear", "(LWindowHill$Town;)V"⟩
def RX3 : String := "WindowHill$Paths"
def TX3 : u_T := fun k => match k with
  | 0 => ("WindowHill$Paths", "lead", "I", false)
  | 1 => ("WindowHill$Paths", "round", "I", false)
  | 2 => ("WindowHill$Paths", "walkNight", "I", false)
  | 3 => ("WindowHill$Paths", "walkRight", "I", false)
  | 4 => ("WindowHill$Paths", "walkDown", "I", false)
  | 5 => ("WindowHill$Paths", "shape", "I", false)
  | 6 => ("WindowHill$Paths", "shapeX", "I", false)
  | _ => ("WindowHill$Paths", "shapeY", "I", false)
def tyX3 : Nat → FieldType := fun k => match k with
  | 0 => .int
  | 1 => .int
  | 2 => .int
  | 3 => .int
  | 4 => .int
  | 5 => .int
  | 6 => .int
  | _ => .int
abbrev wsX30 : List Cond := u_ws RX3 TX3 8
theorem nmX3 : ∀ a, a < 8 → ∀ b, b < 8 → a ≠ b → (TX3 a).2.1 ≠ (TX3 b).2.1 := by decide +kernel
theorem tyX3_ok : ∀ k, k < 8 → parseFieldDescriptor (TX3 k).2.2.1 = some (tyX3 k) := by decide +kernel
abbrev cX3_init : ByteArray := prog_5_method_1_code
def yX3_init : MethodName := ⟨RX3, "<init>", "()V"⟩
abbrev cX3_findRound : ByteArray := prog_5_method_2_code
def yX3_findRound : MethodName := ⟨RX3, "findRound", "(LWindowHill$Town;)Z"⟩
abbrev cX3_findRoundLength : ByteArray := prog_5_method_3_code
def yX3_findRoundLength : MethodName := ⟨RX3, "findRoundLength", "(LWindowHill$Town;)Z"⟩
abbrev cX3_farAhead : ByteArray := prog_5_method_4_code
def yX3_farAhead : MethodName := ⟨RX3, "farAhead", "(LWindowHill$Town;I)I"⟩
abbrev cX3_findWalk : ByteArray := prog_5_method_5_code
def yX3_findWalk : MethodName := ⟨RX3, "findWalk", "(LWindowHill$Town;)Z"⟩
abbrev cX3_moveToCorner : ByteArray := prog_5_method_6_code
def yX3_moveToCorner : MethodName := ⟨RX3, "moveToCorner", "(LWindowHill$Hill;I)V"⟩
def RX4 : String := "WindowHill$Tokens"
def TX4 : u_T := fun k => match k with
  | 0 => ("WindowHill$Tokens", "tape", "[B", true)
  | 1 => ("WindowHill$Tokens", "keptCodes", "[J", true)
  | 2 => ("WindowHill$Tokens", "kinds", "[B", true)
  | 3 => ("WindowHill$Tokens", "starts", "[S", true)
  | 4 => ("WindowHill$Tokens", "lengths", "[S", true)
  | 5 => ("WindowHill$Tokens", "values", "[S", true)
  | 6 => ("WindowHill$Tokens", "codes", "[J", true)
  | 7 => ("WindowHill$Tokens", "fed", "I", false)
  | 8 => ("WindowHill$Tokens", "length", "I", false)
  | 9 => ("WindowHill$Tokens", "count", "I", false)
  | 10 => ("WindowHill$Tokens", "at", "I", false)
  | 11 => ("WindowHill$Tokens", "taken", "I", false)
  | 12 => ("WindowHill$Tokens", "fault", "I", false)
  | _ => ("WindowHill$Tokens", "faultPlace", "I", false)
def tyX4 : Nat → FieldType := fun k => match k with
  | 0 => .array .byte
  | 1 => .array .long
  | 2 => .array .byte
  | 3 => .array .short
  | 4 => .array .short
  | 5 => .array .short
  | 6 => .array .long
  | 7 => .int
  | 8 => .int
  | 9 => .int
  | 10 => .int
  | 11 => .int
  | 12 => .int
  | _ => .int
abbrev wsX40 : List Cond := u_ws RX4 TX4 14
theorem nmX4 : ∀ a, a < 14 → ∀ b, b < 14 → a ≠ b → (TX4 a).2.1 ≠ (TX4 b).2.1 := by decide +kernel
theorem tyX4_ok : ∀ k, k < 14 → parseFieldDescriptor (TX4 k).2.2.1 = some (tyX4 k) := by decide +kernel
abbrev cX4_init : ByteArray := prog_6_method_1_code
def yX4_init : MethodName := ⟨RX4, "<init>", "()V"⟩
abbrev cX4_hasRoomFor : ByteArray := prog_6_method_2_code
def yX4_hasRoomFor : MethodName := ⟨RX4, "hasRoomFor", "(I)Z"⟩
abbrev cX4_append : ByteArray := prog_6_method_3_code
def yX4_append : MethodName := ⟨RX4, "append", "(I)V"⟩
abbrev cX4_begin : ByteArray := prog_6_method_4_code
def yX4_begin : MethodName := ⟨RX4, "begin", "(I)V"⟩
abbrev cX4_skipBlanks : ByteArray := prog_6_method_5_code
def yX4_skipBlanks : MethodName := ⟨RX4, "skipBlanks", "(I)I"⟩
abbrev cX4_note : ByteArray := prog_6_method_6_code
def yX4_note : MethodName := ⟨RX4, "note", "(IIII)V"⟩
abbrev cX4_addToken : ByteArray := prog_6_method_7_code
def yX4_addToken : MethodName := ⟨RX4, "addToken", "(I)I"⟩
abbrev cX4_addWord : ByteArray := prog_6_method_8_code
def yX4_addWord : MethodName := ⟨RX4, "addWord", "(I)I"⟩
abbrev cX4_addNumber : ByteArray := prog_6_method_9_code
def yX4_addNumber : MethodName := ⟨RX4, "addNumber", "(I)I"⟩
abbrev cX4_isEnd : ByteArray := prog_6_method_10_code
def yX4_isEnd : MethodName := ⟨RX4, "isEnd", "()Z"⟩
abbrev cX4_isNumber : ByteArray := prog_6_method_11_code
def yX4_isNumber : MethodName := ⟨RX4, "isNumber", "()Z"⟩
abbrev cX4_isWord : ByteArray := prog_6_method_12_code
def yX4_isWord : MethodName := ⟨RX4, "isWord", "(I)Z"⟩
abbrev cX4_isSign : ByteArray := prog_6_method_13_code
def yX4_isSign : MethodName := ⟨RX4, "isSign", "(I)Z"⟩
abbrev cX4_isName : ByteArray := prog_6_method_14_code
def yX4_isName : MethodName := ⟨RX4, "isName", "()Z"⟩
abbrev cX4_wordNumber : ByteArray := prog_6_method_15_code
def yX4_wordNumber : MethodName := ⟨RX4, "wordNumber", "()I"⟩
abbrev cX4_isWordOf : ByteArray := prog_6_method_16_code
def yX4_isWordOf : MethodName := ⟨RX4, "isWordOf", "(I)Z"⟩
abbrev cX4_letterAt : ByteArray := prog_6_method_17_code
def yX4_letterAt : MethodName := ⟨RX4, "letterAt", "(I)I"⟩
abbrev cX4_value : ByteArray := prog_6_method_18_code
def yX4_value : MethodName := ⟨RX4, "value", "()I"⟩
abbrev cX4_name : ByteArray := prog_6_method_19_code
def yX4_name : MethodName := ⟨RX4, "name", "()J"⟩
abbrev cX4_advance : ByteArray := prog_6_method_20_code
def yX4_advance : MethodName := ⟨RX4, "advance", "()V"⟩
abbrev cX4_fail : ByteArray := prog_6_method_21_code
def yX4_fail : MethodName := ⟨RX4, "fail", "(I)Z"⟩
abbrev cX4_takeWord : ByteArray := prog_6_method_22_code
def yX4_takeWord : MethodName := ⟨RX4, "takeWord", "(I)Z"⟩
abbrev cX4_takeSign : ByteArray := prog_6_method_23_code
def yX4_takeSign : MethodName := ⟨RX4, "takeSign", "(I)Z"⟩
abbrev cX4_takeNumber : ByteArray := prog_6_method_24_code
def yX4_takeNumber : MethodName := ⟨RX4, "takeNumber", "(II)Z"⟩
def RX5 : String := "WindowHill$Town"
def TX5 : u_T := fun k => match k with
  | 0 => ("WindowHill$Town", "hill", "LWindowHill$Hill;", true)
  | 1 => ("WindowHill$Town", "year", "LWindowHill$Year;", true)
  | 2 => ("WindowHill$Town", "ruleNames", "[J", true)
  | 3 => ("WindowHill$Town", "bornBy", "[I", true)
  | 4 => ("WindowHill$Town", "staysBy", "[I", true)
  | 5 => ("WindowHill$Town", "citizenNames", "[J", true)
  | 6 => ("WindowHill$Town", "least", "[I", true)
  | 7 => ("WindowHill$Town", "most", "[I", true)
  | 8 => ("WindowHill$Town", "seen", "[I", true)
  | 9 => ("WindowHill$Town", "litBy", "[I", true)
  | 10 => ("WindowHill$Town", "rules", "I", false)
  | 11 => ("WindowHill$Town", "citizens", "I", false)
  | 12 => ("WindowHill$Town", "mayor", "I", false)
  | 13 => ("WindowHill$Town", "picture", "I", false)
  | 14 => ("WindowHill$Town", "nights", "I", false)
  | _ => ("WindowHill$Town", "oil", "I", false)
def tyX5 : Nat → FieldType := fun k => match k with
  | 0 => .object "WindowHill$Hill"
  | 1 => .object "WindowHill$Year"
  | 2 => .array .long
  | 3 => .array .int
  | 4 => .array .int
  | 5 => .array .long
  | 6 => .array .int
  | 7 => .array .int
  | 8 => .array .int
  | 9 => .array .int
  | 10 => .int
  | 11 => .int
  | 12 => .int
  | 13 => .int
  | 14 => .int
  | _ => .int
abbrev wsX50 : List Cond := u_ws RX5 TX5 16
theorem nmX5 : ∀ a, a < 16 → ∀ b, b < 16 → a ≠ b → (TX5 a).2.1 ≠ (TX5 b).2.1 := by decide +kernel
theorem tyX5_ok : ∀ k, k < 16 → parseFieldDescriptor (TX5 k).2.2.1 = some (tyX5 k) := by decide +kernel
abbrev cX5_init : ByteArray := prog_7_method_1_code
def yX5_init : MethodName := ⟨RX5, "<init>", "()V"⟩
abbrev cX5_makeOneDarkHouse : ByteArray := prog_7_method_2_code
def yX5_makeOneDarkHouse : MethodName := ⟨RX5, "makeOneDarkHouse", "()V"⟩
abbrev cX5_makeEmpty : ByteArray := prog_7_method_3_code
def yX5_makeEmpty : MethodName := ⟨RX5, "makeEmpty", "(IZ)V"⟩
abbrev cX5_addHouse : ByteArray := prog_7_method_4_code
def yX5_addHouse : MethodName := ⟨RX5, "addHouse", "(II)V"⟩
abbrev cX5_copyFrom : ByteArray := prog_7_method_5_code
def yX5_copyFrom : MethodName := ⟨RX5, "copyFrom", "(LWindowHill$Town;)V"⟩
abbrev cX5_hasRule : ByteArray := prog_7_method_6_code
def yX5_hasRule : MethodName := ⟨RX5, "hasRule", "(I)Z"⟩
abbrev cX5_hasCitizen : ByteArray := prog_7_method_7_code
def yX5_hasCitizen : MethodName := ⟨RX5, "hasCitizen", "(I)Z"⟩
abbrev cX5_ruleNamed : ByteArray := prog_7_method_8_code
def yX5_ruleNamed : MethodName := ⟨RX5, "ruleNamed", "(J)I"⟩
abbrev cX5_isNameTaken : ByteArray := prog_7_method_9_code
def yX5_isNameTaken : MethodName := ⟨RX5, "isNameTaken", "(J)Z"⟩
abbrev cX5_bornNow : ByteArray := prog_7_method_10_code
def yX5_bornNow : MethodName := ⟨RX5, "bornNow", "()I"⟩
abbrev cX5_staysNow : ByteArray := prog_7_method_11_code
def yX5_staysNow : MethodName := ⟨RX5, "staysNow", "()I"⟩
abbrev cX5_nextOf : ByteArray := prog_7_method_12_code
def yX5_nextOf : MethodName := ⟨RX5, "nextOf", "(I)I"⟩
abbrev cX5_repaint : ByteArray := prog_7_method_13_code
def yX5_repaint : MethodName := ⟨RX5, "repaint", "(I)I"⟩
abbrev cX5_after : ByteArray := prog_7_method_14_code
def yX5_after : MethodName := ⟨RX5, "after", "(II)I"⟩
abbrev cX5_isStill : ByteArray := prog_7_method_15_code
def yX5_isStill : MethodName := ⟨RX5, "isStill", "()Z"⟩
abbrev cX5_passNights : ByteArray := prog_7_method_16_code
def yX5_passNights : MethodName := ⟨RX5, "passNights", "(I)V"⟩
abbrev cX5_passNight : ByteArray := prog_7_method_17_code
def yX5_passNight : MethodName := ⟨RX5, "passNight", "()V"⟩
abbrev cX5_countRulesLeft : ByteArray := prog_7_method_18_code
def yX5_countRulesLeft : MethodName := ⟨RX5, "countRulesLeft", "()I"⟩
abbrev cX5_ruleFits : ByteArray := prog_7_method_19_code
def yX5_ruleFits : MethodName := ⟨RX5, "ruleFits", "(I)Z"⟩
abbrev cX5_forgetSeen : ByteArray := prog_7_method_20_code
def yX5_forgetSeen : MethodName := ⟨RX5, "forgetSeen", "()I"⟩
abbrev cX5_countNewToSee : ByteArray := prog_7_method_21_code
def yX5_countNewToSee : MethodName := ⟨RX5, "countNewToSee", "()I"⟩
abbrev cX5_lookAtRules : ByteArray := prog_7_method_22_code
def yX5_lookAtRules : MethodName := ⟨RX5, "lookAtRules", "()V"⟩
abbrev cX5_choiceOf : ByteArray := prog_7_method_23_code
def yX5_choiceOf : MethodName := ⟨RX5, "choiceOf", "(I)I"⟩
abbrev cX5_countVotes : ByteArray := prog_7_method_24_code
def yX5_countVotes : MethodName := ⟨RX5, "countVotes", "(I)I"⟩
abbrev cX5_holdElection : ByteArray := prog_7_method_25_code
def yX5_holdElection : MethodName := ⟨RX5, "holdElection", "()Z"⟩
def RX6 : String := "WindowHill$TownReader"
def TX6 : u_T := fun k => match k with
  | _ => ("", "", "", false)
def tyX6 : Nat → FieldType := fun k => match k with
  | _ => .int
abbrev wsX60 : List Cond := u_ws RX6 TX6 0
theorem nmX6 : ∀ a, a < 0 → ∀ b, b < 0 → a ≠ b → (TX6 a).2.1 ≠ (TX6 b).2.1 := by decide +kernel
theorem tyX6_ok : ∀ k, k < 0 → parseFieldDescriptor (TX6 k).2.2.1 = some (tyX6 k) := by decide +kernel
abbrev cX6_takeTown : ByteArray := prog_8_method_2_code
def yX6_takeTown : MethodName := ⟨RX6, "takeTown", "(LWindowHill$Tokens;LWindowHill$Town;)Z"⟩
abbrev cX6_takeWide : ByteArray := prog_8_method_3_code
def yX6_takeWide : MethodName := ⟨RX6, "takeWide", "(LWindowHill$Tokens;LWindowHill$Town;)Z"⟩
abbrev cX6_takeRows : ByteArray := prog_8_method_4_code
def yX6_takeRows : MethodName := ⟨RX6, "takeRows", "(LWindowHill$Tokens;LWindowHill$Town;)Z"⟩
abbrev cX6_takeLetters : ByteArray := prog_8_method_5_code
def yX6_takeLetters : MethodName := ⟨RX6, "takeLetters", "(LWindowHill$Tokens;LWindowHill$Town;)Z"⟩
abbrev cX6_takeParts : ByteArray := prog_8_method_6_code
def yX6_takeParts : MethodName := ⟨RX6, "takeParts", "(LWindowHill$Tokens;LWindowHill$Town;)Z"⟩
abbrev cX6_takeNewName : ByteArray := prog_8_method_7_code
def yX6_takeNewName : MethodName := ⟨RX6, "takeNewName", "(LWindowHill$Tokens;LWindowHill$Town;)Z"⟩
abbrev cX6_takeRule : ByteArray := prog_8_method_8_code
def yX6_takeRule : MethodName := ⟨RX6, "takeRule", "(LWindowHill$Tokens;LWindowHill$Town;)Z"⟩
abbrev cX6_takeSet : ByteArray := prog_8_method_9_code
def yX6_takeSet : MethodName := ⟨RX6, "takeSet", "(LWindowHill$Tokens;I)I"⟩
abbrev cX6_takeCitizen : ByteArray := prog_8_method_10_code
def yX6_takeCitizen : MethodName := ⟨RX6, "takeCitizen", "(LWindowHill$Tokens;LWindowHill$Town;)Z"⟩
def RX7 : String := "WindowHill$Trays"
def TX7 : u_T := fun k => match k with
  | 0 => ("WindowHill$Trays", "numbers", "[J", true)
  | 1 => ("WindowHill$Trays", "sorts", "[I", true)
  | _ => ("WindowHill$Trays", "sizes", "[I", true)
def tyX7 : Nat → FieldType := fun k => match k with
  | 0 => .array .long
  | 1 => .array .int
  | _ => .array .int
abbrev wsX70 : List Cond := u_ws RX7 TX7 3
theorem nmX7 : ∀ a, a < 3 → ∀ b, b < 3 → a ≠ b → (TX7 a).2.1 ≠ (TX7 b).2.1 := by decide +kernel
theorem tyX7_ok : ∀ k, k < 3 → parseFieldDescriptor (TX7 k).2.2.1 = some (tyX7 k) := by decide +kernel
abbrev cX7_init : ByteArray := prog_9_method_1_code
def yX7_init : MethodName := ⟨RX7, "<init>", "()V"⟩
abbrev cX7_isTray : ByteArray := prog_9_method_2_code
def yX7_isTray : MethodName := ⟨RX7, "isTray", "(I)Z"⟩
abbrev cX7_isMissing : ByteArray := prog_9_method_3_code
def yX7_isMissing : MethodName := ⟨RX7, "isMissing", "(I)Z"⟩
abbrev cX7_areOfOneSort : ByteArray := prog_9_method_4_code
def yX7_areOfOneSort : MethodName := ⟨RX7, "areOfOneSort", "(II)Z"⟩
abbrev cX7_hasRoom : ByteArray := prog_9_method_5_code
def yX7_hasRoom : MethodName := ⟨RX7, "hasRoom", "(III)Z"⟩
abbrev cX7_make : ByteArray := prog_9_method_6_code
def yX7_make : MethodName := ⟨RX7, "make", "(III)V"⟩
abbrev cX7_numberAt : ByteArray := prog_9_method_7_code
def yX7_numberAt : MethodName := ⟨RX7, "numberAt", "(II)J"⟩
abbrev cX7_put : ByteArray := prog_9_method_8_code
def yX7_put : MethodName := ⟨RX7, "put", "(IIJ)V"⟩
abbrev cX7_cut : ByteArray := prog_9_method_9_code
def yX7_cut : MethodName := ⟨RX7, "cut", "(IJ)J"⟩
abbrev cX7_copy : ByteArray := prog_9_method_10_code
def yX7_copy : MethodName := ⟨RX7, "copy", "(IIIII)V"⟩
def RX8 : String := "WindowHill$Turning"
def TX8 : u_T := fun k => match k with
  | 0 => ("WindowHill$Turning", "lamps", "[I", true)
  | 1 => ("WindowHill$Turning", "lampCount", "I", false)
  | 2 => ("WindowHill$Turning", "turned", "I", false)
  | 3 => ("WindowHill$Turning", "worstPlace", "I", false)
  | 4 => ("WindowHill$Turning", "worstSpoilt", "I", false)
  | _ => ("WindowHill$Turning", "unlikeThen", "I", false)
def tyX8 : Nat → FieldType := fun k => match k with
  | 0 => .array .int
  | 1 => .int
  | 2 => .int
  | 3 => .int
  | 4 => .int
  | _ => .int
abbrev wsX80 : List Cond := u_ws RX8 TX8 6
theorem nmX8 : ∀ a, a < 6 → ∀ b, b < 6 → a ≠ b → (TX8 a).2.1 ≠ (TX8 b).2.1 := by decide +kernel
theorem tyX8_ok : ∀ k, k < 6 → parseFieldDescriptor (TX8 k).2.2.1 = some (tyX8 k) := by decide +kernel
abbrev cX8_init : ByteArray := prog_10_method_1_code
def yX8_init : MethodName := ⟨RX8, "<init>", "()V"⟩
abbrev cX8_listLamps : ByteArray := prog_10_method_2_code
def yX8_listLamps : MethodName := ⟨RX8, "listLamps", "(I)V"⟩
abbrev cX8_findSignal : ByteArray := prog_10_method_3_code
def yX8_findSignal : MethodName := ⟨RX8, "findSignal", "(LWindowHill$Town;II)Z"⟩
abbrev cX8_near : ByteArray := prog_10_method_4_code
def yX8_near : MethodName := ⟨RX8, "near", "(LWindowHill$Hill;II)I"⟩
abbrev cX8_trySet : ByteArray := prog_10_method_5_code
def yX8_trySet : MethodName := ⟨RX8, "trySet", "(LWindowHill$Town;III)Z"⟩
abbrev cX8_tryOnes : ByteArray := prog_10_method_6_code
def yX8_tryOnes : MethodName := ⟨RX8, "tryOnes", "(LWindowHill$Town;II)Z"⟩
abbrev cX8_tryTwos : ByteArray := prog_10_method_7_code
def yX8_tryTwos : MethodName := ⟨RX8, "tryTwos", "(LWindowHill$Town;II)Z"⟩
abbrev cX8_tryThrees : ByteArray := prog_10_method_8_code
def yX8_tryThrees : MethodName := ⟨RX8, "tryThrees", "(LWindowHill$Town;II)Z"⟩
abbrev cX8_countSpoilt : ByteArray := prog_10_method_9_code
def yX8_countSpoilt : MethodName := ⟨RX8, "countSpoilt", "(LWindowHill$Town;II)I"⟩
abbrev cX8_findWorst : ByteArray := prog_10_method_10_code
def yX8_findWorst : MethodName := ⟨RX8, "findWorst", "(LWindowHill$Town;I)V"⟩
abbrev cX8_findMend : ByteArray := prog_10_method_11_code
def yX8_findMend : MethodName := ⟨RX8, "findMend", "(LWindowHill$Town;I)V"⟩
abbrev cX8_tryMend : ByteArray := prog_10_method_12_code
def yX8_tryMend : MethodName := ⟨RX8, "tryMend", "(LWindowHill$Town;II)V"⟩
def RX9 : String := "WindowHill$Year"
def TX9 : u_T := fun k => match k with
  | 0 => ("WindowHill$Year", "words", "[I", true)
  | 1 => ("WindowHill$Year", "tests", "[I", true)
  | 2 => ("WindowHill$Year", "firsts", "[I", true)
  | 3 => ("WindowHill$Year", "seconds", "[I", true)
  | 4 => ("WindowHill$Year", "partners", "[I", true)
  | 5 => ("WindowHill$Year", "there", "Z", false)
  | 6 => ("WindowHill$Year", "entries", "I", false)
  | _ => ("WindowHill$Year", "steps", "I", false)
def tyX9 : Nat → FieldType := fun k => match k with
  | 0 => .array .int
  | 1 => .array .int
  | 2 => .array .int
  | 3 => .array .int
  | 4 => .array .int
  | 5 => .boolean
  | 6 => .int
  | _ => .int
abbrev wsX90 : List Cond := u_ws RX9 TX9 8
theorem nmX9 : ∀ a, a < 8 → ∀ b, b < 8 → a ≠ b → (TX9 a).2.1 ≠ (TX9 b).2.1 := by decide +kernel
theorem tyX9_ok : ∀ k, k < 8 → parseFieldDescriptor (TX9 k).2.2.1 = some (tyX9 k) := by decide +kernel
abbrev cX9_init : ByteArray := prog_11_method_1_code
def yX9_init : MethodName := ⟨RX9, "<init>", "()V"⟩
abbrev cX9_makeNone : ByteArray := prog_11_method_2_code
def yX9_makeNone : MethodName := ⟨RX9, "makeNone", "()V"⟩
abbrev cX9_makeEmpty : ByteArray := prog_11_method_3_code
def yX9_makeEmpty : MethodName := ⟨RX9, "makeEmpty", "()V"⟩
abbrev cX9_copyFrom : ByteArray := prog_11_method_4_code
def yX9_copyFrom : MethodName := ⟨RX9, "copyFrom", "(LWindowHill$Year;)V"⟩
abbrev cX9_add : ByteArray := prog_11_method_5_code
def yX9_add : MethodName := ⟨RX9, "add", "(I)V"⟩
abbrev cX9_openEntry : ByteArray := prog_11_method_6_code
def yX9_openEntry : MethodName := ⟨RX9, "openEntry", "()I"⟩
abbrev cX9_countOpen : ByteArray := prog_11_method_7_code
def yX9_countOpen : MethodName := ⟨RX9, "countOpen", "()I"⟩
abbrev cX9_isBlock : ByteArray := prog_11_method_8_code
def yX9_isBlock : MethodName := ⟨RX9, "isBlock", "(I)Z"⟩
def RX10 : String := "WindowHill$YearReader"
def TX10 : u_T := fun k => match k with
  | _ => ("", "", "", false)
def tyX10 : Nat → FieldType := fun k => match k with
  | _ => .int
abbrev wsX100 : List Cond := u_ws RX10 TX10 0
theorem nmX10 : ∀ a, a < 0 → ∀ b, b < 0 → a ≠ b → (TX10 a).2.1 ≠ (TX10 b).2.1 := by decide +kernel
theorem tyX10_ok : ∀ k, k < 0 → parseFieldDescriptor (TX10 k).2.2.1 = some (tyX10 k) := by decide +kernel
abbrev cX10_takeYear : ByteArray := prog_12_method_2_code
def yX10_takeYear : MethodName := ⟨RX10, "takeYear", "(LWindowHill$Tokens;LWindowHill$Town;LWindowHill$Year;)Z"⟩
abbrev cX10_takeEnd : ByteArray := prog_12_method_3_code
def yX10_takeEnd : MethodName := ⟨RX10, "takeEnd", "(LWindowHill$Tokens;LWindowHill$Year;)Z"⟩
abbrev cX10_takeStepWord : ByteArray := prog_12_method_4_code
def yX10_takeStepWord : MethodName := ⟨RX10, "takeStepWord", "(LWindowHill$Tokens;LWindowHill$Year;)Z"⟩
abbrev cX10_isStep : ByteArray := prog_12_method_5_code
def yX10_isStep : MethodName := ⟨RX10, "isStep", "(I)Z"⟩
abbrev cX10_takeRest : ByteArray := prog_12_method_6_code
def yX10_takeRest : MethodName := ⟨RX10, "takeRest", "(LWindowHill$Tokens;LWindowHill$Town;LWindowHill$Year;I)Z"⟩
abbrev cX10_takeFirst : ByteArray := prog_12_method_7_code
def yX10_takeFirst : MethodName := ⟨RX10, "takeFirst", "(LWindowHill$Tokens;LWindowHill$Year;III)Z"⟩
abbrev cX10_takePlace : ByteArray := prog_12_method_8_code
def yX10_takePlace : MethodName := ⟨RX10, "takePlace", "(LWindowHill$Tokens;LWindowHill$Town;LWindowHill$Year;I)Z"⟩
abbrev cX10_takeRuleName : ByteArray := prog_12_method_9_code
def yX10_takeRuleName : MethodName := ⟨RX10, "takeRuleName", "(LWindowHill$Tokens;LWindowHill$Town;LWindowHill$Year;I)Z"⟩
abbrev cX10_takeTest : ByteArray := prog_12_method_10_code
def yX10_takeTest : MethodName := ⟨RX10, "takeTest", "(LWindowHill$Tokens;LWindowHill$Town;LWindowHill$Year;I)Z"⟩
def RX11 : String := "WindowHill"
def TX11 : u_T := fun k => match k with
  | 0 => ("WindowHill", "trays", "LWindowHill$Trays;", true)
  | 1 => ("WindowHill", "tokens", "LWindowHill$Tokens;", true)
  | 2 => ("WindowHill", "marks", "[LWindowHill$Town;", true)
  | 3 => ("WindowHill", "ancestry", "LWindowHill$Ancestry;", true)
  | 4 => ("WindowHill", "paths", "LWindowHill$Paths;", true)
  | 5 => ("WindowHill", "turning", "LWindowHill$Turning;", true)
  | 6 => ("WindowHill", "living", "LWindowHill$Living;", true)
  | 7 => ("WindowHill", "trial", "LWindowHill$Living;", true)
  | 8 => ("WindowHill", "present", "LWindowHill$Town;", false)
  | 9 => ("WindowHill", "spare", "LWindowHill$Town;", false)
  | 10 => ("WindowHill", "markCount", "I", false)
  | 11 => ("WindowHill", "status", "I", false)
  | 12 => ("WindowHill", "top", "J", false)
  | 13 => ("WindowHill", "bottom", "J", false)
  | _ => ("WindowHill", "hasLived", "Z", false)
def tyX11 : Nat → FieldType := fun k => match k with
  | 0 => .object "WindowHill$Trays"
  | 1 => .object "WindowHill$Tokens"
  | 2 => .array (.object "WindowHill$Town")
  | 3 => .object "WindowHill$Ancestry"
  | 4 => .object "WindowHill$Paths"
  | 5 => .object "WindowHill$Turning"
  | 6 => .object "WindowHill$Living"
  | 7 => .object "WindowHill$Living"
  | 8 => .object "WindowHill$Town"
  | 9 => .object "WindowHill$Town"
  | 10 => .int
  | 11 => .int
  | 12 => .long
  | 13 => .long
  | _ => .boolean
abbrev wsX110 : List Cond := u_ws RX11 TX11 15
theorem nmX11 : ∀ a, a < 15 → ∀ b, b < 15 → a ≠ b → (TX11 a).2.1 ≠ (TX11 b).2.1 := by decide +kernel
theorem tyX11_ok : ∀ k, k < 15 → parseFieldDescriptor (TX11 k).2.2.1 = some (tyX11 k) := by decide +kernel
abbrev cX11_init : ByteArray := prog_1_method_1_code
def yX11_init : MethodName := ⟨RX11, "<init>", "()V"⟩
abbrev cX11_status : ByteArray := prog_1_method_2_code
def yX11_status : MethodName := ⟨RX11, "status", "()I"⟩
abbrev cX11_top : ByteArray := prog_1_method_3_code
def yX11_top : MethodName := ⟨RX11, "top", "()J"⟩
abbrev cX11_bottom : ByteArray := prog_1_method_4_code
def yX11_bottom : MethodName := ⟨RX11, "bottom", "()J"⟩
abbrev cX11_tray : ByteArray := prog_1_method_5_code
def yX11_tray : MethodName := ⟨RX11, "tray", "(III)Z"⟩
abbrev cX11_write : ByteArray := prog_1_method_6_code
def yX11_write : MethodName := ⟨RX11, "write", "(IIJ)Z"⟩
abbrev cX11_read : ByteArray := prog_1_method_7_code
def yX11_read : MethodName := ⟨RX11, "read", "(II)J"⟩
abbrev cX11_pour : ByteArray := prog_1_method_8_code
def yX11_pour : MethodName := ⟨RX11, "pour", "(IIIII)Z"⟩
abbrev cX11_feed : ByteArray := prog_1_method_9_code
def yX11_feed : MethodName := ⟨RX11, "feed", "(IIIII)I"⟩
abbrev cX11_town : ByteArray := prog_1_method_10_code
def yX11_town : MethodName := ⟨RX11, "town", "(I)I"⟩
abbrev cX11_year : ByteArray := prog_1_method_11_code
def yX11_year : MethodName := ⟨RX11, "year", "(I)I"⟩
abbrev cX11_fault : ByteArray := prog_1_method_12_code
def yX11_fault : MethodName := ⟨RX11, "fault", "(I)I"⟩
abbrev cX11_told : ByteArray := prog_1_method_13_code
def yX11_told : MethodName := ⟨RX11, "told", "(I)I"⟩
abbrev cX11_picture : ByteArray := prog_1_method_14_code
def yX11_picture : MethodName := ⟨RX11, "picture", "()J"⟩
abbrev cX11_lamp : ByteArray := prog_1_method_15_code
def yX11_lamp : MethodName := ⟨RX11, "lamp", "(III)I"⟩
abbrev cX11_rule : ByteArray := prog_1_method_16_code
def yX11_rule : MethodName := ⟨RX11, "rule", "(II)I"⟩
abbrev cX11_citizen : ByteArray := prog_1_method_17_code
def yX11_citizen : MethodName := ⟨RX11, "citizen", "(II)I"⟩
abbrev cX11_turn : ByteArray := prog_1_method_18_code
def yX11_turn : MethodName := ⟨RX11, "turn", "(II)I"⟩
abbrev cX11_paint : ByteArray := prog_1_method_19_code
def yX11_paint : MethodName := ⟨RX11, "paint", "(J)I"⟩
abbrev cX11_paintRows : ByteArray := prog_1_method_20_code
def yX11_paintRows : MethodName := ⟨RX11, "paintRows", "(I)I"⟩
abbrev cX11_copyRows : ByteArray := prog_1_method_21_code
def yX11_copyRows : MethodName := ⟨RX11, "copyRows", "(I)I"⟩
abbrev cX11_mayor : ByteArray := prog_1_method_22_code
def yX11_mayor : MethodName := ⟨RX11, "mayor", "(I)Z"⟩
abbrev cX11_bend : ByteArray := prog_1_method_23_code
def yX11_bend : MethodName := ⟨RX11, "bend", "(III)Z"⟩
abbrev cX11_night : ByteArray := prog_1_method_24_code
def yX11_night : MethodName := ⟨RX11, "night", "(I)I"⟩
abbrev cX11_ahead : ByteArray := prog_1_method_25_code
def yX11_ahead : MethodName := ⟨RX11, "ahead", "(I)J"⟩
abbrev cX11_again : ByteArray := prog_1_method_26_code
def yX11_again : MethodName := ⟨RX11, "again", "(I)I"⟩
abbrev cX11_far : ByteArray := prog_1_method_27_code
def yX11_far : MethodName := ⟨RX11, "far", "(I)J"⟩
abbrev cX11_walks : ByteArray := prog_1_method_28_code
def yX11_walks : MethodName := ⟨RX11, "walks", "(I)I"⟩
abbrev cX11_still : ByteArray := prog_1_method_29_code
def yX11_still : MethodName := ⟨RX11, "still", "()I"⟩
abbrev cX11_next : ByteArray := prog_1_method_30_code
def yX11_next : MethodName := ⟨RX11, "next", "(I)I"⟩
abbrev cX11_oil : ByteArray := prog_1_method_31_code
def yX11_oil : MethodName := ⟨RX11, "oil", "(I)I"⟩
abbrev cX11_brightest : ByteArray := prog_1_method_32_code
def yX11_brightest : MethodName := ⟨RX11, "brightest", "(I)I"⟩
abbrev cX11_ancestors : ByteArray := prog_1_method_33_code
def yX11_ancestors : MethodName := ⟨RX11, "ancestors", "()J"⟩
abbrev cX11_ancestor : ByteArray := prog_1_method_34_code
def yX11_ancestor : MethodName := ⟨RX11, "ancestor", "()J"⟩
abbrev cX11_stills : ByteArray := prog_1_method_35_code
def yX11_stills : MethodName := ⟨RX11, "stills", "()J"⟩
abbrev cX11_firstStill : ByteArray := prog_1_method_36_code
def yX11_firstStill : MethodName := ⟨RX11, "firstStill", "()J"⟩
abbrev cX11_pictures : ByteArray := prog_1_method_37_code
def yX11_pictures : MethodName := ⟨RX11, "pictures", "()J"⟩
abbrev cX11_signal : ByteArray := prog_1_method_38_code
def yX11_signal : MethodName := ⟨RX11, "signal", "(IIII)I"⟩
abbrev cX11_spoils : ByteArray := prog_1_method_39_code
def yX11_spoils : MethodName := ⟨RX11, "spoils", "(III)I"⟩
abbrev cX11_worst : ByteArray := prog_1_method_40_code
def yX11_worst : MethodName := ⟨RX11, "worst", "(II)I"⟩
abbrev cX11_mend : ByteArray := prog_1_method_41_code
def yX11_mend : MethodName := ⟨RX11, "mend", "(JI)I"⟩
abbrev cX11_unlike : ByteArray := prog_1_method_42_code
def yX11_unlike : MethodName := ⟨RX11, "unlike", "(J)I"⟩
abbrev cX11_seen : ByteArray := prog_1_method_43_code
def yX11_seen : MethodName := ⟨RX11, "seen", "(II)I"⟩
abbrev cX11_rulesLeft : ByteArray := prog_1_method_44_code
def yX11_rulesLeft : MethodName := ⟨RX11, "rulesLeft", "()I"⟩
abbrev cX11_fits : ByteArray := prog_1_method_45_code
def yX11_fits : MethodName := ⟨RX11, "fits", "()I"⟩
abbrev cX11_forget : ByteArray := prog_1_method_46_code
def yX11_forget : MethodName := ⟨RX11, "forget", "()I"⟩
abbrev cX11_shows : ByteArray := prog_1_method_47_code
def yX11_shows : MethodName := ⟨RX11, "shows", "()I"⟩
abbrev cX11_vote : ByteArray := prog_1_method_48_code
def yX11_vote : MethodName := ⟨RX11, "vote", "(I)I"⟩
abbrev cX11_votes : ByteArray := prog_1_method_49_code
def yX11_votes : MethodName := ⟨RX11, "votes", "(I)I"⟩
abbrev cX11_elect : ByteArray := prog_1_method_50_code
def yX11_elect : MethodName := ⟨RX11, "elect", "()I"⟩
abbrev cX11_reads : ByteArray := prog_1_method_51_code
def yX11_reads : MethodName := ⟨RX11, "reads", "(II)I"⟩
abbrev cX11_mirror : ByteArray := prog_1_method_52_code
def yX11_mirror : MethodName := ⟨RX11, "mirror", "()I"⟩
abbrev cX11_heaps : ByteArray := prog_1_method_53_code
def yX11_heaps : MethodName := ⟨RX11, "heaps", "(I)I"⟩
abbrev cX11_heap : ByteArray := prog_1_method_54_code
def yX11_heap : MethodName := ⟨RX11, "heap", "(II)I"⟩
abbrev cX11_company : ByteArray := prog_1_method_55_code
def yX11_company : MethodName := ⟨RX11, "company", "()Z"⟩
abbrev cX11_live : ByteArray := prog_1_method_56_code
def yX11_live : MethodName := ⟨RX11, "live", "(I)I"⟩
abbrev cX11_lived : ByteArray := prog_1_method_57_code
def yX11_lived : MethodName := ⟨RX11, "lived", "(I)I"⟩
abbrev cX11_mean : ByteArray := prog_1_method_58_code
def yX11_mean : MethodName := ⟨RX11, "mean", "(II)Z"⟩
abbrev cX11_mark : ByteArray := prog_1_method_59_code
def yX11_mark : MethodName := ⟨RX11, "mark", "()I"⟩
abbrev cX11_back : ByteArray := prog_1_method_60_code
def yX11_back : MethodName := ⟨RX11, "back", "()I"⟩
abbrev cX11_answer : ByteArray := prog_1_method_61_code
def yX11_answer : MethodName := ⟨RX11, "answer", "(I)I"⟩
abbrev cX11_refuse : ByteArray := prog_1_method_62_code
def yX11_refuse : MethodName := ⟨RX11, "refuse", "(I)I"⟩
abbrev cX11_allow : ByteArray := prog_1_method_63_code
def yX11_allow : MethodName := ⟨RX11, "allow", "()Z"⟩
abbrev cX11_deny : ByteArray := prog_1_method_64_code
def yX11_deny : MethodName := ⟨RX11, "deny", "(I)Z"⟩
abbrev cX11_whyNotInTray : ByteArray := prog_1_method_65_code
def yX11_whyNotInTray : MethodName := ⟨RX11, "whyNotInTray", "(II)I"⟩
abbrev cX11_whyNotFree : ByteArray := prog_1_method_66_code
def yX11_whyNotFree : MethodName := ⟨RX11, "whyNotFree", "(II)I"⟩
abbrev cX11_isPicture : ByteArray := prog_1_method_67_code
def yX11_isPicture : MethodName := ⟨RX11, "isPicture", "(J)Z"⟩
abbrev cX11_isTurnedNights : ByteArray := prog_1_method_68_code
def yX11_isTurnedNights : MethodName := ⟨RX11, "isTurnedNights", "(I)Z"⟩
abbrev cX11_tellFraction : ByteArray := prog_1_method_69_code
def yX11_tellFraction : MethodName := ⟨RX11, "tellFraction", "(II)V"⟩
abbrev cX11_commonDivisor : ByteArray := prog_1_method_70_code
def yX11_commonDivisor : MethodName := ⟨RX11, "commonDivisor", "(II)I"⟩
def RX12 : String := "WindowHillModel"
def TX12 : u_T := fun k => match k with
  | 0 => ("WindowHillModel", "at", "[I", true)
  | 1 => ("WindowHillModel", "names", "[J", true)
  | 2 => ("WindowHillModel", "status", "I", false)
  | 3 => ("WindowHillModel", "top", "J", false)
  | 4 => ("WindowHillModel", "bottom", "J", false)
  | 5 => ("WindowHillModel", "sort", "[I", true)
  | 6 => ("WindowHillModel", "trayMany", "[I", true)
  | 7 => ("WindowHillModel", "trays", "[J", true)
  | 8 => ("WindowHillModel", "tape", "[B", true)
  | 9 => ("WindowHillModel", "text", "[B", true)
  | 10 => ("WindowHillModel", "taped", "I", false)
  | 11 => ("WindowHillModel", "size", "I", false)
  | 12 => ("WindowHillModel", "token", "I", false)
  | 13 => ("WindowHillModel", "from", "I", false)
  | 14 => ("WindowHillModel", "end", "I", false)
  | 15 => ("WindowHillModel", "value", "I", false)
  | 16 => ("WindowHillModel", "faultKind", "I", false)
  | 17 => ("WindowHillModel", "faultPlace", "I", false)
  | 18 => ("WindowHillModel", "faults", "I", false)
  | 19 => ("WindowHillModel", "seen", "I", false)
  | 20 => ("WindowHillModel", "opened", "[I", true)
  | 21 => ("WindowHillModel", "depth", "I", false)
  | 22 => ("WindowHillModel", "counted", "I", false)
  | 23 => ("WindowHillModel", "beside", "[I", true)
  | 24 => ("WindowHillModel", "then", "[I", true)
  | 25 => ("WindowHillModel", "lead", "I", false)
  | 26 => ("WindowHillModel", "round", "I", false)
  | 27 => ("WindowHillModel", "ways", "[J", true)
  | 28 => ("WindowHillModel", "further", "[J", true)
  | 29 => ("WindowHillModel", "canBe", "[I", true)
  | 30 => ("WindowHillModel", "tried", "I", false)
  | 31 => ("WindowHillModel", "triedMany", "I", false)
  | 32 => ("WindowHillModel", "drawn", "I", false)
  | 33 => ("WindowHillModel", "ranSteps", "I", false)
  | 34 => ("WindowHillModel", "loops", "[I", true)
  | 35 => ("WindowHillModel", "ran", "[I", true)
  | 36 => ("WindowHillModel", "told0", "[I", true)
  | 37 => ("WindowHillModel", "isTold", "Z", false)
  | _ => ("WindowHillModel", "marks", "I", false)
def tyX12 : Nat → FieldType := fun k => match k with
  | 0 => .array .int
  | 1 => .array .long
  | 2 => .int
  | 3 => .long
  | 4 => .long
  | 5 => .array .int
  | 6 => .array .int
  | 7 => .array .long
  | 8 => .array .byte
  | 9 => .array .byte
  | 10 => .int
  | 11 => .int
  | 12 => .int
  | 13 => .int
  | 14 => .int
  | 15 => .int
  | 16 => .int
  | 17 => .int
  | 18 => .int
  | 19 => .int
  | 20 => .array .int
  | 21 => .int
  | 22 => .int
  | 23 => .array .int
  | 24 => .array .int
  | 25 => .int
  | 26 => .int
  | 27 => .array .long
  | 28 => .array .long
  | 29 => .array .int
  | 30 => .int
  | 31 => .int
  | 32 => .int
  | 33 => .int
  | 34 => .array .int
  | 35 => .array .int
  | 36 => .array .int
  | 37 => .boolean
  | _ => .int
abbrev wsX120 : List Cond := u_ws RX12 TX12 39
theorem nmX12 : ∀ a, a < 39 → ∀ b, b < 39 → a ≠ b → (TX12 a).2.1 ≠ (TX12 b).2.1 := by decide +kernel
theorem tyX12_ok : ∀ k, k < 39 → parseFieldDescriptor (TX12 k).2.2.1 = some (tyX12 k) := by decide +kernel
abbrev cX12_init : ByteArray := prog_14_method_1_code
def yX12_init : MethodName := ⟨RX12, "<init>", "()V"⟩
abbrev cX12_plain : ByteArray := prog_14_method_2_code
def yX12_plain : MethodName := ⟨RX12, "plain", "(I)V"⟩
abbrev cX12_status : ByteArray := prog_14_method_3_code
def yX12_status : MethodName := ⟨RX12, "status", "()I"⟩
abbrev cX12_top : ByteArray := prog_14_method_4_code
def yX12_top : MethodName := ⟨RX12, "top", "()J"⟩
abbrev cX12_bottom : ByteArray := prog_14_method_5_code
def yX12_bottom : MethodName := ⟨RX12, "bottom", "()J"⟩
abbrev cX12_is : ByteArray := prog_14_method_6_code
def yX12_is : MethodName := ⟨RX12, "is", "(I)Z"⟩
abbrev cX12_refuse : ByteArray := prog_14_method_7_code
def yX12_refuse : MethodName := ⟨RX12, "refuse", "(I)I"⟩
abbrev cX12_gives : ByteArray := prog_14_method_8_code
def yX12_gives : MethodName := ⟨RX12, "gives", "(I)I"⟩
abbrev cX12_givesLong : ByteArray := prog_14_method_9_code
def yX12_givesLong : MethodName := ⟨RX12, "givesLong", "(J)J"⟩
abbrev cX12_orNone : ByteArray := prog_14_method_10_code
def yX12_orNone : MethodName := ⟨RX12, "orNone", "(I)I"⟩
abbrev cX12_tellsBy : ByteArray := prog_14_method_11_code
def yX12_tellsBy : MethodName := ⟨RX12, "tellsBy", "(JJ)Z"⟩
abbrev cX12_isTray : ByteArray := prog_14_method_12_code
def yX12_isTray : MethodName := ⟨RX12, "isTray", "(I)Z"⟩
abbrev cX12_cut : ByteArray := prog_14_method_13_code
def yX12_cut : MethodName := ⟨RX12, "cut", "(JI)J"⟩
abbrev cX12_tray : ByteArray := prog_14_method_14_code
def yX12_tray : MethodName := ⟨RX12, "tray", "(III)Z"⟩
abbrev cX12_wrongPlace : ByteArray := prog_14_method_15_code
def yX12_wrongPlace : MethodName := ⟨RX12, "wrongPlace", "(II)I"⟩
abbrev cX12_write : ByteArray := prog_14_method_16_code
def yX12_write : MethodName := ⟨RX12, "write", "(IIJ)Z"⟩
abbrev cX12_read : ByteArray := prog_14_method_17_code
def yX12_read : MethodName := ⟨RX12, "read", "(II)J"⟩
abbrev cX12_pour : ByteArray := prog_14_method_18_code
def yX12_pour : MethodName := ⟨RX12, "pour", "(IIIII)Z"⟩
abbrev cX12_isFrom : ByteArray := prog_14_method_19_code
def yX12_isFrom : MethodName := ⟨RX12, "isFrom", "(JJJ)Z"⟩
abbrev cX12_feed : ByteArray := prog_14_method_20_code
def yX12_feed : MethodName := ⟨RX12, "feed", "(IIIII)I"⟩
abbrev cX12_four : ByteArray := prog_14_method_21_code
def yX12_four : MethodName := ⟨RX12, "four", "(I)V"⟩
abbrev cX12_byteAt : ByteArray := prog_14_method_22_code
def yX12_byteAt : MethodName := ⟨RX12, "byteAt", "(I)I"⟩
abbrev cX12_isSmall : ByteArray := prog_14_method_23_code
def yX12_isSmall : MethodName := ⟨RX12, "isSmall", "(I)Z"⟩
abbrev cX12_isDigit : ByteArray := prog_14_method_24_code
def yX12_isDigit : MethodName := ⟨RX12, "isDigit", "(I)Z"⟩
abbrev cX12_onward : ByteArray := prog_14_method_25_code
def yX12_onward : MethodName := ⟨RX12, "onward", "()V"⟩
abbrev cX12_isSign : ByteArray := prog_14_method_26_code
def yX12_isSign : MethodName := ⟨RX12, "isSign", "(I)Z"⟩
abbrev cX12_inWords : ByteArray := prog_14_method_27_code
def yX12_inWords : MethodName := ⟨RX12, "inWords", "(Ljava/lang/String;)I"⟩
abbrev cX12_fails : ByteArray := prog_14_method_28_code
def yX12_fails : MethodName := ⟨RX12, "fails", "(I)Z"⟩
abbrev cX12_begins : ByteArray := prog_14_method_29_code
def yX12_begins : MethodName := ⟨RX12, "begins", "(II)Z"⟩
abbrev cX12_wantSign : ByteArray := prog_14_method_30_code
def yX12_wantSign : MethodName := ⟨RX12, "wantSign", "(I)Z"⟩
abbrev cX12_wantWord : ByteArray := prog_14_method_31_code
def yX12_wantWord : MethodName := ⟨RX12, "wantWord", "(Ljava/lang/String;I)Z"⟩
abbrev cX12_number : ByteArray := prog_14_method_32_code
def yX12_number : MethodName := ⟨RX12, "number", "(III)Z"⟩
abbrev cX12_isName : ByteArray := prog_14_method_33_code
def yX12_isName : MethodName := ⟨RX12, "isName", "(Ljava/lang/String;)Z"⟩
abbrev cX12_nameHere : ByteArray := prog_14_method_34_code
def yX12_nameHere : MethodName := ⟨RX12, "nameHere", "()J"⟩
abbrev cX12_findHere : ByteArray := prog_14_method_35_code
def yX12_findHere : MethodName := ⟨RX12, "findHere", "(II)I"⟩
abbrev cX12_fault : ByteArray := prog_14_method_36_code
def yX12_fault : MethodName := ⟨RX12, "fault", "(I)I"⟩
abbrev cX12_taken : ByteArray := prog_14_method_37_code
def yX12_taken : MethodName := ⟨RX12, "taken", "(I)I"⟩
abbrev cX12_oldRule : ByteArray := prog_14_method_38_code
def yX12_oldRule : MethodName := ⟨RX12, "oldRule", "(I)Z"⟩
abbrev cX12_isThere : ByteArray := prog_14_method_39_code
def yX12_isThere : MethodName := ⟨RX12, "isThere", "(I)Z"⟩
abbrev cX12_newOne : ByteArray := prog_14_method_40_code
def yX12_newOne : MethodName := ⟨RX12, "newOne", "(III)Z"⟩
abbrev cX12_first : ByteArray := prog_14_method_41_code
def yX12_first : MethodName := ⟨RX12, "first", "()Z"⟩
abbrev cX12_isLamp : ByteArray := prog_14_method_42_code
def yX12_isLamp : MethodName := ⟨RX12, "isLamp", "(I)Z"⟩
abbrev cX12_aRow : ByteArray := prog_14_method_43_code
def yX12_aRow : MethodName := ⟨RX12, "aRow", "()Z"⟩
abbrev cX12_neighbours : ByteArray := prog_14_method_44_code
def yX12_neighbours : MethodName := ⟨RX12, "neighbours", "(I)Z"⟩
abbrev cX12_aRule : ByteArray := prog_14_method_45_code
def yX12_aRule : MethodName := ⟨RX12, "aRule", "()Z"⟩
abbrev cX12_aCitizen : ByteArray := prog_14_method_46_code
def yX12_aCitizen : MethodName := ⟨RX12, "aCitizen", "()Z"⟩
abbrev cX12_townPart : ByteArray := prog_14_method_47_code
def yX12_townPart : MethodName := ⟨RX12, "townPart", "()Z"⟩
abbrev cX12_town : ByteArray := prog_14_method_48_code
def yX12_town : MethodName := ⟨RX12, "town", "(I)I"⟩
abbrev cX12_placeTo : ByteArray := prog_14_method_49_code
def yX12_placeTo : MethodName := ⟨RX12, "placeTo", "(I)Z"⟩
abbrev cX12_test : ByteArray := prog_14_method_50_code
def yX12_test : MethodName := ⟨RX12, "test", "(I)Z"⟩
abbrev cX12_yearOrder : ByteArray := prog_14_method_51_code
def yX12_yearOrder : MethodName := ⟨RX12, "yearOrder", "(II)Z"⟩
abbrev cX12_yearStep : ByteArray := prog_14_method_52_code
def yX12_yearStep : MethodName := ⟨RX12, "yearStep", "()Z"⟩
abbrev cX12_year : ByteArray := prog_14_method_53_code
def yX12_year : MethodName := ⟨RX12, "year", "(I)I"⟩
abbrev cX12_bits : ByteArray := prog_14_method_54_code
def yX12_bits : MethodName := ⟨RX12, "bits", "(I)I"⟩
abbrev cX12_isPlace : ByteArray := prog_14_method_55_code
def yX12_isPlace : MethodName := ⟨RX12, "isPlace", "(II)Z"⟩
abbrev cX12_bitOf : ByteArray := prog_14_method_56_code
def yX12_bitOf : MethodName := ⟨RX12, "bitOf", "(II)I"⟩
abbrev cX12_wrongHouse : ByteArray := prog_14_method_57_code
def yX12_wrongHouse : MethodName := ⟨RX12, "wrongHouse", "(II)I"⟩
abbrev cX12_wrongLamp : ByteArray := prog_14_method_58_code
def yX12_wrongLamp : MethodName := ⟨RX12, "wrongLamp", "(II)I"⟩
abbrev cX12_places : ByteArray := prog_14_method_59_code
def yX12_places : MethodName := ⟨RX12, "places", "()I"⟩
abbrev cX12_free : ByteArray := prog_14_method_60_code
def yX12_free : MethodName := ⟨RX12, "free", "()I"⟩
abbrev cX12_whole : ByteArray := prog_14_method_61_code
def yX12_whole : MethodName := ⟨RX12, "whole", "()I"⟩
abbrev cX12_near : ByteArray := prog_14_method_62_code
def yX12_near : MethodName := ⟨RX12, "near", "(I)I"⟩
abbrev cX12_laysNear : ByteArray := prog_14_method_63_code
def yX12_laysNear : MethodName := ⟨RX12, "laysNear", "()V"⟩
abbrev cX12_becomes : ByteArray := prog_14_method_64_code
def yX12_becomes : MethodName := ⟨RX12, "becomes", "(II)I"⟩
abbrev cX12_after : ByteArray := prog_14_method_65_code
def yX12_after : MethodName := ⟨RX12, "after", "(II)I"⟩
abbrev cX12_told : ByteArray := prog_14_method_66_code
def yX12_told : MethodName := ⟨RX12, "told", "(I)I"⟩
abbrev cX12_picture : ByteArray := prog_14_method_67_code
def yX12_picture : MethodName := ⟨RX12, "picture", "()J"⟩
abbrev cX12_lamp : ByteArray := prog_14_method_68_code
def yX12_lamp : MethodName := ⟨RX12, "lamp", "(III)I"⟩
abbrev cX12_isRule : ByteArray := prog_14_method_69_code
def yX12_isRule : MethodName := ⟨RX12, "isRule", "(I)Z"⟩
abbrev cX12_rule : ByteArray := prog_14_method_70_code
def yX12_rule : MethodName := ⟨RX12, "rule", "(II)I"⟩
abbrev cX12_isCitizen : ByteArray := prog_14_method_71_code
def yX12_isCitizen : MethodName := ⟨RX12, "isCitizen", "(I)Z"⟩
abbrev cX12_citizen : ByteArray := prog_14_method_72_code
def yX12_citizen : MethodName := ⟨RX12, "citizen", "(II)I"⟩
abbrev cX12_turn : ByteArray := prog_14_method_73_code
def yX12_turn : MethodName := ⟨RX12, "turn", "(II)I"⟩
abbrev cX12_paints : ByteArray := prog_14_method_74_code
def yX12_paints : MethodName := ⟨RX12, "paints", "(I)I"⟩
abbrev cX12_paint : ByteArray := prog_14_method_75_code
def yX12_paint : MethodName := ⟨RX12, "paint", "(J)I"⟩
abbrev cX12_paintRows : ByteArray := prog_14_method_76_code
def yX12_paintRows : MethodName := ⟨RX12, "paintRows", "(I)I"⟩
abbrev cX12_rowOf : ByteArray := prog_14_method_77_code
def yX12_rowOf : MethodName := ⟨RX12, "rowOf", "(II)I"⟩
abbrev cX12_copyRows : ByteArray := prog_14_method_78_code
def yX12_copyRows : MethodName := ⟨RX12, "copyRows", "(I)I"⟩
abbrev cX12_mayor : ByteArray := prog_14_method_79_code
def yX12_mayor : MethodName := ⟨RX12, "mayor", "(I)Z"⟩
abbrev cX12_bend : ByteArray := prog_14_method_80_code
def yX12_bend : MethodName := ⟨RX12, "bend", "(III)Z"⟩
abbrev cX12_goes : ByteArray := prog_14_method_81_code
def yX12_goes : MethodName := ⟨RX12, "goes", "()V"⟩
abbrev cX12_night : ByteArray := prog_14_method_82_code
def yX12_night : MethodName := ⟨RX12, "night", "(I)I"⟩
abbrev cX12_ahead : ByteArray := prog_14_method_83_code
def yX12_ahead : MethodName := ⟨RX12, "ahead", "(I)J"⟩
abbrev cX12_comesAgain : ByteArray := prog_14_method_84_code
def yX12_comesAgain : MethodName := ⟨RX12, "comesAgain", "()Z"⟩
abbrev cX12_again : ByteArray := prog_14_method_85_code
def yX12_again : MethodName := ⟨RX12, "again", "(I)I"⟩
abbrev cX12_far : ByteArray := prog_14_method_86_code
def yX12_far : MethodName := ⟨RX12, "far", "(I)J"⟩
abbrev cX12_moved : ByteArray := prog_14_method_87_code
def yX12_moved : MethodName := ⟨RX12, "moved", "(III)I"⟩
abbrev cX12_walks : ByteArray := prog_14_method_88_code
def yX12_walks : MethodName := ⟨RX12, "walks", "(I)I"⟩
abbrev cX12_isStill : ByteArray := prog_14_method_89_code
def yX12_isStill : MethodName := ⟨RX12, "isStill", "()Z"⟩
abbrev cX12_still : ByteArray := prog_14_method_90_code
def yX12_still : MethodName := ⟨RX12, "still", "()I"⟩
abbrev cX12_next : ByteArray := prog_14_method_91_code
def yX12_next : MethodName := ⟨RX12, "next", "(I)I"⟩
abbrev cX12_oil : ByteArray := prog_14_method_92_code
def yX12_oil : MethodName := ⟨RX12, "oil", "(I)I"⟩
abbrev cX12_brightest : ByteArray := prog_14_method_93_code
def yX12_brightest : MethodName := ⟨RX12, "brightest", "(I)I"⟩
abbrev cX12_fitsRow : ByteArray := prog_14_method_94_code
def yX12_fitsRow : MethodName := ⟨RX12, "fitsRow", "(II)Z"⟩
abbrev cX12_rowBecomes : ByteArray := prog_14_method_95_code
def yX12_rowBecomes : MethodName := ⟨RX12, "rowBecomes", "(IIII)I"⟩
abbrev cX12_isGood : ByteArray := prog_14_method_96_code
def yX12_isGood : MethodName := ⟨RX12, "isGood", "(IIIIZ)Z"⟩
abbrev cX12_reckons : ByteArray := prog_14_method_97_code
def yX12_reckons : MethodName := ⟨RX12, "reckons", "(Z)J"⟩
abbrev cX12_least : ByteArray := prog_14_method_98_code
def yX12_least : MethodName := ⟨RX12, "least", "(Z)J"⟩
abbrev cX12_aboveOf : ByteArray := prog_14_method_99_code
def yX12_aboveOf : MethodName := ⟨RX12, "aboveOf", "(IIIZ)I"⟩
abbrev cX12_ancestors : ByteArray := prog_14_method_100_code
def yX12_ancestors : MethodName := ⟨RX12, "ancestors", "()J"⟩
abbrev cX12_ancestor : ByteArray := prog_14_method_101_code
def yX12_ancestor : MethodName := ⟨RX12, "ancestor", "()J"⟩
abbrev cX12_stills : ByteArray := prog_14_method_102_code
def yX12_stills : MethodName := ⟨RX12, "stills", "()J"⟩
abbrev cX12_firstStill : ByteArray := prog_14_method_103_code
def yX12_firstStill : MethodName := ⟨RX12, "firstStill", "()J"⟩
abbrev cX12_pictures : ByteArray := prog_14_method_104_code
def yX12_pictures : MethodName := ⟨RX12, "pictures", "()J"⟩
abbrev cX12_tries : ByteArray := prog_14_method_105_code
def yX12_tries : MethodName := ⟨RX12, "tries", "(IIII)V"⟩
abbrev cX12_signal : ByteArray := prog_14_method_106_code
def yX12_signal : MethodName := ⟨RX12, "signal", "(IIII)I"⟩
abbrev cX12_spoilsBy : ByteArray := prog_14_method_107_code
def yX12_spoilsBy : MethodName := ⟨RX12, "spoilsBy", "(II)I"⟩
abbrev cX12_spoils : ByteArray := prog_14_method_108_code
def yX12_spoils : MethodName := ⟨RX12, "spoils", "(III)I"⟩
abbrev cX12_worst : ByteArray := prog_14_method_109_code
def yX12_worst : MethodName := ⟨RX12, "worst", "(II)I"⟩
abbrev cX12_mend : ByteArray := prog_14_method_110_code
def yX12_mend : MethodName := ⟨RX12, "mend", "(JI)I"⟩
abbrev cX12_unlike : ByteArray := prog_14_method_111_code
def yX12_unlike : MethodName := ⟨RX12, "unlike", "(J)I"⟩
abbrev cX12_seen : ByteArray := prog_14_method_112_code
def yX12_seen : MethodName := ⟨RX12, "seen", "(II)I"⟩
abbrev cX12_rulesLeft : ByteArray := prog_14_method_113_code
def yX12_rulesLeft : MethodName := ⟨RX12, "rulesLeft", "()I"⟩
abbrev cX12_fits : ByteArray := prog_14_method_114_code
def yX12_fits : MethodName := ⟨RX12, "fits", "()I"⟩
abbrev cX12_forget : ByteArray := prog_14_method_115_code
def yX12_forget : MethodName := ⟨RX12, "forget", "()I"⟩
abbrev cX12_shows : ByteArray := prog_14_method_116_code
def yX12_shows : MethodName := ⟨RX12, "shows", "()I"⟩
abbrev cX12_dislikes : ByteArray := prog_14_method_117_code
def yX12_dislikes : MethodName := ⟨RX12, "dislikes", "(II)I"⟩
abbrev cX12_voteOf : ByteArray := prog_14_method_118_code
def yX12_voteOf : MethodName := ⟨RX12, "voteOf", "(I)I"⟩
abbrev cX12_vote : ByteArray := prog_14_method_119_code
def yX12_vote : MethodName := ⟨RX12, "vote", "(I)I"⟩
abbrev cX12_votesFor : ByteArray := prog_14_method_120_code
def yX12_votesFor : MethodName := ⟨RX12, "votesFor", "(I)I"⟩
abbrev cX12_votes : ByteArray := prog_14_method_121_code
def yX12_votes : MethodName := ⟨RX12, "votes", "(I)I"⟩
abbrev cX12_elects : ByteArray := prog_14_method_122_code
def yX12_elects : MethodName := ⟨RX12, "elects", "()Z"⟩
abbrev cX12_elect : ByteArray := prog_14_method_123_code
def yX12_elect : MethodName := ⟨RX12, "elect", "()I"⟩
abbrev cX12_reads : ByteArray := prog_14_method_124_code
def yX12_reads : MethodName := ⟨RX12, "reads", "(II)I"⟩
abbrev cX12_mirror : ByteArray := prog_14_method_125_code
def yX12_mirror : MethodName := ⟨RX12, "mirror", "()I"⟩
abbrev cX12_heapOf : ByteArray := prog_14_method_126_code
def yX12_heapOf : MethodName := ⟨RX12, "heapOf", "(I)I"⟩
abbrev cX12_heaps : ByteArray := prog_14_method_127_code
def yX12_heaps : MethodName := ⟨RX12, "heaps", "(I)I"⟩
abbrev cX12_heap : ByteArray := prog_14_method_128_code
def yX12_heap : MethodName := ⟨RX12, "heap", "(II)I"⟩
abbrev cX12_company : ByteArray := prog_14_method_129_code
def yX12_company : MethodName := ⟨RX12, "company", "()Z"⟩
abbrev cX12_draw : ByteArray := prog_14_method_130_code
def yX12_draw : MethodName := ⟨RX12, "draw", "(I)I"⟩
abbrev cX12_storms : ByteArray := prog_14_method_131_code
def yX12_storms : MethodName := ⟨RX12, "storms", "(I)Z"⟩
abbrev cX12_isBorn : ByteArray := prog_14_method_132_code
def yX12_isBorn : MethodName := ⟨RX12, "isBorn", "()Z"⟩
abbrev cX12_does : ByteArray := prog_14_method_133_code
def yX12_does : MethodName := ⟨RX12, "does", "(I)Z"⟩
abbrev cX12_holds : ByteArray := prog_14_method_134_code
def yX12_holds : MethodName := ⟨RX12, "holds", "(I)Z"⟩
abbrev cX12_behindEnds : ByteArray := prog_14_method_135_code
def yX12_behindEnds : MethodName := ⟨RX12, "behindEnds", "(I)I"⟩
abbrev cX12_lives : ByteArray := prog_14_method_136_code
def yX12_lives : MethodName := ⟨RX12, "lives", "(I)V"⟩
abbrev cX12_live : ByteArray := prog_14_method_137_code
def yX12_live : MethodName := ⟨RX12, "live", "(I)I"⟩
abbrev cX12_lived : ByteArray := prog_14_method_138_code
def yX12_lived : MethodName := ⟨RX12, "lived", "(I)I"⟩
abbrev cX12_mean : ByteArray := prog_14_method_139_code
def yX12_mean : MethodName := ⟨RX12, "mean", "(II)Z"⟩
abbrev cX12_copies : ByteArray := prog_14_method_140_code
def yX12_copies : MethodName := ⟨RX12, "copies", "(II)V"⟩
abbrev cX12_mark : ByteArray := prog_14_method_141_code
def yX12_mark : MethodName := ⟨RX12, "mark", "()I"⟩
abbrev cX12_back : ByteArray := prog_14_method_142_code
def yX12_back : MethodName := ⟨RX12, "back", "()I"⟩
def RJx145de : String := "java/io/Serializable"
def TJx145de : u_T := fun k => match k with
  | _ => ("", "", "", false)
def tyJx145de : Nat → FieldType := fun k => match k with
  | _ => .int
abbrev wsJx145de0 : List Cond := u_ws RJx145de TJx145de 0
theorem nmJx145de : ∀ a, a < 0 → ∀ b, b < 0 → a ≠ b → (TJx145de a).2.1 ≠ (TJx145de b).2.1 := by decide +kernel
theorem tyJx145de_ok : ∀ k, k < 0 → parseFieldDescriptor (TJx145de k).2.2.1 = some (tyJx145de k) := by decide +kernel
def RJx9f9b0 : String := "java/lang/CharSequence"
def TJx9f9b0 : u_T := fun k => match k with
  | _ => ("", "", "", false)
def tyJx9f9b0 : Nat → FieldType := fun k => match k with
  | _ => .int
abbrev wsJx9f9b00 : List Cond := u_ws RJx9f9b0 TJx9f9b0 0
theorem nmJx9f9b0 : ∀ a, a < 0 → ∀ b, b < 0 → a ≠ b → (TJx9f9b0 a).2.1 ≠ (TJx9f9b0 b).2.1 := by decide +kernel
theorem tyJx9f9b0_ok : ∀ k, k < 0 → parseFieldDescriptor (TJx9f9b0 k).2.2.1 = some (tyJx9f9b0 k) := by decide +kernel
def RJxb160c : String := "java/lang/Comparable"
def TJxb160c : u_T := fun k => match k with
  | _ => ("", "", "", false)
def tyJxb160c : Nat → FieldType := fun k => match k with
  | _ => .int
abbrev wsJxb160c0 : List Cond := u_ws RJxb160c TJxb160c 0
theorem nmJxb160c : ∀ a, a < 0 → ∀ b, b < 0 → a ≠ b → (TJxb160c a).2.1 ≠ (TJxb160c b).2.1 := by decide +kernel
theorem tyJxb160c_ok : ∀ k, k < 0 → parseFieldDescriptor (TJxb160c k).2.2.1 = some (tyJxb160c k) := by decide +kernel
def RJ6 : String := "java/lang/Integer"
def TJ6 : u_T := fun k => match k with
  | _ => ("", "", "", false)
def tyJ6 : Nat → FieldType := fun k => match k with
  | _ => .int
abbrev wsJ60 : List Cond := u_ws RJ6 TJ6 0
theorem nmJ6 : ∀ a, a < 0 → ∀ b, b < 0 → a ≠ b → (TJ6 a).2.1 ≠ (TJ6 b).2.1 := by decide +kernel
theorem tyJ6_ok : ∀ k, k < 0 → parseFieldDescriptor (TJ6 k).2.2.1 = some (tyJ6 k) := by decide +kernel
abbrev cJ6_bitCount_0f7a4 : ByteArray := prog_15_method_49_code
def yJ6_bitCount_0f7a4 : MethodName := ⟨RJ6, "bitCount", "(I)I"⟩
def RJ9 : String := "java/lang/Math"
def TJ9 : u_T := fun k => match k with
  | _ => ("", "", "", false)
def tyJ9 : Nat → FieldType := fun k => match k with
  | _ => .int
abbrev wsJ90 : List Cond := u_ws RJ9 TJ9 0
theorem nmJ9 : ∀ a, a < 0 → ∀ b, b < 0 → a ≠ b → (TJ9 a).2.1 ≠ (TJ9 b).2.1 := by decide +kernel
theorem tyJ9_ok : ∀ k, k < 0 → parseFieldDescriptor (TJ9 k).2.2.1 = some (tyJ9 k) := by decide +kernel
abbrev cJ9_max_7cf53 : ByteArray := prog_16_method_65_code
def yJ9_max_7cf53 : MethodName := ⟨RJ9, "max", "(II)I"⟩
abbrev cJ9_min_7cf53 : ByteArray := prog_16_method_69_code
def yJ9_min_7cf53 : MethodName := ⟨RJ9, "min", "(II)I"⟩
def RJ0 : String := "java/lang/String"
def TJ0 : u_T := fun k => match k with
  | _ => ("", "", "", false)
def tyJ0 : Nat → FieldType := fun k => match k with
  | _ => .int
abbrev wsJ00 : List Cond := u_ws RJ0 TJ0 0
theorem nmJ0 : ∀ a, a < 0 → ∀ b, b < 0 → a ≠ b → (TJ0 a).2.1 ≠ (TJ0 b).2.1 := by decide +kernel
theorem tyJ0_ok : ∀ k, k < 0 → parseFieldDescriptor (TJ0 k).2.2.1 = some (tyJ0 k) := by decide +kernel
abbrev cJ0_length_8abf5 : ByteArray := prog_17_method_54_code
def yJ0_length_8abf5 : MethodName := ⟨RJ0, "length", "()I"⟩
abbrev cJ0_charAt_5068e : ByteArray := prog_17_method_56_code
def yJ0_charAt_5068e : MethodName := ⟨RJ0, "charAt", "(I)C"⟩
abbrev cJ0_coder_7d493 : ByteArray := prog_17_method_152_code
def yJ0_coder_7d493 : MethodName := ⟨RJ0, "coder", "()B"⟩
abbrev cJ0_isLatin1_aae02 : ByteArray := prog_17_method_154_code
def yJ0_isLatin1_aae02 : MethodName := ⟨RJ0, "isLatin1", "()Z"⟩
abbrev cJ0_checkIndex_df160 : ByteArray := prog_17_method_155_code
def yJ0_checkIndex_df160 : MethodName := ⟨RJ0, "checkIndex", "(II)V"⟩
def RJ1 : String := "java/lang/StringLatin1"
def TJ1 : u_T := fun k => match k with
  | _ => ("", "", "", false)
def tyJ1 : Nat → FieldType := fun k => match k with
  | _ => .int
abbrev wsJ10 : List Cond := u_ws RJ1 TJ1 0
theorem nmJ1 : ∀ a, a < 0 → ∀ b, b < 0 → a ≠ b → (TJ1 a).2.1 ≠ (TJ1 b).2.1 := by decide +kernel
theorem tyJ1_ok : ∀ k, k < 0 → parseFieldDescriptor (TJ1 k).2.2.1 = some (tyJ1 k) := by decide +kernel
abbrev cJ1_charAt_3b067 : ByteArray := prog_18_method_2_code
def yJ1_charAt_3b067 : MethodName := ⟨RJ1, "charAt", "([BI)C"⟩
def RJ2 : String := "java/lang/StringUTF16"
def TJ2 : u_T := fun k => match k with
  | _ => ("", "", "", false)
def tyJ2 : Nat → FieldType := fun k => match k with
  | _ => .int
abbrev wsJ20 : List Cond := u_ws RJ2 TJ2 0
theorem nmJ2 : ∀ a, a < 0 → ∀ b, b < 0 → a ≠ b → (TJ2 a).2.1 ≠ (TJ2 b).2.1 := by decide +kernel
theorem tyJ2_ok : ∀ k, k < 0 → parseFieldDescriptor (TJ2 k).2.2.1 = some (tyJ2 k) := by decide +kernel
abbrev cJ2_getChar_3b067 : ByteArray := prog_19_method_5_code
def yJ2_getChar_3b067 : MethodName := ⟨RJ2, "getChar", "([BI)C"⟩
abbrev cJ2_length_9d52b : ByteArray := prog_19_method_6_code
def yJ2_length_9d52b : MethodName := ⟨RJ2, "length", "([B)I"⟩
abbrev cJ2_charAt_3b067 : ByteArray := prog_19_method_83_code
def yJ2_charAt_3b067 : MethodName := ⟨RJ2, "charAt", "([BI)C"⟩
abbrev cJ2_checkIndex_2214a : ByteArray := prog_19_method_91_code
def yJ2_checkIndex_2214a : MethodName := ⟨RJ2, "checkIndex", "(I[B)V"⟩
def RJ10 : String := "java/lang/System"
def TJ10 : u_T := fun k => match k with
  | _ => ("", "", "", false)
def tyJ10 : Nat → FieldType := fun k => match k with
  | _ => .int
abbrev wsJ100 : List Cond := u_ws RJ10 TJ10 0
theorem nmJ10 : ∀ a, a < 0 → ∀ b, b < 0 → a ≠ b → (TJ10 a).2.1 ≠ (TJ10 b).2.1 := by decide +kernel
theorem tyJ10_ok : ∀ k, k < 0 → parseFieldDescriptor (TJ10 k).2.2.1 = some (tyJ10 k) := by decide +kernel
def RJxfd54e : String := "java/lang/constant/Constable"
def TJxfd54e : u_T := fun k => match k with
  | _ => ("", "", "", false)
def tyJxfd54e : Nat → FieldType := fun k => match k with
  | _ => .int
abbrev wsJxfd54e0 : List Cond := u_ws RJxfd54e TJxfd54e 0
theorem nmJxfd54e : ∀ a, a < 0 → ∀ b, b < 0 → a ≠ b → (TJxfd54e a).2.1 ≠ (TJxfd54e b).2.1 := by decide +kernel
theorem tyJxfd54e_ok : ∀ k, k < 0 → parseFieldDescriptor (TJxfd54e k).2.2.1 = some (tyJxfd54e k) := by decide +kernel
def RJx3cf43 : String := "java/lang/constant/ConstantDesc"
def TJx3cf43 : u_T := fun k => match k with
  | _ => ("", "", "", false)
def tyJx3cf43 : Nat → FieldType := fun k => match k with
  | _ => .int
abbrev wsJx3cf430 : List Cond := u_ws RJx3cf43 TJx3cf43 0
theorem nmJx3cf43 : ∀ a, a < 0 → ∀ b, b < 0 → a ≠ b → (TJx3cf43 a).2.1 ≠ (TJx3cf43 b).2.1 := by decide +kernel
theorem tyJx3cf43_ok : ∀ k, k < 0 → parseFieldDescriptor (TJx3cf43 k).2.2.1 = some (tyJx3cf43 k) := by decide +kernel
def RJ7 : String := "java/util/Arrays"
def TJ7 : u_T := fun k => match k with
  | _ => ("", "", "", false)
def tyJ7 : Nat → FieldType := fun k => match k with
  | _ => .int
abbrev wsJ70 : List Cond := u_ws RJ7 TJ7 0
theorem nmJ7 : ∀ a, a < 0 → ∀ b, b < 0 → a ≠ b → (TJ7 a).2.1 ≠ (TJ7 b).2.1 := by decide +kernel
theorem tyJ7_ok : ∀ k, k < 0 → parseFieldDescriptor (TJ7 k).2.2.1 = some (tyJ7 k) := by decide +kernel
abbrev cJ7_fill_53178 : ByteArray := prog_21_method_103_code
def yJ7_fill_53178 : MethodName := ⟨RJ7, "fill", "([II)V"⟩
def RJ3 : String := "jdk/internal/util/Preconditions"
def TJ3 : u_T := fun k => match k with
  | _ => ("", "", "", false)
def tyJ3 : Nat → FieldType := fun k => match k with
  | _ => .int
abbrev wsJ30 : List Cond := u_ws RJ3 TJ3 0
theorem nmJ3 : ∀ a, a < 0 → ∀ b, b < 0 → a ≠ b → (TJ3 a).2.1 ≠ (TJ3 b).2.1 := by decide +kernel
theorem tyJ3_ok : ∀ k, k < 0 → parseFieldDescriptor (TJ3 k).2.2.1 = some (tyJ3 k) := by decide +kernel
abbrev cJ3_checkIndex_8e157 : ByteArray := prog_22_method_11_code
def yJ3_checkIndex_8e157 : MethodName := ⟨RJ3, "checkIndex", "(IILjava/util/function/BiFunction;)I"⟩
def RL : String := "WindowHillLaw"
abbrev cL_law : ByteArray := code
def yL_law : MethodName := ⟨RL, "law", "([I)Z"⟩
