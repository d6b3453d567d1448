-- ===== PART A: goes FIRST, ahead of the names: the tables' words, and 'selects' of the private methods out of them =====
/-- a private method of a class that the tables say can be made, by its rows of tables_1 -/
def lw_okq (q : MethodName × Nat) : Prop := (q.1.cls ≠ "java/lang/invoke/MethodHandle" ∧ q.1.cls ≠ "java/lang/invoke/VarHandle") ∧ Cond.instantiable q.1.cls q.2 ∈ tables_1 ∧ Cond.privateMethod q.1 ∈ tables_1 ∧ Cond.instanceMethod q.1 ∈ tables_1
theorem lw_p0 : lw_okq (⟨"CoverTwo", "takeFourBytes", "(I)V"⟩, 11) := ⟨⟨by decide +kernel, by decide +kernel⟩, List.mem_of_getElem? (i := 24) (by decide +kernel), List.mem_of_getElem? (i := 391) (by decide +kernel), List.mem_of_getElem? (i := 392) (by decide +kernel)⟩
theorem lw_p1 : lw_okq (⟨"CoverTwo", "refuse", "(I)I"⟩, 11) := ⟨⟨by decide +kernel, by decide +kernel⟩, List.mem_of_getElem? (i := 24) (by decide +kernel), List.mem_of_getElem? (i := 399) (by decide +kernel), List.mem_of_getElem? (i := 400) (by decide +kernel)⟩
theorem lw_p2 : lw_okq (⟨"CoverTwo$Hung", "look", "()V"⟩, 13) := ⟨⟨by decide +kernel, by decide +kernel⟩, List.mem_of_getElem? (i := 32) (by decide +kernel), List.mem_of_getElem? (i := 415) (by decide +kernel), List.mem_of_getElem? (i := 416) (by decide +kernel)⟩
theorem lw_p3 : lw_okq (⟨"CoverTwo$Tokens", "isLetter", "(I)Z"⟩, 8) := ⟨⟨by decide +kernel, by decide +kernel⟩, List.mem_of_getElem? (i := 210) (by decide +kernel), List.mem_of_getElem? (i := 430) (by decide +kernel), List.mem_of_getElem? (i := 431) (by decide +kernel)⟩
theorem lw_p4 : lw_okq (⟨"CoverTwo$Tokens", "takeWord", "()V"⟩, 8) := ⟨⟨by decide +kernel, by decide +kernel⟩, List.mem_of_getElem? (i := 210) (by decide +kernel), List.mem_of_getElem? (i := 434) (by decide +kernel), List.mem_of_getElem? (i := 435) (by decide +kernel)⟩
theorem lw_p5 : lw_okq (⟨"CoverTwo$Tokens", "isDigit", "(I)Z"⟩, 8) := ⟨⟨by decide +kernel, by decide +kernel⟩, List.mem_of_getElem? (i := 210) (by decide +kernel), List.mem_of_getElem? (i := 438) (by decide +kernel), List.mem_of_getElem? (i := 439) (by decide +kernel)⟩
theorem lw_p6 : lw_okq (⟨"CoverTwo$Tokens", "takeWhole", "()V"⟩, 8) := ⟨⟨by decide +kernel, by decide +kernel⟩, List.mem_of_getElem? (i := 210) (by decide +kernel), List.mem_of_getElem? (i := 442) (by decide +kernel), List.mem_of_getElem? (i := 443) (by decide +kernel)⟩
theorem lw_p7 : lw_okq (⟨"CoverTwo$Tokens", "takeSign", "()V"⟩, 8) := ⟨⟨by decide +kernel, by decide +kernel⟩, List.mem_of_getElem? (i := 210) (by decide +kernel), List.mem_of_getElem? (i := 446) (by decide +kernel), List.mem_of_getElem? (i := 447) (by decide +kernel)⟩
theorem lw_p8 : lw_okq (⟨"CoverTwo$Telling", "readWall", "()Z"⟩, 11) := ⟨⟨by decide +kernel, by decide +kernel⟩, List.mem_of_getElem? (i := 204) (by decide +kernel), List.mem_of_getElem? (i := 506) (by decide +kernel), List.mem_of_getElem? (i := 507) (by decide +kernel)⟩
theorem lw_p9 : lw_okq (⟨"CoverTwo$Telling", "wrong", "(I)Z"⟩, 11) := ⟨⟨by decide +kernel, by decide +kernel⟩, List.mem_of_getElem? (i := 204) (by decide +kernel), List.mem_of_getElem? (i := 510) (by decide +kernel), List.mem_of_getElem? (i := 511) (by decide +kernel)⟩
theorem lw_p10 : lw_okq (⟨"CoverTwo$Telling", "takeKey", "(Ljava/lang/String;)Z"⟩, 11) := ⟨⟨by decide +kernel, by decide +kernel⟩, List.mem_of_getElem? (i := 204) (by decide +kernel), List.mem_of_getElem? (i := 516) (by decide +kernel), List.mem_of_getElem? (i := 517) (by decide +kernel)⟩
theorem lw_p11 : lw_okq (⟨"CoverTwo$Telling", "takeWhole", "(II)Z"⟩, 11) := ⟨⟨by decide +kernel, by decide +kernel⟩, List.mem_of_getElem? (i := 204) (by decide +kernel), List.mem_of_getElem? (i := 520) (by decide +kernel), List.mem_of_getElem? (i := 521) (by decide +kernel)⟩
theorem lw_p12 : lw_okq (⟨"CoverTwo$Telling", "readBill", "()Z"⟩, 11) := ⟨⟨by decide +kernel, by decide +kernel⟩, List.mem_of_getElem? (i := 204) (by decide +kernel), List.mem_of_getElem? (i := 533) (by decide +kernel), List.mem_of_getElem? (i := 534) (by decide +kernel)⟩
theorem lw_p13 : lw_okq (⟨"CoverTwo$Telling", "takeFirst", "(ZZ)Z"⟩, 11) := ⟨⟨by decide +kernel, by decide +kernel⟩, List.mem_of_getElem? (i := 204) (by decide +kernel), List.mem_of_getElem? (i := 537) (by decide +kernel), List.mem_of_getElem? (i := 538) (by decide +kernel)⟩
theorem lw_p14 : lw_okq (⟨"CoverTwo$Telling", "takeNewName", "()Z"⟩, 11) := ⟨⟨by decide +kernel, by decide +kernel⟩, List.mem_of_getElem? (i := 204) (by decide +kernel), List.mem_of_getElem? (i := 541) (by decide +kernel), List.mem_of_getElem? (i := 542) (by decide +kernel)⟩
theorem lw_p15 : lw_okq (⟨"CoverTwo$Telling", "find", "([JI)I"⟩, 11) := ⟨⟨by decide +kernel, by decide +kernel⟩, List.mem_of_getElem? (i := 204) (by decide +kernel), List.mem_of_getElem? (i := 556) (by decide +kernel), List.mem_of_getElem? (i := 557) (by decide +kernel)⟩
def lw_privs_1 : List (MethodName × Nat) := [(⟨"CoverTwo", "takeFourBytes", "(I)V"⟩, 11), (⟨"CoverTwo", "refuse", "(I)I"⟩, 11), (⟨"CoverTwo$Hung", "look", "()V"⟩, 13), (⟨"CoverTwo$Tokens", "isLetter", "(I)Z"⟩, 8), (⟨"CoverTwo$Tokens", "takeWord", "()V"⟩, 8), (⟨"CoverTwo$Tokens", "isDigit", "(I)Z"⟩, 8), (⟨"CoverTwo$Tokens", "takeWhole", "()V"⟩, 8), (⟨"CoverTwo$Tokens", "takeSign", "()V"⟩, 8), (⟨"CoverTwo$Telling", "readWall", "()Z"⟩, 11), (⟨"CoverTwo$Telling", "wrong", "(I)Z"⟩, 11), (⟨"CoverTwo$Telling", "takeKey", "(Ljava/lang/String;)Z"⟩, 11), (⟨"CoverTwo$Telling", "takeWhole", "(II)Z"⟩, 11), (⟨"CoverTwo$Telling", "readBill", "()Z"⟩, 11), (⟨"CoverTwo$Telling", "takeFirst", "(ZZ)Z"⟩, 11), (⟨"CoverTwo$Telling", "takeNewName", "()Z"⟩, 11), (⟨"CoverTwo$Telling", "find", "([JI)I"⟩, 11)]
theorem lw_r1 : ∀ q ∈ lw_privs_1, lw_okq q := List.forall_mem_cons.mpr ⟨lw_p0, List.forall_mem_cons.mpr ⟨lw_p1, List.forall_mem_cons.mpr ⟨lw_p2, List.forall_mem_cons.mpr ⟨lw_p3, List.forall_mem_cons.mpr ⟨lw_p4, List.forall_mem_cons.mpr ⟨lw_p5, List.forall_mem_cons.mpr ⟨lw_p6, List.forall_mem_cons.mpr ⟨lw_p7, List.forall_mem_cons.mpr ⟨lw_p8, List.forall_mem_cons.mpr ⟨lw_p9, List.forall_mem_cons.mpr ⟨lw_p10, List.forall_mem_cons.mpr ⟨lw_p11, List.forall_mem_cons.mpr ⟨lw_p12, List.forall_mem_cons.mpr ⟨lw_p13, List.forall_mem_cons.mpr ⟨lw_p14, List.forall_mem_cons.mpr ⟨lw_p15, fun _ h => absurd h List.not_mem_nil⟩⟩⟩⟩⟩⟩⟩⟩⟩⟩⟩⟩⟩⟩⟩⟩
theorem lw_p16 : lw_okq (⟨"CoverTwo$Telling", "takeWord", "()Z"⟩, 11) := ⟨⟨by decide +kernel, by decide +kernel⟩, List.mem_of_getElem? (i := 204) (by decide +kernel), List.mem_of_getElem? (i := 560) (by decide +kernel), List.mem_of_getElem? (i := 561) (by decide +kernel)⟩
theorem lw_p17 : lw_okq (⟨"CoverTwo$Telling", "takeKind", "()Z"⟩, 11) := ⟨⟨by decide +kernel, by decide +kernel⟩, List.mem_of_getElem? (i := 204) (by decide +kernel), List.mem_of_getElem? (i := 564) (by decide +kernel), List.mem_of_getElem? (i := 565) (by decide +kernel)⟩
theorem lw_p18 : lw_okq (⟨"CoverTwo$Told", "block", "(II)I"⟩, 20) := ⟨⟨by decide +kernel, by decide +kernel⟩, List.mem_of_getElem? (i := 38) (by decide +kernel), List.mem_of_getElem? (i := 577) (by decide +kernel), List.mem_of_getElem? (i := 578) (by decide +kernel)⟩
theorem lw_p19 : lw_okq (⟨"CoverTwo$Telling", "readRival", "()Z"⟩, 11) := ⟨⟨by decide +kernel, by decide +kernel⟩, List.mem_of_getElem? (i := 204) (by decide +kernel), List.mem_of_getElem? (i := 589) (by decide +kernel), List.mem_of_getElem? (i := 590) (by decide +kernel)⟩
theorem lw_p20 : lw_okq (⟨"CoverTwo$Telling", "readWord", "()Z"⟩, 11) := ⟨⟨by decide +kernel, by decide +kernel⟩, List.mem_of_getElem? (i := 204) (by decide +kernel), List.mem_of_getElem? (i := 595) (by decide +kernel), List.mem_of_getElem? (i := 596) (by decide +kernel)⟩
theorem lw_p21 : lw_okq (⟨"CoverTwo$Telling", "readFounder", "()Z"⟩, 11) := ⟨⟨by decide +kernel, by decide +kernel⟩, List.mem_of_getElem? (i := 204) (by decide +kernel), List.mem_of_getElem? (i := 604) (by decide +kernel), List.mem_of_getElem? (i := 605) (by decide +kernel)⟩
theorem lw_p22 : lw_okq (⟨"CoverTwo$Telling", "takeOldName", "([JI)Z"⟩, 11) := ⟨⟨by decide +kernel, by decide +kernel⟩, List.mem_of_getElem? (i := 204) (by decide +kernel), List.mem_of_getElem? (i := 608) (by decide +kernel), List.mem_of_getElem? (i := 609) (by decide +kernel)⟩
theorem lw_p23 : lw_okq (⟨"CoverTwo$Telling", "takeCorner", "(I)Z"⟩, 11) := ⟨⟨by decide +kernel, by decide +kernel⟩, List.mem_of_getElem? (i := 204) (by decide +kernel), List.mem_of_getElem? (i := 612) (by decide +kernel), List.mem_of_getElem? (i := 613) (by decide +kernel)⟩
theorem lw_p24 : lw_okq (⟨"CoverTwo$Telling", "readPaste", "()Z"⟩, 11) := ⟨⟨by decide +kernel, by decide +kernel⟩, List.mem_of_getElem? (i := 204) (by decide +kernel), List.mem_of_getElem? (i := 626) (by decide +kernel), List.mem_of_getElem? (i := 627) (by decide +kernel)⟩
theorem lw_p25 : lw_okq (⟨"CoverTwo$Hung", "knowLetters", "()V"⟩, 13) := ⟨⟨by decide +kernel, by decide +kernel⟩, List.mem_of_getElem? (i := 32) (by decide +kernel), List.mem_of_getElem? (i := 655) (by decide +kernel), List.mem_of_getElem? (i := 656) (by decide +kernel)⟩
theorem lw_p26 : lw_okq (⟨"CoverTwo$Telling", "goesOn", "()Z"⟩, 11) := ⟨⟨by decide +kernel, by decide +kernel⟩, List.mem_of_getElem? (i := 204) (by decide +kernel), List.mem_of_getElem? (i := 664) (by decide +kernel), List.mem_of_getElem? (i := 665) (by decide +kernel)⟩
theorem lw_p27 : lw_okq (⟨"CoverTwo", "answer", "(I)I"⟩, 11) := ⟨⟨by decide +kernel, by decide +kernel⟩, List.mem_of_getElem? (i := 24) (by decide +kernel), List.mem_of_getElem? (i := 676) (by decide +kernel), List.mem_of_getElem? (i := 677) (by decide +kernel)⟩
theorem lw_p28 : lw_okq (⟨"CoverTwo", "isBill", "(I)Z"⟩, 11) := ⟨⟨by decide +kernel, by decide +kernel⟩, List.mem_of_getElem? (i := 24) (by decide +kernel), List.mem_of_getElem? (i := 692) (by decide +kernel), List.mem_of_getElem? (i := 693) (by decide +kernel)⟩
theorem lw_p29 : lw_okq (⟨"CoverTwo", "hasWall", "()Z"⟩, 11) := ⟨⟨by decide +kernel, by decide +kernel⟩, List.mem_of_getElem? (i := 24) (by decide +kernel), List.mem_of_getElem? (i := 700) (by decide +kernel), List.mem_of_getElem? (i := 701) (by decide +kernel)⟩
theorem lw_p30 : lw_okq (⟨"CoverTwo", "hangs", "(I)Z"⟩, 11) := ⟨⟨by decide +kernel, by decide +kernel⟩, List.mem_of_getElem? (i := 24) (by decide +kernel), List.mem_of_getElem? (i := 708) (by decide +kernel), List.mem_of_getElem? (i := 709) (by decide +kernel)⟩
theorem lw_p31 : lw_okq (⟨"CoverTwo", "isRival", "(I)Z"⟩, 11) := ⟨⟨by decide +kernel, by decide +kernel⟩, List.mem_of_getElem? (i := 24) (by decide +kernel), List.mem_of_getElem? (i := 815) (by decide +kernel), List.mem_of_getElem? (i := 816) (by decide +kernel)⟩
def lw_privs_2 : List (MethodName × Nat) := [(⟨"CoverTwo$Telling", "takeWord", "()Z"⟩, 11), (⟨"CoverTwo$Telling", "takeKind", "()Z"⟩, 11), (⟨"CoverTwo$Told", "block", "(II)I"⟩, 20), (⟨"CoverTwo$Telling", "readRival", "()Z"⟩, 11), (⟨"CoverTwo$Telling", "readWord", "()Z"⟩, 11), (⟨"CoverTwo$Telling", "readFounder", "()Z"⟩, 11), (⟨"CoverTwo$Telling", "takeOldName", "([JI)Z"⟩, 11), (⟨"CoverTwo$Telling", "takeCorner", "(I)Z"⟩, 11), (⟨"CoverTwo$Telling", "readPaste", "()Z"⟩, 11), (⟨"CoverTwo$Hung", "knowLetters", "()V"⟩, 13), (⟨"CoverTwo$Telling", "goesOn", "()Z"⟩, 11), (⟨"CoverTwo", "answer", "(I)I"⟩, 11), (⟨"CoverTwo", "isBill", "(I)Z"⟩, 11), (⟨"CoverTwo", "hasWall", "()Z"⟩, 11), (⟨"CoverTwo", "hangs", "(I)Z"⟩, 11), (⟨"CoverTwo", "isRival", "(I)Z"⟩, 11)]
theorem lw_r2 : ∀ q ∈ lw_privs_2, lw_okq q := List.forall_mem_cons.mpr ⟨lw_p16, List.forall_mem_cons.mpr ⟨lw_p17, List.forall_mem_cons.mpr ⟨lw_p18, List.forall_mem_cons.mpr ⟨lw_p19, List.forall_mem_cons.mpr ⟨lw_p20, List.forall_mem_cons.mpr ⟨lw_p21, List.forall_mem_cons.mpr ⟨lw_p22, List.forall_mem_cons.mpr ⟨lw_p23, List.forall_mem_cons.mpr ⟨lw_p24, List.forall_mem_cons.mpr ⟨lw_p25, List.forall_mem_cons.mpr ⟨lw_p26, List.forall_mem_cons.mpr ⟨lw_p27, List.forall_mem_cons.mpr ⟨lw_p28, List.forall_mem_cons.mpr ⟨lw_p29, List.forall_mem_cons.mpr ⟨lw_p30, List.forall_mem_cons.mpr ⟨lw_p31, fun _ h => absurd h List.not_mem_nil⟩⟩⟩⟩⟩⟩⟩⟩⟩⟩⟩⟩⟩⟩⟩⟩
theorem lw_p32 : lw_okq (⟨"CoverTwo", "deny", "(I)Z"⟩, 11) := ⟨⟨by decide +kernel, by decide +kernel⟩, List.mem_of_getElem? (i := 24) (by decide +kernel), List.mem_of_getElem? (i := 819) (by decide +kernel), List.mem_of_getElem? (i := 820) (by decide +kernel)⟩
theorem lw_p33 : lw_okq (⟨"CoverTwo$Shelf", "slot", "(I)I"⟩, 3) := ⟨⟨by decide +kernel, by decide +kernel⟩, List.mem_of_getElem? (i := 283) (by decide +kernel), List.mem_of_getElem? (i := 827) (by decide +kernel), List.mem_of_getElem? (i := 828) (by decide +kernel)⟩
theorem lw_p34 : lw_okq (⟨"CoverTwo", "grant", "()Z"⟩, 11) := ⟨⟨by decide +kernel, by decide +kernel⟩, List.mem_of_getElem? (i := 24) (by decide +kernel), List.mem_of_getElem? (i := 839) (by decide +kernel), List.mem_of_getElem? (i := 840) (by decide +kernel)⟩
theorem lw_p35 : lw_okq (⟨"CoverTwo", "isWord", "(I)Z"⟩, 11) := ⟨⟨by decide +kernel, by decide +kernel⟩, List.mem_of_getElem? (i := 24) (by decide +kernel), List.mem_of_getElem? (i := 898) (by decide +kernel), List.mem_of_getElem? (i := 899) (by decide +kernel)⟩
theorem lw_p36 : lw_okq (⟨"CoverTwo$Rows", "moves", "()I"⟩, 3) := ⟨⟨by decide +kernel, by decide +kernel⟩, List.mem_of_getElem? (i := 305) (by decide +kernel), List.mem_of_getElem? (i := 945) (by decide +kernel), List.mem_of_getElem? (i := 946) (by decide +kernel)⟩
theorem lw_p37 : lw_okq (⟨"CoverTwo$Rows", "countBehind", "(II)Z"⟩, 3) := ⟨⟨by decide +kernel, by decide +kernel⟩, List.mem_of_getElem? (i := 305) (by decide +kernel), List.mem_of_getElem? (i := 975) (by decide +kernel), List.mem_of_getElem? (i := 976) (by decide +kernel)⟩
theorem lw_p38 : lw_okq (⟨"CoverTwo$Rows", "push", "(II)V"⟩, 3) := ⟨⟨by decide +kernel, by decide +kernel⟩, List.mem_of_getElem? (i := 305) (by decide +kernel), List.mem_of_getElem? (i := 980) (by decide +kernel), List.mem_of_getElem? (i := 981) (by decide +kernel)⟩
theorem lw_p39 : lw_okq (⟨"CoverTwo$Rows", "pop", "()V"⟩, 3) := ⟨⟨by decide +kernel, by decide +kernel⟩, List.mem_of_getElem? (i := 305) (by decide +kernel), List.mem_of_getElem? (i := 984) (by decide +kernel), List.mem_of_getElem? (i := 985) (by decide +kernel)⟩
theorem lw_p40 : lw_okq (⟨"CoverTwo$Rows", "shortestBehind", "(III)I"⟩, 3) := ⟨⟨by decide +kernel, by decide +kernel⟩, List.mem_of_getElem? (i := 305) (by decide +kernel), List.mem_of_getElem? (i := 997) (by decide +kernel), List.mem_of_getElem? (i := 998) (by decide +kernel)⟩
theorem lw_p41 : lw_okq (⟨"CoverTwo$Rows", "bringsAbout", "(ZI)Z"⟩, 3) := ⟨⟨by decide +kernel, by decide +kernel⟩, List.mem_of_getElem? (i := 305) (by decide +kernel), List.mem_of_getElem? (i := 1016) (by decide +kernel), List.mem_of_getElem? (i := 1017) (by decide +kernel)⟩
theorem lw_p42 : lw_okq (⟨"CoverTwo$Orders", "stickUp", "(IIIZ)V"⟩, 6) := ⟨⟨by decide +kernel, by decide +kernel⟩, List.mem_of_getElem? (i := 324) (by decide +kernel), List.mem_of_getElem? (i := 1044) (by decide +kernel), List.mem_of_getElem? (i := 1045) (by decide +kernel)⟩
theorem lw_p43 : lw_okq (⟨"java/lang/Throwable", "fillInStackTrace", "(I)Ljava/lang/Throwable;"⟩, 6) := ⟨⟨by decide +kernel, by decide +kernel⟩, List.mem_of_getElem? (i := 1119) (by decide +kernel), List.mem_of_getElem? (i := 1117) (by decide +kernel), List.mem_of_getElem? (i := 1118) (by decide +kernel)⟩
theorem lw_p44 : lw_okq (⟨"CoverTwoModel", "refused", "(I)I"⟩, 41) := ⟨⟨by decide +kernel, by decide +kernel⟩, List.mem_of_getElem? (i := 1148) (by decide +kernel), List.mem_of_getElem? (i := 1290) (by decide +kernel), List.mem_of_getElem? (i := 1291) (by decide +kernel)⟩
theorem lw_p45 : lw_okq (⟨"CoverTwoModel", "goesOn", "()V"⟩, 41) := ⟨⟨by decide +kernel, by decide +kernel⟩, List.mem_of_getElem? (i := 1148) (by decide +kernel), List.mem_of_getElem? (i := 1397) (by decide +kernel), List.mem_of_getElem? (i := 1398) (by decide +kernel)⟩
theorem lw_p46 : lw_okq (⟨"CoverTwoModel", "byteAt", "(I)I"⟩, 41) := ⟨⟨by decide +kernel, by decide +kernel⟩, List.mem_of_getElem? (i := 1148) (by decide +kernel), List.mem_of_getElem? (i := 1401) (by decide +kernel), List.mem_of_getElem? (i := 1402) (by decide +kernel)⟩
theorem lw_p47 : lw_okq (⟨"CoverTwoModel", "readAll", "()V"⟩, 41) := ⟨⟨by decide +kernel, by decide +kernel⟩, List.mem_of_getElem? (i := 1148) (by decide +kernel), List.mem_of_getElem? (i := 1412) (by decide +kernel), List.mem_of_getElem? (i := 1413) (by decide +kernel)⟩
def lw_privs_3 : List (MethodName × Nat) := [(⟨"CoverTwo", "deny", "(I)Z"⟩, 11), (⟨"CoverTwo$Shelf", "slot", "(I)I"⟩, 3), (⟨"CoverTwo", "grant", "()Z"⟩, 11), (⟨"CoverTwo", "isWord", "(I)Z"⟩, 11), (⟨"CoverTwo$Rows", "moves", "()I"⟩, 3), (⟨"CoverTwo$Rows", "countBehind", "(II)Z"⟩, 3), (⟨"CoverTwo$Rows", "push", "(II)V"⟩, 3), (⟨"CoverTwo$Rows", "pop", "()V"⟩, 3), (⟨"CoverTwo$Rows", "shortestBehind", "(III)I"⟩, 3), (⟨"CoverTwo$Rows", "bringsAbout", "(ZI)Z"⟩, 3), (⟨"CoverTwo$Orders", "stickUp", "(IIIZ)V"⟩, 6), (⟨"java/lang/Throwable", "fillInStackTrace", "(I)Ljava/lang/Throwable;"⟩, 6), (⟨"CoverTwoModel", "refused", "(I)I"⟩, 41), (⟨"CoverTwoModel", "goesOn", "()V"⟩, 41), (⟨"CoverTwoModel", "byteAt", "(I)I"⟩, 41), (⟨"CoverTwoModel", "readAll", "()V"⟩, 41)]
theorem lw_r3 : ∀ q ∈ lw_privs_3, lw_okq q := List.forall_mem_cons.mpr ⟨lw_p32, List.forall_mem_cons.mpr ⟨lw_p33, List.forall_mem_cons.mpr ⟨lw_p34, List.forall_mem_cons.mpr ⟨lw_p35, List.forall_mem_cons.mpr ⟨lw_p36, List.forall_mem_cons.mpr ⟨lw_p37, List.forall_mem_cons.mpr ⟨lw_p38, List.forall_mem_cons.mpr ⟨lw_p39, List.forall_mem_cons.mpr ⟨lw_p40, List.forall_mem_cons.mpr ⟨lw_p41, List.forall_mem_cons.mpr ⟨lw_p42, List.forall_mem_cons.mpr ⟨lw_p43, List.forall_mem_cons.mpr ⟨lw_p44, List.forall_mem_cons.mpr ⟨lw_p45, List.forall_mem_cons.mpr ⟨lw_p46, List.forall_mem_cons.mpr ⟨lw_p47, fun _ h => absurd h List.not_mem_nil⟩⟩⟩⟩⟩⟩⟩⟩⟩⟩⟩⟩⟩⟩⟩⟩
theorem lw_p48 : lw_okq (⟨"CoverTwoModel", "readLine", "()V"⟩, 41) := ⟨⟨by decide +kernel, by decide +kernel⟩, List.mem_of_getElem? (i := 1148) (by decide +kernel), List.mem_of_getElem? (i := 1416) (by decide +kernel), List.mem_of_getElem? (i := 1417) (by decide +kernel)⟩
theorem lw_p49 : lw_okq (⟨"CoverTwoModel", "isWord", "(Ljava/lang/String;)Z"⟩, 41) := ⟨⟨by decide +kernel, by decide +kernel⟩, List.mem_of_getElem? (i := 1148) (by decide +kernel), List.mem_of_getElem? (i := 1421) (by decide +kernel), List.mem_of_getElem? (i := 1422) (by decide +kernel)⟩
theorem lw_p50 : lw_okq (⟨"CoverTwoModel", "readWall", "()V"⟩, 41) := ⟨⟨by decide +kernel, by decide +kernel⟩, List.mem_of_getElem? (i := 1148) (by decide +kernel), List.mem_of_getElem? (i := 1430) (by decide +kernel), List.mem_of_getElem? (i := 1431) (by decide +kernel)⟩
theorem lw_p51 : lw_okq (⟨"CoverTwoModel", "flaw", "(I)V"⟩, 41) := ⟨⟨by decide +kernel, by decide +kernel⟩, List.mem_of_getElem? (i := 1148) (by decide +kernel), List.mem_of_getElem? (i := 1434) (by decide +kernel), List.mem_of_getElem? (i := 1435) (by decide +kernel)⟩
theorem lw_p52 : lw_okq (⟨"CoverTwoModel", "readPart", "(Ljava/lang/String;II)I"⟩, 41) := ⟨⟨by decide +kernel, by decide +kernel⟩, List.mem_of_getElem? (i := 1148) (by decide +kernel), List.mem_of_getElem? (i := 1439) (by decide +kernel), List.mem_of_getElem? (i := 1440) (by decide +kernel)⟩
theorem lw_p53 : lw_okq (⟨"CoverTwoModel", "needs", "(Ljava/lang/String;)V"⟩, 41) := ⟨⟨by decide +kernel, by decide +kernel⟩, List.mem_of_getElem? (i := 1148) (by decide +kernel), List.mem_of_getElem? (i := 1443) (by decide +kernel), List.mem_of_getElem? (i := 1444) (by decide +kernel)⟩
theorem lw_p54 : lw_okq (⟨"CoverTwoModel", "readWhole", "(II)I"⟩, 41) := ⟨⟨by decide +kernel, by decide +kernel⟩, List.mem_of_getElem? (i := 1148) (by decide +kernel), List.mem_of_getElem? (i := 1447) (by decide +kernel), List.mem_of_getElem? (i := 1448) (by decide +kernel)⟩
theorem lw_p55 : lw_okq (⟨"CoverTwoModel", "readBill", "()V"⟩, 41) := ⟨⟨by decide +kernel, by decide +kernel⟩, List.mem_of_getElem? (i := 1148) (by decide +kernel), List.mem_of_getElem? (i := 1459) (by decide +kernel), List.mem_of_getElem? (i := 1460) (by decide +kernel)⟩
theorem lw_p56 : lw_okq (⟨"CoverTwoModel", "begins", "(IIZ)V"⟩, 41) := ⟨⟨by decide +kernel, by decide +kernel⟩, List.mem_of_getElem? (i := 1148) (by decide +kernel), List.mem_of_getElem? (i := 1463) (by decide +kernel), List.mem_of_getElem? (i := 1464) (by decide +kernel)⟩
theorem lw_p57 : lw_okq (⟨"CoverTwoModel", "readFresh", "()J"⟩, 41) := ⟨⟨by decide +kernel, by decide +kernel⟩, List.mem_of_getElem? (i := 1148) (by decide +kernel), List.mem_of_getElem? (i := 1467) (by decide +kernel), List.mem_of_getElem? (i := 1468) (by decide +kernel)⟩
theorem lw_p58 : lw_okq (⟨"CoverTwoModel", "isName", "()Z"⟩, 41) := ⟨⟨by decide +kernel, by decide +kernel⟩, List.mem_of_getElem? (i := 1148) (by decide +kernel), List.mem_of_getElem? (i := 1471) (by decide +kernel), List.mem_of_getElem? (i := 1472) (by decide +kernel)⟩
theorem lw_p59 : lw_okq (⟨"CoverTwoModel", "eatsWord", "(Ljava/lang/String;)Z"⟩, 41) := ⟨⟨by decide +kernel, by decide +kernel⟩, List.mem_of_getElem? (i := 1148) (by decide +kernel), List.mem_of_getElem? (i := 1484) (by decide +kernel), List.mem_of_getElem? (i := 1485) (by decide +kernel)⟩
theorem lw_p60 : lw_okq (⟨"CoverTwoModel", "names", "(JII)V"⟩, 41) := ⟨⟨by decide +kernel, by decide +kernel⟩, List.mem_of_getElem? (i := 1148) (by decide +kernel), List.mem_of_getElem? (i := 1492) (by decide +kernel), List.mem_of_getElem? (i := 1493) (by decide +kernel)⟩
theorem lw_p61 : lw_okq (⟨"CoverTwoModel", "readRival", "()V"⟩, 41) := ⟨⟨by decide +kernel, by decide +kernel⟩, List.mem_of_getElem? (i := 1148) (by decide +kernel), List.mem_of_getElem? (i := 1496) (by decide +kernel), List.mem_of_getElem? (i := 1497) (by decide +kernel)⟩
theorem lw_p62 : lw_okq (⟨"CoverTwoModel", "readWord", "()V"⟩, 41) := ⟨⟨by decide +kernel, by decide +kernel⟩, List.mem_of_getElem? (i := 1148) (by decide +kernel), List.mem_of_getElem? (i := 1501) (by decide +kernel), List.mem_of_getElem? (i := 1502) (by decide +kernel)⟩
theorem lw_p63 : lw_okq (⟨"CoverTwoModel", "readFounder", "()V"⟩, 41) := ⟨⟨by decide +kernel, by decide +kernel⟩, List.mem_of_getElem? (i := 1148) (by decide +kernel), List.mem_of_getElem? (i := 1509) (by decide +kernel), List.mem_of_getElem? (i := 1510) (by decide +kernel)⟩
def lw_privs_4 : List (MethodName × Nat) := [(⟨"CoverTwoModel", "readLine", "()V"⟩, 41), (⟨"CoverTwoModel", "isWord", "(Ljava/lang/String;)Z"⟩, 41), (⟨"CoverTwoModel", "readWall", "()V"⟩, 41), (⟨"CoverTwoModel", "flaw", "(I)V"⟩, 41), (⟨"CoverTwoModel", "readPart", "(Ljava/lang/String;II)I"⟩, 41), (⟨"CoverTwoModel", "needs", "(Ljava/lang/String;)V"⟩, 41), (⟨"CoverTwoModel", "readWhole", "(II)I"⟩, 41), (⟨"CoverTwoModel", "readBill", "()V"⟩, 41), (⟨"CoverTwoModel", "begins", "(IIZ)V"⟩, 41), (⟨"CoverTwoModel", "readFresh", "()J"⟩, 41), (⟨"CoverTwoModel", "isName", "()Z"⟩, 41), (⟨"CoverTwoModel", "eatsWord", "(Ljava/lang/String;)Z"⟩, 41), (⟨"CoverTwoModel", "names", "(JII)V"⟩, 41), (⟨"CoverTwoModel", "readRival", "()V"⟩, 41), (⟨"CoverTwoModel", "readWord", "()V"⟩, 41), (⟨"CoverTwoModel", "readFounder", "()V"⟩, 41)]
theorem lw_r4 : ∀ q ∈ lw_privs_4, lw_okq q := List.forall_mem_cons.mpr ⟨lw_p48, List.forall_mem_cons.mpr ⟨lw_p49, List.forall_mem_cons.mpr ⟨lw_p50, List.forall_mem_cons.mpr ⟨lw_p51, List.forall_mem_cons.mpr ⟨lw_p52, List.forall_mem_cons.mpr ⟨lw_p53, List.forall_mem_cons.mpr ⟨lw_p54, List.forall_mem_cons.mpr ⟨lw_p55, List.forall_mem_cons.mpr ⟨lw_p56, List.forall_mem_cons.mpr ⟨lw_p57, List.forall_mem_cons.mpr ⟨lw_p58, List.forall_mem_cons.mpr ⟨lw_p59, List.forall_mem_cons.mpr ⟨lw_p60, List.forall_mem_cons.mpr ⟨lw_p61, List.forall_mem_cons.mpr ⟨lw_p62, List.forall_mem_cons.mpr ⟨lw_p63, fun _ h => absurd h List.not_mem_nil⟩⟩⟩⟩⟩⟩⟩⟩⟩⟩⟩⟩⟩⟩⟩⟩
theorem lw_p64 : lw_okq (⟨"CoverTwoModel", "readPlaced", "()I"⟩, 41) := ⟨⟨by decide +kernel, by decide +kernel⟩, List.mem_of_getElem? (i := 1148) (by decide +kernel), List.mem_of_getElem? (i := 1513) (by decide +kernel), List.mem_of_getElem? (i := 1514) (by decide +kernel)⟩
theorem lw_p65 : lw_okq (⟨"CoverTwoModel", "known", "(I)I"⟩, 41) := ⟨⟨by decide +kernel, by decide +kernel⟩, List.mem_of_getElem? (i := 1148) (by decide +kernel), List.mem_of_getElem? (i := 1517) (by decide +kernel), List.mem_of_getElem? (i := 1518) (by decide +kernel)⟩
theorem lw_p66 : lw_okq (⟨"CoverTwoModel", "eatsSign", "(I)Z"⟩, 41) := ⟨⟨by decide +kernel, by decide +kernel⟩, List.mem_of_getElem? (i := 1148) (by decide +kernel), List.mem_of_getElem? (i := 1522) (by decide +kernel), List.mem_of_getElem? (i := 1523) (by decide +kernel)⟩
theorem lw_p67 : lw_okq (⟨"CoverTwoModel", "readPaste", "()V"⟩, 41) := ⟨⟨by decide +kernel, by decide +kernel⟩, List.mem_of_getElem? (i := 1148) (by decide +kernel), List.mem_of_getElem? (i := 1534) (by decide +kernel), List.mem_of_getElem? (i := 1535) (by decide +kernel)⟩
theorem lw_p68 : lw_okq (⟨"CoverTwoModel", "mayGo", "(LCoverTwoModel$Wall;LCoverTwoModel$Hung;III)Z"⟩, 41) := ⟨⟨by decide +kernel, by decide +kernel⟩, List.mem_of_getElem? (i := 1148) (by decide +kernel), List.mem_of_getElem? (i := 1539) (by decide +kernel), List.mem_of_getElem? (i := 1540) (by decide +kernel)⟩
theorem lw_p69 : lw_okq (⟨"CoverTwoModel", "couldGo", "(LCoverTwoModel$Wall;LCoverTwoModel$Hung;IIIIZ)Z"⟩, 41) := ⟨⟨by decide +kernel, by decide +kernel⟩, List.mem_of_getElem? (i := 1148) (by decide +kernel), List.mem_of_getElem? (i := 1543) (by decide +kernel), List.mem_of_getElem? (i := 1544) (by decide +kernel)⟩
theorem lw_p70 : lw_okq (⟨"CoverTwoModel", "liesOn", "(LCoverTwoModel$Wall;LCoverTwoModel$Hung;IIIZ)I"⟩, 41) := ⟨⟨by decide +kernel, by decide +kernel⟩, List.mem_of_getElem? (i := 1148) (by decide +kernel), List.mem_of_getElem? (i := 1551) (by decide +kernel), List.mem_of_getElem? (i := 1552) (by decide +kernel)⟩
theorem lw_p71 : lw_okq (⟨"CoverTwoModel", "looks", "(LCoverTwoModel$Wall;LCoverTwoModel$Hung;)V"⟩, 41) := ⟨⟨by decide +kernel, by decide +kernel⟩, List.mem_of_getElem? (i := 1148) (by decide +kernel), List.mem_of_getElem? (i := 1556) (by decide +kernel), List.mem_of_getElem? (i := 1557) (by decide +kernel)⟩
theorem lw_p72 : lw_okq (⟨"CoverTwoModel", "seenOf", "(I)J"⟩, 41) := ⟨⟨by decide +kernel, by decide +kernel⟩, List.mem_of_getElem? (i := 1148) (by decide +kernel), List.mem_of_getElem? (i := 1560) (by decide +kernel), List.mem_of_getElem? (i := 1561) (by decide +kernel)⟩
theorem lw_p73 : lw_okq (⟨"CoverTwoModel", "makesWord", "(LCoverTwoModel$Wall;LCoverTwoModel$Hung;III)Z"⟩, 41) := ⟨⟨by decide +kernel, by decide +kernel⟩, List.mem_of_getElem? (i := 1148) (by decide +kernel), List.mem_of_getElem? (i := 1564) (by decide +kernel), List.mem_of_getElem? (i := 1565) (by decide +kernel)⟩
theorem lw_p74 : lw_okq (⟨"CoverTwoModel", "readsNow", "(LCoverTwoModel$Wall;LCoverTwoModel$Hung;I)I"⟩, 41) := ⟨⟨by decide +kernel, by decide +kernel⟩, List.mem_of_getElem? (i := 1148) (by decide +kernel), List.mem_of_getElem? (i := 1568) (by decide +kernel), List.mem_of_getElem? (i := 1569) (by decide +kernel)⟩
theorem lw_p75 : lw_okq (⟨"CoverTwoModel", "stands", "(LCoverTwoModel$Wall;LCoverTwoModel$Hung;II)Z"⟩, 41) := ⟨⟨by decide +kernel, by decide +kernel⟩, List.mem_of_getElem? (i := 1148) (by decide +kernel), List.mem_of_getElem? (i := 1572) (by decide +kernel), List.mem_of_getElem? (i := 1573) (by decide +kernel)⟩
theorem lw_p76 : lw_okq (⟨"CoverTwoModel", "letterAt", "(LCoverTwoModel$Wall;LCoverTwoModel$Hung;I)I"⟩, 41) := ⟨⟨by decide +kernel, by decide +kernel⟩, List.mem_of_getElem? (i := 1148) (by decide +kernel), List.mem_of_getElem? (i := 1576) (by decide +kernel), List.mem_of_getElem? (i := 1577) (by decide +kernel)⟩
theorem lw_p77 : lw_okq (⟨"CoverTwoModel", "good", "(I)I"⟩, 41) := ⟨⟨by decide +kernel, by decide +kernel⟩, List.mem_of_getElem? (i := 1148) (by decide +kernel), List.mem_of_getElem? (i := 1584) (by decide +kernel), List.mem_of_getElem? (i := 1585) (by decide +kernel)⟩
theorem lw_p78 : lw_okq (⟨"CoverTwoModel", "isBill", "(I)Z"⟩, 41) := ⟨⟨by decide +kernel, by decide +kernel⟩, List.mem_of_getElem? (i := 1148) (by decide +kernel), List.mem_of_getElem? (i := 1600) (by decide +kernel), List.mem_of_getElem? (i := 1601) (by decide +kernel)⟩
theorem lw_p79 : lw_okq (⟨"CoverTwoModel", "isHung", "(I)Z"⟩, 41) := ⟨⟨by decide +kernel, by decide +kernel⟩, List.mem_of_getElem? (i := 1148) (by decide +kernel), List.mem_of_getElem? (i := 1612) (by decide +kernel), List.mem_of_getElem? (i := 1613) (by decide +kernel)⟩
def lw_privs_5 : List (MethodName × Nat) := [(⟨"CoverTwoModel", "readPlaced", "()I"⟩, 41), (⟨"CoverTwoModel", "known", "(I)I"⟩, 41), (⟨"CoverTwoModel", "eatsSign", "(I)Z"⟩, 41), (⟨"CoverTwoModel", "readPaste", "()V"⟩, 41), (⟨"CoverTwoModel", "mayGo", "(LCoverTwoModel$Wall;LCoverTwoModel$Hung;III)Z"⟩, 41), (⟨"CoverTwoModel", "couldGo", "(LCoverTwoModel$Wall;LCoverTwoModel$Hung;IIIIZ)Z"⟩, 41), (⟨"CoverTwoModel", "liesOn", "(LCoverTwoModel$Wall;LCoverTwoModel$Hung;IIIZ)I"⟩, 41), (⟨"CoverTwoModel", "looks", "(LCoverTwoModel$Wall;LCoverTwoModel$Hung;)V"⟩, 41), (⟨"CoverTwoModel", "seenOf", "(I)J"⟩, 41), (⟨"CoverTwoModel", "makesWord", "(LCoverTwoModel$Wall;LCoverTwoModel$Hung;III)Z"⟩, 41), (⟨"CoverTwoModel", "readsNow", "(LCoverTwoModel$Wall;LCoverTwoModel$Hung;I)I"⟩, 41), (⟨"CoverTwoModel", "stands", "(LCoverTwoModel$Wall;LCoverTwoModel$Hung;II)Z"⟩, 41), (⟨"CoverTwoModel", "letterAt", "(LCoverTwoModel$Wall;LCoverTwoModel$Hung;I)I"⟩, 41), (⟨"CoverTwoModel", "good", "(I)I"⟩, 41), (⟨"CoverTwoModel", "isBill", "(I)Z"⟩, 41), (⟨"CoverTwoModel", "isHung", "(I)Z"⟩, 41)]
theorem lw_r5 : ∀ q ∈ lw_privs_5, lw_okq q := List.forall_mem_cons.mpr ⟨lw_p64, List.forall_mem_cons.mpr ⟨lw_p65, List.forall_mem_cons.mpr ⟨lw_p66, List.forall_mem_cons.mpr ⟨lw_p67, List.forall_mem_cons.mpr ⟨lw_p68, List.forall_mem_cons.mpr ⟨lw_p69, List.forall_mem_cons.mpr ⟨lw_p70, List.forall_mem_cons.mpr ⟨lw_p71, List.forall_mem_cons.mpr ⟨lw_p72, List.forall_mem_cons.mpr ⟨lw_p73, List.forall_mem_cons.mpr ⟨lw_p74, List.forall_mem_cons.mpr ⟨lw_p75, List.forall_mem_cons.mpr ⟨lw_p76, List.forall_mem_cons.mpr ⟨lw_p77, List.forall_mem_cons.mpr ⟨lw_p78, List.forall_mem_cons.mpr ⟨lw_p79, fun _ h => absurd h List.not_mem_nil⟩⟩⟩⟩⟩⟩⟩⟩⟩⟩⟩⟩⟩⟩⟩⟩
theorem lw_p80 : lw_okq (⟨"CoverTwoModel", "isCell", "(II)Z"⟩, 41) := ⟨⟨by decide +kernel, by decide +kernel⟩, List.mem_of_getElem? (i := 1148) (by decide +kernel), List.mem_of_getElem? (i := 1623) (by decide +kernel), List.mem_of_getElem? (i := 1624) (by decide +kernel)⟩
theorem lw_p81 : lw_okq (⟨"CoverTwoModel", "refusesPlace", "(III)I"⟩, 41) := ⟨⟨by decide +kernel, by decide +kernel⟩, List.mem_of_getElem? (i := 1148) (by decide +kernel), List.mem_of_getElem? (i := 1647) (by decide +kernel), List.mem_of_getElem? (i := 1648) (by decide +kernel)⟩
theorem lw_p82 : lw_okq (⟨"CoverTwoModel", "isOn", "(III)Z"⟩, 41) := ⟨⟨by decide +kernel, by decide +kernel⟩, List.mem_of_getElem? (i := 1148) (by decide +kernel), List.mem_of_getElem? (i := 1651) (by decide +kernel), List.mem_of_getElem? (i := 1652) (by decide +kernel)⟩
theorem lw_p83 : lw_okq (⟨"CoverTwoModel", "cells", "()I"⟩, 41) := ⟨⟨by decide +kernel, by decide +kernel⟩, List.mem_of_getElem? (i := 1148) (by decide +kernel), List.mem_of_getElem? (i := 1663) (by decide +kernel), List.mem_of_getElem? (i := 1664) (by decide +kernel)⟩
theorem lw_p84 : lw_okq (⟨"CoverTwoModel", "isOnAt", "(II)Z"⟩, 41) := ⟨⟨by decide +kernel, by decide +kernel⟩, List.mem_of_getElem? (i := 1148) (by decide +kernel), List.mem_of_getElem? (i := 1667) (by decide +kernel), List.mem_of_getElem? (i := 1668) (by decide +kernel)⟩
theorem lw_p85 : lw_okq (⟨"CoverTwoModel", "mayAt", "(II)Z"⟩, 41) := ⟨⟨by decide +kernel, by decide +kernel⟩, List.mem_of_getElem? (i := 1148) (by decide +kernel), List.mem_of_getElem? (i := 1671) (by decide +kernel), List.mem_of_getElem? (i := 1672) (by decide +kernel)⟩
theorem lw_p86 : lw_okq (⟨"CoverTwoModel", "isFull", "()Z"⟩, 41) := ⟨⟨by decide +kernel, by decide +kernel⟩, List.mem_of_getElem? (i := 1148) (by decide +kernel), List.mem_of_getElem? (i := 1683) (by decide +kernel), List.mem_of_getElem? (i := 1684) (by decide +kernel)⟩
theorem lw_p87 : lw_okq (⟨"CoverTwoModel", "isRival", "(I)Z"⟩, 41) := ⟨⟨by decide +kernel, by decide +kernel⟩, List.mem_of_getElem? (i := 1148) (by decide +kernel), List.mem_of_getElem? (i := 1695) (by decide +kernel), List.mem_of_getElem? (i := 1696) (by decide +kernel)⟩
theorem lw_p88 : lw_okq (⟨"CoverTwoModel", "denied", "(I)Z"⟩, 41) := ⟨⟨by decide +kernel, by decide +kernel⟩, List.mem_of_getElem? (i := 1148) (by decide +kernel), List.mem_of_getElem? (i := 1699) (by decide +kernel), List.mem_of_getElem? (i := 1700) (by decide +kernel)⟩
theorem lw_p89 : lw_okq (⟨"CoverTwoModel", "keeps", "()V"⟩, 41) := ⟨⟨by decide +kernel, by decide +kernel⟩, List.mem_of_getElem? (i := 1148) (by decide +kernel), List.mem_of_getElem? (i := 1703) (by decide +kernel), List.mem_of_getElem? (i := 1704) (by decide +kernel)⟩
theorem lw_p90 : lw_okq (⟨"CoverTwoModel", "granted", "()Z"⟩, 41) := ⟨⟨by decide +kernel, by decide +kernel⟩, List.mem_of_getElem? (i := 1148) (by decide +kernel), List.mem_of_getElem? (i := 1707) (by decide +kernel), List.mem_of_getElem? (i := 1708) (by decide +kernel)⟩
theorem lw_p91 : lw_okq (⟨"CoverTwoModel", "seenBy", "(I)I"⟩, 41) := ⟨⟨by decide +kernel, by decide +kernel⟩, List.mem_of_getElem? (i := 1148) (by decide +kernel), List.mem_of_getElem? (i := 1727) (by decide +kernel), List.mem_of_getElem? (i := 1728) (by decide +kernel)⟩
theorem lw_p92 : lw_okq (⟨"CoverTwoModel", "isTold", "(I)Z"⟩, 41) := ⟨⟨by decide +kernel, by decide +kernel⟩, List.mem_of_getElem? (i := 1148) (by decide +kernel), List.mem_of_getElem? (i := 1747) (by decide +kernel), List.mem_of_getElem? (i := 1748) (by decide +kernel)⟩
theorem lw_p93 : lw_okq (⟨"CoverTwoModel", "readFrom", "(I)I"⟩, 41) := ⟨⟨by decide +kernel, by decide +kernel⟩, List.mem_of_getElem? (i := 1148) (by decide +kernel), List.mem_of_getElem? (i := 1755) (by decide +kernel), List.mem_of_getElem? (i := 1756) (by decide +kernel)⟩
theorem lw_p94 : lw_okq (⟨"CoverTwoModel", "staysNow", "(II)I"⟩, 41) := ⟨⟨by decide +kernel, by decide +kernel⟩, List.mem_of_getElem? (i := 1148) (by decide +kernel), List.mem_of_getElem? (i := 1771) (by decide +kernel), List.mem_of_getElem? (i := 1772) (by decide +kernel)⟩
theorem lw_p95 : lw_okq (⟨"CoverTwoModel", "pasted", "(II)V"⟩, 41) := ⟨⟨by decide +kernel, by decide +kernel⟩, List.mem_of_getElem? (i := 1148) (by decide +kernel), List.mem_of_getElem? (i := 1775) (by decide +kernel), List.mem_of_getElem? (i := 1776) (by decide +kernel)⟩
def lw_privs_6 : List (MethodName × Nat) := [(⟨"CoverTwoModel", "isCell", "(II)Z"⟩, 41), (⟨"CoverTwoModel", "refusesPlace", "(III)I"⟩, 41), (⟨"CoverTwoModel", "isOn", "(III)Z"⟩, 41), (⟨"CoverTwoModel", "cells", "()I"⟩, 41), (⟨"CoverTwoModel", "isOnAt", "(II)Z"⟩, 41), (⟨"CoverTwoModel", "mayAt", "(II)Z"⟩, 41), (⟨"CoverTwoModel", "isFull", "()Z"⟩, 41), (⟨"CoverTwoModel", "isRival", "(I)Z"⟩, 41), (⟨"CoverTwoModel", "denied", "(I)Z"⟩, 41), (⟨"CoverTwoModel", "keeps", "()V"⟩, 41), (⟨"CoverTwoModel", "granted", "()Z"⟩, 41), (⟨"CoverTwoModel", "seenBy", "(I)I"⟩, 41), (⟨"CoverTwoModel", "isTold", "(I)Z"⟩, 41), (⟨"CoverTwoModel", "readFrom", "(I)I"⟩, 41), (⟨"CoverTwoModel", "staysNow", "(II)I"⟩, 41), (⟨"CoverTwoModel", "pasted", "(II)V"⟩, 41)]
theorem lw_r6 : ∀ q ∈ lw_privs_6, lw_okq q := List.forall_mem_cons.mpr ⟨lw_p80, List.forall_mem_cons.mpr ⟨lw_p81, List.forall_mem_cons.mpr ⟨lw_p82, List.forall_mem_cons.mpr ⟨lw_p83, List.forall_mem_cons.mpr ⟨lw_p84, List.forall_mem_cons.mpr ⟨lw_p85, List.forall_mem_cons.mpr ⟨lw_p86, List.forall_mem_cons.mpr ⟨lw_p87, List.forall_mem_cons.mpr ⟨lw_p88, List.forall_mem_cons.mpr ⟨lw_p89, List.forall_mem_cons.mpr ⟨lw_p90, List.forall_mem_cons.mpr ⟨lw_p91, List.forall_mem_cons.mpr ⟨lw_p92, List.forall_mem_cons.mpr ⟨lw_p93, List.forall_mem_cons.mpr ⟨lw_p94, List.forall_mem_cons.mpr ⟨lw_p95, fun _ h => absurd h List.not_mem_nil⟩⟩⟩⟩⟩⟩⟩⟩⟩⟩⟩⟩⟩⟩⟩⟩
theorem lw_p96 : lw_okq (⟨"CoverTwoModel", "seenNow", "(I)I"⟩, 41) := ⟨⟨by decide +kernel, by decide +kernel⟩, List.mem_of_getElem? (i := 1148) (by decide +kernel), List.mem_of_getElem? (i := 1779) (by decide +kernel), List.mem_of_getElem? (i := 1780) (by decide +kernel)⟩
theorem lw_p97 : lw_okq (⟨"CoverTwoModel", "refusesSafely", "(I)I"⟩, 41) := ⟨⟨by decide +kernel, by decide +kernel⟩, List.mem_of_getElem? (i := 1148) (by decide +kernel), List.mem_of_getElem? (i := 1791) (by decide +kernel), List.mem_of_getElem? (i := 1792) (by decide +kernel)⟩
theorem lw_p98 : lw_okq (⟨"CoverTwoModel", "refusesRows", "(I)I"⟩, 41) := ⟨⟨by decide +kernel, by decide +kernel⟩, List.mem_of_getElem? (i := 1148) (by decide +kernel), List.mem_of_getElem? (i := 1795) (by decide +kernel), List.mem_of_getElem? (i := 1796) (by decide +kernel)⟩
theorem lw_p99 : lw_okq (⟨"CoverTwoModel", "goes", "(II)Z"⟩, 41) := ⟨⟨by decide +kernel, by decide +kernel⟩, List.mem_of_getElem? (i := 1148) (by decide +kernel), List.mem_of_getElem? (i := 1799) (by decide +kernel), List.mem_of_getElem? (i := 1800) (by decide +kernel)⟩
theorem lw_p100 : lw_okq (⟨"CoverTwoModel", "winsNow", "(I)Z"⟩, 41) := ⟨⟨by decide +kernel, by decide +kernel⟩, List.mem_of_getElem? (i := 1148) (by decide +kernel), List.mem_of_getElem? (i := 1811) (by decide +kernel), List.mem_of_getElem? (i := 1812) (by decide +kernel)⟩
theorem lw_p101 : lw_okq (⟨"CoverTwoModel", "loses", "(I)Z"⟩, 41) := ⟨⟨by decide +kernel, by decide +kernel⟩, List.mem_of_getElem? (i := 1148) (by decide +kernel), List.mem_of_getElem? (i := 1815) (by decide +kernel), List.mem_of_getElem? (i := 1816) (by decide +kernel)⟩
theorem lw_p102 : lw_okq (⟨"CoverTwoModel", "goesFor", "(III)Z"⟩, 41) := ⟨⟨by decide +kernel, by decide +kernel⟩, List.mem_of_getElem? (i := 1148) (by decide +kernel), List.mem_of_getElem? (i := 1823) (by decide +kernel), List.mem_of_getElem? (i := 1824) (by decide +kernel)⟩
theorem lw_p103 : lw_okq (⟨"CoverTwoModel", "isAllBy", "(I)Z"⟩, 41) := ⟨⟨by decide +kernel, by decide +kernel⟩, List.mem_of_getElem? (i := 1148) (by decide +kernel), List.mem_of_getElem? (i := 1827) (by decide +kernel), List.mem_of_getElem? (i := 1828) (by decide +kernel)⟩
theorem lw_p104 : lw_okq (⟨"CoverTwoModel", "firstPlace", "(IIZ)I"⟩, 41) := ⟨⟨by decide +kernel, by decide +kernel⟩, List.mem_of_getElem? (i := 1148) (by decide +kernel), List.mem_of_getElem? (i := 1835) (by decide +kernel), List.mem_of_getElem? (i := 1836) (by decide +kernel)⟩
theorem lw_p105 : lw_okq (⟨"CoverTwoModel", "ordersNow", "(II)I"⟩, 41) := ⟨⟨by decide +kernel, by decide +kernel⟩, List.mem_of_getElem? (i := 1148) (by decide +kernel), List.mem_of_getElem? (i := 1843) (by decide +kernel), List.mem_of_getElem? (i := 1844) (by decide +kernel)⟩
theorem lw_p106 : lw_okq (⟨"CoverTwoModel", "comes", "(I)I"⟩, 41) := ⟨⟨by decide +kernel, by decide +kernel⟩, List.mem_of_getElem? (i := 1148) (by decide +kernel), List.mem_of_getElem? (i := 1847) (by decide +kernel), List.mem_of_getElem? (i := 1848) (by decide +kernel)⟩
theorem lw_p107 : lw_okq (⟨"CoverTwoModel", "looksSame", "()Z"⟩, 41) := ⟨⟨by decide +kernel, by decide +kernel⟩, List.mem_of_getElem? (i := 1148) (by decide +kernel), List.mem_of_getElem? (i := 1851) (by decide +kernel), List.mem_of_getElem? (i := 1852) (by decide +kernel)⟩
def lw_privs_7 : List (MethodName × Nat) := [(⟨"CoverTwoModel", "seenNow", "(I)I"⟩, 41), (⟨"CoverTwoModel", "refusesSafely", "(I)I"⟩, 41), (⟨"CoverTwoModel", "refusesRows", "(I)I"⟩, 41), (⟨"CoverTwoModel", "goes", "(II)Z"⟩, 41), (⟨"CoverTwoModel", "winsNow", "(I)Z"⟩, 41), (⟨"CoverTwoModel", "loses", "(I)Z"⟩, 41), (⟨"CoverTwoModel", "goesFor", "(III)Z"⟩, 41), (⟨"CoverTwoModel", "isAllBy", "(I)Z"⟩, 41), (⟨"CoverTwoModel", "firstPlace", "(IIZ)I"⟩, 41), (⟨"CoverTwoModel", "ordersNow", "(II)I"⟩, 41), (⟨"CoverTwoModel", "comes", "(I)I"⟩, 41), (⟨"CoverTwoModel", "looksSame", "()Z"⟩, 41)]
theorem lw_r7 : ∀ q ∈ lw_privs_7, lw_okq q := List.forall_mem_cons.mpr ⟨lw_p96, List.forall_mem_cons.mpr ⟨lw_p97, List.forall_mem_cons.mpr ⟨lw_p98, List.forall_mem_cons.mpr ⟨lw_p99, List.forall_mem_cons.mpr ⟨lw_p100, List.forall_mem_cons.mpr ⟨lw_p101, List.forall_mem_cons.mpr ⟨lw_p102, List.forall_mem_cons.mpr ⟨lw_p103, List.forall_mem_cons.mpr ⟨lw_p104, List.forall_mem_cons.mpr ⟨lw_p105, List.forall_mem_cons.mpr ⟨lw_p106, List.forall_mem_cons.mpr ⟨lw_p107, fun _ h => absurd h List.not_mem_nil⟩⟩⟩⟩⟩⟩⟩⟩⟩⟩⟩⟩
def lw_privs : List (MethodName × Nat) := lw_privs_1 ++ (lw_privs_2 ++ (lw_privs_3 ++ (lw_privs_4 ++ (lw_privs_5 ++ (lw_privs_6 ++ (lw_privs_7))))))
def lw_tbl : List Cond := k2_sels lw_privs ++ tables_1
theorem lw_privs_ok : ∀ q ∈ lw_privs, lw_okq q := by
  show ∀ q ∈ lw_privs_1 ++ (lw_privs_2 ++ (lw_privs_3 ++ (lw_privs_4 ++ (lw_privs_5 ++ (lw_privs_6 ++ (lw_privs_7)))))), lw_okq q
  exact List.forall_mem_append.mpr ⟨lw_r1, List.forall_mem_append.mpr ⟨lw_r2, List.forall_mem_append.mpr ⟨lw_r3, List.forall_mem_append.mpr ⟨lw_r4, List.forall_mem_append.mpr ⟨lw_r5, List.forall_mem_append.mpr ⟨lw_r6, lw_r7⟩⟩⟩⟩⟩⟩
def RX0 : String := "CoverTwo$Hung"
def TX0 : u_T := fun k => match k with
  | 0 => ("CoverTwo$Hung", "told", "LCoverTwo$Told;", false)
  | 1 => ("CoverTwo$Hung", "count", "I", false)
  | 2 => ("CoverTwo$Hung", "founders", "I", false)
  | 3 => ("CoverTwo$Hung", "lasts", "I", false)
  | 4 => ("CoverTwo$Hung", "bill", "[I", true)
  | 5 => ("CoverTwo$Hung", "corner", "[I", true)
  | 6 => ("CoverTwo$Hung", "by", "[I", true)
  | 7 => ("CoverTwo$Hung", "cells", "[I", true)
  | 8 => ("CoverTwo$Hung", "seen", "[I", true)
  | 9 => ("CoverTwo$Hung", "sheets", "[I", true)
  | 10 => ("CoverTwo$Hung", "paid", "[I", true)
  | 11 => ("CoverTwo$Hung", "letters", "[J", true)
  | _ => ("CoverTwo$Hung", "lettersKnown", "Z", false)
def tyX0 : Nat → FieldType := fun k => match k with
  | 0 => .object "CoverTwo$Told"
  | 1 => .int
  | 2 => .int
  | 3 => .int
  | 4 => .array .int
  | 5 => .array .int
  | 6 => .array .int
  | 7 => .array .int
  | 8 => .array .int
  | 9 => .array .int
  | 10 => .array .int
  | 11 => .array .long
  | _ => .boolean
abbrev wsX00 : List Cond := u_ws RX0 TX0 13
theorem nmX0 : ∀ a, a < 13 → ∀ b, b < 13 → a ≠ b → (TX0 a).2.1 ≠ (TX0 b).2.1 := by decide +kernel
theorem tyX0_ok : ∀ k, k < 13 → parseFieldDescriptor (TX0 k).2.2.1 = some (tyX0 k) := by decide +kernel
abbrev cX0_init : ByteArray := prog_2_method_1_code
def yX0_init : MethodName := ⟨RX0, "<init>", "()V"⟩
abbrev cX0_clear : ByteArray := prog_2_method_2_code
def yX0_clear : MethodName := ⟨RX0, "clear", "()V"⟩
abbrev cX0_hangAs : ByteArray := prog_2_method_3_code
def yX0_hangAs : MethodName := ⟨RX0, "hangAs", "(LCoverTwo$Hung;)V"⟩
abbrev cX0_put : ByteArray := prog_2_method_4_code
def yX0_put : MethodName := ⟨RX0, "put", "(III)V"⟩
abbrev cX0_cutTo : ByteArray := prog_2_method_5_code
def yX0_cutTo : MethodName := ⟨RX0, "cutTo", "(I)V"⟩
abbrev cX0_takeOut : ByteArray := prog_2_method_6_code
def yX0_takeOut : MethodName := ⟨RX0, "takeOut", "(I)V"⟩
abbrev cX0_look : ByteArray := prog_2_method_7_code
def yX0_look : MethodName := ⟨RX0, "look", "()V"⟩
abbrev cX0_writeTo : ByteArray := prog_2_method_8_code
def yX0_writeTo : MethodName := ⟨RX0, "writeTo", "([I)V"⟩
abbrev cX0_readFrom : ByteArray := prog_2_method_9_code
def yX0_readFrom : MethodName := ⟨RX0, "readFrom", "([I)V"⟩
abbrev cX0_latestAt : ByteArray := prog_2_method_10_code
def yX0_latestAt : MethodName := ⟨RX0, "latestAt", "(I)I"⟩
abbrev cX0_latestAt_ : ByteArray := prog_2_method_11_code
def yX0_latestAt_ : MethodName := ⟨RX0, "latestAt", "(II)I"⟩
abbrev cX0_touching : ByteArray := prog_2_method_12_code
def yX0_touching : MethodName := ⟨RX0, "touching", "(III)I"⟩
abbrev cX0_findUnseen : ByteArray := prog_2_method_13_code
def yX0_findUnseen : MethodName := ⟨RX0, "findUnseen", "(I)I"⟩
abbrev cX0_seenOf : ByteArray := prog_2_method_14_code
def yX0_seenOf : MethodName := ⟨RX0, "seenOf", "(I)I"⟩
abbrev cX0_isAllOf : ByteArray := prog_2_method_15_code
def yX0_isAllOf : MethodName := ⟨RX0, "isAllOf", "(I)Z"⟩
abbrev cX0_liesOn : ByteArray := prog_2_method_16_code
def yX0_liesOn : MethodName := ⟨RX0, "liesOn", "(IZI)I"⟩
abbrev cX0_mayGo : ByteArray := prog_2_method_17_code
def yX0_mayGo : MethodName := ⟨RX0, "mayGo", "(II)Z"⟩
abbrev cX0_couldGo : ByteArray := prog_2_method_18_code
def yX0_couldGo : MethodName := ⟨RX0, "couldGo", "(IIIZ)Z"⟩
abbrev cX0_countPlaces : ByteArray := prog_2_method_19_code
def yX0_countPlaces : MethodName := ⟨RX0, "countPlaces", "(IIZ)I"⟩
abbrev cX0_countMaking : ByteArray := prog_2_method_20_code
def yX0_countMaking : MethodName := ⟨RX0, "countMaking", "(I)I"⟩
abbrev cX0_findPlace : ByteArray := prog_2_method_21_code
def yX0_findPlace : MethodName := ⟨RX0, "findPlace", "(IIIZ)I"⟩
abbrev cX0_isFull : ByteArray := prog_2_method_22_code
def yX0_isFull : MethodName := ⟨RX0, "isFull", "()Z"⟩
abbrev cX0_knowLetters : ByteArray := prog_2_method_23_code
def yX0_knowLetters : MethodName := ⟨RX0, "knowLetters", "()V"⟩
abbrev cX0_codeAt : ByteArray := prog_2_method_24_code
def yX0_codeAt : MethodName := ⟨RX0, "codeAt", "(I)I"⟩
abbrev cX0_timesRead : ByteArray := prog_2_method_25_code
def yX0_timesRead : MethodName := ⟨RX0, "timesRead", "(I)I"⟩
abbrev cX0_firstRead : ByteArray := prog_2_method_26_code
def yX0_firstRead : MethodName := ⟨RX0, "firstRead", "(I)I"⟩
abbrev cX0_readsMoreWith : ByteArray := prog_2_method_27_code
def yX0_readsMoreWith : MethodName := ⟨RX0, "readsMoreWith", "(II)Z"⟩
def RX1 : String := "CoverTwo$Orders"
def TX1 : u_T := fun k => match k with
  | 0 => ("CoverTwo$Orders", "trial", "LCoverTwo$Hung;", true)
  | 1 => ("CoverTwo$Orders", "looks", "LCoverTwo$Hung;", false)
  | 2 => ("CoverTwo$Orders", "first", "I", false)
  | 3 => ("CoverTwo$Orders", "second", "I", false)
  | 4 => ("CoverTwo$Orders", "total", "I", false)
  | _ => ("CoverTwo$Orders", "aheadTotal", "I", false)
def tyX1 : Nat → FieldType := fun k => match k with
  | 0 => .object "CoverTwo$Hung"
  | 1 => .object "CoverTwo$Hung"
  | 2 => .int
  | 3 => .int
  | 4 => .int
  | _ => .int
abbrev wsX10 : List Cond := u_ws RX1 TX1 6
theorem nmX1 : ∀ a, a < 6 → ∀ b, b < 6 → a ≠ b → (TX1 a).2.1 ≠ (TX1 b).2.1 := by decide +kernel
theorem tyX1_ok : ∀ k, k < 6 → parseFieldDescriptor (TX1 k).2.2.1 = some (tyX1 k) := by decide +kernel
abbrev cX1_init : ByteArray := prog_3_method_1_code
def yX1_init : MethodName := ⟨RX1, "<init>", "()V"⟩
abbrev cX1_countAll : ByteArray := prog_3_method_2_code
def yX1_countAll : MethodName := ⟨RX1, "countAll", "(LCoverTwo$Hung;II)V"⟩
abbrev cX1_stickUp : ByteArray := prog_3_method_3_code
def yX1_stickUp : MethodName := ⟨RX1, "stickUp", "(IIIZ)V"⟩
def RX2 : String := "CoverTwo$Rows"
def TX2 : u_T := fun k => match k with
  | 0 => ("CoverTwo$Rows", "trial", "LCoverTwo$Hung;", true)
  | 1 => ("CoverTwo$Rows", "counted", "I", false)
  | _ => ("CoverTwo$Rows", "longest", "I", false)
def tyX2 : Nat → FieldType := fun k => match k with
  | 0 => .object "CoverTwo$Hung"
  | 1 => .int
  | _ => .int
abbrev wsX20 : List Cond := u_ws RX2 TX2 3
theorem nmX2 : ∀ a, a < 3 → ∀ b, b < 3 → a ≠ b → (TX2 a).2.1 ≠ (TX2 b).2.1 := by decide +kernel
theorem tyX2_ok : ∀ k, k < 3 → parseFieldDescriptor (TX2 k).2.2.1 = some (tyX2 k) := by decide +kernel
abbrev cX2_init : ByteArray := prog_4_method_1_code
def yX2_init : MethodName := ⟨RX2, "<init>", "()V"⟩
abbrev cX2_refusal : ByteArray := prog_4_method_2_code
def yX2_refusal : MethodName := ⟨RX2, "refusal", "(LCoverTwo$Hung;II)I"⟩
abbrev cX2_countBehind : ByteArray := prog_4_method_3_code
def yX2_countBehind : MethodName := ⟨RX2, "countBehind", "(II)Z"⟩
abbrev cX2_shortestRow : ByteArray := prog_4_method_4_code
def yX2_shortestRow : MethodName := ⟨RX2, "shortestRow", "(LCoverTwo$Hung;II)I"⟩
abbrev cX2_shortestBehind : ByteArray := prog_4_method_5_code
def yX2_shortestBehind : MethodName := ⟨RX2, "shortestBehind", "(III)I"⟩
abbrev cX2_nextWins : ByteArray := prog_4_method_6_code
def yX2_nextWins : MethodName := ⟨RX2, "nextWins", "(LCoverTwo$Hung;I)Z"⟩
abbrev cX2_bringsAbout : ByteArray := prog_4_method_7_code
def yX2_bringsAbout : MethodName := ⟨RX2, "bringsAbout", "(ZI)Z"⟩
abbrev cX2_staysSeen : ByteArray := prog_4_method_8_code
def yX2_staysSeen : MethodName := ⟨RX2, "staysSeen", "(LCoverTwo$Hung;II)I"⟩
abbrev cX2_bestCorner : ByteArray := prog_4_method_9_code
def yX2_bestCorner : MethodName := ⟨RX2, "bestCorner", "(LCoverTwo$Hung;I)I"⟩
abbrev cX2_liveBy : ByteArray := prog_4_method_10_code
def yX2_liveBy : MethodName := ⟨RX2, "liveBy", "(LCoverTwo$Hung;IZ)I"⟩
abbrev cX2_moves : ByteArray := prog_4_method_11_code
def yX2_moves : MethodName := ⟨RX2, "moves", "()I"⟩
abbrev cX2_billOf : ByteArray := prog_4_method_12_code
def yX2_billOf : MethodName := ⟨RX2, "billOf", "(I)I"⟩
abbrev cX2_cornerOf : ByteArray := prog_4_method_13_code
def yX2_cornerOf : MethodName := ⟨RX2, "cornerOf", "(I)I"⟩
abbrev cX2_push : ByteArray := prog_4_method_14_code
def yX2_push : MethodName := ⟨RX2, "push", "(II)V"⟩
abbrev cX2_pop : ByteArray := prog_4_method_15_code
def yX2_pop : MethodName := ⟨RX2, "pop", "()V"⟩
def RX3 : String := "CoverTwo$Shelf"
def TX3 : u_T := fun k => match k with
  | 0 => ("CoverTwo$Shelf", "kept", "[[I", true)
  | 1 => ("CoverTwo$Shelf", "oldest", "I", false)
  | _ => ("CoverTwo$Shelf", "count", "I", false)
def tyX3 : Nat → FieldType := fun k => match k with
  | 0 => .array (.array .int)
  | 1 => .int
  | _ => .int
abbrev wsX30 : List Cond := u_ws RX3 TX3 3
theorem nmX3 : ∀ a, a < 3 → ∀ b, b < 3 → a ≠ b → (TX3 a).2.1 ≠ (TX3 b).2.1 := by decide +kernel
theorem tyX3_ok : ∀ k, k < 3 → parseFieldDescriptor (TX3 k).2.2.1 = some (tyX3 k) := by decide +kernel
abbrev cX3_init : ByteArray := prog_5_method_1_code
def yX3_init : MethodName := ⟨RX3, "<init>", "(I)V"⟩
abbrev cX3_forgetAll : ByteArray := prog_5_method_2_code
def yX3_forgetAll : MethodName := ⟨RX3, "forgetAll", "()V"⟩
abbrev cX3_keep : ByteArray := prog_5_method_3_code
def yX3_keep : MethodName := ⟨RX3, "keep", "(LCoverTwo$Hung;)V"⟩
abbrev cX3_takeLatest : ByteArray := prog_5_method_4_code
def yX3_takeLatest : MethodName := ⟨RX3, "takeLatest", "(LCoverTwo$Hung;)Z"⟩
abbrev cX3_bring : ByteArray := prog_5_method_5_code
def yX3_bring : MethodName := ⟨RX3, "bring", "(ILCoverTwo$Hung;)Z"⟩
abbrev cX3_slot : ByteArray := prog_5_method_6_code
def yX3_slot : MethodName := ⟨RX3, "slot", "(I)I"⟩
def RX4 : String := "CoverTwo$Telling"
def TX4 : u_T := fun k => match k with
  | 0 => ("CoverTwo$Telling", "tokens", "LCoverTwo$Tokens;", true)
  | 1 => ("CoverTwo$Telling", "billName", "[J", true)
  | 2 => ("CoverTwo$Telling", "rivalName", "[J", true)
  | 3 => ("CoverTwo$Telling", "hung", "LCoverTwo$Hung;", false)
  | 4 => ("CoverTwo$Telling", "told", "LCoverTwo$Told;", false)
  | 5 => ("CoverTwo$Telling", "pastes", "I", false)
  | 6 => ("CoverTwo$Telling", "fault", "I", false)
  | 7 => ("CoverTwo$Telling", "faultAt", "I", false)
  | 8 => ("CoverTwo$Telling", "taken", "I", false)
  | 9 => ("CoverTwo$Telling", "takenLetters", "J", false)
  | _ => ("CoverTwo$Telling", "takenLength", "I", false)
def tyX4 : Nat → FieldType := fun k => match k with
  | 0 => .object "CoverTwo$Tokens"
  | 1 => .array .long
  | 2 => .array .long
  | 3 => .object "CoverTwo$Hung"
  | 4 => .object "CoverTwo$Told"
  | 5 => .int
  | 6 => .int
  | 7 => .int
  | 8 => .int
  | 9 => .long
  | _ => .int
abbrev wsX40 : List Cond := u_ws RX4 TX4 11
theorem nmX4 : ∀ a, a < 11 → ∀ b, b < 11 → a ≠ b → (TX4 a).2.1 ≠ (TX4 b).2.1 := by decide +kernel
theorem tyX4_ok : ∀ k, k < 11 → parseFieldDescriptor (TX4 k).2.2.1 = some (tyX4 k) := by decide +kernel
abbrev cX4_init : ByteArray := prog_6_method_1_code
def yX4_init : MethodName := ⟨RX4, "<init>", "()V"⟩
abbrev cX4_readText : ByteArray := prog_6_method_2_code
def yX4_readText : MethodName := ⟨RX4, "readText", "([BI)I"⟩
abbrev cX4_handOver : ByteArray := prog_6_method_3_code
def yX4_handOver : MethodName := ⟨RX4, "handOver", "(LCoverTwo$Hung;)LCoverTwo$Hung;"⟩
abbrev cX4_wrong : ByteArray := prog_6_method_4_code
def yX4_wrong : MethodName := ⟨RX4, "wrong", "(I)Z"⟩
abbrev cX4_goesOn : ByteArray := prog_6_method_5_code
def yX4_goesOn : MethodName := ⟨RX4, "goesOn", "()Z"⟩
abbrev cX4_readWall : ByteArray := prog_6_method_6_code
def yX4_readWall : MethodName := ⟨RX4, "readWall", "()Z"⟩
abbrev cX4_readBill : ByteArray := prog_6_method_7_code
def yX4_readBill : MethodName := ⟨RX4, "readBill", "()Z"⟩
abbrev cX4_readRival : ByteArray := prog_6_method_8_code
def yX4_readRival : MethodName := ⟨RX4, "readRival", "()Z"⟩
abbrev cX4_readWord : ByteArray := prog_6_method_9_code
def yX4_readWord : MethodName := ⟨RX4, "readWord", "()Z"⟩
abbrev cX4_readFounder : ByteArray := prog_6_method_10_code
def yX4_readFounder : MethodName := ⟨RX4, "readFounder", "()Z"⟩
abbrev cX4_readPaste : ByteArray := prog_6_method_11_code
def yX4_readPaste : MethodName := ⟨RX4, "readPaste", "()Z"⟩
abbrev cX4_takeFirst : ByteArray := prog_6_method_12_code
def yX4_takeFirst : MethodName := ⟨RX4, "takeFirst", "(ZZ)Z"⟩
abbrev cX4_takeKey : ByteArray := prog_6_method_13_code
def yX4_takeKey : MethodName := ⟨RX4, "takeKey", "(Ljava/lang/String;)Z"⟩
abbrev cX4_takeWhole : ByteArray := prog_6_method_14_code
def yX4_takeWhole : MethodName := ⟨RX4, "takeWhole", "(II)Z"⟩
abbrev cX4_takeWord : ByteArray := prog_6_method_15_code
def yX4_takeWord : MethodName := ⟨RX4, "takeWord", "()Z"⟩
abbrev cX4_takeKind : ByteArray := prog_6_method_16_code
def yX4_takeKind : MethodName := ⟨RX4, "takeKind", "()Z"⟩
abbrev cX4_takeNewName : ByteArray := prog_6_method_17_code
def yX4_takeNewName : MethodName := ⟨RX4, "takeNewName", "()Z"⟩
abbrev cX4_takeOldName : ByteArray := prog_6_method_18_code
def yX4_takeOldName : MethodName := ⟨RX4, "takeOldName", "([JI)Z"⟩
abbrev cX4_takeCorner : ByteArray := prog_6_method_19_code
def yX4_takeCorner : MethodName := ⟨RX4, "takeCorner", "(I)Z"⟩
abbrev cX4_find : ByteArray := prog_6_method_20_code
def yX4_find : MethodName := ⟨RX4, "find", "([JI)I"⟩
def RX5 : String := "CoverTwo$Tokens"
def TX5 : u_T := fun k => match k with
  | 0 => ("CoverTwo$Tokens", "text", "[B", false)
  | 1 => ("CoverTwo$Tokens", "end", "I", false)
  | 2 => ("CoverTwo$Tokens", "next", "I", false)
  | 3 => ("CoverTwo$Tokens", "sort", "I", false)
  | 4 => ("CoverTwo$Tokens", "place", "I", false)
  | 5 => ("CoverTwo$Tokens", "length", "I", false)
  | 6 => ("CoverTwo$Tokens", "letters", "J", false)
  | _ => ("CoverTwo$Tokens", "number", "I", false)
def tyX5 : Nat → FieldType := fun k => match k with
  | 0 => .array .byte
  | 1 => .int
  | 2 => .int
  | 3 => .int
  | 4 => .int
  | 5 => .int
  | 6 => .long
  | _ => .int
abbrev wsX50 : List Cond := u_ws RX5 TX5 8
theorem nmX5 : ∀ a, a < 8 → ∀ b, b < 8 → a ≠ b → (TX5 a).2.1 ≠ (TX5 b).2.1 := by decide +kernel
theorem tyX5_ok : ∀ k, k < 8 → parseFieldDescriptor (TX5 k).2.2.1 = some (tyX5 k) := by decide +kernel
abbrev cX5_init : ByteArray := prog_7_method_1_code
def yX5_init : MethodName := ⟨RX5, "<init>", "()V"⟩
abbrev cX5_start : ByteArray := prog_7_method_2_code
def yX5_start : MethodName := ⟨RX5, "start", "([BI)V"⟩
abbrev cX5_step : ByteArray := prog_7_method_3_code
def yX5_step : MethodName := ⟨RX5, "step", "()V"⟩
abbrev cX5_isLetter : ByteArray := prog_7_method_4_code
def yX5_isLetter : MethodName := ⟨RX5, "isLetter", "(I)Z"⟩
abbrev cX5_isDigit : ByteArray := prog_7_method_5_code
def yX5_isDigit : MethodName := ⟨RX5, "isDigit", "(I)Z"⟩
abbrev cX5_takeWord : ByteArray := prog_7_method_6_code
def yX5_takeWord : MethodName := ⟨RX5, "takeWord", "()V"⟩
abbrev cX5_takeWhole : ByteArray := prog_7_method_7_code
def yX5_takeWhole : MethodName := ⟨RX5, "takeWhole", "()V"⟩
abbrev cX5_takeSign : ByteArray := prog_7_method_8_code
def yX5_takeSign : MethodName := ⟨RX5, "takeSign", "()V"⟩
abbrev cX5_isThe : ByteArray := prog_7_method_9_code
def yX5_isThe : MethodName := ⟨RX5, "isThe", "(Ljava/lang/String;)Z"⟩
abbrev cX5_isName : ByteArray := prog_7_method_10_code
def yX5_isName : MethodName := ⟨RX5, "isName", "()Z"⟩
def RX6 : String := "CoverTwo$Told"
def TX6 : u_T := fun k => match k with
  | 0 => ("CoverTwo$Told", "wide", "I", false)
  | 1 => ("CoverTwo$Told", "high", "I", false)
  | 2 => ("CoverTwo$Told", "law", "I", false)
  | 3 => ("CoverTwo$Told", "byHang", "Z", false)
  | 4 => ("CoverTwo$Told", "bills", "I", false)
  | 5 => ("CoverTwo$Told", "rivals", "I", false)
  | 6 => ("CoverTwo$Told", "words", "I", false)
  | 7 => ("CoverTwo$Told", "kind", "[I", true)
  | 8 => ("CoverTwo$Told", "width", "[I", true)
  | 9 => ("CoverTwo$Told", "height", "[I", true)
  | 10 => ("CoverTwo$Told", "textLength", "[I", true)
  | 11 => ("CoverTwo$Told", "shape", "[I", true)
  | 12 => ("CoverTwo$Told", "corners", "[I", true)
  | 13 => ("CoverTwo$Told", "inked", "[J", true)
  | 14 => ("CoverTwo$Told", "inkedBits", "[J", true)
  | 15 => ("CoverTwo$Told", "word", "[J", true)
  | 16 => ("CoverTwo$Told", "wordBits", "[J", true)
  | 17 => ("CoverTwo$Told", "wordLength", "[I", true)
  | 18 => ("CoverTwo$Told", "column", "[I", true)
  | _ => ("CoverTwo$Told", "line", "[I", true)
def tyX6 : Nat → FieldType := fun k => match k with
  | 0 => .int
  | 1 => .int
  | 2 => .int
  | 3 => .boolean
  | 4 => .int
  | 5 => .int
  | 6 => .int
  | 7 => .array .int
  | 8 => .array .int
  | 9 => .array .int
  | 10 => .array .int
  | 11 => .array .int
  | 12 => .array .int
  | 13 => .array .long
  | 14 => .array .long
  | 15 => .array .long
  | 16 => .array .long
  | 17 => .array .int
  | 18 => .array .int
  | _ => .array .int
abbrev wsX60 : List Cond := u_ws RX6 TX6 20
theorem nmX6 : ∀ a, a < 20 → ∀ b, b < 20 → a ≠ b → (TX6 a).2.1 ≠ (TX6 b).2.1 := by decide +kernel
theorem tyX6_ok : ∀ k, k < 20 → parseFieldDescriptor (TX6 k).2.2.1 = some (tyX6 k) := by decide +kernel
abbrev cX6_init : ByteArray := prog_8_method_1_code
def yX6_init : MethodName := ⟨RX6, "<init>", "()V"⟩
abbrev cX6_clear : ByteArray := prog_8_method_2_code
def yX6_clear : MethodName := ⟨RX6, "clear", "()V"⟩
abbrev cX6_setWall : ByteArray := prog_8_method_3_code
def yX6_setWall : MethodName := ⟨RX6, "setWall", "(IIIZ)V"⟩
abbrev cX6_addBill : ByteArray := prog_8_method_4_code
def yX6_addBill : MethodName := ⟨RX6, "addBill", "(IIIJI)V"⟩
abbrev cX6_block : ByteArray := prog_8_method_5_code
def yX6_block : MethodName := ⟨RX6, "block", "(II)I"⟩
abbrev cX6_inkedRow : ByteArray := prog_8_method_6_code
def yX6_inkedRow : MethodName := ⟨RX6, "inkedRow", "(IIJI)J"⟩
abbrev cX6_addWord : ByteArray := prog_8_method_7_code
def yX6_addWord : MethodName := ⟨RX6, "addWord", "(JI)V"⟩
abbrev cX6_cellAt : ByteArray := prog_8_method_8_code
def yX6_cellAt : MethodName := ⟨RX6, "cellAt", "(II)I"⟩
abbrev cX6_cornerAt : ByteArray := prog_8_method_9_code
def yX6_cornerAt : MethodName := ⟨RX6, "cornerAt", "(III)I"⟩
abbrev cX6_fits : ByteArray := prog_8_method_10_code
def yX6_fits : MethodName := ⟨RX6, "fits", "(II)Z"⟩
abbrev cX6_cellsOf : ByteArray := prog_8_method_11_code
def yX6_cellsOf : MethodName := ⟨RX6, "cellsOf", "(II)I"⟩
abbrev cX6_cells : ByteArray := prog_8_method_12_code
def yX6_cells : MethodName := ⟨RX6, "cells", "()I"⟩
abbrev cX6_lawOf : ByteArray := prog_8_method_13_code
def yX6_lawOf : MethodName := ⟨RX6, "lawOf", "(I)I"⟩
abbrev cX6_timesIn : ByteArray := prog_8_method_14_code
def yX6_timesIn : MethodName := ⟨RX6, "timesIn", "(JI)I"⟩
abbrev cX6_firstIn : ByteArray := prog_8_method_15_code
def yX6_firstIn : MethodName := ⟨RX6, "firstIn", "(JI)I"⟩
abbrev cX6_lettersBits : ByteArray := prog_8_method_16_code
def yX6_lettersBits : MethodName := ⟨RX6, "lettersBits", "(I)J"⟩
abbrev cX6_codeIn : ByteArray := prog_8_method_17_code
def yX6_codeIn : MethodName := ⟨RX6, "codeIn", "(JI)I"⟩
def RX7 : String := "CoverTwo"
def TX7 : u_T := fun k => match k with
  | 0 => ("CoverTwo", "tape", "[B", true)
  | 1 => ("CoverTwo", "tapeSize", "I", false)
  | 2 => ("CoverTwo", "now", "LCoverTwo$Hung;", false)
  | 3 => ("CoverTwo", "telling", "LCoverTwo$Telling;", true)
  | 4 => ("CoverTwo", "acts", "LCoverTwo$Shelf;", true)
  | 5 => ("CoverTwo", "marks", "LCoverTwo$Shelf;", true)
  | 6 => ("CoverTwo", "rows", "LCoverTwo$Rows;", true)
  | 7 => ("CoverTwo", "sequences", "LCoverTwo$Orders;", true)
  | 8 => ("CoverTwo", "troubleNumber", "I", false)
  | 9 => ("CoverTwo", "faultNumber", "I", false)
  | _ => ("CoverTwo", "faultPlace", "I", false)
def tyX7 : Nat → FieldType := fun k => match k with
  | 0 => .array .byte
  | 1 => .int
  | 2 => .object "CoverTwo$Hung"
  | 3 => .object "CoverTwo$Telling"
  | 4 => .object "CoverTwo$Shelf"
  | 5 => .object "CoverTwo$Shelf"
  | 6 => .object "CoverTwo$Rows"
  | 7 => .object "CoverTwo$Orders"
  | 8 => .int
  | 9 => .int
  | _ => .int
abbrev wsX70 : List Cond := u_ws RX7 TX7 11
theorem nmX7 : ∀ a, a < 11 → ∀ b, b < 11 → a ≠ b → (TX7 a).2.1 ≠ (TX7 b).2.1 := by decide +kernel
theorem tyX7_ok : ∀ k, k < 11 → parseFieldDescriptor (TX7 k).2.2.1 = some (tyX7 k) := by decide +kernel
abbrev cX7_init : ByteArray := prog_1_method_1_code
def yX7_init : MethodName := ⟨RX7, "<init>", "()V"⟩
abbrev cX7_feed : ByteArray := prog_1_method_2_code
def yX7_feed : MethodName := ⟨RX7, "feed", "(IIIII)I"⟩
abbrev cX7_wall : ByteArray := prog_1_method_3_code
def yX7_wall : MethodName := ⟨RX7, "wall", "(I)I"⟩
abbrev cX7_fault : ByteArray := prog_1_method_4_code
def yX7_fault : MethodName := ⟨RX7, "fault", "()I"⟩
abbrev cX7_where : ByteArray := prog_1_method_5_code
def yX7_where : MethodName := ⟨RX7, "where", "()I"⟩
abbrev cX7_bill : ByteArray := prog_1_method_6_code
def yX7_bill : MethodName := ⟨RX7, "bill", "(II)I"⟩
abbrev cX7_hanging : ByteArray := prog_1_method_7_code
def yX7_hanging : MethodName := ⟨RX7, "hanging", "()I"⟩
abbrev cX7_hung : ByteArray := prog_1_method_8_code
def yX7_hung : MethodName := ⟨RX7, "hung", "(II)I"⟩
abbrev cX7_shows : ByteArray := prog_1_method_9_code
def yX7_shows : MethodName := ⟨RX7, "shows", "(II)I"⟩
abbrev cX7_letter : ByteArray := prog_1_method_10_code
def yX7_letter : MethodName := ⟨RX7, "letter", "(II)I"⟩
abbrev cX7_under : ByteArray := prog_1_method_11_code
def yX7_under : MethodName := ⟨RX7, "under", "(I)I"⟩
abbrev cX7_over : ByteArray := prog_1_method_12_code
def yX7_over : MethodName := ⟨RX7, "over", "(I)I"⟩
abbrev cX7_beneath : ByteArray := prog_1_method_13_code
def yX7_beneath : MethodName := ⟨RX7, "beneath", "(III)I"⟩
abbrev cX7_on : ByteArray := prog_1_method_14_code
def yX7_on : MethodName := ⟨RX7, "on", "(III)I"⟩
abbrev cX7_may : ByteArray := prog_1_method_15_code
def yX7_may : MethodName := ⟨RX7, "may", "(III)I"⟩
abbrev cX7_places : ByteArray := prog_1_method_16_code
def yX7_places : MethodName := ⟨RX7, "places", "(I)I"⟩
abbrev cX7_place : ByteArray := prog_1_method_17_code
def yX7_place : MethodName := ⟨RX7, "place", "(II)I"⟩
abbrev cX7_full : ByteArray := prog_1_method_18_code
def yX7_full : MethodName := ⟨RX7, "full", "()I"⟩
abbrev cX7_table : ByteArray := prog_1_method_19_code
def yX7_table : MethodName := ⟨RX7, "table", "(IIZ)I"⟩
abbrev cX7_paste : ByteArray := prog_1_method_20_code
def yX7_paste : MethodName := ⟨RX7, "paste", "(IIII)Z"⟩
abbrev cX7_peel : ByteArray := prog_1_method_21_code
def yX7_peel : MethodName := ⟨RX7, "peel", "()Z"⟩
abbrev cX7_tear : ByteArray := prog_1_method_22_code
def yX7_tear : MethodName := ⟨RX7, "tear", "(I)Z"⟩
abbrev cX7_scrape : ByteArray := prog_1_method_23_code
def yX7_scrape : MethodName := ⟨RX7, "scrape", "()Z"⟩
abbrev cX7_days : ByteArray := prog_1_method_24_code
def yX7_days : MethodName := ⟨RX7, "days", "(I)I"⟩
abbrev cX7_rival : ByteArray := prog_1_method_25_code
def yX7_rival : MethodName := ⟨RX7, "rival", "(II)I"⟩
abbrev cX7_undo : ByteArray := prog_1_method_26_code
def yX7_undo : MethodName := ⟨RX7, "undo", "()Z"⟩
abbrev cX7_reads : ByteArray := prog_1_method_27_code
def yX7_reads : MethodName := ⟨RX7, "reads", "(I)I"⟩
abbrev cX7_readAt : ByteArray := prog_1_method_28_code
def yX7_readAt : MethodName := ⟨RX7, "readAt", "(I)I"⟩
abbrev cX7_readBy : ByteArray := prog_1_method_29_code
def yX7_readBy : MethodName := ⟨RX7, "readBy", "(II)I"⟩
abbrev cX7_makes : ByteArray := prog_1_method_30_code
def yX7_makes : MethodName := ⟨RX7, "makes", "(I)I"⟩
abbrev cX7_stays : ByteArray := prog_1_method_31_code
def yX7_stays : MethodName := ⟨RX7, "stays", "(III)I"⟩
abbrev cX7_best : ByteArray := prog_1_method_32_code
def yX7_best : MethodName := ⟨RX7, "best", "(I)I"⟩
abbrev cX7_far : ByteArray := prog_1_method_33_code
def yX7_far : MethodName := ⟨RX7, "far", "(I)I"⟩
abbrev cX7_shortest : ByteArray := prog_1_method_34_code
def yX7_shortest : MethodName := ⟨RX7, "shortest", "(I)I"⟩
abbrev cX7_wins : ByteArray := prog_1_method_35_code
def yX7_wins : MethodName := ⟨RX7, "wins", "(I)I"⟩
abbrev cX7_close : ByteArray := prog_1_method_36_code
def yX7_close : MethodName := ⟨RX7, "close", "(II)I"⟩
abbrev cX7_life : ByteArray := prog_1_method_37_code
def yX7_life : MethodName := ⟨RX7, "life", "(IZ)I"⟩
abbrev cX7_orders : ByteArray := prog_1_method_38_code
def yX7_orders : MethodName := ⟨RX7, "orders", "()I"⟩
abbrev cX7_ahead : ByteArray := prog_1_method_39_code
def yX7_ahead : MethodName := ⟨RX7, "ahead", "(II)I"⟩
abbrev cX7_mark : ByteArray := prog_1_method_40_code
def yX7_mark : MethodName := ⟨RX7, "mark", "()I"⟩
abbrev cX7_back : ByteArray := prog_1_method_41_code
def yX7_back : MethodName := ⟨RX7, "back", "(I)Z"⟩
abbrev cX7_led : ByteArray := prog_1_method_42_code
def yX7_led : MethodName := ⟨RX7, "led", "(I)I"⟩
abbrev cX7_size : ByteArray := prog_1_method_43_code
def yX7_size : MethodName := ⟨RX7, "size", "(I)I"⟩
abbrev cX7_trouble : ByteArray := prog_1_method_44_code
def yX7_trouble : MethodName := ⟨RX7, "trouble", "()I"⟩
abbrev cX7_answer : ByteArray := prog_1_method_45_code
def yX7_answer : MethodName := ⟨RX7, "answer", "(I)I"⟩
abbrev cX7_refuse : ByteArray := prog_1_method_46_code
def yX7_refuse : MethodName := ⟨RX7, "refuse", "(I)I"⟩
abbrev cX7_grant : ByteArray := prog_1_method_47_code
def yX7_grant : MethodName := ⟨RX7, "grant", "()Z"⟩
abbrev cX7_deny : ByteArray := prog_1_method_48_code
def yX7_deny : MethodName := ⟨RX7, "deny", "(I)Z"⟩
abbrev cX7_takeFourBytes : ByteArray := prog_1_method_49_code
def yX7_takeFourBytes : MethodName := ⟨RX7, "takeFourBytes", "(I)V"⟩
abbrev cX7_hasWall : ByteArray := prog_1_method_50_code
def yX7_hasWall : MethodName := ⟨RX7, "hasWall", "()Z"⟩
abbrev cX7_isBill : ByteArray := prog_1_method_51_code
def yX7_isBill : MethodName := ⟨RX7, "isBill", "(I)Z"⟩
abbrev cX7_isRival : ByteArray := prog_1_method_52_code
def yX7_isRival : MethodName := ⟨RX7, "isRival", "(I)Z"⟩
abbrev cX7_isWord : ByteArray := prog_1_method_53_code
def yX7_isWord : MethodName := ⟨RX7, "isWord", "(I)Z"⟩
abbrev cX7_hangs : ByteArray := prog_1_method_54_code
def yX7_hangs : MethodName := ⟨RX7, "hangs", "(I)Z"⟩
def RX8 : String := "CoverTwoModel$Hung"
def TX8 : u_T := fun k => match k with
  | 0 => ("CoverTwoModel$Hung", "w", "[I", true)
  | _ => ("CoverTwoModel$Hung", "cells", "[J", true)
def tyX8 : Nat → FieldType := fun k => match k with
  | 0 => .array .int
  | _ => .array .long
abbrev wsX80 : List Cond := u_ws RX8 TX8 2
theorem nmX8 : ∀ a, a < 2 → ∀ b, b < 2 → a ≠ b → (TX8 a).2.1 ≠ (TX8 b).2.1 := by decide +kernel
theorem tyX8_ok : ∀ k, k < 2 → parseFieldDescriptor (TX8 k).2.2.1 = some (tyX8 k) := by decide +kernel
abbrev cX8_init : ByteArray := prog_11_method_1_code
def yX8_init : MethodName := ⟨RX8, "<init>", "()V"⟩
abbrev cX8_many : ByteArray := prog_11_method_2_code
def yX8_many : MethodName := ⟨RX8, "many", "()I"⟩
abbrev cX8_adds : ByteArray := prog_11_method_3_code
def yX8_adds : MethodName := ⟨RX8, "adds", "(LCoverTwoModel$Wall;IIII)V"⟩
abbrev cX8_takesOff : ByteArray := prog_11_method_4_code
def yX8_takesOff : MethodName := ⟨RX8, "takesOff", "()V"⟩
abbrev cX8_takes : ByteArray := prog_11_method_5_code
def yX8_takes : MethodName := ⟨RX8, "takes", "([IILCoverTwoModel$Wall;)V"⟩
def RX9 : String := "CoverTwoModel$Wall"
def TX9 : u_T := fun k => match k with
  | 0 => ("CoverTwoModel$Wall", "wide", "I", false)
  | 1 => ("CoverTwoModel$Wall", "high", "I", false)
  | 2 => ("CoverTwoModel$Wall", "law", "I", false)
  | 3 => ("CoverTwoModel$Wall", "bills", "I", false)
  | 4 => ("CoverTwoModel$Wall", "rivals", "I", false)
  | 5 => ("CoverTwoModel$Wall", "words", "I", false)
  | 6 => ("CoverTwoModel$Wall", "founders", "I", false)
  | 7 => ("CoverTwoModel$Wall", "pastes", "I", false)
  | 8 => ("CoverTwoModel$Wall", "names", "I", false)
  | 9 => ("CoverTwoModel$Wall", "byHang", "Z", false)
  | 10 => ("CoverTwoModel$Wall", "kind", "[I", true)
  | 11 => ("CoverTwoModel$Wall", "billWide", "[I", true)
  | 12 => ("CoverTwoModel$Wall", "billHigh", "[I", true)
  | 13 => ("CoverTwoModel$Wall", "textSize", "[I", true)
  | 14 => ("CoverTwoModel$Wall", "text", "[I", true)
  | 15 => ("CoverTwoModel$Wall", "wordSize", "[I", true)
  | 16 => ("CoverTwoModel$Wall", "word", "[I", true)
  | 17 => ("CoverTwoModel$Wall", "sheets", "[I", true)
  | 18 => ("CoverTwoModel$Wall", "wordAs", "[J", true)
  | 19 => ("CoverTwoModel$Wall", "name", "[J", true)
  | 20 => ("CoverTwoModel$Wall", "nameSort", "[I", true)
  | _ => ("CoverTwoModel$Wall", "nameNumber", "[I", true)
def tyX9 : Nat → FieldType := fun k => match k with
  | 0 => .int
  | 1 => .int
  | 2 => .int
  | 3 => .int
  | 4 => .int
  | 5 => .int
  | 6 => .int
  | 7 => .int
  | 8 => .int
  | 9 => .boolean
  | 10 => .array .int
  | 11 => .array .int
  | 12 => .array .int
  | 13 => .array .int
  | 14 => .array .int
  | 15 => .array .int
  | 16 => .array .int
  | 17 => .array .int
  | 18 => .array .long
  | 19 => .array .long
  | 20 => .array .int
  | _ => .array .int
abbrev wsX90 : List Cond := u_ws RX9 TX9 22
theorem nmX9 : ∀ a, a < 22 → ∀ b, b < 22 → a ≠ b → (TX9 a).2.1 ≠ (TX9 b).2.1 := by decide +kernel
theorem tyX9_ok : ∀ k, k < 22 → parseFieldDescriptor (TX9 k).2.2.1 = some (tyX9 k) := by decide +kernel
abbrev cX9_init : ByteArray := prog_12_method_1_code
def yX9_init : MethodName := ⟨RX9, "<init>", "()V"⟩
abbrev cX9_find : ByteArray := prog_12_method_2_code
def yX9_find : MethodName := ⟨RX9, "find", "(J)I"⟩
abbrev cX9_findWord : ByteArray := prog_12_method_3_code
def yX9_findWord : MethodName := ⟨RX9, "findWord", "(J)I"⟩
abbrev cX9_cells : ByteArray := prog_12_method_4_code
def yX9_cells : MethodName := ⟨RX9, "cells", "(III)J"⟩
def RX10 : String := "CoverTwoModel"
def TX10 : u_T := fun k => match k with
  | 0 => ("CoverTwoModel", "thrown", "I", false)
  | 1 => ("CoverTwoModel", "trouble", "I", false)
  | 2 => ("CoverTwoModel", "where", "I", false)
  | 3 => ("CoverTwoModel", "wall", "LCoverTwoModel$Wall;", false)
  | 4 => ("CoverTwoModel", "read", "LCoverTwoModel$Wall;", false)
  | 5 => ("CoverTwoModel", "hung", "LCoverTwoModel$Hung;", false)
  | 6 => ("CoverTwoModel", "reading", "LCoverTwoModel$Hung;", false)
  | 7 => ("CoverTwoModel", "top", "[I", true)
  | 8 => ("CoverTwoModel", "often", "[I", true)
  | 9 => ("CoverTwoModel", "tape", "[B", true)
  | 10 => ("CoverTwoModel", "taped", "I", false)
  | 11 => ("CoverTwoModel", "size", "I", false)
  | 12 => ("CoverTwoModel", "spot", "I", false)
  | 13 => ("CoverTwoModel", "sort", "I", false)
  | 14 => ("CoverTwoModel", "place", "I", false)
  | 15 => ("CoverTwoModel", "sign", "I", false)
  | 16 => ("CoverTwoModel", "number", "I", false)
  | 17 => ("CoverTwoModel", "letters", "I", false)
  | 18 => ("CoverTwoModel", "fault", "I", false)
  | 19 => ("CoverTwoModel", "wrongAt", "I", false)
  | 20 => ("CoverTwoModel", "spelt", "[I", true)
  | 21 => ("CoverTwoModel", "word", "J", false)
  | 22 => ("CoverTwoModel", "readX", "I", false)
  | 23 => ("CoverTwoModel", "readY", "I", false)
  | 24 => ("CoverTwoModel", "past", "[I", true)
  | 25 => ("CoverTwoModel", "kept", "[I", true)
  | 26 => ("CoverTwoModel", "acts", "I", false)
  | 27 => ("CoverTwoModel", "marks", "I", false)
  | 28 => ("CoverTwoModel", "rows", "I", false)
  | 29 => ("CoverTwoModel", "longest", "I", false)
  | 30 => ("CoverTwoModel", "least", "I", false)
  | 31 => ("CoverTwoModel", "closest", "I", false)
  | 32 => ("CoverTwoModel", "look", "[I", true)
  | 33 => ("CoverTwoModel", "wasBill", "[I", true)
  | 34 => ("CoverTwoModel", "wasX", "[I", true)
  | 35 => ("CoverTwoModel", "wasY", "[I", true)
  | 36 => ("CoverTwoModel", "row", "[I", true)
  | 37 => ("CoverTwoModel", "loose", "I", false)
  | 38 => ("CoverTwoModel", "before", "I", false)
  | 39 => ("CoverTwoModel", "behind", "I", false)
  | _ => ("CoverTwoModel", "keptRival", "[I", true)
def tyX10 : Nat → FieldType := fun k => match k with
  | 0 => .int
  | 1 => .int
  | 2 => .int
  | 3 => .object "CoverTwoModel$Wall"
  | 4 => .object "CoverTwoModel$Wall"
  | 5 => .object "CoverTwoModel$Hung"
  | 6 => .object "CoverTwoModel$Hung"
  | 7 => .array .int
  | 8 => .array .int
  | 9 => .array .byte
  | 10 => .int
  | 11 => .int
  | 12 => .int
  | 13 => .int
  | 14 => .int
  | 15 => .int
  | 16 => .int
  | 17 => .int
  | 18 => .int
  | 19 => .int
  | 20 => .array .int
  | 21 => .long
  | 22 => .int
  | 23 => .int
  | 24 => .array .int
  | 25 => .array .int
  | 26 => .int
  | 27 => .int
  | 28 => .int
  | 29 => .int
  | 30 => .int
  | 31 => .int
  | 32 => .array .int
  | 33 => .array .int
  | 34 => .array .int
  | 35 => .array .int
  | 36 => .array .int
  | 37 => .int
  | 38 => .int
  | 39 => .int
  | _ => .array .int
abbrev wsX100 : List Cond := u_ws RX10 TX10 41
theorem nmX10 : ∀ a, a < 41 → ∀ b, b < 41 → a ≠ b → (TX10 a).2.1 ≠ (TX10 b).2.1 := by decide +kernel
theorem tyX10_ok : ∀ k, k < 41 → parseFieldDescriptor (TX10 k).2.2.1 = some (tyX10 k) := by decide +kernel
abbrev cX10_init : ByteArray := prog_10_method_1_code
def yX10_init : MethodName := ⟨RX10, "<init>", "()V"⟩
abbrev cX10_thrown : ByteArray := prog_10_method_2_code
def yX10_thrown : MethodName := ⟨RX10, "thrown", "()I"⟩
abbrev cX10_refused : ByteArray := prog_10_method_3_code
def yX10_refused : MethodName := ⟨RX10, "refused", "(I)I"⟩
abbrev cX10_denied : ByteArray := prog_10_method_4_code
def yX10_denied : MethodName := ⟨RX10, "denied", "(I)Z"⟩
abbrev cX10_good : ByteArray := prog_10_method_5_code
def yX10_good : MethodName := ⟨RX10, "good", "(I)I"⟩
abbrev cX10_granted : ByteArray := prog_10_method_6_code
def yX10_granted : MethodName := ⟨RX10, "granted", "()Z"⟩
abbrev cX10_in : ByteArray := prog_10_method_7_code
def yX10_in : MethodName := ⟨RX10, "in", "(III)Z"⟩
abbrev cX10_looks : ByteArray := prog_10_method_8_code
def yX10_looks : MethodName := ⟨RX10, "looks", "(LCoverTwoModel$Wall;LCoverTwoModel$Hung;)V"⟩
abbrev cX10_seenOf : ByteArray := prog_10_method_9_code
def yX10_seenOf : MethodName := ⟨RX10, "seenOf", "(I)J"⟩
abbrev cX10_bits : ByteArray := prog_10_method_10_code
def yX10_bits : MethodName := ⟨RX10, "bits", "(J)I"⟩
abbrev cX10_letterAt : ByteArray := prog_10_method_11_code
def yX10_letterAt : MethodName := ⟨RX10, "letterAt", "(LCoverTwoModel$Wall;LCoverTwoModel$Hung;I)I"⟩
abbrev cX10_stands : ByteArray := prog_10_method_12_code
def yX10_stands : MethodName := ⟨RX10, "stands", "(LCoverTwoModel$Wall;LCoverTwoModel$Hung;II)Z"⟩
abbrev cX10_readsNow : ByteArray := prog_10_method_13_code
def yX10_readsNow : MethodName := ⟨RX10, "readsNow", "(LCoverTwoModel$Wall;LCoverTwoModel$Hung;I)I"⟩
abbrev cX10_makesWord : ByteArray := prog_10_method_14_code
def yX10_makesWord : MethodName := ⟨RX10, "makesWord", "(LCoverTwoModel$Wall;LCoverTwoModel$Hung;III)Z"⟩
abbrev cX10_liesOn : ByteArray := prog_10_method_15_code
def yX10_liesOn : MethodName := ⟨RX10, "liesOn", "(LCoverTwoModel$Wall;LCoverTwoModel$Hung;IIIZ)I"⟩
abbrev cX10_couldGo : ByteArray := prog_10_method_16_code
def yX10_couldGo : MethodName := ⟨RX10, "couldGo", "(LCoverTwoModel$Wall;LCoverTwoModel$Hung;IIIIZ)Z"⟩
abbrev cX10_mayGo : ByteArray := prog_10_method_17_code
def yX10_mayGo : MethodName := ⟨RX10, "mayGo", "(LCoverTwoModel$Wall;LCoverTwoModel$Hung;III)Z"⟩
abbrev cX10_byteAt : ByteArray := prog_10_method_18_code
def yX10_byteAt : MethodName := ⟨RX10, "byteAt", "(I)I"⟩
abbrev cX10_isLetter : ByteArray := prog_10_method_19_code
def yX10_isLetter : MethodName := ⟨RX10, "isLetter", "(I)Z"⟩
abbrev cX10_isDigit : ByteArray := prog_10_method_20_code
def yX10_isDigit : MethodName := ⟨RX10, "isDigit", "(I)Z"⟩
abbrev cX10_wordOf : ByteArray := prog_10_method_21_code
def yX10_wordOf : MethodName := ⟨RX10, "wordOf", "(Ljava/lang/String;)J"⟩
abbrev cX10_goesOn : ByteArray := prog_10_method_22_code
def yX10_goesOn : MethodName := ⟨RX10, "goesOn", "()V"⟩
abbrev cX10_flaw : ByteArray := prog_10_method_23_code
def yX10_flaw : MethodName := ⟨RX10, "flaw", "(I)V"⟩
abbrev cX10_isWord : ByteArray := prog_10_method_24_code
def yX10_isWord : MethodName := ⟨RX10, "isWord", "(Ljava/lang/String;)Z"⟩
abbrev cX10_eatsWord : ByteArray := prog_10_method_25_code
def yX10_eatsWord : MethodName := ⟨RX10, "eatsWord", "(Ljava/lang/String;)Z"⟩
abbrev cX10_eatsSign : ByteArray := prog_10_method_26_code
def yX10_eatsSign : MethodName := ⟨RX10, "eatsSign", "(I)Z"⟩
abbrev cX10_needs : ByteArray := prog_10_method_27_code
def yX10_needs : MethodName := ⟨RX10, "needs", "(Ljava/lang/String;)V"⟩
abbrev cX10_readWhole : ByteArray := prog_10_method_28_code
def yX10_readWhole : MethodName := ⟨RX10, "readWhole", "(II)I"⟩
abbrev cX10_readPart : ByteArray := prog_10_method_29_code
def yX10_readPart : MethodName := ⟨RX10, "readPart", "(Ljava/lang/String;II)I"⟩
abbrev cX10_isName : ByteArray := prog_10_method_30_code
def yX10_isName : MethodName := ⟨RX10, "isName", "()Z"⟩
abbrev cX10_begins : ByteArray := prog_10_method_31_code
def yX10_begins : MethodName := ⟨RX10, "begins", "(IIZ)V"⟩
abbrev cX10_readFresh : ByteArray := prog_10_method_32_code
def yX10_readFresh : MethodName := ⟨RX10, "readFresh", "()J"⟩
abbrev cX10_names : ByteArray := prog_10_method_33_code
def yX10_names : MethodName := ⟨RX10, "names", "(JII)V"⟩
abbrev cX10_known : ByteArray := prog_10_method_34_code
def yX10_known : MethodName := ⟨RX10, "known", "(I)I"⟩
abbrev cX10_readAll : ByteArray := prog_10_method_35_code
def yX10_readAll : MethodName := ⟨RX10, "readAll", "()V"⟩
abbrev cX10_readLine : ByteArray := prog_10_method_36_code
def yX10_readLine : MethodName := ⟨RX10, "readLine", "()V"⟩
abbrev cX10_readWall : ByteArray := prog_10_method_37_code
def yX10_readWall : MethodName := ⟨RX10, "readWall", "()V"⟩
abbrev cX10_readBill : ByteArray := prog_10_method_38_code
def yX10_readBill : MethodName := ⟨RX10, "readBill", "()V"⟩
abbrev cX10_readRival : ByteArray := prog_10_method_39_code
def yX10_readRival : MethodName := ⟨RX10, "readRival", "()V"⟩
abbrev cX10_readWord : ByteArray := prog_10_method_40_code
def yX10_readWord : MethodName := ⟨RX10, "readWord", "()V"⟩
abbrev cX10_readPlaced : ByteArray := prog_10_method_41_code
def yX10_readPlaced : MethodName := ⟨RX10, "readPlaced", "()I"⟩
abbrev cX10_readFounder : ByteArray := prog_10_method_42_code
def yX10_readFounder : MethodName := ⟨RX10, "readFounder", "()V"⟩
abbrev cX10_readPaste : ByteArray := prog_10_method_43_code
def yX10_readPaste : MethodName := ⟨RX10, "readPaste", "()V"⟩
abbrev cX10_feed : ByteArray := prog_10_method_44_code
def yX10_feed : MethodName := ⟨RX10, "feed", "(IIIII)I"⟩
abbrev cX10_wall : ByteArray := prog_10_method_45_code
def yX10_wall : MethodName := ⟨RX10, "wall", "(I)I"⟩
abbrev cX10_fault : ByteArray := prog_10_method_46_code
def yX10_fault : MethodName := ⟨RX10, "fault", "()I"⟩
abbrev cX10_where : ByteArray := prog_10_method_47_code
def yX10_where : MethodName := ⟨RX10, "where", "()I"⟩
abbrev cX10_isBill : ByteArray := prog_10_method_48_code
def yX10_isBill : MethodName := ⟨RX10, "isBill", "(I)Z"⟩
abbrev cX10_isRival : ByteArray := prog_10_method_49_code
def yX10_isRival : MethodName := ⟨RX10, "isRival", "(I)Z"⟩
abbrev cX10_isHung : ByteArray := prog_10_method_50_code
def yX10_isHung : MethodName := ⟨RX10, "isHung", "(I)Z"⟩
abbrev cX10_isCell : ByteArray := prog_10_method_51_code
def yX10_isCell : MethodName := ⟨RX10, "isCell", "(II)Z"⟩
abbrev cX10_isOn : ByteArray := prog_10_method_52_code
def yX10_isOn : MethodName := ⟨RX10, "isOn", "(III)Z"⟩
abbrev cX10_mayAt : ByteArray := prog_10_method_53_code
def yX10_mayAt : MethodName := ⟨RX10, "mayAt", "(II)Z"⟩
abbrev cX10_isOnAt : ByteArray := prog_10_method_54_code
def yX10_isOnAt : MethodName := ⟨RX10, "isOnAt", "(II)Z"⟩
abbrev cX10_cells : ByteArray := prog_10_method_55_code
def yX10_cells : MethodName := ⟨RX10, "cells", "()I"⟩
abbrev cX10_bill : ByteArray := prog_10_method_56_code
def yX10_bill : MethodName := ⟨RX10, "bill", "(II)I"⟩
abbrev cX10_hanging : ByteArray := prog_10_method_57_code
def yX10_hanging : MethodName := ⟨RX10, "hanging", "()I"⟩
abbrev cX10_hung : ByteArray := prog_10_method_58_code
def yX10_hung : MethodName := ⟨RX10, "hung", "(II)I"⟩
abbrev cX10_shows : ByteArray := prog_10_method_59_code
def yX10_shows : MethodName := ⟨RX10, "shows", "(II)I"⟩
abbrev cX10_letter : ByteArray := prog_10_method_60_code
def yX10_letter : MethodName := ⟨RX10, "letter", "(II)I"⟩
abbrev cX10_beneath : ByteArray := prog_10_method_61_code
def yX10_beneath : MethodName := ⟨RX10, "beneath", "(III)I"⟩
abbrev cX10_under : ByteArray := prog_10_method_62_code
def yX10_under : MethodName := ⟨RX10, "under", "(I)I"⟩
abbrev cX10_over : ByteArray := prog_10_method_63_code
def yX10_over : MethodName := ⟨RX10, "over", "(I)I"⟩
abbrev cX10_refusesPlace : ByteArray := prog_10_method_64_code
def yX10_refusesPlace : MethodName := ⟨RX10, "refusesPlace", "(III)I"⟩
abbrev cX10_on : ByteArray := prog_10_method_65_code
def yX10_on : MethodName := ⟨RX10, "on", "(III)I"⟩
abbrev cX10_may : ByteArray := prog_10_method_66_code
def yX10_may : MethodName := ⟨RX10, "may", "(III)I"⟩
abbrev cX10_places : ByteArray := prog_10_method_67_code
def yX10_places : MethodName := ⟨RX10, "places", "(I)I"⟩
abbrev cX10_place : ByteArray := prog_10_method_68_code
def yX10_place : MethodName := ⟨RX10, "place", "(II)I"⟩
abbrev cX10_isFull : ByteArray := prog_10_method_69_code
def yX10_isFull : MethodName := ⟨RX10, "isFull", "()Z"⟩
abbrev cX10_full : ByteArray := prog_10_method_70_code
def yX10_full : MethodName := ⟨RX10, "full", "()I"⟩
abbrev cX10_table : ByteArray := prog_10_method_71_code
def yX10_table : MethodName := ⟨RX10, "table", "(IIZ)I"⟩
abbrev cX10_keeps : ByteArray := prog_10_method_72_code
def yX10_keeps : MethodName := ⟨RX10, "keeps", "()V"⟩
abbrev cX10_paste : ByteArray := prog_10_method_73_code
def yX10_paste : MethodName := ⟨RX10, "paste", "(IIII)Z"⟩
abbrev cX10_peel : ByteArray := prog_10_method_74_code
def yX10_peel : MethodName := ⟨RX10, "peel", "()Z"⟩
abbrev cX10_tear : ByteArray := prog_10_method_75_code
def yX10_tear : MethodName := ⟨RX10, "tear", "(I)Z"⟩
abbrev cX10_scrape : ByteArray := prog_10_method_76_code
def yX10_scrape : MethodName := ⟨RX10, "scrape", "()Z"⟩
abbrev cX10_seenBy : ByteArray := prog_10_method_77_code
def yX10_seenBy : MethodName := ⟨RX10, "seenBy", "(I)I"⟩
abbrev cX10_days : ByteArray := prog_10_method_78_code
def yX10_days : MethodName := ⟨RX10, "days", "(I)I"⟩
abbrev cX10_rival : ByteArray := prog_10_method_79_code
def yX10_rival : MethodName := ⟨RX10, "rival", "(II)I"⟩
abbrev cX10_undo : ByteArray := prog_10_method_80_code
def yX10_undo : MethodName := ⟨RX10, "undo", "()Z"⟩
abbrev cX10_isTold : ByteArray := prog_10_method_81_code
def yX10_isTold : MethodName := ⟨RX10, "isTold", "(I)Z"⟩
abbrev cX10_reads : ByteArray := prog_10_method_82_code
def yX10_reads : MethodName := ⟨RX10, "reads", "(I)I"⟩
abbrev cX10_readFrom : ByteArray := prog_10_method_83_code
def yX10_readFrom : MethodName := ⟨RX10, "readFrom", "(I)I"⟩
abbrev cX10_readAt : ByteArray := prog_10_method_84_code
def yX10_readAt : MethodName := ⟨RX10, "readAt", "(I)I"⟩
abbrev cX10_readBy : ByteArray := prog_10_method_85_code
def yX10_readBy : MethodName := ⟨RX10, "readBy", "(II)I"⟩
abbrev cX10_makes : ByteArray := prog_10_method_86_code
def yX10_makes : MethodName := ⟨RX10, "makes", "(I)I"⟩
abbrev cX10_pasted : ByteArray := prog_10_method_87_code
def yX10_pasted : MethodName := ⟨RX10, "pasted", "(II)V"⟩
abbrev cX10_seenNow : ByteArray := prog_10_method_88_code
def yX10_seenNow : MethodName := ⟨RX10, "seenNow", "(I)I"⟩
abbrev cX10_staysNow : ByteArray := prog_10_method_89_code
def yX10_staysNow : MethodName := ⟨RX10, "staysNow", "(II)I"⟩
abbrev cX10_stays : ByteArray := prog_10_method_90_code
def yX10_stays : MethodName := ⟨RX10, "stays", "(III)I"⟩
abbrev cX10_best : ByteArray := prog_10_method_91_code
def yX10_best : MethodName := ⟨RX10, "best", "(I)I"⟩
abbrev cX10_goes : ByteArray := prog_10_method_92_code
def yX10_goes : MethodName := ⟨RX10, "goes", "(II)Z"⟩
abbrev cX10_refusesRows : ByteArray := prog_10_method_93_code
def yX10_refusesRows : MethodName := ⟨RX10, "refusesRows", "(I)I"⟩
abbrev cX10_refusesSafely : ByteArray := prog_10_method_94_code
def yX10_refusesSafely : MethodName := ⟨RX10, "refusesSafely", "(I)I"⟩
abbrev cX10_far : ByteArray := prog_10_method_95_code
def yX10_far : MethodName := ⟨RX10, "far", "(I)I"⟩
abbrev cX10_shortest : ByteArray := prog_10_method_96_code
def yX10_shortest : MethodName := ⟨RX10, "shortest", "(I)I"⟩
abbrev cX10_winsNow : ByteArray := prog_10_method_97_code
def yX10_winsNow : MethodName := ⟨RX10, "winsNow", "(I)Z"⟩
abbrev cX10_loses : ByteArray := prog_10_method_98_code
def yX10_loses : MethodName := ⟨RX10, "loses", "(I)Z"⟩
abbrev cX10_wins : ByteArray := prog_10_method_99_code
def yX10_wins : MethodName := ⟨RX10, "wins", "(I)I"⟩
abbrev cX10_isAllBy : ByteArray := prog_10_method_100_code
def yX10_isAllBy : MethodName := ⟨RX10, "isAllBy", "(I)Z"⟩
abbrev cX10_goesFor : ByteArray := prog_10_method_101_code
def yX10_goesFor : MethodName := ⟨RX10, "goesFor", "(III)Z"⟩
abbrev cX10_close : ByteArray := prog_10_method_102_code
def yX10_close : MethodName := ⟨RX10, "close", "(II)I"⟩
abbrev cX10_firstPlace : ByteArray := prog_10_method_103_code
def yX10_firstPlace : MethodName := ⟨RX10, "firstPlace", "(IIZ)I"⟩
abbrev cX10_life : ByteArray := prog_10_method_104_code
def yX10_life : MethodName := ⟨RX10, "life", "(IZ)I"⟩
abbrev cX10_ordersNow : ByteArray := prog_10_method_105_code
def yX10_ordersNow : MethodName := ⟨RX10, "ordersNow", "(II)I"⟩
abbrev cX10_comes : ByteArray := prog_10_method_106_code
def yX10_comes : MethodName := ⟨RX10, "comes", "(I)I"⟩
abbrev cX10_looksSame : ByteArray := prog_10_method_107_code
def yX10_looksSame : MethodName := ⟨RX10, "looksSame", "()Z"⟩
abbrev cX10_orders : ByteArray := prog_10_method_108_code
def yX10_orders : MethodName := ⟨RX10, "orders", "()I"⟩
abbrev cX10_ahead : ByteArray := prog_10_method_109_code
def yX10_ahead : MethodName := ⟨RX10, "ahead", "(II)I"⟩
abbrev cX10_mark : ByteArray := prog_10_method_110_code
def yX10_mark : MethodName := ⟨RX10, "mark", "()I"⟩
abbrev cX10_back : ByteArray := prog_10_method_111_code
def yX10_back : MethodName := ⟨RX10, "back", "(I)Z"⟩
abbrev cX10_led : ByteArray := prog_10_method_112_code
def yX10_led : MethodName := ⟨RX10, "led", "(I)I"⟩
abbrev cX10_size : ByteArray := prog_10_method_113_code
def yX10_size : MethodName := ⟨RX10, "size", "(I)I"⟩
abbrev cX10_trouble : ByteArray := prog_10_method_114_code
def yX10_trouble : MethodName := ⟨RX10, "trouble", "()I"⟩
def RJx145de : String := "java/io/Serializable"
def TJx145de : u_T := fun k => match k with
  | _ => ("", "", "", false)
def tyJx145de : Nat → FieldType := fun k => match k with
  | _ => .int
abbrev wsJx145de0 : List Cond := u_ws RJx145de TJx145de 0
theorem nmJx145de : ∀ a, a < 0 → ∀ b, b < 0 → a ≠ b → (TJx145de a).2.1 ≠ (TJx145de b).2.1 := by decide +kernel
theorem tyJx145de_ok : ∀ k, k < 0 → parseFieldDescriptor (TJx145de k).2.2.1 = some (tyJx145de k) := by decide +kernel
def RJx9f9b0 : String := "java/lang/CharSequence"
def TJx9f9b0 : u_T := fun k => match k with
  | _ => ("", "", "", false)
def tyJx9f9b0 : Nat → FieldType := fun k => match k with
  | _ => .int
abbrev wsJx9f9b00 : List Cond := u_ws RJx9f9b0 TJx9f9b0 0
theorem nmJx9f9b0 : ∀ a, a < 0 → ∀ b, b < 0 → a ≠ b → (TJx9f9b0 a).2.1 ≠ (TJx9f9b0 b).2.1 := by decide +kernel
theorem tyJx9f9b0_ok : ∀ k, k < 0 → parseFieldDescriptor (TJx9f9b0 k).2.2.1 = some (tyJx9f9b0 k) := by decide +kernel
def RJxb160c : String := "java/lang/Comparable"
def TJxb160c : u_T := fun k => match k with
  | _ => ("", "", "", false)
def tyJxb160c : Nat → FieldType := fun k => match k with
  | _ => .int
abbrev wsJxb160c0 : List Cond := u_ws RJxb160c TJxb160c 0
theorem nmJxb160c : ∀ a, a < 0 → ∀ b, b < 0 → a ≠ b → (TJxb160c a).2.1 ≠ (TJxb160c b).2.1 := by decide +kernel
theorem tyJxb160c_ok : ∀ k, k < 0 → parseFieldDescriptor (TJxb160c k).2.2.1 = some (tyJxb160c k) := by decide +kernel
def RJ6 : String := "java/lang/Integer"
def TJ6 : u_T := fun k => match k with
  | _ => ("", "", "", false)
def tyJ6 : Nat → FieldType := fun k => match k with
  | _ => .int
abbrev wsJ60 : List Cond := u_ws RJ6 TJ6 0
theorem nmJ6 : ∀ a, a < 0 → ∀ b, b < 0 → a ≠ b → (TJ6 a).2.1 ≠ (TJ6 b).2.1 := by decide +kernel
theorem tyJ6_ok : ∀ k, k < 0 → parseFieldDescriptor (TJ6 k).2.2.1 = some (tyJ6 k) := by decide +kernel
abbrev cJ6_bitCount_0f7a4 : ByteArray := prog_17_method_49_code
def yJ6_bitCount_0f7a4 : MethodName := ⟨RJ6, "bitCount", "(I)I"⟩
def RJ9 : String := "java/lang/Math"
def TJ9 : u_T := fun k => match k with
  | _ => ("", "", "", false)
def tyJ9 : Nat → FieldType := fun k => match k with
  | _ => .int
abbrev wsJ90 : List Cond := u_ws RJ9 TJ9 0
theorem nmJ9 : ∀ a, a < 0 → ∀ b, b < 0 → a ≠ b → (TJ9 a).2.1 ≠ (TJ9 b).2.1 := by decide +kernel
theorem tyJ9_ok : ∀ k, k < 0 → parseFieldDescriptor (TJ9 k).2.2.1 = some (tyJ9 k) := by decide +kernel
abbrev cJ9_max_7cf53 : ByteArray := prog_18_method_65_code
def yJ9_max_7cf53 : MethodName := ⟨RJ9, "max", "(II)I"⟩
abbrev cJ9_min_7cf53 : ByteArray := prog_18_method_69_code
def yJ9_min_7cf53 : MethodName := ⟨RJ9, "min", "(II)I"⟩
def RJ0 : String := "java/lang/String"
def TJ0 : u_T := fun k => match k with
  | _ => ("", "", "", false)
def tyJ0 : Nat → FieldType := fun k => match k with
  | _ => .int
abbrev wsJ00 : List Cond := u_ws RJ0 TJ0 0
theorem nmJ0 : ∀ a, a < 0 → ∀ b, b < 0 → a ≠ b → (TJ0 a).2.1 ≠ (TJ0 b).2.1 := by decide +kernel
theorem tyJ0_ok : ∀ k, k < 0 → parseFieldDescriptor (TJ0 k).2.2.1 = some (tyJ0 k) := by decide +kernel
abbrev cJ0_length_8abf5 : ByteArray := prog_20_method_54_code
def yJ0_length_8abf5 : MethodName := ⟨RJ0, "length", "()I"⟩
abbrev cJ0_charAt_5068e : ByteArray := prog_20_method_56_code
def yJ0_charAt_5068e : MethodName := ⟨RJ0, "charAt", "(I)C"⟩
abbrev cJ0_coder_7d493 : ByteArray := prog_20_method_152_code
def yJ0_coder_7d493 : MethodName := ⟨RJ0, "coder", "()B"⟩
abbrev cJ0_isLatin1_aae02 : ByteArray := prog_20_method_154_code
def yJ0_isLatin1_aae02 : MethodName := ⟨RJ0, "isLatin1", "()Z"⟩
abbrev cJ0_checkIndex_df160 : ByteArray := prog_20_method_155_code
def yJ0_checkIndex_df160 : MethodName := ⟨RJ0, "checkIndex", "(II)V"⟩
def RJ1 : String := "java/lang/StringLatin1"
def TJ1 : u_T := fun k => match k with
  | _ => ("", "", "", false)
def tyJ1 : Nat → FieldType := fun k => match k with
  | _ => .int
abbrev wsJ10 : List Cond := u_ws RJ1 TJ1 0
theorem nmJ1 : ∀ a, a < 0 → ∀ b, b < 0 → a ≠ b → (TJ1 a).2.1 ≠ (TJ1 b).2.1 := by decide +kernel
theorem tyJ1_ok : ∀ k, k < 0 → parseFieldDescriptor (TJ1 k).2.2.1 = some (tyJ1 k) := by decide +kernel
abbrev cJ1_charAt_3b067 : ByteArray := prog_21_method_2_code
def yJ1_charAt_3b067 : MethodName := ⟨RJ1, "charAt", "([BI)C"⟩
def RJ2 : String := "java/lang/StringUTF16"
def TJ2 : u_T := fun k => match k with
  | _ => ("", "", "", false)
def tyJ2 : Nat → FieldType := fun k => match k with
  | _ => .int
abbrev wsJ20 : List Cond := u_ws RJ2 TJ2 0
theorem nmJ2 : ∀ a, a < 0 → ∀ b, b < 0 → a ≠ b → (TJ2 a).2.1 ≠ (TJ2 b).2.1 := by decide +kernel
theorem tyJ2_ok : ∀ k, k < 0 → parseFieldDescriptor (TJ2 k).2.2.1 = some (tyJ2 k) := by decide +kernel
abbrev cJ2_getChar_3b067 : ByteArray := prog_22_method_5_code
def yJ2_getChar_3b067 : MethodName := ⟨RJ2, "getChar", "([BI)C"⟩
abbrev cJ2_length_9d52b : ByteArray := prog_22_method_6_code
def yJ2_length_9d52b : MethodName := ⟨RJ2, "length", "([B)I"⟩
abbrev cJ2_charAt_3b067 : ByteArray := prog_22_method_83_code
def yJ2_charAt_3b067 : MethodName := ⟨RJ2, "charAt", "([BI)C"⟩
abbrev cJ2_checkIndex_2214a : ByteArray := prog_22_method_91_code
def yJ2_checkIndex_2214a : MethodName := ⟨RJ2, "checkIndex", "(I[B)V"⟩
def RJ10 : String := "java/lang/System"
def TJ10 : u_T := fun k => match k with
  | _ => ("", "", "", false)
def tyJ10 : Nat → FieldType := fun k => match k with
  | _ => .int
abbrev wsJ100 : List Cond := u_ws RJ10 TJ10 0
theorem nmJ10 : ∀ a, a < 0 → ∀ b, b < 0 → a ≠ b → (TJ10 a).2.1 ≠ (TJ10 b).2.1 := by decide +kernel
theorem tyJ10_ok : ∀ k, k < 0 → parseFieldDescriptor (TJ10 k).2.2.1 = some (tyJ10 k) := by decide +kernel
def RJxfd54e : String := "java/lang/constant/Constable"
def TJxfd54e : u_T := fun k => match k with
  | _ => ("", "", "", false)
def tyJxfd54e : Nat → FieldType := fun k => match k with
  | _ => .int
abbrev wsJxfd54e0 : List Cond := u_ws RJxfd54e TJxfd54e 0
theorem nmJxfd54e : ∀ a, a < 0 → ∀ b, b < 0 → a ≠ b → (TJxfd54e a).2.1 ≠ (TJxfd54e b).2.1 := by decide +kernel
theorem tyJxfd54e_ok : ∀ k, k < 0 → parseFieldDescriptor (TJxfd54e k).2.2.1 = some (tyJxfd54e k) := by decide +kernel
def RJx3cf43 : String := "java/lang/constant/ConstantDesc"
def TJx3cf43 : u_T := fun k => match k with
  | _ => ("", "", "", false)
def tyJx3cf43 : Nat → FieldType := fun k => match k with
  | _ => .int
abbrev wsJx3cf430 : List Cond := u_ws RJx3cf43 TJx3cf43 0
theorem nmJx3cf43 : ∀ a, a < 0 → ∀ b, b < 0 → a ≠ b → (TJx3cf43 a).2.1 ≠ (TJx3cf43 b).2.1 := by decide +kernel
theorem tyJx3cf43_ok : ∀ k, k < 0 → parseFieldDescriptor (TJx3cf43 k).2.2.1 = some (tyJx3cf43 k) := by decide +kernel
def RJ3 : String := "jdk/internal/util/Preconditions"
def TJ3 : u_T := fun k => match k with
  | _ => ("", "", "", false)
def tyJ3 : Nat → FieldType := fun k => match k with
  | _ => .int
abbrev wsJ30 : List Cond := u_ws RJ3 TJ3 0
theorem nmJ3 : ∀ a, a < 0 → ∀ b, b < 0 → a ≠ b → (TJ3 a).2.1 ≠ (TJ3 b).2.1 := by decide +kernel
theorem tyJ3_ok : ∀ k, k < 0 → parseFieldDescriptor (TJ3 k).2.2.1 = some (tyJ3 k) := by decide +kernel
abbrev cJ3_checkIndex_8e157 : ByteArray := prog_28_method_11_code
def yJ3_checkIndex_8e157 : MethodName := ⟨RJ3, "checkIndex", "(IILjava/util/function/BiFunction;)I"⟩
def RL : String := "CoverTwoLaw"
abbrev cL_led : ByteArray := method_3_code
def yL_led : MethodName := ⟨RL, "led", "(LCoverTwo;I[J)I"⟩
abbrev cL_law : ByteArray := code
def yL_law : MethodName := ⟨RL, "law", "([I)Z"⟩
