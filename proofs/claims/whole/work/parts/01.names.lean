-- ===== PART A: goes FIRST, ahead of the names: the tables' words, and 'selects' of the private methods out of them =====
/-- a private method of a class that the tables say can be made, by its rows of tables_1 -/
def lw_okq (q : MethodName × Nat) : Prop := (q.1.cls ≠ "java/lang/invoke/MethodHandle" ∧ q.1.cls ≠ "java/lang/invoke/VarHandle") ∧ Cond.instantiable q.1.cls q.2 ∈ tables_1 ∧ Cond.privateMethod q.1 ∈ tables_1 ∧ Cond.instanceMethod q.1 ∈ tables_1
theorem lw_p0 : lw_okq (⟨"BlindFiddles$Reader", "scan", "()V"⟩, 19) := ⟨⟨by decide +kernel, by decide +kernel⟩, List.mem_of_getElem? (i := 30) (by decide +kernel), List.mem_of_getElem? (i := 441) (by decide +kernel), List.mem_of_getElem? (i := 442) (by decide +kernel)⟩
theorem lw_p1 : lw_okq (⟨"BlindFiddles$Reader", "endOf", "(I)I"⟩, 19) := ⟨⟨by decide +kernel, by decide +kernel⟩, List.mem_of_getElem? (i := 30) (by decide +kernel), List.mem_of_getElem? (i := 448) (by decide +kernel), List.mem_of_getElem? (i := 449) (by decide +kernel)⟩
theorem lw_p2 : lw_okq (⟨"BlindFiddles$Reader", "isLetter", "(I)Z"⟩, 19) := ⟨⟨by decide +kernel, by decide +kernel⟩, List.mem_of_getElem? (i := 30) (by decide +kernel), List.mem_of_getElem? (i := 452) (by decide +kernel), List.mem_of_getElem? (i := 453) (by decide +kernel)⟩
theorem lw_p3 : lw_okq (⟨"BlindFiddles$Reader", "isDigit", "(I)Z"⟩, 19) := ⟨⟨by decide +kernel, by decide +kernel⟩, List.mem_of_getElem? (i := 30) (by decide +kernel), List.mem_of_getElem? (i := 456) (by decide +kernel), List.mem_of_getElem? (i := 457) (by decide +kernel)⟩
theorem lw_p4 : lw_okq (⟨"BlindFiddles$Reader", "kindOf", "(II)I"⟩, 19) := ⟨⟨by decide +kernel, by decide +kernel⟩, List.mem_of_getElem? (i := 30) (by decide +kernel), List.mem_of_getElem? (i := 460) (by decide +kernel), List.mem_of_getElem? (i := 461) (by decide +kernel)⟩
theorem lw_p5 : lw_okq (⟨"BlindFiddles$Reader", "wordOf", "(II)I"⟩, 19) := ⟨⟨by decide +kernel, by decide +kernel⟩, List.mem_of_getElem? (i := 30) (by decide +kernel), List.mem_of_getElem? (i := 464) (by decide +kernel), List.mem_of_getElem? (i := 465) (by decide +kernel)⟩
theorem lw_p6 : lw_okq (⟨"BlindFiddles$Reader", "isWord", "(III)Z"⟩, 19) := ⟨⟨by decide +kernel, by decide +kernel⟩, List.mem_of_getElem? (i := 30) (by decide +kernel), List.mem_of_getElem? (i := 468) (by decide +kernel), List.mem_of_getElem? (i := 469) (by decide +kernel)⟩
theorem lw_p7 : lw_okq (⟨"BlindFiddles$Reader", "takeFiddle", "()V"⟩, 19) := ⟨⟨by decide +kernel, by decide +kernel⟩, List.mem_of_getElem? (i := 30) (by decide +kernel), List.mem_of_getElem? (i := 588) (by decide +kernel), List.mem_of_getElem? (i := 589) (by decide +kernel)⟩
theorem lw_p8 : lw_okq (⟨"BlindFiddles$Reader", "passFirst", "(II)Z"⟩, 19) := ⟨⟨by decide +kernel, by decide +kernel⟩, List.mem_of_getElem? (i := 30) (by decide +kernel), List.mem_of_getElem? (i := 592) (by decide +kernel), List.mem_of_getElem? (i := 593) (by decide +kernel)⟩
theorem lw_p9 : lw_okq (⟨"BlindFiddles$Reader", "pass", "(I)Z"⟩, 19) := ⟨⟨by decide +kernel, by decide +kernel⟩, List.mem_of_getElem? (i := 30) (by decide +kernel), List.mem_of_getElem? (i := 596) (by decide +kernel), List.mem_of_getElem? (i := 597) (by decide +kernel)⟩
theorem lw_p10 : lw_okq (⟨"BlindFiddles$Reader", "takeNewName", "(II)V"⟩, 19) := ⟨⟨by decide +kernel, by decide +kernel⟩, List.mem_of_getElem? (i := 30) (by decide +kernel), List.mem_of_getElem? (i := 600) (by decide +kernel), List.mem_of_getElem? (i := 601) (by decide +kernel)⟩
theorem lw_p11 : lw_okq (⟨"BlindFiddles$Reader", "keyAt", "(I)J"⟩, 19) := ⟨⟨by decide +kernel, by decide +kernel⟩, List.mem_of_getElem? (i := 30) (by decide +kernel), List.mem_of_getElem? (i := 604) (by decide +kernel), List.mem_of_getElem? (i := 605) (by decide +kernel)⟩
theorem lw_p12 : lw_okq (⟨"BlindFiddles$Reader", "nameOf", "(J)I"⟩, 19) := ⟨⟨by decide +kernel, by decide +kernel⟩, List.mem_of_getElem? (i := 30) (by decide +kernel), List.mem_of_getElem? (i := 610) (by decide +kernel), List.mem_of_getElem? (i := 611) (by decide +kernel)⟩
theorem lw_p13 : lw_okq (⟨"BlindFiddles$Reader", "failLater", "(II)V"⟩, 19) := ⟨⟨by decide +kernel, by decide +kernel⟩, List.mem_of_getElem? (i := 30) (by decide +kernel), List.mem_of_getElem? (i := 614) (by decide +kernel), List.mem_of_getElem? (i := 615) (by decide +kernel)⟩
theorem lw_p14 : lw_okq (⟨"BlindFiddles$Reader", "passIf", "(I)Z"⟩, 19) := ⟨⟨by decide +kernel, by decide +kernel⟩, List.mem_of_getElem? (i := 30) (by decide +kernel), List.mem_of_getElem? (i := 618) (by decide +kernel), List.mem_of_getElem? (i := 619) (by decide +kernel)⟩
theorem lw_p15 : lw_okq (⟨"BlindFiddles$Reader", "takeInt", "(I)I"⟩, 19) := ⟨⟨by decide +kernel, by decide +kernel⟩, List.mem_of_getElem? (i := 30) (by decide +kernel), List.mem_of_getElem? (i := 622) (by decide +kernel), List.mem_of_getElem? (i := 623) (by decide +kernel)⟩
def lw_privs_1 : List (MethodName × Nat) := [(⟨"BlindFiddles$Reader", "scan", "()V"⟩, 19), (⟨"BlindFiddles$Reader", "endOf", "(I)I"⟩, 19), (⟨"BlindFiddles$Reader", "isLetter", "(I)Z"⟩, 19), (⟨"BlindFiddles$Reader", "isDigit", "(I)Z"⟩, 19), (⟨"BlindFiddles$Reader", "kindOf", "(II)I"⟩, 19), (⟨"BlindFiddles$Reader", "wordOf", "(II)I"⟩, 19), (⟨"BlindFiddles$Reader", "isWord", "(III)Z"⟩, 19), (⟨"BlindFiddles$Reader", "takeFiddle", "()V"⟩, 19), (⟨"BlindFiddles$Reader", "passFirst", "(II)Z"⟩, 19), (⟨"BlindFiddles$Reader", "pass", "(I)Z"⟩, 19), (⟨"BlindFiddles$Reader", "takeNewName", "(II)V"⟩, 19), (⟨"BlindFiddles$Reader", "keyAt", "(I)J"⟩, 19), (⟨"BlindFiddles$Reader", "nameOf", "(J)I"⟩, 19), (⟨"BlindFiddles$Reader", "failLater", "(II)V"⟩, 19), (⟨"BlindFiddles$Reader", "passIf", "(I)Z"⟩, 19), (⟨"BlindFiddles$Reader", "takeInt", "(I)I"⟩, 19)]
theorem lw_r1 : ∀ q ∈ lw_privs_1, lw_okq q := List.forall_mem_cons.mpr ⟨lw_p0, List.forall_mem_cons.mpr ⟨lw_p1, List.forall_mem_cons.mpr ⟨lw_p2, List.forall_mem_cons.mpr ⟨lw_p3, List.forall_mem_cons.mpr ⟨lw_p4, List.forall_mem_cons.mpr ⟨lw_p5, List.forall_mem_cons.mpr ⟨lw_p6, List.forall_mem_cons.mpr ⟨lw_p7, List.forall_mem_cons.mpr ⟨lw_p8, List.forall_mem_cons.mpr ⟨lw_p9, List.forall_mem_cons.mpr ⟨lw_p10, List.forall_mem_cons.mpr ⟨lw_p11, List.forall_mem_cons.mpr ⟨lw_p12, List.forall_mem_cons.mpr ⟨lw_p13, List.forall_mem_cons.mpr ⟨lw_p14, List.forall_mem_cons.mpr ⟨lw_p15, fun _ h => absurd h List.not_mem_nil⟩⟩⟩⟩⟩⟩⟩⟩⟩⟩⟩⟩⟩⟩⟩⟩
theorem lw_p16 : lw_okq (⟨"BlindFiddles$Reader", "takePerson", "(I)V"⟩, 19) := ⟨⟨by decide +kernel, by decide +kernel⟩, List.mem_of_getElem? (i := 30) (by decide +kernel), List.mem_of_getElem? (i := 626) (by decide +kernel), List.mem_of_getElem? (i := 627) (by decide +kernel)⟩
theorem lw_p17 : lw_okq (⟨"BlindFiddles$Reader", "takeBow", "()V"⟩, 19) := ⟨⟨by decide +kernel, by decide +kernel⟩, List.mem_of_getElem? (i := 30) (by decide +kernel), List.mem_of_getElem? (i := 630) (by decide +kernel), List.mem_of_getElem? (i := 631) (by decide +kernel)⟩
theorem lw_p18 : lw_okq (⟨"BlindFiddles$Reader", "takeLaw", "()V"⟩, 19) := ⟨⟨by decide +kernel, by decide +kernel⟩, List.mem_of_getElem? (i := 30) (by decide +kernel), List.mem_of_getElem? (i := 634) (by decide +kernel), List.mem_of_getElem? (i := 635) (by decide +kernel)⟩
theorem lw_p19 : lw_okq (⟨"BlindFiddles$Reader", "takeExpression", "()V"⟩, 19) := ⟨⟨by decide +kernel, by decide +kernel⟩, List.mem_of_getElem? (i := 30) (by decide +kernel), List.mem_of_getElem? (i := 638) (by decide +kernel), List.mem_of_getElem? (i := 639) (by decide +kernel)⟩
theorem lw_p20 : lw_okq (⟨"BlindFiddles$Reader", "startUnit", "()V"⟩, 19) := ⟨⟨by decide +kernel, by decide +kernel⟩, List.mem_of_getElem? (i := 30) (by decide +kernel), List.mem_of_getElem? (i := 642) (by decide +kernel), List.mem_of_getElem? (i := 643) (by decide +kernel)⟩
theorem lw_p21 : lw_okq (⟨"BlindFiddles$Reader", "hold", "(I)V"⟩, 19) := ⟨⟨by decide +kernel, by decide +kernel⟩, List.mem_of_getElem? (i := 30) (by decide +kernel), List.mem_of_getElem? (i := 646) (by decide +kernel), List.mem_of_getElem? (i := 647) (by decide +kernel)⟩
theorem lw_p22 : lw_okq (⟨"BlindFiddles$Reader", "write", "(I)V"⟩, 19) := ⟨⟨by decide +kernel, by decide +kernel⟩, List.mem_of_getElem? (i := 30) (by decide +kernel), List.mem_of_getElem? (i := 650) (by decide +kernel), List.mem_of_getElem? (i := 651) (by decide +kernel)⟩
theorem lw_p23 : lw_okq (⟨"BlindFiddles$Reader", "goOn", "()Z"⟩, 19) := ⟨⟨by decide +kernel, by decide +kernel⟩, List.mem_of_getElem? (i := 30) (by decide +kernel), List.mem_of_getElem? (i := 654) (by decide +kernel), List.mem_of_getElem? (i := 655) (by decide +kernel)⟩
theorem lw_p24 : lw_okq (⟨"BlindFiddles$Reader", "settle", "(II)V"⟩, 19) := ⟨⟨by decide +kernel, by decide +kernel⟩, List.mem_of_getElem? (i := 30) (by decide +kernel), List.mem_of_getElem? (i := 658) (by decide +kernel), List.mem_of_getElem? (i := 659) (by decide +kernel)⟩
theorem lw_p25 : lw_okq (⟨"BlindFiddles$Reader", "join", "(I)Z"⟩, 19) := ⟨⟨by decide +kernel, by decide +kernel⟩, List.mem_of_getElem? (i := 30) (by decide +kernel), List.mem_of_getElem? (i := 662) (by decide +kernel), List.mem_of_getElem? (i := 663) (by decide +kernel)⟩
theorem lw_p26 : lw_okq (⟨"BlindFiddles$Reader", "closeOrCompare", "(I)Z"⟩, 19) := ⟨⟨by decide +kernel, by decide +kernel⟩, List.mem_of_getElem? (i := 30) (by decide +kernel), List.mem_of_getElem? (i := 666) (by decide +kernel), List.mem_of_getElem? (i := 667) (by decide +kernel)⟩
theorem lw_p27 : lw_okq (⟨"BlindFiddles$Reader", "takePlan", "()V"⟩, 19) := ⟨⟨by decide +kernel, by decide +kernel⟩, List.mem_of_getElem? (i := 30) (by decide +kernel), List.mem_of_getElem? (i := 670) (by decide +kernel), List.mem_of_getElem? (i := 671) (by decide +kernel)⟩
theorem lw_p28 : lw_okq (⟨"BlindFiddles$Reader", "takeSit", "(I)V"⟩, 19) := ⟨⟨by decide +kernel, by decide +kernel⟩, List.mem_of_getElem? (i := 30) (by decide +kernel), List.mem_of_getElem? (i := 674) (by decide +kernel), List.mem_of_getElem? (i := 675) (by decide +kernel)⟩
theorem lw_p29 : lw_okq (⟨"BlindFiddles$Reader", "takeToldName", "(I)I"⟩, 19) := ⟨⟨by decide +kernel, by decide +kernel⟩, List.mem_of_getElem? (i := 30) (by decide +kernel), List.mem_of_getElem? (i := 678) (by decide +kernel), List.mem_of_getElem? (i := 679) (by decide +kernel)⟩
theorem lw_p30 : lw_okq (⟨"BlindFiddles$Reader", "takeOrdered", "(I)V"⟩, 19) := ⟨⟨by decide +kernel, by decide +kernel⟩, List.mem_of_getElem? (i := 30) (by decide +kernel), List.mem_of_getElem? (i := 682) (by decide +kernel), List.mem_of_getElem? (i := 683) (by decide +kernel)⟩
theorem lw_p31 : lw_okq (⟨"BlindFiddles", "answer", "(IIIIZ)V"⟩, 11) := ⟨⟨by decide +kernel, by decide +kernel⟩, List.mem_of_getElem? (i := 22) (by decide +kernel), List.mem_of_getElem? (i := 818) (by decide +kernel), List.mem_of_getElem? (i := 819) (by decide +kernel)⟩
def lw_privs_2 : List (MethodName × Nat) := [(⟨"BlindFiddles$Reader", "takePerson", "(I)V"⟩, 19), (⟨"BlindFiddles$Reader", "takeBow", "()V"⟩, 19), (⟨"BlindFiddles$Reader", "takeLaw", "()V"⟩, 19), (⟨"BlindFiddles$Reader", "takeExpression", "()V"⟩, 19), (⟨"BlindFiddles$Reader", "startUnit", "()V"⟩, 19), (⟨"BlindFiddles$Reader", "hold", "(I)V"⟩, 19), (⟨"BlindFiddles$Reader", "write", "(I)V"⟩, 19), (⟨"BlindFiddles$Reader", "goOn", "()Z"⟩, 19), (⟨"BlindFiddles$Reader", "settle", "(II)V"⟩, 19), (⟨"BlindFiddles$Reader", "join", "(I)Z"⟩, 19), (⟨"BlindFiddles$Reader", "closeOrCompare", "(I)Z"⟩, 19), (⟨"BlindFiddles$Reader", "takePlan", "()V"⟩, 19), (⟨"BlindFiddles$Reader", "takeSit", "(I)V"⟩, 19), (⟨"BlindFiddles$Reader", "takeToldName", "(I)I"⟩, 19), (⟨"BlindFiddles$Reader", "takeOrdered", "(I)V"⟩, 19), (⟨"BlindFiddles", "answer", "(IIIIZ)V"⟩, 11)]
theorem lw_r2 : ∀ q ∈ lw_privs_2, lw_okq q := List.forall_mem_cons.mpr ⟨lw_p16, List.forall_mem_cons.mpr ⟨lw_p17, List.forall_mem_cons.mpr ⟨lw_p18, List.forall_mem_cons.mpr ⟨lw_p19, List.forall_mem_cons.mpr ⟨lw_p20, List.forall_mem_cons.mpr ⟨lw_p21, List.forall_mem_cons.mpr ⟨lw_p22, List.forall_mem_cons.mpr ⟨lw_p23, List.forall_mem_cons.mpr ⟨lw_p24, List.forall_mem_cons.mpr ⟨lw_p25, List.forall_mem_cons.mpr ⟨lw_p26, List.forall_mem_cons.mpr ⟨lw_p27, List.forall_mem_cons.mpr ⟨lw_p28, List.forall_mem_cons.mpr ⟨lw_p29, List.forall_mem_cons.mpr ⟨lw_p30, List.forall_mem_cons.mpr ⟨lw_p31, fun _ h => absurd h List.not_mem_nil⟩⟩⟩⟩⟩⟩⟩⟩⟩⟩⟩⟩⟩⟩⟩⟩
theorem lw_p32 : lw_okq (⟨"BlindFiddles$Taste", "extremeOfQuick", "(LBlindFiddles$Told;IIZ)I"⟩, 2) := ⟨⟨by decide +kernel, by decide +kernel⟩, List.mem_of_getElem? (i := 175) (by decide +kernel), List.mem_of_getElem? (i := 841) (by decide +kernel), List.mem_of_getElem? (i := 842) (by decide +kernel)⟩
theorem lw_p33 : lw_okq (⟨"BlindFiddles", "gainsOn", "(IIII)J"⟩, 11) := ⟨⟨by decide +kernel, by decide +kernel⟩, List.mem_of_getElem? (i := 22) (by decide +kernel), List.mem_of_getElem? (i := 853) (by decide +kernel), List.mem_of_getElem? (i := 854) (by decide +kernel)⟩
theorem lw_p34 : lw_okq (⟨"BlindFiddles", "knows", "(I)Z"⟩, 11) := ⟨⟨by decide +kernel, by decide +kernel⟩, List.mem_of_getElem? (i := 22) (by decide +kernel), List.mem_of_getElem? (i := 890) (by decide +kernel), List.mem_of_getElem? (i := 891) (by decide +kernel)⟩
theorem lw_p35 : lw_okq (⟨"BlindFiddles$Known", "clear", "()V"⟩, 10) := ⟨⟨by decide +kernel, by decide +kernel⟩, List.mem_of_getElem? (i := 203) (by decide +kernel), List.mem_of_getElem? (i := 900) (by decide +kernel), List.mem_of_getElem? (i := 901) (by decide +kernel)⟩
theorem lw_p36 : lw_okq (⟨"BlindFiddles$Known", "sift", "(LBlindFiddles$Told;LBlindFiddles$Facts;)V"⟩, 10) := ⟨⟨by decide +kernel, by decide +kernel⟩, List.mem_of_getElem? (i := 203) (by decide +kernel), List.mem_of_getElem? (i := 905) (by decide +kernel), List.mem_of_getElem? (i := 906) (by decide +kernel)⟩
theorem lw_p37 : lw_okq (⟨"BlindFiddles$Known", "learnMark", "(LBlindFiddles$Told;LBlindFiddles$Facts;I)V"⟩, 10) := ⟨⟨by decide +kernel, by decide +kernel⟩, List.mem_of_getElem? (i := 203) (by decide +kernel), List.mem_of_getElem? (i := 913) (by decide +kernel), List.mem_of_getElem? (i := 914) (by decide +kernel)⟩
theorem lw_p38 : lw_okq (⟨"BlindFiddles$Known", "learnGuess", "(ZZ)V"⟩, 10) := ⟨⟨by decide +kernel, by decide +kernel⟩, List.mem_of_getElem? (i := 203) (by decide +kernel), List.mem_of_getElem? (i := 919) (by decide +kernel), List.mem_of_getElem? (i := 920) (by decide +kernel)⟩
theorem lw_p39 : lw_okq (⟨"BlindFiddles$Known", "learnMeans", "(LBlindFiddles$Told;)V"⟩, 10) := ⟨⟨by decide +kernel, by decide +kernel⟩, List.mem_of_getElem? (i := 203) (by decide +kernel), List.mem_of_getElem? (i := 923) (by decide +kernel), List.mem_of_getElem? (i := 924) (by decide +kernel)⟩
theorem lw_p40 : lw_okq (⟨"BlindFiddles$Turns", "clear", "()V"⟩, 4) := ⟨⟨by decide +kernel, by decide +kernel⟩, List.mem_of_getElem? (i := 306) (by decide +kernel), List.mem_of_getElem? (i := 1018) (by decide +kernel), List.mem_of_getElem? (i := 1019) (by decide +kernel)⟩
theorem lw_p41 : lw_okq (⟨"BlindFiddles$Turns", "gatherPlayer", "(LBlindFiddles$Told;LBlindFiddles$Known;I)V"⟩, 4) := ⟨⟨by decide +kernel, by decide +kernel⟩, List.mem_of_getElem? (i := 306) (by decide +kernel), List.mem_of_getElem? (i := 1023) (by decide +kernel), List.mem_of_getElem? (i := 1024) (by decide +kernel)⟩
theorem lw_p42 : lw_okq (⟨"BlindFiddles$Turns", "add", "(I)V"⟩, 4) := ⟨⟨by decide +kernel, by decide +kernel⟩, List.mem_of_getElem? (i := 306) (by decide +kernel), List.mem_of_getElem? (i := 1028) (by decide +kernel), List.mem_of_getElem? (i := 1029) (by decide +kernel)⟩
theorem lw_p43 : lw_okq (⟨"BlindFiddles$Known", "spotMean", "(I)I"⟩, 10) := ⟨⟨by decide +kernel, by decide +kernel⟩, List.mem_of_getElem? (i := 203) (by decide +kernel), List.mem_of_getElem? (i := 1090) (by decide +kernel), List.mem_of_getElem? (i := 1091) (by decide +kernel)⟩
theorem lw_p44 : lw_okq (⟨"BlindFiddles$NearFar", "gatherTwo", "(LBlindFiddles$Known;II)V"⟩, 7) := ⟨⟨by decide +kernel, by decide +kernel⟩, List.mem_of_getElem? (i := 328) (by decide +kernel), List.mem_of_getElem? (i := 1106) (by decide +kernel), List.mem_of_getElem? (i := 1107) (by decide +kernel)⟩
theorem lw_p45 : lw_okq (⟨"BlindFiddles$NearFar", "alikeWithThoseAhead", "(I)I"⟩, 7) := ⟨⟨by decide +kernel, by decide +kernel⟩, List.mem_of_getElem? (i := 328) (by decide +kernel), List.mem_of_getElem? (i := 1126) (by decide +kernel), List.mem_of_getElem? (i := 1127) (by decide +kernel)⟩
theorem lw_p46 : lw_okq (⟨"BlindFiddles$Known", "beatsOthers", "(LBlindFiddles$Told;I)Z"⟩, 10) := ⟨⟨by decide +kernel, by decide +kernel⟩, List.mem_of_getElem? (i := 203) (by decide +kernel), List.mem_of_getElem? (i := 1146) (by decide +kernel), List.mem_of_getElem? (i := 1147) (by decide +kernel)⟩
theorem lw_p47 : lw_okq (⟨"BlindFiddles$Need", "leastBar", "(IJJJ)I"⟩, 4) := ⟨⟨by decide +kernel, by decide +kernel⟩, List.mem_of_getElem? (i := 359) (by decide +kernel), List.mem_of_getElem? (i := 1173) (by decide +kernel), List.mem_of_getElem? (i := 1174) (by decide +kernel)⟩
def lw_privs_3 : List (MethodName × Nat) := [(⟨"BlindFiddles$Taste", "extremeOfQuick", "(LBlindFiddles$Told;IIZ)I"⟩, 2), (⟨"BlindFiddles", "gainsOn", "(IIII)J"⟩, 11), (⟨"BlindFiddles", "knows", "(I)Z"⟩, 11), (⟨"BlindFiddles$Known", "clear", "()V"⟩, 10), (⟨"BlindFiddles$Known", "sift", "(LBlindFiddles$Told;LBlindFiddles$Facts;)V"⟩, 10), (⟨"BlindFiddles$Known", "learnMark", "(LBlindFiddles$Told;LBlindFiddles$Facts;I)V"⟩, 10), (⟨"BlindFiddles$Known", "learnGuess", "(ZZ)V"⟩, 10), (⟨"BlindFiddles$Known", "learnMeans", "(LBlindFiddles$Told;)V"⟩, 10), (⟨"BlindFiddles$Turns", "clear", "()V"⟩, 4), (⟨"BlindFiddles$Turns", "gatherPlayer", "(LBlindFiddles$Told;LBlindFiddles$Known;I)V"⟩, 4), (⟨"BlindFiddles$Turns", "add", "(I)V"⟩, 4), (⟨"BlindFiddles$Known", "spotMean", "(I)I"⟩, 10), (⟨"BlindFiddles$NearFar", "gatherTwo", "(LBlindFiddles$Known;II)V"⟩, 7), (⟨"BlindFiddles$NearFar", "alikeWithThoseAhead", "(I)I"⟩, 7), (⟨"BlindFiddles$Known", "beatsOthers", "(LBlindFiddles$Told;I)Z"⟩, 10), (⟨"BlindFiddles$Need", "leastBar", "(IJJJ)I"⟩, 4)]
theorem lw_r3 : ∀ q ∈ lw_privs_3, lw_okq q := List.forall_mem_cons.mpr ⟨lw_p32, List.forall_mem_cons.mpr ⟨lw_p33, List.forall_mem_cons.mpr ⟨lw_p34, List.forall_mem_cons.mpr ⟨lw_p35, List.forall_mem_cons.mpr ⟨lw_p36, List.forall_mem_cons.mpr ⟨lw_p37, List.forall_mem_cons.mpr ⟨lw_p38, List.forall_mem_cons.mpr ⟨lw_p39, List.forall_mem_cons.mpr ⟨lw_p40, List.forall_mem_cons.mpr ⟨lw_p41, List.forall_mem_cons.mpr ⟨lw_p42, List.forall_mem_cons.mpr ⟨lw_p43, List.forall_mem_cons.mpr ⟨lw_p44, List.forall_mem_cons.mpr ⟨lw_p45, List.forall_mem_cons.mpr ⟨lw_p46, List.forall_mem_cons.mpr ⟨lw_p47, fun _ h => absurd h List.not_mem_nil⟩⟩⟩⟩⟩⟩⟩⟩⟩⟩⟩⟩⟩⟩⟩⟩
theorem lw_p48 : lw_okq (⟨"BlindFiddles", "sayBy", "(I)I"⟩, 11) := ⟨⟨by decide +kernel, by decide +kernel⟩, List.mem_of_getElem? (i := 22) (by decide +kernel), List.mem_of_getElem? (i := 1195) (by decide +kernel), List.mem_of_getElem? (i := 1196) (by decide +kernel)⟩
theorem lw_p49 : lw_okq (⟨"BlindFiddles", "sayOfGuesses", "()I"⟩, 11) := ⟨⟨by decide +kernel, by decide +kernel⟩, List.mem_of_getElem? (i := 22) (by decide +kernel), List.mem_of_getElem? (i := 1199) (by decide +kernel), List.mem_of_getElem? (i := 1200) (by decide +kernel)⟩
theorem lw_p50 : lw_okq (⟨"BlindFiddles", "sayOfKinds", "()I"⟩, 11) := ⟨⟨by decide +kernel, by decide +kernel⟩, List.mem_of_getElem? (i := 22) (by decide +kernel), List.mem_of_getElem? (i := 1204) (by decide +kernel), List.mem_of_getElem? (i := 1205) (by decide +kernel)⟩
theorem lw_p51 : lw_okq (⟨"BlindFiddles", "sayOfPairs", "()I"⟩, 11) := ⟨⟨by decide +kernel, by decide +kernel⟩, List.mem_of_getElem? (i := 22) (by decide +kernel), List.mem_of_getElem? (i := 1208) (by decide +kernel), List.mem_of_getElem? (i := 1209) (by decide +kernel)⟩
theorem lw_p52 : lw_okq (⟨"BlindFiddles", "sayOfWinner", "()I"⟩, 11) := ⟨⟨by decide +kernel, by decide +kernel⟩, List.mem_of_getElem? (i := 22) (by decide +kernel), List.mem_of_getElem? (i := 1215) (by decide +kernel), List.mem_of_getElem? (i := 1216) (by decide +kernel)⟩
theorem lw_p53 : lw_okq (⟨"BlindFiddlesModel", "put", "(I)V"⟩, 79) := ⟨⟨by decide +kernel, by decide +kernel⟩, List.mem_of_getElem? (i := 1227) (by decide +kernel), List.mem_of_getElem? (i := 1482) (by decide +kernel), List.mem_of_getElem? (i := 1483) (by decide +kernel)⟩
theorem lw_p54 : lw_okq (⟨"BlindFiddlesModel", "cut", "()V"⟩, 79) := ⟨⟨by decide +kernel, by decide +kernel⟩, List.mem_of_getElem? (i := 1227) (by decide +kernel), List.mem_of_getElem? (i := 1494) (by decide +kernel), List.mem_of_getElem? (i := 1495) (by decide +kernel)⟩
theorem lw_p55 : lw_okq (⟨"BlindFiddlesModel", "byteAt", "(I)I"⟩, 79) := ⟨⟨by decide +kernel, by decide +kernel⟩, List.mem_of_getElem? (i := 1227) (by decide +kernel), List.mem_of_getElem? (i := 1498) (by decide +kernel), List.mem_of_getElem? (i := 1499) (by decide +kernel)⟩
theorem lw_p56 : lw_okq (⟨"BlindFiddlesModel", "token", "(IIIJ)V"⟩, 79) := ⟨⟨by decide +kernel, by decide +kernel⟩, List.mem_of_getElem? (i := 1227) (by decide +kernel), List.mem_of_getElem? (i := 1502) (by decide +kernel), List.mem_of_getElem? (i := 1503) (by decide +kernel)⟩
theorem lw_p57 : lw_okq (⟨"BlindFiddlesModel", "sign", "(III)I"⟩, 79) := ⟨⟨by decide +kernel, by decide +kernel⟩, List.mem_of_getElem? (i := 1227) (by decide +kernel), List.mem_of_getElem? (i := 1512) (by decide +kernel), List.mem_of_getElem? (i := 1513) (by decide +kernel)⟩
theorem lw_p58 : lw_okq (⟨"BlindFiddlesModel", "is", "(I)Z"⟩, 79) := ⟨⟨by decide +kernel, by decide +kernel⟩, List.mem_of_getElem? (i := 1227) (by decide +kernel), List.mem_of_getElem? (i := 1516) (by decide +kernel), List.mem_of_getElem? (i := 1517) (by decide +kernel)⟩
theorem lw_p59 : lw_okq (⟨"BlindFiddlesModel", "tell", "()V"⟩, 79) := ⟨⟨by decide +kernel, by decide +kernel⟩, List.mem_of_getElem? (i := 1227) (by decide +kernel), List.mem_of_getElem? (i := 1520) (by decide +kernel), List.mem_of_getElem? (i := 1521) (by decide +kernel)⟩
theorem lw_p60 : lw_okq (⟨"BlindFiddlesModel", "fail", "(I)V"⟩, 79) := ⟨⟨by decide +kernel, by decide +kernel⟩, List.mem_of_getElem? (i := 1227) (by decide +kernel), List.mem_of_getElem? (i := 1524) (by decide +kernel), List.mem_of_getElem? (i := 1525) (by decide +kernel)⟩
theorem lw_p61 : lw_okq (⟨"BlindFiddlesModel", "tellFiddle", "()V"⟩, 79) := ⟨⟨by decide +kernel, by decide +kernel⟩, List.mem_of_getElem? (i := 1227) (by decide +kernel), List.mem_of_getElem? (i := 1528) (by decide +kernel), List.mem_of_getElem? (i := 1529) (by decide +kernel)⟩
theorem lw_p62 : lw_okq (⟨"BlindFiddlesModel", "goesOn", "()V"⟩, 79) := ⟨⟨by decide +kernel, by decide +kernel⟩, List.mem_of_getElem? (i := 1227) (by decide +kernel), List.mem_of_getElem? (i := 1532) (by decide +kernel), List.mem_of_getElem? (i := 1533) (by decide +kernel)⟩
theorem lw_p63 : lw_okq (⟨"BlindFiddlesModel", "named", "()I"⟩, 79) := ⟨⟨by decide +kernel, by decide +kernel⟩, List.mem_of_getElem? (i := 1227) (by decide +kernel), List.mem_of_getElem? (i := 1536) (by decide +kernel), List.mem_of_getElem? (i := 1537) (by decide +kernel)⟩
def lw_privs_4 : List (MethodName × Nat) := [(⟨"BlindFiddles", "sayBy", "(I)I"⟩, 11), (⟨"BlindFiddles", "sayOfGuesses", "()I"⟩, 11), (⟨"BlindFiddles", "sayOfKinds", "()I"⟩, 11), (⟨"BlindFiddles", "sayOfPairs", "()I"⟩, 11), (⟨"BlindFiddles", "sayOfWinner", "()I"⟩, 11), (⟨"BlindFiddlesModel", "put", "(I)V"⟩, 79), (⟨"BlindFiddlesModel", "cut", "()V"⟩, 79), (⟨"BlindFiddlesModel", "byteAt", "(I)I"⟩, 79), (⟨"BlindFiddlesModel", "token", "(IIIJ)V"⟩, 79), (⟨"BlindFiddlesModel", "sign", "(III)I"⟩, 79), (⟨"BlindFiddlesModel", "is", "(I)Z"⟩, 79), (⟨"BlindFiddlesModel", "tell", "()V"⟩, 79), (⟨"BlindFiddlesModel", "fail", "(I)V"⟩, 79), (⟨"BlindFiddlesModel", "tellFiddle", "()V"⟩, 79), (⟨"BlindFiddlesModel", "goesOn", "()V"⟩, 79), (⟨"BlindFiddlesModel", "named", "()I"⟩, 79)]
theorem lw_r4 : ∀ q ∈ lw_privs_4, lw_okq q := List.forall_mem_cons.mpr ⟨lw_p48, List.forall_mem_cons.mpr ⟨lw_p49, List.forall_mem_cons.mpr ⟨lw_p50, List.forall_mem_cons.mpr ⟨lw_p51, List.forall_mem_cons.mpr ⟨lw_p52, List.forall_mem_cons.mpr ⟨lw_p53, List.forall_mem_cons.mpr ⟨lw_p54, List.forall_mem_cons.mpr ⟨lw_p55, List.forall_mem_cons.mpr ⟨lw_p56, List.forall_mem_cons.mpr ⟨lw_p57, List.forall_mem_cons.mpr ⟨lw_p58, List.forall_mem_cons.mpr ⟨lw_p59, List.forall_mem_cons.mpr ⟨lw_p60, List.forall_mem_cons.mpr ⟨lw_p61, List.forall_mem_cons.mpr ⟨lw_p62, List.forall_mem_cons.mpr ⟨lw_p63, fun _ h => absurd h List.not_mem_nil⟩⟩⟩⟩⟩⟩⟩⟩⟩⟩⟩⟩⟩⟩⟩⟩
theorem lw_p64 : lw_okq (⟨"BlindFiddlesModel", "must", "(I)V"⟩, 79) := ⟨⟨by decide +kernel, by decide +kernel⟩, List.mem_of_getElem? (i := 1227) (by decide +kernel), List.mem_of_getElem? (i := 1540) (by decide +kernel), List.mem_of_getElem? (i := 1541) (by decide +kernel)⟩
theorem lw_p65 : lw_okq (⟨"BlindFiddlesModel", "wrong", "(II)V"⟩, 79) := ⟨⟨by decide +kernel, by decide +kernel⟩, List.mem_of_getElem? (i := 1227) (by decide +kernel), List.mem_of_getElem? (i := 1544) (by decide +kernel), List.mem_of_getElem? (i := 1545) (by decide +kernel)⟩
theorem lw_p66 : lw_okq (⟨"BlindFiddlesModel", "told", "(I)I"⟩, 79) := ⟨⟨by decide +kernel, by decide +kernel⟩, List.mem_of_getElem? (i := 1227) (by decide +kernel), List.mem_of_getElem? (i := 1548) (by decide +kernel), List.mem_of_getElem? (i := 1549) (by decide +kernel)⟩
theorem lw_p67 : lw_okq (⟨"BlindFiddlesModel", "knows", "(III)V"⟩, 79) := ⟨⟨by decide +kernel, by decide +kernel⟩, List.mem_of_getElem? (i := 1227) (by decide +kernel), List.mem_of_getElem? (i := 1552) (by decide +kernel), List.mem_of_getElem? (i := 1553) (by decide +kernel)⟩
theorem lw_p68 : lw_okq (⟨"BlindFiddlesModel", "tellPerson", "()V"⟩, 79) := ⟨⟨by decide +kernel, by decide +kernel⟩, List.mem_of_getElem? (i := 1227) (by decide +kernel), List.mem_of_getElem? (i := 1556) (by decide +kernel), List.mem_of_getElem? (i := 1557) (by decide +kernel)⟩
theorem lw_p69 : lw_okq (⟨"BlindFiddlesModel", "tellBow", "()V"⟩, 79) := ⟨⟨by decide +kernel, by decide +kernel⟩, List.mem_of_getElem? (i := 1227) (by decide +kernel), List.mem_of_getElem? (i := 1560) (by decide +kernel), List.mem_of_getElem? (i := 1561) (by decide +kernel)⟩
theorem lw_p70 : lw_okq (⟨"BlindFiddlesModel", "tellLaw", "()V"⟩, 79) := ⟨⟨by decide +kernel, by decide +kernel⟩, List.mem_of_getElem? (i := 1227) (by decide +kernel), List.mem_of_getElem? (i := 1564) (by decide +kernel), List.mem_of_getElem? (i := 1565) (by decide +kernel)⟩
theorem lw_p71 : lw_okq (⟨"BlindFiddlesModel", "expression", "()V"⟩, 79) := ⟨⟨by decide +kernel, by decide +kernel⟩, List.mem_of_getElem? (i := 1227) (by decide +kernel), List.mem_of_getElem? (i := 1568) (by decide +kernel), List.mem_of_getElem? (i := 1569) (by decide +kernel)⟩
theorem lw_p72 : lw_okq (⟨"BlindFiddlesModel", "waitFor", "(I)V"⟩, 79) := ⟨⟨by decide +kernel, by decide +kernel⟩, List.mem_of_getElem? (i := 1227) (by decide +kernel), List.mem_of_getElem? (i := 1572) (by decide +kernel), List.mem_of_getElem? (i := 1573) (by decide +kernel)⟩
theorem lw_p73 : lw_okq (⟨"BlindFiddlesModel", "unit", "()V"⟩, 79) := ⟨⟨by decide +kernel, by decide +kernel⟩, List.mem_of_getElem? (i := 1227) (by decide +kernel), List.mem_of_getElem? (i := 1576) (by decide +kernel), List.mem_of_getElem? (i := 1577) (by decide +kernel)⟩
theorem lw_p74 : lw_okq (⟨"BlindFiddlesModel", "emit", "(II)V"⟩, 79) := ⟨⟨by decide +kernel, by decide +kernel⟩, List.mem_of_getElem? (i := 1227) (by decide +kernel), List.mem_of_getElem? (i := 1580) (by decide +kernel), List.mem_of_getElem? (i := 1581) (by decide +kernel)⟩
theorem lw_p75 : lw_okq (⟨"BlindFiddlesModel", "goes", "()Z"⟩, 79) := ⟨⟨by decide +kernel, by decide +kernel⟩, List.mem_of_getElem? (i := 1227) (by decide +kernel), List.mem_of_getElem? (i := 1584) (by decide +kernel), List.mem_of_getElem? (i := 1585) (by decide +kernel)⟩
theorem lw_p76 : lw_okq (⟨"BlindFiddlesModel", "comesOut", "(Z)V"⟩, 79) := ⟨⟨by decide +kernel, by decide +kernel⟩, List.mem_of_getElem? (i := 1227) (by decide +kernel), List.mem_of_getElem? (i := 1588) (by decide +kernel), List.mem_of_getElem? (i := 1589) (by decide +kernel)⟩
theorem lw_p77 : lw_okq (⟨"BlindFiddlesModel", "waitsOn", "(I)Z"⟩, 79) := ⟨⟨by decide +kernel, by decide +kernel⟩, List.mem_of_getElem? (i := 1227) (by decide +kernel), List.mem_of_getElem? (i := 1592) (by decide +kernel), List.mem_of_getElem? (i := 1593) (by decide +kernel)⟩
theorem lw_p78 : lw_okq (⟨"BlindFiddlesModel", "tellPlan", "()V"⟩, 79) := ⟨⟨by decide +kernel, by decide +kernel⟩, List.mem_of_getElem? (i := 1227) (by decide +kernel), List.mem_of_getElem? (i := 1596) (by decide +kernel), List.mem_of_getElem? (i := 1597) (by decide +kernel)⟩
theorem lw_p79 : lw_okq (⟨"BlindFiddlesModel", "tellSit", "()V"⟩, 79) := ⟨⟨by decide +kernel, by decide +kernel⟩, List.mem_of_getElem? (i := 1227) (by decide +kernel), List.mem_of_getElem? (i := 1600) (by decide +kernel), List.mem_of_getElem? (i := 1601) (by decide +kernel)⟩
def lw_privs_5 : List (MethodName × Nat) := [(⟨"BlindFiddlesModel", "must", "(I)V"⟩, 79), (⟨"BlindFiddlesModel", "wrong", "(II)V"⟩, 79), (⟨"BlindFiddlesModel", "told", "(I)I"⟩, 79), (⟨"BlindFiddlesModel", "knows", "(III)V"⟩, 79), (⟨"BlindFiddlesModel", "tellPerson", "()V"⟩, 79), (⟨"BlindFiddlesModel", "tellBow", "()V"⟩, 79), (⟨"BlindFiddlesModel", "tellLaw", "()V"⟩, 79), (⟨"BlindFiddlesModel", "expression", "()V"⟩, 79), (⟨"BlindFiddlesModel", "waitFor", "(I)V"⟩, 79), (⟨"BlindFiddlesModel", "unit", "()V"⟩, 79), (⟨"BlindFiddlesModel", "emit", "(II)V"⟩, 79), (⟨"BlindFiddlesModel", "goes", "()Z"⟩, 79), (⟨"BlindFiddlesModel", "comesOut", "(Z)V"⟩, 79), (⟨"BlindFiddlesModel", "waitsOn", "(I)Z"⟩, 79), (⟨"BlindFiddlesModel", "tellPlan", "()V"⟩, 79), (⟨"BlindFiddlesModel", "tellSit", "()V"⟩, 79)]
theorem lw_r5 : ∀ q ∈ lw_privs_5, lw_okq q := List.forall_mem_cons.mpr ⟨lw_p64, List.forall_mem_cons.mpr ⟨lw_p65, List.forall_mem_cons.mpr ⟨lw_p66, List.forall_mem_cons.mpr ⟨lw_p67, List.forall_mem_cons.mpr ⟨lw_p68, List.forall_mem_cons.mpr ⟨lw_p69, List.forall_mem_cons.mpr ⟨lw_p70, List.forall_mem_cons.mpr ⟨lw_p71, List.forall_mem_cons.mpr ⟨lw_p72, List.forall_mem_cons.mpr ⟨lw_p73, List.forall_mem_cons.mpr ⟨lw_p74, List.forall_mem_cons.mpr ⟨lw_p75, List.forall_mem_cons.mpr ⟨lw_p76, List.forall_mem_cons.mpr ⟨lw_p77, List.forall_mem_cons.mpr ⟨lw_p78, List.forall_mem_cons.mpr ⟨lw_p79, fun _ h => absurd h List.not_mem_nil⟩⟩⟩⟩⟩⟩⟩⟩⟩⟩⟩⟩⟩⟩⟩⟩
theorem lw_p80 : lw_okq (⟨"BlindFiddlesModel", "known", "(I)I"⟩, 79) := ⟨⟨by decide +kernel, by decide +kernel⟩, List.mem_of_getElem? (i := 1227) (by decide +kernel), List.mem_of_getElem? (i := 1604) (by decide +kernel), List.mem_of_getElem? (i := 1605) (by decide +kernel)⟩
theorem lw_p81 : lw_okq (⟨"BlindFiddlesModel", "isFiddle", "(I)Z"⟩, 79) := ⟨⟨by decide +kernel, by decide +kernel⟩, List.mem_of_getElem? (i := 1227) (by decide +kernel), List.mem_of_getElem? (i := 1616) (by decide +kernel), List.mem_of_getElem? (i := 1617) (by decide +kernel)⟩
theorem lw_p82 : lw_okq (⟨"BlindFiddlesModel", "isOldOne", "(I)Z"⟩, 79) := ⟨⟨by decide +kernel, by decide +kernel⟩, List.mem_of_getElem? (i := 1227) (by decide +kernel), List.mem_of_getElem? (i := 1623) (by decide +kernel), List.mem_of_getElem? (i := 1624) (by decide +kernel)⟩
theorem lw_p83 : lw_okq (⟨"BlindFiddlesModel", "isPerson", "(I)Z"⟩, 79) := ⟨⟨by decide +kernel, by decide +kernel⟩, List.mem_of_getElem? (i := 1227) (by decide +kernel), List.mem_of_getElem? (i := 1631) (by decide +kernel), List.mem_of_getElem? (i := 1632) (by decide +kernel)⟩
theorem lw_p84 : lw_okq (⟨"BlindFiddlesModel", "isPlayer", "(I)Z"⟩, 79) := ⟨⟨by decide +kernel, by decide +kernel⟩, List.mem_of_getElem? (i := 1227) (by decide +kernel), List.mem_of_getElem? (i := 1635) (by decide +kernel), List.mem_of_getElem? (i := 1636) (by decide +kernel)⟩
theorem lw_p85 : lw_okq (⟨"BlindFiddlesModel", "isSitting", "(II)Z"⟩, 79) := ⟨⟨by decide +kernel, by decide +kernel⟩, List.mem_of_getElem? (i := 1227) (by decide +kernel), List.mem_of_getElem? (i := 1643) (by decide +kernel), List.mem_of_getElem? (i := 1644) (by decide +kernel)⟩
theorem lw_p86 : lw_okq (⟨"BlindFiddlesModel", "isPlan", "(I)Z"⟩, 79) := ⟨⟨by decide +kernel, by decide +kernel⟩, List.mem_of_getElem? (i := 1227) (by decide +kernel), List.mem_of_getElem? (i := 1647) (by decide +kernel), List.mem_of_getElem? (i := 1648) (by decide +kernel)⟩
theorem lw_p87 : lw_okq (⟨"BlindFiddlesModel", "sitAt", "(II)I"⟩, 79) := ⟨⟨by decide +kernel, by decide +kernel⟩, List.mem_of_getElem? (i := 1227) (by decide +kernel), List.mem_of_getElem? (i := 1651) (by decide +kernel), List.mem_of_getElem? (i := 1652) (by decide +kernel)⟩
theorem lw_p88 : lw_okq (⟨"BlindFiddlesModel", "isLaw", "(I)Z"⟩, 79) := ⟨⟨by decide +kernel, by decide +kernel⟩, List.mem_of_getElem? (i := 1227) (by decide +kernel), List.mem_of_getElem? (i := 1659) (by decide +kernel), List.mem_of_getElem? (i := 1660) (by decide +kernel)⟩
theorem lw_p89 : lw_okq (⟨"BlindFiddlesModel", "isBow", "(I)Z"⟩, 79) := ⟨⟨by decide +kernel, by decide +kernel⟩, List.mem_of_getElem? (i := 1227) (by decide +kernel), List.mem_of_getElem? (i := 1663) (by decide +kernel), List.mem_of_getElem? (i := 1664) (by decide +kernel)⟩
theorem lw_p90 : lw_okq (⟨"BlindFiddlesModel", "likes", "(IIIIZII)I"⟩, 79) := ⟨⟨by decide +kernel, by decide +kernel⟩, List.mem_of_getElem? (i := 1227) (by decide +kernel), List.mem_of_getElem? (i := 1668) (by decide +kernel), List.mem_of_getElem? (i := 1669) (by decide +kernel)⟩
theorem lw_p91 : lw_okq (⟨"BlindFiddlesModel", "valueOf", "(I)I"⟩, 79) := ⟨⟨by decide +kernel, by decide +kernel⟩, List.mem_of_getElem? (i := 1227) (by decide +kernel), List.mem_of_getElem? (i := 1672) (by decide +kernel), List.mem_of_getElem? (i := 1673) (by decide +kernel)⟩
theorem lw_p92 : lw_okq (⟨"BlindFiddlesModel", "takenIn", "(IIII)I"⟩, 79) := ⟨⟨by decide +kernel, by decide +kernel⟩, List.mem_of_getElem? (i := 1227) (by decide +kernel), List.mem_of_getElem? (i := 1680) (by decide +kernel), List.mem_of_getElem? (i := 1681) (by decide +kernel)⟩
theorem lw_p93 : lw_okq (⟨"BlindFiddlesModel", "says", "(IIIII)I"⟩, 79) := ⟨⟨by decide +kernel, by decide +kernel⟩, List.mem_of_getElem? (i := 1227) (by decide +kernel), List.mem_of_getElem? (i := 1684) (by decide +kernel), List.mem_of_getElem? (i := 1685) (by decide +kernel)⟩
theorem lw_p94 : lw_okq (⟨"BlindFiddlesModel", "touched", "(IIIIIZ)I"⟩, 79) := ⟨⟨by decide +kernel, by decide +kernel⟩, List.mem_of_getElem? (i := 1227) (by decide +kernel), List.mem_of_getElem? (i := 1703) (by decide +kernel), List.mem_of_getElem? (i := 1704) (by decide +kernel)⟩
theorem lw_p95 : lw_okq (⟨"BlindFiddlesModel", "comes", "(IIIIIZ)I"⟩, 79) := ⟨⟨by decide +kernel, by decide +kernel⟩, List.mem_of_getElem? (i := 1227) (by decide +kernel), List.mem_of_getElem? (i := 1716) (by decide +kernel), List.mem_of_getElem? (i := 1717) (by decide +kernel)⟩
def lw_privs_6 : List (MethodName × Nat) := [(⟨"BlindFiddlesModel", "known", "(I)I"⟩, 79), (⟨"BlindFiddlesModel", "isFiddle", "(I)Z"⟩, 79), (⟨"BlindFiddlesModel", "isOldOne", "(I)Z"⟩, 79), (⟨"BlindFiddlesModel", "isPerson", "(I)Z"⟩, 79), (⟨"BlindFiddlesModel", "isPlayer", "(I)Z"⟩, 79), (⟨"BlindFiddlesModel", "isSitting", "(II)Z"⟩, 79), (⟨"BlindFiddlesModel", "isPlan", "(I)Z"⟩, 79), (⟨"BlindFiddlesModel", "sitAt", "(II)I"⟩, 79), (⟨"BlindFiddlesModel", "isLaw", "(I)Z"⟩, 79), (⟨"BlindFiddlesModel", "isBow", "(I)Z"⟩, 79), (⟨"BlindFiddlesModel", "likes", "(IIIIZII)I"⟩, 79), (⟨"BlindFiddlesModel", "valueOf", "(I)I"⟩, 79), (⟨"BlindFiddlesModel", "takenIn", "(IIII)I"⟩, 79), (⟨"BlindFiddlesModel", "says", "(IIIII)I"⟩, 79), (⟨"BlindFiddlesModel", "touched", "(IIIIIZ)I"⟩, 79), (⟨"BlindFiddlesModel", "comes", "(IIIIIZ)I"⟩, 79)]
theorem lw_r6 : ∀ q ∈ lw_privs_6, lw_okq q := List.forall_mem_cons.mpr ⟨lw_p80, List.forall_mem_cons.mpr ⟨lw_p81, List.forall_mem_cons.mpr ⟨lw_p82, List.forall_mem_cons.mpr ⟨lw_p83, List.forall_mem_cons.mpr ⟨lw_p84, List.forall_mem_cons.mpr ⟨lw_p85, List.forall_mem_cons.mpr ⟨lw_p86, List.forall_mem_cons.mpr ⟨lw_p87, List.forall_mem_cons.mpr ⟨lw_p88, List.forall_mem_cons.mpr ⟨lw_p89, List.forall_mem_cons.mpr ⟨lw_p90, List.forall_mem_cons.mpr ⟨lw_p91, List.forall_mem_cons.mpr ⟨lw_p92, List.forall_mem_cons.mpr ⟨lw_p93, List.forall_mem_cons.mpr ⟨lw_p94, List.forall_mem_cons.mpr ⟨lw_p95, fun _ h => absurd h List.not_mem_nil⟩⟩⟩⟩⟩⟩⟩⟩⟩⟩⟩⟩⟩⟩⟩⟩
theorem lw_p96 : lw_okq (⟨"BlindFiddlesModel", "isKnown", "(I)Z"⟩, 79) := ⟨⟨by decide +kernel, by decide +kernel⟩, List.mem_of_getElem? (i := 1227) (by decide +kernel), List.mem_of_getElem? (i := 1740) (by decide +kernel), List.mem_of_getElem? (i := 1741) (by decide +kernel)⟩
theorem lw_p97 : lw_okq (⟨"BlindFiddlesModel", "gathers", "(I)V"⟩, 79) := ⟨⟨by decide +kernel, by decide +kernel⟩, List.mem_of_getElem? (i := 1227) (by decide +kernel), List.mem_of_getElem? (i := 1744) (by decide +kernel), List.mem_of_getElem? (i := 1745) (by decide +kernel)⟩
theorem lw_p98 : lw_okq (⟨"BlindFiddlesModel", "counts", "(III)Z"⟩, 79) := ⟨⟨by decide +kernel, by decide +kernel⟩, List.mem_of_getElem? (i := 1227) (by decide +kernel), List.mem_of_getElem? (i := 1748) (by decide +kernel), List.mem_of_getElem? (i := 1749) (by decide +kernel)⟩
theorem lw_p99 : lw_okq (⟨"BlindFiddlesModel", "sumOf", "(IZ)I"⟩, 79) := ⟨⟨by decide +kernel, by decide +kernel⟩, List.mem_of_getElem? (i := 1227) (by decide +kernel), List.mem_of_getElem? (i := 1756) (by decide +kernel), List.mem_of_getElem? (i := 1757) (by decide +kernel)⟩
theorem lw_p100 : lw_okq (⟨"BlindFiddlesModel", "manyOf", "(IZ)I"⟩, 79) := ⟨⟨by decide +kernel, by decide +kernel⟩, List.mem_of_getElem? (i := 1227) (by decide +kernel), List.mem_of_getElem? (i := 1760) (by decide +kernel), List.mem_of_getElem? (i := 1761) (by decide +kernel)⟩
theorem lw_p101 : lw_okq (⟨"BlindFiddlesModel", "guessed", "(II)I"⟩, 79) := ⟨⟨by decide +kernel, by decide +kernel⟩, List.mem_of_getElem? (i := 1227) (by decide +kernel), List.mem_of_getElem? (i := 1768) (by decide +kernel), List.mem_of_getElem? (i := 1769) (by decide +kernel)⟩
theorem lw_p102 : lw_okq (⟨"BlindFiddlesModel", "coinOf", "(IZ)J"⟩, 79) := ⟨⟨by decide +kernel, by decide +kernel⟩, List.mem_of_getElem? (i := 1227) (by decide +kernel), List.mem_of_getElem? (i := 1776) (by decide +kernel), List.mem_of_getElem? (i := 1777) (by decide +kernel)⟩
theorem lw_p103 : lw_okq (⟨"BlindFiddlesModel", "steadies", "(I)V"⟩, 79) := ⟨⟨by decide +kernel, by decide +kernel⟩, List.mem_of_getElem? (i := 1227) (by decide +kernel), List.mem_of_getElem? (i := 1799) (by decide +kernel), List.mem_of_getElem? (i := 1800) (by decide +kernel)⟩
theorem lw_p104 : lw_okq (⟨"BlindFiddlesModel", "off", "()I"⟩, 79) := ⟨⟨by decide +kernel, by decide +kernel⟩, List.mem_of_getElem? (i := 1227) (by decide +kernel), List.mem_of_getElem? (i := 1803) (by decide +kernel), List.mem_of_getElem? (i := 1804) (by decide +kernel)⟩
theorem lw_p105 : lw_okq (⟨"BlindFiddlesModel", "steadyCount", "(I)I"⟩, 79) := ⟨⟨by decide +kernel, by decide +kernel⟩, List.mem_of_getElem? (i := 1227) (by decide +kernel), List.mem_of_getElem? (i := 1814) (by decide +kernel), List.mem_of_getElem? (i := 1815) (by decide +kernel)⟩
theorem lw_p106 : lw_okq (⟨"BlindFiddlesModel", "gives", "(II)V"⟩, 79) := ⟨⟨by decide +kernel, by decide +kernel⟩, List.mem_of_getElem? (i := 1227) (by decide +kernel), List.mem_of_getElem? (i := 1821) (by decide +kernel), List.mem_of_getElem? (i := 1822) (by decide +kernel)⟩
theorem lw_p107 : lw_okq (⟨"BlindFiddlesModel", "kindsBy", "(II)V"⟩, 79) := ⟨⟨by decide +kernel, by decide +kernel⟩, List.mem_of_getElem? (i := 1227) (by decide +kernel), List.mem_of_getElem? (i := 1830) (by decide +kernel), List.mem_of_getElem? (i := 1831) (by decide +kernel)⟩
theorem lw_p108 : lw_okq (⟨"BlindFiddlesModel", "kindsNow", "()I"⟩, 79) := ⟨⟨by decide +kernel, by decide +kernel⟩, List.mem_of_getElem? (i := 1227) (by decide +kernel), List.mem_of_getElem? (i := 1837) (by decide +kernel), List.mem_of_getElem? (i := 1838) (by decide +kernel)⟩
theorem lw_p109 : lw_okq (⟨"BlindFiddlesModel", "kindsApart", "(I)I"⟩, 79) := ⟨⟨by decide +kernel, by decide +kernel⟩, List.mem_of_getElem? (i := 1227) (by decide +kernel), List.mem_of_getElem? (i := 1841) (by decide +kernel), List.mem_of_getElem? (i := 1842) (by decide +kernel)⟩
theorem lw_p110 : lw_okq (⟨"BlindFiddlesModel", "kindsCount", "(Z)I"⟩, 79) := ⟨⟨by decide +kernel, by decide +kernel⟩, List.mem_of_getElem? (i := 1227) (by decide +kernel), List.mem_of_getElem? (i := 1849) (by decide +kernel), List.mem_of_getElem? (i := 1850) (by decide +kernel)⟩
theorem lw_p111 : lw_okq (⟨"BlindFiddlesModel", "flipsBy", "(I)V"⟩, 79) := ⟨⟨by decide +kernel, by decide +kernel⟩, List.mem_of_getElem? (i := 1227) (by decide +kernel), List.mem_of_getElem? (i := 1864) (by decide +kernel), List.mem_of_getElem? (i := 1865) (by decide +kernel)⟩
def lw_privs_7 : List (MethodName × Nat) := [(⟨"BlindFiddlesModel", "isKnown", "(I)Z"⟩, 79), (⟨"BlindFiddlesModel", "gathers", "(I)V"⟩, 79), (⟨"BlindFiddlesModel", "counts", "(III)Z"⟩, 79), (⟨"BlindFiddlesModel", "sumOf", "(IZ)I"⟩, 79), (⟨"BlindFiddlesModel", "manyOf", "(IZ)I"⟩, 79), (⟨"BlindFiddlesModel", "guessed", "(II)I"⟩, 79), (⟨"BlindFiddlesModel", "coinOf", "(IZ)J"⟩, 79), (⟨"BlindFiddlesModel", "steadies", "(I)V"⟩, 79), (⟨"BlindFiddlesModel", "off", "()I"⟩, 79), (⟨"BlindFiddlesModel", "steadyCount", "(I)I"⟩, 79), (⟨"BlindFiddlesModel", "gives", "(II)V"⟩, 79), (⟨"BlindFiddlesModel", "kindsBy", "(II)V"⟩, 79), (⟨"BlindFiddlesModel", "kindsNow", "()I"⟩, 79), (⟨"BlindFiddlesModel", "kindsApart", "(I)I"⟩, 79), (⟨"BlindFiddlesModel", "kindsCount", "(Z)I"⟩, 79), (⟨"BlindFiddlesModel", "flipsBy", "(I)V"⟩, 79)]
theorem lw_r7 : ∀ q ∈ lw_privs_7, lw_okq q := List.forall_mem_cons.mpr ⟨lw_p96, List.forall_mem_cons.mpr ⟨lw_p97, List.forall_mem_cons.mpr ⟨lw_p98, List.forall_mem_cons.mpr ⟨lw_p99, List.forall_mem_cons.mpr ⟨lw_p100, List.forall_mem_cons.mpr ⟨lw_p101, List.forall_mem_cons.mpr ⟨lw_p102, List.forall_mem_cons.mpr ⟨lw_p103, List.forall_mem_cons.mpr ⟨lw_p104, List.forall_mem_cons.mpr ⟨lw_p105, List.forall_mem_cons.mpr ⟨lw_p106, List.forall_mem_cons.mpr ⟨lw_p107, List.forall_mem_cons.mpr ⟨lw_p108, List.forall_mem_cons.mpr ⟨lw_p109, List.forall_mem_cons.mpr ⟨lw_p110, List.forall_mem_cons.mpr ⟨lw_p111, fun _ h => absurd h List.not_mem_nil⟩⟩⟩⟩⟩⟩⟩⟩⟩⟩⟩⟩⟩⟩⟩⟩
theorem lw_p112 : lw_okq (⟨"BlindFiddlesModel", "signSum", "()I"⟩, 79) := ⟨⟨by decide +kernel, by decide +kernel⟩, List.mem_of_getElem? (i := 1227) (by decide +kernel), List.mem_of_getElem? (i := 1868) (by decide +kernel), List.mem_of_getElem? (i := 1869) (by decide +kernel)⟩
theorem lw_p113 : lw_okq (⟨"BlindFiddlesModel", "signWays", "()I"⟩, 79) := ⟨⟨by decide +kernel, by decide +kernel⟩, List.mem_of_getElem? (i := 1227) (by decide +kernel), List.mem_of_getElem? (i := 1876) (by decide +kernel), List.mem_of_getElem? (i := 1877) (by decide +kernel)⟩
theorem lw_p114 : lw_okq (⟨"BlindFiddlesModel", "knowingBy", "(I)V"⟩, 79) := ⟨⟨by decide +kernel, by decide +kernel⟩, List.mem_of_getElem? (i := 1227) (by decide +kernel), List.mem_of_getElem? (i := 1884) (by decide +kernel), List.mem_of_getElem? (i := 1885) (by decide +kernel)⟩
theorem lw_p115 : lw_okq (⟨"BlindFiddlesModel", "spotSum", "(II)I"⟩, 79) := ⟨⟨by decide +kernel, by decide +kernel⟩, List.mem_of_getElem? (i := 1227) (by decide +kernel), List.mem_of_getElem? (i := 1896) (by decide +kernel), List.mem_of_getElem? (i := 1897) (by decide +kernel)⟩
theorem lw_p116 : lw_okq (⟨"BlindFiddlesModel", "isSpotMark", "(II)Z"⟩, 79) := ⟨⟨by decide +kernel, by decide +kernel⟩, List.mem_of_getElem? (i := 1227) (by decide +kernel), List.mem_of_getElem? (i := 1900) (by decide +kernel), List.mem_of_getElem? (i := 1901) (by decide +kernel)⟩
theorem lw_p117 : lw_okq (⟨"BlindFiddlesModel", "spotMany", "(II)I"⟩, 79) := ⟨⟨by decide +kernel, by decide +kernel⟩, List.mem_of_getElem? (i := 1227) (by decide +kernel), List.mem_of_getElem? (i := 1904) (by decide +kernel), List.mem_of_getElem? (i := 1905) (by decide +kernel)⟩
theorem lw_p118 : lw_okq (⟨"BlindFiddlesModel", "nears", "(I)V"⟩, 79) := ⟨⟨by decide +kernel, by decide +kernel⟩, List.mem_of_getElem? (i := 1227) (by decide +kernel), List.mem_of_getElem? (i := 1916) (by decide +kernel), List.mem_of_getElem? (i := 1917) (by decide +kernel)⟩
theorem lw_p119 : lw_okq (⟨"BlindFiddlesModel", "parted", "(I)I"⟩, 79) := ⟨⟨by decide +kernel, by decide +kernel⟩, List.mem_of_getElem? (i := 1227) (by decide +kernel), List.mem_of_getElem? (i := 1920) (by decide +kernel), List.mem_of_getElem? (i := 1921) (by decide +kernel)⟩
theorem lw_p120 : lw_okq (⟨"BlindFiddlesModel", "nearCount", "(I)I"⟩, 79) := ⟨⟨by decide +kernel, by decide +kernel⟩, List.mem_of_getElem? (i := 1227) (by decide +kernel), List.mem_of_getElem? (i := 1931) (by decide +kernel), List.mem_of_getElem? (i := 1932) (by decide +kernel)⟩
theorem lw_p121 : lw_okq (⟨"BlindFiddlesModel", "beatsBy", "(II)I"⟩, 79) := ⟨⟨by decide +kernel, by decide +kernel⟩, List.mem_of_getElem? (i := 1227) (by decide +kernel), List.mem_of_getElem? (i := 1939) (by decide +kernel), List.mem_of_getElem? (i := 1940) (by decide +kernel)⟩
theorem lw_p122 : lw_okq (⟨"BlindFiddlesModel", "winnerOf", "(I)I"⟩, 79) := ⟨⟨by decide +kernel, by decide +kernel⟩, List.mem_of_getElem? (i := 1227) (by decide +kernel), List.mem_of_getElem? (i := 1947) (by decide +kernel), List.mem_of_getElem? (i := 1948) (by decide +kernel)⟩
theorem lw_p123 : lw_okq (⟨"BlindFiddlesModel", "partsOf", "(IIII)I"⟩, 79) := ⟨⟨by decide +kernel, by decide +kernel⟩, List.mem_of_getElem? (i := 1227) (by decide +kernel), List.mem_of_getElem? (i := 1963) (by decide +kernel), List.mem_of_getElem? (i := 1964) (by decide +kernel)⟩
theorem lw_p124 : lw_okq (⟨"BlindFiddlesModel", "sayOf", "(I)I"⟩, 79) := ⟨⟨by decide +kernel, by decide +kernel⟩, List.mem_of_getElem? (i := 1227) (by decide +kernel), List.mem_of_getElem? (i := 1975) (by decide +kernel), List.mem_of_getElem? (i := 1976) (by decide +kernel)⟩
def lw_privs_8 : List (MethodName × Nat) := [(⟨"BlindFiddlesModel", "signSum", "()I"⟩, 79), (⟨"BlindFiddlesModel", "signWays", "()I"⟩, 79), (⟨"BlindFiddlesModel", "knowingBy", "(I)V"⟩, 79), (⟨"BlindFiddlesModel", "spotSum", "(II)I"⟩, 79), (⟨"BlindFiddlesModel", "isSpotMark", "(II)Z"⟩, 79), (⟨"BlindFiddlesModel", "spotMany", "(II)I"⟩, 79), (⟨"BlindFiddlesModel", "nears", "(I)V"⟩, 79), (⟨"BlindFiddlesModel", "parted", "(I)I"⟩, 79), (⟨"BlindFiddlesModel", "nearCount", "(I)I"⟩, 79), (⟨"BlindFiddlesModel", "beatsBy", "(II)I"⟩, 79), (⟨"BlindFiddlesModel", "winnerOf", "(I)I"⟩, 79), (⟨"BlindFiddlesModel", "partsOf", "(IIII)I"⟩, 79), (⟨"BlindFiddlesModel", "sayOf", "(I)I"⟩, 79)]
theorem lw_r8 : ∀ q ∈ lw_privs_8, lw_okq q := List.forall_mem_cons.mpr ⟨lw_p112, List.forall_mem_cons.mpr ⟨lw_p113, List.forall_mem_cons.mpr ⟨lw_p114, List.forall_mem_cons.mpr ⟨lw_p115, List.forall_mem_cons.mpr ⟨lw_p116, List.forall_mem_cons.mpr ⟨lw_p117, List.forall_mem_cons.mpr ⟨lw_p118, List.forall_mem_cons.mpr ⟨lw_p119, List.forall_mem_cons.mpr ⟨lw_p120, List.forall_mem_cons.mpr ⟨lw_p121, List.forall_mem_cons.mpr ⟨lw_p122, List.forall_mem_cons.mpr ⟨lw_p123, List.forall_mem_cons.mpr ⟨lw_p124, fun _ h => absurd h List.not_mem_nil⟩⟩⟩⟩⟩⟩⟩⟩⟩⟩⟩⟩⟩
def lw_privs : List (MethodName × Nat) := lw_privs_1 ++ (lw_privs_2 ++ (lw_privs_3 ++ (lw_privs_4 ++ (lw_privs_5 ++ (lw_privs_6 ++ (lw_privs_7 ++ (lw_privs_8)))))))
def lw_tbl : List Cond := k2_sels lw_privs ++ tables_1
theorem lw_privs_ok : ∀ q ∈ lw_privs, lw_okq q := by
  show ∀ q ∈ lw_privs_1 ++ (lw_privs_2 ++ (lw_privs_3 ++ (lw_privs_4 ++ (lw_privs_5 ++ (lw_privs_6 ++ (lw_privs_7 ++ (lw_privs_8))))))), lw_okq q
  exact List.forall_mem_append.mpr ⟨lw_r1, List.forall_mem_append.mpr ⟨lw_r2, List.forall_mem_append.mpr ⟨lw_r3, List.forall_mem_append.mpr ⟨lw_r4, List.forall_mem_append.mpr ⟨lw_r5, List.forall_mem_append.mpr ⟨lw_r6, List.forall_mem_append.mpr ⟨lw_r7, lw_r8⟩⟩⟩⟩⟩⟩⟩
def RX0 : String := "BlindFiddles$Facts"
def TX0 : u_T := fun k => match k with
  | 0 => ("BlindFiddles$Facts", "many", "I", false)
  | _ => ("BlindFiddles$Facts", "rows", "[I", true)
def tyX0 : Nat → FieldType := fun k => match k with
  | 0 => .int
  | _ => .array .int
abbrev wsX00 : List Cond := u_ws RX0 TX0 2
theorem nmX0 : ∀ a, a < 2 → ∀ b, b < 2 → a ≠ b → (TX0 a).2.1 ≠ (TX0 b).2.1 := by decide +kernel
theorem tyX0_ok : ∀ k, k < 2 → parseFieldDescriptor (TX0 k).2.2.1 = some (tyX0 k) := by decide +kernel
abbrev cX0_init : ByteArray := prog_2_method_1_code
def yX0_init : MethodName := ⟨RX0, "<init>", "()V"⟩
abbrev cX0_has : ByteArray := prog_2_method_2_code
def yX0_has : MethodName := ⟨RX0, "has", "(I)Z"⟩
abbrev cX0_of : ByteArray := prog_2_method_3_code
def yX0_of : MethodName := ⟨RX0, "of", "(II)I"⟩
abbrev cX0_add : ByteArray := prog_2_method_4_code
def yX0_add : MethodName := ⟨RX0, "add", "(IIIIII)I"⟩
def RX1 : String := "BlindFiddles$Kinds"
def TX1 : u_T := fun k => match k with
  | 0 => ("BlindFiddles$Kinds", "olds", "I", false)
  | 1 => ("BlindFiddles$Kinds", "news", "I", false)
  | 2 => ("BlindFiddles$Kinds", "common", "I", false)
  | 3 => ("BlindFiddles$Kinds", "many", "I", false)
  | 4 => ("BlindFiddles$Kinds", "worths", "[I", true)
  | 5 => ("BlindFiddles$Kinds", "isOld", "[I", true)
  | _ => ("BlindFiddles$Kinds", "raised", "[I", true)
def tyX1 : Nat → FieldType := fun k => match k with
  | 0 => .int
  | 1 => .int
  | 2 => .int
  | 3 => .int
  | 4 => .array .int
  | 5 => .array .int
  | _ => .array .int
abbrev wsX10 : List Cond := u_ws RX1 TX1 7
theorem nmX1 : ∀ a, a < 7 → ∀ b, b < 7 → a ≠ b → (TX1 a).2.1 ≠ (TX1 b).2.1 := by decide +kernel
theorem tyX1_ok : ∀ k, k < 7 → parseFieldDescriptor (TX1 k).2.2.1 = some (tyX1 k) := by decide +kernel
abbrev cX1_init : ByteArray := prog_3_method_1_code
def yX1_init : MethodName := ⟨RX1, "<init>", "()V"⟩
abbrev cX1_gather : ByteArray := prog_3_method_2_code
def yX1_gather : MethodName := ⟨RX1, "gather", "(LBlindFiddles$Told;LBlindFiddles$Known;)V"⟩
abbrev cX1_apart : ByteArray := prog_3_method_3_code
def yX1_apart : MethodName := ⟨RX1, "apart", "()I"⟩
abbrev cX1_all : ByteArray := prog_3_method_4_code
def yX1_all : MethodName := ⟨RX1, "all", "()I"⟩
abbrev cX1_waysWith : ByteArray := prog_3_method_5_code
def yX1_waysWith : MethodName := ⟨RX1, "waysWith", "(I)I"⟩
abbrev cX1_waysFrom : ByteArray := prog_3_method_6_code
def yX1_waysFrom : MethodName := ⟨RX1, "waysFrom", "(LBlindFiddles$Kinds;III)I"⟩
abbrev cX1_smallest : ByteArray := prog_3_method_7_code
def yX1_smallest : MethodName := ⟨RX1, "smallest", "()I"⟩
def RX2 : String := "BlindFiddles$Known"
def TX2 : u_T := fun k => match k with
  | 0 => ("BlindFiddles$Known", "by", "I", false)
  | 1 => ("BlindFiddles$Known", "counts", "[I", true)
  | 2 => ("BlindFiddles$Known", "blind", "[I", true)
  | 3 => ("BlindFiddles$Known", "earlier", "[I", true)
  | 4 => ("BlindFiddles$Known", "seen", "[I", true)
  | 5 => ("BlindFiddles$Known", "sums", "[I", true)
  | 6 => ("BlindFiddles$Known", "manys", "[I", true)
  | 7 => ("BlindFiddles$Known", "spotSums", "[I", true)
  | 8 => ("BlindFiddles$Known", "spotManys", "[I", true)
  | _ => ("BlindFiddles$Known", "tally", "[I", true)
def tyX2 : Nat → FieldType := fun k => match k with
  | 0 => .int
  | 1 => .array .int
  | 2 => .array .int
  | 3 => .array .int
  | 4 => .array .int
  | 5 => .array .int
  | 6 => .array .int
  | 7 => .array .int
  | 8 => .array .int
  | _ => .array .int
abbrev wsX20 : List Cond := u_ws RX2 TX2 10
theorem nmX2 : ∀ a, a < 10 → ∀ b, b < 10 → a ≠ b → (TX2 a).2.1 ≠ (TX2 b).2.1 := by decide +kernel
theorem tyX2_ok : ∀ k, k < 10 → parseFieldDescriptor (TX2 k).2.2.1 = some (tyX2 k) := by decide +kernel
abbrev cX2_init : ByteArray := prog_4_method_1_code
def yX2_init : MethodName := ⟨RX2, "<init>", "()V"⟩
abbrev cX2_learn : ByteArray := prog_4_method_2_code
def yX2_learn : MethodName := ⟨RX2, "learn", "(LBlindFiddles$Told;LBlindFiddles$Facts;I)V"⟩
abbrev cX2_clear : ByteArray := prog_4_method_3_code
def yX2_clear : MethodName := ⟨RX2, "clear", "()V"⟩
abbrev cX2_sift : ByteArray := prog_4_method_4_code
def yX2_sift : MethodName := ⟨RX2, "sift", "(LBlindFiddles$Told;LBlindFiddles$Facts;)V"⟩
abbrev cX2_learnMark : ByteArray := prog_4_method_5_code
def yX2_learnMark : MethodName := ⟨RX2, "learnMark", "(LBlindFiddles$Told;LBlindFiddles$Facts;I)V"⟩
abbrev cX2_learnGuess : ByteArray := prog_4_method_6_code
def yX2_learnGuess : MethodName := ⟨RX2, "learnGuess", "(ZZ)V"⟩
abbrev cX2_learnMeans : ByteArray := prog_4_method_7_code
def yX2_learnMeans : MethodName := ⟨RX2, "learnMeans", "(LBlindFiddles$Told;)V"⟩
abbrev cX2_hasMean : ByteArray := prog_4_method_8_code
def yX2_hasMean : MethodName := ⟨RX2, "hasMean", "(I)Z"⟩
abbrev cX2_parted : ByteArray := prog_4_method_9_code
def yX2_parted : MethodName := ⟨RX2, "parted", "(II)I"⟩
abbrev cX2_putRight : ByteArray := prog_4_method_10_code
def yX2_putRight : MethodName := ⟨RX2, "putRight", "(LBlindFiddles$Told;LBlindFiddles$Facts;I)I"⟩
abbrev cX2_spotMean : ByteArray := prog_4_method_11_code
def yX2_spotMean : MethodName := ⟨RX2, "spotMean", "(I)I"⟩
abbrev cX2_isBlindMark : ByteArray := prog_4_method_12_code
def yX2_isBlindMark : MethodName := ⟨RX2, "isBlindMark", "(LBlindFiddles$Told;LBlindFiddles$Facts;I)Z"⟩
abbrev cX2_above : ByteArray := prog_4_method_13_code
def yX2_above : MethodName := ⟨RX2, "above", "(LBlindFiddles$Told;II)I"⟩
abbrev cX2_beatingAll : ByteArray := prog_4_method_14_code
def yX2_beatingAll : MethodName := ⟨RX2, "beatingAll", "(LBlindFiddles$Told;)I"⟩
abbrev cX2_beatsOthers : ByteArray := prog_4_method_15_code
def yX2_beatsOthers : MethodName := ⟨RX2, "beatsOthers", "(LBlindFiddles$Told;I)Z"⟩
def RX3 : String := "BlindFiddles$NearFar"
def TX3 : u_T := fun k => match k with
  | 0 => ("BlindFiddles$NearFar", "many", "I", false)
  | 1 => ("BlindFiddles$NearFar", "alike", "I", false)
  | 2 => ("BlindFiddles$NearFar", "unlike", "I", false)
  | 3 => ("BlindFiddles$NearFar", "here", "[I", true)
  | 4 => ("BlindFiddles$NearFar", "nears", "[I", true)
  | 5 => ("BlindFiddles$NearFar", "fars", "[I", true)
  | _ => ("BlindFiddles$NearFar", "given", "[I", true)
def tyX3 : Nat → FieldType := fun k => match k with
  | 0 => .int
  | 1 => .int
  | 2 => .int
  | 3 => .array .int
  | 4 => .array .int
  | 5 => .array .int
  | _ => .array .int
abbrev wsX30 : List Cond := u_ws RX3 TX3 7
theorem nmX3 : ∀ a, a < 7 → ∀ b, b < 7 → a ≠ b → (TX3 a).2.1 ≠ (TX3 b).2.1 := by decide +kernel
theorem tyX3_ok : ∀ k, k < 7 → parseFieldDescriptor (TX3 k).2.2.1 = some (tyX3 k) := by decide +kernel
abbrev cX3_init : ByteArray := prog_5_method_1_code
def yX3_init : MethodName := ⟨RX3, "<init>", "()V"⟩
abbrev cX3_gather : ByteArray := prog_5_method_2_code
def yX3_gather : MethodName := ⟨RX3, "gather", "(LBlindFiddles$Told;LBlindFiddles$Known;)V"⟩
abbrev cX3_gatherTwo : ByteArray := prog_5_method_3_code
def yX3_gatherTwo : MethodName := ⟨RX3, "gatherTwo", "(LBlindFiddles$Known;II)V"⟩
abbrev cX3_ways : ByteArray := prog_5_method_4_code
def yX3_ways : MethodName := ⟨RX3, "ways", "()I"⟩
abbrev cX3_waysFrom : ByteArray := prog_5_method_5_code
def yX3_waysFrom : MethodName := ⟨RX3, "waysFrom", "(LBlindFiddles$NearFar;III)I"⟩
abbrev cX3_alikeWithThoseAhead : ByteArray := prog_5_method_6_code
def yX3_alikeWithThoseAhead : MethodName := ⟨RX3, "alikeWithThoseAhead", "(I)I"⟩
def RX4 : String := "BlindFiddles$Need"
def TX4 : u_T := fun k => match k with
  | 0 => ("BlindFiddles$Need", "tries", "I", false)
  | 1 => ("BlindFiddles$Need", "bar", "I", false)
  | 2 => ("BlindFiddles$Need", "coins", "[J", true)
  | _ => ("BlindFiddles$Need", "guided", "[J", true)
def tyX4 : Nat → FieldType := fun k => match k with
  | 0 => .int
  | 1 => .int
  | 2 => .array .long
  | _ => .array .long
abbrev wsX40 : List Cond := u_ws RX4 TX4 4
theorem nmX4 : ∀ a, a < 4 → ∀ b, b < 4 → a ≠ b → (TX4 a).2.1 ≠ (TX4 b).2.1 := by decide +kernel
theorem tyX4_ok : ∀ k, k < 4 → parseFieldDescriptor (TX4 k).2.2.1 = some (tyX4 k) := by decide +kernel
abbrev cX4_init : ByteArray := prog_6_method_1_code
def yX4_init : MethodName := ⟨RX4, "<init>", "()V"⟩
abbrev cX4_find : ByteArray := prog_6_method_2_code
def yX4_find : MethodName := ⟨RX4, "find", "(IIII)Z"⟩
abbrev cX4_addTry : ByteArray := prog_6_method_3_code
def yX4_addTry : MethodName := ⟨RX4, "addTry", "([JIJJ)V"⟩
abbrev cX4_leastBar : ByteArray := prog_6_method_4_code
def yX4_leastBar : MethodName := ⟨RX4, "leastBar", "(IJJJ)I"⟩
def RX5 : String := "BlindFiddles$Reader"
def TX5 : u_T := fun k => match k with
  | 0 => ("BlindFiddles$Reader", "length", "I", false)
  | 1 => ("BlindFiddles$Reader", "faultPlace", "I", false)
  | 2 => ("BlindFiddles$Reader", "told", "LBlindFiddles$Told;", false)
  | 3 => ("BlindFiddles$Reader", "tape", "[B", true)
  | 4 => ("BlindFiddles$Reader", "kinds", "[I", true)
  | 5 => ("BlindFiddles$Reader", "starts", "[I", true)
  | 6 => ("BlindFiddles$Reader", "at", "I", false)
  | 7 => ("BlindFiddles$Reader", "fault", "I", false)
  | 8 => ("BlindFiddles$Reader", "laterFault", "I", false)
  | 9 => ("BlindFiddles$Reader", "laterPlace", "I", false)
  | 10 => ("BlindFiddles$Reader", "nameKeys", "[J", true)
  | 11 => ("BlindFiddles$Reader", "nameKinds", "[I", true)
  | 12 => ("BlindFiddles$Reader", "nameNumbers", "[I", true)
  | 13 => ("BlindFiddles$Reader", "names", "I", false)
  | 14 => ("BlindFiddles$Reader", "waiting", "[I", true)
  | 15 => ("BlindFiddles$Reader", "waits", "I", false)
  | 16 => ("BlindFiddles$Reader", "open", "I", false)
  | 17 => ("BlindFiddles$Reader", "unitDue", "Z", false)
  | _ => ("BlindFiddles$Reader", "codes", "I", false)
def tyX5 : Nat → FieldType := fun k => match k with
  | 0 => .int
  | 1 => .int
  | 2 => .object "BlindFiddles$Told"
  | 3 => .array .byte
  | 4 => .array .int
  | 5 => .array .int
  | 6 => .int
  | 7 => .int
  | 8 => .int
  | 9 => .int
  | 10 => .array .long
  | 11 => .array .int
  | 12 => .array .int
  | 13 => .int
  | 14 => .array .int
  | 15 => .int
  | 16 => .int
  | 17 => .boolean
  | _ => .int
abbrev wsX50 : List Cond := u_ws RX5 TX5 19
theorem nmX5 : ∀ a, a < 19 → ∀ b, b < 19 → a ≠ b → (TX5 a).2.1 ≠ (TX5 b).2.1 := by decide +kernel
theorem tyX5_ok : ∀ k, k < 19 → parseFieldDescriptor (TX5 k).2.2.1 = some (tyX5 k) := by decide +kernel
abbrev cX5_init : ByteArray := prog_7_method_1_code
def yX5_init : MethodName := ⟨RX5, "<init>", "()V"⟩
abbrev cX5_append : ByteArray := prog_7_method_2_code
def yX5_append : MethodName := ⟨RX5, "append", "(I)V"⟩
abbrev cX5_begin : ByteArray := prog_7_method_3_code
def yX5_begin : MethodName := ⟨RX5, "begin", "()V"⟩
abbrev cX5_hasMore : ByteArray := prog_7_method_4_code
def yX5_hasMore : MethodName := ⟨RX5, "hasMore", "()Z"⟩
abbrev cX5_end : ByteArray := prog_7_method_5_code
def yX5_end : MethodName := ⟨RX5, "end", "()I"⟩
abbrev cX5_scan : ByteArray := prog_7_method_6_code
def yX5_scan : MethodName := ⟨RX5, "scan", "()V"⟩
abbrev cX5_isBlank : ByteArray := prog_7_method_7_code
def yX5_isBlank : MethodName := ⟨RX5, "isBlank", "(I)Z"⟩
abbrev cX5_isLetter : ByteArray := prog_7_method_8_code
def yX5_isLetter : MethodName := ⟨RX5, "isLetter", "(I)Z"⟩
abbrev cX5_isDigit : ByteArray := prog_7_method_9_code
def yX5_isDigit : MethodName := ⟨RX5, "isDigit", "(I)Z"⟩
abbrev cX5_endOf : ByteArray := prog_7_method_10_code
def yX5_endOf : MethodName := ⟨RX5, "endOf", "(I)I"⟩
abbrev cX5_kindOf : ByteArray := prog_7_method_11_code
def yX5_kindOf : MethodName := ⟨RX5, "kindOf", "(II)I"⟩
abbrev cX5_wordOf : ByteArray := prog_7_method_12_code
def yX5_wordOf : MethodName := ⟨RX5, "wordOf", "(II)I"⟩
abbrev cX5_isWord : ByteArray := prog_7_method_13_code
def yX5_isWord : MethodName := ⟨RX5, "isWord", "(III)Z"⟩
abbrev cX5_failLater : ByteArray := prog_7_method_14_code
def yX5_failLater : MethodName := ⟨RX5, "failLater", "(II)V"⟩
abbrev cX5_pass : ByteArray := prog_7_method_15_code
def yX5_pass : MethodName := ⟨RX5, "pass", "(I)Z"⟩
abbrev cX5_passIf : ByteArray := prog_7_method_16_code
def yX5_passIf : MethodName := ⟨RX5, "passIf", "(I)Z"⟩
abbrev cX5_passFirst : ByteArray := prog_7_method_17_code
def yX5_passFirst : MethodName := ⟨RX5, "passFirst", "(II)Z"⟩
abbrev cX5_takeTell : ByteArray := prog_7_method_18_code
def yX5_takeTell : MethodName := ⟨RX5, "takeTell", "()V"⟩
abbrev cX5_takeFiddle : ByteArray := prog_7_method_19_code
def yX5_takeFiddle : MethodName := ⟨RX5, "takeFiddle", "()V"⟩
abbrev cX5_takePerson : ByteArray := prog_7_method_20_code
def yX5_takePerson : MethodName := ⟨RX5, "takePerson", "(I)V"⟩
abbrev cX5_takeBow : ByteArray := prog_7_method_21_code
def yX5_takeBow : MethodName := ⟨RX5, "takeBow", "()V"⟩
abbrev cX5_takeLaw : ByteArray := prog_7_method_22_code
def yX5_takeLaw : MethodName := ⟨RX5, "takeLaw", "()V"⟩
abbrev cX5_takePlan : ByteArray := prog_7_method_23_code
def yX5_takePlan : MethodName := ⟨RX5, "takePlan", "()V"⟩
abbrev cX5_takeSit : ByteArray := prog_7_method_24_code
def yX5_takeSit : MethodName := ⟨RX5, "takeSit", "(I)V"⟩
abbrev cX5_takeOrdered : ByteArray := prog_7_method_25_code
def yX5_takeOrdered : MethodName := ⟨RX5, "takeOrdered", "(I)V"⟩
abbrev cX5_takeInt : ByteArray := prog_7_method_26_code
def yX5_takeInt : MethodName := ⟨RX5, "takeInt", "(I)I"⟩
abbrev cX5_keyAt : ByteArray := prog_7_method_27_code
def yX5_keyAt : MethodName := ⟨RX5, "keyAt", "(I)J"⟩
abbrev cX5_nameOf : ByteArray := prog_7_method_28_code
def yX5_nameOf : MethodName := ⟨RX5, "nameOf", "(J)I"⟩
abbrev cX5_takeNewName : ByteArray := prog_7_method_29_code
def yX5_takeNewName : MethodName := ⟨RX5, "takeNewName", "(II)V"⟩
abbrev cX5_takeToldName : ByteArray := prog_7_method_30_code
def yX5_takeToldName : MethodName := ⟨RX5, "takeToldName", "(I)I"⟩
abbrev cX5_takeExpression : ByteArray := prog_7_method_31_code
def yX5_takeExpression : MethodName := ⟨RX5, "takeExpression", "()V"⟩
abbrev cX5_startUnit : ByteArray := prog_7_method_32_code
def yX5_startUnit : MethodName := ⟨RX5, "startUnit", "()V"⟩
abbrev cX5_goOn : ByteArray := prog_7_method_33_code
def yX5_goOn : MethodName := ⟨RX5, "goOn", "()Z"⟩
abbrev cX5_join : ByteArray := prog_7_method_34_code
def yX5_join : MethodName := ⟨RX5, "join", "(I)Z"⟩
abbrev cX5_closeOrCompare : ByteArray := prog_7_method_35_code
def yX5_closeOrCompare : MethodName := ⟨RX5, "closeOrCompare", "(I)Z"⟩
abbrev cX5_hold : ByteArray := prog_7_method_36_code
def yX5_hold : MethodName := ⟨RX5, "hold", "(I)V"⟩
abbrev cX5_settle : ByteArray := prog_7_method_37_code
def yX5_settle : MethodName := ⟨RX5, "settle", "(II)V"⟩
abbrev cX5_write : ByteArray := prog_7_method_38_code
def yX5_write : MethodName := ⟨RX5, "write", "(I)V"⟩
def RX6 : String := "BlindFiddles$Steady"
def TX6 : u_T := fun k => match k with
  | 0 => ("BlindFiddles$Steady", "many", "I", false)
  | 1 => ("BlindFiddles$Steady", "off", "I", false)
  | 2 => ("BlindFiddles$Steady", "firsts", "[I", true)
  | _ => ("BlindFiddles$Steady", "laters", "[I", true)
def tyX6 : Nat → FieldType := fun k => match k with
  | 0 => .int
  | 1 => .int
  | 2 => .array .int
  | _ => .array .int
abbrev wsX60 : List Cond := u_ws RX6 TX6 4
theorem nmX6 : ∀ a, a < 4 → ∀ b, b < 4 → a ≠ b → (TX6 a).2.1 ≠ (TX6 b).2.1 := by decide +kernel
theorem tyX6_ok : ∀ k, k < 4 → parseFieldDescriptor (TX6 k).2.2.1 = some (tyX6 k) := by decide +kernel
abbrev cX6_init : ByteArray := prog_8_method_1_code
def yX6_init : MethodName := ⟨RX6, "<init>", "()V"⟩
abbrev cX6_gather : ByteArray := prog_8_method_2_code
def yX6_gather : MethodName := ⟨RX6, "gather", "(LBlindFiddles$Told;LBlindFiddles$Known;)V"⟩
abbrev cX6_ways : ByteArray := prog_8_method_3_code
def yX6_ways : MethodName := ⟨RX6, "ways", "()I"⟩
abbrev cX6_waysFrom : ByteArray := prog_8_method_4_code
def yX6_waysFrom : MethodName := ⟨RX6, "waysFrom", "(LBlindFiddles$Steady;III)I"⟩
def RX7 : String := "BlindFiddles$Taste"
def TX7 : u_T := fun k => match k with
  | 0 => ("BlindFiddles$Taste", "vars", "[I", true)
  | _ => ("BlindFiddles$Taste", "stack", "[I", true)
def tyX7 : Nat → FieldType := fun k => match k with
  | 0 => .array .int
  | _ => .array .int
abbrev wsX70 : List Cond := u_ws RX7 TX7 2
theorem nmX7 : ∀ a, a < 2 → ∀ b, b < 2 → a ≠ b → (TX7 a).2.1 ≠ (TX7 b).2.1 := by decide +kernel
theorem tyX7_ok : ∀ k, k < 2 → parseFieldDescriptor (TX7 k).2.2.1 = some (tyX7 k) := by decide +kernel
abbrev cX7_init : ByteArray := prog_9_method_1_code
def yX7_init : MethodName := ⟨RX7, "<init>", "()V"⟩
abbrev cX7_meet : ByteArray := prog_9_method_2_code
def yX7_meet : MethodName := ⟨RX7, "meet", "(LBlindFiddles$Told;III)V"⟩
abbrev cX7_attend : ByteArray := prog_9_method_3_code
def yX7_attend : MethodName := ⟨RX7, "attend", "(III)V"⟩
abbrev cX7_seat : ByteArray := prog_9_method_4_code
def yX7_seat : MethodName := ⟨RX7, "seat", "(LBlindFiddles$Told;IIII)V"⟩
abbrev cX7_noiseOf : ByteArray := prog_9_method_5_code
def yX7_noiseOf : MethodName := ⟨RX7, "noiseOf", "(II)I"⟩
abbrev cX7_stirred : ByteArray := prog_9_method_6_code
def yX7_stirred : MethodName := ⟨RX7, "stirred", "(II)I"⟩
abbrev cX7_like : ByteArray := prog_9_method_7_code
def yX7_like : MethodName := ⟨RX7, "like", "(LBlindFiddles$Told;I)I"⟩
abbrev cX7_joined : ByteArray := prog_9_method_8_code
def yX7_joined : MethodName := ⟨RX7, "joined", "(III)I"⟩
abbrev cX7_reach : ByteArray := prog_9_method_9_code
def yX7_reach : MethodName := ⟨RX7, "reach", "(LBlindFiddles$Told;III)I"⟩
abbrev cX7_extreme : ByteArray := prog_9_method_10_code
def yX7_extreme : MethodName := ⟨RX7, "extreme", "(LBlindFiddles$Told;IIZ)I"⟩
abbrev cX7_extremeOfQuick : ByteArray := prog_9_method_11_code
def yX7_extremeOfQuick : MethodName := ⟨RX7, "extremeOfQuick", "(LBlindFiddles$Told;IIZ)I"⟩
abbrev cX7_choice : ByteArray := prog_9_method_12_code
def yX7_choice : MethodName := ⟨RX7, "choice", "(LBlindFiddles$Told;IIII)I"⟩
abbrev cX7_unlike : ByteArray := prog_9_method_13_code
def yX7_unlike : MethodName := ⟨RX7, "unlike", "(LBlindFiddles$Told;IIII)I"⟩
def RX8 : String := "BlindFiddles$Told"
def TX8 : u_T := fun k => match k with
  | 0 => ("BlindFiddles$Told", "fiddles", "I", false)
  | 1 => ("BlindFiddles$Told", "people", "I", false)
  | 2 => ("BlindFiddles$Told", "bows", "I", false)
  | 3 => ("BlindFiddles$Told", "laws", "I", false)
  | 4 => ("BlindFiddles$Told", "plans", "I", false)
  | 5 => ("BlindFiddles$Told", "fiddleRows", "[I", true)
  | 6 => ("BlindFiddles$Told", "personRows", "[I", true)
  | 7 => ("BlindFiddles$Told", "bowRows", "[I", true)
  | 8 => ("BlindFiddles$Told", "code", "[I", true)
  | 9 => ("BlindFiddles$Told", "lawEnds", "[I", true)
  | 10 => ("BlindFiddles$Told", "sittings", "[I", true)
  | _ => ("BlindFiddles$Told", "sitRows", "[I", true)
def tyX8 : Nat → FieldType := fun k => match k with
  | 0 => .int
  | 1 => .int
  | 2 => .int
  | 3 => .int
  | 4 => .int
  | 5 => .array .int
  | 6 => .array .int
  | 7 => .array .int
  | 8 => .array .int
  | 9 => .array .int
  | 10 => .array .int
  | _ => .array .int
abbrev wsX80 : List Cond := u_ws RX8 TX8 12
theorem nmX8 : ∀ a, a < 12 → ∀ b, b < 12 → a ≠ b → (TX8 a).2.1 ≠ (TX8 b).2.1 := by decide +kernel
theorem tyX8_ok : ∀ k, k < 12 → parseFieldDescriptor (TX8 k).2.2.1 = some (tyX8 k) := by decide +kernel
abbrev cX8_init : ByteArray := prog_10_method_1_code
def yX8_init : MethodName := ⟨RX8, "<init>", "()V"⟩
abbrev cX8_clear : ByteArray := prog_10_method_2_code
def yX8_clear : MethodName := ⟨RX8, "clear", "()V"⟩
abbrev cX8_hasFiddle : ByteArray := prog_10_method_3_code
def yX8_hasFiddle : MethodName := ⟨RX8, "hasFiddle", "(I)Z"⟩
abbrev cX8_hasPerson : ByteArray := prog_10_method_4_code
def yX8_hasPerson : MethodName := ⟨RX8, "hasPerson", "(I)Z"⟩
abbrev cX8_hasBow : ByteArray := prog_10_method_5_code
def yX8_hasBow : MethodName := ⟨RX8, "hasBow", "(I)Z"⟩
abbrev cX8_hasLaw : ByteArray := prog_10_method_6_code
def yX8_hasLaw : MethodName := ⟨RX8, "hasLaw", "(I)Z"⟩
abbrev cX8_hasPlan : ByteArray := prog_10_method_7_code
def yX8_hasPlan : MethodName := ⟨RX8, "hasPlan", "(I)Z"⟩
abbrev cX8_hasSitting : ByteArray := prog_10_method_8_code
def yX8_hasSitting : MethodName := ⟨RX8, "hasSitting", "(II)Z"⟩
abbrev cX8_hasMeeting : ByteArray := prog_10_method_9_code
def yX8_hasMeeting : MethodName := ⟨RX8, "hasMeeting", "(III)Z"⟩
abbrev cX8_isOld : ByteArray := prog_10_method_10_code
def yX8_isOld : MethodName := ⟨RX8, "isOld", "(I)Z"⟩
abbrev cX8_isPlayer : ByteArray := prog_10_method_11_code
def yX8_isPlayer : MethodName := ⟨RX8, "isPlayer", "(I)Z"⟩
abbrev cX8_sits : ByteArray := prog_10_method_12_code
def yX8_sits : MethodName := ⟨RX8, "sits", "(I)I"⟩
abbrev cX8_sat : ByteArray := prog_10_method_13_code
def yX8_sat : MethodName := ⟨RX8, "sat", "(III)I"⟩
abbrev cX8_lawStart : ByteArray := prog_10_method_14_code
def yX8_lawStart : MethodName := ⟨RX8, "lawStart", "(I)I"⟩
abbrev cX8_lawEnd : ByteArray := prog_10_method_15_code
def yX8_lawEnd : MethodName := ⟨RX8, "lawEnd", "(I)I"⟩
abbrev cX8_factsOf : ByteArray := prog_10_method_16_code
def yX8_factsOf : MethodName := ⟨RX8, "factsOf", "(I)I"⟩
def RX9 : String := "BlindFiddles$Turns"
def TX9 : u_T := fun k => match k with
  | 0 => ("BlindFiddles$Turns", "many", "I", false)
  | 1 => ("BlindFiddles$Turns", "oldSum", "I", false)
  | 2 => ("BlindFiddles$Turns", "newSum", "I", false)
  | _ => ("BlindFiddles$Turns", "numbers", "[I", true)
def tyX9 : Nat → FieldType := fun k => match k with
  | 0 => .int
  | 1 => .int
  | 2 => .int
  | _ => .array .int
abbrev wsX90 : List Cond := u_ws RX9 TX9 4
theorem nmX9 : ∀ a, a < 4 → ∀ b, b < 4 → a ≠ b → (TX9 a).2.1 ≠ (TX9 b).2.1 := by decide +kernel
theorem tyX9_ok : ∀ k, k < 4 → parseFieldDescriptor (TX9 k).2.2.1 = some (tyX9 k) := by decide +kernel
abbrev cX9_init : ByteArray := prog_11_method_1_code
def yX9_init : MethodName := ⟨RX9, "<init>", "()V"⟩
abbrev cX9_clear : ByteArray := prog_11_method_2_code
def yX9_clear : MethodName := ⟨RX9, "clear", "()V"⟩
abbrev cX9_add : ByteArray := prog_11_method_3_code
def yX9_add : MethodName := ⟨RX9, "add", "(I)V"⟩
abbrev cX9_gatherPlayers : ByteArray := prog_11_method_4_code
def yX9_gatherPlayers : MethodName := ⟨RX9, "gatherPlayers", "(LBlindFiddles$Told;LBlindFiddles$Known;)V"⟩
abbrev cX9_gatherPlayer : ByteArray := prog_11_method_5_code
def yX9_gatherPlayer : MethodName := ⟨RX9, "gatherPlayer", "(LBlindFiddles$Told;LBlindFiddles$Known;I)V"⟩
abbrev cX9_gatherKnowing : ByteArray := prog_11_method_6_code
def yX9_gatherKnowing : MethodName := ⟨RX9, "gatherKnowing", "(LBlindFiddles$Told;LBlindFiddles$Known;)V"⟩
abbrev cX9_sum : ByteArray := prog_11_method_7_code
def yX9_sum : MethodName := ⟨RX9, "sum", "()I"⟩
abbrev cX9_ways : ByteArray := prog_11_method_8_code
def yX9_ways : MethodName := ⟨RX9, "ways", "()I"⟩
abbrev cX9_waysFrom : ByteArray := prog_11_method_9_code
def yX9_waysFrom : MethodName := ⟨RX9, "waysFrom", "(LBlindFiddles$Turns;IIII)I"⟩
def RX10 : String := "BlindFiddles$Ways"
def TX10 : u_T := fun k => match k with
  | _ => ("", "", "", false)
def tyX10 : Nat → FieldType := fun k => match k with
  | _ => .int
abbrev wsX100 : List Cond := u_ws RX10 TX10 0
theorem nmX10 : ∀ a, a < 0 → ∀ b, b < 0 → a ≠ b → (TX10 a).2.1 ≠ (TX10 b).2.1 := by decide +kernel
theorem tyX10_ok : ∀ k, k < 0 → parseFieldDescriptor (TX10 k).2.2.1 = some (tyX10 k) := by decide +kernel
abbrev cX10_isRare : ByteArray := prog_12_method_2_code
def yX10_isRare : MethodName := ⟨RX10, "isRare", "(JJ)Z"⟩
abbrev cX10_choose : ByteArray := prog_12_method_3_code
def yX10_choose : MethodName := ⟨RX10, "choose", "(II)J"⟩
abbrev cX10_orMoreHeads : ByteArray := prog_12_method_4_code
def yX10_orMoreHeads : MethodName := ⟨RX10, "orMoreHeads", "(II)J"⟩
abbrev cX10_orMoreTaken : ByteArray := prog_12_method_5_code
def yX10_orMoreTaken : MethodName := ⟨RX10, "orMoreTaken", "(IIII)J"⟩
abbrev cX10_orders : ByteArray := prog_12_method_6_code
def yX10_orders : MethodName := ⟨RX10, "orders", "(I)I"⟩
abbrev cX10_commonMultiple : ByteArray := prog_12_method_7_code
def yX10_commonMultiple : MethodName := ⟨RX10, "commonMultiple", "(II)I"⟩
def RX11 : String := "BlindFiddles"
def TX11 : u_T := fun k => match k with
  | 0 => ("BlindFiddles", "reader", "LBlindFiddles$Reader;", true)
  | 1 => ("BlindFiddles", "told", "LBlindFiddles$Told;", false)
  | 2 => ("BlindFiddles", "taste", "LBlindFiddles$Taste;", true)
  | 3 => ("BlindFiddles", "facts", "LBlindFiddles$Facts;", true)
  | 4 => ("BlindFiddles", "known", "LBlindFiddles$Known;", true)
  | 5 => ("BlindFiddles", "steadiness", "LBlindFiddles$Steady;", true)
  | 6 => ("BlindFiddles", "byFiddles", "LBlindFiddles$Kinds;", true)
  | 7 => ("BlindFiddles", "turns", "LBlindFiddles$Turns;", true)
  | 8 => ("BlindFiddles", "nearFar", "LBlindFiddles$NearFar;", true)
  | 9 => ("BlindFiddles", "needed", "LBlindFiddles$Need;", true)
  | _ => ("BlindFiddles", "said", "[I", true)
def tyX11 : Nat → FieldType := fun k => match k with
  | 0 => .object "BlindFiddles$Reader"
  | 1 => .object "BlindFiddles$Told"
  | 2 => .object "BlindFiddles$Taste"
  | 3 => .object "BlindFiddles$Facts"
  | 4 => .object "BlindFiddles$Known"
  | 5 => .object "BlindFiddles$Steady"
  | 6 => .object "BlindFiddles$Kinds"
  | 7 => .object "BlindFiddles$Turns"
  | 8 => .object "BlindFiddles$NearFar"
  | 9 => .object "BlindFiddles$Need"
  | _ => .array .int
abbrev wsX110 : List Cond := u_ws RX11 TX11 11
theorem nmX11 : ∀ a, a < 11 → ∀ b, b < 11 → a ≠ b → (TX11 a).2.1 ≠ (TX11 b).2.1 := by decide +kernel
theorem tyX11_ok : ∀ k, k < 11 → parseFieldDescriptor (TX11 k).2.2.1 = some (tyX11 k) := by decide +kernel
abbrev cX11_init : ByteArray := prog_1_method_1_code
def yX11_init : MethodName := ⟨RX11, "<init>", "()V"⟩
abbrev cX11_feed : ByteArray := prog_1_method_2_code
def yX11_feed : MethodName := ⟨RX11, "feed", "(IIIII)I"⟩
abbrev cX11_back : ByteArray := prog_1_method_3_code
def yX11_back : MethodName := ⟨RX11, "back", "(I)I"⟩
abbrev cX11_read : ByteArray := prog_1_method_4_code
def yX11_read : MethodName := ⟨RX11, "read", "()I"⟩
abbrev cX11_place : ByteArray := prog_1_method_5_code
def yX11_place : MethodName := ⟨RX11, "place", "()I"⟩
abbrev cX11_fiddle : ByteArray := prog_1_method_6_code
def yX11_fiddle : MethodName := ⟨RX11, "fiddle", "(II)I"⟩
abbrev cX11_person : ByteArray := prog_1_method_7_code
def yX11_person : MethodName := ⟨RX11, "person", "(II)I"⟩
abbrev cX11_sitting : ByteArray := prog_1_method_8_code
def yX11_sitting : MethodName := ⟨RX11, "sitting", "(III)I"⟩
abbrev cX11_liking : ByteArray := prog_1_method_9_code
def yX11_liking : MethodName := ⟨RX11, "liking", "(IIIIZII)I"⟩
abbrev cX11_taken : ByteArray := prog_1_method_10_code
def yX11_taken : MethodName := ⟨RX11, "taken", "(IIII)I"⟩
abbrev cX11_takes : ByteArray := prog_1_method_11_code
def yX11_takes : MethodName := ⟨RX11, "takes", "(IIII)I"⟩
abbrev cX11_run : ByteArray := prog_1_method_12_code
def yX11_run : MethodName := ⟨RX11, "run", "(IIII)I"⟩
abbrev cX11_answer : ByteArray := prog_1_method_13_code
def yX11_answer : MethodName := ⟨RX11, "answer", "(IIIIZ)V"⟩
abbrev cX11_touch : ByteArray := prog_1_method_14_code
def yX11_touch : MethodName := ⟨RX11, "touch", "(IIIIIZ)I"⟩
abbrev cX11_gains : ByteArray := prog_1_method_15_code
def yX11_gains : MethodName := ⟨RX11, "gains", "(IIII)J"⟩
abbrev cX11_gainsOn : ByteArray := prog_1_method_16_code
def yX11_gainsOn : MethodName := ⟨RX11, "gainsOn", "(IIII)J"⟩
abbrev cX11_mark : ByteArray := prog_1_method_17_code
def yX11_mark : MethodName := ⟨RX11, "mark", "(IIIIZ)I"⟩
abbrev cX11_guess : ByteArray := prog_1_method_18_code
def yX11_guess : MethodName := ⟨RX11, "guess", "(IIZ)I"⟩
abbrev cX11_annul : ByteArray := prog_1_method_19_code
def yX11_annul : MethodName := ⟨RX11, "annul", "(I)I"⟩
abbrev cX11_fact : ByteArray := prog_1_method_20_code
def yX11_fact : MethodName := ⟨RX11, "fact", "(II)I"⟩
abbrev cX11_knows : ByteArray := prog_1_method_21_code
def yX11_knows : MethodName := ⟨RX11, "knows", "(I)Z"⟩
abbrev cX11_last : ByteArray := prog_1_method_22_code
def yX11_last : MethodName := ⟨RX11, "last", "(IIZI)I"⟩
abbrev cX11_mean : ByteArray := prog_1_method_23_code
def yX11_mean : MethodName := ⟨RX11, "mean", "(IZII)I"⟩
abbrev cX11_guesses : ByteArray := prog_1_method_24_code
def yX11_guesses : MethodName := ⟨RX11, "guesses", "(II)I"⟩
abbrev cX11_coin : ByteArray := prog_1_method_25_code
def yX11_coin : MethodName := ⟨RX11, "coin", "(IZ)J"⟩
abbrev cX11_table : ByteArray := prog_1_method_26_code
def yX11_table : MethodName := ⟨RX11, "table", "(IZ)J"⟩
abbrev cX11_steady : ByteArray := prog_1_method_27_code
def yX11_steady : MethodName := ⟨RX11, "steady", "(II)I"⟩
abbrev cX11_steadyWays : ByteArray := prog_1_method_28_code
def yX11_steadyWays : MethodName := ⟨RX11, "steadyWays", "(I)I"⟩
abbrev cX11_kinds : ByteArray := prog_1_method_29_code
def yX11_kinds : MethodName := ⟨RX11, "kinds", "(II)I"⟩
abbrev cX11_kindWays : ByteArray := prog_1_method_30_code
def yX11_kindWays : MethodName := ⟨RX11, "kindWays", "(IZ)I"⟩
abbrev cX11_flips : ByteArray := prog_1_method_31_code
def yX11_flips : MethodName := ⟨RX11, "flips", "(II)I"⟩
abbrev cX11_flipWays : ByteArray := prog_1_method_32_code
def yX11_flipWays : MethodName := ⟨RX11, "flipWays", "(I)I"⟩
abbrev cX11_small : ByteArray := prog_1_method_33_code
def yX11_small : MethodName := ⟨RX11, "small", "(I)I"⟩
abbrev cX11_knowing : ByteArray := prog_1_method_34_code
def yX11_knowing : MethodName := ⟨RX11, "knowing", "(II)I"⟩
abbrev cX11_knowingWays : ByteArray := prog_1_method_35_code
def yX11_knowingWays : MethodName := ⟨RX11, "knowingWays", "(I)I"⟩
abbrev cX11_spot : ByteArray := prog_1_method_36_code
def yX11_spot : MethodName := ⟨RX11, "spot", "(III)I"⟩
abbrev cX11_right : ByteArray := prog_1_method_37_code
def yX11_right : MethodName := ⟨RX11, "right", "(II)I"⟩
abbrev cX11_near : ByteArray := prog_1_method_38_code
def yX11_near : MethodName := ⟨RX11, "near", "(II)I"⟩
abbrev cX11_nearWays : ByteArray := prog_1_method_39_code
def yX11_nearWays : MethodName := ⟨RX11, "nearWays", "(I)I"⟩
abbrev cX11_beats : ByteArray := prog_1_method_40_code
def yX11_beats : MethodName := ⟨RX11, "beats", "(III)I"⟩
abbrev cX11_winner : ByteArray := prog_1_method_41_code
def yX11_winner : MethodName := ⟨RX11, "winner", "(I)I"⟩
abbrev cX11_best : ByteArray := prog_1_method_42_code
def yX11_best : MethodName := ⟨RX11, "best", "(IZ)I"⟩
abbrev cX11_need : ByteArray := prog_1_method_43_code
def yX11_need : MethodName := ⟨RX11, "need", "(IIIII)I"⟩
abbrev cX11_parts : ByteArray := prog_1_method_44_code
def yX11_parts : MethodName := ⟨RX11, "parts", "(IIII)I"⟩
abbrev cX11_next : ByteArray := prog_1_method_45_code
def yX11_next : MethodName := ⟨RX11, "next", "(III)I"⟩
abbrev cX11_say : ByteArray := prog_1_method_46_code
def yX11_say : MethodName := ⟨RX11, "say", "(I)I"⟩
abbrev cX11_turned : ByteArray := prog_1_method_47_code
def yX11_turned : MethodName := ⟨RX11, "turned", "(I)I"⟩
abbrev cX11_sayBy : ByteArray := prog_1_method_48_code
def yX11_sayBy : MethodName := ⟨RX11, "sayBy", "(I)I"⟩
abbrev cX11_sayOfGuesses : ByteArray := prog_1_method_49_code
def yX11_sayOfGuesses : MethodName := ⟨RX11, "sayOfGuesses", "()I"⟩
abbrev cX11_sayOfKinds : ByteArray := prog_1_method_50_code
def yX11_sayOfKinds : MethodName := ⟨RX11, "sayOfKinds", "()I"⟩
abbrev cX11_sayOfPairs : ByteArray := prog_1_method_51_code
def yX11_sayOfPairs : MethodName := ⟨RX11, "sayOfPairs", "()I"⟩
abbrev cX11_sayOfWinner : ByteArray := prog_1_method_52_code
def yX11_sayOfWinner : MethodName := ⟨RX11, "sayOfWinner", "()I"⟩
abbrev cX11_count : ByteArray := prog_1_method_53_code
def yX11_count : MethodName := ⟨RX11, "count", "(I)I"⟩
def RX12 : String := "BlindFiddlesModel"
def TX12 : u_T := fun k => match k with
  | 0 => ("BlindFiddlesModel", "thrown", "I", false)
  | 1 => ("BlindFiddlesModel", "tape", "[B", true)
  | 2 => ("BlindFiddlesModel", "taped", "I", false)
  | 3 => ("BlindFiddlesModel", "text", "[B", true)
  | 4 => ("BlindFiddlesModel", "size", "I", false)
  | 5 => ("BlindFiddlesModel", "tKind", "[I", true)
  | 6 => ("BlindFiddlesModel", "tPlace", "[I", true)
  | 7 => ("BlindFiddlesModel", "tValue", "[I", true)
  | 8 => ("BlindFiddlesModel", "tName", "[J", true)
  | 9 => ("BlindFiddlesModel", "keys", "[J", true)
  | 10 => ("BlindFiddlesModel", "tokens", "I", false)
  | 11 => ("BlindFiddlesModel", "t", "I", false)
  | 12 => ("BlindFiddlesModel", "open", "I", false)
  | 13 => ("BlindFiddlesModel", "fault", "I", false)
  | 14 => ("BlindFiddlesModel", "faultPlace", "I", false)
  | 15 => ("BlindFiddlesModel", "worst", "I", false)
  | 16 => ("BlindFiddlesModel", "worstPlace", "I", false)
  | 17 => ("BlindFiddlesModel", "place", "I", false)
  | 18 => ("BlindFiddlesModel", "live", "I", false)
  | 19 => ("BlindFiddlesModel", "side", "I", false)
  | 20 => ("BlindFiddlesModel", "names", "I", false)
  | 21 => ("BlindFiddlesModel", "nameOf", "[J", true)
  | 22 => ("BlindFiddlesModel", "nameSort", "[I", true)
  | 23 => ("BlindFiddlesModel", "nameAt", "[I", true)
  | 24 => ("BlindFiddlesModel", "fiddles", "[I", true)
  | 25 => ("BlindFiddlesModel", "isOld", "[Z", true)
  | 26 => ("BlindFiddlesModel", "sound", "[I", true)
  | 27 => ("BlindFiddlesModel", "isBarred", "[Z", true)
  | 28 => ("BlindFiddlesModel", "people", "[I", true)
  | 29 => ("BlindFiddlesModel", "isHearer", "[Z", true)
  | 30 => ("BlindFiddlesModel", "taste", "[I", true)
  | 31 => ("BlindFiddlesModel", "habit", "[I", true)
  | 32 => ("BlindFiddlesModel", "bows", "[I", true)
  | 33 => ("BlindFiddlesModel", "bowNumber", "[I", true)
  | 34 => ("BlindFiddlesModel", "laws", "[I", true)
  | 35 => ("BlindFiddlesModel", "lawFrom", "[I", true)
  | 36 => ("BlindFiddlesModel", "lawTo", "[I", true)
  | 37 => ("BlindFiddlesModel", "plans", "[I", true)
  | 38 => ("BlindFiddlesModel", "sits", "[I", true)
  | 39 => ("BlindFiddlesModel", "sitWho", "[I", true)
  | 40 => ("BlindFiddlesModel", "sitBow", "[I", true)
  | 41 => ("BlindFiddlesModel", "sitSeen", "[Z", true)
  | 42 => ("BlindFiddlesModel", "sitMany", "[I", true)
  | 43 => ("BlindFiddlesModel", "sitFiddle", "[I", true)
  | 44 => ("BlindFiddlesModel", "codes", "I", false)
  | 45 => ("BlindFiddlesModel", "code", "[I", true)
  | 46 => ("BlindFiddlesModel", "codeInt", "[I", true)
  | 47 => ("BlindFiddlesModel", "waits", "[I", true)
  | 48 => ("BlindFiddlesModel", "waiting", "I", false)
  | 49 => ("BlindFiddlesModel", "variables", "[I", true)
  | 50 => ("BlindFiddlesModel", "pile", "[I", true)
  | 51 => ("BlindFiddlesModel", "set", "[I", true)
  | 52 => ("BlindFiddlesModel", "facts", "I", false)
  | 53 => ("BlindFiddlesModel", "factSort", "[I", true)
  | 54 => ("BlindFiddlesModel", "factWho", "[I", true)
  | 55 => ("BlindFiddlesModel", "factFiddle", "[I", true)
  | 56 => ("BlindFiddlesModel", "factValue", "[I", true)
  | 57 => ("BlindFiddlesModel", "factSpot", "[I", true)
  | 58 => ("BlindFiddlesModel", "factSeen", "[Z", true)
  | 59 => ("BlindFiddlesModel", "blind", "[I", true)
  | 60 => ("BlindFiddlesModel", "sighted", "[I", true)
  | 61 => ("BlindFiddlesModel", "pairs", "I", false)
  | 62 => ("BlindFiddlesModel", "earlier", "[I", true)
  | 63 => ("BlindFiddlesModel", "later", "[I", true)
  | 64 => ("BlindFiddlesModel", "given", "[I", true)
  | 65 => ("BlindFiddlesModel", "isGiven", "[Z", true)
  | 66 => ("BlindFiddlesModel", "kinded", "I", false)
  | 67 => ("BlindFiddlesModel", "olds", "I", false)
  | 68 => ("BlindFiddlesModel", "common", "I", false)
  | 69 => ("BlindFiddlesModel", "kindValue", "[I", true)
  | 70 => ("BlindFiddlesModel", "kindOld", "[Z", true)
  | 71 => ("BlindFiddlesModel", "signs", "I", false)
  | 72 => ("BlindFiddlesModel", "signValue", "[I", true)
  | 73 => ("BlindFiddlesModel", "knownOld", "I", false)
  | 74 => ("BlindFiddlesModel", "both", "I", false)
  | 75 => ("BlindFiddlesModel", "nearSum", "[I", true)
  | 76 => ("BlindFiddlesModel", "nearMany", "[I", true)
  | 77 => ("BlindFiddlesModel", "farSum", "[I", true)
  | _ => ("BlindFiddlesModel", "farMany", "[I", true)
def tyX12 : Nat → FieldType := fun k => match k with
  | 0 => .int
  | 1 => .array .byte
  | 2 => .int
  | 3 => .array .byte
  | 4 => .int
  | 5 => .array .int
  | 6 => .array .int
  | 7 => .array .int
  | 8 => .array .long
  | 9 => .array .long
  | 10 => .int
  | 11 => .int
  | 12 => .int
  | 13 => .int
  | 14 => .int
  | 15 => .int
  | 16 => .int
  | 17 => .int
  | 18 => .int
  | 19 => .int
  | 20 => .int
  | 21 => .array .long
  | 22 => .array .int
  | 23 => .array .int
  | 24 => .array .int
  | 25 => .array .boolean
  | 26 => .array .int
  | 27 => .array .boolean
  | 28 => .array .int
  | 29 => .array .boolean
  | 30 => .array .int
  | 31 => .array .int
  | 32 => .array .int
  | 33 => .array .int
  | 34 => .array .int
  | 35 => .array .int
  | 36 => .array .int
  | 37 => .array .int
  | 38 => .array .int
  | 39 => .array .int
  | 40 => .array .int
  | 41 => .array .boolean
  | 42 => .array .int
  | 43 => .array .int
  | 44 => .int
  | 45 => .array .int
  | 46 => .array .int
  | 47 => .array .int
  | 48 => .int
  | 49 => .array .int
  | 50 => .array .int
  | 51 => .array .int
  | 52 => .int
  | 53 => .array .int
  | 54 => .array .int
  | 55 => .array .int
  | 56 => .array .int
  | 57 => .array .int
  | 58 => .array .boolean
  | 59 => .array .int
  | 60 => .array .int
  | 61 => .int
  | 62 => .array .int
  | 63 => .array .int
  | 64 => .array .int
  | 65 => .array .boolean
  | 66 => .int
  | 67 => .int
  | 68 => .int
  | 69 => .array .int
  | 70 => .array .boolean
  | 71 => .int
  | 72 => .array .int
  | 73 => .int
  | 74 => .int
  | 75 => .array .int
  | 76 => .array .int
  | 77 => .array .int
  | _ => .array .int
abbrev wsX120 : List Cond := u_ws RX12 TX12 79
theorem nmX12 : ∀ a, a < 79 → ∀ b, b < 79 → a ≠ b → (TX12 a).2.1 ≠ (TX12 b).2.1 := by decide +kernel
theorem tyX12_ok : ∀ k, k < 79 → parseFieldDescriptor (TX12 k).2.2.1 = some (tyX12 k) := by decide +kernel
abbrev cX12_init : ByteArray := prog_14_method_2_code
def yX12_init : MethodName := ⟨RX12, "<init>", "()V"⟩
abbrev cX12_feed : ByteArray := prog_14_method_3_code
def yX12_feed : MethodName := ⟨RX12, "feed", "(IIIII)I"⟩
abbrev cX12_put : ByteArray := prog_14_method_4_code
def yX12_put : MethodName := ⟨RX12, "put", "(I)V"⟩
abbrev cX12_back : ByteArray := prog_14_method_5_code
def yX12_back : MethodName := ⟨RX12, "back", "(I)I"⟩
abbrev cX12_byteAt : ByteArray := prog_14_method_6_code
def yX12_byteAt : MethodName := ⟨RX12, "byteAt", "(I)I"⟩
abbrev cX12_isDigit : ByteArray := prog_14_method_7_code
def yX12_isDigit : MethodName := ⟨RX12, "isDigit", "(I)Z"⟩
abbrev cX12_isLetter : ByteArray := prog_14_method_8_code
def yX12_isLetter : MethodName := ⟨RX12, "isLetter", "(I)Z"⟩
abbrev cX12_appends : ByteArray := prog_14_method_9_code
def yX12_appends : MethodName := ⟨RX12, "appends", "(JI)J"⟩
abbrev cX12_word : ByteArray := prog_14_method_10_code
def yX12_word : MethodName := ⟨RX12, "word", "(IIIIIII)J"⟩
abbrev cX12_token : ByteArray := prog_14_method_11_code
def yX12_token : MethodName := ⟨RX12, "token", "(IIIJ)V"⟩
abbrev cX12_cut : ByteArray := prog_14_method_12_code
def yX12_cut : MethodName := ⟨RX12, "cut", "()V"⟩
abbrev cX12_sign : ByteArray := prog_14_method_13_code
def yX12_sign : MethodName := ⟨RX12, "sign", "(III)I"⟩
abbrev cX12_is : ByteArray := prog_14_method_14_code
def yX12_is : MethodName := ⟨RX12, "is", "(I)Z"⟩
abbrev cX12_fail : ByteArray := prog_14_method_15_code
def yX12_fail : MethodName := ⟨RX12, "fail", "(I)V"⟩
abbrev cX12_wrong : ByteArray := prog_14_method_16_code
def yX12_wrong : MethodName := ⟨RX12, "wrong", "(II)V"⟩
abbrev cX12_goesOn : ByteArray := prog_14_method_17_code
def yX12_goesOn : MethodName := ⟨RX12, "goesOn", "()V"⟩
abbrev cX12_must : ByteArray := prog_14_method_18_code
def yX12_must : MethodName := ⟨RX12, "must", "(I)V"⟩
abbrev cX12_read : ByteArray := prog_14_method_19_code
def yX12_read : MethodName := ⟨RX12, "read", "()I"⟩
abbrev cX12_place : ByteArray := prog_14_method_20_code
def yX12_place : MethodName := ⟨RX12, "place", "()I"⟩
abbrev cX12_tell : ByteArray := prog_14_method_21_code
def yX12_tell : MethodName := ⟨RX12, "tell", "()V"⟩
abbrev cX12_named : ByteArray := prog_14_method_22_code
def yX12_named : MethodName := ⟨RX12, "named", "()I"⟩
abbrev cX12_knows : ByteArray := prog_14_method_23_code
def yX12_knows : MethodName := ⟨RX12, "knows", "(III)V"⟩
abbrev cX12_known : ByteArray := prog_14_method_24_code
def yX12_known : MethodName := ⟨RX12, "known", "(I)I"⟩
abbrev cX12_told : ByteArray := prog_14_method_25_code
def yX12_told : MethodName := ⟨RX12, "told", "(I)I"⟩
abbrev cX12_tellFiddle : ByteArray := prog_14_method_26_code
def yX12_tellFiddle : MethodName := ⟨RX12, "tellFiddle", "()V"⟩
abbrev cX12_tellPerson : ByteArray := prog_14_method_27_code
def yX12_tellPerson : MethodName := ⟨RX12, "tellPerson", "()V"⟩
abbrev cX12_tellBow : ByteArray := prog_14_method_28_code
def yX12_tellBow : MethodName := ⟨RX12, "tellBow", "()V"⟩
abbrev cX12_tellLaw : ByteArray := prog_14_method_29_code
def yX12_tellLaw : MethodName := ⟨RX12, "tellLaw", "()V"⟩
abbrev cX12_tellPlan : ByteArray := prog_14_method_30_code
def yX12_tellPlan : MethodName := ⟨RX12, "tellPlan", "()V"⟩
abbrev cX12_tellSit : ByteArray := prog_14_method_31_code
def yX12_tellSit : MethodName := ⟨RX12, "tellSit", "()V"⟩
abbrev cX12_emit : ByteArray := prog_14_method_32_code
def yX12_emit : MethodName := ⟨RX12, "emit", "(II)V"⟩
abbrev cX12_waitsOn : ByteArray := prog_14_method_33_code
def yX12_waitsOn : MethodName := ⟨RX12, "waitsOn", "(I)Z"⟩
abbrev cX12_comesOut : ByteArray := prog_14_method_34_code
def yX12_comesOut : MethodName := ⟨RX12, "comesOut", "(Z)V"⟩
abbrev cX12_waitFor : ByteArray := prog_14_method_35_code
def yX12_waitFor : MethodName := ⟨RX12, "waitFor", "(I)V"⟩
abbrev cX12_expression : ByteArray := prog_14_method_36_code
def yX12_expression : MethodName := ⟨RX12, "expression", "()V"⟩
abbrev cX12_unit : ByteArray := prog_14_method_37_code
def yX12_unit : MethodName := ⟨RX12, "unit", "()V"⟩
abbrev cX12_goes : ByteArray := prog_14_method_38_code
def yX12_goes : MethodName := ⟨RX12, "goes", "()Z"⟩
abbrev cX12_in : ByteArray := prog_14_method_39_code
def yX12_in : MethodName := ⟨RX12, "in", "(III)Z"⟩
abbrev cX12_valueOf : ByteArray := prog_14_method_40_code
def yX12_valueOf : MethodName := ⟨RX12, "valueOf", "(I)I"⟩
abbrev cX12_isFiddle : ByteArray := prog_14_method_41_code
def yX12_isFiddle : MethodName := ⟨RX12, "isFiddle", "(I)Z"⟩
abbrev cX12_isPerson : ByteArray := prog_14_method_42_code
def yX12_isPerson : MethodName := ⟨RX12, "isPerson", "(I)Z"⟩
abbrev cX12_isBow : ByteArray := prog_14_method_43_code
def yX12_isBow : MethodName := ⟨RX12, "isBow", "(I)Z"⟩
abbrev cX12_isLaw : ByteArray := prog_14_method_44_code
def yX12_isLaw : MethodName := ⟨RX12, "isLaw", "(I)Z"⟩
abbrev cX12_isPlan : ByteArray := prog_14_method_45_code
def yX12_isPlan : MethodName := ⟨RX12, "isPlan", "(I)Z"⟩
abbrev cX12_isOldOne : ByteArray := prog_14_method_46_code
def yX12_isOldOne : MethodName := ⟨RX12, "isOldOne", "(I)Z"⟩
abbrev cX12_isPlayer : ByteArray := prog_14_method_47_code
def yX12_isPlayer : MethodName := ⟨RX12, "isPlayer", "(I)Z"⟩
abbrev cX12_likes : ByteArray := prog_14_method_48_code
def yX12_likes : MethodName := ⟨RX12, "likes", "(IIIIZII)I"⟩
abbrev cX12_fiddle : ByteArray := prog_14_method_49_code
def yX12_fiddle : MethodName := ⟨RX12, "fiddle", "(II)I"⟩
abbrev cX12_person : ByteArray := prog_14_method_50_code
def yX12_person : MethodName := ⟨RX12, "person", "(II)I"⟩
abbrev cX12_isSitting : ByteArray := prog_14_method_51_code
def yX12_isSitting : MethodName := ⟨RX12, "isSitting", "(II)Z"⟩
abbrev cX12_sitAt : ByteArray := prog_14_method_52_code
def yX12_sitAt : MethodName := ⟨RX12, "sitAt", "(II)I"⟩
abbrev cX12_sitting : ByteArray := prog_14_method_53_code
def yX12_sitting : MethodName := ⟨RX12, "sitting", "(III)I"⟩
abbrev cX12_liking : ByteArray := prog_14_method_54_code
def yX12_liking : MethodName := ⟨RX12, "liking", "(IIIIZII)I"⟩
abbrev cX12_mixed : ByteArray := prog_14_method_55_code
def yX12_mixed : MethodName := ⟨RX12, "mixed", "(II)I"⟩
abbrev cX12_lot : ByteArray := prog_14_method_56_code
def yX12_lot : MethodName := ⟨RX12, "lot", "(III)I"⟩
abbrev cX12_says : ByteArray := prog_14_method_57_code
def yX12_says : MethodName := ⟨RX12, "says", "(IIIII)I"⟩
abbrev cX12_takenIn : ByteArray := prog_14_method_58_code
def yX12_takenIn : MethodName := ⟨RX12, "takenIn", "(IIII)I"⟩
abbrev cX12_taken : ByteArray := prog_14_method_59_code
def yX12_taken : MethodName := ⟨RX12, "taken", "(IIII)I"⟩
abbrev cX12_takes : ByteArray := prog_14_method_60_code
def yX12_takes : MethodName := ⟨RX12, "takes", "(IIII)I"⟩
abbrev cX12_touched : ByteArray := prog_14_method_61_code
def yX12_touched : MethodName := ⟨RX12, "touched", "(IIIIIZ)I"⟩
abbrev cX12_touch : ByteArray := prog_14_method_62_code
def yX12_touch : MethodName := ⟨RX12, "touch", "(IIIIIZ)I"⟩
abbrev cX12_gains : ByteArray := prog_14_method_63_code
def yX12_gains : MethodName := ⟨RX12, "gains", "(IIII)J"⟩
abbrev cX12_comes : ByteArray := prog_14_method_64_code
def yX12_comes : MethodName := ⟨RX12, "comes", "(IIIIIZ)I"⟩
abbrev cX12_run : ByteArray := prog_14_method_65_code
def yX12_run : MethodName := ⟨RX12, "run", "(IIII)I"⟩
abbrev cX12_mark : ByteArray := prog_14_method_66_code
def yX12_mark : MethodName := ⟨RX12, "mark", "(IIIIZ)I"⟩
abbrev cX12_guess : ByteArray := prog_14_method_67_code
def yX12_guess : MethodName := ⟨RX12, "guess", "(IIZ)I"⟩
abbrev cX12_annul : ByteArray := prog_14_method_68_code
def yX12_annul : MethodName := ⟨RX12, "annul", "(I)I"⟩
abbrev cX12_fact : ByteArray := prog_14_method_69_code
def yX12_fact : MethodName := ⟨RX12, "fact", "(II)I"⟩
abbrev cX12_isKnown : ByteArray := prog_14_method_70_code
def yX12_isKnown : MethodName := ⟨RX12, "isKnown", "(I)Z"⟩
abbrev cX12_counts : ByteArray := prog_14_method_71_code
def yX12_counts : MethodName := ⟨RX12, "counts", "(III)Z"⟩
abbrev cX12_gathers : ByteArray := prog_14_method_72_code
def yX12_gathers : MethodName := ⟨RX12, "gathers", "(I)V"⟩
abbrev cX12_last : ByteArray := prog_14_method_73_code
def yX12_last : MethodName := ⟨RX12, "last", "(IIZI)I"⟩
abbrev cX12_sumOf : ByteArray := prog_14_method_74_code
def yX12_sumOf : MethodName := ⟨RX12, "sumOf", "(IZ)I"⟩
abbrev cX12_manyOf : ByteArray := prog_14_method_75_code
def yX12_manyOf : MethodName := ⟨RX12, "manyOf", "(IZ)I"⟩
abbrev cX12_mean : ByteArray := prog_14_method_76_code
def yX12_mean : MethodName := ⟨RX12, "mean", "(IZII)I"⟩
abbrev cX12_guessed : ByteArray := prog_14_method_77_code
def yX12_guessed : MethodName := ⟨RX12, "guessed", "(II)I"⟩
abbrev cX12_guesses : ByteArray := prog_14_method_78_code
def yX12_guesses : MethodName := ⟨RX12, "guesses", "(II)I"⟩
abbrev cX12_picks : ByteArray := prog_14_method_79_code
def yX12_picks : MethodName := ⟨RX12, "picks", "(II)J"⟩
abbrev cX12_power : ByteArray := prog_14_method_80_code
def yX12_power : MethodName := ⟨RX12, "power", "(JI)J"⟩
abbrev cX12_tail : ByteArray := prog_14_method_81_code
def yX12_tail : MethodName := ⟨RX12, "tail", "(IIII)J"⟩
abbrev cX12_coinOf : ByteArray := prog_14_method_82_code
def yX12_coinOf : MethodName := ⟨RX12, "coinOf", "(IZ)J"⟩
abbrev cX12_coin : ByteArray := prog_14_method_83_code
def yX12_coin : MethodName := ⟨RX12, "coin", "(IZ)J"⟩
abbrev cX12_table : ByteArray := prog_14_method_84_code
def yX12_table : MethodName := ⟨RX12, "table", "(IZ)J"⟩
abbrev cX12_steadies : ByteArray := prog_14_method_85_code
def yX12_steadies : MethodName := ⟨RX12, "steadies", "(I)V"⟩
abbrev cX12_bare : ByteArray := prog_14_method_86_code
def yX12_bare : MethodName := ⟨RX12, "bare", "(I)I"⟩
abbrev cX12_off : ByteArray := prog_14_method_87_code
def yX12_off : MethodName := ⟨RX12, "off", "()I"⟩
abbrev cX12_steady : ByteArray := prog_14_method_88_code
def yX12_steady : MethodName := ⟨RX12, "steady", "(II)I"⟩
abbrev cX12_factorial : ByteArray := prog_14_method_89_code
def yX12_factorial : MethodName := ⟨RX12, "factorial", "(I)I"⟩
abbrev cX12_gives : ByteArray := prog_14_method_90_code
def yX12_gives : MethodName := ⟨RX12, "gives", "(II)V"⟩
abbrev cX12_steadyCount : ByteArray := prog_14_method_91_code
def yX12_steadyCount : MethodName := ⟨RX12, "steadyCount", "(I)I"⟩
abbrev cX12_steadyWays : ByteArray := prog_14_method_92_code
def yX12_steadyWays : MethodName := ⟨RX12, "steadyWays", "(I)I"⟩
abbrev cX12_commonOf : ByteArray := prog_14_method_93_code
def yX12_commonOf : MethodName := ⟨RX12, "commonOf", "(II)I"⟩
abbrev cX12_kindsBy : ByteArray := prog_14_method_94_code
def yX12_kindsBy : MethodName := ⟨RX12, "kindsBy", "(II)V"⟩
abbrev cX12_kindsApart : ByteArray := prog_14_method_95_code
def yX12_kindsApart : MethodName := ⟨RX12, "kindsApart", "(I)I"⟩
abbrev cX12_kindsNow : ByteArray := prog_14_method_96_code
def yX12_kindsNow : MethodName := ⟨RX12, "kindsNow", "()I"⟩
abbrev cX12_bits : ByteArray := prog_14_method_97_code
def yX12_bits : MethodName := ⟨RX12, "bits", "(I)I"⟩
abbrev cX12_kindsCount : ByteArray := prog_14_method_98_code
def yX12_kindsCount : MethodName := ⟨RX12, "kindsCount", "(Z)I"⟩
abbrev cX12_kinds : ByteArray := prog_14_method_99_code
def yX12_kinds : MethodName := ⟨RX12, "kinds", "(II)I"⟩
abbrev cX12_kindWays : ByteArray := prog_14_method_100_code
def yX12_kindWays : MethodName := ⟨RX12, "kindWays", "(IZ)I"⟩
abbrev cX12_small : ByteArray := prog_14_method_101_code
def yX12_small : MethodName := ⟨RX12, "small", "(I)I"⟩
abbrev cX12_signSum : ByteArray := prog_14_method_102_code
def yX12_signSum : MethodName := ⟨RX12, "signSum", "()I"⟩
abbrev cX12_signWays : ByteArray := prog_14_method_103_code
def yX12_signWays : MethodName := ⟨RX12, "signWays", "()I"⟩
abbrev cX12_flipsBy : ByteArray := prog_14_method_104_code
def yX12_flipsBy : MethodName := ⟨RX12, "flipsBy", "(I)V"⟩
abbrev cX12_flips : ByteArray := prog_14_method_105_code
def yX12_flips : MethodName := ⟨RX12, "flips", "(II)I"⟩
abbrev cX12_flipWays : ByteArray := prog_14_method_106_code
def yX12_flipWays : MethodName := ⟨RX12, "flipWays", "(I)I"⟩
abbrev cX12_knowingBy : ByteArray := prog_14_method_107_code
def yX12_knowingBy : MethodName := ⟨RX12, "knowingBy", "(I)V"⟩
abbrev cX12_knowing : ByteArray := prog_14_method_108_code
def yX12_knowing : MethodName := ⟨RX12, "knowing", "(II)I"⟩
abbrev cX12_knowingWays : ByteArray := prog_14_method_109_code
def yX12_knowingWays : MethodName := ⟨RX12, "knowingWays", "(I)I"⟩
abbrev cX12_isSpotMark : ByteArray := prog_14_method_110_code
def yX12_isSpotMark : MethodName := ⟨RX12, "isSpotMark", "(II)Z"⟩
abbrev cX12_spotSum : ByteArray := prog_14_method_111_code
def yX12_spotSum : MethodName := ⟨RX12, "spotSum", "(II)I"⟩
abbrev cX12_spotMany : ByteArray := prog_14_method_112_code
def yX12_spotMany : MethodName := ⟨RX12, "spotMany", "(II)I"⟩
abbrev cX12_spot : ByteArray := prog_14_method_113_code
def yX12_spot : MethodName := ⟨RX12, "spot", "(III)I"⟩
abbrev cX12_right : ByteArray := prog_14_method_114_code
def yX12_right : MethodName := ⟨RX12, "right", "(II)I"⟩
abbrev cX12_nears : ByteArray := prog_14_method_115_code
def yX12_nears : MethodName := ⟨RX12, "nears", "(I)V"⟩
abbrev cX12_sideOf : ByteArray := prog_14_method_116_code
def yX12_sideOf : MethodName := ⟨RX12, "sideOf", "(II)I"⟩
abbrev cX12_parted : ByteArray := prog_14_method_117_code
def yX12_parted : MethodName := ⟨RX12, "parted", "(I)I"⟩
abbrev cX12_near : ByteArray := prog_14_method_118_code
def yX12_near : MethodName := ⟨RX12, "near", "(II)I"⟩
abbrev cX12_nearCount : ByteArray := prog_14_method_119_code
def yX12_nearCount : MethodName := ⟨RX12, "nearCount", "(I)I"⟩
abbrev cX12_nearWays : ByteArray := prog_14_method_120_code
def yX12_nearWays : MethodName := ⟨RX12, "nearWays", "(I)I"⟩
abbrev cX12_beatsBy : ByteArray := prog_14_method_121_code
def yX12_beatsBy : MethodName := ⟨RX12, "beatsBy", "(II)I"⟩
abbrev cX12_beats : ByteArray := prog_14_method_122_code
def yX12_beats : MethodName := ⟨RX12, "beats", "(III)I"⟩
abbrev cX12_winnerOf : ByteArray := prog_14_method_123_code
def yX12_winnerOf : MethodName := ⟨RX12, "winnerOf", "(I)I"⟩
abbrev cX12_winner : ByteArray := prog_14_method_124_code
def yX12_winner : MethodName := ⟨RX12, "winner", "(I)I"⟩
abbrev cX12_best : ByteArray := prog_14_method_125_code
def yX12_best : MethodName := ⟨RX12, "best", "(IZ)I"⟩
abbrev cX12_need : ByteArray := prog_14_method_126_code
def yX12_need : MethodName := ⟨RX12, "need", "(IIIII)I"⟩
abbrev cX12_partsOf : ByteArray := prog_14_method_127_code
def yX12_partsOf : MethodName := ⟨RX12, "partsOf", "(IIII)I"⟩
abbrev cX12_parts : ByteArray := prog_14_method_128_code
def yX12_parts : MethodName := ⟨RX12, "parts", "(IIII)I"⟩
abbrev cX12_next : ByteArray := prog_14_method_129_code
def yX12_next : MethodName := ⟨RX12, "next", "(III)I"⟩
abbrev cX12_sayOf : ByteArray := prog_14_method_130_code
def yX12_sayOf : MethodName := ⟨RX12, "sayOf", "(I)I"⟩
abbrev cX12_say : ByteArray := prog_14_method_131_code
def yX12_say : MethodName := ⟨RX12, "say", "(I)I"⟩
abbrev cX12_turned : ByteArray := prog_14_method_132_code
def yX12_turned : MethodName := ⟨RX12, "turned", "(I)I"⟩
abbrev cX12_count : ByteArray := prog_14_method_133_code
def yX12_count : MethodName := ⟨RX12, "count", "(I)I"⟩
def RJx145de : String := "java/io/Serializable"
def TJx145de : u_T := fun k => match k with
  | _ => ("", "", "", false)
def tyJx145de : Nat → FieldType := fun k => match k with
  | _ => .int
abbrev wsJx145de0 : List Cond := u_ws RJx145de TJx145de 0
theorem nmJx145de : ∀ a, a < 0 → ∀ b, b < 0 → a ≠ b → (TJx145de a).2.1 ≠ (TJx145de b).2.1 := by decide +kernel
theorem tyJx145de_ok : ∀ k, k < 0 → parseFieldDescriptor (TJx145de k).2.2.1 = some (tyJx145de k) := by decide +kernel
def RJx9f9b0 : String := "java/lang/CharSequence"
def TJx9f9b0 : u_T := fun k => match k with
  | _ => ("", "", "", false)
def tyJx9f9b0 : Nat → FieldType := fun k => match k with
  | _ => .int
abbrev wsJx9f9b00 : List Cond := u_ws RJx9f9b0 TJx9f9b0 0
theorem nmJx9f9b0 : ∀ a, a < 0 → ∀ b, b < 0 → a ≠ b → (TJx9f9b0 a).2.1 ≠ (TJx9f9b0 b).2.1 := by decide +kernel
theorem tyJx9f9b0_ok : ∀ k, k < 0 → parseFieldDescriptor (TJx9f9b0 k).2.2.1 = some (tyJx9f9b0 k) := by decide +kernel
def RJ11 : String := "java/lang/Character"
def TJ11 : u_T := fun k => match k with
  | _ => ("", "", "", false)
def tyJ11 : Nat → FieldType := fun k => match k with
  | _ => .int
abbrev wsJ110 : List Cond := u_ws RJ11 TJ11 0
theorem nmJ11 : ∀ a, a < 0 → ∀ b, b < 0 → a ≠ b → (TJ11 a).2.1 ≠ (TJ11 b).2.1 := by decide +kernel
theorem tyJ11_ok : ∀ k, k < 0 → parseFieldDescriptor (TJ11 k).2.2.1 = some (tyJ11 k) := by decide +kernel
abbrev cJ11_isValidCodePoint_9a6ad : ByteArray := prog_15_method_11_code
def yJ11_isValidCodePoint_9a6ad : MethodName := ⟨RJ11, "isValidCodePoint", "(I)Z"⟩
abbrev cJ11_highSurrogate_5068e : ByteArray := prog_15_method_28_code
def yJ11_highSurrogate_5068e : MethodName := ⟨RJ11, "highSurrogate", "(I)C"⟩
abbrev cJ11_lowSurrogate_5068e : ByteArray := prog_15_method_29_code
def yJ11_lowSurrogate_5068e : MethodName := ⟨RJ11, "lowSurrogate", "(I)C"⟩
def RJxb160c : String := "java/lang/Comparable"
def TJxb160c : u_T := fun k => match k with
  | _ => ("", "", "", false)
def tyJxb160c : Nat → FieldType := fun k => match k with
  | _ => .int
abbrev wsJxb160c0 : List Cond := u_ws RJxb160c TJxb160c 0
theorem nmJxb160c : ∀ a, a < 0 → ∀ b, b < 0 → a ≠ b → (TJxb160c a).2.1 ≠ (TJxb160c b).2.1 := by decide +kernel
theorem tyJxb160c_ok : ∀ k, k < 0 → parseFieldDescriptor (TJxb160c k).2.2.1 = some (tyJxb160c k) := by decide +kernel
def RJ9 : String := "java/lang/Math"
def TJ9 : u_T := fun k => match k with
  | _ => ("", "", "", false)
def tyJ9 : Nat → FieldType := fun k => match k with
  | _ => .int
abbrev wsJ90 : List Cond := u_ws RJ9 TJ9 0
theorem nmJ9 : ∀ a, a < 0 → ∀ b, b < 0 → a ≠ b → (TJ9 a).2.1 ≠ (TJ9 b).2.1 := by decide +kernel
theorem tyJ9_ok : ∀ k, k < 0 → parseFieldDescriptor (TJ9 k).2.2.1 = some (tyJ9 k) := by decide +kernel
abbrev cJ9_abs_0f7a4 : ByteArray := prog_16_method_59_code
def yJ9_abs_0f7a4 : MethodName := ⟨RJ9, "abs", "(I)I"⟩
abbrev cJ9_max_7cf53 : ByteArray := prog_16_method_65_code
def yJ9_max_7cf53 : MethodName := ⟨RJ9, "max", "(II)I"⟩
abbrev cJ9_min_7cf53 : ByteArray := prog_16_method_69_code
def yJ9_min_7cf53 : MethodName := ⟨RJ9, "min", "(II)I"⟩
def RJ0 : String := "java/lang/String"
def TJ0 : u_T := fun k => match k with
  | _ => ("", "", "", false)
def tyJ0 : Nat → FieldType := fun k => match k with
  | _ => .int
abbrev wsJ00 : List Cond := u_ws RJ0 TJ0 0
theorem nmJ0 : ∀ a, a < 0 → ∀ b, b < 0 → a ≠ b → (TJ0 a).2.1 ≠ (TJ0 b).2.1 := by decide +kernel
theorem tyJ0_ok : ∀ k, k < 0 → parseFieldDescriptor (TJ0 k).2.2.1 = some (tyJ0 k) := by decide +kernel
abbrev cJ0_length_8abf5 : ByteArray := prog_17_method_54_code
def yJ0_length_8abf5 : MethodName := ⟨RJ0, "length", "()I"⟩
abbrev cJ0_charAt_5068e : ByteArray := prog_17_method_56_code
def yJ0_charAt_5068e : MethodName := ⟨RJ0, "charAt", "(I)C"⟩
abbrev cJ0_indexOf_0f7a4 : ByteArray := prog_17_method_79_code
def yJ0_indexOf_0f7a4 : MethodName := ⟨RJ0, "indexOf", "(I)I"⟩
abbrev cJ0_indexOf_7cf53 : ByteArray := prog_17_method_80_code
def yJ0_indexOf_7cf53 : MethodName := ⟨RJ0, "indexOf", "(II)I"⟩
abbrev cJ0_coder_7d493 : ByteArray := prog_17_method_152_code
def yJ0_coder_7d493 : MethodName := ⟨RJ0, "coder", "()B"⟩
abbrev cJ0_isLatin1_aae02 : ByteArray := prog_17_method_154_code
def yJ0_isLatin1_aae02 : MethodName := ⟨RJ0, "isLatin1", "()Z"⟩
abbrev cJ0_checkIndex_df160 : ByteArray := prog_17_method_155_code
def yJ0_checkIndex_df160 : MethodName := ⟨RJ0, "checkIndex", "(II)V"⟩
abbrev cJ0_checkBoundsBeginEnd_23922 : ByteArray := prog_17_method_158_code
def yJ0_checkBoundsBeginEnd_23922 : MethodName := ⟨RJ0, "checkBoundsBeginEnd", "(III)V"⟩
def RJ1 : String := "java/lang/StringLatin1"
def TJ1 : u_T := fun k => match k with
  | _ => ("", "", "", false)
def tyJ1 : Nat → FieldType := fun k => match k with
  | _ => .int
abbrev wsJ10 : List Cond := u_ws RJ1 TJ1 0
theorem nmJ1 : ∀ a, a < 0 → ∀ b, b < 0 → a ≠ b → (TJ1 a).2.1 ≠ (TJ1 b).2.1 := by decide +kernel
theorem tyJ1_ok : ∀ k, k < 0 → parseFieldDescriptor (TJ1 k).2.2.1 = some (tyJ1 k) := by decide +kernel
abbrev cJ1_charAt_3b067 : ByteArray := prog_18_method_2_code
def yJ1_charAt_3b067 : MethodName := ⟨RJ1, "charAt", "([BI)C"⟩
abbrev cJ1_canEncode_9a6ad : ByteArray := prog_18_method_4_code
def yJ1_canEncode_9a6ad : MethodName := ⟨RJ1, "canEncode", "(I)Z"⟩
abbrev cJ1_indexOf_4cfef : ByteArray := prog_18_method_22_code
def yJ1_indexOf_4cfef : MethodName := ⟨RJ1, "indexOf", "([BIII)I"⟩
abbrev cJ1_indexOfChar_4cfef : ByteArray := prog_18_method_23_code
def yJ1_indexOfChar_4cfef : MethodName := ⟨RJ1, "indexOfChar", "([BIII)I"⟩
def RJ2 : String := "java/lang/StringUTF16"
def TJ2 : u_T := fun k => match k with
  | _ => ("", "", "", false)
def tyJ2 : Nat → FieldType := fun k => match k with
  | _ => .int
abbrev wsJ20 : List Cond := u_ws RJ2 TJ2 0
theorem nmJ2 : ∀ a, a < 0 → ∀ b, b < 0 → a ≠ b → (TJ2 a).2.1 ≠ (TJ2 b).2.1 := by decide +kernel
theorem tyJ2_ok : ∀ k, k < 0 → parseFieldDescriptor (TJ2 k).2.2.1 = some (tyJ2 k) := by decide +kernel
abbrev cJ2_getChar_3b067 : ByteArray := prog_19_method_5_code
def yJ2_getChar_3b067 : MethodName := ⟨RJ2, "getChar", "([BI)C"⟩
abbrev cJ2_length_9d52b : ByteArray := prog_19_method_6_code
def yJ2_length_9d52b : MethodName := ⟨RJ2, "length", "([B)I"⟩
abbrev cJ2_indexOf_4cfef : ByteArray := prog_19_method_40_code
def yJ2_indexOf_4cfef : MethodName := ⟨RJ2, "indexOf", "([BIII)I"⟩
abbrev cJ2_indexOfChar_4cfef : ByteArray := prog_19_method_47_code
def yJ2_indexOfChar_4cfef : MethodName := ⟨RJ2, "indexOfChar", "([BIII)I"⟩
abbrev cJ2_indexOfCharUnsafe_4cfef : ByteArray := prog_19_method_48_code
def yJ2_indexOfCharUnsafe_4cfef : MethodName := ⟨RJ2, "indexOfCharUnsafe", "([BIII)I"⟩
abbrev cJ2_indexOfSupplementary_4cfef : ByteArray := prog_19_method_49_code
def yJ2_indexOfSupplementary_4cfef : MethodName := ⟨RJ2, "indexOfSupplementary", "([BIII)I"⟩
abbrev cJ2_charAt_3b067 : ByteArray := prog_19_method_83_code
def yJ2_charAt_3b067 : MethodName := ⟨RJ2, "charAt", "([BI)C"⟩
abbrev cJ2_checkIndex_2214a : ByteArray := prog_19_method_91_code
def yJ2_checkIndex_2214a : MethodName := ⟨RJ2, "checkIndex", "(I[B)V"⟩
abbrev cJ2_checkBoundsBeginEnd_d044e : ByteArray := prog_19_method_93_code
def yJ2_checkBoundsBeginEnd_d044e : MethodName := ⟨RJ2, "checkBoundsBeginEnd", "(II[B)V"⟩
def RJxfd54e : String := "java/lang/constant/Constable"
def TJxfd54e : u_T := fun k => match k with
  | _ => ("", "", "", false)
def tyJxfd54e : Nat → FieldType := fun k => match k with
  | _ => .int
abbrev wsJxfd54e0 : List Cond := u_ws RJxfd54e TJxfd54e 0
theorem nmJxfd54e : ∀ a, a < 0 → ∀ b, b < 0 → a ≠ b → (TJxfd54e a).2.1 ≠ (TJxfd54e b).2.1 := by decide +kernel
theorem tyJxfd54e_ok : ∀ k, k < 0 → parseFieldDescriptor (TJxfd54e k).2.2.1 = some (tyJxfd54e k) := by decide +kernel
def RJx3cf43 : String := "java/lang/constant/ConstantDesc"
def TJx3cf43 : u_T := fun k => match k with
  | _ => ("", "", "", false)
def tyJx3cf43 : Nat → FieldType := fun k => match k with
  | _ => .int
abbrev wsJx3cf430 : List Cond := u_ws RJx3cf43 TJx3cf43 0
theorem nmJx3cf43 : ∀ a, a < 0 → ∀ b, b < 0 → a ≠ b → (TJx3cf43 a).2.1 ≠ (TJx3cf43 b).2.1 := by decide +kernel
theorem tyJx3cf43_ok : ∀ k, k < 0 → parseFieldDescriptor (TJx3cf43 k).2.2.1 = some (tyJx3cf43 k) := by decide +kernel
def RJ7 : String := "java/util/Arrays"
def TJ7 : u_T := fun k => match k with
  | _ => ("", "", "", false)
def tyJ7 : Nat → FieldType := fun k => match k with
  | _ => .int
abbrev wsJ70 : List Cond := u_ws RJ7 TJ7 0
theorem nmJ7 : ∀ a, a < 0 → ∀ b, b < 0 → a ≠ b → (TJ7 a).2.1 ≠ (TJ7 b).2.1 := by decide +kernel
theorem tyJ7_ok : ∀ k, k < 0 → parseFieldDescriptor (TJ7 k).2.2.1 = some (tyJ7 k) := by decide +kernel
abbrev cJ7_fill_d0a16 : ByteArray := prog_20_method_101_code
def yJ7_fill_d0a16 : MethodName := ⟨RJ7, "fill", "([JJ)V"⟩
abbrev cJ7_fill_53178 : ByteArray := prog_20_method_103_code
def yJ7_fill_53178 : MethodName := ⟨RJ7, "fill", "([II)V"⟩
def RJ3 : String := "jdk/internal/util/Preconditions"
def TJ3 : u_T := fun k => match k with
  | _ => ("", "", "", false)
def tyJ3 : Nat → FieldType := fun k => match k with
  | _ => .int
abbrev wsJ30 : List Cond := u_ws RJ3 TJ3 0
theorem nmJ3 : ∀ a, a < 0 → ∀ b, b < 0 → a ≠ b → (TJ3 a).2.1 ≠ (TJ3 b).2.1 := by decide +kernel
theorem tyJ3_ok : ∀ k, k < 0 → parseFieldDescriptor (TJ3 k).2.2.1 = some (tyJ3 k) := by decide +kernel
abbrev cJ3_checkIndex_8e157 : ByteArray := prog_21_method_11_code
def yJ3_checkIndex_8e157 : MethodName := ⟨RJ3, "checkIndex", "(IILjava/util/function/BiFunction;)I"⟩
abbrev cJ3_checkFromToIndex_8c36e : ByteArray := prog_21_method_12_code
def yJ3_checkFromToIndex_8c36e : MethodName := ⟨RJ3, "checkFromToIndex", "(IIILjava/util/function/BiFunction;)I"⟩
def RL : String := "BlindFiddlesLaw"
abbrev cL_law : ByteArray := code
def yL_law : MethodName := ⟨RL, "law", "([I)Z"⟩

/-- the words of the tables that hold over calls -/
def tq_tbl : List Cond := lw_tbl.filter goodWord
theorem tq_mem {w : Cond} (i : Nat) (h : lw_tbl[i]? = some w) (hg : goodWord w = true) : w ∈ tq_tbl := List.mem_filter.mpr ⟨List.mem_of_getElem? h, hg⟩
theorem tq_good {w : Cond} (h : w ∈ tq_tbl) : (w.onTables && w.keeps) = true ∨ ∃ ty, w = .arrayClass ty := good_of_word (List.mem_filter.mp h).2
theorem tq_in {w : Cond} (h : w ∈ tq_tbl) : w ∈ lw_tbl := (List.mem_filter.mp h).1
