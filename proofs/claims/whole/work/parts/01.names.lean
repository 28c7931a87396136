-- ===== PART A: goes FIRST, ahead of the names: the tables' words, and 'selects' of the private methods out of them =====
/-- a private method of a class that the tables say can be made, by its rows of tables_1 -/
def lw_okq (q : MethodName × Nat) : Prop := (q.1.cls ≠ "java/lang/invoke/MethodHandle" ∧ q.1.cls ≠ "java/lang/invoke/VarHandle") ∧ Cond.instantiable q.1.cls q.2 ∈ tables_1 ∧ Cond.privateMethod q.1 ∈ tables_1 ∧ Cond.instanceMethod q.1 ∈ tables_1
theorem lw_p0 : lw_okq (⟨"PaneSpots$Tape", "takeLetters", "()V"⟩, 7) := ⟨⟨by decide +kernel, by decide +kernel⟩, List.mem_of_getElem? (i := 42) (by decide +kernel), List.mem_of_getElem? (i := 438) (by decide +kernel), List.mem_of_getElem? (i := 439) (by decide +kernel)⟩
theorem lw_p1 : lw_okq (⟨"PaneSpots$Tape", "kindOfWord", "()I"⟩, 7) := ⟨⟨by decide +kernel, by decide +kernel⟩, List.mem_of_getElem? (i := 42) (by decide +kernel), List.mem_of_getElem? (i := 443) (by decide +kernel), List.mem_of_getElem? (i := 444) (by decide +kernel)⟩
theorem lw_p2 : lw_okq (⟨"PaneSpots$Tape", "takeDigits", "()V"⟩, 7) := ⟨⟨by decide +kernel, by decide +kernel⟩, List.mem_of_getElem? (i := 42) (by decide +kernel), List.mem_of_getElem? (i := 499) (by decide +kernel), List.mem_of_getElem? (i := 500) (by decide +kernel)⟩
theorem lw_p3 : lw_okq (⟨"PaneSpots$Reader", "readLine", "()I"⟩, 5) := ⟨⟨by decide +kernel, by decide +kernel⟩, List.mem_of_getElem? (i := 36) (by decide +kernel), List.mem_of_getElem? (i := 563) (by decide +kernel), List.mem_of_getElem? (i := 564) (by decide +kernel)⟩
theorem lw_p4 : lw_okq (⟨"PaneSpots$Reader", "readFloor", "()I"⟩, 5) := ⟨⟨by decide +kernel, by decide +kernel⟩, List.mem_of_getElem? (i := 36) (by decide +kernel), List.mem_of_getElem? (i := 567) (by decide +kernel), List.mem_of_getElem? (i := 568) (by decide +kernel)⟩
theorem lw_p5 : lw_okq (⟨"PaneSpots$Reader", "takeOnce", "()I"⟩, 5) := ⟨⟨by decide +kernel, by decide +kernel⟩, List.mem_of_getElem? (i := 36) (by decide +kernel), List.mem_of_getElem? (i := 571) (by decide +kernel), List.mem_of_getElem? (i := 572) (by decide +kernel)⟩
theorem lw_p6 : lw_okq (⟨"PaneSpots$Reader", "takeNumber", "(II)I"⟩, 5) := ⟨⟨by decide +kernel, by decide +kernel⟩, List.mem_of_getElem? (i := 36) (by decide +kernel), List.mem_of_getElem? (i := 576) (by decide +kernel), List.mem_of_getElem? (i := 577) (by decide +kernel)⟩
theorem lw_p7 : lw_okq (⟨"PaneSpots$Reader", "take", "(I)I"⟩, 5) := ⟨⟨by decide +kernel, by decide +kernel⟩, List.mem_of_getElem? (i := 36) (by decide +kernel), List.mem_of_getElem? (i := 580) (by decide +kernel), List.mem_of_getElem? (i := 581) (by decide +kernel)⟩
theorem lw_p8 : lw_okq (⟨"PaneSpots$Reader", "readGuild", "()I"⟩, 5) := ⟨⟨by decide +kernel, by decide +kernel⟩, List.mem_of_getElem? (i := 36) (by decide +kernel), List.mem_of_getElem? (i := 584) (by decide +kernel), List.mem_of_getElem? (i := 585) (by decide +kernel)⟩
theorem lw_p9 : lw_okq (⟨"PaneSpots$Reader", "takeNewName", "(I)I"⟩, 5) := ⟨⟨by decide +kernel, by decide +kernel⟩, List.mem_of_getElem? (i := 36) (by decide +kernel), List.mem_of_getElem? (i := 588) (by decide +kernel), List.mem_of_getElem? (i := 589) (by decide +kernel)⟩
theorem lw_p10 : lw_okq (⟨"PaneSpots$Reader", "readPane", "()I"⟩, 5) := ⟨⟨by decide +kernel, by decide +kernel⟩, List.mem_of_getElem? (i := 36) (by decide +kernel), List.mem_of_getElem? (i := 600) (by decide +kernel), List.mem_of_getElem? (i := 601) (by decide +kernel)⟩
theorem lw_p11 : lw_okq (⟨"PaneSpots$Reader", "isRowOfPane", "(I)Z"⟩, 5) := ⟨⟨by decide +kernel, by decide +kernel⟩, List.mem_of_getElem? (i := 36) (by decide +kernel), List.mem_of_getElem? (i := 604) (by decide +kernel), List.mem_of_getElem? (i := 605) (by decide +kernel)⟩
theorem lw_p12 : lw_okq (⟨"PaneSpots$Reader", "takeGiver", "(I)I"⟩, 5) := ⟨⟨by decide +kernel, by decide +kernel⟩, List.mem_of_getElem? (i := 36) (by decide +kernel), List.mem_of_getElem? (i := 612) (by decide +kernel), List.mem_of_getElem? (i := 613) (by decide +kernel)⟩
theorem lw_p13 : lw_okq (⟨"PaneSpots$Reader", "readLaw", "()I"⟩, 5) := ⟨⟨by decide +kernel, by decide +kernel⟩, List.mem_of_getElem? (i := 36) (by decide +kernel), List.mem_of_getElem? (i := 616) (by decide +kernel), List.mem_of_getElem? (i := 617) (by decide +kernel)⟩
theorem lw_p14 : lw_okq (⟨"PaneSpots$Reader", "readE", "(I)I"⟩, 5) := ⟨⟨by decide +kernel, by decide +kernel⟩, List.mem_of_getElem? (i := 36) (by decide +kernel), List.mem_of_getElem? (i := 627) (by decide +kernel), List.mem_of_getElem? (i := 628) (by decide +kernel)⟩
theorem lw_p15 : lw_okq (⟨"PaneSpots$Reader", "readTest", "(I)I"⟩, 5) := ⟨⟨by decide +kernel, by decide +kernel⟩, List.mem_of_getElem? (i := 36) (by decide +kernel), List.mem_of_getElem? (i := 631) (by decide +kernel), List.mem_of_getElem? (i := 632) (by decide +kernel)⟩
def lw_privs_1 : List (MethodName × Nat) := [(⟨"PaneSpots$Tape", "takeLetters", "()V"⟩, 7), (⟨"PaneSpots$Tape", "kindOfWord", "()I"⟩, 7), (⟨"PaneSpots$Tape", "takeDigits", "()V"⟩, 7), (⟨"PaneSpots$Reader", "readLine", "()I"⟩, 5), (⟨"PaneSpots$Reader", "readFloor", "()I"⟩, 5), (⟨"PaneSpots$Reader", "takeOnce", "()I"⟩, 5), (⟨"PaneSpots$Reader", "takeNumber", "(II)I"⟩, 5), (⟨"PaneSpots$Reader", "take", "(I)I"⟩, 5), (⟨"PaneSpots$Reader", "readGuild", "()I"⟩, 5), (⟨"PaneSpots$Reader", "takeNewName", "(I)I"⟩, 5), (⟨"PaneSpots$Reader", "readPane", "()I"⟩, 5), (⟨"PaneSpots$Reader", "isRowOfPane", "(I)Z"⟩, 5), (⟨"PaneSpots$Reader", "takeGiver", "(I)I"⟩, 5), (⟨"PaneSpots$Reader", "readLaw", "()I"⟩, 5), (⟨"PaneSpots$Reader", "readE", "(I)I"⟩, 5), (⟨"PaneSpots$Reader", "readTest", "(I)I"⟩, 5)]
theorem lw_r1 : ∀ q ∈ lw_privs_1, lw_okq q := List.forall_mem_cons.mpr ⟨lw_p0, List.forall_mem_cons.mpr ⟨lw_p1, List.forall_mem_cons.mpr ⟨lw_p2, List.forall_mem_cons.mpr ⟨lw_p3, List.forall_mem_cons.mpr ⟨lw_p4, List.forall_mem_cons.mpr ⟨lw_p5, List.forall_mem_cons.mpr ⟨lw_p6, List.forall_mem_cons.mpr ⟨lw_p7, List.forall_mem_cons.mpr ⟨lw_p8, List.forall_mem_cons.mpr ⟨lw_p9, List.forall_mem_cons.mpr ⟨lw_p10, List.forall_mem_cons.mpr ⟨lw_p11, List.forall_mem_cons.mpr ⟨lw_p12, List.forall_mem_cons.mpr ⟨lw_p13, List.forall_mem_cons.mpr ⟨lw_p14, List.forall_mem_cons.mpr ⟨lw_p15, fun _ h => absurd h List.not_mem_nil⟩⟩⟩⟩⟩⟩⟩⟩⟩⟩⟩⟩⟩⟩⟩⟩
theorem lw_p16 : lw_okq (⟨"PaneSpots$Reader", "readSum", "(I)I"⟩, 5) := ⟨⟨by decide +kernel, by decide +kernel⟩, List.mem_of_getElem? (i := 36) (by decide +kernel), List.mem_of_getElem? (i := 635) (by decide +kernel), List.mem_of_getElem? (i := 636) (by decide +kernel)⟩
theorem lw_p17 : lw_okq (⟨"PaneSpots$Reader", "readProduct", "(I)I"⟩, 5) := ⟨⟨by decide +kernel, by decide +kernel⟩, List.mem_of_getElem? (i := 36) (by decide +kernel), List.mem_of_getElem? (i := 639) (by decide +kernel), List.mem_of_getElem? (i := 640) (by decide +kernel)⟩
theorem lw_p18 : lw_okq (⟨"PaneSpots$Reader", "readPart", "(I)I"⟩, 5) := ⟨⟨by decide +kernel, by decide +kernel⟩, List.mem_of_getElem? (i := 36) (by decide +kernel), List.mem_of_getElem? (i := 643) (by decide +kernel), List.mem_of_getElem? (i := 644) (by decide +kernel)⟩
theorem lw_p19 : lw_okq (⟨"PaneSpots$Reader", "startsPart", "()Z"⟩, 5) := ⟨⟨by decide +kernel, by decide +kernel⟩, List.mem_of_getElem? (i := 36) (by decide +kernel), List.mem_of_getElem? (i := 647) (by decide +kernel), List.mem_of_getElem? (i := 648) (by decide +kernel)⟩
theorem lw_p20 : lw_okq (⟨"PaneSpots$Reader", "readCloud", "()I"⟩, 5) := ⟨⟨by decide +kernel, by decide +kernel⟩, List.mem_of_getElem? (i := 36) (by decide +kernel), List.mem_of_getElem? (i := 666) (by decide +kernel), List.mem_of_getElem? (i := 667) (by decide +kernel)⟩
theorem lw_p21 : lw_okq (⟨"PaneSpots", "isGuild", "(I)Z"⟩, 10) := ⟨⟨by decide +kernel, by decide +kernel⟩, List.mem_of_getElem? (i := 28) (by decide +kernel), List.mem_of_getElem? (i := 693) (by decide +kernel), List.mem_of_getElem? (i := 694) (by decide +kernel)⟩
theorem lw_p22 : lw_okq (⟨"PaneSpots", "isPane", "(I)Z"⟩, 10) := ⟨⟨by decide +kernel, by decide +kernel⟩, List.mem_of_getElem? (i := 28) (by decide +kernel), List.mem_of_getElem? (i := 705) (by decide +kernel), List.mem_of_getElem? (i := 706) (by decide +kernel)⟩
theorem lw_p23 : lw_okq (⟨"PaneSpots$Light", "shine", "(I)V"⟩, 4) := ⟨⟨by decide +kernel, by decide +kernel⟩, List.mem_of_getElem? (i := 212) (by decide +kernel), List.mem_of_getElem? (i := 732) (by decide +kernel), List.mem_of_getElem? (i := 733) (by decide +kernel)⟩
theorem lw_p24 : lw_okq (⟨"PaneSpots$Laws", "valueUntold", "(I)I"⟩, 6) := ⟨⟨by decide +kernel, by decide +kernel⟩, List.mem_of_getElem? (i := 83) (by decide +kernel), List.mem_of_getElem? (i := 740) (by decide +kernel), List.mem_of_getElem? (i := 741) (by decide +kernel)⟩
theorem lw_p25 : lw_okq (⟨"PaneSpots", "yearNow", "()I"⟩, 10) := ⟨⟨by decide +kernel, by decide +kernel⟩, List.mem_of_getElem? (i := 28) (by decide +kernel), List.mem_of_getElem? (i := 794) (by decide +kernel), List.mem_of_getElem? (i := 795) (by decide +kernel)⟩
theorem lw_p26 : lw_okq (⟨"PaneSpots$Rents", "measure", "(LPaneSpots$Light;IIII)V"⟩, 5) := ⟨⟨by decide +kernel, by decide +kernel⟩, List.mem_of_getElem? (i := 291) (by decide +kernel), List.mem_of_getElem? (i := 803) (by decide +kernel), List.mem_of_getElem? (i := 804) (by decide +kernel)⟩
theorem lw_p27 : lw_okq (⟨"PaneSpots$Rents", "shareOut", "(LPaneSpots$Light;II)V"⟩, 5) := ⟨⟨by decide +kernel, by decide +kernel⟩, List.mem_of_getElem? (i := 291) (by decide +kernel), List.mem_of_getElem? (i := 813) (by decide +kernel), List.mem_of_getElem? (i := 814) (by decide +kernel)⟩
theorem lw_p28 : lw_okq (⟨"PaneSpots", "canExchange", "(II)Z"⟩, 10) := ⟨⟨by decide +kernel, by decide +kernel⟩, List.mem_of_getElem? (i := 28) (by decide +kernel), List.mem_of_getElem? (i := 853) (by decide +kernel), List.mem_of_getElem? (i := 854) (by decide +kernel)⟩
theorem lw_p29 : lw_okq (⟨"PaneSpots$Trade", "mostWith", "(II)I"⟩, 4) := ⟨⟨by decide +kernel, by decide +kernel⟩, List.mem_of_getElem? (i := 314) (by decide +kernel), List.mem_of_getElem? (i := 872) (by decide +kernel), List.mem_of_getElem? (i := 873) (by decide +kernel)⟩
theorem lw_p30 : lw_okq (⟨"PaneSpots$Trade", "choose", "(I)V"⟩, 4) := ⟨⟨by decide +kernel, by decide +kernel⟩, List.mem_of_getElem? (i := 314) (by decide +kernel), List.mem_of_getElem? (i := 877) (by decide +kernel), List.mem_of_getElem? (i := 878) (by decide +kernel)⟩
theorem lw_p31 : lw_okq (⟨"PaneSpots$Trade", "leastPartner", "(IIII)I"⟩, 4) := ⟨⟨by decide +kernel, by decide +kernel⟩, List.mem_of_getElem? (i := 314) (by decide +kernel), List.mem_of_getElem? (i := 881) (by decide +kernel), List.mem_of_getElem? (i := 882) (by decide +kernel)⟩
def lw_privs_2 : List (MethodName × Nat) := [(⟨"PaneSpots$Reader", "readSum", "(I)I"⟩, 5), (⟨"PaneSpots$Reader", "readProduct", "(I)I"⟩, 5), (⟨"PaneSpots$Reader", "readPart", "(I)I"⟩, 5), (⟨"PaneSpots$Reader", "startsPart", "()Z"⟩, 5), (⟨"PaneSpots$Reader", "readCloud", "()I"⟩, 5), (⟨"PaneSpots", "isGuild", "(I)Z"⟩, 10), (⟨"PaneSpots", "isPane", "(I)Z"⟩, 10), (⟨"PaneSpots$Light", "shine", "(I)V"⟩, 4), (⟨"PaneSpots$Laws", "valueUntold", "(I)I"⟩, 6), (⟨"PaneSpots", "yearNow", "()I"⟩, 10), (⟨"PaneSpots$Rents", "measure", "(LPaneSpots$Light;IIII)V"⟩, 5), (⟨"PaneSpots$Rents", "shareOut", "(LPaneSpots$Light;II)V"⟩, 5), (⟨"PaneSpots", "canExchange", "(II)Z"⟩, 10), (⟨"PaneSpots$Trade", "mostWith", "(II)I"⟩, 4), (⟨"PaneSpots$Trade", "choose", "(I)V"⟩, 4), (⟨"PaneSpots$Trade", "leastPartner", "(IIII)I"⟩, 4)]
theorem lw_r2 : ∀ q ∈ lw_privs_2, lw_okq q := List.forall_mem_cons.mpr ⟨lw_p16, List.forall_mem_cons.mpr ⟨lw_p17, List.forall_mem_cons.mpr ⟨lw_p18, List.forall_mem_cons.mpr ⟨lw_p19, List.forall_mem_cons.mpr ⟨lw_p20, List.forall_mem_cons.mpr ⟨lw_p21, List.forall_mem_cons.mpr ⟨lw_p22, List.forall_mem_cons.mpr ⟨lw_p23, List.forall_mem_cons.mpr ⟨lw_p24, List.forall_mem_cons.mpr ⟨lw_p25, List.forall_mem_cons.mpr ⟨lw_p26, List.forall_mem_cons.mpr ⟨lw_p27, List.forall_mem_cons.mpr ⟨lw_p28, List.forall_mem_cons.mpr ⟨lw_p29, List.forall_mem_cons.mpr ⟨lw_p30, List.forall_mem_cons.mpr ⟨lw_p31, fun _ h => absurd h List.not_mem_nil⟩⟩⟩⟩⟩⟩⟩⟩⟩⟩⟩⟩⟩⟩⟩⟩
theorem lw_p32 : lw_okq (⟨"PaneSpots$Way", "lookAhead", "(IIJ)V"⟩, 4) := ⟨⟨by decide +kernel, by decide +kernel⟩, List.mem_of_getElem? (i := 335) (by decide +kernel), List.mem_of_getElem? (i := 953) (by decide +kernel), List.mem_of_getElem? (i := 954) (by decide +kernel)⟩
theorem lw_p33 : lw_okq (⟨"PaneSpots$Way", "nextFrom", "(II)I"⟩, 4) := ⟨⟨by decide +kernel, by decide +kernel⟩, List.mem_of_getElem? (i := 335) (by decide +kernel), List.mem_of_getElem? (i := 957) (by decide +kernel), List.mem_of_getElem? (i := 958) (by decide +kernel)⟩
theorem lw_p34 : lw_okq (⟨"PaneSpots$Way", "stepsOver", "(III)I"⟩, 4) := ⟨⟨by decide +kernel, by decide +kernel⟩, List.mem_of_getElem? (i := 335) (by decide +kernel), List.mem_of_getElem? (i := 962) (by decide +kernel), List.mem_of_getElem? (i := 963) (by decide +kernel)⟩
theorem lw_p35 : lw_okq (⟨"PaneSpots", "candlesAt", "(I)I"⟩, 10) := ⟨⟨by decide +kernel, by decide +kernel⟩, List.mem_of_getElem? (i := 28) (by decide +kernel), List.mem_of_getElem? (i := 984) (by decide +kernel), List.mem_of_getElem? (i := 985) (by decide +kernel)⟩
theorem lw_p36 : lw_okq (⟨"PaneSpots", "isStained", "(IIII)Z"⟩, 10) := ⟨⟨by decide +kernel, by decide +kernel⟩, List.mem_of_getElem? (i := 28) (by decide +kernel), List.mem_of_getElem? (i := 1006) (by decide +kernel), List.mem_of_getElem? (i := 1007) (by decide +kernel)⟩
theorem lw_p37 : lw_okq (⟨"PaneSpots$Walk", "go", "(LPaneSpots$Light;IIIII[I)V"⟩, 3) := ⟨⟨by decide +kernel, by decide +kernel⟩, List.mem_of_getElem? (i := 356) (by decide +kernel), List.mem_of_getElem? (i := 1014) (by decide +kernel), List.mem_of_getElem? (i := 1015) (by decide +kernel)⟩
theorem lw_p38 : lw_okq (⟨"PaneSpots", "ownersOnSome", "()I"⟩, 10) := ⟨⟨by decide +kernel, by decide +kernel⟩, List.mem_of_getElem? (i := 28) (by decide +kernel), List.mem_of_getElem? (i := 1040) (by decide +kernel), List.mem_of_getElem? (i := 1041) (by decide +kernel)⟩
theorem lw_p39 : lw_okq (⟨"PaneSpots", "ownersOnAll", "()I"⟩, 10) := ⟨⟨by decide +kernel, by decide +kernel⟩, List.mem_of_getElem? (i := 28) (by decide +kernel), List.mem_of_getElem? (i := 1048) (by decide +kernel), List.mem_of_getElem? (i := 1049) (by decide +kernel)⟩
theorem lw_p40 : lw_okq (⟨"java/lang/Throwable", "fillInStackTrace", "(I)Ljava/lang/Throwable;"⟩, 6) := ⟨⟨by decide +kernel, by decide +kernel⟩, List.mem_of_getElem? (i := 1108) (by decide +kernel), List.mem_of_getElem? (i := 1106) (by decide +kernel), List.mem_of_getElem? (i := 1107) (by decide +kernel)⟩
theorem lw_p41 : lw_okq (⟨"PaneSpotsModel", "lay", "(J)V"⟩, 35) := ⟨⟨by decide +kernel, by decide +kernel⟩, List.mem_of_getElem? (i := 1151) (by decide +kernel), List.mem_of_getElem? (i := 1149) (by decide +kernel), List.mem_of_getElem? (i := 1150) (by decide +kernel)⟩
theorem lw_p42 : lw_okq (⟨"PaneSpotsModel", "cutAll", "()V"⟩, 35) := ⟨⟨by decide +kernel, by decide +kernel⟩, List.mem_of_getElem? (i := 1151) (by decide +kernel), List.mem_of_getElem? (i := 1292) (by decide +kernel), List.mem_of_getElem? (i := 1293) (by decide +kernel)⟩
theorem lw_p43 : lw_okq (⟨"PaneSpotsModel", "readLine", "()V"⟩, 35) := ⟨⟨by decide +kernel, by decide +kernel⟩, List.mem_of_getElem? (i := 1151) (by decide +kernel), List.mem_of_getElem? (i := 1311) (by decide +kernel), List.mem_of_getElem? (i := 1312) (by decide +kernel)⟩
theorem lw_p44 : lw_okq (⟨"PaneSpotsModel", "isWord", "(I)Z"⟩, 35) := ⟨⟨by decide +kernel, by decide +kernel⟩, List.mem_of_getElem? (i := 1151) (by decide +kernel), List.mem_of_getElem? (i := 1315) (by decide +kernel), List.mem_of_getElem? (i := 1316) (by decide +kernel)⟩
theorem lw_p45 : lw_okq (⟨"PaneSpotsModel", "readFloor", "()V"⟩, 35) := ⟨⟨by decide +kernel, by decide +kernel⟩, List.mem_of_getElem? (i := 1151) (by decide +kernel), List.mem_of_getElem? (i := 1319) (by decide +kernel), List.mem_of_getElem? (i := 1320) (by decide +kernel)⟩
theorem lw_p46 : lw_okq (⟨"PaneSpotsModel", "wrong", "(I)V"⟩, 35) := ⟨⟨by decide +kernel, by decide +kernel⟩, List.mem_of_getElem? (i := 1151) (by decide +kernel), List.mem_of_getElem? (i := 1323) (by decide +kernel), List.mem_of_getElem? (i := 1324) (by decide +kernel)⟩
theorem lw_p47 : lw_okq (⟨"PaneSpotsModel", "takeNumber", "(II)I"⟩, 35) := ⟨⟨by decide +kernel, by decide +kernel⟩, List.mem_of_getElem? (i := 1151) (by decide +kernel), List.mem_of_getElem? (i := 1327) (by decide +kernel), List.mem_of_getElem? (i := 1328) (by decide +kernel)⟩
def lw_privs_3 : List (MethodName × Nat) := [(⟨"PaneSpots$Way", "lookAhead", "(IIJ)V"⟩, 4), (⟨"PaneSpots$Way", "nextFrom", "(II)I"⟩, 4), (⟨"PaneSpots$Way", "stepsOver", "(III)I"⟩, 4), (⟨"PaneSpots", "candlesAt", "(I)I"⟩, 10), (⟨"PaneSpots", "isStained", "(IIII)Z"⟩, 10), (⟨"PaneSpots$Walk", "go", "(LPaneSpots$Light;IIIII[I)V"⟩, 3), (⟨"PaneSpots", "ownersOnSome", "()I"⟩, 10), (⟨"PaneSpots", "ownersOnAll", "()I"⟩, 10), (⟨"java/lang/Throwable", "fillInStackTrace", "(I)Ljava/lang/Throwable;"⟩, 6), (⟨"PaneSpotsModel", "lay", "(J)V"⟩, 35), (⟨"PaneSpotsModel", "cutAll", "()V"⟩, 35), (⟨"PaneSpotsModel", "readLine", "()V"⟩, 35), (⟨"PaneSpotsModel", "isWord", "(I)Z"⟩, 35), (⟨"PaneSpotsModel", "readFloor", "()V"⟩, 35), (⟨"PaneSpotsModel", "wrong", "(I)V"⟩, 35), (⟨"PaneSpotsModel", "takeNumber", "(II)I"⟩, 35)]
theorem lw_r3 : ∀ q ∈ lw_privs_3, lw_okq q := List.forall_mem_cons.mpr ⟨lw_p32, List.forall_mem_cons.mpr ⟨lw_p33, List.forall_mem_cons.mpr ⟨lw_p34, List.forall_mem_cons.mpr ⟨lw_p35, List.forall_mem_cons.mpr ⟨lw_p36, List.forall_mem_cons.mpr ⟨lw_p37, List.forall_mem_cons.mpr ⟨lw_p38, List.forall_mem_cons.mpr ⟨lw_p39, List.forall_mem_cons.mpr ⟨lw_p40, List.forall_mem_cons.mpr ⟨lw_p41, List.forall_mem_cons.mpr ⟨lw_p42, List.forall_mem_cons.mpr ⟨lw_p43, List.forall_mem_cons.mpr ⟨lw_p44, List.forall_mem_cons.mpr ⟨lw_p45, List.forall_mem_cons.mpr ⟨lw_p46, List.forall_mem_cons.mpr ⟨lw_p47, fun _ h => absurd h List.not_mem_nil⟩⟩⟩⟩⟩⟩⟩⟩⟩⟩⟩⟩⟩⟩⟩⟩
theorem lw_p48 : lw_okq (⟨"PaneSpotsModel", "readGuild", "()V"⟩, 35) := ⟨⟨by decide +kernel, by decide +kernel⟩, List.mem_of_getElem? (i := 1151) (by decide +kernel), List.mem_of_getElem? (i := 1331) (by decide +kernel), List.mem_of_getElem? (i := 1332) (by decide +kernel)⟩
theorem lw_p49 : lw_okq (⟨"PaneSpotsModel", "isName", "()Z"⟩, 35) := ⟨⟨by decide +kernel, by decide +kernel⟩, List.mem_of_getElem? (i := 1151) (by decide +kernel), List.mem_of_getElem? (i := 1335) (by decide +kernel), List.mem_of_getElem? (i := 1336) (by decide +kernel)⟩
theorem lw_p50 : lw_okq (⟨"PaneSpotsModel", "find", "()I"⟩, 35) := ⟨⟨by decide +kernel, by decide +kernel⟩, List.mem_of_getElem? (i := 1151) (by decide +kernel), List.mem_of_getElem? (i := 1339) (by decide +kernel), List.mem_of_getElem? (i := 1340) (by decide +kernel)⟩
theorem lw_p51 : lw_okq (⟨"PaneSpotsModel", "takeAfter", "(III)I"⟩, 35) := ⟨⟨by decide +kernel, by decide +kernel⟩, List.mem_of_getElem? (i := 1151) (by decide +kernel), List.mem_of_getElem? (i := 1343) (by decide +kernel), List.mem_of_getElem? (i := 1344) (by decide +kernel)⟩
theorem lw_p52 : lw_okq (⟨"PaneSpotsModel", "takeWord", "(I)V"⟩, 35) := ⟨⟨by decide +kernel, by decide +kernel⟩, List.mem_of_getElem? (i := 1151) (by decide +kernel), List.mem_of_getElem? (i := 1347) (by decide +kernel), List.mem_of_getElem? (i := 1348) (by decide +kernel)⟩
theorem lw_p53 : lw_okq (⟨"PaneSpotsModel", "hasWord", "(I)Z"⟩, 35) := ⟨⟨by decide +kernel, by decide +kernel⟩, List.mem_of_getElem? (i := 1151) (by decide +kernel), List.mem_of_getElem? (i := 1351) (by decide +kernel), List.mem_of_getElem? (i := 1352) (by decide +kernel)⟩
theorem lw_p54 : lw_okq (⟨"PaneSpotsModel", "readPane", "()V"⟩, 35) := ⟨⟨by decide +kernel, by decide +kernel⟩, List.mem_of_getElem? (i := 1151) (by decide +kernel), List.mem_of_getElem? (i := 1355) (by decide +kernel), List.mem_of_getElem? (i := 1356) (by decide +kernel)⟩
theorem lw_p55 : lw_okq (⟨"PaneSpotsModel", "readCloud", "()V"⟩, 35) := ⟨⟨by decide +kernel, by decide +kernel⟩, List.mem_of_getElem? (i := 1151) (by decide +kernel), List.mem_of_getElem? (i := 1359) (by decide +kernel), List.mem_of_getElem? (i := 1360) (by decide +kernel)⟩
theorem lw_p56 : lw_okq (⟨"PaneSpotsModel", "readLaw", "()V"⟩, 35) := ⟨⟨by decide +kernel, by decide +kernel⟩, List.mem_of_getElem? (i := 1151) (by decide +kernel), List.mem_of_getElem? (i := 1363) (by decide +kernel), List.mem_of_getElem? (i := 1364) (by decide +kernel)⟩
theorem lw_p57 : lw_okq (⟨"PaneSpotsModel", "all", "(I)V"⟩, 35) := ⟨⟨by decide +kernel, by decide +kernel⟩, List.mem_of_getElem? (i := 1151) (by decide +kernel), List.mem_of_getElem? (i := 1367) (by decide +kernel), List.mem_of_getElem? (i := 1368) (by decide +kernel)⟩
theorem lw_p58 : lw_okq (⟨"PaneSpotsModel", "test", "(I)V"⟩, 35) := ⟨⟨by decide +kernel, by decide +kernel⟩, List.mem_of_getElem? (i := 1151) (by decide +kernel), List.mem_of_getElem? (i := 1371) (by decide +kernel), List.mem_of_getElem? (i := 1372) (by decide +kernel)⟩
theorem lw_p59 : lw_okq (⟨"PaneSpotsModel", "sums", "(I)V"⟩, 35) := ⟨⟨by decide +kernel, by decide +kernel⟩, List.mem_of_getElem? (i := 1151) (by decide +kernel), List.mem_of_getElem? (i := 1375) (by decide +kernel), List.mem_of_getElem? (i := 1376) (by decide +kernel)⟩
theorem lw_p60 : lw_okq (⟨"PaneSpotsModel", "products", "(I)V"⟩, 35) := ⟨⟨by decide +kernel, by decide +kernel⟩, List.mem_of_getElem? (i := 1151) (by decide +kernel), List.mem_of_getElem? (i := 1379) (by decide +kernel), List.mem_of_getElem? (i := 1380) (by decide +kernel)⟩
theorem lw_p61 : lw_okq (⟨"PaneSpotsModel", "takePart", "(I)V"⟩, 35) := ⟨⟨by decide +kernel, by decide +kernel⟩, List.mem_of_getElem? (i := 1151) (by decide +kernel), List.mem_of_getElem? (i := 1383) (by decide +kernel), List.mem_of_getElem? (i := 1384) (by decide +kernel)⟩
theorem lw_p62 : lw_okq (⟨"PaneSpotsModel", "factHere", "()I"⟩, 35) := ⟨⟨by decide +kernel, by decide +kernel⟩, List.mem_of_getElem? (i := 1151) (by decide +kernel), List.mem_of_getElem? (i := 1387) (by decide +kernel), List.mem_of_getElem? (i := 1388) (by decide +kernel)⟩
theorem lw_p63 : lw_okq (⟨"PaneSpotsModel", "isSign", "(I)Z"⟩, 35) := ⟨⟨by decide +kernel, by decide +kernel⟩, List.mem_of_getElem? (i := 1151) (by decide +kernel), List.mem_of_getElem? (i := 1391) (by decide +kernel), List.mem_of_getElem? (i := 1392) (by decide +kernel)⟩
def lw_privs_4 : List (MethodName × Nat) := [(⟨"PaneSpotsModel", "readGuild", "()V"⟩, 35), (⟨"PaneSpotsModel", "isName", "()Z"⟩, 35), (⟨"PaneSpotsModel", "find", "()I"⟩, 35), (⟨"PaneSpotsModel", "takeAfter", "(III)I"⟩, 35), (⟨"PaneSpotsModel", "takeWord", "(I)V"⟩, 35), (⟨"PaneSpotsModel", "hasWord", "(I)Z"⟩, 35), (⟨"PaneSpotsModel", "readPane", "()V"⟩, 35), (⟨"PaneSpotsModel", "readCloud", "()V"⟩, 35), (⟨"PaneSpotsModel", "readLaw", "()V"⟩, 35), (⟨"PaneSpotsModel", "all", "(I)V"⟩, 35), (⟨"PaneSpotsModel", "test", "(I)V"⟩, 35), (⟨"PaneSpotsModel", "sums", "(I)V"⟩, 35), (⟨"PaneSpotsModel", "products", "(I)V"⟩, 35), (⟨"PaneSpotsModel", "takePart", "(I)V"⟩, 35), (⟨"PaneSpotsModel", "factHere", "()I"⟩, 35), (⟨"PaneSpotsModel", "isSign", "(I)Z"⟩, 35)]
theorem lw_r4 : ∀ q ∈ lw_privs_4, lw_okq q := List.forall_mem_cons.mpr ⟨lw_p48, List.forall_mem_cons.mpr ⟨lw_p49, List.forall_mem_cons.mpr ⟨lw_p50, List.forall_mem_cons.mpr ⟨lw_p51, List.forall_mem_cons.mpr ⟨lw_p52, List.forall_mem_cons.mpr ⟨lw_p53, List.forall_mem_cons.mpr ⟨lw_p54, List.forall_mem_cons.mpr ⟨lw_p55, List.forall_mem_cons.mpr ⟨lw_p56, List.forall_mem_cons.mpr ⟨lw_p57, List.forall_mem_cons.mpr ⟨lw_p58, List.forall_mem_cons.mpr ⟨lw_p59, List.forall_mem_cons.mpr ⟨lw_p60, List.forall_mem_cons.mpr ⟨lw_p61, List.forall_mem_cons.mpr ⟨lw_p62, List.forall_mem_cons.mpr ⟨lw_p63, fun _ h => absurd h List.not_mem_nil⟩⟩⟩⟩⟩⟩⟩⟩⟩⟩⟩⟩⟩⟩⟩⟩
theorem lw_p64 : lw_okq (⟨"PaneSpotsModel", "emit", "(II)V"⟩, 35) := ⟨⟨by decide +kernel, by decide +kernel⟩, List.mem_of_getElem? (i := 1151) (by decide +kernel), List.mem_of_getElem? (i := 1395) (by decide +kernel), List.mem_of_getElem? (i := 1396) (by decide +kernel)⟩
theorem lw_p65 : lw_okq (⟨"PaneSpotsModel", "hasSign", "(I)Z"⟩, 35) := ⟨⟨by decide +kernel, by decide +kernel⟩, List.mem_of_getElem? (i := 1151) (by decide +kernel), List.mem_of_getElem? (i := 1399) (by decide +kernel), List.mem_of_getElem? (i := 1400) (by decide +kernel)⟩
theorem lw_p66 : lw_okq (⟨"PaneSpotsModel", "takeSign", "(I)V"⟩, 35) := ⟨⟨by decide +kernel, by decide +kernel⟩, List.mem_of_getElem? (i := 1151) (by decide +kernel), List.mem_of_getElem? (i := 1403) (by decide +kernel), List.mem_of_getElem? (i := 1404) (by decide +kernel)⟩
theorem lw_p67 : lw_okq (⟨"PaneSpotsModel", "isGuild", "(I)Z"⟩, 35) := ⟨⟨by decide +kernel, by decide +kernel⟩, List.mem_of_getElem? (i := 1151) (by decide +kernel), List.mem_of_getElem? (i := 1411) (by decide +kernel), List.mem_of_getElem? (i := 1412) (by decide +kernel)⟩
theorem lw_p68 : lw_okq (⟨"PaneSpotsModel", "guilds", "()I"⟩, 35) := ⟨⟨by decide +kernel, by decide +kernel⟩, List.mem_of_getElem? (i := 1151) (by decide +kernel), List.mem_of_getElem? (i := 1415) (by decide +kernel), List.mem_of_getElem? (i := 1416) (by decide +kernel)⟩
theorem lw_p69 : lw_okq (⟨"PaneSpotsModel", "panes", "()I"⟩, 35) := ⟨⟨by decide +kernel, by decide +kernel⟩, List.mem_of_getElem? (i := 1151) (by decide +kernel), List.mem_of_getElem? (i := 1422) (by decide +kernel), List.mem_of_getElem? (i := 1423) (by decide +kernel)⟩
theorem lw_p70 : lw_okq (⟨"PaneSpotsModel", "ownerOf", "(I)I"⟩, 35) := ⟨⟨by decide +kernel, by decide +kernel⟩, List.mem_of_getElem? (i := 1151) (by decide +kernel), List.mem_of_getElem? (i := 1426) (by decide +kernel), List.mem_of_getElem? (i := 1427) (by decide +kernel)⟩
theorem lw_p71 : lw_okq (⟨"PaneSpotsModel", "isPane", "(I)Z"⟩, 35) := ⟨⟨by decide +kernel, by decide +kernel⟩, List.mem_of_getElem? (i := 1151) (by decide +kernel), List.mem_of_getElem? (i := 1434) (by decide +kernel), List.mem_of_getElem? (i := 1435) (by decide +kernel)⟩
theorem lw_p72 : lw_okq (⟨"PaneSpotsModel", "isBroken", "(I)Z"⟩, 35) := ⟨⟨by decide +kernel, by decide +kernel⟩, List.mem_of_getElem? (i := 1151) (by decide +kernel), List.mem_of_getElem? (i := 1438) (by decide +kernel), List.mem_of_getElem? (i := 1439) (by decide +kernel)⟩
theorem lw_p73 : lw_okq (⟨"PaneSpotsModel", "paneOf", "(II)I"⟩, 35) := ⟨⟨by decide +kernel, by decide +kernel⟩, List.mem_of_getElem? (i := 1151) (by decide +kernel), List.mem_of_getElem? (i := 1442) (by decide +kernel), List.mem_of_getElem? (i := 1443) (by decide +kernel)⟩
theorem lw_p74 : lw_okq (⟨"PaneSpotsModel", "findLight", "(II)V"⟩, 35) := ⟨⟨by decide +kernel, by decide +kernel⟩, List.mem_of_getElem? (i := 1151) (by decide +kernel), List.mem_of_getElem? (i := 1453) (by decide +kernel), List.mem_of_getElem? (i := 1454) (by decide +kernel)⟩
theorem lw_p75 : lw_okq (⟨"PaneSpotsModel", "isDark", "(II)Z"⟩, 35) := ⟨⟨by decide +kernel, by decide +kernel⟩, List.mem_of_getElem? (i := 1151) (by decide +kernel), List.mem_of_getElem? (i := 1457) (by decide +kernel), List.mem_of_getElem? (i := 1458) (by decide +kernel)⟩
theorem lw_p76 : lw_okq (⟨"PaneSpotsModel", "worthAt", "(I)I"⟩, 35) := ⟨⟨by decide +kernel, by decide +kernel⟩, List.mem_of_getElem? (i := 1151) (by decide +kernel), List.mem_of_getElem? (i := 1461) (by decide +kernel), List.mem_of_getElem? (i := 1462) (by decide +kernel)⟩
theorem lw_p77 : lw_okq (⟨"PaneSpotsModel", "isOn", "(II)Z"⟩, 35) := ⟨⟨by decide +kernel, by decide +kernel⟩, List.mem_of_getElem? (i := 1151) (by decide +kernel), List.mem_of_getElem? (i := 1468) (by decide +kernel), List.mem_of_getElem? (i := 1469) (by decide +kernel)⟩
theorem lw_p78 : lw_okq (⟨"PaneSpotsModel", "lightAt", "(II)I"⟩, 35) := ⟨⟨by decide +kernel, by decide +kernel⟩, List.mem_of_getElem? (i := 1151) (by decide +kernel), List.mem_of_getElem? (i := 1476) (by decide +kernel), List.mem_of_getElem? (i := 1477) (by decide +kernel)⟩
theorem lw_p79 : lw_okq (⟨"PaneSpotsModel", "findYields", "()V"⟩, 35) := ⟨⟨by decide +kernel, by decide +kernel⟩, List.mem_of_getElem? (i := 1151) (by decide +kernel), List.mem_of_getElem? (i := 1484) (by decide +kernel), List.mem_of_getElem? (i := 1485) (by decide +kernel)⟩
def lw_privs_5 : List (MethodName × Nat) := [(⟨"PaneSpotsModel", "emit", "(II)V"⟩, 35), (⟨"PaneSpotsModel", "hasSign", "(I)Z"⟩, 35), (⟨"PaneSpotsModel", "takeSign", "(I)V"⟩, 35), (⟨"PaneSpotsModel", "isGuild", "(I)Z"⟩, 35), (⟨"PaneSpotsModel", "guilds", "()I"⟩, 35), (⟨"PaneSpotsModel", "panes", "()I"⟩, 35), (⟨"PaneSpotsModel", "ownerOf", "(I)I"⟩, 35), (⟨"PaneSpotsModel", "isPane", "(I)Z"⟩, 35), (⟨"PaneSpotsModel", "isBroken", "(I)Z"⟩, 35), (⟨"PaneSpotsModel", "paneOf", "(II)I"⟩, 35), (⟨"PaneSpotsModel", "findLight", "(II)V"⟩, 35), (⟨"PaneSpotsModel", "isDark", "(II)Z"⟩, 35), (⟨"PaneSpotsModel", "worthAt", "(I)I"⟩, 35), (⟨"PaneSpotsModel", "isOn", "(II)Z"⟩, 35), (⟨"PaneSpotsModel", "lightAt", "(II)I"⟩, 35), (⟨"PaneSpotsModel", "findYields", "()V"⟩, 35)]
theorem lw_r5 : ∀ q ∈ lw_privs_5, lw_okq q := List.forall_mem_cons.mpr ⟨lw_p64, List.forall_mem_cons.mpr ⟨lw_p65, List.forall_mem_cons.mpr ⟨lw_p66, List.forall_mem_cons.mpr ⟨lw_p67, List.forall_mem_cons.mpr ⟨lw_p68, List.forall_mem_cons.mpr ⟨lw_p69, List.forall_mem_cons.mpr ⟨lw_p70, List.forall_mem_cons.mpr ⟨lw_p71, List.forall_mem_cons.mpr ⟨lw_p72, List.forall_mem_cons.mpr ⟨lw_p73, List.forall_mem_cons.mpr ⟨lw_p74, List.forall_mem_cons.mpr ⟨lw_p75, List.forall_mem_cons.mpr ⟨lw_p76, List.forall_mem_cons.mpr ⟨lw_p77, List.forall_mem_cons.mpr ⟨lw_p78, List.forall_mem_cons.mpr ⟨lw_p79, fun _ h => absurd h List.not_mem_nil⟩⟩⟩⟩⟩⟩⟩⟩⟩⟩⟩⟩⟩⟩⟩⟩
theorem lw_p80 : lw_okq (⟨"PaneSpotsModel", "addsYields", "(II)V"⟩, 35) := ⟨⟨by decide +kernel, by decide +kernel⟩, List.mem_of_getElem? (i := 1151) (by decide +kernel), List.mem_of_getElem? (i := 1488) (by decide +kernel), List.mem_of_getElem? (i := 1489) (by decide +kernel)⟩
theorem lw_p81 : lw_okq (⟨"PaneSpotsModel", "rentAt", "(IIII)I"⟩, 35) := ⟨⟨by decide +kernel, by decide +kernel⟩, List.mem_of_getElem? (i := 1151) (by decide +kernel), List.mem_of_getElem? (i := 1492) (by decide +kernel), List.mem_of_getElem? (i := 1493) (by decide +kernel)⟩
theorem lw_p82 : lw_okq (⟨"PaneSpotsModel", "rentsOf", "(I)I"⟩, 35) := ⟨⟨by decide +kernel, by decide +kernel⟩, List.mem_of_getElem? (i := 1151) (by decide +kernel), List.mem_of_getElem? (i := 1500) (by decide +kernel), List.mem_of_getElem? (i := 1501) (by decide +kernel)⟩
theorem lw_p83 : lw_okq (⟨"PaneSpotsModel", "worthOf", "(II)I"⟩, 35) := ⟨⟨by decide +kernel, by decide +kernel⟩, List.mem_of_getElem? (i := 1151) (by decide +kernel), List.mem_of_getElem? (i := 1508) (by decide +kernel), List.mem_of_getElem? (i := 1509) (by decide +kernel)⟩
theorem lw_p84 : lw_okq (⟨"PaneSpotsModel", "areUnlike", "(II)Z"⟩, 35) := ⟨⟨by decide +kernel, by decide +kernel⟩, List.mem_of_getElem? (i := 1151) (by decide +kernel), List.mem_of_getElem? (i := 1519) (by decide +kernel), List.mem_of_getElem? (i := 1520) (by decide +kernel)⟩
theorem lw_p85 : lw_okq (⟨"PaneSpotsModel", "gainOf", "(II)I"⟩, 35) := ⟨⟨by decide +kernel, by decide +kernel⟩, List.mem_of_getElem? (i := 1151) (by decide +kernel), List.mem_of_getElem? (i := 1523) (by decide +kernel), List.mem_of_getElem? (i := 1524) (by decide +kernel)⟩
theorem lw_p86 : lw_okq (⟨"PaneSpotsModel", "tries", "(II)V"⟩, 35) := ⟨⟨by decide +kernel, by decide +kernel⟩, List.mem_of_getElem? (i := 1151) (by decide +kernel), List.mem_of_getElem? (i := 1531) (by decide +kernel), List.mem_of_getElem? (i := 1532) (by decide +kernel)⟩
theorem lw_p87 : lw_okq (⟨"PaneSpotsModel", "keeps", "()V"⟩, 35) := ⟨⟨by decide +kernel, by decide +kernel⟩, List.mem_of_getElem? (i := 1151) (by decide +kernel), List.mem_of_getElem? (i := 1539) (by decide +kernel), List.mem_of_getElem? (i := 1540) (by decide +kernel)⟩
theorem lw_p88 : lw_okq (⟨"PaneSpotsModel", "copies", "(III)V"⟩, 35) := ⟨⟨by decide +kernel, by decide +kernel⟩, List.mem_of_getElem? (i := 1151) (by decide +kernel), List.mem_of_getElem? (i := 1543) (by decide +kernel), List.mem_of_getElem? (i := 1544) (by decide +kernel)⟩
theorem lw_p89 : lw_okq (⟨"PaneSpotsModel", "findFalls", "()V"⟩, 35) := ⟨⟨by decide +kernel, by decide +kernel⟩, List.mem_of_getElem? (i := 1151) (by decide +kernel), List.mem_of_getElem? (i := 1555) (by decide +kernel), List.mem_of_getElem? (i := 1556) (by decide +kernel)⟩
theorem lw_p90 : lw_okq (⟨"PaneSpotsModel", "findMay", "(IIII)V"⟩, 35) := ⟨⟨by decide +kernel, by decide +kernel⟩, List.mem_of_getElem? (i := 1151) (by decide +kernel), List.mem_of_getElem? (i := 1571) (by decide +kernel), List.mem_of_getElem? (i := 1572) (by decide +kernel)⟩
theorem lw_p91 : lw_okq (⟨"PaneSpotsModel", "isPlace", "(I)Z"⟩, 35) := ⟨⟨by decide +kernel, by decide +kernel⟩, List.mem_of_getElem? (i := 1151) (by decide +kernel), List.mem_of_getElem? (i := 1575) (by decide +kernel), List.mem_of_getElem? (i := 1576) (by decide +kernel)⟩
theorem lw_p92 : lw_okq (⟨"PaneSpotsModel", "leastFrom", "(II)I"⟩, 35) := ⟨⟨by decide +kernel, by decide +kernel⟩, List.mem_of_getElem? (i := 1151) (by decide +kernel), List.mem_of_getElem? (i := 1580) (by decide +kernel), List.mem_of_getElem? (i := 1581) (by decide +kernel)⟩
theorem lw_p93 : lw_okq (⟨"PaneSpotsModel", "seens", "()I"⟩, 35) := ⟨⟨by decide +kernel, by decide +kernel⟩, List.mem_of_getElem? (i := 1151) (by decide +kernel), List.mem_of_getElem? (i := 1591) (by decide +kernel), List.mem_of_getElem? (i := 1592) (by decide +kernel)⟩
theorem lw_p94 : lw_okq (⟨"PaneSpotsModel", "candlesAt", "(II)I"⟩, 35) := ⟨⟨by decide +kernel, by decide +kernel⟩, List.mem_of_getElem? (i := 1151) (by decide +kernel), List.mem_of_getElem? (i := 1603) (by decide +kernel), List.mem_of_getElem? (i := 1604) (by decide +kernel)⟩
theorem lw_p95 : lw_okq (⟨"PaneSpotsModel", "canStain", "(IIII)Z"⟩, 35) := ⟨⟨by decide +kernel, by decide +kernel⟩, List.mem_of_getElem? (i := 1151) (by decide +kernel), List.mem_of_getElem? (i := 1615) (by decide +kernel), List.mem_of_getElem? (i := 1616) (by decide +kernel)⟩
def lw_privs_6 : List (MethodName × Nat) := [(⟨"PaneSpotsModel", "addsYields", "(II)V"⟩, 35), (⟨"PaneSpotsModel", "rentAt", "(IIII)I"⟩, 35), (⟨"PaneSpotsModel", "rentsOf", "(I)I"⟩, 35), (⟨"PaneSpotsModel", "worthOf", "(II)I"⟩, 35), (⟨"PaneSpotsModel", "areUnlike", "(II)Z"⟩, 35), (⟨"PaneSpotsModel", "gainOf", "(II)I"⟩, 35), (⟨"PaneSpotsModel", "tries", "(II)V"⟩, 35), (⟨"PaneSpotsModel", "keeps", "()V"⟩, 35), (⟨"PaneSpotsModel", "copies", "(III)V"⟩, 35), (⟨"PaneSpotsModel", "findFalls", "()V"⟩, 35), (⟨"PaneSpotsModel", "findMay", "(IIII)V"⟩, 35), (⟨"PaneSpotsModel", "isPlace", "(I)Z"⟩, 35), (⟨"PaneSpotsModel", "leastFrom", "(II)I"⟩, 35), (⟨"PaneSpotsModel", "seens", "()I"⟩, 35), (⟨"PaneSpotsModel", "candlesAt", "(II)I"⟩, 35), (⟨"PaneSpotsModel", "canStain", "(IIII)Z"⟩, 35)]
theorem lw_r6 : ∀ q ∈ lw_privs_6, lw_okq q := List.forall_mem_cons.mpr ⟨lw_p80, List.forall_mem_cons.mpr ⟨lw_p81, List.forall_mem_cons.mpr ⟨lw_p82, List.forall_mem_cons.mpr ⟨lw_p83, List.forall_mem_cons.mpr ⟨lw_p84, List.forall_mem_cons.mpr ⟨lw_p85, List.forall_mem_cons.mpr ⟨lw_p86, List.forall_mem_cons.mpr ⟨lw_p87, List.forall_mem_cons.mpr ⟨lw_p88, List.forall_mem_cons.mpr ⟨lw_p89, List.forall_mem_cons.mpr ⟨lw_p90, List.forall_mem_cons.mpr ⟨lw_p91, List.forall_mem_cons.mpr ⟨lw_p92, List.forall_mem_cons.mpr ⟨lw_p93, List.forall_mem_cons.mpr ⟨lw_p94, List.forall_mem_cons.mpr ⟨lw_p95, fun _ h => absurd h List.not_mem_nil⟩⟩⟩⟩⟩⟩⟩⟩⟩⟩⟩⟩⟩⟩⟩⟩
theorem lw_p96 : lw_okq (⟨"PaneSpotsModel", "findStains", "(IIII)I"⟩, 35) := ⟨⟨by decide +kernel, by decide +kernel⟩, List.mem_of_getElem? (i := 1151) (by decide +kernel), List.mem_of_getElem? (i := 1619) (by decide +kernel), List.mem_of_getElem? (i := 1620) (by decide +kernel)⟩
theorem lw_p97 : lw_okq (⟨"PaneSpotsModel", "near", "([III)I"⟩, 35) := ⟨⟨by decide +kernel, by decide +kernel⟩, List.mem_of_getElem? (i := 1151) (by decide +kernel), List.mem_of_getElem? (i := 1623) (by decide +kernel), List.mem_of_getElem? (i := 1624) (by decide +kernel)⟩
theorem lw_p98 : lw_okq (⟨"PaneSpotsModel", "draw", "(I)I"⟩, 35) := ⟨⟨by decide +kernel, by decide +kernel⟩, List.mem_of_getElem? (i := 1151) (by decide +kernel), List.mem_of_getElem? (i := 1635) (by decide +kernel), List.mem_of_getElem? (i := 1636) (by decide +kernel)⟩
def lw_privs_7 : List (MethodName × Nat) := [(⟨"PaneSpotsModel", "findStains", "(IIII)I"⟩, 35), (⟨"PaneSpotsModel", "near", "([III)I"⟩, 35), (⟨"PaneSpotsModel", "draw", "(I)I"⟩, 35)]
theorem lw_r7 : ∀ q ∈ lw_privs_7, lw_okq q := List.forall_mem_cons.mpr ⟨lw_p96, List.forall_mem_cons.mpr ⟨lw_p97, List.forall_mem_cons.mpr ⟨lw_p98, fun _ h => absurd h List.not_mem_nil⟩⟩⟩
def lw_privs : List (MethodName × Nat) := lw_privs_1 ++ (lw_privs_2 ++ (lw_privs_3 ++ (lw_privs_4 ++ (lw_privs_5 ++ (lw_privs_6 ++ (lw_privs_7))))))
def lw_tbl : List Cond := k2_sels lw_privs ++ tables_1
theorem lw_privs_ok : ∀ q ∈ lw_privs, lw_okq q := by
  show ∀ q ∈ lw_privs_1 ++ (lw_privs_2 ++ (lw_privs_3 ++ (lw_privs_4 ++ (lw_privs_5 ++ (lw_privs_6 ++ (lw_privs_7)))))), lw_okq q
  exact List.forall_mem_append.mpr ⟨lw_r1, List.forall_mem_append.mpr ⟨lw_r2, List.forall_mem_append.mpr ⟨lw_r3, List.forall_mem_append.mpr ⟨lw_r4, List.forall_mem_append.mpr ⟨lw_r5, List.forall_mem_append.mpr ⟨lw_r6, lw_r7⟩⟩⟩⟩⟩⟩
def RX0 : String := "PaneSpots$Chapel"
def TX0 : u_T := fun k => match k with
  | 0 => ("PaneSpots$Chapel", "wide", "I", false)
  | 1 => ("PaneSpots$Chapel", "deep", "I", false)
  | 2 => ("PaneSpots$Chapel", "cloud", "I", false)
  | 3 => ("PaneSpots$Chapel", "guilds", "I", false)
  | 4 => ("PaneSpots$Chapel", "panes", "I", false)
  | 5 => ("PaneSpots$Chapel", "name", "[J", true)
  | 6 => ("PaneSpots$Chapel", "likes", "[I", true)
  | 7 => ("PaneSpots$Chapel", "owes", "[I", true)
  | 8 => ("PaneSpots$Chapel", "column", "[I", true)
  | 9 => ("PaneSpots$Chapel", "row", "[I", true)
  | 10 => ("PaneSpots$Chapel", "giver", "[I", true)
  | 11 => ("PaneSpots$Chapel", "colour", "[I", true)
  | _ => ("PaneSpots$Chapel", "laws", "LPaneSpots$Laws;", true)
def tyX0 : Nat → FieldType := fun k => match k with
  | 0 => .int
  | 1 => .int
  | 2 => .int
  | 3 => .int
  | 4 => .int
  | 5 => .array .long
  | 6 => .array .int
  | 7 => .array .int
  | 8 => .array .int
  | 9 => .array .int
  | 10 => .array .int
  | 11 => .array .int
  | _ => .object "PaneSpots$Laws"
theorem nmX0 : ∀ a, a < 13 → ∀ b, b < 13 → a ≠ b → (TX0 a).2.1 ≠ (TX0 b).2.1 := by decide +kernel
theorem tyX0_ok : ∀ k, k < 13 → parseFieldDescriptor (TX0 k).2.2.1 = some (tyX0 k) := by decide +kernel
abbrev cX0_init : ByteArray := prog_2_method_1_code
def yX0_init : MethodName := ⟨RX0, "<init>", "()V"⟩
abbrev cX0_begin : ByteArray := prog_2_method_2_code
def yX0_begin : MethodName := ⟨RX0, "begin", "()V"⟩
abbrev cX0_guildNamed : ByteArray := prog_2_method_3_code
def yX0_guildNamed : MethodName := ⟨RX0, "guildNamed", "(J)I"⟩
abbrev cX0_hasPaneAt : ByteArray := prog_2_method_4_code
def yX0_hasPaneAt : MethodName := ⟨RX0, "hasPaneAt", "(II)Z"⟩
abbrev cX0_hasPlace : ByteArray := prog_2_method_5_code
def yX0_hasPlace : MethodName := ⟨RX0, "hasPlace", "(II)Z"⟩
abbrev cX0_colourOf : ByteArray := prog_2_method_6_code
def yX0_colourOf : MethodName := ⟨RX0, "colourOf", "(I)I"⟩
def RX1 : String := "PaneSpots$History"
def TX1 : u_T := fun k => match k with
  | 0 => ("PaneSpots$History", "pane", "[I", true)
  | 1 => ("PaneSpots$History", "other", "[I", true)
  | 2 => ("PaneSpots$History", "size", "I", false)
  | _ => ("PaneSpots$History", "next", "I", false)
def tyX1 : Nat → FieldType := fun k => match k with
  | 0 => .array .int
  | 1 => .array .int
  | 2 => .int
  | _ => .int
theorem nmX1 : ∀ a, a < 4 → ∀ b, b < 4 → a ≠ b → (TX1 a).2.1 ≠ (TX1 b).2.1 := by decide +kernel
theorem tyX1_ok : ∀ k, k < 4 → parseFieldDescriptor (TX1 k).2.2.1 = some (tyX1 k) := by decide +kernel
abbrev cX1_init : ByteArray := prog_3_method_1_code
def yX1_init : MethodName := ⟨RX1, "<init>", "()V"⟩
abbrev cX1_forget : ByteArray := prog_3_method_2_code
def yX1_forget : MethodName := ⟨RX1, "forget", "()V"⟩
abbrev cX1_note : ByteArray := prog_3_method_3_code
def yX1_note : MethodName := ⟨RX1, "note", "(II)V"⟩
abbrev cX1_takeBack : ByteArray := prog_3_method_4_code
def yX1_takeBack : MethodName := ⟨RX1, "takeBack", "(LPaneSpots$Hold;)Z"⟩
def RX2 : String := "PaneSpots$Hold"
def TX2 : u_T := fun k => match k with
  | 0 => ("PaneSpots$Hold", "guildOf", "[I", true)
  | 1 => ("PaneSpots$Hold", "broken", "I", false)
  | 2 => ("PaneSpots$Hold", "seen", "I", false)
  | 3 => ("PaneSpots$Hold", "seenPlace", "[I", true)
  | 4 => ("PaneSpots$Hold", "seenColour", "[I", true)
  | _ => ("PaneSpots$Hold", "panes", "I", false)
def tyX2 : Nat → FieldType := fun k => match k with
  | 0 => .array .int
  | 1 => .int
  | 2 => .int
  | 3 => .array .int
  | 4 => .array .int
  | _ => .int
theorem nmX2 : ∀ a, a < 6 → ∀ b, b < 6 → a ≠ b → (TX2 a).2.1 ≠ (TX2 b).2.1 := by decide +kernel
theorem tyX2_ok : ∀ k, k < 6 → parseFieldDescriptor (TX2 k).2.2.1 = some (tyX2 k) := by decide +kernel
abbrev cX2_init : ByteArray := prog_4_method_1_code
def yX2_init : MethodName := ⟨RX2, "<init>", "()V"⟩
abbrev cX2_begin : ByteArray := prog_4_method_2_code
def yX2_begin : MethodName := ⟨RX2, "begin", "(LPaneSpots$Chapel;)V"⟩
abbrev cX2_copy : ByteArray := prog_4_method_3_code
def yX2_copy : MethodName := ⟨RX2, "copy", "(LPaneSpots$Hold;)V"⟩
abbrev cX2_isBroken : ByteArray := prog_4_method_4_code
def yX2_isBroken : MethodName := ⟨RX2, "isBroken", "(I)Z"⟩
abbrev cX2_lit : ByteArray := prog_4_method_5_code
def yX2_lit : MethodName := ⟨RX2, "lit", "()I"⟩
abbrev cX2_panesOf : ByteArray := prog_4_method_6_code
def yX2_panesOf : MethodName := ⟨RX2, "panesOf", "(I)I"⟩
abbrev cX2_ownersOf : ByteArray := prog_4_method_7_code
def yX2_ownersOf : MethodName := ⟨RX2, "ownersOf", "(I)I"⟩
abbrev cX2_keepSeen : ByteArray := prog_4_method_8_code
def yX2_keepSeen : MethodName := ⟨RX2, "keepSeen", "(II)I"⟩
abbrev cX2_swap : ByteArray := prog_4_method_9_code
def yX2_swap : MethodName := ⟨RX2, "swap", "(II)V"⟩
abbrev cX2_turn : ByteArray := prog_4_method_10_code
def yX2_turn : MethodName := ⟨RX2, "turn", "(I)V"⟩
def RX3 : String := "PaneSpots$Laws"
def TX3 : u_T := fun k => match k with
  | 0 => ("PaneSpots$Laws", "code", "[I", true)
  | 1 => ("PaneSpots$Laws", "size", "I", false)
  | 2 => ("PaneSpots$Laws", "from", "[I", true)
  | 3 => ("PaneSpots$Laws", "to", "[I", true)
  | 4 => ("PaneSpots$Laws", "stack", "[I", true)
  | _ => ("PaneSpots$Laws", "facts", "[I", true)
def tyX3 : Nat → FieldType := fun k => match k with
  | 0 => .array .int
  | 1 => .int
  | 2 => .array .int
  | 3 => .array .int
  | 4 => .array .int
  | _ => .array .int
theorem nmX3 : ∀ a, a < 6 → ∀ b, b < 6 → a ≠ b → (TX3 a).2.1 ≠ (TX3 b).2.1 := by decide +kernel
theorem tyX3_ok : ∀ k, k < 6 → parseFieldDescriptor (TX3 k).2.2.1 = some (tyX3 k) := by decide +kernel
abbrev cX3_init : ByteArray := prog_5_method_1_code
def yX3_init : MethodName := ⟨RX3, "<init>", "()V"⟩
abbrev cX3_begin : ByteArray := prog_5_method_2_code
def yX3_begin : MethodName := ⟨RX3, "begin", "()V"⟩
abbrev cX3_open : ByteArray := prog_5_method_3_code
def yX3_open : MethodName := ⟨RX3, "open", "(I)V"⟩
abbrev cX3_close : ByteArray := prog_5_method_4_code
def yX3_close : MethodName := ⟨RX3, "close", "(I)V"⟩
abbrev cX3_add : ByteArray := prog_5_method_5_code
def yX3_add : MethodName := ⟨RX3, "add", "(I)V"⟩
abbrev cX3_turnTo : ByteArray := prog_5_method_6_code
def yX3_turnTo : MethodName := ⟨RX3, "turnTo", "(I)V"⟩
abbrev cX3_lookAtPane : ByteArray := prog_5_method_7_code
def yX3_lookAtPane : MethodName := ⟨RX3, "lookAtPane", "(II)V"⟩
abbrev cX3_lookAtSpot : ByteArray := prog_5_method_8_code
def yX3_lookAtSpot : MethodName := ⟨RX3, "lookAtSpot", "(II)V"⟩
abbrev cX3_valueOf : ByteArray := prog_5_method_9_code
def yX3_valueOf : MethodName := ⟨RX3, "valueOf", "(I)I"⟩
abbrev cX3_valueUntold : ByteArray := prog_5_method_10_code
def yX3_valueUntold : MethodName := ⟨RX3, "valueUntold", "(I)I"⟩
abbrev cX3_joined : ByteArray := prog_5_method_11_code
def yX3_joined : MethodName := ⟨RX3, "joined", "(III)I"⟩
abbrev cX3_isLaw : ByteArray := prog_5_method_12_code
def yX3_isLaw : MethodName := ⟨RX3, "isLaw", "(I)Z"⟩
abbrev cX3_isFact : ByteArray := prog_5_method_13_code
def yX3_isFact : MethodName := ⟨RX3, "isFact", "(I)Z"⟩
def RX4 : String := "PaneSpots$Light"
def TX4 : u_T := fun k => match k with
  | 0 => ("PaneSpots$Light", "chapel", "LPaneSpots$Chapel;", false)
  | 1 => ("PaneSpots$Light", "spots", "[I", true)
  | 2 => ("PaneSpots$Light", "year", "[J", true)
  | _ => ("PaneSpots$Light", "turned", "I", false)
def tyX4 : Nat → FieldType := fun k => match k with
  | 0 => .object "PaneSpots$Chapel"
  | 1 => .array .int
  | 2 => .array .long
  | _ => .int
theorem nmX4 : ∀ a, a < 4 → ∀ b, b < 4 → a ≠ b → (TX4 a).2.1 ≠ (TX4 b).2.1 := by decide +kernel
theorem tyX4_ok : ∀ k, k < 4 → parseFieldDescriptor (TX4 k).2.2.1 = some (tyX4 k) := by decide +kernel
abbrev cX4_init : ByteArray := prog_6_method_1_code
def yX4_init : MethodName := ⟨RX4, "<init>", "()V"⟩
abbrev cX4_enter : ByteArray := prog_6_method_2_code
def yX4_enter : MethodName := ⟨RX4, "enter", "(LPaneSpots$Chapel;)LPaneSpots$Chapel;"⟩
abbrev cX4_turnTo : ByteArray := prog_6_method_3_code
def yX4_turnTo : MethodName := ⟨RX4, "turnTo", "(I)V"⟩
abbrev cX4_shine : ByteArray := prog_6_method_4_code
def yX4_shine : MethodName := ⟨RX4, "shine", "(I)V"⟩
abbrev cX4_panesOn : ByteArray := prog_6_method_5_code
def yX4_panesOn : MethodName := ⟨RX4, "panesOn", "(II)I"⟩
abbrev cX4_colourOn : ByteArray := prog_6_method_6_code
def yX4_colourOn : MethodName := ⟨RX4, "colourOn", "(II)I"⟩
abbrev cX4_placesOf : ByteArray := prog_6_method_7_code
def yX4_placesOf : MethodName := ⟨RX4, "placesOf", "(I)J"⟩
def RX5 : String := "PaneSpots$Reader"
def TX5 : u_T := fun k => match k with
  | 0 => ("PaneSpots$Reader", "tape", "LPaneSpots$Tape;", true)
  | 1 => ("PaneSpots$Reader", "draft", "LPaneSpots$Chapel;", false)
  | 2 => ("PaneSpots$Reader", "told", "I", false)
  | 3 => ("PaneSpots$Reader", "taken", "I", false)
  | _ => ("PaneSpots$Reader", "law", "I", false)
def tyX5 : Nat → FieldType := fun k => match k with
  | 0 => .object "PaneSpots$Tape"
  | 1 => .object "PaneSpots$Chapel"
  | 2 => .int
  | 3 => .int
  | _ => .int
theorem nmX5 : ∀ a, a < 5 → ∀ b, b < 5 → a ≠ b → (TX5 a).2.1 ≠ (TX5 b).2.1 := by decide +kernel
theorem tyX5_ok : ∀ k, k < 5 → parseFieldDescriptor (TX5 k).2.2.1 = some (tyX5 k) := by decide +kernel
abbrev cX5_init : ByteArray := prog_7_method_1_code
def yX5_init : MethodName := ⟨RX5, "<init>", "()V"⟩
abbrev cX5_readAll : ByteArray := prog_7_method_2_code
def yX5_readAll : MethodName := ⟨RX5, "readAll", "()I"⟩
abbrev cX5_readLine : ByteArray := prog_7_method_3_code
def yX5_readLine : MethodName := ⟨RX5, "readLine", "()I"⟩
abbrev cX5_readFloor : ByteArray := prog_7_method_4_code
def yX5_readFloor : MethodName := ⟨RX5, "readFloor", "()I"⟩
abbrev cX5_readGuild : ByteArray := prog_7_method_5_code
def yX5_readGuild : MethodName := ⟨RX5, "readGuild", "()I"⟩
abbrev cX5_takeNewName : ByteArray := prog_7_method_6_code
def yX5_takeNewName : MethodName := ⟨RX5, "takeNewName", "(I)I"⟩
abbrev cX5_readPane : ByteArray := prog_7_method_7_code
def yX5_readPane : MethodName := ⟨RX5, "readPane", "()I"⟩
abbrev cX5_isRowOfPane : ByteArray := prog_7_method_8_code
def yX5_isRowOfPane : MethodName := ⟨RX5, "isRowOfPane", "(I)Z"⟩
abbrev cX5_takeGiver : ByteArray := prog_7_method_9_code
def yX5_takeGiver : MethodName := ⟨RX5, "takeGiver", "(I)I"⟩
abbrev cX5_readCloud : ByteArray := prog_7_method_10_code
def yX5_readCloud : MethodName := ⟨RX5, "readCloud", "()I"⟩
abbrev cX5_readLaw : ByteArray := prog_7_method_11_code
def yX5_readLaw : MethodName := ⟨RX5, "readLaw", "()I"⟩
abbrev cX5_readE : ByteArray := prog_7_method_12_code
def yX5_readE : MethodName := ⟨RX5, "readE", "(I)I"⟩
abbrev cX5_readTest : ByteArray := prog_7_method_13_code
def yX5_readTest : MethodName := ⟨RX5, "readTest", "(I)I"⟩
abbrev cX5_readSum : ByteArray := prog_7_method_14_code
def yX5_readSum : MethodName := ⟨RX5, "readSum", "(I)I"⟩
abbrev cX5_readProduct : ByteArray := prog_7_method_15_code
def yX5_readProduct : MethodName := ⟨RX5, "readProduct", "(I)I"⟩
abbrev cX5_readPart : ByteArray := prog_7_method_16_code
def yX5_readPart : MethodName := ⟨RX5, "readPart", "(I)I"⟩
abbrev cX5_startsPart : ByteArray := prog_7_method_17_code
def yX5_startsPart : MethodName := ⟨RX5, "startsPart", "()Z"⟩
abbrev cX5_isFactOf : ByteArray := prog_7_method_18_code
def yX5_isFactOf : MethodName := ⟨RX5, "isFactOf", "(II)Z"⟩
abbrev cX5_takeOnce : ByteArray := prog_7_method_19_code
def yX5_takeOnce : MethodName := ⟨RX5, "takeOnce", "()I"⟩
abbrev cX5_take : ByteArray := prog_7_method_20_code
def yX5_take : MethodName := ⟨RX5, "take", "(I)I"⟩
abbrev cX5_takeNumber : ByteArray := prog_7_method_21_code
def yX5_takeNumber : MethodName := ⟨RX5, "takeNumber", "(II)I"⟩
def RX6 : String := "PaneSpots$Rents"
def TX6 : u_T := fun k => match k with
  | 0 => ("PaneSpots$Rents", "gives", "[I", true)
  | 1 => ("PaneSpots$Rents", "litIn", "[I", true)
  | 2 => ("PaneSpots$Rents", "kept", "I", false)
  | 3 => ("PaneSpots$Rents", "oldest", "I", false)
  | _ => ("PaneSpots$Rents", "round", "[I", true)
def tyX6 : Nat → FieldType := fun k => match k with
  | 0 => .array .int
  | 1 => .array .int
  | 2 => .int
  | 3 => .int
  | _ => .array .int
theorem nmX6 : ∀ a, a < 5 → ∀ b, b < 5 → a ≠ b → (TX6 a).2.1 ≠ (TX6 b).2.1 := by decide +kernel
theorem tyX6_ok : ∀ k, k < 5 → parseFieldDescriptor (TX6 k).2.2.1 = some (tyX6 k) := by decide +kernel
abbrev cX6_init : ByteArray := prog_8_method_1_code
def yX6_init : MethodName := ⟨RX6, "<init>", "()V"⟩
abbrev cX6_forget : ByteArray := prog_8_method_2_code
def yX6_forget : MethodName := ⟨RX6, "forget", "()V"⟩
abbrev cX6_given : ByteArray := prog_8_method_3_code
def yX6_given : MethodName := ⟨RX6, "given", "(II)I"⟩
abbrev cX6_givenBy : ByteArray := prog_8_method_4_code
def yX6_givenBy : MethodName := ⟨RX6, "givenBy", "(II)I"⟩
abbrev cX6_worthTo : ByteArray := prog_8_method_5_code
def yX6_worthTo : MethodName := ⟨RX6, "worthTo", "(LPaneSpots$Chapel;III)I"⟩
abbrev cX6_gainOf : ByteArray := prog_8_method_6_code
def yX6_gainOf : MethodName := ⟨RX6, "gainOf", "(LPaneSpots$Chapel;LPaneSpots$Hold;III)I"⟩
abbrev cX6_yearOf : ByteArray := prog_8_method_7_code
def yX6_yearOf : MethodName := ⟨RX6, "yearOf", "(LPaneSpots$Light;I)I"⟩
abbrev cX6_cloudedYear : ByteArray := prog_8_method_8_code
def yX6_cloudedYear : MethodName := ⟨RX6, "cloudedYear", "(LPaneSpots$Light;II)I"⟩
abbrev cX6_measure : ByteArray := prog_8_method_9_code
def yX6_measure : MethodName := ⟨RX6, "measure", "(LPaneSpots$Light;IIII)V"⟩
abbrev cX6_shareOut : ByteArray := prog_8_method_10_code
def yX6_shareOut : MethodName := ⟨RX6, "shareOut", "(LPaneSpots$Light;II)V"⟩
abbrev cX6_partOf : ByteArray := prog_8_method_11_code
def yX6_partOf : MethodName := ⟨RX6, "partOf", "(LPaneSpots$Laws;II)I"⟩
abbrev cX6_fall : ByteArray := prog_8_method_12_code
def yX6_fall : MethodName := ⟨RX6, "fall", "(LPaneSpots$Light;LPaneSpots$Hold;)V"⟩
def RX7 : String := "PaneSpots$Tape"
def TX7 : u_T := fun k => match k with
  | 0 => ("PaneSpots$Tape", "signs", "[B", true)
  | 1 => ("PaneSpots$Tape", "size", "I", false)
  | 2 => ("PaneSpots$Tape", "at", "I", false)
  | 3 => ("PaneSpots$Tape", "start", "I", false)
  | 4 => ("PaneSpots$Tape", "kind", "I", false)
  | 5 => ("PaneSpots$Tape", "number", "I", false)
  | _ => ("PaneSpots$Tape", "word", "J", false)
def tyX7 : Nat → FieldType := fun k => match k with
  | 0 => .array .byte
  | 1 => .int
  | 2 => .int
  | 3 => .int
  | 4 => .int
  | 5 => .int
  | _ => .long
theorem nmX7 : ∀ a, a < 7 → ∀ b, b < 7 → a ≠ b → (TX7 a).2.1 ≠ (TX7 b).2.1 := by decide +kernel
theorem tyX7_ok : ∀ k, k < 7 → parseFieldDescriptor (TX7 k).2.2.1 = some (tyX7 k) := by decide +kernel
abbrev cX7_init : ByteArray := prog_9_method_1_code
def yX7_init : MethodName := ⟨RX7, "<init>", "()V"⟩
abbrev cX7_add : ByteArray := prog_9_method_2_code
def yX7_add : MethodName := ⟨RX7, "add", "(J)V"⟩
abbrev cX7_rewind : ByteArray := prog_9_method_3_code
def yX7_rewind : MethodName := ⟨RX7, "rewind", "()V"⟩
abbrev cX7_next : ByteArray := prog_9_method_4_code
def yX7_next : MethodName := ⟨RX7, "next", "()V"⟩
abbrev cX7_isName : ByteArray := prog_9_method_5_code
def yX7_isName : MethodName := ⟨RX7, "isName", "()Z"⟩
abbrev cX7_isFact : ByteArray := prog_9_method_6_code
def yX7_isFact : MethodName := ⟨RX7, "isFact", "()Z"⟩
abbrev cX7_takeLetters : ByteArray := prog_9_method_7_code
def yX7_takeLetters : MethodName := ⟨RX7, "takeLetters", "()V"⟩
abbrev cX7_takeDigits : ByteArray := prog_9_method_8_code
def yX7_takeDigits : MethodName := ⟨RX7, "takeDigits", "()V"⟩
abbrev cX7_kindOfWord : ByteArray := prog_9_method_9_code
def yX7_kindOfWord : MethodName := ⟨RX7, "kindOfWord", "()I"⟩
abbrev cX7_isFed : ByteArray := prog_9_method_10_code
def yX7_isFed : MethodName := ⟨RX7, "isFed", "(I)Z"⟩
abbrev cX7_isBlank : ByteArray := prog_9_method_11_code
def yX7_isBlank : MethodName := ⟨RX7, "isBlank", "(I)Z"⟩
abbrev cX7_isLetter : ByteArray := prog_9_method_12_code
def yX7_isLetter : MethodName := ⟨RX7, "isLetter", "(I)Z"⟩
abbrev cX7_isDigit : ByteArray := prog_9_method_13_code
def yX7_isDigit : MethodName := ⟨RX7, "isDigit", "(I)Z"⟩
def RX8 : String := "PaneSpots$Trade"
def TX8 : u_T := fun k => match k with
  | 0 => ("PaneSpots$Trade", "gain", "[I", true)
  | 1 => ("PaneSpots$Trade", "most", "[I", true)
  | 2 => ("PaneSpots$Trade", "other", "[I", true)
  | _ => ("PaneSpots$Trade", "together", "I", false)
def tyX8 : Nat → FieldType := fun k => match k with
  | 0 => .array .int
  | 1 => .array .int
  | 2 => .array .int
  | _ => .int
theorem nmX8 : ∀ a, a < 4 → ∀ b, b < 4 → a ≠ b → (TX8 a).2.1 ≠ (TX8 b).2.1 := by decide +kernel
theorem tyX8_ok : ∀ k, k < 4 → parseFieldDescriptor (TX8 k).2.2.1 = some (tyX8 k) := by decide +kernel
abbrev cX8_init : ByteArray := prog_10_method_1_code
def yX8_init : MethodName := ⟨RX8, "<init>", "()V"⟩
abbrev cX8_settle : ByteArray := prog_10_method_2_code
def yX8_settle : MethodName := ⟨RX8, "settle", "(LPaneSpots$Chapel;LPaneSpots$Hold;LPaneSpots$Rents;I)V"⟩
abbrev cX8_mostWith : ByteArray := prog_10_method_3_code
def yX8_mostWith : MethodName := ⟨RX8, "mostWith", "(II)I"⟩
abbrev cX8_choose : ByteArray := prog_10_method_4_code
def yX8_choose : MethodName := ⟨RX8, "choose", "(I)V"⟩
abbrev cX8_leastPartner : ByteArray := prog_10_method_5_code
def yX8_leastPartner : MethodName := ⟨RX8, "leastPartner", "(IIII)I"⟩
def RX9 : String := "PaneSpots$Walk"
def TX9 : u_T := fun k => match k with
  | 0 => ("PaneSpots$Walk", "before", "[I", true)
  | 1 => ("PaneSpots$Walk", "behind", "[I", true)
  | _ => ("PaneSpots$Walk", "spare", "[I", true)
def tyX9 : Nat → FieldType := fun k => match k with
  | 0 => .array .int
  | 1 => .array .int
  | _ => .array .int
theorem nmX9 : ∀ a, a < 3 → ∀ b, b < 3 → a ≠ b → (TX9 a).2.1 ≠ (TX9 b).2.1 := by decide +kernel
theorem tyX9_ok : ∀ k, k < 3 → parseFieldDescriptor (TX9 k).2.2.1 = some (tyX9 k) := by decide +kernel
abbrev cX9_init : ByteArray := prog_11_method_1_code
def yX9_init : MethodName := ⟨RX9, "<init>", "()V"⟩
abbrev cX9_rowsOf : ByteArray := prog_11_method_2_code
def yX9_rowsOf : MethodName := ⟨RX9, "rowsOf", "(LPaneSpots$Light;IIII)I"⟩
abbrev cX9_meet : ByteArray := prog_11_method_3_code
def yX9_meet : MethodName := ⟨RX9, "meet", "(LPaneSpots$Light;IIIII)V"⟩
abbrev cX9_passes : ByteArray := prog_11_method_4_code
def yX9_passes : MethodName := ⟨RX9, "passes", "(I)Z"⟩
abbrev cX9_go : ByteArray := prog_11_method_5_code
def yX9_go : MethodName := ⟨RX9, "go", "(LPaneSpots$Light;IIIII[I)V"⟩
abbrev cX9_keepColoured : ByteArray := prog_11_method_6_code
def yX9_keepColoured : MethodName := ⟨RX9, "keepColoured", "(LPaneSpots$Light;IIII[I)V"⟩
abbrev cX9_waysAround : ByteArray := prog_11_method_7_code
def yX9_waysAround : MethodName := ⟨RX9, "waysAround", "([II)I"⟩
def RX10 : String := "PaneSpots$Way"
def TX10 : u_T := fun k => match k with
  | 0 => ("PaneSpots$Way", "stands", "[J", true)
  | 1 => ("PaneSpots$Way", "ahead", "[I", true)
  | 2 => ("PaneSpots$Way", "places", "[I", true)
  | _ => ("PaneSpots$Way", "steps", "I", false)
def tyX10 : Nat → FieldType := fun k => match k with
  | 0 => .array .long
  | 1 => .array .int
  | 2 => .array .int
  | _ => .int
theorem nmX10 : ∀ a, a < 4 → ∀ b, b < 4 → a ≠ b → (TX10 a).2.1 ≠ (TX10 b).2.1 := by decide +kernel
theorem tyX10_ok : ∀ k, k < 4 → parseFieldDescriptor (TX10 k).2.2.1 = some (tyX10 k) := by decide +kernel
abbrev cX10_init : ByteArray := prog_12_method_1_code
def yX10_init : MethodName := ⟨RX10, "<init>", "()V"⟩
abbrev cX10_find : ByteArray := prog_12_method_2_code
def yX10_find : MethodName := ⟨RX10, "find", "(LPaneSpots$Light;III)V"⟩
abbrev cX10_lookAhead : ByteArray := prog_12_method_3_code
def yX10_lookAhead : MethodName := ⟨RX10, "lookAhead", "(IIJ)V"⟩
abbrev cX10_floorOf : ByteArray := prog_12_method_4_code
def yX10_floorOf : MethodName := ⟨RX10, "floorOf", "(LPaneSpots$Chapel;)J"⟩
abbrev cX10_nextFrom : ByteArray := prog_12_method_5_code
def yX10_nextFrom : MethodName := ⟨RX10, "nextFrom", "(II)I"⟩
abbrev cX10_stepsOver : ByteArray := prog_12_method_6_code
def yX10_stepsOver : MethodName := ⟨RX10, "stepsOver", "(III)I"⟩
def RX11 : String := "PaneSpots"
def TX11 : u_T := fun k => match k with
  | 0 => ("PaneSpots", "reader", "LPaneSpots$Reader;", true)
  | 1 => ("PaneSpots", "light", "LPaneSpots$Light;", true)
  | 2 => ("PaneSpots", "hold", "LPaneSpots$Hold;", true)
  | 3 => ("PaneSpots", "history", "LPaneSpots$History;", true)
  | 4 => ("PaneSpots", "rents", "LPaneSpots$Rents;", true)
  | 5 => ("PaneSpots", "trade", "LPaneSpots$Trade;", true)
  | 6 => ("PaneSpots", "way", "LPaneSpots$Way;", true)
  | 7 => ("PaneSpots", "walk", "LPaneSpots$Walk;", true)
  | 8 => ("PaneSpots", "marks", "[LPaneSpots$Hold;", true)
  | _ => ("PaneSpots", "laid", "I", false)
def tyX11 : Nat → FieldType := fun k => match k with
  | 0 => .object "PaneSpots$Reader"
  | 1 => .object "PaneSpots$Light"
  | 2 => .object "PaneSpots$Hold"
  | 3 => .object "PaneSpots$History"
  | 4 => .object "PaneSpots$Rents"
  | 5 => .object "PaneSpots$Trade"
  | 6 => .object "PaneSpots$Way"
  | 7 => .object "PaneSpots$Walk"
  | 8 => .array (.object "PaneSpots$Hold")
  | _ => .int
theorem nmX11 : ∀ a, a < 10 → ∀ b, b < 10 → a ≠ b → (TX11 a).2.1 ≠ (TX11 b).2.1 := by decide +kernel
theorem tyX11_ok : ∀ k, k < 10 → parseFieldDescriptor (TX11 k).2.2.1 = some (tyX11 k) := by decide +kernel
abbrev cX11_init : ByteArray := prog_1_method_1_code
def yX11_init : MethodName := ⟨RX11, "<init>", "()V"⟩
abbrev cX11_feed : ByteArray := prog_1_method_2_code
def yX11_feed : MethodName := ⟨RX11, "feed", "(JJJ)I"⟩
abbrev cX11_chapel : ByteArray := prog_1_method_3_code
def yX11_chapel : MethodName := ⟨RX11, "chapel", "()I"⟩
abbrev cX11_guild : ByteArray := prog_1_method_4_code
def yX11_guild : MethodName := ⟨RX11, "guild", "(II)I"⟩
abbrev cX11_pane : ByteArray := prog_1_method_5_code
def yX11_pane : MethodName := ⟨RX11, "pane", "(II)I"⟩
abbrev cX11_spot : ByteArray := prog_1_method_6_code
def yX11_spot : MethodName := ⟨RX11, "spot", "(III)I"⟩
abbrev cX11_place : ByteArray := prog_1_method_7_code
def yX11_place : MethodName := ⟨RX11, "place", "(IIIII)I"⟩
abbrev cX11_yields : ByteArray := prog_1_method_8_code
def yX11_yields : MethodName := ⟨RX11, "yields", "(I)I"⟩
abbrev cX11_rents : ByteArray := prog_1_method_9_code
def yX11_rents : MethodName := ⟨RX11, "rents", "(I)I"⟩
abbrev cX11_worth : ByteArray := prog_1_method_10_code
def yX11_worth : MethodName := ⟨RX11, "worth", "(II)I"⟩
abbrev cX11_gain : ByteArray := prog_1_method_11_code
def yX11_gain : MethodName := ⟨RX11, "gain", "(II)I"⟩
abbrev cX11_best : ByteArray := prog_1_method_12_code
def yX11_best : MethodName := ⟨RX11, "best", "(I)I"⟩
abbrev cX11_exchange : ByteArray := prog_1_method_13_code
def yX11_exchange : MethodName := ⟨RX11, "exchange", "(II)Z"⟩
abbrev cX11_breaks : ByteArray := prog_1_method_14_code
def yX11_breaks : MethodName := ⟨RX11, "breaks", "(IZ)Z"⟩
abbrev cX11_fallen : ByteArray := prog_1_method_15_code
def yX11_fallen : MethodName := ⟨RX11, "fallen", "()I"⟩
abbrev cX11_falls : ByteArray := prog_1_method_16_code
def yX11_falls : MethodName := ⟨RX11, "falls", "(I)I"⟩
abbrev cX11_undo : ByteArray := prog_1_method_17_code
def yX11_undo : MethodName := ⟨RX11, "undo", "()Z"⟩
abbrev cX11_stall : ByteArray := prog_1_method_18_code
def yX11_stall : MethodName := ⟨RX11, "stall", "(IIIII)I"⟩
abbrev cX11_see : ByteArray := prog_1_method_19_code
def yX11_see : MethodName := ⟨RX11, "see", "(III)I"⟩
abbrev cX11_candles : ByteArray := prog_1_method_20_code
def yX11_candles : MethodName := ⟨RX11, "candles", "(II)I"⟩
abbrev cX11_when : ByteArray := prog_1_method_21_code
def yX11_when : MethodName := ⟨RX11, "when", "(I)I"⟩
abbrev cX11_clear : ByteArray := prog_1_method_22_code
def yX11_clear : MethodName := ⟨RX11, "clear", "()Z"⟩
abbrev cX11_stains : ByteArray := prog_1_method_23_code
def yX11_stains : MethodName := ⟨RX11, "stains", "(IIII)I"⟩
abbrev cX11_stood : ByteArray := prog_1_method_24_code
def yX11_stood : MethodName := ⟨RX11, "stood", "(IIIIIZ)I"⟩
abbrev cX11_clouded : ByteArray := prog_1_method_25_code
def yX11_clouded : MethodName := ⟨RX11, "clouded", "(II)I"⟩
abbrev cX11_mark : ByteArray := prog_1_method_26_code
def yX11_mark : MethodName := ⟨RX11, "mark", "(IZ)Z"⟩
abbrev cX11_count : ByteArray := prog_1_method_27_code
def yX11_count : MethodName := ⟨RX11, "count", "(I)I"⟩
abbrev cX11_isGuild : ByteArray := prog_1_method_28_code
def yX11_isGuild : MethodName := ⟨RX11, "isGuild", "(I)Z"⟩
abbrev cX11_isPane : ByteArray := prog_1_method_29_code
def yX11_isPane : MethodName := ⟨RX11, "isPane", "(I)Z"⟩
abbrev cX11_canExchange : ByteArray := prog_1_method_30_code
def yX11_canExchange : MethodName := ⟨RX11, "canExchange", "(II)Z"⟩
abbrev cX11_isStained : ByteArray := prog_1_method_31_code
def yX11_isStained : MethodName := ⟨RX11, "isStained", "(IIII)Z"⟩
abbrev cX11_isTime : ByteArray := prog_1_method_32_code
def yX11_isTime : MethodName := ⟨RX11, "isTime", "(II)Z"⟩
abbrev cX11_timeOf : ByteArray := prog_1_method_33_code
def yX11_timeOf : MethodName := ⟨RX11, "timeOf", "(II)I"⟩
abbrev cX11_placeOf : ByteArray := prog_1_method_34_code
def yX11_placeOf : MethodName := ⟨RX11, "placeOf", "(II)I"⟩
abbrev cX11_stepsBetween : ByteArray := prog_1_method_35_code
def yX11_stepsBetween : MethodName := ⟨RX11, "stepsBetween", "(II)I"⟩
abbrev cX11_yearNow : ByteArray := prog_1_method_36_code
def yX11_yearNow : MethodName := ⟨RX11, "yearNow", "()I"⟩
abbrev cX11_candlesAt : ByteArray := prog_1_method_37_code
def yX11_candlesAt : MethodName := ⟨RX11, "candlesAt", "(I)I"⟩
abbrev cX11_ownersOnSome : ByteArray := prog_1_method_38_code
def yX11_ownersOnSome : MethodName := ⟨RX11, "ownersOnSome", "()I"⟩
abbrev cX11_ownersOnAll : ByteArray := prog_1_method_39_code
def yX11_ownersOnAll : MethodName := ⟨RX11, "ownersOnAll", "()I"⟩
def RX12 : String := "PaneSpotsModel"
def TX12 : u_T := fun k => match k with
  | 0 => ("PaneSpotsModel", "thrown", "I", false)
  | 1 => ("PaneSpotsModel", "tape", "[I", true)
  | 2 => ("PaneSpotsModel", "taped", "I", false)
  | 3 => ("PaneSpotsModel", "size", "I", false)
  | 4 => ("PaneSpotsModel", "sort", "[I", true)
  | 5 => ("PaneSpotsModel", "place", "[I", true)
  | 6 => ("PaneSpotsModel", "value", "[J", true)
  | 7 => ("PaneSpotsModel", "at", "I", false)
  | 8 => ("PaneSpotsModel", "fault", "I", false)
  | 9 => ("PaneSpotsModel", "words", "[J", true)
  | 10 => ("PaneSpotsModel", "chapels", "[I", true)
  | 11 => ("PaneSpotsModel", "op", "[I", true)
  | 12 => ("PaneSpotsModel", "arg", "[I", true)
  | 13 => ("PaneSpotsModel", "codes", "I", false)
  | 14 => ("PaneSpotsModel", "names", "[J", true)
  | 15 => ("PaneSpotsModel", "hasFloor", "Z", false)
  | 16 => ("PaneSpotsModel", "hasCloud", "Z", false)
  | 17 => ("PaneSpotsModel", "reading", "I", false)
  | 18 => ("PaneSpotsModel", "facts", "[I", true)
  | 19 => ("PaneSpotsModel", "pile", "[I", true)
  | 20 => ("PaneSpotsModel", "state", "[I", true)
  | 21 => ("PaneSpotsModel", "undos", "I", false)
  | 22 => ("PaneSpotsModel", "isMarked", "[Z", true)
  | 23 => ("PaneSpotsModel", "darkGuilds", "I", false)
  | 24 => ("PaneSpotsModel", "spotOf", "[I", true)
  | 25 => ("PaneSpotsModel", "yieldOf", "[I", true)
  | 26 => ("PaneSpotsModel", "row", "[I", true)
  | 27 => ("PaneSpotsModel", "bestRow", "[I", true)
  | 28 => ("PaneSpotsModel", "bestGain", "I", false)
  | 29 => ("PaneSpotsModel", "fallAt", "[I", true)
  | 30 => ("PaneSpotsModel", "rest", "[I", true)
  | 31 => ("PaneSpotsModel", "ahead", "[I", true)
  | 32 => ("PaneSpotsModel", "behind", "[I", true)
  | 33 => ("PaneSpotsModel", "ownersAt", "[I", true)
  | _ => ("PaneSpotsModel", "g", "J", false)
def tyX12 : Nat → FieldType := fun k => match k with
  | 0 => .int
  | 1 => .array .int
  | 2 => .int
  | 3 => .int
  | 4 => .array .int
  | 5 => .array .int
  | 6 => .array .long
  | 7 => .int
  | 8 => .int
  | 9 => .array .long
  | 10 => .array .int
  | 11 => .array .int
  | 12 => .array .int
  | 13 => .int
  | 14 => .array .long
  | 15 => .boolean
  | 16 => .boolean
  | 17 => .int
  | 18 => .array .int
  | 19 => .array .int
  | 20 => .array .int
  | 21 => .int
  | 22 => .array .boolean
  | 23 => .int
  | 24 => .array .int
  | 25 => .array .int
  | 26 => .array .int
  | 27 => .array .int
  | 28 => .int
  | 29 => .array .int
  | 30 => .array .int
  | 31 => .array .int
  | 32 => .array .int
  | 33 => .array .int
  | _ => .long
theorem nmX12 : ∀ a, a < 35 → ∀ b, b < 35 → a ≠ b → (TX12 a).2.1 ≠ (TX12 b).2.1 := by decide +kernel
theorem tyX12_ok : ∀ k, k < 35 → parseFieldDescriptor (TX12 k).2.2.1 = some (tyX12 k) := by decide +kernel
abbrev cX12_thrown : ByteArray := prog_14_method_1_code
def yX12_thrown : MethodName := ⟨RX12, "thrown", "()I"⟩
abbrev cX12_feed : ByteArray := prog_14_method_2_code
def yX12_feed : MethodName := ⟨RX12, "feed", "(JJJ)I"⟩
abbrev cX12_lay : ByteArray := prog_14_method_3_code
def yX12_lay : MethodName := ⟨RX12, "lay", "(J)V"⟩
abbrev cX12_init : ByteArray := prog_14_method_4_code
def yX12_init : MethodName := ⟨RX12, "<init>", "()V"⟩
abbrev cX12_isLetter : ByteArray := prog_14_method_5_code
def yX12_isLetter : MethodName := ⟨RX12, "isLetter", "(I)Z"⟩
abbrev cX12_isDigit : ByteArray := prog_14_method_6_code
def yX12_isDigit : MethodName := ⟨RX12, "isDigit", "(I)Z"⟩
abbrev cX12_rank : ByteArray := prog_14_method_7_code
def yX12_rank : MethodName := ⟨RX12, "rank", "(I)I"⟩
abbrev cX12_isSignOf : ByteArray := prog_14_method_8_code
def yX12_isSignOf : MethodName := ⟨RX12, "isSignOf", "(I)Z"⟩
abbrev cX12_cutAll : ByteArray := prog_14_method_9_code
def yX12_cutAll : MethodName := ⟨RX12, "cutAll", "()V"⟩
abbrev cX12_wrong : ByteArray := prog_14_method_10_code
def yX12_wrong : MethodName := ⟨RX12, "wrong", "(I)V"⟩
abbrev cX12_isSign : ByteArray := prog_14_method_11_code
def yX12_isSign : MethodName := ⟨RX12, "isSign", "(I)Z"⟩
abbrev cX12_isWord : ByteArray := prog_14_method_12_code
def yX12_isWord : MethodName := ⟨RX12, "isWord", "(I)Z"⟩
abbrev cX12_takeSign : ByteArray := prog_14_method_13_code
def yX12_takeSign : MethodName := ⟨RX12, "takeSign", "(I)V"⟩
abbrev cX12_hasSign : ByteArray := prog_14_method_14_code
def yX12_hasSign : MethodName := ⟨RX12, "hasSign", "(I)Z"⟩
abbrev cX12_hasWord : ByteArray := prog_14_method_15_code
def yX12_hasWord : MethodName := ⟨RX12, "hasWord", "(I)Z"⟩
abbrev cX12_takeWord : ByteArray := prog_14_method_16_code
def yX12_takeWord : MethodName := ⟨RX12, "takeWord", "(I)V"⟩
abbrev cX12_within : ByteArray := prog_14_method_17_code
def yX12_within : MethodName := ⟨RX12, "within", "(III)Z"⟩
abbrev cX12_takeNumber : ByteArray := prog_14_method_18_code
def yX12_takeNumber : MethodName := ⟨RX12, "takeNumber", "(II)I"⟩
abbrev cX12_takeAfter : ByteArray := prog_14_method_19_code
def yX12_takeAfter : MethodName := ⟨RX12, "takeAfter", "(III)I"⟩
abbrev cX12_isName : ByteArray := prog_14_method_20_code
def yX12_isName : MethodName := ⟨RX12, "isName", "()Z"⟩
abbrev cX12_find : ByteArray := prog_14_method_21_code
def yX12_find : MethodName := ⟨RX12, "find", "()I"⟩
abbrev cX12_chapel : ByteArray := prog_14_method_22_code
def yX12_chapel : MethodName := ⟨RX12, "chapel", "()I"⟩
abbrev cX12_readLine : ByteArray := prog_14_method_23_code
def yX12_readLine : MethodName := ⟨RX12, "readLine", "()V"⟩
abbrev cX12_readFloor : ByteArray := prog_14_method_24_code
def yX12_readFloor : MethodName := ⟨RX12, "readFloor", "()V"⟩
abbrev cX12_readCloud : ByteArray := prog_14_method_25_code
def yX12_readCloud : MethodName := ⟨RX12, "readCloud", "()V"⟩
abbrev cX12_readGuild : ByteArray := prog_14_method_26_code
def yX12_readGuild : MethodName := ⟨RX12, "readGuild", "()V"⟩
abbrev cX12_readPane : ByteArray := prog_14_method_27_code
def yX12_readPane : MethodName := ⟨RX12, "readPane", "()V"⟩
abbrev cX12_readLaw : ByteArray := prog_14_method_28_code
def yX12_readLaw : MethodName := ⟨RX12, "readLaw", "()V"⟩
abbrev cX12_emit : ByteArray := prog_14_method_29_code
def yX12_emit : MethodName := ⟨RX12, "emit", "(II)V"⟩
abbrev cX12_all : ByteArray := prog_14_method_30_code
def yX12_all : MethodName := ⟨RX12, "all", "(I)V"⟩
abbrev cX12_test : ByteArray := prog_14_method_31_code
def yX12_test : MethodName := ⟨RX12, "test", "(I)V"⟩
abbrev cX12_sums : ByteArray := prog_14_method_32_code
def yX12_sums : MethodName := ⟨RX12, "sums", "(I)V"⟩
abbrev cX12_products : ByteArray := prog_14_method_33_code
def yX12_products : MethodName := ⟨RX12, "products", "(I)V"⟩
abbrev cX12_factHere : ByteArray := prog_14_method_34_code
def yX12_factHere : MethodName := ⟨RX12, "factHere", "()I"⟩
abbrev cX12_takePart : ByteArray := prog_14_method_35_code
def yX12_takePart : MethodName := ⟨RX12, "takePart", "(I)V"⟩
abbrev cX12_worthAt : ByteArray := prog_14_method_36_code
def yX12_worthAt : MethodName := ⟨RX12, "worthAt", "(I)I"⟩
abbrev cX12_both : ByteArray := prog_14_method_37_code
def yX12_both : MethodName := ⟨RX12, "both", "(III)I"⟩
abbrev cX12_copies : ByteArray := prog_14_method_38_code
def yX12_copies : MethodName := ⟨RX12, "copies", "(III)V"⟩
abbrev cX12_keeps : ByteArray := prog_14_method_39_code
def yX12_keeps : MethodName := ⟨RX12, "keeps", "()V"⟩
abbrev cX12_guilds : ByteArray := prog_14_method_40_code
def yX12_guilds : MethodName := ⟨RX12, "guilds", "()I"⟩
abbrev cX12_panes : ByteArray := prog_14_method_41_code
def yX12_panes : MethodName := ⟨RX12, "panes", "()I"⟩
abbrev cX12_isGuild : ByteArray := prog_14_method_42_code
def yX12_isGuild : MethodName := ⟨RX12, "isGuild", "(I)Z"⟩
abbrev cX12_isPane : ByteArray := prog_14_method_43_code
def yX12_isPane : MethodName := ⟨RX12, "isPane", "(I)Z"⟩
abbrev cX12_paneOf : ByteArray := prog_14_method_44_code
def yX12_paneOf : MethodName := ⟨RX12, "paneOf", "(II)I"⟩
abbrev cX12_ownerOf : ByteArray := prog_14_method_45_code
def yX12_ownerOf : MethodName := ⟨RX12, "ownerOf", "(I)I"⟩
abbrev cX12_isBroken : ByteArray := prog_14_method_46_code
def yX12_isBroken : MethodName := ⟨RX12, "isBroken", "(I)Z"⟩
abbrev cX12_isTime : ByteArray := prog_14_method_47_code
def yX12_isTime : MethodName := ⟨RX12, "isTime", "(II)Z"⟩
abbrev cX12_isOn : ByteArray := prog_14_method_48_code
def yX12_isOn : MethodName := ⟨RX12, "isOn", "(II)Z"⟩
abbrev cX12_isDark : ByteArray := prog_14_method_49_code
def yX12_isDark : MethodName := ⟨RX12, "isDark", "(II)Z"⟩
abbrev cX12_findLight : ByteArray := prog_14_method_50_code
def yX12_findLight : MethodName := ⟨RX12, "findLight", "(II)V"⟩
abbrev cX12_lightAt : ByteArray := prog_14_method_51_code
def yX12_lightAt : MethodName := ⟨RX12, "lightAt", "(II)I"⟩
abbrev cX12_rentAt : ByteArray := prog_14_method_52_code
def yX12_rentAt : MethodName := ⟨RX12, "rentAt", "(IIII)I"⟩
abbrev cX12_addsYields : ByteArray := prog_14_method_53_code
def yX12_addsYields : MethodName := ⟨RX12, "addsYields", "(II)V"⟩
abbrev cX12_findYields : ByteArray := prog_14_method_54_code
def yX12_findYields : MethodName := ⟨RX12, "findYields", "()V"⟩
abbrev cX12_rentsOf : ByteArray := prog_14_method_55_code
def yX12_rentsOf : MethodName := ⟨RX12, "rentsOf", "(I)I"⟩
abbrev cX12_guild : ByteArray := prog_14_method_56_code
def yX12_guild : MethodName := ⟨RX12, "guild", "(II)I"⟩
abbrev cX12_pane : ByteArray := prog_14_method_57_code
def yX12_pane : MethodName := ⟨RX12, "pane", "(II)I"⟩
abbrev cX12_spot : ByteArray := prog_14_method_58_code
def yX12_spot : MethodName := ⟨RX12, "spot", "(III)I"⟩
abbrev cX12_place : ByteArray := prog_14_method_59_code
def yX12_place : MethodName := ⟨RX12, "place", "(IIIII)I"⟩
abbrev cX12_yields : ByteArray := prog_14_method_60_code
def yX12_yields : MethodName := ⟨RX12, "yields", "(I)I"⟩
abbrev cX12_rents : ByteArray := prog_14_method_61_code
def yX12_rents : MethodName := ⟨RX12, "rents", "(I)I"⟩
abbrev cX12_bits : ByteArray := prog_14_method_62_code
def yX12_bits : MethodName := ⟨RX12, "bits", "(I)I"⟩
abbrev cX12_worthOf : ByteArray := prog_14_method_63_code
def yX12_worthOf : MethodName := ⟨RX12, "worthOf", "(II)I"⟩
abbrev cX12_worth : ByteArray := prog_14_method_64_code
def yX12_worth : MethodName := ⟨RX12, "worth", "(II)I"⟩
abbrev cX12_gainOf : ByteArray := prog_14_method_65_code
def yX12_gainOf : MethodName := ⟨RX12, "gainOf", "(II)I"⟩
abbrev cX12_areUnlike : ByteArray := prog_14_method_66_code
def yX12_areUnlike : MethodName := ⟨RX12, "areUnlike", "(II)Z"⟩
abbrev cX12_gain : ByteArray := prog_14_method_67_code
def yX12_gain : MethodName := ⟨RX12, "gain", "(II)I"⟩
abbrev cX12_tries : ByteArray := prog_14_method_68_code
def yX12_tries : MethodName := ⟨RX12, "tries", "(II)V"⟩
abbrev cX12_best : ByteArray := prog_14_method_69_code
def yX12_best : MethodName := ⟨RX12, "best", "(I)I"⟩
abbrev cX12_exchange : ByteArray := prog_14_method_70_code
def yX12_exchange : MethodName := ⟨RX12, "exchange", "(II)Z"⟩
abbrev cX12_breaks : ByteArray := prog_14_method_71_code
def yX12_breaks : MethodName := ⟨RX12, "breaks", "(IZ)Z"⟩
abbrev cX12_findFalls : ByteArray := prog_14_method_72_code
def yX12_findFalls : MethodName := ⟨RX12, "findFalls", "()V"⟩
abbrev cX12_fallen : ByteArray := prog_14_method_73_code
def yX12_fallen : MethodName := ⟨RX12, "fallen", "()I"⟩
abbrev cX12_falls : ByteArray := prog_14_method_74_code
def yX12_falls : MethodName := ⟨RX12, "falls", "(I)I"⟩
abbrev cX12_undo : ByteArray := prog_14_method_75_code
def yX12_undo : MethodName := ⟨RX12, "undo", "()Z"⟩
abbrev cX12_steps : ByteArray := prog_14_method_76_code
def yX12_steps : MethodName := ⟨RX12, "steps", "(II)I"⟩
abbrev cX12_isPlace : ByteArray := prog_14_method_77_code
def yX12_isPlace : MethodName := ⟨RX12, "isPlace", "(I)Z"⟩
abbrev cX12_findMay : ByteArray := prog_14_method_78_code
def yX12_findMay : MethodName := ⟨RX12, "findMay", "(IIII)V"⟩
abbrev cX12_leastFrom : ByteArray := prog_14_method_79_code
def yX12_leastFrom : MethodName := ⟨RX12, "leastFrom", "(II)I"⟩
abbrev cX12_stall : ByteArray := prog_14_method_80_code
def yX12_stall : MethodName := ⟨RX12, "stall", "(IIIII)I"⟩
abbrev cX12_seens : ByteArray := prog_14_method_81_code
def yX12_seens : MethodName := ⟨RX12, "seens", "()I"⟩
abbrev cX12_see : ByteArray := prog_14_method_82_code
def yX12_see : MethodName := ⟨RX12, "see", "(III)I"⟩
abbrev cX12_clear : ByteArray := prog_14_method_83_code
def yX12_clear : MethodName := ⟨RX12, "clear", "()Z"⟩
abbrev cX12_candlesAt : ByteArray := prog_14_method_84_code
def yX12_candlesAt : MethodName := ⟨RX12, "candlesAt", "(II)I"⟩
abbrev cX12_candles : ByteArray := prog_14_method_85_code
def yX12_candles : MethodName := ⟨RX12, "candles", "(II)I"⟩
abbrev cX12_when : ByteArray := prog_14_method_86_code
def yX12_when : MethodName := ⟨RX12, "when", "(I)I"⟩
abbrev cX12_canStain : ByteArray := prog_14_method_87_code
def yX12_canStain : MethodName := ⟨RX12, "canStain", "(IIII)Z"⟩
abbrev cX12_near : ByteArray := prog_14_method_88_code
def yX12_near : MethodName := ⟨RX12, "near", "([III)I"⟩
abbrev cX12_findStains : ByteArray := prog_14_method_89_code
def yX12_findStains : MethodName := ⟨RX12, "findStains", "(IIII)I"⟩
abbrev cX12_stains : ByteArray := prog_14_method_90_code
def yX12_stains : MethodName := ⟨RX12, "stains", "(IIII)I"⟩
abbrev cX12_stood : ByteArray := prog_14_method_91_code
def yX12_stood : MethodName := ⟨RX12, "stood", "(IIIIIZ)I"⟩
abbrev cX12_draw : ByteArray := prog_14_method_92_code
def yX12_draw : MethodName := ⟨RX12, "draw", "(I)I"⟩
abbrev cX12_clouded : ByteArray := prog_14_method_93_code
def yX12_clouded : MethodName := ⟨RX12, "clouded", "(II)I"⟩
abbrev cX12_mark : ByteArray := prog_14_method_94_code
def yX12_mark : MethodName := ⟨RX12, "mark", "(IZ)Z"⟩
abbrev cX12_count : ByteArray := prog_14_method_95_code
def yX12_count : MethodName := ⟨RX12, "count", "(I)I"⟩
def RJx145de : String := "java/io/Serializable"
def TJx145de : u_T := fun k => match k with
  | _ => ("", "", "", false)
def tyJx145de : Nat → FieldType := fun k => match k with
  | _ => .int
theorem tyJx145de_ok : ∀ k, k < 0 → parseFieldDescriptor (TJx145de k).2.2.1 = some (tyJx145de k) := by decide +kernel
def RJx9f9b0 : String := "java/lang/CharSequence"
def TJx9f9b0 : u_T := fun k => match k with
  | _ => ("", "", "", false)
def tyJx9f9b0 : Nat → FieldType := fun k => match k with
  | _ => .int
theorem tyJx9f9b0_ok : ∀ k, k < 0 → parseFieldDescriptor (TJx9f9b0 k).2.2.1 = some (tyJx9f9b0 k) := by decide +kernel
def RJ11 : String := "java/lang/Character"
def TJ11 : u_T := fun k => match k with
  | _ => ("", "", "", false)
def tyJ11 : Nat → FieldType := fun k => match k with
  | _ => .int
theorem tyJ11_ok : ∀ k, k < 0 → parseFieldDescriptor (TJ11 k).2.2.1 = some (tyJ11 k) := by decide +kernel
abbrev cJ11_isValidCodePoint_9a6ad : ByteArray := prog_17_method_11_code
def yJ11_isValidCodePoint_9a6ad : MethodName := ⟨RJ11, "isValidCodePoint", "(I)Z"⟩
abbrev cJ11_highSurrogate_5068e : ByteArray := prog_17_method_28_code
def yJ11_highSurrogate_5068e : MethodName := ⟨RJ11, "highSurrogate", "(I)C"⟩
abbrev cJ11_lowSurrogate_5068e : ByteArray := prog_17_method_29_code
def yJ11_lowSurrogate_5068e : MethodName := ⟨RJ11, "lowSurrogate", "(I)C"⟩
def RJxb160c : String := "java/lang/Comparable"
def TJxb160c : u_T := fun k => match k with
  | _ => ("", "", "", false)
def tyJxb160c : Nat → FieldType := fun k => match k with
  | _ => .int
theorem tyJxb160c_ok : ∀ k, k < 0 → parseFieldDescriptor (TJxb160c k).2.2.1 = some (tyJxb160c k) := by decide +kernel
def RJ6 : String := "java/lang/Integer"
def TJ6 : u_T := fun k => match k with
  | _ => ("", "", "", false)
def tyJ6 : Nat → FieldType := fun k => match k with
  | _ => .int
theorem tyJ6_ok : ∀ k, k < 0 → parseFieldDescriptor (TJ6 k).2.2.1 = some (tyJ6 k) := by decide +kernel
abbrev cJ6_bitCount_0f7a4 : ByteArray := prog_20_method_49_code
def yJ6_bitCount_0f7a4 : MethodName := ⟨RJ6, "bitCount", "(I)I"⟩
def RJ9 : String := "java/lang/Math"
def TJ9 : u_T := fun k => match k with
  | _ => ("", "", "", false)
def tyJ9 : Nat → FieldType := fun k => match k with
  | _ => .int
theorem tyJ9_ok : ∀ k, k < 0 → parseFieldDescriptor (TJ9 k).2.2.1 = some (tyJ9 k) := by decide +kernel
abbrev cJ9_abs_0f7a4 : ByteArray := prog_21_method_59_code
def yJ9_abs_0f7a4 : MethodName := ⟨RJ9, "abs", "(I)I"⟩
abbrev cJ9_max_7cf53 : ByteArray := prog_21_method_65_code
def yJ9_max_7cf53 : MethodName := ⟨RJ9, "max", "(II)I"⟩
abbrev cJ9_min_7cf53 : ByteArray := prog_21_method_69_code
def yJ9_min_7cf53 : MethodName := ⟨RJ9, "min", "(II)I"⟩
def RJ0 : String := "java/lang/String"
def TJ0 : u_T := fun k => match k with
  | _ => ("", "", "", false)
def tyJ0 : Nat → FieldType := fun k => match k with
  | _ => .int
theorem tyJ0_ok : ∀ k, k < 0 → parseFieldDescriptor (TJ0 k).2.2.1 = some (tyJ0 k) := by decide +kernel
abbrev cJ0_length_8abf5 : ByteArray := prog_23_method_54_code
def yJ0_length_8abf5 : MethodName := ⟨RJ0, "length", "()I"⟩
abbrev cJ0_charAt_5068e : ByteArray := prog_23_method_56_code
def yJ0_charAt_5068e : MethodName := ⟨RJ0, "charAt", "(I)C"⟩
abbrev cJ0_indexOf_0f7a4 : ByteArray := prog_23_method_79_code
def yJ0_indexOf_0f7a4 : MethodName := ⟨RJ0, "indexOf", "(I)I"⟩
abbrev cJ0_indexOf_7cf53 : ByteArray := prog_23_method_80_code
def yJ0_indexOf_7cf53 : MethodName := ⟨RJ0, "indexOf", "(II)I"⟩
abbrev cJ0_coder_7d493 : ByteArray := prog_23_method_152_code
def yJ0_coder_7d493 : MethodName := ⟨RJ0, "coder", "()B"⟩
abbrev cJ0_isLatin1_aae02 : ByteArray := prog_23_method_154_code
def yJ0_isLatin1_aae02 : MethodName := ⟨RJ0, "isLatin1", "()Z"⟩
abbrev cJ0_checkIndex_df160 : ByteArray := prog_23_method_155_code
def yJ0_checkIndex_df160 : MethodName := ⟨RJ0, "checkIndex", "(II)V"⟩
abbrev cJ0_checkBoundsBeginEnd_23922 : ByteArray := prog_23_method_158_code
def yJ0_checkBoundsBeginEnd_23922 : MethodName := ⟨RJ0, "checkBoundsBeginEnd", "(III)V"⟩
def RJ1 : String := "java/lang/StringLatin1"
def TJ1 : u_T := fun k => match k with
  | _ => ("", "", "", false)
def tyJ1 : Nat → FieldType := fun k => match k with
  | _ => .int
theorem tyJ1_ok : ∀ k, k < 0 → parseFieldDescriptor (TJ1 k).2.2.1 = some (tyJ1 k) := by decide +kernel
abbrev cJ1_charAt_3b067 : ByteArray := prog_24_method_2_code
def yJ1_charAt_3b067 : MethodName := ⟨RJ1, "charAt", "([BI)C"⟩
abbrev cJ1_canEncode_9a6ad : ByteArray := prog_24_method_4_code
def yJ1_canEncode_9a6ad : MethodName := ⟨RJ1, "canEncode", "(I)Z"⟩
abbrev cJ1_indexOf_4cfef : ByteArray := prog_24_method_22_code
def yJ1_indexOf_4cfef : MethodName := ⟨RJ1, "indexOf", "([BIII)I"⟩
abbrev cJ1_indexOfChar_4cfef : ByteArray := prog_24_method_23_code
def yJ1_indexOfChar_4cfef : MethodName := ⟨RJ1, "indexOfChar", "([BIII)I"⟩
def RJ2 : String := "java/lang/StringUTF16"
def TJ2 : u_T := fun k => match k with
  | _ => ("", "", "", false)
def tyJ2 : Nat → FieldType := fun k => match k with
  | _ => .int
theorem tyJ2_ok : ∀ k, k < 0 → parseFieldDescriptor (TJ2 k).2.2.1 = some (tyJ2 k) := by decide +kernel
abbrev cJ2_getChar_3b067 : ByteArray := prog_25_method_5_code
def yJ2_getChar_3b067 : MethodName := ⟨RJ2, "getChar", "([BI)C"⟩
abbrev cJ2_length_9d52b : ByteArray := prog_25_method_6_code
def yJ2_length_9d52b : MethodName := ⟨RJ2, "length", "([B)I"⟩
abbrev cJ2_indexOf_4cfef : ByteArray := prog_25_method_40_code
def yJ2_indexOf_4cfef : MethodName := ⟨RJ2, "indexOf", "([BIII)I"⟩
abbrev cJ2_indexOfChar_4cfef : ByteArray := prog_25_method_47_code
def yJ2_indexOfChar_4cfef : MethodName := ⟨RJ2, "indexOfChar", "([BIII)I"⟩
abbrev cJ2_indexOfCharUnsafe_4cfef : ByteArray := prog_25_method_48_code
def yJ2_indexOfCharUnsafe_4cfef : MethodName := ⟨RJ2, "indexOfCharUnsafe", "([BIII)I"⟩
abbrev cJ2_indexOfSupplementary_4cfef : ByteArray := prog_25_method_49_code
def yJ2_indexOfSupplementary_4cfef : MethodName := ⟨RJ2, "indexOfSupplementary", "([BIII)I"⟩
abbrev cJ2_charAt_3b067 : ByteArray := prog_25_method_83_code
def yJ2_charAt_3b067 : MethodName := ⟨RJ2, "charAt", "([BI)C"⟩
abbrev cJ2_checkIndex_2214a : ByteArray := prog_25_method_91_code
def yJ2_checkIndex_2214a : MethodName := ⟨RJ2, "checkIndex", "(I[B)V"⟩
abbrev cJ2_checkBoundsBeginEnd_d044e : ByteArray := prog_25_method_93_code
def yJ2_checkBoundsBeginEnd_d044e : MethodName := ⟨RJ2, "checkBoundsBeginEnd", "(II[B)V"⟩
def RJ10 : String := "java/lang/System"
def TJ10 : u_T := fun k => match k with
  | _ => ("", "", "", false)
def tyJ10 : Nat → FieldType := fun k => match k with
  | _ => .int
theorem tyJ10_ok : ∀ k, k < 0 → parseFieldDescriptor (TJ10 k).2.2.1 = some (tyJ10 k) := by decide +kernel
def RJxfd54e : String := "java/lang/constant/Constable"
def TJxfd54e : u_T := fun k => match k with
  | _ => ("", "", "", false)
def tyJxfd54e : Nat → FieldType := fun k => match k with
  | _ => .int
theorem tyJxfd54e_ok : ∀ k, k < 0 → parseFieldDescriptor (TJxfd54e k).2.2.1 = some (tyJxfd54e k) := by decide +kernel
def RJx3cf43 : String := "java/lang/constant/ConstantDesc"
def TJx3cf43 : u_T := fun k => match k with
  | _ => ("", "", "", false)
def tyJx3cf43 : Nat → FieldType := fun k => match k with
  | _ => .int
theorem tyJx3cf43_ok : ∀ k, k < 0 → parseFieldDescriptor (TJx3cf43 k).2.2.1 = some (tyJx3cf43 k) := by decide +kernel
def RJ7 : String := "java/util/Arrays"
def TJ7 : u_T := fun k => match k with
  | _ => ("", "", "", false)
def tyJ7 : Nat → FieldType := fun k => match k with
  | _ => .int
theorem tyJ7_ok : ∀ k, k < 0 → parseFieldDescriptor (TJ7 k).2.2.1 = some (tyJ7 k) := by decide +kernel
abbrev cJ7_fill_d0a16 : ByteArray := prog_30_method_101_code
def yJ7_fill_d0a16 : MethodName := ⟨RJ7, "fill", "([JJ)V"⟩
abbrev cJ7_fill_53178 : ByteArray := prog_30_method_103_code
def yJ7_fill_53178 : MethodName := ⟨RJ7, "fill", "([II)V"⟩
def RJ3 : String := "jdk/internal/util/Preconditions"
def TJ3 : u_T := fun k => match k with
  | _ => ("", "", "", false)
def tyJ3 : Nat → FieldType := fun k => match k with
  | _ => .int
theorem tyJ3_ok : ∀ k, k < 0 → parseFieldDescriptor (TJ3 k).2.2.1 = some (tyJ3 k) := by decide +kernel
abbrev cJ3_checkIndex_8e157 : ByteArray := prog_32_method_11_code
def yJ3_checkIndex_8e157 : MethodName := ⟨RJ3, "checkIndex", "(IILjava/util/function/BiFunction;)I"⟩
abbrev cJ3_checkFromToIndex_8c36e : ByteArray := prog_32_method_12_code
def yJ3_checkFromToIndex_8c36e : MethodName := ⟨RJ3, "checkFromToIndex", "(IIILjava/util/function/BiFunction;)I"⟩
def RL : String := "PaneSpotsLaw"
abbrev cL_clouded : ByteArray := method_3_code
def yL_clouded : MethodName := ⟨RL, "clouded", "(LPaneSpots;II[J)I"⟩
abbrev cL_law : ByteArray := code
def yL_law : MethodName := ⟨RL, "law", "([I)Z"⟩
abbrev vwCl : List vw_C := [(RX0, TX0, 13), (RX1, TX1, 4), (RX2, TX2, 6), (RX3, TX3, 6), (RX4, TX4, 4), (RX5, TX5, 5), (RX6, TX6, 5), (RX7, TX7, 7), (RX8, TX8, 4), (RX9, TX9, 3), (RX10, TX10, 4), (RX11, TX11, 10), (RX12, TX12, 35)]
